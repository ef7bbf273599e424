/-! ===== short forms of the rules for printed text; the objects' wiring ===== -/
/-- the pointers that stay -/
def WP (P : Ptr) : Prop := ∀ a k : Nat, SP a k ≠ 0 → P a (k : Int) = SP a k
theorem wp {P : Ptr} {a k v : Nat} {z : Int} (hW : WP P) (h : SP a k = v) (hz : ((k : Nat) : Int) = z) (hv : v ≠ 0) : P a z = v := by
  subst hz
  rw [hW a k (by rw [h]; exact hv), h]
section SHORT
variable {G : HX} {Y : MI} {d kc ks pc : Nat} {lv : LV} {st : List AV} {n : Nat} {I : Mem} {P : Ptr} {Q : QT}
theorem y_ic {x : Int} (hd : decode Y.2.1 pc = .ok (.iconst x, 1)) (hr : rng x) (k : V G Y d kc ks (pc + 1) lv (.inl x :: st) n I P Q) : V G Y d kc ks pc lv st n I P Q := x_iconst hr hd k
theorem y_bi {x : Int} (hd : decode Y.2.1 pc = .ok (.bipush x, 2)) (hr : -128 ≤ x ∧ x < 128) (k : V G Y d kc ks (pc + 2) lv (.inl x :: st) n I P Q) : V G Y d kc ks pc lv st n I P Q := x_bipush hr hd k
theorem y_si {x : Int} (hd : decode Y.2.1 pc = .ok (.sipush x, 3)) (hr : -32768 ≤ x ∧ x < 32768) (k : V G Y d kc ks (pc + 3) lv (.inl x :: st) n I P Q) : V G Y d kc ks pc lv st n I P Q := x_sipush hr hd k
theorem y_al {x i : Nat} (hd : decode Y.2.1 pc = .ok (.aload i, 2)) (hx : x ≠ 0) (hl : lk lv i = some (.inr (.inl x))) (k : V G Y d kc ks (pc + 2) lv (.inr (.inl x) :: st) n I P Q) : V G Y d kc ks pc lv st n I P Q := x_aload hx hd hl k
theorem y_aln {x i : Nat} {j : Fin 4} (hd : decode Y.2.1 pc = .ok (.aload_n j, 1)) (hx : x ≠ 0) (hi : (j : Nat) = i) (hl : lk lv i = some (.inr (.inl x))) (k : V G Y d kc ks (pc + 1) lv (.inr (.inl x) :: st) n I P Q) : V G Y d kc ks pc lv st n I P Q := x_aload_n hx hd hi hl k
theorem y_as {x i : Nat} (hd : decode Y.2.1 pc = .ok (.astore i, 2)) (hx : x ≠ 0) (hno : noL lv = true) (hn : i < Y.2.2.1) (k : V G Y d kc ks (pc + 2) (stL lv i (.inr (.inl x))) st n I P Q) : V G Y d kc ks pc lv (.inr (.inl x) :: st) n I P Q := x_astore hx hd hno hn k
theorem y_asn {x i : Nat} {j : Fin 4} (hd : decode Y.2.1 pc = .ok (.astore_n j, 1)) (hx : x ≠ 0) (hi : (j : Nat) = i) (hno : noL lv = true) (hn : i < Y.2.2.1) (k : V G Y d kc ks (pc + 1) (stL lv i (.inr (.inl x))) st n I P Q) : V G Y d kc ks pc lv (.inr (.inl x) :: st) n I P Q := x_astore_n hx hd hi hno hn k
theorem y_geti {z : Int} {idx ci k a : Nat} (hd : decode Y.2.1 pc = .ok (.getfield idx, 3)) (hf : FR Y.1.cls idx ci k) (hc : CF ci) (hA : AT n a ci) (ht : isIT (fTy ci k) = true) (hz : ((k : Nat) : Int) = z) (kk : V G Y d kc ks (pc + 3) lv (.inl (I a z) :: st) n I P Q) : V G Y d kc ks pc lv (.inr (.inl a) :: st) n I P Q := by
  subst hz; exact x_geti hd hf hc hA ht kk
theorem y_getl {z : Int} {idx ci k a : Nat} (hd : decode Y.2.1 pc = .ok (.getfield idx, 3)) (hf : FR Y.1.cls idx ci k) (hc : CF ci) (hA : AT n a ci) (ht : fTy ci k = .long) (hz : ((k : Nat) : Int) = z) (kk : V G Y d kc ks (pc + 3) lv (.inr (.inr (I a z)) :: st) n I P Q) : V G Y d kc ks pc lv (.inr (.inl a) :: st) n I P Q := by
  subst hz; exact x_getl hd hf hc hA ht kk
theorem y_getp {z : Int} {idx ci k a v : Nat} (hd : decode Y.2.1 pc = .ok (.getfield idx, 3)) (hf : FR Y.1.cls idx ci k) (hc : CF ci) (hA : AT n a ci) (ht : isRT (fTy ci k) = true) (hz : ((k : Nat) : Int) = z) (hp : P a z = v) (kk : V G Y d kc ks (pc + 3) lv (.inr (.inl v) :: st) n I P Q) : V G Y d kc ks pc lv (.inr (.inl a) :: st) n I P Q := by
  subst hz; exact x_getp hd hf hc hA hp ht kk
theorem y_puti {z : Int} {idx ci k a : Nat} {x : Int} (hd : decode Y.2.1 pc = .ok (.putfield idx, 3)) (hf : FR Y.1.cls idx ci k) (hc : CF ci) (hA : AT n a ci) (ht : fTy ci k = .int) (hfin : ((cT ci).2.1 k).2.2.2 = false) (hz : ((k : Nat) : Int) = z) (kk : V G Y d kc ks (pc + 3) lv st n (uI I a z x) P Q) : V G Y d kc ks pc lv (.inl x :: .inr (.inl a) :: st) n I P Q := by
  subst hz; exact x_puti hd hf hc hA ht hfin kk
theorem y_putz {z : Int} {idx ci k a : Nat} {x : Int} (hd : decode Y.2.1 pc = .ok (.putfield idx, 3)) (hf : FR Y.1.cls idx ci k) (hc : CF ci) (hA : AT n a ci) (ht : fTy ci k = .boolean) (hfin : ((cT ci).2.1 k).2.2.2 = false) (hz : ((k : Nat) : Int) = z) (hx : x = 0 ∨ x = 1) (kk : V G Y d kc ks (pc + 3) lv st n (uI I a z x) P Q) : V G Y d kc ks pc lv (.inl x :: .inr (.inl a) :: st) n I P Q := by
  subst hz; exact x_putz hd hf hc hA hx ht hfin kk
theorem y_putl {z : Int} {idx ci k a : Nat} {x : Int} (hd : decode Y.2.1 pc = .ok (.putfield idx, 3)) (hf : FR Y.1.cls idx ci k) (hc : CF ci) (hA : AT n a ci) (ht : fTy ci k = .long) (hfin : ((cT ci).2.1 k).2.2.2 = false) (hz : ((k : Nat) : Int) = z) (kk : V G Y d kc ks (pc + 3) lv st n (uI I a z x) P Q) : V G Y d kc ks pc lv (.inr (.inr x) :: .inr (.inl a) :: st) n I P Q := by
  subst hz; exact x_putl hd hf hc hA ht hfin kk
theorem y_putp {z : Int} {idx ci k a v : Nat} (hd : decode Y.2.1 pc = .ok (.putfield idx, 3)) (hf : FR Y.1.cls idx ci k) (hc : CF ci) (hA : AT n a ci) (ht : isRT (fTy ci k) = true) (hfin : ((cT ci).2.1 k).2.2.2 = false) (hz : ((k : Nat) : Int) = z) (kk : V G Y d kc ks (pc + 3) lv st n I (uP P a z v) Q) : V G Y d kc ks pc lv (.inr (.inl v) :: .inr (.inl a) :: st) n I P Q := by
  subst hz; exact x_putp hd hf hc hA ht hfin kk
theorem y_putpF {z : Int} {idx ci k a v : Nat} (hd : decode Y.2.1 pc = .ok (.putfield idx, 3)) (hf : FR Y.1.cls idx ci k) (hc : CF ci) (hA : AT n a ci) (ht : isRT (fTy ci k) = true) (hfin : ((cT ci).2.1 k).2.2.2 = true ∧ Y.1.name = "<init>" ∧ ((cT ci).2.1 k).1 = Y.1.cls) (hz : ((k : Nat) : Int) = z) (kk : V G Y d kc ks (pc + 3) lv st n I (uP P a z v) Q) : V G Y d kc ks pc lv (.inr (.inl v) :: .inr (.inl a) :: st) n I P Q := by
  subst hz; exact x_putpF hd hf hc hA ht hfin kk
/-- an int out of the class's pool -/
theorem y_ldc {idx : Nat} {w : Int32} {x : Int} (hd : decode Y.2.1 pc = .ok (.ldc idx, 2)) (hc : Cond.constant Y.1.cls idx w ∈ TW) (hw : w = oI x) (hr : rng x) (k : V G Y d kc ks (pc + 2) lv (.inl x :: st) n I P Q) : V G Y d kc ks pc lv st n I P Q := by
  intro p e R s m args below meth c H locs cells slots mc ms ls h
  subst hw
  refine lv_ldc h.1.1 h.1.2.1 h.1.2.2.2.2.2.1 (h.1.2.2.2.2.1 _ hc) hd ?_
  exact k p e R s m args below meth c H locs cells slots mc ms ls (h.st1 (ok_c (v := .inl x) hr h.2.2.2.1))
theorem y_ldc2 {idx : Nat} {w : Int64} {x : Int} (hd : decode Y.2.1 pc = .ok (.ldc2_w idx, 3)) (hc : Cond.constantLong Y.1.cls idx w ∈ TW) (hw : w = oL x) (hr : rng64 x) (k : V G Y d kc ks (pc + 3) lv (.inr (.inr x) :: st) n I P Q) : V G Y d kc ks pc lv st n I P Q := by
  intro p e R s m args below meth c H locs cells slots mc ms ls h
  subst hw
  refine lv_ldc2 h.1.1 h.1.2.1 h.1.2.2.2.2.2.1 (h.1.2.2.2.2.1 _ hc) hd ?_
  exact k p e R s m args below meth c H locs cells slots mc ms ls (h.st1 (ok_c (v := .inr (.inr x)) hr h.2.2.2.1))
theorem y_max {x y : Int} {idx : Nat} (hd : decode Y.2.1 pc = .ok (.invokestatic idx, 3)) (hl : Cond.methodLink Y.1.cls idx Lib.Math.max.name ∈ TW) (h1 : 1 ≤ d) (hst : catA st ≤ 8) (k : V G Y d kc ks (pc + 3) lv (.inl (max x y) :: st) n I P Q) : V G Y d kc ks pc lv (.inl y :: .inl x :: st) n I P Q := by
  intro p e R s m args below meth c H locs cells slots mc ms ls h
  obtain ⟨hk, hb, hL, hS, hR, hSS, hbs⟩ := id h
  have ry : rng y := ok_h hS
  have rx : rng x := ok_h (ok_t hS)
  have hts := hk.2.2.2.2.1
  have e9 : (if oI x < oI y then oI y else oI x) = oI (max x y) := by
    rw [Int.max_def]
    by_cases q : x < y
    · rw [if_pos ((oI_lt rx ry).mpr q), if_pos (by omega)]
    · rw [if_neg (fun z => q ((oI_lt rx ry).mp z))]
      by_cases q2 : x ≤ y
      · rw [if_pos q2, show x = y by omega]
      · rw [if_neg q2]
  refine va_mmax hk.1 hk.2.1 (hk.2.2.2.1.trans hL.sz.symm) hk.2.2.2.2.2.1 (hts _ hl) (hts _ jm_max_stat) (hts _ ini_java_lang_Math) (hts _ jm_max_code) (Nat.le_trans h1 hk.2.2.2.2.2.2.2.2.2.1) (Nat.le_trans (by rw [catA_sum]; omega : _ ≤ 80 * d) hk.2.2.2.2.2.2.2.2.2.2.1) (by omega) (by omega) hd ?_
  rw [e9]
  exact k p e R s m args below meth c H locs cells slots mc ms ls (h.st1 (ok_c (v := .inl (max x y)) (by rw [Int.max_def]; split; exact ry; exact rx) (ok_t (ok_t hS))))
theorem y_min {x y : Int} {idx : Nat} (hd : decode Y.2.1 pc = .ok (.invokestatic idx, 3)) (hl : Cond.methodLink Y.1.cls idx Lib.Math.min.name ∈ TW) (h1 : 1 ≤ d) (hst : catA st ≤ 8) (k : V G Y d kc ks (pc + 3) lv (.inl (min x y) :: st) n I P Q) : V G Y d kc ks pc lv (.inl y :: .inl x :: st) n I P Q := by
  intro p e R s m args below meth c H locs cells slots mc ms ls h
  obtain ⟨hk, hb, hL, hS, hR, hSS, hbs⟩ := id h
  have ry : rng y := ok_h hS
  have rx : rng x := ok_h (ok_t hS)
  have hts := hk.2.2.2.2.1
  have e9 : (if oI y < oI x then oI y else oI x) = oI (min x y) := by
    rw [Int.min_def]
    by_cases q : y < x
    · rw [if_pos ((oI_lt ry rx).mpr q), if_neg (by omega)]
    · rw [if_neg (fun z => q ((oI_lt ry rx).mp z)), if_pos (by omega)]
  refine va_mmin hk.1 hk.2.1 (hk.2.2.2.1.trans hL.sz.symm) hk.2.2.2.2.2.1 (hts _ hl) (hts _ jm_min_stat) (hts _ ini_java_lang_Math) (hts _ jm_min_code) (Nat.le_trans h1 hk.2.2.2.2.2.2.2.2.2.1) (Nat.le_trans (by rw [catA_sum]; omega : _ ≤ 80 * d) hk.2.2.2.2.2.2.2.2.2.2.1) (by omega) (by omega) hd ?_
  rw [e9]
  exact k p e R s m args below meth c H locs cells slots mc ms ls (h.st1 (ok_c (v := .inl (min x y)) (by rw [Int.min_def]; split; exact rx; exact ry) (ok_t (ok_t hS))))
end SHORT
theorem at1 : AT NO 1 11 := ⟨by rfl, by decide, by decide⟩
theorem ar2 : AR NO 2 22 700 := ⟨by rfl, by decide, by decide⟩
theorem at3 : AT NO 3 10 := ⟨by rfl, by decide, by decide⟩
theorem ar4 : AR NO 4 20 48 := ⟨by rfl, by decide, by decide⟩
theorem ar5 : AR NO 5 20 48 := ⟨by rfl, by decide, by decide⟩
theorem ar6 : AR NO 6 20 6 := ⟨by rfl, by decide, by decide⟩
theorem ar7 : AR NO 7 20 6 := ⟨by rfl, by decide, by decide⟩
theorem ar8 : AR NO 8 20 36 := ⟨by rfl, by decide, by decide⟩
theorem ar9 : AR NO 9 20 36 := ⟨by rfl, by decide, by decide⟩
theorem ar10 : AR NO 10 20 36 := ⟨by rfl, by decide, by decide⟩
theorem ar11 : AR NO 11 20 4 := ⟨by rfl, by decide, by decide⟩
theorem ar12 : AR NO 12 20 4 := ⟨by rfl, by decide, by decide⟩
theorem ar13 : AR NO 13 20 4 := ⟨by rfl, by decide, by decide⟩
theorem ar14 : AR NO 14 20 8 := ⟨by rfl, by decide, by decide⟩
theorem ar15 : AR NO 15 20 8 := ⟨by rfl, by decide, by decide⟩
theorem at16 : AT NO 16 2 := ⟨by rfl, by decide, by decide⟩
theorem ar17 : AR NO 17 20 360 := ⟨by rfl, by decide, by decide⟩
theorem ar18 : AR NO 18 20 120 := ⟨by rfl, by decide, by decide⟩
theorem ar19 : AR NO 19 20 120 := ⟨by rfl, by decide, by decide⟩
theorem ar20 : AR NO 20 20 120 := ⟨by rfl, by decide, by decide⟩
theorem ar21 : AR NO 21 23 120 := ⟨by rfl, by decide, by decide⟩
theorem at22 : AT NO 22 10 := ⟨by rfl, by decide, by decide⟩
theorem ar23 : AR NO 23 20 48 := ⟨by rfl, by decide, by decide⟩
theorem ar24 : AR NO 24 20 48 := ⟨by rfl, by decide, by decide⟩
theorem ar25 : AR NO 25 20 6 := ⟨by rfl, by decide, by decide⟩
theorem ar26 : AR NO 26 20 6 := ⟨by rfl, by decide, by decide⟩
theorem ar27 : AR NO 27 20 36 := ⟨by rfl, by decide, by decide⟩
theorem ar28 : AR NO 28 20 36 := ⟨by rfl, by decide, by decide⟩
theorem ar29 : AR NO 29 20 36 := ⟨by rfl, by decide, by decide⟩
theorem ar30 : AR NO 30 20 4 := ⟨by rfl, by decide, by decide⟩
theorem ar31 : AR NO 31 20 4 := ⟨by rfl, by decide, by decide⟩
theorem ar32 : AR NO 32 20 4 := ⟨by rfl, by decide, by decide⟩
theorem ar33 : AR NO 33 20 8 := ⟨by rfl, by decide, by decide⟩
theorem ar34 : AR NO 34 20 8 := ⟨by rfl, by decide, by decide⟩
theorem at35 : AT NO 35 2 := ⟨by rfl, by decide, by decide⟩
theorem ar36 : AR NO 36 20 360 := ⟨by rfl, by decide, by decide⟩
theorem ar37 : AR NO 37 20 120 := ⟨by rfl, by decide, by decide⟩
theorem ar38 : AR NO 38 20 120 := ⟨by rfl, by decide, by decide⟩
theorem ar39 : AR NO 39 20 120 := ⟨by rfl, by decide, by decide⟩
theorem ar40 : AR NO 40 23 120 := ⟨by rfl, by decide, by decide⟩
theorem at41 : AT NO 41 6 := ⟨by rfl, by decide, by decide⟩
theorem at42 : AT NO 42 9 := ⟨by rfl, by decide, by decide⟩
theorem ar43 : AR NO 43 20 701 := ⟨by rfl, by decide, by decide⟩
theorem ar44 : AR NO 44 20 701 := ⟨by rfl, by decide, by decide⟩
theorem ar45 : AR NO 45 20 701 := ⟨by rfl, by decide, by decide⟩
theorem at46 : AT NO 46 3 := ⟨by rfl, by decide, by decide⟩
theorem ar47 : AR NO 47 20 48 := ⟨by rfl, by decide, by decide⟩
theorem at48 : AT NO 48 3 := ⟨by rfl, by decide, by decide⟩
theorem ar49 : AR NO 49 20 48 := ⟨by rfl, by decide, by decide⟩
theorem at50 : AT NO 50 2 := ⟨by rfl, by decide, by decide⟩
theorem ar51 : AR NO 51 20 360 := ⟨by rfl, by decide, by decide⟩
theorem ar52 : AR NO 52 20 120 := ⟨by rfl, by decide, by decide⟩
theorem ar53 : AR NO 53 20 120 := ⟨by rfl, by decide, by decide⟩
theorem ar54 : AR NO 54 20 120 := ⟨by rfl, by decide, by decide⟩
theorem ar55 : AR NO 55 23 120 := ⟨by rfl, by decide, by decide⟩
theorem at56 : AT NO 56 7 := ⟨by rfl, by decide, by decide⟩
theorem at57 : AT NO 57 3 := ⟨by rfl, by decide, by decide⟩
theorem ar58 : AR NO 58 20 48 := ⟨by rfl, by decide, by decide⟩
theorem ar59 : AR NO 59 20 48000 := ⟨by rfl, by decide, by decide⟩
theorem ar60 : AR NO 60 20 1000 := ⟨by rfl, by decide, by decide⟩
theorem ar61 : AR NO 61 20 1000 := ⟨by rfl, by decide, by decide⟩
theorem ar62 : AR NO 62 20 1000 := ⟨by rfl, by decide, by decide⟩
theorem ar63 : AR NO 63 20 1024 := ⟨by rfl, by decide, by decide⟩
theorem at64 : AT NO 64 0 := ⟨by rfl, by decide, by decide⟩
theorem at65 : AT NO 65 3 := ⟨by rfl, by decide, by decide⟩
theorem ar66 : AR NO 66 20 48 := ⟨by rfl, by decide, by decide⟩
theorem ar67 : AR NO 67 24 9 := ⟨by rfl, by decide, by decide⟩
theorem ar68 : AR NO 68 20 6 := ⟨by rfl, by decide, by decide⟩
theorem ar69 : AR NO 69 20 6 := ⟨by rfl, by decide, by decide⟩
theorem ar70 : AR NO 70 20 6 := ⟨by rfl, by decide, by decide⟩
theorem ar71 : AR NO 71 20 6 := ⟨by rfl, by decide, by decide⟩
theorem ar72 : AR NO 72 20 6 := ⟨by rfl, by decide, by decide⟩
theorem ar73 : AR NO 73 20 6 := ⟨by rfl, by decide, by decide⟩
theorem ar74 : AR NO 74 20 6 := ⟨by rfl, by decide, by decide⟩
theorem ar75 : AR NO 75 20 6 := ⟨by rfl, by decide, by decide⟩
theorem ar76 : AR NO 76 20 6 := ⟨by rfl, by decide, by decide⟩
theorem at77 : AT NO 77 5 := ⟨by rfl, by decide, by decide⟩
theorem ar78 : AR NO 78 20 8 := ⟨by rfl, by decide, by decide⟩
theorem ar79 : AR NO 79 20 8 := ⟨by rfl, by decide, by decide⟩
theorem at80 : AT NO 80 8 := ⟨by rfl, by decide, by decide⟩
theorem ar81 : AR NO 81 20 48 := ⟨by rfl, by decide, by decide⟩
theorem ar82 : AR NO 82 20 8 := ⟨by rfl, by decide, by decide⟩
theorem at83 : AT NO 83 4 := ⟨by rfl, by decide, by decide⟩
theorem ar84 : AR NO 84 20 5 := ⟨by rfl, by decide, by decide⟩
theorem at85 : AT NO 85 1 := ⟨by rfl, by decide, by decide⟩
theorem ar86 : AR NO 86 20 1000 := ⟨by rfl, by decide, by decide⟩
theorem ar87 : AR NO 87 20 8 := ⟨by rfl, by decide, by decide⟩
theorem ar88 : AR NO 88 20 5 := ⟨by rfl, by decide, by decide⟩
theorem ar89 : AR NO 89 20 48 := ⟨by rfl, by decide, by decide⟩
theorem ar90 : AR NO 90 20 48 := ⟨by rfl, by decide, by decide⟩
theorem at91 : AT NO 91 12 := ⟨by rfl, by decide, by decide⟩
theorem ar92 : AR NO 92 20 48 := ⟨by rfl, by decide, by decide⟩
theorem ar93 : AR NO 93 20 6 := ⟨by rfl, by decide, by decide⟩
theorem ar94 : AR NO 94 20 6 := ⟨by rfl, by decide, by decide⟩
theorem ar95 : AR NO 95 20 108 := ⟨by rfl, by decide, by decide⟩
theorem ar96 : AR NO 96 20 12 := ⟨by rfl, by decide, by decide⟩
theorem ar97 : AR NO 97 20 16 := ⟨by rfl, by decide, by decide⟩
theorem ar98 : AR NO 98 20 48 := ⟨by rfl, by decide, by decide⟩
theorem ar99 : AR NO 99 20 3 := ⟨by rfl, by decide, by decide⟩
theorem ar100 : AR NO 100 20 700 := ⟨by rfl, by decide, by decide⟩
theorem ar101 : AR NO 101 20 48 := ⟨by rfl, by decide, by decide⟩
theorem ar102 : AR NO 102 20 6 := ⟨by rfl, by decide, by decide⟩
theorem ar103 : AR NO 103 20 6 := ⟨by rfl, by decide, by decide⟩
theorem ar104 : AR NO 104 20 108 := ⟨by rfl, by decide, by decide⟩
theorem ar105 : AR NO 105 20 12 := ⟨by rfl, by decide, by decide⟩
theorem ar106 : AR NO 106 20 16 := ⟨by rfl, by decide, by decide⟩
theorem ar107 : AR NO 107 20 48 := ⟨by rfl, by decide, by decide⟩
theorem ar108 : AR NO 108 23 48 := ⟨by rfl, by decide, by decide⟩
theorem ar109 : AR NO 109 23 48 := ⟨by rfl, by decide, by decide⟩
theorem ar110 : AR NO 110 23 6 := ⟨by rfl, by decide, by decide⟩
theorem ar111 : AR NO 111 20 3 := ⟨by rfl, by decide, by decide⟩
theorem ar112 : AR NO 112 20 48 := ⟨by rfl, by decide, by decide⟩
theorem ar113 : AR NO 113 20 48000 := ⟨by rfl, by decide, by decide⟩
theorem ar114 : AR NO 114 20 1000 := ⟨by rfl, by decide, by decide⟩
theorem ar115 : AR NO 115 20 1000 := ⟨by rfl, by decide, by decide⟩
theorem ar116 : AR NO 116 20 1000 := ⟨by rfl, by decide, by decide⟩
theorem ar117 : AR NO 117 20 1000 := ⟨by rfl, by decide, by decide⟩
theorem ar118 : AR NO 118 20 1000 := ⟨by rfl, by decide, by decide⟩
theorem ar119 : AR NO 119 20 1000 := ⟨by rfl, by decide, by decide⟩
theorem ar120 : AR NO 120 20 48 := ⟨by rfl, by decide, by decide⟩
theorem ar121 : AR NO 121 20 1000 := ⟨by rfl, by decide, by decide⟩
theorem ar122 : AR NO 122 20 1000 := ⟨by rfl, by decide, by decide⟩
theorem ar123 : AR NO 123 20 1000 := ⟨by rfl, by decide, by decide⟩
theorem ar124 : AR NO 124 20 1000 := ⟨by rfl, by decide, by decide⟩
theorem ar125 : AR NO 125 20 8 := ⟨by rfl, by decide, by decide⟩
theorem ar126 : AR NO 126 20 8 := ⟨by rfl, by decide, by decide⟩
theorem ar127 : AR NO 127 20 48 := ⟨by rfl, by decide, by decide⟩
theorem ar128 : AR NO 128 20 3 := ⟨by rfl, by decide, by decide⟩
theorem ar129 : AR NO 129 20 48 := ⟨by rfl, by decide, by decide⟩
theorem ar130 : AR NO 130 20 5 := ⟨by rfl, by decide, by decide⟩
theorem ar131 : AR NO 131 20 5 := ⟨by rfl, by decide, by decide⟩
theorem ar132 : AR NO 132 20 432 := ⟨by rfl, by decide, by decide⟩
theorem ar133 : AR NO 133 20 24 := ⟨by rfl, by decide, by decide⟩
theorem ar134 : AR NO 134 20 8 := ⟨by rfl, by decide, by decide⟩
theorem ar135 : AR NO 135 20 8 := ⟨by rfl, by decide, by decide⟩
theorem ar136 : AR NO 136 20 48 := ⟨by rfl, by decide, by decide⟩
theorem ar137 : AR NO 137 20 48 := ⟨by rfl, by decide, by decide⟩
theorem ar138 : AR NO 138 20 6 := ⟨by rfl, by decide, by decide⟩
theorem ar139 : AR NO 139 20 8 := ⟨by rfl, by decide, by decide⟩
theorem ar140 : AR NO 140 23 8 := ⟨by rfl, by decide, by decide⟩
theorem ar141 : AR NO 141 20 48 := ⟨by rfl, by decide, by decide⟩
theorem ar142 : AR NO 142 20 48 := ⟨by rfl, by decide, by decide⟩
theorem ar143 : AR NO 143 20 48 := ⟨by rfl, by decide, by decide⟩
theorem ar144 : AR NO 144 20 48 := ⟨by rfl, by decide, by decide⟩
theorem ar145 : AR NO 145 21 1 := ⟨by rfl, by decide, by decide⟩
