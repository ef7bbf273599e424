/-! ===== printed: the surroundings at the law's start ===== -/
def NL : List Cond := flatC (Cond.and given_1 narrow_1)
theorem nl_at {A : Array Value} {s : State} (hg : (Cond.and given_1 narrow_1).before A s = true) {w : Cond} (i : Nat) (h : NL[i]? = some w) : w.before A s = true := flat_of_before _ hg w (List.mem_of_getElem? h)
def tmW (i : Nat) : Term := .string RX9 (64 + 2 * i)
abbrev vlW (i : Nat) : Term := .field (tmW i) "java/lang/String" "value" "[B"
def stW : List Nat := [73, 82, 92, 99, 108, 116, 125, 132, 141, 150, 157]
theorem nxW0 : ∀ i, i < 11 → NL[stW.getD i 0]? = some (Cond.exactly (tmW i) "java/lang/String") := by decide +kernel
theorem nxW1 : ∀ i, i < 11 → NL[stW.getD i 0 + 1]? = some (Cond.eq (.field (tmW i) "java/lang/String" "coder" "B") (.int 0)) := by decide +kernel
theorem nxW2 : ∀ i, i < 11 → NL[stW.getD i 0 + 2]? = some (Cond.arrayOf (vlW i) .byte) := by decide +kernel
theorem nxW3 : ∀ i, i < 11 → NL[stW.getD i 0 + 3]? = some (Cond.eq (.length (vlW i)) (.int (Int32.ofNat (WRL.getD i 0)))) := by decide +kernel
theorem nxW4 : ∀ i, i < 11 → ∀ j, j < WRL.getD i 0 → NL[stW.getD i 0 + 4 + j]? = some (Cond.eq (.elem (vlW i) (.int (Int32.ofNat j))) (.int ((WRB.getD i []).getD j 0))) := by decide +kernel
theorem wr_2 : ∀ i, i < 11 → 1 < WRL.getD i 0 := by decide +kernel
def wr_q (i j : Nat) : Bool := (Int32.ofNat (WRL.getD i 0) == Int32.ofNat (WRL.getD j 0)) && (((WRB.getD i []).getD 0 0 == (WRB.getD j []).getD 0 0) && ((WRB.getD i []).getD 1 0 == (WRB.getD j []).getD 1 0))
theorem wr_ne : ∀ i, i < 11 → ∀ j, j < 11 → (i == j || !wr_q i j) = true := by decide +kernel
theorem len_cg {A : Array Value} {s : State} {u v : Term} (h : u.eval A s none [] s = v.eval A s none [] s) : (Term.length u).eval A s none [] s = (Term.length v).eval A s none [] s := by simp only [Term.eval, h]
theorem el_cg {A : Array Value} {s : State} {u v k : Term} (h : u.eval A s none [] s = v.eval A s none [] s) : (Term.elem u k).eval A s none [] s = (Term.elem v k).eval A s none [] s := by simp only [Term.eval, h]
theorem ref_ne {A : Array Value} {s : State} {u v : Term} {a b : Nat} (h1 : u.eval A s none [] s = some (.ref a)) (h2 : v.eval A s none [] s = some (.ref b)) (h : a ≠ b) : (Cond.not (Cond.eq u v)).before A s = true := by
  simp [Cond.before, Cond.holds, Cond.value, h1, h2, h]
theorem se_words {A : Array Value} {s : State} (hg : (Cond.and given_1 narrow_1).before A s = true) : ∃ adK adV : Nat → Nat, vk_S 11 WRL WRB adK adV (fun q => s.heap.size ≤ q) s s.heap ∧ ∀ i : Nat, i < 11 → (tmW i).eval A s none [] s = some (.ref (adK i)) := by
  refine vk_Sof (args := A) (tm := tmW) (by decide) (fun i hi => nl_at hg _ (nxW0 i hi)) (fun i hi => nl_at hg _ (nxW1 i hi)) (fun i hi => nl_at hg _ (nxW2 i hi)) (fun i hi => nl_at hg _ (nxW3 i hi)) (fun i hi j hj => nl_at hg _ (nxW4 i hi j hj)) (fun i j hi hj hij => ?_) (fun a h => Nat.not_le.mpr h)
  obtain ⟨a, c1, c2, c3, q1, -⟩ := Cond.exactly_spec (args := A) (first := s) (o := none) (s := s) (idx := []) (nl_at hg _ (nxW0 i hi))
  obtain ⟨b, d1, d2, d3, r1, -⟩ := Cond.exactly_spec (args := A) (first := s) (o := none) (s := s) (idx := []) (nl_at hg _ (nxW0 j hj))
  by_cases e : a = b
  · exfalso
    subst e
    have ef : (vlW i).eval A s none [] s = (vlW j).eval A s none [] s := (va_fe q1).trans (va_fe r1).symm
    have eL := Value.int.inj (Option.some.inj ((va_eqt (nl_at hg _ (nxW3 i hi))).symm.trans ((len_cg ef).trans (va_eqt (nl_at hg _ (nxW3 j hj))))))
    have e0 := Value.int.inj (Option.some.inj ((va_eqt (nl_at hg _ (nxW4 i hi 0 (Nat.lt_of_succ_lt (wr_2 i hi))))).symm.trans ((el_cg ef).trans (va_eqt (nl_at hg _ (nxW4 j hj 0 (Nat.lt_of_succ_lt (wr_2 j hj))))))))
    have e1 := Value.int.inj (Option.some.inj ((va_eqt (nl_at hg _ (nxW4 i hi 1 (wr_2 i hi)))).symm.trans ((el_cg ef).trans (va_eqt (nl_at hg _ (nxW4 j hj 1 (wr_2 j hj)))))))
    have hz := wr_ne i hi j hj
    have hw : wr_q i j = true := by
      unfold wr_q
      rw [eL, e0, e1]
      simp
    rw [hw, beq_false_of_ne hij] at hz
    exact absurd hz (by decide)
  · exact Or.inl (ref_ne q1 r1 e)
theorem se_str {A : Array Value} {s : State} {own tx : String} {k : Nat} (h1 : (Cond.stringRef own k tx).before A s = true) (h2 : (Cond.exactly (.string own k) "java/lang/String").before A s = true) : ∃ a, vk_R own k tx a s := by
  obtain ⟨a, c1, c2, c3, q1, -⟩ := Cond.exactly_spec (args := A) (first := s) (o := none) (s := s) (idx := []) h2
  exact ⟨a, vk_R.of h1 q1⟩
theorem se_ar {A : Array Value} {s : State} {ty : FieldType} (h : (Cond.arrayClass ty).before A s = true) : ∃ c : ClassId, ArrOfT s c ty ∧ s.vm.findClass ("[" ++ ty.toString) = some c := by
  obtain ⟨c, k, comp, h1, h2, h3⟩ := Cond.arrayClass_spec (args := A) (first := s) (o := none) (s := s) (idx := []) h
  exact ⟨c, fun n z => ⟨fun k h => (by cases h), k, h2, comp, h3⟩, h1⟩
theorem se_kn {A : Array Value} {s : State} (hts : ∀ w ∈ TW, w.before A s = true) : ∃ D : va_G, ∀ (c : Nat) (q : vw_C), vwCl[c]? = some q → u_Kn s q.1 q.2.1 q.2.2 (D.1 c) (D.2 c) := by
  have h : ∀ c : Nat, ∃ z : ClassId × (Nat → Nat), ∀ q : vw_C, vwCl[c]? = some q → u_Kn s q.1 q.2.1 q.2.2 z.1 z.2 := by
    intro c
    match c with
    | 0 =>
      obtain ⟨cC, iS, h⟩ := u_known hts uwX0 (hts _ inX0)
      exact ⟨(cC, iS), fun q hq => (by obtain rfl : ((RX0, TX0, 4) : vw_C) = q := Option.some.inj hq; exact h)⟩
    | 1 =>
      obtain ⟨cC, iS, h⟩ := u_known hts uwX1 (hts _ inX1)
      exact ⟨(cC, iS), fun q hq => (by obtain rfl : ((RX1, TX1, 10) : vw_C) = q := Option.some.inj hq; exact h)⟩
    | 2 =>
      obtain ⟨cC, iS, h⟩ := u_known hts uwX2 (hts _ inX2)
      exact ⟨(cC, iS), fun q hq => (by obtain rfl : ((RX2, TX2, 9) : vw_C) = q := Option.some.inj hq; exact h)⟩
    | 3 =>
      obtain ⟨cC, iS, h⟩ := u_known hts uwX3 (hts _ inX3)
      exact ⟨(cC, iS), fun q hq => (by obtain rfl : ((RX3, TX3, 8) : vw_C) = q := Option.some.inj hq; exact h)⟩
    | 4 =>
      obtain ⟨cC, iS, h⟩ := u_known hts uwX4 (hts _ inX4)
      exact ⟨(cC, iS), fun q hq => (by obtain rfl : ((RX4, TX4, 2) : vw_C) = q := Option.some.inj hq; exact h)⟩
    | 5 =>
      obtain ⟨cC, iS, h⟩ := u_known hts uwX5 (hts _ inX5)
      exact ⟨(cC, iS), fun q hq => (by obtain rfl : ((RX5, TX5, 4) : vw_C) = q := Option.some.inj hq; exact h)⟩
    | 6 =>
      obtain ⟨cC, iS, h⟩ := u_known hts uwX6 (hts _ inX6)
      exact ⟨(cC, iS), fun q hq => (by obtain rfl : ((RX6, TX6, 11) : vw_C) = q := Option.some.inj hq; exact h)⟩
    | 7 =>
      obtain ⟨cC, iS, h⟩ := u_known hts uwX7 (hts _ inX7)
      exact ⟨(cC, iS), fun q hq => (by obtain rfl : ((RX7, TX7, 12) : vw_C) = q := Option.some.inj hq; exact h)⟩
    | 8 =>
      obtain ⟨cC, iS, h⟩ := u_known hts uwX8 (hts _ inX8)
      exact ⟨(cC, iS), fun q hq => (by obtain rfl : ((RX8, TX8, 4) : vw_C) = q := Option.some.inj hq; exact h)⟩
    | 9 =>
      obtain ⟨cC, iS, h⟩ := u_known hts uwX9 (hts _ inX9)
      exact ⟨(cC, iS), fun q hq => (by obtain rfl : ((RX9, TX9, 7) : vw_C) = q := Option.some.inj hq; exact h)⟩
    | 10 =>
      obtain ⟨cC, iS, h⟩ := u_known hts uwX10 (hts _ inX10)
      exact ⟨(cC, iS), fun q hq => (by obtain rfl : ((RX10, TX10, 17) : vw_C) = q := Option.some.inj hq; exact h)⟩
    | 11 =>
      obtain ⟨cC, iS, h⟩ := u_known hts uwX11 (hts _ inX11)
      exact ⟨(cC, iS), fun q hq => (by obtain rfl : ((RX11, TX11, 18) : vw_C) = q := Option.some.inj hq; exact h)⟩
    | 12 =>
      obtain ⟨cC, iS, h⟩ := u_known hts uwX12 (hts _ inX12)
      exact ⟨(cC, iS), fun q hq => (by obtain rfl : ((RX12, TX12, 94) : vw_C) = q := Option.some.inj hq; exact h)⟩
    | c + 13 => exact ⟨(0, fun _ => 0), fun q hq => absurd (hq.symm.trans (List.getElem?_eq_none (by show 13 ≤ c + 13; omega))) (by simp)⟩
  obtain ⟨f, hf⟩ := Classical.axiomOfChoice h
  exact ⟨(fun c => (f c).1, fun c => (f c).2), fun c q hq => hf c q hq⟩
theorem se_msg {A : Array Value} {s : State} (hts : ∀ w ∈ lw_tbl, w.before A s = true) (hg : (Cond.and given_1 narrow_1).before A s = true) : ∀ q ∈ MSG, ∃ sa, vk_R RX11 q.1 q.2 sa s := by
  unfold MSG
  refine List.forall_mem_cons.mpr ⟨se_str (hts _ (tv4 73 (by decide +kernel))) (nl_at hg 39 (by decide +kernel)), ?_⟩
  refine List.forall_mem_cons.mpr ⟨se_str (hts _ (tv5 38 (by decide +kernel))) (nl_at hg 165 (by decide +kernel)), ?_⟩
  refine List.forall_mem_cons.mpr ⟨se_str (hts _ (tv5 64 (by decide +kernel))) (nl_at hg 182 (by decide +kernel)), ?_⟩
  refine List.forall_mem_cons.mpr ⟨se_str (hts _ (tv5 79 (by decide +kernel))) (nl_at hg 208 (by decide +kernel)), ?_⟩
  refine List.forall_mem_cons.mpr ⟨se_str (hts _ (tv5 88 (by decide +kernel))) (nl_at hg 226 (by decide +kernel)), ?_⟩
  refine List.forall_mem_cons.mpr ⟨se_str (hts _ (tv5 96 (by decide +kernel))) (nl_at hg 242 (by decide +kernel)), ?_⟩
  refine List.forall_mem_cons.mpr ⟨se_str (hts _ (tv5 97 (by decide +kernel))) (nl_at hg 261 (by decide +kernel)), ?_⟩
  refine List.forall_mem_cons.mpr ⟨se_str (hts _ (tv5 113 (by decide +kernel))) (nl_at hg 303 (by decide +kernel)), ?_⟩
  refine List.forall_mem_cons.mpr ⟨se_str (hts _ (tv5 118 (by decide +kernel))) (nl_at hg 338 (by decide +kernel)), ?_⟩
  refine List.forall_mem_cons.mpr ⟨se_str (hts _ (tv5 127 (by decide +kernel))) (nl_at hg 365 (by decide +kernel)), ?_⟩
  refine List.forall_mem_cons.mpr ⟨se_str (hts _ (tv5 135 (by decide +kernel))) (nl_at hg 382 (by decide +kernel)), ?_⟩
  refine List.forall_mem_cons.mpr ⟨se_str (hts _ (tv5 156 (by decide +kernel))) (nl_at hg 407 (by decide +kernel)), ?_⟩
  refine List.forall_mem_cons.mpr ⟨se_str (hts _ (tv5 201 (by decide +kernel))) (nl_at hg 441 (by decide +kernel)), ?_⟩
  refine List.forall_mem_cons.mpr ⟨se_str (hts _ (tv5 209 (by decide +kernel))) (nl_at hg 476 (by decide +kernel)), ?_⟩
  refine List.forall_mem_cons.mpr ⟨se_str (hts _ (tv5 218 (by decide +kernel))) (nl_at hg 498 (by decide +kernel)), ?_⟩
  refine List.forall_mem_cons.mpr ⟨se_str (hts _ (tv5 227 (by decide +kernel))) (nl_at hg 520 (by decide +kernel)), ?_⟩
  refine List.forall_mem_cons.mpr ⟨se_str (hts _ (tv5 235 (by decide +kernel))) (nl_at hg 547 (by decide +kernel)), ?_⟩
  refine List.forall_mem_cons.mpr ⟨se_str (hts _ (tv6 44 (by decide +kernel))) (nl_at hg 578 (by decide +kernel)), ?_⟩
  refine List.forall_mem_cons.mpr ⟨se_str (hts _ (tv6 45 (by decide +kernel))) (nl_at hg 614 (by decide +kernel)), ?_⟩
  refine List.forall_mem_cons.mpr ⟨se_str (hts _ (tv6 57 (by decide +kernel))) (nl_at hg 645 (by decide +kernel)), ?_⟩
  refine List.forall_mem_cons.mpr ⟨se_str (hts _ (tv6 95 (by decide +kernel))) (nl_at hg 689 (by decide +kernel)), ?_⟩
  refine List.forall_mem_cons.mpr ⟨se_str (hts _ (tv6 103 (by decide +kernel))) (nl_at hg 736 (by decide +kernel)), ?_⟩
  refine List.forall_mem_cons.mpr ⟨se_str (hts _ (tv6 111 (by decide +kernel))) (nl_at hg 769 (by decide +kernel)), ?_⟩
  exact fun _ h => absurd h List.not_mem_nil
theorem se_wrd : ∀ i, i < 11 → tables_1_4[131 + i]? = some (Cond.stringRef RX9 (64 + 2 * i) (WRD.getD i "")) := by decide +kernel
def acF (c0 c1 c2 c3 c4 : ClassId) : Nat → ClassId := fun k => match k with
  | 0 => c0
  | 1 => c1
  | 2 => c2
  | 3 => c3
  | _ => c4
def spF (b y t : Nat) (adK adV : Nat → Nat) : Nat → Nat := fun k => if k = 0 then b else if k = 41 then y else if k = 42 then t else if k < 21 then adK (k - 1) else adV (k - 21)
theorem spF_k {b y t : Nat} {adK adV : Nat → Nat} {i : Nat} (h : i < 11) : spF b y t adK adV (1 + i) = adK i := by
  unfold spF
  rw [if_neg (by omega), if_neg (by omega), if_neg (by omega), if_pos (by omega), show 1 + i - 1 = i by omega]
theorem spF_v {b y t : Nat} {adK adV : Nat → Nat} {i : Nat} (h : i < 11) : spF b y t adK adV (21 + i) = adV i := by
  unfold spF
  rw [if_neg (by omega), if_neg (by omega), if_neg (by omega), if_neg (by omega), show 21 + i - 21 = i by omega]
theorem vk_S_cg {N : Nat} {len : List Nat} {byt : List (List Int32)} {k1 v1 k2 v2 : Nat → Nat} {A : Nat → Prop} {U : State} {H : Heap} (h : vk_S N len byt k1 v1 A U H) (h1 : ∀ i, i < N → k2 i = k1 i) (h2 : ∀ i, i < N → v2 i = v1 i) : vk_S N len byt k2 v2 A U H :=
  ⟨fun i hi => (by rw [h1 i hi, h2 i hi]; exact h.1 i hi), fun i j hi hj e => h.2 i j hi hj (by rw [← h1 i hi, ← h1 j hj]; exact e)⟩
theorem se_start {l : Launch} (hl : l.stackTraces = false) {A : Array Value} {s : State} {b L : Nat} {xs : Nat → Int32} (hts : ∀ w ∈ lw_tbl, w.before A s = true) (hg : (Cond.and given_1 narrow_1).before A s = true) (hX : va_X b L xs s s.heap) (hb : b < s.heap.size) : ∃ (D : va_G) (ac : Nat → ClassId) (sp : Nat → Nat), sp 0 = b ∧ SE (l, D, ac, s.heap.size, sp) (L, xs) s s.heap := by
  have hA : ∀ a : Nat, a < s.heap.size → ¬ s.heap.size ≤ a := fun a h => Nat.not_le.mpr h
  have hT : ∀ w ∈ TW, w.before A s = true := fun w hw => hts w (List.mem_filter.mp hw).1
  obtain ⟨D, hD⟩ := se_kn hT
  obtain ⟨c0, a0, f0⟩ := se_ar (hT _ ak_int)
  obtain ⟨c1, a1, f1⟩ := se_ar (hT _ ak_long)
  obtain ⟨c2, a2, f2⟩ := se_ar (hT _ ak_byte)
  obtain ⟨c3, a3, f3⟩ := se_ar (hT _ ak_boolean)
  obtain ⟨comp, c4, k4, -, -, q3, q4, f4⟩ := arrayOverA_spec (hts (.arrayOver (.array .int)) (tv2 136 (by decide +kernel)))
  have a4 : ArrOfT s c4 (.array .int) := fun n z => ⟨fun k h => (by cases h), k4, q3, comp, q4⟩
  obtain ⟨adK, adV, hS, hE⟩ := se_words hg
  obtain ⟨y, t, hP⟩ : ∃ y t : Nat, ∀ G : CX, G.sp 41 = y → G.sp 42 = t → va_Z "jdk/internal/util/Preconditions" "SIOOBE_FORMATTER" "Ljava/util/function/BiFunction;" (rvl G (G.sp 41)) (fun q => s.heap.size ≤ q) s s.heap := by
    rcases va_Zqof (args := A) (s := s) (A := fun q => s.heap.size ≤ q) (hts (.laysStatic "jdk/internal/util/Preconditions" "SIOOBE_FORMATTER" "Ljava/util/function/BiFunction;") (tv4 167 (by decide +kernel))) (hT _ ini_jdk_internal_util_Preconditions) (nl_at hg 7 (by decide +kernel)) hA with h | ⟨t, h⟩
    · exact ⟨0, 0, fun G e1 _ => (by rw [e1, show rvl G 0 = .null from if_pos rfl]; exact h)⟩
    · exact ⟨1042, t, fun G e1 e2 => (by rw [e1, show rvl G 1042 = .ref t from (rvl_pos (by decide)).trans (by unfold adr; rw [if_neg (by decide)]; exact congrArg Value.ref e2)]; exact h)⟩
  refine ⟨D, acF c0 c1 c2 c3 c4, spF b y t adK adV, rfl, hl, ⟨hD, fun k q hk => ?_⟩, fun w hw hn => ?_, ?_, ?_, se_msg hts hg, fun j hj => ?_, ?_, ?_, ?_, ?_, hX, hb⟩
  · match k with
    | 0 => obtain rfl : (c0, FieldType.int) = q := Option.some.inj hk; exact ⟨a0, f0⟩
    | 1 => obtain rfl : (c1, FieldType.long) = q := Option.some.inj hk; exact ⟨a1, f1⟩
    | 2 => obtain rfl : (c2, FieldType.byte) = q := Option.some.inj hk; exact ⟨a2, f2⟩
    | 3 => obtain rfl : (c3, FieldType.boolean) = q := Option.some.inj hk; exact ⟨a3, f3⟩
    | 4 => obtain rfl : (c4, FieldType.array .int) = q := Option.some.inj hk; exact ⟨a4, f4⟩
    | k + 5 => exact absurd (hk.symm.trans (List.getElem?_eq_none (by show 5 ≤ k + 5; omega))) (by simp)
  · have hx := hts w hw
    cases w <;> first | (cases hn; done) | exact va_Nw.of rfl hx | exact over_vm rfl hx
  · exact vx_Zqof (args := A) (hts _ (tv4 60 (by decide +kernel))) (hT _ ini_java_lang_Throwable) (nl_at hg 4 (by decide +kernel)) hA
  · exact vx_Zqof (args := A) (hts _ (tv4 62 (by decide +kernel))) (hT _ ini_java_lang_Throwable) (nl_at hg 5 (by decide +kernel)) hA
  · show vk_R RX9 (64 + 2 * j) (WRD.getD j "") (spF b y t adK adV (1 + j)) s
    rw [spF_k hj]
    exact vk_R.of (hts _ (tv4 _ (se_wrd j hj))) (hE j hj)
  · exact vk_S_cg hS (fun i hi => spF_k hi) (fun i hi => spF_v hi)
  · exact va_Zof (args := A) (hts _ (tv4 151 (by decide +kernel))) (hT _ ini_java_lang_String) (va_eqt (nl_at hg 6 (by decide +kernel))) hA
  · exact hP (l, D, acF c0 c1 c2 c3 c4, s.heap.size, spF b y t adK adV) rfl rfl
  · exact va_Nc.of (args := A) (nl_at hg 38 (by decide +kernel))
