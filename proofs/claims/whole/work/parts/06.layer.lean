/-! ===== the abstract machine over the kit's rows: words, numbers, values, memory ===== -/
def TW : List Cond := lw_tbl.filter goodWord
theorem tw_mem {w : Cond} (h : w ∈ lw_tbl) (g : goodWord w = true) : w ∈ TW := List.mem_filter.mpr ⟨h, g⟩
theorem tw_at {w : Cond} (i : Nat) (h : lw_tbl[i]? = some w) (g : goodWord w = true) : w ∈ TW := tw_mem (List.mem_of_getElem? h) g
theorem tw_good {w : Cond} (h : w ∈ TW) : goodWord w = true := (List.mem_filter.mp h).2
theorem tw_goodIn {ws big : List Cond} (hb : ∀ w ∈ TW, w ∈ big) (h : ∀ w ∈ ws, w ∈ TW) : GoodIn big ws := fun w hw => ⟨hb w (h w hw), good_of_word (tw_good (h w hw))⟩
-- numbers
def rng (x : Int) : Prop := -2147483648 ≤ x ∧ x < 2147483648
def rng64 (x : Int) : Prop := -9223372036854775808 ≤ x ∧ x < 9223372036854775808
abbrev oI (x : Int) : Int32 := Int32.ofInt x
theorem oI_toInt {x : Int} (h : rng x) : (oI x).toInt = x := Int32.toInt_ofInt_of_le h.1 h.2
theorem oI_rng (v : Int32) : rng v.toInt := ⟨v.le_toInt, v.toInt_lt⟩
theorem oI_lt {x y : Int} (hx : rng x) (hy : rng y) : oI x < oI y ↔ x < y := by rw [Int32.lt_iff_toInt_lt, oI_toInt hx, oI_toInt hy]
theorem oI_le {x y : Int} (hx : rng x) (hy : rng y) : oI x ≤ oI y ↔ x ≤ y := by rw [Int32.le_iff_toInt_le, oI_toInt hx, oI_toInt hy]
theorem oI_eq {x y : Int} (hx : rng x) (hy : rng y) : oI x = oI y ↔ x = y := by rw [← Int32.toInt_inj, oI_toInt hx, oI_toInt hy]
theorem oI_0 : oI 0 = 0 := rfl
theorem rng_0 : rng 0 := ⟨by decide, by decide⟩
theorem oI_nat (n : Nat) : oI (n : Int) = Int32.ofNat n := Int32.ofInt_eq_ofNat
theorem oI_clamp {x : Int} (h : rng x) : (oI x).toNatClampNeg = x.toNat := by
  show (oI x).toInt.toNat = _
  rw [oI_toInt h]
theorem oI_in {x : Int} {N : Nat} (h : 0 ≤ x ∧ x < (N : Int)) (hr : rng x) : vp_in (oI x) N := by
  rw [vp_in_iff, oI_toInt hr]
  exact h
/-- an int's wrap-around -/
def wr (x : Int) : Int := (oI x).toInt
theorem wr_rng (x : Int) : rng (wr x) := oI_rng _
theorem wr_oI (x : Int) : oI (wr x) = oI x := Int32.ofInt_toInt _
theorem wr_eq {x : Int} (h : rng x) : wr x = x := oI_toInt h
abbrev oL (x : Int) : Int64 := Int64.ofInt x
theorem oL_toInt {x : Int} (h : rng64 x) : (oL x).toInt = x := Int64.toInt_ofInt_of_le h.1 h.2
theorem oL_inj {x y : Int} (hx : rng64 x) (hy : rng64 y) : oL x = oL y ↔ x = y := by rw [← Int64.toInt_inj, oL_toInt hx, oL_toInt hy]
theorem oL_lt {x y : Int} (hx : rng64 x) (hy : rng64 y) : oL x < oL y ↔ x < y := by rw [Int64.lt_iff_toInt_lt, oL_toInt hx, oL_toInt hy]
theorem oL_le {x y : Int} (hx : rng64 x) (hy : rng64 y) : oL x ≤ oL y ↔ x ≤ y := by rw [Int64.le_iff_toInt_le, oL_toInt hx, oL_toInt hy]
theorem rng_64 {x : Int} (h : rng x) : rng64 x := ⟨by unfold rng at h; omega, by unfold rng at h; omega⟩
theorem oL_of32 {x : Int} (h : rng x) : (oI x).toInt64 = oL x := Int64.toInt_inj.mp (by rw [Int32.toInt_toInt64, oI_toInt h, oL_toInt (rng_64 h)])
-- abstract values: a number, an object's number, a long number
abbrev AV : Type := Int ⊕ (Nat ⊕ Int)
abbrev Mem : Type := Nat → Int → Int
abbrev Ptr : Type := Nat → Int → Nat
/-- launch, numbers of classes, of array classes, where the first object lies, where the script and the written texts lie -/
abbrev CX : Type := Launch × va_G × (Nat → ClassId) × Nat × (Nat → Nat)
abbrev CX.l (G : CX) : Launch := G.1
abbrev CX.D (G : CX) : va_G := G.2.1
abbrev CX.ac (G : CX) : Nat → ClassId := G.2.2.1
abbrev CX.bs (G : CX) : Nat := G.2.2.2.1
abbrev CX.sp (G : CX) : Nat → Nat := G.2.2.2.2
def adr (G : CX) (k : Nat) : Nat := if k < 1000 then G.bs + (k - 1) else G.sp (k - 1000)
def rvl (G : CX) (k : Nat) : Value := if k = 0 then .null else .ref (adr G k)
theorem rvl_pos {G : CX} {k : Nat} (h : k ≠ 0) : rvl G k = .ref (adr G k) := if_neg h
theorem adr_ob {G : CX} {k : Nat} (h : k < 1000) : adr G k = G.bs + (k - 1) := if_pos h
def conc (G : CX) : AV → Value
  | .inl x => .int (oI x)
  | .inr (.inl k) => rvl G k
  | .inr (.inr x) => .long (oL x)
def avOK : AV → Prop
  | .inl x => rng x
  | .inr (.inl _) => True
  | .inr (.inr x) => rng64 x
theorem conc_cat (G : CX) (v : AV) : (conc G v).category = match v with | .inr (.inr _) => 2 | _ => 1 := by
  rcases v with x | k | x
  · rfl
  · show (rvl G k).category = 1
    unfold rvl
    split <;> rfl
  · rfl
-- what a method's frame holds
abbrev LV : Type := List (Option AV)
def lk : LV → Nat → Option AV
  | [], _ => none
  | a :: _, 0 => a
  | _ :: r, n + 1 => lk r n
def stL : LV → Nat → AV → LV
  | [], _, _ => []
  | _ :: r, 0, v => some v :: r
  | a :: r, n + 1, v => a :: stL r n v
def kpL : List Nat → LV → LV
  | [], r => r
  | _ :: _, [] => []
  | 0 :: ks, _ :: r => none :: kpL ks r
  | (_ + 1) :: ks, a :: r => a :: kpL ks r
def noL : LV → Bool
  | [] => true
  | some (.inr (.inr _)) :: _ => false
  | _ :: r => noL r
theorem lk_stL_self : ∀ {lv : LV} {i : Nat} {v : AV}, i < lv.length → lk (stL lv i v) i = some v
  | [], _, _, h => absurd h (Nat.not_lt_zero _)
  | _ :: _, 0, _, _ => rfl
  | _ :: r, n + 1, v, h => lk_stL_self (lv := r) (Nat.lt_of_succ_lt_succ h)
theorem lk_stL_ne : ∀ {lv : LV} {i j : Nat} {v : AV}, j ≠ i → lk (stL lv i v) j = lk lv j
  | [], _, _, _, _ => rfl
  | _ :: _, 0, 0, _, h => absurd rfl h
  | _ :: _, 0, _ + 1, _, _ => rfl
  | _ :: _, _ + 1, 0, _, _ => rfl
  | _ :: r, n + 1, j + 1, v, h => lk_stL_ne (lv := r) (fun e => h (by rw [e]))
theorem len_stL : ∀ {lv : LV} {i : Nat} {v : AV}, (stL lv i v).length = lv.length
  | [], _, _ => rfl
  | _ :: _, 0, _ => rfl
  | _ :: r, n + 1, v => by show (stL r n v).length + 1 = r.length + 1; rw [len_stL]
theorem lk_kpL : ∀ {ks : List Nat} {lv : LV} {i : Nat} {v : AV}, lk (kpL ks lv) i = some v → lk lv i = some v
  | [], _, _, _, h => h
  | _ :: _, [], _, _, h => by cases h
  | 0 :: _, _ :: _, 0, _, h => by cases h
  | 0 :: ks, _ :: r, i + 1, _, h => lk_kpL (ks := ks) (lv := r) (i := i) h
  | (_ + 1) :: _, _ :: _, 0, _, h => h
  | (_ + 1) :: ks, _ :: r, i + 1, _, h => lk_kpL (ks := ks) (lv := r) (i := i) h
theorem len_kpL : ∀ {ks : List Nat} {lv : LV}, (kpL ks lv).length = lv.length
  | [], _ => rfl
  | _ :: _, [] => rfl
  | 0 :: ks, _ :: r => by show (kpL ks r).length + 1 = r.length + 1; rw [len_kpL]
  | (_ + 1) :: ks, _ :: r => by show (kpL ks r).length + 1 = r.length + 1; rw [len_kpL]
theorem lk_lt : ∀ {lv : LV} {i : Nat} {v : AV}, lk lv i = some v → i < lv.length
  | [], _, _, h => by cases h
  | _ :: _, 0, _, _ => Nat.succ_pos _
  | _ :: r, n + 1, _, h => Nat.succ_lt_succ (lk_lt (lv := r) h)
/-- the frame's slots hold what the list says, every value in its range -/
def VL (G : CX) (nL : Nat) (lv : LV) (ls : Array Slot) : Prop := lv.length = nL ∧ lv_has ls nL [] ∧ ∀ i v, lk lv i = some v → ls[i]? = some (.val (conc G v)) ∧ avOK v
theorem VL.at {G : CX} {nL : Nat} {lv : LV} {ls : Array Slot} (h : VL G nL lv ls) {i : Nat} {v : AV} (hk : lk lv i = some v) : ls[i]? = some (.val (conc G v)) := (h.2.2 i v hk).1
theorem VL.ok {G : CX} {nL : Nat} {lv : LV} {ls : Array Slot} (h : VL G nL lv ls) {i : Nat} {v : AV} (hk : lk lv i = some v) : avOK v := (h.2.2 i v hk).2
theorem VL.sz {G : CX} {nL : Nat} {lv : LV} {ls : Array Slot} (h : VL G nL lv ls) : ls.size = nL := h.2.1.1
theorem VL.keep {G : CX} {nL : Nat} {lv : LV} {ls : Array Slot} (ks : List Nat) (h : VL G nL lv ls) : VL G nL (kpL ks lv) ls := ⟨len_kpL.trans h.1, h.2.1, fun i v hk => h.2.2 i v (lk_kpL hk)⟩
theorem lk_noL : ∀ {lv : LV} {i : Nat} {v : AV}, noL lv = true → lk lv i = some v → ∀ x, v ≠ .inr (.inr x)
  | [], _, _, _, h, _ => by cases h
  | some (.inr (.inr _)) :: _, _, _, h0, _, _ => by cases h0
  | none :: _, 0, _, _, h, _ => by cases h
  | some (.inl _) :: _, 0, _, _, h, _ => by cases h; intro e; cases e
  | some (.inr (.inl _)) :: _, 0, _, _, h, _ => by cases h; intro e; cases e
  | none :: r, i + 1, _, h0, h, x => lk_noL (lv := r) h0 h x
  | some (.inl _) :: r, i + 1, _, h0, h, x => lk_noL (lv := r) h0 h x
  | some (.inr (.inl _)) :: r, i + 1, _, h0, h, x => lk_noL (lv := r) h0 h x
/-- the listed values of a frame, for the kit's rows -/
def clL (G : CX) : Nat → LV → List (Nat × Value)
  | _, [] => []
  | k, none :: r => clL G (k + 1) r
  | k, some v :: r => (k, conc G v) :: clL G (k + 1) r
theorem clL_mem {G : CX} : ∀ {lv : LV} {k : Nat} {q : Nat × Value}, q ∈ clL G k lv ↔ ∃ (i : Nat) (v : AV), lk lv i = some v ∧ q = (k + i, conc G v)
  | [], k, q => ⟨fun h => (by cases h), fun ⟨i, v, h, _⟩ => (by cases h)⟩
  | none :: r, k, q => by
    show q ∈ clL G (k + 1) r ↔ _
    rw [clL_mem (lv := r)]
    constructor
    · rintro ⟨i, v, h, rfl⟩
      exact ⟨i + 1, v, h, by rw [Nat.add_assoc, Nat.add_comm 1 i]⟩
    · rintro ⟨i, v, h, rfl⟩
      cases i with
      | zero => cases h
      | succ i => exact ⟨i, v, h, by rw [Nat.add_assoc, Nat.add_comm 1 i]⟩
  | some w :: r, k, q => by
    show q ∈ (k, conc G w) :: clL G (k + 1) r ↔ _
    rw [List.mem_cons, clL_mem (lv := r)]
    constructor
    · rintro (rfl | ⟨i, v, h, rfl⟩)
      · exact ⟨0, w, rfl, rfl⟩
      · exact ⟨i + 1, v, h, by rw [Nat.add_assoc, Nat.add_comm 1 i]⟩
    · rintro ⟨i, v, h, rfl⟩
      cases i with
      | zero => cases h; exact Or.inl rfl
      | succ i => exact Or.inr ⟨i, v, h, by rw [Nat.add_assoc, Nat.add_comm 1 i]⟩
theorem VL.has {G : CX} {nL : Nat} {lv : LV} {ls : Array Slot} (h : VL G nL lv ls) : lv_has ls nL (clL G 0 lv) := ⟨h.2.1.1, h.2.1.2.1, fun q hq => by
  obtain ⟨i, v, hk, rfl⟩ := clL_mem.mp hq
  have := h.at hk
  simpa using this⟩
theorem VL.store {G : CX} {nL : Nat} {lv : LV} {ls ls' : Array Slot} {i : Nat} {v : AV} (h : VL G nL lv ls) (hn : noL lv = true) (hv : avOK v) (hi : i < nL) (h' : lv_has ls' nL ((i, conc G v) :: (clL G 0 lv).filter (fun q => !(q.1 == i) && !(q.1 + 1 == i && q.2.category == 2)))) : VL G nL (stL lv i v) ls' := by
  refine ⟨len_stL.trans h.1, ⟨h'.1, h'.2.1, fun q hq => by cases hq⟩, fun j w hw => ?_⟩
  by_cases e : j = i
  · subst e
    rw [lk_stL_self (by rw [h.1]; exact hi)] at hw
    cases hw
    exact ⟨h'.2.2 (j, _) List.mem_cons_self, hv⟩
  · rw [lk_stL_ne e] at hw
    refine ⟨h'.2.2 (j, conc G w) (List.mem_cons_of_mem _ (List.mem_filter.mpr ⟨clL_mem.mpr ⟨j, w, hw, by rw [Nat.zero_add]⟩, ?_⟩)), h.ok hw⟩
    have hc : (conc G w).category = 1 := by
      rw [conc_cat]
      rcases w with x | k | x
      · rfl
      · rfl
      · exact absurd rfl (lk_noL hn hw x)
    simp [e, hc]
theorem VL.storeL {G : CX} {nL : Nat} {lv : LV} {ls ls' : Array Slot} {i : Nat} {x : Int} (h : VL G nL lv ls) (hx : rng64 x) (hi : i + 1 < nL) (hn : ∀ y, lk lv (i + 1) ≠ some y) (hp : ∀ j x, j + 1 = i → lk lv j ≠ some (.inr (.inr x))) (h' : lv_has ls' nL ((i, Value.long (oL x)) :: (clL G 0 lv).filter (fun q => !(q.1 == i) && (!(q.1 == i + 1) && !(q.1 + 1 == i && q.2.category == 2))))) : VL G nL (stL lv i (.inr (.inr x))) ls' := by
  refine ⟨len_stL.trans h.1, ⟨h'.1, h'.2.1, fun q hq => by cases hq⟩, fun j w hw => ?_⟩
  by_cases e : j = i
  · subst e
    rw [lk_stL_self (by rw [h.1]; omega)] at hw
    cases hw
    exact ⟨h'.2.2 (j, _) List.mem_cons_self, hx⟩
  · rw [lk_stL_ne e] at hw
    refine ⟨h'.2.2 (j, conc G w) (List.mem_cons_of_mem _ (List.mem_filter.mpr ⟨clL_mem.mpr ⟨j, w, hw, by rw [Nat.zero_add]⟩, ?_⟩)), h.ok hw⟩
    have e2 : j ≠ i + 1 := fun q => hn w (by rw [← q]; exact hw)
    have e3 : ¬ (j + 1 = i ∧ (conc G w).category = 2) := by
      rintro ⟨q1, q2⟩
      rcases w with y | k | y
      · cases q2
      · rw [conc_cat] at q2; cases q2
      · exact hp j y q1 hw
    have e4 : ¬ j + 1 = i ∨ ¬ (conc G w).category = 2 := Decidable.not_and_iff_not_or_not.mp e3
    simp [e, e2]
    exact e4
/-- a long that is overwritten where it lay -/
theorem VL.storeLL {G : CX} {nL : Nat} {lv : LV} {ls ls' : Array Slot} {i : Nat} {x y : Int} (h : VL G nL lv ls) (hx : rng64 x) (hi : i + 1 < nL) (hy : lk lv i = some (.inr (.inr y))) (hn : ∀ y, lk lv (i + 1) ≠ some y) (hp : ∀ j x, j + 1 = i → lk lv j ≠ some (.inr (.inr x))) (h' : lv_has ls' nL ((i, Value.long (oL x)) :: (clL G 0 lv).filter (fun q => !(q.1 == i) && (!(q.1 == i + 1) && !(q.1 + 1 == i && q.2.category == 2))))) : VL G nL (stL lv i (.inr (.inr x))) ls' := h.storeL hx hi hn hp h'
/-- an int stored where the place before it holds no long -/
theorem VL.storeN {G : CX} {nL : Nat} {lv : LV} {ls ls' : Array Slot} {i : Nat} {v : AV} (h : VL G nL lv ls) (hp : ∀ j x, j + 1 = i → lk lv j ≠ some (.inr (.inr x))) (hv : avOK v) (hi : i < nL) (h' : lv_has ls' nL ((i, conc G v) :: (clL G 0 lv).filter (fun q => !(q.1 == i) && !(q.1 + 1 == i && q.2.category == 2)))) : VL G nL (stL lv i v) ls' := by
  refine ⟨len_stL.trans h.1, ⟨h'.1, h'.2.1, fun q hq => by cases hq⟩, fun j w hw => ?_⟩
  by_cases e : j = i
  · subst e
    rw [lk_stL_self (by rw [h.1]; exact hi)] at hw
    cases hw
    exact ⟨h'.2.2 (j, _) List.mem_cons_self, hv⟩
  · rw [lk_stL_ne e] at hw
    refine ⟨h'.2.2 (j, conc G w) (List.mem_cons_of_mem _ (List.mem_filter.mpr ⟨clL_mem.mpr ⟨j, w, hw, by rw [Nat.zero_add]⟩, ?_⟩)), h.ok hw⟩
    have e3 : ¬ (j + 1 = i ∧ (conc G w).category = 2) := by
      rintro ⟨q1, q2⟩
      rcases w with y | k | y
      · cases q2
      · rw [conc_cat] at q2; cases q2
      · exact hp j y q1 hw
    have e4 : ¬ j + 1 = i ∨ ¬ (conc G w).category = 2 := Decidable.not_and_iff_not_or_not.mp e3
    simp [e]
    exact e4
