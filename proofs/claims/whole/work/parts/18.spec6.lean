/-! ===== laws, running, freely, staying away ===== -/
section
variable {G : HX} {Y : MI} {d kc ks pc : Nat} {lv : LV} {st : List AV} {n : Nat} {I : Mem} {P : Ptr} {Q : QT}
def andF (x y : Int) : Int := (oI x &&& oI y).toInt
def shrF (x y : Int) : Int := (oI x >>> (oI y &&& 31)).toInt
def xorF (x y : Int) : Int := (oI x ^^^ oI y).toInt
def ushrF (x y : Int) : Int := (((oI x).toUInt32 >>> ((oI y).toUInt32 &&& Int32.toUInt32 31)).toInt32).toInt
theorem y_iand {x y : Int} (hd : decode Y.2.1 pc = .ok (.iand, 1)) (k : V G Y d kc ks (pc + 1) lv (.inl (andF x y) :: st) n I P Q) : V G Y d kc ks pc lv (.inl y :: .inl x :: st) n I P Q := x_iand (andF x y) hd (Int32.ofInt_toInt _).symm (oI_rng _) k
theorem y_ishr {x y : Int} (hd : decode Y.2.1 pc = .ok (.ishr, 1)) (k : V G Y d kc ks (pc + 1) lv (.inl (shrF x y) :: st) n I P Q) : V G Y d kc ks pc lv (.inl y :: .inl x :: st) n I P Q := x_ishr (shrF x y) hd (Int32.ofInt_toInt _).symm (oI_rng _) k
theorem y_ixor {x y : Int} (hd : decode Y.2.1 pc = .ok (.ixor, 1)) (k : V G Y d kc ks (pc + 1) lv (.inl (xorF x y) :: st) n I P Q) : V G Y d kc ks pc lv (.inl y :: .inl x :: st) n I P Q := x_ixor (xorF x y) hd (Int32.ofInt_toInt _).symm (oI_rng _) k
theorem y_iushr {x y : Int} (hd : decode Y.2.1 pc = .ok (.iushr, 1)) (k : V G Y d kc ks (pc + 1) lv (.inl (ushrF x y) :: st) n I P Q) : V G Y d kc ks pc lv (.inl y :: .inl x :: st) n I P Q := x_iushr (ushrF x y) hd (Int32.ofInt_toInt _).symm (oI_rng _) k
theorem y_ldcw {idx : Nat} {w : Int32} {x : Int} (hd : decode Y.2.1 pc = .ok (.ldc_w idx, 3)) (hc : Cond.constant Y.1.cls idx w ∈ TW) (hw : w = oI x) (hr : rng x) (k : V G Y d kc ks (pc + 3) lv (.inl x :: st) n I P Q) : V G Y d kc ks pc lv st n I P Q := by
  intro p e R s m args below meth c H locs cells slots mc ms ls h
  subst hw
  refine lv_ldcw h.1.1 h.1.2.1 h.1.2.2.2.2.2.1 (h.1.2.2.2.2.1 _ hc) hd ?_
  exact k p e R s m args below meth c H locs cells slots mc ms ls (h.st1 (ok_c (v := .inl x) hr h.2.2.2.1))
end
theorem andF_bd {x : Int} (m : Nat) (hm : m < 2147483648 := by decide) : 0 ≤ andF x (m : Int) ∧ andF x (m : Int) ≤ (m : Int) := by
  have h1 : (oI x &&& oI (m : Int)).toBitVec.toNat ≤ m := by
    rw [Int32.toBitVec_and, BitVec.toNat_and]
    refine Nat.le_trans Nat.and_le_right ?_
    rw [oI_nat]
    show (BitVec.ofNat 32 m).toNat ≤ m
    rw [BitVec.toNat_ofNat]
    exact Nat.mod_le _ _
  have h2 : (oI x &&& oI (m : Int)).toBitVec.toInt = ((oI x &&& oI (m : Int)).toBitVec.toNat : Int) := BitVec.toInt_eq_toNat_of_lt (by omega)
  show 0 ≤ (oI x &&& oI (m : Int)).toBitVec.toInt ∧ (oI x &&& oI (m : Int)).toBitVec.toInt ≤ (m : Int)
  rw [h2]
  omega
theorem and15 (x : Int) : 0 ≤ andF x 32767 ∧ andF x 32767 ≤ 32767 := andF_bd (x := x) 32767
def lawT (T : Tn) (l : Int) : Tn := fun a k => if a = 0 ∧ k = 3 then l / 2 + 1 else if a = 0 ∧ k = 7 then l % 2 else T a k
theorem lawT_0 {T : Tn} {l k : Int} (h3 : k ≠ 3) (h7 : k ≠ 7) : lawT T l 0 k = T 0 k := by
  unfold lawT
  rw [if_neg (fun q => h3 q.2), if_neg (fun q => h7 q.2)]
theorem lawT_3 {T : Tn} {l : Int} : lawT T l 0 3 = l / 2 + 1 := if_pos ⟨rfl, rfl⟩
theorem lawT_7 {T : Tn} {l : Int} : lawT T l 0 7 = l % 2 := by unfold lawT; rw [if_neg (fun q => absurd q.2 (by decide)), if_pos ⟨rfl, rfl⟩]
theorem lawT_n {T : Tn} {l : Int} {a : Nat} (h : a ≠ 0) : lawT T l a = T a := by
  funext k
  unfold lawT
  rw [if_neg (fun q => h q.1), if_neg (fun q => h q.1)]
theorem lawT_WF {T : Tn} {l : Int} (hT : WF T) (hl : 0 ≤ l ∧ l ≤ 5) : WF (lawT T l) := by
  have e1 : lawT T l 0 1 = T 0 1 := lawT_0 (by decide) (by decide)
  have e2 : lawT T l 0 2 = T 0 2 := lawT_0 (by decide) (by decide)
  have e4 : lawT T l 0 4 = T 0 4 := lawT_0 (by decide) (by decide)
  have e5 : lawT T l 0 5 = T 0 5 := lawT_0 (by decide) (by decide)
  have e6 : lawT T l 0 6 = T 0 6 := lawT_0 (by decide) (by decide)
  obtain ⟨h1, h2, h3, h4, h5, h6, h7, hrest⟩ := hT
  unfold WF
  rw [e1, e2, e4, e5, e6, lawT_3, lawT_7, lawT_n (by decide), lawT_n (by decide), lawT_n (by decide), lawT_n (by decide), lawT_n (by decide), lawT_n (by decide)]
  exact ⟨h1, h2, by omega, h4, h5, h6, by omega, hrest⟩
theorem lawT_RW {T : Tn} {l : Int} {r : Rw} (h : RW T r) : RW (lawT T l) r := by
  unfold RW
  rw [lawT_0 (by decide) (by decide), lawT_0 (by decide) (by decide)]
  exact h
/-- what law answers: 0 things, 1 worth -/
noncomputable def lawV (T : Tn) (r : Rw) (l w : Int) : Int := if w = 0 then allS (lawT T l) (endN (lawT T l) 60 r).2 else worthS (lawT T l) (endN (lawT T l) 60 r).2
theorem RE.lawv {T : Tn} {r r' : Rw} {l w : Int} (h : RE r r') (hT : WF T) (hl : 0 ≤ l ∧ l ≤ 5) : lawV T r l w = lawV T r' l w := by
  have h1 := RE.endd (lawT_WF hT hl) (f := 60) h
  unfold lawV
  rw [h1.2.all (lawT_WF hT hl), h1.2.worth (lawT_WF hT hl)]
theorem lawV_bd {T : Tn} {r : Rw} {l w : Int} (hT : WF T) (hr : RW T r) (hl : 0 ≤ l ∧ l ≤ 5) : 0 ≤ lawV T r l w ∧ lawV T r l w ≤ 456600000 := by
  have hTl := lawT_WF hT hl
  have h1 := endN_ok hTl 60 r (lawT_RW hr)
  have h2 := worthS_bd hTl h1.1.rc
  have h3 := sumN_bd (f := fun s => leftS (lawT T l) (endN (lawT T l) 60 r).2 s) (n := lawT T l 0 2) (lo := 0) (hi := 5760) (by have := hTl.2.1; omega) (fun s h0 hs => leftS_bd hTl h1.1.rc (by have := hTl.2.1; omega))
  have h4 := hTl.2.1
  unfold lawV
  split
  · unfold allS; omega
  · exact h2
noncomputable def bestB (T : Tn) (r : Rw) (l : Int) (x : Int × Int) : Int × Int := (if x.2 < lawV T r l 1 then l else x.1, if x.2 < lawV T r l 1 then lawV T r l 1 else x.2)
noncomputable def bestL (T : Tn) (r : Rw) : Int := (itN (fun l x => bestB T r l x) 6 (0, -1)).1
theorem RE.bestl {T : Tn} {r r' : Rw} (h : RE r r') (hT : WF T) : bestL T r = bestL T r' :=
  congrArg Prod.fst (itN_congr (fun l x h0 hl => by unfold bestB; rw [h.lawv hT ⟨h0, by omega⟩]))
def seedS (s : Int) : Int := wr (wr (s * 1103515245) + 12345)
def drawS (s m : Int) : Int := andF (shrF s 16) 32767 % m
/-- seed, trades, row -/
abbrev Rn : Type := Int × Int × Rw
def runA (T : Tn) (s : Int) : Int := drawS (seedS s) (T 0 1)
def runC (T : Tn) (s : Int) : Int := drawS (seedS (seedS s)) (T 0 1 - 1) + (if drawS (seedS (seedS s)) (T 0 1 - 1) ≥ runA T s then 1 else 0)
noncomputable def runB (T : Tn) (x : Rn) : Rn := (seedS (seedS x.1), x.2.1 + (if 0 < (meetS T x.2.2 (runA T x.1) (runC T x.1)).1 then 1 else 0), (meetS T x.2.2 (runA T x.1) (runC T x.1)).2)
noncomputable def runS (T : Tn) (n s : Int) (r : Rw) : Rn := itN (fun _ x => runB T x) n (s, 0, r)
theorem runS_s {T : Tn} {n s : Int} {r : Rw} (h : 0 ≤ n) : runS T (n + 1) s r = runB T (runS T n s r) := itN_s _ _ h
theorem run_two {T : Tn} {s : Int} (h : 2 ≤ T 0 1) : (0 ≤ runA T s ∧ runA T s < T 0 1) ∧ (0 ≤ runC T s ∧ runC T s < T 0 1) ∧ runA T s ≠ runC T s := by
  have h1 := andF_bd (x := shrF (seedS s) 16) 32767
  have h2 := andF_bd (x := shrF (seedS (seedS s)) 16) 32767
  have a1 := Int.emod_nonneg (andF (shrF (seedS s) 16) 32767) (show T 0 1 ≠ 0 by omega)
  have a2 := Int.emod_lt_of_pos (andF (shrF (seedS s) 16) 32767) (show 0 < T 0 1 by omega)
  have b1 := Int.emod_nonneg (andF (shrF (seedS (seedS s)) 16) 32767) (show T 0 1 - 1 ≠ 0 by omega)
  have b2 := Int.emod_lt_of_pos (andF (shrF (seedS (seedS s)) 16) 32767) (show 0 < T 0 1 - 1 by omega)
  unfold runC runA drawS
  split <;> omega
theorem runS_ok {T : Tn} (hT : WF T) {s : Int} {r : Rw} (hr : RW T r) (h2 : 2 ≤ T 0 1) {n : Int} (hn : 0 ≤ n) : RW T (runS T n s r).2.2 ∧ 0 ≤ (runS T n s r).2.1 ∧ (runS T n s r).2.1 ≤ n := by
  refine int_ind (p := fun n => RW T (runS T n s r).2.2 ∧ 0 ≤ (runS T n s r).2.1 ∧ (runS T n s r).2.1 ≤ n) ⟨hr, Int.le_refl _, Int.le_refl _⟩ (fun k hk ih => ?_) n hn
  have ht := run_two (T := T) (s := (runS T k s r).1) h2
  have hm := meetS_RW hT ih.1 ht.1 ht.2.1 ht.2.2
  rw [runS_s hk]
  refine ⟨hm.1, ?_, ?_⟩
  · unfold runB; dsimp only; split <;> omega
  · unfold runB; dsimp only; split <;> omega
theorem RE.run {T : Tn} {n s : Int} {r r' : Rw} (h : RE r r') (hT : WF T) (h2 : 2 ≤ T 0 1) : (runS T n s r).2.1 = (runS T n s r').2.1 ∧ RE (runS T n s r).2.2 (runS T n s r').2.2 := by
  have := itN_rel (f := fun _ x => runB T x) (g := fun _ x => runB T x) (R := fun (x y : Rn) => x.1 = y.1 ∧ x.2.1 = y.2.1 ∧ RE x.2.2 y.2.2) (n := n) (s := (s, 0, r)) (t := (s, 0, r')) ⟨rfl, rfl, h⟩ (fun m x y h0 hm q => by
    have ht := run_two (T := T) (s := y.1) h2
    have hm := q.2.2.meet (a := runA T y.1) (b := runC T y.1) hT ht.1 ht.2.1
    unfold runB
    rw [q.1, q.2.1, hm.1]
    exact ⟨rfl, rfl, hm.2⟩)
  exact this.2
def dearS (T : Tn) (s : Int) : Int := itN (fun p b => if b < T 1 (8 * p + s) then T 1 (8 * p + s) else b) (T 0 1) 0
def freeS (T : Tn) (r : Rw) : Int := sumN (fun s => 100 * dearS T s * leftS T r s) (T 0 2) + sumN (fun p => sumN (fun k => 100 * T 4 (18 * p + 3 * k + 2)) (T 3 p)) (T 0 1)
theorem dearN_bd {T : Tn} {s n : Int} (hT : WF T) (hs : 0 ≤ s ∧ s < 8) (hn : n ≤ T 0 1) : 0 ≤ itN (fun p b => if b < T 1 (8 * p + s) then T 1 (8 * p + s) else b) n 0 ∧ itN (fun p b => if b < T 1 (8 * p + s) then T 1 (8 * p + s) else b) n 0 ≤ 99 :=
  itN_inv (p := fun b : Int => 0 ≤ b ∧ b ≤ 99) ⟨by decide, by decide⟩ (fun p b h0 hp hb => by
    have := hT.2.2.2.2.2.2.2.1 p s h0 (by omega) hs.1 hs.2
    split <;> omega)
theorem dear_bd {T : Tn} {s : Int} (hT : WF T) (hs : 0 ≤ s ∧ s < 8) : 0 ≤ dearS T s ∧ dearS T s ≤ 99 := dearN_bd hT hs (Int.le_refl _)
theorem RE.free {T : Tn} {r r' : Rw} (h : RE r r') (hT : WF T) : freeS T r = freeS T r' := by
  unfold freeS
  rw [sumN_congr (fun s h0 hs => by rw [h.left hT (by have := hT.2.1; omega)])]
/-- days without p, then days with p -/
noncomputable def stayR (T : Tn) (r : Rw) (p w : Int) : Rw := itN (fun _ r => (dayS T p r).2) w r
noncomputable def stillR (T : Tn) (r : Rw) (p w m : Int) : Rw := itN (fun _ r => (dayS T (-1) r).2) m (stayR T r p w)
noncomputable def stillB (T : Tn) (r : Rw) (p m w : Int) (x : Int × Int) : Int × Int := (if x.2 < bagS T (stillR T r p w m) p then w else x.1, if x.2 < bagS T (stillR T r p w m) p then bagS T (stillR T r p w m) p else x.2)
noncomputable def stillS (T : Tn) (r : Rw) (p m : Int) : Int × Int := itN (fun w x => stillB T r p m w x) 11 (-1, -1)
theorem dayR_ok {T : Tn} {w n : Int} {r : Rw} (hT : WF T) (hr : RW T r) : RW T (itN (fun _ r => (dayS T w r).2) n r) := itN_inv (p := fun r => RW T r) hr (fun _ r _ _ h => (dayS_ok hT h).1)
theorem RE.dayr {T : Tn} {w n : Int} {r r' : Rw} (h : RE r r') (hT : WF T) : RE (itN (fun _ r => (dayS T w r).2) n r) (itN (fun _ r => (dayS T w r).2) n r') := itN_rel (R := fun (x y : Rw) => RE x y) h (fun _ x y _ _ q => (RE.day q hT).2)
theorem RE.stillr {T : Tn} {p w m : Int} {r r' : Rw} (h : RE r r') (hT : WF T) : RE (stillR T r p w m) (stillR T r' p w m) := RE.dayr (RE.dayr h hT) hT
theorem stillR_ok {T : Tn} {p w m : Int} {r : Rw} (hT : WF T) (hr : RW T r) : RW T (stillR T r p w m) := dayR_ok hT (dayR_ok hT hr)
theorem RE.stills {T : Tn} {p m : Int} {r r' : Rw} (h : RE r r') (hT : WF T) (hp : 0 ≤ p ∧ p < T 0 1) : stillS T r p m = stillS T r' p m := itN_congr (fun w x _ _ => by
  unfold stillB
  rw [(RE.stillr h hT).bag hT hp])
theorem stillN_ok {T : Tn} {p m n : Int} {r : Rw} (hT : WF T) (hr : RW T r) (hp : 0 ≤ p ∧ p < T 0 1) (hn : n ≤ 11) : (-1 ≤ (itN (fun w x => stillB T r p m w x) n (-1, -1)).1 ∧ (itN (fun w x => stillB T r p m w x) n (-1, -1)).1 ≤ 10) ∧ -1 ≤ (itN (fun w x => stillB T r p m w x) n (-1, -1)).2 ∧ (itN (fun w x => stillB T r p m w x) n (-1, -1)).2 ≤ 76100000 :=
  itN_inv (p := fun x : Int × Int => (-1 ≤ x.1 ∧ x.1 ≤ 10) ∧ -1 ≤ x.2 ∧ x.2 ≤ 76100000) ⟨⟨by decide, by decide⟩, by decide, by decide⟩ (fun w x h0 hw hx => by
    have hb := bagS_bd hT (stillR_ok (p := p) (w := w) (m := m) hT hr).rc hp
    unfold stillB
    dsimp only
    refine ⟨⟨?_, ?_⟩, ?_, ?_⟩ <;> split <;> omega)
/-- what still answers: thrown, answer -/
noncomputable def stillA (T : Tn) (r : Rw) (p m w : Int) : Int × Int := cif ((0 ≤ p ∧ p < T 0 1) ∧ 0 ≤ w ∧ w ≤ 1) (if 1 ≤ m ∧ m ≤ 10 then (0, if w = 0 then (stillS T r p m).1 else (stillS T r p m).2) else (2, 0)) (1, 0)
theorem stay_s {T : Tn} {r : Rw} {p k : Int} (h : 0 ≤ k) : itN (fun _ r => (dayS T p r).2) (k + 1) r = (dayS T p (itN (fun _ r => (dayS T p r).2) k r)).2 := itN_s _ _ h
