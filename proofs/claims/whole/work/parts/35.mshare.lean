/-! ===== the reference: sharing out ===== -/
section
variable {G : HX} {Y : MI} {d kc ks pc : Nat} {lv : LV} {st : List AV} {n : Nat} {I : Mem} {P : Ptr} {Q : QT}
theorem y_lmul {x y : Int} (hd : decode Y.2.1 pc = .ok (.lmul, 1)) (hr : rng64 (x * y)) (k : V G Y d kc ks (pc + 1) lv (.inr (.inr (x * y)) :: st) n I P Q) : V G Y d kc ks pc lv (.inr (.inr y) :: .inr (.inr x) :: st) n I P Q := x_lmul (x * y) hd (Int64.ofInt_mul x y).symm hr k
theorem x_iincN {x z : Int} {i : Nat} (hd : decode Y.2.1 pc = .ok (.iinc i z, 3)) (hl : lk lv i = some (.inl x) := by rfl) (hr : rng (x + z)) (hp : ∀ j x, j + 1 = i → lk lv j ≠ some (.inr (.inr x))) (hn : i < Y.2.2.1 := by decide) (k : V G Y d kc ks (pc + 3) (stL lv i (.inl (x + z))) st n I P Q) : V G Y d kc ks pc lv st n I P Q := by
  intro p e R s m args below meth c H locs cells slots mc ms ls h
  obtain ⟨q, hq⟩ := List.getElem?_of_mem (clL_mem (G := G.1) (k := 0).mpr ⟨i, _, hl, rfl⟩)
  rw [Nat.zero_add] at hq
  refine lv_iinc (v := oI (x + z)) (nL := Y.2.2.1) h.1.1 h.1.2.1 hd h.2.2.1.has hq (Int32.ofInt_add _ _).symm hn rfl (fun ls' hl' => ?_)
  exact k p e R s m args below meth c H locs cells slots mc ms ls' (h.s (h.2.2.1.storeN (v := .inl (x + z)) hp hr hn hl') h.2.2.2.1)
theorem y_ldiv {x y : Int} (hd : decode Y.2.1 pc = .ok (.ldiv, 1)) (hx : 0 ≤ x) (hy : 0 < y) (k : V G Y d kc ks (pc + 1) lv (.inr (.inr (x / y)) :: st) n I P Q) : V G Y d kc ks pc lv (.inr (.inr y) :: .inr (.inr x) :: st) n I P Q := by
  intro p e R s m args below meth c H locs cells slots mc ms ls h
  have ry : rng64 y := ok_h h.2.2.2.1
  have rx : rng64 x := ok_h (ok_t h.2.2.2.1)
  refine x_ldiv (x / y) hd (by omega) ?_ ?_ k p e R s m args below meth c H locs cells slots mc ms ls h
  · rw [← Int.tdiv_eq_ediv_of_nonneg hx]
    exact (Int64.ofInt_tdiv rx.1 (Int.le_of_lt_add_one rx.2) ry.1 (Int.le_of_lt_add_one ry.2)).symm
  · have h1 : 0 ≤ x / y := Int.ediv_nonneg hx (by omega)
    have h2 : x / y ≤ x := Int.ediv_le_self _ hx
    unfold rng64 at *
    omega
end
theorem cmpI_gt {x y : Int} : 0 < cmpI x y ↔ y < x := by
  unfold cmpI
  split
  · exact ⟨fun _ => by assumption, fun _ => by decide⟩
  · split
    · exact ⟨fun h => absurd h (by decide), fun h => by omega⟩
    · exact ⟨fun h => absurd h (by decide), fun h => by omega⟩
/-- least worth of one -/
def lowN (T : Tn) (r : Rw) (n : Int) : Int := itN (fun p v => if bagS T r p < v then bagS T r p else v) n (bagS T r 0)
def lowS (T : Tn) (r : Rw) : Int := lowN T r (T 0 1)
theorem lowN_s {T : Tn} {r : Rw} {n : Int} (h : 0 ≤ n) : lowN T r (n + 1) = if bagS T r n < lowN T r n then bagS T r n else lowN T r n := itN_s _ _ h
theorem lowN_1 {T : Tn} {r : Rw} : lowN T r 1 = bagS T r 0 := by
  have := lowN_s (T := T) (r := r) (n := 0) (Int.le_refl 0)
  rw [show (0 : Int) + 1 = 1 from rfl, show lowN T r 0 = bagS T r 0 from rfl, ite_self] at this
  exact this
theorem lowN_bd {T : Tn} {r : Rw} {n : Int} (hT : WF T) (hr : RC r) (h1 : 1 ≤ T 0 1) (hn : n ≤ T 0 1) : 0 ≤ lowN T r n ∧ lowN T r n ≤ 76100000 :=
  itN_inv (p := fun v : Int => 0 ≤ v ∧ v ≤ 76100000) (bagS_bd hT hr ⟨Int.le_refl _, by omega⟩) (fun p v p0 p1 hv => by
    have := bagS_bd hT hr (p := p) ⟨p0, by omega⟩
    split <;> omega)
abbrev LfS (T : Tn) (r : Rw) : Rw := fun x => leftS T r x
/-- least worth, that of all, the row -/
abbrev Sy : Type := Int × Int × Rw
noncomputable def shB (T : Tn) (m : Rw) (y : Sy) : Sy := if y.1 < lowS T (dayS T (-1) m).2 ∨ (lowS T (dayS T (-1) m).2 = y.1 ∧ y.2.1 < worthS T (dayS T (-1) m).2) then (lowS T (dayS T (-1) m).2, worthS T (dayS T (-1) m).2, m) else y
noncomputable def shN (T : Tn) (r : Rw) (k : Int) : Sy := itN (fun k y => shB T (itr (T 0 1) (LfS T r) k (m0S (T 0 1) (LfS T r))) y) k (-1, 0, fun _ => 0)
noncomputable def shS (T : Tn) (r : Rw) : Sy := shN T r (wayW (T 0 1) (LfS T r))
theorem shN_s {T : Tn} {r : Rw} {k : Int} (h : 0 ≤ k) : shN T r (k + 1) = shB T (itr (T 0 1) (LfS T r) k (m0S (T 0 1) (LfS T r))) (shN T r k) := itN_s _ _ h
theorem shB_bd {T : Tn} {m : Rw} {y : Sy} (hT : WF T) (hm : RW T m) (h1 : 1 ≤ T 0 1) (hy : (-1 ≤ y.1 ∧ y.1 ≤ 76100000) ∧ 0 ≤ y.2.1 ∧ y.2.1 ≤ 456600000) : (0 ≤ (shB T m y).1 ∧ (shB T m y).1 ≤ 76100000) ∧ 0 ≤ (shB T m y).2.1 ∧ (shB T m y).2.1 ≤ 456600000 := by
  have hd := (dayS_ok (w := -1) hT hm).1.rc
  have b1 := lowN_bd (n := T 0 1) hT hd h1 (Int.le_refl _)
  have b2 := worthS_bd hT hd
  unfold shB lowS
  split
  · exact ⟨b1, b2⟩
  · exact ⟨by omega, hy.2⟩
theorem LfS_nn {T : Tn} {r : Rw} (hT : WF T) (hr : RW T r) : ∀ x, 0 ≤ x → x < 8 → 0 ≤ LfS T r x ∧ LfS T r x ≤ 5760 := fun x x0 x1 => leftS_bd hT hr.rc ⟨x0, x1⟩
theorem LfS_z {T : Tn} {r : Rw} (hT : WF T) (hr : RW T r) {x : Int} (hx : T 0 2 ≤ x ∧ x < 8) : LfS T r x = 0 := sumN_z (fun q q0 q1 => hr.2.1 q x q0 (by have := hT.1; omega) (by have := hT.2.1; omega) hx.2 (Or.inr hx.1))
theorem VSh_z {K : Int} {L m : Rw} (h : VSh K L m) {x : Int} (hx : 0 ≤ x ∧ x < 8) (hz : L x = 0) {p : Int} (hp : 0 ≤ p) : m (8 * p + x) = 0 := by
  by_cases q : p < K
  · have h1 := h.1 x hx.1 hx.2
    have h2 := h.2.1 (8 * p + x) (by omega) (by omega)
    have h3 := sumN_term (f := fun q => m (8 * q + x)) (n := K) (i := p) (fun q q0 q1 => h.2.1 _ (by omega) (by omega)) hp q
    unfold colS at h1
    rw [h1, hz] at h3
    change m (8 * p + x) ≤ 0 at h3
    omega
  · exact h.2.2 _ (by omega)
theorem fs_rest {K : Int} {L m : Rw} {j : Int} (hj : 0 ≤ j) {q x : Int} (hq : 0 ≤ q ∧ q < K) (hx : 0 ≤ x ∧ x < 8) (hc : j ≤ 8 * q + x) : fsS K L j m (8 * q + x) = L x - colS (fsS K L j m) x q := by
  have h0 : 0 ≤ owS j x ∧ owS j x ≤ q ∧ j ≤ 8 * owS j x + x ∧ 8 * owS j x + x < j + 8 := by unfold owS; omega
  have hcol : colS (fsS K L j m) x (owS j x) = colS m x (owS j x) := colS_congr (fun q q0 q1 => by
    unfold fsS
    rw [if_neg (by omega), if_pos (by unfold owS at q1; omega)])
  have h1 : fsS K L j m (8 * owS j x + x) = L x - colS m x (owS j x) := by
    unfold fsS
    rw [if_neg (by omega), if_neg (by omega), if_pos (by omega), show (8 * owS j x + x) % 8 = x by omega, show (8 * owS j x + x) / 8 = owS j x by omega]
  by_cases e : q = owS j x
  · rw [e, h1, hcol]
  · have h2 : ∀ n, 0 ≤ n → colS (fsS K L j m) x (owS j x + 1 + n) = L x := fun n hn => int_ind (p := fun n => colS (fsS K L j m) x (owS j x + 1 + n) = L x) (by
      rw [Int.add_zero, colS_s h0.1, hcol, h1]; omega) (fun k hk ih => by
      rw [← Int.add_assoc, colS_s (by omega), ih]
      unfold fsS
      rw [if_neg (by omega), if_neg (by omega), if_neg (by omega)]
      omega) n hn
    have := h2 (q - (owS j x + 1)) (by omega)
    rw [show owS j x + 1 + (q - (owS j x + 1)) = q by omega] at this
    rw [this]
    unfold fsS
    rw [if_neg (by omega), if_neg (by omega), if_neg (by omega)]
    omega
section
variable {G : HX} {d : Nat} {I : Mem} {P : Ptr} {T : Tn}
theorem c_X12_restFrom {p s : Int} (hW : WP P) (hT : MT I T) (hF : WF T) (hr : RC (I 98)) (hp : 0 ≤ p ∧ p < 6) (hs : 0 ≤ s ∧ s < 8) (hn : ∀ q, 0 ≤ q → q < p → 0 ≤ I 143 (8 * q + s)) (hc : colS (I 143) s p ≤ LfS T (I 98) s) : Cv G mX12_restFrom (d + 1) 0 0 [.inr (.inl 91), .inl p, .inl s] NO I P (qI NO (fun r I' P' => I' = I ∧ P' = P ∧ r = LfS T (I 98) s - colS (I 143) s p)) := by
  have hb : 0 ≤ LfS T (I 98) s ∧ LfS T (I 98) s ≤ 5760 := leftS_bd (s := s) hF hr hs
  refine x_enter mfX12_restFrom rfl (Nat.le_of_ble_eq_true rfl) (fun _ => ?_)
  have hL : ∀ (j : Nat) (q : Int), (p - q).toNat < j → 0 ≤ q → q ≤ p → V G mX12_restFrom (d + 1) 0 0 13 [some (.inr (.inl 91)), some (.inl (p)), some (.inl (s)), some (.inl (LfS T (I 98) s - colS (I 143) s q)), some (.inl (q))] [] NO I P (qI NO (fun r I' P' => I' = I ∧ P' = P ∧ r = LfS T (I 98) s - colS (I 143) s p)) := by
    intro j
    induction j with
    | zero => intro q hj; omega
    | succ j ih =>
      intro q hj hq hq2
      have h1 := colS_mo (m := I 143) (x := s) (p := q) (p' := p) ⟨hq, hq2⟩ hn
      have h2 := colS_nn (m := I 143) (x := s) (p := q) (fun q q0 q1 => hn q q0 (by omega))
      have h3 := colS_s (m := I 143) (x := s) hq
      have h4 : q < p → colS (I 143) s (q + 1) ≤ colS (I 143) s p := fun z => colS_mo (m := I 143) (x := s) ⟨by omega, by omega⟩ hn
      refine x_iload (i := 4) dX12_restFrom_13 rfl ?_
      refine x_iload_n (i := 1) dX12_restFrom_15 rfl rfl ?_
      refine x_icmp_ge (tgt := 40) dX12_restFrom_16 rfl (fun h16 => ?_) (fun h16 => ?_)
      · refine x_iload_n (i := 3) dX12_restFrom_40 rfl rfl ?_
        refine x_iret dX12_restFrom_41 rfl ?_
        exact ⟨rfl, rfl, by rw [show q = p by omega]⟩
      · have h5 := hn q hq (by omega)
        have h6 := h4 (by omega)
        refine x_iload_n (i := 3) dX12_restFrom_19 rfl rfl ?_
        refine y_aln (i := 0) dX12_restFrom_20 at91.ne0 rfl rfl ?_
        refine y_getp (z := 91) (v := 143) dX12_restFrom_21 frX12_178 cfX12 at91 rfl rfl (wp (v := 143) hW rfl rfl (by decide)) ?_
        refine y_bi dX12_restFrom_24 ⟨by decide, by decide⟩ ?_
        refine x_iload (i := 4) dX12_restFrom_26 rfl ?_
        refine x_imul dX12_restFrom_28 ⟨by omega, by omega⟩ ?_
        refine x_iload_n (i := 2) dX12_restFrom_29 rfl rfl ?_
        refine x_iadd dX12_restFrom_30 ⟨by omega, by omega⟩ ?_
        refine x_iald dX12_restFrom_31 ar143 ⟨by omega, by omega⟩ ?_
        refine x_isub dX12_restFrom_32 ⟨by omega, by omega⟩ ?_
        refine x_istore_n (i := 3) dX12_restFrom_33 rfl rfl (Nat.le_of_ble_eq_true rfl) ?_
        refine x_iinc dX12_restFrom_34 rfl ⟨by omega, by omega⟩ rfl (Nat.le_of_ble_eq_true rfl) ?_
        refine x_goto (tgt := 13) dX12_restFrom_37 rfl ?_
        refine x_keep [1, 1, 1, 1, 1] ?_
        have := ih (q + 1) (by omega) (by omega) (by omega)
        rw [h3] at this
        rw [show ∀ a b c : Int, a - b - c = a - (b + c) from fun a b c => by omega]
        exact this
  refine y_aln (i := 0) dX12_restFrom_0 at91.ne0 rfl rfl ?_
  refine y_aln (i := 0) dX12_restFrom_1 at91.ne0 rfl rfl ?_
  refine y_getp (z := 14) (v := 98) dX12_restFrom_2 frX12_38 cfX12 at91 rfl rfl (wp (v := 98) hW rfl rfl (by decide)) ?_
  refine x_iload_n (i := 2) dX12_restFrom_5 rfl rfl ?_
  refine x_callVI (c_X12_leftOf hW hT hF ar98 hr hs) dX12_restFrom_6 lkX12_347 mfX12_leftOf cfX12 at91 rfl rfl rfl rfl (Nat.le_of_ble_eq_true rfl) (fun r6 I6 P6 hr6 hf6 => ?_)
  obtain ⟨i6, p6, q6⟩ := hf6
  rw [i6, p6, q6]
  refine x_istore_n (i := 3) dX12_restFrom_9 rfl rfl (Nat.le_of_ble_eq_true rfl) ?_
  refine y_ic dX12_restFrom_10 ⟨by decide, by decide⟩ ?_
  refine x_istore (i := 4) dX12_restFrom_11 rfl (Nat.le_of_ble_eq_true rfl) ?_
  refine x_keep [1, 1, 1, 1, 1] ?_
  have := hL _ 0 (Nat.lt_succ_self _) (Int.le_refl 0) hp.1
  rw [show colS (I 143) s 0 = 0 from rfl, Int.sub_zero] at this
  exact this
theorem c_X12_deals {p s : Int} {m : Rw} (hW : WP P) (hT : MT I T) (hF : WF T) (hr : RW T (I 98)) (hp : 0 ≤ p ∧ p < T 0 1) (hs : 0 ≤ s ∧ s ≤ T 0 2) (hj : 8 * p + s ≤ 8 * (T 0 1 - 1)) (hm : ∀ c, 0 ≤ c → c < 8 * p + s → I 143 c = m c) (hP : PVl (LfS T (I 98)) m (8 * p + s)) : Cv G mX12_deals (d + 2) 0 0 [.inr (.inl 91), .inl p, .inl s] NO I P (qV (fun n' I' P' => n' = NO ∧ P' = P ∧ Fr [143] [] I I' ∧ (∀ c, 0 ≤ c → c < 8 * T 0 1 → c % 8 < T 0 2 → I' 143 c = fsS (T 0 1) (LfS T (I 98)) (8 * p + s) m c) ∧ ∀ c, 8 * T 0 1 ≤ c ∨ T 0 2 ≤ c % 8 → I' 143 c = I 143 c)) := by
  have f1 := hF.1
  have f2 := hF.2.1
  have hV := fsS_V (K := T 0 1) (L := LfS T (I 98)) (j := 8 * p + s) (m := m) ⟨by omega, hj⟩ hP
  have hpre : ∀ c, 0 ≤ c → c < 8 * p + s → fsS (T 0 1) (LfS T (I 98)) (8 * p + s) m c = m c := fun c c0 c1 => by unfold fsS; rw [if_neg (by omega), if_pos c1]
  have hrest : ∀ q x, 0 ≤ q → q < T 0 1 → 0 ≤ x → x < 8 → 8 * p + s ≤ 8 * q + x → fsS (T 0 1) (LfS T (I 98)) (8 * p + s) m (8 * q + x) = LfS T (I 98) x - colS (fsS (T 0 1) (LfS T (I 98)) (8 * p + s) m) x q := fun q x q0 q1 x0 x1 h => fs_rest (by omega) ⟨q0, q1⟩ ⟨x0, x1⟩ h
  obtain ⟨F, hF0⟩ : ∃ F, F = fsS (T 0 1) (LfS T (I 98)) (8 * p + s) m := ⟨_, rfl⟩
  have hcb : ∀ (J : Mem) (x q : Int), 0 ≤ x → x < 8 → 0 ≤ q → q < T 0 1 → (∀ q', 0 ≤ q' → q' < q → J 143 (8 * q' + x) = F (8 * q' + x)) → (∀ q', 0 ≤ q' → q' < q → 0 ≤ J 143 (8 * q' + x)) ∧ colS (J 143) x q ≤ LfS T (I 98) x ∧ colS (J 143) x q = colS F x q := fun J x q x0 x1 q0 q1 h => by
    have e := colS_congr (m := J 143) (m' := F) (x := x) (p := q) h
    rw [← hF0] at hV
    refine ⟨fun q' a b => by rw [h q' a b]; exact hV.2.1 _ (by omega) (by omega), ?_, e⟩
    rw [e, ← hV.1 x x0 x1]
    exact colS_mo ⟨q0, by omega⟩ (fun q' a b => hV.2.1 _ (by omega) (by omega))
  rw [← hF0] at hpre hrest
  refine x_enter mfX12_deals rfl (Nat.le_of_ble_eq_true rfl) (fun _ => ?_)
  have h2 : ∀ (j : Nat) (q : Int) (K : Mem), (T 0 1 - q).toNat < j → p + 1 ≤ q → q ≤ T 0 1 → (∀ c, 0 ≤ c → c < 8 * q → c % 8 < T 0 2 → K 143 c = F c) → (∀ c, 8 * T 0 1 ≤ c ∨ T 0 2 ≤ c % 8 → K 143 c = I 143 c) → Fr [143] [] I K → V G mX12_deals (d + 2) 0 0 37 [some (.inr (.inl 91)), none, none, some (.inl (q)), none] [] NO K P (qV (fun n' I' P' => n' = NO ∧ P' = P ∧ Fr [143] [] I I' ∧ (∀ c, 0 ≤ c → c < 8 * T 0 1 → c % 8 < T 0 2 → I' 143 c = fsS (T 0 1) (LfS T (I 98)) (8 * p + s) m c) ∧ ∀ c, 8 * T 0 1 ≤ c ∨ T 0 2 ≤ c % 8 → I' 143 c = I 143 c)) := by
    intro j
    induction j with
    | zero => intro q K hj; omega
    | succ j ih =>
      intro q K hj hq hq2 hc ho hFr
      have hTK := hT.fr hFr
      have e1 : K 91 1 = T 0 1 := hTK.1 1 (by decide) (by decide)
      have hI : q < T 0 1 → ∀ (j : Nat) (x : Int) (K : Mem), (T 0 2 - x).toNat < j → 0 ≤ x → x ≤ T 0 2 → (∀ c, 0 ≤ c → c < 8 * q + x → c % 8 < T 0 2 → K 143 c = F c) → (∀ c, 8 * T 0 1 ≤ c ∨ T 0 2 ≤ c % 8 → K 143 c = I 143 c) → Fr [143] [] I K → V G mX12_deals (d + 2) 0 0 48 [some (.inr (.inl 91)), none, none, some (.inl (q)), some (.inl (x))] [] NO K P (qV (fun n' I' P' => n' = NO ∧ P' = P ∧ Fr [143] [] I I' ∧ (∀ c, 0 ≤ c → c < 8 * T 0 1 → c % 8 < T 0 2 → I' 143 c = fsS (T 0 1) (LfS T (I 98)) (8 * p + s) m c) ∧ ∀ c, 8 * T 0 1 ≤ c ∨ T 0 2 ≤ c % 8 → I' 143 c = I 143 c)) := by
        intro hq3 j
        induction j with
        | zero => intro x K hj; omega
        | succ j ihx =>
          intro x K hj hx hx2 hc ho hFr
          have hTK := hT.fr hFr
          have e2 : K 91 2 = T 0 2 := hTK.1 2 (by decide) (by decide)
          have e98 : K 98 = I 98 := hFr.1 98 (by decide) (by decide)
          have hcx := fun (z : x < T 0 2) => hcb K x q hx (by omega) (by omega) hq3 (fun q' a b => hc _ (by omega) (by omega) (by omega))
          refine x_iload (i := 4) dX12_deals_48 rfl ?_
          refine y_aln (i := 0) dX12_deals_50 at91.ne0 rfl rfl ?_
          refine y_geti (z := 2) dX12_deals_51 frX12_7 cfX12 at91 rfl rfl ?_
          refine x_icmp_ge (tgt := 82) dX12_deals_54 rfl (fun h54 => ?_) (fun h54 => ?_)
          · refine x_iinc dX12_deals_82 rfl ⟨by omega, by omega⟩ rfl (Nat.le_of_ble_eq_true rfl) ?_
            refine x_goto (tgt := 37) dX12_deals_85 rfl ?_
            refine x_keep [1, 0, 0, 1, 0] ?_
            exact ih (q + 1) K (by omega) (by omega) (by omega) (fun c c0 c1 c2 => hc c c0 (by omega) c2) ho hFr
          · obtain ⟨cx1, cx2, cx3⟩ := hcx (by omega)
            refine y_aln (i := 0) dX12_deals_57 at91.ne0 rfl rfl ?_
            refine y_getp (z := 91) (v := 143) dX12_deals_58 frX12_178 cfX12 at91 rfl rfl (wp (v := 143) hW rfl rfl (by decide)) ?_
            refine y_bi dX12_deals_61 ⟨by decide, by decide⟩ ?_
            refine x_iload_n (i := 3) dX12_deals_63 rfl rfl ?_
            refine x_imul dX12_deals_64 ⟨by omega, by omega⟩ ?_
            refine x_iload (i := 4) dX12_deals_65 rfl ?_
            refine x_iadd dX12_deals_67 ⟨by omega, by omega⟩ ?_
            refine y_aln (i := 0) dX12_deals_68 at91.ne0 rfl rfl ?_
            refine x_iload_n (i := 3) dX12_deals_69 rfl rfl ?_
            refine x_iload (i := 4) dX12_deals_70 rfl ?_
            refine x_callVI (c_X12_restFrom hW hTK hF (by rw [e98]; exact hr.rc) (by omega) (by omega) cx1 (by rw [e98]; exact cx2)) dX12_deals_72 lkX12_522 mfX12_restFrom cfX12 at91 rfl rfl rfl rfl (Nat.le_of_ble_eq_true rfl) (fun r72 I72 P72 hr72 hf72 => ?_)
            obtain ⟨i72, p72, q72⟩ := hf72
            rw [i72, p72, q72]
            rw [e98, cx3, ← hrest q x (by omega) hq3 hx (by omega) (by omega)]
            refine x_iast dX12_deals_75 ar143 ⟨by omega, by omega⟩ ?_
            refine x_iinc dX12_deals_76 rfl ⟨by omega, by omega⟩ rfl (Nat.le_of_ble_eq_true rfl) ?_
            refine x_goto (tgt := 48) dX12_deals_79 rfl ?_
            refine x_keep [1, 0, 0, 1, 1] ?_
            refine ihx (x + 1) _ (by omega) (by omega) (by omega) (fun c c0 c1 c2 => ?_) (fun c c0 => by rw [uI_eq, u1_ne (by omega)]; exact ho c c0) (hFr.ui (by decide) (by decide))
            rw [uI_eq]
            by_cases e : c = 8 * q + x
            · rw [e, u1_eq]
            · rw [u1_ne e]; exact hc c c0 (by omega) c2
      refine x_iload_n (i := 3) dX12_deals_37 rfl rfl ?_
      refine y_aln (i := 0) dX12_deals_38 at91.ne0 rfl rfl ?_
      refine y_geti (z := 1) dX12_deals_39 frX12_316 cfX12 at91 rfl rfl ?_
      refine x_icmp_ge (tgt := 88) dX12_deals_42 rfl (fun h42 => ?_) (fun h42 => ?_)
      · refine x_vret dX12_deals_88 rfl ?_
        exact ⟨rfl, rfl, hFr, fun c c0 c1 c2 => by rw [← hF0]; exact hc c c0 (by omega) c2, ho⟩
      · refine y_ic dX12_deals_45 ⟨by decide, by decide⟩ ?_
        refine x_istore (i := 4) dX12_deals_46 rfl (Nat.le_of_ble_eq_true rfl) ?_
        refine x_keep [1, 0, 0, 1, 1] ?_
        exact hI (by omega) _ 0 K (Nat.lt_succ_self _) (Int.le_refl 0) (by omega) (fun c c0 c1 c2 => hc c c0 (by omega) c2) ho hFr
  have h1 : ∀ (j : Nat) (x : Int) (K : Mem), (T 0 2 - x).toNat < j → s ≤ x → x ≤ T 0 2 → (∀ c, 0 ≤ c → c < 8 * p + x → c % 8 < T 0 2 → K 143 c = F c) → (∀ c, 8 * T 0 1 ≤ c ∨ T 0 2 ≤ c % 8 → K 143 c = I 143 c) → Fr [143] [] I K → V G mX12_deals (d + 2) 0 0 2 [some (.inr (.inl 91)), some (.inl (p)), none, some (.inl (x)), none] [] NO K P (qV (fun n' I' P' => n' = NO ∧ P' = P ∧ Fr [143] [] I I' ∧ (∀ c, 0 ≤ c → c < 8 * T 0 1 → c % 8 < T 0 2 → I' 143 c = fsS (T 0 1) (LfS T (I 98)) (8 * p + s) m c) ∧ ∀ c, 8 * T 0 1 ≤ c ∨ T 0 2 ≤ c % 8 → I' 143 c = I 143 c)) := by
    intro j
    induction j with
    | zero => intro x K hj; omega
    | succ j ih =>
      intro x K hj hx hx2 hc ho hFr
      have hTK := hT.fr hFr
      have e2 : K 91 2 = T 0 2 := hTK.1 2 (by decide) (by decide)
      have e98 : K 98 = I 98 := hFr.1 98 (by decide) (by decide)
      have hcx := fun (z : x < T 0 2) => hcb K x p (by omega) (by omega) (by omega) hp.2 (fun q' a b => hc _ (by omega) (by omega) (by omega))
      refine x_iload_n (i := 3) dX12_deals_2 rfl rfl ?_
      refine y_aln (i := 0) dX12_deals_3 at91.ne0 rfl rfl ?_
      refine y_geti (z := 2) dX12_deals_4 frX12_7 cfX12 at91 rfl rfl ?_
      refine x_icmp_ge (tgt := 33) dX12_deals_7 rfl (fun h7 => ?_) (fun h7 => ?_)
      · refine x_iload_n (i := 1) dX12_deals_33 rfl rfl ?_
        refine y_ic dX12_deals_34 ⟨by decide, by decide⟩ ?_
        refine x_iadd dX12_deals_35 ⟨by omega, by omega⟩ ?_
        refine x_istore_n (i := 3) dX12_deals_36 rfl rfl (Nat.le_of_ble_eq_true rfl) ?_
        refine x_keep [1, 0, 0, 1, 0] ?_
        exact h2 _ (p + 1) K (Nat.lt_succ_self _) (by omega) (by omega) (fun c c0 c1 c2 => hc c c0 (by omega) c2) ho hFr
      · obtain ⟨cx1, cx2, cx3⟩ := hcx (by omega)
        refine y_aln (i := 0) dX12_deals_10 at91.ne0 rfl rfl ?_
        refine y_getp (z := 91) (v := 143) dX12_deals_11 frX12_178 cfX12 at91 rfl rfl (wp (v := 143) hW rfl rfl (by decide)) ?_
        refine y_bi dX12_deals_14 ⟨by decide, by decide⟩ ?_
        refine x_iload_n (i := 1) dX12_deals_16 rfl rfl ?_
        refine x_imul dX12_deals_17 ⟨by omega, by omega⟩ ?_
        refine x_iload_n (i := 3) dX12_deals_18 rfl rfl ?_
        refine x_iadd dX12_deals_19 ⟨by omega, by omega⟩ ?_
        refine y_aln (i := 0) dX12_deals_20 at91.ne0 rfl rfl ?_
        refine x_iload_n (i := 1) dX12_deals_21 rfl rfl ?_
        refine x_iload_n (i := 3) dX12_deals_22 rfl rfl ?_
        refine x_callVI (c_X12_restFrom hW hTK hF (by rw [e98]; exact hr.rc) (by omega) (by omega) cx1 (by rw [e98]; exact cx2)) dX12_deals_23 lkX12_522 mfX12_restFrom cfX12 at91 rfl rfl rfl rfl (Nat.le_of_ble_eq_true rfl) (fun r23 I23 P23 hr23 hf23 => ?_)
        obtain ⟨i23, p23, q23⟩ := hf23
        rw [i23, p23, q23]
        rw [e98, cx3, ← hrest p x (by omega) hp.2 (by omega) (by omega) (by omega)]
        refine x_iast dX12_deals_26 ar143 ⟨by omega, by omega⟩ ?_
        refine x_iinc dX12_deals_27 rfl ⟨by omega, by omega⟩ rfl (Nat.le_of_ble_eq_true rfl) ?_
        refine x_goto (tgt := 2) dX12_deals_30 rfl ?_
        refine x_keep [1, 1, 0, 1, 0] ?_
        refine ih (x + 1) _ (by omega) (by omega) (by omega) (fun c c0 c1 c2 => ?_) (fun c c0 => by rw [uI_eq, u1_ne (by omega)]; exact ho c c0) (hFr.ui (by decide) (by decide))
        rw [uI_eq]
        by_cases e : c = 8 * p + x
        · rw [e, u1_eq]
        · rw [u1_ne e]; exact hc c c0 (by omega) c2
  refine x_iload_n (i := 2) dX12_deals_0 rfl rfl ?_
  refine x_istore_n (i := 3) dX12_deals_1 rfl rfl (Nat.le_of_ble_eq_true rfl) ?_
  refine x_keep [1, 1, 0, 1, 0] ?_
  exact h1 _ s I (Nat.lt_succ_self _) (by omega) (by omega) (fun c c0 c1 c2 => by rw [hpre c c0 c1]; exact hm c c0 c1) (fun _ _ => rfl) Fr.rf
theorem c_X12_sharesOn {m : Rw} (hW : WP P) (hT : MT I T) (hF : WF T) (hr : RW T (I 98)) (h1p : 1 ≤ T 0 1) (hV : VSh (T 0 1) (LfS T (I 98)) m) (hm : ∀ c, 0 ≤ c → c < 48 → I 143 c = m c) : Cv G mX12_sharesOn (d + 3) 0 0 [.inr (.inl 91)] NO I P (qI NO (fun r I' P' => P' = P ∧ Fr [143] [] I I' ∧ ((r = 1 ∧ shI (T 0 1) m ≠ -1 ∧ ∀ c, 0 ≤ c → c < 48 → I' 143 c = nxT (T 0 1) (LfS T (I 98)) m c) ∨ (r = 0 ∧ shI (T 0 1) m = -1)))) := by
  have f1 := hF.1
  have f2 := hF.2.1
  have e1 : I 91 1 = T 0 1 := hT.1 1 (by decide) (by decide)
  have e2 : I 91 2 = T 0 2 := hT.1 2 (by decide) (by decide)
  have hz : ∀ p x, 0 ≤ p → T 0 2 ≤ x → x < 8 → m (8 * p + x) = 0 := fun p x p0 x0 x1 => VSh_z hV ⟨by omega, x1⟩ (LfS_z hF hr ⟨x0, x1⟩) p0
  have hb : ∀ c, 0 ≤ c → c < 48 → 0 ≤ m c ∧ m c ≤ 960 := fun c c0 c1 => (VSh_RW hF hr hV).rc c c0 c1
  refine x_enter mfX12_sharesOn rfl (Nat.le_of_ble_eq_true rfl) (fun _ => ?_)
  have hO : ∀ (j : Nat) (p : Int), (p + 1).toNat < j → -1 ≤ p → p ≤ T 0 1 - 2 → (∀ c, 8 * (p + 1) ≤ c → c < 8 * (T 0 1 - 1) → m c = 0) → V G mX12_sharesOn (d + 3) 0 0 7 [some (.inr (.inl 91)), some (.inl (p)), none] [] NO I P (qI NO (fun r I' P' => P' = P ∧ Fr [143] [] I I' ∧ ((r = 1 ∧ shI (T 0 1) m ≠ -1 ∧ ∀ c, 0 ≤ c → c < 48 → I' 143 c = nxT (T 0 1) (LfS T (I 98)) m c) ∨ (r = 0 ∧ shI (T 0 1) m = -1)))) := by
    intro j
    induction j with
    | zero => intro p hj; omega
    | succ j ih =>
      intro p hj hp hp2 hno
      have hI : 0 ≤ p → ∀ (j : Nat) (s : Int), (s + 1).toNat < j → -1 ≤ s → s < T 0 2 → (∀ c, 8 * p + s < c → c < 8 * (T 0 1 - 1) → m c = 0) → V G mX12_sharesOn (d + 3) 0 0 18 [some (.inr (.inl 91)), some (.inl (p)), some (.inl (s))] [] NO I P (qI NO (fun r I' P' => P' = P ∧ Fr [143] [] I I' ∧ ((r = 1 ∧ shI (T 0 1) m ≠ -1 ∧ ∀ c, 0 ≤ c → c < 48 → I' 143 c = nxT (T 0 1) (LfS T (I 98)) m c) ∨ (r = 0 ∧ shI (T 0 1) m = -1)))) := by
        intro hp0 j
        induction j with
        | zero => intro s hj; omega
        | succ j ihs =>
          intro s hj hs hs2 hno
          have em : 0 ≤ s → I 143 (8 * p + s) = m (8 * p + s) := fun z => hm _ (by omega) (by omega)
          have hbs := fun (z : 0 ≤ s) => hb (8 * p + s) (by omega) (by omega)
          have hi : 0 ≤ s → m (8 * p + s) ≠ 0 → shI (T 0 1) m = 8 * p + s := fun z q => lastS_is ⟨by omega, by omega⟩ (by have := hbs z; omega) (fun x x0 x1 => by rw [hno x x0 x1]; omega)
          have hfin : 0 ≤ s → m (8 * p + s) ≠ 0 → ∀ (J : Mem) (j' : Int), Fr [143] [] I J → fsS (T 0 1) (LfS T (I 98)) j' (u1 m (8 * p + s) (m (8 * p + s) - 1)) = fsS (T 0 1) (LfS T (I 98)) (8 * p + s + 1) (u1 m (8 * p + s) (m (8 * p + s) - 1)) → (∀ c, 0 ≤ c → c < 8 * T 0 1 → c % 8 < T 0 2 → J 143 c = fsS (T 0 1) (LfS T (I 98)) j' (u1 m (8 * p + s) (m (8 * p + s) - 1)) c) → (∀ c, 8 * T 0 1 ≤ c ∨ T 0 2 ≤ c % 8 → J 143 c = uI I 143 (8 * p + s) (m (8 * p + s) - 1) 143 c) → V G mX12_sharesOn (d + 3) 0 0 93 [none, none, none] [] NO J P (qI NO (fun r I' P' => P' = P ∧ Fr [143] [] I I' ∧ ((r = 1 ∧ shI (T 0 1) m ≠ -1 ∧ ∀ c, 0 ≤ c → c < 48 → I' 143 c = nxT (T 0 1) (LfS T (I 98)) m c) ∨ (r = 0 ∧ shI (T 0 1) m = -1)))) := fun z q J j' hFr hjj h1 h2 => by
            have hin := hi z q
            have hnV := nxT_V hV (by rw [hin]; omega)
            have hnx : nxT (T 0 1) (LfS T (I 98)) m = fsS (T 0 1) (LfS T (I 98)) (8 * p + s + 1) (u1 m (8 * p + s) (m (8 * p + s) - 1)) := by unfold nxT; rw [hin]
            refine y_ic dX12_sharesOn_93 ⟨by decide, by decide⟩ ?_
            refine x_zret dX12_sharesOn_94 (by omega) rfl ?_
            refine ⟨rfl, hFr, Or.inl ⟨rfl, by rw [hin]; omega, fun c c0 c1 => ?_⟩⟩
            by_cases q1 : c < 8 * T 0 1 ∧ c % 8 < T 0 2
            · rw [h1 c c0 q1.1 q1.2, hjj, ← hnx]
            · have e9 : c ≠ 8 * p + s := by omega
              rw [h2 c (by omega), uI_eq, u1_ne e9, hm c c0 c1]
              by_cases q2 : c < 8 * T 0 1
              · have a1 := hz (c / 8) (c % 8) (by omega) (by omega) (by omega)
                have a2 := VSh_z hnV (x := c % 8) ⟨by omega, by omega⟩ (LfS_z hF hr ⟨by omega, by omega⟩) (p := c / 8) (by omega)
                rw [show 8 * (c / 8) + c % 8 = c by omega] at a1 a2
                rw [a1, a2]
              · rw [hV.2.2 c (by omega), hnV.2.2 c (by omega)]
          have hP := fun (z : 0 ≤ s) (q : m (8 * p + s) ≠ 0) => nxT_P hV (by rw [hi z q]; omega)
          have hgo : 0 ≤ s → m (8 * p + s) ≠ 0 → V G mX12_sharesOn (d + 3) 0 0 54 [some (.inr (.inl 91)), some (.inl (p)), some (.inl (s))] [] NO (uI I 143 (8 * p + s) (m (8 * p + s) - 1)) P (qI NO (fun r I' P' => P' = P ∧ Fr [143] [] I I' ∧ ((r = 1 ∧ shI (T 0 1) m ≠ -1 ∧ ∀ c, 0 ≤ c → c < 48 → I' 143 c = nxT (T 0 1) (LfS T (I 98)) m c) ∨ (r = 0 ∧ shI (T 0 1) m = -1)))) := fun z q => by
            have hFr1 : Fr [143] [] I (uI I 143 (8 * p + s) (m (8 * p + s) - 1)) := Fr.rf.ui (by decide) (by decide)
            have hT1 := hT.fr hFr1
            have a1 : uI I 143 (8 * p + s) (m (8 * p + s) - 1) 91 1 = T 0 1 := hT1.1 1 (by decide) (by decide)
            have a2 : uI I 143 (8 * p + s) (m (8 * p + s) - 1) 91 2 = T 0 2 := hT1.1 2 (by decide) (by decide)
            have a98 : uI I 143 (8 * p + s) (m (8 * p + s) - 1) 98 = I 98 := hFr1.1 98 (by decide) (by decide)
            have hPz := hP z q
            rw [hi z q] at hPz
            have hval : ∀ c, 0 ≤ c → c < 48 → uI I 143 (8 * p + s) (m (8 * p + s) - 1) 143 c = u1 m (8 * p + s) (m (8 * p + s) - 1) c := fun c c0 c1 => by
              rw [uI_eq]
              by_cases e : c = 8 * p + s
              · rw [e, u1_eq, u1_eq]
              · rw [u1_ne e, u1_ne e]; exact hm c c0 c1
            have hjj : s + 1 = T 0 2 → fsS (T 0 1) (LfS T (I 98)) (8 * (p + 1) + 0) (u1 m (8 * p + s) (m (8 * p + s) - 1)) = fsS (T 0 1) (LfS T (I 98)) (8 * p + s + 1) (u1 m (8 * p + s) (m (8 * p + s) - 1)) ∧ PVl (LfS T (I 98)) (u1 m (8 * p + s) (m (8 * p + s) - 1)) (8 * (p + 1) + 0) := fun e => by
              have hstep : ∀ k, 0 ≤ k → s + 1 + k ≤ 8 → fsS (T 0 1) (LfS T (I 98)) (8 * p + s + 1 + k) (u1 m (8 * p + s) (m (8 * p + s) - 1)) = fsS (T 0 1) (LfS T (I 98)) (8 * p + s + 1) (u1 m (8 * p + s) (m (8 * p + s) - 1)) ∧ PVl (LfS T (I 98)) (u1 m (8 * p + s) (m (8 * p + s) - 1)) (8 * p + s + 1 + k) := fun k hk => int_ind (p := fun k => s + 1 + k ≤ 8 → fsS (T 0 1) (LfS T (I 98)) (8 * p + s + 1 + k) (u1 m (8 * p + s) (m (8 * p + s) - 1)) = fsS (T 0 1) (LfS T (I 98)) (8 * p + s + 1) (u1 m (8 * p + s) (m (8 * p + s) - 1)) ∧ PVl (LfS T (I 98)) (u1 m (8 * p + s) (m (8 * p + s) - 1)) (8 * p + s + 1 + k)) (fun _ => by rw [Int.add_zero]; exact ⟨rfl, hPz.2.2⟩) (fun k hk ihk hh => by
                have ih1 := ihk (by omega)
                have hx : (8 * p + s + 1 + k) % 8 = s + 1 + k ∧ (8 * p + s + 1 + k) / 8 = p := by omega
                have hL0 : LfS T (I 98) (s + 1 + k) = 0 := LfS_z hF hr ⟨by omega, by omega⟩
                have hc0 : ∀ n, 0 ≤ n → n ≤ p + 1 → colS (u1 m (8 * p + s) (m (8 * p + s) - 1)) (s + 1 + k) n = 0 := fun n n0 n1 => sumN_z (fun q' q0 q1 => by
                  rw [u1_ne (by omega)]
                  exact hz q' (s + 1 + k) q0 (by omega) (by omega))
                have hst := fsS_step (K := T 0 1) (L := LfS T (I 98)) (m := u1 m (8 * p + s) (m (8 * p + s) - 1)) (j := 8 * p + s + 1 + k) ⟨by omega, by omega⟩
                rw [hx.1, hx.2, hL0, hc0 p hp0 (by omega)] at hst
                have hid : u1 (u1 m (8 * p + s) (m (8 * p + s) - 1)) (8 * p + s + 1 + k) (0 - 0) = u1 m (8 * p + s) (m (8 * p + s) - 1) := by
                  funext c
                  by_cases ec : c = 8 * p + s + 1 + k
                  · rw [ec, u1_eq, u1_ne (by omega), show 8 * p + s + 1 + k = 8 * p + (s + 1 + k) by omega, hz p (s + 1 + k) hp0 (by omega) (by omega)]; rfl
                  · rw [u1_ne ec]
                rw [hid] at hst
                rw [← Int.add_assoc]
                refine ⟨by rw [← hst]; exact ih1.1, fun c c0 c1 => ?_, fun x x0 x1 => ?_⟩
                · by_cases ec : c = 8 * p + s + 1 + k
                  · rw [ec, u1_ne (by omega), show 8 * p + s + 1 + k = 8 * p + (s + 1 + k) by omega, hz p (s + 1 + k) hp0 (by omega) (by omega)]; exact Int.le_refl _
                  · exact ih1.2.1 c c0 (by omega)
                · by_cases ex : x = s + 1 + k
                  · unfold rsS
                    rw [ex, hL0, hc0 _ (by unfold owS; omega) (by unfold owS; omega)]
                    exact Int.le_refl _
                  · have := ih1.2.2 x x0 x1
                    unfold rsS at this ⊢
                    rw [show owS (8 * p + s + 1 + k + 1) x = owS (8 * p + s + 1 + k) x by unfold owS; omega]
                    exact this) k hk
              have := hstep (8 - (s + 1)) (by omega) (by omega)
              rw [show 8 * p + s + 1 + (8 - (s + 1)) = 8 * (p + 1) + 0 by omega] at this
              exact this
            refine x_iload_n (i := 2) dX12_sharesOn_54 rfl rfl ?_
            refine y_ic dX12_sharesOn_55 ⟨by decide, by decide⟩ ?_
            refine x_iadd dX12_sharesOn_56 ⟨by omega, by omega⟩ ?_
            refine y_aln (i := 0) dX12_sharesOn_57 at91.ne0 rfl rfl ?_
            refine y_geti (z := 2) dX12_sharesOn_58 frX12_7 cfX12 at91 rfl rfl ?_
            refine x_icmp_ge (tgt := 75) dX12_sharesOn_61 rfl (fun h61 => ?_) (fun h61 => ?_)
            · refine x_iload_n (i := 1) dX12_sharesOn_75 rfl rfl ?_
              refine y_ic dX12_sharesOn_76 ⟨by decide, by decide⟩ ?_
              refine x_iadd dX12_sharesOn_77 ⟨by omega, by omega⟩ ?_
              refine y_aln (i := 0) dX12_sharesOn_78 at91.ne0 rfl rfl ?_
              refine y_geti (z := 1) dX12_sharesOn_79 frX12_316 cfX12 at91 rfl rfl ?_
              refine x_icmp_ge (tgt := 93) dX12_sharesOn_82 rfl (fun h82 => ?_) (fun h82 => ?_)
              · exact absurd h82 (by omega)
              · refine y_aln (i := 0) dX12_sharesOn_85 at91.ne0 rfl rfl ?_
                refine x_iload_n (i := 1) dX12_sharesOn_86 rfl rfl ?_
                refine y_ic dX12_sharesOn_87 ⟨by decide, by decide⟩ ?_
                refine x_iadd dX12_sharesOn_88 ⟨by omega, by omega⟩ ?_
                refine y_ic dX12_sharesOn_89 ⟨by decide, by decide⟩ ?_
                refine x_callVV (c_X12_deals (m := u1 m (8 * p + s) (m (8 * p + s) - 1)) hW hT1 hF (by rw [a98]; exact hr) ⟨by omega, by omega⟩ ⟨by decide, by omega⟩ (by omega) (fun c c0 c1 => hval c c0 (by omega)) (by rw [a98]; exact (hjj (by omega)).2)) dX12_sharesOn_90 lkX12_525 mfX12_deals cfX12 at91 rfl rfl rfl rfl (Nat.le_of_ble_eq_true rfl) (fun n90 I90 P90 hf90 => ?_)
                rw [a98] at hf90
                obtain ⟨rfl, rfl, fr90, v90, o90⟩ := hf90
                refine x_keep [0, 0, 0] ?_
                first | exact hfin z q I69 _ (hFr1.tr fr69) rfl v69 o69 | exact hfin z q I90 _ (hFr1.tr fr90) (hjj (by omega)).1 v90 o90
            · refine y_aln (i := 0) dX12_sharesOn_64 at91.ne0 rfl rfl ?_
              refine x_iload_n (i := 1) dX12_sharesOn_65 rfl rfl ?_
              refine x_iload_n (i := 2) dX12_sharesOn_66 rfl rfl ?_
              refine y_ic dX12_sharesOn_67 ⟨by decide, by decide⟩ ?_
              refine x_iadd dX12_sharesOn_68 ⟨by omega, by omega⟩ ?_
              refine x_callVV (c_X12_deals (m := u1 m (8 * p + s) (m (8 * p + s) - 1)) hW hT1 hF (by rw [a98]; exact hr) ⟨hp0, by omega⟩ ⟨by omega, by omega⟩ (by omega) (fun c c0 c1 => hval c c0 (by omega)) (by rw [a98, ← Int.add_assoc]; exact hPz.2.2)) dX12_sharesOn_69 lkX12_525 mfX12_deals cfX12 at91 rfl rfl rfl rfl (Nat.le_of_ble_eq_true rfl) (fun n69 I69 P69 hf69 => ?_)
              rw [a98] at hf69
              obtain ⟨rfl, rfl, fr69, v69, o69⟩ := hf69
              rw [← Int.add_assoc] at v69
              refine x_goto (tgt := 93) dX12_sharesOn_72 rfl ?_
              refine x_keep [0, 0, 0] ?_
              first | exact hfin z q I69 _ (hFr1.tr fr69) rfl v69 o69 | exact hfin z q I90 _ (hFr1.tr fr90) (hjj (by omega)).1 v90 o90
          refine x_iload_n (i := 2) dX12_sharesOn_18 rfl rfl ?_
          refine x_if_lt (tgt := 101) dX12_sharesOn_19 rfl (fun h19 => ?_) (fun h19 => ?_)
          · refine x_iinc dX12_sharesOn_101 rfl ⟨by omega, by omega⟩ rfl (Nat.le_of_ble_eq_true rfl) ?_
            refine x_goto (tgt := 7) dX12_sharesOn_104 rfl ?_
            refine x_keep [1, 1, 0] ?_
            exact ih (p - 1) (by omega) (by omega) (by omega) (fun c c0 c1 => hno c (by omega) c1)
          · have em' := em (by omega)
            have hbs' := hbs (by omega)
            refine y_aln (i := 0) dX12_sharesOn_22 at91.ne0 rfl rfl ?_
            refine y_getp (z := 91) (v := 143) dX12_sharesOn_23 frX12_178 cfX12 at91 rfl rfl (wp (v := 143) hW rfl rfl (by decide)) ?_
            refine y_bi dX12_sharesOn_26 ⟨by decide, by decide⟩ ?_
            refine x_iload_n (i := 1) dX12_sharesOn_28 rfl rfl ?_
            refine x_imul dX12_sharesOn_29 ⟨by omega, by omega⟩ ?_
            refine x_iload_n (i := 2) dX12_sharesOn_30 rfl rfl ?_
            refine x_iadd dX12_sharesOn_31 ⟨by omega, by omega⟩ ?_
            refine x_iald dX12_sharesOn_32 ar143 ⟨by omega, by omega⟩ ?_
            refine x_if_ne (tgt := 39) dX12_sharesOn_33 rfl (fun h33 => ?_) (fun h33 => ?_)
            · refine y_aln (i := 0) dX12_sharesOn_39 at91.ne0 rfl rfl ?_
              refine y_getp (z := 91) (v := 143) dX12_sharesOn_40 frX12_178 cfX12 at91 rfl rfl (wp (v := 143) hW rfl rfl (by decide)) ?_
              refine y_bi dX12_sharesOn_43 ⟨by decide, by decide⟩ ?_
              refine x_iload_n (i := 1) dX12_sharesOn_45 rfl rfl ?_
              refine x_imul dX12_sharesOn_46 ⟨by omega, by omega⟩ ?_
              refine x_iload_n (i := 2) dX12_sharesOn_47 rfl rfl ?_
              refine x_iadd dX12_sharesOn_48 ⟨by omega, by omega⟩ ?_
              refine x_dup2 dX12_sharesOn_49 rfl rfl ?_
              refine x_iald dX12_sharesOn_50 ar143 ⟨by omega, by omega⟩ ?_
              rw [em']
              refine y_ic dX12_sharesOn_51 ⟨by decide, by decide⟩ ?_
              refine x_isub dX12_sharesOn_52 ⟨by omega, by omega⟩ ?_
              refine x_iast dX12_sharesOn_53 ar143 ⟨by omega, by omega⟩ ?_
              refine x_keep [1, 1, 1] ?_
              exact hgo (by omega) (by omega)
            · refine x_goto (tgt := 95) dX12_sharesOn_36 rfl ?_
              refine x_iinc dX12_sharesOn_95 rfl ⟨by omega, by omega⟩ rfl (Nat.le_of_ble_eq_true rfl) ?_
              refine x_goto (tgt := 18) dX12_sharesOn_98 rfl ?_
              refine x_keep [1, 1, 1] ?_
              exact ihs (s - 1) (by omega) (by omega) (by omega) (fun c c0 c1 => by
                by_cases e : c = 8 * p + s
                · rw [e]; omega
                · exact hno c (by omega) c1)
      refine x_iload_n (i := 1) dX12_sharesOn_7 rfl rfl ?_
      refine x_if_lt (tgt := 107) dX12_sharesOn_8 rfl (fun h8 => ?_) (fun h8 => ?_)
      · refine y_ic dX12_sharesOn_107 ⟨by decide, by decide⟩ ?_
        refine x_zret dX12_sharesOn_108 (by omega) rfl ?_
        exact ⟨rfl, Fr.rf, Or.inr ⟨rfl, lastS_no (fun x x0 x1 => by rw [hno x (by omega) x1]; omega)⟩⟩
      · refine y_aln (i := 0) dX12_sharesOn_11 at91.ne0 rfl rfl ?_
        refine y_geti (z := 2) dX12_sharesOn_12 frX12_7 cfX12 at91 rfl rfl ?_
        refine y_ic dX12_sharesOn_15 ⟨by decide, by decide⟩ ?_
        refine x_isub dX12_sharesOn_16 ⟨by omega, by omega⟩ ?_
        refine x_istore_n (i := 2) dX12_sharesOn_17 rfl rfl (Nat.le_of_ble_eq_true rfl) ?_
        refine x_keep [1, 1, 1] ?_
        refine hI (by omega) _ (I 91 2 - 1) (Nat.lt_succ_self _) (by omega) (by omega) (fun c c0 c1 => ?_)
        by_cases q : 8 * (p + 1) ≤ c
        · exact hno c q c1
        · have := hz p (c - 8 * p) (by omega) (by omega) (by omega)
          rw [show 8 * p + (c - 8 * p) = c by omega] at this
          exact this
  refine y_aln (i := 0) dX12_sharesOn_0 at91.ne0 rfl rfl ?_
  refine y_geti (z := 1) dX12_sharesOn_1 frX12_316 cfX12 at91 rfl rfl ?_
  refine y_ic dX12_sharesOn_4 ⟨by decide, by decide⟩ ?_
  refine x_isub dX12_sharesOn_5 ⟨by omega, by omega⟩ ?_
  refine x_istore_n (i := 1) dX12_sharesOn_6 rfl rfl (Nat.le_of_ble_eq_true rfl) ?_
  refine x_keep [1, 1, 0] ?_
  exact hO _ (I 91 1 - 2) (Nat.lt_succ_self _) (by omega) (by omega) (fun c c0 c1 => by omega)
theorem c_X12_waysToShare (hW : WP P) (hT : MT I T) (hF : WF T) (hr : RW T (I 98)) (h1p : 1 ≤ T 0 1) : Cv G mX12_waysToShare (d + 1) 0 0 [.inr (.inl 91)] NO I P (qL NO (fun r I' P' => I' = I ∧ P' = P ∧ (r ≤ 1500 ↔ wayW (T 0 1) (LfS T (I 98)) ≤ 1500))) := by
  have f1 := hF.1
  have f2 := hF.2.1
  have e1 : I 91 1 = T 0 1 := hT.1 1 (by decide) (by decide)
  have e2 : I 91 2 = T 0 2 := hT.1 2 (by decide) (by decide)
  have hfp : ∀ x, 0 ≤ x → x < 8 → 1 ≤ cw (T 0 1 - 1).toNat (LfS T (I 98) x) := fun x x0 x1 => cw_pos (LfS_nn hF hr x x0 x1).1
  have hpm : ∀ s, 0 ≤ s → s ≤ 8 → 1 ≤ prN (fun x => cw (T 0 1 - 1).toNat (LfS T (I 98) x)) s ∧ prN (fun x => cw (T 0 1 - 1).toNat (LfS T (I 98) x)) s ≤ wayW (T 0 1) (LfS T (I 98)) := fun s s0 s1 => by
    refine ⟨prN_pos (fun x x0 x1 => hfp x x0 (by omega)), ?_⟩
    have key : ∀ k, 0 ≤ k → s + k ≤ 8 → prN (fun x => cw (T 0 1 - 1).toNat (LfS T (I 98) x)) s ≤ prN (fun x => cw (T 0 1 - 1).toNat (LfS T (I 98) x)) (s + k) := fun k hk => int_ind (p := fun k => s + k ≤ 8 → prN (fun x => cw (T 0 1 - 1).toNat (LfS T (I 98) x)) s ≤ prN (fun x => cw (T 0 1 - 1).toNat (LfS T (I 98) x)) (s + k)) (fun _ => by rw [Int.add_zero]; exact Int.le_refl _) (fun k hk ih hh => by
      have h1 := ih (by omega)
      have h2 := prN_pos (f := fun x => cw (T 0 1 - 1).toNat (LfS T (I 98) x)) (n := s + k) (fun x x0 x1 => hfp x x0 (by omega))
      have h3 := hfp (s + k) (by omega) (by omega)
      rw [← Int.add_assoc, prN_s (by omega)]
      refine Int.le_trans h1 ?_
      have := Int.mul_le_mul_of_nonneg_left h3 (show 0 ≤ prN (fun x => cw (T 0 1 - 1).toNat (LfS T (I 98) x)) (s + k) by omega)
      rw [Int.mul_one] at this
      exact this) k hk
    have := key (8 - s) (by omega) (by omega)
    rwa [show s + (8 - s) = 8 by omega] at this
  have hend : prN (fun x => cw (T 0 1 - 1).toNat (LfS T (I 98) x)) (T 0 2) = wayW (T 0 1) (LfS T (I 98)) := by
    have key : ∀ k, 0 ≤ k → T 0 2 + k ≤ 8 → prN (fun x => cw (T 0 1 - 1).toNat (LfS T (I 98) x)) (T 0 2 + k) = prN (fun x => cw (T 0 1 - 1).toNat (LfS T (I 98) x)) (T 0 2) := fun k hk => int_ind (p := fun k => T 0 2 + k ≤ 8 → prN (fun x => cw (T 0 1 - 1).toNat (LfS T (I 98) x)) (T 0 2 + k) = prN (fun x => cw (T 0 1 - 1).toNat (LfS T (I 98) x)) (T 0 2)) (fun _ => by rw [Int.add_zero]) (fun k hk ih hh => by
      rw [← Int.add_assoc, prN_s (by omega), ih (by omega), LfS_z hF hr ⟨by omega, by omega⟩, cw_0, Int.mul_one]) k hk
    have := key (8 - T 0 2) (by omega) (by omega)
    rw [show T 0 2 + (8 - T 0 2) = 8 by omega] at this
    exact this.symm
  refine x_enter mfX12_waysToShare rfl (Nat.le_of_ble_eq_true rfl) (fun _ => ?_)
  have hL : ∀ (j : Nat) (s a : Int), (T 0 2 - s).toNat < j → 0 ≤ s → s ≤ T 0 2 → ((a ≤ 1500 ∧ a = prN (fun x => cw (T 0 1 - 1).toNat (LfS T (I 98) x)) s) ∨ (1500 < a ∧ 1500 < prN (fun x => cw (T 0 1 - 1).toNat (LfS T (I 98) x)) s)) → V G mX12_waysToShare (d + 1) 0 0 4 [some (.inr (.inl 91)), some (.inr (.inr (a))), none, some (.inl (s)), none, none, none, none] [] NO I P (qL NO (fun r I' P' => I' = I ∧ P' = P ∧ (r ≤ 1500 ↔ wayW (T 0 1) (LfS T (I 98)) ≤ 1500))) := by
    intro j
    induction j with
    | zero => intro s a hj; omega
    | succ j ih =>
      intro s a hj hs hs2 ha
      have hps := hpm s hs (by omega)
      have hln := fun (z : s < T 0 2) => LfS_nn hF hr s hs (by omega)
      have es := prN_s (f := fun x => cw (T 0 1 - 1).toNat (LfS T (I 98) x)) hs
      obtain ⟨nn, hnn⟩ : ∃ nn, nn = LfS T (I 98) s := ⟨_, rfl⟩
      rw [← hnn] at hln
      obtain ⟨pp, hpp⟩ : ∃ pp, pp = prN (fun x => cw (T 0 1 - 1).toNat (LfS T (I 98) x)) s := ⟨_, rfl⟩
      rw [← hpp] at ha hps es
      have hI : s < T 0 2 → a ≤ 1500 → ∀ (j : Nat) (k v : Int), (T 0 1 - k).toNat < j → 1 ≤ k → k ≤ T 0 1 → (1 ≤ v ∧ v ≤ 1500 * 5766) → ((v ≤ 1500 ∧ v = cw (k - 1).toNat nn) ∨ (1500 < v ∧ 1500 < cw (k - 1).toNat nn)) → V G mX12_waysToShare (d + 1) 0 0 37 [some (.inr (.inl 91)), some (.inr (.inr (a))), none, some (.inl (s)), some (.inr (.inr (v))), none, some (.inl (nn)), some (.inl (k))] [] NO I P (qL NO (fun r I' P' => I' = I ∧ P' = P ∧ (r ≤ 1500 ↔ wayW (T 0 1) (LfS T (I 98)) ≤ 1500))) := by
        intro hs3 ha5 j
        have hln' := hln hs3
        have ha1 : 1 ≤ a := by omega
        induction j with
        | zero => intro k v hj; omega
        | succ j ihk =>
          intro k v hj hk hk2 hv hcw
          have hdv : v ≤ 1500 → v * (nn + k) / k = cw (k + 1 - 1).toNat nn ∧ (0 ≤ v * (nn + k) ∧ v * (nn + k) ≤ 1500 * 5766) := fun z => by
            have h1 := cw_div (k := (k - 1).toNat) hln'.1
            have h2 : v = cw (k - 1).toNat nn := (hcw.resolve_right (fun q => by omega)).2
            rw [show (((k - 1).toNat : Nat) : Int) + 1 = k by omega, ← h2] at h1
            rw [h1, show (k + 1 - 1).toNat = (k - 1).toNat + 1 by omega]
            exact ⟨rfl, Int.mul_nonneg (by omega) (by omega), Int.mul_le_mul z (by omega) (by omega) (by decide)⟩
          have hk1 : 1 ≤ cw (k + 1 - 1).toNat nn := cw_pos hln'.1
          have hmn : cw (k - 1).toNat nn ≤ cw (T 0 1 - 1).toNat nn := by
            have := cw_le hln'.1 (k := (k - 1).toNat) (T 0 1 - k).toNat
            rwa [show (k - 1).toNat + (T 0 1 - k).toNat = (T 0 1 - 1).toNat by omega] at this
          have nx : (T 0 1 ≤ k ∨ 1500 < v) → V G mX12_waysToShare (d + 1) 0 0 4 [some (.inr (.inl 91)), some (.inr (.inr (a * v))), none, some (.inl (s + 1)), none, none, none, none] [] NO I P (qL NO (fun r I' P' => I' = I ∧ P' = P ∧ (r ≤ 1500 ↔ wayW (T 0 1) (LfS T (I 98)) ≤ 1500))) := fun hq => by
            refine ih (s + 1) _ (by omega) (by omega) (by omega) ?_
            have es' : prN (fun x => cw (T 0 1 - 1).toNat (LfS T (I 98) x)) (s + 1) = pp * cw (T 0 1 - 1).toNat nn := by rw [es, hnn]
            rw [es']
            have hap : a = pp := (ha.resolve_right (fun q => by omega)).2
            by_cases q : v ≤ 1500
            · have hv2 : v = cw (T 0 1 - 1).toNat nn := by
                rw [(hcw.resolve_right (fun q => by omega)).2, show k = T 0 1 by omega]
              rw [← hv2, ← hap]
              rcases Int.lt_or_le 1500 (a * v) with w | w
              · exact Or.inr ⟨w, w⟩
              · exact Or.inl ⟨w, rfl⟩
            · have hv2 : 1500 < cw (T 0 1 - 1).toNat nn := by have := (hcw.resolve_left (fun q => by omega)).2; omega
              refine Or.inr ⟨?_, ?_⟩
              · calc (1500 : Int) < v := by omega
                  _ = 1 * v := (Int.one_mul v).symm
                  _ ≤ a * v := Int.mul_le_mul_of_nonneg_right ha1 (by omega)
              · calc (1500 : Int) < cw (T 0 1 - 1).toNat nn := hv2
                  _ = 1 * cw (T 0 1 - 1).toNat nn := (Int.one_mul _).symm
                  _ ≤ pp * cw (T 0 1 - 1).toNat nn := Int.mul_le_mul_of_nonneg_right hps.1 (by omega)
          have hav : 0 ≤ a * v ∧ a * v ≤ 1500 * (1500 * 5766) := ⟨Int.mul_nonneg (by omega) (by omega), Int.mul_le_mul ha5 hv.2 (by omega) (by decide)⟩
          refine x_iload (i := 7) dX12_waysToShare_37 rfl ?_
          refine y_aln (i := 0) dX12_waysToShare_39 at91.ne0 rfl rfl ?_
          refine y_geti (z := 1) dX12_waysToShare_40 frX12_316 cfX12 at91 rfl rfl ?_
          refine x_icmp_ge (tgt := 76) dX12_waysToShare_43 rfl (fun h43 => ?_) (fun h43 => ?_)
          · refine x_lload_n (i := 1) dX12_waysToShare_76 rfl rfl ?_
            refine x_lload (i := 4) dX12_waysToShare_77 rfl ?_
            refine y_lmul dX12_waysToShare_79 ⟨by omega, by omega⟩ ?_
            refine x_lstore_n (i := 1) dX12_waysToShare_80 rfl (fun j _ e => (by have h9 : j = 0 := (by omega); subst h9; intro q; cases q)) (fun y q => by cases q) (Nat.le_of_ble_eq_true rfl) ?_
            refine x_iincN dX12_waysToShare_81 rfl ⟨by omega, by omega⟩ (fun j _ e => (by have h9 : j = 2 := (by omega); subst h9; intro q; cases q)) (Nat.le_of_ble_eq_true rfl) ?_
            refine x_goto (tgt := 4) dX12_waysToShare_84 rfl ?_
            refine x_keep [1, 1, 0, 1, 0, 0, 0, 0] ?_
            first | exact nx (Or.inl (by omega)) | exact nx (Or.inr (by omega))
          · refine x_lload (i := 4) dX12_waysToShare_46 rfl ?_
            refine y_ldc2 dX12_waysToShare_48 klX12_528 (show _ = oL (1500) from rfl) ⟨by decide, by decide⟩ ?_
            refine x_lcmp dX12_waysToShare_51 ?_
            refine x_if_gt (tgt := 76) dX12_waysToShare_52 rfl (fun h52 => ?_) (fun h52 => ?_)
            · have h52' := cmpI_gt.mp h52
              refine x_lload_n (i := 1) dX12_waysToShare_76 rfl rfl ?_
              refine x_lload (i := 4) dX12_waysToShare_77 rfl ?_
              refine y_lmul dX12_waysToShare_79 ⟨by omega, by omega⟩ ?_
              refine x_lstore_n (i := 1) dX12_waysToShare_80 rfl (fun j _ e => (by have h9 : j = 0 := (by omega); subst h9; intro q; cases q)) (fun y q => by cases q) (Nat.le_of_ble_eq_true rfl) ?_
              refine x_iincN dX12_waysToShare_81 rfl ⟨by omega, by omega⟩ (fun j _ e => (by have h9 : j = 2 := (by omega); subst h9; intro q; cases q)) (Nat.le_of_ble_eq_true rfl) ?_
              refine x_goto (tgt := 4) dX12_waysToShare_84 rfl ?_
              refine x_keep [1, 1, 0, 1, 0, 0, 0, 0] ?_
              first | exact nx (Or.inl (by omega)) | exact nx (Or.inr (by omega))
            · have h52' : ¬ 1500 < v := fun q => absurd (cmpI_gt.mpr q) (by omega)
              obtain ⟨dv1, dv2, dv3⟩ := hdv (by omega)
              refine x_lload (i := 4) dX12_waysToShare_55 rfl ?_
              refine x_iload (i := 6) dX12_waysToShare_57 rfl ?_
              refine x_iload (i := 7) dX12_waysToShare_59 rfl ?_
              refine x_iadd dX12_waysToShare_61 ⟨by omega, by omega⟩ ?_
              refine x_i2l dX12_waysToShare_62 ?_
              refine y_lmul dX12_waysToShare_63 ⟨by omega, by omega⟩ ?_
              refine x_iload (i := 7) dX12_waysToShare_64 rfl ?_
              refine x_i2l dX12_waysToShare_66 ?_
              refine y_ldiv dX12_waysToShare_67 (by omega) (by omega) ?_
              rw [dv1]
              refine x_lstore (i := 4) dX12_waysToShare_68 (fun j _ e => (by have h9 : j = 3 := (by omega); subst h9; intro q; cases q)) (fun y q => by cases q) (Nat.le_of_ble_eq_true rfl) ?_
              refine x_iincN dX12_waysToShare_70 rfl ⟨by omega, by omega⟩ (fun j _ e => (by have h9 : j = 6 := (by omega); subst h9; intro q; cases q)) (Nat.le_of_ble_eq_true rfl) ?_
              refine x_goto (tgt := 37) dX12_waysToShare_73 rfl ?_
              refine x_keep [1, 1, 0, 1, 1, 0, 1, 1] ?_
              exact ihk (k + 1) _ (by omega) (by omega) (by omega) ⟨hk1, by rw [← dv1]; exact Int.le_trans (Int.ediv_le_self _ dv2) dv3⟩ (by omega)
      refine x_iload_n (i := 3) dX12_waysToShare_4 rfl rfl ?_
      refine y_aln (i := 0) dX12_waysToShare_5 at91.ne0 rfl rfl ?_
      refine y_geti (z := 2) dX12_waysToShare_6 frX12_7 cfX12 at91 rfl rfl ?_
      refine x_icmp_ge (tgt := 87) dX12_waysToShare_9 rfl (fun h9 => ?_) (fun h9 => ?_)
      · refine x_lload_n (i := 1) dX12_waysToShare_87 rfl rfl ?_
        refine x_lret dX12_waysToShare_88 rfl ?_
        first | exact ⟨rfl, rfl, by omega⟩ | exact ⟨rfl, rfl, by rw [← hend, show T 0 2 = s by omega, ← hpp]; omega⟩
      · refine x_lload_n (i := 1) dX12_waysToShare_12 rfl rfl ?_
        refine y_ldc2 dX12_waysToShare_13 klX12_528 (show _ = oL (1500) from rfl) ⟨by decide, by decide⟩ ?_
        refine x_lcmp dX12_waysToShare_16 ?_
        refine x_if_gt (tgt := 87) dX12_waysToShare_17 rfl (fun h17 => ?_) (fun h17 => ?_)
        · have h17' := cmpI_gt.mp h17
          refine x_lload_n (i := 1) dX12_waysToShare_87 rfl rfl ?_
          refine x_lret dX12_waysToShare_88 rfl ?_
          first | exact ⟨rfl, rfl, by omega⟩ | exact ⟨rfl, rfl, by rw [← hend, show T 0 2 = s by omega, ← hpp]; omega⟩
        · have h17' : ¬ 1500 < a := fun q => absurd (cmpI_gt.mpr q) (by omega)
          have hln' := hln (by omega)
          refine x_lconst dX12_waysToShare_20 ?_
          refine x_lstore (i := 4) dX12_waysToShare_21 (fun j _ e => (by have h9 : j = 3 := (by omega); subst h9; intro q; cases q)) (fun y q => by cases q) (Nat.le_of_ble_eq_true rfl) ?_
          refine y_aln (i := 0) dX12_waysToShare_23 at91.ne0 rfl rfl ?_
          refine y_aln (i := 0) dX12_waysToShare_24 at91.ne0 rfl rfl ?_
          refine y_getp (z := 14) (v := 98) dX12_waysToShare_25 frX12_38 cfX12 at91 rfl rfl (wp (v := 98) hW rfl rfl (by decide)) ?_
          refine x_iload_n (i := 3) dX12_waysToShare_28 rfl rfl ?_
          refine x_callVI (c_X12_leftOf hW hT hF ar98 hr.rc (by omega)) dX12_waysToShare_29 lkX12_347 mfX12_leftOf cfX12 at91 rfl rfl rfl rfl (Nat.le_of_ble_eq_true rfl) (fun r29 I29 P29 hr29 hf29 => ?_)
          obtain ⟨i29, p29, q29⟩ := hf29
          rw [i29, p29, q29]
          rw [show leftS T (I 98) s = nn from hnn.symm]
          refine x_istoreN (i := 6) dX12_waysToShare_32 (fun j _ e => (by have h9 : j = 5 := (by omega); subst h9; intro q; cases q)) (Nat.le_of_ble_eq_true rfl) ?_
          refine y_ic dX12_waysToShare_34 ⟨by decide, by decide⟩ ?_
          refine x_istoreN (i := 7) dX12_waysToShare_35 (fun j _ e => (by have h9 : j = 6 := (by omega); subst h9; intro q; cases q)) (Nat.le_of_ble_eq_true rfl) ?_
          refine x_keep [1, 1, 0, 1, 1, 0, 1, 1] ?_
          exact hI (by omega) (by omega) _ 1 1 (Nat.lt_succ_self _) (by decide) h1p ⟨by decide, by decide⟩ (Or.inl ⟨by decide, by rw [show ((1 : Int) - 1).toNat = 0 from rfl]; rfl⟩)
  refine x_lconst dX12_waysToShare_0 ?_
  refine x_lstore_n (i := 1) dX12_waysToShare_1 rfl (fun j _ e => (by have h9 : j = 0 := (by omega); subst h9; intro q; cases q)) (fun y q => by cases q) (Nat.le_of_ble_eq_true rfl) ?_
  refine y_ic dX12_waysToShare_2 ⟨by decide, by decide⟩ ?_
  refine x_istoreN_n (i := 3) dX12_waysToShare_3 rfl (fun j _ e => (by have h9 : j = 2 := (by omega); subst h9; intro q; cases q)) (Nat.le_of_ble_eq_true rfl) ?_
  refine x_keep [1, 1, 0, 1, 0, 0, 0, 0] ?_
  exact hL _ 0 1 (Nat.lt_succ_self _) (Int.le_refl 0) (by omega) (Or.inl ⟨by decide, rfl⟩)
end

