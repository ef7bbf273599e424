/-! ===== the class: its search, what it keeps ===== -/
theorem lastS_sp {p : Int → Prop} [DecidablePred p] {n : Int} (hn : 0 ≤ n) : (lastS p n = -1 ∧ ∀ x, 0 ≤ x → x < n → ¬ p x) ∨ ((0 ≤ lastS p n ∧ lastS p n < n) ∧ p (lastS p n) ∧ ∀ x, lastS p n < x → x < n → ¬ p x) := by
  refine int_ind (p := fun n => (lastS p n = -1 ∧ ∀ x, 0 ≤ x → x < n → ¬ p x) ∨ ((0 ≤ lastS p n ∧ lastS p n < n) ∧ p (lastS p n) ∧ ∀ x, lastS p n < x → x < n → ¬ p x)) (Or.inl ⟨rfl, fun x h0 h1 => by omega⟩) (fun k hk ih => ?_) n hn
  have e : lastS p (k + 1) = if p k then k else lastS p k := itN_s (fun x a => if p x then x else a) (-1 : Int) hk
  by_cases q : p k
  · rw [if_pos q] at e
    rw [e]
    exact Or.inr ⟨⟨hk, by omega⟩, q, fun x h0 h1 => by omega⟩
  · rw [if_neg q] at e
    rw [e]
    rcases ih with ⟨h1, h2⟩ | ⟨h1, h2, h3⟩
    · refine Or.inl ⟨h1, fun x x0 x1 => ?_⟩
      by_cases z : x = k
      · rw [z]; exact q
      · exact h2 x x0 (by omega)
    · refine Or.inr ⟨⟨h1.1, by omega⟩, h2, fun x x0 x1 => ?_⟩
      by_cases z : x = k
      · rw [z]; exact q
      · exact h3 x x0 (by omega)
theorem lastS_co {p q : Int → Prop} [DecidablePred p] [DecidablePred q] {n : Int} (h : ∀ x, 0 ≤ x → x < n → (p x ↔ q x)) : lastS p n = lastS q n := itN_congr (fun x a h0 hx => by
  by_cases z : p x
  · rw [if_pos z, if_pos ((h x h0 hx).mp z)]
  · rw [if_neg z, if_neg (fun y => z ((h x h0 hx).mpr y))])
def hsN (n : Int) (r : Rw) : Int := itN (fun k v => wr (wr (v * 31) + r k)) n 0
def hsR (n : Int) (r : Rw) : Int := andF (xorF (xorF (hsN n r) (ushrF (hsN n r) 11)) (ushrF (hsN n r) 22)) 1023
theorem hsR_bd {n : Int} {r : Rw} : 0 ≤ hsR n r ∧ hsR n r < 1024 := by
  have : 0 ≤ hsR n r ∧ hsR n r ≤ 1023 := andF_bd (x := xorF (xorF (hsN n r) (ushrF (hsN n r) 11)) (ushrF (hsN n r) 22)) 1023
  omega
theorem RE.hs {n : Int} {r r' : Rw} (h : RE r r') (hn : n ≤ 48) : hsR n r = hsR n r' := by
  have e : hsN n r = hsN n r' := itN_congr (fun k v h0 hk => by rw [h k h0 (by omega)])
  unfold hsR
  rw [e]
def codeX (h : Int × Int × Int × Int × Int) : Int := if h.2.2.1 = -1 then 34560 + h.2.1 * 4 + h.2.2.2.1 else ((h.2.1 * 6 + h.2.2.1) * 120 + h.2.2.2.1) * 8 + h.2.2.2.2
def NX (T : Tn) (K : Mem) (x : Sx) : Prop := (K 56 6 = x.1 ∧ K 56 10 = ansX x ∧ K 56 11 = spX x) ∧ (∀ s c, 0 ≤ s → s < x.1 → 0 ≤ c → c < 48 → K 59 (48 * s + c) = rowX x s c) ∧ (∀ s, 0 < s → s < x.1 → K 60 s = (howX x s).1 ∧ K 61 s = codeX (howX x s)) ∧ (∀ s, 0 ≤ s → s < x.1 → K 62 s = lastS (fun j => hsR (8 * T 0 1) (rowX x j) = hsR (8 * T 0 1) (rowX x s)) s) ∧ ∀ h, 0 ≤ h → h < 1024 → K 63 h = lastS (fun j => hsR (8 * T 0 1) (rowX x j) = h) x.1
def PX (T : Tn) (K : Mem) (w gl m : Int) : Prop := K 56 7 = m ∧ K 56 8 = w ∧ (1 ≤ m ∧ m ≤ 1000) ∧ ((w = -1 ∧ K 56 9 = -1) ∨ ((0 ≤ w ∧ w < T 0 1) ∧ K 56 9 = gl ∧ 0 ≤ gl ∧ gl < 48))
abbrev sX : Nat → Prop := fun a => a = 56 ∨ (59 ≤ a ∧ a ≤ 63)
abbrev sY : Nat → Prop := fun a => a = 56 ∨ (58 ≤ a ∧ a ≤ 63)
theorem sY_tl : ∀ a, sY a → ¬ inTL a := fun a ha => by unfold inTL; rcases ha with ha | ha <;> omega
theorem sX_sY : ∀ a, sX a → sY a := fun a ha => ha.elim Or.inl (fun q => Or.inr ⟨by omega, q.2⟩)
def F56 (I K : Mem) : Prop := ∀ f : Int, f ≠ 6 → f ≠ 10 → f ≠ 11 → K 56 f = I 56 f
theorem F56.rf {I : Mem} : F56 I I := fun _ _ _ _ => rfl
theorem F56.tr {I J K : Mem} (h : F56 I J) (h2 : F56 J K) : F56 I K := fun f a b c => (h2 f a b c).trans (h f a b c)
theorem F56.eq {I J : Mem} (h : J 56 = I 56) : F56 I J := fun f _ _ _ => by rw [h]
theorem PX.fr {T : Tn} {I K : Mem} {w gl m : Int} (h : PX T I w gl m) (hf : F56 I K) : PX T K w gl m := by
  unfold PX
  rw [hf 7 (by decide) (by decide) (by decide), hf 8 (by decide) (by decide) (by decide), hf 9 (by decide) (by decide) (by decide)]
  exact h
theorem NX.fr {T : Tn} {I K : Mem} {x : Sx} (h : NX T I x) (hf : ∀ a, sX a → K a = I a) : NX T K x := by
  unfold NX
  rw [hf 56 (Or.inl rfl), hf 59 (Or.inr ⟨by decide, by decide⟩), hf 60 (Or.inr ⟨by decide, by decide⟩), hf 61 (Or.inr ⟨by decide, by decide⟩), hf 62 (Or.inr ⟨by decide, by decide⟩), hf 63 (Or.inr ⟨by decide, by decide⟩)]
  exact h
theorem MK.fX {I J : Mem} {P : Ptr} {t l : Nat} {T : Tn} (h : MK I P 57 t l T) (hf : Fc sY I J) : MK J P 57 t l T := h.fr hf sY_tl
/-- cells of persons decide -/
theorem RE_of {T : Tn} {r r' : Rw} (hF : WF T) (hr : RW T r) (hr' : RW T r') (h : ∀ c, 0 ≤ c → c < 8 * T 0 1 → r c = r' c) : RE r r' := fun c c0 c1 => by
  by_cases q : c < 8 * T 0 1
  · exact h c c0 q
  · have f1 := hF.1
    have e : c = 8 * (c / 8) + c % 8 := by omega
    have z1 := hr.2.1 (c / 8) (c % 8) (by omega) (by omega) (by omega) (by omega) (Or.inl (by omega))
    have z2 := hr'.2.1 (c / 8) (c % 8) (by omega) (by omega) (by omega) (by omega) (Or.inl (by omega))
    rw [← e] at z1 z2
    rw [z1, z2]
/-- a state more -/
theorem NX.push {T : Tn} {I M : Mem} {x : Sx} {w gl hh : Int} {r : Rw} {h : Int × Int × Int × Int × Int} (hF : WF T) (hX : NX T I x) (h0 : 0 ≤ x.1) (hhh : hh = hsR (8 * T 0 1) r) (m6 : M 56 6 = x.1 + 1) (m10 : M 56 10 = if w ≠ -1 ∧ 0 < r gl then x.1 else ansX x) (m11 : M 56 11 = spX x) (m59 : ∀ s c, 0 ≤ s → s < x.1 → 0 ≤ c → c < 48 → M 59 (48 * s + c) = I 59 (48 * s + c)) (m59n : ∀ c, 0 ≤ c → c < 48 → M 59 (48 * x.1 + c) = r c) (m60 : ∀ s, s ≠ x.1 → M 60 s = I 60 s ∧ M 61 s = I 61 s ∧ M 62 s = I 62 s) (m60n : 0 < x.1 → M 60 x.1 = h.1 ∧ M 61 x.1 = codeX h) (m62n : M 62 x.1 = I 63 hh) (m63 : ∀ g, M 63 g = if g = hh then x.1 else I 63 g) : NX T M (pushX w gl r h x) := by
  obtain ⟨⟨a1, a2, a3⟩, b, c, d, e⟩ := hX
  have er : ∀ j, rowX (pushX w gl r h x) j = if j = x.1 then r else rowX x j := fun j => rfl
  have eh : ∀ j, howX (pushX w gl r h x) j = if j = x.1 then h else howX x j := fun j => rfl
  have e1 : (pushX w gl r h x).1 = x.1 + 1 := rfl
  refine ⟨⟨m6, m10, m11⟩, fun s c s0 s1 c0 c1 => ?_, fun s s0 s1 => ?_, fun s s0 s1 => ?_, fun g g0 g1 => ?_⟩
  · rw [er]
    by_cases q : s = x.1
    · rw [if_pos q, q]; exact m59n c c0 c1
    · rw [if_neg q, m59 s c s0 (by rw [e1] at s1; omega) c0 c1]; exact b s c s0 (by rw [e1] at s1; omega) c0 c1
  · rw [eh]
    by_cases q : s = x.1
    · rw [if_pos q, q]; exact m60n (by omega)
    · rw [if_neg q, (m60 s q).1, (m60 s q).2.1]; exact c s s0 (by rw [e1] at s1; omega)
  · by_cases q : s = x.1
    · rw [q, m62n, e hh (by rw [hhh]; exact hsR_bd.1) (by rw [hhh]; exact hsR_bd.2)]
      refine lastS_co (fun j j0 j1 => ?_)
      rw [er, er, if_neg (by omega), if_pos rfl, hhh]
    · rw [(m60 s q).2.2, d s s0 (by rw [e1] at s1; omega)]
      refine lastS_co (fun j j0 j1 => ?_)
      rw [er, er, if_neg (by rw [e1] at s1; omega), if_neg q]
  · rw [m63, e1]
    have es : lastS (fun j => hsR (8 * T 0 1) (rowX (pushX w gl r h x) j) = g) (x.1 + 1) = if hsR (8 * T 0 1) (rowX (pushX w gl r h x) x.1) = g then x.1 else lastS (fun j => hsR (8 * T 0 1) (rowX (pushX w gl r h x) j) = g) x.1 := itN_s (fun y a => if hsR (8 * T 0 1) (rowX (pushX w gl r h x) y) = g then y else a) (-1 : Int) h0
    rw [es, er, if_pos rfl, ← hhh]
    by_cases q : g = hh
    · rw [if_pos q, if_pos q.symm]
    · rw [if_neg q, if_neg (Ne.symm q), e g g0 g1]
      refine lastS_co (fun j j0 j1 => ?_)
      rw [er, if_neg (by omega)]
section
variable {G : HX} {d : Nat} {I : Mem} {P : Ptr} {T : Tn}
theorem c_X7_hash {t l : Nat} (hW : WP P) (hM : MK I P 57 t l T) (hF : WF T) : Cv G mX7_hash d 0 0 [.inr (.inl 56)] NO I P (qI NO (fun r I' P' => I' = I ∧ P' = P ∧ r = hsR (8 * T 0 1) (I (57 + 1)))) := by
  obtain ⟨hq, hTo, hLo, hpt, hpl, hca, hcl⟩ := id hM
  have wT := wp_T hW hTo
  have e0 : I t 0 = T 0 1 := hca.1
  have f1 := hF.1
  refine x_enter mfX7_hash rfl (Nat.le_of_ble_eq_true rfl) (fun _ => ?_)
  have hL : ∀ (j : Nat) (k v : Int), (8 * T 0 1 - k).toNat < j → 0 ≤ k → k ≤ 8 * T 0 1 → v = hsN k (I (57 + 1)) → V G mX7_hash d 0 0 18 [some (.inr (.inl 56)), some (.inl (8 * T 0 1)), some (.inl (v)), some (.inl (k))] [] NO I P (qI NO (fun r I' P' => I' = I ∧ P' = P ∧ r = hsR (8 * T 0 1) (I (57 + 1)))) := by
    intro j
    induction j with
    | zero => intro k v hj; omega
    | succ j ih =>
      intro k v hj hk hk2 hv
      have es : hsN (k + 1) (I (57 + 1)) = wr (wr (hsN k (I (57 + 1)) * 31) + I (57 + 1) k) := itN_s _ _ hk
      refine x_iload_n (i := 3) dX7_hash_18 rfl rfl ?_
      refine x_iload_n (i := 1) dX7_hash_19 rfl rfl ?_
      refine x_icmp_ge (tgt := 44) dX7_hash_20 rfl (fun h20 => ?_) (fun h20 => ?_)
      · refine x_iload_n (i := 2) dX7_hash_44 rfl rfl ?_
        refine x_iload_n (i := 2) dX7_hash_45 rfl rfl ?_
        refine y_bi dX7_hash_46 ⟨by decide, by decide⟩ ?_
        refine y_iushr dX7_hash_48 ?_
        refine y_ixor dX7_hash_49 ?_
        refine x_iload_n (i := 2) dX7_hash_50 rfl rfl ?_
        refine y_bi dX7_hash_51 ⟨by decide, by decide⟩ ?_
        refine y_iushr dX7_hash_53 ?_
        refine y_ixor dX7_hash_54 ?_
        refine y_si dX7_hash_55 ⟨by decide, by decide⟩ ?_
        refine y_iand dX7_hash_58 ?_
        refine x_iret dX7_hash_59 rfl ?_
        exact ⟨rfl, rfl, by rw [hv, show k = 8 * T 0 1 by omega]; rfl⟩
      · refine x_iload_n (i := 2) dX7_hash_23 rfl rfl ?_
        refine y_bi dX7_hash_24 ⟨by decide, by decide⟩ ?_
        refine x_imulW dX7_hash_26 ?_
        refine y_aln (i := 0) dX7_hash_27 at56.ne0 rfl rfl ?_
        refine y_getp (z := 0) (v := 57) dX7_hash_28 frX7_28 cfX7 at56 rfl rfl (wp (v := 57) hW rfl rfl (by decide)) ?_
        refine y_getp (z := 2) (v := 58) dX7_hash_31 frX7_94 cfX3 at57 rfl rfl (wp (v := 58) hW rfl rfl (by decide)) ?_
        refine x_iload_n (i := 3) dX7_hash_34 rfl rfl ?_
        refine x_iald dX7_hash_35 ar58 ⟨by omega, by omega⟩ ?_
        refine x_iaddW dX7_hash_36 ?_
        refine x_istore_n (i := 2) dX7_hash_37 rfl rfl (Nat.le_of_ble_eq_true rfl) ?_
        refine x_iinc dX7_hash_38 rfl ⟨by omega, by omega⟩ rfl (Nat.le_of_ble_eq_true rfl) ?_
        refine x_goto (tgt := 18) dX7_hash_41 rfl ?_
        refine x_keep [1, 1, 1, 1] ?_
        exact ih (k + 1) _ (by omega) (by omega) (by omega) (by rw [es, ← hv])
  refine y_aln (i := 0) dX7_hash_0 at56.ne0 rfl rfl ?_
  refine y_getp (z := 0) (v := 57) dX7_hash_1 frX7_28 cfX7 at56 rfl rfl (wp (v := 57) hW rfl rfl (by decide)) ?_
  refine y_getp (z := 0) (v := t) dX7_hash_4 frX7_103 cfX3 at57 rfl rfl hpt ?_
  refine y_geti (z := 0) dX7_hash_7 frX7_107 cfX10 hTo.at rfl rfl ?_
  rw [e0]
  refine y_bi dX7_hash_10 ⟨by decide, by decide⟩ ?_
  refine x_imul dX7_hash_12 ⟨by omega, by omega⟩ ?_
  rw [Int.mul_comm (T 0 1) 8]
  refine x_istore_n (i := 1) dX7_hash_13 rfl rfl (Nat.le_of_ble_eq_true rfl) ?_
  refine y_ic dX7_hash_14 ⟨by decide, by decide⟩ ?_
  refine x_istore_n (i := 2) dX7_hash_15 rfl rfl (Nat.le_of_ble_eq_true rfl) ?_
  refine y_ic dX7_hash_16 ⟨by decide, by decide⟩ ?_
  refine x_istore_n (i := 3) dX7_hash_17 rfl rfl (Nat.le_of_ble_eq_true rfl) ?_
  refine x_keep [1, 1, 1, 1] ?_
  exact hL _ 0 0 (Nat.lt_succ_self _) (Int.le_refl 0) (by omega) rfl
theorem c_X7_isAtWork {t l : Nat} {s : Int} (hW : WP P) (hM : MK I P 57 t l T) (hF : WF T) (hs : 0 ≤ s ∧ s < 1000) : Cv G mX7_isAtWork d 0 0 [.inr (.inl 56), .inl s] NO I P (qI NO (fun r I' P' => I' = I ∧ P' = P ∧ ((r = 1 ∧ ∀ c, 0 ≤ c → c < 8 * T 0 1 → I 59 (48 * s + c) = I (57 + 1) c) ∨ (r = 0 ∧ ¬ ∀ c, 0 ≤ c → c < 8 * T 0 1 → I 59 (48 * s + c) = I (57 + 1) c)))) := by
  obtain ⟨hq, hTo, hLo, hpt, hpl, hca, hcl⟩ := id hM
  have wT := wp_T hW hTo
  have e0 : I t 0 = T 0 1 := hca.1
  have f1 := hF.1
  refine x_enter mfX7_isAtWork rfl (Nat.le_of_ble_eq_true rfl) (fun _ => ?_)
  have hL : ∀ (j : Nat) (k : Int), (8 * T 0 1 - k).toNat < j → 0 ≤ k → k ≤ 8 * T 0 1 → (∀ c, 0 ≤ c → c < k → I 59 (48 * s + c) = I (57 + 1) c) → V G mX7_isAtWork d 0 0 22 [some (.inr (.inl 56)), none, some (.inl (8 * T 0 1)), some (.inl (48 * s)), some (.inl (k))] [] NO I P (qI NO (fun r I' P' => I' = I ∧ P' = P ∧ ((r = 1 ∧ ∀ c, 0 ≤ c → c < 8 * T 0 1 → I 59 (48 * s + c) = I (57 + 1) c) ∨ (r = 0 ∧ ¬ ∀ c, 0 ≤ c → c < 8 * T 0 1 → I 59 (48 * s + c) = I (57 + 1) c)))) := by
    intro j
    induction j with
    | zero => intro k hj; omega
    | succ j ih =>
      intro k hj hk hk2 hv
      refine x_iload (i := 4) dX7_isAtWork_22 rfl ?_
      refine x_iload_n (i := 2) dX7_isAtWork_24 rfl rfl ?_
      refine x_icmp_ge (tgt := 58) dX7_isAtWork_25 rfl (fun h25 => ?_) (fun h25 => ?_)
      · refine y_ic dX7_isAtWork_58 ⟨by decide, by decide⟩ ?_
        refine x_zret dX7_isAtWork_59 (by omega) rfl ?_
        exact ⟨rfl, rfl, Or.inl ⟨rfl, fun c c0 c1 => hv c c0 (by omega)⟩⟩
      · refine y_aln (i := 0) dX7_isAtWork_28 at56.ne0 rfl rfl ?_
        refine y_getp (z := 1) (v := 59) dX7_isAtWork_29 frX7_10 cfX7 at56 rfl rfl (wp (v := 59) hW rfl rfl (by decide)) ?_
        refine x_iload_n (i := 3) dX7_isAtWork_32 rfl rfl ?_
        refine x_iload (i := 4) dX7_isAtWork_33 rfl ?_
        refine x_iadd dX7_isAtWork_35 ⟨by omega, by omega⟩ ?_
        refine x_iald dX7_isAtWork_36 ar59 ⟨by omega, by omega⟩ ?_
        refine y_aln (i := 0) dX7_isAtWork_37 at56.ne0 rfl rfl ?_
        refine y_getp (z := 0) (v := 57) dX7_isAtWork_38 frX7_28 cfX7 at56 rfl rfl (wp (v := 57) hW rfl rfl (by decide)) ?_
        refine y_getp (z := 2) (v := 58) dX7_isAtWork_41 frX7_94 cfX3 at57 rfl rfl (wp (v := 58) hW rfl rfl (by decide)) ?_
        refine x_iload (i := 4) dX7_isAtWork_44 rfl ?_
        refine x_iald dX7_isAtWork_46 ar58 ⟨by omega, by omega⟩ ?_
        refine x_icmp_eq (tgt := 52) dX7_isAtWork_47 rfl (fun h47 => ?_) (fun h47 => ?_)
        · refine x_iinc dX7_isAtWork_52 rfl ⟨by omega, by omega⟩ rfl (Nat.le_of_ble_eq_true rfl) ?_
          refine x_goto (tgt := 22) dX7_isAtWork_55 rfl ?_
          refine x_keep [1, 0, 1, 1, 1] ?_
          refine ih (k + 1) (by omega) (by omega) (by omega) (fun c c0 c1 => ?_)
          by_cases q : c = k
          · rw [q]; exact h47
          · exact hv c c0 (by omega)
        · have n47 : ¬ I 59 (48 * s + k) = I (57 + 1) k := h47
          refine y_ic dX7_isAtWork_50 ⟨by decide, by decide⟩ ?_
          refine x_zret dX7_isAtWork_51 (by omega) rfl ?_
          exact ⟨rfl, rfl, Or.inr ⟨rfl, fun z => n47 (z k hk (by omega))⟩⟩
  refine y_aln (i := 0) dX7_isAtWork_0 at56.ne0 rfl rfl ?_
  refine y_getp (z := 0) (v := 57) dX7_isAtWork_1 frX7_28 cfX7 at56 rfl rfl (wp (v := 57) hW rfl rfl (by decide)) ?_
  refine y_getp (z := 0) (v := t) dX7_isAtWork_4 frX7_103 cfX3 at57 rfl rfl hpt ?_
  refine y_geti (z := 0) dX7_isAtWork_7 frX7_107 cfX10 hTo.at rfl rfl ?_
  rw [e0]
  refine y_bi dX7_isAtWork_10 ⟨by decide, by decide⟩ ?_
  refine x_imul dX7_isAtWork_12 ⟨by omega, by omega⟩ ?_
  rw [Int.mul_comm (T 0 1) 8]
  refine x_istore_n (i := 2) dX7_isAtWork_13 rfl rfl (Nat.le_of_ble_eq_true rfl) ?_
  refine x_iload_n (i := 1) dX7_isAtWork_14 rfl rfl ?_
  refine y_bi dX7_isAtWork_15 ⟨by decide, by decide⟩ ?_
  refine x_imul dX7_isAtWork_17 ⟨by omega, by omega⟩ ?_
  rw [Int.mul_comm s 48]
  refine x_istore_n (i := 3) dX7_isAtWork_18 rfl rfl (Nat.le_of_ble_eq_true rfl) ?_
  refine y_ic dX7_isAtWork_19 ⟨by decide, by decide⟩ ?_
  refine x_istore (i := 4) dX7_isAtWork_20 rfl (Nat.le_of_ble_eq_true rfl) ?_
  refine x_keep [1, 0, 1, 1, 1] ?_
  exact hL _ 0 (Nat.lt_succ_self _) (Int.le_refl 0) (by omega) (fun c c0 c1 => by omega)
theorem c_X7_isOpen (hW : WP P) : Cv G mX7_isOpen d 0 0 [.inr (.inl 56)] NO I P (qI NO (fun r I' P' => I' = I ∧ P' = P ∧ ((r = 1 ∧ I 56 11 = 0 ∧ I 56 10 = -1) ∨ (r = 0 ∧ ¬ (I 56 11 = 0 ∧ I 56 10 = -1))))) := by
  refine x_enter mfX7_isOpen rfl (Nat.le_of_ble_eq_true rfl) (fun _ => ?_)
  refine y_aln (i := 0) dX7_isOpen_0 at56.ne0 rfl rfl ?_
  refine y_geti (z := 11) dX7_isOpen_1 frX7_43 cfX7 at56 rfl rfl ?_
  refine x_if_ne (tgt := 19) dX7_isOpen_4 rfl (fun h4 => ?_) (fun h4 => ?_)
  · refine y_ic dX7_isOpen_19 ⟨by decide, by decide⟩ ?_
    refine x_zret dX7_isOpen_20 (by omega) rfl ?_
    first | exact ⟨rfl, rfl, Or.inl ⟨rfl, by omega, by omega⟩⟩ | exact ⟨rfl, rfl, Or.inr ⟨rfl, fun z => by omega⟩⟩ | fail "none"
  · refine y_aln (i := 0) dX7_isOpen_7 at56.ne0 rfl rfl ?_
    refine y_geti (z := 10) dX7_isOpen_8 frX7_47 cfX7 at56 rfl rfl ?_
    refine y_ic dX7_isOpen_11 ⟨by decide, by decide⟩ ?_
    refine x_icmp_ne (tgt := 19) dX7_isOpen_12 rfl (fun h12 => ?_) (fun h12 => ?_)
    · refine y_ic dX7_isOpen_19 ⟨by decide, by decide⟩ ?_
      refine x_zret dX7_isOpen_20 (by omega) rfl ?_
      first | exact ⟨rfl, rfl, Or.inl ⟨rfl, by omega, by omega⟩⟩ | exact ⟨rfl, rfl, Or.inr ⟨rfl, fun z => by omega⟩⟩ | fail "none"
    · refine y_ic dX7_isOpen_15 ⟨by decide, by decide⟩ ?_
      refine x_goto (tgt := 20) dX7_isOpen_16 rfl ?_
      refine x_zret dX7_isOpen_20 (by omega) rfl ?_
      first | exact ⟨rfl, rfl, Or.inl ⟨rfl, by omega, by omega⟩⟩ | exact ⟨rfl, rfl, Or.inr ⟨rfl, fun z => by omega⟩⟩ | fail "none"
theorem c_X7_load {s : Int} (hW : WP P) (hs : 0 ≤ s ∧ s < 1000) : Cv G mX7_load (d + 2) 0 0 [.inr (.inl 56), .inl s] NO I P (qV (fun n' I' P' => n' = NO ∧ P' = P ∧ I' = uA I (57 + 1) (fun j => if 0 ≤ j ∧ j < 48 then I 59 (48 * s + j) else I (57 + 1) j))) := by
  refine x_enter mfX7_load rfl (Nat.le_of_ble_eq_true rfl) (fun _ => ?_)
  refine y_aln (i := 0) dX7_load_0 at56.ne0 rfl rfl ?_
  refine y_getp (z := 1) (v := 59) dX7_load_1 frX7_10 cfX7 at56 rfl rfl (wp (v := 59) hW rfl rfl (by decide)) ?_
  refine x_iload_n (i := 1) dX7_load_4 rfl rfl ?_
  refine y_bi dX7_load_5 ⟨by decide, by decide⟩ ?_
  refine x_imul dX7_load_7 ⟨by omega, by omega⟩ ?_
  refine y_aln (i := 0) dX7_load_8 at56.ne0 rfl rfl ?_
  refine y_getp (z := 0) (v := 57) dX7_load_9 frX7_28 cfX7 at56 rfl rfl (wp (v := 57) hW rfl rfl (by decide)) ?_
  refine y_getp (z := 2) (v := 58) dX7_load_12 frX7_94 cfX3 at57 rfl rfl (wp (v := 58) hW rfl rfl (by decide)) ?_
  refine y_ic dX7_load_15 ⟨by decide, by decide⟩ ?_
  refine y_bi dX7_load_16 ⟨by decide, by decide⟩ ?_
  refine x_copy (own := "") dX7_load_18 jkX7_97 rfl ar59 ar58 (by omega) (by omega) (by omega) (by omega) (by omega) rfl (by omega) ?_
  refine x_vret dX7_load_21 rfl ?_
  refine ⟨rfl, rfl, ?_⟩
  show uA I 58 _ = uA I 58 _
  congr 1
  funext j
  by_cases q : 0 ≤ j ∧ j < 48
  · rw [if_pos (by omega), if_pos q, show s * 48 + (j - 0) = 48 * s + j by omega]
  · rw [if_neg (by omega), if_neg q]
end

