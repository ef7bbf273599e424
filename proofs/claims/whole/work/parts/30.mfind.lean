/-! ===== the reference: states that can be come to ===== -/
section
variable {G : HX} {d : Nat} {I : Mem} {P : Ptr} {T : Tn}
theorem c_X12_mixOf {of : Nat} (hA : AR NO of 20 48) : Cv G mX12_mixOf d 0 0 [.inr (.inl of)] NO I P (qI NO (fun r I' P' => I' = I ∧ P' = P ∧ r = mixF (I of))) := by
  refine x_enter mfX12_mixOf rfl (Nat.le_of_ble_eq_true rfl) (fun _ => ?_)
  have hL : ∀ (j : Nat) (k v : Int), (48 - k).toNat < j → 0 ≤ k → k ≤ 48 → v = itN (fun k v => wr (wr (v * 31) + I of k)) k 0 → V G mX12_mixOf d 0 0 4 [some (.inr (.inl of)), some (.inl (v)), some (.inl (k))] [] NO I P (qI NO (fun r I' P' => I' = I ∧ P' = P ∧ r = mixF (I of))) := by
    intro j
    induction j with
    | zero => intro k v hj; omega
    | succ j ih =>
      intro k v hj hk hk2 hv
      refine x_iload_n (i := 2) dX12_mixOf_4 rfl rfl ?_
      refine y_bi dX12_mixOf_5 ⟨by decide, by decide⟩ ?_
      refine x_icmp_ge (tgt := 25) dX12_mixOf_7 rfl (fun h7 => ?_) (fun h7 => ?_)
      · refine x_iload_n (i := 1) dX12_mixOf_25 rfl rfl ?_
        refine x_iret dX12_mixOf_26 rfl ?_
        exact ⟨rfl, rfl, by rw [hv, show k = 48 by omega]; rfl⟩
      · refine x_iload_n (i := 1) dX12_mixOf_10 rfl rfl ?_
        refine y_bi dX12_mixOf_11 ⟨by decide, by decide⟩ ?_
        refine x_imulW dX12_mixOf_13 ?_
        refine y_aln (i := 0) dX12_mixOf_14 hA.ne0 rfl rfl ?_
        refine x_iload_n (i := 2) dX12_mixOf_15 rfl rfl ?_
        refine x_iald dX12_mixOf_16 hA ⟨by omega, by omega⟩ ?_
        refine x_iaddW dX12_mixOf_17 ?_
        refine x_istore_n (i := 1) dX12_mixOf_18 rfl rfl (Nat.le_of_ble_eq_true rfl) ?_
        refine x_iinc dX12_mixOf_19 rfl ⟨by omega, by omega⟩ rfl (Nat.le_of_ble_eq_true rfl) ?_
        refine x_goto (tgt := 4) dX12_mixOf_22 rfl ?_
        refine x_keep [1, 1, 1] ?_
        exact ih (k + 1) _ (by omega) (by omega) (by omega) (by rw [itN_s _ _ hk, ← hv])
  refine y_ic dX12_mixOf_0 ⟨by decide, by decide⟩ ?_
  refine x_istore_n (i := 1) dX12_mixOf_1 rfl rfl (Nat.le_of_ble_eq_true rfl) ?_
  refine y_ic dX12_mixOf_2 ⟨by decide, by decide⟩ ?_
  refine x_istore_n (i := 2) dX12_mixOf_3 rfl rfl (Nat.le_of_ble_eq_true rfl) ?_
  refine x_keep [1, 1, 1] ?_
  exact hL _ 0 0 (Nat.lt_succ_self _) (by decide) (by decide) rfl
theorem c_X12_isKnown {of : Nat} {mix : Int} {x : Sx} (hW : WP P) (hA : AR NO of 20 48) (hS : MX T I x) (hn : x.1 ≤ 1000) (hm : mix = mixF (I of)) : Cv G mX12_isKnown d 0 0 [.inr (.inl 91), .inr (.inl of), .inl mix] NO I P (qI NO (fun r I' P' => I' = I ∧ P' = P ∧ ((r = 1 ∧ knownX x (I of)) ∨ (r = 0 ∧ ¬ knownX x (I of))))) := by
  obtain ⟨s1, s2, -⟩ := hS
  refine x_enter mfX12_isKnown rfl (Nat.le_of_ble_eq_true rfl) (fun _ => ?_)
  have hL : ∀ (j : Nat) (s : Int), (x.1 - s).toNat < j → 0 ≤ s → (∀ t, 0 ≤ t → t < s → t < x.1 → ¬ RE (rowX x t) (I of)) → V G mX12_isKnown d 0 0 2 [some (.inr (.inl 91)), some (.inr (.inl of)), some (.inl (mix)), some (.inl (s)), none, none] [] NO I P (qI NO (fun r I' P' => I' = I ∧ P' = P ∧ ((r = 1 ∧ knownX x (I of)) ∨ (r = 0 ∧ ¬ knownX x (I of))))) := by
    intro j
    induction j with
    | zero => intro s hj; omega
    | succ j ih =>
      intro s hj hs hno
      have nx : s < x.1 → ¬ RE (rowX x s) (I of) → V G mX12_isKnown d 0 0 80 [some (.inr (.inl 91)), some (.inr (.inl of)), some (.inl (mix)), some (.inl (s)), none, none] [] NO I P (qI NO (fun r I' P' => I' = I ∧ P' = P ∧ ((r = 1 ∧ knownX x (I of)) ∨ (r = 0 ∧ ¬ knownX x (I of))))) := fun h1 h2 => by
        refine x_iinc dX12_isKnown_80 rfl ⟨by omega, by omega⟩ rfl (Nat.le_of_ble_eq_true rfl) ?_
        refine x_goto (tgt := 2) dX12_isKnown_83 rfl ?_
        refine x_keep [1, 1, 1, 1, 0, 0] ?_
        exact ih (s + 1) (by omega) (by omega) (fun t t0 t1 t2 => by by_cases e : t = s; (rw [e]; exact h2); exact hno t t0 (by omega) t2)
      have hK : s < x.1 → ∀ (j : Nat) (k same : Int), (48 - k).toNat < j → 0 ≤ k → k ≤ 48 → ((same = 1 ∧ ∀ c, 0 ≤ c → c < k → rowX x s c = I of c) ∨ (same = 0 ∧ ¬ RE (rowX x s) (I of))) → V G mX12_isKnown d 0 0 29 [some (.inr (.inl 91)), some (.inr (.inl of)), some (.inl (mix)), some (.inl (s)), some (.inl (same)), some (.inl (k))] [] NO I P (qI NO (fun r I' P' => I' = I ∧ P' = P ∧ ((r = 1 ∧ knownX x (I of)) ∨ (r = 0 ∧ ¬ knownX x (I of))))) := by
        intro h1 j
        induction j with
        | zero => intro k same hj; omega
        | succ j ihk =>
          intro k same hj hk hk2 hsm
          have h2 := (s2 s hs h1).1
          refine x_iload (i := 5) dX12_isKnown_29 rfl ?_
          refine y_bi dX12_isKnown_31 ⟨by decide, by decide⟩ ?_
          refine x_icmp_ge (tgt := 73) dX12_isKnown_33 rfl (fun h33 => ?_) (fun h33 => ?_)
          · refine x_iload (i := 4) dX12_isKnown_73 rfl ?_
            refine x_if_eq (tgt := 80) dX12_isKnown_75 rfl (fun h75 => ?_) (fun h75 => ?_)
            · refine x_keep [1, 1, 1, 1, 0, 0] ?_
              exact nx h1 (hsm.resolve_left (fun q => by omega)).2
            · refine y_ic dX12_isKnown_78 ⟨by decide, by decide⟩ ?_
              refine x_zret dX12_isKnown_79 (by omega) rfl ?_
              exact ⟨rfl, rfl, Or.inl ⟨rfl, s, hs, h1, fun c c0 c1 => (hsm.resolve_right (fun q => by omega)).2 c c0 (by omega)⟩⟩
          · refine x_iload (i := 4) dX12_isKnown_36 rfl ?_
            refine x_if_eq (tgt := 73) dX12_isKnown_38 rfl (fun h38 => ?_) (fun h38 => ?_)
            · refine x_iload (i := 4) dX12_isKnown_73 rfl ?_
              refine x_if_eq (tgt := 80) dX12_isKnown_75 rfl (fun h75 => ?_) (fun h75 => ?_)
              · refine x_keep [1, 1, 1, 1, 0, 0] ?_
                exact nx h1 (hsm.resolve_left (fun q => by omega)).2
              · refine y_ic dX12_isKnown_78 ⟨by decide, by decide⟩ ?_
                refine x_zret dX12_isKnown_79 (by omega) rfl ?_
                exact ⟨rfl, rfl, Or.inl ⟨rfl, s, hs, h1, fun c c0 c1 => (hsm.resolve_right (fun q => by omega)).2 c c0 (by omega)⟩⟩
            · refine y_aln (i := 0) dX12_isKnown_41 at91.ne0 rfl rfl ?_
              refine y_getp (z := 48) (v := 113) dX12_isKnown_42 frX12_88 cfX12 at91 rfl rfl (wp (v := 113) hW rfl rfl (by decide)) ?_
              refine y_bi dX12_isKnown_45 ⟨by decide, by decide⟩ ?_
              refine x_iload_n (i := 3) dX12_isKnown_47 rfl rfl ?_
              refine x_imul dX12_isKnown_48 ⟨by omega, by omega⟩ ?_
              refine x_iload (i := 5) dX12_isKnown_49 rfl ?_
              refine x_iadd dX12_isKnown_51 ⟨by omega, by omega⟩ ?_
              refine x_iald dX12_isKnown_52 ar113 ⟨by omega, by omega⟩ ?_
              rw [h2 k hk (by omega)]
              refine y_aln (i := 1) dX12_isKnown_53 hA.ne0 rfl rfl ?_
              refine x_iload (i := 5) dX12_isKnown_54 rfl ?_
              refine x_iald dX12_isKnown_56 hA ⟨by omega, by omega⟩ ?_
              refine x_icmp_ne (tgt := 64) dX12_isKnown_57 rfl (fun h57 => ?_) (fun h57 => ?_)
              · refine y_ic dX12_isKnown_64 ⟨by decide, by decide⟩ ?_
                refine x_istore (i := 4) dX12_isKnown_65 rfl (Nat.le_of_ble_eq_true rfl) ?_
                refine x_iinc dX12_isKnown_67 rfl ⟨by omega, by omega⟩ rfl (Nat.le_of_ble_eq_true rfl) ?_
                refine x_goto (tgt := 29) dX12_isKnown_70 rfl ?_
                refine x_keep [1, 1, 1, 1, 1, 1] ?_
                refine ihk (k + 1) _ (by omega) (by omega) (by omega) ?_
                first | exact Or.inl ⟨rfl, fun c c0 c1 => by by_cases e : c = k; (rw [e]; exact h57); exact (hsm.resolve_right (fun q => by omega)).2 c c0 (by omega)⟩ | exact Or.inr ⟨rfl, fun q => h57 (q k hk (by omega))⟩
              · refine y_ic dX12_isKnown_60 ⟨by decide, by decide⟩ ?_
                refine x_goto (tgt := 65) dX12_isKnown_61 rfl ?_
                refine x_istore (i := 4) dX12_isKnown_65 rfl (Nat.le_of_ble_eq_true rfl) ?_
                refine x_iinc dX12_isKnown_67 rfl ⟨by omega, by omega⟩ rfl (Nat.le_of_ble_eq_true rfl) ?_
                refine x_goto (tgt := 29) dX12_isKnown_70 rfl ?_
                refine x_keep [1, 1, 1, 1, 1, 1] ?_
                refine ihk (k + 1) _ (by omega) (by omega) (by omega) ?_
                first | exact Or.inl ⟨rfl, fun c c0 c1 => by by_cases e : c = k; (rw [e]; exact h57); exact (hsm.resolve_right (fun q => by omega)).2 c c0 (by omega)⟩ | exact Or.inr ⟨rfl, fun q => h57 (q k hk (by omega))⟩
      refine x_iload_n (i := 3) dX12_isKnown_2 rfl rfl ?_
      refine y_aln (i := 0) dX12_isKnown_3 at91.ne0 rfl rfl ?_
      refine y_geti (z := 47) dX12_isKnown_4 frX12_401 cfX12 at91 rfl rfl ?_
      refine x_icmp_ge (tgt := 86) dX12_isKnown_7 rfl (fun h7 => ?_) (fun h7 => ?_)
      · refine y_ic dX12_isKnown_86 ⟨by decide, by decide⟩ ?_
        refine x_zret dX12_isKnown_87 (by omega) rfl ?_
        exact ⟨rfl, rfl, Or.inr ⟨rfl, fun ⟨t, t0, t1, t2⟩ => hno t t0 (by omega) t1 t2⟩⟩
      · refine y_aln (i := 0) dX12_isKnown_10 at91.ne0 rfl rfl ?_
        refine y_getp (z := 49) (v := 114) dX12_isKnown_11 frX12_91 cfX12 at91 rfl rfl (wp (v := 114) hW rfl rfl (by decide)) ?_
        refine x_iload_n (i := 3) dX12_isKnown_14 rfl rfl ?_
        refine x_iald dX12_isKnown_15 ar114 ⟨by omega, by omega⟩ ?_
        rw [(s2 s hs (by omega)).2.1]
        refine x_iload_n (i := 2) dX12_isKnown_16 rfl rfl ?_
        refine x_icmp_eq (tgt := 23) dX12_isKnown_17 rfl (fun h17 => ?_) (fun h17 => ?_)
        · refine y_ic dX12_isKnown_23 ⟨by decide, by decide⟩ ?_
          refine x_istore (i := 4) dX12_isKnown_24 rfl (Nat.le_of_ble_eq_true rfl) ?_
          refine y_ic dX12_isKnown_26 ⟨by decide, by decide⟩ ?_
          refine x_istore (i := 5) dX12_isKnown_27 rfl (Nat.le_of_ble_eq_true rfl) ?_
          refine x_keep [1, 1, 1, 1, 1, 1] ?_
          exact hK (by omega) _ _ _ (Nat.lt_succ_self _) (by decide) (by decide) (Or.inl ⟨rfl, fun c c0 c1 => by omega⟩)
        · refine x_goto (tgt := 80) dX12_isKnown_20 rfl ?_
          refine x_keep [1, 1, 1, 1, 0, 0] ?_
          exact nx (by omega) (fun q => h17 (by rw [hm]; exact q.mix))
  refine y_ic dX12_isKnown_0 ⟨by decide, by decide⟩ ?_
  refine x_istore_n (i := 3) dX12_isKnown_1 rfl rfl (Nat.le_of_ble_eq_true rfl) ?_
  refine x_keep [1, 1, 1, 1, 0, 0] ?_
  exact hL _ 0 (Nat.lt_succ_self _) (by decide) (fun t t0 t1 => by omega)
end

