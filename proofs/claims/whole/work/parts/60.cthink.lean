/-! ===== the class: foresight ===== -/
theorem deal_ne {T : Tn} {r : Rw} {a b z c : Int} {γ : Rw} (hg : ∀ k, 0 ≤ k → k < T 0 3 → 0 ≤ γ k ∧ γ k < 8) (hz : 0 ≤ z ∧ z < 8) (ha : c / 8 ≠ a) (hb : c / 8 ≠ b) : dealS T r a b γ z c = r c := by
  unfold dealS
  rw [sumN_z (fun k k0 k1 => by
    have := hg k k0 k1
    unfold dlS
    rw [if_neg (by omega), if_neg (by omega)]; rfl), if_neg (by omega), if_neg (by omega)]
  omega
theorem bag_ne {T : Tn} {r r' : Rw} {p : Int} (hF : WF T) (hp : 0 ≤ p ∧ p < T 0 1) (h : ∀ s, 0 ≤ s → s < T 0 2 → r' (8 * p + s) = r (8 * p + s)) : bagS T r' p = bagS T r p := by
  have f4 := hF.2.2.2.2.2.2.2.2.2.2.1
  unfold bagS
  rw [sumN_congr (f := fun s => wcell (T 1 (8 * p + s)) (T 2 p) (r' (8 * p + s))) (g := fun s => wcell (T 1 (8 * p + s)) (T 2 p) (r (8 * p + s))) (fun s s0 s1 => by rw [h s s0 s1]), sumN_congr (f := fun k => pairS T r' p k) (g := fun k => pairS T r p k) (fun k k0 k1 => by
    have := f4 p k hp.1 hp.2 k0 k1
    unfold pairS
    rw [h _ this.1.1 this.1.2, h _ this.2.1.1 this.2.1.2])]
abbrev sF (l : Int) : Nat → Prop := fun a => a = 64 ∨ a = 66 ∨ (eR l ≤ a ∧ a ≤ 76)
abbrev thQ (P : Ptr) (T : Tn) (n : Nat) (l : Int) (I : Mem) : QT := qI NO (fun r I' P' => P' = P ∧ I' (65 + 1) = I (65 + 1) ∧ I' 64 2 = I 64 2 ∧ Fc (sF l) I I' ∧ ((r = 0 ∧ 3000 < I 64 1 + (ahS T n l (I (65 + 1))).2) ∨ (r = 1 ∧ I' 64 1 = I 64 1 + (ahS T n l (I (65 + 1))).2 ∧ I' 64 1 ≤ 3000 ∧ (I 64 2 = 0 → ∀ p, 0 ≤ p → p < T 0 1 → I' (eR l) p = (ahS T n l (I (65 + 1))).1 p))))
def THK (G : HX) (P : Ptr) (T : Tn) (n : Nat) (l : Int) (y : Nat) : Prop := ∀ (J : Mem) (t lw : Nat), MK J P 65 t lw T → RW T (J (65 + 1)) → 0 ≤ J 64 1 → J 64 1 ≤ 3000 → Cv G mX0_think (y + 4) 0 0 [.inr (.inl 64), .inl l] NO J P (thQ P T n l J)
/-- how far the trades are thought through -/
def TIN (T : Tn) (I K : Mem) (l : Int) (n : Nat) (a b B : Int) (Y : Ah) : Prop := K (65 + 1) = I (65 + 1) ∧ K 64 2 = I 64 2 ∧ Fc (sF l) I K ∧ K 64 1 = B + Y.2 ∧ (0 ≤ K 64 1 ∧ K 64 1 ≤ 3000) ∧ (I 64 2 = 0 → (∀ p, 0 ≤ p → p < T 0 1 → K (eR l) p = Y.1 p) ∧ (n = 0 → ∀ p, 0 ≤ p → p < T 0 1 → p ≠ a → p ≠ b → K (eR (l + 1)) p = bagS T (I (65 + 1)) p))
theorem sF_tl {l : Int} : ∀ a, sF l a → ¬ inTL a := fun a ha => by
  unfold inTL
  rcases ha with h | h | h
  · omega
  · omega
  · unfold eR at h; omega
theorem sF_up {l : Int} (h : 0 ≤ l) : ∀ a, sF (l + 1) a → sF l a := fun a ha => by
  rcases ha with q | q | q
  · exact Or.inl q
  · exact Or.inr (Or.inl q)
  · exact Or.inr (Or.inr (by unfold eR at q ⊢; omega))
section
variable {G : HX} {d : Nat} {I : Mem} {P : Ptr} {T : Tn}
theorem c_X0_thinkTrades {t lw n y : Nat} {l a b v B : Int} {e : Ah} (hW : WP P) (hM : MK I P 65 t lw T) (hF : WF T) (hr : RW T (I (65 + 1))) (hl : 0 ≤ l) (hn : (n : Int) = T 0 6 - (l + 1)) (ha : 0 ≤ a ∧ a < T 0 1) (hb : 0 ≤ b ∧ b < T 0 1) (hab : a ≠ b) (hm1 : T 6 (2 * l) = a ∨ T 6 (2 * l) = b) (hm2 : T 6 (2 * l + 1) = a ∨ T 6 (2 * l + 1) = b) (hE : TIN T I I l n a b B e) (hv : I 64 2 = 0 → v = (ahS T n (l + 1) (I (65 + 1))).1 (T 6 (2 * l + 1))) (HT : THK G P T n (l + 1) y) : Cv G mX0_thinkTrades (y + 5) 0 0 [.inr (.inl 64), .inl l, .inl a, .inl b, .inl v] NO I P (qI NO (fun r I' P' => P' = P ∧ ((r = 0 ∧ I' (65 + 1) = I (65 + 1) ∧ I' 64 2 = I 64 2 ∧ Fc (sF l) I I' ∧ 3000 < B + (trF T (I (65 + 1)) a b (ahG T l (ahS T n (l + 1) (I (65 + 1))).1 (ahS T n (l + 1))) e).2) ∨ (r = 1 ∧ TIN T I I' l n a b B (trF T (I (65 + 1)) a b (ahG T l (ahS T n (l + 1) (I (65 + 1))).1 (ahS T n (l + 1))) e))))) := by
  obtain ⟨hq, hTo, hLo, hpt, hpl, hca, hcl⟩ := id hM
  have wT := wp_T hW hTo
  have wL := wp_L hW hLo
  have f1 := hF.1
  have f2 := hF.2.1
  have f3 := hF.2.2.1
  have f6 := hF.2.2.2.2.2.1
  have hON := OFN_bd hF
  have hl0 : 0 ≤ l ∧ l ≤ 8 := by omega
  have hl1 : 0 ≤ l + 1 ∧ l + 1 ≤ 8 := by omega
  have e0 := eR_n hl0
  have e1 := eR_n hl1
  have hgm := ahG_mono (T := T) (l := l) (nn := (ahS T n (l + 1) (I (65 + 1))).1) (S := ahS T n (l + 1)) (fun r => ahS_nn hF n (l + 1) r)
  refine x_enter mfX0_thinkTrades rfl (Nat.le_of_ble_eq_true rfl) (fun _ => ?_)
  have hMF : ∀ K : Mem, Fc (sF l) I K → MK K P 65 t lw T := fun K h => hM.fr h sF_tl
  have hStep : ∀ (o z fl : Int) (K : Mem), (0 ≤ o ∧ o < OFN T) → (0 ≤ z ∧ z < T 0 2) → ((fl = 1 ∧ n = 0) ∨ (fl = 0 ∧ n ≠ 0)) → lawP T (I (65 + 1)) a b (OF T o) z → TIN T I K l n a b B (trP T (I (65 + 1)) a b (ahG T l (ahS T n (l + 1) (I (65 + 1))).1 (ahS T n (l + 1))) e o z) → (∀ K' : Mem, TIN T I K' l n a b B (trP T (I (65 + 1)) a b (ahG T l (ahS T n (l + 1) (I (65 + 1))).1 (ahS T n (l + 1))) e o (z + 1)) → V G mX0_thinkTrades (y + 5) 0 0 153 [some (.inr (.inl 64)), some (.inl (l)), some (.inl (a)), some (.inl (b)), some (.inl (v)), some (.inr (.inl 65)), some (.inl (fl)), some (.inl (o)), some (.inl (z)), none] [] NO K' P (qI NO (fun r I' P' => P' = P ∧ ((r = 0 ∧ I' (65 + 1) = I (65 + 1) ∧ I' 64 2 = I 64 2 ∧ Fc (sF l) I I' ∧ 3000 < B + (trF T (I (65 + 1)) a b (ahG T l (ahS T n (l + 1) (I (65 + 1))).1 (ahS T n (l + 1))) e).2) ∨ (r = 1 ∧ TIN T I I' l n a b B (trF T (I (65 + 1)) a b (ahG T l (ahS T n (l + 1) (I (65 + 1))).1 (ahS T n (l + 1))) e)))))) → V G mX0_thinkTrades (y + 5) 0 0 89 [some (.inr (.inl 64)), some (.inl (l)), some (.inl (a)), some (.inl (b)), some (.inl (v)), some (.inr (.inl 65)), some (.inl (fl)), some (.inl (o)), some (.inl (z)), none] [] NO K P (qI NO (fun r I' P' => P' = P ∧ ((r = 0 ∧ I' (65 + 1) = I (65 + 1) ∧ I' 64 2 = I 64 2 ∧ Fc (sF l) I I' ∧ 3000 < B + (trF T (I (65 + 1)) a b (ahG T l (ahS T n (l + 1) (I (65 + 1))).1 (ahS T n (l + 1))) e).2) ∨ (r = 1 ∧ TIN T I I' l n a b B (trF T (I (65 + 1)) a b (ahG T l (ahS T n (l + 1) (I (65 + 1))).1 (ahS T n (l + 1))) e))))) := by
    intro o z fl K ho hz hfl hlaw hT' hnext
    have hD := deal_RW (γ := OF T o) hF hr ha hb hab hz (OFd hF ho.1 ho.2) hlaw
    have egn := trP_go (g := ahG T l (ahS T n (l + 1) (I (65 + 1))).1 (ahS T n (l + 1))) (e := e) hz.1 hlaw
    have hle := trP_le (T := T) (r := I (65 + 1)) (a := a) (b := b) (μ := fun y : Ah => y.2) (e := e) hF hgm (o := o) (z := z + 1) ho ⟨by omega, by omega⟩
    obtain ⟨Y, hY⟩ : ∃ Y, Y = trP T (I (65 + 1)) a b (ahG T l (ahS T n (l + 1) (I (65 + 1))).1 (ahS T n (l + 1))) e o z := ⟨_, rfl⟩
    rw [← hY] at hT' egn
    rw [egn] at hle hnext
    obtain ⟨k66, kc, kF, kB, kb, kE⟩ := hT'
    obtain ⟨r', hr'⟩ : ∃ r', r' = dealS T (I (65 + 1)) a b (OF T o) z := ⟨_, rfl⟩
    rw [← hr'] at hD hle hnext
    have hOFd := OFd hF ho.1 ho.2
    have hbag : ∀ p, 0 ≤ p → p < T 0 1 → p ≠ a → p ≠ b → bagS T r' p = bagS T (I (65 + 1)) p := fun p p0 p1 pa pb => bag_ne hF ⟨p0, p1⟩ (fun s s0 s1 => by
      rw [hr']
      exact deal_ne (fun k k0 k1 => by have := OF_bd hF ho.1 ho.2 k0 (by omega); omega) ⟨hz.1, by omega⟩ (by omega) (by omega))
    have hC : ∀ (r : Int) (K' : Mem), K' (65 + 1) = r' → K' 64 2 = I 64 2 → Fc (sF l) I K' → K' (eR l) = K (eR l) → ((r = 0 ∧ 3000 < K 64 1 + (ahS T n (l + 1) r').2) ∨ (r = 1 ∧ K' 64 1 = K 64 1 + (ahS T n (l + 1) r').2 ∧ K' 64 1 ≤ 3000 ∧ (I 64 2 = 0 → (∀ p, 0 ≤ p → p < T 0 1 → K' (eR (l + 1)) p = (ahS T n (l + 1) r').1 p) ∧ (n = 0 → ∀ p, 0 ≤ p → p < T 0 1 → p ≠ a → p ≠ b → K' (eR (l + 1)) p = bagS T (I (65 + 1)) p)))) → V G mX0_thinkTrades (y + 5) 0 0 125 [some (.inr (.inl 64)), some (.inl (l)), some (.inl (a)), some (.inl (b)), some (.inl (v)), some (.inr (.inl 65)), some (.inl (fl)), some (.inl (o)), some (.inl (z)), none] [.inl r] NO K' P (qI NO (fun r I' P' => P' = P ∧ ((r = 0 ∧ I' (65 + 1) = I (65 + 1) ∧ I' 64 2 = I 64 2 ∧ Fc (sF l) I I' ∧ 3000 < B + (trF T (I (65 + 1)) a b (ahG T l (ahS T n (l + 1) (I (65 + 1))).1 (ahS T n (l + 1))) e).2) ∨ (r = 1 ∧ TIN T I I' l n a b B (trF T (I (65 + 1)) a b (ahG T l (ahS T n (l + 1) (I (65 + 1))).1 (ahS T n (l + 1))) e))))) := by
      intro r K' c66 cc cF cl hc
      have hMK := hMF K' cF
      have hnn := ahS_nn hF n (l + 1) r'
      refine x_istore (i := 9) dX0_thinkTrades_125 rfl (Nat.le_of_ble_eq_true rfl) ?_
      refine y_al (i := 5) dX0_thinkTrades_127 at65.ne0 rfl ?_
      refine x_iload_n (i := 2) dX0_thinkTrades_129 rfl rfl ?_
      refine x_iload_n (i := 3) dX0_thinkTrades_130 rfl rfl ?_
      refine x_iload (i := 7) dX0_thinkTrades_131 rfl ?_
      refine x_iload (i := 8) dX0_thinkTrades_133 rfl ?_
      refine y_ic dX0_thinkTrades_135 ⟨by decide, by decide⟩ ?_
      refine x_callVV (c_X3_deal hW hMK hF (by rw [c66]; exact hD.rc) (by omega) (by omega) ho (by omega) (Or.inr rfl)) dX0_thinkTrades_136 lkX0_94 mfX3_deal cfX3 at65 rfl rfl rfl rfl (Nat.le_of_ble_eq_true rfl) (fun n136 I136 P136 hf136 => ?_)
      obtain ⟨rfl, hI136, rfl⟩ := hf136
      rw [c66, hr', del_m] at hI136
      have q66 : I136 (65 + 1) = I (65 + 1) := by rw [hI136, uA_eq]
      have q64 : I136 64 = K' 64 := by rw [hI136, uA_ne (by decide)]
      have qF : Fc (sF l) I I136 := by rw [hI136]; exact cF.ua (Or.inr (Or.inl rfl))
      have qe : ∀ k, 0 ≤ k → k ≤ 8 → I136 (eR k) = K' (eR k) := fun k k0 k1 => by rw [hI136, uA_ne (by unfold eR; omega)]
      refine x_iload (i := 9) dX0_thinkTrades_139 rfl ?_
      refine x_if_ne (tgt := 146) dX0_thinkTrades_141 rfl (fun h141 => ?_) (fun h141 => ?_)
      · have hc1 := hc.resolve_left (fun q => h141 q.1)
        refine y_aln (i := 0) dX0_thinkTrades_146 at64.ne0 rfl rfl ?_
        refine x_iload_n (i := 1) dX0_thinkTrades_147 rfl rfl ?_
        refine x_iload (i := 4) dX0_thinkTrades_148 rfl ?_
        refine x_callVV (c_X0_weigh hW (hMF I136 qF) hF ⟨hl, by omega⟩) dX0_thinkTrades_150 lkX0_101 mfX0_weigh cfX0 at64 rfl rfl rfl rfl (Nat.le_of_ble_eq_true rfl) (fun n150 I150 P150 hf150 => ?_)
        obtain ⟨rfl, rfl, h150⟩ := hf150
        refine x_keep [1, 1, 1, 1, 1, 1, 1, 1, 1, 0] ?_
        have w66 : I150 (65 + 1) = I (65 + 1) := by rcases h150 with ⟨_, q⟩ | ⟨_, q⟩ <;> rw [q]; (unfold cpE; rw [uA_ne (by omega)]; exact q66); exact q66
        have w64 : I150 64 = K' 64 := by rcases h150 with ⟨_, q⟩ | ⟨_, q⟩ <;> rw [q]; (unfold cpE; rw [uA_ne (by omega)]; exact q64); exact q64
        have wF : Fc (sF l) I I150 := by rcases h150 with ⟨_, q⟩ | ⟨_, q⟩ <;> rw [q]; (unfold cpE; exact qF.ua (Or.inr (Or.inr ⟨Nat.le_refl _, by omega⟩))); exact qF
        have w1 : I150 (eR (l + 1)) = K' (eR (l + 1)) := by rcases h150 with ⟨_, q⟩ | ⟨_, q⟩ <;> rw [q]; (unfold cpE; rw [uA_ne (by omega)]; exact qe _ hl1.1 hl1.2); exact qe _ hl1.1 hl1.2
        have eG : ahG T l (ahS T n (l + 1) (I (65 + 1))).1 (ahS T n (l + 1)) r' Y = (ahW T l (ahS T n (l + 1) (I (65 + 1))).1 (ahS T n (l + 1) r').1 Y.1, Y.2 + (ahS T n (l + 1) r').2) := rfl
        refine hnext I150 ⟨w66, by rw [w64]; exact cc, wF, ?_, ?_, fun c0 => ⟨fun p p0 p1 => ?_, fun n0 => ?_⟩⟩
        · rw [w64, eG]; have := hc1.2.1; show K' 64 1 = B + (Y.2 + (ahS T n (l + 1) r').2); omega
        · rw [w64]; have := hc1.2; omega
        · have hA := (hc1.2.2.2 c0).1
          have m6 := meet6 hF hl (show l < T 0 6 by omega)
          have hx1 := hA _ m6.1.1 m6.1.2
          have hx2 := hA _ m6.2.1.1 m6.2.1.2
          have hy1 := (kE c0).1 _ m6.1.1 m6.1.2
          rw [qe _ hl0.1 hl0.2, qe _ hl1.1 hl1.2, cl, hx1, hx2, hy1, hv c0] at h150
          rw [eG]
          show I150 (eR l) p = ahW T l (ahS T n (l + 1) (I (65 + 1))).1 (ahS T n (l + 1) r').1 Y.1 p
          unfold ahW
          rcases h150 with ⟨w, q⟩ | ⟨w, q⟩
          · rw [if_pos w, q]; unfold cpE; rw [uA_eq, if_pos ⟨p0, by omega⟩, qe _ hl1.1 hl1.2]; exact hA p p0 p1
          · rw [if_neg w, q, qe _ hl0.1 hl0.2, cl]; exact (kE c0).1 p p0 p1
        · rw [w1]; exact (hc1.2.2.2 c0).2 n0
      · have hc0 := hc.resolve_right (fun q => by have := q.1; omega)
        refine y_ic dX0_thinkTrades_144 ⟨by decide, by decide⟩ ?_
        refine x_zret dX0_thinkTrades_145 (by omega) rfl ?_
        refine ⟨rfl, Or.inl ⟨rfl, q66, by rw [q64]; exact cc, qF, ?_⟩⟩
        have h1 : Y.2 + (ahS T n (l + 1) r').2 ≤ _ := hle
        omega
    have hSee : ∀ (J I9 : Mem), n = 0 → I 64 2 = 0 → J = uI (uI I9 (eR (l + 1)) a (bagS T r' a)) (eR (l + 1)) b (bagS T r' b) → I9 (eR (l + 1)) = K (eR (l + 1)) → (∀ p, 0 ≤ p → p < T 0 1 → J (eR (l + 1)) p = (ahS T n (l + 1) r').1 p) ∧ (n = 0 → ∀ p, 0 ≤ p → p < T 0 1 → p ≠ a → p ≠ b → J (eR (l + 1)) p = bagS T (I (65 + 1)) p) := fun J I9 n0 c0 hJ h9 => by
      have ev : J (eR (l + 1)) = u1 (u1 (K (eR (l + 1))) a (bagS T r' a)) b (bagS T r' b) := by rw [hJ, uI_eq, uI_eq, h9]
      have ko := (kE c0).2 n0
      refine ⟨fun p p0 p1 => ?_, fun _ p p0 p1 pa pb => ?_⟩
      · rw [ev, n0]
        show _ = bagS T r' p
        by_cases e2 : p = b
        · rw [e2, u1_eq]
        · rw [u1_ne e2]
          by_cases e3 : p = a
          · rw [e3, u1_eq]
          · rw [u1_ne e3, ko p p0 p1 e3 e2, hbag p p0 p1 e3 e2]
      · rw [ev, u1_ne pb, u1_ne pa]; exact ko p p0 p1 pa pb
    have hMK := hMF K kF
    refine y_al (i := 5) dX0_thinkTrades_89 at65.ne0 rfl ?_
    refine x_iload_n (i := 2) dX0_thinkTrades_91 rfl rfl ?_
    refine x_iload_n (i := 3) dX0_thinkTrades_92 rfl rfl ?_
    refine x_iload (i := 7) dX0_thinkTrades_93 rfl ?_
    refine x_iload (i := 8) dX0_thinkTrades_95 rfl ?_
    refine y_ic dX0_thinkTrades_97 ⟨by decide, by decide⟩ ?_
    refine x_callVV (c_X3_deal hW hMK hF (by rw [k66]; exact hr.rc) (by omega) (by omega) ho (by omega) (Or.inl rfl)) dX0_thinkTrades_98 lkX0_94 mfX3_deal cfX3 at65 rfl rfl rfl rfl (Nat.le_of_ble_eq_true rfl) (fun n98 I98 P98 hf98 => ?_)
    obtain ⟨rfl, hI98, rfl⟩ := hf98
    rw [k66, del_1, ← hr'] at hI98
    have d66 : I98 (65 + 1) = r' := by rw [hI98, uA_eq]
    have d64 : I98 64 = K 64 := by rw [hI98, uA_ne (by decide)]
    have dF : Fc (sF l) I I98 := by rw [hI98]; exact kF.ua (Or.inr (Or.inl rfl))
    have de : ∀ k, 0 ≤ k → k ≤ 8 → I98 (eR k) = K (eR k) := fun k k0 k1 => by rw [hI98, uA_ne (by unfold eR; omega)]
    refine x_iload (i := 6) dX0_thinkTrades_101 rfl ?_
    refine x_if_eq (tgt := 118) dX0_thinkTrades_103 rfl (fun h103 => ?_) (fun h103 => ?_)
    · refine y_aln (i := 0) dX0_thinkTrades_118 at64.ne0 rfl rfl ?_
      refine x_iload_n (i := 1) dX0_thinkTrades_119 rfl rfl ?_
      refine y_ic dX0_thinkTrades_120 ⟨by decide, by decide⟩ ?_
      refine x_iadd dX0_thinkTrades_121 ⟨by omega, by omega⟩ ?_
      refine x_callSI (HT I98 t lw (hMF I98 dF) (by rw [d66]; exact hD) (by rw [d64]; exact kb.1) (by rw [d64]; exact kb.2)) dX0_thinkTrades_122 lkX0_34 mfX0_think rfl rfl rfl (Nat.le_of_ble_eq_true rfl) (fun r122 I122 P122 hr122 hf122 => ?_)
      obtain ⟨rfl, t66, tc, tF, ht⟩ := hf122
      rw [d66, d64] at ht
      rw [d66] at t66
      rw [d64] at tc
      refine x_keep [1, 1, 1, 1, 1, 1, 1, 1, 1, 0] ?_
      first | (have z1 := hI112; refine hC 1 I112 ?_ ?_ ?_ ?_ (Or.inr ⟨rfl, ?_, ?_, fun c0 => ?_⟩)) | (have z1 := ht; refine hC r122 I122 t66 (tc.trans kc) (dF.tr (tF.mo (sF_up hl))) ((tF _ (by unfold eR; omega)).trans (de _ hl0.1 hl0.2)) ?_)
      all_goals skip
      all_goals first | (have z1 := hI112; first | (show I112 (65 + 1) = r'; rw [hI112, uI_ne (by omega), uI_ne (by omega)]; exact d66) | (show I112 64 2 = I 64 2; rw [hI112, uI_ne (by omega), uI_ne (by omega), d64]; exact kc) | (show Fc (sF l) I I112; rw [hI112]; exact (dF.ui (Or.inr (Or.inr ⟨by omega, by omega⟩))).ui (Or.inr (Or.inr ⟨by omega, by omega⟩))) | (show I112 (eR l) = K (eR l); rw [hI112, uI_ne (by omega), uI_ne (by omega)]; exact de _ hl0.1 hl0.2) | (show I112 64 1 = K 64 1 + (ahS T n (l + 1) r').2; rw [hI112, uI_ne (by omega), uI_ne (by omega), d64, show n = 0 by omega]; exact (Int.add_zero _).symm) | (show I112 64 1 ≤ 3000; rw [hI112, uI_ne (by omega), uI_ne (by omega), d64]; exact kb.2) | exact hSee I112 I98 (by omega) c0 hI112 (de _ hl1.1 hl1.2)) | (have z1 := ht; exact ht.imp id (fun q => ⟨q.1, q.2.1, q.2.2.1, fun c0 => ⟨q.2.2.2 (kc.trans c0), fun n0 => absurd n0 (by omega)⟩⟩))
    · refine y_aln (i := 0) dX0_thinkTrades_106 at64.ne0 rfl rfl ?_
      refine x_iload_n (i := 1) dX0_thinkTrades_107 rfl rfl ?_
      refine y_ic dX0_thinkTrades_108 ⟨by decide, by decide⟩ ?_
      refine x_iadd dX0_thinkTrades_109 ⟨by omega, by omega⟩ ?_
      refine x_iload_n (i := 2) dX0_thinkTrades_110 rfl rfl ?_
      refine x_iload_n (i := 3) dX0_thinkTrades_111 rfl rfl ?_
      refine x_callVI (c_X0_seeEndOfTwo hW (hMF I98 dF) hF (by rw [d66]; exact hD.rc) hl1 ha hb) dX0_thinkTrades_112 lkX0_98 mfX0_seeEndOfTwo cfX0 at64 rfl rfl rfl rfl (Nat.le_of_ble_eq_true rfl) (fun r112 I112 P112 hr112 hf112 => ?_)
      obtain ⟨rfl, rfl, hI112⟩ := hf112
      rw [show I98 66 = r' from d66] at hI112
      refine x_goto (tgt := 125) dX0_thinkTrades_115 rfl ?_
      refine x_keep [1, 1, 1, 1, 1, 1, 1, 1, 1, 0] ?_
      first | (have z1 := hI112; refine hC 1 I112 ?_ ?_ ?_ ?_ (Or.inr ⟨rfl, ?_, ?_, fun c0 => ?_⟩)) | (have z1 := ht; refine hC r122 I122 t66 (tc.trans kc) (dF.tr (tF.mo (sF_up hl))) ((tF _ (by unfold eR; omega)).trans (de _ hl0.1 hl0.2)) ?_)
      all_goals skip
      all_goals first | (have z1 := hI112; first | (show I112 (65 + 1) = r'; rw [hI112, uI_ne (by omega), uI_ne (by omega)]; exact d66) | (show I112 64 2 = I 64 2; rw [hI112, uI_ne (by omega), uI_ne (by omega), d64]; exact kc) | (show Fc (sF l) I I112; rw [hI112]; exact (dF.ui (Or.inr (Or.inr ⟨by omega, by omega⟩))).ui (Or.inr (Or.inr ⟨by omega, by omega⟩))) | (show I112 (eR l) = K (eR l); rw [hI112, uI_ne (by omega), uI_ne (by omega)]; exact de _ hl0.1 hl0.2) | (show I112 64 1 = K 64 1 + (ahS T n (l + 1) r').2; rw [hI112, uI_ne (by omega), uI_ne (by omega), d64, show n = 0 by omega]; exact (Int.add_zero _).symm) | (show I112 64 1 ≤ 3000; rw [hI112, uI_ne (by omega), uI_ne (by omega), d64]; exact kb.2) | exact hSee I112 I98 (by omega) c0 hI112 (de _ hl1.1 hl1.2)) | (have z1 := ht; exact ht.imp id (fun q => ⟨q.1, q.2.1, q.2.2.1, fun c0 => ⟨q.2.2.2 (kc.trans c0), fun n0 => absurd n0 (by omega)⟩⟩))
  have hO : ∀ (f : Nat) (o fl : Int) (K : Mem), (OFN T - o).toNat < f → 0 ≤ o → o ≤ OFN T → ((fl = 1 ∧ n = 0) ∨ (fl = 0 ∧ n ≠ 0)) → TIN T I K l n a b B (trP T (I (65 + 1)) a b (ahG T l (ahS T n (l + 1) (I (65 + 1))).1 (ahS T n (l + 1))) e o 0) → V G mX0_thinkTrades (y + 5) 0 0 30 [some (.inr (.inl 64)), some (.inl (l)), some (.inl (a)), some (.inl (b)), some (.inl (v)), some (.inr (.inl 65)), some (.inl (fl)), some (.inl (o)), none, none] [] NO K P (qI NO (fun r I' P' => P' = P ∧ ((r = 0 ∧ I' (65 + 1) = I (65 + 1) ∧ I' 64 2 = I 64 2 ∧ Fc (sF l) I I' ∧ 3000 < B + (trF T (I (65 + 1)) a b (ahG T l (ahS T n (l + 1) (I (65 + 1))).1 (ahS T n (l + 1))) e).2) ∨ (r = 1 ∧ TIN T I I' l n a b B (trF T (I (65 + 1)) a b (ahG T l (ahS T n (l + 1) (I (65 + 1))).1 (ahS T n (l + 1))) e))))) := by
    intro f
    induction f with
    | zero => intro o fl K hf; omega
    | succ f ih =>
      intro o fl K hf ho ho2 hfl hK
      have hKM := hMF K hK.2.2.1
      have k3 : K lw 3 = OFN T := hKM.2.2.2.2.2.2.2.2.2.1
      have hnext : o < OFN T → ∀ K' : Mem, TIN T I K' l n a b B (trP T (I (65 + 1)) a b (ahG T l (ahS T n (l + 1) (I (65 + 1))).1 (ahS T n (l + 1))) e o (T 0 2)) → V G mX0_thinkTrades (y + 5) 0 0 159 [some (.inr (.inl 64)), some (.inl (l)), some (.inl (a)), some (.inl (b)), some (.inl (v)), some (.inr (.inl 65)), some (.inl (fl)), some (.inl (o)), none, none] [] NO K' P (qI NO (fun r I' P' => P' = P ∧ ((r = 0 ∧ I' (65 + 1) = I (65 + 1) ∧ I' 64 2 = I 64 2 ∧ Fc (sF l) I I' ∧ 3000 < B + (trF T (I (65 + 1)) a b (ahG T l (ahS T n (l + 1) (I (65 + 1))).1 (ahS T n (l + 1))) e).2) ∨ (r = 1 ∧ TIN T I I' l n a b B (trF T (I (65 + 1)) a b (ahG T l (ahS T n (l + 1) (I (65 + 1))).1 (ahS T n (l + 1))) e))))) := fun ho3 K' hK' => by
        rw [trP_o ho] at hK'
        refine x_iinc dX0_thinkTrades_159 rfl ⟨by omega, by omega⟩ rfl (Nat.le_of_ble_eq_true rfl) ?_
        refine x_goto (tgt := 30) dX0_thinkTrades_162 rfl ?_
        refine x_keep [1, 1, 1, 1, 1, 1, 1, 1, 0, 0] ?_
        exact ih (o + 1) fl K' (by omega) (by omega) (by omega) hfl hK'
      have hZ : o < OFN T → gvP T (I (65 + 1)) a o → ∀ (f : Nat) (z : Int) (K : Mem), (T 0 2 - z).toNat < f → 0 ≤ z → z ≤ T 0 2 → TIN T I K l n a b B (trP T (I (65 + 1)) a b (ahG T l (ahS T n (l + 1) (I (65 + 1))).1 (ahS T n (l + 1))) e o z) → V G mX0_thinkTrades (y + 5) 0 0 60 [some (.inr (.inl 64)), some (.inl (l)), some (.inl (a)), some (.inl (b)), some (.inl (v)), some (.inr (.inl 65)), some (.inl (fl)), some (.inl (o)), some (.inl (z)), none] [] NO K P (qI NO (fun r I' P' => P' = P ∧ ((r = 0 ∧ I' (65 + 1) = I (65 + 1) ∧ I' 64 2 = I 64 2 ∧ Fc (sF l) I I' ∧ 3000 < B + (trF T (I (65 + 1)) a b (ahG T l (ahS T n (l + 1) (I (65 + 1))).1 (ahS T n (l + 1))) e).2) ∨ (r = 1 ∧ TIN T I I' l n a b B (trF T (I (65 + 1)) a b (ahG T l (ahS T n (l + 1) (I (65 + 1))).1 (ahS T n (l + 1))) e))))) := by
        intro ho3 hgv f
        induction f with
        | zero => intro z K hf; omega
        | succ f ihz =>
          intro z K hf hz hz2 hK
          have hKM := hMF K hK.2.2.1
          have k1 : K t 1 = T 0 2 := hKM.2.2.2.2.2.1.2.1
          have k66 := hK.1
          have hnx : z < T 0 2 → ∀ K' : Mem, TIN T I K' l n a b B (trP T (I (65 + 1)) a b (ahG T l (ahS T n (l + 1) (I (65 + 1))).1 (ahS T n (l + 1))) e o (z + 1)) → V G mX0_thinkTrades (y + 5) 0 0 153 [some (.inr (.inl 64)), some (.inl (l)), some (.inl (a)), some (.inl (b)), some (.inl (v)), some (.inr (.inl 65)), some (.inl (fl)), some (.inl (o)), some (.inl (z)), none] [] NO K' P (qI NO (fun r I' P' => P' = P ∧ ((r = 0 ∧ I' (65 + 1) = I (65 + 1) ∧ I' 64 2 = I 64 2 ∧ Fc (sF l) I I' ∧ 3000 < B + (trF T (I (65 + 1)) a b (ahG T l (ahS T n (l + 1) (I (65 + 1))).1 (ahS T n (l + 1))) e).2) ∨ (r = 1 ∧ TIN T I I' l n a b B (trF T (I (65 + 1)) a b (ahG T l (ahS T n (l + 1) (I (65 + 1))).1 (ahS T n (l + 1))) e))))) := fun hz3 K' hK' => by
            refine x_iinc dX0_thinkTrades_153 rfl ⟨by omega, by omega⟩ rfl (Nat.le_of_ble_eq_true rfl) ?_
            refine x_goto (tgt := 60) dX0_thinkTrades_156 rfl ?_
            refine x_keep [1, 1, 1, 1, 1, 1, 1, 1, 1, 0] ?_
            exact ihz (z + 1) K' (by omega) (by omega) (by omega) hK'
          refine x_iload (i := 8) dX0_thinkTrades_60 rfl ?_
          refine y_al (i := 5) dX0_thinkTrades_62 at65.ne0 rfl ?_
          refine y_getp (z := 0) (v := t) dX0_thinkTrades_64 frX0_38 cfX3 at65 rfl rfl hpt ?_
          refine y_geti (z := 1) dX0_thinkTrades_67 frX0_87 cfX10 hTo.at rfl rfl ?_
          rw [k1]
          refine x_icmp_ge (tgt := 159) dX0_thinkTrades_70 rfl (fun h70 => ?_) (fun h70 => ?_)
          · refine x_keep [1, 1, 1, 1, 1, 1, 1, 1, 0, 0] ?_
            refine hnext ho3 K ?_
            rw [show z = T 0 2 by omega] at hK
            exact hK
          · refine y_al (i := 5) dX0_thinkTrades_73 at65.ne0 rfl ?_
            refine x_iload_n (i := 3) dX0_thinkTrades_75 rfl rfl ?_
            refine x_iload (i := 7) dX0_thinkTrades_76 rfl ?_
            refine x_iload (i := 8) dX0_thinkTrades_78 rfl ?_
            refine x_callVI (c_X3_canGet hW hKM hF (by omega) ⟨ho, ho3⟩ (by omega)) dX0_thinkTrades_80 lkX0_90 mfX3_canGet cfX3 at65 rfl rfl rfl rfl (Nat.le_of_ble_eq_true rfl) (fun r80 I80 P80 hr80 hf80 => ?_)
            obtain ⟨i80, p80, q80⟩ := hf80
            rw [i80, p80]
            rw [k66] at q80
            refine x_if_ne (tgt := 89) dX0_thinkTrades_83 rfl (fun h83 => ?_) (fun h83 => ?_)
            · have hgt := (q80.resolve_right (fun q => by have := q.1; omega)).2
              refine x_keep [1, 1, 1, 1, 1, 1, 1, 1, 1, 0] ?_
              exact hStep o z fl K ⟨ho, ho3⟩ ⟨hz, by omega⟩ hfl (law_gg.mpr ⟨hgv, hgt⟩) hK (hnx (by omega))
            · have hngt := (q80.resolve_left (fun q => by have := q.1; omega)).2
              have enl := trP_no (T := T) (r := I (65 + 1)) (a := a) (b := b) (o := o) (z := z) (g := ahG T l (ahS T n (l + 1) (I (65 + 1))).1 (ahS T n (l + 1))) (e := e) hz (fun q => hngt (law_gg.mp q).2)
              refine x_goto (tgt := 153) dX0_thinkTrades_86 rfl ?_
              refine x_keep [1, 1, 1, 1, 1, 1, 1, 1, 1, 0] ?_
              exact hnx (by omega) K (by rw [enl]; exact hK)
      refine x_iload (i := 7) dX0_thinkTrades_30 rfl ?_
      refine y_al (i := 5) dX0_thinkTrades_32 at65.ne0 rfl ?_
      refine y_getp (z := 1) (v := lw) dX0_thinkTrades_34 frX0_74 cfX3 at65 rfl rfl hpl ?_
      refine y_geti (z := 3) dX0_thinkTrades_37 frX0_78 cfX2 hLo.at rfl rfl ?_
      rw [k3]
      refine x_icmp_ge (tgt := 165) dX0_thinkTrades_40 rfl (fun h40 => ?_) (fun h40 => ?_)
      · refine y_ic dX0_thinkTrades_165 ⟨by decide, by decide⟩ ?_
        refine x_zret dX0_thinkTrades_166 (by omega) rfl ?_
        refine ⟨rfl, Or.inr ⟨rfl, ?_⟩⟩
        rw [show o = OFN T by omega, trP_e] at hK
        exact hK
      · refine y_al (i := 5) dX0_thinkTrades_43 at65.ne0 rfl ?_
        refine x_iload_n (i := 2) dX0_thinkTrades_45 rfl rfl ?_
        refine x_iload (i := 7) dX0_thinkTrades_46 rfl ?_
        refine x_callVI (c_X3_canGive hW hKM hF (by rw [hK.1]; exact hr.rc) (by omega) ⟨ho, by omega⟩) dX0_thinkTrades_48 lkX0_83 mfX3_canGive cfX3 at65 rfl rfl rfl rfl (Nat.le_of_ble_eq_true rfl) (fun r48 I48 P48 hr48 hf48 => ?_)
        obtain ⟨i48, p48, q48⟩ := hf48
        rw [i48, p48]
        rw [hK.1] at q48
        refine x_if_ne (tgt := 57) dX0_thinkTrades_51 rfl (fun h51 => ?_) (fun h51 => ?_)
        · have hgv := (q48.resolve_right (fun q => by have := q.1; omega)).2
          refine y_ic dX0_thinkTrades_57 ⟨by decide, by decide⟩ ?_
          refine x_istore (i := 8) dX0_thinkTrades_58 rfl (Nat.le_of_ble_eq_true rfl) ?_
          refine x_keep [1, 1, 1, 1, 1, 1, 1, 1, 1, 0] ?_
          exact hZ (by omega) hgv _ 0 K (Nat.lt_succ_self _) (Int.le_refl 0) (by omega) hK
        · have hng := (q48.resolve_left (fun q => by have := q.1; omega)).2
          have eall : trP T (I (65 + 1)) a b (ahG T l (ahS T n (l + 1) (I (65 + 1))).1 (ahS T n (l + 1))) e o (T 0 2) = trP T (I (65 + 1)) a b (ahG T l (ahS T n (l + 1) (I (65 + 1))).1 (ahS T n (l + 1))) e o 0 := itN_inv (p := fun y => y = trP T (I (65 + 1)) a b (ahG T l (ahS T n (l + 1) (I (65 + 1))).1 (ahS T n (l + 1))) e o 0) rfl (fun z y _ _ e => by rw [e]; exact cif_neg (fun q => hng (law_gg.mp q).1))
          refine x_goto (tgt := 159) dX0_thinkTrades_54 rfl ?_
          refine x_keep [1, 1, 1, 1, 1, 1, 1, 1, 0, 0] ?_
          exact hnext (by omega) K (by rw [eall]; exact hK)
  have it3 : I t 3 = T 0 6 := hca.2.2.2.1
  refine y_aln (i := 0) dX0_thinkTrades_0 at64.ne0 rfl rfl ?_
  refine y_getp (z := 0) (v := 65) dX0_thinkTrades_1 frX0_16 cfX0 at64 rfl rfl (wp (v := 65) hW rfl rfl (by decide)) ?_
  refine y_as (i := 5) dX0_thinkTrades_4 at65.ne0 rfl (Nat.le_of_ble_eq_true rfl) ?_
  refine x_iload_n (i := 1) dX0_thinkTrades_6 rfl rfl ?_
  refine y_ic dX0_thinkTrades_7 ⟨by decide, by decide⟩ ?_
  refine x_iadd dX0_thinkTrades_8 ⟨by omega, by omega⟩ ?_
  refine y_al (i := 5) dX0_thinkTrades_9 at65.ne0 rfl ?_
  refine y_getp (z := 0) (v := t) dX0_thinkTrades_11 frX0_38 cfX3 at65 rfl rfl hpt ?_
  refine y_geti (z := 3) dX0_thinkTrades_14 frX0_42 cfX10 hTo.at rfl rfl ?_
  rw [it3]
  refine x_icmp_lt (tgt := 24) dX0_thinkTrades_17 rfl (fun h17 => ?_) (fun h17 => ?_)
  · refine y_ic dX0_thinkTrades_24 ⟨by decide, by decide⟩ ?_
    refine x_istore (i := 6) dX0_thinkTrades_25 rfl (Nat.le_of_ble_eq_true rfl) ?_
    refine y_ic dX0_thinkTrades_27 ⟨by decide, by decide⟩ ?_
    refine x_istore (i := 7) dX0_thinkTrades_28 rfl (Nat.le_of_ble_eq_true rfl) ?_
    refine x_keep [1, 1, 1, 1, 1, 1, 1, 1, 0, 0] ?_
    first | exact hO _ 0 1 I (Nat.lt_succ_self _) (by decide) (by omega) (Or.inl ⟨rfl, by omega⟩) (by rw [trP_0]; exact hE) | exact hO _ 0 0 I (Nat.lt_succ_self _) (by decide) (by omega) (Or.inr ⟨rfl, by omega⟩) (by rw [trP_0]; exact hE)
  · refine y_ic dX0_thinkTrades_20 ⟨by decide, by decide⟩ ?_
    refine x_goto (tgt := 25) dX0_thinkTrades_21 rfl ?_
    refine x_istore (i := 6) dX0_thinkTrades_25 rfl (Nat.le_of_ble_eq_true rfl) ?_
    refine y_ic dX0_thinkTrades_27 ⟨by decide, by decide⟩ ?_
    refine x_istore (i := 7) dX0_thinkTrades_28 rfl (Nat.le_of_ble_eq_true rfl) ?_
    refine x_keep [1, 1, 1, 1, 1, 1, 1, 1, 0, 0] ?_
    first | exact hO _ 0 1 I (Nat.lt_succ_self _) (by decide) (by omega) (Or.inl ⟨rfl, by omega⟩) (by rw [trP_0]; exact hE) | exact hO _ 0 0 I (Nat.lt_succ_self _) (by decide) (by omega) (Or.inr ⟨rfl, by omega⟩) (by rw [trP_0]; exact hE)
theorem ah1 {T : Tn} {l : Int} {r : Rw} : (ahS T 1 l r).2 = 1 := by
  have key : ∀ (a b : Int) (nn : Rw) (e : Ah), e.2 = 1 → (trF T r a b (ahG T l nn (ahS T 0 (l + 1))) e).2 = 1 := fun a b nn e he => by
    refine itN_inv (p := fun y : Ah => y.2 = 1) he (fun o y _ _ hy => itN_inv (p := fun y : Ah => y.2 = 1) hy (fun z y _ _ hy => ?_))
    show (trB T r a b (ahG T l nn (ahS T 0 (l + 1))) o z y).2 = 1
    unfold trB
    by_cases q : lawP T r a b (OF T o) z
    · rw [cif_pos q]; exact (Int.add_zero _).trans hy
    · rw [cif_neg q]; exact hy
  exact key _ _ _ _ (key _ _ _ _ rfl)
theorem c_X0_think0 {t lw y : Nat} {l : Int} (hW : WP P) (hM : MK I P 65 t lw T) (hF : WF T) (hr : RW T (I (65 + 1))) (hl : l = T 0 6) (h1 : 0 ≤ I 64 1) (h2 : I 64 1 ≤ 3000) : Cv G mX0_think (y + 4) 0 0 [.inr (.inl 64), .inl l] NO I P (thQ P T 0 l I) := by
  obtain ⟨hq, hTo, hLo, hpt, hpl, hca, hcl⟩ := id hM
  have wT := wp_T hW hTo
  have f6 := hF.2.2.2.2.2.1
  have hl0 : 0 ≤ l ∧ l ≤ 8 := by omega
  have e0 := eR_n hl0
  have it3 : I t 3 = T 0 6 := hca.2.2.2.1
  refine x_enter mfX0_think rfl (Nat.le_of_ble_eq_true rfl) (fun _ => ?_)
  refine y_aln (i := 0) dX0_think_0 at64.ne0 rfl rfl ?_
  refine y_getp (z := 0) (v := 65) dX0_think_1 frX0_16 cfX0 at64 rfl rfl (wp (v := 65) hW rfl rfl (by decide)) ?_
  refine y_getp (z := 0) (v := t) dX0_think_4 frX0_38 cfX3 at65 rfl rfl hpt ?_
  refine y_asn (i := 2) dX0_think_7 hTo.at.ne0 rfl rfl (Nat.le_of_ble_eq_true rfl) ?_
  refine x_iload_n (i := 1) dX0_think_8 rfl rfl ?_
  refine y_bi dX0_think_9 ⟨by decide, by decide⟩ ?_
  refine x_icmp_ge (tgt := 22) dX0_think_11 rfl (fun h11 => ?_) (fun h11 => ?_)
  · refine y_aln (i := 0) dX0_think_22 at64.ne0 rfl rfl ?_
    refine x_iload_n (i := 1) dX0_think_23 rfl rfl ?_
    refine x_callVV (c_X0_seeEnd hW hM hF hr.rc hl0) dX0_think_24 lkX0_47 mfX0_seeEnd cfX0 at64 rfl rfl rfl rfl (Nat.le_of_ble_eq_true rfl) (fun n24 I24 P24 hf24 => ?_)
    obtain ⟨rfl, rfl, fr24, v24⟩ := hf24
    refine y_ic dX0_think_27 ⟨by decide, by decide⟩ ?_
    refine x_zret dX0_think_28 (by omega) rfl ?_
    exact ⟨rfl, fr24 _ (by show ¬ 65 + 1 = eR l; omega), by rw [fr24 64 (by show ¬ 64 = eR l; omega)], fr24.mo (fun a ha => Or.inr (Or.inr (by rw [show a = eR l from ha]; exact ⟨Nat.le_refl _, by omega⟩))), Or.inr ⟨rfl, by rw [fr24 64 (by show ¬ 64 = eR l; omega)]; exact (Int.add_zero _).symm, by rw [fr24 64 (by show ¬ 64 = eR l; omega)]; exact h2, fun _ => v24⟩⟩
  · refine x_iload_n (i := 1) dX0_think_14 rfl rfl ?_
    refine y_aln (i := 2) dX0_think_15 hTo.at.ne0 rfl rfl ?_
    refine y_geti (z := 3) dX0_think_16 frX0_42 cfX10 hTo.at rfl rfl ?_
    rw [it3]
    refine x_icmp_lt (tgt := 29) dX0_think_19 rfl (fun h19 => ?_) (fun h19 => ?_)
    · omega
    · refine y_aln (i := 0) dX0_think_22 at64.ne0 rfl rfl ?_
      refine x_iload_n (i := 1) dX0_think_23 rfl rfl ?_
      refine x_callVV (c_X0_seeEnd hW hM hF hr.rc hl0) dX0_think_24 lkX0_47 mfX0_seeEnd cfX0 at64 rfl rfl rfl rfl (Nat.le_of_ble_eq_true rfl) (fun n24 I24 P24 hf24 => ?_)
      obtain ⟨rfl, rfl, fr24, v24⟩ := hf24
      refine y_ic dX0_think_27 ⟨by decide, by decide⟩ ?_
      refine x_zret dX0_think_28 (by omega) rfl ?_
      exact ⟨rfl, fr24 _ (by show ¬ 65 + 1 = eR l; omega), by rw [fr24 64 (by show ¬ 64 = eR l; omega)], fr24.mo (fun a ha => Or.inr (Or.inr (by rw [show a = eR l from ha]; exact ⟨Nat.le_refl _, by omega⟩))), Or.inr ⟨rfl, by rw [fr24 64 (by show ¬ 64 = eR l; omega)]; exact (Int.add_zero _).symm, by rw [fr24 64 (by show ¬ 64 = eR l; omega)]; exact h2, fun _ => v24⟩⟩
theorem TIN.sw {T : Tn} {I K : Mem} {l a b B : Int} {n : Nat} {Y : Ah} (h : TIN T I K l n a b B Y) : TIN T K K l n b a B Y := by
  obtain ⟨h1, h2, h3, h4, h5, h6⟩ := h
  exact ⟨rfl, rfl, Fc.rf, h4, h5, fun c => ⟨(h6 (h2.symm.trans c)).1, fun n0 p p0 p1 pa pb => by rw [h1]; exact (h6 (h2.symm.trans c)).2 n0 p p0 p1 pb pa⟩⟩
theorem c_X0_thinkS {t lw y n : Nat} {l : Int} (hW : WP P) (hM : MK I P 65 t lw T) (hF : WF T) (hr : RW T (I (65 + 1))) (hl : 0 ≤ l) (hn : (n : Int) = T 0 6 - (l + 1)) (h1 : 0 ≤ I 64 1) (h2 : I 64 1 ≤ 3000) (HT : THK G P T n (l + 1) y) (HT2 : THK G P T n (l + 1) (y + 1)) : Cv G mX0_think (y + 6) 0 0 [.inr (.inl 64), .inl l] NO I P (thQ P T (n + 1) l I) := by
  obtain ⟨hq, hTo, hLo, hpt, hpl, hca, hcl⟩ := id hM
  have wT := wp_T hW hTo
  have f6 := hF.2.2.2.2.2.1
  have hl0 : 0 ≤ l ∧ l ≤ 8 := by omega
  have hl1 : 0 ≤ l + 1 ∧ l + 1 ≤ 8 := by omega
  have e0 := eR_n hl0
  have e1 := eR_n hl1
  have it3 : I t 3 = T 0 6 := hca.2.2.2.1
  have m6 := meet6 hF hl (show l < T 0 6 by omega)
  have mf := hca.2.2.2.2.2.2.2.2 l hl (by omega)
  have ht1 := hTo.1
  have a1 := ahS_1 hF (n := n) (l := l) (r := I (65 + 1))
  have ann := ahS_nn hF n (l + 1) (I (65 + 1))
  have g64 : ∀ k x, k ≠ x → uI I 64 x (I 64 1 + 1) 64 k = I 64 k := fun k x hk => by rw [uI_eq, u1_ne hk]
  have hF1 : Fc (sF l) I (uI I 64 1 (I 64 1 + 1)) := Fc.rf.ui (Or.inl rfl)
  have hM1 : MK (uI I 64 1 (I 64 1 + 1)) P 65 t lw T := hM.fr hF1 sF_tl
  have c66 : uI I 64 1 (I 64 1 + 1) (65 + 1) = I (65 + 1) := uI_ne (by decide)
  have c1 : uI I 64 1 (I 64 1 + 1) 64 1 = I 64 1 + 1 := by rw [uI_eq, u1_eq]
  have c2 : uI I 64 1 (I 64 1 + 1) 64 2 = I 64 2 := g64 2 1 (by decide)
  have ct3 : uI I 64 1 (I 64 1 + 1) t 3 = T 0 6 := by rw [uI_ne (by omega)]; exact it3
  have gm := fun (nn : Rw) => ahG_mono (T := T) (l := l) (nn := nn) (S := ahS T n (l + 1)) (fun r => ahS_nn hF n (l + 1) r)
  have eS : ahS T (n + 1) l (I (65 + 1)) = trF T (I (65 + 1)) (mxS T l) (mnS T l) (ahG T l (ahS T n (l + 1) (I (65 + 1))).1 (ahS T n (l + 1))) (trF T (I (65 + 1)) (mnS T l) (mxS T l) (ahG T l (ahS T n (l + 1) (I (65 + 1))).1 (ahS T n (l + 1))) ((ahS T n (l + 1) (I (65 + 1))).1, 1 + (ahS T n (l + 1) (I (65 + 1))).2)) := rfl
  have hmono : (trF T (I (65 + 1)) (mnS T l) (mxS T l) (ahG T l (ahS T n (l + 1) (I (65 + 1))).1 (ahS T n (l + 1))) ((ahS T n (l + 1) (I (65 + 1))).1, 1 + (ahS T n (l + 1) (I (65 + 1))).2)).2 ≤ (ahS T (n + 1) l (I (65 + 1))).2 := by
    rw [eS]
    exact trF_mono (μ := fun y : Ah => y.2) hF (gm _)
  have hn1 : l + 1 ≥ T 0 6 → (ahS T (n + 1) l (I (65 + 1))).2 = 1 := fun q => by rw [show n = 0 by omega]; exact ah1
  have hab : mnS T l ≠ mxS T l := by unfold mnS mxS; omega
  have hmn : 0 ≤ mnS T l ∧ mnS T l < T 0 1 := by unfold mnS; omega
  have hmx : 0 ≤ mxS T l ∧ mxS T l < T 0 1 := by unfold mxS; omega
  have hA1 : T 6 (2 * l) = mnS T l ∨ T 6 (2 * l) = mxS T l := by unfold mnS mxS; omega
  have hA2 : T 6 (2 * l + 1) = mnS T l ∨ T 6 (2 * l + 1) = mxS T l := by unfold mnS mxS; omega
  have f1 := hF.1
  refine x_enter mfX0_think rfl (Nat.le_of_ble_eq_true rfl) (fun _ => ?_)
  have hB : I 64 1 + 1 ≤ 3000 → V G mX0_think (y + 6) 0 0 70 [some (.inr (.inl 64)), some (.inl (l)), some (.inr (.inl t)), none, none, none, none, none] [] NO (uI I 64 1 (I 64 1 + 1)) P (thQ P T (n + 1) l I) := fun h3 => by
    refine y_aln (i := 0) dX0_think_70 at64.ne0 rfl rfl ?_
    refine x_iload_n (i := 1) dX0_think_71 rfl rfl ?_
    refine y_ic dX0_think_72 ⟨by decide, by decide⟩ ?_
    refine x_iadd dX0_think_73 ⟨by omega, by omega⟩ ?_
    refine x_callSI (HT2 (uI I 64 1 (I 64 1 + 1)) t lw hM1 (by rw [c66]; exact hr) (by rw [c1]; omega) (by rw [c1]; omega)) dX0_think_74 lkX0_34 mfX0_think rfl rfl rfl (Nat.le_of_ble_eq_true rfl) (fun r74 I74 P74 hr74 hf74 => ?_)
    obtain ⟨rfl, t66, tc, tF, ht⟩ := hf74
    rw [c66, c1, c2] at ht
    rw [c66] at t66
    rw [c2] at tc
    have fF : Fc (sF l) I I74 := hF1.tr (tF.mo (sF_up hl))
    refine x_if_ne (tgt := 82) dX0_think_77 rfl (fun h77 => ?_) (fun h77 => ?_)
    · have ht1 := ht.resolve_left (fun q => h77 q.1)
      refine y_aln (i := 0) dX0_think_82 at64.ne0 rfl rfl ?_
      refine x_iload_n (i := 1) dX0_think_83 rfl rfl ?_
      refine x_callVV (c_X0_takeOver hW ⟨hl, by omega⟩) dX0_think_84 lkX0_51 mfX0_takeOver cfX0 at64 rfl rfl rfl rfl (Nat.le_of_ble_eq_true rfl) (fun n84 I84 P84 hf84 => ?_)
      obtain ⟨rfl, rfl, h84⟩ := hf84
      have k66 : I84 (65 + 1) = I (65 + 1) := by rw [h84]; unfold cpE; rw [uA_ne (by omega)]; exact t66
      have k64 : I84 64 = I74 64 := by rw [h84]; unfold cpE; rw [uA_ne (by omega)]
      have kF : Fc (sF l) I I84 := by rw [h84]; unfold cpE; exact fF.ua (Or.inr (Or.inr ⟨Nat.le_refl _, by omega⟩))
      have k1 : I84 (eR (l + 1)) = I74 (eR (l + 1)) := by rw [h84]; unfold cpE; rw [uA_ne (by omega)]
      have k0 : ∀ p, 0 ≤ p → p < T 0 1 → I84 (eR l) p = I74 (eR (l + 1)) p := fun p p0 p1 => by rw [h84]; unfold cpE; rw [uA_eq, if_pos ⟨p0, by omega⟩]
      have hM84 : MK I84 P84 65 t lw T := hM.fr kF sF_tl
      have mg := hM84.2.2.2.2.2.1.2.2.2.2.2.2.2.2 l hl (by omega)
      have hE : TIN T I84 I84 l n (mnS T l) (mxS T l) (I 64 1) ((ahS T n (l + 1) (I (65 + 1))).1, 1 + (ahS T n (l + 1) (I (65 + 1))).2) := ⟨rfl, rfl, Fc.rf, by rw [k64]; have := ht1.2.1; show I74 64 1 = I 64 1 + (1 + (ahS T n (l + 1) (I (65 + 1))).2); omega, by rw [k64]; have := ht1.2; omega, fun c0 => ⟨fun p p0 p1 => (k0 p p0 p1).trans (ht1.2.2.2 (by rw [k64] at c0; exact tc.symm.trans c0) p p0 p1), fun n0 p p0 p1 _ _ => by
        rw [k1, ht1.2.2.2 (by rw [k64] at c0; exact tc.symm.trans c0) p p0 p1, n0, k66]; rfl⟩⟩
      refine y_aln (i := 2) dX0_think_87 hTo.at.ne0 rfl rfl ?_
      refine y_getp (z := 14) (v := (t + 11)) dX0_think_88 frX0_54 cfX10 hTo.at rfl rfl (p10_14 wT hTo) ?_
      refine x_iload_n (i := 1) dX0_think_91 rfl rfl ?_
      refine x_iald dX0_think_92 (a10_14 hTo) ⟨by omega, by omega⟩ ?_
      rw [mg.1]
      refine x_istore_n (i := 3) dX0_think_93 rfl rfl (Nat.le_of_ble_eq_true rfl) ?_
      refine y_aln (i := 2) dX0_think_94 hTo.at.ne0 rfl rfl ?_
      refine y_getp (z := 15) (v := (t + 12)) dX0_think_95 frX0_58 cfX10 hTo.at rfl rfl (p10_15 wT hTo) ?_
      refine x_iload_n (i := 1) dX0_think_98 rfl rfl ?_
      refine x_iald dX0_think_99 (a10_15 hTo) ⟨by omega, by omega⟩ ?_
      rw [mg.2]
      refine x_istore (i := 4) dX0_think_100 rfl (Nat.le_of_ble_eq_true rfl) ?_
      refine y_aln (i := 0) dX0_think_102 at64.ne0 rfl rfl ?_
      refine y_getp (z := 3) (v := 67) dX0_think_103 frX0_11 cfX0 at64 rfl rfl (wp (v := 67) hW rfl rfl (by decide)) ?_
      refine x_iload_n (i := 1) dX0_think_106 rfl rfl ?_
      refine x_aald dX0_think_107 ar67 ⟨by omega, by omega⟩ (eR_p hW hl0) (by omega) ?_
      refine x_iload (i := 4) dX0_think_108 rfl ?_
      refine x_iald dX0_think_110 (eR_ar hl0) ⟨by omega, by omega⟩ ?_
      refine x_istore (i := 5) dX0_think_111 rfl (Nat.le_of_ble_eq_true rfl) ?_
      refine x_iload_n (i := 3) dX0_think_113 rfl rfl ?_
      refine x_iload (i := 4) dX0_think_114 rfl ?_
      refine y_min dX0_think_116 jkX0_61 (by omega) (Nat.le_of_ble_eq_true rfl) ?_
      refine x_istore (i := 6) dX0_think_119 rfl (Nat.le_of_ble_eq_true rfl) ?_
      refine x_iload_n (i := 3) dX0_think_121 rfl rfl ?_
      refine x_iload (i := 4) dX0_think_122 rfl ?_
      refine y_max dX0_think_124 jkX0_67 (by omega) (Nat.le_of_ble_eq_true rfl) ?_
      refine x_istore (i := 7) dX0_think_127 rfl (Nat.le_of_ble_eq_true rfl) ?_
      refine y_aln (i := 0) dX0_think_129 at64.ne0 rfl rfl ?_
      refine x_iload_n (i := 1) dX0_think_130 rfl rfl ?_
      refine x_iload (i := 6) dX0_think_131 rfl ?_
      refine x_iload (i := 7) dX0_think_133 rfl ?_
      refine x_iload (i := 5) dX0_think_135 rfl ?_
      refine x_callSI (c_X0_thinkTrades (a := mnS T l) (b := mxS T l) (B := I 64 1) (e := ((ahS T n (l + 1) (I (65 + 1))).1, 1 + (ahS T n (l + 1) (I (65 + 1))).2)) hW hM84 hF (by rw [k66]; exact hr) hl hn hmn hmx hab hA1 hA2 hE (fun c0 => by rw [k66]; exact (k0 _ m6.2.1.1 m6.2.1.2).trans (ht1.2.2.2 (by rw [k64] at c0; exact tc.symm.trans c0) _ m6.2.1.1 m6.2.1.2)) HT) dX0_think_137 lkX0_70 mfX0_thinkTrades rfl rfl rfl (Nat.le_of_ble_eq_true rfl) (fun r137 I137 P137 hr137 hf137 => ?_)
      rw [k66] at hf137
      obtain ⟨rfl, h137⟩ := hf137
      refine x_if_eq (tgt := 161) dX0_think_140 rfl (fun h140 => ?_) (fun h140 => ?_)
      · have q0 := h137.resolve_right (fun q => by have := q.1; omega)
        refine y_ic dX0_think_161 ⟨by decide, by decide⟩ ?_
        refine x_zret dX0_think_162 (by omega) rfl ?_
        first | (have z1 := q0; exact ⟨rfl, q0.2.1.trans rfl, (q0.2.2.1.trans (by rw [k64])).trans tc, kF.tr q0.2.2.2.1, Or.inl ⟨rfl, by have := q0.2.2.2.2; omega⟩⟩) | (have z1 := r0; exact ⟨rfl, r0.2.1.trans rfl, ((r0.2.2.1.trans gc).trans (by rw [k64])).trans tc, gF.tr r0.2.2.2.1, Or.inl ⟨rfl, r0.2.2.2.2⟩⟩) | (have z1 := r1; exact ⟨rfl, r1.1.trans g66, ((r1.2.1.trans gc).trans (by rw [k64])).trans tc, gF.tr r1.2.2.1, Or.inr ⟨rfl, r1.2.2.2.1, r1.2.2.2.2.1.2, fun c0 => (r1.2.2.2.2.2 (by rw [gc, k64]; exact tc.trans c0)).1⟩⟩)
      · have q1 := (h137.resolve_left (fun q => h140 q.1)).2
        have g66 : I137 (65 + 1) = I (65 + 1) := q1.1.trans k66
        have gc : I137 64 2 = I84 64 2 := q1.2.1
        have gF : Fc (sF l) I I137 := kF.tr q1.2.2.1
        refine y_aln (i := 0) dX0_think_143 at64.ne0 rfl rfl ?_
        refine x_iload_n (i := 1) dX0_think_144 rfl rfl ?_
        refine x_iload (i := 7) dX0_think_145 rfl ?_
        refine x_iload (i := 6) dX0_think_147 rfl ?_
        refine x_iload (i := 5) dX0_think_149 rfl ?_
        refine x_callSI (c_X0_thinkTrades (a := mxS T l) (b := mnS T l) (B := I 64 1) hW (hM.fr gF sF_tl) hF (by rw [g66]; exact hr) hl hn hmx hmn (Ne.symm hab) hA1.symm hA2.symm q1.sw (fun c0 => by rw [g66]; exact (k0 _ m6.2.1.1 m6.2.1.2).trans (ht1.2.2.2 (by rw [gc, k64] at c0; exact tc.symm.trans c0) _ m6.2.1.1 m6.2.1.2)) HT) dX0_think_151 lkX0_70 mfX0_thinkTrades rfl rfl rfl (Nat.le_of_ble_eq_true rfl) (fun r151 I151 P151 hr151 hf151 => ?_)
        rw [g66, ← eS] at hf151
        obtain ⟨rfl, h151⟩ := hf151
        refine x_if_eq (tgt := 161) dX0_think_154 rfl (fun h154 => ?_) (fun h154 => ?_)
        · have r0 := h151.resolve_right (fun q => by have := q.1; omega)
          refine y_ic dX0_think_161 ⟨by decide, by decide⟩ ?_
          refine x_zret dX0_think_162 (by omega) rfl ?_
          first | (have z1 := q0; exact ⟨rfl, q0.2.1.trans rfl, (q0.2.2.1.trans (by rw [k64])).trans tc, kF.tr q0.2.2.2.1, Or.inl ⟨rfl, by have := q0.2.2.2.2; omega⟩⟩) | (have z1 := r0; exact ⟨rfl, r0.2.1.trans rfl, ((r0.2.2.1.trans gc).trans (by rw [k64])).trans tc, gF.tr r0.2.2.2.1, Or.inl ⟨rfl, r0.2.2.2.2⟩⟩) | (have z1 := r1; exact ⟨rfl, r1.1.trans g66, ((r1.2.1.trans gc).trans (by rw [k64])).trans tc, gF.tr r1.2.2.1, Or.inr ⟨rfl, r1.2.2.2.1, r1.2.2.2.2.1.2, fun c0 => (r1.2.2.2.2.2 (by rw [gc, k64]; exact tc.trans c0)).1⟩⟩)
        · have r1 := (h151.resolve_left (fun q => h154 q.1)).2
          refine y_ic dX0_think_157 ⟨by decide, by decide⟩ ?_
          refine x_goto (tgt := 162) dX0_think_158 rfl ?_
          refine x_zret dX0_think_162 (by omega) rfl ?_
          first | (have z1 := q0; exact ⟨rfl, q0.2.1.trans rfl, (q0.2.2.1.trans (by rw [k64])).trans tc, kF.tr q0.2.2.2.1, Or.inl ⟨rfl, by have := q0.2.2.2.2; omega⟩⟩) | (have z1 := r0; exact ⟨rfl, r0.2.1.trans rfl, ((r0.2.2.1.trans gc).trans (by rw [k64])).trans tc, gF.tr r0.2.2.2.1, Or.inl ⟨rfl, r0.2.2.2.2⟩⟩) | (have z1 := r1; exact ⟨rfl, r1.1.trans g66, ((r1.2.1.trans gc).trans (by rw [k64])).trans tc, gF.tr r1.2.2.1, Or.inr ⟨rfl, r1.2.2.2.1, r1.2.2.2.2.1.2, fun c0 => (r1.2.2.2.2.2 (by rw [gc, k64]; exact tc.trans c0)).1⟩⟩)
    · have ht0 := ht.resolve_right (fun q => by have := q.1; omega)
      refine y_ic dX0_think_80 ⟨by decide, by decide⟩ ?_
      refine x_zret dX0_think_81 (by omega) rfl ?_
      exact ⟨rfl, t66, tc, fF, Or.inl ⟨rfl, by omega⟩⟩
  refine y_aln (i := 0) dX0_think_0 at64.ne0 rfl rfl ?_
  refine y_getp (z := 0) (v := 65) dX0_think_1 frX0_16 cfX0 at64 rfl rfl (wp (v := 65) hW rfl rfl (by decide)) ?_
  refine y_getp (z := 0) (v := t) dX0_think_4 frX0_38 cfX3 at65 rfl rfl hpt ?_
  refine y_asn (i := 2) dX0_think_7 hTo.at.ne0 rfl rfl (Nat.le_of_ble_eq_true rfl) ?_
  refine x_iload_n (i := 1) dX0_think_8 rfl rfl ?_
  refine y_bi dX0_think_9 ⟨by decide, by decide⟩ ?_
  refine x_icmp_ge (tgt := 22) dX0_think_11 rfl (fun h11 => ?_) (fun h11 => ?_)
  · exact absurd h11 (by omega)
  · refine x_iload_n (i := 1) dX0_think_14 rfl rfl ?_
    refine y_aln (i := 2) dX0_think_15 hTo.at.ne0 rfl rfl ?_
    refine y_geti (z := 3) dX0_think_16 frX0_42 cfX10 hTo.at rfl rfl ?_
    rw [it3]
    refine x_icmp_lt (tgt := 29) dX0_think_19 rfl (fun h19 => ?_) (fun h19 => ?_)
    · refine y_aln (i := 0) dX0_think_29 at64.ne0 rfl rfl ?_
      refine x_dup dX0_think_30 rfl ?_
      refine y_geti (z := 1) dX0_think_31 frX0_26 cfX0 at64 rfl rfl ?_
      refine y_ic dX0_think_34 ⟨by decide, by decide⟩ ?_
      refine x_iadd dX0_think_35 ⟨by omega, by omega⟩ ?_
      refine y_puti (z := 1) dX0_think_36 frX0_26 cfX0 at64 rfl rfl rfl ?_
      refine y_aln (i := 0) dX0_think_39 at64.ne0 rfl rfl ?_
      refine y_geti (z := 1) dX0_think_40 frX0_26 cfX0 at64 rfl rfl ?_
      rw [c1]
      refine y_si dX0_think_43 ⟨by decide, by decide⟩ ?_
      refine x_icmp_le (tgt := 51) dX0_think_46 rfl (fun h46 => ?_) (fun h46 => ?_)
      · refine y_aln (i := 0) dX0_think_51 at64.ne0 rfl rfl ?_
        refine y_geti (z := 2) dX0_think_52 frX0_30 cfX0 at64 rfl rfl ?_
        rw [c2]
        refine x_if_eq (tgt := 70) dX0_think_55 rfl (fun h55 => ?_) (fun h55 => ?_)
        · refine x_keep [1, 1, 1, 0, 0, 0, 0, 0] ?_
          exact hB (by omega)
        · refine x_iload_n (i := 1) dX0_think_58 rfl rfl ?_
          refine y_ic dX0_think_59 ⟨by decide, by decide⟩ ?_
          refine x_iadd dX0_think_60 ⟨by omega, by omega⟩ ?_
          refine y_aln (i := 2) dX0_think_61 hTo.at.ne0 rfl rfl ?_
          refine y_geti (z := 3) dX0_think_62 frX0_42 cfX10 hTo.at rfl rfl ?_
          rw [ct3]
          refine x_icmp_lt (tgt := 70) dX0_think_65 rfl (fun h65 => ?_) (fun h65 => ?_)
          · refine x_keep [1, 1, 1, 0, 0, 0, 0, 0] ?_
            exact hB (by omega)
          · refine y_ic dX0_think_68 ⟨by decide, by decide⟩ ?_
            refine x_zret dX0_think_69 (by omega) rfl ?_
            exact ⟨rfl, c66, c2, hF1, Or.inr ⟨rfl, by rw [c1, hn1 (by omega)], by rw [c1]; omega, fun c0 => absurd c0 h55⟩⟩
      · refine y_ic dX0_think_49 ⟨by decide, by decide⟩ ?_
        refine x_zret dX0_think_50 (by omega) rfl ?_
        exact ⟨rfl, c66, c2, hF1, Or.inl ⟨rfl, by omega⟩⟩
    · omega
end

