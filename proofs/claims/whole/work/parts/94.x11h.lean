/-! ===== the class: the poorest way to a wish ===== -/
section
variable {G : HX} {d : Nat} {I : Mem} {P : Ptr} {T : Tn}
theorem w49 {I J : Mem} (h : Fc (s1 (48 + 1)) I J) : Fc (sM 48) I J := h.mo (fun a ha => Or.inr ha)
theorem c_X11_poor {t : Nat} {p s : Int} (hW : WP P) (hM : MK I P 46 t (t + 13) T) (h1t : P 1 2 = t) (hF : WF T) (hr : RW T (I 47)) : Cv G mX11_poor (d + 8) 1 6 [.inr (.inl 1), .inl p, .inl s] NO I P (qX NO (fun r I' P' => (PK P P' ∧ okPS T p s) ∧ (((pooS T (I 47) p s).1 ≠ 0 ∧ r = (if (pooS T (I 47) p s).1 = -2 then -2 else -1) ∧ Fc sPO I I') ∨ ((pooS T (I 47) p s).1 = 0 ∧ r = (pooS T (I 47) p s).2.2.2 ∧ I' 85 3 = 1 ∧ (∀ k, k ≠ 3 → I' 85 k = I 85 k) ∧ (∀ k, 0 ≤ k → k < T 0 2 → I' 87 k = (pooS T (I 47) p s).2.2.1 k) ∧ Fc sPK I I'))) (fun c I' P' => (I' = I ∧ P' = P) ∧ ¬ okPS T p s ∧ c = tEN)) := by
  have f1 := hF.1
  have f2 := hF.2.1
  refine x_enter mfX11_poor rfl (Nat.le_of_ble_eq_true rfl) (fun _ => ?_)
  have hgo : okPS T p s → V G mX11_poor (d + 8) 1 6 19 [some (.inr (.inl 1)), some (.inl (p)), some (.inl (s)), none, none, none, none, none] [] NO I P (qX NO (fun r I' P' => (PK P P' ∧ okPS T p s) ∧ (((pooS T (I 47) p s).1 ≠ 0 ∧ r = (if (pooS T (I 47) p s).1 = -2 then -2 else -1) ∧ Fc sPO I I') ∨ ((pooS T (I 47) p s).1 = 0 ∧ r = (pooS T (I 47) p s).2.2.2 ∧ I' 85 3 = 1 ∧ (∀ k, k ≠ 3 → I' 85 k = I 85 k) ∧ (∀ k, 0 ≤ k → k < T 0 2 → I' 87 k = (pooS T (I 47) p s).2.2.1 k) ∧ Fc sPK I I'))) (fun c I' P' => (I' = I ∧ P' = P) ∧ ¬ okPS T p s ∧ c = tEN)) := fun hok => by
    have hp := hok.1
    have hs := hok.2
    have hfu : ∀ t, 0 ≤ t → t < 8 → 0 ≤ I 47 (8 * p + t) ∧ I 47 (8 * p + t) ≤ 960 := fun t t0 t1 => hr.rc (8 * p + t) (by omega) (by omega)
    have hab : 0 ≤ allB T (I 47) p ∧ allB T (I 47) p ≤ 960 * 8 := by
      have := sumN_bd (f := fun s => I 47 (8 * p + s)) (n := T 0 2) (lo := 0) (hi := 960) (by omega) (fun t t0 t1 => hfu t t0 (by omega))
      unfold allB
      omega
    have hFE : ∀ K : Mem, (∀ c, 0 ≤ c → c < 8 → K 78 c = I 47 (8 * p + c)) → FE (T 0 2) (K 78) (fun s => I 47 (8 * p + s)) := fun K h c c0 c1 => h c c0 (by omega)
    have hLo : ∀ (j : Nat) (m t0 : Int) (b : Rw) (K : Mem) (R : Ptr), (allB T (I 47) p + 1 - m).toNat < j → 0 ≤ m → m ≤ allB T (I 47) p + 1 → pooN T (I 47) p s m = (-3, t0, b, (pooN T (I 47) p s m).2.2.2) → (0 ≤ t0 ∧ t0 ≤ 100) → K 77 2 = T 0 2 → K 77 3 = allB T (I 47) p → (∀ c, 0 ≤ c → c < 8 → K 78 c = I 47 (8 * p + c)) → (∀ c, T 0 2 ≤ c → c < 8 → K 79 c = 0) → PK P R → Fc sPO I K → V G mX11_poor (d + 8) 1 6 36 [some (.inr (.inl 1)), some (.inl (p)), some (.inl (s)), some (.inl (t0)), some (.inl (m)), none, none, none] [] NO K R (qX NO (fun r I' P' => (PK P P' ∧ okPS T p s) ∧ (((pooS T (I 47) p s).1 ≠ 0 ∧ r = (if (pooS T (I 47) p s).1 = -2 then -2 else -1) ∧ Fc sPO I I') ∨ ((pooS T (I 47) p s).1 = 0 ∧ r = (pooS T (I 47) p s).2.2.2 ∧ I' 85 3 = 1 ∧ (∀ k, k ≠ 3 → I' 85 k = I 85 k) ∧ (∀ k, 0 ≤ k → k < T 0 2 → I' 87 k = (pooS T (I 47) p s).2.2.1 k) ∧ Fc sPK I I'))) (fun c I' P' => (I' = I ∧ P' = P) ∧ ¬ okPS T p s ∧ c = tEN)) := by
      intro j
      induction j with
      | zero => intro m t0 b K R hj; omega
      | succ j ih =>
        intro m t0 b K R hj hm hm2 hN0 ht k2 k3 k78 k79 hP kF
        have hWR := hP.1
        have es : pooN T (I 47) p s (m + 1) = outB T (I 47) p s m (pooN T (I 47) p s m) := itN_s _ _ hm
        have hstop := fun (h1 : m ≤ allB T (I 47) p) (h2 : ∀ i, m + 1 ≤ i → i < allB T (I 47) p + 1 → outB T (I 47) p s i (pooN T (I 47) p s (m + 1)) = pooN T (I 47) p s (m + 1)) => itN_stop (f := fun m y => outB T (I 47) p s m y) (n := allB T (I 47) p + 1) (k := m + 1) (s := ((-3 : Int), (0 : Int), (fun _ => (0 : Int)), (0 : Int))) (x := pooN T (I 47) p s (m + 1)) ⟨by omega, by omega⟩ rfl h2
        obtain ⟨Z, hZ⟩ : ∃ Z, Z = innS T (I 47) p s 101 (fillS (T 0 2) (fun s => I 47 (8 * p + s)) 0 m b) t0 := ⟨_, rfl⟩
        have es2 : pooN T (I 47) p s (m + 1) = (Z.1, Z.2.1, Z.2.2, m) := by
          rw [es, hN0]
          unfold outB
          rw [if_neg (fun q => q rfl), hZ]
        have hfin : m ≤ allB T (I 47) p → Z.1 ≠ -3 → pooS T (I 47) p s = (Z.1, Z.2.1, Z.2.2, m) := fun hm3 hz => by
          have : pooS T (I 47) p s = pooN T (I 47) p s (m + 1) := hstop hm3 (fun i i0 i1 => by
            rw [es2]
            unfold outB
            rw [if_pos hz])
          rw [es2] at this
          exact this
        have hI : m ≤ allB T (I 47) p → ∀ (f : Nat) (k : Int) (b : Rw) (t1 more : Int) (K : Mem) (R : Ptr), k + f = 101 → 0 ≤ k → k ≤ t1 ∨ more = 0 → ((more = 1 ∧ Z = innS T (I 47) p s f b t1 ∧ (∀ c, 0 ≤ c → c < T 0 2 → K 79 c = b c) ∧ BG (T 0 2) (fun s => I 47 (8 * p + s)) b) ∨ (more = 0 ∧ Z = (-3, t1, b))) → (0 ≤ t1 ∧ t1 ≤ 100) → K 77 2 = T 0 2 → K 77 3 = allB T (I 47) p → (∀ c, 0 ≤ c → c < 8 → K 78 c = I 47 (8 * p + c)) → (∀ c, T 0 2 ≤ c → c < 8 → K 79 c = 0) → PK P R → Fc sPO I K → V G mX11_poor (d + 8) 1 6 64 [some (.inr (.inl 1)), some (.inl (p)), some (.inl (s)), some (.inl (t1)), some (.inl (m)), some (.inl (more)), some (.inl (k)), none] [] NO K R (qX NO (fun r I' P' => (PK P P' ∧ okPS T p s) ∧ (((pooS T (I 47) p s).1 ≠ 0 ∧ r = (if (pooS T (I 47) p s).1 = -2 then -2 else -1) ∧ Fc sPO I I') ∨ ((pooS T (I 47) p s).1 = 0 ∧ r = (pooS T (I 47) p s).2.2.2 ∧ I' 85 3 = 1 ∧ (∀ k, k ≠ 3 → I' 85 k = I 85 k) ∧ (∀ k, 0 ≤ k → k < T 0 2 → I' 87 k = (pooS T (I 47) p s).2.2.1 k) ∧ Fc sPK I I'))) (fun c I' P' => (I' = I ∧ P' = P) ∧ ¬ okPS T p s ∧ c = tEN)) := by
          intro hm3 f
          have hex : ∀ (b : Rw) (t1 : Int) (K : Mem) (R : Ptr), Z = (-3, t1, b) → (0 ≤ t1 ∧ t1 ≤ 100) → K 77 2 = T 0 2 → K 77 3 = allB T (I 47) p → (∀ c, 0 ≤ c → c < 8 → K 78 c = I 47 (8 * p + c)) → (∀ c, T 0 2 ≤ c → c < 8 → K 79 c = 0) → PK P R → Fc sPO I K → V G mX11_poor (d + 8) 1 6 172 [some (.inr (.inl 1)), some (.inl (p)), some (.inl (s)), some (.inl (t1)), some (.inl (m)), none, none, none] [] NO K R (qX NO (fun r I' P' => (PK P P' ∧ okPS T p s) ∧ (((pooS T (I 47) p s).1 ≠ 0 ∧ r = (if (pooS T (I 47) p s).1 = -2 then -2 else -1) ∧ Fc sPO I I') ∨ ((pooS T (I 47) p s).1 = 0 ∧ r = (pooS T (I 47) p s).2.2.2 ∧ I' 85 3 = 1 ∧ (∀ k, k ≠ 3 → I' 85 k = I 85 k) ∧ (∀ k, 0 ≤ k → k < T 0 2 → I' 87 k = (pooS T (I 47) p s).2.2.1 k) ∧ Fc sPK I I'))) (fun c I' P' => (I' = I ∧ P' = P) ∧ ¬ okPS T p s ∧ c = tEN)) := fun b t1 K R hz ht k2 k3 k78 k79 hP kF => by
            refine x_iinc dX11_poor_172 rfl ⟨by omega, by omega⟩ rfl (Nat.le_of_ble_eq_true rfl) ?_
            refine x_goto (tgt := 36) dX11_poor_175 rfl ?_
            refine x_keep [1, 1, 1, 1, 1, 0, 0, 0] ?_
            exact ih (m + 1) t1 b K R (by omega) (by omega) (by omega) (by rw [es2, hz]) ht k2 k3 k78 k79 hP kF
          induction f with
          | zero =>
            intro k b t1 more K R hkf hk hkt hc ht k2 k3 k78 k79 hP kF
            have hc0 := hc.resolve_left (fun q => by have := q.1; omega)
            refine x_iload (i := 6) dX11_poor_64 rfl ?_
            refine y_bi dX11_poor_66 ⟨by decide, by decide⟩ ?_
            refine x_icmp_gt (tgt := 172) dX11_poor_68 rfl (fun h68 => ?_) (fun h68 => ?_)
            · refine x_keep [1, 1, 1, 1, 1, 0, 0, 0] ?_
              exact hex b t1 K R hc0.2 ht k2 k3 k78 k79 hP kF
            · omega
          | succ f ihf =>
            intro k b t1 more K R hkf hk hkt hc ht k2 k3 k78 k79 hP kF
            have hWR := hP.1
            have hMK := hM.pk hP kF sPO_tl
            have k47 : K 47 = I 47 := kF 47 (by unfold sPO sY; omega)
            have hB : more = 1 → t1 < 100 → Z = innS T (I 47) p s (f + 1) b t1 → (∀ c, 0 ≤ c → c < T 0 2 → K 79 c = b c) → BG (T 0 2) (fun s => I 47 (8 * p + s)) b → ∀ (K' : Mem) (R' : Ptr), PK P R' → MK K' R' 48 t (t + 13) T → RE (K' 49) (bagR T (I 47) p b) → (∀ a, a ≠ 49 → K' a = K a) → V G mX11_poor (d + 8) 1 6 107 [some (.inr (.inl 1)), some (.inl (p)), some (.inl (s)), some (.inl (t1 + 1)), some (.inl (m)), none, some (.inl (k)), none] [] NO K' R' (qX NO (fun r I' P' => (PK P P' ∧ okPS T p s) ∧ (((pooS T (I 47) p s).1 ≠ 0 ∧ r = (if (pooS T (I 47) p s).1 = -2 then -2 else -1) ∧ Fc sPO I I') ∨ ((pooS T (I 47) p s).1 = 0 ∧ r = (pooS T (I 47) p s).2.2.2 ∧ I' 85 3 = 1 ∧ (∀ k, k ≠ 3 → I' 85 k = I 85 k) ∧ (∀ k, 0 ≤ k → k < T 0 2 → I' 87 k = (pooS T (I 47) p s).2.2.1 k) ∧ Fc sPK I I'))) (fun c I' P' => (I' = I ∧ P' = P) ∧ ¬ okPS T p s ∧ c = tEN)) := fun hm1 ht9 hZf hc6 hBG K' R' hP' hM48 kre kK => by
              have hW2 := hP'.1
              have hRW := bagR_RW hF hr hp hBG
              have hX : XE (goX T p (8 * p + s) 300 (K' 49)) (tryX T (I 47) p s b) := XE.go hF kre (fun _ => by omega)
              have kF' : Fc sPO I K' := fun a ha => by rw [kK a (fun e => ha (Or.inr (Or.inr (Or.inl e))))]; exact kF a ha
              have h125 : ∀ (v : Int) (K2 : Mem) (R2 : Ptr), PK P R2 → Fc sY K' K2 → XOK T 300 (goX T p (8 * p + s) 300 (K' 49)) → v = (if spX (goX T p (8 * p + s) 300 (K' 49)) ≠ 0 then -2 else ansX (goX T p (8 * p + s) 300 (K' 49))) → V G mX11_poor (d + 8) 1 6 125 [some (.inr (.inl 1)), some (.inl (p)), some (.inl (s)), some (.inl (t1 + 1)), some (.inl (m)), none, some (.inl (k)), some (.inl (v))] [] NO K2 R2 (qX NO (fun r I' P' => (PK P P' ∧ okPS T p s) ∧ (((pooS T (I 47) p s).1 ≠ 0 ∧ r = (if (pooS T (I 47) p s).1 = -2 then -2 else -1) ∧ Fc sPO I I') ∨ ((pooS T (I 47) p s).1 = 0 ∧ r = (pooS T (I 47) p s).2.2.2 ∧ I' 85 3 = 1 ∧ (∀ k, k ≠ 3 → I' 85 k = I 85 k) ∧ (∀ k, 0 ≤ k → k < T 0 2 → I' 87 k = (pooS T (I 47) p s).2.2.1 k) ∧ Fc sPK I I'))) (fun c I' P' => (I' = I ∧ P' = P) ∧ ¬ okPS T p s ∧ c = tEN)) := fun v K2 R2 hP2 f2' o2 hv => by
                have hW3 := hP2.1
                have z2 : ∀ a, ¬ sY a → a ≠ 49 → K2 a = K a := fun a h1 h2 => (f2' a h1).trans (kK a h2)
                have F2 : Fc sPO I K2 := fun a ha => (f2' a (fun z => ha (Or.inl z))).trans (kF' a ha)
                have y79 : K2 79 = K 79 := z2 79 (by unfold sY; omega) (by decide)
                have y78 : K2 78 = K 78 := z2 78 (by unfold sY; omega) (by decide)
                have y77 : K2 77 = K 77 := z2 77 (by unfold sY; omega) (by decide)
                have hsp := hX.2.2.2.2
                have han := hX.2.2.2.1
                have hok5 := o2.2.2.2.2
                have hv2 : (spX (tryX T (I 47) p s b) ≠ 0 ∧ v = -2) ∨ (spX (tryX T (I 47) p s b) = 0 ∧ v = ansX (tryX T (I 47) p s b) ∧ (v = -1 ∨ 0 ≤ v)) := by
                  by_cases q : spX (goX T p (8 * p + s) 300 (K' 49)) = 0
                  · rw [if_neg (fun z => z q)] at hv
                    exact Or.inr ⟨by rw [← hsp]; exact q, by rw [hv, han], by omega⟩
                  · rw [if_pos q] at hv
                    exact Or.inl ⟨by rw [← hsp]; exact q, hv⟩
                have hfe := hFE K k78
                refine x_iload (i := 7) dX11_poor_125 rfl ?_
                refine y_bi dX11_poor_127 ⟨by decide, by decide⟩ ?_
                refine x_icmp_ne (tgt := 135) dX11_poor_129 rfl (fun h129 => ?_) (fun h129 => ?_)
                · refine x_iload (i := 7) dX11_poor_135 rfl ?_
                  refine x_if_lt (tgt := 157) dX11_poor_137 rfl (fun h137 => ?_) (fun h137 => ?_)
                  · have hr2 := hv2.resolve_left (fun z => by have := z.2; omega)
                    refine y_aln (i := 0) dX11_poor_157 at1.ne0 rfl rfl ?_
                    refine y_getp (z := 14) (v := 77) dX11_poor_158 frX11_79 cfX11 at1 rfl rfl (wp (v := 77) hW3 rfl rfl (by decide)) ?_
                    refine x_callVI (c_X5_goOnB (so := T 0 2) (b := b) hW3 (by rw [y77]; exact k2) f2 (fun c c0 c1 => by rw [y78, k78 c c0 (by omega)]; exact hfu c c0 (by omega)) (fun c c0 c1 => by rw [y78, k78 c c0 (by omega)]; exact hBG c c0 c1) (fun c c0 c1 => by rw [y79]; exact hc6 c c0 c1)) dX11_poor_161 lkX11_295 mfX5_goOn cfX5 at77 rfl rfl rfl rfl (Nat.le_of_ble_eq_true rfl) (fun r161 I161 P161 hr161 hf161 => ?_)
                    obtain ⟨rfl, o161, w161, u161⟩ := hf161
                    rw [y78] at w161
                    have F161 : Fc sPO I I161 := fun a ha => by rw [o161 a (fun e => ha (by unfold sPO; omega))]; exact F2 a ha
                    refine x_istore (i := 5) dX11_poor_164 rfl (Nat.le_of_ble_eq_true rfl) ?_
                    refine x_iinc dX11_poor_166 rfl ⟨by omega, by omega⟩ rfl (Nat.le_of_ble_eq_true rfl) ?_
                    refine x_goto (tgt := 64) dX11_poor_169 rfl ?_
                    refine x_keep [1, 1, 1, 1, 1, 1, 1, 0] ?_
                    refine ihf (k + 1) (if r161 = 1 then nbS (T 0 2) (fun s => I 47 (8 * p + s)) b else b) (t1 + 1) r161 I161 _ (by omega) (by omega) (by omega) ?_ (by omega) (by rw [o161 77 (by decide), y77]; exact k2) (by rw [o161 77 (by decide), y77]; exact k3) (fun c c0 c1 => by rw [o161 78 (by decide), y78]; exact k78 c c0 c1) (fun c c0 c1 => by rw [u161 c c0, y79]; exact k79 c c0 c1) hP2 F161
                    rcases w161 with ⟨q1, q2, q3⟩ | ⟨q1, q2⟩
                    · have q2' : nbI (T 0 2) (fun s => I 47 (8 * p + s)) b ≠ -1 := by rw [← hfe.nbi (fun _ _ _ => rfl)]; exact q2
                      rw [if_pos q1]
                      exact Or.inl ⟨q1, by rw [hZf]; exact innS_go (by omega) hr2.1 (by rw [← hr2.2.1]; omega) q2', fun c c0 c1 => by rw [q3 c c0 c1]; exact hfe.nbs (fun _ _ _ => rfl) q2 c c0 c1, nbS_BG hBG q2'⟩
                    · have q2' : nbI (T 0 2) (fun s => I 47 (8 * p + s)) b = -1 := by rw [← hfe.nbi (fun _ _ _ => rfl)]; exact q2
                      rw [if_neg (by omega)]
                      exact Or.inr ⟨q1, by rw [hZf]; exact innS_no (by omega) hr2.1 (by rw [← hr2.2.1]; omega) q2'⟩
                  · have hr2 := hv2.resolve_left (fun z => by have := z.2; omega)
                    refine y_aln (i := 0) dX11_poor_140 at1.ne0 rfl rfl ?_
                    refine y_getp (z := 17) (v := 85) dX11_poor_141 frX11_100 cfX11 at1 rfl rfl (wp (v := 85) hW3 rfl rfl (by decide)) ?_
                    refine y_aln (i := 0) dX11_poor_144 at1.ne0 rfl rfl ?_
                    refine y_getp (z := 14) (v := 77) dX11_poor_145 frX11_79 cfX11 at1 rfl rfl (wp (v := 77) hW3 rfl rfl (by decide)) ?_
                    refine y_getp (z := 1) (v := 79) dX11_poor_148 frX11_284 cfX5 at77 rfl rfl (wp (v := 79) hW3 rfl rfl (by decide)) ?_
                    refine x_callVV (c_X1_keepBag hW3 ar79) dX11_poor_151 lkX11_291 mfX1_keepBag cfX1 at85 rfl rfl rfl rfl (Nat.le_of_ble_eq_true rfl) (fun n151 I151 P151 hf151 => ?_)
                    obtain ⟨rfl, rfl, o1, o2', o3, o4⟩ := hf151
                    refine x_iload (i := 4) dX11_poor_154 rfl ?_
                    refine x_iretX dX11_poor_156 rfl ?_
                    have hz : Z = (0, t1 + 1, b) := by rw [hZf]; exact innS_an (by omega) hr2.1 (by rw [← hr2.2.1]; omega)
                    refine ⟨⟨hP2, hok⟩, Or.inr ?_⟩
                    rw [hfin hm3 (by rw [hz]; exact (by decide : (0 : Int) ≠ -3)), hz]
                    exact ⟨rfl, rfl, o3, fun i hi => by rw [o2' i hi]; exact congrFun (F2 85 (by unfold sPO sY; omega)) i, fun i i0 i1 => by rw [o4 i i0 (by omega), y79]; exact hc6 i i0 i1, fun a ha => by rw [o1 a (fun e => ha (Or.inr (Or.inl e))) (fun e => ha (Or.inr (Or.inr e)))]; exact F2 a (fun z => ha (Or.inl z))⟩
                · refine y_bi dX11_poor_132 ⟨by decide, by decide⟩ ?_
                  refine x_iretX dX11_poor_134 rfl ?_
                  have hsx := (hv2.resolve_right (fun z => by have := z.2.2; omega)).1
                  have hz : Z = (-2, t1 + 1, b) := by rw [hZf]; exact innS_sp (by omega) hsx
                  refine ⟨⟨hP2, hok⟩, Or.inl ?_⟩
                  rw [hfin hm3 (by rw [hz]; exact (by decide : (-2 : Int) ≠ -3)), hz]
                  exact ⟨(by decide : (-2 : Int) ≠ 0), (if_pos rfl).symm, F2⟩
              refine y_aln (i := 0) dX11_poor_107 at1.ne0 rfl rfl ?_
              refine y_getp (z := 12) (v := 56) dX11_poor_108 frX11_65 cfX11 at1 rfl rfl (wp (v := 56) hW2 rfl rfl (by decide)) ?_
              refine y_aln (i := 0) dX11_poor_111 at1.ne0 rfl rfl ?_
              refine y_getp (z := 10) (v := 48) dX11_poor_112 frX11_50 cfX11 at1 rfl rfl (wp (v := 48) hW2 rfl rfl (by decide)) ?_
              refine x_iload_n (i := 1) dX11_poor_115 rfl rfl ?_
              refine x_iload_n (i := 2) dX11_poor_116 rfl rfl ?_
              refine y_si dX11_poor_117 ⟨by decide, by decide⟩ ?_
              refine x_callVI (c_X7_findWish hW2 hM48 (by decide) hF (kre.sy.rw hRW) hp hs (by decide)) dX11_poor_120 lkX11_250 mfX7_findWish cfX7 at56 rfl rfl rfl rfl (Nat.le_of_ble_eq_true rfl) (fun r120 I120 P120 hr120 hf120 => ?_)
              obtain ⟨rfl, f120, p120, o120, x120, v120⟩ := hf120
              refine x_istore (i := 7) dX11_poor_123 rfl (Nat.le_of_ble_eq_true rfl) ?_
              refine x_keep [1, 1, 1, 1, 1, 0, 1, 1] ?_
              exact h125 _ _ _ (hP'.tr (PK.mk hW2 isM57 (by decide))) f120 o120 v120
            refine x_iload (i := 6) dX11_poor_64 rfl ?_
            refine y_bi dX11_poor_66 ⟨by decide, by decide⟩ ?_
            refine x_icmp_gt (tgt := 172) dX11_poor_68 rfl (fun h68 => ?_) (fun h68 => ?_)
            · omega
            · refine x_iload (i := 5) dX11_poor_71 rfl ?_
              refine x_if_eq (tgt := 172) dX11_poor_73 rfl (fun h73 => ?_) (fun h73 => ?_)
              · have hc0 := hc.resolve_left (fun q => by have := q.1; omega)
                refine x_keep [1, 1, 1, 1, 1, 0, 0, 0] ?_
                exact hex b t1 K R hc0.2 ht k2 k3 k78 k79 hP kF
              · have hc1 := hc.resolve_right (fun q => by have := q.1; omega)
                refine x_iload_n (i := 3) dX11_poor_76 rfl rfl ?_
                refine y_bi dX11_poor_77 ⟨by decide, by decide⟩ ?_
                refine x_icmp_lt (tgt := 85) dX11_poor_79 rfl (fun h79 => ?_) (fun h79 => ?_)
                · refine x_iinc dX11_poor_85 rfl ⟨by omega, by omega⟩ rfl (Nat.le_of_ble_eq_true rfl) ?_
                  refine y_aln (i := 0) dX11_poor_88 at1.ne0 rfl rfl ?_
                  refine y_getp (z := 10) (v := 48) dX11_poor_89 frX11_50 cfX11 at1 rfl rfl (wp (v := 48) hWR rfl rfl (by decide)) ?_
                  refine y_aln (i := 0) dX11_poor_92 at1.ne0 rfl rfl ?_
                  refine y_getp (z := 9) (v := 46) dX11_poor_93 frX11_46 cfX11 at1 rfl rfl (wp (v := 46) hWR rfl rfl (by decide)) ?_
                  refine x_iload_n (i := 1) dX11_poor_96 rfl rfl ?_
                  refine y_aln (i := 0) dX11_poor_97 at1.ne0 rfl rfl ?_
                  refine y_getp (z := 14) (v := 77) dX11_poor_98 frX11_79 cfX11 at1 rfl rfl (wp (v := 77) hWR rfl rfl (by decide)) ?_
                  refine y_getp (z := 1) (v := 79) dX11_poor_101 frX11_284 cfX5 at77 rfl rfl (wp (v := 79) hWR rfl rfl (by decide)) ?_
                  refine x_callVV (c_X3_takeBag (q := 48) hWR isM48 hMK (by decide) ar79 ⟨by omega, by omega⟩) dX11_poor_104 lkX11_287 mfX3_takeBag cfX3 at48 rfl rfl rfl rfl (Nat.le_of_ble_eq_true rfl) (fun n104 I104 P104 hf104 => ?_)
                  obtain ⟨rfl, rfl, f104, w104⟩ := hf104
                  obtain ⟨y1, y2, y3⟩ := trl hWR hMK isM48 (by decide) (w49 f104)
                  refine x_keep [1, 1, 1, 1, 1, 0, 1, 0] ?_
                  refine hB hc1.1 (by omega) hc1.2.1 hc1.2.2.1 hc1.2.2.2 _ _ (hP.tr y1) y2 (fun c c0 c1 => ?_) (fun a ha => f104 a ha)
                  rw [show I104 49 c = _ from w104 c c0 c1]
                  unfold bagR
                  by_cases q : 8 * p ≤ c ∧ c < 8 * p + 8
                  · rw [if_pos q]
                    by_cases q2 : 8 * p ≤ c ∧ c < 8 * p + T 0 2
                    · rw [if_pos q2]; exact hc1.2.2.1 _ (by omega) (by omega)
                    · rw [if_neg q2, k79 _ (by omega) (by omega)]
                      have := hr.2.1 p (c - 8 * p) (by omega) (by omega) (by omega) (by omega) (Or.inr (by omega))
                      rw [show 8 * p + (c - 8 * p) = c by omega] at this
                      exact this.symm
                  · rw [if_neg q, if_neg (by omega)]
                    exact congrFun k47 c
                · refine y_bi dX11_poor_82 ⟨by decide, by decide⟩ ?_
                  refine x_iretX dX11_poor_84 rfl ?_
                  have hz : Z = (-2, 100, b) := by rw [hc1.2.1, show t1 = 100 by omega]; exact innS_100
                  refine ⟨⟨hP, hok⟩, Or.inl ?_⟩
                  rw [hfin hm3 (by rw [hz]; exact (by decide : (-2 : Int) ≠ -3)), hz]
                  exact ⟨(by decide : (-2 : Int) ≠ 0), (if_pos rfl).symm, kF⟩
        refine x_iload (i := 4) dX11_poor_36 rfl ?_
        refine y_aln (i := 0) dX11_poor_38 at1.ne0 rfl rfl ?_
        refine y_getp (z := 14) (v := 77) dX11_poor_39 frX11_79 cfX11 at1 rfl rfl (wp (v := 77) hWR rfl rfl (by decide)) ?_
        refine y_geti (z := 3) dX11_poor_42 frX11_278 cfX5 at77 rfl rfl ?_
        rw [k3]
        refine x_icmp_gt (tgt := 178) dX11_poor_45 rfl (fun h45 => ?_) (fun h45 => ?_)
        · refine y_ic dX11_poor_178 ⟨by decide, by decide⟩ ?_
          refine x_iretX dX11_poor_179 rfl ?_
          have hz : pooS T (I 47) p s = (-3, t0, b, (pooN T (I 47) p s m).2.2.2) := by
            unfold pooS
            rw [show allB T (I 47) p + 1 = m by omega]
            exact hN0
          refine ⟨⟨hP, hok⟩, Or.inl ?_⟩
          rw [hz]
          exact ⟨(by decide : (-3 : Int) ≠ 0), (if_neg (by decide : ¬ (-3 : Int) = -2)).symm, kF⟩
        · refine y_aln (i := 0) dX11_poor_48 at1.ne0 rfl rfl ?_
          refine y_getp (z := 14) (v := 77) dX11_poor_49 frX11_79 cfX11 at1 rfl rfl (wp (v := 77) hWR rfl rfl (by decide)) ?_
          refine y_ic dX11_poor_52 ⟨by decide, by decide⟩ ?_
          refine x_iload (i := 4) dX11_poor_53 rfl ?_
          refine x_callVV (c_X5_fillB (so := T 0 2) (b := b) hWR k2 f2 (fun c c0 c1 => by rw [k78 c c0 (by omega)]; exact hfu c c0 (by omega)) ⟨by decide, by omega⟩ hm (fun i i0 i1 => by omega)) dX11_poor_55 lkX11_280 mfX5_fill cfX5 at77 rfl rfl rfl rfl (Nat.le_of_ble_eq_true rfl) (fun n55 I55 P55 hf55 => ?_)
          obtain ⟨rfl, rfl, o55, v55, u55⟩ := hf55
          have hfl := (hFE K k78).fill (f := 0) (m := m) (b := b) (b' := b) (fun _ _ _ _ => rfl)
          refine y_ic dX11_poor_58 ⟨by decide, by decide⟩ ?_
          refine x_istore (i := 5) dX11_poor_59 rfl (Nat.le_of_ble_eq_true rfl) ?_
          refine y_ic dX11_poor_61 ⟨by decide, by decide⟩ ?_
          refine x_istore (i := 6) dX11_poor_62 rfl (Nat.le_of_ble_eq_true rfl) ?_
          refine x_keep [1, 1, 1, 1, 1, 1, 1, 0] ?_
          refine hI (by omega) 101 0 (fillS (T 0 2) (fun s => I 47 (8 * p + s)) 0 m b) t0 1 I55 _ rfl (Int.le_refl 0) (Or.inl ht.1) (Or.inl ⟨rfl, hZ, fun c c0 c1 => by rw [v55 c c0 c1]; exact hfl c c0 c1, fillS_BG hm (fun t t0 t1 => (hfu t t0 (by omega)).1) (fun t t0 t1 _ => by omega)⟩) ht (by rw [o55 77 (by decide)]; exact k2) (by rw [o55 77 (by decide)]; exact k3) (fun c c0 c1 => by rw [o55 78 (by decide)]; exact k78 c c0 c1) (fun c c0 c1 => by rw [u55 c c0]; exact k79 c c0 c1) hP (fun a ha => by rw [o55 a (fun e => ha (by unfold sPO; omega))]; exact kF a ha)
    refine y_ic dX11_poor_19 ⟨by decide, by decide⟩ ?_
    refine x_istore_n (i := 3) dX11_poor_20 rfl rfl (Nat.le_of_ble_eq_true rfl) ?_
    refine y_aln (i := 0) dX11_poor_21 at1.ne0 rfl rfl ?_
    refine y_getp (z := 14) (v := 77) dX11_poor_22 frX11_79 cfX11 at1 rfl rfl (wp (v := 77) hW rfl rfl (by decide)) ?_
    refine y_aln (i := 0) dX11_poor_25 at1.ne0 rfl rfl ?_
    refine y_getp (z := 9) (v := 46) dX11_poor_26 frX11_46 cfX11 at1 rfl rfl (wp (v := 46) hW rfl rfl (by decide)) ?_
    refine x_iload_n (i := 1) dX11_poor_29 rfl rfl ?_
    refine x_callVV (c_X5_open hW hM hr.rc (by omega)) dX11_poor_30 lkX11_274 mfX5_open cfX5 at77 rfl rfl rfl rfl (Nat.le_of_ble_eq_true rfl) (fun n30 I30 P30 hf30 => ?_)
    obtain ⟨rfl, rfl, f30, a30, b30, c30⟩ := hf30
    refine y_ic dX11_poor_33 ⟨by decide, by decide⟩ ?_
    refine x_istore (i := 4) dX11_poor_34 rfl (Nat.le_of_ble_eq_true rfl) ?_
    refine x_keep [1, 1, 1, 1, 1, 0, 0, 0] ?_
    exact hLo _ 0 0 (fun _ => 0) I30 _ (Nat.lt_succ_self _) (Int.le_refl 0) (by omega) rfl ⟨by decide, by decide⟩ a30 (b30.trans (allB_8 hF hr (by omega))) (fun c c0 c1 => (c30 c c0 c1).1) (fun c c0 c1 => (c30 c (by omega) c1).2) (PK.rf hW) (f30.mo (fun a ha => by unfold sU at ha; unfold sPO; omega))
  refine y_aln (i := 0) dX11_poor_0 at1.ne0 rfl rfl ?_
  refine x_iload_n (i := 1) dX11_poor_1 rfl rfl ?_
  refine x_iload_n (i := 2) dX11_poor_2 rfl rfl ?_
  refine x_callVI (c_X11_isNoCell hW hM h1t) dX11_poor_3 lkX11_174 mfX11_isNoCell cfX11 at1 rfl rfl rfl rfl (Nat.le_of_ble_eq_true rfl) (fun r3 I3 P3 hr3 hf3 => ?_)
  obtain ⟨i3, p3, q3⟩ := hf3
  rw [i3, p3]
  refine x_if_eq (tgt := 19) dX11_poor_6 rfl (fun h6 => ?_) (fun h6 => ?_)
  · refine x_keep [1, 1, 1, 0, 0, 0, 0, 0] ?_
    exact hgo (q3.resolve_left (fun z => by have := z.1; omega)).2
  · refine xnN (text := "no such person or sort") rfl rfl (by decide +kernel) (Nat.le_of_ble_eq_true rfl) (by omega) (by decide) (by decide) dX11_poor_9 dX11_poor_12 dX11_poor_13 dX11_poor_15 dX11_poor_18 ?_
    exact ⟨⟨rfl, rfl⟩, (q3.resolve_right (fun z => by have := z.1; omega)).2, rfl⟩
end

