/-! ===== the law's start ===== -/
theorem b_and : ∀ {x y : Bool}, (x && y) = true → x = true ∧ y = true
  | true, true, _ => ⟨rfl, rfl⟩
  | true, false, h => by cases h
  | false, _, h => by cases h
theorem b_or : ∀ {x y : Bool}, (x || y) = true → x = true ∨ y = true
  | true, _, _ => Or.inl rfl
  | false, true, _ => Or.inr rfl
  | false, false, h => by cases h
def ckK (L : List PEn) (a : Nat) : Nat → List Nat → Bool
  | _, [] => true
  | k, v :: r => (decide (v = 0) || decide (lkP L a (k : Int) = some v)) && ckK L a (k + 1) r
def ckA (L : List PEn) : Nat → List (List Nat) → Bool
  | _, [] => true
  | a, l :: r => ckK L a 0 l && ckA L (a + 1) r
theorem ckK_at {L : List PEn} {a : Nat} : ∀ {l : List Nat} {k : Nat}, ckK L a k l = true → ∀ j, l.getD j 0 ≠ 0 → lkP L a ((k + j : Nat) : Int) = some (l.getD j 0)
  | [], _, _, j, hj => absurd (by cases j <;> rfl) hj
  | v :: r, k, h, 0, hj => by
    have h1 := (b_and h).1
    rcases b_or h1 with h2 | h2
    · exact absurd (of_decide_eq_true h2) hj
    · exact of_decide_eq_true h2
  | v :: r, k, h, j + 1, hj => by
    have h1 := (b_and h).2
    have := ckK_at (l := r) (k := k + 1) h1 j hj
    rw [show k + (j + 1) = k + 1 + j by omega]
    exact this
theorem ckA_at {L : List PEn} : ∀ {l : List (List Nat)} {a : Nat}, ckA L a l = true → ∀ b, ckK L (a + b) 0 (l.getD b []) = true
  | [], _, _, b => by cases b <;> rfl
  | x :: r, a, h, 0 => (b_and h).1
  | x :: r, a, h, b + 1 => by
    have := ckA_at (l := r) (a := a + 1) (b_and h).2 b
    rw [show a + (b + 1) = a + 1 + b by omega]
    exact this
theorem ckW {L : List PEn} {P : Ptr} (h : ckA L 0 SPL = true) : WP (chP L P) := fun a k hk => by
  have h1 := ckA_at h a
  rw [Nat.zero_add] at h1
  have h2 := ckK_at h1 k hk
  rw [Nat.zero_add] at h2
  exact chP_at h2
theorem rel0 {J : Mem} {P : Ptr} (hz : ∀ a, a ≠ 1 → a ≠ 50 → a ≠ 91 → ¬ (3 ≤ a ∧ a ≤ 40) → J a = fun _ => 0) (h1 : J 1 = u1 (fun _ => 0) 4 (-1)) (h91 : J 91 = u1 (u1 (u1 (u1 (fun _ => 0) 2 1) 3 2) 4 (-1)) 19 (-1)) (hCA : CA J 3 T0) (hCL : CL J 16 T0)
    (hW : WP P) (p2 : P 1 2 = 3) (p3 : P 1 3 = 22) (q0 : P 46 0 = 3) (q1 : P 46 1 = 16) : REL ((0 : Nat) : Int) J P := by
  have hn : ∀ a, 92 ≤ a → J a = fun _ => 0 := fun a ha => hz a (by omega) (by omega) (by omega) (by omega)
  have hm : ∀ a, 51 ≤ a → a ≤ 90 → J a = fun _ => 0 := fun a ha hb => hz a (by omega) (by omega) (by omega) (by omega)
  have e47 : J 47 = fun _ => 0 := hz 47 (by decide) (by decide) (by decide) (by decide)
  refine ⟨3, 22, T0, ⟨hW, p2, p3, ⟨by decide, by decide⟩, ⟨by decide, by decide⟩, by decide, ⟨Or.inl rfl, ⟨by decide, by decide⟩, ⟨by decide, by decide⟩, q0, q1, hCA, hCL⟩, ⟨fun k k0 k1 => ?_, ?_, ?_, ?_, ?_, ?_, ?_⟩, WF0⟩, ⟨?_, ?_⟩, ⟨⟨⟨?_, ?_⟩, ?_⟩, fun c c0 c1 => ?_⟩, ⟨?_, ?_, ?_, ?_, ?_, ?_⟩, ⟨?_, ?_, fun i i0 i1 => ?_⟩, ⟨?_, ?_, fun h => ?_⟩, ⟨?_, ?_, fun i i0 i1 => ?_⟩, ⟨?_, ?_, fun h => ?_⟩, ⟨?_, ?_, fun h => ?_⟩⟩
  · obtain rfl | rfl | rfl | rfl | rfl | rfl | rfl : k = 1 ∨ k = 2 ∨ k = 3 ∨ k = 4 ∨ k = 5 ∨ k = 6 ∨ k = 7 := by omega
    all_goals (rw [h91]; rfl)
  · rw [hn 92 (by decide)]; rfl
  · rw [hn 93 (by decide)]; rfl
  · rw [hn 94 (by decide)]; rfl
  · rw [hn 95 (by decide)]; rfl
  · rw [hn 96 (by decide)]; rfl
  · rw [hn 97 (by decide)]; rfl
  · rw [hn 98 (by decide)]; exact ⟨fun _ _ _ => Int.le_refl 0, fun _ _ _ _ _ _ _ => rfl, by decide⟩
  · rw [hn 98 (by decide), e47]; exact fun _ _ _ => rfl
  · rw [h1]; decide
  · rw [h1]; decide
  · rw [h1, h91]; decide
  · rw [h1] at c1
    have e : u1 (fun _ => (0 : Int)) 4 (-1) 1 = 0 := rfl
    omega
  · rw [h1, h91]; decide
  · rw [h1, hn 99 (by decide)]; decide
  · rw [h1, hn 99 (by decide)]; decide
  · rw [h1, hn 99 (by decide)]; decide
  · rw [hn 99 (by decide)]; decide
  · rw [hn 99 (by decide)]; decide
  · rw [h91, hm 85 (by decide) (by decide)]; decide
  · rw [h91]; decide
  · rw [h91] at i1
    have e : u1 (u1 (u1 (u1 (fun _ => (0 : Int)) 2 1) 3 2) 4 (-1)) 19 (-1) 61 = 0 := rfl
    omega
  · rw [h91, hm 85 (by decide) (by decide)]; decide
  · rw [h91]; decide
  · rw [h91] at h; exact absurd h (by decide)
  · rw [h91, hm 85 (by decide) (by decide)]; decide
  · rw [h91]; decide
  · rw [h91] at i1
    have e : u1 (u1 (u1 (u1 (fun _ => (0 : Int)) 2 1) 3 2) 4 (-1)) 19 (-1) 76 = 0 := rfl
    omega
  · rw [h91, hm 85 (by decide) (by decide)]; decide
  · rw [h91]; decide
  · rw [h91] at h; exact absurd h (by decide)
  · rw [h91, hm 85 (by decide) (by decide)]; decide
  · rw [h91]; decide
  · rw [h91] at h; exact absurd h (by decide)
def IS0 : Mem := fun _ _ => 0
def PS0 : Ptr := fun _ _ => 0
theorem law_start {G : HX} {nm : String} {hh : List (Nat × Nat × Nat × Nat)} {Q : QT} (hL : G.2.1 ≤ 3072) (hQ : ∀ K R, Q (.inl (some (.inl 1))) NO K R) : V G (mL_law_ nm hh) 32 657 122907 0 [some (.inr (.inl 1000)), none, none, none, none, none, none] [] 0 IS0 PS0 Q := by
  refine x_new (kc := 656) (ks := 122889) (ci := 11) (a := 1) dL_law__0 clL_8 inX11 ini_TwoForOne cfX11 (by decide) rfl rfl (by decide) (fun _ => rfl) (fun _ => rfl) ?_
  refine x_dup dL_law__3 rfl ?_
  refine x_callI (kc := 567) (ks := 63466) (c_X11_init_1 (d := 28) (fun a h k => rfl) (fun a h k => rfl)) dL_law__4 lkL_91 mfX11_init (by decide) rfl rfl rfl rfl rfl (Nat.le_of_ble_eq_true rfl) (fun n4 I4 P4 hf4 => ?_)
  obtain ⟨rfl, rfl, hF, h1, hCA, hCL⟩ := hf4
  have zI4 : ZI 90 I4 := ZP.fc (n := 0) (I := IS0) (fun _ _ _ => rfl) hF (by decide) (fun a ha => by omega)
  have zP4 : ZP 90 (chP LX11_1 PS0) := ZP.ch (fun _ _ _ => rfl) (by decide +kernel)
  refine y_asn (i := 1) dL_law__7 (by decide) rfl rfl (Nat.le_of_ble_eq_true rfl) ?_
  refine x_new (kc := 566) (ks := 63372) (ci := 12) (a := 91) dL_law__8 clL_92 inX12 ini_TwoForOneModel cfX12 (by decide) rfl rfl (by decide) (fun k => zI4 91 (by decide) k) (fun k => zP4 91 (by decide) k) ?_
  refine x_dup dL_law__11 rfl ?_
  refine x_callI (kc := 513) (ks := 3073) (c_X12_init_91 (d := 30) (ZI.mo zI4 (by decide)) (ZP.mo zP4 (by decide))) dL_law__12 lkL_94 mfX12_init (by decide) rfl rfl rfl rfl rfl (Nat.le_of_ble_eq_true rfl) (fun n12 I12 P12 hf12 => ?_)
  obtain ⟨rfl, rfl, rfl⟩ := hf12
  refine y_asn (i := 2) dL_law__15 (by decide) rfl rfl (Nat.le_of_ble_eq_true rfl) ?_
  refine y_ic dL_law__16 ⟨by decide, by decide⟩ ?_
  refine x_newL (N := 1) (kc := 512) (ks := 3072) (a := 145) dL_law__17 rfl rfl (by decide) rfl (by decide) (fun k => (show ZI 144 _ from ZI.u (ZI.u (ZI.u (ZI.u (ZI.mo zI4 (by decide)) (by decide)) (by decide)) (by decide)) (by decide)) 145 (by decide) k) ?_
  refine y_asn (i := 3) dL_law__19 (by decide) rfl rfl (Nat.le_of_ble_eq_true rfl) ?_
  refine y_ic dL_law__20 ⟨by decide, by decide⟩ ?_
  refine x_istore (i := 4) dL_law__21 rfl (Nat.le_of_ble_eq_true rfl) ?_
  have h9 : ∀ a, a ≠ 91 → uI (uI (uI (uI I4 91 2 1) 91 3 2) 91 4 (-1)) 91 19 (-1) a = I4 a := fun a ha => by rw [uI_ne ha, uI_ne ha, uI_ne ha, uI_ne ha]
  refine lw_loop hL hQ 514 0 _ _ (by decide) (by decide) (rel0 (fun a a1 a5 a9 aT => ?_) ?_ ?_ (hCA.eq (fun a a0 a1 => h9 a (by omega))) (hCL.eq (fun a a0 a1 => h9 a (by omega))) ?_ ?_ ?_ ?_ ?_)
  · rw [h9 a a9, hF a (by omega)]; rfl
  · rw [h9 1 (by decide), h1]; rfl
  · rw [uI_eq, uI_eq, uI_eq, uI_eq, hF 91 (by omega)]; rfl
  · rw [← chP_app]; exact ckW (by decide +kernel)
  · rw [← chP_app]; exact chP_at (by decide +kernel)
  · rw [← chP_app]; exact chP_at (by decide +kernel)
  · rw [← chP_app]; exact chP_at (by decide +kernel)
  · rw [← chP_app]; exact chP_at (by decide +kernel)
