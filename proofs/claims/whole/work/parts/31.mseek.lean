/-! ===== the reference: a whole search, ways, the most ===== -/
/-- the k-th before a state -/
def upX (x : Sx) (k s : Int) : Int := itN (fun _ s => (howX x s).1) k s
theorem upX_0 {x : Sx} {s : Int} : upX x 0 s = s := rfl
theorem upX_s {x : Sx} {k s : Int} (h : 0 ≤ k) : upX x (k + 1) s = (howX x (upX x k s)).1 := itN_s _ _ h
/-- so many steps lead to a state -/
def dpX (x : Sx) (s n : Int) : Prop := 0 ≤ n ∧ (howX x (upX x n s)).1 = -1 ∧ ∀ k, 0 ≤ k → k < n → (howX x (upX x k s)).1 ≠ -1
theorem dpX_one {x : Sx} {s n n' : Int} (h : dpX x s n) (h' : dpX x s n') : n = n' := by
  rcases Int.lt_trichotomy n n' with q | q | q
  · exact absurd h.2.1 (h'.2.2 n h.1 q)
  · exact q
  · exact absurd h'.2.1 (h.2.2 n' h'.1 q)
theorem upX_bd {T : Tn} {m : Int} {x : Sx} (hx : XOK T m x) {s : Int} (hs : 0 ≤ s ∧ s < x.1) {n : Int} (hn : 0 ≤ n) (h : ∀ k, 0 ≤ k → k < n → (howX x (upX x k s)).1 ≠ -1) : (0 ≤ upX x n s ∧ upX x n s < x.1) ∧ upX x n s + n ≤ s := by
  refine int_ind (p := fun n => (∀ k, 0 ≤ k → k < n → (howX x (upX x k s)).1 ≠ -1) → (0 ≤ upX x n s ∧ upX x n s < x.1) ∧ upX x n s + n ≤ s) (fun _ => by rw [upX_0]; omega) (fun k hk ih hh => ?_) n hn h
  have h1 := ih (fun j j0 j1 => hh j j0 (by omega))
  have h2 := hh k hk (by omega)
  rw [upX_s hk]
  have h0 : upX x k s ≠ 0 := fun e => h2 (by rw [e]; exact hx.2.2.1)
  have h3 := hx.2.2.2.1 (upX x k s) (by omega) h1.1.2
  omega
/-- the way that is kept -/
def WayM (T : Tn) (K : Mem) (x : Sx) (t n : Int) : Prop := K 91 61 = n ∧ ∀ i, 0 ≤ i → i < n → K 121 i = (howX x (upX x (n - 1 - i) t)).2.1 ∧ K 122 i = (howX x (upX x (n - 1 - i) t)).2.2.1 ∧ K 123 i = numX T (howX x (upX x (n - 1 - i) t)) ∧ K 124 i = (howX x (upX x (n - 1 - i) t)).2.2.2.2
noncomputable def mostB (T : Tn) (x : Sx) (s : Int) (b : Int × Int) : Int × Int := (if b.2 < worthS T (rowX x s) then s else b.1, if b.2 < worthS T (rowX x s) then worthS T (rowX x s) else b.2)
noncomputable def mostN (T : Tn) (x : Sx) (n : Int) : Int × Int := itN (fun s b => mostB T x s b) n (0, -1)
theorem mostN_s {T : Tn} {x : Sx} {n : Int} (h : 0 ≤ n) : mostN T x (n + 1) = mostB T x n (mostN T x n) := itN_s _ _ h
theorem mostN_ok {T : Tn} {m : Int} {x : Sx} (hT : WF T) (hx : XOK T m x) {n : Int} (hn : 0 ≤ n ∧ n ≤ x.1) : (0 ≤ (mostN T x n).1 ∧ (mostN T x n).1 < x.1) ∧ (-1 ≤ (mostN T x n).2 ∧ (mostN T x n).2 ≤ 456600000) := by
  refine int_ind (p := fun n => n ≤ x.1 → (0 ≤ (mostN T x n).1 ∧ (mostN T x n).1 < x.1) ∧ (-1 ≤ (mostN T x n).2 ∧ (mostN T x n).2 ≤ 456600000)) (fun _ => ⟨⟨Int.le_refl _, by have := hx.1.1; show (0 : Int) < _; omega⟩, Int.le_refl _, by show (-1 : Int) ≤ 456600000; decide⟩) (fun k hk ih hh => ?_) n hn.1 hn.2
  have h1 := ih (by omega)
  have h2 := worthS_bd hT (hx.2.1 k hk (by omega)).rc
  rw [mostN_s hk]
  unfold mostB
  dsimp only
  refine ⟨⟨?_, ?_⟩, ?_, ?_⟩ <;> split <;> omega
abbrev skS : List Nat := 111 :: 112 :: 120 :: srS
section
variable {G : HX} {d : Nat} {I : Mem} {P : Ptr} {T : Tn}
theorem c_X12_searches {of : Nat} {w gl m : Int} {r : Rw} (hW : WP P) (hT : MT I T) (hF : WF T) (hX : WX I w gl m) (hA : AR NO of 20 48) (hre : RE (I of) r) (hr : RW T r) (ho : of ∉ skS) : Cv G mX12_searches (d + 3) 0 0 [.inr (.inl 91), .inr (.inl of)] NO I P (qV (fun n' I' P' => n' = NO ∧ P' = P ∧ MX T I' (goX T w gl m r) ∧ Fr skS srF I I')) := by
  have f1 := hF.1
  have f5 := hF.2.2.2.2.1
  have hm := hX.2.2.1
  have n91 : of ≠ 91 := hA.na at91 (by decide)
  have osr : of ∉ srS := fun q => ho (List.mem_cons_of_mem _ (List.mem_cons_of_mem _ (List.mem_cons_of_mem _ q)))
  refine x_enter mfX12_searches rfl (Nat.le_of_ble_eq_true rfl) (fun _ => ?_)
  have hL : ∀ (j : Nat) (s : Int) (K : Mem), (m - s).toNat < j → 0 ≤ s → s ≤ (itN (fun s x => goB T w gl m s x) s (iniX w gl r)).1 → Fr skS srF I K → MX T K (itN (fun s x => goB T w gl m s x) s (iniX w gl r)) → V G mX12_searches (d + 3) 0 0 61 [some (.inr (.inl 91)), none, some (.inl (s)), none, none] [] NO K P (qV (fun n' I' P' => n' = NO ∧ P' = P ∧ MX T I' (goX T w gl m r) ∧ Fr skS srF I I')) := by
    intro j
    induction j with
    | zero => intro s K hj; omega
    | succ j ih =>
      intro s K hj hs hs2 hFr hMX
      have hok := goN_ok (w := w) (gl := gl) (n := s) hF hr hm.1
      have hstop := fun h => go_stop (T := T) (w := w) (gl := gl) (m := m) (s := s) (n := m - s) (r := r) (x := itN (fun s x => goB T w gl m s x) s (iniX w gl r)) h hs
      have es := itN_s (fun s x => goB T w gl m s x) (iniX w gl r) hs
      obtain ⟨x, hx⟩ : ∃ x, x = itN (fun s x => goB T w gl m s x) s (iniX w gl r) := ⟨_, rfl⟩
      rw [← hx] at hok hs2 hMX es hstop
      have hok1 := hok.1
      have fin : x.1 ≤ s ∨ overX x → goX T w gl m r = x := fun h => by
        have h2 := hstop h (by have := hok.1; omega) rfl
        rw [show s + (m - s) = m by omega] at h2
        exact h2
      have e47 : K 91 47 = x.1 := hMX.1
      have hP : s < x.1 → ¬ overX x → ∀ (j : Nat) (p : Int) (K : Mem), (T 0 1 - p).toNat < j → 0 ≤ p → p ≤ T 0 1 → RE (K 120) (rowX x s) → Fr skS srF I K → MX T K (itN (fun p x' => itN (fun t x' => tieB T w gl m (rowX x s) s p t x') (T 0 5) x') p (twosS T w gl m (rowX x s) s x)) → V G mX12_searches (d + 3) 0 0 189 [some (.inr (.inl 91)), none, some (.inl (s)), some (.inl (p)), none] [] NO K P (qV (fun n' I' P' => n' = NO ∧ P' = P ∧ MX T I' (goX T w gl m r) ∧ Fr skS srF I I')) := by
        intro h1 h2 j
        induction j with
        | zero => intro p K hj; omega
        | succ j ihp =>
          intro p K hj hp hp2 hre hFr hMX
          have hh := hok.2.1 s hs h1
          have h0 := twosS_ok (w := w) (gl := gl) hF hh ⟨hs, h1⟩ laterX.rf hok
          have hokp : XOK T m (itN (fun p x' => itN (fun t x' => tieB T w gl m (rowX x s) s p t x') (T 0 5) x') p (twosS T w gl m (rowX x s) s x)) ∧ laterX x (itN (fun p x' => itN (fun t x' => tieB T w gl m (rowX x s) s p t x') (T 0 5) x') p (twosS T w gl m (rowX x s) s x)) := itN_inv (p := fun x' : Sx => XOK T m x' ∧ laterX x x') h0 (fun a x a0 a1 hx => itN_inv (p := fun x' : Sx => XOK T m x' ∧ laterX _ x') hx (fun b x b0 b1 hx => tieB_ok hF hh ⟨a0, by omega⟩ ⟨b0, b1⟩ ⟨hs, h1⟩ hx.2 hx.1))
          have ep := itN_s (fun p x' => itN (fun t x' => tieB T w gl m (rowX x s) s p t x') (T 0 5) x') (twosS T w gl m (rowX x s) s x) hp
          have hTK := hT.fr hFr
          have e1 : K 91 1 = T 0 1 := hTK.1 1 (by decide) (by decide)
          obtain ⟨y, hy⟩ : ∃ y, y = itN (fun p x' => itN (fun t x' => tieB T w gl m (rowX x s) s p t x') (T 0 5) x') p (twosS T w gl m (rowX x s) s x) := ⟨_, rfl⟩
          rw [← hy] at hMX hokp ep
          have hZ : p < T 0 1 → ∀ (j : Nat) (t : Int) (K : Mem), (T 0 5 - t).toNat < j → 0 ≤ t → t ≤ T 0 5 → RE (K 120) (rowX x s) → Fr skS srF I K → MX T K (itN (fun t x' => tieB T w gl m (rowX x s) s p t x') t y) → V G mX12_searches (d + 3) 0 0 200 [some (.inr (.inl 91)), none, some (.inl (s)), some (.inl (p)), some (.inl (t))] [] NO K P (qV (fun n' I' P' => n' = NO ∧ P' = P ∧ MX T I' (goX T w gl m r) ∧ Fr skS srF I I')) := by
            intro hp3 j
            induction j with
            | zero => intro t K hj; omega
            | succ j iht =>
              intro t K hj ht ht2 hre hFr hMX
              have hTK := hT.fr hFr
              have hXK := hX.fr hFr
              have e5 : K 91 5 = T 0 5 := hTK.1 5 (by decide) (by decide)
              have e56 : K 91 56 = w := hXK.1
              have hokt : XOK T m (itN (fun t x' => tieB T w gl m (rowX x s) s p t x') t y) ∧ laterX x (itN (fun t x' => tieB T w gl m (rowX x s) s p t x') t y) := itN_inv (p := fun x' : Sx => XOK T m x' ∧ laterX _ x') hokp (fun b x b0 b1 hx => tieB_ok hF hh ⟨hp, hp3⟩ ⟨b0, by omega⟩ ⟨hs, h1⟩ hx.2 hx.1)
              have et := itN_s (fun t x' => tieB T w gl m (rowX x s) s p t x') y ht
              have hst := fun hov => itN_stop (f := fun t x' => tieB T w gl m (rowX x s) s p t x') (n := T 0 5) (k := t) (s := y) ⟨ht, ht2⟩ rfl hov
              obtain ⟨u, hu⟩ : ∃ u, u = itN (fun t x' => tieB T w gl m (rowX x s) s p t x') t y := ⟨_, rfl⟩
              rw [← hu] at hMX hokt et hst
              have hnx : t < T 0 5 → ∀ (K' : Mem), RE (K' 120) (rowX x s) → Fr skS srF I K' → MX T K' (tieB T w gl m (rowX x s) s p t u) → V G mX12_searches (d + 3) 0 0 282 [some (.inr (.inl 91)), none, some (.inl (s)), some (.inl (p)), some (.inl (t))] [] NO K' P (qV (fun n' I' P' => n' = NO ∧ P' = P ∧ MX T I' (goX T w gl m r) ∧ Fr skS srF I I')) := fun ht3 K' r1 r2 r3 => by
                refine x_iinc dX12_searches_282 rfl ⟨by omega, by omega⟩ rfl (Nat.le_of_ble_eq_true rfl) ?_
                refine x_goto (tgt := 200) dX12_searches_285 rfl ?_
                refine x_keep [1, 0, 1, 1, 1] ?_
                exact iht (t + 1) K' (by omega) (by omega) (by omega) r1 r2 (by rw [et]; exact r3)
              have hend : (T 0 5 ≤ t ∨ overX u) → V G mX12_searches (d + 3) 0 0 288 [some (.inr (.inl 91)), none, some (.inl (s)), some (.inl (p)), none] [] NO K P (qV (fun n' I' P' => n' = NO ∧ P' = P ∧ MX T I' (goX T w gl m r) ∧ Fr skS srF I I')) := fun hq => by
                have eu : itN (fun t x' => tieB T w gl m (rowX x s) s p t x') (T 0 5) y = u := hst (fun i i0 i1 => by
                  rcases hq with hq | hq
                  · omega
                  · exact tieB_over hq)
                refine x_iinc dX12_searches_288 rfl ⟨by omega, by omega⟩ rfl (Nat.le_of_ble_eq_true rfl) ?_
                refine x_goto (tgt := 189) dX12_searches_291 rfl ?_
                refine x_keep [1, 0, 1, 1, 0] ?_
                exact ihp (p + 1) K (by omega) (by omega) (by omega) hre hFr (by rw [ep, eu]; exact hMX)
              refine x_iload (i := 4) dX12_searches_200 rfl ?_
              refine y_aln (i := 0) dX12_searches_202 at91.ne0 rfl rfl ?_
              refine y_geti (z := 5) dX12_searches_203 frX12_319 cfX12 at91 rfl rfl ?_
              refine x_icmp_ge (tgt := 288) dX12_searches_206 rfl (fun h206 => ?_) (fun h206 => ?_)
              · refine x_keep [1, 0, 1, 1, 0] ?_
                first | exact hend (Or.inl (by omega)) | exact hend (Or.inr (q210.resolve_right (fun q => by have := q.1; omega)).2)
              · refine y_aln (i := 0) dX12_searches_209 at91.ne0 rfl rfl ?_
                refine x_callVI (c_X12_isOver hW hMX) dX12_searches_210 lkX12_433 mfX12_isOver cfX12 at91 rfl rfl rfl rfl (Nat.le_of_ble_eq_true rfl) (fun r210 I210 P210 hr210 hf210 => ?_)
                obtain ⟨i210, p210, q210⟩ := hf210
                rw [i210, p210]
                refine x_if_ne (tgt := 288) dX12_searches_213 rfl (fun h213 => ?_) (fun h213 => ?_)
                · refine x_keep [1, 0, 1, 1, 0] ?_
                  first | exact hend (Or.inl (by omega)) | exact hend (Or.inr (q210.resolve_right (fun q => by have := q.1; omega)).2)
                · refine y_aln (i := 0) dX12_searches_216 at91.ne0 rfl rfl ?_
                  refine y_geti (z := 56) dX12_searches_217 frX12_421 cfX12 at91 rfl rfl ?_
                  refine y_ic dX12_searches_220 ⟨by decide, by decide⟩ ?_
                  refine x_icmp_eq (tgt := 232) dX12_searches_221 rfl (fun h221 => ?_) (fun h221 => ?_)
                  · refine y_aln (i := 0) dX12_searches_232 at91.ne0 rfl rfl ?_
                    refine y_aln (i := 0) dX12_searches_233 at91.ne0 rfl rfl ?_
                    refine y_getp (z := 55) (v := 120) dX12_searches_234 frX12_109 cfX12 at91 rfl rfl (wp (v := 120) hW rfl rfl (by decide)) ?_
                    refine x_iload_n (i := 3) dX12_searches_237 rfl rfl ?_
                    refine x_iload (i := 4) dX12_searches_238 rfl ?_
                    refine x_callVI (c_X12_mayTie hW hTK hF ar120 ⟨hp, hp3⟩ ⟨ht, by omega⟩) dX12_searches_240 lkX12_393 mfX12_mayTie cfX12 at91 rfl rfl rfl rfl (Nat.le_of_ble_eq_true rfl) (fun r240 I240 P240 hr240 hf240 => ?_)
                    obtain ⟨i240, p240, q240⟩ := hf240
                    rw [i240, p240]
                    rw [hre.tie hF ⟨hp, hp3⟩ ⟨ht, by omega⟩] at q240
                    have hno : ¬ overX u := (q210.resolve_left (fun q => by have := q.1; omega)).2
                    refine x_if_ne (tgt := 249) dX12_searches_243 rfl (fun h243 => ?_) (fun h243 => ?_)
                    · refine y_aln (i := 0) dX12_searches_249 at91.ne0 rfl rfl ?_
                      refine y_aln (i := 0) dX12_searches_250 at91.ne0 rfl rfl ?_
                      refine y_getp (z := 55) (v := 120) dX12_searches_251 frX12_109 cfX12 at91 rfl rfl (wp (v := 120) hW rfl rfl (by decide)) ?_
                      refine y_aln (i := 0) dX12_searches_254 at91.ne0 rfl rfl ?_
                      refine y_getp (z := 46) (v := 112) dX12_searches_255 frX12_84 cfX12 at91 rfl rfl (wp (v := 112) hW rfl rfl (by decide)) ?_
                      refine x_callVV (c_X12_copies ar120 ar112 (by decide) (by decide) (by decide)) dX12_searches_258 lkX12_328 mfX12_copies cfX12 at91 rfl rfl rfl rfl (Nat.le_of_ble_eq_true rfl) (fun n258 I258 P258 hf258 => ?_)
                      obtain ⟨rfl, hI258, rfl⟩ := hf258
                      have htie : tieP T (rowX x s) p t := q240.elim (fun h => h.2) (fun h => absurd h.1 (by omega))
                      have r258 : RE (I258 112) (rowX x s) := fun c h0 h1 => by rw [hI258, uA_eq, if_pos (by omega)]; exact hre c h0 h1
                      have hT258 : MT I258 T := by rw [hI258]; exact hTK.ua (by decide)
                      have hFr258 : Fr skS srF I I258 := by rw [hI258]; exact hFr.ua (by decide) (by decide)
                      refine y_aln (i := 0) dX12_searches_261 at91.ne0 rfl rfl ?_
                      refine y_aln (i := 0) dX12_searches_262 at91.ne0 rfl rfl ?_
                      refine y_getp (z := 46) (v := 112) dX12_searches_263 frX12_84 cfX12 at91 rfl rfl (wp (v := 112) hW rfl rfl (by decide)) ?_
                      refine x_iload_n (i := 3) dX12_searches_266 rfl rfl ?_
                      refine x_iload (i := 4) dX12_searches_267 rfl ?_
                      refine x_callVV (c_X12_ties0 hW hT258 hF ar112 (by decide) (r258.sy.rc hh.rc) ⟨hp, hp3⟩ ⟨ht, by omega⟩) dX12_searches_269 lkX12_397 mfX12_ties0 cfX12 at91 rfl rfl rfl rfl (Nat.le_of_ble_eq_true rfl) (fun n269 I269 P269 hf269 => ?_)
                      obtain ⟨rfl, hI269, rfl⟩ := hf269
                      have hFr269 : Fr skS srF I I269 := by rw [hI269]; exact hFr258.ua (by decide) (by decide)
                      have r269 : RE (I269 112) (knotS T (rowX x s) p t) := by rw [hI269, uA_eq]; exact r258.knot
                      have hMX269 : MX T I269 u := hMX.fr (show Fr [112] [] K I269 by rw [hI269, hI258]; exact (Fr.rf.ua (by decide) (by decide)).ua (by decide) (by decide))
                      have r120 : RE (I269 120) (rowX x s) := by rw [hI269, uA_ne (by decide), hI258, uA_ne (by decide)]; exact hre
                      refine y_aln (i := 0) dX12_searches_272 at91.ne0 rfl rfl ?_
                      refine x_iload_n (i := 2) dX12_searches_273 rfl rfl ?_
                      refine x_iload_n (i := 3) dX12_searches_274 rfl rfl ?_
                      refine y_ic dX12_searches_275 ⟨by decide, by decide⟩ ?_
                      refine x_iload (i := 4) dX12_searches_276 rfl ?_
                      refine y_ic dX12_searches_278 ⟨by decide, by decide⟩ ?_
                      refine x_callVV (c_X12_meets (h := (s, p, -1, t, -1)) hW hMX269 (hX.fr hFr269) ⟨by have := hokt.1.1; omega, hokt.1.1.2⟩ r269 ⟨rfl, rfl, rfl, (if_pos rfl).symm, rfl⟩) dX12_searches_279 lkX12_439 mfX12_meets cfX12 at91 rfl rfl rfl rfl (Nat.le_of_ble_eq_true rfl) (fun n279 I279 P279 hf279 => ?_)
                      obtain ⟨rfl, rfl, mx279, fr279⟩ := hf279
                      refine x_keep [1, 0, 1, 1, 1] ?_
                      first | exact hnx (by omega) I279 (by rw [fr279.1 120 (by decide) (by decide)]; exact r120) (hFr269.tr (fr279.mo (by decide) (fun x hx => hx))) (by unfold tieB; rw [cif_pos ⟨hno, by omega, htie⟩]; exact mx279) | exact hnx (by omega) K hre hFr (by unfold tieB; rw [cif_neg (fun q => by have := q.2.1; omega)]; exact hMX) | exact hnx (by omega) K hre hFr (by unfold tieB; rw [cif_neg (fun q => (q240.resolve_left (fun z => by have := z.1; omega)).2 q.2.2)]; exact hMX)
                    · refine x_goto (tgt := 282) dX12_searches_246 rfl ?_
                      refine x_keep [1, 0, 1, 1, 1] ?_
                      first | exact hnx (by omega) I279 (by rw [fr279.1 120 (by decide) (by decide)]; exact r120) (hFr269.tr (fr279.mo (by decide) (fun x hx => hx))) (by unfold tieB; rw [cif_pos ⟨hno, by omega, htie⟩]; exact mx279) | exact hnx (by omega) K hre hFr (by unfold tieB; rw [cif_neg (fun q => by have := q.2.1; omega)]; exact hMX) | exact hnx (by omega) K hre hFr (by unfold tieB; rw [cif_neg (fun q => (q240.resolve_left (fun z => by have := z.1; omega)).2 q.2.2)]; exact hMX)
                  · refine x_iload_n (i := 3) dX12_searches_224 rfl rfl ?_
                    refine y_aln (i := 0) dX12_searches_225 at91.ne0 rfl rfl ?_
                    refine y_geti (z := 56) dX12_searches_226 frX12_421 cfX12 at91 rfl rfl ?_
                    refine x_icmp_ne (tgt := 282) dX12_searches_229 rfl (fun h229 => ?_) (fun h229 => ?_)
                    · refine x_keep [1, 0, 1, 1, 1] ?_
                      first | exact hnx (by omega) I279 (by rw [fr279.1 120 (by decide) (by decide)]; exact r120) (hFr269.tr (fr279.mo (by decide) (fun x hx => hx))) (by unfold tieB; rw [cif_pos ⟨hno, by omega, htie⟩]; exact mx279) | exact hnx (by omega) K hre hFr (by unfold tieB; rw [cif_neg (fun q => by have := q.2.1; omega)]; exact hMX) | exact hnx (by omega) K hre hFr (by unfold tieB; rw [cif_neg (fun q => (q240.resolve_left (fun z => by have := z.1; omega)).2 q.2.2)]; exact hMX)
                    · refine y_aln (i := 0) dX12_searches_232 at91.ne0 rfl rfl ?_
                      refine y_aln (i := 0) dX12_searches_233 at91.ne0 rfl rfl ?_
                      refine y_getp (z := 55) (v := 120) dX12_searches_234 frX12_109 cfX12 at91 rfl rfl (wp (v := 120) hW rfl rfl (by decide)) ?_
                      refine x_iload_n (i := 3) dX12_searches_237 rfl rfl ?_
                      refine x_iload (i := 4) dX12_searches_238 rfl ?_
                      refine x_callVI (c_X12_mayTie hW hTK hF ar120 ⟨hp, hp3⟩ ⟨ht, by omega⟩) dX12_searches_240 lkX12_393 mfX12_mayTie cfX12 at91 rfl rfl rfl rfl (Nat.le_of_ble_eq_true rfl) (fun r240 I240 P240 hr240 hf240 => ?_)
                      obtain ⟨i240, p240, q240⟩ := hf240
                      rw [i240, p240]
                      rw [hre.tie hF ⟨hp, hp3⟩ ⟨ht, by omega⟩] at q240
                      have hno : ¬ overX u := (q210.resolve_left (fun q => by have := q.1; omega)).2
                      refine x_if_ne (tgt := 249) dX12_searches_243 rfl (fun h243 => ?_) (fun h243 => ?_)
                      · refine y_aln (i := 0) dX12_searches_249 at91.ne0 rfl rfl ?_
                        refine y_aln (i := 0) dX12_searches_250 at91.ne0 rfl rfl ?_
                        refine y_getp (z := 55) (v := 120) dX12_searches_251 frX12_109 cfX12 at91 rfl rfl (wp (v := 120) hW rfl rfl (by decide)) ?_
                        refine y_aln (i := 0) dX12_searches_254 at91.ne0 rfl rfl ?_
                        refine y_getp (z := 46) (v := 112) dX12_searches_255 frX12_84 cfX12 at91 rfl rfl (wp (v := 112) hW rfl rfl (by decide)) ?_
                        refine x_callVV (c_X12_copies ar120 ar112 (by decide) (by decide) (by decide)) dX12_searches_258 lkX12_328 mfX12_copies cfX12 at91 rfl rfl rfl rfl (Nat.le_of_ble_eq_true rfl) (fun n258 I258 P258 hf258 => ?_)
                        obtain ⟨rfl, hI258, rfl⟩ := hf258
                        have htie : tieP T (rowX x s) p t := q240.elim (fun h => h.2) (fun h => absurd h.1 (by omega))
                        have r258 : RE (I258 112) (rowX x s) := fun c h0 h1 => by rw [hI258, uA_eq, if_pos (by omega)]; exact hre c h0 h1
                        have hT258 : MT I258 T := by rw [hI258]; exact hTK.ua (by decide)
                        have hFr258 : Fr skS srF I I258 := by rw [hI258]; exact hFr.ua (by decide) (by decide)
                        refine y_aln (i := 0) dX12_searches_261 at91.ne0 rfl rfl ?_
                        refine y_aln (i := 0) dX12_searches_262 at91.ne0 rfl rfl ?_
                        refine y_getp (z := 46) (v := 112) dX12_searches_263 frX12_84 cfX12 at91 rfl rfl (wp (v := 112) hW rfl rfl (by decide)) ?_
                        refine x_iload_n (i := 3) dX12_searches_266 rfl rfl ?_
                        refine x_iload (i := 4) dX12_searches_267 rfl ?_
                        refine x_callVV (c_X12_ties0 hW hT258 hF ar112 (by decide) (r258.sy.rc hh.rc) ⟨hp, hp3⟩ ⟨ht, by omega⟩) dX12_searches_269 lkX12_397 mfX12_ties0 cfX12 at91 rfl rfl rfl rfl (Nat.le_of_ble_eq_true rfl) (fun n269 I269 P269 hf269 => ?_)
                        obtain ⟨rfl, hI269, rfl⟩ := hf269
                        have hFr269 : Fr skS srF I I269 := by rw [hI269]; exact hFr258.ua (by decide) (by decide)
                        have r269 : RE (I269 112) (knotS T (rowX x s) p t) := by rw [hI269, uA_eq]; exact r258.knot
                        have hMX269 : MX T I269 u := hMX.fr (show Fr [112] [] K I269 by rw [hI269, hI258]; exact (Fr.rf.ua (by decide) (by decide)).ua (by decide) (by decide))
                        have r120 : RE (I269 120) (rowX x s) := by rw [hI269, uA_ne (by decide), hI258, uA_ne (by decide)]; exact hre
                        refine y_aln (i := 0) dX12_searches_272 at91.ne0 rfl rfl ?_
                        refine x_iload_n (i := 2) dX12_searches_273 rfl rfl ?_
                        refine x_iload_n (i := 3) dX12_searches_274 rfl rfl ?_
                        refine y_ic dX12_searches_275 ⟨by decide, by decide⟩ ?_
                        refine x_iload (i := 4) dX12_searches_276 rfl ?_
                        refine y_ic dX12_searches_278 ⟨by decide, by decide⟩ ?_
                        refine x_callVV (c_X12_meets (h := (s, p, -1, t, -1)) hW hMX269 (hX.fr hFr269) ⟨by have := hokt.1.1; omega, hokt.1.1.2⟩ r269 ⟨rfl, rfl, rfl, (if_pos rfl).symm, rfl⟩) dX12_searches_279 lkX12_439 mfX12_meets cfX12 at91 rfl rfl rfl rfl (Nat.le_of_ble_eq_true rfl) (fun n279 I279 P279 hf279 => ?_)
                        obtain ⟨rfl, rfl, mx279, fr279⟩ := hf279
                        refine x_keep [1, 0, 1, 1, 1] ?_
                        first | exact hnx (by omega) I279 (by rw [fr279.1 120 (by decide) (by decide)]; exact r120) (hFr269.tr (fr279.mo (by decide) (fun x hx => hx))) (by unfold tieB; rw [cif_pos ⟨hno, by omega, htie⟩]; exact mx279) | exact hnx (by omega) K hre hFr (by unfold tieB; rw [cif_neg (fun q => by have := q.2.1; omega)]; exact hMX) | exact hnx (by omega) K hre hFr (by unfold tieB; rw [cif_neg (fun q => (q240.resolve_left (fun z => by have := z.1; omega)).2 q.2.2)]; exact hMX)
                      · refine x_goto (tgt := 282) dX12_searches_246 rfl ?_
                        refine x_keep [1, 0, 1, 1, 1] ?_
                        first | exact hnx (by omega) I279 (by rw [fr279.1 120 (by decide) (by decide)]; exact r120) (hFr269.tr (fr279.mo (by decide) (fun x hx => hx))) (by unfold tieB; rw [cif_pos ⟨hno, by omega, htie⟩]; exact mx279) | exact hnx (by omega) K hre hFr (by unfold tieB; rw [cif_neg (fun q => by have := q.2.1; omega)]; exact hMX) | exact hnx (by omega) K hre hFr (by unfold tieB; rw [cif_neg (fun q => (q240.resolve_left (fun z => by have := z.1; omega)).2 q.2.2)]; exact hMX)
          refine x_iload_n (i := 3) dX12_searches_189 rfl rfl ?_
          refine y_aln (i := 0) dX12_searches_190 at91.ne0 rfl rfl ?_
          refine y_geti (z := 1) dX12_searches_191 frX12_316 cfX12 at91 rfl rfl ?_
          refine x_icmp_ge (tgt := 294) dX12_searches_194 rfl (fun h194 => ?_) (fun h194 => ?_)
          · refine x_iinc dX12_searches_294 rfl ⟨by omega, by omega⟩ rfl (Nat.le_of_ble_eq_true rfl) ?_
            refine x_goto (tgt := 61) dX12_searches_297 rfl ?_
            refine x_keep [1, 0, 1, 0, 0] ?_
            have e9 : itN (fun s x => goB T w gl m s x) (s + 1) (iniX w gl r) = y := by
              rw [es]
              unfold goB
              rw [cif_pos ⟨h1, h2⟩, hy, show p = T 0 1 by omega]
              rfl
            exact ih (s + 1) K (by have := hok.1; omega) (by omega) (by rw [e9]; have := hokp.2.1; omega) hFr (by rw [e9]; exact hMX)
          · refine y_ic dX12_searches_197 ⟨by decide, by decide⟩ ?_
            refine x_istore (i := 4) dX12_searches_198 rfl (Nat.le_of_ble_eq_true rfl) ?_
            refine x_keep [1, 0, 1, 1, 1] ?_
            exact hZ (by omega) _ 0 _ (Nat.lt_succ_self _) (by omega) f5.1 hre hFr (by rw [itN_0]; exact hMX)
      have hA : s < x.1 → ¬ overX x → ∀ (j : Nat) (a : Int) (K : Mem), (T 0 1 - a).toNat < j → 0 ≤ a → a ≤ T 0 1 → RE (K 120) (rowX x s) → Fr skS srF I K → MX T K (itN (fun a x' => itN (fun b x' => twoB T w gl m (rowX x s) s a b x') (T 0 1) x') a x) → V G mX12_searches (d + 3) 0 0 109 [some (.inr (.inl 91)), none, some (.inl (s)), some (.inl (a)), none] [] NO K P (qV (fun n' I' P' => n' = NO ∧ P' = P ∧ MX T I' (goX T w gl m r) ∧ Fr skS srF I I')) := by
        intro h1 h2 j
        induction j with
        | zero => intro a K hj; omega
        | succ j iha =>
          intro a K hj ha ha2 hre hFr hMX
          have hh := hok.2.1 s hs h1
          have hoka : XOK T m (itN (fun a x' => itN (fun b x' => twoB T w gl m (rowX x s) s a b x') (T 0 1) x') a x) ∧ laterX x (itN (fun a x' => itN (fun b x' => twoB T w gl m (rowX x s) s a b x') (T 0 1) x') a x) := itN_inv (p := fun x' : Sx => XOK T m x' ∧ laterX x x') ⟨hok, laterX.rf⟩ (fun a x a0 a1 hx => itN_inv (p := fun x' : Sx => XOK T m x' ∧ laterX _ x') hx (fun b x b0 b1 hx => twoB_ok hF hh ⟨a0, by omega⟩ ⟨b0, b1⟩ ⟨hs, h1⟩ hx.2 hx.1))
          have ea := itN_s (fun a x' => itN (fun b x' => twoB T w gl m (rowX x s) s a b x') (T 0 1) x') x ha
          have hTK := hT.fr hFr
          have e1 : K 91 1 = T 0 1 := hTK.1 1 (by decide) (by decide)
          obtain ⟨y, hy⟩ : ∃ y, y = itN (fun a x' => itN (fun b x' => twoB T w gl m (rowX x s) s a b x') (T 0 1) x') a x := ⟨_, rfl⟩
          rw [← hy] at hMX hoka ea
          have hB : a < T 0 1 → ∀ (j : Nat) (b : Int) (K : Mem), (T 0 1 - b).toNat < j → 0 ≤ b → b ≤ T 0 1 → RE (K 120) (rowX x s) → Fr skS srF I K → MX T K (itN (fun b x' => twoB T w gl m (rowX x s) s a b x') b y) → V G mX12_searches (d + 3) 0 0 120 [some (.inr (.inl 91)), none, some (.inl (s)), some (.inl (a)), some (.inl (b))] [] NO K P (qV (fun n' I' P' => n' = NO ∧ P' = P ∧ MX T I' (goX T w gl m r) ∧ Fr skS srF I I')) := by
            intro ha3 j
            induction j with
            | zero => intro b K hj; omega
            | succ j ihb =>
              intro b K hj hb hb2 hre hFr hMX
              have hTK := hT.fr hFr
              have hXK := hX.fr hFr
              have e1 : K 91 1 = T 0 1 := hTK.1 1 (by decide) (by decide)
              have e56 : K 91 56 = w := hXK.1
              have hokb : XOK T m (itN (fun b x' => twoB T w gl m (rowX x s) s a b x') b y) ∧ laterX x (itN (fun b x' => twoB T w gl m (rowX x s) s a b x') b y) := itN_inv (p := fun x' : Sx => XOK T m x' ∧ laterX _ x') hoka (fun b x b0 b1 hx => twoB_ok hF hh ⟨ha, ha3⟩ ⟨b0, by omega⟩ ⟨hs, h1⟩ hx.2 hx.1)
              have eb := itN_s (fun b x' => twoB T w gl m (rowX x s) s a b x') y hb
              have hst := fun hov => itN_stop (f := fun b x' => twoB T w gl m (rowX x s) s a b x') (n := T 0 1) (k := b) (s := y) ⟨hb, hb2⟩ rfl hov
              obtain ⟨u, hu⟩ : ∃ u, u = itN (fun b x' => twoB T w gl m (rowX x s) s a b x') b y := ⟨_, rfl⟩
              rw [← hu] at hMX hokb eb hst
              have hnx : b < T 0 1 → ∀ (K' : Mem), RE (K' 120) (rowX x s) → Fr skS srF I K' → MX T K' (twoB T w gl m (rowX x s) s a b u) → V G mX12_searches (d + 3) 0 0 175 [some (.inr (.inl 91)), none, some (.inl (s)), some (.inl (a)), some (.inl (b))] [] NO K' P (qV (fun n' I' P' => n' = NO ∧ P' = P ∧ MX T I' (goX T w gl m r) ∧ Fr skS srF I I')) := fun ht3 K' r1 r2 r3 => by
                refine x_iinc dX12_searches_175 rfl ⟨by omega, by omega⟩ rfl (Nat.le_of_ble_eq_true rfl) ?_
                refine x_goto (tgt := 120) dX12_searches_178 rfl ?_
                refine x_keep [1, 0, 1, 1, 1] ?_
                exact ihb (b + 1) K' (by omega) (by omega) (by omega) r1 r2 (by rw [eb]; exact r3)
              have hend : (T 0 1 ≤ b ∨ overX u) → V G mX12_searches (d + 3) 0 0 181 [some (.inr (.inl 91)), none, some (.inl (s)), some (.inl (a)), none] [] NO K P (qV (fun n' I' P' => n' = NO ∧ P' = P ∧ MX T I' (goX T w gl m r) ∧ Fr skS srF I I')) := fun hq => by
                have eu : itN (fun b x' => twoB T w gl m (rowX x s) s a b x') (T 0 1) y = u := hst (fun i i0 i1 => by
                  rcases hq with hq | hq
                  · omega
                  · exact twoB_over hq)
                refine x_iinc dX12_searches_181 rfl ⟨by omega, by omega⟩ rfl (Nat.le_of_ble_eq_true rfl) ?_
                refine x_goto (tgt := 109) dX12_searches_184 rfl ?_
                refine x_keep [1, 0, 1, 1, 0] ?_
                exact iha (a + 1) K (by omega) (by omega) (by omega) hre hFr (by rw [ea, eu]; exact hMX)
              refine x_iload (i := 4) dX12_searches_120 rfl ?_
              refine y_aln (i := 0) dX12_searches_122 at91.ne0 rfl rfl ?_
              refine y_geti (z := 1) dX12_searches_123 frX12_316 cfX12 at91 rfl rfl ?_
              refine x_icmp_ge (tgt := 181) dX12_searches_126 rfl (fun h126 => ?_) (fun h126 => ?_)
              · refine x_keep [1, 0, 1, 1, 0] ?_
                first | exact hend (Or.inl (by omega)) | exact hend (Or.inr (q130.resolve_right (fun q => by have := q.1; omega)).2)
              · refine y_aln (i := 0) dX12_searches_129 at91.ne0 rfl rfl ?_
                refine x_callVI (c_X12_isOver hW hMX) dX12_searches_130 lkX12_433 mfX12_isOver cfX12 at91 rfl rfl rfl rfl (Nat.le_of_ble_eq_true rfl) (fun r130 I130 P130 hr130 hf130 => ?_)
                obtain ⟨i130, p130, q130⟩ := hf130
                rw [i130, p130]
                refine x_if_ne (tgt := 181) dX12_searches_133 rfl (fun h133 => ?_) (fun h133 => ?_)
                · refine x_keep [1, 0, 1, 1, 0] ?_
                  first | exact hend (Or.inl (by omega)) | exact hend (Or.inr (q130.resolve_right (fun q => by have := q.1; omega)).2)
                · refine x_iload_n (i := 3) dX12_searches_136 rfl rfl ?_
                  refine x_iload (i := 4) dX12_searches_137 rfl ?_
                  refine x_icmp_eq (tgt := 175) dX12_searches_139 rfl (fun h139 => ?_) (fun h139 => ?_)
                  · refine x_keep [1, 0, 1, 1, 1] ?_
                    first | exact hnx (by omega) I172 (by rw [fr172.1 120 (by decide) (by decide)]; exact hre) (hFr.tr (fr172.mo (by decide) (fun x hx => hx))) (by unfold twoB; rw [cif_pos ⟨hno, by omega, by omega⟩]; exact mx172) | exact hnx (by omega) K hre hFr (by unfold twoB; rw [cif_neg (fun q => by have := q.2; omega)]; exact hMX)
                  · refine y_aln (i := 0) dX12_searches_142 at91.ne0 rfl rfl ?_
                    refine y_geti (z := 56) dX12_searches_143 frX12_421 cfX12 at91 rfl rfl ?_
                    refine y_ic dX12_searches_146 ⟨by decide, by decide⟩ ?_
                    refine x_icmp_eq (tgt := 167) dX12_searches_147 rfl (fun h147 => ?_) (fun h147 => ?_)
                    · refine y_aln (i := 0) dX12_searches_167 at91.ne0 rfl rfl ?_
                      refine x_iload_n (i := 2) dX12_searches_168 rfl rfl ?_
                      refine x_iload_n (i := 3) dX12_searches_169 rfl rfl ?_
                      refine x_iload (i := 4) dX12_searches_170 rfl ?_
                      refine x_callVV (c_X12_tradesOf (gl := gl) (h := rowX x s) hW hTK hF hMX hXK hokb.1 ⟨hs, by have := hokb.2.1; omega⟩ hh hre ⟨ha, ha3⟩ ⟨hb, by omega⟩ (by omega)) dX12_searches_172 lkX12_446 mfX12_tradesOf cfX12 at91 rfl rfl rfl rfl (Nat.le_of_ble_eq_true rfl) (fun n172 I172 P172 hf172 => ?_)
                      obtain ⟨rfl, rfl, mx172, fr172⟩ := hf172
                      have hno : ¬ overX u := (q130.resolve_left (fun q => by have := q.1; omega)).2
                      refine x_keep [1, 0, 1, 1, 1] ?_
                      first | exact hnx (by omega) I172 (by rw [fr172.1 120 (by decide) (by decide)]; exact hre) (hFr.tr (fr172.mo (by decide) (fun x hx => hx))) (by unfold twoB; rw [cif_pos ⟨hno, by omega, by omega⟩]; exact mx172) | exact hnx (by omega) K hre hFr (by unfold twoB; rw [cif_neg (fun q => by have := q.2; omega)]; exact hMX)
                    · refine x_iload_n (i := 3) dX12_searches_150 rfl rfl ?_
                      refine y_aln (i := 0) dX12_searches_151 at91.ne0 rfl rfl ?_
                      refine y_geti (z := 56) dX12_searches_152 frX12_421 cfX12 at91 rfl rfl ?_
                      refine x_icmp_eq (tgt := 167) dX12_searches_155 rfl (fun h155 => ?_) (fun h155 => ?_)
                      · refine y_aln (i := 0) dX12_searches_167 at91.ne0 rfl rfl ?_
                        refine x_iload_n (i := 2) dX12_searches_168 rfl rfl ?_
                        refine x_iload_n (i := 3) dX12_searches_169 rfl rfl ?_
                        refine x_iload (i := 4) dX12_searches_170 rfl ?_
                        refine x_callVV (c_X12_tradesOf (gl := gl) (h := rowX x s) hW hTK hF hMX hXK hokb.1 ⟨hs, by have := hokb.2.1; omega⟩ hh hre ⟨ha, ha3⟩ ⟨hb, by omega⟩ (by omega)) dX12_searches_172 lkX12_446 mfX12_tradesOf cfX12 at91 rfl rfl rfl rfl (Nat.le_of_ble_eq_true rfl) (fun n172 I172 P172 hf172 => ?_)
                        obtain ⟨rfl, rfl, mx172, fr172⟩ := hf172
                        have hno : ¬ overX u := (q130.resolve_left (fun q => by have := q.1; omega)).2
                        refine x_keep [1, 0, 1, 1, 1] ?_
                        first | exact hnx (by omega) I172 (by rw [fr172.1 120 (by decide) (by decide)]; exact hre) (hFr.tr (fr172.mo (by decide) (fun x hx => hx))) (by unfold twoB; rw [cif_pos ⟨hno, by omega, by omega⟩]; exact mx172) | exact hnx (by omega) K hre hFr (by unfold twoB; rw [cif_neg (fun q => by have := q.2; omega)]; exact hMX)
                      · refine x_iload (i := 4) dX12_searches_158 rfl ?_
                        refine y_aln (i := 0) dX12_searches_160 at91.ne0 rfl rfl ?_
                        refine y_geti (z := 56) dX12_searches_161 frX12_421 cfX12 at91 rfl rfl ?_
                        refine x_icmp_ne (tgt := 175) dX12_searches_164 rfl (fun h164 => ?_) (fun h164 => ?_)
                        · refine x_keep [1, 0, 1, 1, 1] ?_
                          first | exact hnx (by omega) I172 (by rw [fr172.1 120 (by decide) (by decide)]; exact hre) (hFr.tr (fr172.mo (by decide) (fun x hx => hx))) (by unfold twoB; rw [cif_pos ⟨hno, by omega, by omega⟩]; exact mx172) | exact hnx (by omega) K hre hFr (by unfold twoB; rw [cif_neg (fun q => by have := q.2; omega)]; exact hMX)
                        · refine y_aln (i := 0) dX12_searches_167 at91.ne0 rfl rfl ?_
                          refine x_iload_n (i := 2) dX12_searches_168 rfl rfl ?_
                          refine x_iload_n (i := 3) dX12_searches_169 rfl rfl ?_
                          refine x_iload (i := 4) dX12_searches_170 rfl ?_
                          refine x_callVV (c_X12_tradesOf (gl := gl) (h := rowX x s) hW hTK hF hMX hXK hokb.1 ⟨hs, by have := hokb.2.1; omega⟩ hh hre ⟨ha, ha3⟩ ⟨hb, by omega⟩ (by omega)) dX12_searches_172 lkX12_446 mfX12_tradesOf cfX12 at91 rfl rfl rfl rfl (Nat.le_of_ble_eq_true rfl) (fun n172 I172 P172 hf172 => ?_)
                          obtain ⟨rfl, rfl, mx172, fr172⟩ := hf172
                          have hno : ¬ overX u := (q130.resolve_left (fun q => by have := q.1; omega)).2
                          refine x_keep [1, 0, 1, 1, 1] ?_
                          first | exact hnx (by omega) I172 (by rw [fr172.1 120 (by decide) (by decide)]; exact hre) (hFr.tr (fr172.mo (by decide) (fun x hx => hx))) (by unfold twoB; rw [cif_pos ⟨hno, by omega, by omega⟩]; exact mx172) | exact hnx (by omega) K hre hFr (by unfold twoB; rw [cif_neg (fun q => by have := q.2; omega)]; exact hMX)
          refine x_iload_n (i := 3) dX12_searches_109 rfl rfl ?_
          refine y_aln (i := 0) dX12_searches_110 at91.ne0 rfl rfl ?_
          refine y_geti (z := 1) dX12_searches_111 frX12_316 cfX12 at91 rfl rfl ?_
          refine x_icmp_ge (tgt := 187) dX12_searches_114 rfl (fun h114 => ?_) (fun h114 => ?_)
          · refine y_ic dX12_searches_187 ⟨by decide, by decide⟩ ?_
            refine x_istore_n (i := 3) dX12_searches_188 rfl rfl (Nat.le_of_ble_eq_true rfl) ?_
            refine x_keep [1, 0, 1, 1, 0] ?_
            exact hP h1 h2 _ 0 _ (Nat.lt_succ_self _) (by omega) f1.1 hre hFr (by rw [itN_0]; unfold twosS; rw [show T 0 1 = a by omega]; rw [hy, show T 0 1 = a by omega] at hMX; exact hMX)
          · refine y_ic dX12_searches_117 ⟨by decide, by decide⟩ ?_
            refine x_istore (i := 4) dX12_searches_118 rfl (Nat.le_of_ble_eq_true rfl) ?_
            refine x_keep [1, 0, 1, 1, 1] ?_
            exact hB (by omega) _ 0 _ (Nat.lt_succ_self _) (by omega) f1.1 hre hFr (by rw [itN_0]; exact hMX)
      have hC : s < x.1 → ¬ overX x → ∀ (j : Nat) (k : Int) (K : Mem), (48 - k).toNat < j → 0 ≤ k → k ≤ 48 → (∀ c, 0 ≤ c → c < k → K 120 c = rowX x s c) → Fr skS srF I K → MX T K x → V G mX12_searches (d + 3) 0 0 78 [some (.inr (.inl 91)), none, some (.inl (s)), some (.inl (k)), none] [] NO K P (qV (fun n' I' P' => n' = NO ∧ P' = P ∧ MX T I' (goX T w gl m r) ∧ Fr skS srF I I')) := by
        intro h1 h2 j
        induction j with
        | zero => intro k K hj; omega
        | succ j ihc =>
          intro k K hj hk hk2 hc hFr hMX
          have hm0 := hok.1
          refine x_iload_n (i := 3) dX12_searches_78 rfl rfl ?_
          refine y_bi dX12_searches_79 ⟨by decide, by decide⟩ ?_
          refine x_icmp_ge (tgt := 107) dX12_searches_81 rfl (fun h81 => ?_) (fun h81 => ?_)
          · refine y_ic dX12_searches_107 ⟨by decide, by decide⟩ ?_
            refine x_istore_n (i := 3) dX12_searches_108 rfl rfl (Nat.le_of_ble_eq_true rfl) ?_
            refine x_keep [1, 0, 1, 1, 0] ?_
            exact hA h1 h2 _ 0 _ (Nat.lt_succ_self _) (by omega) f1.1 (fun c c0 c1 => hc c c0 (by omega)) hFr (by rw [itN_0]; exact hMX)
          · refine y_aln (i := 0) dX12_searches_84 at91.ne0 rfl rfl ?_
            refine y_getp (z := 55) (v := 120) dX12_searches_85 frX12_109 cfX12 at91 rfl rfl (wp (v := 120) hW rfl rfl (by decide)) ?_
            refine x_iload_n (i := 3) dX12_searches_88 rfl rfl ?_
            refine y_aln (i := 0) dX12_searches_89 at91.ne0 rfl rfl ?_
            refine y_getp (z := 48) (v := 113) dX12_searches_90 frX12_88 cfX12 at91 rfl rfl (wp (v := 113) hW rfl rfl (by decide)) ?_
            refine y_bi dX12_searches_93 ⟨by decide, by decide⟩ ?_
            refine x_iload_n (i := 2) dX12_searches_95 rfl rfl ?_
            refine x_imul dX12_searches_96 ⟨by omega, by omega⟩ ?_
            refine x_iload_n (i := 3) dX12_searches_97 rfl rfl ?_
            refine x_iadd dX12_searches_98 ⟨by omega, by omega⟩ ?_
            refine x_iald dX12_searches_99 ar113 ⟨by omega, by omega⟩ ?_
            rw [(hMX.2.1 s hs h1).1 k hk (by omega)]
            refine x_iast dX12_searches_100 ar120 ⟨by omega, by omega⟩ ?_
            refine x_iinc dX12_searches_101 rfl ⟨by omega, by omega⟩ rfl (Nat.le_of_ble_eq_true rfl) ?_
            refine x_goto (tgt := 78) dX12_searches_104 rfl ?_
            refine x_keep [1, 0, 1, 1, 0] ?_
            refine ihc (k + 1) _ (by omega) (by omega) (by omega) (fun c c0 c1 => ?_) (hFr.ui (by decide) (by decide)) (hMX.fr (S := [120]) (F := []) (Fr.rf.ui (by decide) (by decide)))
            rw [uI_eq]
            by_cases e : c = k
            · rw [e, u1_eq]
            · rw [u1_ne e]; exact hc c c0 (by omega)
      refine x_iload_n (i := 2) dX12_searches_61 rfl rfl ?_
      refine y_aln (i := 0) dX12_searches_62 at91.ne0 rfl rfl ?_
      refine y_geti (z := 47) dX12_searches_63 frX12_401 cfX12 at91 rfl rfl ?_
      refine x_icmp_ge (tgt := 300) dX12_searches_66 rfl (fun h66 => ?_) (fun h66 => ?_)
      · refine x_vret dX12_searches_300 rfl ?_
        first | exact ⟨rfl, rfl, by rw [fin (Or.inl (by omega))]; exact hMX, hFr⟩ | exact ⟨rfl, rfl, by rw [fin (Or.inr (q70.resolve_right (fun q => by have := q.1; omega)).2)]; exact hMX, hFr⟩
      · refine y_aln (i := 0) dX12_searches_69 at91.ne0 rfl rfl ?_
        refine x_callVI (c_X12_isOver hW hMX) dX12_searches_70 lkX12_433 mfX12_isOver cfX12 at91 rfl rfl rfl rfl (Nat.le_of_ble_eq_true rfl) (fun r70 I70 P70 hr70 hf70 => ?_)
        obtain ⟨i70, p70, q70⟩ := hf70
        rw [i70, p70]
        refine x_if_ne (tgt := 300) dX12_searches_73 rfl (fun h73 => ?_) (fun h73 => ?_)
        · refine x_vret dX12_searches_300 rfl ?_
          first | exact ⟨rfl, rfl, by rw [fin (Or.inl (by omega))]; exact hMX, hFr⟩ | exact ⟨rfl, rfl, by rw [fin (Or.inr (q70.resolve_right (fun q => by have := q.1; omega)).2)]; exact hMX, hFr⟩
        · refine y_ic dX12_searches_76 ⟨by decide, by decide⟩ ?_
          refine x_istore_n (i := 3) dX12_searches_77 rfl rfl (Nat.le_of_ble_eq_true rfl) ?_
          refine x_keep [1, 0, 1, 1, 0] ?_
          exact hC (by omega) (q70.resolve_left (fun q => by have := q.1; omega)).2 _ 0 _ (Nat.lt_succ_self _) (by decide) (by decide) (fun c c0 c1 => by omega) hFr hMX
  have hst : ∀ (K : Mem), Fr skS srF I K → MX T K (iniX w gl r) → V G mX12_searches (d + 3) 0 0 59 [some (.inr (.inl 91)), none, none, none, none] [] NO K P (qV (fun n' I' P' => n' = NO ∧ P' = P ∧ MX T I' (goX T w gl m r) ∧ Fr skS srF I I')) := fun K hFr hMX => by
    refine y_ic dX12_searches_59 ⟨by decide, by decide⟩ ?_
    refine x_istore_n (i := 2) dX12_searches_60 rfl rfl (Nat.le_of_ble_eq_true rfl) ?_
    refine x_keep [1, 0, 1, 0, 0] ?_
    exact hL _ 0 K (Nat.lt_succ_self _) (Int.le_refl 0) (by rw [itN_0]; show (0 : Int) ≤ 1; decide) hFr (by rw [itN_0]; exact hMX)
  refine y_aln (i := 0) dX12_searches_0 at91.ne0 rfl rfl ?_
  refine y_ic dX12_searches_1 ⟨by decide, by decide⟩ ?_
  refine y_puti (z := 47) dX12_searches_2 frX12_401 cfX12 at91 rfl rfl rfl ?_
  refine y_aln (i := 0) dX12_searches_5 at91.ne0 rfl rfl ?_
  refine y_ic dX12_searches_6 ⟨by decide, by decide⟩ ?_
  refine y_puti (z := 59) dX12_searches_7 frX12_427 cfX12 at91 rfl rfl rfl ?_
  refine y_aln (i := 0) dX12_searches_10 at91.ne0 rfl rfl ?_
  refine y_ic dX12_searches_11 ⟨by decide, by decide⟩ ?_
  refine y_putz (z := 60) dX12_searches_12 frX12_414 cfX12 at91 rfl rfl rfl (by omega) ?_
  refine y_aln (i := 0) dX12_searches_15 at91.ne0 rfl rfl ?_
  refine y_aln (i := 1) dX12_searches_16 hA.ne0 rfl rfl ?_
  refine y_aln (i := 1) dX12_searches_17 hA.ne0 rfl rfl ?_
  have hFr0 : Fr skS srF I (uI (uI (uI I 91 47 0) 91 59 (-1)) 91 60 0) := ((Fr.rf.uf (by decide)).uf (by decide)).uf (by decide)
  have hof : uI (uI (uI I 91 47 0) 91 59 (-1)) 91 60 0 of = I of := hFr0.1 of n91 ho
  have hMX0 : MX T (uI (uI (uI I 91 47 0) 91 59 (-1)) 91 60 0) (0, fun _ => r, fun _ => (-1, -1, -1, -1, -1), -1, 0) := ⟨by rw [uI_eq, u1_ne (by decide), uI_eq, u1_ne (by decide), uI_eq, u1_eq], fun s s0 s1 => absurd s1 (by show ¬ s < (0 : Int); omega), by rw [uI_eq, u1_ne (by decide), uI_eq, u1_eq]; rfl, by rw [uI_eq, u1_eq]; rfl⟩
  refine x_callSI (c_X12_mixOf hA) dX12_searches_18 lkX12_404 mfX12_mixOf rfl rfl rfl (Nat.le_of_ble_eq_true rfl) (fun r18 I18 P18 hr18 hf18 => ?_)
  obtain ⟨i18, p18, q18⟩ := hf18
  rw [i18, p18, q18]
  refine y_ic dX12_searches_21 ⟨by decide, by decide⟩ ?_
  refine y_ic dX12_searches_22 ⟨by decide, by decide⟩ ?_
  refine y_ic dX12_searches_23 ⟨by decide, by decide⟩ ?_
  refine y_ic dX12_searches_24 ⟨by decide, by decide⟩ ?_
  refine y_ic dX12_searches_25 ⟨by decide, by decide⟩ ?_
  refine x_callVV (c_X12_lays0 (h := (-1, -1, -1, -1, -1)) (r := r) hW hA hMX0 ⟨by show (0 : Int) ≤ 0; decide, by show (0 : Int) < 1000; decide⟩ (by rw [hof]; exact hre) (by rw [hof]; exact hre.mix) ⟨rfl, rfl, rfl, (if_pos rfl).symm, rfl⟩ osr) dX12_searches_26 lkX12_417 mfX12_lays0 cfX12 at91 rfl rfl rfl rfl (Nat.le_of_ble_eq_true rfl) (fun n26 I26 P26 hf26 => ?_)
  obtain ⟨rfl, rfl, fr26, mx26⟩ := hf26
  have hFr26 : Fr skS srF I I26 := hFr0.tr (fr26.mo (by decide) (by decide))
  have hX26 := hX.fr hFr26
  have y1 : I26 91 56 = w := hX26.1
  have y2 : I26 91 57 = I 91 57 := hFr26.2 57 (by decide)
  have y3 : I26 of = I of := hFr26.1 of n91 ho
  have x4 := hX.2.2.2
  have e26 : ∀ v : Int, (v = if w ≠ -1 ∧ 0 < r gl then 0 else -1) → MX T (uI I26 91 59 v) (iniX w gl r) := fun v hv => ⟨by rw [uI_eq, u1_ne (by decide)]; exact mx26.1, fun s s0 s1 => by
    have := mx26.2.1 s s0 s1
    rw [uI_ne (by decide), uI_ne (by decide), uI_ne (by decide), uI_ne (by decide), uI_ne (by decide), uI_ne (by decide), uI_ne (by decide)]
    have e1 : ∀ (a : Rw), (if s = (0 : Int) then a else a) = a := fun a => ite_self _
    have e2 : ∀ (a : Int × Int × Int × Int × Int), (if s = (0 : Int) then a else a) = a := fun a => ite_self _
    simp only [rowX, howX, e1, e2] at this
    exact this, by rw [uI_eq, u1_eq]; exact hv, by rw [uI_eq, u1_ne (by decide)]; exact mx26.2.2.2⟩
  have e26' : ¬ (w ≠ -1 ∧ 0 < r gl) → MX T I26 (iniX w gl r) := fun q => by
    have e9 : uI I26 91 59 (-1) = I26 := by
      funext b
      by_cases e : b = 91
      · subst e
        rw [uI_eq]
        funext k
        unfold u1
        split
        · next h => rw [h]; exact mx26.2.2.1.symm
        · rfl
      · rw [uI_ne e]
    have := e26 (-1) (by rw [if_neg q])
    rw [e9] at this
    exact this
  refine y_aln (i := 0) dX12_searches_29 at91.ne0 rfl rfl ?_
  refine y_geti (z := 56) dX12_searches_30 frX12_421 cfX12 at91 rfl rfl ?_
  refine y_ic dX12_searches_33 ⟨by decide, by decide⟩ ?_
  refine x_icmp_eq (tgt := 59) dX12_searches_34 rfl (fun h34 => ?_) (fun h34 => ?_)
  · refine x_keep [1, 0, 0, 0, 0] ?_
    first | exact hst _ (hFr26.uf (by decide)) (e26 0 (by rw [if_pos ⟨by omega, by rw [show gl = 8 * w + I 91 57 by omega]; omega⟩])) | exact hst I26 hFr26 (e26' (fun q => by omega)) | exact hst I26 hFr26 (e26' (fun q => by rw [show gl = 8 * w + I 91 57 by omega] at q; omega))
  · refine y_aln (i := 1) dX12_searches_37 hA.ne0 rfl rfl ?_
    refine y_bi dX12_searches_38 ⟨by decide, by decide⟩ ?_
    refine y_aln (i := 0) dX12_searches_40 at91.ne0 rfl rfl ?_
    refine y_geti (z := 56) dX12_searches_41 frX12_421 cfX12 at91 rfl rfl ?_
    rw [y1]
    refine x_imul dX12_searches_44 ⟨by omega, by omega⟩ ?_
    refine y_aln (i := 0) dX12_searches_45 at91.ne0 rfl rfl ?_
    refine y_geti (z := 57) dX12_searches_46 frX12_424 cfX12 at91 rfl rfl ?_
    rw [y2]
    refine x_iadd dX12_searches_49 ⟨by omega, by omega⟩ ?_
    refine x_iald dX12_searches_50 hA ⟨by omega, by omega⟩ ?_
    rw [y3, hre _ (by omega) (by omega)]
    refine x_if_le (tgt := 59) dX12_searches_51 rfl (fun h51 => ?_) (fun h51 => ?_)
    · refine x_keep [1, 0, 0, 0, 0] ?_
      first | exact hst _ (hFr26.uf (by decide)) (e26 0 (by rw [if_pos ⟨by omega, by rw [show gl = 8 * w + I 91 57 by omega]; omega⟩])) | exact hst I26 hFr26 (e26' (fun q => by omega)) | exact hst I26 hFr26 (e26' (fun q => by rw [show gl = 8 * w + I 91 57 by omega] at q; omega))
    · refine y_aln (i := 0) dX12_searches_54 at91.ne0 rfl rfl ?_
      refine y_ic dX12_searches_55 ⟨by decide, by decide⟩ ?_
      refine y_puti (z := 59) dX12_searches_56 frX12_427 cfX12 at91 rfl rfl rfl ?_
      refine x_keep [1, 0, 0, 0, 0] ?_
      first | exact hst _ (hFr26.uf (by decide)) (e26 0 (by rw [if_pos ⟨by omega, by rw [show gl = 8 * w + I 91 57 by omega]; omega⟩])) | exact hst I26 hFr26 (e26' (fun q => by omega)) | exact hst I26 hFr26 (e26' (fun q => by rw [show gl = 8 * w + I 91 57 by omega] at q; omega))
theorem c_X12_keeps {t m : Int} {x : Sx} (hW : WP P) (hS : MX T I x) (hx : XOK T m x) (hm : m ≤ 1000) (ht : 0 ≤ t ∧ t < x.1) : Cv G mX12_keeps d 0 0 [.inr (.inl 91), .inl t] NO I P (qV (fun n' I' P' => n' = NO ∧ P' = P ∧ Fr [121, 122, 123, 124] [61] I I' ∧ ∃ n, dpX x t n ∧ n < 1000 ∧ WayM T I' x t n)) := by
  have hn := hx.1
  refine x_enter mfX12_keeps rfl (Nat.le_of_ble_eq_true rfl) (fun _ => ?_)
  have h2 : ∀ n0 : Int, dpX x t n0 → n0 < 1000 → ∀ (j : Nat) (n : Int) (K : Mem), n.toNat < j → 0 ≤ n → n ≤ n0 → K 91 61 = n0 → (∀ i, n ≤ i → i < n0 → K 121 i = (howX x (upX x (n0 - 1 - i) t)).2.1 ∧ K 122 i = (howX x (upX x (n0 - 1 - i) t)).2.2.1 ∧ K 123 i = numX T (howX x (upX x (n0 - 1 - i) t)) ∧ K 124 i = (howX x (upX x (n0 - 1 - i) t)).2.2.2.2) → Fr [121, 122, 123, 124] [61] I K → V G mX12_keeps d 0 0 34 [some (.inr (.inl 91)), none, some (.inl (n)), some (.inl (upX x (n0 - n) t))] [] NO K P (qV (fun n' I' P' => n' = NO ∧ P' = P ∧ Fr [121, 122, 123, 124] [61] I I' ∧ ∃ n, dpX x t n ∧ n < 1000 ∧ WayM T I' x t n)) := by
    intro n0 hd h9 j
    induction j with
    | zero => intro n K hj; omega
    | succ j ih =>
      intro n K hj hn0 hn1 h61 hway hFr
      have hup := upX_bd hx ht (n := n0 - n) (by omega) (fun k k0 k1 => hd.2.2 k k0 (by omega))
      have hMXK : MX T K x := hS.fr hFr
      have hs := (hMXK.2.1 (upX x (n0 - n) t) hup.1.1 hup.1.2)
      have e1 : 0 < n → (howX x (upX x (n0 - n) t)).1 ≠ -1 := fun q => hd.2.2 _ (by omega) (by omega)
      have e2 : n = 0 → (howX x (upX x (n0 - n) t)).1 = -1 := fun q => by rw [q, Int.sub_zero]; exact hd.2.1
      have e3 : upX x (n0 - (n - 1)) t = (howX x (upX x (n0 - n) t)).1 := by rw [show n0 - (n - 1) = n0 - n + 1 by omega]; exact upX_s (by omega)
      obtain ⟨v, hv⟩ : ∃ v, v = upX x (n0 - n) t := ⟨_, rfl⟩
      rw [← hv] at hup hs e1 e2 e3 ⊢
      have a115 := hs.2.2.1
      refine y_aln (i := 0) dX12_keeps_34 at91.ne0 rfl rfl ?_
      refine y_getp (z := 50) (v := 115) dX12_keeps_35 frX12_94 cfX12 at91 rfl rfl (wp (v := 115) hW rfl rfl (by decide)) ?_
      refine x_iload_n (i := 3) dX12_keeps_38 rfl rfl ?_
      refine x_iald dX12_keeps_39 ar115 ⟨by omega, by omega⟩ ?_
      refine y_ic dX12_keeps_40 ⟨by decide, by decide⟩ ?_
      refine x_icmp_eq (tgt := 105) dX12_keeps_41 rfl (fun h41 => ?_) (fun h41 => ?_)
      · refine x_vret dX12_keeps_105 rfl ?_
        exact ⟨rfl, rfl, hFr, n0, hd, h9, h61, fun i i0 i1 => hway i (by omega) i1⟩
      · refine x_iinc dX12_keeps_44 rfl ⟨by omega, by omega⟩ rfl (Nat.le_of_ble_eq_true rfl) ?_
        refine y_aln (i := 0) dX12_keeps_47 at91.ne0 rfl rfl ?_
        refine y_getp (z := 62) (v := 121) dX12_keeps_48 frX12_112 cfX12 at91 rfl rfl (wp (v := 121) hW rfl rfl (by decide)) ?_
        refine x_iload_n (i := 2) dX12_keeps_51 rfl rfl ?_
        refine y_aln (i := 0) dX12_keeps_52 at91.ne0 rfl rfl ?_
        refine y_getp (z := 51) (v := 116) dX12_keeps_53 frX12_97 cfX12 at91 rfl rfl (wp (v := 116) hW rfl rfl (by decide)) ?_
        refine x_iload_n (i := 3) dX12_keeps_56 rfl rfl ?_
        refine x_iald dX12_keeps_57 ar116 ⟨by omega, by omega⟩ ?_
        rw [hs.2.2.2.1]
        refine x_iast dX12_keeps_58 ar121 ⟨by omega, by omega⟩ ?_
        refine y_aln (i := 0) dX12_keeps_59 at91.ne0 rfl rfl ?_
        refine y_getp (z := 63) (v := 122) dX12_keeps_60 frX12_115 cfX12 at91 rfl rfl (wp (v := 122) hW rfl rfl (by decide)) ?_
        refine x_iload_n (i := 2) dX12_keeps_63 rfl rfl ?_
        refine y_aln (i := 0) dX12_keeps_64 at91.ne0 rfl rfl ?_
        refine y_getp (z := 52) (v := 117) dX12_keeps_65 frX12_100 cfX12 at91 rfl rfl (wp (v := 117) hW rfl rfl (by decide)) ?_
        refine x_iload_n (i := 3) dX12_keeps_68 rfl rfl ?_
        refine x_iald dX12_keeps_69 ar117 ⟨by omega, by omega⟩ ?_
        rw [uI_ne (by decide), hs.2.2.2.2.1]
        refine x_iast dX12_keeps_70 ar122 ⟨by omega, by omega⟩ ?_
        refine y_aln (i := 0) dX12_keeps_71 at91.ne0 rfl rfl ?_
        refine y_getp (z := 64) (v := 123) dX12_keeps_72 frX12_118 cfX12 at91 rfl rfl (wp (v := 123) hW rfl rfl (by decide)) ?_
        refine x_iload_n (i := 2) dX12_keeps_75 rfl rfl ?_
        refine y_aln (i := 0) dX12_keeps_76 at91.ne0 rfl rfl ?_
        refine y_getp (z := 53) (v := 118) dX12_keeps_77 frX12_103 cfX12 at91 rfl rfl (wp (v := 118) hW rfl rfl (by decide)) ?_
        refine x_iload_n (i := 3) dX12_keeps_80 rfl rfl ?_
        refine x_iald dX12_keeps_81 ar118 ⟨by omega, by omega⟩ ?_
        rw [uI_ne (by decide), uI_ne (by decide), hs.2.2.2.2.2.1]
        refine x_iast dX12_keeps_82 ar123 ⟨by omega, by omega⟩ ?_
        refine y_aln (i := 0) dX12_keeps_83 at91.ne0 rfl rfl ?_
        refine y_getp (z := 65) (v := 124) dX12_keeps_84 frX12_121 cfX12 at91 rfl rfl (wp (v := 124) hW rfl rfl (by decide)) ?_
        refine x_iload_n (i := 2) dX12_keeps_87 rfl rfl ?_
        refine y_aln (i := 0) dX12_keeps_88 at91.ne0 rfl rfl ?_
        refine y_getp (z := 54) (v := 119) dX12_keeps_89 frX12_106 cfX12 at91 rfl rfl (wp (v := 119) hW rfl rfl (by decide)) ?_
        refine x_iload_n (i := 3) dX12_keeps_92 rfl rfl ?_
        refine x_iald dX12_keeps_93 ar119 ⟨by omega, by omega⟩ ?_
        rw [uI_ne (by decide), uI_ne (by decide), uI_ne (by decide), hs.2.2.2.2.2.2]
        refine x_iast dX12_keeps_94 ar124 ⟨by omega, by omega⟩ ?_
        refine y_aln (i := 0) dX12_keeps_95 at91.ne0 rfl rfl ?_
        refine y_getp (z := 50) (v := 115) dX12_keeps_96 frX12_94 cfX12 at91 rfl rfl (wp (v := 115) hW rfl rfl (by decide)) ?_
        refine x_iload_n (i := 3) dX12_keeps_99 rfl rfl ?_
        refine x_iald dX12_keeps_100 ar115 ⟨by omega, by omega⟩ ?_
        rw [uI_ne (by decide), uI_ne (by decide), uI_ne (by decide), uI_ne (by decide), a115]
        refine x_istore_n (i := 3) dX12_keeps_101 rfl rfl (Nat.le_of_ble_eq_true rfl) ?_
        refine x_goto (tgt := 34) dX12_keeps_102 rfl ?_
        refine x_keep [1, 0, 1, 1] ?_
        obtain ⟨J, hJ⟩ : ∃ J, J = uI (uI (uI (uI K 121 (n - 1) (howX x v).2.1) 122 (n - 1) (howX x v).2.2.1) 123 (n - 1) (numX T (howX x v))) 124 (n - 1) (howX x v).2.2.2.2 := ⟨_, rfl⟩
        have j121 : J 121 = u1 (K 121) (n - 1) (howX x v).2.1 := by rw [hJ, uI_ne (by decide), uI_ne (by decide), uI_ne (by decide), uI_eq]
        have j122 : J 122 = u1 (K 122) (n - 1) (howX x v).2.2.1 := by rw [hJ, uI_ne (by decide), uI_ne (by decide), uI_eq, uI_ne (by decide)]
        have j123 : J 123 = u1 (K 123) (n - 1) (numX T (howX x v)) := by rw [hJ, uI_ne (by decide), uI_eq, uI_ne (by decide), uI_ne (by decide)]
        have j124 : J 124 = u1 (K 124) (n - 1) (howX x v).2.2.2.2 := by rw [hJ, uI_eq, uI_ne (by decide), uI_ne (by decide), uI_ne (by decide)]
        have hFJ : Fr [121, 122, 123, 124] [61] I J := by rw [hJ]; exact (((hFr.ui (by decide) (by decide)).ui (by decide) (by decide)).ui (by decide) (by decide)).ui (by decide) (by decide)
        have j61 : J 91 61 = n0 := by rw [hJ, uI_ne (by decide), uI_ne (by decide), uI_ne (by decide), uI_ne (by decide)]; exact h61
        have := ih (n - 1) J (by omega) (by omega) (by omega) j61 (fun i i0 i1 => by
          rw [j121, j122, j123, j124]
          by_cases e : i = n - 1
          · rw [e, u1_eq, u1_eq, u1_eq, u1_eq, show n0 - 1 - (n - 1) = n0 - n by omega, ← hv]
            exact ⟨rfl, rfl, rfl, rfl⟩
          · rw [u1_ne e, u1_ne e, u1_ne e, u1_ne e]
            exact hway i (by omega) i1) hFJ
        rw [e3] at this
        rw [hJ] at this
        exact this
  have h1 : ∀ (j : Nat) (n : Int), (1000 - n).toNat < j → 0 ≤ n → (∀ k, 0 ≤ k → k < n → (howX x (upX x k t)).1 ≠ -1) → V G mX12_keeps d 0 0 4 [some (.inr (.inl 91)), some (.inl (t)), some (.inl (n)), some (.inl (upX x n t))] [] NO I P (qV (fun n' I' P' => n' = NO ∧ P' = P ∧ Fr [121, 122, 123, 124] [61] I I' ∧ ∃ n, dpX x t n ∧ n < 1000 ∧ WayM T I' x t n)) := by
    intro j
    induction j with
    | zero => intro n hj; omega
    | succ j ih =>
      intro n hj hn0 hno
      have hup := upX_bd hx ht hn0 hno
      have a115 := (hS.2.1 _ hup.1.1 hup.1.2).2.2.1
      have e3 : upX x (n + 1) t = (howX x (upX x n t)).1 := upX_s hn0
      have hstep : (howX x (upX x n t)).1 ≠ -1 → ∀ k, 0 ≤ k → k < n + 1 → (howX x (upX x k t)).1 ≠ -1 := fun q k k0 k1 => by
        by_cases e : k = n
        · rw [e]; exact q
        · exact hno k k0 (by omega)
      have hdp : (howX x (upX x n t)).1 = -1 → dpX x t n := fun q => ⟨hn0, q, hno⟩
      obtain ⟨v, hv⟩ : ∃ v, v = upX x n t := ⟨_, rfl⟩
      rw [← hv] at hup a115 e3 hstep hdp ⊢
      refine y_aln (i := 0) dX12_keeps_4 at91.ne0 rfl rfl ?_
      refine y_getp (z := 50) (v := 115) dX12_keeps_5 frX12_94 cfX12 at91 rfl rfl (wp (v := 115) hW rfl rfl (by decide)) ?_
      refine x_iload_n (i := 3) dX12_keeps_8 rfl rfl ?_
      refine x_iald dX12_keeps_9 ar115 ⟨by omega, by omega⟩ ?_
      refine y_ic dX12_keeps_10 ⟨by decide, by decide⟩ ?_
      refine x_icmp_eq (tgt := 27) dX12_keeps_11 rfl (fun h11 => ?_) (fun h11 => ?_)
      · refine y_aln (i := 0) dX12_keeps_27 at91.ne0 rfl rfl ?_
        refine x_iload_n (i := 2) dX12_keeps_28 rfl rfl ?_
        refine y_puti (z := 61) dX12_keeps_29 frX12_332 cfX12 at91 rfl rfl rfl ?_
        refine x_iload_n (i := 1) dX12_keeps_32 rfl rfl ?_
        refine x_istore_n (i := 3) dX12_keeps_33 rfl rfl (Nat.le_of_ble_eq_true rfl) ?_
        refine x_keep [1, 0, 1, 1] ?_
        have := h2 n (hdp (by omega)) (by omega) _ n (uI I 91 61 n) (Nat.lt_succ_self _) hn0 (Int.le_refl _) (by rw [uI_eq, u1_eq]) (fun i i0 i1 => by omega) (Fr.rf.uf (by decide))
        rw [Int.sub_self, upX_0] at this
        exact this
      · refine x_iinc dX12_keeps_14 rfl ⟨by omega, by omega⟩ rfl (Nat.le_of_ble_eq_true rfl) ?_
        refine y_aln (i := 0) dX12_keeps_17 at91.ne0 rfl rfl ?_
        refine y_getp (z := 50) (v := 115) dX12_keeps_18 frX12_94 cfX12 at91 rfl rfl (wp (v := 115) hW rfl rfl (by decide)) ?_
        refine x_iload_n (i := 3) dX12_keeps_21 rfl rfl ?_
        refine x_iald dX12_keeps_22 ar115 ⟨by omega, by omega⟩ ?_
        rw [a115]
        refine x_istore_n (i := 3) dX12_keeps_23 rfl rfl (Nat.le_of_ble_eq_true rfl) ?_
        refine x_goto (tgt := 4) dX12_keeps_24 rfl ?_
        refine x_keep [1, 1, 1, 1] ?_
        have := ih (n + 1) (by omega) (by omega) (hstep (by omega))
        rw [e3] at this
        exact this
  refine y_ic dX12_keeps_0 ⟨by decide, by decide⟩ ?_
  refine x_istore_n (i := 2) dX12_keeps_1 rfl rfl (Nat.le_of_ble_eq_true rfl) ?_
  refine x_iload_n (i := 1) dX12_keeps_2 rfl rfl ?_
  refine x_istore_n (i := 3) dX12_keeps_3 rfl rfl (Nat.le_of_ble_eq_true rfl) ?_
  refine x_keep [1, 1, 1, 1] ?_
  exact h1 _ 0 (Nat.lt_succ_self _) (by decide) (fun k k0 k1 => by omega)
abbrev cmF : List Int := [0, 47, 56, 57, 58, 59, 60]
abbrev wyS : List Nat := [111, 112, 120, 113, 114, 115, 116, 117, 118, 119, 121, 122, 123, 124]
theorem c_X12_come {p s : Int} (hW : WP P) (hT : MT I T) (hF : WF T) (hr : RW T (I 98)) : Cv G mX12_come (d + 4) 0 0 [.inr (.inl 91), .inl p, .inl s] NO I P (qI NO (fun r I' P' => P' = P ∧ ((¬ okPS T p s ∧ r = 0 ∧ I' = uI (uI I 91 0 0) 91 0 1) ∨ (okPS T p s ∧ I' 91 0 = 0 ∧ ((r < 0 ∧ r = (if spX (goX T p (8 * p + s) 1000 (I 98)) ≠ 0 then -2 else ansX (goX T p (8 * p + s) 1000 (I 98))) ∧ Fr skS cmF I I') ∨ (0 ≤ r ∧ spX (goX T p (8 * p + s) 1000 (I 98)) = 0 ∧ ansX (goX T p (8 * p + s) 1000 (I 98)) ≠ -1 ∧ dpX (goX T p (8 * p + s) 1000 (I 98)) (ansX (goX T p (8 * p + s) 1000 (I 98))) r ∧ r < 1000 ∧ WayM T I' (goX T p (8 * p + s) 1000 (I 98)) (ansX (goX T p (8 * p + s) 1000 (I 98))) r ∧ Fr wyS (61 :: cmF) I I')))))) := by
  have hT0 : MT (uI I 91 0 0) T := hT.uf (by decide)
  have f1 := hF.1
  have f2 := hF.2.1
  refine x_enter mfX12_come rfl (Nat.le_of_ble_eq_true rfl) (fun _ => ?_)
  have hN : ∀ K : Mem, K = uI (uI I 91 0 0) 91 0 1 → ¬ okPS T p s → V G mX12_come (d + 4) 0 0 21 [none, none, none] [] NO K P (qI NO (fun r I' P' => P' = P ∧ ((¬ okPS T p s ∧ r = 0 ∧ I' = uI (uI I 91 0 0) 91 0 1) ∨ (okPS T p s ∧ I' 91 0 = 0 ∧ ((r < 0 ∧ r = (if spX (goX T p (8 * p + s) 1000 (I 98)) ≠ 0 then -2 else ansX (goX T p (8 * p + s) 1000 (I 98))) ∧ Fr skS cmF I I') ∨ (0 ≤ r ∧ spX (goX T p (8 * p + s) 1000 (I 98)) = 0 ∧ ansX (goX T p (8 * p + s) 1000 (I 98)) ≠ -1 ∧ dpX (goX T p (8 * p + s) 1000 (I 98)) (ansX (goX T p (8 * p + s) 1000 (I 98))) r ∧ r < 1000 ∧ WayM T I' (goX T p (8 * p + s) 1000 (I 98)) (ansX (goX T p (8 * p + s) 1000 (I 98))) r ∧ Fr wyS (61 :: cmF) I I')))))) := fun K hK hno => by
    refine y_ic dX12_come_21 ⟨by decide, by decide⟩ ?_
    refine x_iret dX12_come_22 rfl ?_
    exact ⟨rfl, Or.inl ⟨hno, rfl, hK⟩⟩
  refine y_aln (i := 0) dX12_come_0 at91.ne0 rfl rfl ?_
  refine y_ic dX12_come_1 ⟨by decide, by decide⟩ ?_
  refine y_puti (z := 0) dX12_come_2 frX12_184 cfX12 at91 rfl rfl rfl ?_
  refine y_aln (i := 0) dX12_come_5 at91.ne0 rfl rfl ?_
  refine x_iload_n (i := 1) dX12_come_6 rfl rfl ?_
  refine x_callVI (c_X12_isPerson hW hT0 z_0) dX12_come_7 lkX12_362 mfX12_isPerson cfX12 at91 rfl rfl rfl rfl (Nat.le_of_ble_eq_true rfl) (fun r7 I7 P7 hr7 hf7 => ?_)
  obtain ⟨rfl, hr7⟩ := hf7
  refine x_if_eq (tgt := 21) dX12_come_10 rfl (fun h10 => ?_) (fun h10 => ?_)
  · obtain ⟨-, no, hI7⟩ := hr7.resolve_left (fun q => by have := q.1; omega)
    refine x_keep [0, 0, 0] ?_
    first | exact hN _ hI7 (fun q => no q.1) | exact hN _ hI15 (fun q => no q.2)
  · obtain ⟨-, op, hI7⟩ := hr7.resolve_right (fun q => by have := q.1; omega)
    rw [hI7]
    refine y_aln (i := 0) dX12_come_13 at91.ne0 rfl rfl ?_
    refine x_iload_n (i := 2) dX12_come_14 rfl rfl ?_
    refine x_callVI (c_X12_isSort hW hT0 z_0) dX12_come_15 lkX12_365 mfX12_isSort cfX12 at91 rfl rfl rfl rfl (Nat.le_of_ble_eq_true rfl) (fun r15 I15 P15 hr15 hf15 => ?_)
    obtain ⟨rfl, hr15⟩ := hf15
    refine x_if_ne (tgt := 23) dX12_come_18 rfl (fun h18 => ?_) (fun h18 => ?_)
    · obtain ⟨-, os, hI15⟩ := hr15.resolve_right (fun q => by have := q.1; omega)
      rw [hI15]
      refine y_aln (i := 0) dX12_come_23 at91.ne0 rfl rfl ?_
      refine x_iload_n (i := 1) dX12_come_24 rfl rfl ?_
      refine y_puti (z := 56) dX12_come_25 frX12_421 cfX12 at91 rfl rfl rfl ?_
      refine y_aln (i := 0) dX12_come_28 at91.ne0 rfl rfl ?_
      refine x_iload_n (i := 2) dX12_come_29 rfl rfl ?_
      refine y_puti (z := 57) dX12_come_30 frX12_424 cfX12 at91 rfl rfl rfl ?_
      refine y_aln (i := 0) dX12_come_33 at91.ne0 rfl rfl ?_
      refine y_si dX12_come_34 ⟨by decide, by decide⟩ ?_
      refine y_puti (z := 58) dX12_come_37 frX12_411 cfX12 at91 rfl rfl rfl ?_
      refine y_aln (i := 0) dX12_come_40 at91.ne0 rfl rfl ?_
      refine y_aln (i := 0) dX12_come_41 at91.ne0 rfl rfl ?_
      refine y_getp (z := 14) (v := 98) dX12_come_42 frX12_38 cfX12 at91 rfl rfl (wp (v := 98) hW rfl rfl (by decide)) ?_
      have hFr0 : Fr skS cmF I (uI (uI (uI (uI I 91 0 0) 91 56 p) 91 57 s) 91 58 1000) := (((Fr.rf.uf (by decide)).uf (by decide)).uf (by decide)).uf (by decide)
      have hX0 : WX (uI (uI (uI (uI I 91 0 0) 91 56 p) 91 57 s) 91 58 1000) p (8 * p + s) 1000 := ⟨by rw [uI_eq, u1_ne (by decide), uI_eq, u1_ne (by decide), uI_eq, u1_eq], by rw [uI_eq, u1_eq], ⟨by decide, by decide⟩, Or.inr ⟨op.1, by omega, by rw [uI_eq, u1_ne (by decide), uI_eq, u1_eq]; exact os.1, by rw [uI_eq, u1_ne (by decide), uI_eq, u1_eq]; omega, by rw [uI_eq, u1_ne (by decide), uI_eq, u1_eq]⟩⟩
      have h98 : uI (uI (uI (uI I 91 0 0) 91 56 p) 91 57 s) 91 58 1000 98 = I 98 := hFr0.1 98 (by decide) (by decide)
      refine x_callVV (c_X12_searches hW (hT.fr hFr0) hF hX0 ar98 (by rw [h98]; exact RE.rf) hr (by decide)) dX12_come_45 lkX12_450 mfX12_searches cfX12 at91 rfl rfl rfl rfl (Nat.le_of_ble_eq_true rfl) (fun n45 I45 P45 hf45 => ?_)
      obtain ⟨rfl, rfl, mx45, fr45⟩ := hf45
      have hxo : XOK T 1000 (goX T p (8 * p + s) 1000 (I 98)) := goN_ok hF hr (by decide)
      have hFr1 : Fr skS cmF I I45 := hFr0.tr (fr45.mo (by decide) (by decide))
      have z1 : I45 91 0 = 0 := by rw [fr45.2 0 (by decide), uI_eq, u1_ne (by decide), uI_eq, u1_ne (by decide), uI_eq, u1_ne (by decide), uI_eq, u1_eq]
      have a1 : I45 91 59 = ansX (goX T p (8 * p + s) 1000 (I 98)) := mx45.2.2.1
      have a2 : I45 91 60 = spX (goX T p (8 * p + s) 1000 (I 98)) := mx45.2.2.2
      refine y_aln (i := 0) dX12_come_48 at91.ne0 rfl rfl ?_
      refine y_geti (z := 60) dX12_come_49 frX12_414 cfX12 at91 rfl rfl ?_
      refine x_if_eq (tgt := 58) dX12_come_52 rfl (fun h52 => ?_) (fun h52 => ?_)
      · refine y_aln (i := 0) dX12_come_58 at91.ne0 rfl rfl ?_
        refine y_geti (z := 59) dX12_come_59 frX12_427 cfX12 at91 rfl rfl ?_
        refine y_ic dX12_come_62 ⟨by decide, by decide⟩ ?_
        refine x_icmp_ne (tgt := 68) dX12_come_63 rfl (fun h63 => ?_) (fun h63 => ?_)
        · refine y_aln (i := 0) dX12_come_68 at91.ne0 rfl rfl ?_
          refine y_aln (i := 0) dX12_come_69 at91.ne0 rfl rfl ?_
          refine y_geti (z := 59) dX12_come_70 frX12_427 cfX12 at91 rfl rfl ?_
          rw [a1]
          refine x_callVV (c_X12_keeps hW mx45 hxo (by decide) (by have := hxo.2.2.2.2.1; omega)) dX12_come_73 lkX12_454 mfX12_keeps cfX12 at91 rfl rfl rfl rfl (Nat.le_of_ble_eq_true rfl) (fun n73 I73 P73 hf73 => ?_)
          obtain ⟨rfl, rfl, fr73, n, dp, n9, way⟩ := hf73
          refine y_aln (i := 0) dX12_come_76 at91.ne0 rfl rfl ?_
          refine y_geti (z := 61) dX12_come_77 frX12_332 cfX12 at91 rfl rfl ?_
          rw [way.1]
          refine x_iret dX12_come_80 rfl ?_
          exact ⟨rfl, Or.inr ⟨⟨op, os⟩, (fr73.2 0 (by decide)).trans z1, Or.inr ⟨dp.1, by omega, by omega, dp, n9, way, (hFr1.mo (by decide) (by decide)).tr (fr73.mo (by decide) (by decide))⟩⟩⟩
        · refine y_ic dX12_come_66 ⟨by decide, by decide⟩ ?_
          refine x_iret dX12_come_67 rfl ?_
          exact ⟨rfl, Or.inr ⟨⟨op, os⟩, z1, Or.inl ⟨by omega, by rw [if_neg (by omega)]; omega, hFr1⟩⟩⟩
      · refine y_bi dX12_come_55 ⟨by decide, by decide⟩ ?_
        refine x_iret dX12_come_57 rfl ?_
        exact ⟨rfl, Or.inr ⟨⟨op, os⟩, z1, Or.inl ⟨by omega, by rw [if_pos (by omega)], hFr1⟩⟩⟩
    · obtain ⟨-, no, hI15⟩ := hr15.resolve_left (fun q => by have := q.1; omega)
      refine x_keep [0, 0, 0] ?_
      first | exact hN _ hI7 (fun q => no q.1) | exact hN _ hI15 (fun q => no q.2)
theorem c_X12_most (hW : WP P) (hT : MT I T) (hF : WF T) (hr : RW T (I 98)) : Cv G mX12_most (d + 4) 0 0 [.inr (.inl 91)] NO I P (qI NO (fun r I' P' => P' = P ∧ I' 91 0 = 0 ∧ ((spX (goX T (-1) 0 400 (I 98)) ≠ 0 ∧ r = -2 ∧ Fr skS cmF I I') ∨ (spX (goX T (-1) 0 400 (I 98)) = 0 ∧ r = (mostN T (goX T (-1) 0 400 (I 98)) (goX T (-1) 0 400 (I 98)).1).2 ∧ (∃ n, dpX (goX T (-1) 0 400 (I 98)) (mostN T (goX T (-1) 0 400 (I 98)) (goX T (-1) 0 400 (I 98)).1).1 n ∧ n < 1000 ∧ WayM T I' (goX T (-1) 0 400 (I 98)) (mostN T (goX T (-1) 0 400 (I 98)) (goX T (-1) 0 400 (I 98)).1).1 n) ∧ Fr wyS (61 :: cmF) I I')))) := by
  have hxo : XOK T 400 (goX T (-1) 0 400 (I 98)) := goN_ok hF hr (by decide)
  obtain ⟨x, hx⟩ : ∃ x, x = goX T (-1) 0 400 (I 98) := ⟨_, rfl⟩
  refine x_enter mfX12_most rfl (Nat.le_of_ble_eq_true rfl) (fun _ => ?_)
  rw [← hx] at hxo
  have hL : ∀ (j : Nat) (s : Int) (K : Mem), (x.1 - s).toNat < j → spX x = 0 → 0 ≤ s → s ≤ x.1 → K 91 0 = 0 → MX T K x → Fr skS cmF I K → V G mX12_most (d + 4) 0 0 41 [some (.inr (.inl 91)), some (.inl ((mostN T x s).1)), some (.inl ((mostN T x s).2)), some (.inl (s)), none] [] NO K P (qI NO (fun r I' P' => P' = P ∧ I' 91 0 = 0 ∧ ((spX (goX T (-1) 0 400 (I 98)) ≠ 0 ∧ r = -2 ∧ Fr skS cmF I I') ∨ (spX (goX T (-1) 0 400 (I 98)) = 0 ∧ r = (mostN T (goX T (-1) 0 400 (I 98)) (goX T (-1) 0 400 (I 98)).1).2 ∧ (∃ n, dpX (goX T (-1) 0 400 (I 98)) (mostN T (goX T (-1) 0 400 (I 98)) (goX T (-1) 0 400 (I 98)).1).1 n ∧ n < 1000 ∧ WayM T I' (goX T (-1) 0 400 (I 98)) (mostN T (goX T (-1) 0 400 (I 98)) (goX T (-1) 0 400 (I 98)).1).1 n) ∧ Fr wyS (61 :: cmF) I I')))) := by
    intro j
    induction j with
    | zero => intro s K hj; omega
    | succ j ih =>
      intro s K hj hsp hs hs2 z0 hMX hFr
      have hbd := mostN_ok hF hxo ⟨hs, hs2⟩
      have es := mostN_s (T := T) (x := x) hs
      have hfin := mostN_ok hF hxo (n := x.1) ⟨by omega, Int.le_refl _⟩
      have hm0 := hxo.1
      obtain ⟨b, hb⟩ : ∃ b, b = mostN T x s := ⟨_, rfl⟩
      rw [← hb] at hbd es ⊢
      have e47 : K 91 47 = x.1 := hMX.1
      have hC : s < x.1 → ∀ (j : Nat) (k : Int) (K : Mem), (48 - k).toNat < j → 0 ≤ k → k ≤ 48 → (∀ c, 0 ≤ c → c < k → K 120 c = rowX x s c) → K 91 0 = 0 → MX T K x → Fr skS cmF I K → V G mX12_most (d + 4) 0 0 52 [some (.inr (.inl 91)), some (.inl (b.1)), some (.inl (b.2)), some (.inl (s)), some (.inl (k))] [] NO K P (qI NO (fun r I' P' => P' = P ∧ I' 91 0 = 0 ∧ ((spX (goX T (-1) 0 400 (I 98)) ≠ 0 ∧ r = -2 ∧ Fr skS cmF I I') ∨ (spX (goX T (-1) 0 400 (I 98)) = 0 ∧ r = (mostN T (goX T (-1) 0 400 (I 98)) (goX T (-1) 0 400 (I 98)).1).2 ∧ (∃ n, dpX (goX T (-1) 0 400 (I 98)) (mostN T (goX T (-1) 0 400 (I 98)) (goX T (-1) 0 400 (I 98)).1).1 n ∧ n < 1000 ∧ WayM T I' (goX T (-1) 0 400 (I 98)) (mostN T (goX T (-1) 0 400 (I 98)) (goX T (-1) 0 400 (I 98)).1).1 n) ∧ Fr wyS (61 :: cmF) I I')))) := by
        intro h1 j
        induction j with
        | zero => intro k K hj; omega
        | succ j ihc =>
          intro k K hj hk hk2 hc z0 hMX hFr
          have hTK := hT.fr hFr
          have hrow := hxo.2.1 s hs h1
          refine x_iload (i := 4) dX12_most_52 rfl ?_
          refine y_bi dX12_most_54 ⟨by decide, by decide⟩ ?_
          refine x_icmp_ge (tgt := 84) dX12_most_56 rfl (fun h56 => ?_) (fun h56 => ?_)
          · have hre : RE (K 120) (rowX x s) := fun c c0 c1 => hc c c0 (by omega)
            refine y_aln (i := 0) dX12_most_84 at91.ne0 rfl rfl ?_
            refine y_aln (i := 0) dX12_most_85 at91.ne0 rfl rfl ?_
            refine y_getp (z := 55) (v := 120) dX12_most_86 frX12_109 cfX12 at91 rfl rfl (wp (v := 120) hW rfl rfl (by decide)) ?_
            refine x_callVI (c_X12_allWorth hW hTK hF ar120 (hre.sy.rc hrow.rc)) dX12_most_89 lkX12_368 mfX12_allWorth cfX12 at91 rfl rfl rfl rfl (Nat.le_of_ble_eq_true rfl) (fun r89 I89 P89 hr89 hf89 => ?_)
            obtain ⟨i89, p89, q89⟩ := hf89
            rw [i89, p89, q89]
            rw [hre.worth hF]
            refine x_istore (i := 4) dX12_most_92 rfl (Nat.le_of_ble_eq_true rfl) ?_
            refine x_iload (i := 4) dX12_most_94 rfl ?_
            refine x_iload_n (i := 2) dX12_most_96 rfl rfl ?_
            refine x_icmp_le (tgt := 104) dX12_most_97 rfl (fun h97 => ?_) (fun h97 => ?_)
            · refine x_iload_n (i := 1) dX12_most_104 rfl rfl ?_
              refine x_istore_n (i := 1) dX12_most_105 rfl rfl (Nat.le_of_ble_eq_true rfl) ?_
              refine x_iload (i := 4) dX12_most_106 rfl ?_
              refine x_iload_n (i := 2) dX12_most_108 rfl rfl ?_
              refine x_icmp_le (tgt := 117) dX12_most_109 rfl (fun h109 => ?_) (fun h109 => ?_)
              · refine x_iload_n (i := 2) dX12_most_117 rfl rfl ?_
                refine x_istore_n (i := 2) dX12_most_118 rfl rfl (Nat.le_of_ble_eq_true rfl) ?_
                refine x_iinc dX12_most_119 rfl ⟨by omega, by omega⟩ rfl (Nat.le_of_ble_eq_true rfl) ?_
                refine x_goto (tgt := 41) dX12_most_122 rfl ?_
                refine x_keep [1, 1, 1, 1, 0] ?_
                have := ih (s + 1) K (by omega) hsp (by omega) (by omega) z0 hMX hFr
                rw [es] at this
                unfold mostB at this
                first | (rw [if_pos (show b.2 < worthS T (rowX x s) by omega), if_pos (show b.2 < worthS T (rowX x s) by omega)] at this; exact this) | (rw [if_neg (show ¬ b.2 < worthS T (rowX x s) by omega), if_neg (show ¬ b.2 < worthS T (rowX x s) by omega)] at this; exact this) | exact absurd h97 (by omega) | omega
              · refine x_iload (i := 4) dX12_most_112 rfl ?_
                refine x_goto (tgt := 118) dX12_most_114 rfl ?_
                refine x_istore_n (i := 2) dX12_most_118 rfl rfl (Nat.le_of_ble_eq_true rfl) ?_
                refine x_iinc dX12_most_119 rfl ⟨by omega, by omega⟩ rfl (Nat.le_of_ble_eq_true rfl) ?_
                refine x_goto (tgt := 41) dX12_most_122 rfl ?_
                refine x_keep [1, 1, 1, 1, 0] ?_
                have := ih (s + 1) K (by omega) hsp (by omega) (by omega) z0 hMX hFr
                rw [es] at this
                unfold mostB at this
                first | (rw [if_pos (show b.2 < worthS T (rowX x s) by omega), if_pos (show b.2 < worthS T (rowX x s) by omega)] at this; exact this) | (rw [if_neg (show ¬ b.2 < worthS T (rowX x s) by omega), if_neg (show ¬ b.2 < worthS T (rowX x s) by omega)] at this; exact this) | exact absurd h97 (by omega) | omega
            · refine x_iload_n (i := 3) dX12_most_100 rfl rfl ?_
              refine x_goto (tgt := 105) dX12_most_101 rfl ?_
              refine x_istore_n (i := 1) dX12_most_105 rfl rfl (Nat.le_of_ble_eq_true rfl) ?_
              refine x_iload (i := 4) dX12_most_106 rfl ?_
              refine x_iload_n (i := 2) dX12_most_108 rfl rfl ?_
              refine x_icmp_le (tgt := 117) dX12_most_109 rfl (fun h109 => ?_) (fun h109 => ?_)
              · refine x_iload_n (i := 2) dX12_most_117 rfl rfl ?_
                refine x_istore_n (i := 2) dX12_most_118 rfl rfl (Nat.le_of_ble_eq_true rfl) ?_
                refine x_iinc dX12_most_119 rfl ⟨by omega, by omega⟩ rfl (Nat.le_of_ble_eq_true rfl) ?_
                refine x_goto (tgt := 41) dX12_most_122 rfl ?_
                refine x_keep [1, 1, 1, 1, 0] ?_
                have := ih (s + 1) K (by omega) hsp (by omega) (by omega) z0 hMX hFr
                rw [es] at this
                unfold mostB at this
                first | (rw [if_pos (show b.2 < worthS T (rowX x s) by omega), if_pos (show b.2 < worthS T (rowX x s) by omega)] at this; exact this) | (rw [if_neg (show ¬ b.2 < worthS T (rowX x s) by omega), if_neg (show ¬ b.2 < worthS T (rowX x s) by omega)] at this; exact this) | exact absurd h97 (by omega) | omega
              · refine x_iload (i := 4) dX12_most_112 rfl ?_
                refine x_goto (tgt := 118) dX12_most_114 rfl ?_
                refine x_istore_n (i := 2) dX12_most_118 rfl rfl (Nat.le_of_ble_eq_true rfl) ?_
                refine x_iinc dX12_most_119 rfl ⟨by omega, by omega⟩ rfl (Nat.le_of_ble_eq_true rfl) ?_
                refine x_goto (tgt := 41) dX12_most_122 rfl ?_
                refine x_keep [1, 1, 1, 1, 0] ?_
                have := ih (s + 1) K (by omega) hsp (by omega) (by omega) z0 hMX hFr
                rw [es] at this
                unfold mostB at this
                first | (rw [if_pos (show b.2 < worthS T (rowX x s) by omega), if_pos (show b.2 < worthS T (rowX x s) by omega)] at this; exact this) | (rw [if_neg (show ¬ b.2 < worthS T (rowX x s) by omega), if_neg (show ¬ b.2 < worthS T (rowX x s) by omega)] at this; exact this) | exact absurd h97 (by omega) | omega
          · skip
            refine y_aln (i := 0) dX12_most_59 at91.ne0 rfl rfl ?_
            refine y_getp (z := 55) (v := 120) dX12_most_60 frX12_109 cfX12 at91 rfl rfl (wp (v := 120) hW rfl rfl (by decide)) ?_
            refine x_iload (i := 4) dX12_most_63 rfl ?_
            refine y_aln (i := 0) dX12_most_65 at91.ne0 rfl rfl ?_
            refine y_getp (z := 48) (v := 113) dX12_most_66 frX12_88 cfX12 at91 rfl rfl (wp (v := 113) hW rfl rfl (by decide)) ?_
            refine y_bi dX12_most_69 ⟨by decide, by decide⟩ ?_
            refine x_iload_n (i := 3) dX12_most_71 rfl rfl ?_
            refine x_imul dX12_most_72 ⟨by omega, by omega⟩ ?_
            refine x_iload (i := 4) dX12_most_73 rfl ?_
            refine x_iadd dX12_most_75 ⟨by omega, by omega⟩ ?_
            refine x_iald dX12_most_76 ar113 ⟨by omega, by omega⟩ ?_
            rw [(hMX.2.1 s hs h1).1 k hk (by omega)]
            refine x_iast dX12_most_77 ar120 ⟨by omega, by omega⟩ ?_
            refine x_iinc dX12_most_78 rfl ⟨by omega, by omega⟩ rfl (Nat.le_of_ble_eq_true rfl) ?_
            refine x_goto (tgt := 52) dX12_most_81 rfl ?_
            refine x_keep [1, 1, 1, 1, 1] ?_
            refine ihc (k + 1) _ (by omega) (by omega) (by omega) (fun c c0 c1 => ?_) (by rw [uI_ne (by decide)]; exact z0) (hMX.fr (S := [120]) (F := []) (Fr.rf.ui (by decide) (by decide))) (hFr.ui (by decide) (by decide))
            rw [uI_eq]
            by_cases e : c = k
            · rw [e, u1_eq]
            · rw [u1_ne e]; exact hc c c0 (by omega)
      refine x_iload_n (i := 3) dX12_most_41 rfl rfl ?_
      refine y_aln (i := 0) dX12_most_42 at91.ne0 rfl rfl ?_
      refine y_geti (z := 47) dX12_most_43 frX12_401 cfX12 at91 rfl rfl ?_
      refine x_icmp_ge (tgt := 125) dX12_most_46 rfl (fun h46 => ?_) (fun h46 => ?_)
      · refine y_aln (i := 0) dX12_most_125 at91.ne0 rfl rfl ?_
        refine x_iload_n (i := 1) dX12_most_126 rfl rfl ?_
        refine x_callVV (c_X12_keeps hW hMX hxo (by decide) hbd.1) dX12_most_127 lkX12_454 mfX12_keeps cfX12 at91 rfl rfl rfl rfl (Nat.le_of_ble_eq_true rfl) (fun n127 I127 P127 hf127 => ?_)
        obtain ⟨rfl, rfl, fr127, n, dp, n9, way⟩ := hf127
        have eb : b = mostN T x x.1 := by rw [hb, show s = x.1 by omega]
        refine x_iload_n (i := 2) dX12_most_130 rfl rfl ?_
        refine x_iret dX12_most_131 rfl ?_
        rw [← hx]
        exact ⟨rfl, (fr127.2 0 (by decide)).trans z0, Or.inr ⟨hsp, by rw [eb], ⟨n, by rw [← eb]; exact dp, n9, by rw [← eb]; exact way⟩, (hFr.mo (by decide) (by decide)).tr (fr127.mo (by decide) (by decide))⟩⟩
      · refine y_ic dX12_most_49 ⟨by decide, by decide⟩ ?_
        refine x_istore (i := 4) dX12_most_50 rfl (Nat.le_of_ble_eq_true rfl) ?_
        refine x_keep [1, 1, 1, 1, 1] ?_
        exact hC (by omega) _ 0 _ (Nat.lt_succ_self _) (by decide) (by decide) (fun c c0 c1 => by omega) z0 hMX hFr
  refine y_aln (i := 0) dX12_most_0 at91.ne0 rfl rfl ?_
  refine y_ic dX12_most_1 ⟨by decide, by decide⟩ ?_
  refine y_puti (z := 0) dX12_most_2 frX12_184 cfX12 at91 rfl rfl rfl ?_
  refine y_aln (i := 0) dX12_most_5 at91.ne0 rfl rfl ?_
  refine y_ic dX12_most_6 ⟨by decide, by decide⟩ ?_
  refine y_puti (z := 56) dX12_most_7 frX12_421 cfX12 at91 rfl rfl rfl ?_
  refine y_aln (i := 0) dX12_most_10 at91.ne0 rfl rfl ?_
  refine y_si dX12_most_11 ⟨by decide, by decide⟩ ?_
  refine y_puti (z := 58) dX12_most_14 frX12_411 cfX12 at91 rfl rfl rfl ?_
  refine y_aln (i := 0) dX12_most_17 at91.ne0 rfl rfl ?_
  refine y_aln (i := 0) dX12_most_18 at91.ne0 rfl rfl ?_
  refine y_getp (z := 14) (v := 98) dX12_most_19 frX12_38 cfX12 at91 rfl rfl (wp (v := 98) hW rfl rfl (by decide)) ?_
  have hFr0 : Fr skS cmF I (uI (uI (uI I 91 0 0) 91 56 (-1)) 91 58 400) := ((Fr.rf.uf (by decide)).uf (by decide)).uf (by decide)
  have hX0 : WX (uI (uI (uI I 91 0 0) 91 56 (-1)) 91 58 400) (-1) 0 400 := ⟨by rw [uI_eq, u1_ne (by decide), uI_eq, u1_eq], by rw [uI_eq, u1_eq], ⟨by decide, by decide⟩, Or.inl rfl⟩
  have h98 : uI (uI (uI I 91 0 0) 91 56 (-1)) 91 58 400 98 = I 98 := hFr0.1 98 (by decide) (by decide)
  refine x_callVV (c_X12_searches hW (hT.fr hFr0) hF hX0 ar98 (by rw [h98]; exact RE.rf) hr (by decide)) dX12_most_22 lkX12_450 mfX12_searches cfX12 at91 rfl rfl rfl rfl (Nat.le_of_ble_eq_true rfl) (fun n22 I22 P22 hf22 => ?_)
  obtain ⟨rfl, rfl, mx22, fr22⟩ := hf22
  rw [← hx] at mx22
  have hFr1 : Fr skS cmF I I22 := hFr0.tr (fr22.mo (by decide) (by decide))
  have z1 : I22 91 0 = 0 := by rw [fr22.2 0 (by decide), uI_eq, u1_ne (by decide), uI_eq, u1_ne (by decide), uI_eq, u1_eq]
  have a2 : I22 91 60 = spX x := mx22.2.2.2
  refine y_aln (i := 0) dX12_most_25 at91.ne0 rfl rfl ?_
  refine y_geti (z := 60) dX12_most_26 frX12_414 cfX12 at91 rfl rfl ?_
  refine x_if_eq (tgt := 35) dX12_most_29 rfl (fun h29 => ?_) (fun h29 => ?_)
  · refine y_ic dX12_most_35 ⟨by decide, by decide⟩ ?_
    refine x_istore_n (i := 1) dX12_most_36 rfl rfl (Nat.le_of_ble_eq_true rfl) ?_
    refine y_ic dX12_most_37 ⟨by decide, by decide⟩ ?_
    refine x_istore_n (i := 2) dX12_most_38 rfl rfl (Nat.le_of_ble_eq_true rfl) ?_
    refine y_ic dX12_most_39 ⟨by decide, by decide⟩ ?_
    refine x_istore_n (i := 3) dX12_most_40 rfl rfl (Nat.le_of_ble_eq_true rfl) ?_
    refine x_keep [1, 1, 1, 1, 0] ?_
    have := hL _ 0 I22 (Nat.lt_succ_self _) (by omega) (by decide) (by have := hxo.1; omega) z1 mx22 hFr1
    exact this
  · refine y_bi dX12_most_32 ⟨by decide, by decide⟩ ?_
    refine x_iret dX12_most_34 rfl ?_
    rw [← hx]
    exact ⟨rfl, z1, Or.inl ⟨by omega, rfl, hFr1⟩⟩
end

