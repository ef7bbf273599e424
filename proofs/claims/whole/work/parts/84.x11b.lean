/-! ===== the class: looking, trades, ties, days ===== -/
section
variable {G : HX} {d : Nat} {I : Mem} {P : Ptr} {T : Tn}
theorem n48 {I J : Mem} (h : Fc (sM 48) I J) : J 47 = I 47 := h 47 (by unfold sM; omega)
theorem c_X11_look {t : Nat} {a b v z w : Int} (hW : WP P) (hM : MK I P 46 t (t + 13) T) (h1t : P 1 2 = t) (hF : WF T) (hr : RW T (I 47)) : Cv G mX11_look (d + 8) 1 6 [.inr (.inl 1), .inl a, .inl b, .inl v, .inl z, .inl w] NO I P (qX NO (fun r I' P' => (PK P P' ∧ Fc (sM 48) I I') ∧ lookA T (I 47) a b v z w = (0, r)) (fun c I' P' => (PK P P' ∧ Fc (sM 48) I I') ∧ ((c = tEN ∧ lookA T (I 47) a b v z w = (1, 0)) ∨ (c = tEI ∧ lookA T (I 47) a b v z w = (2, 0))))) := by
  obtain ⟨hq, hTo, hLo, hpt, hpl, hca, hcl⟩ := id hM
  have wT := wp_T hW hTo
  have f1 := hF.1
  have f2 := hF.2.1
  refine x_enter mfX11_look rfl (Nat.le_of_ble_eq_true rfl) (fun _ => ?_)
  have h115 : ∀ (K : Mem) (R : Ptr) (o : Int), PK P R → MK K R 48 t (t + 13) T → MK K R 46 t (t + 13) T → K 47 = I 47 → RE (I 47) (K 49) → Fc (sM 48) I K → (0 ≤ o ∧ o < OFN T) → (∀ k, 0 ≤ k → k < T 0 3 → dgS (T 0 3) v k = OF T o k) → trOK T a b v z → (1 ≤ w ∧ w ≤ 3) → lawP T (I 47) a b (OF T o) z → V G mX11_look (d + 8) 1 6 115 [some (.inr (.inl 1)), some (.inl (a)), some (.inl (b)), none, some (.inl (z)), some (.inl (w)), some (.inl (o)), none, none, none] [] NO K R (qX NO (fun r I' P' => (PK P P' ∧ Fc (sM 48) I I') ∧ lookA T (I 47) a b v z w = (0, r)) (fun c I' P' => (PK P P' ∧ Fc (sM 48) I I') ∧ ((c = tEN ∧ lookA T (I 47) a b v z w = (1, 0)) ∨ (c = tEI ∧ lookA T (I 47) a b v z w = (2, 0))))) := fun K R o hP hM48 hM46 k47 kre kF ho hg ok hw hl => by
    have hWR := hP.1
    obtain ⟨oa, ob, oab, oz, ov⟩ := id ok
    have hl2 : lawP T (I 47) a b (dgS (T 0 3) v) z := (lawP_congr hg).mpr hl
    have hD := deal_RW (γ := OF T o) hF hr oa ob oab oz (OFd hF ho.1 ho.2) hl
    have ed : dealS T (I 47) a b (dgS (T 0 3) v) z = dealS T (I 47) a b (OF T o) z := dealS_congr hF hg
    have b1 := bagS_bd hF hD.rc oa
    have b2 := bagS_bd hF hD.rc ob
    have b3 := bagS_bd hF hr.rc oa
    have b4 := bagS_bd hF hr.rc ob
    have eL : lookA T (I 47) a b v z w = (0, if w = 1 then bagS T (dealS T (I 47) a b (OF T o) z) a - bagS T (I 47) a else if w = 2 then bagS T (dealS T (I 47) a b (OF T o) z) b - bagS T (I 47) b else if 0 < bagS T (dealS T (I 47) a b (OF T o) z) a - bagS T (I 47) a ∧ 0 < bagS T (dealS T (I 47) a b (OF T o) z) b - bagS T (I 47) b then (bagS T (dealS T (I 47) a b (OF T o) z) a - bagS T (I 47) a) + (bagS T (dealS T (I 47) a b (OF T o) z) b - bagS T (I 47) b) else 0) := by
      unfold lookA
      rw [cif_pos ⟨ok, by omega⟩, if_neg (by omega), cif_pos hl2, ed]
    rw [eL]
    clear eL
    have h129 : ∀ J : Mem, J 47 = I 47 → RE (dealS T (I 47) a b (OF T o) z) (J 49) → Fc (sM 48) I J → MK J R 48 t (t + 13) T → MK J R 46 t (t + 13) T → V G mX11_look (d + 8) 1 6 129 [some (.inr (.inl 1)), some (.inl a), some (.inl b), none, none, some (.inl w), none, none, none, none] [] NO J R (qX NO (fun r I' P' => (PK P P' ∧ Fc (sM 48) I I') ∧ ((0 : Int), if w = 1 then bagS T (dealS T (I 47) a b (OF T o) z) a - bagS T (I 47) a else if w = 2 then bagS T (dealS T (I 47) a b (OF T o) z) b - bagS T (I 47) b else if 0 < bagS T (dealS T (I 47) a b (OF T o) z) a - bagS T (I 47) a ∧ 0 < bagS T (dealS T (I 47) a b (OF T o) z) b - bagS T (I 47) b then (bagS T (dealS T (I 47) a b (OF T o) z) a - bagS T (I 47) a) + (bagS T (dealS T (I 47) a b (OF T o) z) b - bagS T (I 47) b) else 0) = (0, r)) (fun c I' P' => (PK P P' ∧ Fc (sM 48) I I') ∧ ((c = tEN ∧ ((0 : Int), if w = 1 then bagS T (dealS T (I 47) a b (OF T o) z) a - bagS T (I 47) a else if w = 2 then bagS T (dealS T (I 47) a b (OF T o) z) b - bagS T (I 47) b else if 0 < bagS T (dealS T (I 47) a b (OF T o) z) a - bagS T (I 47) a ∧ 0 < bagS T (dealS T (I 47) a b (OF T o) z) b - bagS T (I 47) b then (bagS T (dealS T (I 47) a b (OF T o) z) a - bagS T (I 47) a) + (bagS T (dealS T (I 47) a b (OF T o) z) b - bagS T (I 47) b) else 0) = (1, 0)) ∨ (c = tEI ∧ ((0 : Int), if w = 1 then bagS T (dealS T (I 47) a b (OF T o) z) a - bagS T (I 47) a else if w = 2 then bagS T (dealS T (I 47) a b (OF T o) z) b - bagS T (I 47) b else if 0 < bagS T (dealS T (I 47) a b (OF T o) z) a - bagS T (I 47) a ∧ 0 < bagS T (dealS T (I 47) a b (OF T o) z) b - bagS T (I 47) b then (bagS T (dealS T (I 47) a b (OF T o) z) a - bagS T (I 47) a) + (bagS T (dealS T (I 47) a b (OF T o) z) b - bagS T (I 47) b) else 0) = (2, 0))))) := fun J j47 jre jF jM48 jM46 => by
      have rcJ : RC (J 49) := jre.rc hD.rc
      refine y_aln (i := 0) dX11_look_129 at1.ne0 rfl rfl ?_
      refine y_getp (z := 10) (v := 48) dX11_look_130 frX11_50 cfX11 at1 rfl rfl (wp (v := 48) hWR rfl rfl (by decide)) ?_
      refine x_iload_n (i := 1) dX11_look_133 rfl rfl ?_
      refine x_callVI (c_X3_bagWorth hWR jM48 hF rcJ oa) dX11_look_134 lkX11_196 mfX3_bagWorth cfX3 at48 rfl rfl rfl rfl (Nat.le_of_ble_eq_true rfl) (fun r134 I134 P134 hr134 hf134 => ?_)
      obtain ⟨i134, p134, q134⟩ := hf134
      rw [i134, p134, q134]
      refine y_aln (i := 0) dX11_look_137 at1.ne0 rfl rfl ?_
      refine y_getp (z := 9) (v := 46) dX11_look_138 frX11_46 cfX11 at1 rfl rfl (wp (v := 46) hWR rfl rfl (by decide)) ?_
      refine x_iload_n (i := 1) dX11_look_141 rfl rfl ?_
      refine x_callVI (c_X3_bagWorth hWR jM46 hF (by show RC (J 47); rw [j47]; exact hr.rc) oa) dX11_look_142 lkX11_196 mfX3_bagWorth cfX3 at46 rfl rfl rfl rfl (Nat.le_of_ble_eq_true rfl) (fun r142 I142 P142 hr142 hf142 => ?_)
      obtain ⟨i142, p142, q142⟩ := hf142
      rw [i142, p142, q142]
      rw [show J (46 + 1) = I 47 from j47, show bagS T (J (48 + 1)) a = bagS T (dealS T (I 47) a b (OF T o) z) a from (jre.bag hF oa).symm]
      refine x_isub dX11_look_145 ⟨by omega, by omega⟩ ?_
      refine x_istore (i := 8) dX11_look_146 rfl (Nat.le_of_ble_eq_true rfl) ?_
      refine y_aln (i := 0) dX11_look_148 at1.ne0 rfl rfl ?_
      refine y_getp (z := 10) (v := 48) dX11_look_149 frX11_50 cfX11 at1 rfl rfl (wp (v := 48) hWR rfl rfl (by decide)) ?_
      refine x_iload_n (i := 2) dX11_look_152 rfl rfl ?_
      refine x_callVI (c_X3_bagWorth hWR jM48 hF rcJ ob) dX11_look_153 lkX11_196 mfX3_bagWorth cfX3 at48 rfl rfl rfl rfl (Nat.le_of_ble_eq_true rfl) (fun r153 I153 P153 hr153 hf153 => ?_)
      obtain ⟨i153, p153, q153⟩ := hf153
      rw [i153, p153, q153]
      refine y_aln (i := 0) dX11_look_156 at1.ne0 rfl rfl ?_
      refine y_getp (z := 9) (v := 46) dX11_look_157 frX11_46 cfX11 at1 rfl rfl (wp (v := 46) hWR rfl rfl (by decide)) ?_
      refine x_iload_n (i := 2) dX11_look_160 rfl rfl ?_
      refine x_callVI (c_X3_bagWorth hWR jM46 hF (by show RC (J 47); rw [j47]; exact hr.rc) ob) dX11_look_161 lkX11_196 mfX3_bagWorth cfX3 at46 rfl rfl rfl rfl (Nat.le_of_ble_eq_true rfl) (fun r161 I161 P161 hr161 hf161 => ?_)
      obtain ⟨i161, p161, q161⟩ := hf161
      rw [i161, p161, q161]
      rw [show J (46 + 1) = I 47 from j47, show bagS T (J (48 + 1)) b = bagS T (dealS T (I 47) a b (OF T o) z) b from (jre.bag hF ob).symm]
      refine x_isub dX11_look_164 ⟨by omega, by omega⟩ ?_
      refine x_istore (i := 9) dX11_look_165 rfl (Nat.le_of_ble_eq_true rfl) ?_
      refine x_iload (i := 5) dX11_look_167 rfl ?_
      refine y_ic dX11_look_169 ⟨by decide, by decide⟩ ?_
      refine x_icmp_ne (tgt := 176) dX11_look_170 rfl (fun h170 => ?_) (fun h170 => ?_)
      · refine x_iload (i := 5) dX11_look_176 rfl ?_
        refine y_ic dX11_look_178 ⟨by decide, by decide⟩ ?_
        refine x_icmp_ne (tgt := 185) dX11_look_179 rfl (fun h179 => ?_) (fun h179 => ?_)
        · refine x_iload (i := 8) dX11_look_185 rfl ?_
          refine x_if_le (tgt := 203) dX11_look_187 rfl (fun h187 => ?_) (fun h187 => ?_)
          · refine y_ic dX11_look_203 ⟨by decide, by decide⟩ ?_
            refine x_iretX dX11_look_204 rfl ?_
            first | exact ⟨⟨hP, jF⟩, by rw [if_neg (by omega), if_neg (by omega), if_pos (by omega)]⟩ | exact ⟨⟨hP, jF⟩, by rw [if_neg (by omega), if_neg (by omega), if_neg (by omega)]⟩
          · refine x_iload (i := 9) dX11_look_190 rfl ?_
            refine x_if_le (tgt := 203) dX11_look_192 rfl (fun h192 => ?_) (fun h192 => ?_)
            · refine y_ic dX11_look_203 ⟨by decide, by decide⟩ ?_
              refine x_iretX dX11_look_204 rfl ?_
              first | exact ⟨⟨hP, jF⟩, by rw [if_neg (by omega), if_neg (by omega), if_pos (by omega)]⟩ | exact ⟨⟨hP, jF⟩, by rw [if_neg (by omega), if_neg (by omega), if_neg (by omega)]⟩
            · refine x_iload (i := 8) dX11_look_195 rfl ?_
              refine x_iload (i := 9) dX11_look_197 rfl ?_
              refine x_iadd dX11_look_199 ⟨by omega, by omega⟩ ?_
              refine x_goto (tgt := 204) dX11_look_200 rfl ?_
              refine x_iretX dX11_look_204 rfl ?_
              first | exact ⟨⟨hP, jF⟩, by rw [if_neg (by omega), if_neg (by omega), if_pos (by omega)]⟩ | exact ⟨⟨hP, jF⟩, by rw [if_neg (by omega), if_neg (by omega), if_neg (by omega)]⟩
        · refine x_iload (i := 9) dX11_look_182 rfl ?_
          refine x_iretX dX11_look_184 rfl ?_
          exact ⟨⟨hP, jF⟩, by rw [if_neg (by omega), if_pos (by omega)]⟩
      · refine x_iload (i := 8) dX11_look_173 rfl ?_
        refine x_iretX dX11_look_175 rfl ?_
        exact ⟨⟨hP, jF⟩, by rw [if_pos (by omega)]⟩
    refine y_aln (i := 0) dX11_look_115 at1.ne0 rfl rfl ?_
    refine y_getp (z := 10) (v := 48) dX11_look_116 frX11_50 cfX11 at1 rfl rfl (wp (v := 48) hWR rfl rfl (by decide)) ?_
    refine x_iload_n (i := 1) dX11_look_119 rfl rfl ?_
    refine x_iload_n (i := 2) dX11_look_120 rfl rfl ?_
    refine x_iload (i := 6) dX11_look_121 rfl ?_
    refine x_iload (i := 4) dX11_look_123 rfl ?_
    refine y_ic dX11_look_125 ⟨by decide, by decide⟩ ?_
    refine x_callVV (c_X3_deal hWR hM48 hF (kre.rc hr.rc) (by omega) (by omega) ho (by omega) (Or.inl rfl)) dX11_look_126 lkX11_235 mfX3_deal cfX3 at48 rfl rfl rfl rfl (Nat.le_of_ble_eq_true rfl) (fun n126 I126 P126 hf126 => ?_)
    obtain ⟨rfl, hI126, rfl⟩ := hf126
    have F126 : Fc (sM 48) K I126 := by rw [hI126]; exact Fc.rf.ua (Or.inr rfl)
    refine x_keep [1, 1, 1, 0, 0, 1, 0, 0, 0, 0] ?_
    exact h129 _ ((n48 F126).trans k47) (by rw [hI126, del_1]; show RE _ (uA K 49 _ 49); rw [uA_eq]; exact RE.deal kre) (kF.tr F126) (hM48.fr F126 s48_tl) (hM46.fr F126 s48_tl)
  have h58 : ∀ o, (0 ≤ o ∧ o < OFN T) → numS (T 0 3) (OF T o) = v → (0 ≤ a ∧ a < T 0 1) → (0 ≤ b ∧ b < T 0 1) → a ≠ b → (0 ≤ z ∧ z < T 0 2) → (0 ≤ w ∧ w ≤ 3) → V G mX11_look (d + 8) 1 6 58 [some (.inr (.inl 1)), some (.inl (a)), some (.inl (b)), none, some (.inl (z)), some (.inl (w)), some (.inl (o)), none, none, none] [] NO I P (qX NO (fun r I' P' => (PK P P' ∧ Fc (sM 48) I I') ∧ lookA T (I 47) a b v z w = (0, r)) (fun c I' P' => (PK P P' ∧ Fc (sM 48) I I') ∧ ((c = tEN ∧ lookA T (I 47) a b v z w = (1, 0)) ∨ (c = tEI ∧ lookA T (I 47) a b v z w = (2, 0))))) := fun o ho ev oa ob oab oz hw => by
    have hn := num_of hF ho
    rw [ev] at hn
    have ok : trOK T a b v z := ⟨oa, ob, oab, oz, hn.1⟩
    have hlc : lawP T (I 47) a b (dgS (T 0 3) v) z ↔ lawP T (I 47) a b (OF T o) z := lawP_congr hn.2
    refine y_aln (i := 0) dX11_look_58 at1.ne0 rfl rfl ?_
    refine y_getp (z := 9) (v := 46) dX11_look_59 frX11_46 cfX11 at1 rfl rfl (wp (v := 46) hW rfl rfl (by decide)) ?_
    refine x_iload_n (i := 1) dX11_look_62 rfl rfl ?_
    refine x_iload_n (i := 2) dX11_look_63 rfl rfl ?_
    refine x_iload (i := 6) dX11_look_64 rfl ?_
    refine x_iload (i := 4) dX11_look_66 rfl ?_
    refine x_callVI (c_X3_isLawful hW hM hF hr.rc (by omega) (by omega) ho (by omega)) dX11_look_68 lkX11_226 mfX3_isLawful cfX3 at46 rfl rfl rfl rfl (Nat.le_of_ble_eq_true rfl) (fun r68 I68 P68 hr68 hf68 => ?_)
    obtain ⟨i68, p68, q68⟩ := hf68
    rw [i68, p68]
    refine x_istore (i := 7) dX11_look_71 rfl (Nat.le_of_ble_eq_true rfl) ?_
    refine x_iload (i := 5) dX11_look_73 rfl ?_
    refine x_if_ne (tgt := 89) dX11_look_75 rfl (fun h75 => ?_) (fun h75 => ?_)
    · refine x_iload (i := 7) dX11_look_89 rfl ?_
      refine x_if_ne (tgt := 104) dX11_look_91 rfl (fun h91 => ?_) (fun h91 => ?_)
      · refine y_aln (i := 0) dX11_look_104 at1.ne0 rfl rfl ?_
        refine y_getp (z := 10) (v := 48) dX11_look_105 frX11_50 cfX11 at1 rfl rfl (wp (v := 48) hW rfl rfl (by decide)) ?_
        refine y_aln (i := 0) dX11_look_108 at1.ne0 rfl rfl ?_
        refine y_getp (z := 9) (v := 46) dX11_look_109 frX11_46 cfX11 at1 rfl rfl (wp (v := 46) hW rfl rfl (by decide)) ?_
        refine x_callVV (c_X3_take (q := 48) hW isM48 hM (by decide)) dX11_look_112 lkX11_232 mfX3_take cfX3 at48 rfl rfl rfl rfl (Nat.le_of_ble_eq_true rfl) (fun n112 I112 P112 hf112 => ?_)
        obtain ⟨rfl, rfl, hI112⟩ := hf112
        have F112 : Fc (sM 48) I I112 := by rw [hI112]; exact Fc.rf.ua (Or.inr rfl)
        obtain ⟨y1, y2, y3⟩ := trl hW hM isM48 (by decide) F112
        refine x_keep [1, 1, 1, 0, 1, 1, 1, 0, 0, 0] ?_
        exact h115 _ _ _ y1 y2 y3 (n48 F112) (fun c c0 c1 => by rw [hI112]; show _ = (if 0 ≤ c ∧ c < 48 then I 47 c else I 49 c); rw [if_pos ⟨c0, c1⟩]) F112 ho hn.2 ok (by omega) (q68.resolve_right (fun q => by have := q.1; omega)).2
      · refine xnI (text := "the trade is not lawful") rfl rfl (by decide +kernel) (Nat.le_of_ble_eq_true rfl) (by omega) (by decide) (by decide) dX11_look_94 dX11_look_97 dX11_look_98 dX11_look_100 dX11_look_103 ?_
        refine ⟨⟨PK.rf hW, Fc.rf⟩, Or.inr ⟨rfl, ?_⟩⟩
        unfold lookA
        rw [cif_pos ⟨ok, hw⟩, if_neg (by omega), cif_neg (fun q => (q68.resolve_left (fun q => by have := q.1; omega)).2 (hlc.mp q))]
    · refine x_iload (i := 7) dX11_look_78 rfl ?_
      refine x_if_eq (tgt := 87) dX11_look_80 rfl (fun h80 => ?_) (fun h80 => ?_)
      · refine y_ic dX11_look_87 ⟨by decide, by decide⟩ ?_
        refine x_iretX dX11_look_88 rfl ?_
        refine ⟨⟨PK.rf hW, Fc.rf⟩, ?_⟩
        unfold lookA
        rw [cif_pos ⟨ok, hw⟩, if_pos (by omega)]
        first | rw [cif_pos (hlc.mpr (q68.resolve_right (fun q => by have := q.1; omega)).2)] | rw [cif_neg (fun q => (q68.resolve_left (fun q => by have := q.1; omega)).2 (hlc.mp q))]
      · refine y_ic dX11_look_83 ⟨by decide, by decide⟩ ?_
        refine x_goto (tgt := 88) dX11_look_84 rfl ?_
        refine x_iretX dX11_look_88 rfl ?_
        refine ⟨⟨PK.rf hW, Fc.rf⟩, ?_⟩
        unfold lookA
        rw [cif_pos ⟨ok, hw⟩, if_pos (by omega)]
        first | rw [cif_pos (hlc.mpr (q68.resolve_right (fun q => by have := q.1; omega)).2)] | rw [cif_neg (fun q => (q68.resolve_left (fun q => by have := q.1; omega)).2 (hlc.mp q))]
  refine y_aln (i := 0) dX11_look_0 at1.ne0 rfl rfl ?_
  refine y_getp (z := 2) (v := t) dX11_look_1 frX11_16 cfX11 at1 rfl rfl h1t ?_
  refine y_getp (z := 16) (v := (t + 13)) dX11_look_4 frX11_140 cfX10 hTo.at rfl rfl (p10_16 wT hTo) ?_
  refine x_iload_n (i := 3) dX11_look_7 rfl rfl ?_
  refine x_callVI (c_X2_offerOf hW hLo hF hcl) dX11_look_8 lkX11_218 mfX2_offerOf cfX2 (a10_16 hTo) rfl rfl rfl rfl (Nat.le_of_ble_eq_true rfl) (fun r8 I8 P8 hr8 hf8 => ?_)
  obtain ⟨i8, p8, q8⟩ := hf8
  rw [i8, p8]
  have no8 : r8 = -1 → ¬ vdS T v := fun e h => by obtain ⟨o, ho, eo⟩ := of_num hF h; rcases q8 with q | q; exact q.2 o ho.1 ho.2 eo; omega
  refine x_istore (i := 6) dX11_look_11 rfl (Nat.le_of_ble_eq_true rfl) ?_
  refine y_aln (i := 0) dX11_look_13 at1.ne0 rfl rfl ?_
  refine x_iload_n (i := 1) dX11_look_14 rfl rfl ?_
  refine x_iload_n (i := 2) dX11_look_15 rfl rfl ?_
  refine x_callVI (c_X11_isNoTwo hW hM h1t) dX11_look_16 lkX11_221 mfX11_isNoTwo cfX11 at1 rfl rfl rfl rfl (Nat.le_of_ble_eq_true rfl) (fun r16 I16 P16 hr16 hf16 => ?_)
  obtain ⟨i16, p16, q16⟩ := hf16
  rw [i16, p16]
  refine x_if_ne (tgt := 48) dX11_look_19 rfl (fun h19 => ?_) (fun h19 => ?_)
  · refine xnN (text := "no such trade, or nothing of it") rfl rfl (by decide +kernel) (Nat.le_of_ble_eq_true rfl) (by omega) (by decide) (by decide) dX11_look_48 dX11_look_51 dX11_look_52 dX11_look_54 dX11_look_57 ?_
    refine ⟨⟨PK.rf hW, Fc.rf⟩, Or.inl ⟨rfl, ?_⟩⟩
    unfold lookA
    rw [cif_neg (fun q => ?_)]
    obtain ⟨⟨oa, ob, oab, oz, ov⟩, w0, w1⟩ := q
    first | omega | exact no8 (by omega) ov
  · refine y_aln (i := 0) dX11_look_22 at1.ne0 rfl rfl ?_
    refine x_iload (i := 4) dX11_look_23 rfl ?_
    refine x_callVI (c_X11_isNoSort hW hM h1t) dX11_look_25 lkX11_200 mfX11_isNoSort cfX11 at1 rfl rfl rfl rfl (Nat.le_of_ble_eq_true rfl) (fun r25 I25 P25 hr25 hf25 => ?_)
    obtain ⟨i25, p25, q25⟩ := hf25
    rw [i25, p25]
    refine x_if_ne (tgt := 48) dX11_look_28 rfl (fun h28 => ?_) (fun h28 => ?_)
    · refine xnN (text := "no such trade, or nothing of it") rfl rfl (by decide +kernel) (Nat.le_of_ble_eq_true rfl) (by omega) (by decide) (by decide) dX11_look_48 dX11_look_51 dX11_look_52 dX11_look_54 dX11_look_57 ?_
      refine ⟨⟨PK.rf hW, Fc.rf⟩, Or.inl ⟨rfl, ?_⟩⟩
      unfold lookA
      rw [cif_neg (fun q => ?_)]
      obtain ⟨⟨oa, ob, oab, oz, ov⟩, w0, w1⟩ := q
      first | omega | exact no8 (by omega) ov
    · refine x_iload (i := 6) dX11_look_31 rfl ?_
      refine y_ic dX11_look_33 ⟨by decide, by decide⟩ ?_
      refine x_icmp_eq (tgt := 48) dX11_look_34 rfl (fun h34 => ?_) (fun h34 => ?_)
      · refine xnN (text := "no such trade, or nothing of it") rfl rfl (by decide +kernel) (Nat.le_of_ble_eq_true rfl) (by omega) (by decide) (by decide) dX11_look_48 dX11_look_51 dX11_look_52 dX11_look_54 dX11_look_57 ?_
        refine ⟨⟨PK.rf hW, Fc.rf⟩, Or.inl ⟨rfl, ?_⟩⟩
        unfold lookA
        rw [cif_neg (fun q => ?_)]
        obtain ⟨⟨oa, ob, oab, oz, ov⟩, w0, w1⟩ := q
        first | omega | exact no8 (by omega) ov
      · refine x_iload (i := 5) dX11_look_37 rfl ?_
        refine x_if_lt (tgt := 48) dX11_look_39 rfl (fun h39 => ?_) (fun h39 => ?_)
        · refine xnN (text := "no such trade, or nothing of it") rfl rfl (by decide +kernel) (Nat.le_of_ble_eq_true rfl) (by omega) (by decide) (by decide) dX11_look_48 dX11_look_51 dX11_look_52 dX11_look_54 dX11_look_57 ?_
          refine ⟨⟨PK.rf hW, Fc.rf⟩, Or.inl ⟨rfl, ?_⟩⟩
          unfold lookA
          rw [cif_neg (fun q => ?_)]
          obtain ⟨⟨oa, ob, oab, oz, ov⟩, w0, w1⟩ := q
          first | omega | exact no8 (by omega) ov
        · refine x_iload (i := 5) dX11_look_42 rfl ?_
          refine y_ic dX11_look_44 ⟨by decide, by decide⟩ ?_
          refine x_icmp_le (tgt := 58) dX11_look_45 rfl (fun h45 => ?_) (fun h45 => ?_)
          · refine x_keep [1, 1, 1, 0, 1, 1, 1, 0, 0, 0] ?_
            have q8' := (q8.resolve_left (fun q => by have := q.1; omega))
            exact h58 _ q8'.1 q8'.2 (by omega) (by omega) (by omega) (by omega) (by omega)
          · refine xnN (text := "no such trade, or nothing of it") rfl rfl (by decide +kernel) (Nat.le_of_ble_eq_true rfl) (by omega) (by decide) (by decide) dX11_look_48 dX11_look_51 dX11_look_52 dX11_look_54 dX11_look_57 ?_
            refine ⟨⟨PK.rf hW, Fc.rf⟩, Or.inl ⟨rfl, ?_⟩⟩
            unfold lookA
            rw [cif_neg (fun q => ?_)]
            obtain ⟨⟨oa, ob, oab, oz, ov⟩, w0, w1⟩ := q
            first | omega | exact no8 (by omega) ov
theorem c_X11_trade {t : Nat} {a b v z : Int} (hW : WP P) (hM : MK I P 46 t (t + 13) T) (h1t : P 1 2 = t) (hF : WF T) (hr : RW T (I 47)) : Cv G mX11_trade (d + 8) 1 6 [.inr (.inl 1), .inl a, .inl b, .inl v, .inl z] NO I P (qX NO (fun r I' P' => P' = P ∧ ((trOK T a b v z ∧ lawP T (I 47) a b (dgS (T 0 3) v) z ∧ r = 1 ∧ I' = uA I 47 (I' 47) ∧ RE (dealS T (I 47) a b (dgS (T 0 3) v) z) (I' 47)) ∨ (trOK T a b v z ∧ ¬ lawP T (I 47) a b (dgS (T 0 3) v) z ∧ r = 0 ∧ I' = uI I 1 6 (wr (I 1 6 + 1))))) (fun c I' P' => (I' = I ∧ P' = P) ∧ ¬ trOK T a b v z ∧ c = tEN)) := by
  obtain ⟨hq, hTo, hLo, hpt, hpl, hca, hcl⟩ := id hM
  have wT := wp_T hW hTo
  have f1 := hF.1
  have f2 := hF.2.1
  refine x_enter mfX11_trade rfl (Nat.le_of_ble_eq_true rfl) (fun _ => ?_)
  have h47 : ∀ o, (0 ≤ o ∧ o < OFN T) → numS (T 0 3) (OF T o) = v → (0 ≤ a ∧ a < T 0 1) → (0 ≤ b ∧ b < T 0 1) → a ≠ b → (0 ≤ z ∧ z < T 0 2) → V G mX11_trade (d + 8) 1 6 47 [some (.inr (.inl 1)), some (.inl (a)), some (.inl (b)), none, some (.inl (z)), some (.inl (o))] [] NO I P (qX NO (fun r I' P' => P' = P ∧ ((trOK T a b v z ∧ lawP T (I 47) a b (dgS (T 0 3) v) z ∧ r = 1 ∧ I' = uA I 47 (I' 47) ∧ RE (dealS T (I 47) a b (dgS (T 0 3) v) z) (I' 47)) ∨ (trOK T a b v z ∧ ¬ lawP T (I 47) a b (dgS (T 0 3) v) z ∧ r = 0 ∧ I' = uI I 1 6 (wr (I 1 6 + 1))))) (fun c I' P' => (I' = I ∧ P' = P) ∧ ¬ trOK T a b v z ∧ c = tEN)) := fun o ho ev oa ob oab oz => by
    have hn := num_of hF ho
    rw [ev] at hn
    have ok : trOK T a b v z := ⟨oa, ob, oab, oz, hn.1⟩
    have hlc : lawP T (I 47) a b (dgS (T 0 3) v) z ↔ lawP T (I 47) a b (OF T o) z := lawP_congr hn.2
    refine y_aln (i := 0) dX11_trade_47 at1.ne0 rfl rfl ?_
    refine y_getp (z := 9) (v := 46) dX11_trade_48 frX11_46 cfX11 at1 rfl rfl (wp (v := 46) hW rfl rfl (by decide)) ?_
    refine x_iload_n (i := 1) dX11_trade_51 rfl rfl ?_
    refine x_iload_n (i := 2) dX11_trade_52 rfl rfl ?_
    refine x_iload (i := 5) dX11_trade_53 rfl ?_
    refine x_iload (i := 4) dX11_trade_55 rfl ?_
    refine x_callVI (c_X3_isLawful hW hM hF hr.rc (by omega) (by omega) ho (by omega)) dX11_trade_57 lkX11_226 mfX3_isLawful cfX3 at46 rfl rfl rfl rfl (Nat.le_of_ble_eq_true rfl) (fun r57 I57 P57 hr57 hf57 => ?_)
    obtain ⟨i57, p57, q57⟩ := hf57
    rw [i57, p57]
    refine x_if_ne (tgt := 75) dX11_trade_60 rfl (fun h60 => ?_) (fun h60 => ?_)
    · refine y_aln (i := 0) dX11_trade_75 at1.ne0 rfl rfl ?_
      refine y_getp (z := 9) (v := 46) dX11_trade_76 frX11_46 cfX11 at1 rfl rfl (wp (v := 46) hW rfl rfl (by decide)) ?_
      refine x_iload_n (i := 1) dX11_trade_79 rfl rfl ?_
      refine x_iload_n (i := 2) dX11_trade_80 rfl rfl ?_
      refine x_iload (i := 5) dX11_trade_81 rfl ?_
      refine x_iload (i := 4) dX11_trade_83 rfl ?_
      refine y_ic dX11_trade_85 ⟨by decide, by decide⟩ ?_
      refine x_callVV (c_X3_deal hW hM hF hr.rc (by omega) (by omega) ho (by omega) (Or.inl rfl)) dX11_trade_86 lkX11_235 mfX3_deal cfX3 at46 rfl rfl rfl rfl (Nat.le_of_ble_eq_true rfl) (fun n86 I86 P86 hf86 => ?_)
      obtain ⟨rfl, hI86, rfl⟩ := hf86
      refine y_ic dX11_trade_89 ⟨by decide, by decide⟩ ?_
      refine x_zretX dX11_trade_90 (by omega) rfl ?_
      refine ⟨rfl, Or.inl ⟨ok, hlc.mpr (q57.resolve_right (fun q => by have := q.1; omega)).2, rfl, ?_, ?_⟩⟩
      · rw [hI86]; show uA I 47 _ = uA I 47 (uA I 47 _ 47); rw [uA_eq]
      · rw [hI86, del_1]; show RE _ (uA I 47 _ 47); rw [uA_eq, dealS_congr hF hn.2]; exact RE.rf
    · refine y_aln (i := 0) dX11_trade_63 at1.ne0 rfl rfl ?_
      refine x_dup dX11_trade_64 rfl ?_
      refine y_geti (z := 6) dX11_trade_65 frX11_163 cfX11 at1 rfl rfl ?_
      refine y_ic dX11_trade_68 ⟨by decide, by decide⟩ ?_
      refine x_iaddW dX11_trade_69 ?_
      refine y_puti (z := 6) dX11_trade_70 frX11_163 cfX11 at1 rfl rfl rfl ?_
      refine y_ic dX11_trade_73 ⟨by decide, by decide⟩ ?_
      refine x_zretX dX11_trade_74 (by omega) rfl ?_
      exact ⟨rfl, Or.inr ⟨ok, fun q => (q57.resolve_left (fun q => by have := q.1; omega)).2 (hlc.mp q), rfl, rfl⟩⟩
  refine y_aln (i := 0) dX11_trade_0 at1.ne0 rfl rfl ?_
  refine y_getp (z := 2) (v := t) dX11_trade_1 frX11_16 cfX11 at1 rfl rfl h1t ?_
  refine y_getp (z := 16) (v := (t + 13)) dX11_trade_4 frX11_140 cfX10 hTo.at rfl rfl (p10_16 wT hTo) ?_
  refine x_iload_n (i := 3) dX11_trade_7 rfl rfl ?_
  refine x_callVI (c_X2_offerOf hW hLo hF hcl) dX11_trade_8 lkX11_218 mfX2_offerOf cfX2 (a10_16 hTo) rfl rfl rfl rfl (Nat.le_of_ble_eq_true rfl) (fun r8 I8 P8 hr8 hf8 => ?_)
  obtain ⟨i8, p8, q8⟩ := hf8
  rw [i8, p8]
  have no8 : r8 = -1 → ¬ vdS T v := fun e h => by obtain ⟨o, ho, eo⟩ := of_num hF h; rcases q8 with q | q; exact q.2 o ho.1 ho.2 eo; omega
  refine x_istore (i := 5) dX11_trade_11 rfl (Nat.le_of_ble_eq_true rfl) ?_
  refine y_aln (i := 0) dX11_trade_13 at1.ne0 rfl rfl ?_
  refine x_iload_n (i := 1) dX11_trade_14 rfl rfl ?_
  refine x_iload_n (i := 2) dX11_trade_15 rfl rfl ?_
  refine x_callVI (c_X11_isNoTwo hW hM h1t) dX11_trade_16 lkX11_221 mfX11_isNoTwo cfX11 at1 rfl rfl rfl rfl (Nat.le_of_ble_eq_true rfl) (fun r16 I16 P16 hr16 hf16 => ?_)
  obtain ⟨i16, p16, q16⟩ := hf16
  rw [i16, p16]
  refine x_if_ne (tgt := 37) dX11_trade_19 rfl (fun h19 => ?_) (fun h19 => ?_)
  · refine xnN (text := "no such trade") rfl rfl (by decide +kernel) (Nat.le_of_ble_eq_true rfl) (by omega) (by decide) (by decide) dX11_trade_37 dX11_trade_40 dX11_trade_41 dX11_trade_43 dX11_trade_46 ?_
    refine ⟨⟨rfl, rfl⟩, fun q => ?_, rfl⟩
    obtain ⟨oa, ob, oab, oz, ov⟩ := q
    first | omega | exact no8 (by omega) ov
  · refine y_aln (i := 0) dX11_trade_22 at1.ne0 rfl rfl ?_
    refine x_iload (i := 4) dX11_trade_23 rfl ?_
    refine x_callVI (c_X11_isNoSort hW hM h1t) dX11_trade_25 lkX11_200 mfX11_isNoSort cfX11 at1 rfl rfl rfl rfl (Nat.le_of_ble_eq_true rfl) (fun r25 I25 P25 hr25 hf25 => ?_)
    obtain ⟨i25, p25, q25⟩ := hf25
    rw [i25, p25]
    refine x_if_ne (tgt := 37) dX11_trade_28 rfl (fun h28 => ?_) (fun h28 => ?_)
    · refine xnN (text := "no such trade") rfl rfl (by decide +kernel) (Nat.le_of_ble_eq_true rfl) (by omega) (by decide) (by decide) dX11_trade_37 dX11_trade_40 dX11_trade_41 dX11_trade_43 dX11_trade_46 ?_
      refine ⟨⟨rfl, rfl⟩, fun q => ?_, rfl⟩
      obtain ⟨oa, ob, oab, oz, ov⟩ := q
      first | omega | exact no8 (by omega) ov
    · refine x_iload (i := 5) dX11_trade_31 rfl ?_
      refine y_ic dX11_trade_33 ⟨by decide, by decide⟩ ?_
      refine x_icmp_ne (tgt := 47) dX11_trade_34 rfl (fun h34 => ?_) (fun h34 => ?_)
      · refine x_keep [1, 1, 1, 0, 1, 1] ?_
        have q8' := (q8.resolve_left (fun q => by have := q.1; omega))
        exact h47 _ q8'.1 q8'.2 (by omega) (by omega) (by omega) (by omega)
      · refine xnN (text := "no such trade") rfl rfl (by decide +kernel) (Nat.le_of_ble_eq_true rfl) (by omega) (by decide) (by decide) dX11_trade_37 dX11_trade_40 dX11_trade_41 dX11_trade_43 dX11_trade_46 ?_
        refine ⟨⟨rfl, rfl⟩, fun q => ?_, rfl⟩
        obtain ⟨oa, ob, oab, oz, ov⟩ := q
        first | omega | exact no8 (by omega) ov
theorem c_X11_tie {t : Nat} {p y : Int} (hW : WP P) (hM : MK I P 46 t (t + 13) T) (h1t : P 1 2 = t) (hF : WF T) (hr : RW T (I 47)) : Cv G mX11_tie (d + 8) 1 6 [.inr (.inl 1), .inl p, .inl y] NO I P (qX NO (fun r I' P' => P' = P ∧ (((0 ≤ p ∧ p < T 0 1) ∧ 0 ≤ y ∧ y < T 0 5) ∧ ((tieP T (I 47) p y ∧ r = 1 ∧ I' = uA I 47 (I' 47) ∧ RE (knotS T (I 47) p y) (I' 47)) ∨ (¬ tieP T (I 47) p y ∧ r = 0 ∧ I' = uI I 1 7 (wr (I 1 7 + 1)))))) (fun c I' P' => (I' = I ∧ P' = P) ∧ ¬ ((0 ≤ p ∧ p < T 0 1) ∧ 0 ≤ y ∧ y < T 0 5) ∧ c = tEN)) := by
  obtain ⟨hq, hTo, hLo, hpt, hpl, hca, hcl⟩ := id hM
  have wT := wp_T hW hTo
  have e2 : I t 2 = T 0 5 := hca.2.2.1
  have f1 := hF.1
  refine x_enter mfX11_tie rfl (Nat.le_of_ble_eq_true rfl) (fun _ => ?_)
  refine y_aln (i := 0) dX11_tie_0 at1.ne0 rfl rfl ?_
  refine x_iload_n (i := 1) dX11_tie_1 rfl rfl ?_
  refine x_callVI (c_X11_isNobody hW hM h1t) dX11_tie_2 lkX11_190 mfX11_isNobody cfX11 at1 rfl rfl rfl rfl (Nat.le_of_ble_eq_true rfl) (fun r2 I2 P2 hr2 hf2 => ?_)
  obtain ⟨i2, p2, q2⟩ := hf2
  rw [i2, p2]
  refine x_if_ne (tgt := 23) dX11_tie_5 rfl (fun h5 => ?_) (fun h5 => ?_)
  · refine xnN (text := "no such person or tie") rfl rfl (by decide +kernel) (Nat.le_of_ble_eq_true rfl) (by omega) (by decide) (by decide) dX11_tie_23 dX11_tie_26 dX11_tie_27 dX11_tie_29 dX11_tie_32 ?_
    exact ⟨⟨rfl, rfl⟩, by omega, rfl⟩
  · refine x_iload_n (i := 2) dX11_tie_8 rfl rfl ?_
    refine x_if_lt (tgt := 23) dX11_tie_9 rfl (fun h9 => ?_) (fun h9 => ?_)
    · refine xnN (text := "no such person or tie") rfl rfl (by decide +kernel) (Nat.le_of_ble_eq_true rfl) (by omega) (by decide) (by decide) dX11_tie_23 dX11_tie_26 dX11_tie_27 dX11_tie_29 dX11_tie_32 ?_
      exact ⟨⟨rfl, rfl⟩, by omega, rfl⟩
    · refine x_iload_n (i := 2) dX11_tie_12 rfl rfl ?_
      refine y_aln (i := 0) dX11_tie_13 at1.ne0 rfl rfl ?_
      refine y_getp (z := 2) (v := t) dX11_tie_14 frX11_16 cfX11 at1 rfl rfl h1t ?_
      refine y_geti (z := 2) dX11_tie_17 frX11_153 cfX10 hTo.at rfl rfl ?_
      refine x_icmp_lt (tgt := 33) dX11_tie_20 rfl (fun h20 => ?_) (fun h20 => ?_)
      · refine y_aln (i := 0) dX11_tie_33 at1.ne0 rfl rfl ?_
        refine y_getp (z := 9) (v := 46) dX11_tie_34 frX11_46 cfX11 at1 rfl rfl (wp (v := 46) hW rfl rfl (by decide)) ?_
        refine x_iload_n (i := 1) dX11_tie_37 rfl rfl ?_
        refine x_iload_n (i := 2) dX11_tie_38 rfl rfl ?_
        refine x_callVI (c_X3_canTie hW hM hF (by omega) (by omega)) dX11_tie_39 lkX11_243 mfX3_canTie cfX3 at46 rfl rfl rfl rfl (Nat.le_of_ble_eq_true rfl) (fun r39 I39 P39 hr39 hf39 => ?_)
        obtain ⟨i39, p39, q39⟩ := hf39
        rw [i39, p39]
        refine x_if_ne (tgt := 57) dX11_tie_42 rfl (fun h42 => ?_) (fun h42 => ?_)
        · refine y_aln (i := 0) dX11_tie_57 at1.ne0 rfl rfl ?_
          refine y_getp (z := 9) (v := 46) dX11_tie_58 frX11_46 cfX11 at1 rfl rfl (wp (v := 46) hW rfl rfl (by decide)) ?_
          refine x_iload_n (i := 1) dX11_tie_61 rfl rfl ?_
          refine x_iload_n (i := 2) dX11_tie_62 rfl rfl ?_
          refine y_ic dX11_tie_63 ⟨by decide, by decide⟩ ?_
          refine x_callVV (c_X3_knot hW hM hF hr.rc (by omega) (by omega) (Or.inl rfl)) dX11_tie_64 lkX11_246 mfX3_knot cfX3 at46 rfl rfl rfl rfl (Nat.le_of_ble_eq_true rfl) (fun n64 I64 P64 hf64 => ?_)
          obtain ⟨rfl, hI64, rfl⟩ := hf64
          refine y_ic dX11_tie_67 ⟨by decide, by decide⟩ ?_
          refine x_zretX dX11_tie_68 (by omega) rfl ?_
          refine ⟨rfl, ⟨by omega, by omega⟩, Or.inl ⟨(q39.resolve_right (fun q => by have := q.1; omega)).2, rfl, ?_, ?_⟩⟩
          · rw [hI64]; show uA I 47 _ = uA I 47 (uA I 47 _ 47); rw [uA_eq]
          · rw [hI64, knx_1]; show RE _ (uA I 47 _ 47); rw [uA_eq]; exact RE.rf
        · refine y_aln (i := 0) dX11_tie_45 at1.ne0 rfl rfl ?_
          refine x_dup dX11_tie_46 rfl ?_
          refine y_geti (z := 7) dX11_tie_47 frX11_166 cfX11 at1 rfl rfl ?_
          refine y_ic dX11_tie_50 ⟨by decide, by decide⟩ ?_
          refine x_iaddW dX11_tie_51 ?_
          refine y_puti (z := 7) dX11_tie_52 frX11_166 cfX11 at1 rfl rfl rfl ?_
          refine y_ic dX11_tie_55 ⟨by decide, by decide⟩ ?_
          refine x_zretX dX11_tie_56 (by omega) rfl ?_
          exact ⟨rfl, ⟨by omega, by omega⟩, Or.inr ⟨(q39.resolve_left (fun q => by have := q.1; omega)).2, rfl, rfl⟩⟩
      · refine xnN (text := "no such person or tie") rfl rfl (by decide +kernel) (Nat.le_of_ble_eq_true rfl) (by omega) (by decide) (by decide) dX11_tie_23 dX11_tie_26 dX11_tie_27 dX11_tie_29 dX11_tie_32 ?_
        exact ⟨⟨rfl, rfl⟩, by omega, rfl⟩
end

