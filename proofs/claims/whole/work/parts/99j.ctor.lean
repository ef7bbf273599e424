/-! ===== printed by gen08: the constructors ===== -/
def LX2_16 : List PEn := [(16, 4, 17), (16, 5, 18), (16, 6, 19), (16, 7, 20), (16, 8, 21)]
theorem c_X2_init_16 {G : HX} {d : Nat} {I : Mem} {P : Ptr} (zI : ZI 16 I) (zP : ZP 16 P) : Cv G mX2_init (d + 1) 5 840 [.inr (.inl 16)] 16 I P (qV (fun n' I' P' => n' = 21 ∧ P' = chP LX2_16 P ∧ I' = uI (uI (I) 16 0 (2)) 16 1 (-1))) := by
  refine x_enter mfX2_init rfl (Nat.le_of_ble_eq_true rfl) (fun _ => ?_)
  refine y_aln (i := 0) dX2_init_0 (by decide) rfl rfl ?_
  refine x_obj dX2_init_1 jkX2_3 (by decide) (Nat.le_of_ble_eq_true rfl) (by omega) ?_
  refine y_aln (i := 0) dX2_init_4 (by decide) rfl rfl ?_
  refine y_ic dX2_init_5 ⟨by decide, by decide⟩ ?_
  refine y_puti (z := 0) dX2_init_6 frX2_9 cfX2 ⟨rfl, by decide, by decide⟩ rfl rfl rfl ?_
  refine y_aln (i := 0) dX2_init_9 (by decide) rfl rfl ?_
  refine y_ic dX2_init_10 ⟨by decide, by decide⟩ ?_
  refine y_puti (z := 1) dX2_init_11 frX2_15 cfX2 ⟨rfl, by decide, by decide⟩ rfl rfl rfl ?_
  refine y_aln (i := 0) dX2_init_14 (by decide) rfl rfl ?_
  refine y_si dX2_init_15 ⟨by decide, by decide⟩ ?_
  refine x_newI (N := 360) (kc := 4) (ks := 480) (a := 17) dX2_init_18 rfl rfl (by decide) rfl (by decide) (fun k => (show ZI 16 _ from (ZI.u (ZI.u (ZI.mo (m := 16) zI (by decide)) (by decide)) (by decide))) 17 (by decide) k) ?_
  refine y_putpF (z := 4) dX2_init_20 frX2_18 cfX2 ⟨rfl, by decide, by decide⟩ rfl ⟨rfl, rfl, rfl⟩ rfl ?_
  refine y_aln (i := 0) dX2_init_23 (by decide) rfl rfl ?_
  refine y_bi dX2_init_24 ⟨by decide, by decide⟩ ?_
  refine x_newI (N := 120) (kc := 3) (ks := 360) (a := 18) dX2_init_26 rfl rfl (by decide) rfl (by decide) (fun k => (show ZI 17 _ from (ZI.u (ZI.u (ZI.mo (m := 17) zI (by decide)) (by decide)) (by decide))) 18 (by decide) k) ?_
  refine y_putpF (z := 5) dX2_init_28 frX2_22 cfX2 ⟨rfl, by decide, by decide⟩ rfl ⟨rfl, rfl, rfl⟩ rfl ?_
  refine y_aln (i := 0) dX2_init_31 (by decide) rfl rfl ?_
  refine y_bi dX2_init_32 ⟨by decide, by decide⟩ ?_
  refine x_newI (N := 120) (kc := 2) (ks := 240) (a := 19) dX2_init_34 rfl rfl (by decide) rfl (by decide) (fun k => (show ZI 18 _ from (ZI.u (ZI.u (ZI.mo (m := 18) zI (by decide)) (by decide)) (by decide))) 19 (by decide) k) ?_
  refine y_putpF (z := 6) dX2_init_36 frX2_25 cfX2 ⟨rfl, by decide, by decide⟩ rfl ⟨rfl, rfl, rfl⟩ rfl ?_
  refine y_aln (i := 0) dX2_init_39 (by decide) rfl rfl ?_
  refine y_bi dX2_init_40 ⟨by decide, by decide⟩ ?_
  refine x_newI (N := 120) (kc := 1) (ks := 120) (a := 20) dX2_init_42 rfl rfl (by decide) rfl (by decide) (fun k => (show ZI 19 _ from (ZI.u (ZI.u (ZI.mo (m := 19) zI (by decide)) (by decide)) (by decide))) 20 (by decide) k) ?_
  refine y_putpF (z := 7) dX2_init_44 frX2_28 cfX2 ⟨rfl, by decide, by decide⟩ rfl ⟨rfl, rfl, rfl⟩ rfl ?_
  refine y_aln (i := 0) dX2_init_47 (by decide) rfl rfl ?_
  refine y_bi dX2_init_48 ⟨by decide, by decide⟩ ?_
  refine x_newZ (N := 120) (kc := 0) (ks := 0) (a := 21) dX2_init_50 rfl rfl (by decide) rfl (by decide) (fun k => (show ZI 20 _ from (ZI.u (ZI.u (ZI.mo (m := 20) zI (by decide)) (by decide)) (by decide))) 21 (by decide) k) ?_
  refine y_putpF (z := 8) dX2_init_52 frX2_31 cfX2 ⟨rfl, by decide, by decide⟩ rfl ⟨rfl, rfl, rfl⟩ rfl ?_
  refine x_vret dX2_init_55 rfl ?_
  exact ⟨rfl, rfl, rfl⟩
def LX10_3 : List PEn := [(3, 4, 4), (3, 5, 5), (3, 6, 6), (3, 7, 7), (3, 8, 8), (3, 9, 9), (3, 10, 10), (3, 11, 11), (3, 12, 12), (3, 13, 13), (3, 14, 14), (3, 15, 15)] ++ LX2_16 ++ [(3, 16, 16)]
theorem c_X10_init_3 {G : HX} {d : Nat} {I : Mem} {P : Ptr} (zI : ZI 3 I) (zP : ZP 3 P) : Cv G mX10_init (d + 2) 18 1093 [.inr (.inl 3)] 3 I P (qV (fun n' I' P' => n' = 21 ∧ P' = chP LX10_3 P ∧ Fc (fun a => 3 ≤ a ∧ a ≤ 21) I I' ∧ CA I' 3 T0 ∧ CL I' 16 T0)) := by
  refine x_enter mfX10_init rfl (Nat.le_of_ble_eq_true rfl) (fun _ => ?_)
  refine y_aln (i := 0) dX10_init_0 (by decide) rfl rfl ?_
  refine x_obj dX10_init_1 jkX10_3 (by decide) (Nat.le_of_ble_eq_true rfl) (by omega) ?_
  refine y_aln (i := 0) dX10_init_4 (by decide) rfl rfl ?_
  refine y_bi dX10_init_5 ⟨by decide, by decide⟩ ?_
  refine x_newI (N := 48) (kc := 17) (ks := 1045) (a := 4) dX10_init_7 rfl rfl (by decide) rfl (by decide) (fun k => (show ZI 3 _ from (ZI.mo (m := 3) zI (by decide))) 4 (by decide) k) ?_
  refine y_putpF (z := 4) dX10_init_9 frX10_9 cfX10 ⟨rfl, by decide, by decide⟩ rfl ⟨rfl, rfl, rfl⟩ rfl ?_
  refine y_aln (i := 0) dX10_init_12 (by decide) rfl rfl ?_
  refine y_bi dX10_init_13 ⟨by decide, by decide⟩ ?_
  refine x_newI (N := 48) (kc := 16) (ks := 997) (a := 5) dX10_init_15 rfl rfl (by decide) rfl (by decide) (fun k => (show ZI 4 _ from (ZI.mo (m := 4) zI (by decide))) 5 (by decide) k) ?_
  refine y_putpF (z := 5) dX10_init_17 frX10_15 cfX10 ⟨rfl, by decide, by decide⟩ rfl ⟨rfl, rfl, rfl⟩ rfl ?_
  refine y_aln (i := 0) dX10_init_20 (by decide) rfl rfl ?_
  refine y_bi dX10_init_21 ⟨by decide, by decide⟩ ?_
  refine x_newI (N := 6) (kc := 15) (ks := 991) (a := 6) dX10_init_23 rfl rfl (by decide) rfl (by decide) (fun k => (show ZI 5 _ from (ZI.mo (m := 5) zI (by decide))) 6 (by decide) k) ?_
  refine y_putpF (z := 6) dX10_init_25 frX10_18 cfX10 ⟨rfl, by decide, by decide⟩ rfl ⟨rfl, rfl, rfl⟩ rfl ?_
  refine y_aln (i := 0) dX10_init_28 (by decide) rfl rfl ?_
  refine y_bi dX10_init_29 ⟨by decide, by decide⟩ ?_
  refine x_newI (N := 6) (kc := 14) (ks := 985) (a := 7) dX10_init_31 rfl rfl (by decide) rfl (by decide) (fun k => (show ZI 6 _ from (ZI.mo (m := 6) zI (by decide))) 7 (by decide) k) ?_
  refine y_putpF (z := 7) dX10_init_33 frX10_21 cfX10 ⟨rfl, by decide, by decide⟩ rfl ⟨rfl, rfl, rfl⟩ rfl ?_
  refine y_aln (i := 0) dX10_init_36 (by decide) rfl rfl ?_
  refine y_bi dX10_init_37 ⟨by decide, by decide⟩ ?_
  refine x_newI (N := 36) (kc := 13) (ks := 949) (a := 8) dX10_init_39 rfl rfl (by decide) rfl (by decide) (fun k => (show ZI 7 _ from (ZI.mo (m := 7) zI (by decide))) 8 (by decide) k) ?_
  refine y_putpF (z := 8) dX10_init_41 frX10_24 cfX10 ⟨rfl, by decide, by decide⟩ rfl ⟨rfl, rfl, rfl⟩ rfl ?_
  refine y_aln (i := 0) dX10_init_44 (by decide) rfl rfl ?_
  refine y_bi dX10_init_45 ⟨by decide, by decide⟩ ?_
  refine x_newI (N := 36) (kc := 12) (ks := 913) (a := 9) dX10_init_47 rfl rfl (by decide) rfl (by decide) (fun k => (show ZI 8 _ from (ZI.mo (m := 8) zI (by decide))) 9 (by decide) k) ?_
  refine y_putpF (z := 9) dX10_init_49 frX10_27 cfX10 ⟨rfl, by decide, by decide⟩ rfl ⟨rfl, rfl, rfl⟩ rfl ?_
  refine y_aln (i := 0) dX10_init_52 (by decide) rfl rfl ?_
  refine y_bi dX10_init_53 ⟨by decide, by decide⟩ ?_
  refine x_newI (N := 36) (kc := 11) (ks := 877) (a := 10) dX10_init_55 rfl rfl (by decide) rfl (by decide) (fun k => (show ZI 9 _ from (ZI.mo (m := 9) zI (by decide))) 10 (by decide) k) ?_
  refine y_putpF (z := 10) dX10_init_57 frX10_30 cfX10 ⟨rfl, by decide, by decide⟩ rfl ⟨rfl, rfl, rfl⟩ rfl ?_
  refine y_aln (i := 0) dX10_init_60 (by decide) rfl rfl ?_
  refine y_ic dX10_init_61 ⟨by decide, by decide⟩ ?_
  refine x_newI (N := 4) (kc := 10) (ks := 873) (a := 11) dX10_init_62 rfl rfl (by decide) rfl (by decide) (fun k => (show ZI 10 _ from (ZI.mo (m := 10) zI (by decide))) 11 (by decide) k) ?_
  refine y_putpF (z := 11) dX10_init_64 frX10_33 cfX10 ⟨rfl, by decide, by decide⟩ rfl ⟨rfl, rfl, rfl⟩ rfl ?_
  refine y_aln (i := 0) dX10_init_67 (by decide) rfl rfl ?_
  refine y_ic dX10_init_68 ⟨by decide, by decide⟩ ?_
  refine x_newI (N := 4) (kc := 9) (ks := 869) (a := 12) dX10_init_69 rfl rfl (by decide) rfl (by decide) (fun k => (show ZI 11 _ from (ZI.mo (m := 11) zI (by decide))) 12 (by decide) k) ?_
  refine y_putpF (z := 12) dX10_init_71 frX10_36 cfX10 ⟨rfl, by decide, by decide⟩ rfl ⟨rfl, rfl, rfl⟩ rfl ?_
  refine y_aln (i := 0) dX10_init_74 (by decide) rfl rfl ?_
  refine y_ic dX10_init_75 ⟨by decide, by decide⟩ ?_
  refine x_newI (N := 4) (kc := 8) (ks := 865) (a := 13) dX10_init_76 rfl rfl (by decide) rfl (by decide) (fun k => (show ZI 12 _ from (ZI.mo (m := 12) zI (by decide))) 13 (by decide) k) ?_
  refine y_putpF (z := 13) dX10_init_78 frX10_39 cfX10 ⟨rfl, by decide, by decide⟩ rfl ⟨rfl, rfl, rfl⟩ rfl ?_
  refine y_aln (i := 0) dX10_init_81 (by decide) rfl rfl ?_
  refine y_bi dX10_init_82 ⟨by decide, by decide⟩ ?_
  refine x_newI (N := 8) (kc := 7) (ks := 857) (a := 14) dX10_init_84 rfl rfl (by decide) rfl (by decide) (fun k => (show ZI 13 _ from (ZI.mo (m := 13) zI (by decide))) 14 (by decide) k) ?_
  refine y_putpF (z := 14) dX10_init_86 frX10_42 cfX10 ⟨rfl, by decide, by decide⟩ rfl ⟨rfl, rfl, rfl⟩ rfl ?_
  refine y_aln (i := 0) dX10_init_89 (by decide) rfl rfl ?_
  refine y_bi dX10_init_90 ⟨by decide, by decide⟩ ?_
  refine x_newI (N := 8) (kc := 6) (ks := 849) (a := 15) dX10_init_92 rfl rfl (by decide) rfl (by decide) (fun k => (show ZI 14 _ from (ZI.mo (m := 14) zI (by decide))) 15 (by decide) k) ?_
  refine y_putpF (z := 15) dX10_init_94 frX10_45 cfX10 ⟨rfl, by decide, by decide⟩ rfl ⟨rfl, rfl, rfl⟩ rfl ?_
  refine y_aln (i := 0) dX10_init_97 (by decide) rfl rfl ?_
  refine x_new (kc := 5) (ks := 840) (ci := 2) (a := 16) dX10_init_98 clX10_48 inX2 ini_TwoForOne_Law cfX2 (by decide) rfl rfl (by decide) (fun k => (show ZI 15 _ from (ZI.mo (m := 15) zI (by decide))) 16 (by decide) k) (fun k => (show ZP 15 _ from (ZP.u (ZP.u (ZP.u (ZP.u (ZP.u (ZP.u (ZP.u (ZP.u (ZP.u (ZP.u (ZP.u (ZP.u (ZP.mo (m := 15) zP (by decide)) (by decide)) (by decide)) (by decide)) (by decide)) (by decide)) (by decide)) (by decide)) (by decide)) (by decide)) (by decide)) (by decide)) (by decide))) 16 (by decide) k) ?_
  refine x_dup dX10_init_101 rfl ?_
  refine x_callIN (kc := 0) (ks := 0) (c_X2_init_16 (d := d + 0) (ZI.mo (m := 16) zI (by decide)) (ZP.u (ZP.u (ZP.u (ZP.u (ZP.u (ZP.u (ZP.u (ZP.u (ZP.u (ZP.u (ZP.u (ZP.u (ZP.mo (m := 16) zP (by decide)) (by decide)) (by decide)) (by decide)) (by decide)) (by decide)) (by decide)) (by decide)) (by decide)) (by decide)) (by decide)) (by decide)) (by decide))) dX10_init_102 lkX10_50 mfX2_init (by decide) rfl rfl rfl rfl rfl (Nat.le_of_ble_eq_true rfl) (fun n102 I102 P102 hf102 => ?_)
  obtain ⟨rfl, rfl, rfl⟩ := hf102
  refine y_putpF (z := 16) dX10_init_105 frX10_51 cfX10 ⟨rfl, by decide, by decide⟩ rfl ⟨rfl, rfl, rfl⟩ rfl ?_
  refine y_aln (i := 0) dX10_init_108 (by decide) rfl rfl ?_
  refine x_callVV (g_X10_clear (d := d + 1) (t := 3) ⟨rfl, rfl, rfl, rfl, rfl, rfl, rfl, rfl, rfl, rfl, rfl, rfl, rfl, rfl, rfl, rfl, rfl, rfl⟩ ⟨by decide, by decide⟩) dX10_init_109 lkX10_55 mfX10_clear cfX10 ⟨rfl, by decide, by decide⟩ rfl rfl rfl rfl (Nat.le_of_ble_eq_true rfl) (fun n109 I109 P109 hf109 => ?_)
  obtain ⟨rfl, rfl, hF, h4, h48, h6, g0, g1, g2⟩ := hf109
  refine y_aln (i := 0) dX10_init_112 (by decide) rfl rfl ?_
  refine y_getp (z := 16) (v := 16) dX10_init_113 frX10_51 cfX10 ⟨rfl, by decide, by decide⟩ rfl rfl (by rfl) ?_
  refine y_aln (i := 0) dX10_init_116 (by decide) rfl rfl ?_
  refine y_geti (z := 1) dX10_init_117 frX10_58 cfX10 ⟨rfl, by decide, by decide⟩ rfl rfl ?_
  refine x_callVV (g_X2_makeOffers (d := d) (T := T0) (l := 16) ⟨rfl, rfl, rfl, rfl, rfl⟩ ⟨by decide, by decide⟩ WF0 g0 g1 h4.2.1) dX10_init_120 lkX10_62 mfX2_makeOffers cfX2 ⟨rfl, by decide, by decide⟩ rfl rfl rfl rfl (Nat.le_of_ble_eq_true rfl) (fun n120 I120 P120 hf120 => ?_)
  obtain ⟨rfl, rfl, hF2, hl, hO⟩ := hf120
  refine x_vret dX10_init_123 rfl ?_
  exact ⟨rfl, rfl, t0_fin (t := 3) ((Fc.rf.ui (by decide)).ui (by decide)) hF h4 g0 g1 g2 hF2 hl hO⟩
def LX2_35 : List PEn := [(35, 4, 36), (35, 5, 37), (35, 6, 38), (35, 7, 39), (35, 8, 40)]
theorem c_X2_init_35 {G : HX} {d : Nat} {I : Mem} {P : Ptr} (zI : ZI 35 I) (zP : ZP 35 P) : Cv G mX2_init (d + 1) 5 840 [.inr (.inl 35)] 35 I P (qV (fun n' I' P' => n' = 40 ∧ P' = chP LX2_35 P ∧ I' = uI (uI (I) 35 0 (2)) 35 1 (-1))) := by
  refine x_enter mfX2_init rfl (Nat.le_of_ble_eq_true rfl) (fun _ => ?_)
  refine y_aln (i := 0) dX2_init_0 (by decide) rfl rfl ?_
  refine x_obj dX2_init_1 jkX2_3 (by decide) (Nat.le_of_ble_eq_true rfl) (by omega) ?_
  refine y_aln (i := 0) dX2_init_4 (by decide) rfl rfl ?_
  refine y_ic dX2_init_5 ⟨by decide, by decide⟩ ?_
  refine y_puti (z := 0) dX2_init_6 frX2_9 cfX2 ⟨rfl, by decide, by decide⟩ rfl rfl rfl ?_
  refine y_aln (i := 0) dX2_init_9 (by decide) rfl rfl ?_
  refine y_ic dX2_init_10 ⟨by decide, by decide⟩ ?_
  refine y_puti (z := 1) dX2_init_11 frX2_15 cfX2 ⟨rfl, by decide, by decide⟩ rfl rfl rfl ?_
  refine y_aln (i := 0) dX2_init_14 (by decide) rfl rfl ?_
  refine y_si dX2_init_15 ⟨by decide, by decide⟩ ?_
  refine x_newI (N := 360) (kc := 4) (ks := 480) (a := 36) dX2_init_18 rfl rfl (by decide) rfl (by decide) (fun k => (show ZI 35 _ from (ZI.u (ZI.u (ZI.mo (m := 35) zI (by decide)) (by decide)) (by decide))) 36 (by decide) k) ?_
  refine y_putpF (z := 4) dX2_init_20 frX2_18 cfX2 ⟨rfl, by decide, by decide⟩ rfl ⟨rfl, rfl, rfl⟩ rfl ?_
  refine y_aln (i := 0) dX2_init_23 (by decide) rfl rfl ?_
  refine y_bi dX2_init_24 ⟨by decide, by decide⟩ ?_
  refine x_newI (N := 120) (kc := 3) (ks := 360) (a := 37) dX2_init_26 rfl rfl (by decide) rfl (by decide) (fun k => (show ZI 36 _ from (ZI.u (ZI.u (ZI.mo (m := 36) zI (by decide)) (by decide)) (by decide))) 37 (by decide) k) ?_
  refine y_putpF (z := 5) dX2_init_28 frX2_22 cfX2 ⟨rfl, by decide, by decide⟩ rfl ⟨rfl, rfl, rfl⟩ rfl ?_
  refine y_aln (i := 0) dX2_init_31 (by decide) rfl rfl ?_
  refine y_bi dX2_init_32 ⟨by decide, by decide⟩ ?_
  refine x_newI (N := 120) (kc := 2) (ks := 240) (a := 38) dX2_init_34 rfl rfl (by decide) rfl (by decide) (fun k => (show ZI 37 _ from (ZI.u (ZI.u (ZI.mo (m := 37) zI (by decide)) (by decide)) (by decide))) 38 (by decide) k) ?_
  refine y_putpF (z := 6) dX2_init_36 frX2_25 cfX2 ⟨rfl, by decide, by decide⟩ rfl ⟨rfl, rfl, rfl⟩ rfl ?_
  refine y_aln (i := 0) dX2_init_39 (by decide) rfl rfl ?_
  refine y_bi dX2_init_40 ⟨by decide, by decide⟩ ?_
  refine x_newI (N := 120) (kc := 1) (ks := 120) (a := 39) dX2_init_42 rfl rfl (by decide) rfl (by decide) (fun k => (show ZI 38 _ from (ZI.u (ZI.u (ZI.mo (m := 38) zI (by decide)) (by decide)) (by decide))) 39 (by decide) k) ?_
  refine y_putpF (z := 7) dX2_init_44 frX2_28 cfX2 ⟨rfl, by decide, by decide⟩ rfl ⟨rfl, rfl, rfl⟩ rfl ?_
  refine y_aln (i := 0) dX2_init_47 (by decide) rfl rfl ?_
  refine y_bi dX2_init_48 ⟨by decide, by decide⟩ ?_
  refine x_newZ (N := 120) (kc := 0) (ks := 0) (a := 40) dX2_init_50 rfl rfl (by decide) rfl (by decide) (fun k => (show ZI 39 _ from (ZI.u (ZI.u (ZI.mo (m := 39) zI (by decide)) (by decide)) (by decide))) 40 (by decide) k) ?_
  refine y_putpF (z := 8) dX2_init_52 frX2_31 cfX2 ⟨rfl, by decide, by decide⟩ rfl ⟨rfl, rfl, rfl⟩ rfl ?_
  refine x_vret dX2_init_55 rfl ?_
  exact ⟨rfl, rfl, rfl⟩
def LX10_22 : List PEn := [(22, 4, 23), (22, 5, 24), (22, 6, 25), (22, 7, 26), (22, 8, 27), (22, 9, 28), (22, 10, 29), (22, 11, 30), (22, 12, 31), (22, 13, 32), (22, 14, 33), (22, 15, 34)] ++ LX2_35 ++ [(22, 16, 35)]
theorem c_X10_init_22 {G : HX} {d : Nat} {I : Mem} {P : Ptr} (zI : ZI 22 I) (zP : ZP 22 P) : Cv G mX10_init (d + 2) 18 1093 [.inr (.inl 22)] 22 I P (qV (fun n' I' P' => n' = 40 ∧ P' = chP LX10_22 P ∧ Fc (fun a => 22 ≤ a ∧ a ≤ 40) I I' ∧ CA I' 22 T0 ∧ CL I' 35 T0)) := by
  refine x_enter mfX10_init rfl (Nat.le_of_ble_eq_true rfl) (fun _ => ?_)
  refine y_aln (i := 0) dX10_init_0 (by decide) rfl rfl ?_
  refine x_obj dX10_init_1 jkX10_3 (by decide) (Nat.le_of_ble_eq_true rfl) (by omega) ?_
  refine y_aln (i := 0) dX10_init_4 (by decide) rfl rfl ?_
  refine y_bi dX10_init_5 ⟨by decide, by decide⟩ ?_
  refine x_newI (N := 48) (kc := 17) (ks := 1045) (a := 23) dX10_init_7 rfl rfl (by decide) rfl (by decide) (fun k => (show ZI 22 _ from (ZI.mo (m := 22) zI (by decide))) 23 (by decide) k) ?_
  refine y_putpF (z := 4) dX10_init_9 frX10_9 cfX10 ⟨rfl, by decide, by decide⟩ rfl ⟨rfl, rfl, rfl⟩ rfl ?_
  refine y_aln (i := 0) dX10_init_12 (by decide) rfl rfl ?_
  refine y_bi dX10_init_13 ⟨by decide, by decide⟩ ?_
  refine x_newI (N := 48) (kc := 16) (ks := 997) (a := 24) dX10_init_15 rfl rfl (by decide) rfl (by decide) (fun k => (show ZI 23 _ from (ZI.mo (m := 23) zI (by decide))) 24 (by decide) k) ?_
  refine y_putpF (z := 5) dX10_init_17 frX10_15 cfX10 ⟨rfl, by decide, by decide⟩ rfl ⟨rfl, rfl, rfl⟩ rfl ?_
  refine y_aln (i := 0) dX10_init_20 (by decide) rfl rfl ?_
  refine y_bi dX10_init_21 ⟨by decide, by decide⟩ ?_
  refine x_newI (N := 6) (kc := 15) (ks := 991) (a := 25) dX10_init_23 rfl rfl (by decide) rfl (by decide) (fun k => (show ZI 24 _ from (ZI.mo (m := 24) zI (by decide))) 25 (by decide) k) ?_
  refine y_putpF (z := 6) dX10_init_25 frX10_18 cfX10 ⟨rfl, by decide, by decide⟩ rfl ⟨rfl, rfl, rfl⟩ rfl ?_
  refine y_aln (i := 0) dX10_init_28 (by decide) rfl rfl ?_
  refine y_bi dX10_init_29 ⟨by decide, by decide⟩ ?_
  refine x_newI (N := 6) (kc := 14) (ks := 985) (a := 26) dX10_init_31 rfl rfl (by decide) rfl (by decide) (fun k => (show ZI 25 _ from (ZI.mo (m := 25) zI (by decide))) 26 (by decide) k) ?_
  refine y_putpF (z := 7) dX10_init_33 frX10_21 cfX10 ⟨rfl, by decide, by decide⟩ rfl ⟨rfl, rfl, rfl⟩ rfl ?_
  refine y_aln (i := 0) dX10_init_36 (by decide) rfl rfl ?_
  refine y_bi dX10_init_37 ⟨by decide, by decide⟩ ?_
  refine x_newI (N := 36) (kc := 13) (ks := 949) (a := 27) dX10_init_39 rfl rfl (by decide) rfl (by decide) (fun k => (show ZI 26 _ from (ZI.mo (m := 26) zI (by decide))) 27 (by decide) k) ?_
  refine y_putpF (z := 8) dX10_init_41 frX10_24 cfX10 ⟨rfl, by decide, by decide⟩ rfl ⟨rfl, rfl, rfl⟩ rfl ?_
  refine y_aln (i := 0) dX10_init_44 (by decide) rfl rfl ?_
  refine y_bi dX10_init_45 ⟨by decide, by decide⟩ ?_
  refine x_newI (N := 36) (kc := 12) (ks := 913) (a := 28) dX10_init_47 rfl rfl (by decide) rfl (by decide) (fun k => (show ZI 27 _ from (ZI.mo (m := 27) zI (by decide))) 28 (by decide) k) ?_
  refine y_putpF (z := 9) dX10_init_49 frX10_27 cfX10 ⟨rfl, by decide, by decide⟩ rfl ⟨rfl, rfl, rfl⟩ rfl ?_
  refine y_aln (i := 0) dX10_init_52 (by decide) rfl rfl ?_
  refine y_bi dX10_init_53 ⟨by decide, by decide⟩ ?_
  refine x_newI (N := 36) (kc := 11) (ks := 877) (a := 29) dX10_init_55 rfl rfl (by decide) rfl (by decide) (fun k => (show ZI 28 _ from (ZI.mo (m := 28) zI (by decide))) 29 (by decide) k) ?_
  refine y_putpF (z := 10) dX10_init_57 frX10_30 cfX10 ⟨rfl, by decide, by decide⟩ rfl ⟨rfl, rfl, rfl⟩ rfl ?_
  refine y_aln (i := 0) dX10_init_60 (by decide) rfl rfl ?_
  refine y_ic dX10_init_61 ⟨by decide, by decide⟩ ?_
  refine x_newI (N := 4) (kc := 10) (ks := 873) (a := 30) dX10_init_62 rfl rfl (by decide) rfl (by decide) (fun k => (show ZI 29 _ from (ZI.mo (m := 29) zI (by decide))) 30 (by decide) k) ?_
  refine y_putpF (z := 11) dX10_init_64 frX10_33 cfX10 ⟨rfl, by decide, by decide⟩ rfl ⟨rfl, rfl, rfl⟩ rfl ?_
  refine y_aln (i := 0) dX10_init_67 (by decide) rfl rfl ?_
  refine y_ic dX10_init_68 ⟨by decide, by decide⟩ ?_
  refine x_newI (N := 4) (kc := 9) (ks := 869) (a := 31) dX10_init_69 rfl rfl (by decide) rfl (by decide) (fun k => (show ZI 30 _ from (ZI.mo (m := 30) zI (by decide))) 31 (by decide) k) ?_
  refine y_putpF (z := 12) dX10_init_71 frX10_36 cfX10 ⟨rfl, by decide, by decide⟩ rfl ⟨rfl, rfl, rfl⟩ rfl ?_
  refine y_aln (i := 0) dX10_init_74 (by decide) rfl rfl ?_
  refine y_ic dX10_init_75 ⟨by decide, by decide⟩ ?_
  refine x_newI (N := 4) (kc := 8) (ks := 865) (a := 32) dX10_init_76 rfl rfl (by decide) rfl (by decide) (fun k => (show ZI 31 _ from (ZI.mo (m := 31) zI (by decide))) 32 (by decide) k) ?_
  refine y_putpF (z := 13) dX10_init_78 frX10_39 cfX10 ⟨rfl, by decide, by decide⟩ rfl ⟨rfl, rfl, rfl⟩ rfl ?_
  refine y_aln (i := 0) dX10_init_81 (by decide) rfl rfl ?_
  refine y_bi dX10_init_82 ⟨by decide, by decide⟩ ?_
  refine x_newI (N := 8) (kc := 7) (ks := 857) (a := 33) dX10_init_84 rfl rfl (by decide) rfl (by decide) (fun k => (show ZI 32 _ from (ZI.mo (m := 32) zI (by decide))) 33 (by decide) k) ?_
  refine y_putpF (z := 14) dX10_init_86 frX10_42 cfX10 ⟨rfl, by decide, by decide⟩ rfl ⟨rfl, rfl, rfl⟩ rfl ?_
  refine y_aln (i := 0) dX10_init_89 (by decide) rfl rfl ?_
  refine y_bi dX10_init_90 ⟨by decide, by decide⟩ ?_
  refine x_newI (N := 8) (kc := 6) (ks := 849) (a := 34) dX10_init_92 rfl rfl (by decide) rfl (by decide) (fun k => (show ZI 33 _ from (ZI.mo (m := 33) zI (by decide))) 34 (by decide) k) ?_
  refine y_putpF (z := 15) dX10_init_94 frX10_45 cfX10 ⟨rfl, by decide, by decide⟩ rfl ⟨rfl, rfl, rfl⟩ rfl ?_
  refine y_aln (i := 0) dX10_init_97 (by decide) rfl rfl ?_
  refine x_new (kc := 5) (ks := 840) (ci := 2) (a := 35) dX10_init_98 clX10_48 inX2 ini_TwoForOne_Law cfX2 (by decide) rfl rfl (by decide) (fun k => (show ZI 34 _ from (ZI.mo (m := 34) zI (by decide))) 35 (by decide) k) (fun k => (show ZP 34 _ from (ZP.u (ZP.u (ZP.u (ZP.u (ZP.u (ZP.u (ZP.u (ZP.u (ZP.u (ZP.u (ZP.u (ZP.u (ZP.mo (m := 34) zP (by decide)) (by decide)) (by decide)) (by decide)) (by decide)) (by decide)) (by decide)) (by decide)) (by decide)) (by decide)) (by decide)) (by decide)) (by decide))) 35 (by decide) k) ?_
  refine x_dup dX10_init_101 rfl ?_
  refine x_callIN (kc := 0) (ks := 0) (c_X2_init_35 (d := d + 0) (ZI.mo (m := 35) zI (by decide)) (ZP.u (ZP.u (ZP.u (ZP.u (ZP.u (ZP.u (ZP.u (ZP.u (ZP.u (ZP.u (ZP.u (ZP.u (ZP.mo (m := 35) zP (by decide)) (by decide)) (by decide)) (by decide)) (by decide)) (by decide)) (by decide)) (by decide)) (by decide)) (by decide)) (by decide)) (by decide)) (by decide))) dX10_init_102 lkX10_50 mfX2_init (by decide) rfl rfl rfl rfl rfl (Nat.le_of_ble_eq_true rfl) (fun n102 I102 P102 hf102 => ?_)
  obtain ⟨rfl, rfl, rfl⟩ := hf102
  refine y_putpF (z := 16) dX10_init_105 frX10_51 cfX10 ⟨rfl, by decide, by decide⟩ rfl ⟨rfl, rfl, rfl⟩ rfl ?_
  refine y_aln (i := 0) dX10_init_108 (by decide) rfl rfl ?_
  refine x_callVV (g_X10_clear (d := d + 1) (t := 22) ⟨rfl, rfl, rfl, rfl, rfl, rfl, rfl, rfl, rfl, rfl, rfl, rfl, rfl, rfl, rfl, rfl, rfl, rfl⟩ ⟨by decide, by decide⟩) dX10_init_109 lkX10_55 mfX10_clear cfX10 ⟨rfl, by decide, by decide⟩ rfl rfl rfl rfl (Nat.le_of_ble_eq_true rfl) (fun n109 I109 P109 hf109 => ?_)
  obtain ⟨rfl, rfl, hF, h4, h48, h6, g0, g1, g2⟩ := hf109
  refine y_aln (i := 0) dX10_init_112 (by decide) rfl rfl ?_
  refine y_getp (z := 16) (v := 35) dX10_init_113 frX10_51 cfX10 ⟨rfl, by decide, by decide⟩ rfl rfl (by rfl) ?_
  refine y_aln (i := 0) dX10_init_116 (by decide) rfl rfl ?_
  refine y_geti (z := 1) dX10_init_117 frX10_58 cfX10 ⟨rfl, by decide, by decide⟩ rfl rfl ?_
  refine x_callVV (g_X2_makeOffers (d := d) (T := T0) (l := 35) ⟨rfl, rfl, rfl, rfl, rfl⟩ ⟨by decide, by decide⟩ WF0 g0 g1 h4.2.1) dX10_init_120 lkX10_62 mfX2_makeOffers cfX2 ⟨rfl, by decide, by decide⟩ rfl rfl rfl rfl (Nat.le_of_ble_eq_true rfl) (fun n120 I120 P120 hf120 => ?_)
  obtain ⟨rfl, rfl, hF2, hl, hO⟩ := hf120
  refine x_vret dX10_init_123 rfl ?_
  exact ⟨rfl, rfl, t0_fin (t := 22) ((Fc.rf.ui (by decide)).ui (by decide)) hF h4 g0 g1 g2 hF2 hl hO⟩
def LX9_42 : List PEn := [(42, 4, 43), (42, 5, 44), (42, 6, 45), (42, 0, 2)]
theorem c_X9_init_42 {G : HX} {d : Nat} {I : Mem} {P : Ptr} (zI : ZI 42 I) (zP : ZP 42 P) : Cv G mX9_init (d + 1) 3 2103 [.inr (.inl 42), .inr (.inl 2)] 42 I P (qV (fun n' I' P' => n' = 45 ∧ P' = chP LX9_42 P ∧ I' = I)) := by
  refine x_enter mfX9_init rfl (Nat.le_of_ble_eq_true rfl) (fun _ => ?_)
  refine y_aln (i := 0) dX9_init_0 (by decide) rfl rfl ?_
  refine x_obj dX9_init_1 jkX9_3 (by decide) (Nat.le_of_ble_eq_true rfl) (by omega) ?_
  refine y_aln (i := 0) dX9_init_4 (by decide) rfl rfl ?_
  refine y_si dX9_init_5 ⟨by decide, by decide⟩ ?_
  refine x_newI (N := 701) (kc := 2) (ks := 1402) (a := 43) dX9_init_8 rfl rfl (by decide) rfl (by decide) (fun k => (show ZI 42 _ from (ZI.mo (m := 42) zI (by decide))) 43 (by decide) k) ?_
  refine y_putpF (z := 4) dX9_init_10 frX9_9 cfX9 ⟨rfl, by decide, by decide⟩ rfl ⟨rfl, rfl, rfl⟩ rfl ?_
  refine y_aln (i := 0) dX9_init_13 (by decide) rfl rfl ?_
  refine y_si dX9_init_14 ⟨by decide, by decide⟩ ?_
  refine x_newI (N := 701) (kc := 1) (ks := 701) (a := 44) dX9_init_17 rfl rfl (by decide) rfl (by decide) (fun k => (show ZI 43 _ from (ZI.mo (m := 43) zI (by decide))) 44 (by decide) k) ?_
  refine y_putpF (z := 5) dX9_init_19 frX9_15 cfX9 ⟨rfl, by decide, by decide⟩ rfl ⟨rfl, rfl, rfl⟩ rfl ?_
  refine y_aln (i := 0) dX9_init_22 (by decide) rfl rfl ?_
  refine y_si dX9_init_23 ⟨by decide, by decide⟩ ?_
  refine x_newI (N := 701) (kc := 0) (ks := 0) (a := 45) dX9_init_26 rfl rfl (by decide) rfl (by decide) (fun k => (show ZI 44 _ from (ZI.mo (m := 44) zI (by decide))) 45 (by decide) k) ?_
  refine y_putpF (z := 6) dX9_init_28 frX9_18 cfX9 ⟨rfl, by decide, by decide⟩ rfl ⟨rfl, rfl, rfl⟩ rfl ?_
  refine y_aln (i := 0) dX9_init_31 (by decide) rfl rfl ?_
  refine y_aln (i := 1) dX9_init_32 (by decide) rfl rfl ?_
  refine y_putpF (z := 0) dX9_init_33 frX9_21 cfX9 ⟨rfl, by decide, by decide⟩ rfl ⟨rfl, rfl, rfl⟩ rfl ?_
  refine x_vret dX9_init_36 rfl ?_
  exact ⟨rfl, rfl, rfl⟩
def LX6_41 : List PEn := [(41, 0, 42), (41, 1, 22)]
theorem c_X6_init_41 {G : HX} {d : Nat} {I : Mem} {P : Ptr} (zI : ZI 45 I) (zP : ZP 45 P) : Cv G mX6_init (d + 1) 0 0 [.inr (.inl 41), .inr (.inl 42), .inr (.inl 22)] 45 I P (qV (fun n' I' P' => n' = 45 ∧ P' = chP LX6_41 P ∧ I' = I)) := by
  refine x_enter mfX6_init rfl (Nat.le_of_ble_eq_true rfl) (fun _ => ?_)
  refine y_aln (i := 0) dX6_init_0 (by decide) rfl rfl ?_
  refine x_obj dX6_init_1 jkX6_3 (by decide) (Nat.le_of_ble_eq_true rfl) (by omega) ?_
  refine y_aln (i := 0) dX6_init_4 (by decide) rfl rfl ?_
  refine y_aln (i := 1) dX6_init_5 (by decide) rfl rfl ?_
  refine y_putpF (z := 0) dX6_init_6 frX6_9 cfX6 ⟨rfl, by decide, by decide⟩ rfl ⟨rfl, rfl, rfl⟩ rfl ?_
  refine y_aln (i := 0) dX6_init_9 (by decide) rfl rfl ?_
  refine y_aln (i := 2) dX6_init_10 (by decide) rfl rfl ?_
  refine y_putp (z := 1) dX6_init_11 frX6_15 cfX6 ⟨rfl, by decide, by decide⟩ rfl rfl rfl ?_
  refine x_vret dX6_init_14 rfl ?_
  exact ⟨rfl, rfl, rfl⟩
def LX3_46 : List PEn := [(46, 2, 47), (46, 0, 3), (46, 1, 16)]
theorem c_X3_init_46 {G : HX} {d : Nat} {I : Mem} {P : Ptr} (zI : ZI 46 I) (zP : ZP 46 P) (hp3 : P 3 16 = 16) : Cv G mX3_init (d + 1) 1 48 [.inr (.inl 46), .inr (.inl 3)] 46 I P (qV (fun n' I' P' => n' = 47 ∧ P' = chP LX3_46 P ∧ I' = I)) := by
  refine x_enter mfX3_init rfl (Nat.le_of_ble_eq_true rfl) (fun _ => ?_)
  refine y_aln (i := 0) dX3_init_0 (by decide) rfl rfl ?_
  refine x_obj dX3_init_1 jkX3_3 (by decide) (Nat.le_of_ble_eq_true rfl) (by omega) ?_
  refine y_aln (i := 0) dX3_init_4 (by decide) rfl rfl ?_
  refine y_bi dX3_init_5 ⟨by decide, by decide⟩ ?_
  refine x_newI (N := 48) (kc := 0) (ks := 0) (a := 47) dX3_init_7 rfl rfl (by decide) rfl (by decide) (fun k => (show ZI 46 _ from (ZI.mo (m := 46) zI (by decide))) 47 (by decide) k) ?_
  refine y_putpF (z := 2) dX3_init_9 frX3_9 cfX3 ⟨rfl, by decide, by decide⟩ rfl ⟨rfl, rfl, rfl⟩ rfl ?_
  refine y_aln (i := 0) dX3_init_12 (by decide) rfl rfl ?_
  refine y_aln (i := 1) dX3_init_13 (by decide) rfl rfl ?_
  refine y_putp (z := 0) dX3_init_14 frX3_15 cfX3 ⟨rfl, by decide, by decide⟩ rfl rfl rfl ?_
  refine y_aln (i := 0) dX3_init_17 (by decide) rfl rfl ?_
  refine y_aln (i := 1) dX3_init_18 (by decide) rfl rfl ?_
  refine y_getp (z := 16) (v := 16) dX3_init_19 frX3_19 cfX10 ⟨rfl, by decide, by decide⟩ rfl rfl hp3 ?_
  refine y_putp (z := 1) dX3_init_22 frX3_25 cfX3 ⟨rfl, by decide, by decide⟩ rfl rfl rfl ?_
  refine x_vret dX3_init_25 rfl ?_
  exact ⟨rfl, rfl, rfl⟩
def LX3_48 : List PEn := [(48, 2, 49), (48, 0, 3), (48, 1, 16)]
theorem c_X3_init_48 {G : HX} {d : Nat} {I : Mem} {P : Ptr} (zI : ZI 48 I) (zP : ZP 48 P) (hp3 : P 3 16 = 16) : Cv G mX3_init (d + 1) 1 48 [.inr (.inl 48), .inr (.inl 3)] 48 I P (qV (fun n' I' P' => n' = 49 ∧ P' = chP LX3_48 P ∧ I' = I)) := by
  refine x_enter mfX3_init rfl (Nat.le_of_ble_eq_true rfl) (fun _ => ?_)
  refine y_aln (i := 0) dX3_init_0 (by decide) rfl rfl ?_
  refine x_obj dX3_init_1 jkX3_3 (by decide) (Nat.le_of_ble_eq_true rfl) (by omega) ?_
  refine y_aln (i := 0) dX3_init_4 (by decide) rfl rfl ?_
  refine y_bi dX3_init_5 ⟨by decide, by decide⟩ ?_
  refine x_newI (N := 48) (kc := 0) (ks := 0) (a := 49) dX3_init_7 rfl rfl (by decide) rfl (by decide) (fun k => (show ZI 48 _ from (ZI.mo (m := 48) zI (by decide))) 49 (by decide) k) ?_
  refine y_putpF (z := 2) dX3_init_9 frX3_9 cfX3 ⟨rfl, by decide, by decide⟩ rfl ⟨rfl, rfl, rfl⟩ rfl ?_
  refine y_aln (i := 0) dX3_init_12 (by decide) rfl rfl ?_
  refine y_aln (i := 1) dX3_init_13 (by decide) rfl rfl ?_
  refine y_putp (z := 0) dX3_init_14 frX3_15 cfX3 ⟨rfl, by decide, by decide⟩ rfl rfl rfl ?_
  refine y_aln (i := 0) dX3_init_17 (by decide) rfl rfl ?_
  refine y_aln (i := 1) dX3_init_18 (by decide) rfl rfl ?_
  refine y_getp (z := 16) (v := 16) dX3_init_19 frX3_19 cfX10 ⟨rfl, by decide, by decide⟩ rfl rfl hp3 ?_
  refine y_putp (z := 1) dX3_init_22 frX3_25 cfX3 ⟨rfl, by decide, by decide⟩ rfl rfl rfl ?_
  refine x_vret dX3_init_25 rfl ?_
  exact ⟨rfl, rfl, rfl⟩
def LX2_50 : List PEn := [(50, 4, 51), (50, 5, 52), (50, 6, 53), (50, 7, 54), (50, 8, 55)]
theorem c_X2_init_50 {G : HX} {d : Nat} {I : Mem} {P : Ptr} (zI : ZI 50 I) (zP : ZP 50 P) : Cv G mX2_init (d + 1) 5 840 [.inr (.inl 50)] 50 I P (qV (fun n' I' P' => n' = 55 ∧ P' = chP LX2_50 P ∧ I' = uI (uI (I) 50 0 (2)) 50 1 (-1))) := by
  refine x_enter mfX2_init rfl (Nat.le_of_ble_eq_true rfl) (fun _ => ?_)
  refine y_aln (i := 0) dX2_init_0 (by decide) rfl rfl ?_
  refine x_obj dX2_init_1 jkX2_3 (by decide) (Nat.le_of_ble_eq_true rfl) (by omega) ?_
  refine y_aln (i := 0) dX2_init_4 (by decide) rfl rfl ?_
  refine y_ic dX2_init_5 ⟨by decide, by decide⟩ ?_
  refine y_puti (z := 0) dX2_init_6 frX2_9 cfX2 ⟨rfl, by decide, by decide⟩ rfl rfl rfl ?_
  refine y_aln (i := 0) dX2_init_9 (by decide) rfl rfl ?_
  refine y_ic dX2_init_10 ⟨by decide, by decide⟩ ?_
  refine y_puti (z := 1) dX2_init_11 frX2_15 cfX2 ⟨rfl, by decide, by decide⟩ rfl rfl rfl ?_
  refine y_aln (i := 0) dX2_init_14 (by decide) rfl rfl ?_
  refine y_si dX2_init_15 ⟨by decide, by decide⟩ ?_
  refine x_newI (N := 360) (kc := 4) (ks := 480) (a := 51) dX2_init_18 rfl rfl (by decide) rfl (by decide) (fun k => (show ZI 50 _ from (ZI.u (ZI.u (ZI.mo (m := 50) zI (by decide)) (by decide)) (by decide))) 51 (by decide) k) ?_
  refine y_putpF (z := 4) dX2_init_20 frX2_18 cfX2 ⟨rfl, by decide, by decide⟩ rfl ⟨rfl, rfl, rfl⟩ rfl ?_
  refine y_aln (i := 0) dX2_init_23 (by decide) rfl rfl ?_
  refine y_bi dX2_init_24 ⟨by decide, by decide⟩ ?_
  refine x_newI (N := 120) (kc := 3) (ks := 360) (a := 52) dX2_init_26 rfl rfl (by decide) rfl (by decide) (fun k => (show ZI 51 _ from (ZI.u (ZI.u (ZI.mo (m := 51) zI (by decide)) (by decide)) (by decide))) 52 (by decide) k) ?_
  refine y_putpF (z := 5) dX2_init_28 frX2_22 cfX2 ⟨rfl, by decide, by decide⟩ rfl ⟨rfl, rfl, rfl⟩ rfl ?_
  refine y_aln (i := 0) dX2_init_31 (by decide) rfl rfl ?_
  refine y_bi dX2_init_32 ⟨by decide, by decide⟩ ?_
  refine x_newI (N := 120) (kc := 2) (ks := 240) (a := 53) dX2_init_34 rfl rfl (by decide) rfl (by decide) (fun k => (show ZI 52 _ from (ZI.u (ZI.u (ZI.mo (m := 52) zI (by decide)) (by decide)) (by decide))) 53 (by decide) k) ?_
  refine y_putpF (z := 6) dX2_init_36 frX2_25 cfX2 ⟨rfl, by decide, by decide⟩ rfl ⟨rfl, rfl, rfl⟩ rfl ?_
  refine y_aln (i := 0) dX2_init_39 (by decide) rfl rfl ?_
  refine y_bi dX2_init_40 ⟨by decide, by decide⟩ ?_
  refine x_newI (N := 120) (kc := 1) (ks := 120) (a := 54) dX2_init_42 rfl rfl (by decide) rfl (by decide) (fun k => (show ZI 53 _ from (ZI.u (ZI.u (ZI.mo (m := 53) zI (by decide)) (by decide)) (by decide))) 54 (by decide) k) ?_
  refine y_putpF (z := 7) dX2_init_44 frX2_28 cfX2 ⟨rfl, by decide, by decide⟩ rfl ⟨rfl, rfl, rfl⟩ rfl ?_
  refine y_aln (i := 0) dX2_init_47 (by decide) rfl rfl ?_
  refine y_bi dX2_init_48 ⟨by decide, by decide⟩ ?_
  refine x_newZ (N := 120) (kc := 0) (ks := 0) (a := 55) dX2_init_50 rfl rfl (by decide) rfl (by decide) (fun k => (show ZI 54 _ from (ZI.u (ZI.u (ZI.mo (m := 54) zI (by decide)) (by decide)) (by decide))) 55 (by decide) k) ?_
  refine y_putpF (z := 8) dX2_init_52 frX2_31 cfX2 ⟨rfl, by decide, by decide⟩ rfl ⟨rfl, rfl, rfl⟩ rfl ?_
  refine x_vret dX2_init_55 rfl ?_
  exact ⟨rfl, rfl, rfl⟩
def LX3_57 : List PEn := [(57, 2, 58), (57, 0, 3), (57, 1, 16)]
theorem c_X3_init_57 {G : HX} {d : Nat} {I : Mem} {P : Ptr} (zI : ZI 57 I) (zP : ZP 57 P) (hp3 : P 3 16 = 16) : Cv G mX3_init (d + 1) 1 48 [.inr (.inl 57), .inr (.inl 3)] 57 I P (qV (fun n' I' P' => n' = 58 ∧ P' = chP LX3_57 P ∧ I' = I)) := by
  refine x_enter mfX3_init rfl (Nat.le_of_ble_eq_true rfl) (fun _ => ?_)
  refine y_aln (i := 0) dX3_init_0 (by decide) rfl rfl ?_
  refine x_obj dX3_init_1 jkX3_3 (by decide) (Nat.le_of_ble_eq_true rfl) (by omega) ?_
  refine y_aln (i := 0) dX3_init_4 (by decide) rfl rfl ?_
  refine y_bi dX3_init_5 ⟨by decide, by decide⟩ ?_
  refine x_newI (N := 48) (kc := 0) (ks := 0) (a := 58) dX3_init_7 rfl rfl (by decide) rfl (by decide) (fun k => (show ZI 57 _ from (ZI.mo (m := 57) zI (by decide))) 58 (by decide) k) ?_
  refine y_putpF (z := 2) dX3_init_9 frX3_9 cfX3 ⟨rfl, by decide, by decide⟩ rfl ⟨rfl, rfl, rfl⟩ rfl ?_
  refine y_aln (i := 0) dX3_init_12 (by decide) rfl rfl ?_
  refine y_aln (i := 1) dX3_init_13 (by decide) rfl rfl ?_
  refine y_putp (z := 0) dX3_init_14 frX3_15 cfX3 ⟨rfl, by decide, by decide⟩ rfl rfl rfl ?_
  refine y_aln (i := 0) dX3_init_17 (by decide) rfl rfl ?_
  refine y_aln (i := 1) dX3_init_18 (by decide) rfl rfl ?_
  refine y_getp (z := 16) (v := 16) dX3_init_19 frX3_19 cfX10 ⟨rfl, by decide, by decide⟩ rfl rfl hp3 ?_
  refine y_putp (z := 1) dX3_init_22 frX3_25 cfX3 ⟨rfl, by decide, by decide⟩ rfl rfl rfl ?_
  refine x_vret dX3_init_25 rfl ?_
  exact ⟨rfl, rfl, rfl⟩
def LX7_56 : List PEn := [(56, 1, 59), (56, 2, 60), (56, 3, 61), (56, 4, 62), (56, 5, 63), (56, 0, 57)]
theorem c_X7_init_56 {G : HX} {d : Nat} {I : Mem} {P : Ptr} (zI : ZI 58 I) (zP : ZP 58 P) : Cv G mX7_init (d + 1) 5 52024 [.inr (.inl 56), .inr (.inl 57)] 58 I P (qV (fun n' I' P' => n' = 63 ∧ P' = chP LX7_56 P ∧ I' = I)) := by
  refine x_enter mfX7_init rfl (Nat.le_of_ble_eq_true rfl) (fun _ => ?_)
  refine y_aln (i := 0) dX7_init_0 (by decide) rfl rfl ?_
  refine x_obj dX7_init_1 jkX7_3 (by decide) (Nat.le_of_ble_eq_true rfl) (by omega) ?_
  refine y_aln (i := 0) dX7_init_4 (by decide) rfl rfl ?_
  refine y_ldc dX7_init_5 kcX7_9 (show _ = oI (48000) from rfl) ⟨by decide, by decide⟩ ?_
  refine x_newI (N := 48000) (kc := 4) (ks := 4024) (a := 59) dX7_init_7 rfl rfl (by decide) rfl (by decide) (fun k => (show ZI 58 _ from (ZI.mo (m := 58) zI (by decide))) 59 (by decide) k) ?_
  refine y_putpF (z := 1) dX7_init_9 frX7_10 cfX7 ⟨rfl, by decide, by decide⟩ rfl ⟨rfl, rfl, rfl⟩ rfl ?_
  refine y_aln (i := 0) dX7_init_12 (by decide) rfl rfl ?_
  refine y_si dX7_init_13 ⟨by decide, by decide⟩ ?_
  refine x_newI (N := 1000) (kc := 3) (ks := 3024) (a := 60) dX7_init_16 rfl rfl (by decide) rfl (by decide) (fun k => (show ZI 59 _ from (ZI.mo (m := 59) zI (by decide))) 60 (by decide) k) ?_
  refine y_putpF (z := 2) dX7_init_18 frX7_16 cfX7 ⟨rfl, by decide, by decide⟩ rfl ⟨rfl, rfl, rfl⟩ rfl ?_
  refine y_aln (i := 0) dX7_init_21 (by decide) rfl rfl ?_
  refine y_si dX7_init_22 ⟨by decide, by decide⟩ ?_
  refine x_newI (N := 1000) (kc := 2) (ks := 2024) (a := 61) dX7_init_25 rfl rfl (by decide) rfl (by decide) (fun k => (show ZI 60 _ from (ZI.mo (m := 60) zI (by decide))) 61 (by decide) k) ?_
  refine y_putpF (z := 3) dX7_init_27 frX7_19 cfX7 ⟨rfl, by decide, by decide⟩ rfl ⟨rfl, rfl, rfl⟩ rfl ?_
  refine y_aln (i := 0) dX7_init_30 (by decide) rfl rfl ?_
  refine y_si dX7_init_31 ⟨by decide, by decide⟩ ?_
  refine x_newI (N := 1000) (kc := 1) (ks := 1024) (a := 62) dX7_init_34 rfl rfl (by decide) rfl (by decide) (fun k => (show ZI 61 _ from (ZI.mo (m := 61) zI (by decide))) 62 (by decide) k) ?_
  refine y_putpF (z := 4) dX7_init_36 frX7_22 cfX7 ⟨rfl, by decide, by decide⟩ rfl ⟨rfl, rfl, rfl⟩ rfl ?_
  refine y_aln (i := 0) dX7_init_39 (by decide) rfl rfl ?_
  refine y_si dX7_init_40 ⟨by decide, by decide⟩ ?_
  refine x_newI (N := 1024) (kc := 0) (ks := 0) (a := 63) dX7_init_43 rfl rfl (by decide) rfl (by decide) (fun k => (show ZI 62 _ from (ZI.mo (m := 62) zI (by decide))) 63 (by decide) k) ?_
  refine y_putpF (z := 5) dX7_init_45 frX7_25 cfX7 ⟨rfl, by decide, by decide⟩ rfl ⟨rfl, rfl, rfl⟩ rfl ?_
  refine y_aln (i := 0) dX7_init_48 (by decide) rfl rfl ?_
  refine y_aln (i := 1) dX7_init_49 (by decide) rfl rfl ?_
  refine y_putpF (z := 0) dX7_init_50 frX7_28 cfX7 ⟨rfl, by decide, by decide⟩ rfl ⟨rfl, rfl, rfl⟩ rfl ?_
  refine x_vret dX7_init_53 rfl ?_
  exact ⟨rfl, rfl, rfl⟩
def LX3_65 : List PEn := [(65, 2, 66), (65, 0, 3), (65, 1, 16)]
theorem c_X3_init_65 {G : HX} {d : Nat} {I : Mem} {P : Ptr} (zI : ZI 65 I) (zP : ZP 65 P) (hp3 : P 3 16 = 16) : Cv G mX3_init (d + 1) 1 48 [.inr (.inl 65), .inr (.inl 3)] 65 I P (qV (fun n' I' P' => n' = 66 ∧ P' = chP LX3_65 P ∧ I' = I)) := by
  refine x_enter mfX3_init rfl (Nat.le_of_ble_eq_true rfl) (fun _ => ?_)
  refine y_aln (i := 0) dX3_init_0 (by decide) rfl rfl ?_
  refine x_obj dX3_init_1 jkX3_3 (by decide) (Nat.le_of_ble_eq_true rfl) (by omega) ?_
  refine y_aln (i := 0) dX3_init_4 (by decide) rfl rfl ?_
  refine y_bi dX3_init_5 ⟨by decide, by decide⟩ ?_
  refine x_newI (N := 48) (kc := 0) (ks := 0) (a := 66) dX3_init_7 rfl rfl (by decide) rfl (by decide) (fun k => (show ZI 65 _ from (ZI.mo (m := 65) zI (by decide))) 66 (by decide) k) ?_
  refine y_putpF (z := 2) dX3_init_9 frX3_9 cfX3 ⟨rfl, by decide, by decide⟩ rfl ⟨rfl, rfl, rfl⟩ rfl ?_
  refine y_aln (i := 0) dX3_init_12 (by decide) rfl rfl ?_
  refine y_aln (i := 1) dX3_init_13 (by decide) rfl rfl ?_
  refine y_putp (z := 0) dX3_init_14 frX3_15 cfX3 ⟨rfl, by decide, by decide⟩ rfl rfl rfl ?_
  refine y_aln (i := 0) dX3_init_17 (by decide) rfl rfl ?_
  refine y_aln (i := 1) dX3_init_18 (by decide) rfl rfl ?_
  refine y_getp (z := 16) (v := 16) dX3_init_19 frX3_19 cfX10 ⟨rfl, by decide, by decide⟩ rfl rfl hp3 ?_
  refine y_putp (z := 1) dX3_init_22 frX3_25 cfX3 ⟨rfl, by decide, by decide⟩ rfl rfl rfl ?_
  refine x_vret dX3_init_25 rfl ?_
  exact ⟨rfl, rfl, rfl⟩
def LX0_64 : List PEn := [(67, 0, 68), (67, 1, 69), (67, 2, 70), (67, 3, 71), (67, 4, 72), (67, 5, 73), (67, 6, 74), (67, 7, 75), (67, 8, 76), (64, 3, 67), (64, 0, 65)]
theorem c_X0_init_64 {G : HX} {d : Nat} {I : Mem} {P : Ptr} (zI : ZI 66 I) (zP : ZP 66 P) : Cv G mX0_init (d + 1) 10 63 [.inr (.inl 64), .inr (.inl 65)] 66 I P (qV (fun n' I' P' => n' = 76 ∧ P' = chP LX0_64 P ∧ I' = I)) := by
  refine x_enter mfX0_init rfl (Nat.le_of_ble_eq_true rfl) (fun _ => ?_)
  refine y_aln (i := 0) dX0_init_0 (by decide) rfl rfl ?_
  refine x_obj dX0_init_1 jkX0_3 (by decide) (Nat.le_of_ble_eq_true rfl) (by omega) ?_
  refine y_aln (i := 0) dX0_init_4 (by decide) rfl rfl ?_
  refine y_bi dX0_init_5 ⟨by decide, by decide⟩ ?_
  refine y_bi dX0_init_7 ⟨by decide, by decide⟩ ?_
  refine x_mna (N := 9) (M := 6) (kc := 0) (ks := 0) (a := 67) dX0_init_9 clX0_9 rfl (by decide) rfl rfl (by decide) (by decide) rfl (by decide) (fun b hb k => zI b (by omega) k) ?_
  rw [show uR P 67 9 = chP R67 P from uR67 (fun k => zP 67 (by decide) k)]
  refine y_putpF (z := 3) dX0_init_13 frX0_11 cfX0 ⟨rfl, by decide, by decide⟩ rfl ⟨rfl, rfl, rfl⟩ rfl ?_
  refine y_aln (i := 0) dX0_init_16 (by decide) rfl rfl ?_
  refine y_aln (i := 1) dX0_init_17 (by decide) rfl rfl ?_
  refine y_putpF (z := 0) dX0_init_18 frX0_16 cfX0 ⟨rfl, by decide, by decide⟩ rfl ⟨rfl, rfl, rfl⟩ rfl ?_
  refine x_vret dX0_init_21 rfl ?_
  exact ⟨rfl, rfl, rfl⟩
def LX5_77 : List PEn := [(77, 0, 78), (77, 1, 79)]
theorem c_X5_init_77 {G : HX} {d : Nat} {I : Mem} {P : Ptr} (zI : ZI 77 I) (zP : ZP 77 P) : Cv G mX5_init (d + 1) 2 16 [.inr (.inl 77)] 77 I P (qV (fun n' I' P' => n' = 79 ∧ P' = chP LX5_77 P ∧ I' = I)) := by
  refine x_enter mfX5_init rfl (Nat.le_of_ble_eq_true rfl) (fun _ => ?_)
  refine y_aln (i := 0) dX5_init_0 (by decide) rfl rfl ?_
  refine x_obj dX5_init_1 jkX5_3 (by decide) (Nat.le_of_ble_eq_true rfl) (by omega) ?_
  refine y_aln (i := 0) dX5_init_4 (by decide) rfl rfl ?_
  refine y_bi dX5_init_5 ⟨by decide, by decide⟩ ?_
  refine x_newI (N := 8) (kc := 1) (ks := 8) (a := 78) dX5_init_7 rfl rfl (by decide) rfl (by decide) (fun k => (show ZI 77 _ from (ZI.mo (m := 77) zI (by decide))) 78 (by decide) k) ?_
  refine y_putpF (z := 0) dX5_init_9 frX5_9 cfX5 ⟨rfl, by decide, by decide⟩ rfl ⟨rfl, rfl, rfl⟩ rfl ?_
  refine y_aln (i := 0) dX5_init_12 (by decide) rfl rfl ?_
  refine y_bi dX5_init_13 ⟨by decide, by decide⟩ ?_
  refine x_newI (N := 8) (kc := 0) (ks := 0) (a := 79) dX5_init_15 rfl rfl (by decide) rfl (by decide) (fun k => (show ZI 78 _ from (ZI.mo (m := 78) zI (by decide))) 79 (by decide) k) ?_
  refine y_putpF (z := 1) dX5_init_17 frX5_15 cfX5 ⟨rfl, by decide, by decide⟩ rfl ⟨rfl, rfl, rfl⟩ rfl ?_
  refine x_vret dX5_init_20 rfl ?_
  exact ⟨rfl, rfl, rfl⟩
def LX8_80 : List PEn := [(80, 0, 81), (80, 1, 82)]
theorem c_X8_init_80 {G : HX} {d : Nat} {I : Mem} {P : Ptr} (zI : ZI 80 I) (zP : ZP 80 P) : Cv G mX8_init (d + 1) 2 56 [.inr (.inl 80)] 80 I P (qV (fun n' I' P' => n' = 82 ∧ P' = chP LX8_80 P ∧ I' = I)) := by
  refine x_enter mfX8_init rfl (Nat.le_of_ble_eq_true rfl) (fun _ => ?_)
  refine y_aln (i := 0) dX8_init_0 (by decide) rfl rfl ?_
  refine x_obj dX8_init_1 jkX8_3 (by decide) (Nat.le_of_ble_eq_true rfl) (by omega) ?_
  refine y_aln (i := 0) dX8_init_4 (by decide) rfl rfl ?_
  refine y_bi dX8_init_5 ⟨by decide, by decide⟩ ?_
  refine x_newI (N := 48) (kc := 1) (ks := 8) (a := 81) dX8_init_7 rfl rfl (by decide) rfl (by decide) (fun k => (show ZI 80 _ from (ZI.mo (m := 80) zI (by decide))) 81 (by decide) k) ?_
  refine y_putpF (z := 0) dX8_init_9 frX8_9 cfX8 ⟨rfl, by decide, by decide⟩ rfl ⟨rfl, rfl, rfl⟩ rfl ?_
  refine y_aln (i := 0) dX8_init_12 (by decide) rfl rfl ?_
  refine y_bi dX8_init_13 ⟨by decide, by decide⟩ ?_
  refine x_newI (N := 8) (kc := 0) (ks := 0) (a := 82) dX8_init_15 rfl rfl (by decide) rfl (by decide) (fun k => (show ZI 81 _ from (ZI.mo (m := 81) zI (by decide))) 82 (by decide) k) ?_
  refine y_putpF (z := 1) dX8_init_17 frX8_15 cfX8 ⟨rfl, by decide, by decide⟩ rfl ⟨rfl, rfl, rfl⟩ rfl ?_
  refine x_vret dX8_init_20 rfl ?_
  exact ⟨rfl, rfl, rfl⟩
def LX4_83 : List PEn := [(83, 0, 84)]
theorem c_X4_init_83 {G : HX} {d : Nat} {I : Mem} {P : Ptr} (zI : ZI 83 I) (zP : ZP 83 P) : Cv G mX4_init (d + 1) 1 5 [.inr (.inl 83)] 83 I P (qV (fun n' I' P' => n' = 84 ∧ P' = chP LX4_83 P ∧ I' = I)) := by
  refine x_enter mfX4_init rfl (Nat.le_of_ble_eq_true rfl) (fun _ => ?_)
  refine y_aln (i := 0) dX4_init_0 (by decide) rfl rfl ?_
  refine x_obj dX4_init_1 jkX4_3 (by decide) (Nat.le_of_ble_eq_true rfl) (by omega) ?_
  refine y_aln (i := 0) dX4_init_4 (by decide) rfl rfl ?_
  refine y_ic dX4_init_5 ⟨by decide, by decide⟩ ?_
  refine x_newI (N := 5) (kc := 0) (ks := 0) (a := 84) dX4_init_6 rfl rfl (by decide) rfl (by decide) (fun k => (show ZI 83 _ from (ZI.mo (m := 83) zI (by decide))) 84 (by decide) k) ?_
  refine y_putpF (z := 0) dX4_init_8 frX4_9 cfX4 ⟨rfl, by decide, by decide⟩ rfl ⟨rfl, rfl, rfl⟩ rfl ?_
  refine x_vret dX4_init_11 rfl ?_
  exact ⟨rfl, rfl, rfl⟩
def LX1_85 : List PEn := [(85, 0, 86), (85, 2, 87), (85, 4, 88), (85, 6, 89), (85, 8, 90)]
theorem c_X1_init_85 {G : HX} {d : Nat} {I : Mem} {P : Ptr} (zI : ZI 85 I) (zP : ZP 85 P) : Cv G mX1_init (d + 1) 5 1109 [.inr (.inl 85)] 85 I P (qV (fun n' I' P' => n' = 90 ∧ P' = chP LX1_85 P ∧ I' = I)) := by
  refine x_enter mfX1_init rfl (Nat.le_of_ble_eq_true rfl) (fun _ => ?_)
  refine y_aln (i := 0) dX1_init_0 (by decide) rfl rfl ?_
  refine x_obj dX1_init_1 jkX1_3 (by decide) (Nat.le_of_ble_eq_true rfl) (by omega) ?_
  refine y_aln (i := 0) dX1_init_4 (by decide) rfl rfl ?_
  refine y_si dX1_init_5 ⟨by decide, by decide⟩ ?_
  refine x_newI (N := 1000) (kc := 4) (ks := 109) (a := 86) dX1_init_8 rfl rfl (by decide) rfl (by decide) (fun k => (show ZI 85 _ from (ZI.mo (m := 85) zI (by decide))) 86 (by decide) k) ?_
  refine y_putpF (z := 0) dX1_init_10 frX1_9 cfX1 ⟨rfl, by decide, by decide⟩ rfl ⟨rfl, rfl, rfl⟩ rfl ?_
  refine y_aln (i := 0) dX1_init_13 (by decide) rfl rfl ?_
  refine y_bi dX1_init_14 ⟨by decide, by decide⟩ ?_
  refine x_newI (N := 8) (kc := 3) (ks := 101) (a := 87) dX1_init_16 rfl rfl (by decide) rfl (by decide) (fun k => (show ZI 86 _ from (ZI.mo (m := 86) zI (by decide))) 87 (by decide) k) ?_
  refine y_putpF (z := 2) dX1_init_18 frX1_15 cfX1 ⟨rfl, by decide, by decide⟩ rfl ⟨rfl, rfl, rfl⟩ rfl ?_
  refine y_aln (i := 0) dX1_init_21 (by decide) rfl rfl ?_
  refine y_ic dX1_init_22 ⟨by decide, by decide⟩ ?_
  refine x_newI (N := 5) (kc := 2) (ks := 96) (a := 88) dX1_init_23 rfl rfl (by decide) rfl (by decide) (fun k => (show ZI 87 _ from (ZI.mo (m := 87) zI (by decide))) 88 (by decide) k) ?_
  refine y_putpF (z := 4) dX1_init_25 frX1_18 cfX1 ⟨rfl, by decide, by decide⟩ rfl ⟨rfl, rfl, rfl⟩ rfl ?_
  refine y_aln (i := 0) dX1_init_28 (by decide) rfl rfl ?_
  refine y_bi dX1_init_29 ⟨by decide, by decide⟩ ?_
  refine x_newI (N := 48) (kc := 1) (ks := 48) (a := 89) dX1_init_31 rfl rfl (by decide) rfl (by decide) (fun k => (show ZI 88 _ from (ZI.mo (m := 88) zI (by decide))) 89 (by decide) k) ?_
  refine y_putpF (z := 6) dX1_init_33 frX1_21 cfX1 ⟨rfl, by decide, by decide⟩ rfl ⟨rfl, rfl, rfl⟩ rfl ?_
  refine y_aln (i := 0) dX1_init_36 (by decide) rfl rfl ?_
  refine y_bi dX1_init_37 ⟨by decide, by decide⟩ ?_
  refine x_newI (N := 48) (kc := 0) (ks := 0) (a := 90) dX1_init_39 rfl rfl (by decide) rfl (by decide) (fun k => (show ZI 89 _ from (ZI.mo (m := 89) zI (by decide))) 90 (by decide) k) ?_
  refine y_putpF (z := 8) dX1_init_41 frX1_24 cfX1 ⟨rfl, by decide, by decide⟩ rfl ⟨rfl, rfl, rfl⟩ rfl ?_
  refine x_vret dX1_init_44 rfl ?_
  exact ⟨rfl, rfl, rfl⟩
def LX11_1 : List PEn := [(1, 0, 2)] ++ LX10_3 ++ [(1, 2, 3)] ++ LX10_22 ++ [(1, 3, 22)] ++ LX9_42 ++ LX6_41 ++ [(1, 8, 41)] ++ LX3_46 ++ [(1, 9, 46)] ++ LX3_48 ++ [(1, 10, 48)] ++ LX2_50 ++ [(1, 11, 50)] ++ LX3_57 ++ LX7_56 ++ [(1, 12, 56)] ++ LX3_65 ++ LX0_64 ++ [(1, 13, 64)] ++ LX5_77 ++ [(1, 14, 77)] ++ LX8_80 ++ [(1, 15, 80)] ++ LX4_83 ++ [(1, 16, 83)] ++ LX1_85 ++ [(1, 17, 85)]
theorem c_X11_init_1 {G : HX} {d : Nat} {I : Mem} {P : Ptr} (zI : ZI 1 I) (zP : ZP 1 P) : Cv G mX11_init (d + 3) 89 59423 [.inr (.inl 1)] 1 I P (qV (fun n' I' P' => n' = 90 ∧ P' = chP LX11_1 P ∧ Fc (fun a => a = 1 ∨ (3 ≤ a ∧ a ≤ 40) ∨ a = 50) I I' ∧ I' 1 = u1 (I 1) 4 (-1) ∧ CA I' 3 T0 ∧ CL I' 16 T0)) := by
  refine x_enter mfX11_init rfl (Nat.le_of_ble_eq_true rfl) (fun _ => ?_)
  refine y_aln (i := 0) dX11_init_0 (by decide) rfl rfl ?_
  refine x_obj dX11_init_1 jkX11_3 (by decide) (Nat.le_of_ble_eq_true rfl) (by omega) ?_
  refine y_aln (i := 0) dX11_init_4 (by decide) rfl rfl ?_
  refine y_si dX11_init_5 ⟨by decide, by decide⟩ ?_
  refine x_newB (N := 700) (kc := 88) (ks := 58723) (a := 2) dX11_init_8 rfl rfl (by decide) rfl (by decide) (fun k => (show ZI 1 _ from (ZI.mo (m := 1) zI (by decide))) 2 (by decide) k) ?_
  refine y_putpF (z := 0) dX11_init_10 frX11_9 cfX11 ⟨rfl, by decide, by decide⟩ rfl ⟨rfl, rfl, rfl⟩ rfl ?_
  refine y_aln (i := 0) dX11_init_13 (by decide) rfl rfl ?_
  refine x_new (kc := 87) (ks := 58706) (ci := 10) (a := 3) dX11_init_14 clX11_13 inX10 ini_TwoForOne_Town cfX10 (by decide) rfl rfl (by decide) (fun k => (show ZI 2 _ from (ZI.mo (m := 2) zI (by decide))) 3 (by decide) k) (fun k => (show ZP 2 _ from (ZP.u (ZP.mo (m := 2) zP (by decide)) (by decide))) 3 (by decide) k) ?_
  refine x_dup dX11_init_17 rfl ?_
  refine x_callI (kc := 69) (ks := 57613) (c_X10_init_3 (d := d + 0) (ZI.mo (m := 3) zI (by decide)) (ZP.u (ZP.mo (m := 3) zP (by decide)) (by decide))) dX11_init_18 lkX11_15 mfX10_init (by decide) rfl rfl rfl rfl rfl (Nat.le_of_ble_eq_true rfl) (fun n18 I18 P18 hf18 => ?_)
  obtain ⟨rfl, rfl, hF18, hA18, hL18⟩ := hf18
  have zI18 : ZI 21 I18 := ZP.fc zI hF18 (by decide) (fun a ha => by omega)
  refine y_putp (z := 2) dX11_init_21 frX11_16 cfX11 ⟨rfl, by decide, by decide⟩ rfl rfl rfl ?_
  refine y_aln (i := 0) dX11_init_24 (by decide) rfl rfl ?_
  refine x_new (kc := 68) (ks := 57596) (ci := 10) (a := 22) dX11_init_25 clX11_13 inX10 ini_TwoForOne_Town cfX10 (by decide) rfl rfl (by decide) (fun k => (show ZI 21 _ from (ZI.mo (m := 21) zI18 (by decide))) 22 (by decide) k) (fun k => (show ZP 21 _ from (ZP.u (ZP.ch (ZP.u (ZP.mo (m := 21) zP (by decide)) (by decide)) (by decide)) (by decide))) 22 (by decide) k) ?_
  refine x_dup dX11_init_28 rfl ?_
  refine x_callI (kc := 50) (ks := 56503) (c_X10_init_22 (d := d + 0) (ZI.mo (m := 22) zI18 (by decide)) (ZP.u (ZP.ch (ZP.u (ZP.mo (m := 22) zP (by decide)) (by decide)) (by decide)) (by decide))) dX11_init_29 lkX11_15 mfX10_init (by decide) rfl rfl rfl rfl rfl (Nat.le_of_ble_eq_true rfl) (fun n29 I29 P29 hf29 => ?_)
  obtain ⟨rfl, rfl, hF29, hA29, hL29⟩ := hf29
  have zI29 : ZI 40 I29 := ZP.fc zI18 hF29 (by decide) (fun a ha => by omega)
  refine y_putp (z := 3) dX11_init_32 frX11_20 cfX11 ⟨rfl, by decide, by decide⟩ rfl rfl rfl ?_
  refine y_aln (i := 0) dX11_init_35 (by decide) rfl rfl ?_
  refine y_ic dX11_init_36 ⟨by decide, by decide⟩ ?_
  refine y_puti (z := 4) dX11_init_37 frX11_23 cfX11 ⟨rfl, by decide, by decide⟩ rfl rfl rfl ?_
  refine y_aln (i := 0) dX11_init_40 (by decide) rfl rfl ?_
  refine x_new (kc := 49) (ks := 56492) (ci := 6) (a := 41) dX11_init_41 clX11_27 inX6 ini_TwoForOne_Reader cfX6 (by decide) rfl rfl (by decide) (fun k => (show ZI 40 _ from (ZI.u (ZI.mo (m := 40) zI29 (by decide)) (by decide))) 41 (by decide) k) (fun k => (show ZP 40 _ from (ZP.u (ZP.ch (ZP.u (ZP.ch (ZP.u (ZP.mo (m := 40) zP (by decide)) (by decide)) (by decide)) (by decide)) (by decide)) (by decide))) 41 (by decide) k) ?_
  refine x_dup dX11_init_44 rfl ?_
  refine x_new (kc := 48) (ks := 56485) (ci := 9) (a := 42) dX11_init_45 clX11_29 inX9 ini_TwoForOne_Tokens cfX9 (by decide) rfl rfl (by decide) (fun k => (show ZI 41 _ from (ZI.u (ZI.mo (m := 41) zI29 (by decide)) (by decide))) 42 (by decide) k) (fun k => (show ZP 41 _ from (ZP.u (ZP.ch (ZP.u (ZP.ch (ZP.u (ZP.mo (m := 41) zP (by decide)) (by decide)) (by decide)) (by decide)) (by decide)) (by decide))) 42 (by decide) k) ?_
  refine x_dup dX11_init_48 rfl ?_
  refine y_aln (i := 0) dX11_init_49 (by decide) rfl rfl ?_
  refine y_getp (z := 0) (v := 2) dX11_init_50 frX11_9 cfX11 ⟨rfl, by decide, by decide⟩ rfl rfl (by rfl) ?_
  refine x_callI (kc := 45) (ks := 54382) (c_X9_init_42 (d := d + 1) (ZI.u (ZI.mo (m := 42) zI29 (by decide)) (by decide)) (ZP.u (ZP.ch (ZP.u (ZP.ch (ZP.u (ZP.mo (m := 42) zP (by decide)) (by decide)) (by decide)) (by decide)) (by decide)) (by decide))) dX11_init_53 lkX11_31 mfX9_init (by decide) rfl rfl rfl rfl rfl (Nat.le_of_ble_eq_true rfl) (fun n53 I53 P53 hf53 => ?_)
  obtain ⟨rfl, rfl, rfl⟩ := hf53
  refine y_aln (i := 0) dX11_init_56 (by decide) rfl rfl ?_
  refine y_getp (z := 3) (v := 22) dX11_init_57 frX11_20 cfX11 ⟨rfl, by decide, by decide⟩ rfl rfl (by rfl) ?_
  refine x_callI (kc := 45) (ks := 54382) (c_X6_init_41 (d := d + 1) (ZI.u (ZI.mo (m := 45) zI29 (by decide)) (by decide)) (ZP.ch (ZP.u (ZP.ch (ZP.u (ZP.ch (ZP.u (ZP.mo (m := 45) zP (by decide)) (by decide)) (by decide)) (by decide)) (by decide)) (by decide)) (by decide))) dX11_init_60 lkX11_34 mfX6_init (by decide) rfl rfl rfl rfl rfl (Nat.le_of_ble_eq_true rfl) (fun n60 I60 P60 hf60 => ?_)
  obtain ⟨rfl, rfl, rfl⟩ := hf60
  refine y_putpF (z := 8) dX11_init_63 frX11_37 cfX11 ⟨rfl, by decide, by decide⟩ rfl ⟨rfl, rfl, rfl⟩ rfl ?_
  refine y_aln (i := 0) dX11_init_66 (by decide) rfl rfl ?_
  refine x_new (kc := 44) (ks := 54374) (ci := 3) (a := 46) dX11_init_67 clX11_41 inX3 ini_TwoForOne_Market cfX3 (by decide) rfl rfl (by decide) (fun k => (show ZI 45 _ from (ZI.u (ZI.mo (m := 45) zI29 (by decide)) (by decide))) 46 (by decide) k) (fun k => (show ZP 45 _ from (ZP.u (ZP.ch (ZP.ch (ZP.u (ZP.ch (ZP.u (ZP.ch (ZP.u (ZP.mo (m := 45) zP (by decide)) (by decide)) (by decide)) (by decide)) (by decide)) (by decide)) (by decide)) (by decide)) (by decide))) 46 (by decide) k) ?_
  refine x_dup dX11_init_70 rfl ?_
  refine y_aln (i := 0) dX11_init_71 (by decide) rfl rfl ?_
  refine y_getp (z := 2) (v := 3) dX11_init_72 frX11_16 cfX11 ⟨rfl, by decide, by decide⟩ rfl rfl (by rfl) ?_
  refine x_callI (kc := 43) (ks := 54326) (c_X3_init_46 (d := d + 1) (ZI.u (ZI.mo (m := 46) zI29 (by decide)) (by decide)) (ZP.u (ZP.ch (ZP.ch (ZP.u (ZP.ch (ZP.u (ZP.ch (ZP.u (ZP.mo (m := 46) zP (by decide)) (by decide)) (by decide)) (by decide)) (by decide)) (by decide)) (by decide)) (by decide)) (by decide)) (by rfl)) dX11_init_75 lkX11_43 mfX3_init (by decide) rfl rfl rfl rfl rfl (Nat.le_of_ble_eq_true rfl) (fun n75 I75 P75 hf75 => ?_)
  obtain ⟨rfl, rfl, rfl⟩ := hf75
  refine y_putpF (z := 9) dX11_init_78 frX11_46 cfX11 ⟨rfl, by decide, by decide⟩ rfl ⟨rfl, rfl, rfl⟩ rfl ?_
  refine y_aln (i := 0) dX11_init_81 (by decide) rfl rfl ?_
  refine x_new (kc := 42) (ks := 54318) (ci := 3) (a := 48) dX11_init_82 clX11_41 inX3 ini_TwoForOne_Market cfX3 (by decide) rfl rfl (by decide) (fun k => (show ZI 47 _ from (ZI.u (ZI.mo (m := 47) zI29 (by decide)) (by decide))) 48 (by decide) k) (fun k => (show ZP 47 _ from (ZP.u (ZP.ch (ZP.u (ZP.ch (ZP.ch (ZP.u (ZP.ch (ZP.u (ZP.ch (ZP.u (ZP.mo (m := 47) zP (by decide)) (by decide)) (by decide)) (by decide)) (by decide)) (by decide)) (by decide)) (by decide)) (by decide)) (by decide)) (by decide))) 48 (by decide) k) ?_
  refine x_dup dX11_init_85 rfl ?_
  refine y_aln (i := 0) dX11_init_86 (by decide) rfl rfl ?_
  refine y_getp (z := 2) (v := 3) dX11_init_87 frX11_16 cfX11 ⟨rfl, by decide, by decide⟩ rfl rfl (by rfl) ?_
  refine x_callI (kc := 41) (ks := 54270) (c_X3_init_48 (d := d + 1) (ZI.u (ZI.mo (m := 48) zI29 (by decide)) (by decide)) (ZP.u (ZP.ch (ZP.u (ZP.ch (ZP.ch (ZP.u (ZP.ch (ZP.u (ZP.ch (ZP.u (ZP.mo (m := 48) zP (by decide)) (by decide)) (by decide)) (by decide)) (by decide)) (by decide)) (by decide)) (by decide)) (by decide)) (by decide)) (by decide)) (by rfl)) dX11_init_90 lkX11_43 mfX3_init (by decide) rfl rfl rfl rfl rfl (Nat.le_of_ble_eq_true rfl) (fun n90 I90 P90 hf90 => ?_)
  obtain ⟨rfl, rfl, rfl⟩ := hf90
  refine y_putpF (z := 10) dX11_init_93 frX11_50 cfX11 ⟨rfl, by decide, by decide⟩ rfl ⟨rfl, rfl, rfl⟩ rfl ?_
  refine y_aln (i := 0) dX11_init_96 (by decide) rfl rfl ?_
  refine x_new (kc := 40) (ks := 54261) (ci := 2) (a := 50) dX11_init_97 clX11_53 inX2 ini_TwoForOne_Law cfX2 (by decide) rfl rfl (by decide) (fun k => (show ZI 49 _ from (ZI.u (ZI.mo (m := 49) zI29 (by decide)) (by decide))) 50 (by decide) k) (fun k => (show ZP 49 _ from (ZP.u (ZP.ch (ZP.u (ZP.ch (ZP.u (ZP.ch (ZP.ch (ZP.u (ZP.ch (ZP.u (ZP.ch (ZP.u (ZP.mo (m := 49) zP (by decide)) (by decide)) (by decide)) (by decide)) (by decide)) (by decide)) (by decide)) (by decide)) (by decide)) (by decide)) (by decide)) (by decide)) (by decide))) 50 (by decide) k) ?_
  refine x_dup dX11_init_100 rfl ?_
  refine x_callIN (kc := 35) (ks := 53421) (c_X2_init_50 (d := d + 1) (ZI.u (ZI.mo (m := 50) zI29 (by decide)) (by decide)) (ZP.u (ZP.ch (ZP.u (ZP.ch (ZP.u (ZP.ch (ZP.ch (ZP.u (ZP.ch (ZP.u (ZP.ch (ZP.u (ZP.mo (m := 50) zP (by decide)) (by decide)) (by decide)) (by decide)) (by decide)) (by decide)) (by decide)) (by decide)) (by decide)) (by decide)) (by decide)) (by decide)) (by decide))) dX11_init_101 lkX11_55 mfX2_init (by decide) rfl rfl rfl rfl rfl (Nat.le_of_ble_eq_true rfl) (fun n101 I101 P101 hf101 => ?_)
  obtain ⟨rfl, rfl, rfl⟩ := hf101
  refine y_putpF (z := 11) dX11_init_104 frX11_56 cfX11 ⟨rfl, by decide, by decide⟩ rfl ⟨rfl, rfl, rfl⟩ rfl ?_
  refine y_aln (i := 0) dX11_init_107 (by decide) rfl rfl ?_
  refine x_new (kc := 34) (ks := 53409) (ci := 7) (a := 56) dX11_init_108 clX11_60 inX7 ini_TwoForOne_Search cfX7 (by decide) rfl rfl (by decide) (fun k => (show ZI 55 _ from (ZI.u (ZI.u (ZI.u (ZI.mo (m := 55) zI29 (by decide)) (by decide)) (by decide)) (by decide))) 56 (by decide) k) (fun k => (show ZP 55 _ from (ZP.u (ZP.ch (ZP.u (ZP.ch (ZP.u (ZP.ch (ZP.u (ZP.ch (ZP.ch (ZP.u (ZP.ch (ZP.u (ZP.ch (ZP.u (ZP.mo (m := 55) zP (by decide)) (by decide)) (by decide)) (by decide)) (by decide)) (by decide)) (by decide)) (by decide)) (by decide)) (by decide)) (by decide)) (by decide)) (by decide)) (by decide)) (by decide))) 56 (by decide) k) ?_
  refine x_dup dX11_init_111 rfl ?_
  refine x_new (kc := 33) (ks := 53401) (ci := 3) (a := 57) dX11_init_112 clX11_41 inX3 ini_TwoForOne_Market cfX3 (by decide) rfl rfl (by decide) (fun k => (show ZI 56 _ from (ZI.u (ZI.u (ZI.u (ZI.mo (m := 56) zI29 (by decide)) (by decide)) (by decide)) (by decide))) 57 (by decide) k) (fun k => (show ZP 56 _ from (ZP.u (ZP.ch (ZP.u (ZP.ch (ZP.u (ZP.ch (ZP.u (ZP.ch (ZP.ch (ZP.u (ZP.ch (ZP.u (ZP.ch (ZP.u (ZP.mo (m := 56) zP (by decide)) (by decide)) (by decide)) (by decide)) (by decide)) (by decide)) (by decide)) (by decide)) (by decide)) (by decide)) (by decide)) (by decide)) (by decide)) (by decide)) (by decide))) 57 (by decide) k) ?_
  refine x_dup dX11_init_115 rfl ?_
  refine y_aln (i := 0) dX11_init_116 (by decide) rfl rfl ?_
  refine y_getp (z := 2) (v := 3) dX11_init_117 frX11_16 cfX11 ⟨rfl, by decide, by decide⟩ rfl rfl (by rfl) ?_
  refine x_callI (kc := 32) (ks := 53353) (c_X3_init_57 (d := d + 1) (ZI.u (ZI.u (ZI.u (ZI.mo (m := 57) zI29 (by decide)) (by decide)) (by decide)) (by decide)) (ZP.u (ZP.ch (ZP.u (ZP.ch (ZP.u (ZP.ch (ZP.u (ZP.ch (ZP.ch (ZP.u (ZP.ch (ZP.u (ZP.ch (ZP.u (ZP.mo (m := 57) zP (by decide)) (by decide)) (by decide)) (by decide)) (by decide)) (by decide)) (by decide)) (by decide)) (by decide)) (by decide)) (by decide)) (by decide)) (by decide)) (by decide)) (by decide)) (by rfl)) dX11_init_120 lkX11_43 mfX3_init (by decide) rfl rfl rfl rfl rfl (Nat.le_of_ble_eq_true rfl) (fun n120 I120 P120 hf120 => ?_)
  obtain ⟨rfl, rfl, rfl⟩ := hf120
  refine x_callI (kc := 27) (ks := 1329) (c_X7_init_56 (d := d + 1) (ZI.u (ZI.u (ZI.u (ZI.mo (m := 58) zI29 (by decide)) (by decide)) (by decide)) (by decide)) (ZP.ch (ZP.u (ZP.ch (ZP.u (ZP.ch (ZP.u (ZP.ch (ZP.u (ZP.ch (ZP.ch (ZP.u (ZP.ch (ZP.u (ZP.ch (ZP.u (ZP.mo (m := 58) zP (by decide)) (by decide)) (by decide)) (by decide)) (by decide)) (by decide)) (by decide)) (by decide)) (by decide)) (by decide)) (by decide)) (by decide)) (by decide)) (by decide)) (by decide)) (by decide))) dX11_init_123 lkX11_62 mfX7_init (by decide) rfl rfl rfl rfl rfl (Nat.le_of_ble_eq_true rfl) (fun n123 I123 P123 hf123 => ?_)
  obtain ⟨rfl, rfl, rfl⟩ := hf123
  refine y_putpF (z := 12) dX11_init_126 frX11_65 cfX11 ⟨rfl, by decide, by decide⟩ rfl ⟨rfl, rfl, rfl⟩ rfl ?_
  refine y_aln (i := 0) dX11_init_129 (by decide) rfl rfl ?_
  refine x_new (kc := 26) (ks := 1325) (ci := 0) (a := 64) dX11_init_130 clX11_69 inX0 ini_TwoForOne_Foresight cfX0 (by decide) rfl rfl (by decide) (fun k => (show ZI 63 _ from (ZI.u (ZI.u (ZI.u (ZI.mo (m := 63) zI29 (by decide)) (by decide)) (by decide)) (by decide))) 64 (by decide) k) (fun k => (show ZP 63 _ from (ZP.u (ZP.ch (ZP.ch (ZP.u (ZP.ch (ZP.u (ZP.ch (ZP.u (ZP.ch (ZP.u (ZP.ch (ZP.ch (ZP.u (ZP.ch (ZP.u (ZP.ch (ZP.u (ZP.mo (m := 63) zP (by decide)) (by decide)) (by decide)) (by decide)) (by decide)) (by decide)) (by decide)) (by decide)) (by decide)) (by decide)) (by decide)) (by decide)) (by decide)) (by decide)) (by decide)) (by decide)) (by decide)) (by decide))) 64 (by decide) k) ?_
  refine x_dup dX11_init_133 rfl ?_
  refine x_new (kc := 25) (ks := 1317) (ci := 3) (a := 65) dX11_init_134 clX11_41 inX3 ini_TwoForOne_Market cfX3 (by decide) rfl rfl (by decide) (fun k => (show ZI 64 _ from (ZI.u (ZI.u (ZI.u (ZI.mo (m := 64) zI29 (by decide)) (by decide)) (by decide)) (by decide))) 65 (by decide) k) (fun k => (show ZP 64 _ from (ZP.u (ZP.ch (ZP.ch (ZP.u (ZP.ch (ZP.u (ZP.ch (ZP.u (ZP.ch (ZP.u (ZP.ch (ZP.ch (ZP.u (ZP.ch (ZP.u (ZP.ch (ZP.u (ZP.mo (m := 64) zP (by decide)) (by decide)) (by decide)) (by decide)) (by decide)) (by decide)) (by decide)) (by decide)) (by decide)) (by decide)) (by decide)) (by decide)) (by decide)) (by decide)) (by decide)) (by decide)) (by decide)) (by decide))) 65 (by decide) k) ?_
  refine x_dup dX11_init_137 rfl ?_
  refine y_aln (i := 0) dX11_init_138 (by decide) rfl rfl ?_
  refine y_getp (z := 2) (v := 3) dX11_init_139 frX11_16 cfX11 ⟨rfl, by decide, by decide⟩ rfl rfl (by rfl) ?_
  refine x_callI (kc := 24) (ks := 1269) (c_X3_init_65 (d := d + 1) (ZI.u (ZI.u (ZI.u (ZI.mo (m := 65) zI29 (by decide)) (by decide)) (by decide)) (by decide)) (ZP.u (ZP.ch (ZP.ch (ZP.u (ZP.ch (ZP.u (ZP.ch (ZP.u (ZP.ch (ZP.u (ZP.ch (ZP.ch (ZP.u (ZP.ch (ZP.u (ZP.ch (ZP.u (ZP.mo (m := 65) zP (by decide)) (by decide)) (by decide)) (by decide)) (by decide)) (by decide)) (by decide)) (by decide)) (by decide)) (by decide)) (by decide)) (by decide)) (by decide)) (by decide)) (by decide)) (by decide)) (by decide)) (by decide)) (by rfl)) dX11_init_142 lkX11_43 mfX3_init (by decide) rfl rfl rfl rfl rfl (Nat.le_of_ble_eq_true rfl) (fun n142 I142 P142 hf142 => ?_)
  obtain ⟨rfl, rfl, rfl⟩ := hf142
  refine x_callI (kc := 14) (ks := 1206) (c_X0_init_64 (d := d + 1) (ZI.u (ZI.u (ZI.u (ZI.mo (m := 66) zI29 (by decide)) (by decide)) (by decide)) (by decide)) (ZP.ch (ZP.u (ZP.ch (ZP.ch (ZP.u (ZP.ch (ZP.u (ZP.ch (ZP.u (ZP.ch (ZP.u (ZP.ch (ZP.ch (ZP.u (ZP.ch (ZP.u (ZP.ch (ZP.u (ZP.mo (m := 66) zP (by decide)) (by decide)) (by decide)) (by decide)) (by decide)) (by decide)) (by decide)) (by decide)) (by decide)) (by decide)) (by decide)) (by decide)) (by decide)) (by decide)) (by decide)) (by decide)) (by decide)) (by decide)) (by decide))) dX11_init_145 lkX11_71 mfX0_init (by decide) rfl rfl rfl rfl rfl (Nat.le_of_ble_eq_true rfl) (fun n145 I145 P145 hf145 => ?_)
  obtain ⟨rfl, rfl, rfl⟩ := hf145
  refine y_putpF (z := 13) dX11_init_148 frX11_72 cfX11 ⟨rfl, by decide, by decide⟩ rfl ⟨rfl, rfl, rfl⟩ rfl ?_
  refine y_aln (i := 0) dX11_init_151 (by decide) rfl rfl ?_
  refine x_new (kc := 13) (ks := 1202) (ci := 5) (a := 77) dX11_init_152 clX11_76 inX5 ini_TwoForOne_Purse cfX5 (by decide) rfl rfl (by decide) (fun k => (show ZI 76 _ from (ZI.u (ZI.u (ZI.u (ZI.mo (m := 76) zI29 (by decide)) (by decide)) (by decide)) (by decide))) 77 (by decide) k) (fun k => (show ZP 76 _ from (ZP.u (ZP.ch (ZP.ch (ZP.u (ZP.ch (ZP.ch (ZP.u (ZP.ch (ZP.u (ZP.ch (ZP.u (ZP.ch (ZP.u (ZP.ch (ZP.ch (ZP.u (ZP.ch (ZP.u (ZP.ch (ZP.u (ZP.mo (m := 76) zP (by decide)) (by decide)) (by decide)) (by decide)) (by decide)) (by decide)) (by decide)) (by decide)) (by decide)) (by decide)) (by decide)) (by decide)) (by decide)) (by decide)) (by decide)) (by decide)) (by decide)) (by decide)) (by decide)) (by decide)) (by decide))) 77 (by decide) k) ?_
  refine x_dup dX11_init_155 rfl ?_
  refine x_callIN (kc := 11) (ks := 1186) (c_X5_init_77 (d := d + 1) (ZI.u (ZI.u (ZI.u (ZI.mo (m := 77) zI29 (by decide)) (by decide)) (by decide)) (by decide)) (ZP.u (ZP.ch (ZP.ch (ZP.u (ZP.ch (ZP.ch (ZP.u (ZP.ch (ZP.u (ZP.ch (ZP.u (ZP.ch (ZP.u (ZP.ch (ZP.ch (ZP.u (ZP.ch (ZP.u (ZP.ch (ZP.u (ZP.mo (m := 77) zP (by decide)) (by decide)) (by decide)) (by decide)) (by decide)) (by decide)) (by decide)) (by decide)) (by decide)) (by decide)) (by decide)) (by decide)) (by decide)) (by decide)) (by decide)) (by decide)) (by decide)) (by decide)) (by decide)) (by decide)) (by decide))) dX11_init_156 lkX11_78 mfX5_init (by decide) rfl rfl rfl rfl rfl (Nat.le_of_ble_eq_true rfl) (fun n156 I156 P156 hf156 => ?_)
  obtain ⟨rfl, rfl, rfl⟩ := hf156
  refine y_putpF (z := 14) dX11_init_159 frX11_79 cfX11 ⟨rfl, by decide, by decide⟩ rfl ⟨rfl, rfl, rfl⟩ rfl ?_
  refine y_aln (i := 0) dX11_init_162 (by decide) rfl rfl ?_
  refine x_new (kc := 10) (ks := 1182) (ci := 8) (a := 80) dX11_init_163 clX11_83 inX8 ini_TwoForOne_Sharing cfX8 (by decide) rfl rfl (by decide) (fun k => (show ZI 79 _ from (ZI.u (ZI.u (ZI.u (ZI.mo (m := 79) zI29 (by decide)) (by decide)) (by decide)) (by decide))) 80 (by decide) k) (fun k => (show ZP 79 _ from (ZP.u (ZP.ch (ZP.u (ZP.ch (ZP.ch (ZP.u (ZP.ch (ZP.ch (ZP.u (ZP.ch (ZP.u (ZP.ch (ZP.u (ZP.ch (ZP.u (ZP.ch (ZP.ch (ZP.u (ZP.ch (ZP.u (ZP.ch (ZP.u (ZP.mo (m := 79) zP (by decide)) (by decide)) (by decide)) (by decide)) (by decide)) (by decide)) (by decide)) (by decide)) (by decide)) (by decide)) (by decide)) (by decide)) (by decide)) (by decide)) (by decide)) (by decide)) (by decide)) (by decide)) (by decide)) (by decide)) (by decide)) (by decide)) (by decide))) 80 (by decide) k) ?_
  refine x_dup dX11_init_166 rfl ?_
  refine x_callIN (kc := 8) (ks := 1126) (c_X8_init_80 (d := d + 1) (ZI.u (ZI.u (ZI.u (ZI.mo (m := 80) zI29 (by decide)) (by decide)) (by decide)) (by decide)) (ZP.u (ZP.ch (ZP.u (ZP.ch (ZP.ch (ZP.u (ZP.ch (ZP.ch (ZP.u (ZP.ch (ZP.u (ZP.ch (ZP.u (ZP.ch (ZP.u (ZP.ch (ZP.ch (ZP.u (ZP.ch (ZP.u (ZP.ch (ZP.u (ZP.mo (m := 80) zP (by decide)) (by decide)) (by decide)) (by decide)) (by decide)) (by decide)) (by decide)) (by decide)) (by decide)) (by decide)) (by decide)) (by decide)) (by decide)) (by decide)) (by decide)) (by decide)) (by decide)) (by decide)) (by decide)) (by decide)) (by decide)) (by decide)) (by decide))) dX11_init_167 lkX11_85 mfX8_init (by decide) rfl rfl rfl rfl rfl (Nat.le_of_ble_eq_true rfl) (fun n167 I167 P167 hf167 => ?_)
  obtain ⟨rfl, rfl, rfl⟩ := hf167
  refine y_putpF (z := 15) dX11_init_170 frX11_86 cfX11 ⟨rfl, by decide, by decide⟩ rfl ⟨rfl, rfl, rfl⟩ rfl ?_
  refine y_aln (i := 0) dX11_init_173 (by decide) rfl rfl ?_
  refine x_new (kc := 7) (ks := 1124) (ci := 4) (a := 83) dX11_init_174 clX11_90 inX4 ini_TwoForOne_Orders cfX4 (by decide) rfl rfl (by decide) (fun k => (show ZI 82 _ from (ZI.u (ZI.u (ZI.u (ZI.mo (m := 82) zI29 (by decide)) (by decide)) (by decide)) (by decide))) 83 (by decide) k) (fun k => (show ZP 82 _ from (ZP.u (ZP.ch (ZP.u (ZP.ch (ZP.u (ZP.ch (ZP.ch (ZP.u (ZP.ch (ZP.ch (ZP.u (ZP.ch (ZP.u (ZP.ch (ZP.u (ZP.ch (ZP.u (ZP.ch (ZP.ch (ZP.u (ZP.ch (ZP.u (ZP.ch (ZP.u (ZP.mo (m := 82) zP (by decide)) (by decide)) (by decide)) (by decide)) (by decide)) (by decide)) (by decide)) (by decide)) (by decide)) (by decide)) (by decide)) (by decide)) (by decide)) (by decide)) (by decide)) (by decide)) (by decide)) (by decide)) (by decide)) (by decide)) (by decide)) (by decide)) (by decide)) (by decide)) (by decide))) 83 (by decide) k) ?_
  refine x_dup dX11_init_177 rfl ?_
  refine x_callIN (kc := 6) (ks := 1119) (c_X4_init_83 (d := d + 1) (ZI.u (ZI.u (ZI.u (ZI.mo (m := 83) zI29 (by decide)) (by decide)) (by decide)) (by decide)) (ZP.u (ZP.ch (ZP.u (ZP.ch (ZP.u (ZP.ch (ZP.ch (ZP.u (ZP.ch (ZP.ch (ZP.u (ZP.ch (ZP.u (ZP.ch (ZP.u (ZP.ch (ZP.u (ZP.ch (ZP.ch (ZP.u (ZP.ch (ZP.u (ZP.ch (ZP.u (ZP.mo (m := 83) zP (by decide)) (by decide)) (by decide)) (by decide)) (by decide)) (by decide)) (by decide)) (by decide)) (by decide)) (by decide)) (by decide)) (by decide)) (by decide)) (by decide)) (by decide)) (by decide)) (by decide)) (by decide)) (by decide)) (by decide)) (by decide)) (by decide)) (by decide)) (by decide)) (by decide))) dX11_init_178 lkX11_92 mfX4_init (by decide) rfl rfl rfl rfl rfl (Nat.le_of_ble_eq_true rfl) (fun n178 I178 P178 hf178 => ?_)
  obtain ⟨rfl, rfl, rfl⟩ := hf178
  refine y_putpF (z := 16) dX11_init_181 frX11_93 cfX11 ⟨rfl, by decide, by decide⟩ rfl ⟨rfl, rfl, rfl⟩ rfl ?_
  refine y_aln (i := 0) dX11_init_184 (by decide) rfl rfl ?_
  refine x_new (kc := 5) (ks := 1109) (ci := 1) (a := 85) dX11_init_185 clX11_97 inX1 ini_TwoForOne_Kept cfX1 (by decide) rfl rfl (by decide) (fun k => (show ZI 84 _ from (ZI.u (ZI.u (ZI.u (ZI.mo (m := 84) zI29 (by decide)) (by decide)) (by decide)) (by decide))) 85 (by decide) k) (fun k => (show ZP 84 _ from (ZP.u (ZP.ch (ZP.u (ZP.ch (ZP.u (ZP.ch (ZP.u (ZP.ch (ZP.ch (ZP.u (ZP.ch (ZP.ch (ZP.u (ZP.ch (ZP.u (ZP.ch (ZP.u (ZP.ch (ZP.u (ZP.ch (ZP.ch (ZP.u (ZP.ch (ZP.u (ZP.ch (ZP.u (ZP.mo (m := 84) zP (by decide)) (by decide)) (by decide)) (by decide)) (by decide)) (by decide)) (by decide)) (by decide)) (by decide)) (by decide)) (by decide)) (by decide)) (by decide)) (by decide)) (by decide)) (by decide)) (by decide)) (by decide)) (by decide)) (by decide)) (by decide)) (by decide)) (by decide)) (by decide)) (by decide)) (by decide)) (by decide))) 85 (by decide) k) ?_
  refine x_dup dX11_init_188 rfl ?_
  refine x_callIN (kc := 0) (ks := 0) (c_X1_init_85 (d := d + 1) (ZI.u (ZI.u (ZI.u (ZI.mo (m := 85) zI29 (by decide)) (by decide)) (by decide)) (by decide)) (ZP.u (ZP.ch (ZP.u (ZP.ch (ZP.u (ZP.ch (ZP.u (ZP.ch (ZP.ch (ZP.u (ZP.ch (ZP.ch (ZP.u (ZP.ch (ZP.u (ZP.ch (ZP.u (ZP.ch (ZP.u (ZP.ch (ZP.ch (ZP.u (ZP.ch (ZP.u (ZP.ch (ZP.u (ZP.mo (m := 85) zP (by decide)) (by decide)) (by decide)) (by decide)) (by decide)) (by decide)) (by decide)) (by decide)) (by decide)) (by decide)) (by decide)) (by decide)) (by decide)) (by decide)) (by decide)) (by decide)) (by decide)) (by decide)) (by decide)) (by decide)) (by decide)) (by decide)) (by decide)) (by decide)) (by decide)) (by decide)) (by decide))) dX11_init_189 lkX11_99 mfX1_init (by decide) rfl rfl rfl rfl rfl (Nat.le_of_ble_eq_true rfl) (fun n189 I189 P189 hf189 => ?_)
  obtain ⟨rfl, rfl, rfl⟩ := hf189
  refine y_putpF (z := 17) dX11_init_192 frX11_100 cfX11 ⟨rfl, by decide, by decide⟩ rfl ⟨rfl, rfl, rfl⟩ rfl ?_
  refine x_vret dX11_init_195 rfl ?_
  exact ⟨rfl, rfl, x11_fin hF18 hF29 hA18 hL18 rfl⟩
def LX12_91 : List PEn := [(91, 8, 92), (91, 9, 93), (91, 10, 94), (91, 11, 95), (91, 12, 96), (91, 13, 97), (91, 14, 98), (91, 15, 99), (91, 16, 100), (91, 35, 101), (91, 36, 102), (91, 37, 103), (91, 38, 104), (91, 39, 105), (91, 40, 106), (91, 41, 107), (91, 42, 108), (91, 43, 109), (91, 44, 110), (91, 45, 111), (91, 46, 112), (91, 48, 113), (91, 49, 114), (91, 50, 115), (91, 51, 116), (91, 52, 117), (91, 53, 118), (91, 54, 119), (91, 55, 120), (91, 62, 121), (91, 63, 122), (91, 64, 123), (91, 65, 124), (91, 67, 125), (91, 68, 126), (91, 69, 127), (91, 74, 128), (91, 75, 129), (91, 77, 130), (91, 78, 131), (91, 79, 132), (91, 80, 133), (91, 81, 134), (91, 82, 135), (91, 83, 136), (91, 84, 137), (91, 85, 138), (91, 86, 139), (91, 87, 140), (91, 88, 141), (91, 90, 142), (91, 91, 143), (91, 93, 144)]
theorem c_X12_init_91 {G : HX} {d : Nat} {I : Mem} {P : Ptr} (zI : ZI 91 I) (zP : ZP 91 P) : Cv G mX12_init (d + 1) 53 60299 [.inr (.inl 91)] 91 I P (qV (fun n' I' P' => n' = 144 ∧ P' = chP LX12_91 P ∧ I' = uI (uI (uI (uI (I) 91 2 (1)) 91 3 (2)) 91 4 (-1)) 91 19 (-1))) := by
  refine x_enter mfX12_init rfl (Nat.le_of_ble_eq_true rfl) (fun _ => ?_)
  refine y_aln (i := 0) dX12_init_0 (by decide) rfl rfl ?_
  refine x_obj dX12_init_1 jkX12_1 (by decide) (Nat.le_of_ble_eq_true rfl) (by omega) ?_
  refine y_aln (i := 0) dX12_init_4 (by decide) rfl rfl ?_
  refine y_ic dX12_init_5 ⟨by decide, by decide⟩ ?_
  refine y_puti (z := 2) dX12_init_6 frX12_7 cfX12 ⟨rfl, by decide, by decide⟩ rfl rfl rfl ?_
  refine y_aln (i := 0) dX12_init_9 (by decide) rfl rfl ?_
  refine y_ic dX12_init_10 ⟨by decide, by decide⟩ ?_
  refine y_puti (z := 3) dX12_init_11 frX12_13 cfX12 ⟨rfl, by decide, by decide⟩ rfl rfl rfl ?_
  refine y_aln (i := 0) dX12_init_14 (by decide) rfl rfl ?_
  refine y_ic dX12_init_15 ⟨by decide, by decide⟩ ?_
  refine y_puti (z := 4) dX12_init_16 frX12_16 cfX12 ⟨rfl, by decide, by decide⟩ rfl rfl rfl ?_
  refine y_aln (i := 0) dX12_init_19 (by decide) rfl rfl ?_
  refine y_bi dX12_init_20 ⟨by decide, by decide⟩ ?_
  refine x_newI (N := 48) (kc := 52) (ks := 60251) (a := 92) dX12_init_22 rfl rfl (by decide) rfl (by decide) (fun k => (show ZI 91 _ from (ZI.u (ZI.u (ZI.u (ZI.mo (m := 91) zI (by decide)) (by decide)) (by decide)) (by decide))) 92 (by decide) k) ?_
  refine y_putpF (z := 8) dX12_init_24 frX12_19 cfX12 ⟨rfl, by decide, by decide⟩ rfl ⟨rfl, rfl, rfl⟩ rfl ?_
  refine y_aln (i := 0) dX12_init_27 (by decide) rfl rfl ?_
  refine y_bi dX12_init_28 ⟨by decide, by decide⟩ ?_
  refine x_newI (N := 6) (kc := 51) (ks := 60245) (a := 93) dX12_init_30 rfl rfl (by decide) rfl (by decide) (fun k => (show ZI 92 _ from (ZI.u (ZI.u (ZI.u (ZI.mo (m := 92) zI (by decide)) (by decide)) (by decide)) (by decide))) 93 (by decide) k) ?_
  refine y_putpF (z := 9) dX12_init_32 frX12_23 cfX12 ⟨rfl, by decide, by decide⟩ rfl ⟨rfl, rfl, rfl⟩ rfl ?_
  refine y_aln (i := 0) dX12_init_35 (by decide) rfl rfl ?_
  refine y_bi dX12_init_36 ⟨by decide, by decide⟩ ?_
  refine x_newI (N := 6) (kc := 50) (ks := 60239) (a := 94) dX12_init_38 rfl rfl (by decide) rfl (by decide) (fun k => (show ZI 93 _ from (ZI.u (ZI.u (ZI.u (ZI.mo (m := 93) zI (by decide)) (by decide)) (by decide)) (by decide))) 94 (by decide) k) ?_
  refine y_putpF (z := 10) dX12_init_40 frX12_26 cfX12 ⟨rfl, by decide, by decide⟩ rfl ⟨rfl, rfl, rfl⟩ rfl ?_
  refine y_aln (i := 0) dX12_init_43 (by decide) rfl rfl ?_
  refine y_bi dX12_init_44 ⟨by decide, by decide⟩ ?_
  refine x_newI (N := 108) (kc := 49) (ks := 60131) (a := 95) dX12_init_46 rfl rfl (by decide) rfl (by decide) (fun k => (show ZI 94 _ from (ZI.u (ZI.u (ZI.u (ZI.mo (m := 94) zI (by decide)) (by decide)) (by decide)) (by decide))) 95 (by decide) k) ?_
  refine y_putpF (z := 11) dX12_init_48 frX12_29 cfX12 ⟨rfl, by decide, by decide⟩ rfl ⟨rfl, rfl, rfl⟩ rfl ?_
  refine y_aln (i := 0) dX12_init_51 (by decide) rfl rfl ?_
  refine y_bi dX12_init_52 ⟨by decide, by decide⟩ ?_
  refine x_newI (N := 12) (kc := 48) (ks := 60119) (a := 96) dX12_init_54 rfl rfl (by decide) rfl (by decide) (fun k => (show ZI 95 _ from (ZI.u (ZI.u (ZI.u (ZI.mo (m := 95) zI (by decide)) (by decide)) (by decide)) (by decide))) 96 (by decide) k) ?_
  refine y_putpF (z := 12) dX12_init_56 frX12_32 cfX12 ⟨rfl, by decide, by decide⟩ rfl ⟨rfl, rfl, rfl⟩ rfl ?_
  refine y_aln (i := 0) dX12_init_59 (by decide) rfl rfl ?_
  refine y_bi dX12_init_60 ⟨by decide, by decide⟩ ?_
  refine x_newI (N := 16) (kc := 47) (ks := 60103) (a := 97) dX12_init_62 rfl rfl (by decide) rfl (by decide) (fun k => (show ZI 96 _ from (ZI.u (ZI.u (ZI.u (ZI.mo (m := 96) zI (by decide)) (by decide)) (by decide)) (by decide))) 97 (by decide) k) ?_
  refine y_putpF (z := 13) dX12_init_64 frX12_35 cfX12 ⟨rfl, by decide, by decide⟩ rfl ⟨rfl, rfl, rfl⟩ rfl ?_
  refine y_aln (i := 0) dX12_init_67 (by decide) rfl rfl ?_
  refine y_bi dX12_init_68 ⟨by decide, by decide⟩ ?_
  refine x_newI (N := 48) (kc := 46) (ks := 60055) (a := 98) dX12_init_70 rfl rfl (by decide) rfl (by decide) (fun k => (show ZI 97 _ from (ZI.u (ZI.u (ZI.u (ZI.mo (m := 97) zI (by decide)) (by decide)) (by decide)) (by decide))) 98 (by decide) k) ?_
  refine y_putpF (z := 14) dX12_init_72 frX12_38 cfX12 ⟨rfl, by decide, by decide⟩ rfl ⟨rfl, rfl, rfl⟩ rfl ?_
  refine y_aln (i := 0) dX12_init_75 (by decide) rfl rfl ?_
  refine y_ic dX12_init_76 ⟨by decide, by decide⟩ ?_
  refine x_newI (N := 3) (kc := 45) (ks := 60052) (a := 99) dX12_init_77 rfl rfl (by decide) rfl (by decide) (fun k => (show ZI 98 _ from (ZI.u (ZI.u (ZI.u (ZI.mo (m := 98) zI (by decide)) (by decide)) (by decide)) (by decide))) 99 (by decide) k) ?_
  refine y_putpF (z := 15) dX12_init_79 frX12_41 cfX12 ⟨rfl, by decide, by decide⟩ rfl ⟨rfl, rfl, rfl⟩ rfl ?_
  refine y_aln (i := 0) dX12_init_82 (by decide) rfl rfl ?_
  refine y_si dX12_init_83 ⟨by decide, by decide⟩ ?_
  refine x_newI (N := 700) (kc := 44) (ks := 59352) (a := 100) dX12_init_86 rfl rfl (by decide) rfl (by decide) (fun k => (show ZI 99 _ from (ZI.u (ZI.u (ZI.u (ZI.mo (m := 99) zI (by decide)) (by decide)) (by decide)) (by decide))) 100 (by decide) k) ?_
  refine y_putpF (z := 16) dX12_init_88 frX12_44 cfX12 ⟨rfl, by decide, by decide⟩ rfl ⟨rfl, rfl, rfl⟩ rfl ?_
  refine y_aln (i := 0) dX12_init_91 (by decide) rfl rfl ?_
  refine y_ic dX12_init_92 ⟨by decide, by decide⟩ ?_
  refine y_puti (z := 19) dX12_init_93 frX12_47 cfX12 ⟨rfl, by decide, by decide⟩ rfl rfl rfl ?_
  refine y_aln (i := 0) dX12_init_96 (by decide) rfl rfl ?_
  refine y_bi dX12_init_97 ⟨by decide, by decide⟩ ?_
  refine x_newI (N := 48) (kc := 43) (ks := 59304) (a := 101) dX12_init_99 rfl rfl (by decide) rfl (by decide) (fun k => (show ZI 100 _ from (ZI.u (ZI.u (ZI.u (ZI.u (ZI.mo (m := 100) zI (by decide)) (by decide)) (by decide)) (by decide)) (by decide))) 101 (by decide) k) ?_
  refine y_putpF (z := 35) dX12_init_101 frX12_50 cfX12 ⟨rfl, by decide, by decide⟩ rfl ⟨rfl, rfl, rfl⟩ rfl ?_
  refine y_aln (i := 0) dX12_init_104 (by decide) rfl rfl ?_
  refine y_bi dX12_init_105 ⟨by decide, by decide⟩ ?_
  refine x_newI (N := 6) (kc := 42) (ks := 59298) (a := 102) dX12_init_107 rfl rfl (by decide) rfl (by decide) (fun k => (show ZI 101 _ from (ZI.u (ZI.u (ZI.u (ZI.u (ZI.mo (m := 101) zI (by decide)) (by decide)) (by decide)) (by decide)) (by decide))) 102 (by decide) k) ?_
  refine y_putpF (z := 36) dX12_init_109 frX12_53 cfX12 ⟨rfl, by decide, by decide⟩ rfl ⟨rfl, rfl, rfl⟩ rfl ?_
  refine y_aln (i := 0) dX12_init_112 (by decide) rfl rfl ?_
  refine y_bi dX12_init_113 ⟨by decide, by decide⟩ ?_
  refine x_newI (N := 6) (kc := 41) (ks := 59292) (a := 103) dX12_init_115 rfl rfl (by decide) rfl (by decide) (fun k => (show ZI 102 _ from (ZI.u (ZI.u (ZI.u (ZI.u (ZI.mo (m := 102) zI (by decide)) (by decide)) (by decide)) (by decide)) (by decide))) 103 (by decide) k) ?_
  refine y_putpF (z := 37) dX12_init_117 frX12_56 cfX12 ⟨rfl, by decide, by decide⟩ rfl ⟨rfl, rfl, rfl⟩ rfl ?_
  refine y_aln (i := 0) dX12_init_120 (by decide) rfl rfl ?_
  refine y_bi dX12_init_121 ⟨by decide, by decide⟩ ?_
  refine x_newI (N := 108) (kc := 40) (ks := 59184) (a := 104) dX12_init_123 rfl rfl (by decide) rfl (by decide) (fun k => (show ZI 103 _ from (ZI.u (ZI.u (ZI.u (ZI.u (ZI.mo (m := 103) zI (by decide)) (by decide)) (by decide)) (by decide)) (by decide))) 104 (by decide) k) ?_
  refine y_putpF (z := 38) dX12_init_125 frX12_59 cfX12 ⟨rfl, by decide, by decide⟩ rfl ⟨rfl, rfl, rfl⟩ rfl ?_
  refine y_aln (i := 0) dX12_init_128 (by decide) rfl rfl ?_
  refine y_bi dX12_init_129 ⟨by decide, by decide⟩ ?_
  refine x_newI (N := 12) (kc := 39) (ks := 59172) (a := 105) dX12_init_131 rfl rfl (by decide) rfl (by decide) (fun k => (show ZI 104 _ from (ZI.u (ZI.u (ZI.u (ZI.u (ZI.mo (m := 104) zI (by decide)) (by decide)) (by decide)) (by decide)) (by decide))) 105 (by decide) k) ?_
  refine y_putpF (z := 39) dX12_init_133 frX12_62 cfX12 ⟨rfl, by decide, by decide⟩ rfl ⟨rfl, rfl, rfl⟩ rfl ?_
  refine y_aln (i := 0) dX12_init_136 (by decide) rfl rfl ?_
  refine y_bi dX12_init_137 ⟨by decide, by decide⟩ ?_
  refine x_newI (N := 16) (kc := 38) (ks := 59156) (a := 106) dX12_init_139 rfl rfl (by decide) rfl (by decide) (fun k => (show ZI 105 _ from (ZI.u (ZI.u (ZI.u (ZI.u (ZI.mo (m := 105) zI (by decide)) (by decide)) (by decide)) (by decide)) (by decide))) 106 (by decide) k) ?_
  refine y_putpF (z := 40) dX12_init_141 frX12_65 cfX12 ⟨rfl, by decide, by decide⟩ rfl ⟨rfl, rfl, rfl⟩ rfl ?_
  refine y_aln (i := 0) dX12_init_144 (by decide) rfl rfl ?_
  refine y_bi dX12_init_145 ⟨by decide, by decide⟩ ?_
  refine x_newI (N := 48) (kc := 37) (ks := 59108) (a := 107) dX12_init_147 rfl rfl (by decide) rfl (by decide) (fun k => (show ZI 106 _ from (ZI.u (ZI.u (ZI.u (ZI.u (ZI.mo (m := 106) zI (by decide)) (by decide)) (by decide)) (by decide)) (by decide))) 107 (by decide) k) ?_
  refine y_putpF (z := 41) dX12_init_149 frX12_68 cfX12 ⟨rfl, by decide, by decide⟩ rfl ⟨rfl, rfl, rfl⟩ rfl ?_
  refine y_aln (i := 0) dX12_init_152 (by decide) rfl rfl ?_
  refine y_bi dX12_init_153 ⟨by decide, by decide⟩ ?_
  refine x_newZ (N := 48) (kc := 36) (ks := 59060) (a := 108) dX12_init_155 rfl rfl (by decide) rfl (by decide) (fun k => (show ZI 107 _ from (ZI.u (ZI.u (ZI.u (ZI.u (ZI.mo (m := 107) zI (by decide)) (by decide)) (by decide)) (by decide)) (by decide))) 108 (by decide) k) ?_
  refine y_putpF (z := 42) dX12_init_157 frX12_71 cfX12 ⟨rfl, by decide, by decide⟩ rfl ⟨rfl, rfl, rfl⟩ rfl ?_
  refine y_aln (i := 0) dX12_init_160 (by decide) rfl rfl ?_
  refine y_bi dX12_init_161 ⟨by decide, by decide⟩ ?_
  refine x_newZ (N := 48) (kc := 35) (ks := 59012) (a := 109) dX12_init_163 rfl rfl (by decide) rfl (by decide) (fun k => (show ZI 108 _ from (ZI.u (ZI.u (ZI.u (ZI.u (ZI.mo (m := 108) zI (by decide)) (by decide)) (by decide)) (by decide)) (by decide))) 109 (by decide) k) ?_
  refine y_putpF (z := 43) dX12_init_165 frX12_75 cfX12 ⟨rfl, by decide, by decide⟩ rfl ⟨rfl, rfl, rfl⟩ rfl ?_
  refine y_aln (i := 0) dX12_init_168 (by decide) rfl rfl ?_
  refine y_bi dX12_init_169 ⟨by decide, by decide⟩ ?_
  refine x_newZ (N := 6) (kc := 34) (ks := 59006) (a := 110) dX12_init_171 rfl rfl (by decide) rfl (by decide) (fun k => (show ZI 109 _ from (ZI.u (ZI.u (ZI.u (ZI.u (ZI.mo (m := 109) zI (by decide)) (by decide)) (by decide)) (by decide)) (by decide))) 110 (by decide) k) ?_
  refine y_putpF (z := 44) dX12_init_173 frX12_78 cfX12 ⟨rfl, by decide, by decide⟩ rfl ⟨rfl, rfl, rfl⟩ rfl ?_
  refine y_aln (i := 0) dX12_init_176 (by decide) rfl rfl ?_
  refine y_ic dX12_init_177 ⟨by decide, by decide⟩ ?_
  refine x_newI (N := 3) (kc := 33) (ks := 59003) (a := 111) dX12_init_178 rfl rfl (by decide) rfl (by decide) (fun k => (show ZI 110 _ from (ZI.u (ZI.u (ZI.u (ZI.u (ZI.mo (m := 110) zI (by decide)) (by decide)) (by decide)) (by decide)) (by decide))) 111 (by decide) k) ?_
  refine y_putpF (z := 45) dX12_init_180 frX12_81 cfX12 ⟨rfl, by decide, by decide⟩ rfl ⟨rfl, rfl, rfl⟩ rfl ?_
  refine y_aln (i := 0) dX12_init_183 (by decide) rfl rfl ?_
  refine y_bi dX12_init_184 ⟨by decide, by decide⟩ ?_
  refine x_newI (N := 48) (kc := 32) (ks := 58955) (a := 112) dX12_init_186 rfl rfl (by decide) rfl (by decide) (fun k => (show ZI 111 _ from (ZI.u (ZI.u (ZI.u (ZI.u (ZI.mo (m := 111) zI (by decide)) (by decide)) (by decide)) (by decide)) (by decide))) 112 (by decide) k) ?_
  refine y_putpF (z := 46) dX12_init_188 frX12_84 cfX12 ⟨rfl, by decide, by decide⟩ rfl ⟨rfl, rfl, rfl⟩ rfl ?_
  refine y_aln (i := 0) dX12_init_191 (by decide) rfl rfl ?_
  refine y_ldc dX12_init_192 kcX12_87 (show _ = oI (48000) from rfl) ⟨by decide, by decide⟩ ?_
  refine x_newI (N := 48000) (kc := 31) (ks := 10955) (a := 113) dX12_init_194 rfl rfl (by decide) rfl (by decide) (fun k => (show ZI 112 _ from (ZI.u (ZI.u (ZI.u (ZI.u (ZI.mo (m := 112) zI (by decide)) (by decide)) (by decide)) (by decide)) (by decide))) 113 (by decide) k) ?_
  refine y_putpF (z := 48) dX12_init_196 frX12_88 cfX12 ⟨rfl, by decide, by decide⟩ rfl ⟨rfl, rfl, rfl⟩ rfl ?_
  refine y_aln (i := 0) dX12_init_199 (by decide) rfl rfl ?_
  refine y_si dX12_init_200 ⟨by decide, by decide⟩ ?_
  refine x_newI (N := 1000) (kc := 30) (ks := 9955) (a := 114) dX12_init_203 rfl rfl (by decide) rfl (by decide) (fun k => (show ZI 113 _ from (ZI.u (ZI.u (ZI.u (ZI.u (ZI.mo (m := 113) zI (by decide)) (by decide)) (by decide)) (by decide)) (by decide))) 114 (by decide) k) ?_
  refine y_putpF (z := 49) dX12_init_205 frX12_91 cfX12 ⟨rfl, by decide, by decide⟩ rfl ⟨rfl, rfl, rfl⟩ rfl ?_
  refine y_aln (i := 0) dX12_init_208 (by decide) rfl rfl ?_
  refine y_si dX12_init_209 ⟨by decide, by decide⟩ ?_
  refine x_newI (N := 1000) (kc := 29) (ks := 8955) (a := 115) dX12_init_212 rfl rfl (by decide) rfl (by decide) (fun k => (show ZI 114 _ from (ZI.u (ZI.u (ZI.u (ZI.u (ZI.mo (m := 114) zI (by decide)) (by decide)) (by decide)) (by decide)) (by decide))) 115 (by decide) k) ?_
  refine y_putpF (z := 50) dX12_init_214 frX12_94 cfX12 ⟨rfl, by decide, by decide⟩ rfl ⟨rfl, rfl, rfl⟩ rfl ?_
  refine y_aln (i := 0) dX12_init_217 (by decide) rfl rfl ?_
  refine y_si dX12_init_218 ⟨by decide, by decide⟩ ?_
  refine x_newI (N := 1000) (kc := 28) (ks := 7955) (a := 116) dX12_init_221 rfl rfl (by decide) rfl (by decide) (fun k => (show ZI 115 _ from (ZI.u (ZI.u (ZI.u (ZI.u (ZI.mo (m := 115) zI (by decide)) (by decide)) (by decide)) (by decide)) (by decide))) 116 (by decide) k) ?_
  refine y_putpF (z := 51) dX12_init_223 frX12_97 cfX12 ⟨rfl, by decide, by decide⟩ rfl ⟨rfl, rfl, rfl⟩ rfl ?_
  refine y_aln (i := 0) dX12_init_226 (by decide) rfl rfl ?_
  refine y_si dX12_init_227 ⟨by decide, by decide⟩ ?_
  refine x_newI (N := 1000) (kc := 27) (ks := 6955) (a := 117) dX12_init_230 rfl rfl (by decide) rfl (by decide) (fun k => (show ZI 116 _ from (ZI.u (ZI.u (ZI.u (ZI.u (ZI.mo (m := 116) zI (by decide)) (by decide)) (by decide)) (by decide)) (by decide))) 117 (by decide) k) ?_
  refine y_putpF (z := 52) dX12_init_232 frX12_100 cfX12 ⟨rfl, by decide, by decide⟩ rfl ⟨rfl, rfl, rfl⟩ rfl ?_
  refine y_aln (i := 0) dX12_init_235 (by decide) rfl rfl ?_
  refine y_si dX12_init_236 ⟨by decide, by decide⟩ ?_
  refine x_newI (N := 1000) (kc := 26) (ks := 5955) (a := 118) dX12_init_239 rfl rfl (by decide) rfl (by decide) (fun k => (show ZI 117 _ from (ZI.u (ZI.u (ZI.u (ZI.u (ZI.mo (m := 117) zI (by decide)) (by decide)) (by decide)) (by decide)) (by decide))) 118 (by decide) k) ?_
  refine y_putpF (z := 53) dX12_init_241 frX12_103 cfX12 ⟨rfl, by decide, by decide⟩ rfl ⟨rfl, rfl, rfl⟩ rfl ?_
  refine y_aln (i := 0) dX12_init_244 (by decide) rfl rfl ?_
  refine y_si dX12_init_245 ⟨by decide, by decide⟩ ?_
  refine x_newI (N := 1000) (kc := 25) (ks := 4955) (a := 119) dX12_init_248 rfl rfl (by decide) rfl (by decide) (fun k => (show ZI 118 _ from (ZI.u (ZI.u (ZI.u (ZI.u (ZI.mo (m := 118) zI (by decide)) (by decide)) (by decide)) (by decide)) (by decide))) 119 (by decide) k) ?_
  refine y_putpF (z := 54) dX12_init_250 frX12_106 cfX12 ⟨rfl, by decide, by decide⟩ rfl ⟨rfl, rfl, rfl⟩ rfl ?_
  refine y_aln (i := 0) dX12_init_253 (by decide) rfl rfl ?_
  refine y_bi dX12_init_254 ⟨by decide, by decide⟩ ?_
  refine x_newI (N := 48) (kc := 24) (ks := 4907) (a := 120) dX12_init_256 rfl rfl (by decide) rfl (by decide) (fun k => (show ZI 119 _ from (ZI.u (ZI.u (ZI.u (ZI.u (ZI.mo (m := 119) zI (by decide)) (by decide)) (by decide)) (by decide)) (by decide))) 120 (by decide) k) ?_
  refine y_putpF (z := 55) dX12_init_258 frX12_109 cfX12 ⟨rfl, by decide, by decide⟩ rfl ⟨rfl, rfl, rfl⟩ rfl ?_
  refine y_aln (i := 0) dX12_init_261 (by decide) rfl rfl ?_
  refine y_si dX12_init_262 ⟨by decide, by decide⟩ ?_
  refine x_newI (N := 1000) (kc := 23) (ks := 3907) (a := 121) dX12_init_265 rfl rfl (by decide) rfl (by decide) (fun k => (show ZI 120 _ from (ZI.u (ZI.u (ZI.u (ZI.u (ZI.mo (m := 120) zI (by decide)) (by decide)) (by decide)) (by decide)) (by decide))) 121 (by decide) k) ?_
  refine y_putpF (z := 62) dX12_init_267 frX12_112 cfX12 ⟨rfl, by decide, by decide⟩ rfl ⟨rfl, rfl, rfl⟩ rfl ?_
  refine y_aln (i := 0) dX12_init_270 (by decide) rfl rfl ?_
  refine y_si dX12_init_271 ⟨by decide, by decide⟩ ?_
  refine x_newI (N := 1000) (kc := 22) (ks := 2907) (a := 122) dX12_init_274 rfl rfl (by decide) rfl (by decide) (fun k => (show ZI 121 _ from (ZI.u (ZI.u (ZI.u (ZI.u (ZI.mo (m := 121) zI (by decide)) (by decide)) (by decide)) (by decide)) (by decide))) 122 (by decide) k) ?_
  refine y_putpF (z := 63) dX12_init_276 frX12_115 cfX12 ⟨rfl, by decide, by decide⟩ rfl ⟨rfl, rfl, rfl⟩ rfl ?_
  refine y_aln (i := 0) dX12_init_279 (by decide) rfl rfl ?_
  refine y_si dX12_init_280 ⟨by decide, by decide⟩ ?_
  refine x_newI (N := 1000) (kc := 21) (ks := 1907) (a := 123) dX12_init_283 rfl rfl (by decide) rfl (by decide) (fun k => (show ZI 122 _ from (ZI.u (ZI.u (ZI.u (ZI.u (ZI.mo (m := 122) zI (by decide)) (by decide)) (by decide)) (by decide)) (by decide))) 123 (by decide) k) ?_
  refine y_putpF (z := 64) dX12_init_285 frX12_118 cfX12 ⟨rfl, by decide, by decide⟩ rfl ⟨rfl, rfl, rfl⟩ rfl ?_
  refine y_aln (i := 0) dX12_init_288 (by decide) rfl rfl ?_
  refine y_si dX12_init_289 ⟨by decide, by decide⟩ ?_
  refine x_newI (N := 1000) (kc := 20) (ks := 907) (a := 124) dX12_init_292 rfl rfl (by decide) rfl (by decide) (fun k => (show ZI 123 _ from (ZI.u (ZI.u (ZI.u (ZI.u (ZI.mo (m := 123) zI (by decide)) (by decide)) (by decide)) (by decide)) (by decide))) 124 (by decide) k) ?_
  refine y_putpF (z := 65) dX12_init_294 frX12_121 cfX12 ⟨rfl, by decide, by decide⟩ rfl ⟨rfl, rfl, rfl⟩ rfl ?_
  refine y_aln (i := 0) dX12_init_297 (by decide) rfl rfl ?_
  refine y_bi dX12_init_298 ⟨by decide, by decide⟩ ?_
  refine x_newI (N := 8) (kc := 19) (ks := 899) (a := 125) dX12_init_300 rfl rfl (by decide) rfl (by decide) (fun k => (show ZI 124 _ from (ZI.u (ZI.u (ZI.u (ZI.u (ZI.mo (m := 124) zI (by decide)) (by decide)) (by decide)) (by decide)) (by decide))) 125 (by decide) k) ?_
  refine y_putpF (z := 67) dX12_init_302 frX12_124 cfX12 ⟨rfl, by decide, by decide⟩ rfl ⟨rfl, rfl, rfl⟩ rfl ?_
  refine y_aln (i := 0) dX12_init_305 (by decide) rfl rfl ?_
  refine y_bi dX12_init_306 ⟨by decide, by decide⟩ ?_
  refine x_newI (N := 8) (kc := 18) (ks := 891) (a := 126) dX12_init_308 rfl rfl (by decide) rfl (by decide) (fun k => (show ZI 125 _ from (ZI.u (ZI.u (ZI.u (ZI.u (ZI.mo (m := 125) zI (by decide)) (by decide)) (by decide)) (by decide)) (by decide))) 126 (by decide) k) ?_
  refine y_putpF (z := 68) dX12_init_310 frX12_127 cfX12 ⟨rfl, by decide, by decide⟩ rfl ⟨rfl, rfl, rfl⟩ rfl ?_
  refine y_aln (i := 0) dX12_init_313 (by decide) rfl rfl ?_
  refine y_bi dX12_init_314 ⟨by decide, by decide⟩ ?_
  refine x_newI (N := 48) (kc := 17) (ks := 843) (a := 127) dX12_init_316 rfl rfl (by decide) rfl (by decide) (fun k => (show ZI 126 _ from (ZI.u (ZI.u (ZI.u (ZI.u (ZI.mo (m := 126) zI (by decide)) (by decide)) (by decide)) (by decide)) (by decide))) 127 (by decide) k) ?_
  refine y_putpF (z := 69) dX12_init_318 frX12_130 cfX12 ⟨rfl, by decide, by decide⟩ rfl ⟨rfl, rfl, rfl⟩ rfl ?_
  refine y_aln (i := 0) dX12_init_321 (by decide) rfl rfl ?_
  refine y_ic dX12_init_322 ⟨by decide, by decide⟩ ?_
  refine x_newI (N := 3) (kc := 16) (ks := 840) (a := 128) dX12_init_323 rfl rfl (by decide) rfl (by decide) (fun k => (show ZI 127 _ from (ZI.u (ZI.u (ZI.u (ZI.u (ZI.mo (m := 127) zI (by decide)) (by decide)) (by decide)) (by decide)) (by decide))) 128 (by decide) k) ?_
  refine y_putpF (z := 74) dX12_init_325 frX12_133 cfX12 ⟨rfl, by decide, by decide⟩ rfl ⟨rfl, rfl, rfl⟩ rfl ?_
  refine y_aln (i := 0) dX12_init_328 (by decide) rfl rfl ?_
  refine y_bi dX12_init_329 ⟨by decide, by decide⟩ ?_
  refine x_newI (N := 48) (kc := 15) (ks := 792) (a := 129) dX12_init_331 rfl rfl (by decide) rfl (by decide) (fun k => (show ZI 128 _ from (ZI.u (ZI.u (ZI.u (ZI.u (ZI.mo (m := 128) zI (by decide)) (by decide)) (by decide)) (by decide)) (by decide))) 129 (by decide) k) ?_
  refine y_putpF (z := 75) dX12_init_333 frX12_136 cfX12 ⟨rfl, by decide, by decide⟩ rfl ⟨rfl, rfl, rfl⟩ rfl ?_
  refine y_aln (i := 0) dX12_init_336 (by decide) rfl rfl ?_
  refine y_ic dX12_init_337 ⟨by decide, by decide⟩ ?_
  refine x_newI (N := 5) (kc := 14) (ks := 787) (a := 130) dX12_init_338 rfl rfl (by decide) rfl (by decide) (fun k => (show ZI 129 _ from (ZI.u (ZI.u (ZI.u (ZI.u (ZI.mo (m := 129) zI (by decide)) (by decide)) (by decide)) (by decide)) (by decide))) 130 (by decide) k) ?_
  refine y_putpF (z := 77) dX12_init_340 frX12_139 cfX12 ⟨rfl, by decide, by decide⟩ rfl ⟨rfl, rfl, rfl⟩ rfl ?_
  refine y_aln (i := 0) dX12_init_343 (by decide) rfl rfl ?_
  refine y_ic dX12_init_344 ⟨by decide, by decide⟩ ?_
  refine x_newI (N := 5) (kc := 13) (ks := 782) (a := 131) dX12_init_345 rfl rfl (by decide) rfl (by decide) (fun k => (show ZI 130 _ from (ZI.u (ZI.u (ZI.u (ZI.u (ZI.mo (m := 130) zI (by decide)) (by decide)) (by decide)) (by decide)) (by decide))) 131 (by decide) k) ?_
  refine y_putpF (z := 78) dX12_init_347 frX12_142 cfX12 ⟨rfl, by decide, by decide⟩ rfl ⟨rfl, rfl, rfl⟩ rfl ?_
  refine y_aln (i := 0) dX12_init_350 (by decide) rfl rfl ?_
  refine y_si dX12_init_351 ⟨by decide, by decide⟩ ?_
  refine x_newI (N := 432) (kc := 12) (ks := 350) (a := 132) dX12_init_354 rfl rfl (by decide) rfl (by decide) (fun k => (show ZI 131 _ from (ZI.u (ZI.u (ZI.u (ZI.u (ZI.mo (m := 131) zI (by decide)) (by decide)) (by decide)) (by decide)) (by decide))) 132 (by decide) k) ?_
  refine y_putpF (z := 79) dX12_init_356 frX12_145 cfX12 ⟨rfl, by decide, by decide⟩ rfl ⟨rfl, rfl, rfl⟩ rfl ?_
  refine y_aln (i := 0) dX12_init_359 (by decide) rfl rfl ?_
  refine y_bi dX12_init_360 ⟨by decide, by decide⟩ ?_
  refine x_newI (N := 24) (kc := 11) (ks := 326) (a := 133) dX12_init_362 rfl rfl (by decide) rfl (by decide) (fun k => (show ZI 132 _ from (ZI.u (ZI.u (ZI.u (ZI.u (ZI.mo (m := 132) zI (by decide)) (by decide)) (by decide)) (by decide)) (by decide))) 133 (by decide) k) ?_
  refine y_putpF (z := 80) dX12_init_364 frX12_148 cfX12 ⟨rfl, by decide, by decide⟩ rfl ⟨rfl, rfl, rfl⟩ rfl ?_
  refine y_aln (i := 0) dX12_init_367 (by decide) rfl rfl ?_
  refine y_bi dX12_init_368 ⟨by decide, by decide⟩ ?_
  refine x_newI (N := 8) (kc := 10) (ks := 318) (a := 134) dX12_init_370 rfl rfl (by decide) rfl (by decide) (fun k => (show ZI 133 _ from (ZI.u (ZI.u (ZI.u (ZI.u (ZI.mo (m := 133) zI (by decide)) (by decide)) (by decide)) (by decide)) (by decide))) 134 (by decide) k) ?_
  refine y_putpF (z := 81) dX12_init_372 frX12_151 cfX12 ⟨rfl, by decide, by decide⟩ rfl ⟨rfl, rfl, rfl⟩ rfl ?_
  refine y_aln (i := 0) dX12_init_375 (by decide) rfl rfl ?_
  refine y_bi dX12_init_376 ⟨by decide, by decide⟩ ?_
  refine x_newI (N := 8) (kc := 9) (ks := 310) (a := 135) dX12_init_378 rfl rfl (by decide) rfl (by decide) (fun k => (show ZI 134 _ from (ZI.u (ZI.u (ZI.u (ZI.u (ZI.mo (m := 134) zI (by decide)) (by decide)) (by decide)) (by decide)) (by decide))) 135 (by decide) k) ?_
  refine y_putpF (z := 82) dX12_init_380 frX12_154 cfX12 ⟨rfl, by decide, by decide⟩ rfl ⟨rfl, rfl, rfl⟩ rfl ?_
  refine y_aln (i := 0) dX12_init_383 (by decide) rfl rfl ?_
  refine y_bi dX12_init_384 ⟨by decide, by decide⟩ ?_
  refine x_newI (N := 48) (kc := 8) (ks := 262) (a := 136) dX12_init_386 rfl rfl (by decide) rfl (by decide) (fun k => (show ZI 135 _ from (ZI.u (ZI.u (ZI.u (ZI.u (ZI.mo (m := 135) zI (by decide)) (by decide)) (by decide)) (by decide)) (by decide))) 136 (by decide) k) ?_
  refine y_putpF (z := 83) dX12_init_388 frX12_157 cfX12 ⟨rfl, by decide, by decide⟩ rfl ⟨rfl, rfl, rfl⟩ rfl ?_
  refine y_aln (i := 0) dX12_init_391 (by decide) rfl rfl ?_
  refine y_bi dX12_init_392 ⟨by decide, by decide⟩ ?_
  refine x_newI (N := 48) (kc := 7) (ks := 214) (a := 137) dX12_init_394 rfl rfl (by decide) rfl (by decide) (fun k => (show ZI 136 _ from (ZI.u (ZI.u (ZI.u (ZI.u (ZI.mo (m := 136) zI (by decide)) (by decide)) (by decide)) (by decide)) (by decide))) 137 (by decide) k) ?_
  refine y_putpF (z := 84) dX12_init_396 frX12_160 cfX12 ⟨rfl, by decide, by decide⟩ rfl ⟨rfl, rfl, rfl⟩ rfl ?_
  refine y_aln (i := 0) dX12_init_399 (by decide) rfl rfl ?_
  refine y_bi dX12_init_400 ⟨by decide, by decide⟩ ?_
  refine x_newI (N := 6) (kc := 6) (ks := 208) (a := 138) dX12_init_402 rfl rfl (by decide) rfl (by decide) (fun k => (show ZI 137 _ from (ZI.u (ZI.u (ZI.u (ZI.u (ZI.mo (m := 137) zI (by decide)) (by decide)) (by decide)) (by decide)) (by decide))) 138 (by decide) k) ?_
  refine y_putpF (z := 85) dX12_init_404 frX12_163 cfX12 ⟨rfl, by decide, by decide⟩ rfl ⟨rfl, rfl, rfl⟩ rfl ?_
  refine y_aln (i := 0) dX12_init_407 (by decide) rfl rfl ?_
  refine y_bi dX12_init_408 ⟨by decide, by decide⟩ ?_
  refine x_newI (N := 8) (kc := 5) (ks := 200) (a := 139) dX12_init_410 rfl rfl (by decide) rfl (by decide) (fun k => (show ZI 138 _ from (ZI.u (ZI.u (ZI.u (ZI.u (ZI.mo (m := 138) zI (by decide)) (by decide)) (by decide)) (by decide)) (by decide))) 139 (by decide) k) ?_
  refine y_putpF (z := 86) dX12_init_412 frX12_166 cfX12 ⟨rfl, by decide, by decide⟩ rfl ⟨rfl, rfl, rfl⟩ rfl ?_
  refine y_aln (i := 0) dX12_init_415 (by decide) rfl rfl ?_
  refine y_bi dX12_init_416 ⟨by decide, by decide⟩ ?_
  refine x_newZ (N := 8) (kc := 4) (ks := 192) (a := 140) dX12_init_418 rfl rfl (by decide) rfl (by decide) (fun k => (show ZI 139 _ from (ZI.u (ZI.u (ZI.u (ZI.u (ZI.mo (m := 139) zI (by decide)) (by decide)) (by decide)) (by decide)) (by decide))) 140 (by decide) k) ?_
  refine y_putpF (z := 87) dX12_init_420 frX12_169 cfX12 ⟨rfl, by decide, by decide⟩ rfl ⟨rfl, rfl, rfl⟩ rfl ?_
  refine y_aln (i := 0) dX12_init_423 (by decide) rfl rfl ?_
  refine y_bi dX12_init_424 ⟨by decide, by decide⟩ ?_
  refine x_newI (N := 48) (kc := 3) (ks := 144) (a := 141) dX12_init_426 rfl rfl (by decide) rfl (by decide) (fun k => (show ZI 140 _ from (ZI.u (ZI.u (ZI.u (ZI.u (ZI.mo (m := 140) zI (by decide)) (by decide)) (by decide)) (by decide)) (by decide))) 141 (by decide) k) ?_
  refine y_putpF (z := 88) dX12_init_428 frX12_172 cfX12 ⟨rfl, by decide, by decide⟩ rfl ⟨rfl, rfl, rfl⟩ rfl ?_
  refine y_aln (i := 0) dX12_init_431 (by decide) rfl rfl ?_
  refine y_bi dX12_init_432 ⟨by decide, by decide⟩ ?_
  refine x_newI (N := 48) (kc := 2) (ks := 96) (a := 142) dX12_init_434 rfl rfl (by decide) rfl (by decide) (fun k => (show ZI 141 _ from (ZI.u (ZI.u (ZI.u (ZI.u (ZI.mo (m := 141) zI (by decide)) (by decide)) (by decide)) (by decide)) (by decide))) 142 (by decide) k) ?_
  refine y_putpF (z := 90) dX12_init_436 frX12_175 cfX12 ⟨rfl, by decide, by decide⟩ rfl ⟨rfl, rfl, rfl⟩ rfl ?_
  refine y_aln (i := 0) dX12_init_439 (by decide) rfl rfl ?_
  refine y_bi dX12_init_440 ⟨by decide, by decide⟩ ?_
  refine x_newI (N := 48) (kc := 1) (ks := 48) (a := 143) dX12_init_442 rfl rfl (by decide) rfl (by decide) (fun k => (show ZI 142 _ from (ZI.u (ZI.u (ZI.u (ZI.u (ZI.mo (m := 142) zI (by decide)) (by decide)) (by decide)) (by decide)) (by decide))) 143 (by decide) k) ?_
  refine y_putpF (z := 91) dX12_init_444 frX12_178 cfX12 ⟨rfl, by decide, by decide⟩ rfl ⟨rfl, rfl, rfl⟩ rfl ?_
  refine y_aln (i := 0) dX12_init_447 (by decide) rfl rfl ?_
  refine y_bi dX12_init_448 ⟨by decide, by decide⟩ ?_
  refine x_newI (N := 48) (kc := 0) (ks := 0) (a := 144) dX12_init_450 rfl rfl (by decide) rfl (by decide) (fun k => (show ZI 143 _ from (ZI.u (ZI.u (ZI.u (ZI.u (ZI.mo (m := 143) zI (by decide)) (by decide)) (by decide)) (by decide)) (by decide))) 144 (by decide) k) ?_
  refine y_putpF (z := 93) dX12_init_452 frX12_181 cfX12 ⟨rfl, by decide, by decide⟩ rfl ⟨rfl, rfl, rfl⟩ rfl ?_
  refine x_vret dX12_init_455 rfl ?_
  exact ⟨rfl, rfl, rfl⟩
