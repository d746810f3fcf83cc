/-! CONSTRUCTOR of the reference (WRITTEN BY genctor.py) -/
def kModA : List (Nat × Nat) := [] ++ [(31, 0)] ++ [(32, 0)] ++ [(34, 0)] ++ [(35, 0)] ++ [(36, 0)] ++ [(38, 0)] ++ [(40, 0)] ++ [(49, 0)] ++ [(50, 0)] ++ [(51, 0)] ++ [(52, 0)] ++ [(53, 0)] ++ [(54, 0)] ++ [(55, 0)]
def kModel : List (Nat × Nat) := kModA ++ [(30, 0)]
def InM (S : evS) : Prop := (∀ i k, i < 4 → k < 33 → S.1 31 0 (33 * i + k) = iI (D0 k)) ∧ (S.1 35 0 0 = 0 ∧ S.1 35 0 1 = 0) ∧ S.1 30 0 2 = 0 ∧ S.1 30 0 6 = 0 ∧ S.1 30 0 8 = 0
theorem nI_ge4 (i : Nat) (hi : i ≤ 4) : (4 : Int32) ≤ nI i ↔ 4 ≤ i := (show ∀ i : Fin 5, (4 : Int32) ≤ nI i.1 ↔ 4 ≤ i.1 by decide) ⟨i, by omega⟩
theorem nI_33 (i : Nat) (hi : i < 4) : 33 * nI i = nI (33 * i) := (show ∀ i : Fin 4, 33 * nI i.1 = nI (33 * i.1) by decide) ⟨i, by omega⟩
theorem nI_s (i : Nat) (hi : i < 8) : nI i + Int32.ofInt 1 = nI (i + 1) := (show ∀ i : Fin 8, nI i.1 + Int32.ofInt 1 = nI (i.1 + 1) by decide) ⟨i, by omega⟩
theorem kModA_c : KCl kModA := KCl.b (by decide +kernel)
theorem i_model {G : evG} : eiM G yX6_init M_X6_init 2 14 1431 30 0 kModel [.null, .null, .int 0, .null, .null, .null, .int 0, .null, .int 0, .null, .int 0, .int 0, .int 0, .int 0, .int 0, .int 0, .int 0, .int 0, .null, .null, .null, .null, .null, .null, .null] InM := by
  refine eiM.of (by decide) rfl rfl (by decide) (fun h sz => ?_)
  refine ei_aload_n dX6_init_0 rfl 0 rfl rfl ?_
  refine ei_obj (ev_in (by decide +kernel) rfl) dX6_init_1 (by decide) (by decide) rfl ?_
  refine ei_aload_n dX6_init_4 rfl 0 rfl rfl ?_
  refine ei_sipush dX6_init_5 rfl rfl ?_
  refine ei_newI 31 0 rfl rfl ⟨by decide, by decide⟩ (by decide) (by decide) (by decide) dX6_init_8 (KCl.b rfl) (by simp) rfl (fun q1 ad1 S1 f1 e1 z1 => ?_)
  refine ei_pf kok_30 rfl (ev_in (by decide +kernel) rfl) (k0 := 0) (by decide) rfl rfl rfl rfl (by simp) dX6_init_10 rfl (fs' := [.ref q1, .null, .int 0, .null, .null, .null, .int 0, .null, .int 0, .null, .int 0, .int 0, .int 0, .int 0, .int 0, .int 0, .int 0, .int 0, .null, .null, .null, .null, .null, .null, .null]) rfl ?_
  refine ei_aload_n dX6_init_13 rfl 0 rfl rfl ?_
  refine ei_sipush dX6_init_14 rfl rfl ?_
  refine ei_newI 32 0 rfl rfl ⟨by decide, by decide⟩ (by decide) (by decide) (by decide) dX6_init_17 (KCl.b (by decide +kernel)) (by simp) rfl (fun q2 ad2 S2 f2 e2 z2 => ?_)
  have g2_31_0 : ad2 31 0 = q1 := ((f2 31 0 (fun z => absurd z.1 (by decide))).1).trans e1
  refine ei_pf kok_30 rfl (ev_in (by decide +kernel) rfl) (k0 := 1) (by decide) rfl rfl rfl rfl (by simp) dX6_init_19 rfl (fs' := [.ref q1, .ref q2, .int 0, .null, .null, .null, .int 0, .null, .int 0, .null, .int 0, .int 0, .int 0, .int 0, .int 0, .int 0, .int 0, .int 0, .null, .null, .null, .null, .null, .null, .null]) rfl ?_
  refine ei_aload_n dX6_init_22 rfl 0 rfl rfl ?_
  refine ei_sipush dX6_init_23 rfl rfl ?_
  refine ei_newI 34 0 rfl rfl ⟨by decide, by decide⟩ (by decide) (by decide) (by decide) dX6_init_26 (KCl.b (by decide +kernel)) (by simp) rfl (fun q3 ad3 S3 f3 e3 z3 => ?_)
  have g3_31_0 : ad3 31 0 = q1 := ((f3 31 0 (fun z => absurd z.1 (by decide))).1).trans g2_31_0
  have g3_32_0 : ad3 32 0 = q2 := ((f3 32 0 (fun z => absurd z.1 (by decide))).1).trans e2
  refine ei_pf kok_30 rfl (ev_in (by decide +kernel) rfl) (k0 := 3) (by decide) rfl rfl rfl rfl (by simp) dX6_init_28 rfl (fs' := [.ref q1, .ref q2, .int 0, .ref q3, .null, .null, .int 0, .null, .int 0, .null, .int 0, .int 0, .int 0, .int 0, .int 0, .int 0, .int 0, .int 0, .null, .null, .null, .null, .null, .null, .null]) rfl ?_
  refine ei_aload_n dX6_init_31 rfl 0 rfl rfl ?_
  refine ei_iconst dX6_init_32 rfl rfl ?_
  refine ei_newZ 35 0 rfl rfl ⟨by decide, by decide⟩ (by decide) (by decide) (by decide) dX6_init_33 (KCl.b (by decide +kernel)) (by simp) rfl (fun q4 ad4 S4 f4 e4 z4 => ?_)
  have g4_31_0 : ad4 31 0 = q1 := ((f4 31 0 (fun z => absurd z.1 (by decide))).1).trans g3_31_0
  have g4_32_0 : ad4 32 0 = q2 := ((f4 32 0 (fun z => absurd z.1 (by decide))).1).trans g3_32_0
  have g4_34_0 : ad4 34 0 = q3 := ((f4 34 0 (fun z => absurd z.1 (by decide))).1).trans e3
  refine ei_pf kok_30 rfl (ev_in (by decide +kernel) rfl) (k0 := 4) (by decide) rfl rfl rfl rfl (by simp) dX6_init_35 rfl (fs' := [.ref q1, .ref q2, .int 0, .ref q3, .ref q4, .null, .int 0, .null, .int 0, .null, .int 0, .int 0, .int 0, .int 0, .int 0, .int 0, .int 0, .int 0, .null, .null, .null, .null, .null, .null, .null]) rfl ?_
  refine ei_aload_n dX6_init_38 rfl 0 rfl rfl ?_
  refine ei_sipush dX6_init_39 rfl rfl ?_
  refine ei_newI 36 0 rfl rfl ⟨by decide, by decide⟩ (by decide) (by decide) (by decide) dX6_init_42 (KCl.b (by decide +kernel)) (by simp) rfl (fun q5 ad5 S5 f5 e5 z5 => ?_)
  have g5_31_0 : ad5 31 0 = q1 := ((f5 31 0 (fun z => absurd z.1 (by decide))).1).trans g4_31_0
  have g5_32_0 : ad5 32 0 = q2 := ((f5 32 0 (fun z => absurd z.1 (by decide))).1).trans g4_32_0
  have g5_34_0 : ad5 34 0 = q3 := ((f5 34 0 (fun z => absurd z.1 (by decide))).1).trans g4_34_0
  have g5_35_0 : ad5 35 0 = q4 := ((f5 35 0 (fun z => absurd z.1 (by decide))).1).trans e4
  refine ei_pf kok_30 rfl (ev_in (by decide +kernel) rfl) (k0 := 5) (by decide) rfl rfl rfl rfl (by simp) dX6_init_44 rfl (fs' := [.ref q1, .ref q2, .int 0, .ref q3, .ref q4, .ref q5, .int 0, .null, .int 0, .null, .int 0, .int 0, .int 0, .int 0, .int 0, .int 0, .int 0, .int 0, .null, .null, .null, .null, .null, .null, .null]) rfl ?_
  refine ei_aload_n dX6_init_47 rfl 0 rfl rfl ?_
  refine ei_bipush dX6_init_48 rfl rfl ?_
  refine ei_newI 38 0 rfl rfl ⟨by decide, by decide⟩ (by decide) (by decide) (by decide) dX6_init_50 (KCl.b (by decide +kernel)) (by simp) rfl (fun q6 ad6 S6 f6 e6 z6 => ?_)
  have g6_31_0 : ad6 31 0 = q1 := ((f6 31 0 (fun z => absurd z.1 (by decide))).1).trans g5_31_0
  have g6_32_0 : ad6 32 0 = q2 := ((f6 32 0 (fun z => absurd z.1 (by decide))).1).trans g5_32_0
  have g6_34_0 : ad6 34 0 = q3 := ((f6 34 0 (fun z => absurd z.1 (by decide))).1).trans g5_34_0
  have g6_35_0 : ad6 35 0 = q4 := ((f6 35 0 (fun z => absurd z.1 (by decide))).1).trans g5_35_0
  have g6_36_0 : ad6 36 0 = q5 := ((f6 36 0 (fun z => absurd z.1 (by decide))).1).trans e5
  refine ei_pf kok_30 rfl (ev_in (by decide +kernel) rfl) (k0 := 7) (by decide) rfl rfl rfl rfl (by simp) dX6_init_52 rfl (fs' := [.ref q1, .ref q2, .int 0, .ref q3, .ref q4, .ref q5, .int 0, .ref q6, .int 0, .null, .int 0, .int 0, .int 0, .int 0, .int 0, .int 0, .int 0, .int 0, .null, .null, .null, .null, .null, .null, .null]) rfl ?_
  refine ei_aload_n dX6_init_55 rfl 0 rfl rfl ?_
  refine ei_bipush dX6_init_56 rfl rfl ?_
  refine ei_newI 40 0 rfl rfl ⟨by decide, by decide⟩ (by decide) (by decide) (by decide) dX6_init_58 (KCl.b (by decide +kernel)) (by simp) rfl (fun q7 ad7 S7 f7 e7 z7 => ?_)
  have g7_31_0 : ad7 31 0 = q1 := ((f7 31 0 (fun z => absurd z.1 (by decide))).1).trans g6_31_0
  have g7_32_0 : ad7 32 0 = q2 := ((f7 32 0 (fun z => absurd z.1 (by decide))).1).trans g6_32_0
  have g7_34_0 : ad7 34 0 = q3 := ((f7 34 0 (fun z => absurd z.1 (by decide))).1).trans g6_34_0
  have g7_35_0 : ad7 35 0 = q4 := ((f7 35 0 (fun z => absurd z.1 (by decide))).1).trans g6_35_0
  have g7_36_0 : ad7 36 0 = q5 := ((f7 36 0 (fun z => absurd z.1 (by decide))).1).trans g6_36_0
  have g7_38_0 : ad7 38 0 = q6 := ((f7 38 0 (fun z => absurd z.1 (by decide))).1).trans e6
  refine ei_pf kok_30 rfl (ev_in (by decide +kernel) rfl) (k0 := 9) (by decide) rfl rfl rfl rfl (by simp) dX6_init_60 rfl (fs' := [.ref q1, .ref q2, .int 0, .ref q3, .ref q4, .ref q5, .int 0, .ref q6, .int 0, .ref q7, .int 0, .int 0, .int 0, .int 0, .int 0, .int 0, .int 0, .int 0, .null, .null, .null, .null, .null, .null, .null]) rfl ?_
  refine ei_aload_n dX6_init_63 rfl 0 rfl rfl ?_
  refine ei_bipush dX6_init_64 rfl rfl ?_
  refine ei_newI 49 0 rfl rfl ⟨by decide, by decide⟩ (by decide) (by decide) (by decide) dX6_init_66 (KCl.b (by decide +kernel)) (by simp) rfl (fun q8 ad8 S8 f8 e8 z8 => ?_)
  have g8_31_0 : ad8 31 0 = q1 := ((f8 31 0 (fun z => absurd z.1 (by decide))).1).trans g7_31_0
  have g8_32_0 : ad8 32 0 = q2 := ((f8 32 0 (fun z => absurd z.1 (by decide))).1).trans g7_32_0
  have g8_34_0 : ad8 34 0 = q3 := ((f8 34 0 (fun z => absurd z.1 (by decide))).1).trans g7_34_0
  have g8_35_0 : ad8 35 0 = q4 := ((f8 35 0 (fun z => absurd z.1 (by decide))).1).trans g7_35_0
  have g8_36_0 : ad8 36 0 = q5 := ((f8 36 0 (fun z => absurd z.1 (by decide))).1).trans g7_36_0
  have g8_38_0 : ad8 38 0 = q6 := ((f8 38 0 (fun z => absurd z.1 (by decide))).1).trans g7_38_0
  have g8_40_0 : ad8 40 0 = q7 := ((f8 40 0 (fun z => absurd z.1 (by decide))).1).trans e7
  refine ei_pf kok_30 rfl (ev_in (by decide +kernel) rfl) (k0 := 18) (by decide) rfl rfl rfl rfl (by simp) dX6_init_68 rfl (fs' := [.ref q1, .ref q2, .int 0, .ref q3, .ref q4, .ref q5, .int 0, .ref q6, .int 0, .ref q7, .int 0, .int 0, .int 0, .int 0, .int 0, .int 0, .int 0, .int 0, .ref q8, .null, .null, .null, .null, .null, .null]) rfl ?_
  refine ei_aload_n dX6_init_71 rfl 0 rfl rfl ?_
  refine ei_bipush dX6_init_72 rfl rfl ?_
  refine ei_newI 50 0 rfl rfl ⟨by decide, by decide⟩ (by decide) (by decide) (by decide) dX6_init_74 (KCl.b (by decide +kernel)) (by simp) rfl (fun q9 ad9 S9 f9 e9 z9 => ?_)
  have g9_31_0 : ad9 31 0 = q1 := ((f9 31 0 (fun z => absurd z.1 (by decide))).1).trans g8_31_0
  have g9_32_0 : ad9 32 0 = q2 := ((f9 32 0 (fun z => absurd z.1 (by decide))).1).trans g8_32_0
  have g9_34_0 : ad9 34 0 = q3 := ((f9 34 0 (fun z => absurd z.1 (by decide))).1).trans g8_34_0
  have g9_35_0 : ad9 35 0 = q4 := ((f9 35 0 (fun z => absurd z.1 (by decide))).1).trans g8_35_0
  have g9_36_0 : ad9 36 0 = q5 := ((f9 36 0 (fun z => absurd z.1 (by decide))).1).trans g8_36_0
  have g9_38_0 : ad9 38 0 = q6 := ((f9 38 0 (fun z => absurd z.1 (by decide))).1).trans g8_38_0
  have g9_40_0 : ad9 40 0 = q7 := ((f9 40 0 (fun z => absurd z.1 (by decide))).1).trans g8_40_0
  have g9_49_0 : ad9 49 0 = q8 := ((f9 49 0 (fun z => absurd z.1 (by decide))).1).trans e8
  refine ei_pf kok_30 rfl (ev_in (by decide +kernel) rfl) (k0 := 19) (by decide) rfl rfl rfl rfl (by simp) dX6_init_76 rfl (fs' := [.ref q1, .ref q2, .int 0, .ref q3, .ref q4, .ref q5, .int 0, .ref q6, .int 0, .ref q7, .int 0, .int 0, .int 0, .int 0, .int 0, .int 0, .int 0, .int 0, .ref q8, .ref q9, .null, .null, .null, .null, .null]) rfl ?_
  refine ei_aload_n dX6_init_79 rfl 0 rfl rfl ?_
  refine ei_bipush dX6_init_80 rfl rfl ?_
  refine ei_newI 51 0 rfl rfl ⟨by decide, by decide⟩ (by decide) (by decide) (by decide) dX6_init_82 (KCl.b (by decide +kernel)) (by simp) rfl (fun q10 ad10 S10 f10 e10 z10 => ?_)
  have g10_31_0 : ad10 31 0 = q1 := ((f10 31 0 (fun z => absurd z.1 (by decide))).1).trans g9_31_0
  have g10_32_0 : ad10 32 0 = q2 := ((f10 32 0 (fun z => absurd z.1 (by decide))).1).trans g9_32_0
  have g10_34_0 : ad10 34 0 = q3 := ((f10 34 0 (fun z => absurd z.1 (by decide))).1).trans g9_34_0
  have g10_35_0 : ad10 35 0 = q4 := ((f10 35 0 (fun z => absurd z.1 (by decide))).1).trans g9_35_0
  have g10_36_0 : ad10 36 0 = q5 := ((f10 36 0 (fun z => absurd z.1 (by decide))).1).trans g9_36_0
  have g10_38_0 : ad10 38 0 = q6 := ((f10 38 0 (fun z => absurd z.1 (by decide))).1).trans g9_38_0
  have g10_40_0 : ad10 40 0 = q7 := ((f10 40 0 (fun z => absurd z.1 (by decide))).1).trans g9_40_0
  have g10_49_0 : ad10 49 0 = q8 := ((f10 49 0 (fun z => absurd z.1 (by decide))).1).trans g9_49_0
  have g10_50_0 : ad10 50 0 = q9 := ((f10 50 0 (fun z => absurd z.1 (by decide))).1).trans e9
  refine ei_pf kok_30 rfl (ev_in (by decide +kernel) rfl) (k0 := 20) (by decide) rfl rfl rfl rfl (by simp) dX6_init_84 rfl (fs' := [.ref q1, .ref q2, .int 0, .ref q3, .ref q4, .ref q5, .int 0, .ref q6, .int 0, .ref q7, .int 0, .int 0, .int 0, .int 0, .int 0, .int 0, .int 0, .int 0, .ref q8, .ref q9, .ref q10, .null, .null, .null, .null]) rfl ?_
  refine ei_aload_n dX6_init_87 rfl 0 rfl rfl ?_
  refine ei_bipush dX6_init_88 rfl rfl ?_
  refine ei_newI 52 0 rfl rfl ⟨by decide, by decide⟩ (by decide) (by decide) (by decide) dX6_init_90 (KCl.b (by decide +kernel)) (by simp) rfl (fun q11 ad11 S11 f11 e11 z11 => ?_)
  have g11_31_0 : ad11 31 0 = q1 := ((f11 31 0 (fun z => absurd z.1 (by decide))).1).trans g10_31_0
  have g11_32_0 : ad11 32 0 = q2 := ((f11 32 0 (fun z => absurd z.1 (by decide))).1).trans g10_32_0
  have g11_34_0 : ad11 34 0 = q3 := ((f11 34 0 (fun z => absurd z.1 (by decide))).1).trans g10_34_0
  have g11_35_0 : ad11 35 0 = q4 := ((f11 35 0 (fun z => absurd z.1 (by decide))).1).trans g10_35_0
  have g11_36_0 : ad11 36 0 = q5 := ((f11 36 0 (fun z => absurd z.1 (by decide))).1).trans g10_36_0
  have g11_38_0 : ad11 38 0 = q6 := ((f11 38 0 (fun z => absurd z.1 (by decide))).1).trans g10_38_0
  have g11_40_0 : ad11 40 0 = q7 := ((f11 40 0 (fun z => absurd z.1 (by decide))).1).trans g10_40_0
  have g11_49_0 : ad11 49 0 = q8 := ((f11 49 0 (fun z => absurd z.1 (by decide))).1).trans g10_49_0
  have g11_50_0 : ad11 50 0 = q9 := ((f11 50 0 (fun z => absurd z.1 (by decide))).1).trans g10_50_0
  have g11_51_0 : ad11 51 0 = q10 := ((f11 51 0 (fun z => absurd z.1 (by decide))).1).trans e10
  refine ei_pf kok_30 rfl (ev_in (by decide +kernel) rfl) (k0 := 21) (by decide) rfl rfl rfl rfl (by simp) dX6_init_92 rfl (fs' := [.ref q1, .ref q2, .int 0, .ref q3, .ref q4, .ref q5, .int 0, .ref q6, .int 0, .ref q7, .int 0, .int 0, .int 0, .int 0, .int 0, .int 0, .int 0, .int 0, .ref q8, .ref q9, .ref q10, .ref q11, .null, .null, .null]) rfl ?_
  refine ei_aload_n dX6_init_95 rfl 0 rfl rfl ?_
  refine ei_bipush dX6_init_96 rfl rfl ?_
  refine ei_newI 53 0 rfl rfl ⟨by decide, by decide⟩ (by decide) (by decide) (by decide) dX6_init_98 (KCl.b (by decide +kernel)) (by simp) rfl (fun q12 ad12 S12 f12 e12 z12 => ?_)
  have g12_31_0 : ad12 31 0 = q1 := ((f12 31 0 (fun z => absurd z.1 (by decide))).1).trans g11_31_0
  have g12_32_0 : ad12 32 0 = q2 := ((f12 32 0 (fun z => absurd z.1 (by decide))).1).trans g11_32_0
  have g12_34_0 : ad12 34 0 = q3 := ((f12 34 0 (fun z => absurd z.1 (by decide))).1).trans g11_34_0
  have g12_35_0 : ad12 35 0 = q4 := ((f12 35 0 (fun z => absurd z.1 (by decide))).1).trans g11_35_0
  have g12_36_0 : ad12 36 0 = q5 := ((f12 36 0 (fun z => absurd z.1 (by decide))).1).trans g11_36_0
  have g12_38_0 : ad12 38 0 = q6 := ((f12 38 0 (fun z => absurd z.1 (by decide))).1).trans g11_38_0
  have g12_40_0 : ad12 40 0 = q7 := ((f12 40 0 (fun z => absurd z.1 (by decide))).1).trans g11_40_0
  have g12_49_0 : ad12 49 0 = q8 := ((f12 49 0 (fun z => absurd z.1 (by decide))).1).trans g11_49_0
  have g12_50_0 : ad12 50 0 = q9 := ((f12 50 0 (fun z => absurd z.1 (by decide))).1).trans g11_50_0
  have g12_51_0 : ad12 51 0 = q10 := ((f12 51 0 (fun z => absurd z.1 (by decide))).1).trans g11_51_0
  have g12_52_0 : ad12 52 0 = q11 := ((f12 52 0 (fun z => absurd z.1 (by decide))).1).trans e11
  refine ei_pf kok_30 rfl (ev_in (by decide +kernel) rfl) (k0 := 22) (by decide) rfl rfl rfl rfl (by simp) dX6_init_100 rfl (fs' := [.ref q1, .ref q2, .int 0, .ref q3, .ref q4, .ref q5, .int 0, .ref q6, .int 0, .ref q7, .int 0, .int 0, .int 0, .int 0, .int 0, .int 0, .int 0, .int 0, .ref q8, .ref q9, .ref q10, .ref q11, .ref q12, .null, .null]) rfl ?_
  refine ei_aload_n dX6_init_103 rfl 0 rfl rfl ?_
  refine ei_bipush dX6_init_104 rfl rfl ?_
  refine ei_newJ 54 0 rfl rfl ⟨by decide, by decide⟩ (by decide) (by decide) (by decide) dX6_init_106 (KCl.b (by decide +kernel)) (by simp) rfl (fun q13 ad13 S13 f13 e13 z13 => ?_)
  have g13_31_0 : ad13 31 0 = q1 := ((f13 31 0 (fun z => absurd z.1 (by decide))).1).trans g12_31_0
  have g13_32_0 : ad13 32 0 = q2 := ((f13 32 0 (fun z => absurd z.1 (by decide))).1).trans g12_32_0
  have g13_34_0 : ad13 34 0 = q3 := ((f13 34 0 (fun z => absurd z.1 (by decide))).1).trans g12_34_0
  have g13_35_0 : ad13 35 0 = q4 := ((f13 35 0 (fun z => absurd z.1 (by decide))).1).trans g12_35_0
  have g13_36_0 : ad13 36 0 = q5 := ((f13 36 0 (fun z => absurd z.1 (by decide))).1).trans g12_36_0
  have g13_38_0 : ad13 38 0 = q6 := ((f13 38 0 (fun z => absurd z.1 (by decide))).1).trans g12_38_0
  have g13_40_0 : ad13 40 0 = q7 := ((f13 40 0 (fun z => absurd z.1 (by decide))).1).trans g12_40_0
  have g13_49_0 : ad13 49 0 = q8 := ((f13 49 0 (fun z => absurd z.1 (by decide))).1).trans g12_49_0
  have g13_50_0 : ad13 50 0 = q9 := ((f13 50 0 (fun z => absurd z.1 (by decide))).1).trans g12_50_0
  have g13_51_0 : ad13 51 0 = q10 := ((f13 51 0 (fun z => absurd z.1 (by decide))).1).trans g12_51_0
  have g13_52_0 : ad13 52 0 = q11 := ((f13 52 0 (fun z => absurd z.1 (by decide))).1).trans g12_52_0
  have g13_53_0 : ad13 53 0 = q12 := ((f13 53 0 (fun z => absurd z.1 (by decide))).1).trans e12
  refine ei_pf kok_30 rfl (ev_in (by decide +kernel) rfl) (k0 := 23) (by decide) rfl rfl rfl rfl (by simp) dX6_init_108 rfl (fs' := [.ref q1, .ref q2, .int 0, .ref q3, .ref q4, .ref q5, .int 0, .ref q6, .int 0, .ref q7, .int 0, .int 0, .int 0, .int 0, .int 0, .int 0, .int 0, .int 0, .ref q8, .ref q9, .ref q10, .ref q11, .ref q12, .ref q13, .null]) rfl ?_
  refine ei_aload_n dX6_init_111 rfl 0 rfl rfl ?_
  refine ei_iconst dX6_init_112 rfl rfl ?_
  refine ei_newI 55 0 rfl rfl ⟨by decide, by decide⟩ (by decide) (by decide) (by decide) dX6_init_113 (KCl.b (by decide +kernel)) (by simp) rfl (fun q14 ad14 S14 f14 e14 z14 => ?_)
  have g14_31_0 : ad14 31 0 = q1 := ((f14 31 0 (fun z => absurd z.1 (by decide))).1).trans g13_31_0
  have g14_32_0 : ad14 32 0 = q2 := ((f14 32 0 (fun z => absurd z.1 (by decide))).1).trans g13_32_0
  have g14_34_0 : ad14 34 0 = q3 := ((f14 34 0 (fun z => absurd z.1 (by decide))).1).trans g13_34_0
  have g14_35_0 : ad14 35 0 = q4 := ((f14 35 0 (fun z => absurd z.1 (by decide))).1).trans g13_35_0
  have g14_36_0 : ad14 36 0 = q5 := ((f14 36 0 (fun z => absurd z.1 (by decide))).1).trans g13_36_0
  have g14_38_0 : ad14 38 0 = q6 := ((f14 38 0 (fun z => absurd z.1 (by decide))).1).trans g13_38_0
  have g14_40_0 : ad14 40 0 = q7 := ((f14 40 0 (fun z => absurd z.1 (by decide))).1).trans g13_40_0
  have g14_49_0 : ad14 49 0 = q8 := ((f14 49 0 (fun z => absurd z.1 (by decide))).1).trans g13_49_0
  have g14_50_0 : ad14 50 0 = q9 := ((f14 50 0 (fun z => absurd z.1 (by decide))).1).trans g13_50_0
  have g14_51_0 : ad14 51 0 = q10 := ((f14 51 0 (fun z => absurd z.1 (by decide))).1).trans g13_51_0
  have g14_52_0 : ad14 52 0 = q11 := ((f14 52 0 (fun z => absurd z.1 (by decide))).1).trans g13_52_0
  have g14_53_0 : ad14 53 0 = q12 := ((f14 53 0 (fun z => absurd z.1 (by decide))).1).trans g13_53_0
  have g14_54_0 : ad14 54 0 = q13 := ((f14 54 0 (fun z => absurd z.1 (by decide))).1).trans e13
  refine ei_pf kok_30 rfl (ev_in (by decide +kernel) rfl) (k0 := 24) (by decide) rfl rfl rfl rfl (by simp) dX6_init_115 rfl (fs' := [.ref q1, .ref q2, .int 0, .ref q3, .ref q4, .ref q5, .int 0, .ref q6, .int 0, .ref q7, .int 0, .int 0, .int 0, .int 0, .int 0, .int 0, .int 0, .int 0, .ref q8, .ref q9, .ref q10, .ref q11, .ref q12, .ref q13, .ref q14]) rfl ?_
  refine ei_iconst dX6_init_118 rfl rfl ?_
  refine ei_istore_n dX6_init_119 rfl (by decide) (lv' := [(1, .int 0), (0, .ref h)]) rfl rfl ?_
  have z35 : S14.1 35 0 = fun _ => 0 := ((f14 35 0 (fun z => absurd z.1 (by decide))).2.1).trans (((f13 35 0 (fun z => absurd z.1 (by decide))).2.1).trans (((f12 35 0 (fun z => absurd z.1 (by decide))).2.1).trans (((f11 35 0 (fun z => absurd z.1 (by decide))).2.1).trans (((f10 35 0 (fun z => absurd z.1 (by decide))).2.1).trans (((f9 35 0 (fun z => absurd z.1 (by decide))).2.1).trans (((f8 35 0 (fun z => absurd z.1 (by decide))).2.1).trans (((f7 35 0 (fun z => absurd z.1 (by decide))).2.1).trans (((f6 35 0 (fun z => absurd z.1 (by decide))).2.1).trans (((f5 35 0 (fun z => absurd z.1 (by decide))).2.1).trans (z4))))))))))
  have key : ∀ m i (S : evS), i + m = 4 → (∀ j k, j < i → k < 33 → S.1 31 0 (33 * j + k) = iI (D0 k)) → S.1 35 0 0 = 0 → S.1 35 0 1 = 0 → eiAt G M_X6_init (eiRm 2 14 1431) [(h, .inr (evC 30, [.null, .null, .int 0, .null, .null, .null, .int 0, .null, .int 0, .null, .int 0, .int 0, .int 0, .int 0, .int 0, .int 0, .int 0, .int 0, .null, .null, .null, .null, .null, .null, .null]))] sz (eiZ G 30 0 kModel [.null, .null, .int 0, .null, .null, .null, .int 0, .null, .int 0, .null, .int 0, .int 0, .int 0, .int 0, .int 0, .int 0, .int 0, .int 0, .null, .null, .null, .null, .null, .null, .null] InM h sz 14 1431) 120 [(1, .int (nI i)), (0, .ref h)] [] 14 1431 ([(h, .inr (evC 30, [.ref q1, .ref q2, .int 0, .ref q3, .ref q4, .ref q5, .int 0, .ref q6, .int 0, .ref q7, .int 0, .int 0, .int 0, .int 0, .int 0, .int 0, .int 0, .int 0, .ref q8, .ref q9, .ref q10, .ref q11, .ref q12, .ref q13, .ref q14]))] ++ evwK (evca G) ad14 S kModA) := by
    intro m
    induction m with
    | zero =>
      intro i S hi h1 h2 h3
      refine ei_iload_n dX6_init_120 rfl 0 rfl rfl (ei_iconst dX6_init_121 rfl rfl (ei_icmp_ge dX6_init_122 (tgt := 142) rfl rfl (fun _ => ?_) (fun hc => absurd ((nI_ge4 i (by omega)).mpr (by omega)) hc)))
      refine ei_key (kd := 30) (x := 0) (fun _ => 0) rfl (kModA_c) (by decide +kernel) (fun ad' S' z1 z2 => ?_) (fun ad15 S15 f15 e15 z15 => ?_)
      · show [Value.ref (ad' 31 0), Value.ref (ad' 32 0), Value.int (S'.1 30 0 2), Value.ref (ad' 34 0), Value.ref (ad' 35 0), Value.ref (ad' 36 0), Value.int (S'.1 30 0 6), Value.ref (ad' 38 0), Value.int (S'.1 30 0 8), Value.ref (ad' 40 0), Value.int (S'.1 30 0 10), Value.int (S'.1 30 0 11), Value.int (S'.1 30 0 12), Value.int (S'.1 30 0 13), Value.int (S'.1 30 0 14), Value.int (S'.1 30 0 15), Value.int (S'.1 30 0 16), Value.int (S'.1 30 0 17), Value.ref (ad' 49 0), Value.ref (ad' 50 0), Value.ref (ad' 51 0), Value.ref (ad' 52 0), Value.ref (ad' 53 0), Value.ref (ad' 54 0), Value.ref (ad' 55 0)] = _
        rw [(z1 31 0 (fun z => absurd z.1 (by decide))).trans g14_31_0, (z1 32 0 (fun z => absurd z.1 (by decide))).trans g14_32_0, (z1 34 0 (fun z => absurd z.1 (by decide))).trans g14_34_0, (z1 35 0 (fun z => absurd z.1 (by decide))).trans g14_35_0, (z1 36 0 (fun z => absurd z.1 (by decide))).trans g14_36_0, (z1 38 0 (fun z => absurd z.1 (by decide))).trans g14_38_0, (z1 40 0 (fun z => absurd z.1 (by decide))).trans g14_40_0, (z1 49 0 (fun z => absurd z.1 (by decide))).trans g14_49_0, (z1 50 0 (fun z => absurd z.1 (by decide))).trans g14_50_0, (z1 51 0 (fun z => absurd z.1 (by decide))).trans g14_51_0, (z1 52 0 (fun z => absurd z.1 (by decide))).trans g14_52_0, (z1 53 0 (fun z => absurd z.1 (by decide))).trans g14_53_0, (z1 54 0 (fun z => absurd z.1 (by decide))).trans g14_54_0, (z1 55 0 (fun z => absurd z.1 (by decide))).trans e14, z2]
      refine ei_ret rfl dX6_init_142 e15 ⟨fun i k hi hk => ?_, ⟨?_, ?_⟩, ?_, ?_, ?_⟩ rfl rfl
      · rw [(f15 31 0 (fun z => absurd z.1 (by decide))).2.1]
        exact h1 i k (by omega) hk
      · rw [(f15 35 0 (fun z => absurd z.1 (by decide))).2.1]
        exact h2
      · rw [(f15 35 0 (fun z => absurd z.1 (by decide))).2.1]
        exact h3
      · rw [z15]
      · rw [z15]
      · rw [z15]
    | succ m ih =>
      intro i S hi h1 h2 h3
      refine ei_iload_n dX6_init_120 rfl 0 rfl rfl (ei_iconst dX6_init_121 rfl rfl (ei_icmp_ge dX6_init_122 (tgt := 142) rfl rfl (fun hc => absurd ((nI_ge4 i (by omega)).mp hc) (by omega)) (fun _ => ?_)))
      refine ei_aload_n dX6_init_125 rfl 1 rfl rfl (ei_gf kok_30 (ev_in (by decide +kernel) rfl) (k0 := 0) (by decide) rfl dX6_init_126 rfl (ei_bipush dX6_init_129 rfl rfl (ei_iload_n dX6_init_131 rfl 0 rfl rfl (ei_imul dX6_init_132 rfl ?_))))
      refine ei_cs (As := [.ref q1, .int (33 * nI i)]) (st := []) (n := 2) (d := 0) mv_X6_begins (ev_in (by decide +kernel) rfl) rfl dX6_init_133 rfl (by decide) (by decide) (by decide) kModA_c (fun a b hab => ?_) ?_ rfl (q := fun S' => (∀ k, k < 33 → S'.1 31 0 (33 * i + k) = iI (D0 k)) ∧ (∀ a b c, ¬ (a = 31 ∧ b = 0 ∧ 33 * i ≤ c ∧ c < 33 * i + 33) → S'.1 a b c = S.1 a b c) ∧ S'.2 = S.2) (fun S9 hS => ?_)
      · exact (show ∀ q ∈ kModA, q.1 < 60 by decide +kernel) (a, b) hab
      · have := m_begins (G := eiG G ad14 kModA) (d := 0) (S := S) kModA_c (k0 := 31) (off := 33 * i) (N := 132) rfl rfl (by decide) (by show (31, 0) ∈ kModA; decide +kernel) (by omega) (nI_33 i (by omega))
        rw [show evad (eiG G ad14 kModA) 31 0 = q1 from (adR_lo (G := G) (by decide)).trans g14_31_0] at this
        exact this
      · refine ei_iinc (q := 0) dX6_init_136 rfl (nI_s i (by omega)) (by decide) (lv' := [(1, .int (nI (i + 1))), (0, .ref h)]) rfl rfl (ei_goto dX6_init_139 (tgt := 120) rfl (ih (i + 1) S9 (by omega) (fun j k hj hk => ?_) ?_ ?_))
        · by_cases hji : j = i
          · subst hji; exact hS.1 k hk
          · rw [hS.2.1 31 0 (33 * j + k) (by omega)]; exact h1 j k (by omega) hk
        · rw [hS.2.1 35 0 0 (by omega)]; exact h2
        · rw [hS.2.1 35 0 1 (by omega)]; exact h3
  exact key 4 0 S14 rfl (fun j k hj => absurd hj (by omega)) (by rw [z35]) (by rw [z35])
