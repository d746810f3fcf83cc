/-! CONSTRUCTORS of Plan and Text (WRITTEN BY genctor.py) -/
def kPlan (x : Nat) : List (Nat × Nat) := [] ++ [(7, x)] ++ [(8, x)] ++ [(9, x)] ++ [(10, x)] ++ [(11, x)] ++ [(12, x)] ++ [(13, x)] ++ [(14, x)] ++ [(15, x)] ++ [(6, x)]
def InP (_ : evS) : Prop := True
theorem i_plan {G : evG} (x : Nat) (hx : x < 5) : eiM G yX2_init M_X2_init 1 9 58 6 x (kPlan x) [.int 0, .int 0, .null, .null, .null, .null, .null, .null, .null, .null, .null, .int 0, .int 0, .int 0] InP := by
  refine eiM.of (by decide) rfl rfl (by decide) (fun h sz => ?_)
  refine ei_aload_n dX2_init_0 rfl 0 rfl rfl ?_
  refine ei_obj (ev_in (by decide +kernel) rfl) dX2_init_1 (by decide) (by decide) rfl ?_
  refine ei_aload_n dX2_init_4 rfl 0 rfl rfl ?_
  refine ei_iconst dX2_init_5 rfl rfl ?_
  refine ei_pi kok_6 (ev_in (by decide +kernel) rfl) (k0 := 0) (by decide) rfl rfl rfl (by simp) dX2_init_6 rfl (fs' := [.int 0, .int 0, .null, .null, .null, .null, .null, .null, .null, .null, .null, .int 0, .int 0, .int 0]) rfl ?_
  refine ei_aload_n dX2_init_9 rfl 0 rfl rfl ?_
  refine ei_iconst dX2_init_10 rfl rfl ?_
  refine ei_pi kok_6 (ev_in (by decide +kernel) rfl) (k0 := 1) (by decide) rfl rfl rfl (by simp) dX2_init_11 rfl (fs' := [.int 0, .int 0, .null, .null, .null, .null, .null, .null, .null, .null, .null, .int 0, .int 0, .int 0]) rfl ?_
  refine ei_aload_n dX2_init_14 rfl 0 rfl rfl ?_
  refine ei_bipush dX2_init_15 rfl rfl ?_
  refine ei_newI 7 x rfl rfl ⟨by decide, by decide⟩ (by decide) (by decide) (by decide) dX2_init_17 (KCl.b rfl) (by simp) rfl (fun q1 ad1 S1 f1 e1 z1 => ?_)
  refine ei_pf kok_6 rfl (ev_in (by decide +kernel) rfl) (k0 := 2) (by decide) rfl rfl rfl rfl (by simp) dX2_init_19 rfl (fs' := [.int 0, .int 0, .ref q1, .null, .null, .null, .null, .null, .null, .null, .null, .int 0, .int 0, .int 0]) rfl ?_
  refine ei_aload_n dX2_init_22 rfl 0 rfl rfl ?_
  refine ei_bipush dX2_init_23 rfl rfl ?_
  refine ei_newI 8 x rfl rfl ⟨by decide, by decide⟩ (by decide) (by decide) (by decide) dX2_init_25 (kcl_n (f := fun x => [] ++ [(7, x)]) 5 (by decide +kernel) x hx) (by simp) rfl (fun q2 ad2 S2 f2 e2 z2 => ?_)
  have g2_7_x : ad2 7 x = q1 := ((f2 7 x (fun z => absurd z.1 (by decide))).1).trans e1
  refine ei_pf kok_6 rfl (ev_in (by decide +kernel) rfl) (k0 := 3) (by decide) rfl rfl rfl rfl (by simp) dX2_init_27 rfl (fs' := [.int 0, .int 0, .ref q1, .ref q2, .null, .null, .null, .null, .null, .null, .null, .int 0, .int 0, .int 0]) rfl ?_
  refine ei_aload_n dX2_init_30 rfl 0 rfl rfl ?_
  refine ei_bipush dX2_init_31 rfl rfl ?_
  refine ei_newI 9 x rfl rfl ⟨by decide, by decide⟩ (by decide) (by decide) (by decide) dX2_init_33 (kcl_n (f := fun x => [] ++ [(7, x)] ++ [(8, x)]) 5 (by decide +kernel) x hx) (by simp) rfl (fun q3 ad3 S3 f3 e3 z3 => ?_)
  have g3_7_x : ad3 7 x = q1 := ((f3 7 x (fun z => absurd z.1 (by decide))).1).trans g2_7_x
  have g3_8_x : ad3 8 x = q2 := ((f3 8 x (fun z => absurd z.1 (by decide))).1).trans e2
  refine ei_pf kok_6 rfl (ev_in (by decide +kernel) rfl) (k0 := 4) (by decide) rfl rfl rfl rfl (by simp) dX2_init_35 rfl (fs' := [.int 0, .int 0, .ref q1, .ref q2, .ref q3, .null, .null, .null, .null, .null, .null, .int 0, .int 0, .int 0]) rfl ?_
  refine ei_aload_n dX2_init_38 rfl 0 rfl rfl ?_
  refine ei_bipush dX2_init_39 rfl rfl ?_
  refine ei_newI 10 x rfl rfl ⟨by decide, by decide⟩ (by decide) (by decide) (by decide) dX2_init_41 (kcl_n (f := fun x => [] ++ [(7, x)] ++ [(8, x)] ++ [(9, x)]) 5 (by decide +kernel) x hx) (by simp) rfl (fun q4 ad4 S4 f4 e4 z4 => ?_)
  have g4_7_x : ad4 7 x = q1 := ((f4 7 x (fun z => absurd z.1 (by decide))).1).trans g3_7_x
  have g4_8_x : ad4 8 x = q2 := ((f4 8 x (fun z => absurd z.1 (by decide))).1).trans g3_8_x
  have g4_9_x : ad4 9 x = q3 := ((f4 9 x (fun z => absurd z.1 (by decide))).1).trans e3
  refine ei_pf kok_6 rfl (ev_in (by decide +kernel) rfl) (k0 := 5) (by decide) rfl rfl rfl rfl (by simp) dX2_init_43 rfl (fs' := [.int 0, .int 0, .ref q1, .ref q2, .ref q3, .ref q4, .null, .null, .null, .null, .null, .int 0, .int 0, .int 0]) rfl ?_
  refine ei_aload_n dX2_init_46 rfl 0 rfl rfl ?_
  refine ei_bipush dX2_init_47 rfl rfl ?_
  refine ei_newI 11 x rfl rfl ⟨by decide, by decide⟩ (by decide) (by decide) (by decide) dX2_init_49 (kcl_n (f := fun x => [] ++ [(7, x)] ++ [(8, x)] ++ [(9, x)] ++ [(10, x)]) 5 (by decide +kernel) x hx) (by simp) rfl (fun q5 ad5 S5 f5 e5 z5 => ?_)
  have g5_7_x : ad5 7 x = q1 := ((f5 7 x (fun z => absurd z.1 (by decide))).1).trans g4_7_x
  have g5_8_x : ad5 8 x = q2 := ((f5 8 x (fun z => absurd z.1 (by decide))).1).trans g4_8_x
  have g5_9_x : ad5 9 x = q3 := ((f5 9 x (fun z => absurd z.1 (by decide))).1).trans g4_9_x
  have g5_10_x : ad5 10 x = q4 := ((f5 10 x (fun z => absurd z.1 (by decide))).1).trans e4
  refine ei_pf kok_6 rfl (ev_in (by decide +kernel) rfl) (k0 := 6) (by decide) rfl rfl rfl rfl (by simp) dX2_init_51 rfl (fs' := [.int 0, .int 0, .ref q1, .ref q2, .ref q3, .ref q4, .ref q5, .null, .null, .null, .null, .int 0, .int 0, .int 0]) rfl ?_
  refine ei_aload_n dX2_init_54 rfl 0 rfl rfl ?_
  refine ei_bipush dX2_init_55 rfl rfl ?_
  refine ei_newI 12 x rfl rfl ⟨by decide, by decide⟩ (by decide) (by decide) (by decide) dX2_init_57 (kcl_n (f := fun x => [] ++ [(7, x)] ++ [(8, x)] ++ [(9, x)] ++ [(10, x)] ++ [(11, x)]) 5 (by decide +kernel) x hx) (by simp) rfl (fun q6 ad6 S6 f6 e6 z6 => ?_)
  have g6_7_x : ad6 7 x = q1 := ((f6 7 x (fun z => absurd z.1 (by decide))).1).trans g5_7_x
  have g6_8_x : ad6 8 x = q2 := ((f6 8 x (fun z => absurd z.1 (by decide))).1).trans g5_8_x
  have g6_9_x : ad6 9 x = q3 := ((f6 9 x (fun z => absurd z.1 (by decide))).1).trans g5_9_x
  have g6_10_x : ad6 10 x = q4 := ((f6 10 x (fun z => absurd z.1 (by decide))).1).trans g5_10_x
  have g6_11_x : ad6 11 x = q5 := ((f6 11 x (fun z => absurd z.1 (by decide))).1).trans e5
  refine ei_pf kok_6 rfl (ev_in (by decide +kernel) rfl) (k0 := 7) (by decide) rfl rfl rfl rfl (by simp) dX2_init_59 rfl (fs' := [.int 0, .int 0, .ref q1, .ref q2, .ref q3, .ref q4, .ref q5, .ref q6, .null, .null, .null, .int 0, .int 0, .int 0]) rfl ?_
  refine ei_aload_n dX2_init_62 rfl 0 rfl rfl ?_
  refine ei_bipush dX2_init_63 rfl rfl ?_
  refine ei_newI 13 x rfl rfl ⟨by decide, by decide⟩ (by decide) (by decide) (by decide) dX2_init_65 (kcl_n (f := fun x => [] ++ [(7, x)] ++ [(8, x)] ++ [(9, x)] ++ [(10, x)] ++ [(11, x)] ++ [(12, x)]) 5 (by decide +kernel) x hx) (by simp) rfl (fun q7 ad7 S7 f7 e7 z7 => ?_)
  have g7_7_x : ad7 7 x = q1 := ((f7 7 x (fun z => absurd z.1 (by decide))).1).trans g6_7_x
  have g7_8_x : ad7 8 x = q2 := ((f7 8 x (fun z => absurd z.1 (by decide))).1).trans g6_8_x
  have g7_9_x : ad7 9 x = q3 := ((f7 9 x (fun z => absurd z.1 (by decide))).1).trans g6_9_x
  have g7_10_x : ad7 10 x = q4 := ((f7 10 x (fun z => absurd z.1 (by decide))).1).trans g6_10_x
  have g7_11_x : ad7 11 x = q5 := ((f7 11 x (fun z => absurd z.1 (by decide))).1).trans g6_11_x
  have g7_12_x : ad7 12 x = q6 := ((f7 12 x (fun z => absurd z.1 (by decide))).1).trans e6
  refine ei_pf kok_6 rfl (ev_in (by decide +kernel) rfl) (k0 := 8) (by decide) rfl rfl rfl rfl (by simp) dX2_init_67 rfl (fs' := [.int 0, .int 0, .ref q1, .ref q2, .ref q3, .ref q4, .ref q5, .ref q6, .ref q7, .null, .null, .int 0, .int 0, .int 0]) rfl ?_
  refine ei_aload_n dX2_init_70 rfl 0 rfl rfl ?_
  refine ei_bipush dX2_init_71 rfl rfl ?_
  refine ei_newI 14 x rfl rfl ⟨by decide, by decide⟩ (by decide) (by decide) (by decide) dX2_init_73 (kcl_n (f := fun x => [] ++ [(7, x)] ++ [(8, x)] ++ [(9, x)] ++ [(10, x)] ++ [(11, x)] ++ [(12, x)] ++ [(13, x)]) 5 (by decide +kernel) x hx) (by simp) rfl (fun q8 ad8 S8 f8 e8 z8 => ?_)
  have g8_7_x : ad8 7 x = q1 := ((f8 7 x (fun z => absurd z.1 (by decide))).1).trans g7_7_x
  have g8_8_x : ad8 8 x = q2 := ((f8 8 x (fun z => absurd z.1 (by decide))).1).trans g7_8_x
  have g8_9_x : ad8 9 x = q3 := ((f8 9 x (fun z => absurd z.1 (by decide))).1).trans g7_9_x
  have g8_10_x : ad8 10 x = q4 := ((f8 10 x (fun z => absurd z.1 (by decide))).1).trans g7_10_x
  have g8_11_x : ad8 11 x = q5 := ((f8 11 x (fun z => absurd z.1 (by decide))).1).trans g7_11_x
  have g8_12_x : ad8 12 x = q6 := ((f8 12 x (fun z => absurd z.1 (by decide))).1).trans g7_12_x
  have g8_13_x : ad8 13 x = q7 := ((f8 13 x (fun z => absurd z.1 (by decide))).1).trans e7
  refine ei_pf kok_6 rfl (ev_in (by decide +kernel) rfl) (k0 := 9) (by decide) rfl rfl rfl rfl (by simp) dX2_init_75 rfl (fs' := [.int 0, .int 0, .ref q1, .ref q2, .ref q3, .ref q4, .ref q5, .ref q6, .ref q7, .ref q8, .null, .int 0, .int 0, .int 0]) rfl ?_
  refine ei_aload_n dX2_init_78 rfl 0 rfl rfl ?_
  refine ei_iconst dX2_init_79 rfl rfl ?_
  refine ei_newI 15 x rfl rfl ⟨by decide, by decide⟩ (by decide) (by decide) (by decide) dX2_init_80 (kcl_n (f := fun x => [] ++ [(7, x)] ++ [(8, x)] ++ [(9, x)] ++ [(10, x)] ++ [(11, x)] ++ [(12, x)] ++ [(13, x)] ++ [(14, x)]) 5 (by decide +kernel) x hx) (by simp) rfl (fun q9 ad9 S9 f9 e9 z9 => ?_)
  have g9_7_x : ad9 7 x = q1 := ((f9 7 x (fun z => absurd z.1 (by decide))).1).trans g8_7_x
  have g9_8_x : ad9 8 x = q2 := ((f9 8 x (fun z => absurd z.1 (by decide))).1).trans g8_8_x
  have g9_9_x : ad9 9 x = q3 := ((f9 9 x (fun z => absurd z.1 (by decide))).1).trans g8_9_x
  have g9_10_x : ad9 10 x = q4 := ((f9 10 x (fun z => absurd z.1 (by decide))).1).trans g8_10_x
  have g9_11_x : ad9 11 x = q5 := ((f9 11 x (fun z => absurd z.1 (by decide))).1).trans g8_11_x
  have g9_12_x : ad9 12 x = q6 := ((f9 12 x (fun z => absurd z.1 (by decide))).1).trans g8_12_x
  have g9_13_x : ad9 13 x = q7 := ((f9 13 x (fun z => absurd z.1 (by decide))).1).trans g8_13_x
  have g9_14_x : ad9 14 x = q8 := ((f9 14 x (fun z => absurd z.1 (by decide))).1).trans e8
  refine ei_pf kok_6 rfl (ev_in (by decide +kernel) rfl) (k0 := 10) (by decide) rfl rfl rfl rfl (by simp) dX2_init_82 rfl (fs' := [.int 0, .int 0, .ref q1, .ref q2, .ref q3, .ref q4, .ref q5, .ref q6, .ref q7, .ref q8, .ref q9, .int 0, .int 0, .int 0]) rfl ?_
  refine ei_aload_n dX2_init_85 rfl 0 rfl rfl ?_
  refine ei_iconst dX2_init_86 rfl rfl ?_
  refine ei_pi kok_6 (ev_in (by decide +kernel) rfl) (k0 := 11) (by decide) rfl rfl rfl (by simp) dX2_init_87 rfl (fs' := [.int 0, .int 0, .ref q1, .ref q2, .ref q3, .ref q4, .ref q5, .ref q6, .ref q7, .ref q8, .ref q9, .int 0, .int 0, .int 0]) rfl ?_
  refine ei_aload_n dX2_init_90 rfl 0 rfl rfl ?_
  refine ei_iconst dX2_init_91 rfl rfl ?_
  refine ei_pi kok_6 (ev_in (by decide +kernel) rfl) (k0 := 12) (by decide) rfl rfl rfl (by simp) dX2_init_92 rfl (fs' := [.int 0, .int 0, .ref q1, .ref q2, .ref q3, .ref q4, .ref q5, .ref q6, .ref q7, .ref q8, .ref q9, .int 0, .int 0, .int 0]) rfl ?_
  refine ei_aload_n dX2_init_95 rfl 0 rfl rfl ?_
  refine ei_iconst dX2_init_96 rfl rfl ?_
  refine ei_pi kok_6 (ev_in (by decide +kernel) rfl) (k0 := 13) (by decide) rfl rfl rfl (by simp) dX2_init_97 rfl (fs' := [.int 0, .int 0, .ref q1, .ref q2, .ref q3, .ref q4, .ref q5, .ref q6, .ref q7, .ref q8, .ref q9, .int 0, .int 0, .int 0]) rfl ?_
  refine ei_key (kd := 6) (x := x) (fun _ => 0) rfl (kcl_n (f := fun x => [] ++ [(7, x)] ++ [(8, x)] ++ [(9, x)] ++ [(10, x)] ++ [(11, x)] ++ [(12, x)] ++ [(13, x)] ++ [(14, x)] ++ [(15, x)]) 5 (by decide +kernel) x hx) (by simp) (fun ad' S' z1 z2 => ?_) (fun ad10 S10 f10 e10 z10 => ?_)
  · show [Value.int (S'.1 6 x 0), Value.int (S'.1 6 x 1), Value.ref (ad' 7 x), Value.ref (ad' 8 x), Value.ref (ad' 9 x), Value.ref (ad' 10 x), Value.ref (ad' 11 x), Value.ref (ad' 12 x), Value.ref (ad' 13 x), Value.ref (ad' 14 x), Value.ref (ad' 15 x), Value.int (S'.1 6 x 11), Value.int (S'.1 6 x 12), Value.int (S'.1 6 x 13)] = _
    rw [(z1 7 x (fun z => absurd z.1 (by decide))).trans g9_7_x, (z1 8 x (fun z => absurd z.1 (by decide))).trans g9_8_x, (z1 9 x (fun z => absurd z.1 (by decide))).trans g9_9_x, (z1 10 x (fun z => absurd z.1 (by decide))).trans g9_10_x, (z1 11 x (fun z => absurd z.1 (by decide))).trans g9_11_x, (z1 12 x (fun z => absurd z.1 (by decide))).trans g9_12_x, (z1 13 x (fun z => absurd z.1 (by decide))).trans g9_13_x, (z1 14 x (fun z => absurd z.1 (by decide))).trans g9_14_x, (z1 15 x (fun z => absurd z.1 (by decide))).trans e9, z2]
  exact ei_ret rfl dX2_init_100 e10 trivial rfl rfl
def kText : List (Nat × Nat) := [] ++ [(19, 0)] ++ [(20, 0)] ++ [(18, 0)]
def InT (S : evS) : Prop := S.1 18 0 1 = 0
theorem i_text {G : evG} : eiM G yX4_init M_X4_init 1 2 154 18 0 (kText) [.null, .int 0, .int 0, .int 0, .null, .int 0, .int 0, .int 0] InT := by
  refine eiM.of (by decide) rfl rfl (by decide) (fun h sz => ?_)
  refine ei_aload_n dX4_init_0 rfl 0 rfl rfl ?_
  refine ei_obj (ev_in (by decide +kernel) rfl) dX4_init_1 (by decide) (by decide) rfl ?_
  refine ei_aload_n dX4_init_4 rfl 0 rfl rfl ?_
  refine ei_sipush dX4_init_5 rfl rfl ?_
  refine ei_newI 19 0 rfl rfl ⟨by decide, by decide⟩ (by decide) (by decide) (by decide) dX4_init_8 (KCl.b rfl) (by simp) rfl (fun q1 ad1 S1 f1 e1 z1 => ?_)
  refine ei_pf kok_18 rfl (ev_in (by decide +kernel) rfl) (k0 := 0) (by decide) rfl rfl rfl rfl (by simp) dX4_init_10 rfl (fs' := [.ref q1, .int 0, .int 0, .int 0, .null, .int 0, .int 0, .int 0]) rfl ?_
  refine ei_aload_n dX4_init_13 rfl 0 rfl rfl ?_
  refine ei_iconst dX4_init_14 rfl rfl ?_
  refine ei_pi kok_18 (ev_in (by decide +kernel) rfl) (k0 := 1) (by decide) rfl rfl rfl (by simp) dX4_init_15 rfl (fs' := [.ref q1, .int 0, .int 0, .int 0, .null, .int 0, .int 0, .int 0]) rfl ?_
  refine ei_aload_n dX4_init_18 rfl 0 rfl rfl ?_
  refine ei_iconst dX4_init_19 rfl rfl ?_
  refine ei_pi kok_18 (ev_in (by decide +kernel) rfl) (k0 := 2) (by decide) rfl rfl rfl (by simp) dX4_init_20 rfl (fs' := [.ref q1, .int 0, .int 0, .int 0, .null, .int 0, .int 0, .int 0]) rfl ?_
  refine ei_aload_n dX4_init_23 rfl 0 rfl rfl ?_
  refine ei_iconst dX4_init_24 rfl rfl ?_
  refine ei_pi kok_18 (ev_in (by decide +kernel) rfl) (k0 := 3) (by decide) rfl rfl rfl (by simp) dX4_init_25 rfl (fs' := [.ref q1, .int 0, .int 0, .int 0, .null, .int 0, .int 0, .int 0]) rfl ?_
  refine ei_aload_n dX4_init_28 rfl 0 rfl rfl ?_
  refine ei_iconst dX4_init_29 rfl rfl ?_
  refine ei_newI 20 0 rfl rfl ⟨by decide, by decide⟩ (by decide) (by decide) (by decide) dX4_init_30 (KCl.b (by decide +kernel)) (by simp) rfl (fun q2 ad2 S2 f2 e2 z2 => ?_)
  have g2_19_0 : ad2 19 0 = q1 := ((f2 19 0 (fun z => absurd z.1 (by decide))).1).trans e1
  refine ei_pf kok_18 rfl (ev_in (by decide +kernel) rfl) (k0 := 4) (by decide) rfl rfl rfl rfl (by simp) dX4_init_32 rfl (fs' := [.ref q1, .int 0, .int 0, .int 0, .ref q2, .int 0, .int 0, .int 0]) rfl ?_
  refine ei_aload_n dX4_init_35 rfl 0 rfl rfl ?_
  refine ei_iconst dX4_init_36 rfl rfl ?_
  refine ei_pi kok_18 (ev_in (by decide +kernel) rfl) (k0 := 5) (by decide) rfl rfl rfl (by simp) dX4_init_37 rfl (fs' := [.ref q1, .int 0, .int 0, .int 0, .ref q2, .int 0, .int 0, .int 0]) rfl ?_
  refine ei_aload_n dX4_init_40 rfl 0 rfl rfl ?_
  refine ei_iconst dX4_init_41 rfl rfl ?_
  refine ei_pi kok_18 (ev_in (by decide +kernel) rfl) (k0 := 6) (by decide) rfl rfl rfl (by simp) dX4_init_42 rfl (fs' := [.ref q1, .int 0, .int 0, .int 0, .ref q2, .int 0, .int 0, .int 0]) rfl ?_
  refine ei_aload_n dX4_init_45 rfl 0 rfl rfl ?_
  refine ei_iconst dX4_init_46 rfl rfl ?_
  refine ei_pi kok_18 (ev_in (by decide +kernel) rfl) (k0 := 7) (by decide) rfl rfl rfl (by simp) dX4_init_47 rfl (fs' := [.ref q1, .int 0, .int 0, .int 0, .ref q2, .int 0, .int 0, .int 0]) rfl ?_
  refine ei_key (kd := 18) (x := 0) (fun _ => 0) rfl (KCl.b (by decide +kernel)) (by simp) (fun ad' S' z1 z2 => ?_) (fun ad3 S3 f3 e3 z3 => ?_)
  · show [Value.ref (ad' 19 0), Value.int (S'.1 18 0 1), Value.int (S'.1 18 0 2), Value.int (S'.1 18 0 3), Value.ref (ad' 20 0), Value.int (S'.1 18 0 5), Value.int (S'.1 18 0 6), Value.int (S'.1 18 0 7)] = _
    rw [(z1 19 0 (fun z => absurd z.1 (by decide))).trans g2_19_0, (z1 20 0 (fun z => absurd z.1 (by decide))).trans e2, z2]
  exact ei_ret rfl dX4_init_50 e3 (by show S3.1 18 0 1 = 0; rw [z3]) rfl rfl
