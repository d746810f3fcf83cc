abbrev bk_X2_burntOnLeg_0 (G : evG) (d : Nat) (Q : Option Value → evS → Prop) (x0 : Nat) (l1 : Int32) (S : evS) : Prop := evAt G M_X2_burntOnLeg (evFm G (d + 1) Q) 0 [(0, .ref (evad G 6 x0)), (1, .int l1)] [] S
set_option maxRecDepth 100000 in
set_option maxHeartbeats 4000000 in
theorem vb_X2_burntOnLeg_0 {G : evG} {d : Nat} {q : Int32 → evS → Prop} (hCl : evCl G) {x0 : Nat} {l1 : Int32} {S : evS} (hVl0 : (6, x0) ∈ evKs G)
    (h : (evSp G yX2_hoursAround M_X2_hoursAround d [.ref (evad G 6 x0), .int l1] S (evQI fun r1 S2 => (∀ v3 : Int64, v3 = r1.toInt64 → ((0 < v3 → (evSp G yX2_milesAround M_X2_milesAround d [.ref (evad G 6 x0), .int l1] S2 (evQI fun r4 S5 => (∀ v6 : Int64, v6 = r4.toInt64 → (¬ (10 * v3) = 0 ∧ (evSp G yJ9_min_f86c9 M_J9_min_f86c9 d [.long 2, .long (v6 / (10 * v3))] S5 (evQL fun r8 S9 => (∀ v10 : Int32, v10 = r8.toInt32 → ((0 ≤ v10 → (vp_in v10 4 ∧ (∀ v12 : Int64, v12 = (S9.1 15 x0 v10.toNatClampNeg).toInt64 → (vp_in (v10 + 1) 4 ∧ (∀ v14 : Int64, v14 = ((S9.1 15 x0 ((v10 + 1).toNatClampNeg)).toInt64 - v12) → (∀ v15 : Int64, v15 = (v6 - ((10 * v10).toInt64 * v3)) → (∀ v16 : Int64, v16 = (((v12 * 10) * v3) + (v14 * v15)) → (evSp G yX2_milesOfLeg M_X2_milesOfLeg d [.ref (evad G 6 x0), .int l1] S9 (evQI fun r17 S18 => (¬ (10 * v3) = 0 ∧ q (((r17.toInt64 * v16) / (10 * v3)).toInt32) S18)))))))))) ∧ (¬ 0 ≤ v10 → q 0 S9)))))))))) ∧ (¬ 0 < v3 → q 0 S2)))))) : bk_X2_burntOnLeg_0 G d (evQI q) x0 l1 S := by
  refine ea_aload_n (pc' := 1) (i := 0) dX2_burntOnLeg_0 rfl 0 rfl rfl ?_
  refine ea_iload_n (pc' := 2) (i := 1) dX2_burntOnLeg_1 rfl 1 rfl rfl ?_
  refine ea_cvi (As := [.int l1]) (st := []) (d := d) (pc' := 5) mv_X2_hoursAround ml_X2_100 kok_6 hVl0 rfl rfl dX2_burntOnLeg_2 rfl (Nat.le_of_ble_eq_true rfl) (ev_room (by decide)) ⟨Nat.le_refl _, Nat.le_refl _⟩ h rfl (fun r1 S2 h => ?_)
  refine ea_i2l (pc' := 6) dX2_burntOnLeg_5 rfl ?_
  refine ea_topl (fun v3 hv3 => ?_)
  replace h := h v3 hv3
  refine ea_lstore_n (lv' := [(2, .long v3), (0, .ref (evad G 6 x0)), (1, .int l1)]) (pc' := 7) dX2_burntOnLeg_6 rfl (by decide) rfl rfl ?_
  refine ea_lload_n (pc' := 8) (i := 2) dX2_burntOnLeg_7 rfl 0 rfl rfl ?_
  refine ea_lconst (v := 0) (pc' := 9) dX2_burntOnLeg_8 (by decide) rfl ?_
  refine ea_lcmp_gt (tgt := 15) (pc1 := 10) (pc' := 13) dX2_burntOnLeg_9 rfl dX2_burntOnLeg_10 (by decide) rfl (fun hc => ?_) (fun hc => ?_)
  · replace h := h.1 hc
    refine ea_aload_n (pc' := 16) (i := 0) dX2_burntOnLeg_15 rfl 1 rfl rfl ?_
    refine ea_iload_n (pc' := 17) (i := 1) dX2_burntOnLeg_16 rfl 2 rfl rfl ?_
    refine ea_cvi (As := [.int l1]) (st := []) (d := d) (pc' := 20) mv_X2_milesAround ml_X2_88 kok_6 hVl0 rfl rfl dX2_burntOnLeg_17 rfl (Nat.le_of_ble_eq_true rfl) (ev_room (by decide)) ⟨Nat.le_refl _, Nat.le_refl _⟩ h rfl (fun r4 S5 h => ?_)
    refine ea_i2l (pc' := 21) dX2_burntOnLeg_20 rfl ?_
    refine ea_topl (fun v6 hv6 => ?_)
    replace h := h v6 hv6
    refine ea_lstore (lv' := [(4, .long v6), (2, .long v3), (0, .ref (evad G 6 x0)), (1, .int l1)]) (pc' := 23) dX2_burntOnLeg_21 (by decide) rfl rfl ?_
    refine ea_ldc2 (v := 2) (pc' := 26) dX2_burntOnLeg_23 kc_X2_103 rfl ?_
    refine ea_lload (pc' := 28) dX2_burntOnLeg_26 0 rfl rfl ?_
    refine ea_ldc2 (v := 10) (pc' := 31) dX2_burntOnLeg_28 kc_X2_105 rfl ?_
    refine ea_lload_n (pc' := 32) (i := 2) dX2_burntOnLeg_31 rfl 1 rfl rfl ?_
    refine ea_lmul (pc' := 33) dX2_burntOnLeg_32 rfl ?_
    obtain ⟨o7, h⟩ := h
    refine ea_ldiv (pc' := 34) dX2_burntOnLeg_33 o7 rfl ?_
    refine ea_csl (As := [.long 2, .long (v6 / (10 * v3))]) (st := []) (d := d) (pc' := 37) mv_J9_min_f86c9 ml_X2_107 rfl dX2_burntOnLeg_34 rfl (Nat.le_of_ble_eq_true rfl) (ev_room (by decide)) ⟨Nat.le_refl _, Nat.le_refl _⟩ h rfl (fun r8 S9 h => ?_)
    refine ea_l2i (pc' := 38) dX2_burntOnLeg_37 rfl ?_
    refine ea_topi (fun v10 hv10 => ?_)
    replace h := h v10 hv10
    refine ea_istore (lv' := [(6, .int v10), (4, .long v6), (2, .long v3), (0, .ref (evad G 6 x0)), (1, .int l1)]) (pc' := 40) dX2_burntOnLeg_38 (by decide) rfl rfl ?_
    refine ea_iload (pc' := 42) dX2_burntOnLeg_40 0 rfl rfl ?_
    refine ea_if_ge (tgt := 47) (pc' := 45) dX2_burntOnLeg_42 (by decide) rfl (fun hc => ?_) (fun hc => ?_)
    · replace h := h.1 hc
      refine ea_aload_n (pc' := 48) (i := 0) dX2_burntOnLeg_47 rfl 3 rfl rfl ?_
      refine ea_getr (k2 := 15) (x2 := x0) (kf := 10) (pc' := 51) kok_6 hVl0 (by decide) rfl fl_X2_45 rfl dX2_burntOnLeg_48 rfl ?_
      refine ea_iload (pc' := 53) dX2_burntOnLeg_51 0 rfl rfl ?_
      obtain ⟨o11, h⟩ := h
      refine ea_iald (j := v10.toNatClampNeg) (pc' := 54) (hCl.1 6 x0 10 15 hVl0 rfl) rfl o11 dX2_burntOnLeg_53 rfl rfl ?_
      refine ea_i2l (pc' := 55) dX2_burntOnLeg_54 rfl ?_
      refine ea_topl (fun v12 hv12 => ?_)
      replace h := h v12 hv12
      refine ea_lstore (lv' := [(7, .long v12), (6, .int v10), (4, .long v6), (2, .long v3), (0, .ref (evad G 6 x0)), (1, .int l1)]) (pc' := 57) dX2_burntOnLeg_55 (by decide) rfl rfl ?_
      refine ea_aload_n (pc' := 58) (i := 0) dX2_burntOnLeg_57 rfl 4 rfl rfl ?_
      refine ea_getr (k2 := 15) (x2 := x0) (kf := 10) (pc' := 61) kok_6 hVl0 (by decide) rfl fl_X2_45 rfl dX2_burntOnLeg_58 rfl ?_
      refine ea_iload (pc' := 63) dX2_burntOnLeg_61 1 rfl rfl ?_
      refine ea_iconst (v := 1) (pc' := 64) dX2_burntOnLeg_63 (by decide) rfl ?_
      refine ea_iadd (pc' := 65) dX2_burntOnLeg_64 rfl ?_
      obtain ⟨o13, h⟩ := h
      refine ea_iald (j := (v10 + 1).toNatClampNeg) (pc' := 66) (hCl.1 6 x0 10 15 hVl0 rfl) rfl o13 dX2_burntOnLeg_65 rfl rfl ?_
      refine ea_i2l (pc' := 67) dX2_burntOnLeg_66 rfl ?_
      refine ea_lload (pc' := 69) dX2_burntOnLeg_67 0 rfl rfl ?_
      refine ea_lsub (pc' := 70) dX2_burntOnLeg_69 rfl ?_
      refine ea_topl (fun v14 hv14 => ?_)
      replace h := h v14 hv14
      refine ea_lstore (lv' := [(9, .long v14), (7, .long v12), (6, .int v10), (4, .long v6), (2, .long v3), (0, .ref (evad G 6 x0)), (1, .int l1)]) (pc' := 72) dX2_burntOnLeg_70 (by decide) rfl rfl ?_
      refine ea_lload (pc' := 74) dX2_burntOnLeg_72 3 rfl rfl ?_
      refine ea_bipush (v := 10) (pc' := 76) dX2_burntOnLeg_74 (by decide) rfl ?_
      refine ea_iload (pc' := 78) dX2_burntOnLeg_76 2 rfl rfl ?_
      refine ea_imul (pc' := 79) dX2_burntOnLeg_78 rfl ?_
      refine ea_i2l (pc' := 80) dX2_burntOnLeg_79 rfl ?_
      refine ea_lload_n (pc' := 81) (i := 2) dX2_burntOnLeg_80 rfl 4 rfl rfl ?_
      refine ea_lmul (pc' := 82) dX2_burntOnLeg_81 rfl ?_
      refine ea_lsub (pc' := 83) dX2_burntOnLeg_82 rfl ?_
      refine ea_topl (fun v15 hv15 => ?_)
      replace h := h v15 hv15
      refine ea_lstore (lv' := [(11, .long v15), (9, .long v14), (7, .long v12), (6, .int v10), (4, .long v6), (2, .long v3), (0, .ref (evad G 6 x0)), (1, .int l1)]) (pc' := 85) dX2_burntOnLeg_83 (by decide) rfl rfl ?_
      refine ea_lload (pc' := 87) dX2_burntOnLeg_85 2 rfl rfl ?_
      refine ea_ldc2 (v := 10) (pc' := 90) dX2_burntOnLeg_87 kc_X2_105 rfl ?_
      refine ea_lmul (pc' := 91) dX2_burntOnLeg_90 rfl ?_
      refine ea_lload_n (pc' := 92) (i := 2) dX2_burntOnLeg_91 rfl 5 rfl rfl ?_
      refine ea_lmul (pc' := 93) dX2_burntOnLeg_92 rfl ?_
      refine ea_lload (pc' := 95) dX2_burntOnLeg_93 1 rfl rfl ?_
      refine ea_lload (pc' := 97) dX2_burntOnLeg_95 0 rfl rfl ?_
      refine ea_lmul (pc' := 98) dX2_burntOnLeg_97 rfl ?_
      refine ea_ladd (pc' := 99) dX2_burntOnLeg_98 rfl ?_
      refine ea_topl (fun v16 hv16 => ?_)
      replace h := h v16 hv16
      refine ea_lstore (lv' := [(13, .long v16), (11, .long v15), (9, .long v14), (7, .long v12), (6, .int v10), (4, .long v6), (2, .long v3), (0, .ref (evad G 6 x0)), (1, .int l1)]) (pc' := 101) dX2_burntOnLeg_99 (by decide) rfl rfl ?_
      refine ea_aload_n (pc' := 102) (i := 0) dX2_burntOnLeg_101 rfl 7 rfl rfl ?_
      refine ea_iload_n (pc' := 103) (i := 1) dX2_burntOnLeg_102 rfl 8 rfl rfl ?_
      refine ea_cvi (As := [.int l1]) (st := []) (d := d) (pc' := 106) mv_X2_milesOfLeg ml_X2_110 kok_6 hVl0 rfl rfl dX2_burntOnLeg_103 rfl (Nat.le_of_ble_eq_true rfl) (ev_room (by decide)) ⟨Nat.le_refl _, Nat.le_refl _⟩ h rfl (fun r17 S18 h => ?_)
      refine ea_i2l (pc' := 107) dX2_burntOnLeg_106 rfl ?_
      refine ea_lload (pc' := 109) dX2_burntOnLeg_107 0 rfl rfl ?_
      refine ea_lmul (pc' := 110) dX2_burntOnLeg_109 rfl ?_
      refine ea_ldc2 (v := 10) (pc' := 113) dX2_burntOnLeg_110 kc_X2_105 rfl ?_
      refine ea_lload_n (pc' := 114) (i := 2) dX2_burntOnLeg_113 rfl 6 rfl rfl ?_
      refine ea_lmul (pc' := 115) dX2_burntOnLeg_114 rfl ?_
      obtain ⟨o19, h⟩ := h
      refine ea_ldiv (pc' := 116) dX2_burntOnLeg_115 o19 rfl ?_
      refine ea_l2i (pc' := 117) dX2_burntOnLeg_116 rfl ?_
      exact ea_iret rfl dX2_burntOnLeg_117 ⟨_, rfl, h⟩
    · replace h := h.2 hc
      refine ea_iconst (v := 0) (pc' := 46) dX2_burntOnLeg_45 (by decide) rfl ?_
      exact ea_iret rfl dX2_burntOnLeg_46 ⟨_, rfl, h⟩
  · replace h := h.2 hc
    refine ea_iconst (v := 0) (pc' := 14) dX2_burntOnLeg_13 (by decide) rfl ?_
    exact ea_iret rfl dX2_burntOnLeg_14 ⟨_, rfl, h⟩
theorem vm_X2_burntOnLeg {G : evG} {d : Nat} {q : Int32 → evS → Prop} {x0 : Nat} {l1 : Int32} {S : evS} (h : bk_X2_burntOnLeg_0 G d (evQI q) x0 l1 S) : evSp G yX2_burntOnLeg M_X2_burntOnLeg (d + 1) [.ref (evad G 6 x0), .int l1] S (evQI q) :=
  evSp.of (by decide +kernel) rfl (Nat.le_of_ble_eq_true rfl) h
abbrev bk_X2_hoursAround_0 (G : evG) (d : Nat) (Q : Option Value → evS → Prop) (x0 : Nat) (l1 : Int32) (S : evS) : Prop := evAt G M_X2_hoursAround (evFm G (d + 1) Q) 0 [(0, .ref (evad G 6 x0)), (1, .int l1)] [] S
set_option maxRecDepth 100000 in
set_option maxHeartbeats 4000000 in
theorem vb_X2_hoursAround_0 {G : evG} {d : Nat} {q : Int32 → evS → Prop} (hCl : evCl G) {x0 : Nat} {l1 : Int32} {S : evS} (hVl0 : (6, x0) ∈ evKs G)
    (h : (evSp G yX2_isNoLeg M_X2_isNoLeg d [.ref (evad G 6 x0), .int l1] S (evQI fun r1 S2 => ((r1 = 0 → (vp_in l1 6 ∧ (vp_in (S2.1 14 x0 l1.toNatClampNeg) 7 ∧ (vp_in l1 6 ∧ (vp_in (S2.1 13 x0 l1.toNatClampNeg) 7 ∧ q ((S2.1 11 x0 ((S2.1 14 x0 l1.toNatClampNeg).toNatClampNeg)) - (S2.1 11 x0 ((S2.1 13 x0 l1.toNatClampNeg).toNatClampNeg))) S2))))) ∧ (¬ r1 = 0 → q 0 S2))))) : bk_X2_hoursAround_0 G d (evQI q) x0 l1 S := by
  refine ea_aload_n (pc' := 1) (i := 0) dX2_hoursAround_0 rfl 0 rfl rfl ?_
  refine ea_iload_n (pc' := 2) (i := 1) dX2_hoursAround_1 rfl 1 rfl rfl ?_
  refine ea_cvi (As := [.int l1]) (st := []) (d := d) (pc' := 5) mv_X2_isNoLeg ml_X2_80 kok_6 hVl0 rfl rfl dX2_hoursAround_2 rfl (Nat.le_of_ble_eq_true rfl) (ev_room (by decide)) ⟨Nat.le_refl _, Nat.le_refl _⟩ h rfl (fun r1 S2 h => ?_)
  refine ea_if_eq (tgt := 10) (pc' := 8) dX2_hoursAround_5 (by decide) rfl (fun hc => ?_) (fun hc => ?_)
  · replace h := h.1 hc
    refine ea_aload_n (pc' := 11) (i := 0) dX2_hoursAround_10 rfl 0 rfl rfl ?_
    refine ea_getr (k2 := 11) (x2 := x0) (kf := 6) (pc' := 14) kok_6 hVl0 (by decide) rfl fl_X2_33 rfl dX2_hoursAround_11 rfl ?_
    refine ea_aload_n (pc' := 15) (i := 0) dX2_hoursAround_14 rfl 0 rfl rfl ?_
    refine ea_getr (k2 := 14) (x2 := x0) (kf := 9) (pc' := 18) kok_6 hVl0 (by decide) rfl fl_X2_42 rfl dX2_hoursAround_15 rfl ?_
    refine ea_iload_n (pc' := 19) (i := 1) dX2_hoursAround_18 rfl 1 rfl rfl ?_
    obtain ⟨o3, h⟩ := h
    refine ea_iald (j := l1.toNatClampNeg) (pc' := 20) (hCl.1 6 x0 9 14 hVl0 rfl) rfl o3 dX2_hoursAround_19 rfl rfl ?_
    obtain ⟨o4, h⟩ := h
    refine ea_iald (j := (S2.1 14 x0 l1.toNatClampNeg).toNatClampNeg) (pc' := 21) (hCl.1 6 x0 6 11 hVl0 rfl) rfl o4 dX2_hoursAround_20 rfl rfl ?_
    refine ea_aload_n (pc' := 22) (i := 0) dX2_hoursAround_21 rfl 0 rfl rfl ?_
    refine ea_getr (k2 := 11) (x2 := x0) (kf := 6) (pc' := 25) kok_6 hVl0 (by decide) rfl fl_X2_33 rfl dX2_hoursAround_22 rfl ?_
    refine ea_aload_n (pc' := 26) (i := 0) dX2_hoursAround_25 rfl 0 rfl rfl ?_
    refine ea_getr (k2 := 13) (x2 := x0) (kf := 8) (pc' := 29) kok_6 hVl0 (by decide) rfl fl_X2_39 rfl dX2_hoursAround_26 rfl ?_
    refine ea_iload_n (pc' := 30) (i := 1) dX2_hoursAround_29 rfl 1 rfl rfl ?_
    obtain ⟨o5, h⟩ := h
    refine ea_iald (j := l1.toNatClampNeg) (pc' := 31) (hCl.1 6 x0 8 13 hVl0 rfl) rfl o5 dX2_hoursAround_30 rfl rfl ?_
    obtain ⟨o6, h⟩ := h
    refine ea_iald (j := (S2.1 13 x0 l1.toNatClampNeg).toNatClampNeg) (pc' := 32) (hCl.1 6 x0 6 11 hVl0 rfl) rfl o6 dX2_hoursAround_31 rfl rfl ?_
    refine ea_isub (pc' := 33) dX2_hoursAround_32 rfl ?_
    exact ea_iret rfl dX2_hoursAround_33 ⟨_, rfl, h⟩
  · replace h := h.2 hc
    refine ea_iconst (v := 0) (pc' := 9) dX2_hoursAround_8 (by decide) rfl ?_
    exact ea_iret rfl dX2_hoursAround_9 ⟨_, rfl, h⟩
theorem vm_X2_hoursAround {G : evG} {d : Nat} {q : Int32 → evS → Prop} {x0 : Nat} {l1 : Int32} {S : evS} (h : bk_X2_hoursAround_0 G d (evQI q) x0 l1 S) : evSp G yX2_hoursAround M_X2_hoursAround (d + 1) [.ref (evad G 6 x0), .int l1] S (evQI q) :=
  evSp.of (by decide +kernel) rfl (Nat.le_of_ble_eq_true rfl) h
abbrev bk_X2_milesOfLeg_0 (G : evG) (d : Nat) (Q : Option Value → evS → Prop) (x0 : Nat) (l1 : Int32) (S : evS) : Prop := evAt G M_X2_milesOfLeg (evFm G (d + 1) Q) 0 [(0, .ref (evad G 6 x0)), (1, .int l1)] [] S
set_option maxRecDepth 100000 in
set_option maxHeartbeats 4000000 in
theorem vb_X2_milesOfLeg_0 {G : evG} {d : Nat} {q : Int32 → evS → Prop} (hCl : evCl G) {x0 : Nat} {l1 : Int32} {S : evS} (hVl0 : (6, x0) ∈ evKs G)
    (h : (evSp G yX2_isNoLeg M_X2_isNoLeg d [.ref (evad G 6 x0), .int l1] S (evQI fun r1 S2 => ((r1 = 0 → (vp_in (l1 + 1) 7 ∧ (vp_in l1 7 ∧ q ((S2.1 7 x0 ((l1 + 1).toNatClampNeg)) - (S2.1 7 x0 l1.toNatClampNeg)) S2))) ∧ (¬ r1 = 0 → q 0 S2))))) : bk_X2_milesOfLeg_0 G d (evQI q) x0 l1 S := by
  refine ea_aload_n (pc' := 1) (i := 0) dX2_milesOfLeg_0 rfl 0 rfl rfl ?_
  refine ea_iload_n (pc' := 2) (i := 1) dX2_milesOfLeg_1 rfl 1 rfl rfl ?_
  refine ea_cvi (As := [.int l1]) (st := []) (d := d) (pc' := 5) mv_X2_isNoLeg ml_X2_80 kok_6 hVl0 rfl rfl dX2_milesOfLeg_2 rfl (Nat.le_of_ble_eq_true rfl) (ev_room (by decide)) ⟨Nat.le_refl _, Nat.le_refl _⟩ h rfl (fun r1 S2 h => ?_)
  refine ea_if_eq (tgt := 12) (pc' := 8) dX2_milesOfLeg_5 (by decide) rfl (fun hc => ?_) (fun hc => ?_)
  · replace h := h.1 hc
    refine ea_aload_n (pc' := 13) (i := 0) dX2_milesOfLeg_12 rfl 0 rfl rfl ?_
    refine ea_getr (k2 := 7) (x2 := x0) (kf := 2) (pc' := 16) kok_6 hVl0 (by decide) rfl fl_X2_20 rfl dX2_milesOfLeg_13 rfl ?_
    refine ea_iload_n (pc' := 17) (i := 1) dX2_milesOfLeg_16 rfl 1 rfl rfl ?_
    refine ea_iconst (v := 1) (pc' := 18) dX2_milesOfLeg_17 (by decide) rfl ?_
    refine ea_iadd (pc' := 19) dX2_milesOfLeg_18 rfl ?_
    obtain ⟨o3, h⟩ := h
    refine ea_iald (j := (l1 + 1).toNatClampNeg) (pc' := 20) (hCl.1 6 x0 2 7 hVl0 rfl) rfl o3 dX2_milesOfLeg_19 rfl rfl ?_
    refine ea_aload_n (pc' := 21) (i := 0) dX2_milesOfLeg_20 rfl 0 rfl rfl ?_
    refine ea_getr (k2 := 7) (x2 := x0) (kf := 2) (pc' := 24) kok_6 hVl0 (by decide) rfl fl_X2_20 rfl dX2_milesOfLeg_21 rfl ?_
    refine ea_iload_n (pc' := 25) (i := 1) dX2_milesOfLeg_24 rfl 1 rfl rfl ?_
    obtain ⟨o4, h⟩ := h
    refine ea_iald (j := l1.toNatClampNeg) (pc' := 26) (hCl.1 6 x0 2 7 hVl0 rfl) rfl o4 dX2_milesOfLeg_25 rfl rfl ?_
    refine ea_isub (pc' := 27) dX2_milesOfLeg_26 rfl ?_
    exact ea_iret rfl dX2_milesOfLeg_27 ⟨_, rfl, h⟩
  · replace h := h.2 hc
    refine ea_iconst (v := 0) (pc' := 9) dX2_milesOfLeg_8 (by decide) rfl ?_
    refine ea_goto (tgt := 27) dX2_milesOfLeg_9 (by decide) ?_
    exact ea_iret rfl dX2_milesOfLeg_27 ⟨_, rfl, h⟩
theorem vm_X2_milesOfLeg {G : evG} {d : Nat} {q : Int32 → evS → Prop} {x0 : Nat} {l1 : Int32} {S : evS} (h : bk_X2_milesOfLeg_0 G d (evQI q) x0 l1 S) : evSp G yX2_milesOfLeg M_X2_milesOfLeg (d + 1) [.ref (evad G 6 x0), .int l1] S (evQI q) :=
  evSp.of (by decide +kernel) rfl (Nat.le_of_ble_eq_true rfl) h
abbrev bk_X2_stretchCount_0 (G : evG) (d : Nat) (Q : Option Value → evS → Prop) (x0 : Nat) (S : evS) : Prop := evAt G M_X2_stretchCount (evFm G d Q) 0 [(0, .ref (evad G 6 x0))] [] S
set_option maxRecDepth 100000 in
set_option maxHeartbeats 4000000 in
theorem vb_X2_stretchCount_0 {G : evG} {d : Nat} {q : Int32 → evS → Prop} (hCl : evCl G) {x0 : Nat} {S : evS} (hVl0 : (6, x0) ∈ evKs G)
    (h : q (S.1 6 x0 11) S) : bk_X2_stretchCount_0 G d (evQI q) x0 S := by
  refine ea_aload_n (pc' := 1) (i := 0) dX2_stretchCount_0 rfl 0 rfl rfl ?_
  refine ea_geti (kf := 11) (pc' := 4) kok_6 hVl0 (by decide) rfl fl_X2_48 dX2_stretchCount_1 rfl ?_
  exact ea_iret rfl dX2_stretchCount_4 ⟨_, rfl, h⟩
theorem vm_X2_stretchCount {G : evG} {d : Nat} {q : Int32 → evS → Prop} {x0 : Nat} {S : evS} (h : bk_X2_stretchCount_0 G d (evQI q) x0 S) : evSp G yX2_stretchCount M_X2_stretchCount d [.ref (evad G 6 x0)] S (evQI q) :=
  evSp.of (by decide +kernel) rfl (Nat.le_of_ble_eq_true rfl) h
abbrev bk_X2_burntInAll_0 (G : evG) (d : Nat) (Q : Option Value → evS → Prop) (x0 : Nat) (S : evS) : Prop := evAt G M_X2_burntInAll (evFm G (d + 1) Q) 0 [(0, .ref (evad G 6 x0))] [] S
abbrev bk_X2_burntInAll_7 (G : evG) (d : Nat) (Q : Option Value → evS → Prop) (x0 : Nat) (l1 : Int32) (l2 : Int32) (S : evS) : Prop := evAt G M_X2_burntInAll (evFm G (d + 1) Q) 7 [(0, .ref (evad G 6 x0)), (1, .int l1), (2, .int l2)] [] S
set_option maxRecDepth 100000 in
set_option maxHeartbeats 4000000 in
theorem vb_X2_burntInAll_0 {G : evG} {d : Nat} {q : Int32 → evS → Prop} (hCl : evCl G) {x0 : Nat} {S : evS} (hVl0 : (6, x0) ∈ evKs G)
    (h : (∀ v1 : Int32, v1 = (S.1 6 x0 0) → bk_X2_burntInAll_7 G d (evQI q) x0 0 v1 S)) : bk_X2_burntInAll_0 G d (evQI q) x0 S := by
  refine ea_iconst (v := 0) (pc' := 1) dX2_burntInAll_0 (by decide) rfl ?_
  refine ea_istore_n (lv' := [(1, .int 0), (0, .ref (evad G 6 x0))]) (pc' := 2) dX2_burntInAll_1 rfl (by decide) rfl rfl ?_
  refine ea_aload_n (pc' := 3) (i := 0) dX2_burntInAll_2 rfl 1 rfl rfl ?_
  refine ea_geti (kf := 0) (pc' := 6) kok_6 hVl0 (by decide) rfl fl_X2_11 dX2_burntInAll_3 rfl ?_
  refine ea_topi (fun v1 hv1 => ?_)
  replace h := h v1 hv1
  refine ea_istore_n (lv' := [(2, .int v1), (1, .int 0), (0, .ref (evad G 6 x0))]) (pc' := 7) dX2_burntInAll_6 rfl (by decide) rfl rfl ?_
  refine ea_loc [2, 1, 0] rfl ?_
  exact h
set_option maxRecDepth 100000 in
set_option maxHeartbeats 4000000 in
theorem vb_X2_burntInAll_7 {G : evG} {d : Nat} {q : Int32 → evS → Prop} (hCl : evCl G) {x0 : Nat} {l1 : Int32} {l2 : Int32} {S : evS} (hVl0 : (6, x0) ∈ evKs G)
    (h : (((S.1 6 x0 1) ≤ l2 → q l1 S) ∧ (¬ (S.1 6 x0 1) ≤ l2 → (evSp G yX2_burntOnLeg M_X2_burntOnLeg d [.ref (evad G 6 x0), .int l2] S (evQI fun r1 S2 => (∀ v3 : Int32, v3 = (l1 + r1) → (∀ v4 : Int32, v4 = (l2 + 1) → bk_X2_burntInAll_7 G d (evQI q) x0 v3 v4 S2))))))) : bk_X2_burntInAll_7 G d (evQI q) x0 l1 l2 S := by
  refine ea_iload_n (pc' := 8) (i := 2) dX2_burntInAll_7 rfl 2 rfl rfl ?_
  refine ea_aload_n (pc' := 9) (i := 0) dX2_burntInAll_8 rfl 0 rfl rfl ?_
  refine ea_geti (kf := 1) (pc' := 12) kok_6 hVl0 (by decide) rfl fl_X2_17 dX2_burntInAll_9 rfl ?_
  refine ea_icmp_ge (tgt := 29) (pc' := 15) dX2_burntInAll_12 (by decide) rfl (fun hc => ?_) (fun hc => ?_)
  · replace h := h.1 hc
    refine ea_iload_n (pc' := 30) (i := 1) dX2_burntInAll_29 rfl 1 rfl rfl ?_
    exact ea_iret rfl dX2_burntInAll_30 ⟨_, rfl, h⟩
  · replace h := h.2 hc
    refine ea_iload_n (pc' := 16) (i := 1) dX2_burntInAll_15 rfl 1 rfl rfl ?_
    refine ea_aload_n (pc' := 17) (i := 0) dX2_burntInAll_16 rfl 0 rfl rfl ?_
    refine ea_iload_n (pc' := 18) (i := 2) dX2_burntInAll_17 rfl 2 rfl rfl ?_
    refine ea_cvi (As := [.int l2]) (st := [.int l1]) (d := d) (pc' := 21) mv_X2_burntOnLeg ml_X2_113 kok_6 hVl0 rfl rfl dX2_burntInAll_18 rfl (Nat.le_of_ble_eq_true rfl) (ev_room (by decide)) ⟨Nat.le_refl _, Nat.le_refl _⟩ h rfl (fun r1 S2 h => ?_)
    refine ea_iadd (pc' := 22) dX2_burntInAll_21 rfl ?_
    refine ea_topi (fun v3 hv3 => ?_)
    replace h := h v3 hv3
    refine ea_istore_n (lv' := [(1, .int v3), (0, .ref (evad G 6 x0)), (2, .int l2)]) (pc' := 23) dX2_burntInAll_22 rfl (by decide) rfl rfl ?_
    obtain ⟨v4, hv4⟩ : ∃ z : Int32, z = (l2 + 1) := ⟨_, rfl⟩
    replace h := h v4 hv4
    refine ea_iinc (q := 2) (v := v4) (lv' := [(2, .int v4), (1, .int v3), (0, .ref (evad G 6 x0))]) (pc' := 26) dX2_burntInAll_23 rfl (by rw [hv4]; rfl) (by decide) rfl rfl ?_
    refine ea_goto (tgt := 7) dX2_burntInAll_26 (by decide) ?_
    refine ea_loc [2, 1, 0] rfl ?_
    exact h
theorem vm_X2_burntInAll {G : evG} {d : Nat} {q : Int32 → evS → Prop} {x0 : Nat} {S : evS} (h : bk_X2_burntInAll_0 G d (evQI q) x0 S) : evSp G yX2_burntInAll M_X2_burntInAll (d + 1) [.ref (evad G 6 x0)] S (evQI q) :=
  evSp.of (by decide +kernel) rfl (Nat.le_of_ble_eq_true rfl) h
abbrev bk_X2_meetingAt_0 (G : evG) (d : Nat) (Q : Option Value → evS → Prop) (x0 : Nat) (l1 : Int32) (S : evS) : Prop := evAt G M_X2_meetingAt (evFm G d Q) 0 [(0, .ref (evad G 6 x0)), (1, .int l1)] [] S
set_option maxRecDepth 100000 in
set_option maxHeartbeats 4000000 in
theorem vb_X2_meetingAt_0 {G : evG} {d : Nat} {q : Int32 → evS → Prop} (hCl : evCl G) {x0 : Nat} {l1 : Int32} {S : evS} (hVl0 : (6, x0) ∈ evKs G)
    (h : ((l1 ≤ (S.1 6 x0 0) → q 0 S) ∧ (¬ l1 ≤ (S.1 6 x0 0) → ((l1 < (S.1 6 x0 1) → (vp_in l1 7 ∧ q (S.1 12 x0 l1.toNatClampNeg) S)) ∧ (¬ l1 < (S.1 6 x0 1) → q 0 S))))) : bk_X2_meetingAt_0 G d (evQI q) x0 l1 S := by
  refine ea_iload_n (pc' := 1) (i := 1) dX2_meetingAt_0 rfl 1 rfl rfl ?_
  refine ea_aload_n (pc' := 2) (i := 0) dX2_meetingAt_1 rfl 0 rfl rfl ?_
  refine ea_geti (kf := 0) (pc' := 5) kok_6 hVl0 (by decide) rfl fl_X2_11 dX2_meetingAt_2 rfl ?_
  refine ea_icmp_le (tgt := 16) (pc' := 8) dX2_meetingAt_5 (by decide) rfl (fun hc => ?_) (fun hc => ?_)
  · replace h := h.1 hc
    refine ea_iconst (v := 0) (pc' := 17) dX2_meetingAt_16 (by decide) rfl ?_
    exact ea_iret rfl dX2_meetingAt_17 ⟨_, rfl, h⟩
  · replace h := h.2 hc
    refine ea_iload_n (pc' := 9) (i := 1) dX2_meetingAt_8 rfl 1 rfl rfl ?_
    refine ea_aload_n (pc' := 10) (i := 0) dX2_meetingAt_9 rfl 0 rfl rfl ?_
    refine ea_geti (kf := 1) (pc' := 13) kok_6 hVl0 (by decide) rfl fl_X2_17 dX2_meetingAt_10 rfl ?_
    refine ea_icmp_lt (tgt := 18) (pc' := 16) dX2_meetingAt_13 (by decide) rfl (fun hc => ?_) (fun hc => ?_)
    · replace h := h.1 hc
      refine ea_aload_n (pc' := 19) (i := 0) dX2_meetingAt_18 rfl 0 rfl rfl ?_
      refine ea_getr (k2 := 12) (x2 := x0) (kf := 7) (pc' := 22) kok_6 hVl0 (by decide) rfl fl_X2_36 rfl dX2_meetingAt_19 rfl ?_
      refine ea_iload_n (pc' := 23) (i := 1) dX2_meetingAt_22 rfl 1 rfl rfl ?_
      obtain ⟨o1, h⟩ := h
      refine ea_iald (j := l1.toNatClampNeg) (pc' := 24) (hCl.1 6 x0 7 12 hVl0 rfl) rfl o1 dX2_meetingAt_23 rfl rfl ?_
      exact ea_iret rfl dX2_meetingAt_24 ⟨_, rfl, h⟩
    · replace h := h.2 hc
      refine ea_iconst (v := 0) (pc' := 17) dX2_meetingAt_16 (by decide) rfl ?_
      exact ea_iret rfl dX2_meetingAt_17 ⟨_, rfl, h⟩
theorem vm_X2_meetingAt {G : evG} {d : Nat} {q : Int32 → evS → Prop} {x0 : Nat} {l1 : Int32} {S : evS} (h : bk_X2_meetingAt_0 G d (evQI q) x0 l1 S) : evSp G yX2_meetingAt M_X2_meetingAt d [.ref (evad G 6 x0), .int l1] S (evQI q) :=
  evSp.of (by decide +kernel) rfl (Nat.le_of_ble_eq_true rfl) h
abbrev bk_X2_neededSpeed_0 (G : evG) (d : Nat) (Q : Option Value → evS → Prop) (x0 : Nat) (S : evS) : Prop := evAt G M_X2_neededSpeed (evFm G d Q) 0 [(0, .ref (evad G 6 x0))] [] S
set_option maxRecDepth 100000 in
set_option maxHeartbeats 4000000 in
theorem vb_X2_neededSpeed_0 {G : evG} {d : Nat} {q : Int32 → evS → Prop} (hCl : evCl G) {x0 : Nat} {S : evS} (hVl0 : (6, x0) ∈ evKs G)
    (h : q (S.1 6 x0 12) S) : bk_X2_neededSpeed_0 G d (evQI q) x0 S := by
  refine ea_aload_n (pc' := 1) (i := 0) dX2_neededSpeed_0 rfl 0 rfl rfl ?_
  refine ea_geti (kf := 12) (pc' := 4) kok_6 hVl0 (by decide) rfl fl_X2_51 dX2_neededSpeed_1 rfl ?_
  exact ea_iret rfl dX2_neededSpeed_4 ⟨_, rfl, h⟩
theorem vm_X2_neededSpeed {G : evG} {d : Nat} {q : Int32 → evS → Prop} {x0 : Nat} {S : evS} (h : bk_X2_neededSpeed_0 G d (evQI q) x0 S) : evSp G yX2_neededSpeed M_X2_neededSpeed d [.ref (evad G 6 x0)] S (evQI q) :=
  evSp.of (by decide +kernel) rfl (Nat.le_of_ble_eq_true rfl) h
abbrev bk_X2_mileAt_0 (G : evG) (d : Nat) (Q : Option Value → evS → Prop) (x0 : Nat) (l1 : Int32) (S : evS) : Prop := evAt G M_X2_mileAt (evFm G (d + 1) Q) 0 [(0, .ref (evad G 6 x0)), (1, .int l1)] [] S
abbrev bk_X2_mileAt_25 (G : evG) (d : Nat) (Q : Option Value → evS → Prop) (x0 : Nat) (l1 : Int32) (l2 : Int32) (l3 : Int32) (S : evS) : Prop := evAt G M_X2_mileAt (evFm G (d + 1) Q) 25 [(0, .ref (evad G 6 x0)), (1, .int l1), (2, .int l2), (3, .int l3)] [] S
set_option maxRecDepth 100000 in
set_option maxHeartbeats 4000000 in
theorem vb_X2_mileAt_0 {G : evG} {d : Nat} {q : Int32 → evS → Prop} (hCl : evCl G) {x0 : Nat} {l1 : Int32} {S : evS} (hVl0 : (6, x0) ∈ evKs G)
    (h : (evSp G yX2_stands M_X2_stands d [.ref (evad G 6 x0)] S (evQI fun r1 S2 => ((¬ r1 = 0 → (vp_in (S2.1 6 x0 0) 7 ∧ (∀ v4 : Int32, v4 = (S2.1 7 x0 ((S2.1 6 x0 0).toNatClampNeg)) → (∀ v5 : Int32, v5 = (S2.1 6 x0 0) → bk_X2_mileAt_25 G d (evQI q) x0 l1 v4 v5 S2)))) ∧ (r1 = 0 → q (-9) S2))))) : bk_X2_mileAt_0 G d (evQI q) x0 l1 S := by
  refine ea_aload_n (pc' := 1) (i := 0) dX2_mileAt_0 rfl 0 rfl rfl ?_
  refine ea_cvi (As := []) (st := []) (d := d) (pc' := 4) mv_X2_stands ml_X2_116 kok_6 hVl0 rfl rfl dX2_mileAt_1 rfl (Nat.le_of_ble_eq_true rfl) (ev_room (by decide)) ⟨Nat.le_refl _, Nat.le_refl _⟩ h rfl (fun r1 S2 h => ?_)
  refine ea_if_ne (tgt := 10) (pc' := 7) dX2_mileAt_4 (by decide) rfl (fun hc => ?_) (fun hc => ?_)
  · replace h := h.1 hc
    refine ea_aload_n (pc' := 11) (i := 0) dX2_mileAt_10 rfl 0 rfl rfl ?_
    refine ea_getr (k2 := 7) (x2 := x0) (kf := 2) (pc' := 14) kok_6 hVl0 (by decide) rfl fl_X2_20 rfl dX2_mileAt_11 rfl ?_
    refine ea_aload_n (pc' := 15) (i := 0) dX2_mileAt_14 rfl 0 rfl rfl ?_
    refine ea_geti (kf := 0) (pc' := 18) kok_6 hVl0 (by decide) rfl fl_X2_11 dX2_mileAt_15 rfl ?_
    obtain ⟨o3, h⟩ := h
    refine ea_iald (j := (S2.1 6 x0 0).toNatClampNeg) (pc' := 19) (hCl.1 6 x0 2 7 hVl0 rfl) rfl o3 dX2_mileAt_18 rfl rfl ?_
    refine ea_topi (fun v4 hv4 => ?_)
    replace h := h v4 hv4
    refine ea_istore_n (lv' := [(2, .int v4), (0, .ref (evad G 6 x0)), (1, .int l1)]) (pc' := 20) dX2_mileAt_19 rfl (by decide) rfl rfl ?_
    refine ea_aload_n (pc' := 21) (i := 0) dX2_mileAt_20 rfl 1 rfl rfl ?_
    refine ea_geti (kf := 0) (pc' := 24) kok_6 hVl0 (by decide) rfl fl_X2_11 dX2_mileAt_21 rfl ?_
    refine ea_topi (fun v5 hv5 => ?_)
    replace h := h v5 hv5
    refine ea_istore_n (lv' := [(3, .int v5), (2, .int v4), (0, .ref (evad G 6 x0)), (1, .int l1)]) (pc' := 25) dX2_mileAt_24 rfl (by decide) rfl rfl ?_
    refine ea_loc [2, 3, 1, 0] rfl ?_
    exact h
  · replace h := h.2 hc
    refine ea_bipush (v := (-9)) (pc' := 9) dX2_mileAt_7 (by decide) rfl ?_
    exact ea_iret rfl dX2_mileAt_9 ⟨_, rfl, h⟩
set_option maxRecDepth 100000 in
set_option maxHeartbeats 4000000 in
theorem vb_X2_mileAt_25 {G : evG} {d : Nat} {q : Int32 → evS → Prop} (hCl : evCl G) {x0 : Nat} {l1 : Int32} {l2 : Int32} {l3 : Int32} {S : evS} (hVl0 : (6, x0) ∈ evKs G)
    (h : (((S.1 6 x0 1) ≤ l3 → q l2 S) ∧ (¬ (S.1 6 x0 1) ≤ l3 → (evSp G yX2_sailedOnLeg M_X2_sailedOnLeg d [.ref (evad G 6 x0), .int l3, .int l1] S (evQI fun r1 S2 => (∀ v3 : Int32, v3 = (l2 + r1) → (∀ v4 : Int32, v4 = (l3 + 1) → bk_X2_mileAt_25 G d (evQI q) x0 l1 v3 v4 S2))))))) : bk_X2_mileAt_25 G d (evQI q) x0 l1 l2 l3 S := by
  refine ea_iload_n (pc' := 26) (i := 3) dX2_mileAt_25 rfl 3 rfl rfl ?_
  refine ea_aload_n (pc' := 27) (i := 0) dX2_mileAt_26 rfl 0 rfl rfl ?_
  refine ea_geti (kf := 1) (pc' := 30) kok_6 hVl0 (by decide) rfl fl_X2_17 dX2_mileAt_27 rfl ?_
  refine ea_icmp_ge (tgt := 48) (pc' := 33) dX2_mileAt_30 (by decide) rfl (fun hc => ?_) (fun hc => ?_)
  · replace h := h.1 hc
    refine ea_iload_n (pc' := 49) (i := 2) dX2_mileAt_48 rfl 2 rfl rfl ?_
    exact ea_iret rfl dX2_mileAt_49 ⟨_, rfl, h⟩
  · replace h := h.2 hc
    refine ea_iload_n (pc' := 34) (i := 2) dX2_mileAt_33 rfl 2 rfl rfl ?_
    refine ea_aload_n (pc' := 35) (i := 0) dX2_mileAt_34 rfl 0 rfl rfl ?_
    refine ea_iload_n (pc' := 36) (i := 3) dX2_mileAt_35 rfl 3 rfl rfl ?_
    refine ea_iload_n (pc' := 37) (i := 1) dX2_mileAt_36 rfl 1 rfl rfl ?_
    refine ea_cvi (As := [.int l3, .int l1]) (st := [.int l2]) (d := d) (pc' := 40) mv_X2_sailedOnLeg ml_X2_120 kok_6 hVl0 rfl rfl dX2_mileAt_37 rfl (Nat.le_of_ble_eq_true rfl) (ev_room (by decide)) ⟨Nat.le_refl _, Nat.le_refl _⟩ h rfl (fun r1 S2 h => ?_)
    refine ea_iadd (pc' := 41) dX2_mileAt_40 rfl ?_
    refine ea_topi (fun v3 hv3 => ?_)
    replace h := h v3 hv3
    refine ea_istore_n (lv' := [(2, .int v3), (0, .ref (evad G 6 x0)), (1, .int l1), (3, .int l3)]) (pc' := 42) dX2_mileAt_41 rfl (by decide) rfl rfl ?_
    obtain ⟨v4, hv4⟩ : ∃ z : Int32, z = (l3 + 1) := ⟨_, rfl⟩
    replace h := h v4 hv4
    refine ea_iinc (q := 3) (v := v4) (lv' := [(3, .int v4), (2, .int v3), (0, .ref (evad G 6 x0)), (1, .int l1)]) (pc' := 45) dX2_mileAt_42 rfl (by rw [hv4]; rfl) (by decide) rfl rfl ?_
    refine ea_goto (tgt := 25) dX2_mileAt_45 (by decide) ?_
    refine ea_loc [2, 3, 1, 0] rfl ?_
    exact h
theorem vm_X2_mileAt {G : evG} {d : Nat} {q : Int32 → evS → Prop} {x0 : Nat} {l1 : Int32} {S : evS} (h : bk_X2_mileAt_0 G d (evQI q) x0 l1 S) : evSp G yX2_mileAt M_X2_mileAt (d + 1) [.ref (evad G 6 x0), .int l1] S (evQI q) :=
  evSp.of (by decide +kernel) rfl (Nat.le_of_ble_eq_true rfl) h
abbrev bk_X2_sailedOnLeg_0 (G : evG) (d : Nat) (Q : Option Value → evS → Prop) (x0 : Nat) (l1 : Int32) (l2 : Int32) (S : evS) : Prop := evAt G M_X2_sailedOnLeg (evFm G (d + 1) Q) 0 [(0, .ref (evad G 6 x0)), (1, .int l1), (2, .int l2)] [] S
set_option maxRecDepth 100000 in
set_option maxHeartbeats 4000000 in
theorem vb_X2_sailedOnLeg_0 {G : evG} {d : Nat} {q : Int32 → evS → Prop} (hCl : evCl G) {x0 : Nat} {l1 : Int32} {l2 : Int32} {S : evS} (hVl0 : (6, x0) ∈ evKs G)
    (h : (evSp G yX2_hoursAround M_X2_hoursAround d [.ref (evad G 6 x0), .int l1] S (evQI fun r1 S2 => ((0 < r1 → (vp_in l1 6 ∧ (∀ v4 : Int32, v4 = (S2.1 13 x0 l1.toNatClampNeg) → (vp_in (l1 + 1) 7 ∧ (vp_in v4 7 ∧ (∀ v7 : Int32, v7 = ((l2 - (S2.1 8 x0 ((l1 + 1).toNatClampNeg))) - (S2.1 11 x0 v4.toNatClampNeg)) → (evSp G yX2_milesAround M_X2_milesAround d [.ref (evad G 6 x0), .int l1] S2 (evQI fun r8 S9 => (vp_in l1 7 ∧ (vp_in v4 7 ∧ (∀ v12 : Int32, v12 = ((r8 * v7) - (r1 * ((S9.1 7 x0 l1.toNatClampNeg) - (S9.1 7 x0 v4.toNatClampNeg)))) → ((0 < v12 → (evSp G yX2_milesOfLeg M_X2_milesOfLeg d [.ref (evad G 6 x0), .int l1] S9 (evQI fun r13 S14 => (¬ r1 = 0 ∧ (evSp G yJ9_min_7cf53 M_J9_min_7cf53 d [.int r13, .int (v12 / r1)] S14 (evQI fun r16 S17 => q r16 S17)))))) ∧ (¬ 0 < v12 → q 0 S9))))))))))))) ∧ (¬ 0 < r1 → q 0 S2))))) : bk_X2_sailedOnLeg_0 G d (evQI q) x0 l1 l2 S := by
  refine ea_aload_n (pc' := 1) (i := 0) dX2_sailedOnLeg_0 rfl 0 rfl rfl ?_
  refine ea_iload_n (pc' := 2) (i := 1) dX2_sailedOnLeg_1 rfl 1 rfl rfl ?_
  refine ea_cvi (As := [.int l1]) (st := []) (d := d) (pc' := 5) mv_X2_hoursAround ml_X2_100 kok_6 hVl0 rfl rfl dX2_sailedOnLeg_2 rfl (Nat.le_of_ble_eq_true rfl) (ev_room (by decide)) ⟨Nat.le_refl _, Nat.le_refl _⟩ h rfl (fun r1 S2 h => ?_)
  refine ea_istore_n (lv' := [(3, .int r1), (0, .ref (evad G 6 x0)), (1, .int l1), (2, .int l2)]) (pc' := 6) dX2_sailedOnLeg_5 rfl (by decide) rfl rfl ?_
  refine ea_iload_n (pc' := 7) (i := 3) dX2_sailedOnLeg_6 rfl 0 rfl rfl ?_
  refine ea_if_gt (tgt := 12) (pc' := 10) dX2_sailedOnLeg_7 (by decide) rfl (fun hc => ?_) (fun hc => ?_)
  · replace h := h.1 hc
    refine ea_aload_n (pc' := 13) (i := 0) dX2_sailedOnLeg_12 rfl 1 rfl rfl ?_
    refine ea_getr (k2 := 13) (x2 := x0) (kf := 8) (pc' := 16) kok_6 hVl0 (by decide) rfl fl_X2_39 rfl dX2_sailedOnLeg_13 rfl ?_
    refine ea_iload_n (pc' := 17) (i := 1) dX2_sailedOnLeg_16 rfl 2 rfl rfl ?_
    obtain ⟨o3, h⟩ := h
    refine ea_iald (j := l1.toNatClampNeg) (pc' := 18) (hCl.1 6 x0 8 13 hVl0 rfl) rfl o3 dX2_sailedOnLeg_17 rfl rfl ?_
    refine ea_topi (fun v4 hv4 => ?_)
    replace h := h v4 hv4
    refine ea_istore (lv' := [(4, .int v4), (3, .int r1), (0, .ref (evad G 6 x0)), (1, .int l1), (2, .int l2)]) (pc' := 20) dX2_sailedOnLeg_18 (by decide) rfl rfl ?_
    refine ea_iload_n (pc' := 21) (i := 2) dX2_sailedOnLeg_20 rfl 4 rfl rfl ?_
    refine ea_aload_n (pc' := 22) (i := 0) dX2_sailedOnLeg_21 rfl 2 rfl rfl ?_
    refine ea_getr (k2 := 8) (x2 := x0) (kf := 3) (pc' := 25) kok_6 hVl0 (by decide) rfl fl_X2_24 rfl dX2_sailedOnLeg_22 rfl ?_
    refine ea_iload_n (pc' := 26) (i := 1) dX2_sailedOnLeg_25 rfl 3 rfl rfl ?_
    refine ea_iconst (v := 1) (pc' := 27) dX2_sailedOnLeg_26 (by decide) rfl ?_
    refine ea_iadd (pc' := 28) dX2_sailedOnLeg_27 rfl ?_
    obtain ⟨o5, h⟩ := h
    refine ea_iald (j := (l1 + 1).toNatClampNeg) (pc' := 29) (hCl.1 6 x0 3 8 hVl0 rfl) rfl o5 dX2_sailedOnLeg_28 rfl rfl ?_
    refine ea_isub (pc' := 30) dX2_sailedOnLeg_29 rfl ?_
    refine ea_aload_n (pc' := 31) (i := 0) dX2_sailedOnLeg_30 rfl 2 rfl rfl ?_
    refine ea_getr (k2 := 11) (x2 := x0) (kf := 6) (pc' := 34) kok_6 hVl0 (by decide) rfl fl_X2_33 rfl dX2_sailedOnLeg_31 rfl ?_
    refine ea_iload (pc' := 36) dX2_sailedOnLeg_34 0 rfl rfl ?_
    obtain ⟨o6, h⟩ := h
    refine ea_iald (j := v4.toNatClampNeg) (pc' := 37) (hCl.1 6 x0 6 11 hVl0 rfl) rfl o6 dX2_sailedOnLeg_36 rfl rfl ?_
    refine ea_isub (pc' := 38) dX2_sailedOnLeg_37 rfl ?_
    refine ea_topi (fun v7 hv7 => ?_)
    replace h := h v7 hv7
    refine ea_istore (lv' := [(5, .int v7), (4, .int v4), (3, .int r1), (0, .ref (evad G 6 x0)), (1, .int l1), (2, .int l2)]) (pc' := 40) dX2_sailedOnLeg_38 (by decide) rfl rfl ?_
    refine ea_aload_n (pc' := 41) (i := 0) dX2_sailedOnLeg_40 rfl 3 rfl rfl ?_
    refine ea_iload_n (pc' := 42) (i := 1) dX2_sailedOnLeg_41 rfl 4 rfl rfl ?_
    refine ea_cvi (As := [.int l1]) (st := []) (d := d) (pc' := 45) mv_X2_milesAround ml_X2_88 kok_6 hVl0 rfl rfl dX2_sailedOnLeg_42 rfl (Nat.le_of_ble_eq_true rfl) (ev_room (by decide)) ⟨Nat.le_refl _, Nat.le_refl _⟩ h rfl (fun r8 S9 h => ?_)
    refine ea_iload (pc' := 47) dX2_sailedOnLeg_45 0 rfl rfl ?_
    refine ea_imul (pc' := 48) dX2_sailedOnLeg_47 rfl ?_
    refine ea_iload_n (pc' := 49) (i := 3) dX2_sailedOnLeg_48 rfl 2 rfl rfl ?_
    refine ea_aload_n (pc' := 50) (i := 0) dX2_sailedOnLeg_49 rfl 3 rfl rfl ?_
    refine ea_getr (k2 := 7) (x2 := x0) (kf := 2) (pc' := 53) kok_6 hVl0 (by decide) rfl fl_X2_20 rfl dX2_sailedOnLeg_50 rfl ?_
    refine ea_iload_n (pc' := 54) (i := 1) dX2_sailedOnLeg_53 rfl 4 rfl rfl ?_
    obtain ⟨o10, h⟩ := h
    refine ea_iald (j := l1.toNatClampNeg) (pc' := 55) (hCl.1 6 x0 2 7 hVl0 rfl) rfl o10 dX2_sailedOnLeg_54 rfl rfl ?_
    refine ea_aload_n (pc' := 56) (i := 0) dX2_sailedOnLeg_55 rfl 3 rfl rfl ?_
    refine ea_getr (k2 := 7) (x2 := x0) (kf := 2) (pc' := 59) kok_6 hVl0 (by decide) rfl fl_X2_20 rfl dX2_sailedOnLeg_56 rfl ?_
    refine ea_iload (pc' := 61) dX2_sailedOnLeg_59 1 rfl rfl ?_
    obtain ⟨o11, h⟩ := h
    refine ea_iald (j := v4.toNatClampNeg) (pc' := 62) (hCl.1 6 x0 2 7 hVl0 rfl) rfl o11 dX2_sailedOnLeg_61 rfl rfl ?_
    refine ea_isub (pc' := 63) dX2_sailedOnLeg_62 rfl ?_
    refine ea_imul (pc' := 64) dX2_sailedOnLeg_63 rfl ?_
    refine ea_isub (pc' := 65) dX2_sailedOnLeg_64 rfl ?_
    refine ea_topi (fun v12 hv12 => ?_)
    replace h := h v12 hv12
    refine ea_istore (lv' := [(6, .int v12), (5, .int v7), (4, .int v4), (3, .int r1), (0, .ref (evad G 6 x0)), (1, .int l1), (2, .int l2)]) (pc' := 67) dX2_sailedOnLeg_65 (by decide) rfl rfl ?_
    refine ea_iload (pc' := 69) dX2_sailedOnLeg_67 0 rfl rfl ?_
    refine ea_if_gt (tgt := 76) (pc' := 72) dX2_sailedOnLeg_69 (by decide) rfl (fun hc => ?_) (fun hc => ?_)
    · replace h := h.1 hc
      refine ea_aload_n (pc' := 77) (i := 0) dX2_sailedOnLeg_76 rfl 4 rfl rfl ?_
      refine ea_iload_n (pc' := 78) (i := 1) dX2_sailedOnLeg_77 rfl 5 rfl rfl ?_
      refine ea_cvi (As := [.int l1]) (st := []) (d := d) (pc' := 81) mv_X2_milesOfLeg ml_X2_110 kok_6 hVl0 rfl rfl dX2_sailedOnLeg_78 rfl (Nat.le_of_ble_eq_true rfl) (ev_room (by decide)) ⟨Nat.le_refl _, Nat.le_refl _⟩ h rfl (fun r13 S14 h => ?_)
      refine ea_iload (pc' := 83) dX2_sailedOnLeg_81 0 rfl rfl ?_
      refine ea_iload_n (pc' := 84) (i := 3) dX2_sailedOnLeg_83 rfl 3 rfl rfl ?_
      obtain ⟨o15, h⟩ := h
      refine ea_idiv (pc' := 85) dX2_sailedOnLeg_84 o15 rfl ?_
      refine ea_csi (As := [.int r13, .int (v12 / r1)]) (st := []) (d := d) (pc' := 88) mv_J9_min_7cf53 ml_X2_67 rfl dX2_sailedOnLeg_85 rfl (Nat.le_of_ble_eq_true rfl) (ev_room (by decide)) ⟨Nat.le_refl _, Nat.le_refl _⟩ h rfl (fun r16 S17 h => ?_)
      exact ea_iret rfl dX2_sailedOnLeg_88 ⟨_, rfl, h⟩
    · replace h := h.2 hc
      refine ea_iconst (v := 0) (pc' := 73) dX2_sailedOnLeg_72 (by decide) rfl ?_
      refine ea_goto (tgt := 88) dX2_sailedOnLeg_73 (by decide) ?_
      exact ea_iret rfl dX2_sailedOnLeg_88 ⟨_, rfl, h⟩
  · replace h := h.2 hc
    refine ea_iconst (v := 0) (pc' := 11) dX2_sailedOnLeg_10 (by decide) rfl ?_
    exact ea_iret rfl dX2_sailedOnLeg_11 ⟨_, rfl, h⟩
theorem vm_X2_sailedOnLeg {G : evG} {d : Nat} {q : Int32 → evS → Prop} {x0 : Nat} {l1 : Int32} {l2 : Int32} {S : evS} (h : bk_X2_sailedOnLeg_0 G d (evQI q) x0 l1 l2 S) : evSp G yX2_sailedOnLeg M_X2_sailedOnLeg (d + 1) [.ref (evad G 6 x0), .int l1, .int l2] S (evQI q) :=
  evSp.of (by decide +kernel) rfl (Nat.le_of_ble_eq_true rfl) h
