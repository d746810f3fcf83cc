abbrev bk_X6_fastNeeded_0 (G : evG) (d : Nat) (Q : Option Value → evS → Prop) (x0 : Nat) (S : evS) : Prop := evAt G M_X6_fastNeeded (evFm G (d + 1) Q) 0 [(0, .ref (evad G 30 x0))] [] S
abbrev bk_X6_fastNeeded_21 (G : evG) (d : Nat) (Q : Option Value → evS → Prop) (x0 : Nat) (l1 : Int64) (l3 : Int32) (S : evS) : Prop := evAt G M_X6_fastNeeded (evFm G (d + 1) Q) 21 [(0, .ref (evad G 30 x0)), (1, .long l1), (3, .int l3)] [] S
abbrev bk_X6_fastNeeded_100 (G : evG) (d : Nat) (Q : Option Value → evS → Prop) (x0 : Nat) (l4 : Int32) (s0 : Int64) (S : evS) : Prop := evAt G M_X6_fastNeeded (evFm G (d + 1) Q) 100 [(0, .ref (evad G 30 x0)), (4, .int l4)] [.long s0] S
set_option maxRecDepth 100000 in
set_option maxHeartbeats 4000000 in
theorem vb_X6_fastNeeded_0 {G : evG} {d : Nat} {q : Int32 → evS → Prop} (hCl : evCl G) {x0 : Nat} {S : evS} (hVl0 : (30, x0) ∈ evKs G)
    (h : (((S.1 30 x0 16) < (S.1 30 x0 17) → (∀ v1 : Int32, v1 = (S.1 30 x0 16) → bk_X6_fastNeeded_21 G d (evQI q) x0 1 v1 S)) ∧ (¬ (S.1 30 x0 16) < (S.1 30 x0 17) → q (-9) S))) : bk_X6_fastNeeded_0 G d (evQI q) x0 S := by
  refine ea_aload_n (pc' := 1) (i := 0) dX6_fastNeeded_0 rfl 0 rfl rfl ?_
  refine ea_geti (kf := 17) (pc' := 4) kok_30 hVl0 (by decide) rfl fl_X6_132 dX6_fastNeeded_1 rfl ?_
  refine ea_aload_n (pc' := 5) (i := 0) dX6_fastNeeded_4 rfl 0 rfl rfl ?_
  refine ea_geti (kf := 16) (pc' := 8) kok_30 hVl0 (by decide) rfl fl_X6_129 dX6_fastNeeded_5 rfl ?_
  refine ea_icmp_gt (tgt := 14) (pc' := 11) dX6_fastNeeded_8 (by decide) rfl (fun hc => ?_) (fun hc => ?_)
  · replace h := h.1 hc
    refine ea_lconst (v := 1) (pc' := 15) dX6_fastNeeded_14 (by decide) rfl ?_
    refine ea_lstore_n (lv' := [(1, .long 1), (0, .ref (evad G 30 x0))]) (pc' := 16) dX6_fastNeeded_15 rfl (by decide) rfl rfl ?_
    refine ea_aload_n (pc' := 17) (i := 0) dX6_fastNeeded_16 rfl 1 rfl rfl ?_
    refine ea_geti (kf := 16) (pc' := 20) kok_30 hVl0 (by decide) rfl fl_X6_129 dX6_fastNeeded_17 rfl ?_
    refine ea_topi (fun v1 hv1 => ?_)
    replace h := h v1 hv1
    refine ea_istore_n (lv' := [(3, .int v1), (1, .long 1), (0, .ref (evad G 30 x0))]) (pc' := 21) dX6_fastNeeded_20 rfl (by decide) rfl rfl ?_
    refine ea_loc [2, 1, 0] rfl ?_
    exact h
  · replace h := h.2 hc
    refine ea_bipush (v := (-9)) (pc' := 13) dX6_fastNeeded_11 (by decide) rfl ?_
    exact ea_iret rfl dX6_fastNeeded_13 ⟨_, rfl, h⟩
set_option maxRecDepth 100000 in
set_option maxHeartbeats 4000000 in
theorem vb_X6_fastNeeded_21 {G : evG} {d : Nat} {q : Int32 → evS → Prop} (hCl : evCl G) {x0 : Nat} {l1 : Int64} {l3 : Int32} {S : evS} (hVl0 : (30, x0) ∈ evKs G)
    (h : (((S.1 30 x0 17) ≤ l3 → q l1.toInt32 S) ∧ (¬ (S.1 30 x0 17) ≤ l3 → (evSp G yX6_markBehind M_X6_markBehind d [.ref (evad G 30 x0), .int l3] S (evQI fun r1 S2 => (vp_in r1 7 ∧ (vp_in l3 7 ∧ (∀ v5 : Int64, v5 = ((S2.2 54 0 r1.toNatClampNeg) - (S2.2 54 0 l3.toNatClampNeg)) → ((0 < v5 → (vp_in r1 7 ∧ (vp_in l3 7 ∧ (¬ v5 = 0 ∧ (∀ v9 : Int64, v9 = (((((S2.1 49 0 r1.toNatClampNeg) - (S2.1 49 0 l3.toNatClampNeg)).toInt64 + v5) - 1) / v5) → ((v9 ≤ l1 → bk_X6_fastNeeded_100 G d (evQI q) x0 r1 l1 S2) ∧ (¬ v9 ≤ l1 → bk_X6_fastNeeded_100 G d (evQI q) x0 r1 v9 S2))))))) ∧ (¬ 0 < v5 → q (-9) S2)))))))))) : bk_X6_fastNeeded_21 G d (evQI q) x0 l1 l3 S := by
  refine ea_iload_n (pc' := 22) (i := 3) dX6_fastNeeded_21 rfl 2 rfl rfl ?_
  refine ea_aload_n (pc' := 23) (i := 0) dX6_fastNeeded_22 rfl 0 rfl rfl ?_
  refine ea_geti (kf := 17) (pc' := 26) kok_30 hVl0 (by decide) rfl fl_X6_132 dX6_fastNeeded_23 rfl ?_
  refine ea_icmp_ge (tgt := 107) (pc' := 29) dX6_fastNeeded_26 (by decide) rfl (fun hc => ?_) (fun hc => ?_)
  · replace h := h.1 hc
    refine ea_lload_n (pc' := 108) (i := 1) dX6_fastNeeded_107 rfl 1 rfl rfl ?_
    refine ea_l2i (pc' := 109) dX6_fastNeeded_108 rfl ?_
    exact ea_iret rfl dX6_fastNeeded_109 ⟨_, rfl, h⟩
  · replace h := h.2 hc
    refine ea_aload_n (pc' := 30) (i := 0) dX6_fastNeeded_29 rfl 0 rfl rfl ?_
    refine ea_iload_n (pc' := 31) (i := 3) dX6_fastNeeded_30 rfl 2 rfl rfl ?_
    refine ea_cvi (As := [.int l3]) (st := []) (d := d) (pc' := 34) mv_X6_markBehind ml_X6_149 kok_30 hVl0 rfl rfl dX6_fastNeeded_31 rfl (Nat.le_of_ble_eq_true rfl) (ev_room (by decide)) ⟨Nat.le_refl _, Nat.le_refl _⟩ h rfl (fun r1 S2 h => ?_)
    refine ea_istore (lv' := [(4, .int r1), (0, .ref (evad G 30 x0)), (1, .long l1), (3, .int l3)]) (pc' := 36) dX6_fastNeeded_34 (by decide) rfl rfl ?_
    refine ea_aload_n (pc' := 37) (i := 0) dX6_fastNeeded_36 rfl 1 rfl rfl ?_
    refine ea_getr (k2 := 54) (x2 := 0) (kf := 23) (pc' := 40) kok_30 hVl0 (by decide) rfl fl_X6_47 rfl dX6_fastNeeded_37 rfl ?_
    refine ea_iload (pc' := 42) dX6_fastNeeded_40 0 rfl rfl ?_
    obtain ⟨o3, h⟩ := h
    refine ea_lald (j := r1.toNatClampNeg) (pc' := 43) (hCl.1 30 x0 23 54 hVl0 rfl) rfl o3 dX6_fastNeeded_42 rfl rfl ?_
    refine ea_aload_n (pc' := 44) (i := 0) dX6_fastNeeded_43 rfl 1 rfl rfl ?_
    refine ea_getr (k2 := 54) (x2 := 0) (kf := 23) (pc' := 47) kok_30 hVl0 (by decide) rfl fl_X6_47 rfl dX6_fastNeeded_44 rfl ?_
    refine ea_iload_n (pc' := 48) (i := 3) dX6_fastNeeded_47 rfl 3 rfl rfl ?_
    obtain ⟨o4, h⟩ := h
    refine ea_lald (j := l3.toNatClampNeg) (pc' := 49) (hCl.1 30 x0 23 54 hVl0 rfl) rfl o4 dX6_fastNeeded_48 rfl rfl ?_
    refine ea_lsub (pc' := 50) dX6_fastNeeded_49 rfl ?_
    refine ea_topl (fun v5 hv5 => ?_)
    replace h := h v5 hv5
    refine ea_lstore (lv' := [(5, .long v5), (4, .int r1), (0, .ref (evad G 30 x0)), (1, .long l1), (3, .int l3)]) (pc' := 52) dX6_fastNeeded_50 (by decide) rfl rfl ?_
    refine ea_lload (pc' := 54) dX6_fastNeeded_52 0 rfl rfl ?_
    refine ea_lconst (v := 0) (pc' := 55) dX6_fastNeeded_54 (by decide) rfl ?_
    refine ea_lcmp_gt (tgt := 62) (pc1 := 56) (pc' := 59) dX6_fastNeeded_55 rfl dX6_fastNeeded_56 (by decide) rfl (fun hc => ?_) (fun hc => ?_)
    · replace h := h.1 hc
      refine ea_aload_n (pc' := 63) (i := 0) dX6_fastNeeded_62 rfl 2 rfl rfl ?_
      refine ea_getr (k2 := 49) (x2 := 0) (kf := 18) (pc' := 66) kok_30 hVl0 (by decide) rfl fl_X6_32 rfl dX6_fastNeeded_63 rfl ?_
      refine ea_iload (pc' := 68) dX6_fastNeeded_66 1 rfl rfl ?_
      obtain ⟨o6, h⟩ := h
      refine ea_iald (j := r1.toNatClampNeg) (pc' := 69) (hCl.1 30 x0 18 49 hVl0 rfl) rfl o6 dX6_fastNeeded_68 rfl rfl ?_
      refine ea_aload_n (pc' := 70) (i := 0) dX6_fastNeeded_69 rfl 2 rfl rfl ?_
      refine ea_getr (k2 := 49) (x2 := 0) (kf := 18) (pc' := 73) kok_30 hVl0 (by decide) rfl fl_X6_32 rfl dX6_fastNeeded_70 rfl ?_
      refine ea_iload_n (pc' := 74) (i := 3) dX6_fastNeeded_73 rfl 4 rfl rfl ?_
      obtain ⟨o7, h⟩ := h
      refine ea_iald (j := l3.toNatClampNeg) (pc' := 75) (hCl.1 30 x0 18 49 hVl0 rfl) rfl o7 dX6_fastNeeded_74 rfl rfl ?_
      refine ea_isub (pc' := 76) dX6_fastNeeded_75 rfl ?_
      refine ea_i2l (pc' := 77) dX6_fastNeeded_76 rfl ?_
      refine ea_lload (pc' := 79) dX6_fastNeeded_77 0 rfl rfl ?_
      refine ea_ladd (pc' := 80) dX6_fastNeeded_79 rfl ?_
      refine ea_lconst (v := 1) (pc' := 81) dX6_fastNeeded_80 (by decide) rfl ?_
      refine ea_lsub (pc' := 82) dX6_fastNeeded_81 rfl ?_
      refine ea_lload (pc' := 84) dX6_fastNeeded_82 0 rfl rfl ?_
      obtain ⟨o8, h⟩ := h
      refine ea_ldiv (pc' := 85) dX6_fastNeeded_84 o8 rfl ?_
      refine ea_topl (fun v9 hv9 => ?_)
      replace h := h v9 hv9
      refine ea_lstore (lv' := [(7, .long v9), (5, .long v5), (4, .int r1), (0, .ref (evad G 30 x0)), (1, .long l1), (3, .int l3)]) (pc' := 87) dX6_fastNeeded_85 (by decide) rfl rfl ?_
      refine ea_lload (pc' := 89) dX6_fastNeeded_87 0 rfl rfl ?_
      refine ea_lload_n (pc' := 90) (i := 1) dX6_fastNeeded_89 rfl 4 rfl rfl ?_
      refine ea_lcmp_le (tgt := 99) (pc1 := 91) (pc' := 94) dX6_fastNeeded_90 rfl dX6_fastNeeded_91 (by decide) rfl (fun hc => ?_) (fun hc => ?_)
      · replace h := h.1 hc
        refine ea_lload_n (pc' := 100) (i := 1) dX6_fastNeeded_99 rfl 4 rfl rfl ?_
        refine ea_loc [3, 2] rfl ?_
        exact h
      · replace h := h.2 hc
        refine ea_lload (pc' := 96) dX6_fastNeeded_94 0 rfl rfl ?_
        refine ea_goto (tgt := 100) dX6_fastNeeded_96 (by decide) ?_
        refine ea_loc [3, 2] rfl ?_
        exact h
    · replace h := h.2 hc
      refine ea_bipush (v := (-9)) (pc' := 61) dX6_fastNeeded_59 (by decide) rfl ?_
      exact ea_iret rfl dX6_fastNeeded_61 ⟨_, rfl, h⟩
set_option maxRecDepth 100000 in
set_option maxHeartbeats 4000000 in
theorem vb_X6_fastNeeded_100 {G : evG} {d : Nat} {q : Int32 → evS → Prop} (hCl : evCl G) {x0 : Nat} {l4 : Int32} {s0 : Int64} {S : evS} (hVl0 : (30, x0) ∈ evKs G)
    (h : bk_X6_fastNeeded_21 G d (evQI q) x0 s0 l4 S) : bk_X6_fastNeeded_100 G d (evQI q) x0 l4 s0 S := by
  refine ea_lstore_n (lv' := [(1, .long s0), (0, .ref (evad G 30 x0)), (4, .int l4)]) (pc' := 101) dX6_fastNeeded_100 rfl (by decide) rfl rfl ?_
  refine ea_iload (pc' := 103) dX6_fastNeeded_101 2 rfl rfl ?_
  refine ea_istore_n (lv' := [(3, .int l4), (1, .long s0), (0, .ref (evad G 30 x0)), (4, .int l4)]) (pc' := 104) dX6_fastNeeded_103 rfl (by decide) rfl rfl ?_
  refine ea_goto (tgt := 21) dX6_fastNeeded_104 (by decide) ?_
  refine ea_loc [2, 1, 0] rfl ?_
  exact h
theorem vm_X6_fastNeeded {G : evG} {d : Nat} {q : Int32 → evS → Prop} {x0 : Nat} {S : evS} (h : bk_X6_fastNeeded_0 G d (evQI q) x0 S) : evSp G yX6_fastNeeded M_X6_fastNeeded (d + 1) [.ref (evad G 30 x0)] S (evQI q) :=
  evSp.of (by decide +kernel) rfl (Nat.le_of_ble_eq_true rfl) h
abbrev bk_X6_milesAt_0 (G : evG) (d : Nat) (Q : Option Value → evS → Prop) (x0 : Nat) (l1 : Int32) (S : evS) : Prop := evAt G M_X6_milesAt (evFm G (d + 1) Q) 0 [(0, .ref (evad G 30 x0)), (1, .int l1)] [] S
set_option maxRecDepth 100000 in
set_option maxHeartbeats 4000000 in
theorem vb_X6_milesAt_0 {G : evG} {d : Nat} {q : Int64 → evS → Prop} (hCl : evCl G) {x0 : Nat} {l1 : Int32} {S : evS} (hVl0 : (30, x0) ∈ evKs G)
    (h : (evSp G yX6_markAhead M_X6_markAhead d [.ref (evad G 30 x0), .int (l1 - 1)] S (evQI fun r1 S2 => (evSp G yX6_markBehind M_X6_markBehind d [.ref (evad G 30 x0), .int r1] S2 (evQI fun r3 S4 => (vp_in r3 7 ∧ (vp_in r1 7 ∧ q (((S4.1 49 0 r3.toNatClampNeg) - (S4.1 49 0 r1.toNatClampNeg)).toInt64) S4))))))) : bk_X6_milesAt_0 G d (evQL q) x0 l1 S := by
  refine ea_aload_n (pc' := 1) (i := 0) dX6_milesAt_0 rfl 0 rfl rfl ?_
  refine ea_iload_n (pc' := 2) (i := 1) dX6_milesAt_1 rfl 1 rfl rfl ?_
  refine ea_iconst (v := 1) (pc' := 3) dX6_milesAt_2 (by decide) rfl ?_
  refine ea_isub (pc' := 4) dX6_milesAt_3 rfl ?_
  refine ea_cvi (As := [.int (l1 - 1)]) (st := []) (d := d) (pc' := 7) mv_X6_markAhead ml_X6_170 kok_30 hVl0 rfl rfl dX6_milesAt_4 rfl (Nat.le_of_ble_eq_true rfl) (ev_room (by decide)) ⟨Nat.le_refl _, Nat.le_refl _⟩ h rfl (fun r1 S2 h => ?_)
  refine ea_istore_n (lv' := [(2, .int r1), (0, .ref (evad G 30 x0)), (1, .int l1)]) (pc' := 8) dX6_milesAt_7 rfl (by decide) rfl rfl ?_
  refine ea_aload_n (pc' := 9) (i := 0) dX6_milesAt_8 rfl 1 rfl rfl ?_
  refine ea_getr (k2 := 49) (x2 := 0) (kf := 18) (pc' := 12) kok_30 hVl0 (by decide) rfl fl_X6_32 rfl dX6_milesAt_9 rfl ?_
  refine ea_aload_n (pc' := 13) (i := 0) dX6_milesAt_12 rfl 1 rfl rfl ?_
  refine ea_iload_n (pc' := 14) (i := 2) dX6_milesAt_13 rfl 0 rfl rfl ?_
  refine ea_cvi (As := [.int r1]) (st := [.ref (evad G 49 0)]) (d := d) (pc' := 17) mv_X6_markBehind ml_X6_149 kok_30 hVl0 rfl rfl dX6_milesAt_14 rfl (Nat.le_of_ble_eq_true rfl) (ev_room (by decide)) ⟨Nat.le_refl _, Nat.le_refl _⟩ h rfl (fun r3 S4 h => ?_)
  obtain ⟨o5, h⟩ := h
  refine ea_iald (j := r3.toNatClampNeg) (pc' := 18) (hCl.1 30 x0 18 49 hVl0 rfl) rfl o5 dX6_milesAt_17 rfl rfl ?_
  refine ea_aload_n (pc' := 19) (i := 0) dX6_milesAt_18 rfl 1 rfl rfl ?_
  refine ea_getr (k2 := 49) (x2 := 0) (kf := 18) (pc' := 22) kok_30 hVl0 (by decide) rfl fl_X6_32 rfl dX6_milesAt_19 rfl ?_
  refine ea_iload_n (pc' := 23) (i := 2) dX6_milesAt_22 rfl 0 rfl rfl ?_
  obtain ⟨o6, h⟩ := h
  refine ea_iald (j := r1.toNatClampNeg) (pc' := 24) (hCl.1 30 x0 18 49 hVl0 rfl) rfl o6 dX6_milesAt_23 rfl rfl ?_
  refine ea_isub (pc' := 25) dX6_milesAt_24 rfl ?_
  refine ea_i2l (pc' := 26) dX6_milesAt_25 rfl ?_
  exact ea_lret rfl dX6_milesAt_26 ⟨_, rfl, h⟩
theorem vm_X6_milesAt {G : evG} {d : Nat} {q : Int64 → evS → Prop} {x0 : Nat} {l1 : Int32} {S : evS} (h : bk_X6_milesAt_0 G d (evQL q) x0 l1 S) : evSp G yX6_milesAt M_X6_milesAt (d + 1) [.ref (evad G 30 x0), .int l1] S (evQL q) :=
  evSp.of (by decide +kernel) rfl (Nat.le_of_ble_eq_true rfl) h
abbrev bk_X6_markAhead_0 (G : evG) (d : Nat) (Q : Option Value → evS → Prop) (x0 : Nat) (l1 : Int32) (S : evS) : Prop := evAt G M_X6_markAhead (evFm G d Q) 0 [(0, .ref (evad G 30 x0)), (1, .int l1)] [] S
abbrev bk_X6_markAhead_2 (G : evG) (d : Nat) (Q : Option Value → evS → Prop) (x0 : Nat) (l2 : Int32) (S : evS) : Prop := evAt G M_X6_markAhead (evFm G d Q) 2 [(0, .ref (evad G 30 x0)), (2, .int l2)] [] S
set_option maxRecDepth 100000 in
set_option maxHeartbeats 4000000 in
theorem vb_X6_markAhead_0 {G : evG} {d : Nat} {q : Int32 → evS → Prop} (hCl : evCl G) {x0 : Nat} {l1 : Int32} {S : evS} (hVl0 : (30, x0) ∈ evKs G)
    (h : bk_X6_markAhead_2 G d (evQI q) x0 l1 S) : bk_X6_markAhead_0 G d (evQI q) x0 l1 S := by
  refine ea_iload_n (pc' := 1) (i := 1) dX6_markAhead_0 rfl 1 rfl rfl ?_
  refine ea_istore_n (lv' := [(2, .int l1), (0, .ref (evad G 30 x0)), (1, .int l1)]) (pc' := 2) dX6_markAhead_1 rfl (by decide) rfl rfl ?_
  refine ea_loc [1, 0] rfl ?_
  exact h
set_option maxRecDepth 100000 in
set_option maxHeartbeats 4000000 in
theorem vb_X6_markAhead_2 {G : evG} {d : Nat} {q : Int32 → evS → Prop} (hCl : evCl G) {x0 : Nat} {l2 : Int32} {S : evS} (hVl0 : (30, x0) ∈ evKs G)
    (h : (vp_in l2 7 ∧ ((¬ (S.1 53 0 l2.toNatClampNeg) = 0 → q l2 S) ∧ ((S.1 53 0 l2.toNatClampNeg) = 0 → (∀ v2 : Int32, v2 = (l2 + (-1)) → bk_X6_markAhead_2 G d (evQI q) x0 v2 S))))) : bk_X6_markAhead_2 G d (evQI q) x0 l2 S := by
  refine ea_aload_n (pc' := 3) (i := 0) dX6_markAhead_2 rfl 0 rfl rfl ?_
  refine ea_getr (k2 := 53) (x2 := 0) (kf := 22) (pc' := 6) kok_30 hVl0 (by decide) rfl fl_X6_44 rfl dX6_markAhead_3 rfl ?_
  refine ea_iload_n (pc' := 7) (i := 2) dX6_markAhead_6 rfl 1 rfl rfl ?_
  obtain ⟨o1, h⟩ := h
  refine ea_iald (j := l2.toNatClampNeg) (pc' := 8) (hCl.1 30 x0 22 53 hVl0 rfl) rfl o1 dX6_markAhead_7 rfl rfl ?_
  refine ea_if_ne (tgt := 17) (pc' := 11) dX6_markAhead_8 (by decide) rfl (fun hc => ?_) (fun hc => ?_)
  · replace h := h.1 hc
    refine ea_iload_n (pc' := 18) (i := 2) dX6_markAhead_17 rfl 1 rfl rfl ?_
    exact ea_iret rfl dX6_markAhead_18 ⟨_, rfl, h⟩
  · replace h := h.2 hc
    obtain ⟨v2, hv2⟩ : ∃ z : Int32, z = (l2 + (-1)) := ⟨_, rfl⟩
    replace h := h v2 hv2
    refine ea_iinc (q := 1) (v := v2) (lv' := [(2, .int v2), (0, .ref (evad G 30 x0))]) (pc' := 14) dX6_markAhead_11 rfl (by rw [hv2]; rfl) (by decide) rfl rfl ?_
    refine ea_goto (tgt := 2) dX6_markAhead_14 (by decide) ?_
    refine ea_loc [1, 0] rfl ?_
    exact h
theorem vm_X6_markAhead {G : evG} {d : Nat} {q : Int32 → evS → Prop} {x0 : Nat} {l1 : Int32} {S : evS} (h : bk_X6_markAhead_0 G d (evQI q) x0 l1 S) : evSp G yX6_markAhead M_X6_markAhead d [.ref (evad G 30 x0), .int l1] S (evQI q) :=
  evSp.of (by decide +kernel) rfl (Nat.le_of_ble_eq_true rfl) h
abbrev bk_X6_timeTimes_0 (G : evG) (d : Nat) (Q : Option Value → evS → Prop) (x0 : Nat) (l1 : Int32) (S : evS) : Prop := evAt G M_X6_timeTimes (evFm G (d + 1) Q) 0 [(0, .ref (evad G 30 x0)), (1, .int l1)] [] S
set_option maxRecDepth 100000 in
set_option maxHeartbeats 4000000 in
theorem vb_X6_timeTimes_0 {G : evG} {d : Nat} {q : Int64 → evS → Prop} (hCl : evCl G) {x0 : Nat} {l1 : Int32} {S : evS} (hVl0 : (30, x0) ∈ evKs G)
    (h : (evSp G yX6_markAhead M_X6_markAhead d [.ref (evad G 30 x0), .int (l1 - 1)] S (evQI fun r1 S2 => (evSp G yX6_markBehind M_X6_markBehind d [.ref (evad G 30 x0), .int r1] S2 (evQI fun r3 S4 => (evSp G yX6_evenTimes M_X6_evenTimes d [.ref (evad G 30 x0), .int r1, .int r3, .int l1] S4 (evQL fun r5 S6 => (vp_in l1 7 ∧ (vp_in r3 7 ∧ (vp_in r1 7 ∧ q (r5 + ((S6.1 50 0 l1.toNatClampNeg).toInt64 * ((S6.1 49 0 r3.toNatClampNeg) - (S6.1 49 0 r1.toNatClampNeg)).toInt64)) S6)))))))))) : bk_X6_timeTimes_0 G d (evQL q) x0 l1 S := by
  refine ea_aload_n (pc' := 1) (i := 0) dX6_timeTimes_0 rfl 0 rfl rfl ?_
  refine ea_iload_n (pc' := 2) (i := 1) dX6_timeTimes_1 rfl 1 rfl rfl ?_
  refine ea_iconst (v := 1) (pc' := 3) dX6_timeTimes_2 (by decide) rfl ?_
  refine ea_isub (pc' := 4) dX6_timeTimes_3 rfl ?_
  refine ea_cvi (As := [.int (l1 - 1)]) (st := []) (d := d) (pc' := 7) mv_X6_markAhead ml_X6_170 kok_30 hVl0 rfl rfl dX6_timeTimes_4 rfl (Nat.le_of_ble_eq_true rfl) (ev_room (by decide)) ⟨Nat.le_refl _, Nat.le_refl _⟩ h rfl (fun r1 S2 h => ?_)
  refine ea_istore_n (lv' := [(2, .int r1), (0, .ref (evad G 30 x0)), (1, .int l1)]) (pc' := 8) dX6_timeTimes_7 rfl (by decide) rfl rfl ?_
  refine ea_aload_n (pc' := 9) (i := 0) dX6_timeTimes_8 rfl 1 rfl rfl ?_
  refine ea_iload_n (pc' := 10) (i := 2) dX6_timeTimes_9 rfl 0 rfl rfl ?_
  refine ea_cvi (As := [.int r1]) (st := []) (d := d) (pc' := 13) mv_X6_markBehind ml_X6_149 kok_30 hVl0 rfl rfl dX6_timeTimes_10 rfl (Nat.le_of_ble_eq_true rfl) (ev_room (by decide)) ⟨Nat.le_refl _, Nat.le_refl _⟩ h rfl (fun r3 S4 h => ?_)
  refine ea_istore_n (lv' := [(3, .int r3), (2, .int r1), (0, .ref (evad G 30 x0)), (1, .int l1)]) (pc' := 14) dX6_timeTimes_13 rfl (by decide) rfl rfl ?_
  refine ea_aload_n (pc' := 15) (i := 0) dX6_timeTimes_14 rfl 2 rfl rfl ?_
  refine ea_iload_n (pc' := 16) (i := 2) dX6_timeTimes_15 rfl 1 rfl rfl ?_
  refine ea_iload_n (pc' := 17) (i := 3) dX6_timeTimes_16 rfl 0 rfl rfl ?_
  refine ea_iload_n (pc' := 18) (i := 1) dX6_timeTimes_17 rfl 3 rfl rfl ?_
  refine ea_cvl (As := [.int r1, .int r3, .int l1]) (st := []) (d := d) (pc' := 21) mv_X6_evenTimes ml_X6_142 kok_30 hVl0 rfl rfl dX6_timeTimes_18 rfl (Nat.le_of_ble_eq_true rfl) (ev_room (by decide)) ⟨Nat.le_refl _, Nat.le_refl _⟩ h rfl (fun r5 S6 h => ?_)
  refine ea_aload_n (pc' := 22) (i := 0) dX6_timeTimes_21 rfl 2 rfl rfl ?_
  refine ea_getr (k2 := 50) (x2 := 0) (kf := 19) (pc' := 25) kok_30 hVl0 (by decide) rfl fl_X6_35 rfl dX6_timeTimes_22 rfl ?_
  refine ea_iload_n (pc' := 26) (i := 1) dX6_timeTimes_25 rfl 3 rfl rfl ?_
  obtain ⟨o7, h⟩ := h
  refine ea_iald (j := l1.toNatClampNeg) (pc' := 27) (hCl.1 30 x0 19 50 hVl0 rfl) rfl o7 dX6_timeTimes_26 rfl rfl ?_
  refine ea_i2l (pc' := 28) dX6_timeTimes_27 rfl ?_
  refine ea_aload_n (pc' := 29) (i := 0) dX6_timeTimes_28 rfl 2 rfl rfl ?_
  refine ea_getr (k2 := 49) (x2 := 0) (kf := 18) (pc' := 32) kok_30 hVl0 (by decide) rfl fl_X6_32 rfl dX6_timeTimes_29 rfl ?_
  refine ea_iload_n (pc' := 33) (i := 3) dX6_timeTimes_32 rfl 0 rfl rfl ?_
  obtain ⟨o8, h⟩ := h
  refine ea_iald (j := r3.toNatClampNeg) (pc' := 34) (hCl.1 30 x0 18 49 hVl0 rfl) rfl o8 dX6_timeTimes_33 rfl rfl ?_
  refine ea_aload_n (pc' := 35) (i := 0) dX6_timeTimes_34 rfl 2 rfl rfl ?_
  refine ea_getr (k2 := 49) (x2 := 0) (kf := 18) (pc' := 38) kok_30 hVl0 (by decide) rfl fl_X6_32 rfl dX6_timeTimes_35 rfl ?_
  refine ea_iload_n (pc' := 39) (i := 2) dX6_timeTimes_38 rfl 1 rfl rfl ?_
  obtain ⟨o9, h⟩ := h
  refine ea_iald (j := r1.toNatClampNeg) (pc' := 40) (hCl.1 30 x0 18 49 hVl0 rfl) rfl o9 dX6_timeTimes_39 rfl rfl ?_
  refine ea_isub (pc' := 41) dX6_timeTimes_40 rfl ?_
  refine ea_i2l (pc' := 42) dX6_timeTimes_41 rfl ?_
  refine ea_lmul (pc' := 43) dX6_timeTimes_42 rfl ?_
  refine ea_ladd (pc' := 44) dX6_timeTimes_43 rfl ?_
  exact ea_lret rfl dX6_timeTimes_44 ⟨_, rfl, h⟩
theorem vm_X6_timeTimes {G : evG} {d : Nat} {q : Int64 → evS → Prop} {x0 : Nat} {l1 : Int32} {S : evS} (h : bk_X6_timeTimes_0 G d (evQL q) x0 l1 S) : evSp G yX6_timeTimes M_X6_timeTimes (d + 1) [.ref (evad G 30 x0), .int l1] S (evQL q) :=
  evSp.of (by decide +kernel) rfl (Nat.le_of_ble_eq_true rfl) h
abbrev bk_X6_costOf_0 (G : evG) (d : Nat) (Q : Option Value → evS → Prop) (x0 : Nat) (l1 : Int32) (S : evS) : Prop := evAt G M_X6_costOf (evFm G (d + 1) Q) 0 [(0, .ref (evad G 30 x0)), (1, .int l1)] [] S
abbrev bk_X6_costOf_70 (G : evG) (d : Nat) (Q : Option Value → evS → Prop) (x0 : Nat) (l1 : Int32) (l4 : Int64) (l6 : Int64) (s0 : Int32) (S : evS) : Prop := evAt G M_X6_costOf (evFm G (d + 1) Q) 70 [(0, .ref (evad G 30 x0)), (1, .int l1), (4, .long l4), (6, .long l6)] [.int s0] S
set_option maxRecDepth 100000 in
set_option maxHeartbeats 4000000 in
theorem vb_X6_costOf_0 {G : evG} {d : Nat} {q : Int32 → evS → Prop} (hCl : evCl G) {x0 : Nat} {l1 : Int32} {S : evS} (hVl0 : (30, x0) ∈ evKs G)
    (h : (evSp G yX6_markAhead M_X6_markAhead d [.ref (evad G 30 x0), .int l1] S (evQI fun r1 S2 => (evSp G yX6_markBehind M_X6_markBehind d [.ref (evad G 30 x0), .int r1] S2 (evQI fun r3 S4 => (vp_in r3 7 ∧ (vp_in r1 7 ∧ (∀ v7 : Int64, v7 = ((S4.2 54 0 r3.toNatClampNeg) - (S4.2 54 0 r1.toNatClampNeg)) → (vp_in r3 7 ∧ (vp_in r1 7 ∧ (∀ v10 : Int64, v10 = ((S4.1 49 0 r3.toNatClampNeg) - (S4.1 49 0 r1.toNatClampNeg)).toInt64 → (¬ (10 * v7) = 0 ∧ (∀ v12 : Int64, v12 = (v10 / (10 * v7)) → ((v12 ≤ 2 → bk_X6_costOf_70 G d (evQI q) x0 l1 v7 v10 v12.toInt32 S4) ∧ (¬ v12 ≤ 2 → bk_X6_costOf_70 G d (evQI q) x0 l1 v7 v10 2 S4))))))))))))))) : bk_X6_costOf_0 G d (evQI q) x0 l1 S := by
  refine ea_aload_n (pc' := 1) (i := 0) dX6_costOf_0 rfl 0 rfl rfl ?_
  refine ea_iload_n (pc' := 2) (i := 1) dX6_costOf_1 rfl 1 rfl rfl ?_
  refine ea_cvi (As := [.int l1]) (st := []) (d := d) (pc' := 5) mv_X6_markAhead ml_X6_170 kok_30 hVl0 rfl rfl dX6_costOf_2 rfl (Nat.le_of_ble_eq_true rfl) (ev_room (by decide)) ⟨Nat.le_refl _, Nat.le_refl _⟩ h rfl (fun r1 S2 h => ?_)
  refine ea_istore_n (lv' := [(2, .int r1), (0, .ref (evad G 30 x0)), (1, .int l1)]) (pc' := 6) dX6_costOf_5 rfl (by decide) rfl rfl ?_
  refine ea_aload_n (pc' := 7) (i := 0) dX6_costOf_6 rfl 1 rfl rfl ?_
  refine ea_iload_n (pc' := 8) (i := 2) dX6_costOf_7 rfl 0 rfl rfl ?_
  refine ea_cvi (As := [.int r1]) (st := []) (d := d) (pc' := 11) mv_X6_markBehind ml_X6_149 kok_30 hVl0 rfl rfl dX6_costOf_8 rfl (Nat.le_of_ble_eq_true rfl) (ev_room (by decide)) ⟨Nat.le_refl _, Nat.le_refl _⟩ h rfl (fun r3 S4 h => ?_)
  refine ea_istore_n (lv' := [(3, .int r3), (2, .int r1), (0, .ref (evad G 30 x0)), (1, .int l1)]) (pc' := 12) dX6_costOf_11 rfl (by decide) rfl rfl ?_
  refine ea_aload_n (pc' := 13) (i := 0) dX6_costOf_12 rfl 2 rfl rfl ?_
  refine ea_getr (k2 := 54) (x2 := 0) (kf := 23) (pc' := 16) kok_30 hVl0 (by decide) rfl fl_X6_47 rfl dX6_costOf_13 rfl ?_
  refine ea_iload_n (pc' := 17) (i := 3) dX6_costOf_16 rfl 0 rfl rfl ?_
  obtain ⟨o5, h⟩ := h
  refine ea_lald (j := r3.toNatClampNeg) (pc' := 18) (hCl.1 30 x0 23 54 hVl0 rfl) rfl o5 dX6_costOf_17 rfl rfl ?_
  refine ea_aload_n (pc' := 19) (i := 0) dX6_costOf_18 rfl 2 rfl rfl ?_
  refine ea_getr (k2 := 54) (x2 := 0) (kf := 23) (pc' := 22) kok_30 hVl0 (by decide) rfl fl_X6_47 rfl dX6_costOf_19 rfl ?_
  refine ea_iload_n (pc' := 23) (i := 2) dX6_costOf_22 rfl 1 rfl rfl ?_
  obtain ⟨o6, h⟩ := h
  refine ea_lald (j := r1.toNatClampNeg) (pc' := 24) (hCl.1 30 x0 23 54 hVl0 rfl) rfl o6 dX6_costOf_23 rfl rfl ?_
  refine ea_lsub (pc' := 25) dX6_costOf_24 rfl ?_
  refine ea_topl (fun v7 hv7 => ?_)
  replace h := h v7 hv7
  refine ea_lstore (lv' := [(4, .long v7), (3, .int r3), (2, .int r1), (0, .ref (evad G 30 x0)), (1, .int l1)]) (pc' := 27) dX6_costOf_25 (by decide) rfl rfl ?_
  refine ea_aload_n (pc' := 28) (i := 0) dX6_costOf_27 rfl 3 rfl rfl ?_
  refine ea_getr (k2 := 49) (x2 := 0) (kf := 18) (pc' := 31) kok_30 hVl0 (by decide) rfl fl_X6_32 rfl dX6_costOf_28 rfl ?_
  refine ea_iload_n (pc' := 32) (i := 3) dX6_costOf_31 rfl 1 rfl rfl ?_
  obtain ⟨o8, h⟩ := h
  refine ea_iald (j := r3.toNatClampNeg) (pc' := 33) (hCl.1 30 x0 18 49 hVl0 rfl) rfl o8 dX6_costOf_32 rfl rfl ?_
  refine ea_aload_n (pc' := 34) (i := 0) dX6_costOf_33 rfl 3 rfl rfl ?_
  refine ea_getr (k2 := 49) (x2 := 0) (kf := 18) (pc' := 37) kok_30 hVl0 (by decide) rfl fl_X6_32 rfl dX6_costOf_34 rfl ?_
  refine ea_iload_n (pc' := 38) (i := 2) dX6_costOf_37 rfl 2 rfl rfl ?_
  obtain ⟨o9, h⟩ := h
  refine ea_iald (j := r1.toNatClampNeg) (pc' := 39) (hCl.1 30 x0 18 49 hVl0 rfl) rfl o9 dX6_costOf_38 rfl rfl ?_
  refine ea_isub (pc' := 40) dX6_costOf_39 rfl ?_
  refine ea_i2l (pc' := 41) dX6_costOf_40 rfl ?_
  refine ea_topl (fun v10 hv10 => ?_)
  replace h := h v10 hv10
  refine ea_lstore (lv' := [(6, .long v10), (4, .long v7), (3, .int r3), (2, .int r1), (0, .ref (evad G 30 x0)), (1, .int l1)]) (pc' := 43) dX6_costOf_41 (by decide) rfl rfl ?_
  refine ea_lload (pc' := 45) dX6_costOf_43 0 rfl rfl ?_
  refine ea_ldc2 (v := 10) (pc' := 48) dX6_costOf_45 kc_X6_173 rfl ?_
  refine ea_lload (pc' := 50) dX6_costOf_48 1 rfl rfl ?_
  refine ea_lmul (pc' := 51) dX6_costOf_50 rfl ?_
  obtain ⟨o11, h⟩ := h
  refine ea_ldiv (pc' := 52) dX6_costOf_51 o11 rfl ?_
  refine ea_topl (fun v12 hv12 => ?_)
  replace h := h v12 hv12
  refine ea_lstore (lv' := [(8, .long v12), (6, .long v10), (4, .long v7), (3, .int r3), (2, .int r1), (0, .ref (evad G 30 x0)), (1, .int l1)]) (pc' := 54) dX6_costOf_52 (by decide) rfl rfl ?_
  refine ea_lload (pc' := 56) dX6_costOf_54 0 rfl rfl ?_
  refine ea_ldc2 (v := 2) (pc' := 59) dX6_costOf_56 kc_X6_175 rfl ?_
  refine ea_lcmp_le (tgt := 67) (pc1 := 60) (pc' := 63) dX6_costOf_59 rfl dX6_costOf_60 (by decide) rfl (fun hc => ?_) (fun hc => ?_)
  · replace h := h.1 hc
    refine ea_lload (pc' := 69) dX6_costOf_67 0 rfl rfl ?_
    refine ea_l2i (pc' := 70) dX6_costOf_69 rfl ?_
    refine ea_loc [5, 6, 2, 1] rfl ?_
    exact h
  · replace h := h.2 hc
    refine ea_iconst (v := 2) (pc' := 64) dX6_costOf_63 (by decide) rfl ?_
    refine ea_goto (tgt := 70) dX6_costOf_64 (by decide) ?_
    refine ea_loc [5, 6, 2, 1] rfl ?_
    exact h
set_option maxRecDepth 100000 in
set_option maxHeartbeats 4000000 in
theorem vb_X6_costOf_70 {G : evG} {d : Nat} {q : Int32 → evS → Prop} (hCl : evCl G) {x0 : Nat} {l1 : Int32} {l4 : Int64} {l6 : Int64} {s0 : Int32} {S : evS} (hVl0 : (30, x0) ∈ evKs G)
    (h : (evSp G yX6_of M_X6_of d [.ref (evad G 30 x0), .int (S.1 30 x0 15), .int (5 + s0)] S (evQI fun r1 S2 => (∀ v3 : Int64, v3 = r1.toInt64 → (evSp G yX6_of M_X6_of d [.ref (evad G 30 x0), .int (S2.1 30 x0 15), .int ((5 + s0) + 1)] S2 (evQI fun r4 S5 => (∀ v6 : Int64, v6 = r4.toInt64 → (∀ v7 : Int64, v7 = (((v3 * 10) * l4) + ((v6 - v3) * (l6 - ((10 * s0.toInt64) * l4)))) → (evSp G yX6_ofLeg M_X6_ofLeg d [.ref (evad G 30 x0), .int (S5.1 30 x0 15), .int l1, .int 0] S5 (evQI fun r8 S9 => (¬ (10 * l4) = 0 ∧ q (((r8.toInt64 * v7) / (10 * l4)).toInt32) S9))))))))))) : bk_X6_costOf_70 G d (evQI q) x0 l1 l4 l6 s0 S := by
  refine ea_istore (lv' := [(10, .int s0), (0, .ref (evad G 30 x0)), (1, .int l1), (4, .long l4), (6, .long l6)]) (pc' := 72) dX6_costOf_70 (by decide) rfl rfl ?_
  refine ea_aload_n (pc' := 73) (i := 0) dX6_costOf_72 rfl 1 rfl rfl ?_
  refine ea_aload_n (pc' := 74) (i := 0) dX6_costOf_73 rfl 1 rfl rfl ?_
  refine ea_geti (kf := 15) (pc' := 77) kok_30 hVl0 (by decide) rfl fl_X6_126 dX6_costOf_74 rfl ?_
  refine ea_iconst (v := 5) (pc' := 78) dX6_costOf_77 (by decide) rfl ?_
  refine ea_iload (pc' := 80) dX6_costOf_78 0 rfl rfl ?_
  refine ea_iadd (pc' := 81) dX6_costOf_80 rfl ?_
  refine ea_cvi (As := [.int (S.1 30 x0 15), .int (5 + s0)]) (st := []) (d := d) (pc' := 84) mv_X6_of ml_X6_70 kok_30 hVl0 rfl rfl dX6_costOf_81 rfl (Nat.le_of_ble_eq_true rfl) (ev_room (by decide)) ⟨Nat.le_refl _, Nat.le_refl _⟩ h rfl (fun r1 S2 h => ?_)
  refine ea_i2l (pc' := 85) dX6_costOf_84 rfl ?_
  refine ea_topl (fun v3 hv3 => ?_)
  replace h := h v3 hv3
  refine ea_lstore (lv' := [(11, .long v3), (10, .int s0), (0, .ref (evad G 30 x0)), (1, .int l1), (4, .long l4), (6, .long l6)]) (pc' := 87) dX6_costOf_85 (by decide) rfl rfl ?_
  refine ea_aload_n (pc' := 88) (i := 0) dX6_costOf_87 rfl 2 rfl rfl ?_
  refine ea_aload_n (pc' := 89) (i := 0) dX6_costOf_88 rfl 2 rfl rfl ?_
  refine ea_geti (kf := 15) (pc' := 92) kok_30 hVl0 (by decide) rfl fl_X6_126 dX6_costOf_89 rfl ?_
  refine ea_iconst (v := 5) (pc' := 93) dX6_costOf_92 (by decide) rfl ?_
  refine ea_iload (pc' := 95) dX6_costOf_93 1 rfl rfl ?_
  refine ea_iadd (pc' := 96) dX6_costOf_95 rfl ?_
  refine ea_iconst (v := 1) (pc' := 97) dX6_costOf_96 (by decide) rfl ?_
  refine ea_iadd (pc' := 98) dX6_costOf_97 rfl ?_
  refine ea_cvi (As := [.int (S2.1 30 x0 15), .int ((5 + s0) + 1)]) (st := []) (d := d) (pc' := 101) mv_X6_of ml_X6_70 kok_30 hVl0 rfl rfl dX6_costOf_98 rfl (Nat.le_of_ble_eq_true rfl) (ev_room (by decide)) ⟨Nat.le_refl _, Nat.le_refl _⟩ h rfl (fun r4 S5 h => ?_)
  refine ea_i2l (pc' := 102) dX6_costOf_101 rfl ?_
  refine ea_topl (fun v6 hv6 => ?_)
  replace h := h v6 hv6
  refine ea_lstore (lv' := [(13, .long v6), (11, .long v3), (10, .int s0), (0, .ref (evad G 30 x0)), (1, .int l1), (4, .long l4), (6, .long l6)]) (pc' := 104) dX6_costOf_102 (by decide) rfl rfl ?_
  refine ea_lload (pc' := 106) dX6_costOf_104 1 rfl rfl ?_
  refine ea_ldc2 (v := 10) (pc' := 109) dX6_costOf_106 kc_X6_173 rfl ?_
  refine ea_lmul (pc' := 110) dX6_costOf_109 rfl ?_
  refine ea_lload (pc' := 112) dX6_costOf_110 5 rfl rfl ?_
  refine ea_lmul (pc' := 113) dX6_costOf_112 rfl ?_
  refine ea_lload (pc' := 115) dX6_costOf_113 0 rfl rfl ?_
  refine ea_lload (pc' := 117) dX6_costOf_115 1 rfl rfl ?_
  refine ea_lsub (pc' := 118) dX6_costOf_117 rfl ?_
  refine ea_lload (pc' := 120) dX6_costOf_118 6 rfl rfl ?_
  refine ea_ldc2 (v := 10) (pc' := 123) dX6_costOf_120 kc_X6_173 rfl ?_
  refine ea_iload (pc' := 125) dX6_costOf_123 2 rfl rfl ?_
  refine ea_i2l (pc' := 126) dX6_costOf_125 rfl ?_
  refine ea_lmul (pc' := 127) dX6_costOf_126 rfl ?_
  refine ea_lload (pc' := 129) dX6_costOf_127 5 rfl rfl ?_
  refine ea_lmul (pc' := 130) dX6_costOf_129 rfl ?_
  refine ea_lsub (pc' := 131) dX6_costOf_130 rfl ?_
  refine ea_lmul (pc' := 132) dX6_costOf_131 rfl ?_
  refine ea_ladd (pc' := 133) dX6_costOf_132 rfl ?_
  refine ea_topl (fun v7 hv7 => ?_)
  replace h := h v7 hv7
  refine ea_lstore (lv' := [(15, .long v7), (13, .long v6), (11, .long v3), (10, .int s0), (0, .ref (evad G 30 x0)), (1, .int l1), (4, .long l4), (6, .long l6)]) (pc' := 135) dX6_costOf_133 (by decide) rfl rfl ?_
  refine ea_aload_n (pc' := 136) (i := 0) dX6_costOf_135 rfl 4 rfl rfl ?_
  refine ea_aload_n (pc' := 137) (i := 0) dX6_costOf_136 rfl 4 rfl rfl ?_
  refine ea_geti (kf := 15) (pc' := 140) kok_30 hVl0 (by decide) rfl fl_X6_126 dX6_costOf_137 rfl ?_
  refine ea_iload_n (pc' := 141) (i := 1) dX6_costOf_140 rfl 5 rfl rfl ?_
  refine ea_iconst (v := 0) (pc' := 142) dX6_costOf_141 (by decide) rfl ?_
  refine ea_cvi (As := [.int (S5.1 30 x0 15), .int l1, .int 0]) (st := []) (d := d) (pc' := 145) mv_X6_ofLeg ml_X6_135 kok_30 hVl0 rfl rfl dX6_costOf_142 rfl (Nat.le_of_ble_eq_true rfl) (ev_room (by decide)) ⟨Nat.le_refl _, Nat.le_refl _⟩ h rfl (fun r8 S9 h => ?_)
  refine ea_i2l (pc' := 146) dX6_costOf_145 rfl ?_
  refine ea_lload (pc' := 148) dX6_costOf_146 0 rfl rfl ?_
  refine ea_lmul (pc' := 149) dX6_costOf_148 rfl ?_
  refine ea_ldc2 (v := 10) (pc' := 152) dX6_costOf_149 kc_X6_173 rfl ?_
  refine ea_lload (pc' := 154) dX6_costOf_152 6 rfl rfl ?_
  refine ea_lmul (pc' := 155) dX6_costOf_154 rfl ?_
  obtain ⟨o10, h⟩ := h
  refine ea_ldiv (pc' := 156) dX6_costOf_155 o10 rfl ?_
  refine ea_l2i (pc' := 157) dX6_costOf_156 rfl ?_
  exact ea_iret rfl dX6_costOf_157 ⟨_, rfl, h⟩
theorem vm_X6_costOf {G : evG} {d : Nat} {q : Int32 → evS → Prop} {x0 : Nat} {l1 : Int32} {S : evS} (h : bk_X6_costOf_0 G d (evQI q) x0 l1 S) : evSp G yX6_costOf M_X6_costOf (d + 1) [.ref (evad G 30 x0), .int l1] S (evQI q) :=
  evSp.of (by decide +kernel) rfl (Nat.le_of_ble_eq_true rfl) h
abbrev bk_X6_holds_0 (G : evG) (d : Nat) (Q : Option Value → evS → Prop) (x0 : Nat) (l1 : Int32) (l2 : Int32) (S : evS) : Prop := evAt G M_X6_holds (evFm G (d + 1) Q) 0 [(0, .ref (evad G 30 x0)), (1, .int l1), (2, .int l2)] [] S
set_option maxRecDepth 100000 in
set_option maxHeartbeats 4000000 in
theorem vb_X6_holds_0 {G : evG} {d : Nat} {q : Int32 → evS → Prop} (hCl : evCl G) {x0 : Nat} {l1 : Int32} {l2 : Int32} {S : evS} (hVl0 : (30, x0) ∈ evKs G)
    (h : (evSp G yX6_isShip M_X6_isShip d [.int l1] S (evQI fun r1 S2 => ((r1 = 0 → q (-1) S2) ∧ (¬ r1 = 0 → (evSp G yX6_in M_X6_in d [.int l2, .int 1, .int 99] S2 (evQI fun r3 S4 => ((¬ r3 = 0 → (evSp G yX6_of M_X6_of d [.ref (evad G 30 x0), .int l1, .int 3] S4 (evQI fun r5 S6 => (((r5 + l2) ≤ 9999 → (evSp G yX6_remembers M_X6_remembers d [.ref (evad G 30 x0)] S6 (evQV fun S7 => (vp_in ((33 * l1) + 3) 132 ∧ (vp_in ((33 * l1) + 3) 132 ∧ (∀ S10 : evS, S10 = evup S7 31 0 (((33 * l1) + 3).toNatClampNeg) ((S7.1 31 0 (((33 * l1) + 3).toNatClampNeg)) + l2) → (evSp G yX6_of M_X6_of d [.ref (evad G 30 x0), .int l1, .int 3] S10 (evQI fun r11 S12 => q r11 S12)))))))) ∧ (¬ (r5 + l2) ≤ 9999 → q (-3) S6))))) ∧ (r3 = 0 → q (-1) S4))))))))) : bk_X6_holds_0 G d (evQI q) x0 l1 l2 S := by
  refine ea_iload_n (pc' := 1) (i := 1) dX6_holds_0 rfl 1 rfl rfl ?_
  refine ea_csi (As := [.int l1]) (st := []) (d := d) (pc' := 4) mv_X6_isShip ml_X6_115 rfl dX6_holds_1 rfl (Nat.le_of_ble_eq_true rfl) (ev_room (by decide)) ⟨Nat.le_refl _, Nat.le_refl _⟩ h rfl (fun r1 S2 h => ?_)
  refine ea_if_eq (tgt := 17) (pc' := 7) dX6_holds_4 (by decide) rfl (fun hc => ?_) (fun hc => ?_)
  · replace h := h.1 hc
    refine ea_iconst (v := (-1)) (pc' := 18) dX6_holds_17 (by decide) rfl ?_
    exact ea_iret rfl dX6_holds_18 ⟨_, rfl, h⟩
  · replace h := h.2 hc
    refine ea_iload_n (pc' := 8) (i := 2) dX6_holds_7 rfl 2 rfl rfl ?_
    refine ea_iconst (v := 1) (pc' := 9) dX6_holds_8 (by decide) rfl ?_
    refine ea_bipush (v := 99) (pc' := 11) dX6_holds_9 (by decide) rfl ?_
    refine ea_csi (As := [.int l2, .int 1, .int 99]) (st := []) (d := d) (pc' := 14) mv_X6_in ml_X6_62 rfl dX6_holds_11 rfl (Nat.le_of_ble_eq_true rfl) (ev_room (by decide)) ⟨Nat.le_refl _, Nat.le_refl _⟩ h rfl (fun r3 S4 h => ?_)
    refine ea_if_ne (tgt := 19) (pc' := 17) dX6_holds_14 (by decide) rfl (fun hc => ?_) (fun hc => ?_)
    · replace h := h.1 hc
      refine ea_aload_n (pc' := 20) (i := 0) dX6_holds_19 rfl 0 rfl rfl ?_
      refine ea_iload_n (pc' := 21) (i := 1) dX6_holds_20 rfl 1 rfl rfl ?_
      refine ea_iconst (v := 3) (pc' := 22) dX6_holds_21 (by decide) rfl ?_
      refine ea_cvi (As := [.int l1, .int 3]) (st := []) (d := d) (pc' := 25) mv_X6_of ml_X6_70 kok_30 hVl0 rfl rfl dX6_holds_22 rfl (Nat.le_of_ble_eq_true rfl) (ev_room (by decide)) ⟨Nat.le_refl _, Nat.le_refl _⟩ h rfl (fun r5 S6 h => ?_)
      refine ea_iload_n (pc' := 26) (i := 2) dX6_holds_25 rfl 2 rfl rfl ?_
      refine ea_iadd (pc' := 27) dX6_holds_26 rfl ?_
      refine ea_sipush (v := 9999) (pc' := 30) dX6_holds_27 (by decide) rfl ?_
      refine ea_icmp_le (tgt := 36) (pc' := 33) dX6_holds_30 (by decide) rfl (fun hc => ?_) (fun hc => ?_)
      · replace h := h.1 hc
        refine ea_aload_n (pc' := 37) (i := 0) dX6_holds_36 rfl 0 rfl rfl ?_
        refine ea_cvv (As := []) (st := []) (d := d) (pc' := 40) mv_X6_remembers ml_X6_123 kok_30 hVl0 rfl rfl dX6_holds_37 rfl (Nat.le_of_ble_eq_true rfl) (ev_room (by decide)) ⟨Nat.le_refl _, Nat.le_refl _⟩ h rfl (fun S7 h => ?_)
        refine ea_aload_n (pc' := 41) (i := 0) dX6_holds_40 rfl 0 rfl rfl ?_
        refine ea_getr (k2 := 31) (x2 := 0) (kf := 0) (pc' := 44) kok_30 hVl0 (by decide) rfl fl_X6_7 rfl dX6_holds_41 rfl ?_
        refine ea_bipush (v := 33) (pc' := 46) dX6_holds_44 (by decide) rfl ?_
        refine ea_iload_n (pc' := 47) (i := 1) dX6_holds_46 rfl 1 rfl rfl ?_
        refine ea_imul (pc' := 48) dX6_holds_47 rfl ?_
        refine ea_iconst (v := 3) (pc' := 49) dX6_holds_48 (by decide) rfl ?_
        refine ea_iadd (pc' := 50) dX6_holds_49 rfl ?_
        refine ea_dup2 (pc' := 51) dX6_holds_50 rfl rfl rfl ?_
        obtain ⟨o8, h⟩ := h
        refine ea_iald (j := ((33 * l1) + 3).toNatClampNeg) (pc' := 52) (hCl.1 30 x0 0 31 hVl0 rfl) rfl o8 dX6_holds_51 rfl rfl ?_
        refine ea_iload_n (pc' := 53) (i := 2) dX6_holds_52 rfl 2 rfl rfl ?_
        refine ea_iadd (pc' := 54) dX6_holds_53 rfl ?_
        obtain ⟨o9, h⟩ := h
        refine ea_iast (j := ((33 * l1) + 3).toNatClampNeg) (pc' := 55) (hCl.1 30 x0 0 31 hVl0 rfl) rfl o9 dX6_holds_54 rfl rfl ?_
        refine ea_tops (fun S10 hS10 => ?_)
        replace h := h S10 hS10
        refine ea_aload_n (pc' := 56) (i := 0) dX6_holds_55 rfl 0 rfl rfl ?_
        refine ea_iload_n (pc' := 57) (i := 1) dX6_holds_56 rfl 1 rfl rfl ?_
        refine ea_iconst (v := 3) (pc' := 58) dX6_holds_57 (by decide) rfl ?_
        refine ea_cvi (As := [.int l1, .int 3]) (st := []) (d := d) (pc' := 61) mv_X6_of ml_X6_70 kok_30 hVl0 rfl rfl dX6_holds_58 rfl (Nat.le_of_ble_eq_true rfl) (ev_room (by decide)) ⟨Nat.le_refl _, Nat.le_refl _⟩ h rfl (fun r11 S12 h => ?_)
        exact ea_iret rfl dX6_holds_61 ⟨_, rfl, h⟩
      · replace h := h.2 hc
        refine ea_bipush (v := (-3)) (pc' := 35) dX6_holds_33 (by decide) rfl ?_
        exact ea_iret rfl dX6_holds_35 ⟨_, rfl, h⟩
    · replace h := h.2 hc
      refine ea_iconst (v := (-1)) (pc' := 18) dX6_holds_17 (by decide) rfl ?_
      exact ea_iret rfl dX6_holds_18 ⟨_, rfl, h⟩
theorem vm_X6_holds {G : evG} {d : Nat} {q : Int32 → evS → Prop} {x0 : Nat} {l1 : Int32} {l2 : Int32} {S : evS} (h : bk_X6_holds_0 G d (evQI q) x0 l1 l2 S) : evSp G yX6_holds M_X6_holds (d + 1) [.ref (evad G 30 x0), .int l1, .int l2] S (evQI q) :=
  evSp.of (by decide +kernel) rfl (Nat.le_of_ble_eq_true rfl) h
abbrev bk_X6_moves_0 (G : evG) (d : Nat) (Q : Option Value → evS → Prop) (x0 : Nat) (l1 : Int32) (l2 : Int32) (l3 : Int32) (l4 : Int32) (S : evS) : Prop := evAt G M_X6_moves (evFm G (d + 1) Q) 0 [(0, .ref (evad G 30 x0)), (1, .int l1), (2, .int l2), (3, .int l3), (4, .int l4)] [] S
abbrev bk_X6_moves_67 (G : evG) (d : Nat) (Q : Option Value → evS → Prop) (x0 : Nat) (l1 : Int32) (l3 : Int32) (l4 : Int32) (l5 : Int32) (S : evS) : Prop := evAt G M_X6_moves (evFm G (d + 1) Q) 67 [(0, .ref (evad G 30 x0)), (1, .int l1), (3, .int l3), (4, .int l4), (5, .int l5)] [] S
set_option maxRecDepth 100000 in
set_option maxHeartbeats 4000000 in
theorem vb_X6_moves_0 {G : evG} {d : Nat} {q : Int32 → evS → Prop} (hCl : evCl G) {x0 : Nat} {l1 : Int32} {l2 : Int32} {l3 : Int32} {l4 : Int32} {S : evS} (hVl0 : (30, x0) ∈ evKs G)
    (h : (evSp G yX6_isAhead M_X6_isAhead d [.ref (evad G 30 x0), .int l1, .int l2] S (evQI fun r1 S2 => ((r1 = 0 → q (-1) S2) ∧ (¬ r1 = 0 → (evSp G yX6_in M_X6_in d [.int l3, .int 0, .int 999] S2 (evQI fun r3 S4 => ((r3 = 0 → q (-1) S4) ∧ (¬ r3 = 0 → (evSp G yX6_in M_X6_in d [.int l4, .int l3, .int 999] S4 (evQI fun r5 S6 => ((¬ r5 = 0 → (∀ v7 : Int32, v7 = (l2 - 1) → (evSp G yX6_ofLeg M_X6_ofLeg d [.ref (evad G 30 x0), .int l1, .int v7, .int 2] S6 (evQI fun r8 S9 => ((¬ r8 = l3 → bk_X6_moves_67 G d (evQI q) x0 l1 l3 l4 v7 S9) ∧ (r8 = l3 → (evSp G yX6_ofLeg M_X6_ofLeg d [.ref (evad G 30 x0), .int l1, .int v7, .int 3] S9 (evQI fun r10 S11 => ((¬ r10 = l4 → bk_X6_moves_67 G d (evQI q) x0 l1 l3 l4 v7 S11) ∧ (r10 = l4 → q (-2) S11)))))))))) ∧ (r5 = 0 → q (-1) S6))))))))))))) : bk_X6_moves_0 G d (evQI q) x0 l1 l2 l3 l4 S := by
  refine ea_aload_n (pc' := 1) (i := 0) dX6_moves_0 rfl 0 rfl rfl ?_
  refine ea_iload_n (pc' := 2) (i := 1) dX6_moves_1 rfl 1 rfl rfl ?_
  refine ea_iload_n (pc' := 3) (i := 2) dX6_moves_2 rfl 2 rfl rfl ?_
  refine ea_cvi (As := [.int l1, .int l2]) (st := []) (d := d) (pc' := 6) mv_X6_isAhead ml_X6_190 kok_30 hVl0 rfl rfl dX6_moves_3 rfl (Nat.le_of_ble_eq_true rfl) (ev_room (by decide)) ⟨Nat.le_refl _, Nat.le_refl _⟩ h rfl (fun r1 S2 h => ?_)
  refine ea_if_eq (tgt := 32) (pc' := 9) dX6_moves_6 (by decide) rfl (fun hc => ?_) (fun hc => ?_)
  · replace h := h.1 hc
    refine ea_iconst (v := (-1)) (pc' := 33) dX6_moves_32 (by decide) rfl ?_
    exact ea_iret rfl dX6_moves_33 ⟨_, rfl, h⟩
  · replace h := h.2 hc
    refine ea_iload_n (pc' := 10) (i := 3) dX6_moves_9 rfl 3 rfl rfl ?_
    refine ea_iconst (v := 0) (pc' := 11) dX6_moves_10 (by decide) rfl ?_
    refine ea_sipush (v := 999) (pc' := 14) dX6_moves_11 (by decide) rfl ?_
    refine ea_csi (As := [.int l3, .int 0, .int 999]) (st := []) (d := d) (pc' := 17) mv_X6_in ml_X6_62 rfl dX6_moves_14 rfl (Nat.le_of_ble_eq_true rfl) (ev_room (by decide)) ⟨Nat.le_refl _, Nat.le_refl _⟩ h rfl (fun r3 S4 h => ?_)
    refine ea_if_eq (tgt := 32) (pc' := 20) dX6_moves_17 (by decide) rfl (fun hc => ?_) (fun hc => ?_)
    · replace h := h.1 hc
      refine ea_iconst (v := (-1)) (pc' := 33) dX6_moves_32 (by decide) rfl ?_
      exact ea_iret rfl dX6_moves_33 ⟨_, rfl, h⟩
    · replace h := h.2 hc
      refine ea_iload (pc' := 22) dX6_moves_20 4 rfl rfl ?_
      refine ea_iload_n (pc' := 23) (i := 3) dX6_moves_22 rfl 3 rfl rfl ?_
      refine ea_sipush (v := 999) (pc' := 26) dX6_moves_23 (by decide) rfl ?_
      refine ea_csi (As := [.int l4, .int l3, .int 999]) (st := []) (d := d) (pc' := 29) mv_X6_in ml_X6_62 rfl dX6_moves_26 rfl (Nat.le_of_ble_eq_true rfl) (ev_room (by decide)) ⟨Nat.le_refl _, Nat.le_refl _⟩ h rfl (fun r5 S6 h => ?_)
      refine ea_if_ne (tgt := 34) (pc' := 32) dX6_moves_29 (by decide) rfl (fun hc => ?_) (fun hc => ?_)
      · replace h := h.1 hc
        refine ea_iload_n (pc' := 35) (i := 2) dX6_moves_34 rfl 2 rfl rfl ?_
        refine ea_iconst (v := 1) (pc' := 36) dX6_moves_35 (by decide) rfl ?_
        refine ea_isub (pc' := 37) dX6_moves_36 rfl ?_
        refine ea_topi (fun v7 hv7 => ?_)
        replace h := h v7 hv7
        refine ea_istore (lv' := [(5, .int v7), (0, .ref (evad G 30 x0)), (1, .int l1), (2, .int l2), (3, .int l3), (4, .int l4)]) (pc' := 39) dX6_moves_37 (by decide) rfl rfl ?_
        refine ea_aload_n (pc' := 40) (i := 0) dX6_moves_39 rfl 1 rfl rfl ?_
        refine ea_iload_n (pc' := 41) (i := 1) dX6_moves_40 rfl 2 rfl rfl ?_
        refine ea_iload (pc' := 43) dX6_moves_41 0 rfl rfl ?_
        refine ea_iconst (v := 2) (pc' := 44) dX6_moves_43 (by decide) rfl ?_
        refine ea_cvi (As := [.int l1, .int v7, .int 2]) (st := []) (d := d) (pc' := 47) mv_X6_ofLeg ml_X6_135 kok_30 hVl0 rfl rfl dX6_moves_44 rfl (Nat.le_of_ble_eq_true rfl) (ev_room (by decide)) ⟨Nat.le_refl _, Nat.le_refl _⟩ h rfl (fun r8 S9 h => ?_)
        refine ea_iload_n (pc' := 48) (i := 3) dX6_moves_47 rfl 4 rfl rfl ?_
        refine ea_icmp_ne (tgt := 67) (pc' := 51) dX6_moves_48 (by decide) rfl (fun hc => ?_) (fun hc => ?_)
        · replace h := h.1 hc
          refine ea_loc [1, 2, 4, 5, 0] rfl ?_
          exact h
        · replace h := h.2 hc
          refine ea_aload_n (pc' := 52) (i := 0) dX6_moves_51 rfl 1 rfl rfl ?_
          refine ea_iload_n (pc' := 53) (i := 1) dX6_moves_52 rfl 2 rfl rfl ?_
          refine ea_iload (pc' := 55) dX6_moves_53 0 rfl rfl ?_
          refine ea_iconst (v := 3) (pc' := 56) dX6_moves_55 (by decide) rfl ?_
          refine ea_cvi (As := [.int l1, .int v7, .int 3]) (st := []) (d := d) (pc' := 59) mv_X6_ofLeg ml_X6_135 kok_30 hVl0 rfl rfl dX6_moves_56 rfl (Nat.le_of_ble_eq_true rfl) (ev_room (by decide)) ⟨Nat.le_refl _, Nat.le_refl _⟩ h rfl (fun r10 S11 h => ?_)
          refine ea_iload (pc' := 61) dX6_moves_59 5 rfl rfl ?_
          refine ea_icmp_ne (tgt := 67) (pc' := 64) dX6_moves_61 (by decide) rfl (fun hc => ?_) (fun hc => ?_)
          · replace h := h.1 hc
            refine ea_loc [1, 2, 4, 5, 0] rfl ?_
            exact h
          · replace h := h.2 hc
            refine ea_bipush (v := (-2)) (pc' := 66) dX6_moves_64 (by decide) rfl ?_
            exact ea_iret rfl dX6_moves_66 ⟨_, rfl, h⟩
      · replace h := h.2 hc
        refine ea_iconst (v := (-1)) (pc' := 33) dX6_moves_32 (by decide) rfl ?_
        exact ea_iret rfl dX6_moves_33 ⟨_, rfl, h⟩
set_option maxRecDepth 100000 in
set_option maxHeartbeats 4000000 in
theorem vb_X6_moves_67 {G : evG} {d : Nat} {q : Int32 → evS → Prop} (hCl : evCl G) {x0 : Nat} {l1 : Int32} {l3 : Int32} {l4 : Int32} {l5 : Int32} {S : evS} (hVl0 : (30, x0) ∈ evKs G)
    (h : (evSp G yX6_remembers M_X6_remembers d [.ref (evad G 30 x0)] S (evQV fun S1 => (evSp G yX6_legPlace M_X6_legPlace d [.int l5, .int 2] S1 (evQI fun r2 S3 => (vp_in ((33 * l1) + r2) 132 ∧ (∀ S5 : evS, S5 = evup S3 31 0 (((33 * l1) + r2).toNatClampNeg) l3 → (evSp G yX6_legPlace M_X6_legPlace d [.int l5, .int 3] S5 (evQI fun r6 S7 => (vp_in ((33 * l1) + r6) 132 ∧ (∀ S9 : evS, S9 = evup S7 31 0 (((33 * l1) + r6).toNatClampNeg) l4 → q 1 S9))))))))))) : bk_X6_moves_67 G d (evQI q) x0 l1 l3 l4 l5 S := by
  refine ea_aload_n (pc' := 68) (i := 0) dX6_moves_67 rfl 0 rfl rfl ?_
  refine ea_cvv (As := []) (st := []) (d := d) (pc' := 71) mv_X6_remembers ml_X6_123 kok_30 hVl0 rfl rfl dX6_moves_68 rfl (Nat.le_of_ble_eq_true rfl) (ev_room (by decide)) ⟨Nat.le_refl _, Nat.le_refl _⟩ h rfl (fun S1 h => ?_)
  refine ea_aload_n (pc' := 72) (i := 0) dX6_moves_71 rfl 0 rfl rfl ?_
  refine ea_getr (k2 := 31) (x2 := 0) (kf := 0) (pc' := 75) kok_30 hVl0 (by decide) rfl fl_X6_7 rfl dX6_moves_72 rfl ?_
  refine ea_bipush (v := 33) (pc' := 77) dX6_moves_75 (by decide) rfl ?_
  refine ea_iload_n (pc' := 78) (i := 1) dX6_moves_77 rfl 1 rfl rfl ?_
  refine ea_imul (pc' := 79) dX6_moves_78 rfl ?_
  refine ea_iload (pc' := 81) dX6_moves_79 4 rfl rfl ?_
  refine ea_iconst (v := 2) (pc' := 82) dX6_moves_81 (by decide) rfl ?_
  refine ea_csi (As := [.int l5, .int 2]) (st := [.int (33 * l1), .ref (evad G 31 0)]) (d := d) (pc' := 85) mv_X6_legPlace ml_X6_66 rfl dX6_moves_82 rfl (Nat.le_of_ble_eq_true rfl) (ev_room (by decide)) ⟨Nat.le_refl _, Nat.le_refl _⟩ h rfl (fun r2 S3 h => ?_)
  refine ea_iadd (pc' := 86) dX6_moves_85 rfl ?_
  refine ea_iload_n (pc' := 87) (i := 3) dX6_moves_86 rfl 2 rfl rfl ?_
  obtain ⟨o4, h⟩ := h
  refine ea_iast (j := ((33 * l1) + r2).toNatClampNeg) (pc' := 88) (hCl.1 30 x0 0 31 hVl0 rfl) rfl o4 dX6_moves_87 rfl rfl ?_
  refine ea_tops (fun S5 hS5 => ?_)
  replace h := h S5 hS5
  refine ea_aload_n (pc' := 89) (i := 0) dX6_moves_88 rfl 0 rfl rfl ?_
  refine ea_getr (k2 := 31) (x2 := 0) (kf := 0) (pc' := 92) kok_30 hVl0 (by decide) rfl fl_X6_7 rfl dX6_moves_89 rfl ?_
  refine ea_bipush (v := 33) (pc' := 94) dX6_moves_92 (by decide) rfl ?_
  refine ea_iload_n (pc' := 95) (i := 1) dX6_moves_94 rfl 1 rfl rfl ?_
  refine ea_imul (pc' := 96) dX6_moves_95 rfl ?_
  refine ea_iload (pc' := 98) dX6_moves_96 4 rfl rfl ?_
  refine ea_iconst (v := 3) (pc' := 99) dX6_moves_98 (by decide) rfl ?_
  refine ea_csi (As := [.int l5, .int 3]) (st := [.int (33 * l1), .ref (evad G 31 0)]) (d := d) (pc' := 102) mv_X6_legPlace ml_X6_66 rfl dX6_moves_99 rfl (Nat.le_of_ble_eq_true rfl) (ev_room (by decide)) ⟨Nat.le_refl _, Nat.le_refl _⟩ h rfl (fun r6 S7 h => ?_)
  refine ea_iadd (pc' := 103) dX6_moves_102 rfl ?_
  refine ea_iload (pc' := 105) dX6_moves_103 3 rfl rfl ?_
  obtain ⟨o8, h⟩ := h
  refine ea_iast (j := ((33 * l1) + r6).toNatClampNeg) (pc' := 106) (hCl.1 30 x0 0 31 hVl0 rfl) rfl o8 dX6_moves_105 rfl rfl ?_
  refine ea_tops (fun S9 hS9 => ?_)
  replace h := h S9 hS9
  refine ea_iconst (v := 1) (pc' := 107) dX6_moves_106 (by decide) rfl ?_
  exact ea_iret rfl dX6_moves_107 ⟨_, rfl, h⟩
theorem vm_X6_moves {G : evG} {d : Nat} {q : Int32 → evS → Prop} {x0 : Nat} {l1 : Int32} {l2 : Int32} {l3 : Int32} {l4 : Int32} {S : evS} (h : bk_X6_moves_0 G d (evQI q) x0 l1 l2 l3 l4 S) : evSp G yX6_moves M_X6_moves (d + 1) [.ref (evad G 30 x0), .int l1, .int l2, .int l3, .int l4] S (evQI q) :=
  evSp.of (by decide +kernel) rfl (Nat.le_of_ble_eq_true rfl) h
abbrev bk_X6_isAhead_0 (G : evG) (d : Nat) (Q : Option Value → evS → Prop) (x0 : Nat) (l1 : Int32) (l2 : Int32) (S : evS) : Prop := evAt G M_X6_isAhead (evFm G (d + 1) Q) 0 [(0, .ref (evad G 30 x0)), (1, .int l1), (2, .int l2)] [] S
set_option maxRecDepth 100000 in
set_option maxHeartbeats 4000000 in
theorem vb_X6_isAhead_0 {G : evG} {d : Nat} {q : Int32 → evS → Prop} (hCl : evCl G) {x0 : Nat} {l1 : Int32} {l2 : Int32} {S : evS} (hVl0 : (30, x0) ∈ evKs G)
    (h : (evSp G yX6_isShip M_X6_isShip d [.int l1] S (evQI fun r1 S2 => ((r1 = 0 → q 0 S2) ∧ (¬ r1 = 0 → (evSp G yX6_of M_X6_of d [.ref (evad G 30 x0), .int l1, .int 2] S2 (evQI fun r3 S4 => (evSp G yX6_of M_X6_of d [.ref (evad G 30 x0), .int l1, .int 0] S4 (evQI fun r5 S6 => (evSp G yX6_in M_X6_in d [.int l2, .int (r3 + 1), .int r5] S6 (evQI fun r7 S8 => ((r7 = 0 → q 0 S8) ∧ (¬ r7 = 0 → q 1 S8))))))))))))) : bk_X6_isAhead_0 G d (evQI q) x0 l1 l2 S := by
  refine ea_iload_n (pc' := 1) (i := 1) dX6_isAhead_0 rfl 1 rfl rfl ?_
  refine ea_csi (As := [.int l1]) (st := []) (d := d) (pc' := 4) mv_X6_isShip ml_X6_115 rfl dX6_isAhead_1 rfl (Nat.le_of_ble_eq_true rfl) (ev_room (by decide)) ⟨Nat.le_refl _, Nat.le_refl _⟩ h rfl (fun r1 S2 h => ?_)
  refine ea_if_eq (tgt := 32) (pc' := 7) dX6_isAhead_4 (by decide) rfl (fun hc => ?_) (fun hc => ?_)
  · replace h := h.1 hc
    refine ea_iconst (v := 0) (pc' := 33) dX6_isAhead_32 (by decide) rfl ?_
    exact ea_zret rfl dX6_isAhead_33 (by decide) ⟨_, rfl, h⟩
  · replace h := h.2 hc
    refine ea_iload_n (pc' := 8) (i := 2) dX6_isAhead_7 rfl 2 rfl rfl ?_
    refine ea_aload_n (pc' := 9) (i := 0) dX6_isAhead_8 rfl 0 rfl rfl ?_
    refine ea_iload_n (pc' := 10) (i := 1) dX6_isAhead_9 rfl 1 rfl rfl ?_
    refine ea_iconst (v := 2) (pc' := 11) dX6_isAhead_10 (by decide) rfl ?_
    refine ea_cvi (As := [.int l1, .int 2]) (st := [.int l2]) (d := d) (pc' := 14) mv_X6_of ml_X6_70 kok_30 hVl0 rfl rfl dX6_isAhead_11 rfl (Nat.le_of_ble_eq_true rfl) (ev_room (by decide)) ⟨Nat.le_refl _, Nat.le_refl _⟩ h rfl (fun r3 S4 h => ?_)
    refine ea_iconst (v := 1) (pc' := 15) dX6_isAhead_14 (by decide) rfl ?_
    refine ea_iadd (pc' := 16) dX6_isAhead_15 rfl ?_
    refine ea_aload_n (pc' := 17) (i := 0) dX6_isAhead_16 rfl 0 rfl rfl ?_
    refine ea_iload_n (pc' := 18) (i := 1) dX6_isAhead_17 rfl 1 rfl rfl ?_
    refine ea_iconst (v := 0) (pc' := 19) dX6_isAhead_18 (by decide) rfl ?_
    refine ea_cvi (As := [.int l1, .int 0]) (st := [.int (r3 + 1), .int l2]) (d := d) (pc' := 22) mv_X6_of ml_X6_70 kok_30 hVl0 rfl rfl dX6_isAhead_19 rfl (Nat.le_of_ble_eq_true rfl) (ev_room (by decide)) ⟨Nat.le_refl _, Nat.le_refl _⟩ h rfl (fun r5 S6 h => ?_)
    refine ea_csi (As := [.int l2, .int (r3 + 1), .int r5]) (st := []) (d := d) (pc' := 25) mv_X6_in ml_X6_62 rfl dX6_isAhead_22 rfl (Nat.le_of_ble_eq_true rfl) (ev_room (by decide)) ⟨Nat.le_refl _, Nat.le_refl _⟩ h rfl (fun r7 S8 h => ?_)
    refine ea_if_eq (tgt := 32) (pc' := 28) dX6_isAhead_25 (by decide) rfl (fun hc => ?_) (fun hc => ?_)
    · replace h := h.1 hc
      refine ea_iconst (v := 0) (pc' := 33) dX6_isAhead_32 (by decide) rfl ?_
      exact ea_zret rfl dX6_isAhead_33 (by decide) ⟨_, rfl, h⟩
    · replace h := h.2 hc
      refine ea_iconst (v := 1) (pc' := 29) dX6_isAhead_28 (by decide) rfl ?_
      refine ea_goto (tgt := 33) dX6_isAhead_29 (by decide) ?_
      exact ea_zret rfl dX6_isAhead_33 (by decide) ⟨_, rfl, h⟩
theorem vm_X6_isAhead {G : evG} {d : Nat} {q : Int32 → evS → Prop} {x0 : Nat} {l1 : Int32} {l2 : Int32} {S : evS} (h : bk_X6_isAhead_0 G d (evQI q) x0 l1 l2 S) : evSp G yX6_isAhead M_X6_isAhead (d + 1) [.ref (evad G 30 x0), .int l1, .int l2] S (evQI q) :=
  evSp.of (by decide +kernel) rfl (Nat.le_of_ble_eq_true rfl) h
abbrev bk_X6_fastens_0 (G : evG) (d : Nat) (Q : Option Value → evS → Prop) (x0 : Nat) (l1 : Int32) (l2 : Int32) (S : evS) : Prop := evAt G M_X6_fastens (evFm G (d + 1) Q) 0 [(0, .ref (evad G 30 x0)), (1, .int l1), (2, .int l2)] [] S
set_option maxRecDepth 100000 in
set_option maxHeartbeats 4000000 in
theorem vb_X6_fastens_0 {G : evG} {d : Nat} {q : Int32 → evS → Prop} (hCl : evCl G) {x0 : Nat} {l1 : Int32} {l2 : Int32} {S : evS} (hVl0 : (30, x0) ∈ evKs G)
    (h : (evSp G yX6_isShip M_X6_isShip d [.int l1] S (evQI fun r1 S2 => ((r1 = 0 → q (-1) S2) ∧ (¬ r1 = 0 → (evSp G yX6_in M_X6_in d [.int l2, .int 1, .int 60] S2 (evQI fun r3 S4 => ((¬ r3 = 0 → (evSp G yX6_of M_X6_of d [.ref (evad G 30 x0), .int l1, .int 1] S4 (evQI fun r5 S6 => ((¬ r5 = l2 → (evSp G yX6_remembers M_X6_remembers d [.ref (evad G 30 x0)] S6 (evQV fun S7 => (vp_in ((33 * l1) + 1) 132 ∧ (∀ S9 : evS, S9 = evup S7 31 0 (((33 * l1) + 1).toNatClampNeg) l2 → q r5 S9))))) ∧ (r5 = l2 → q (-2) S6))))) ∧ (r3 = 0 → q (-1) S4))))))))) : bk_X6_fastens_0 G d (evQI q) x0 l1 l2 S := by
  refine ea_iload_n (pc' := 1) (i := 1) dX6_fastens_0 rfl 1 rfl rfl ?_
  refine ea_csi (As := [.int l1]) (st := []) (d := d) (pc' := 4) mv_X6_isShip ml_X6_115 rfl dX6_fastens_1 rfl (Nat.le_of_ble_eq_true rfl) (ev_room (by decide)) ⟨Nat.le_refl _, Nat.le_refl _⟩ h rfl (fun r1 S2 h => ?_)
  refine ea_if_eq (tgt := 17) (pc' := 7) dX6_fastens_4 (by decide) rfl (fun hc => ?_) (fun hc => ?_)
  · replace h := h.1 hc
    refine ea_iconst (v := (-1)) (pc' := 18) dX6_fastens_17 (by decide) rfl ?_
    exact ea_iret rfl dX6_fastens_18 ⟨_, rfl, h⟩
  · replace h := h.2 hc
    refine ea_iload_n (pc' := 8) (i := 2) dX6_fastens_7 rfl 2 rfl rfl ?_
    refine ea_iconst (v := 1) (pc' := 9) dX6_fastens_8 (by decide) rfl ?_
    refine ea_bipush (v := 60) (pc' := 11) dX6_fastens_9 (by decide) rfl ?_
    refine ea_csi (As := [.int l2, .int 1, .int 60]) (st := []) (d := d) (pc' := 14) mv_X6_in ml_X6_62 rfl dX6_fastens_11 rfl (Nat.le_of_ble_eq_true rfl) (ev_room (by decide)) ⟨Nat.le_refl _, Nat.le_refl _⟩ h rfl (fun r3 S4 h => ?_)
    refine ea_if_ne (tgt := 19) (pc' := 17) dX6_fastens_14 (by decide) rfl (fun hc => ?_) (fun hc => ?_)
    · replace h := h.1 hc
      refine ea_aload_n (pc' := 20) (i := 0) dX6_fastens_19 rfl 0 rfl rfl ?_
      refine ea_iload_n (pc' := 21) (i := 1) dX6_fastens_20 rfl 1 rfl rfl ?_
      refine ea_iconst (v := 1) (pc' := 22) dX6_fastens_21 (by decide) rfl ?_
      refine ea_cvi (As := [.int l1, .int 1]) (st := []) (d := d) (pc' := 25) mv_X6_of ml_X6_70 kok_30 hVl0 rfl rfl dX6_fastens_22 rfl (Nat.le_of_ble_eq_true rfl) (ev_room (by decide)) ⟨Nat.le_refl _, Nat.le_refl _⟩ h rfl (fun r5 S6 h => ?_)
      refine ea_istore_n (lv' := [(3, .int r5), (0, .ref (evad G 30 x0)), (1, .int l1), (2, .int l2)]) (pc' := 26) dX6_fastens_25 rfl (by decide) rfl rfl ?_
      refine ea_iload_n (pc' := 27) (i := 3) dX6_fastens_26 rfl 0 rfl rfl ?_
      refine ea_iload_n (pc' := 28) (i := 2) dX6_fastens_27 rfl 3 rfl rfl ?_
      refine ea_icmp_ne (tgt := 34) (pc' := 31) dX6_fastens_28 (by decide) rfl (fun hc => ?_) (fun hc => ?_)
      · replace h := h.1 hc
        refine ea_aload_n (pc' := 35) (i := 0) dX6_fastens_34 rfl 1 rfl rfl ?_
        refine ea_cvv (As := []) (st := []) (d := d) (pc' := 38) mv_X6_remembers ml_X6_123 kok_30 hVl0 rfl rfl dX6_fastens_35 rfl (Nat.le_of_ble_eq_true rfl) (ev_room (by decide)) ⟨Nat.le_refl _, Nat.le_refl _⟩ h rfl (fun S7 h => ?_)
        refine ea_aload_n (pc' := 39) (i := 0) dX6_fastens_38 rfl 1 rfl rfl ?_
        refine ea_getr (k2 := 31) (x2 := 0) (kf := 0) (pc' := 42) kok_30 hVl0 (by decide) rfl fl_X6_7 rfl dX6_fastens_39 rfl ?_
        refine ea_bipush (v := 33) (pc' := 44) dX6_fastens_42 (by decide) rfl ?_
        refine ea_iload_n (pc' := 45) (i := 1) dX6_fastens_44 rfl 2 rfl rfl ?_
        refine ea_imul (pc' := 46) dX6_fastens_45 rfl ?_
        refine ea_iconst (v := 1) (pc' := 47) dX6_fastens_46 (by decide) rfl ?_
        refine ea_iadd (pc' := 48) dX6_fastens_47 rfl ?_
        refine ea_iload_n (pc' := 49) (i := 2) dX6_fastens_48 rfl 3 rfl rfl ?_
        obtain ⟨o8, h⟩ := h
        refine ea_iast (j := ((33 * l1) + 1).toNatClampNeg) (pc' := 50) (hCl.1 30 x0 0 31 hVl0 rfl) rfl o8 dX6_fastens_49 rfl rfl ?_
        refine ea_tops (fun S9 hS9 => ?_)
        replace h := h S9 hS9
        refine ea_iload_n (pc' := 51) (i := 3) dX6_fastens_50 rfl 0 rfl rfl ?_
        exact ea_iret rfl dX6_fastens_51 ⟨_, rfl, h⟩
      · replace h := h.2 hc
        refine ea_bipush (v := (-2)) (pc' := 33) dX6_fastens_31 (by decide) rfl ?_
        exact ea_iret rfl dX6_fastens_33 ⟨_, rfl, h⟩
    · replace h := h.2 hc
      refine ea_iconst (v := (-1)) (pc' := 18) dX6_fastens_17 (by decide) rfl ?_
      exact ea_iret rfl dX6_fastens_18 ⟨_, rfl, h⟩
theorem vm_X6_fastens {G : evG} {d : Nat} {q : Int32 → evS → Prop} {x0 : Nat} {l1 : Int32} {l2 : Int32} {S : evS} (h : bk_X6_fastens_0 G d (evQI q) x0 l1 l2 S) : evSp G yX6_fastens M_X6_fastens (d + 1) [.ref (evad G 30 x0), .int l1, .int l2] S (evQI q) :=
  evSp.of (by decide +kernel) rfl (Nat.le_of_ble_eq_true rfl) h
abbrev bk_X6_ship_0 (G : evG) (d : Nat) (Q : Option Value → evS → Prop) (x0 : Nat) (l1 : Int32) (l2 : Int32) (S : evS) : Prop := evAt G M_X6_ship (evFm G (d + 1) Q) 0 [(0, .ref (evad G 30 x0)), (1, .int l1), (2, .int l2)] [] S
set_option maxRecDepth 100000 in
set_option maxHeartbeats 4000000 in
theorem vb_X6_ship_0 {G : evG} {d : Nat} {q : Int32 → evS → Prop} (hCl : evCl G) {x0 : Nat} {l1 : Int32} {l2 : Int32} {S : evS} (hVl0 : (30, x0) ∈ evKs G)
    (h : (evSp G yX6_isShip M_X6_isShip d [.int l1] S (evQI fun r1 S2 => ((r1 = 0 → q (-1) S2) ∧ (¬ r1 = 0 → (evSp G yX6_in M_X6_in d [.int l2, .int 0, .int 8] S2 (evQI fun r3 S4 => ((r3 = 0 → q (-1) S4) ∧ (¬ r3 = 0 → (evSp G yX6_of M_X6_of d [.ref (evad G 30 x0), .int l1, .int l2] S4 (evQI fun r5 S6 => q r5 S6))))))))))) : bk_X6_ship_0 G d (evQI q) x0 l1 l2 S := by
  refine ea_iload_n (pc' := 1) (i := 1) dX6_ship_0 rfl 1 rfl rfl ?_
  refine ea_csi (As := [.int l1]) (st := []) (d := d) (pc' := 4) mv_X6_isShip ml_X6_115 rfl dX6_ship_1 rfl (Nat.le_of_ble_eq_true rfl) (ev_room (by decide)) ⟨Nat.le_refl _, Nat.le_refl _⟩ h rfl (fun r1 S2 h => ?_)
  refine ea_if_eq (tgt := 26) (pc' := 7) dX6_ship_4 (by decide) rfl (fun hc => ?_) (fun hc => ?_)
  · replace h := h.1 hc
    refine ea_iconst (v := (-1)) (pc' := 27) dX6_ship_26 (by decide) rfl ?_
    exact ea_iret rfl dX6_ship_27 ⟨_, rfl, h⟩
  · replace h := h.2 hc
    refine ea_iload_n (pc' := 8) (i := 2) dX6_ship_7 rfl 2 rfl rfl ?_
    refine ea_iconst (v := 0) (pc' := 9) dX6_ship_8 (by decide) rfl ?_
    refine ea_bipush (v := 8) (pc' := 11) dX6_ship_9 (by decide) rfl ?_
    refine ea_csi (As := [.int l2, .int 0, .int 8]) (st := []) (d := d) (pc' := 14) mv_X6_in ml_X6_62 rfl dX6_ship_11 rfl (Nat.le_of_ble_eq_true rfl) (ev_room (by decide)) ⟨Nat.le_refl _, Nat.le_refl _⟩ h rfl (fun r3 S4 h => ?_)
    refine ea_if_eq (tgt := 26) (pc' := 17) dX6_ship_14 (by decide) rfl (fun hc => ?_) (fun hc => ?_)
    · replace h := h.1 hc
      refine ea_iconst (v := (-1)) (pc' := 27) dX6_ship_26 (by decide) rfl ?_
      exact ea_iret rfl dX6_ship_27 ⟨_, rfl, h⟩
    · replace h := h.2 hc
      refine ea_aload_n (pc' := 18) (i := 0) dX6_ship_17 rfl 0 rfl rfl ?_
      refine ea_iload_n (pc' := 19) (i := 1) dX6_ship_18 rfl 1 rfl rfl ?_
      refine ea_iload_n (pc' := 20) (i := 2) dX6_ship_19 rfl 2 rfl rfl ?_
      refine ea_cvi (As := [.int l1, .int l2]) (st := []) (d := d) (pc' := 23) mv_X6_of ml_X6_70 kok_30 hVl0 rfl rfl dX6_ship_20 rfl (Nat.le_of_ble_eq_true rfl) (ev_room (by decide)) ⟨Nat.le_refl _, Nat.le_refl _⟩ h rfl (fun r5 S6 h => ?_)
      refine ea_goto (tgt := 27) dX6_ship_23 (by decide) ?_
      exact ea_iret rfl dX6_ship_27 ⟨_, rfl, h⟩
theorem vm_X6_ship {G : evG} {d : Nat} {q : Int32 → evS → Prop} {x0 : Nat} {l1 : Int32} {l2 : Int32} {S : evS} (h : bk_X6_ship_0 G d (evQI q) x0 l1 l2 S) : evSp G yX6_ship M_X6_ship (d + 1) [.ref (evad G 30 x0), .int l1, .int l2] S (evQI q) :=
  evSp.of (by decide +kernel) rfl (Nat.le_of_ble_eq_true rfl) h
abbrev bk_X6_leg_0 (G : evG) (d : Nat) (Q : Option Value → evS → Prop) (x0 : Nat) (l1 : Int32) (l2 : Int32) (l3 : Int32) (S : evS) : Prop := evAt G M_X6_leg (evFm G (d + 1) Q) 0 [(0, .ref (evad G 30 x0)), (1, .int l1), (2, .int l2), (3, .int l3)] [] S
set_option maxRecDepth 100000 in
set_option maxHeartbeats 4000000 in
theorem vb_X6_leg_0 {G : evG} {d : Nat} {q : Int32 → evS → Prop} (hCl : evCl G) {x0 : Nat} {l1 : Int32} {l2 : Int32} {l3 : Int32} {S : evS} (hVl0 : (30, x0) ∈ evKs G)
    (h : (evSp G yX6_isShip M_X6_isShip d [.int l1] S (evQI fun r1 S2 => ((r1 = 0 → q (-1) S2) ∧ (¬ r1 = 0 → (evSp G yX6_of M_X6_of d [.ref (evad G 30 x0), .int l1, .int 0] S2 (evQI fun r3 S4 => (evSp G yX6_in M_X6_in d [.int l2, .int 0, .int (r3 - 1)] S4 (evQI fun r5 S6 => ((r5 = 0 → q (-1) S6) ∧ (¬ r5 = 0 → (evSp G yX6_in M_X6_in d [.int l3, .int 0, .int 3] S6 (evQI fun r7 S8 => ((r7 = 0 → q (-1) S8) ∧ (¬ r7 = 0 → (evSp G yX6_ofLeg M_X6_ofLeg d [.ref (evad G 30 x0), .int l1, .int l2, .int l3] S8 (evQI fun r9 S10 => q r9 S10))))))))))))))))) : bk_X6_leg_0 G d (evQI q) x0 l1 l2 l3 S := by
  refine ea_iload_n (pc' := 1) (i := 1) dX6_leg_0 rfl 1 rfl rfl ?_
  refine ea_csi (As := [.int l1]) (st := []) (d := d) (pc' := 4) mv_X6_isShip ml_X6_115 rfl dX6_leg_1 rfl (Nat.le_of_ble_eq_true rfl) (ev_room (by decide)) ⟨Nat.le_refl _, Nat.le_refl _⟩ h rfl (fun r1 S2 h => ?_)
  refine ea_if_eq (tgt := 42) (pc' := 7) dX6_leg_4 (by decide) rfl (fun hc => ?_) (fun hc => ?_)
  · replace h := h.1 hc
    refine ea_iconst (v := (-1)) (pc' := 43) dX6_leg_42 (by decide) rfl ?_
    exact ea_iret rfl dX6_leg_43 ⟨_, rfl, h⟩
  · replace h := h.2 hc
    refine ea_iload_n (pc' := 8) (i := 2) dX6_leg_7 rfl 2 rfl rfl ?_
    refine ea_iconst (v := 0) (pc' := 9) dX6_leg_8 (by decide) rfl ?_
    refine ea_aload_n (pc' := 10) (i := 0) dX6_leg_9 rfl 0 rfl rfl ?_
    refine ea_iload_n (pc' := 11) (i := 1) dX6_leg_10 rfl 1 rfl rfl ?_
    refine ea_iconst (v := 0) (pc' := 12) dX6_leg_11 (by decide) rfl ?_
    refine ea_cvi (As := [.int l1, .int 0]) (st := [.int 0, .int l2]) (d := d) (pc' := 15) mv_X6_of ml_X6_70 kok_30 hVl0 rfl rfl dX6_leg_12 rfl (Nat.le_of_ble_eq_true rfl) (ev_room (by decide)) ⟨Nat.le_refl _, Nat.le_refl _⟩ h rfl (fun r3 S4 h => ?_)
    refine ea_iconst (v := 1) (pc' := 16) dX6_leg_15 (by decide) rfl ?_
    refine ea_isub (pc' := 17) dX6_leg_16 rfl ?_
    refine ea_csi (As := [.int l2, .int 0, .int (r3 - 1)]) (st := []) (d := d) (pc' := 20) mv_X6_in ml_X6_62 rfl dX6_leg_17 rfl (Nat.le_of_ble_eq_true rfl) (ev_room (by decide)) ⟨Nat.le_refl _, Nat.le_refl _⟩ h rfl (fun r5 S6 h => ?_)
    refine ea_if_eq (tgt := 42) (pc' := 23) dX6_leg_20 (by decide) rfl (fun hc => ?_) (fun hc => ?_)
    · replace h := h.1 hc
      refine ea_iconst (v := (-1)) (pc' := 43) dX6_leg_42 (by decide) rfl ?_
      exact ea_iret rfl dX6_leg_43 ⟨_, rfl, h⟩
    · replace h := h.2 hc
      refine ea_iload_n (pc' := 24) (i := 3) dX6_leg_23 rfl 3 rfl rfl ?_
      refine ea_iconst (v := 0) (pc' := 25) dX6_leg_24 (by decide) rfl ?_
      refine ea_iconst (v := 3) (pc' := 26) dX6_leg_25 (by decide) rfl ?_
      refine ea_csi (As := [.int l3, .int 0, .int 3]) (st := []) (d := d) (pc' := 29) mv_X6_in ml_X6_62 rfl dX6_leg_26 rfl (Nat.le_of_ble_eq_true rfl) (ev_room (by decide)) ⟨Nat.le_refl _, Nat.le_refl _⟩ h rfl (fun r7 S8 h => ?_)
      refine ea_if_eq (tgt := 42) (pc' := 32) dX6_leg_29 (by decide) rfl (fun hc => ?_) (fun hc => ?_)
      · replace h := h.1 hc
        refine ea_iconst (v := (-1)) (pc' := 43) dX6_leg_42 (by decide) rfl ?_
        exact ea_iret rfl dX6_leg_43 ⟨_, rfl, h⟩
      · replace h := h.2 hc
        refine ea_aload_n (pc' := 33) (i := 0) dX6_leg_32 rfl 0 rfl rfl ?_
        refine ea_iload_n (pc' := 34) (i := 1) dX6_leg_33 rfl 1 rfl rfl ?_
        refine ea_iload_n (pc' := 35) (i := 2) dX6_leg_34 rfl 2 rfl rfl ?_
        refine ea_iload_n (pc' := 36) (i := 3) dX6_leg_35 rfl 3 rfl rfl ?_
        refine ea_cvi (As := [.int l1, .int l2, .int l3]) (st := []) (d := d) (pc' := 39) mv_X6_ofLeg ml_X6_135 kok_30 hVl0 rfl rfl dX6_leg_36 rfl (Nat.le_of_ble_eq_true rfl) (ev_room (by decide)) ⟨Nat.le_refl _, Nat.le_refl _⟩ h rfl (fun r9 S10 h => ?_)
        refine ea_goto (tgt := 43) dX6_leg_39 (by decide) ?_
        exact ea_iret rfl dX6_leg_43 ⟨_, rfl, h⟩
theorem vm_X6_leg {G : evG} {d : Nat} {q : Int32 → evS → Prop} {x0 : Nat} {l1 : Int32} {l2 : Int32} {l3 : Int32} {S : evS} (h : bk_X6_leg_0 G d (evQI q) x0 l1 l2 l3 S) : evSp G yX6_leg M_X6_leg (d + 1) [.ref (evad G 30 x0), .int l1, .int l2, .int l3] S (evQI q) :=
  evSp.of (by decide +kernel) rfl (Nat.le_of_ble_eq_true rfl) h
abbrev bk_X6_plan_0 (G : evG) (d : Nat) (Q : Option Value → evS → Prop) (x0 : Nat) (l1 : Int32) (l2 : Int32) (S : evS) : Prop := evAt G M_X6_plan (evFm G (d + 1) Q) 0 [(0, .ref (evad G 30 x0)), (1, .int l1), (2, .int l2)] [] S
set_option maxRecDepth 100000 in
set_option maxHeartbeats 4000000 in
theorem vb_X6_plan_0 {G : evG} {d : Nat} {q : Int32 → evS → Prop} (hCl : evCl G) {x0 : Nat} {l1 : Int32} {l2 : Int32} {S : evS} (hVl0 : (30, x0) ∈ evKs G)
    (h : (evSp G yX6_isShip M_X6_isShip d [.int l1] S (evQI fun r1 S2 => ((r1 = 0 → q (-1) S2) ∧ (¬ r1 = 0 → (evSp G yX6_in M_X6_in d [.int l2, .int 0, .int 1] S2 (evQI fun r3 S4 => ((¬ r3 = 0 → (evSp G yX6_plans M_X6_plans d [.ref (evad G 30 x0), .int l1] S4 (evQI fun r5 S6 => ((¬ r5 = 0 → ((¬ l2 = 0 → (evSp G yX6_costsAhead M_X6_costsAhead d [.ref (evad G 30 x0)] S6 (evQI fun r7 S8 => q r7 S8))) ∧ (l2 = 0 → (evSp G yX6_stretches M_X6_stretches d [.ref (evad G 30 x0)] S6 (evQI fun r9 S10 => q r9 S10))))) ∧ (r5 = 0 → q (-9) S6))))) ∧ (r3 = 0 → q (-1) S4))))))))) : bk_X6_plan_0 G d (evQI q) x0 l1 l2 S := by
  refine ea_iload_n (pc' := 1) (i := 1) dX6_plan_0 rfl 1 rfl rfl ?_
  refine ea_csi (As := [.int l1]) (st := []) (d := d) (pc' := 4) mv_X6_isShip ml_X6_115 rfl dX6_plan_1 rfl (Nat.le_of_ble_eq_true rfl) (ev_room (by decide)) ⟨Nat.le_refl _, Nat.le_refl _⟩ h rfl (fun r1 S2 h => ?_)
  refine ea_if_eq (tgt := 16) (pc' := 7) dX6_plan_4 (by decide) rfl (fun hc => ?_) (fun hc => ?_)
  · replace h := h.1 hc
    refine ea_iconst (v := (-1)) (pc' := 17) dX6_plan_16 (by decide) rfl ?_
    exact ea_iret rfl dX6_plan_17 ⟨_, rfl, h⟩
  · replace h := h.2 hc
    refine ea_iload_n (pc' := 8) (i := 2) dX6_plan_7 rfl 2 rfl rfl ?_
    refine ea_iconst (v := 0) (pc' := 9) dX6_plan_8 (by decide) rfl ?_
    refine ea_iconst (v := 1) (pc' := 10) dX6_plan_9 (by decide) rfl ?_
    refine ea_csi (As := [.int l2, .int 0, .int 1]) (st := []) (d := d) (pc' := 13) mv_X6_in ml_X6_62 rfl dX6_plan_10 rfl (Nat.le_of_ble_eq_true rfl) (ev_room (by decide)) ⟨Nat.le_refl _, Nat.le_refl _⟩ h rfl (fun r3 S4 h => ?_)
    refine ea_if_ne (tgt := 18) (pc' := 16) dX6_plan_13 (by decide) rfl (fun hc => ?_) (fun hc => ?_)
    · replace h := h.1 hc
      refine ea_aload_n (pc' := 19) (i := 0) dX6_plan_18 rfl 0 rfl rfl ?_
      refine ea_iload_n (pc' := 20) (i := 1) dX6_plan_19 rfl 1 rfl rfl ?_
      refine ea_cvi (As := [.int l1]) (st := []) (d := d) (pc' := 23) mv_X6_plans ml_X6_180 kok_30 hVl0 rfl rfl dX6_plan_20 rfl (Nat.le_of_ble_eq_true rfl) (ev_room (by decide)) ⟨Nat.le_refl _, Nat.le_refl _⟩ h rfl (fun r5 S6 h => ?_)
      refine ea_if_ne (tgt := 29) (pc' := 26) dX6_plan_23 (by decide) rfl (fun hc => ?_) (fun hc => ?_)
      · replace h := h.1 hc
        refine ea_iload_n (pc' := 30) (i := 2) dX6_plan_29 rfl 2 rfl rfl ?_
        refine ea_if_ne (tgt := 40) (pc' := 33) dX6_plan_30 (by decide) rfl (fun hc => ?_) (fun hc => ?_)
        · replace h := h.1 hc
          refine ea_aload_n (pc' := 41) (i := 0) dX6_plan_40 rfl 0 rfl rfl ?_
          refine ea_cvi (As := []) (st := []) (d := d) (pc' := 44) mv_X6_costsAhead ml_X6_196 kok_30 hVl0 rfl rfl dX6_plan_41 rfl (Nat.le_of_ble_eq_true rfl) (ev_room (by decide)) ⟨Nat.le_refl _, Nat.le_refl _⟩ h rfl (fun r7 S8 h => ?_)
          exact ea_iret rfl dX6_plan_44 ⟨_, rfl, h⟩
        · replace h := h.2 hc
          refine ea_aload_n (pc' := 34) (i := 0) dX6_plan_33 rfl 0 rfl rfl ?_
          refine ea_cvi (As := []) (st := []) (d := d) (pc' := 37) mv_X6_stretches ml_X6_193 kok_30 hVl0 rfl rfl dX6_plan_34 rfl (Nat.le_of_ble_eq_true rfl) (ev_room (by decide)) ⟨Nat.le_refl _, Nat.le_refl _⟩ h rfl (fun r9 S10 h => ?_)
          refine ea_goto (tgt := 44) dX6_plan_37 (by decide) ?_
          exact ea_iret rfl dX6_plan_44 ⟨_, rfl, h⟩
      · replace h := h.2 hc
        refine ea_bipush (v := (-9)) (pc' := 28) dX6_plan_26 (by decide) rfl ?_
        exact ea_iret rfl dX6_plan_28 ⟨_, rfl, h⟩
    · replace h := h.2 hc
      refine ea_iconst (v := (-1)) (pc' := 17) dX6_plan_16 (by decide) rfl ?_
      exact ea_iret rfl dX6_plan_17 ⟨_, rfl, h⟩
theorem vm_X6_plan {G : evG} {d : Nat} {q : Int32 → evS → Prop} {x0 : Nat} {l1 : Int32} {l2 : Int32} {S : evS} (h : bk_X6_plan_0 G d (evQI q) x0 l1 l2 S) : evSp G yX6_plan M_X6_plan (d + 1) [.ref (evad G 30 x0), .int l1, .int l2] S (evQI q) :=
  evSp.of (by decide +kernel) rfl (Nat.le_of_ble_eq_true rfl) h
abbrev bk_X6_stretches_0 (G : evG) (d : Nat) (Q : Option Value → evS → Prop) (x0 : Nat) (S : evS) : Prop := evAt G M_X6_stretches (evFm G d Q) 0 [(0, .ref (evad G 30 x0))] [] S
abbrev bk_X6_stretches_9 (G : evG) (d : Nat) (Q : Option Value → evS → Prop) (x0 : Nat) (l1 : Int32) (l2 : Int32) (S : evS) : Prop := evAt G M_X6_stretches (evFm G d Q) 9 [(0, .ref (evad G 30 x0)), (1, .int l1), (2, .int l2)] [] S
abbrev bk_X6_stretches_32 (G : evG) (d : Nat) (Q : Option Value → evS → Prop) (x0 : Nat) (l2 : Int32) (s0 : Int32) (s1 : Int32) (S : evS) : Prop := evAt G M_X6_stretches (evFm G d Q) 32 [(0, .ref (evad G 30 x0)), (2, .int l2)] [.int s1, .int s0] S
set_option maxRecDepth 100000 in
set_option maxHeartbeats 4000000 in
theorem vb_X6_stretches_0 {G : evG} {d : Nat} {q : Int32 → evS → Prop} (hCl : evCl G) {x0 : Nat} {S : evS} (hVl0 : (30, x0) ∈ evKs G)
    (h : (∀ v1 : Int32, v1 = ((S.1 30 x0 16) + 1) → bk_X6_stretches_9 G d (evQI q) x0 0 v1 S)) : bk_X6_stretches_0 G d (evQI q) x0 S := by
  refine ea_iconst (v := 0) (pc' := 1) dX6_stretches_0 (by decide) rfl ?_
  refine ea_istore_n (lv' := [(1, .int 0), (0, .ref (evad G 30 x0))]) (pc' := 2) dX6_stretches_1 rfl (by decide) rfl rfl ?_
  refine ea_aload_n (pc' := 3) (i := 0) dX6_stretches_2 rfl 1 rfl rfl ?_
  refine ea_geti (kf := 16) (pc' := 6) kok_30 hVl0 (by decide) rfl fl_X6_129 dX6_stretches_3 rfl ?_
  refine ea_iconst (v := 1) (pc' := 7) dX6_stretches_6 (by decide) rfl ?_
  refine ea_iadd (pc' := 8) dX6_stretches_7 rfl ?_
  refine ea_topi (fun v1 hv1 => ?_)
  replace h := h v1 hv1
  refine ea_istore_n (lv' := [(2, .int v1), (1, .int 0), (0, .ref (evad G 30 x0))]) (pc' := 9) dX6_stretches_8 rfl (by decide) rfl rfl ?_
  refine ea_loc [2, 1, 0] rfl ?_
  exact h
set_option maxRecDepth 100000 in
set_option maxHeartbeats 4000000 in
theorem vb_X6_stretches_9 {G : evG} {d : Nat} {q : Int32 → evS → Prop} (hCl : evCl G) {x0 : Nat} {l1 : Int32} {l2 : Int32} {S : evS} (hVl0 : (30, x0) ∈ evKs G)
    (h : (((S.1 30 x0 17) < l2 → q l1 S) ∧ (¬ (S.1 30 x0 17) < l2 → (vp_in l2 7 ∧ ((¬ (S.1 53 0 l2.toNatClampNeg) = 0 → bk_X6_stretches_32 G d (evQI q) x0 l2 l1 1 S) ∧ ((S.1 53 0 l2.toNatClampNeg) = 0 → bk_X6_stretches_32 G d (evQI q) x0 l2 l1 0 S)))))) : bk_X6_stretches_9 G d (evQI q) x0 l1 l2 S := by
  refine ea_iload_n (pc' := 10) (i := 2) dX6_stretches_9 rfl 2 rfl rfl ?_
  refine ea_aload_n (pc' := 11) (i := 0) dX6_stretches_10 rfl 0 rfl rfl ?_
  refine ea_geti (kf := 17) (pc' := 14) kok_30 hVl0 (by decide) rfl fl_X6_132 dX6_stretches_11 rfl ?_
  refine ea_icmp_gt (tgt := 40) (pc' := 17) dX6_stretches_14 (by decide) rfl (fun hc => ?_) (fun hc => ?_)
  · replace h := h.1 hc
    refine ea_iload_n (pc' := 41) (i := 1) dX6_stretches_40 rfl 1 rfl rfl ?_
    exact ea_iret rfl dX6_stretches_41 ⟨_, rfl, h⟩
  · replace h := h.2 hc
    refine ea_iload_n (pc' := 18) (i := 1) dX6_stretches_17 rfl 1 rfl rfl ?_
    refine ea_aload_n (pc' := 19) (i := 0) dX6_stretches_18 rfl 0 rfl rfl ?_
    refine ea_getr (k2 := 53) (x2 := 0) (kf := 22) (pc' := 22) kok_30 hVl0 (by decide) rfl fl_X6_44 rfl dX6_stretches_19 rfl ?_
    refine ea_iload_n (pc' := 23) (i := 2) dX6_stretches_22 rfl 2 rfl rfl ?_
    obtain ⟨o1, h⟩ := h
    refine ea_iald (j := l2.toNatClampNeg) (pc' := 24) (hCl.1 30 x0 22 53 hVl0 rfl) rfl o1 dX6_stretches_23 rfl rfl ?_
    refine ea_if_ne (tgt := 31) (pc' := 27) dX6_stretches_24 (by decide) rfl (fun hc => ?_) (fun hc => ?_)
    · replace h := h.1 hc
      refine ea_iconst (v := 1) (pc' := 32) dX6_stretches_31 (by decide) rfl ?_
      refine ea_loc [0, 2] rfl ?_
      exact h
    · replace h := h.2 hc
      refine ea_iconst (v := 0) (pc' := 28) dX6_stretches_27 (by decide) rfl ?_
      refine ea_goto (tgt := 32) dX6_stretches_28 (by decide) ?_
      refine ea_loc [0, 2] rfl ?_
      exact h
set_option maxRecDepth 100000 in
set_option maxHeartbeats 4000000 in
theorem vb_X6_stretches_32 {G : evG} {d : Nat} {q : Int32 → evS → Prop} (hCl : evCl G) {x0 : Nat} {l2 : Int32} {s0 : Int32} {s1 : Int32} {S : evS} (hVl0 : (30, x0) ∈ evKs G)
    (h : (∀ v1 : Int32, v1 = (s0 + s1) → (∀ v2 : Int32, v2 = (l2 + 1) → bk_X6_stretches_9 G d (evQI q) x0 v1 v2 S))) : bk_X6_stretches_32 G d (evQI q) x0 l2 s0 s1 S := by
  refine ea_iadd (pc' := 33) dX6_stretches_32 rfl ?_
  refine ea_topi (fun v1 hv1 => ?_)
  replace h := h v1 hv1
  refine ea_istore_n (lv' := [(1, .int v1), (0, .ref (evad G 30 x0)), (2, .int l2)]) (pc' := 34) dX6_stretches_33 rfl (by decide) rfl rfl ?_
  obtain ⟨v2, hv2⟩ : ∃ z : Int32, z = (l2 + 1) := ⟨_, rfl⟩
  replace h := h v2 hv2
  refine ea_iinc (q := 2) (v := v2) (lv' := [(2, .int v2), (1, .int v1), (0, .ref (evad G 30 x0))]) (pc' := 37) dX6_stretches_34 rfl (by rw [hv2]; rfl) (by decide) rfl rfl ?_
  refine ea_goto (tgt := 9) dX6_stretches_37 (by decide) ?_
  refine ea_loc [2, 1, 0] rfl ?_
  exact h
theorem vm_X6_stretches {G : evG} {d : Nat} {q : Int32 → evS → Prop} {x0 : Nat} {S : evS} (h : bk_X6_stretches_0 G d (evQI q) x0 S) : evSp G yX6_stretches M_X6_stretches d [.ref (evad G 30 x0)] S (evQI q) :=
  evSp.of (by decide +kernel) rfl (Nat.le_of_ble_eq_true rfl) h
abbrev bk_X6_costsAhead_0 (G : evG) (d : Nat) (Q : Option Value → evS → Prop) (x0 : Nat) (S : evS) : Prop := evAt G M_X6_costsAhead (evFm G (d + 1) Q) 0 [(0, .ref (evad G 30 x0))] [] S
abbrev bk_X6_costsAhead_7 (G : evG) (d : Nat) (Q : Option Value → evS → Prop) (x0 : Nat) (l1 : Int32) (l2 : Int32) (S : evS) : Prop := evAt G M_X6_costsAhead (evFm G (d + 1) Q) 7 [(0, .ref (evad G 30 x0)), (1, .int l1), (2, .int l2)] [] S
set_option maxRecDepth 100000 in
set_option maxHeartbeats 4000000 in
theorem vb_X6_costsAhead_0 {G : evG} {d : Nat} {q : Int32 → evS → Prop} (hCl : evCl G) {x0 : Nat} {S : evS} (hVl0 : (30, x0) ∈ evKs G)
    (h : (∀ v1 : Int32, v1 = (S.1 30 x0 16) → bk_X6_costsAhead_7 G d (evQI q) x0 0 v1 S)) : bk_X6_costsAhead_0 G d (evQI q) x0 S := by
  refine ea_iconst (v := 0) (pc' := 1) dX6_costsAhead_0 (by decide) rfl ?_
  refine ea_istore_n (lv' := [(1, .int 0), (0, .ref (evad G 30 x0))]) (pc' := 2) dX6_costsAhead_1 rfl (by decide) rfl rfl ?_
  refine ea_aload_n (pc' := 3) (i := 0) dX6_costsAhead_2 rfl 1 rfl rfl ?_
  refine ea_geti (kf := 16) (pc' := 6) kok_30 hVl0 (by decide) rfl fl_X6_129 dX6_costsAhead_3 rfl ?_
  refine ea_topi (fun v1 hv1 => ?_)
  replace h := h v1 hv1
  refine ea_istore_n (lv' := [(2, .int v1), (1, .int 0), (0, .ref (evad G 30 x0))]) (pc' := 7) dX6_costsAhead_6 rfl (by decide) rfl rfl ?_
  refine ea_loc [2, 1, 0] rfl ?_
  exact h
set_option maxRecDepth 100000 in
set_option maxHeartbeats 4000000 in
theorem vb_X6_costsAhead_7 {G : evG} {d : Nat} {q : Int32 → evS → Prop} (hCl : evCl G) {x0 : Nat} {l1 : Int32} {l2 : Int32} {S : evS} (hVl0 : (30, x0) ∈ evKs G)
    (h : (((S.1 30 x0 17) ≤ l2 → q l1 S) ∧ (¬ (S.1 30 x0 17) ≤ l2 → (evSp G yX6_costOf M_X6_costOf d [.ref (evad G 30 x0), .int l2] S (evQI fun r1 S2 => (∀ v3 : Int32, v3 = (l1 + r1) → (∀ v4 : Int32, v4 = (l2 + 1) → bk_X6_costsAhead_7 G d (evQI q) x0 v3 v4 S2))))))) : bk_X6_costsAhead_7 G d (evQI q) x0 l1 l2 S := by
  refine ea_iload_n (pc' := 8) (i := 2) dX6_costsAhead_7 rfl 2 rfl rfl ?_
  refine ea_aload_n (pc' := 9) (i := 0) dX6_costsAhead_8 rfl 0 rfl rfl ?_
  refine ea_geti (kf := 17) (pc' := 12) kok_30 hVl0 (by decide) rfl fl_X6_132 dX6_costsAhead_9 rfl ?_
  refine ea_icmp_ge (tgt := 29) (pc' := 15) dX6_costsAhead_12 (by decide) rfl (fun hc => ?_) (fun hc => ?_)
  · replace h := h.1 hc
    refine ea_iload_n (pc' := 30) (i := 1) dX6_costsAhead_29 rfl 1 rfl rfl ?_
    exact ea_iret rfl dX6_costsAhead_30 ⟨_, rfl, h⟩
  · replace h := h.2 hc
    refine ea_iload_n (pc' := 16) (i := 1) dX6_costsAhead_15 rfl 1 rfl rfl ?_
    refine ea_aload_n (pc' := 17) (i := 0) dX6_costsAhead_16 rfl 0 rfl rfl ?_
    refine ea_iload_n (pc' := 18) (i := 2) dX6_costsAhead_17 rfl 2 rfl rfl ?_
    refine ea_cvi (As := [.int l2]) (st := [.int l1]) (d := d) (pc' := 21) mv_X6_costOf ml_X6_177 kok_30 hVl0 rfl rfl dX6_costsAhead_18 rfl (Nat.le_of_ble_eq_true rfl) (ev_room (by decide)) ⟨Nat.le_refl _, Nat.le_refl _⟩ h rfl (fun r1 S2 h => ?_)
    refine ea_iadd (pc' := 22) dX6_costsAhead_21 rfl ?_
    refine ea_topi (fun v3 hv3 => ?_)
    replace h := h v3 hv3
    refine ea_istore_n (lv' := [(1, .int v3), (0, .ref (evad G 30 x0)), (2, .int l2)]) (pc' := 23) dX6_costsAhead_22 rfl (by decide) rfl rfl ?_
    obtain ⟨v4, hv4⟩ : ∃ z : Int32, z = (l2 + 1) := ⟨_, rfl⟩
    replace h := h v4 hv4
    refine ea_iinc (q := 2) (v := v4) (lv' := [(2, .int v4), (1, .int v3), (0, .ref (evad G 30 x0))]) (pc' := 26) dX6_costsAhead_23 rfl (by rw [hv4]; rfl) (by decide) rfl rfl ?_
    refine ea_goto (tgt := 7) dX6_costsAhead_26 (by decide) ?_
    refine ea_loc [2, 1, 0] rfl ?_
    exact h
theorem vm_X6_costsAhead {G : evG} {d : Nat} {q : Int32 → evS → Prop} {x0 : Nat} {S : evS} (h : bk_X6_costsAhead_0 G d (evQI q) x0 S) : evSp G yX6_costsAhead M_X6_costsAhead (d + 1) [.ref (evad G 30 x0)] S (evQI q) :=
  evSp.of (by decide +kernel) rfl (Nat.le_of_ble_eq_true rfl) h
