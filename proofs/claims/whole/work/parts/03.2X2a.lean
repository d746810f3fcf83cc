abbrev bk_X2_draw_0 (G : evG) (d : Nat) (Q : Option Value → evS → Prop) (x0 : Nat) (x1 : Nat) (S : evS) : Prop := evAt G M_X2_draw (evFm G (d + 1) Q) 0 [(0, .ref (evad G 6 x0)), (1, .ref (evad G 3 x1))] [] S
abbrev bk_X2_draw_50 (G : evG) (d : Nat) (Q : Option Value → evS → Prop) (x0 : Nat) (x1 : Nat) (l2 : Int32) (S : evS) : Prop := evAt G M_X2_draw (evFm G (d + 1) Q) 50 [(0, .ref (evad G 6 x0)), (1, .ref (evad G 3 x1)), (2, .int l2)] [] S
abbrev bk_X2_draw_122 (G : evG) (d : Nat) (Q : Option Value → evS → Prop) (x0 : Nat) (S : evS) : Prop := evAt G M_X2_draw (evFm G (d + 1) Q) 122 [(0, .ref (evad G 6 x0))] [] S
set_option maxRecDepth 100000 in
set_option maxHeartbeats 4000000 in
theorem vb_X2_draw_0 {G : evG} {d : Nat} {q : evS → Prop} (hCl : evCl G) {x0 : Nat} {x1 : Nat} {S : evS} (hVl0 : (6, x0) ∈ evKs G) (hVl1 : (3, x1) ∈ evKs G)
    (h : (evSp G yX3_trait M_X3_trait d [.ref (evad G 3 x1), .int 2] S (evQI fun r1 S2 => (evSp G yJ9_max_7cf53 M_J9_max_7cf53 d [.int r1, .int 0] S2 (evQI fun r3 S4 => (evSp G yJ9_min_7cf53 M_J9_min_7cf53 d [.int r3, .int 6] S4 (evQI fun r5 S6 => (∀ S7 : evS, S7 = evup S6 6 x0 0 r5 → (evSp G yX3_trait M_X3_trait d [.ref (evad G 3 x1), .int 0] S7 (evQI fun r8 S9 => (evSp G yJ9_max_7cf53 M_J9_max_7cf53 d [.int r8, .int (S9.1 6 x0 0)] S9 (evQI fun r10 S11 => (evSp G yJ9_min_7cf53 M_J9_min_7cf53 d [.int r10, .int 6] S11 (evQI fun r12 S13 => (∀ S14 : evS, S14 = evup S13 6 x0 1 r12 → (evSp G yX3_trait M_X3_trait d [.ref (evad G 3 x1), .int 1] S14 (evQI fun r15 S16 => (∀ S17 : evS, S17 = evup S16 6 x0 13 r15 → bk_X2_draw_50 G d (evQV q) x0 x1 0 S17)))))))))))))))))) : bk_X2_draw_0 G d (evQV q) x0 x1 S := by
  refine ea_aload_n (pc' := 1) (i := 0) dX2_draw_0 rfl 0 rfl rfl ?_
  refine ea_aload_n (pc' := 2) (i := 1) dX2_draw_1 rfl 1 rfl rfl ?_
  refine ea_iconst (v := 2) (pc' := 3) dX2_draw_2 (by decide) rfl ?_
  refine ea_cvi (As := [.int 2]) (st := [.ref (evad G 6 x0)]) (d := d) (pc' := 6) mv_X3_trait ml_X2_57 kok_3 hVl1 rfl rfl dX2_draw_3 rfl (Nat.le_of_ble_eq_true rfl) (ev_room (by decide)) ⟨Nat.le_refl _, Nat.le_refl _⟩ h rfl (fun r1 S2 h => ?_)
  refine ea_iconst (v := 0) (pc' := 7) dX2_draw_6 (by decide) rfl ?_
  refine ea_csi (As := [.int r1, .int 0]) (st := [.ref (evad G 6 x0)]) (d := d) (pc' := 10) mv_J9_max_7cf53 ml_X2_61 rfl dX2_draw_7 rfl (Nat.le_of_ble_eq_true rfl) (ev_room (by decide)) ⟨Nat.le_refl _, Nat.le_refl _⟩ h rfl (fun r3 S4 h => ?_)
  refine ea_bipush (v := 6) (pc' := 12) dX2_draw_10 (by decide) rfl ?_
  refine ea_csi (As := [.int r3, .int 6]) (st := [.ref (evad G 6 x0)]) (d := d) (pc' := 15) mv_J9_min_7cf53 ml_X2_67 rfl dX2_draw_12 rfl (Nat.le_of_ble_eq_true rfl) (ev_room (by decide)) ⟨Nat.le_refl _, Nat.le_refl _⟩ h rfl (fun r5 S6 h => ?_)
  refine ea_puti (kf := 0) (pc' := 18) kok_6 hVl0 (by decide) rfl fl_X2_11 rfl rfl dX2_draw_15 rfl ?_
  refine ea_tops (fun S7 hS7 => ?_)
  replace h := h S7 hS7
  refine ea_aload_n (pc' := 19) (i := 0) dX2_draw_18 rfl 0 rfl rfl ?_
  refine ea_aload_n (pc' := 20) (i := 1) dX2_draw_19 rfl 1 rfl rfl ?_
  refine ea_iconst (v := 0) (pc' := 21) dX2_draw_20 (by decide) rfl ?_
  refine ea_cvi (As := [.int 0]) (st := [.ref (evad G 6 x0)]) (d := d) (pc' := 24) mv_X3_trait ml_X2_57 kok_3 hVl1 rfl rfl dX2_draw_21 rfl (Nat.le_of_ble_eq_true rfl) (ev_room (by decide)) ⟨Nat.le_refl _, Nat.le_refl _⟩ h rfl (fun r8 S9 h => ?_)
  refine ea_aload_n (pc' := 25) (i := 0) dX2_draw_24 rfl 0 rfl rfl ?_
  refine ea_geti (kf := 0) (pc' := 28) kok_6 hVl0 (by decide) rfl fl_X2_11 dX2_draw_25 rfl ?_
  refine ea_csi (As := [.int r8, .int (S9.1 6 x0 0)]) (st := [.ref (evad G 6 x0)]) (d := d) (pc' := 31) mv_J9_max_7cf53 ml_X2_61 rfl dX2_draw_28 rfl (Nat.le_of_ble_eq_true rfl) (ev_room (by decide)) ⟨Nat.le_refl _, Nat.le_refl _⟩ h rfl (fun r10 S11 h => ?_)
  refine ea_bipush (v := 6) (pc' := 33) dX2_draw_31 (by decide) rfl ?_
  refine ea_csi (As := [.int r10, .int 6]) (st := [.ref (evad G 6 x0)]) (d := d) (pc' := 36) mv_J9_min_7cf53 ml_X2_67 rfl dX2_draw_33 rfl (Nat.le_of_ble_eq_true rfl) (ev_room (by decide)) ⟨Nat.le_refl _, Nat.le_refl _⟩ h rfl (fun r12 S13 h => ?_)
  refine ea_puti (kf := 1) (pc' := 39) kok_6 hVl0 (by decide) rfl fl_X2_17 rfl rfl dX2_draw_36 rfl ?_
  refine ea_tops (fun S14 hS14 => ?_)
  replace h := h S14 hS14
  refine ea_aload_n (pc' := 40) (i := 0) dX2_draw_39 rfl 0 rfl rfl ?_
  refine ea_aload_n (pc' := 41) (i := 1) dX2_draw_40 rfl 1 rfl rfl ?_
  refine ea_iconst (v := 1) (pc' := 42) dX2_draw_41 (by decide) rfl ?_
  refine ea_cvi (As := [.int 1]) (st := [.ref (evad G 6 x0)]) (d := d) (pc' := 45) mv_X3_trait ml_X2_57 kok_3 hVl1 rfl rfl dX2_draw_42 rfl (Nat.le_of_ble_eq_true rfl) (ev_room (by decide)) ⟨Nat.le_refl _, Nat.le_refl _⟩ h rfl (fun r15 S16 h => ?_)
  refine ea_puti (kf := 13) (pc' := 48) kok_6 hVl0 (by decide) rfl fl_X2_54 rfl rfl dX2_draw_45 rfl ?_
  refine ea_tops (fun S17 hS17 => ?_)
  replace h := h S17 hS17
  refine ea_iconst (v := 0) (pc' := 49) dX2_draw_48 (by decide) rfl ?_
  refine ea_istore_n (lv' := [(2, .int 0), (0, .ref (evad G 6 x0)), (1, .ref (evad G 3 x1))]) (pc' := 50) dX2_draw_49 rfl (by decide) rfl rfl ?_
  refine ea_loc [1, 2, 0] rfl ?_
  exact h
set_option maxRecDepth 100000 in
set_option maxHeartbeats 4000000 in
theorem vb_X2_draw_50 {G : evG} {d : Nat} {q : evS → Prop} (hCl : evCl G) {x0 : Nat} {x1 : Nat} {l2 : Int32} {S : evS} (hVl0 : (6, x0) ∈ evKs G) (hVl1 : (3, x1) ∈ evKs G)
    (h : ((4 ≤ l2 → (evSp G yX2_layPorts M_X2_layPorts d [.ref (evad G 6 x0), .ref (evad G 3 x1)] S (evQV fun S1 => (evSp G yX3_trait M_X3_trait d [.ref (evad G 3 x1), .int 3] S1 (evQI fun r2 S3 => (vp_in (S1.1 6 x0 0) 7 ∧ (∀ S5 : evS, S5 = evup S3 11 x0 ((S1.1 6 x0 0).toNatClampNeg) r2 → (((S5.1 6 x0 1) ≤ (S5.1 6 x0 0) → bk_X2_draw_122 G d (evQV q) x0 S5) ∧ (¬ (S5.1 6 x0 1) ≤ (S5.1 6 x0 0) → (vp_in (S5.1 6 x0 1) 7 ∧ (vp_in (S5.1 6 x0 1) 7 ∧ (∀ S8 : evS, S8 = evup S5 11 x0 ((S5.1 6 x0 1).toNatClampNeg) (S5.1 10 x0 ((S5.1 6 x0 1).toNatClampNeg)) → bk_X2_draw_122 G d (evQV q) x0 S8)))))))))))) ∧ (¬ 4 ≤ l2 → (evSp G yX3_trait M_X3_trait d [.ref (evad G 3 x1), .int (5 + l2)] S (evQI fun r9 S10 => (vp_in l2 4 ∧ (∀ S12 : evS, S12 = evup S10 15 x0 l2.toNatClampNeg r9 → (∀ v13 : Int32, v13 = (l2 + 1) → bk_X2_draw_50 G d (evQV q) x0 x1 v13 S12)))))))) : bk_X2_draw_50 G d (evQV q) x0 x1 l2 S := by
  refine ea_iload_n (pc' := 51) (i := 2) dX2_draw_50 rfl 2 rfl rfl ?_
  refine ea_iconst (v := 4) (pc' := 52) dX2_draw_51 (by decide) rfl ?_
  refine ea_icmp_ge (tgt := 74) (pc' := 55) dX2_draw_52 (by decide) rfl (fun hc => ?_) (fun hc => ?_)
  · replace h := h.1 hc
    refine ea_aload_n (pc' := 75) (i := 0) dX2_draw_74 rfl 0 rfl rfl ?_
    refine ea_aload_n (pc' := 76) (i := 1) dX2_draw_75 rfl 1 rfl rfl ?_
    refine ea_cvv (As := [.ref (evad G 3 x1)]) (st := []) (d := d) (pc' := 79) mv_X2_layPorts ml_X2_70 kok_6 hVl0 rfl rfl dX2_draw_76 rfl (Nat.le_of_ble_eq_true rfl) (ev_room (by decide)) ⟨Nat.le_refl _, Nat.le_refl _⟩ h rfl (fun S1 h => ?_)
    refine ea_aload_n (pc' := 80) (i := 0) dX2_draw_79 rfl 0 rfl rfl ?_
    refine ea_getr (k2 := 11) (x2 := x0) (kf := 6) (pc' := 83) kok_6 hVl0 (by decide) rfl fl_X2_33 rfl dX2_draw_80 rfl ?_
    refine ea_aload_n (pc' := 84) (i := 0) dX2_draw_83 rfl 0 rfl rfl ?_
    refine ea_geti (kf := 0) (pc' := 87) kok_6 hVl0 (by decide) rfl fl_X2_11 dX2_draw_84 rfl ?_
    refine ea_aload_n (pc' := 88) (i := 1) dX2_draw_87 rfl 1 rfl rfl ?_
    refine ea_iconst (v := 3) (pc' := 89) dX2_draw_88 (by decide) rfl ?_
    refine ea_cvi (As := [.int 3]) (st := [.int (S1.1 6 x0 0), .ref (evad G 11 x0)]) (d := d) (pc' := 92) mv_X3_trait ml_X2_57 kok_3 hVl1 rfl rfl dX2_draw_89 rfl (Nat.le_of_ble_eq_true rfl) (ev_room (by decide)) ⟨Nat.le_refl _, Nat.le_refl _⟩ h rfl (fun r2 S3 h => ?_)
    obtain ⟨o4, h⟩ := h
    refine ea_iast (j := (S1.1 6 x0 0).toNatClampNeg) (pc' := 93) (hCl.1 6 x0 6 11 hVl0 rfl) rfl o4 dX2_draw_92 rfl rfl ?_
    refine ea_tops (fun S5 hS5 => ?_)
    replace h := h S5 hS5
    refine ea_aload_n (pc' := 94) (i := 0) dX2_draw_93 rfl 0 rfl rfl ?_
    refine ea_geti (kf := 1) (pc' := 97) kok_6 hVl0 (by decide) rfl fl_X2_17 dX2_draw_94 rfl ?_
    refine ea_aload_n (pc' := 98) (i := 0) dX2_draw_97 rfl 0 rfl rfl ?_
    refine ea_geti (kf := 0) (pc' := 101) kok_6 hVl0 (by decide) rfl fl_X2_11 dX2_draw_98 rfl ?_
    refine ea_icmp_le (tgt := 122) (pc' := 104) dX2_draw_101 (by decide) rfl (fun hc => ?_) (fun hc => ?_)
    · replace h := h.1 hc
      refine ea_loc [0] rfl ?_
      exact h
    · replace h := h.2 hc
      refine ea_aload_n (pc' := 105) (i := 0) dX2_draw_104 rfl 0 rfl rfl ?_
      refine ea_getr (k2 := 11) (x2 := x0) (kf := 6) (pc' := 108) kok_6 hVl0 (by decide) rfl fl_X2_33 rfl dX2_draw_105 rfl ?_
      refine ea_aload_n (pc' := 109) (i := 0) dX2_draw_108 rfl 0 rfl rfl ?_
      refine ea_geti (kf := 1) (pc' := 112) kok_6 hVl0 (by decide) rfl fl_X2_17 dX2_draw_109 rfl ?_
      refine ea_aload_n (pc' := 113) (i := 0) dX2_draw_112 rfl 0 rfl rfl ?_
      refine ea_getr (k2 := 10) (x2 := x0) (kf := 5) (pc' := 116) kok_6 hVl0 (by decide) rfl fl_X2_30 rfl dX2_draw_113 rfl ?_
      refine ea_aload_n (pc' := 117) (i := 0) dX2_draw_116 rfl 0 rfl rfl ?_
      refine ea_geti (kf := 1) (pc' := 120) kok_6 hVl0 (by decide) rfl fl_X2_17 dX2_draw_117 rfl ?_
      obtain ⟨o6, h⟩ := h
      refine ea_iald (j := (S5.1 6 x0 1).toNatClampNeg) (pc' := 121) (hCl.1 6 x0 5 10 hVl0 rfl) rfl o6 dX2_draw_120 rfl rfl ?_
      obtain ⟨o7, h⟩ := h
      refine ea_iast (j := (S5.1 6 x0 1).toNatClampNeg) (pc' := 122) (hCl.1 6 x0 6 11 hVl0 rfl) rfl o7 dX2_draw_121 rfl rfl ?_
      refine ea_tops (fun S8 hS8 => ?_)
      replace h := h S8 hS8
      refine ea_loc [0] rfl ?_
      exact h
  · replace h := h.2 hc
    refine ea_aload_n (pc' := 56) (i := 0) dX2_draw_55 rfl 0 rfl rfl ?_
    refine ea_getr (k2 := 15) (x2 := x0) (kf := 10) (pc' := 59) kok_6 hVl0 (by decide) rfl fl_X2_45 rfl dX2_draw_56 rfl ?_
    refine ea_iload_n (pc' := 60) (i := 2) dX2_draw_59 rfl 2 rfl rfl ?_
    refine ea_aload_n (pc' := 61) (i := 1) dX2_draw_60 rfl 1 rfl rfl ?_
    refine ea_iconst (v := 5) (pc' := 62) dX2_draw_61 (by decide) rfl ?_
    refine ea_iload_n (pc' := 63) (i := 2) dX2_draw_62 rfl 2 rfl rfl ?_
    refine ea_iadd (pc' := 64) dX2_draw_63 rfl ?_
    refine ea_cvi (As := [.int (5 + l2)]) (st := [.int l2, .ref (evad G 15 x0)]) (d := d) (pc' := 67) mv_X3_trait ml_X2_57 kok_3 hVl1 rfl rfl dX2_draw_64 rfl (Nat.le_of_ble_eq_true rfl) (ev_room (by decide)) ⟨Nat.le_refl _, Nat.le_refl _⟩ h rfl (fun r9 S10 h => ?_)
    obtain ⟨o11, h⟩ := h
    refine ea_iast (j := l2.toNatClampNeg) (pc' := 68) (hCl.1 6 x0 10 15 hVl0 rfl) rfl o11 dX2_draw_67 rfl rfl ?_
    refine ea_tops (fun S12 hS12 => ?_)
    replace h := h S12 hS12
    obtain ⟨v13, hv13⟩ : ∃ z : Int32, z = (l2 + 1) := ⟨_, rfl⟩
    replace h := h v13 hv13
    refine ea_iinc (q := 2) (v := v13) (lv' := [(2, .int v13), (0, .ref (evad G 6 x0)), (1, .ref (evad G 3 x1))]) (pc' := 71) dX2_draw_68 rfl (by rw [hv13]; rfl) (by decide) rfl rfl ?_
    refine ea_goto (tgt := 50) dX2_draw_71 (by decide) ?_
    refine ea_loc [1, 2, 0] rfl ?_
    exact h
set_option maxRecDepth 100000 in
set_option maxHeartbeats 4000000 in
theorem vb_X2_draw_122 {G : evG} {d : Nat} {q : evS → Prop} (hCl : evCl G) {x0 : Nat} {S : evS} (hVl0 : (6, x0) ∈ evKs G)
    (h : (evSp G yX2_splitStretches M_X2_splitStretches d [.ref (evad G 6 x0)] S (evQV fun S1 => (evSp G yX2_measureStretches M_X2_measureStretches d [.ref (evad G 6 x0)] S1 (evQV fun S2 => q S2))))) : bk_X2_draw_122 G d (evQV q) x0 S := by
  refine ea_aload_n (pc' := 123) (i := 0) dX2_draw_122 rfl 0 rfl rfl ?_
  refine ea_cvv (As := []) (st := []) (d := d) (pc' := 126) mv_X2_splitStretches ml_X2_74 kok_6 hVl0 rfl rfl dX2_draw_123 rfl (Nat.le_of_ble_eq_true rfl) (ev_room (by decide)) ⟨Nat.le_refl _, Nat.le_refl _⟩ h rfl (fun S1 h => ?_)
  refine ea_aload_n (pc' := 127) (i := 0) dX2_draw_126 rfl 0 rfl rfl ?_
  refine ea_cvv (As := []) (st := []) (d := d) (pc' := 130) mv_X2_measureStretches ml_X2_77 kok_6 hVl0 rfl rfl dX2_draw_127 rfl (Nat.le_of_ble_eq_true rfl) (ev_room (by decide)) ⟨Nat.le_refl _, Nat.le_refl _⟩ h rfl (fun S2 h => ?_)
  exact ea_vret rfl dX2_draw_130 ⟨rfl, h⟩
theorem vm_X2_draw {G : evG} {d : Nat} {q : evS → Prop} {x0 : Nat} {x1 : Nat} {S : evS} (h : bk_X2_draw_0 G d (evQV q) x0 x1 S) : evSp G yX2_draw M_X2_draw (d + 1) [.ref (evad G 6 x0), .ref (evad G 3 x1)] S (evQV q) :=
  evSp.of (by decide +kernel) rfl (Nat.le_of_ble_eq_true rfl) h
abbrev bk_X2_layPorts_0 (G : evG) (d : Nat) (Q : Option Value → evS → Prop) (x0 : Nat) (x1 : Nat) (S : evS) : Prop := evAt G M_X2_layPorts (evFm G (d + 1) Q) 0 [(0, .ref (evad G 6 x0)), (1, .ref (evad G 3 x1))] [] S
abbrev bk_X2_layPorts_9 (G : evG) (d : Nat) (Q : Option Value → evS → Prop) (x0 : Nat) (x1 : Nat) (l2 : Int32) (S : evS) : Prop := evAt G M_X2_layPorts (evFm G (d + 1) Q) 9 [(0, .ref (evad G 6 x0)), (1, .ref (evad G 3 x1)), (2, .int l2)] [] S
abbrev bk_X2_layPorts_55 (G : evG) (d : Nat) (Q : Option Value → evS → Prop) (x0 : Nat) (x1 : Nat) (l2 : Int32) (l3 : Int32) (S : evS) : Prop := evAt G M_X2_layPorts (evFm G (d + 1) Q) 55 [(0, .ref (evad G 6 x0)), (1, .ref (evad G 3 x1)), (2, .int l2), (3, .int l3)] [] S
set_option maxRecDepth 100000 in
set_option maxHeartbeats 4000000 in
theorem vb_X2_layPorts_0 {G : evG} {d : Nat} {q : evS → Prop} (hCl : evCl G) {x0 : Nat} {x1 : Nat} {S : evS} (hVl0 : (6, x0) ∈ evKs G) (hVl1 : (3, x1) ∈ evKs G)
    (h : (∀ S1 : evS, S1 = evup S 7 x0 0 0 → bk_X2_layPorts_9 G d (evQV q) x0 x1 1 S1)) : bk_X2_layPorts_0 G d (evQV q) x0 x1 S := by
  refine ea_aload_n (pc' := 1) (i := 0) dX2_layPorts_0 rfl 0 rfl rfl ?_
  refine ea_getr (k2 := 7) (x2 := x0) (kf := 2) (pc' := 4) kok_6 hVl0 (by decide) rfl fl_X2_20 rfl dX2_layPorts_1 rfl ?_
  refine ea_iconst (v := 0) (pc' := 5) dX2_layPorts_4 (by decide) rfl ?_
  refine ea_iconst (v := 0) (pc' := 6) dX2_layPorts_5 (by decide) rfl ?_
  refine ea_iast (j := 0) (pc' := 7) (hCl.1 6 x0 2 7 hVl0 rfl) rfl (by unfold vp_in; decide) dX2_layPorts_6 (by decide) rfl ?_
  refine ea_tops (fun S1 hS1 => ?_)
  replace h := h S1 hS1
  refine ea_iconst (v := 1) (pc' := 8) dX2_layPorts_7 (by decide) rfl ?_
  refine ea_istore_n (lv' := [(2, .int 1), (0, .ref (evad G 6 x0)), (1, .ref (evad G 3 x1))]) (pc' := 9) dX2_layPorts_8 rfl (by decide) rfl rfl ?_
  refine ea_loc [1, 2, 0] rfl ?_
  exact h
set_option maxRecDepth 100000 in
set_option maxHeartbeats 4000000 in
theorem vb_X2_layPorts_9 {G : evG} {d : Nat} {q : evS → Prop} (hCl : evCl G) {x0 : Nat} {x1 : Nat} {l2 : Int32} {S : evS} (hVl0 : (6, x0) ∈ evKs G) (hVl1 : (3, x1) ∈ evKs G)
    (h : (((S.1 6 x0 1) < l2 → (∀ v1 : Int32, v1 = ((S.1 6 x0 0) + 1) → bk_X2_layPorts_55 G d (evQV q) x0 x1 0 v1 S)) ∧ (¬ (S.1 6 x0 1) < l2 → (vp_in (l2 - 1) 7 ∧ (evSp G yX3_ofLeg M_X3_ofLeg d [.ref (evad G 3 x1), .int (l2 - 1), .int 0] S (evQI fun r3 S4 => (vp_in l2 7 ∧ (∀ S6 : evS, S6 = evup S4 7 x0 l2.toNatClampNeg ((S.1 7 x0 ((l2 - 1).toNatClampNeg)) + r3) → (∀ v7 : Int32, v7 = (l2 + 1) → bk_X2_layPorts_9 G d (evQV q) x0 x1 v7 S6))))))))) : bk_X2_layPorts_9 G d (evQV q) x0 x1 l2 S := by
  refine ea_iload_n (pc' := 10) (i := 2) dX2_layPorts_9 rfl 2 rfl rfl ?_
  refine ea_aload_n (pc' := 11) (i := 0) dX2_layPorts_10 rfl 0 rfl rfl ?_
  refine ea_geti (kf := 1) (pc' := 14) kok_6 hVl0 (by decide) rfl fl_X2_17 dX2_layPorts_11 rfl ?_
  refine ea_icmp_gt (tgt := 46) (pc' := 17) dX2_layPorts_14 (by decide) rfl (fun hc => ?_) (fun hc => ?_)
  · replace h := h.1 hc
    refine ea_iconst (v := 0) (pc' := 47) dX2_layPorts_46 (by decide) rfl ?_
    refine ea_istore_n (lv' := [(2, .int 0), (0, .ref (evad G 6 x0)), (1, .ref (evad G 3 x1))]) (pc' := 48) dX2_layPorts_47 rfl (by decide) rfl rfl ?_
    refine ea_aload_n (pc' := 49) (i := 0) dX2_layPorts_48 rfl 1 rfl rfl ?_
    refine ea_geti (kf := 0) (pc' := 52) kok_6 hVl0 (by decide) rfl fl_X2_11 dX2_layPorts_49 rfl ?_
    refine ea_iconst (v := 1) (pc' := 53) dX2_layPorts_52 (by decide) rfl ?_
    refine ea_iadd (pc' := 54) dX2_layPorts_53 rfl ?_
    refine ea_topi (fun v1 hv1 => ?_)
    replace h := h v1 hv1
    refine ea_istore_n (lv' := [(3, .int v1), (2, .int 0), (0, .ref (evad G 6 x0)), (1, .ref (evad G 3 x1))]) (pc' := 55) dX2_layPorts_54 rfl (by decide) rfl rfl ?_
    refine ea_loc [2, 3, 1, 0] rfl ?_
    exact h
  · replace h := h.2 hc
    refine ea_aload_n (pc' := 18) (i := 0) dX2_layPorts_17 rfl 0 rfl rfl ?_
    refine ea_getr (k2 := 7) (x2 := x0) (kf := 2) (pc' := 21) kok_6 hVl0 (by decide) rfl fl_X2_20 rfl dX2_layPorts_18 rfl ?_
    refine ea_iload_n (pc' := 22) (i := 2) dX2_layPorts_21 rfl 2 rfl rfl ?_
    refine ea_aload_n (pc' := 23) (i := 0) dX2_layPorts_22 rfl 0 rfl rfl ?_
    refine ea_getr (k2 := 7) (x2 := x0) (kf := 2) (pc' := 26) kok_6 hVl0 (by decide) rfl fl_X2_20 rfl dX2_layPorts_23 rfl ?_
    refine ea_iload_n (pc' := 27) (i := 2) dX2_layPorts_26 rfl 2 rfl rfl ?_
    refine ea_iconst (v := 1) (pc' := 28) dX2_layPorts_27 (by decide) rfl ?_
    refine ea_isub (pc' := 29) dX2_layPorts_28 rfl ?_
    obtain ⟨o2, h⟩ := h
    refine ea_iald (j := (l2 - 1).toNatClampNeg) (pc' := 30) (hCl.1 6 x0 2 7 hVl0 rfl) rfl o2 dX2_layPorts_29 rfl rfl ?_
    refine ea_aload_n (pc' := 31) (i := 1) dX2_layPorts_30 rfl 1 rfl rfl ?_
    refine ea_iload_n (pc' := 32) (i := 2) dX2_layPorts_31 rfl 2 rfl rfl ?_
    refine ea_iconst (v := 1) (pc' := 33) dX2_layPorts_32 (by decide) rfl ?_
    refine ea_isub (pc' := 34) dX2_layPorts_33 rfl ?_
    refine ea_iconst (v := 0) (pc' := 35) dX2_layPorts_34 (by decide) rfl ?_
    refine ea_cvi (As := [.int (l2 - 1), .int 0]) (st := [.int (S.1 7 x0 ((l2 - 1).toNatClampNeg)), .int l2, .ref (evad G 7 x0)]) (d := d) (pc' := 38) mv_X3_ofLeg ml_X2_123 kok_3 hVl1 rfl rfl dX2_layPorts_35 rfl (Nat.le_of_ble_eq_true rfl) (ev_room (by decide)) ⟨Nat.le_refl _, Nat.le_refl _⟩ h rfl (fun r3 S4 h => ?_)
    refine ea_iadd (pc' := 39) dX2_layPorts_38 rfl ?_
    obtain ⟨o5, h⟩ := h
    refine ea_iast (j := l2.toNatClampNeg) (pc' := 40) (hCl.1 6 x0 2 7 hVl0 rfl) rfl o5 dX2_layPorts_39 rfl rfl ?_
    refine ea_tops (fun S6 hS6 => ?_)
    replace h := h S6 hS6
    obtain ⟨v7, hv7⟩ : ∃ z : Int32, z = (l2 + 1) := ⟨_, rfl⟩
    replace h := h v7 hv7
    refine ea_iinc (q := 2) (v := v7) (lv' := [(2, .int v7), (0, .ref (evad G 6 x0)), (1, .ref (evad G 3 x1))]) (pc' := 43) dX2_layPorts_40 rfl (by rw [hv7]; rfl) (by decide) rfl rfl ?_
    refine ea_goto (tgt := 9) dX2_layPorts_43 (by decide) ?_
    refine ea_loc [1, 2, 0] rfl ?_
    exact h
set_option maxRecDepth 100000 in
set_option maxHeartbeats 4000000 in
theorem vb_X2_layPorts_55 {G : evG} {d : Nat} {q : evS → Prop} (hCl : evCl G) {x0 : Nat} {x1 : Nat} {l2 : Int32} {l3 : Int32} {S : evS} (hVl0 : (6, x0) ∈ evKs G) (hVl1 : (3, x1) ∈ evKs G)
    (h : (((S.1 6 x0 1) < l3 → q S) ∧ (¬ (S.1 6 x0 1) < l3 → (vp_in l3 7 ∧ (∀ S2 : evS, S2 = evup S 8 x0 l3.toNatClampNeg l2 → (evSp G yX3_ofLeg M_X3_ofLeg d [.ref (evad G 3 x1), .int (l3 - 1), .int 2] S2 (evQI fun r3 S4 => (vp_in l3 7 ∧ (∀ S6 : evS, S6 = evup S4 9 x0 l3.toNatClampNeg (r3 - l2) → (evSp G yX3_ofLeg M_X3_ofLeg d [.ref (evad G 3 x1), .int (l3 - 1), .int 3] S6 (evQI fun r7 S8 => (vp_in l3 7 ∧ (∀ S10 : evS, S10 = evup S8 10 x0 l3.toNatClampNeg (r7 - l2) → (vp_in l3 7 ∧ (∀ S12 : evS, S12 = evup S10 12 x0 l3.toNatClampNeg 0 → (evSp G yX3_ofLeg M_X3_ofLeg d [.ref (evad G 3 x1), .int (l3 - 1), .int 1] S12 (evQI fun r13 S14 => (∀ v15 : Int32, v15 = (l2 + r13) → (∀ v16 : Int32, v16 = (l3 + 1) → bk_X2_layPorts_55 G d (evQV q) x0 x1 v15 v16 S14))))))))))))))))))) : bk_X2_layPorts_55 G d (evQV q) x0 x1 l2 l3 S := by
  refine ea_iload_n (pc' := 56) (i := 3) dX2_layPorts_55 rfl 3 rfl rfl ?_
  refine ea_aload_n (pc' := 57) (i := 0) dX2_layPorts_56 rfl 0 rfl rfl ?_
  refine ea_geti (kf := 1) (pc' := 60) kok_6 hVl0 (by decide) rfl fl_X2_17 dX2_layPorts_57 rfl ?_
  refine ea_icmp_gt (tgt := 126) (pc' := 63) dX2_layPorts_60 (by decide) rfl (fun hc => ?_) (fun hc => ?_)
  · replace h := h.1 hc
    exact ea_vret rfl dX2_layPorts_126 ⟨rfl, h⟩
  · replace h := h.2 hc
    refine ea_aload_n (pc' := 64) (i := 0) dX2_layPorts_63 rfl 0 rfl rfl ?_
    refine ea_getr (k2 := 8) (x2 := x0) (kf := 3) (pc' := 67) kok_6 hVl0 (by decide) rfl fl_X2_24 rfl dX2_layPorts_64 rfl ?_
    refine ea_iload_n (pc' := 68) (i := 3) dX2_layPorts_67 rfl 3 rfl rfl ?_
    refine ea_iload_n (pc' := 69) (i := 2) dX2_layPorts_68 rfl 2 rfl rfl ?_
    obtain ⟨o1, h⟩ := h
    refine ea_iast (j := l3.toNatClampNeg) (pc' := 70) (hCl.1 6 x0 3 8 hVl0 rfl) rfl o1 dX2_layPorts_69 rfl rfl ?_
    refine ea_tops (fun S2 hS2 => ?_)
    replace h := h S2 hS2
    refine ea_aload_n (pc' := 71) (i := 0) dX2_layPorts_70 rfl 0 rfl rfl ?_
    refine ea_getr (k2 := 9) (x2 := x0) (kf := 4) (pc' := 74) kok_6 hVl0 (by decide) rfl fl_X2_27 rfl dX2_layPorts_71 rfl ?_
    refine ea_iload_n (pc' := 75) (i := 3) dX2_layPorts_74 rfl 3 rfl rfl ?_
    refine ea_aload_n (pc' := 76) (i := 1) dX2_layPorts_75 rfl 1 rfl rfl ?_
    refine ea_iload_n (pc' := 77) (i := 3) dX2_layPorts_76 rfl 3 rfl rfl ?_
    refine ea_iconst (v := 1) (pc' := 78) dX2_layPorts_77 (by decide) rfl ?_
    refine ea_isub (pc' := 79) dX2_layPorts_78 rfl ?_
    refine ea_iconst (v := 2) (pc' := 80) dX2_layPorts_79 (by decide) rfl ?_
    refine ea_cvi (As := [.int (l3 - 1), .int 2]) (st := [.int l3, .ref (evad G 9 x0)]) (d := d) (pc' := 83) mv_X3_ofLeg ml_X2_123 kok_3 hVl1 rfl rfl dX2_layPorts_80 rfl (Nat.le_of_ble_eq_true rfl) (ev_room (by decide)) ⟨Nat.le_refl _, Nat.le_refl _⟩ h rfl (fun r3 S4 h => ?_)
    refine ea_iload_n (pc' := 84) (i := 2) dX2_layPorts_83 rfl 2 rfl rfl ?_
    refine ea_isub (pc' := 85) dX2_layPorts_84 rfl ?_
    obtain ⟨o5, h⟩ := h
    refine ea_iast (j := l3.toNatClampNeg) (pc' := 86) (hCl.1 6 x0 4 9 hVl0 rfl) rfl o5 dX2_layPorts_85 rfl rfl ?_
    refine ea_tops (fun S6 hS6 => ?_)
    replace h := h S6 hS6
    refine ea_aload_n (pc' := 87) (i := 0) dX2_layPorts_86 rfl 0 rfl rfl ?_
    refine ea_getr (k2 := 10) (x2 := x0) (kf := 5) (pc' := 90) kok_6 hVl0 (by decide) rfl fl_X2_30 rfl dX2_layPorts_87 rfl ?_
    refine ea_iload_n (pc' := 91) (i := 3) dX2_layPorts_90 rfl 3 rfl rfl ?_
    refine ea_aload_n (pc' := 92) (i := 1) dX2_layPorts_91 rfl 1 rfl rfl ?_
    refine ea_iload_n (pc' := 93) (i := 3) dX2_layPorts_92 rfl 3 rfl rfl ?_
    refine ea_iconst (v := 1) (pc' := 94) dX2_layPorts_93 (by decide) rfl ?_
    refine ea_isub (pc' := 95) dX2_layPorts_94 rfl ?_
    refine ea_iconst (v := 3) (pc' := 96) dX2_layPorts_95 (by decide) rfl ?_
    refine ea_cvi (As := [.int (l3 - 1), .int 3]) (st := [.int l3, .ref (evad G 10 x0)]) (d := d) (pc' := 99) mv_X3_ofLeg ml_X2_123 kok_3 hVl1 rfl rfl dX2_layPorts_96 rfl (Nat.le_of_ble_eq_true rfl) (ev_room (by decide)) ⟨Nat.le_refl _, Nat.le_refl _⟩ h rfl (fun r7 S8 h => ?_)
    refine ea_iload_n (pc' := 100) (i := 2) dX2_layPorts_99 rfl 2 rfl rfl ?_
    refine ea_isub (pc' := 101) dX2_layPorts_100 rfl ?_
    obtain ⟨o9, h⟩ := h
    refine ea_iast (j := l3.toNatClampNeg) (pc' := 102) (hCl.1 6 x0 5 10 hVl0 rfl) rfl o9 dX2_layPorts_101 rfl rfl ?_
    refine ea_tops (fun S10 hS10 => ?_)
    replace h := h S10 hS10
    refine ea_aload_n (pc' := 103) (i := 0) dX2_layPorts_102 rfl 0 rfl rfl ?_
    refine ea_getr (k2 := 12) (x2 := x0) (kf := 7) (pc' := 106) kok_6 hVl0 (by decide) rfl fl_X2_36 rfl dX2_layPorts_103 rfl ?_
    refine ea_iload_n (pc' := 107) (i := 3) dX2_layPorts_106 rfl 3 rfl rfl ?_
    refine ea_iconst (v := 0) (pc' := 108) dX2_layPorts_107 (by decide) rfl ?_
    obtain ⟨o11, h⟩ := h
    refine ea_iast (j := l3.toNatClampNeg) (pc' := 109) (hCl.1 6 x0 7 12 hVl0 rfl) rfl o11 dX2_layPorts_108 rfl rfl ?_
    refine ea_tops (fun S12 hS12 => ?_)
    replace h := h S12 hS12
    refine ea_iload_n (pc' := 110) (i := 2) dX2_layPorts_109 rfl 2 rfl rfl ?_
    refine ea_aload_n (pc' := 111) (i := 1) dX2_layPorts_110 rfl 1 rfl rfl ?_
    refine ea_iload_n (pc' := 112) (i := 3) dX2_layPorts_111 rfl 3 rfl rfl ?_
    refine ea_iconst (v := 1) (pc' := 113) dX2_layPorts_112 (by decide) rfl ?_
    refine ea_isub (pc' := 114) dX2_layPorts_113 rfl ?_
    refine ea_iconst (v := 1) (pc' := 115) dX2_layPorts_114 (by decide) rfl ?_
    refine ea_cvi (As := [.int (l3 - 1), .int 1]) (st := [.int l2]) (d := d) (pc' := 118) mv_X3_ofLeg ml_X2_123 kok_3 hVl1 rfl rfl dX2_layPorts_115 rfl (Nat.le_of_ble_eq_true rfl) (ev_room (by decide)) ⟨Nat.le_refl _, Nat.le_refl _⟩ h rfl (fun r13 S14 h => ?_)
    refine ea_iadd (pc' := 119) dX2_layPorts_118 rfl ?_
    refine ea_topi (fun v15 hv15 => ?_)
    replace h := h v15 hv15
    refine ea_istore_n (lv' := [(2, .int v15), (0, .ref (evad G 6 x0)), (1, .ref (evad G 3 x1)), (3, .int l3)]) (pc' := 120) dX2_layPorts_119 rfl (by decide) rfl rfl ?_
    obtain ⟨v16, hv16⟩ : ∃ z : Int32, z = (l3 + 1) := ⟨_, rfl⟩
    replace h := h v16 hv16
    refine ea_iinc (q := 3) (v := v16) (lv' := [(3, .int v16), (2, .int v15), (0, .ref (evad G 6 x0)), (1, .ref (evad G 3 x1))]) (pc' := 123) dX2_layPorts_120 rfl (by rw [hv16]; rfl) (by decide) rfl rfl ?_
    refine ea_goto (tgt := 55) dX2_layPorts_123 (by decide) ?_
    refine ea_loc [2, 3, 1, 0] rfl ?_
    exact h
theorem vm_X2_layPorts {G : evG} {d : Nat} {q : evS → Prop} {x0 : Nat} {x1 : Nat} {S : evS} (h : bk_X2_layPorts_0 G d (evQV q) x0 x1 S) : evSp G yX2_layPorts M_X2_layPorts (d + 1) [.ref (evad G 6 x0), .ref (evad G 3 x1)] S (evQV q) :=
  evSp.of (by decide +kernel) rfl (Nat.le_of_ble_eq_true rfl) h
abbrev bk_X2_splitStretches_0 (G : evG) (d : Nat) (Q : Option Value → evS → Prop) (x0 : Nat) (S : evS) : Prop := evAt G M_X2_splitStretches (evFm G (d + 1) Q) 0 [(0, .ref (evad G 6 x0))] [] S
abbrev bk_X2_splitStretches_7 (G : evG) (d : Nat) (Q : Option Value → evS → Prop) (x0 : Nat) (l1 : Int32) (l2 : Int32) (S : evS) : Prop := evAt G M_X2_splitStretches (evFm G (d + 1) Q) 7 [(0, .ref (evad G 6 x0)), (1, .int l1), (2, .int l2)] [] S
abbrev bk_X2_splitStretches_104 (G : evG) (d : Nat) (Q : Option Value → evS → Prop) (x0 : Nat) (l1 : Int32) (l2 : Int32) (S : evS) : Prop := evAt G M_X2_splitStretches (evFm G (d + 1) Q) 104 [(0, .ref (evad G 6 x0)), (1, .int l1), (2, .int l2)] [] S
set_option maxRecDepth 100000 in
set_option maxHeartbeats 4000000 in
theorem vb_X2_splitStretches_0 {G : evG} {d : Nat} {q : evS → Prop} (hCl : evCl G) {x0 : Nat} {S : evS} (hVl0 : (6, x0) ∈ evKs G)
    (h : (∀ v1 : Int32, v1 = (S.1 6 x0 0) → bk_X2_splitStretches_7 G d (evQV q) x0 v1 0 S)) : bk_X2_splitStretches_0 G d (evQV q) x0 S := by
  refine ea_aload_n (pc' := 1) (i := 0) dX2_splitStretches_0 rfl 0 rfl rfl ?_
  refine ea_geti (kf := 0) (pc' := 4) kok_6 hVl0 (by decide) rfl fl_X2_11 dX2_splitStretches_1 rfl ?_
  refine ea_topi (fun v1 hv1 => ?_)
  replace h := h v1 hv1
  refine ea_istore_n (lv' := [(1, .int v1), (0, .ref (evad G 6 x0))]) (pc' := 5) dX2_splitStretches_4 rfl (by decide) rfl rfl ?_
  refine ea_iconst (v := 0) (pc' := 6) dX2_splitStretches_5 (by decide) rfl ?_
  refine ea_istore_n (lv' := [(2, .int 0), (1, .int v1), (0, .ref (evad G 6 x0))]) (pc' := 7) dX2_splitStretches_6 rfl (by decide) rfl rfl ?_
  refine ea_loc [2, 1, 0] rfl ?_
  exact h
set_option maxRecDepth 100000 in
set_option maxHeartbeats 4000000 in
theorem vb_X2_splitStretches_7 {G : evG} {d : Nat} {q : evS → Prop} (hCl : evCl G) {x0 : Nat} {l1 : Int32} {l2 : Int32} {S : evS} (hVl0 : (6, x0) ∈ evKs G)
    (h : ((14 ≤ l2 → q S) ∧ (¬ 14 ≤ l2 → (((S.1 6 x0 1) ≤ l1 → q S) ∧ (¬ (S.1 6 x0 1) ≤ l1 → (evSp G yX2_nextEnd M_X2_nextEnd d [.ref (evad G 6 x0), .int l1] S (evQI fun r1 S2 => (evSp G yX2_mostMissed M_X2_mostMissed d [.ref (evad G 6 x0), .int l1, .int r1] S2 (evQI fun r3 S4 => ((¬ r3 = l1 → (evSp G yX2_missAt M_X2_missAt d [.ref (evad G 6 x0), .int l1, .int r1, .int r3] S4 (evQI fun r5 S6 => ((0 ≤ r5 → (vp_in r3 7 ∧ (vp_in r3 7 ∧ (∀ S9 : evS, S9 = evup S6 11 x0 r3.toNatClampNeg (S6.1 10 x0 r3.toNatClampNeg) → (vp_in r3 7 ∧ (∀ S11 : evS, S11 = evup S9 12 x0 r3.toNatClampNeg 2 → bk_X2_splitStretches_104 G d (evQV q) x0 l1 l2 S11)))))) ∧ (¬ 0 ≤ r5 → (vp_in r3 7 ∧ (vp_in r3 7 ∧ (∀ S14 : evS, S14 = evup S6 11 x0 r3.toNatClampNeg (S6.1 9 x0 r3.toNatClampNeg) → (vp_in r3 7 ∧ (∀ S16 : evS, S16 = evup S14 12 x0 r3.toNatClampNeg 1 → bk_X2_splitStretches_104 G d (evQV q) x0 l1 l2 S16)))))))))) ∧ (r3 = l1 → bk_X2_splitStretches_104 G d (evQV q) x0 r1 l2 S4))))))))))) : bk_X2_splitStretches_7 G d (evQV q) x0 l1 l2 S := by
  refine ea_iload_n (pc' := 8) (i := 2) dX2_splitStretches_7 rfl 2 rfl rfl ?_
  refine ea_bipush (v := 14) (pc' := 10) dX2_splitStretches_8 (by decide) rfl ?_
  refine ea_icmp_ge (tgt := 110) (pc' := 13) dX2_splitStretches_10 (by decide) rfl (fun hc => ?_) (fun hc => ?_)
  · replace h := h.1 hc
    exact ea_vret rfl dX2_splitStretches_110 ⟨rfl, h⟩
  · replace h := h.2 hc
    refine ea_iload_n (pc' := 14) (i := 1) dX2_splitStretches_13 rfl 1 rfl rfl ?_
    refine ea_aload_n (pc' := 15) (i := 0) dX2_splitStretches_14 rfl 0 rfl rfl ?_
    refine ea_geti (kf := 1) (pc' := 18) kok_6 hVl0 (by decide) rfl fl_X2_17 dX2_splitStretches_15 rfl ?_
    refine ea_icmp_ge (tgt := 110) (pc' := 21) dX2_splitStretches_18 (by decide) rfl (fun hc => ?_) (fun hc => ?_)
    · replace h := h.1 hc
      exact ea_vret rfl dX2_splitStretches_110 ⟨rfl, h⟩
    · replace h := h.2 hc
      refine ea_aload_n (pc' := 22) (i := 0) dX2_splitStretches_21 rfl 0 rfl rfl ?_
      refine ea_iload_n (pc' := 23) (i := 1) dX2_splitStretches_22 rfl 1 rfl rfl ?_
      refine ea_cvi (As := [.int l1]) (st := []) (d := d) (pc' := 26) mv_X2_nextEnd ml_X2_126 kok_6 hVl0 rfl rfl dX2_splitStretches_23 rfl (Nat.le_of_ble_eq_true rfl) (ev_room (by decide)) ⟨Nat.le_refl _, Nat.le_refl _⟩ h rfl (fun r1 S2 h => ?_)
      refine ea_istore_n (lv' := [(3, .int r1), (0, .ref (evad G 6 x0)), (1, .int l1), (2, .int l2)]) (pc' := 27) dX2_splitStretches_26 rfl (by decide) rfl rfl ?_
      refine ea_aload_n (pc' := 28) (i := 0) dX2_splitStretches_27 rfl 1 rfl rfl ?_
      refine ea_iload_n (pc' := 29) (i := 1) dX2_splitStretches_28 rfl 2 rfl rfl ?_
      refine ea_iload_n (pc' := 30) (i := 3) dX2_splitStretches_29 rfl 0 rfl rfl ?_
      refine ea_cvi (As := [.int l1, .int r1]) (st := []) (d := d) (pc' := 33) mv_X2_mostMissed ml_X2_129 kok_6 hVl0 rfl rfl dX2_splitStretches_30 rfl (Nat.le_of_ble_eq_true rfl) (ev_room (by decide)) ⟨Nat.le_refl _, Nat.le_refl _⟩ h rfl (fun r3 S4 h => ?_)
      refine ea_istore (lv' := [(4, .int r3), (3, .int r1), (0, .ref (evad G 6 x0)), (1, .int l1), (2, .int l2)]) (pc' := 35) dX2_splitStretches_33 (by decide) rfl rfl ?_
      refine ea_iload (pc' := 37) dX2_splitStretches_35 0 rfl rfl ?_
      refine ea_iload_n (pc' := 38) (i := 1) dX2_splitStretches_37 rfl 3 rfl rfl ?_
      refine ea_icmp_ne (tgt := 46) (pc' := 41) dX2_splitStretches_38 (by decide) rfl (fun hc => ?_) (fun hc => ?_)
      · replace h := h.1 hc
        refine ea_aload_n (pc' := 47) (i := 0) dX2_splitStretches_46 rfl 2 rfl rfl ?_
        refine ea_iload_n (pc' := 48) (i := 1) dX2_splitStretches_47 rfl 3 rfl rfl ?_
        refine ea_iload_n (pc' := 49) (i := 3) dX2_splitStretches_48 rfl 1 rfl rfl ?_
        refine ea_iload (pc' := 51) dX2_splitStretches_49 0 rfl rfl ?_
        refine ea_cvi (As := [.int l1, .int r1, .int r3]) (st := []) (d := d) (pc' := 54) mv_X2_missAt ml_X2_132 kok_6 hVl0 rfl rfl dX2_splitStretches_51 rfl (Nat.le_of_ble_eq_true rfl) (ev_room (by decide)) ⟨Nat.le_refl _, Nat.le_refl _⟩ h rfl (fun r5 S6 h => ?_)
        refine ea_if_ge (tgt := 82) (pc' := 57) dX2_splitStretches_54 (by decide) rfl (fun hc => ?_) (fun hc => ?_)
        · replace h := h.1 hc
          refine ea_aload_n (pc' := 83) (i := 0) dX2_splitStretches_82 rfl 2 rfl rfl ?_
          refine ea_getr (k2 := 11) (x2 := x0) (kf := 6) (pc' := 86) kok_6 hVl0 (by decide) rfl fl_X2_33 rfl dX2_splitStretches_83 rfl ?_
          refine ea_iload (pc' := 88) dX2_splitStretches_86 0 rfl rfl ?_
          refine ea_aload_n (pc' := 89) (i := 0) dX2_splitStretches_88 rfl 2 rfl rfl ?_
          refine ea_getr (k2 := 10) (x2 := x0) (kf := 5) (pc' := 92) kok_6 hVl0 (by decide) rfl fl_X2_30 rfl dX2_splitStretches_89 rfl ?_
          refine ea_iload (pc' := 94) dX2_splitStretches_92 0 rfl rfl ?_
          obtain ⟨o7, h⟩ := h
          refine ea_iald (j := r3.toNatClampNeg) (pc' := 95) (hCl.1 6 x0 5 10 hVl0 rfl) rfl o7 dX2_splitStretches_94 rfl rfl ?_
          obtain ⟨o8, h⟩ := h
          refine ea_iast (j := r3.toNatClampNeg) (pc' := 96) (hCl.1 6 x0 6 11 hVl0 rfl) rfl o8 dX2_splitStretches_95 rfl rfl ?_
          refine ea_tops (fun S9 hS9 => ?_)
          replace h := h S9 hS9
          refine ea_aload_n (pc' := 97) (i := 0) dX2_splitStretches_96 rfl 2 rfl rfl ?_
          refine ea_getr (k2 := 12) (x2 := x0) (kf := 7) (pc' := 100) kok_6 hVl0 (by decide) rfl fl_X2_36 rfl dX2_splitStretches_97 rfl ?_
          refine ea_iload (pc' := 102) dX2_splitStretches_100 0 rfl rfl ?_
          refine ea_iconst (v := 2) (pc' := 103) dX2_splitStretches_102 (by decide) rfl ?_
          obtain ⟨o10, h⟩ := h
          refine ea_iast (j := r3.toNatClampNeg) (pc' := 104) (hCl.1 6 x0 7 12 hVl0 rfl) rfl o10 dX2_splitStretches_103 rfl rfl ?_
          refine ea_tops (fun S11 hS11 => ?_)
          replace h := h S11 hS11
          refine ea_loc [2, 3, 4] rfl ?_
          exact h
        · replace h := h.2 hc
          refine ea_aload_n (pc' := 58) (i := 0) dX2_splitStretches_57 rfl 2 rfl rfl ?_
          refine ea_getr (k2 := 11) (x2 := x0) (kf := 6) (pc' := 61) kok_6 hVl0 (by decide) rfl fl_X2_33 rfl dX2_splitStretches_58 rfl ?_
          refine ea_iload (pc' := 63) dX2_splitStretches_61 0 rfl rfl ?_
          refine ea_aload_n (pc' := 64) (i := 0) dX2_splitStretches_63 rfl 2 rfl rfl ?_
          refine ea_getr (k2 := 9) (x2 := x0) (kf := 4) (pc' := 67) kok_6 hVl0 (by decide) rfl fl_X2_27 rfl dX2_splitStretches_64 rfl ?_
          refine ea_iload (pc' := 69) dX2_splitStretches_67 0 rfl rfl ?_
          obtain ⟨o12, h⟩ := h
          refine ea_iald (j := r3.toNatClampNeg) (pc' := 70) (hCl.1 6 x0 4 9 hVl0 rfl) rfl o12 dX2_splitStretches_69 rfl rfl ?_
          obtain ⟨o13, h⟩ := h
          refine ea_iast (j := r3.toNatClampNeg) (pc' := 71) (hCl.1 6 x0 6 11 hVl0 rfl) rfl o13 dX2_splitStretches_70 rfl rfl ?_
          refine ea_tops (fun S14 hS14 => ?_)
          replace h := h S14 hS14
          refine ea_aload_n (pc' := 72) (i := 0) dX2_splitStretches_71 rfl 2 rfl rfl ?_
          refine ea_getr (k2 := 12) (x2 := x0) (kf := 7) (pc' := 75) kok_6 hVl0 (by decide) rfl fl_X2_36 rfl dX2_splitStretches_72 rfl ?_
          refine ea_iload (pc' := 77) dX2_splitStretches_75 0 rfl rfl ?_
          refine ea_iconst (v := 1) (pc' := 78) dX2_splitStretches_77 (by decide) rfl ?_
          obtain ⟨o15, h⟩ := h
          refine ea_iast (j := r3.toNatClampNeg) (pc' := 79) (hCl.1 6 x0 7 12 hVl0 rfl) rfl o15 dX2_splitStretches_78 rfl rfl ?_
          refine ea_tops (fun S16 hS16 => ?_)
          replace h := h S16 hS16
          refine ea_goto (tgt := 104) dX2_splitStretches_79 (by decide) ?_
          refine ea_loc [2, 3, 4] rfl ?_
          exact h
      · replace h := h.2 hc
        refine ea_iload_n (pc' := 42) (i := 3) dX2_splitStretches_41 rfl 1 rfl rfl ?_
        refine ea_istore_n (lv' := [(1, .int r1), (4, .int r3), (3, .int r1), (0, .ref (evad G 6 x0)), (2, .int l2)]) (pc' := 43) dX2_splitStretches_42 rfl (by decide) rfl rfl ?_
        refine ea_goto (tgt := 104) dX2_splitStretches_43 (by decide) ?_
        refine ea_loc [3, 0, 4] rfl ?_
        exact h
set_option maxRecDepth 100000 in
set_option maxHeartbeats 4000000 in
theorem vb_X2_splitStretches_104 {G : evG} {d : Nat} {q : evS → Prop} (hCl : evCl G) {x0 : Nat} {l1 : Int32} {l2 : Int32} {S : evS} (hVl0 : (6, x0) ∈ evKs G)
    (h : (∀ v1 : Int32, v1 = (l2 + 1) → bk_X2_splitStretches_7 G d (evQV q) x0 l1 v1 S)) : bk_X2_splitStretches_104 G d (evQV q) x0 l1 l2 S := by
  obtain ⟨v1, hv1⟩ : ∃ z : Int32, z = (l2 + 1) := ⟨_, rfl⟩
  replace h := h v1 hv1
  refine ea_iinc (q := 2) (v := v1) (lv' := [(2, .int v1), (0, .ref (evad G 6 x0)), (1, .int l1)]) (pc' := 107) dX2_splitStretches_104 rfl (by rw [hv1]; rfl) (by decide) rfl rfl ?_
  refine ea_goto (tgt := 7) dX2_splitStretches_107 (by decide) ?_
  refine ea_loc [1, 2, 0] rfl ?_
  exact h
theorem vm_X2_splitStretches {G : evG} {d : Nat} {q : evS → Prop} {x0 : Nat} {S : evS} (h : bk_X2_splitStretches_0 G d (evQV q) x0 S) : evSp G yX2_splitStretches M_X2_splitStretches (d + 1) [.ref (evad G 6 x0)] S (evQV q) :=
  evSp.of (by decide +kernel) rfl (Nat.le_of_ble_eq_true rfl) h
abbrev bk_X2_nextEnd_0 (G : evG) (d : Nat) (Q : Option Value → evS → Prop) (x0 : Nat) (l1 : Int32) (S : evS) : Prop := evAt G M_X2_nextEnd (evFm G d Q) 0 [(0, .ref (evad G 6 x0)), (1, .int l1)] [] S
abbrev bk_X2_nextEnd_4 (G : evG) (d : Nat) (Q : Option Value → evS → Prop) (x0 : Nat) (l2 : Int32) (S : evS) : Prop := evAt G M_X2_nextEnd (evFm G d Q) 4 [(0, .ref (evad G 6 x0)), (2, .int l2)] [] S
set_option maxRecDepth 100000 in
set_option maxHeartbeats 4000000 in
theorem vb_X2_nextEnd_0 {G : evG} {d : Nat} {q : Int32 → evS → Prop} (hCl : evCl G) {x0 : Nat} {l1 : Int32} {S : evS} (hVl0 : (6, x0) ∈ evKs G)
    (h : (∀ v1 : Int32, v1 = (l1 + 1) → bk_X2_nextEnd_4 G d (evQI q) x0 v1 S)) : bk_X2_nextEnd_0 G d (evQI q) x0 l1 S := by
  refine ea_iload_n (pc' := 1) (i := 1) dX2_nextEnd_0 rfl 1 rfl rfl ?_
  refine ea_iconst (v := 1) (pc' := 2) dX2_nextEnd_1 (by decide) rfl ?_
  refine ea_iadd (pc' := 3) dX2_nextEnd_2 rfl ?_
  refine ea_topi (fun v1 hv1 => ?_)
  replace h := h v1 hv1
  refine ea_istore_n (lv' := [(2, .int v1), (0, .ref (evad G 6 x0)), (1, .int l1)]) (pc' := 4) dX2_nextEnd_3 rfl (by decide) rfl rfl ?_
  refine ea_loc [1, 0] rfl ?_
  exact h
set_option maxRecDepth 100000 in
set_option maxHeartbeats 4000000 in
theorem vb_X2_nextEnd_4 {G : evG} {d : Nat} {q : Int32 → evS → Prop} (hCl : evCl G) {x0 : Nat} {l2 : Int32} {S : evS} (hVl0 : (6, x0) ∈ evKs G)
    (h : (((S.1 6 x0 1) ≤ l2 → q (S.1 6 x0 1) S) ∧ (¬ (S.1 6 x0 1) ≤ l2 → (vp_in l2 7 ∧ (((S.1 12 x0 l2.toNatClampNeg) = 0 → (∀ v2 : Int32, v2 = (l2 + 1) → bk_X2_nextEnd_4 G d (evQI q) x0 v2 S)) ∧ (¬ (S.1 12 x0 l2.toNatClampNeg) = 0 → q l2 S)))))) : bk_X2_nextEnd_4 G d (evQI q) x0 l2 S := by
  refine ea_iload_n (pc' := 5) (i := 2) dX2_nextEnd_4 rfl 1 rfl rfl ?_
  refine ea_aload_n (pc' := 6) (i := 0) dX2_nextEnd_5 rfl 0 rfl rfl ?_
  refine ea_geti (kf := 1) (pc' := 9) kok_6 hVl0 (by decide) rfl fl_X2_17 dX2_nextEnd_6 rfl ?_
  refine ea_icmp_ge (tgt := 29) (pc' := 12) dX2_nextEnd_9 (by decide) rfl (fun hc => ?_) (fun hc => ?_)
  · replace h := h.1 hc
    refine ea_aload_n (pc' := 30) (i := 0) dX2_nextEnd_29 rfl 0 rfl rfl ?_
    refine ea_geti (kf := 1) (pc' := 33) kok_6 hVl0 (by decide) rfl fl_X2_17 dX2_nextEnd_30 rfl ?_
    exact ea_iret rfl dX2_nextEnd_33 ⟨_, rfl, h⟩
  · replace h := h.2 hc
    refine ea_aload_n (pc' := 13) (i := 0) dX2_nextEnd_12 rfl 0 rfl rfl ?_
    refine ea_getr (k2 := 12) (x2 := x0) (kf := 7) (pc' := 16) kok_6 hVl0 (by decide) rfl fl_X2_36 rfl dX2_nextEnd_13 rfl ?_
    refine ea_iload_n (pc' := 17) (i := 2) dX2_nextEnd_16 rfl 1 rfl rfl ?_
    obtain ⟨o1, h⟩ := h
    refine ea_iald (j := l2.toNatClampNeg) (pc' := 18) (hCl.1 6 x0 7 12 hVl0 rfl) rfl o1 dX2_nextEnd_17 rfl rfl ?_
    refine ea_if_eq (tgt := 23) (pc' := 21) dX2_nextEnd_18 (by decide) rfl (fun hc => ?_) (fun hc => ?_)
    · replace h := h.1 hc
      obtain ⟨v2, hv2⟩ : ∃ z : Int32, z = (l2 + 1) := ⟨_, rfl⟩
      replace h := h v2 hv2
      refine ea_iinc (q := 1) (v := v2) (lv' := [(2, .int v2), (0, .ref (evad G 6 x0))]) (pc' := 26) dX2_nextEnd_23 rfl (by rw [hv2]; rfl) (by decide) rfl rfl ?_
      refine ea_goto (tgt := 4) dX2_nextEnd_26 (by decide) ?_
      refine ea_loc [1, 0] rfl ?_
      exact h
    · replace h := h.2 hc
      refine ea_iload_n (pc' := 22) (i := 2) dX2_nextEnd_21 rfl 1 rfl rfl ?_
      exact ea_iret rfl dX2_nextEnd_22 ⟨_, rfl, h⟩
theorem vm_X2_nextEnd {G : evG} {d : Nat} {q : Int32 → evS → Prop} {x0 : Nat} {l1 : Int32} {S : evS} (h : bk_X2_nextEnd_0 G d (evQI q) x0 l1 S) : evSp G yX2_nextEnd M_X2_nextEnd d [.ref (evad G 6 x0), .int l1] S (evQI q) :=
  evSp.of (by decide +kernel) rfl (Nat.le_of_ble_eq_true rfl) h
abbrev bk_X2_mostMissed_0 (G : evG) (d : Nat) (Q : Option Value → evS → Prop) (x0 : Nat) (l1 : Int32) (l2 : Int32) (S : evS) : Prop := evAt G M_X2_mostMissed (evFm G (d + 1) Q) 0 [(0, .ref (evad G 6 x0)), (1, .int l1), (2, .int l2)] [] S
abbrev bk_X2_mostMissed_10 (G : evG) (d : Nat) (Q : Option Value → evS → Prop) (x0 : Nat) (l1 : Int32) (l2 : Int32) (l3 : Int32) (l4 : Int32) (l5 : Int32) (S : evS) : Prop := evAt G M_X2_mostMissed (evFm G (d + 1) Q) 10 [(0, .ref (evad G 6 x0)), (1, .int l1), (2, .int l2), (3, .int l3), (4, .int l4), (5, .int l5)] [] S
abbrev bk_X2_mostMissed_43 (G : evG) (d : Nat) (Q : Option Value → evS → Prop) (x0 : Nat) (l1 : Int32) (l2 : Int32) (l3 : Int32) (l4 : Int32) (l5 : Int32) (S : evS) : Prop := evAt G M_X2_mostMissed (evFm G (d + 1) Q) 43 [(0, .ref (evad G 6 x0)), (1, .int l1), (2, .int l2), (3, .int l3), (4, .int l4), (5, .int l5)] [] S
set_option maxRecDepth 100000 in
set_option maxHeartbeats 4000000 in
theorem vb_X2_mostMissed_0 {G : evG} {d : Nat} {q : Int32 → evS → Prop} (hCl : evCl G) {x0 : Nat} {l1 : Int32} {l2 : Int32} {S : evS} (hVl0 : (6, x0) ∈ evKs G)
    (h : (∀ v1 : Int32, v1 = (l1 + 1) → bk_X2_mostMissed_10 G d (evQI q) x0 l1 l2 l1 0 v1 S)) : bk_X2_mostMissed_0 G d (evQI q) x0 l1 l2 S := by
  refine ea_iload_n (pc' := 1) (i := 1) dX2_mostMissed_0 rfl 1 rfl rfl ?_
  refine ea_istore_n (lv' := [(3, .int l1), (0, .ref (evad G 6 x0)), (1, .int l1), (2, .int l2)]) (pc' := 2) dX2_mostMissed_1 rfl (by decide) rfl rfl ?_
  refine ea_iconst (v := 0) (pc' := 3) dX2_mostMissed_2 (by decide) rfl ?_
  refine ea_istore (lv' := [(4, .int 0), (3, .int l1), (0, .ref (evad G 6 x0)), (1, .int l1), (2, .int l2)]) (pc' := 5) dX2_mostMissed_3 (by decide) rfl rfl ?_
  refine ea_iload_n (pc' := 6) (i := 1) dX2_mostMissed_5 rfl 3 rfl rfl ?_
  refine ea_iconst (v := 1) (pc' := 7) dX2_mostMissed_6 (by decide) rfl ?_
  refine ea_iadd (pc' := 8) dX2_mostMissed_7 rfl ?_
  refine ea_topi (fun v1 hv1 => ?_)
  replace h := h v1 hv1
  refine ea_istore (lv' := [(5, .int v1), (4, .int 0), (3, .int l1), (0, .ref (evad G 6 x0)), (1, .int l1), (2, .int l2)]) (pc' := 10) dX2_mostMissed_8 (by decide) rfl rfl ?_
  refine ea_loc [3, 4, 5, 2, 1, 0] rfl ?_
  exact h
set_option maxRecDepth 100000 in
set_option maxHeartbeats 4000000 in
theorem vb_X2_mostMissed_10 {G : evG} {d : Nat} {q : Int32 → evS → Prop} (hCl : evCl G) {x0 : Nat} {l1 : Int32} {l2 : Int32} {l3 : Int32} {l4 : Int32} {l5 : Int32} {S : evS} (hVl0 : (6, x0) ∈ evKs G)
    (h : ((l2 ≤ l5 → q l3 S) ∧ (¬ l2 ≤ l5 → (evSp G yX2_missAt M_X2_missAt d [.ref (evad G 6 x0), .int l1, .int l2, .int l5] S (evQI fun r1 S2 => (evSp G yJ9_abs_0f7a4 M_J9_abs_0f7a4 d [.int r1] S2 (evQI fun r3 S4 => ((r3 ≤ l4 → bk_X2_mostMissed_43 G d (evQI q) x0 l1 l2 l3 l4 l5 S4) ∧ (¬ r3 ≤ l4 → bk_X2_mostMissed_43 G d (evQI q) x0 l1 l2 l5 r3 l5 S4))))))))) : bk_X2_mostMissed_10 G d (evQI q) x0 l1 l2 l3 l4 l5 S := by
  refine ea_iload (pc' := 12) dX2_mostMissed_10 5 rfl rfl ?_
  refine ea_iload_n (pc' := 13) (i := 2) dX2_mostMissed_12 rfl 2 rfl rfl ?_
  refine ea_icmp_ge (tgt := 49) (pc' := 16) dX2_mostMissed_13 (by decide) rfl (fun hc => ?_) (fun hc => ?_)
  · replace h := h.1 hc
    refine ea_iload_n (pc' := 50) (i := 3) dX2_mostMissed_49 rfl 3 rfl rfl ?_
    exact ea_iret rfl dX2_mostMissed_50 ⟨_, rfl, h⟩
  · replace h := h.2 hc
    refine ea_aload_n (pc' := 17) (i := 0) dX2_mostMissed_16 rfl 0 rfl rfl ?_
    refine ea_iload_n (pc' := 18) (i := 1) dX2_mostMissed_17 rfl 1 rfl rfl ?_
    refine ea_iload_n (pc' := 19) (i := 2) dX2_mostMissed_18 rfl 2 rfl rfl ?_
    refine ea_iload (pc' := 21) dX2_mostMissed_19 5 rfl rfl ?_
    refine ea_cvi (As := [.int l1, .int l2, .int l5]) (st := []) (d := d) (pc' := 24) mv_X2_missAt ml_X2_132 kok_6 hVl0 rfl rfl dX2_mostMissed_21 rfl (Nat.le_of_ble_eq_true rfl) (ev_room (by decide)) ⟨Nat.le_refl _, Nat.le_refl _⟩ h rfl (fun r1 S2 h => ?_)
    refine ea_csi (As := [.int r1]) (st := []) (d := d) (pc' := 27) mv_J9_abs_0f7a4 ml_X2_135 rfl dX2_mostMissed_24 rfl (Nat.le_of_ble_eq_true rfl) (ev_room (by decide)) ⟨Nat.le_refl _, Nat.le_refl _⟩ h rfl (fun r3 S4 h => ?_)
    refine ea_istore (lv' := [(6, .int r3), (0, .ref (evad G 6 x0)), (1, .int l1), (2, .int l2), (3, .int l3), (4, .int l4), (5, .int l5)]) (pc' := 29) dX2_mostMissed_27 (by decide) rfl rfl ?_
    refine ea_iload (pc' := 31) dX2_mostMissed_29 0 rfl rfl ?_
    refine ea_iload (pc' := 33) dX2_mostMissed_31 5 rfl rfl ?_
    refine ea_icmp_le (tgt := 43) (pc' := 36) dX2_mostMissed_33 (by decide) rfl (fun hc => ?_) (fun hc => ?_)
    · replace h := h.1 hc
      refine ea_loc [1, 2, 3, 4, 5, 6] rfl ?_
      exact h
    · replace h := h.2 hc
      refine ea_iload (pc' := 38) dX2_mostMissed_36 0 rfl rfl ?_
      refine ea_istore (lv' := [(4, .int r3), (6, .int r3), (0, .ref (evad G 6 x0)), (1, .int l1), (2, .int l2), (3, .int l3), (5, .int l5)]) (pc' := 40) dX2_mostMissed_38 (by decide) rfl rfl ?_
      refine ea_iload (pc' := 42) dX2_mostMissed_40 6 rfl rfl ?_
      refine ea_istore_n (lv' := [(3, .int l5), (4, .int r3), (6, .int r3), (0, .ref (evad G 6 x0)), (1, .int l1), (2, .int l2), (5, .int l5)]) (pc' := 43) dX2_mostMissed_42 rfl (by decide) rfl rfl ?_
      refine ea_loc [3, 4, 5, 0, 1, 6] rfl ?_
      exact h
set_option maxRecDepth 100000 in
set_option maxHeartbeats 4000000 in
theorem vb_X2_mostMissed_43 {G : evG} {d : Nat} {q : Int32 → evS → Prop} (hCl : evCl G) {x0 : Nat} {l1 : Int32} {l2 : Int32} {l3 : Int32} {l4 : Int32} {l5 : Int32} {S : evS} (hVl0 : (6, x0) ∈ evKs G)
    (h : (∀ v1 : Int32, v1 = (l5 + 1) → bk_X2_mostMissed_10 G d (evQI q) x0 l1 l2 l3 l4 v1 S)) : bk_X2_mostMissed_43 G d (evQI q) x0 l1 l2 l3 l4 l5 S := by
  obtain ⟨v1, hv1⟩ : ∃ z : Int32, z = (l5 + 1) := ⟨_, rfl⟩
  replace h := h v1 hv1
  refine ea_iinc (q := 5) (v := v1) (lv' := [(5, .int v1), (0, .ref (evad G 6 x0)), (1, .int l1), (2, .int l2), (3, .int l3), (4, .int l4)]) (pc' := 46) dX2_mostMissed_43 rfl (by rw [hv1]; rfl) (by decide) rfl rfl ?_
  refine ea_goto (tgt := 10) dX2_mostMissed_46 (by decide) ?_
  refine ea_loc [1, 2, 3, 4, 5, 0] rfl ?_
  exact h
theorem vm_X2_mostMissed {G : evG} {d : Nat} {q : Int32 → evS → Prop} {x0 : Nat} {l1 : Int32} {l2 : Int32} {S : evS} (h : bk_X2_mostMissed_0 G d (evQI q) x0 l1 l2 S) : evSp G yX2_mostMissed M_X2_mostMissed (d + 1) [.ref (evad G 6 x0), .int l1, .int l2] S (evQI q) :=
  evSp.of (by decide +kernel) rfl (Nat.le_of_ble_eq_true rfl) h
abbrev bk_X2_missAt_0 (G : evG) (d : Nat) (Q : Option Value → evS → Prop) (x0 : Nat) (l1 : Int32) (l2 : Int32) (l3 : Int32) (S : evS) : Prop := evAt G M_X2_missAt (evFm G (d + 1) Q) 0 [(0, .ref (evad G 6 x0)), (1, .int l1), (2, .int l2), (3, .int l3)] [] S
set_option maxRecDepth 100000 in
set_option maxHeartbeats 4000000 in
theorem vb_X2_missAt_0 {G : evG} {d : Nat} {q : Int32 → evS → Prop} (hCl : evCl G) {x0 : Nat} {l1 : Int32} {l2 : Int32} {l3 : Int32} {S : evS} (hVl0 : (6, x0) ∈ evKs G)
    (h : (vp_in l2 7 ∧ (vp_in l1 7 ∧ (∀ v3 : Int32, v3 = ((S.1 7 x0 l2.toNatClampNeg) - (S.1 7 x0 l1.toNatClampNeg)) → (evSp G yX2_evenHour M_X2_evenHour d [.ref (evad G 6 x0), .int l1, .int l2, .int l3] S (evQI fun r4 S5 => (vp_in l3 7 ∧ ((((S5.1 9 x0 l3.toNatClampNeg) * v3) ≤ r4 → (vp_in l3 7 ∧ (evSp G yJ9_max_7cf53 M_J9_max_7cf53 d [.int 0, .int (r4 - ((S5.1 10 x0 l3.toNatClampNeg) * v3))] S5 (evQI fun r8 S9 => q r8 S9)))) ∧ (¬ ((S5.1 9 x0 l3.toNatClampNeg) * v3) ≤ r4 → (vp_in l3 7 ∧ q (r4 - ((S5.1 9 x0 l3.toNatClampNeg) * v3)) S5)))))))))) : bk_X2_missAt_0 G d (evQI q) x0 l1 l2 l3 S := by
  refine ea_aload_n (pc' := 1) (i := 0) dX2_missAt_0 rfl 0 rfl rfl ?_
  refine ea_getr (k2 := 7) (x2 := x0) (kf := 2) (pc' := 4) kok_6 hVl0 (by decide) rfl fl_X2_20 rfl dX2_missAt_1 rfl ?_
  refine ea_iload_n (pc' := 5) (i := 2) dX2_missAt_4 rfl 2 rfl rfl ?_
  obtain ⟨o1, h⟩ := h
  refine ea_iald (j := l2.toNatClampNeg) (pc' := 6) (hCl.1 6 x0 2 7 hVl0 rfl) rfl o1 dX2_missAt_5 rfl rfl ?_
  refine ea_aload_n (pc' := 7) (i := 0) dX2_missAt_6 rfl 0 rfl rfl ?_
  refine ea_getr (k2 := 7) (x2 := x0) (kf := 2) (pc' := 10) kok_6 hVl0 (by decide) rfl fl_X2_20 rfl dX2_missAt_7 rfl ?_
  refine ea_iload_n (pc' := 11) (i := 1) dX2_missAt_10 rfl 1 rfl rfl ?_
  obtain ⟨o2, h⟩ := h
  refine ea_iald (j := l1.toNatClampNeg) (pc' := 12) (hCl.1 6 x0 2 7 hVl0 rfl) rfl o2 dX2_missAt_11 rfl rfl ?_
  refine ea_isub (pc' := 13) dX2_missAt_12 rfl ?_
  refine ea_topi (fun v3 hv3 => ?_)
  replace h := h v3 hv3
  refine ea_istore (lv' := [(4, .int v3), (0, .ref (evad G 6 x0)), (1, .int l1), (2, .int l2), (3, .int l3)]) (pc' := 15) dX2_missAt_13 (by decide) rfl rfl ?_
  refine ea_aload_n (pc' := 16) (i := 0) dX2_missAt_15 rfl 1 rfl rfl ?_
  refine ea_iload_n (pc' := 17) (i := 1) dX2_missAt_16 rfl 2 rfl rfl ?_
  refine ea_iload_n (pc' := 18) (i := 2) dX2_missAt_17 rfl 3 rfl rfl ?_
  refine ea_iload_n (pc' := 19) (i := 3) dX2_missAt_18 rfl 4 rfl rfl ?_
  refine ea_cvi (As := [.int l1, .int l2, .int l3]) (st := []) (d := d) (pc' := 22) mv_X2_evenHour ml_X2_84 kok_6 hVl0 rfl rfl dX2_missAt_19 rfl (Nat.le_of_ble_eq_true rfl) (ev_room (by decide)) ⟨Nat.le_refl _, Nat.le_refl _⟩ h rfl (fun r4 S5 h => ?_)
  refine ea_istore (lv' := [(5, .int r4), (4, .int v3), (0, .ref (evad G 6 x0)), (1, .int l1), (2, .int l2), (3, .int l3)]) (pc' := 24) dX2_missAt_22 (by decide) rfl rfl ?_
  refine ea_iload (pc' := 26) dX2_missAt_24 0 rfl rfl ?_
  refine ea_aload_n (pc' := 27) (i := 0) dX2_missAt_26 rfl 2 rfl rfl ?_
  refine ea_getr (k2 := 9) (x2 := x0) (kf := 4) (pc' := 30) kok_6 hVl0 (by decide) rfl fl_X2_27 rfl dX2_missAt_27 rfl ?_
  refine ea_iload_n (pc' := 31) (i := 3) dX2_missAt_30 rfl 5 rfl rfl ?_
  obtain ⟨o6, h⟩ := h
  refine ea_iald (j := l3.toNatClampNeg) (pc' := 32) (hCl.1 6 x0 4 9 hVl0 rfl) rfl o6 dX2_missAt_31 rfl rfl ?_
  refine ea_iload (pc' := 34) dX2_missAt_32 1 rfl rfl ?_
  refine ea_imul (pc' := 35) dX2_missAt_34 rfl ?_
  refine ea_icmp_ge (tgt := 51) (pc' := 38) dX2_missAt_35 (by decide) rfl (fun hc => ?_) (fun hc => ?_)
  · replace h := h.1 hc
    refine ea_iconst (v := 0) (pc' := 52) dX2_missAt_51 (by decide) rfl ?_
    refine ea_iload (pc' := 54) dX2_missAt_52 0 rfl rfl ?_
    refine ea_aload_n (pc' := 55) (i := 0) dX2_missAt_54 rfl 2 rfl rfl ?_
    refine ea_getr (k2 := 10) (x2 := x0) (kf := 5) (pc' := 58) kok_6 hVl0 (by decide) rfl fl_X2_30 rfl dX2_missAt_55 rfl ?_
    refine ea_iload_n (pc' := 59) (i := 3) dX2_missAt_58 rfl 5 rfl rfl ?_
    obtain ⟨o7, h⟩ := h
    refine ea_iald (j := l3.toNatClampNeg) (pc' := 60) (hCl.1 6 x0 5 10 hVl0 rfl) rfl o7 dX2_missAt_59 rfl rfl ?_
    refine ea_iload (pc' := 62) dX2_missAt_60 1 rfl rfl ?_
    refine ea_imul (pc' := 63) dX2_missAt_62 rfl ?_
    refine ea_isub (pc' := 64) dX2_missAt_63 rfl ?_
    refine ea_csi (As := [.int 0, .int (r4 - ((S5.1 10 x0 l3.toNatClampNeg) * v3))]) (st := []) (d := d) (pc' := 67) mv_J9_max_7cf53 ml_X2_61 rfl dX2_missAt_64 rfl (Nat.le_of_ble_eq_true rfl) (ev_room (by decide)) ⟨Nat.le_refl _, Nat.le_refl _⟩ h rfl (fun r8 S9 h => ?_)
    exact ea_iret rfl dX2_missAt_67 ⟨_, rfl, h⟩
  · replace h := h.2 hc
    refine ea_iload (pc' := 40) dX2_missAt_38 0 rfl rfl ?_
    refine ea_aload_n (pc' := 41) (i := 0) dX2_missAt_40 rfl 2 rfl rfl ?_
    refine ea_getr (k2 := 9) (x2 := x0) (kf := 4) (pc' := 44) kok_6 hVl0 (by decide) rfl fl_X2_27 rfl dX2_missAt_41 rfl ?_
    refine ea_iload_n (pc' := 45) (i := 3) dX2_missAt_44 rfl 5 rfl rfl ?_
    obtain ⟨o10, h⟩ := h
    refine ea_iald (j := l3.toNatClampNeg) (pc' := 46) (hCl.1 6 x0 4 9 hVl0 rfl) rfl o10 dX2_missAt_45 rfl rfl ?_
    refine ea_iload (pc' := 48) dX2_missAt_46 1 rfl rfl ?_
    refine ea_imul (pc' := 49) dX2_missAt_48 rfl ?_
    refine ea_isub (pc' := 50) dX2_missAt_49 rfl ?_
    exact ea_iret rfl dX2_missAt_50 ⟨_, rfl, h⟩
theorem vm_X2_missAt {G : evG} {d : Nat} {q : Int32 → evS → Prop} {x0 : Nat} {l1 : Int32} {l2 : Int32} {l3 : Int32} {S : evS} (h : bk_X2_missAt_0 G d (evQI q) x0 l1 l2 l3 S) : evSp G yX2_missAt M_X2_missAt (d + 1) [.ref (evad G 6 x0), .int l1, .int l2, .int l3] S (evQI q) :=
  evSp.of (by decide +kernel) rfl (Nat.le_of_ble_eq_true rfl) h
abbrev bk_X2_evenHour_0 (G : evG) (d : Nat) (Q : Option Value → evS → Prop) (x0 : Nat) (l1 : Int32) (l2 : Int32) (l3 : Int32) (S : evS) : Prop := evAt G M_X2_evenHour (evFm G d Q) 0 [(0, .ref (evad G 6 x0)), (1, .int l1), (2, .int l2), (3, .int l3)] [] S
set_option maxRecDepth 100000 in
set_option maxHeartbeats 4000000 in
theorem vb_X2_evenHour_0 {G : evG} {d : Nat} {q : Int32 → evS → Prop} (hCl : evCl G) {x0 : Nat} {l1 : Int32} {l2 : Int32} {l3 : Int32} {S : evS} (hVl0 : (6, x0) ∈ evKs G)
    (h : (vp_in l2 7 ∧ (vp_in l1 7 ∧ (∀ v3 : Int32, v3 = ((S.1 7 x0 l2.toNatClampNeg) - (S.1 7 x0 l1.toNatClampNeg)) → (vp_in l3 7 ∧ (vp_in l1 7 ∧ (∀ v6 : Int32, v6 = ((S.1 7 x0 l3.toNatClampNeg) - (S.1 7 x0 l1.toNatClampNeg)) → (vp_in l1 7 ∧ (vp_in l2 7 ∧ (vp_in l1 7 ∧ q (((S.1 11 x0 l1.toNatClampNeg) * v3) + (((S.1 11 x0 l2.toNatClampNeg) - (S.1 11 x0 l1.toNatClampNeg)) * v6)) S)))))))))) : bk_X2_evenHour_0 G d (evQI q) x0 l1 l2 l3 S := by
  refine ea_aload_n (pc' := 1) (i := 0) dX2_evenHour_0 rfl 0 rfl rfl ?_
  refine ea_getr (k2 := 7) (x2 := x0) (kf := 2) (pc' := 4) kok_6 hVl0 (by decide) rfl fl_X2_20 rfl dX2_evenHour_1 rfl ?_
  refine ea_iload_n (pc' := 5) (i := 2) dX2_evenHour_4 rfl 2 rfl rfl ?_
  obtain ⟨o1, h⟩ := h
  refine ea_iald (j := l2.toNatClampNeg) (pc' := 6) (hCl.1 6 x0 2 7 hVl0 rfl) rfl o1 dX2_evenHour_5 rfl rfl ?_
  refine ea_aload_n (pc' := 7) (i := 0) dX2_evenHour_6 rfl 0 rfl rfl ?_
  refine ea_getr (k2 := 7) (x2 := x0) (kf := 2) (pc' := 10) kok_6 hVl0 (by decide) rfl fl_X2_20 rfl dX2_evenHour_7 rfl ?_
  refine ea_iload_n (pc' := 11) (i := 1) dX2_evenHour_10 rfl 1 rfl rfl ?_
  obtain ⟨o2, h⟩ := h
  refine ea_iald (j := l1.toNatClampNeg) (pc' := 12) (hCl.1 6 x0 2 7 hVl0 rfl) rfl o2 dX2_evenHour_11 rfl rfl ?_
  refine ea_isub (pc' := 13) dX2_evenHour_12 rfl ?_
  refine ea_topi (fun v3 hv3 => ?_)
  replace h := h v3 hv3
  refine ea_istore (lv' := [(4, .int v3), (0, .ref (evad G 6 x0)), (1, .int l1), (2, .int l2), (3, .int l3)]) (pc' := 15) dX2_evenHour_13 (by decide) rfl rfl ?_
  refine ea_aload_n (pc' := 16) (i := 0) dX2_evenHour_15 rfl 1 rfl rfl ?_
  refine ea_getr (k2 := 7) (x2 := x0) (kf := 2) (pc' := 19) kok_6 hVl0 (by decide) rfl fl_X2_20 rfl dX2_evenHour_16 rfl ?_
  refine ea_iload_n (pc' := 20) (i := 3) dX2_evenHour_19 rfl 4 rfl rfl ?_
  obtain ⟨o4, h⟩ := h
  refine ea_iald (j := l3.toNatClampNeg) (pc' := 21) (hCl.1 6 x0 2 7 hVl0 rfl) rfl o4 dX2_evenHour_20 rfl rfl ?_
  refine ea_aload_n (pc' := 22) (i := 0) dX2_evenHour_21 rfl 1 rfl rfl ?_
  refine ea_getr (k2 := 7) (x2 := x0) (kf := 2) (pc' := 25) kok_6 hVl0 (by decide) rfl fl_X2_20 rfl dX2_evenHour_22 rfl ?_
  refine ea_iload_n (pc' := 26) (i := 1) dX2_evenHour_25 rfl 2 rfl rfl ?_
  obtain ⟨o5, h⟩ := h
  refine ea_iald (j := l1.toNatClampNeg) (pc' := 27) (hCl.1 6 x0 2 7 hVl0 rfl) rfl o5 dX2_evenHour_26 rfl rfl ?_
  refine ea_isub (pc' := 28) dX2_evenHour_27 rfl ?_
  refine ea_topi (fun v6 hv6 => ?_)
  replace h := h v6 hv6
  refine ea_istore (lv' := [(5, .int v6), (4, .int v3), (0, .ref (evad G 6 x0)), (1, .int l1), (2, .int l2), (3, .int l3)]) (pc' := 30) dX2_evenHour_28 (by decide) rfl rfl ?_
  refine ea_aload_n (pc' := 31) (i := 0) dX2_evenHour_30 rfl 2 rfl rfl ?_
  refine ea_getr (k2 := 11) (x2 := x0) (kf := 6) (pc' := 34) kok_6 hVl0 (by decide) rfl fl_X2_33 rfl dX2_evenHour_31 rfl ?_
  refine ea_iload_n (pc' := 35) (i := 1) dX2_evenHour_34 rfl 3 rfl rfl ?_
  obtain ⟨o7, h⟩ := h
  refine ea_iald (j := l1.toNatClampNeg) (pc' := 36) (hCl.1 6 x0 6 11 hVl0 rfl) rfl o7 dX2_evenHour_35 rfl rfl ?_
  refine ea_iload (pc' := 38) dX2_evenHour_36 1 rfl rfl ?_
  refine ea_imul (pc' := 39) dX2_evenHour_38 rfl ?_
  refine ea_aload_n (pc' := 40) (i := 0) dX2_evenHour_39 rfl 2 rfl rfl ?_
  refine ea_getr (k2 := 11) (x2 := x0) (kf := 6) (pc' := 43) kok_6 hVl0 (by decide) rfl fl_X2_33 rfl dX2_evenHour_40 rfl ?_
  refine ea_iload_n (pc' := 44) (i := 2) dX2_evenHour_43 rfl 4 rfl rfl ?_
  obtain ⟨o8, h⟩ := h
  refine ea_iald (j := l2.toNatClampNeg) (pc' := 45) (hCl.1 6 x0 6 11 hVl0 rfl) rfl o8 dX2_evenHour_44 rfl rfl ?_
  refine ea_aload_n (pc' := 46) (i := 0) dX2_evenHour_45 rfl 2 rfl rfl ?_
  refine ea_getr (k2 := 11) (x2 := x0) (kf := 6) (pc' := 49) kok_6 hVl0 (by decide) rfl fl_X2_33 rfl dX2_evenHour_46 rfl ?_
  refine ea_iload_n (pc' := 50) (i := 1) dX2_evenHour_49 rfl 3 rfl rfl ?_
  obtain ⟨o9, h⟩ := h
  refine ea_iald (j := l1.toNatClampNeg) (pc' := 51) (hCl.1 6 x0 6 11 hVl0 rfl) rfl o9 dX2_evenHour_50 rfl rfl ?_
  refine ea_isub (pc' := 52) dX2_evenHour_51 rfl ?_
  refine ea_iload (pc' := 54) dX2_evenHour_52 0 rfl rfl ?_
  refine ea_imul (pc' := 55) dX2_evenHour_54 rfl ?_
  refine ea_iadd (pc' := 56) dX2_evenHour_55 rfl ?_
  exact ea_iret rfl dX2_evenHour_56 ⟨_, rfl, h⟩
theorem vm_X2_evenHour {G : evG} {d : Nat} {q : Int32 → evS → Prop} {x0 : Nat} {l1 : Int32} {l2 : Int32} {l3 : Int32} {S : evS} (h : bk_X2_evenHour_0 G d (evQI q) x0 l1 l2 l3 S) : evSp G yX2_evenHour M_X2_evenHour d [.ref (evad G 6 x0), .int l1, .int l2, .int l3] S (evQI q) :=
  evSp.of (by decide +kernel) rfl (Nat.le_of_ble_eq_true rfl) h
abbrev bk_X2_measureStretches_0 (G : evG) (d : Nat) (Q : Option Value → evS → Prop) (x0 : Nat) (S : evS) : Prop := evAt G M_X2_measureStretches (evFm G (d + 1) Q) 0 [(0, .ref (evad G 6 x0))] [] S
abbrev bk_X2_measureStretches_19 (G : evG) (d : Nat) (Q : Option Value → evS → Prop) (x0 : Nat) (l1 : Int32) (l2 : Int32) (l3 : Int32) (S : evS) : Prop := evAt G M_X2_measureStretches (evFm G (d + 1) Q) 19 [(0, .ref (evad G 6 x0)), (1, .int l1), (2, .int l2), (3, .int l3)] [] S
abbrev bk_X2_measureStretches_43 (G : evG) (d : Nat) (Q : Option Value → evS → Prop) (x0 : Nat) (l1 : Int32) (l2 : Int32) (l3 : Int32) (l4 : Int32) (l5 : Int32) (S : evS) : Prop := evAt G M_X2_measureStretches (evFm G (d + 1) Q) 43 [(0, .ref (evad G 6 x0)), (1, .int l1), (2, .int l2), (3, .int l3), (4, .int l4), (5, .int l5)] [] S
abbrev bk_X2_measureStretches_136 (G : evG) (d : Nat) (Q : Option Value → evS → Prop) (x0 : Nat) (l1 : Int32) (l3 : Int32) (l4 : Int32) (S : evS) : Prop := evAt G M_X2_measureStretches (evFm G (d + 1) Q) 136 [(0, .ref (evad G 6 x0)), (1, .int l1), (3, .int l3), (4, .int l4)] [] S
abbrev bk_X2_measureStretches_155 (G : evG) (d : Nat) (Q : Option Value → evS → Prop) (x0 : Nat) (l1 : Int32) (S : evS) : Prop := evAt G M_X2_measureStretches (evFm G (d + 1) Q) 155 [(0, .ref (evad G 6 x0)), (1, .int l1)] [] S
set_option maxRecDepth 100000 in
set_option maxHeartbeats 4000000 in
theorem vb_X2_measureStretches_0 {G : evG} {d : Nat} {q : evS → Prop} (hCl : evCl G) {x0 : Nat} {S : evS} (hVl0 : (6, x0) ∈ evKs G)
    (h : (∀ S1 : evS, S1 = evup S 6 x0 11 0 → (∀ S2 : evS, S2 = evup S1 6 x0 12 0 → (∀ v3 : Int32, v3 = (S2.1 6 x0 0) → bk_X2_measureStretches_19 G d (evQV q) x0 1 v3 0 S2)))) : bk_X2_measureStretches_0 G d (evQV q) x0 S := by
  refine ea_aload_n (pc' := 1) (i := 0) dX2_measureStretches_0 rfl 0 rfl rfl ?_
  refine ea_iconst (v := 0) (pc' := 2) dX2_measureStretches_1 (by decide) rfl ?_
  refine ea_puti (kf := 11) (pc' := 5) kok_6 hVl0 (by decide) rfl fl_X2_48 rfl rfl dX2_measureStretches_2 rfl ?_
  refine ea_tops (fun S1 hS1 => ?_)
  replace h := h S1 hS1
  refine ea_aload_n (pc' := 6) (i := 0) dX2_measureStretches_5 rfl 0 rfl rfl ?_
  refine ea_iconst (v := 0) (pc' := 7) dX2_measureStretches_6 (by decide) rfl ?_
  refine ea_puti (kf := 12) (pc' := 10) kok_6 hVl0 (by decide) rfl fl_X2_51 rfl rfl dX2_measureStretches_7 rfl ?_
  refine ea_tops (fun S2 hS2 => ?_)
  replace h := h S2 hS2
  refine ea_iconst (v := 1) (pc' := 11) dX2_measureStretches_10 (by decide) rfl ?_
  refine ea_istore_n (lv' := [(1, .int 1), (0, .ref (evad G 6 x0))]) (pc' := 12) dX2_measureStretches_11 rfl (by decide) rfl rfl ?_
  refine ea_aload_n (pc' := 13) (i := 0) dX2_measureStretches_12 rfl 1 rfl rfl ?_
  refine ea_geti (kf := 0) (pc' := 16) kok_6 hVl0 (by decide) rfl fl_X2_11 dX2_measureStretches_13 rfl ?_
  refine ea_topi (fun v3 hv3 => ?_)
  replace h := h v3 hv3
  refine ea_istore_n (lv' := [(2, .int v3), (1, .int 1), (0, .ref (evad G 6 x0))]) (pc' := 17) dX2_measureStretches_16 rfl (by decide) rfl rfl ?_
  refine ea_iconst (v := 0) (pc' := 18) dX2_measureStretches_17 (by decide) rfl ?_
  refine ea_istore_n (lv' := [(3, .int 0), (2, .int v3), (1, .int 1), (0, .ref (evad G 6 x0))]) (pc' := 19) dX2_measureStretches_18 rfl (by decide) rfl rfl ?_
  refine ea_loc [3, 2, 1, 0] rfl ?_
  exact h
set_option maxRecDepth 100000 in
set_option maxHeartbeats 4000000 in
theorem vb_X2_measureStretches_19 {G : evG} {d : Nat} {q : evS → Prop} (hCl : evCl G) {x0 : Nat} {l1 : Int32} {l2 : Int32} {l3 : Int32} {S : evS} (hVl0 : (6, x0) ∈ evKs G)
    (h : ((7 ≤ l3 → bk_X2_measureStretches_155 G d (evQV q) x0 l1 S) ∧ (¬ 7 ≤ l3 → (((S.1 6 x0 1) ≤ l2 → bk_X2_measureStretches_155 G d (evQV q) x0 l1 S) ∧ (¬ (S.1 6 x0 1) ≤ l2 → (evSp G yX2_nextEnd M_X2_nextEnd d [.ref (evad G 6 x0), .int l2] S (evQI fun r1 S2 => bk_X2_measureStretches_43 G d (evQV q) x0 l1 l2 l3 r1 l2 S2))))))) : bk_X2_measureStretches_19 G d (evQV q) x0 l1 l2 l3 S := by
  refine ea_iload_n (pc' := 20) (i := 3) dX2_measureStretches_19 rfl 3 rfl rfl ?_
  refine ea_bipush (v := 7) (pc' := 22) dX2_measureStretches_20 (by decide) rfl ?_
  refine ea_icmp_ge (tgt := 155) (pc' := 25) dX2_measureStretches_22 (by decide) rfl (fun hc => ?_) (fun hc => ?_)
  · replace h := h.1 hc
    refine ea_loc [0, 1] rfl ?_
    exact h
  · replace h := h.2 hc
    refine ea_iload_n (pc' := 26) (i := 2) dX2_measureStretches_25 rfl 2 rfl rfl ?_
    refine ea_aload_n (pc' := 27) (i := 0) dX2_measureStretches_26 rfl 0 rfl rfl ?_
    refine ea_geti (kf := 1) (pc' := 30) kok_6 hVl0 (by decide) rfl fl_X2_17 dX2_measureStretches_27 rfl ?_
    refine ea_icmp_ge (tgt := 155) (pc' := 33) dX2_measureStretches_30 (by decide) rfl (fun hc => ?_) (fun hc => ?_)
    · replace h := h.1 hc
      refine ea_loc [0, 1] rfl ?_
      exact h
    · replace h := h.2 hc
      refine ea_aload_n (pc' := 34) (i := 0) dX2_measureStretches_33 rfl 0 rfl rfl ?_
      refine ea_iload_n (pc' := 35) (i := 2) dX2_measureStretches_34 rfl 2 rfl rfl ?_
      refine ea_cvi (As := [.int l2]) (st := []) (d := d) (pc' := 38) mv_X2_nextEnd ml_X2_126 kok_6 hVl0 rfl rfl dX2_measureStretches_35 rfl (Nat.le_of_ble_eq_true rfl) (ev_room (by decide)) ⟨Nat.le_refl _, Nat.le_refl _⟩ h rfl (fun r1 S2 h => ?_)
      refine ea_istore (lv' := [(4, .int r1), (0, .ref (evad G 6 x0)), (1, .int l1), (2, .int l2), (3, .int l3)]) (pc' := 40) dX2_measureStretches_38 (by decide) rfl rfl ?_
      refine ea_iload_n (pc' := 41) (i := 2) dX2_measureStretches_40 rfl 3 rfl rfl ?_
      refine ea_istore (lv' := [(5, .int l2), (4, .int r1), (0, .ref (evad G 6 x0)), (1, .int l1), (2, .int l2), (3, .int l3)]) (pc' := 43) dX2_measureStretches_41 (by decide) rfl rfl ?_
      refine ea_loc [2, 3, 4, 5, 1, 0] rfl ?_
      exact h
set_option maxRecDepth 100000 in
set_option maxHeartbeats 4000000 in
theorem vb_X2_measureStretches_43 {G : evG} {d : Nat} {q : evS → Prop} (hCl : evCl G) {x0 : Nat} {l1 : Int32} {l2 : Int32} {l3 : Int32} {l4 : Int32} {l5 : Int32} {S : evS} (hVl0 : (6, x0) ∈ evKs G)
    (h : ((l4 ≤ l5 → (vp_in l4 7 ∧ (vp_in l2 7 ∧ (∀ v3 : Int32, v3 = ((S.1 11 x0 l4.toNatClampNeg) - (S.1 11 x0 l2.toNatClampNeg)) → ((v3 ≤ 0 → bk_X2_measureStretches_136 G d (evQV q) x0 0 l3 l4 S) ∧ (¬ v3 ≤ 0 → (vp_in l4 7 ∧ (vp_in l2 7 ∧ (∀ v6 : Int32, v6 = ((S.1 7 x0 l4.toNatClampNeg) - (S.1 7 x0 l2.toNatClampNeg)) → (¬ v3 = 0 ∧ (evSp G yJ9_max_7cf53 M_J9_max_7cf53 d [.int (S.1 6 x0 12), .int (((v6 + v3) - 1) / v3)] S (evQI fun r8 S9 => (∀ S10 : evS, S10 = evup S9 6 x0 12 r8 → bk_X2_measureStretches_136 G d (evQV q) x0 l1 l3 l4 S10))))))))))))) ∧ (¬ l4 ≤ l5 → (vp_in l5 6 ∧ (∀ S12 : evS, S12 = evup S 13 x0 l5.toNatClampNeg l2 → (vp_in l5 6 ∧ (∀ S14 : evS, S14 = evup S12 14 x0 l5.toNatClampNeg l4 → (∀ v15 : Int32, v15 = (l5 + 1) → bk_X2_measureStretches_43 G d (evQV q) x0 l1 l2 l3 l4 v15 S14)))))))) : bk_X2_measureStretches_43 G d (evQV q) x0 l1 l2 l3 l4 l5 S := by
  refine ea_iload (pc' := 45) dX2_measureStretches_43 5 rfl rfl ?_
  refine ea_iload (pc' := 47) dX2_measureStretches_45 4 rfl rfl ?_
  refine ea_icmp_ge (tgt := 73) (pc' := 50) dX2_measureStretches_47 (by decide) rfl (fun hc => ?_) (fun hc => ?_)
  · replace h := h.1 hc
    refine ea_aload_n (pc' := 74) (i := 0) dX2_measureStretches_73 rfl 0 rfl rfl ?_
    refine ea_getr (k2 := 11) (x2 := x0) (kf := 6) (pc' := 77) kok_6 hVl0 (by decide) rfl fl_X2_33 rfl dX2_measureStretches_74 rfl ?_
    refine ea_iload (pc' := 79) dX2_measureStretches_77 4 rfl rfl ?_
    obtain ⟨o1, h⟩ := h
    refine ea_iald (j := l4.toNatClampNeg) (pc' := 80) (hCl.1 6 x0 6 11 hVl0 rfl) rfl o1 dX2_measureStretches_79 rfl rfl ?_
    refine ea_aload_n (pc' := 81) (i := 0) dX2_measureStretches_80 rfl 0 rfl rfl ?_
    refine ea_getr (k2 := 11) (x2 := x0) (kf := 6) (pc' := 84) kok_6 hVl0 (by decide) rfl fl_X2_33 rfl dX2_measureStretches_81 rfl ?_
    refine ea_iload_n (pc' := 85) (i := 2) dX2_measureStretches_84 rfl 2 rfl rfl ?_
    obtain ⟨o2, h⟩ := h
    refine ea_iald (j := l2.toNatClampNeg) (pc' := 86) (hCl.1 6 x0 6 11 hVl0 rfl) rfl o2 dX2_measureStretches_85 rfl rfl ?_
    refine ea_isub (pc' := 87) dX2_measureStretches_86 rfl ?_
    refine ea_topi (fun v3 hv3 => ?_)
    replace h := h v3 hv3
    refine ea_istore (lv' := [(5, .int v3), (0, .ref (evad G 6 x0)), (1, .int l1), (2, .int l2), (3, .int l3), (4, .int l4)]) (pc' := 89) dX2_measureStretches_87 (by decide) rfl rfl ?_
    refine ea_iload (pc' := 91) dX2_measureStretches_89 0 rfl rfl ?_
    refine ea_if_le (tgt := 134) (pc' := 94) dX2_measureStretches_91 (by decide) rfl (fun hc => ?_) (fun hc => ?_)
    · replace h := h.1 hc
      refine ea_iconst (v := 0) (pc' := 135) dX2_measureStretches_134 (by decide) rfl ?_
      refine ea_istore_n (lv' := [(1, .int 0), (5, .int v3), (0, .ref (evad G 6 x0)), (2, .int l2), (3, .int l3), (4, .int l4)]) (pc' := 136) dX2_measureStretches_135 rfl (by decide) rfl rfl ?_
      refine ea_loc [2, 0, 4, 5] rfl ?_
      exact h
    · replace h := h.2 hc
      refine ea_aload_n (pc' := 95) (i := 0) dX2_measureStretches_94 rfl 1 rfl rfl ?_
      refine ea_getr (k2 := 7) (x2 := x0) (kf := 2) (pc' := 98) kok_6 hVl0 (by decide) rfl fl_X2_20 rfl dX2_measureStretches_95 rfl ?_
      refine ea_iload (pc' := 100) dX2_measureStretches_98 5 rfl rfl ?_
      obtain ⟨o4, h⟩ := h
      refine ea_iald (j := l4.toNatClampNeg) (pc' := 101) (hCl.1 6 x0 2 7 hVl0 rfl) rfl o4 dX2_measureStretches_100 rfl rfl ?_
      refine ea_aload_n (pc' := 102) (i := 0) dX2_measureStretches_101 rfl 1 rfl rfl ?_
      refine ea_getr (k2 := 7) (x2 := x0) (kf := 2) (pc' := 105) kok_6 hVl0 (by decide) rfl fl_X2_20 rfl dX2_measureStretches_102 rfl ?_
      refine ea_iload_n (pc' := 106) (i := 2) dX2_measureStretches_105 rfl 3 rfl rfl ?_
      obtain ⟨o5, h⟩ := h
      refine ea_iald (j := l2.toNatClampNeg) (pc' := 107) (hCl.1 6 x0 2 7 hVl0 rfl) rfl o5 dX2_measureStretches_106 rfl rfl ?_
      refine ea_isub (pc' := 108) dX2_measureStretches_107 rfl ?_
      refine ea_topi (fun v6 hv6 => ?_)
      replace h := h v6 hv6
      refine ea_istore (lv' := [(6, .int v6), (5, .int v3), (0, .ref (evad G 6 x0)), (1, .int l1), (2, .int l2), (3, .int l3), (4, .int l4)]) (pc' := 110) dX2_measureStretches_108 (by decide) rfl rfl ?_
      refine ea_aload_n (pc' := 111) (i := 0) dX2_measureStretches_110 rfl 2 rfl rfl ?_
      refine ea_aload_n (pc' := 112) (i := 0) dX2_measureStretches_111 rfl 2 rfl rfl ?_
      refine ea_geti (kf := 12) (pc' := 115) kok_6 hVl0 (by decide) rfl fl_X2_51 dX2_measureStretches_112 rfl ?_
      refine ea_iload (pc' := 117) dX2_measureStretches_115 0 rfl rfl ?_
      refine ea_iload (pc' := 119) dX2_measureStretches_117 1 rfl rfl ?_
      refine ea_iadd (pc' := 120) dX2_measureStretches_119 rfl ?_
      refine ea_iconst (v := 1) (pc' := 121) dX2_measureStretches_120 (by decide) rfl ?_
      refine ea_isub (pc' := 122) dX2_measureStretches_121 rfl ?_
      refine ea_iload (pc' := 124) dX2_measureStretches_122 1 rfl rfl ?_
      obtain ⟨o7, h⟩ := h
      refine ea_idiv (pc' := 125) dX2_measureStretches_124 o7 rfl ?_
      refine ea_csi (As := [.int (S.1 6 x0 12), .int (((v6 + v3) - 1) / v3)]) (st := [.ref (evad G 6 x0)]) (d := d) (pc' := 128) mv_J9_max_7cf53 ml_X2_61 rfl dX2_measureStretches_125 rfl (Nat.le_of_ble_eq_true rfl) (ev_room (by decide)) ⟨Nat.le_refl _, Nat.le_refl _⟩ h rfl (fun r8 S9 h => ?_)
      refine ea_puti (kf := 12) (pc' := 131) kok_6 hVl0 (by decide) rfl fl_X2_51 rfl rfl dX2_measureStretches_128 rfl ?_
      refine ea_tops (fun S10 hS10 => ?_)
      replace h := h S10 hS10
      refine ea_goto (tgt := 136) dX2_measureStretches_131 (by decide) ?_
      refine ea_loc [2, 3, 5, 6] rfl ?_
      exact h
  · replace h := h.2 hc
    refine ea_aload_n (pc' := 51) (i := 0) dX2_measureStretches_50 rfl 0 rfl rfl ?_
    refine ea_getr (k2 := 13) (x2 := x0) (kf := 8) (pc' := 54) kok_6 hVl0 (by decide) rfl fl_X2_39 rfl dX2_measureStretches_51 rfl ?_
    refine ea_iload (pc' := 56) dX2_measureStretches_54 5 rfl rfl ?_
    refine ea_iload_n (pc' := 57) (i := 2) dX2_measureStretches_56 rfl 2 rfl rfl ?_
    obtain ⟨o11, h⟩ := h
    refine ea_iast (j := l5.toNatClampNeg) (pc' := 58) (hCl.1 6 x0 8 13 hVl0 rfl) rfl o11 dX2_measureStretches_57 rfl rfl ?_
    refine ea_tops (fun S12 hS12 => ?_)
    replace h := h S12 hS12
    refine ea_aload_n (pc' := 59) (i := 0) dX2_measureStretches_58 rfl 0 rfl rfl ?_
    refine ea_getr (k2 := 14) (x2 := x0) (kf := 9) (pc' := 62) kok_6 hVl0 (by decide) rfl fl_X2_42 rfl dX2_measureStretches_59 rfl ?_
    refine ea_iload (pc' := 64) dX2_measureStretches_62 5 rfl rfl ?_
    refine ea_iload (pc' := 66) dX2_measureStretches_64 4 rfl rfl ?_
    obtain ⟨o13, h⟩ := h
    refine ea_iast (j := l5.toNatClampNeg) (pc' := 67) (hCl.1 6 x0 9 14 hVl0 rfl) rfl o13 dX2_measureStretches_66 rfl rfl ?_
    refine ea_tops (fun S14 hS14 => ?_)
    replace h := h S14 hS14
    obtain ⟨v15, hv15⟩ : ∃ z : Int32, z = (l5 + 1) := ⟨_, rfl⟩
    replace h := h v15 hv15
    refine ea_iinc (q := 5) (v := v15) (lv' := [(5, .int v15), (0, .ref (evad G 6 x0)), (1, .int l1), (2, .int l2), (3, .int l3), (4, .int l4)]) (pc' := 70) dX2_measureStretches_67 rfl (by rw [hv15]; rfl) (by decide) rfl rfl ?_
    refine ea_goto (tgt := 43) dX2_measureStretches_70 (by decide) ?_
    refine ea_loc [1, 2, 3, 4, 5, 0] rfl ?_
    exact h
set_option maxRecDepth 100000 in
set_option maxHeartbeats 4000000 in
theorem vb_X2_measureStretches_136 {G : evG} {d : Nat} {q : evS → Prop} (hCl : evCl G) {x0 : Nat} {l1 : Int32} {l3 : Int32} {l4 : Int32} {S : evS} (hVl0 : (6, x0) ∈ evKs G)
    (h : (∀ S1 : evS, S1 = evup S 6 x0 11 ((S.1 6 x0 11) + 1) → (∀ v2 : Int32, v2 = (l3 + 1) → bk_X2_measureStretches_19 G d (evQV q) x0 l1 l4 v2 S1))) : bk_X2_measureStretches_136 G d (evQV q) x0 l1 l3 l4 S := by
  refine ea_aload_n (pc' := 137) (i := 0) dX2_measureStretches_136 rfl 0 rfl rfl ?_
  refine ea_dup (pc' := 138) dX2_measureStretches_137 rfl rfl ?_
  refine ea_geti (kf := 11) (pc' := 141) kok_6 hVl0 (by decide) rfl fl_X2_48 dX2_measureStretches_138 rfl ?_
  refine ea_iconst (v := 1) (pc' := 142) dX2_measureStretches_141 (by decide) rfl ?_
  refine ea_iadd (pc' := 143) dX2_measureStretches_142 rfl ?_
  refine ea_puti (kf := 11) (pc' := 146) kok_6 hVl0 (by decide) rfl fl_X2_48 rfl rfl dX2_measureStretches_143 rfl ?_
  refine ea_tops (fun S1 hS1 => ?_)
  replace h := h S1 hS1
  refine ea_iload (pc' := 148) dX2_measureStretches_146 3 rfl rfl ?_
  refine ea_istore_n (lv' := [(2, .int l4), (0, .ref (evad G 6 x0)), (1, .int l1), (3, .int l3), (4, .int l4)]) (pc' := 149) dX2_measureStretches_148 rfl (by decide) rfl rfl ?_
  obtain ⟨v2, hv2⟩ : ∃ z : Int32, z = (l3 + 1) := ⟨_, rfl⟩
  replace h := h v2 hv2
  refine ea_iinc (q := 3) (v := v2) (lv' := [(3, .int v2), (2, .int l4), (0, .ref (evad G 6 x0)), (1, .int l1), (4, .int l4)]) (pc' := 152) dX2_measureStretches_149 rfl (by rw [hv2]; rfl) (by decide) rfl rfl ?_
  refine ea_goto (tgt := 19) dX2_measureStretches_152 (by decide) ?_
  refine ea_loc [2, 3, 1, 0] rfl ?_
  exact h
set_option maxRecDepth 100000 in
set_option maxHeartbeats 4000000 in
theorem vb_X2_measureStretches_155 {G : evG} {d : Nat} {q : evS → Prop} (hCl : evCl G) {x0 : Nat} {l1 : Int32} {S : evS} (hVl0 : (6, x0) ∈ evKs G)
    (h : ((¬ l1 = 0 → q S) ∧ (l1 = 0 → (∀ S1 : evS, S1 = evup S 6 x0 12 0 → q S1)))) : bk_X2_measureStretches_155 G d (evQV q) x0 l1 S := by
  refine ea_iload_n (pc' := 156) (i := 1) dX2_measureStretches_155 rfl 1 rfl rfl ?_
  refine ea_if_ne (tgt := 164) (pc' := 159) dX2_measureStretches_156 (by decide) rfl (fun hc => ?_) (fun hc => ?_)
  · replace h := h.1 hc
    exact ea_vret rfl dX2_measureStretches_164 ⟨rfl, h⟩
  · replace h := h.2 hc
    refine ea_aload_n (pc' := 160) (i := 0) dX2_measureStretches_159 rfl 0 rfl rfl ?_
    refine ea_iconst (v := 0) (pc' := 161) dX2_measureStretches_160 (by decide) rfl ?_
    refine ea_puti (kf := 12) (pc' := 164) kok_6 hVl0 (by decide) rfl fl_X2_51 rfl rfl dX2_measureStretches_161 rfl ?_
    refine ea_tops (fun S1 hS1 => ?_)
    replace h := h S1 hS1
    exact ea_vret rfl dX2_measureStretches_164 ⟨rfl, h⟩
theorem vm_X2_measureStretches {G : evG} {d : Nat} {q : evS → Prop} {x0 : Nat} {S : evS} (h : bk_X2_measureStretches_0 G d (evQV q) x0 S) : evSp G yX2_measureStretches M_X2_measureStretches (d + 1) [.ref (evad G 6 x0)] S (evQV q) :=
  evSp.of (by decide +kernel) rfl (Nat.le_of_ble_eq_true rfl) h
abbrev bk_X2_stands_0 (G : evG) (d : Nat) (Q : Option Value → evS → Prop) (x0 : Nat) (S : evS) : Prop := evAt G M_X2_stands (evFm G d Q) 0 [(0, .ref (evad G 6 x0))] [] S
set_option maxRecDepth 100000 in
set_option maxHeartbeats 4000000 in
theorem vb_X2_stands_0 {G : evG} {d : Nat} {q : Int32 → evS → Prop} (hCl : evCl G) {x0 : Nat} {S : evS} (hVl0 : (6, x0) ∈ evKs G)
    (h : (((S.1 6 x0 12) ≤ 0 → q 0 S) ∧ (¬ (S.1 6 x0 12) ≤ 0 → (((S.1 6 x0 13) < (S.1 6 x0 12) → q 0 S) ∧ (¬ (S.1 6 x0 13) < (S.1 6 x0 12) → q 1 S))))) : bk_X2_stands_0 G d (evQI q) x0 S := by
  refine ea_aload_n (pc' := 1) (i := 0) dX2_stands_0 rfl 0 rfl rfl ?_
  refine ea_geti (kf := 12) (pc' := 4) kok_6 hVl0 (by decide) rfl fl_X2_51 dX2_stands_1 rfl ?_
  refine ea_if_le (tgt := 22) (pc' := 7) dX2_stands_4 (by decide) rfl (fun hc => ?_) (fun hc => ?_)
  · replace h := h.1 hc
    refine ea_iconst (v := 0) (pc' := 23) dX2_stands_22 (by decide) rfl ?_
    exact ea_zret rfl dX2_stands_23 (by decide) ⟨_, rfl, h⟩
  · replace h := h.2 hc
    refine ea_aload_n (pc' := 8) (i := 0) dX2_stands_7 rfl 0 rfl rfl ?_
    refine ea_geti (kf := 12) (pc' := 11) kok_6 hVl0 (by decide) rfl fl_X2_51 dX2_stands_8 rfl ?_
    refine ea_aload_n (pc' := 12) (i := 0) dX2_stands_11 rfl 0 rfl rfl ?_
    refine ea_geti (kf := 13) (pc' := 15) kok_6 hVl0 (by decide) rfl fl_X2_54 dX2_stands_12 rfl ?_
    refine ea_icmp_gt (tgt := 22) (pc' := 18) dX2_stands_15 (by decide) rfl (fun hc => ?_) (fun hc => ?_)
    · replace h := h.1 hc
      refine ea_iconst (v := 0) (pc' := 23) dX2_stands_22 (by decide) rfl ?_
      exact ea_zret rfl dX2_stands_23 (by decide) ⟨_, rfl, h⟩
    · replace h := h.2 hc
      refine ea_iconst (v := 1) (pc' := 19) dX2_stands_18 (by decide) rfl ?_
      refine ea_goto (tgt := 23) dX2_stands_19 (by decide) ?_
      exact ea_zret rfl dX2_stands_23 (by decide) ⟨_, rfl, h⟩
theorem vm_X2_stands {G : evG} {d : Nat} {q : Int32 → evS → Prop} {x0 : Nat} {S : evS} (h : bk_X2_stands_0 G d (evQI q) x0 S) : evSp G yX2_stands M_X2_stands d [.ref (evad G 6 x0)] S (evQI q) :=
  evSp.of (by decide +kernel) rfl (Nat.le_of_ble_eq_true rfl) h
abbrev bk_X2_hourRoundedUp_0 (G : evG) (d : Nat) (Q : Option Value → evS → Prop) (x0 : Nat) (l1 : Int32) (S : evS) : Prop := evAt G M_X2_hourRoundedUp (evFm G (d + 1) Q) 0 [(0, .ref (evad G 6 x0)), (1, .int l1)] [] S
set_option maxRecDepth 100000 in
set_option maxHeartbeats 4000000 in
theorem vb_X2_hourRoundedUp_0 {G : evG} {d : Nat} {q : Int32 → evS → Prop} (hCl : evCl G) {x0 : Nat} {l1 : Int32} {S : evS} (hVl0 : (6, x0) ∈ evKs G)
    (h : (evSp G yX2_hourLower M_X2_hourLower d [.ref (evad G 6 x0), .int l1] S (evQI fun r1 S2 => ((0 < r1 → (evSp G yX2_hourUpper M_X2_hourUpper d [.ref (evad G 6 x0), .int l1] S2 (evQI fun r3 S4 => (evSp G yJ9_floorDiv_7cf53 M_J9_floorDiv_7cf53 d [.int (-r3), .int r1] S4 (evQI fun r5 S6 => q (-r5) S6))))) ∧ (¬ 0 < r1 → q 0 S2))))) : bk_X2_hourRoundedUp_0 G d (evQI q) x0 l1 S := by
  refine ea_aload_n (pc' := 1) (i := 0) dX2_hourRoundedUp_0 rfl 0 rfl rfl ?_
  refine ea_iload_n (pc' := 2) (i := 1) dX2_hourRoundedUp_1 rfl 1 rfl rfl ?_
  refine ea_cvi (As := [.int l1]) (st := []) (d := d) (pc' := 5) mv_X2_hourLower ml_X2_91 kok_6 hVl0 rfl rfl dX2_hourRoundedUp_2 rfl (Nat.le_of_ble_eq_true rfl) (ev_room (by decide)) ⟨Nat.le_refl _, Nat.le_refl _⟩ h rfl (fun r1 S2 h => ?_)
  refine ea_istore_n (lv' := [(2, .int r1), (0, .ref (evad G 6 x0)), (1, .int l1)]) (pc' := 6) dX2_hourRoundedUp_5 rfl (by decide) rfl rfl ?_
  refine ea_iload_n (pc' := 7) (i := 2) dX2_hourRoundedUp_6 rfl 0 rfl rfl ?_
  refine ea_if_gt (tgt := 14) (pc' := 10) dX2_hourRoundedUp_7 (by decide) rfl (fun hc => ?_) (fun hc => ?_)
  · replace h := h.1 hc
    refine ea_aload_n (pc' := 15) (i := 0) dX2_hourRoundedUp_14 rfl 1 rfl rfl ?_
    refine ea_iload_n (pc' := 16) (i := 1) dX2_hourRoundedUp_15 rfl 2 rfl rfl ?_
    refine ea_cvi (As := [.int l1]) (st := []) (d := d) (pc' := 19) mv_X2_hourUpper ml_X2_94 kok_6 hVl0 rfl rfl dX2_hourRoundedUp_16 rfl (Nat.le_of_ble_eq_true rfl) (ev_room (by decide)) ⟨Nat.le_refl _, Nat.le_refl _⟩ h rfl (fun r3 S4 h => ?_)
    refine ea_ineg (pc' := 20) dX2_hourRoundedUp_19 rfl ?_
    refine ea_iload_n (pc' := 21) (i := 2) dX2_hourRoundedUp_20 rfl 0 rfl rfl ?_
    refine ea_csi (As := [.int (-r3), .int r1]) (st := []) (d := d) (pc' := 24) mv_J9_floorDiv_7cf53 ml_X2_97 rfl dX2_hourRoundedUp_21 rfl (Nat.le_of_ble_eq_true rfl) (ev_room (by decide)) ⟨Nat.le_refl _, Nat.le_refl _⟩ h rfl (fun r5 S6 h => ?_)
    refine ea_ineg (pc' := 25) dX2_hourRoundedUp_24 rfl ?_
    exact ea_iret rfl dX2_hourRoundedUp_25 ⟨_, rfl, h⟩
  · replace h := h.2 hc
    refine ea_iconst (v := 0) (pc' := 11) dX2_hourRoundedUp_10 (by decide) rfl ?_
    refine ea_goto (tgt := 25) dX2_hourRoundedUp_11 (by decide) ?_
    exact ea_iret rfl dX2_hourRoundedUp_25 ⟨_, rfl, h⟩
theorem vm_X2_hourRoundedUp {G : evG} {d : Nat} {q : Int32 → evS → Prop} {x0 : Nat} {l1 : Int32} {S : evS} (h : bk_X2_hourRoundedUp_0 G d (evQI q) x0 l1 S) : evSp G yX2_hourRoundedUp M_X2_hourRoundedUp (d + 1) [.ref (evad G 6 x0), .int l1] S (evQI q) :=
  evSp.of (by decide +kernel) rfl (Nat.le_of_ble_eq_true rfl) h
abbrev bk_X2_hourLower_0 (G : evG) (d : Nat) (Q : Option Value → evS → Prop) (x0 : Nat) (l1 : Int32) (S : evS) : Prop := evAt G M_X2_hourLower (evFm G (d + 1) Q) 0 [(0, .ref (evad G 6 x0)), (1, .int l1)] [] S
set_option maxRecDepth 100000 in
set_option maxHeartbeats 4000000 in
theorem vb_X2_hourLower_0 {G : evG} {d : Nat} {q : Int32 → evS → Prop} (hCl : evCl G) {x0 : Nat} {l1 : Int32} {S : evS} (hVl0 : (6, x0) ∈ evKs G)
    (h : (evSp G yX2_milesAround M_X2_milesAround d [.ref (evad G 6 x0), .int (l1 - 1)] S (evQI fun r1 S2 => q r1 S2))) : bk_X2_hourLower_0 G d (evQI q) x0 l1 S := by
  refine ea_aload_n (pc' := 1) (i := 0) dX2_hourLower_0 rfl 0 rfl rfl ?_
  refine ea_iload_n (pc' := 2) (i := 1) dX2_hourLower_1 rfl 1 rfl rfl ?_
  refine ea_iconst (v := 1) (pc' := 3) dX2_hourLower_2 (by decide) rfl ?_
  refine ea_isub (pc' := 4) dX2_hourLower_3 rfl ?_
  refine ea_cvi (As := [.int (l1 - 1)]) (st := []) (d := d) (pc' := 7) mv_X2_milesAround ml_X2_88 kok_6 hVl0 rfl rfl dX2_hourLower_4 rfl (Nat.le_of_ble_eq_true rfl) (ev_room (by decide)) ⟨Nat.le_refl _, Nat.le_refl _⟩ h rfl (fun r1 S2 h => ?_)
  exact ea_iret rfl dX2_hourLower_7 ⟨_, rfl, h⟩
theorem vm_X2_hourLower {G : evG} {d : Nat} {q : Int32 → evS → Prop} {x0 : Nat} {l1 : Int32} {S : evS} (h : bk_X2_hourLower_0 G d (evQI q) x0 l1 S) : evSp G yX2_hourLower M_X2_hourLower (d + 1) [.ref (evad G 6 x0), .int l1] S (evQI q) :=
  evSp.of (by decide +kernel) rfl (Nat.le_of_ble_eq_true rfl) h
abbrev bk_X2_milesAround_0 (G : evG) (d : Nat) (Q : Option Value → evS → Prop) (x0 : Nat) (l1 : Int32) (S : evS) : Prop := evAt G M_X2_milesAround (evFm G (d + 1) Q) 0 [(0, .ref (evad G 6 x0)), (1, .int l1)] [] S
set_option maxRecDepth 100000 in
set_option maxHeartbeats 4000000 in
theorem vb_X2_milesAround_0 {G : evG} {d : Nat} {q : Int32 → evS → Prop} (hCl : evCl G) {x0 : Nat} {l1 : Int32} {S : evS} (hVl0 : (6, x0) ∈ evKs G)
    (h : (evSp G yX2_isNoLeg M_X2_isNoLeg d [.ref (evad G 6 x0), .int l1] S (evQI fun r1 S2 => ((r1 = 0 → (vp_in l1 6 ∧ (vp_in (S2.1 14 x0 l1.toNatClampNeg) 7 ∧ (vp_in l1 6 ∧ (vp_in (S2.1 13 x0 l1.toNatClampNeg) 7 ∧ q ((S2.1 7 x0 ((S2.1 14 x0 l1.toNatClampNeg).toNatClampNeg)) - (S2.1 7 x0 ((S2.1 13 x0 l1.toNatClampNeg).toNatClampNeg))) S2))))) ∧ (¬ r1 = 0 → q 0 S2))))) : bk_X2_milesAround_0 G d (evQI q) x0 l1 S := by
  refine ea_aload_n (pc' := 1) (i := 0) dX2_milesAround_0 rfl 0 rfl rfl ?_
  refine ea_iload_n (pc' := 2) (i := 1) dX2_milesAround_1 rfl 1 rfl rfl ?_
  refine ea_cvi (As := [.int l1]) (st := []) (d := d) (pc' := 5) mv_X2_isNoLeg ml_X2_80 kok_6 hVl0 rfl rfl dX2_milesAround_2 rfl (Nat.le_of_ble_eq_true rfl) (ev_room (by decide)) ⟨Nat.le_refl _, Nat.le_refl _⟩ h rfl (fun r1 S2 h => ?_)
  refine ea_if_eq (tgt := 10) (pc' := 8) dX2_milesAround_5 (by decide) rfl (fun hc => ?_) (fun hc => ?_)
  · replace h := h.1 hc
    refine ea_aload_n (pc' := 11) (i := 0) dX2_milesAround_10 rfl 0 rfl rfl ?_
    refine ea_getr (k2 := 7) (x2 := x0) (kf := 2) (pc' := 14) kok_6 hVl0 (by decide) rfl fl_X2_20 rfl dX2_milesAround_11 rfl ?_
    refine ea_aload_n (pc' := 15) (i := 0) dX2_milesAround_14 rfl 0 rfl rfl ?_
    refine ea_getr (k2 := 14) (x2 := x0) (kf := 9) (pc' := 18) kok_6 hVl0 (by decide) rfl fl_X2_42 rfl dX2_milesAround_15 rfl ?_
    refine ea_iload_n (pc' := 19) (i := 1) dX2_milesAround_18 rfl 1 rfl rfl ?_
    obtain ⟨o3, h⟩ := h
    refine ea_iald (j := l1.toNatClampNeg) (pc' := 20) (hCl.1 6 x0 9 14 hVl0 rfl) rfl o3 dX2_milesAround_19 rfl rfl ?_
    obtain ⟨o4, h⟩ := h
    refine ea_iald (j := (S2.1 14 x0 l1.toNatClampNeg).toNatClampNeg) (pc' := 21) (hCl.1 6 x0 2 7 hVl0 rfl) rfl o4 dX2_milesAround_20 rfl rfl ?_
    refine ea_aload_n (pc' := 22) (i := 0) dX2_milesAround_21 rfl 0 rfl rfl ?_
    refine ea_getr (k2 := 7) (x2 := x0) (kf := 2) (pc' := 25) kok_6 hVl0 (by decide) rfl fl_X2_20 rfl dX2_milesAround_22 rfl ?_
    refine ea_aload_n (pc' := 26) (i := 0) dX2_milesAround_25 rfl 0 rfl rfl ?_
    refine ea_getr (k2 := 13) (x2 := x0) (kf := 8) (pc' := 29) kok_6 hVl0 (by decide) rfl fl_X2_39 rfl dX2_milesAround_26 rfl ?_
    refine ea_iload_n (pc' := 30) (i := 1) dX2_milesAround_29 rfl 1 rfl rfl ?_
    obtain ⟨o5, h⟩ := h
    refine ea_iald (j := l1.toNatClampNeg) (pc' := 31) (hCl.1 6 x0 8 13 hVl0 rfl) rfl o5 dX2_milesAround_30 rfl rfl ?_
    obtain ⟨o6, h⟩ := h
    refine ea_iald (j := (S2.1 13 x0 l1.toNatClampNeg).toNatClampNeg) (pc' := 32) (hCl.1 6 x0 2 7 hVl0 rfl) rfl o6 dX2_milesAround_31 rfl rfl ?_
    refine ea_isub (pc' := 33) dX2_milesAround_32 rfl ?_
    exact ea_iret rfl dX2_milesAround_33 ⟨_, rfl, h⟩
  · replace h := h.2 hc
    refine ea_iconst (v := 0) (pc' := 9) dX2_milesAround_8 (by decide) rfl ?_
    exact ea_iret rfl dX2_milesAround_9 ⟨_, rfl, h⟩
theorem vm_X2_milesAround {G : evG} {d : Nat} {q : Int32 → evS → Prop} {x0 : Nat} {l1 : Int32} {S : evS} (h : bk_X2_milesAround_0 G d (evQI q) x0 l1 S) : evSp G yX2_milesAround M_X2_milesAround (d + 1) [.ref (evad G 6 x0), .int l1] S (evQI q) :=
  evSp.of (by decide +kernel) rfl (Nat.le_of_ble_eq_true rfl) h
abbrev bk_X2_isNoLeg_0 (G : evG) (d : Nat) (Q : Option Value → evS → Prop) (x0 : Nat) (l1 : Int32) (S : evS) : Prop := evAt G M_X2_isNoLeg (evFm G d Q) 0 [(0, .ref (evad G 6 x0)), (1, .int l1)] [] S
set_option maxRecDepth 100000 in
set_option maxHeartbeats 4000000 in
theorem vb_X2_isNoLeg_0 {G : evG} {d : Nat} {q : Int32 → evS → Prop} (hCl : evCl G) {x0 : Nat} {l1 : Int32} {S : evS} (hVl0 : (6, x0) ∈ evKs G)
    (h : ((l1 < (S.1 6 x0 0) → q 1 S) ∧ (¬ l1 < (S.1 6 x0 0) → ((l1 < (S.1 6 x0 1) → q 0 S) ∧ (¬ l1 < (S.1 6 x0 1) → q 1 S))))) : bk_X2_isNoLeg_0 G d (evQI q) x0 l1 S := by
  refine ea_iload_n (pc' := 1) (i := 1) dX2_isNoLeg_0 rfl 1 rfl rfl ?_
  refine ea_aload_n (pc' := 2) (i := 0) dX2_isNoLeg_1 rfl 0 rfl rfl ?_
  refine ea_geti (kf := 0) (pc' := 5) kok_6 hVl0 (by decide) rfl fl_X2_11 dX2_isNoLeg_2 rfl ?_
  refine ea_icmp_lt (tgt := 16) (pc' := 8) dX2_isNoLeg_5 (by decide) rfl (fun hc => ?_) (fun hc => ?_)
  · replace h := h.1 hc
    refine ea_iconst (v := 1) (pc' := 17) dX2_isNoLeg_16 (by decide) rfl ?_
    refine ea_goto (tgt := 21) dX2_isNoLeg_17 (by decide) ?_
    exact ea_zret rfl dX2_isNoLeg_21 (by decide) ⟨_, rfl, h⟩
  · replace h := h.2 hc
    refine ea_iload_n (pc' := 9) (i := 1) dX2_isNoLeg_8 rfl 1 rfl rfl ?_
    refine ea_aload_n (pc' := 10) (i := 0) dX2_isNoLeg_9 rfl 0 rfl rfl ?_
    refine ea_geti (kf := 1) (pc' := 13) kok_6 hVl0 (by decide) rfl fl_X2_17 dX2_isNoLeg_10 rfl ?_
    refine ea_icmp_lt (tgt := 20) (pc' := 16) dX2_isNoLeg_13 (by decide) rfl (fun hc => ?_) (fun hc => ?_)
    · replace h := h.1 hc
      refine ea_iconst (v := 0) (pc' := 21) dX2_isNoLeg_20 (by decide) rfl ?_
      exact ea_zret rfl dX2_isNoLeg_21 (by decide) ⟨_, rfl, h⟩
    · replace h := h.2 hc
      refine ea_iconst (v := 1) (pc' := 17) dX2_isNoLeg_16 (by decide) rfl ?_
      refine ea_goto (tgt := 21) dX2_isNoLeg_17 (by decide) ?_
      exact ea_zret rfl dX2_isNoLeg_21 (by decide) ⟨_, rfl, h⟩
theorem vm_X2_isNoLeg {G : evG} {d : Nat} {q : Int32 → evS → Prop} {x0 : Nat} {l1 : Int32} {S : evS} (h : bk_X2_isNoLeg_0 G d (evQI q) x0 l1 S) : evSp G yX2_isNoLeg M_X2_isNoLeg d [.ref (evad G 6 x0), .int l1] S (evQI q) :=
  evSp.of (by decide +kernel) rfl (Nat.le_of_ble_eq_true rfl) h
abbrev bk_X2_hourUpper_0 (G : evG) (d : Nat) (Q : Option Value → evS → Prop) (x0 : Nat) (l1 : Int32) (S : evS) : Prop := evAt G M_X2_hourUpper (evFm G (d + 1) Q) 0 [(0, .ref (evad G 6 x0)), (1, .int l1)] [] S
set_option maxRecDepth 100000 in
set_option maxHeartbeats 4000000 in
theorem vb_X2_hourUpper_0 {G : evG} {d : Nat} {q : Int32 → evS → Prop} (hCl : evCl G) {x0 : Nat} {l1 : Int32} {S : evS} (hVl0 : (6, x0) ∈ evKs G)
    (h : (∀ v1 : Int32, v1 = (l1 - 1) → (evSp G yX2_isNoLeg M_X2_isNoLeg d [.ref (evad G 6 x0), .int v1] S (evQI fun r2 S3 => ((r2 = 0 → (vp_in v1 6 ∧ (vp_in v1 6 ∧ (evSp G yX2_evenHour M_X2_evenHour d [.ref (evad G 6 x0), .int (S3.1 13 x0 v1.toNatClampNeg), .int (S3.1 14 x0 v1.toNatClampNeg), .int l1] S3 (evQI fun r6 S7 => (vp_in l1 7 ∧ (evSp G yX2_milesAround M_X2_milesAround d [.ref (evad G 6 x0), .int v1] S7 (evQI fun r9 S10 => q (r6 + ((S7.1 8 x0 l1.toNatClampNeg) * r9)) S10)))))))) ∧ (¬ r2 = 0 → q 0 S3)))))) : bk_X2_hourUpper_0 G d (evQI q) x0 l1 S := by
  refine ea_iload_n (pc' := 1) (i := 1) dX2_hourUpper_0 rfl 1 rfl rfl ?_
  refine ea_iconst (v := 1) (pc' := 2) dX2_hourUpper_1 (by decide) rfl ?_
  refine ea_isub (pc' := 3) dX2_hourUpper_2 rfl ?_
  refine ea_topi (fun v1 hv1 => ?_)
  replace h := h v1 hv1
  refine ea_istore_n (lv' := [(2, .int v1), (0, .ref (evad G 6 x0)), (1, .int l1)]) (pc' := 4) dX2_hourUpper_3 rfl (by decide) rfl rfl ?_
  refine ea_aload_n (pc' := 5) (i := 0) dX2_hourUpper_4 rfl 1 rfl rfl ?_
  refine ea_iload_n (pc' := 6) (i := 2) dX2_hourUpper_5 rfl 0 rfl rfl ?_
  refine ea_cvi (As := [.int v1]) (st := []) (d := d) (pc' := 9) mv_X2_isNoLeg ml_X2_80 kok_6 hVl0 rfl rfl dX2_hourUpper_6 rfl (Nat.le_of_ble_eq_true rfl) (ev_room (by decide)) ⟨Nat.le_refl _, Nat.le_refl _⟩ h rfl (fun r2 S3 h => ?_)
  refine ea_if_eq (tgt := 14) (pc' := 12) dX2_hourUpper_9 (by decide) rfl (fun hc => ?_) (fun hc => ?_)
  · replace h := h.1 hc
    refine ea_aload_n (pc' := 15) (i := 0) dX2_hourUpper_14 rfl 1 rfl rfl ?_
    refine ea_aload_n (pc' := 16) (i := 0) dX2_hourUpper_15 rfl 1 rfl rfl ?_
    refine ea_getr (k2 := 13) (x2 := x0) (kf := 8) (pc' := 19) kok_6 hVl0 (by decide) rfl fl_X2_39 rfl dX2_hourUpper_16 rfl ?_
    refine ea_iload_n (pc' := 20) (i := 2) dX2_hourUpper_19 rfl 0 rfl rfl ?_
    obtain ⟨o4, h⟩ := h
    refine ea_iald (j := v1.toNatClampNeg) (pc' := 21) (hCl.1 6 x0 8 13 hVl0 rfl) rfl o4 dX2_hourUpper_20 rfl rfl ?_
    refine ea_aload_n (pc' := 22) (i := 0) dX2_hourUpper_21 rfl 1 rfl rfl ?_
    refine ea_getr (k2 := 14) (x2 := x0) (kf := 9) (pc' := 25) kok_6 hVl0 (by decide) rfl fl_X2_42 rfl dX2_hourUpper_22 rfl ?_
    refine ea_iload_n (pc' := 26) (i := 2) dX2_hourUpper_25 rfl 0 rfl rfl ?_
    obtain ⟨o5, h⟩ := h
    refine ea_iald (j := v1.toNatClampNeg) (pc' := 27) (hCl.1 6 x0 9 14 hVl0 rfl) rfl o5 dX2_hourUpper_26 rfl rfl ?_
    refine ea_iload_n (pc' := 28) (i := 1) dX2_hourUpper_27 rfl 2 rfl rfl ?_
    refine ea_cvi (As := [.int (S3.1 13 x0 v1.toNatClampNeg), .int (S3.1 14 x0 v1.toNatClampNeg), .int l1]) (st := []) (d := d) (pc' := 31) mv_X2_evenHour ml_X2_84 kok_6 hVl0 rfl rfl dX2_hourUpper_28 rfl (Nat.le_of_ble_eq_true rfl) (ev_room (by decide)) ⟨Nat.le_refl _, Nat.le_refl _⟩ h rfl (fun r6 S7 h => ?_)
    refine ea_aload_n (pc' := 32) (i := 0) dX2_hourUpper_31 rfl 1 rfl rfl ?_
    refine ea_getr (k2 := 8) (x2 := x0) (kf := 3) (pc' := 35) kok_6 hVl0 (by decide) rfl fl_X2_24 rfl dX2_hourUpper_32 rfl ?_
    refine ea_iload_n (pc' := 36) (i := 1) dX2_hourUpper_35 rfl 2 rfl rfl ?_
    obtain ⟨o8, h⟩ := h
    refine ea_iald (j := l1.toNatClampNeg) (pc' := 37) (hCl.1 6 x0 3 8 hVl0 rfl) rfl o8 dX2_hourUpper_36 rfl rfl ?_
    refine ea_aload_n (pc' := 38) (i := 0) dX2_hourUpper_37 rfl 1 rfl rfl ?_
    refine ea_iload_n (pc' := 39) (i := 2) dX2_hourUpper_38 rfl 0 rfl rfl ?_
    refine ea_cvi (As := [.int v1]) (st := [.int (S7.1 8 x0 l1.toNatClampNeg), .int r6]) (d := d) (pc' := 42) mv_X2_milesAround ml_X2_88 kok_6 hVl0 rfl rfl dX2_hourUpper_39 rfl (Nat.le_of_ble_eq_true rfl) (ev_room (by decide)) ⟨Nat.le_refl _, Nat.le_refl _⟩ h rfl (fun r9 S10 h => ?_)
    refine ea_imul (pc' := 43) dX2_hourUpper_42 rfl ?_
    refine ea_iadd (pc' := 44) dX2_hourUpper_43 rfl ?_
    exact ea_iret rfl dX2_hourUpper_44 ⟨_, rfl, h⟩
  · replace h := h.2 hc
    refine ea_iconst (v := 0) (pc' := 13) dX2_hourUpper_12 (by decide) rfl ?_
    exact ea_iret rfl dX2_hourUpper_13 ⟨_, rfl, h⟩
theorem vm_X2_hourUpper {G : evG} {d : Nat} {q : Int32 → evS → Prop} {x0 : Nat} {l1 : Int32} {S : evS} (h : bk_X2_hourUpper_0 G d (evQI q) x0 l1 S) : evSp G yX2_hourUpper M_X2_hourUpper (d + 1) [.ref (evad G 6 x0), .int l1] S (evQI q) :=
  evSp.of (by decide +kernel) rfl (Nat.le_of_ble_eq_true rfl) h
