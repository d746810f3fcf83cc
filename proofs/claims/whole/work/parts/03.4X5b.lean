abbrev bk_X5_partOf_0 (G : evG) (d : Nat) (Q : Option Value → evS → Prop) (l0 : Int32) (l1 : Int32) (l2 : Int32) (S : evS) : Prop := evAt G M_X5_partOf (evFm G (d + 1) Q) 0 [(0, .int l0), (1, .int l1), (2, .int l2)] [] S
abbrev bk_X5_partOf_15 (G : evG) (d : Nat) (Q : Option Value → evS → Prop) (l3 : Int32) (s0 : Int32) (S : evS) : Prop := evAt G M_X5_partOf (evFm G (d + 1) Q) 15 [(3, .int l3)] [.int s0] S
set_option maxRecDepth 100000 in
set_option maxHeartbeats 4000000 in
theorem vb_X5_partOf_0 {G : evG} {d : Nat} {q : Int32 → evS → Prop} (hCl : evCl G) {l0 : Int32} {l1 : Int32} {l2 : Int32} {S : evS}
    (h : (evSp G yX5_commonMeasure M_X5_commonMeasure d [.int l0, .int l1] S (evQI fun r1 S2 => ((¬ l2 = 0 → bk_X5_partOf_15 G d (evQI q) r1 l1 S2) ∧ (l2 = 0 → bk_X5_partOf_15 G d (evQI q) r1 l0 S2))))) : bk_X5_partOf_0 G d (evQI q) l0 l1 l2 S := by
  refine ea_iload_n (pc' := 1) (i := 0) dX5_partOf_0 rfl 0 rfl rfl ?_
  refine ea_iload_n (pc' := 2) (i := 1) dX5_partOf_1 rfl 1 rfl rfl ?_
  refine ea_csi (As := [.int l0, .int l1]) (st := []) (d := d) (pc' := 5) mv_X5_commonMeasure ml_X5_213 rfl dX5_partOf_2 rfl (Nat.le_of_ble_eq_true rfl) (ev_room (by decide)) ⟨Nat.le_refl _, Nat.le_refl _⟩ h rfl (fun r1 S2 h => ?_)
  refine ea_istore_n (lv' := [(3, .int r1), (0, .int l0), (1, .int l1), (2, .int l2)]) (pc' := 6) dX5_partOf_5 rfl (by decide) rfl rfl ?_
  refine ea_iload_n (pc' := 7) (i := 2) dX5_partOf_6 rfl 3 rfl rfl ?_
  refine ea_if_ne (tgt := 14) (pc' := 10) dX5_partOf_7 (by decide) rfl (fun hc => ?_) (fun hc => ?_)
  · replace h := h.1 hc
    refine ea_iload_n (pc' := 15) (i := 1) dX5_partOf_14 rfl 2 rfl rfl ?_
    refine ea_loc [0] rfl ?_
    exact h
  · replace h := h.2 hc
    refine ea_iload_n (pc' := 11) (i := 0) dX5_partOf_10 rfl 1 rfl rfl ?_
    refine ea_goto (tgt := 15) dX5_partOf_11 (by decide) ?_
    refine ea_loc [0] rfl ?_
    exact h
set_option maxRecDepth 100000 in
set_option maxHeartbeats 4000000 in
theorem vb_X5_partOf_15 {G : evG} {d : Nat} {q : Int32 → evS → Prop} (hCl : evCl G) {l3 : Int32} {s0 : Int32} {S : evS}
    (h : ((0 < l3 → (¬ l3 = 0 ∧ q (s0 / l3) S)) ∧ (¬ 0 < l3 → q s0 S))) : bk_X5_partOf_15 G d (evQI q) l3 s0 S := by
  refine ea_istore (lv' := [(4, .int s0), (3, .int l3)]) (pc' := 17) dX5_partOf_15 (by decide) rfl rfl ?_
  refine ea_iload_n (pc' := 18) (i := 3) dX5_partOf_17 rfl 1 rfl rfl ?_
  refine ea_if_gt (tgt := 26) (pc' := 21) dX5_partOf_18 (by decide) rfl (fun hc => ?_) (fun hc => ?_)
  · replace h := h.1 hc
    refine ea_iload (pc' := 28) dX5_partOf_26 0 rfl rfl ?_
    refine ea_iload_n (pc' := 29) (i := 3) dX5_partOf_28 rfl 1 rfl rfl ?_
    obtain ⟨o1, h⟩ := h
    refine ea_idiv (pc' := 30) dX5_partOf_29 o1 rfl ?_
    exact ea_iret rfl dX5_partOf_30 ⟨_, rfl, h⟩
  · replace h := h.2 hc
    refine ea_iload (pc' := 23) dX5_partOf_21 0 rfl rfl ?_
    refine ea_goto (tgt := 30) dX5_partOf_23 (by decide) ?_
    exact ea_iret rfl dX5_partOf_30 ⟨_, rfl, h⟩
theorem vm_X5_partOf {G : evG} {d : Nat} {q : Int32 → evS → Prop} {l0 : Int32} {l1 : Int32} {l2 : Int32} {S : evS} (h : bk_X5_partOf_0 G d (evQI q) l0 l1 l2 S) : evSp G yX5_partOf M_X5_partOf (d + 1) [.int l0, .int l1, .int l2] S (evQI q) :=
  evSp.of (by decide +kernel) rfl (Nat.le_of_ble_eq_true rfl) h
abbrev bk_X5_commonMeasure_0 (G : evG) (d : Nat) (Q : Option Value → evS → Prop) (l0 : Int32) (l1 : Int32) (S : evS) : Prop := evAt G M_X5_commonMeasure (evFm G (d + 1) Q) 0 [(0, .int l0), (1, .int l1)] [] S
abbrev bk_X5_commonMeasure_13 (G : evG) (d : Nat) (Q : Option Value → evS → Prop) (l2 : Int32) (l3 : Int32) (l4 : Int32) (S : evS) : Prop := evAt G M_X5_commonMeasure (evFm G (d + 1) Q) 13 [(2, .int l2), (3, .int l3), (4, .int l4)] [] S
set_option maxRecDepth 100000 in
set_option maxHeartbeats 4000000 in
theorem vb_X5_commonMeasure_0 {G : evG} {d : Nat} {q : Int32 → evS → Prop} (hCl : evCl G) {l0 : Int32} {l1 : Int32} {S : evS}
    (h : (evSp G yJ9_abs_0f7a4 M_J9_abs_0f7a4 d [.int l0] S (evQI fun r1 S2 => (evSp G yJ9_abs_0f7a4 M_J9_abs_0f7a4 d [.int l1] S2 (evQI fun r3 S4 => bk_X5_commonMeasure_13 G d (evQI q) r1 r3 0 S4))))) : bk_X5_commonMeasure_0 G d (evQI q) l0 l1 S := by
  refine ea_iload_n (pc' := 1) (i := 0) dX5_commonMeasure_0 rfl 0 rfl rfl ?_
  refine ea_csi (As := [.int l0]) (st := []) (d := d) (pc' := 4) mv_J9_abs_0f7a4 ml_X5_216 rfl dX5_commonMeasure_1 rfl (Nat.le_of_ble_eq_true rfl) (ev_room (by decide)) ⟨Nat.le_refl _, Nat.le_refl _⟩ h rfl (fun r1 S2 h => ?_)
  refine ea_istore_n (lv' := [(2, .int r1), (0, .int l0), (1, .int l1)]) (pc' := 5) dX5_commonMeasure_4 rfl (by decide) rfl rfl ?_
  refine ea_iload_n (pc' := 6) (i := 1) dX5_commonMeasure_5 rfl 2 rfl rfl ?_
  refine ea_csi (As := [.int l1]) (st := []) (d := d) (pc' := 9) mv_J9_abs_0f7a4 ml_X5_216 rfl dX5_commonMeasure_6 rfl (Nat.le_of_ble_eq_true rfl) (ev_room (by decide)) ⟨Nat.le_refl _, Nat.le_refl _⟩ h rfl (fun r3 S4 h => ?_)
  refine ea_istore_n (lv' := [(3, .int r3), (2, .int r1), (0, .int l0), (1, .int l1)]) (pc' := 10) dX5_commonMeasure_9 rfl (by decide) rfl rfl ?_
  refine ea_iconst (v := 0) (pc' := 11) dX5_commonMeasure_10 (by decide) rfl ?_
  refine ea_istore (lv' := [(4, .int 0), (3, .int r3), (2, .int r1), (0, .int l0), (1, .int l1)]) (pc' := 13) dX5_commonMeasure_11 (by decide) rfl rfl ?_
  refine ea_loc [2, 1, 0] rfl ?_
  exact h
set_option maxRecDepth 100000 in
set_option maxHeartbeats 4000000 in
theorem vb_X5_commonMeasure_13 {G : evG} {d : Nat} {q : Int32 → evS → Prop} (hCl : evCl G) {l2 : Int32} {l3 : Int32} {l4 : Int32} {S : evS}
    (h : ((64 ≤ l4 → q l2 S) ∧ (¬ 64 ≤ l4 → ((l3 ≤ 0 → q l2 S) ∧ (¬ l3 ≤ 0 → (¬ l3 = 0 ∧ (∀ v2 : Int32, v2 = (l2 - l2 / l3 * l3) → (∀ v3 : Int32, v3 = (l4 + 1) → bk_X5_commonMeasure_13 G d (evQI q) l3 v2 v3 S)))))))) : bk_X5_commonMeasure_13 G d (evQI q) l2 l3 l4 S := by
  refine ea_iload (pc' := 15) dX5_commonMeasure_13 2 rfl rfl ?_
  refine ea_bipush (v := 64) (pc' := 17) dX5_commonMeasure_15 (by decide) rfl ?_
  refine ea_icmp_ge (tgt := 40) (pc' := 20) dX5_commonMeasure_17 (by decide) rfl (fun hc => ?_) (fun hc => ?_)
  · replace h := h.1 hc
    refine ea_iload_n (pc' := 41) (i := 2) dX5_commonMeasure_40 rfl 0 rfl rfl ?_
    exact ea_iret rfl dX5_commonMeasure_41 ⟨_, rfl, h⟩
  · replace h := h.2 hc
    refine ea_iload_n (pc' := 21) (i := 3) dX5_commonMeasure_20 rfl 1 rfl rfl ?_
    refine ea_if_le (tgt := 40) (pc' := 24) dX5_commonMeasure_21 (by decide) rfl (fun hc => ?_) (fun hc => ?_)
    · replace h := h.1 hc
      refine ea_iload_n (pc' := 41) (i := 2) dX5_commonMeasure_40 rfl 0 rfl rfl ?_
      exact ea_iret rfl dX5_commonMeasure_41 ⟨_, rfl, h⟩
    · replace h := h.2 hc
      refine ea_iload_n (pc' := 25) (i := 2) dX5_commonMeasure_24 rfl 0 rfl rfl ?_
      refine ea_iload_n (pc' := 26) (i := 3) dX5_commonMeasure_25 rfl 1 rfl rfl ?_
      obtain ⟨o1, h⟩ := h
      refine ea_irem (pc' := 27) dX5_commonMeasure_26 o1 rfl ?_
      refine ea_topi (fun v2 hv2 => ?_)
      replace h := h v2 hv2
      refine ea_istore (lv' := [(5, .int v2), (2, .int l2), (3, .int l3), (4, .int l4)]) (pc' := 29) dX5_commonMeasure_27 (by decide) rfl rfl ?_
      refine ea_iload_n (pc' := 30) (i := 3) dX5_commonMeasure_29 rfl 2 rfl rfl ?_
      refine ea_istore_n (lv' := [(2, .int l3), (5, .int v2), (3, .int l3), (4, .int l4)]) (pc' := 31) dX5_commonMeasure_30 rfl (by decide) rfl rfl ?_
      refine ea_iload (pc' := 33) dX5_commonMeasure_31 1 rfl rfl ?_
      refine ea_istore_n (lv' := [(3, .int v2), (2, .int l3), (5, .int v2), (4, .int l4)]) (pc' := 34) dX5_commonMeasure_33 rfl (by decide) rfl rfl ?_
      obtain ⟨v3, hv3⟩ : ∃ z : Int32, z = (l4 + 1) := ⟨_, rfl⟩
      replace h := h v3 hv3
      refine ea_iinc (q := 3) (v := v3) (lv' := [(4, .int v3), (3, .int v2), (2, .int l3), (5, .int v2)]) (pc' := 37) dX5_commonMeasure_34 rfl (by rw [hv3]; rfl) (by decide) rfl rfl ?_
      refine ea_goto (tgt := 13) dX5_commonMeasure_37 (by decide) ?_
      refine ea_loc [2, 1, 0] rfl ?_
      exact h
theorem vm_X5_commonMeasure {G : evG} {d : Nat} {q : Int32 → evS → Prop} {l0 : Int32} {l1 : Int32} {S : evS} (h : bk_X5_commonMeasure_0 G d (evQI q) l0 l1 S) : evSp G yX5_commonMeasure M_X5_commonMeasure (d + 1) [.int l0, .int l1] S (evQI q) :=
  evSp.of (by decide +kernel) rfl (Nat.le_of_ble_eq_true rfl) h
abbrev bk_X5_speed_0 (G : evG) (d : Nat) (Q : Option Value → evS → Prop) (x0 : Nat) (l1 : Int32) (l2 : Int32) (l3 : Int32) (S : evS) : Prop := evAt G M_X5_speed (evFm G (d + 1) Q) 0 [(0, .ref (evad G 0 x0)), (1, .int l1), (2, .int l2), (3, .int l3)] [] S
set_option maxRecDepth 100000 in
set_option maxHeartbeats 4000000 in
theorem vb_X5_speed_0 {G : evG} {d : Nat} {q : Int32 → evS → Prop} (hCl : evCl G) {x0 : Nat} {l1 : Int32} {l2 : Int32} {l3 : Int32} {S : evS} (hVl0 : (0, x0) ∈ evKs G)
    (h : (evSp G yX5_isNoShip M_X5_isNoShip d [.int l1] S (evQI fun r1 S2 => ((¬ r1 = 0 → q (-1000000) S2) ∧ (r1 = 0 → ((l3 < 0 → q (-1000000) S2) ∧ (¬ l3 < 0 → ((1 < l3 → q (-1000000) S2) ∧ (¬ 1 < l3 → (vp_in l1 4 ∧ (evSp G yX3_isLegAhead M_X3_isLegAhead d [.ref (evad G 3 l1.toNatClampNeg), .int l2] S2 (evQI fun r4 S5 => ((¬ r4 = 0 → (evSp G yX5_drawnPlan M_X5_drawnPlan d [.ref (evad G 0 x0), .int l1] S5 (evQR (evad G 6 l1.toNatClampNeg) fun S6 => (vp_in l1 4 ∧ (evSp G yX2_stands M_X2_stands d [.ref (evad G 6 l1.toNatClampNeg)] S6 (evQI fun r9 S10 => ((¬ r9 = 0 → (evSp G yX2_milesAround M_X2_milesAround d [.ref (evad G 6 l1.toNatClampNeg), .int l2] S10 (evQI fun r11 S12 => (evSp G yX2_hoursAround M_X2_hoursAround d [.ref (evad G 6 l1.toNatClampNeg), .int l2] S12 (evQI fun r13 S14 => (evSp G yX5_partOf M_X5_partOf d [.int r11, .int r13, .int l3] S14 (evQI fun r15 S16 => q r15 S16))))))) ∧ (r9 = 0 → q (-2000000) S10)))))))) ∧ (r4 = 0 → q (-1000000) S5)))))))))))))) : bk_X5_speed_0 G d (evQI q) x0 l1 l2 l3 S := by
  refine ea_iload_n (pc' := 1) (i := 1) dX5_speed_0 rfl 1 rfl rfl ?_
  refine ea_csi (As := [.int l1]) (st := []) (d := d) (pc' := 4) mv_X5_isNoShip ml_X5_81 rfl dX5_speed_1 rfl (Nat.le_of_ble_eq_true rfl) (ev_room (by decide)) ⟨Nat.le_refl _, Nat.le_refl _⟩ h rfl (fun r1 S2 h => ?_)
  refine ea_if_ne (tgt := 32) (pc' := 7) dX5_speed_4 (by decide) rfl (fun hc => ?_) (fun hc => ?_)
  · replace h := h.1 hc
    refine ea_ldc (v := (-1000000)) (pc' := 34) dX5_speed_32 kc_X5_145 rfl ?_
    exact ea_iret rfl dX5_speed_34 ⟨_, rfl, h⟩
  · replace h := h.2 hc
    refine ea_iload_n (pc' := 8) (i := 3) dX5_speed_7 rfl 3 rfl rfl ?_
    refine ea_if_lt (tgt := 32) (pc' := 11) dX5_speed_8 (by decide) rfl (fun hc => ?_) (fun hc => ?_)
    · replace h := h.1 hc
      refine ea_ldc (v := (-1000000)) (pc' := 34) dX5_speed_32 kc_X5_145 rfl ?_
      exact ea_iret rfl dX5_speed_34 ⟨_, rfl, h⟩
    · replace h := h.2 hc
      refine ea_iload_n (pc' := 12) (i := 3) dX5_speed_11 rfl 3 rfl rfl ?_
      refine ea_iconst (v := 1) (pc' := 13) dX5_speed_12 (by decide) rfl ?_
      refine ea_icmp_gt (tgt := 32) (pc' := 16) dX5_speed_13 (by decide) rfl (fun hc => ?_) (fun hc => ?_)
      · replace h := h.1 hc
        refine ea_ldc (v := (-1000000)) (pc' := 34) dX5_speed_32 kc_X5_145 rfl ?_
        exact ea_iret rfl dX5_speed_34 ⟨_, rfl, h⟩
      · replace h := h.2 hc
        refine ea_aload_n (pc' := 17) (i := 0) dX5_speed_16 rfl 0 rfl rfl ?_
        refine ea_getr (k2 := 1) (x2 := 0) (kf := 0) (pc' := 20) kok_0 hVl0 (by decide) rfl fl_X5_10 rfl dX5_speed_17 rfl ?_
        refine ea_getrN (host := RX5) (k2 := 2) (x2 := 0) (kf := 0) (pc' := 23) kok_1 (hCl.1 0 x0 0 1 hVl0 rfl) (by decide) rfl rfl rfl dX5_speed_20 rfl ?_
        refine ea_iload_n (pc' := 24) (i := 1) dX5_speed_23 rfl 1 rfl rfl ?_
        obtain ⟨o3, h⟩ := h
        refine ea_aald (t0 := 4) (cn := RX3) (j := l1.toNatClampNeg) (x2 := l1.toNatClampNeg) (k2 := 3) (pc' := 25) (hCl.1 1 0 0 2 (hCl.1 0 x0 0 1 hVl0 rfl) rfl) rfl rfl o3 dX5_speed_24 rfl (Nat.zero_add _) rfl rfl ?_
        refine ea_iload_n (pc' := 26) (i := 2) dX5_speed_25 rfl 2 rfl rfl ?_
        refine ea_cvi (As := [.int l2]) (st := []) (d := d) (pc' := 29) mv_X3_isLegAhead ml_X5_157 kok_3 (ev_cle (n := 4) (j := l1.toNatClampNeg) (k2 := 3) (x2 := l1.toNatClampNeg) hCl (hCl.1 1 0 0 2 (hCl.1 0 x0 0 1 hVl0 rfl) rfl) rfl rfl o3 rfl rfl (Nat.zero_add _)) rfl rfl dX5_speed_26 rfl (Nat.le_of_ble_eq_true rfl) (ev_room (by decide)) ⟨Nat.le_refl _, Nat.le_refl _⟩ h rfl (fun r4 S5 h => ?_)
        refine ea_if_ne (tgt := 35) (pc' := 32) dX5_speed_29 (by decide) rfl (fun hc => ?_) (fun hc => ?_)
        · replace h := h.1 hc
          refine ea_aload_n (pc' := 36) (i := 0) dX5_speed_35 rfl 0 rfl rfl ?_
          refine ea_iload_n (pc' := 37) (i := 1) dX5_speed_36 rfl 1 rfl rfl ?_
          refine ea_cvr (As := [.int l1]) (st := []) (d := d) (pc' := 40) mv_X5_drawnPlan ml_X5_100 kok_0 hVl0 rfl rfl dX5_speed_37 rfl (Nat.le_of_ble_eq_true rfl) (ev_room (by decide)) ⟨Nat.le_refl _, Nat.le_refl _⟩ h rfl (fun S6 h => ?_)
          obtain ⟨o8, h⟩ := h
          have hW7 : (6, l1.toNatClampNeg) ∈ evKs G := ev_cle (kd := 23) (x := 0) (n := 4) hCl (hCl.1 0 _ 7 23 hVl0 rfl) rfl rfl o8 rfl rfl rfl
          refine ea_astore (lv' := [(4, .ref (evad G 6 l1.toNatClampNeg)), (0, .ref (evad G 0 x0)), (1, .int l1), (2, .int l2), (3, .int l3)]) (pc' := 42) dX5_speed_40 (by decide) rfl rfl ?_
          refine ea_aload (pc' := 44) dX5_speed_42 0 rfl rfl ?_
          refine ea_cvi (As := []) (st := []) (d := d) (pc' := 47) mv_X2_stands ml_X5_104 kok_6 hW7 rfl rfl dX5_speed_44 rfl (Nat.le_of_ble_eq_true rfl) (ev_room (by decide)) ⟨Nat.le_refl _, Nat.le_refl _⟩ h rfl (fun r9 S10 h => ?_)
          refine ea_if_ne (tgt := 53) (pc' := 50) dX5_speed_47 (by decide) rfl (fun hc => ?_) (fun hc => ?_)
          · replace h := h.1 hc
            refine ea_aload (pc' := 55) dX5_speed_53 0 rfl rfl ?_
            refine ea_iload_n (pc' := 56) (i := 2) dX5_speed_55 rfl 3 rfl rfl ?_
            refine ea_cvi (As := [.int l2]) (st := []) (d := d) (pc' := 59) mv_X2_milesAround ml_X5_160 kok_6 hW7 rfl rfl dX5_speed_56 rfl (Nat.le_of_ble_eq_true rfl) (ev_room (by decide)) ⟨Nat.le_refl _, Nat.le_refl _⟩ h rfl (fun r11 S12 h => ?_)
            refine ea_aload (pc' := 61) dX5_speed_59 0 rfl rfl ?_
            refine ea_iload_n (pc' := 62) (i := 2) dX5_speed_61 rfl 3 rfl rfl ?_
            refine ea_cvi (As := [.int l2]) (st := [.int r11]) (d := d) (pc' := 65) mv_X2_hoursAround ml_X5_163 kok_6 hW7 rfl rfl dX5_speed_62 rfl (Nat.le_of_ble_eq_true rfl) (ev_room (by decide)) ⟨Nat.le_refl _, Nat.le_refl _⟩ h rfl (fun r13 S14 h => ?_)
            refine ea_iload_n (pc' := 66) (i := 3) dX5_speed_65 rfl 4 rfl rfl ?_
            refine ea_csi (As := [.int r11, .int r13, .int l3]) (st := []) (d := d) (pc' := 69) mv_X5_partOf ml_X5_153 rfl dX5_speed_66 rfl (Nat.le_of_ble_eq_true rfl) (ev_room (by decide)) ⟨Nat.le_refl _, Nat.le_refl _⟩ h rfl (fun r15 S16 h => ?_)
            exact ea_iret rfl dX5_speed_69 ⟨_, rfl, h⟩
          · replace h := h.2 hc
            refine ea_ldc (v := (-2000000)) (pc' := 52) dX5_speed_50 kc_X5_146 rfl ?_
            exact ea_iret rfl dX5_speed_52 ⟨_, rfl, h⟩
        · replace h := h.2 hc
          refine ea_ldc (v := (-1000000)) (pc' := 34) dX5_speed_32 kc_X5_145 rfl ?_
          exact ea_iret rfl dX5_speed_34 ⟨_, rfl, h⟩
theorem vm_X5_speed {G : evG} {d : Nat} {q : Int32 → evS → Prop} {x0 : Nat} {l1 : Int32} {l2 : Int32} {l3 : Int32} {S : evS} (h : bk_X5_speed_0 G d (evQI q) x0 l1 l2 l3 S) : evSp G yX5_speed M_X5_speed (d + 1) [.ref (evad G 0 x0), .int l1, .int l2, .int l3] S (evQI q) :=
  evSp.of (by decide +kernel) rfl (Nat.le_of_ble_eq_true rfl) h
abbrev bk_X5_closed_0 (G : evG) (d : Nat) (Q : Option Value → evS → Prop) (x0 : Nat) (l1 : Int32) (l2 : Int32) (S : evS) : Prop := evAt G M_X5_closed (evFm G (d + 1) Q) 0 [(0, .ref (evad G 0 x0)), (1, .int l1), (2, .int l2)] [] S
set_option maxRecDepth 100000 in
set_option maxHeartbeats 4000000 in
theorem vb_X5_closed_0 {G : evG} {d : Nat} {q : Int32 → evS → Prop} (hCl : evCl G) {x0 : Nat} {l1 : Int32} {l2 : Int32} {S : evS} (hVl0 : (0, x0) ∈ evKs G)
    (h : (evSp G yX5_isNoShip M_X5_isNoShip d [.int l1] S (evQI fun r1 S2 => ((¬ r1 = 0 → q (-1) S2) ∧ (r1 = 0 → (vp_in l1 4 ∧ (evSp G yX3_isPortAhead M_X3_isPortAhead d [.ref (evad G 3 l1.toNatClampNeg), .int l2] S2 (evQI fun r4 S5 => ((¬ r4 = 0 → (evSp G yX5_drawnPlan M_X5_drawnPlan d [.ref (evad G 0 x0), .int l1] S5 (evQR (evad G 6 l1.toNatClampNeg) fun S6 => (vp_in l1 4 ∧ (evSp G yX2_stands M_X2_stands d [.ref (evad G 6 l1.toNatClampNeg)] S6 (evQI fun r9 S10 => ((r9 = 0 → q (-9) S10) ∧ (¬ r9 = 0 → (evSp G yX2_meetingAt M_X2_meetingAt d [.ref (evad G 6 l1.toNatClampNeg), .int l2] S10 (evQI fun r11 S12 => q r11 S12)))))))))) ∧ (r4 = 0 → q (-1) S5)))))))))) : bk_X5_closed_0 G d (evQI q) x0 l1 l2 S := by
  refine ea_iload_n (pc' := 1) (i := 1) dX5_closed_0 rfl 1 rfl rfl ?_
  refine ea_csi (As := [.int l1]) (st := []) (d := d) (pc' := 4) mv_X5_isNoShip ml_X5_81 rfl dX5_closed_1 rfl (Nat.le_of_ble_eq_true rfl) (ev_room (by decide)) ⟨Nat.le_refl _, Nat.le_refl _⟩ h rfl (fun r1 S2 h => ?_)
  refine ea_if_ne (tgt := 23) (pc' := 7) dX5_closed_4 (by decide) rfl (fun hc => ?_) (fun hc => ?_)
  · replace h := h.1 hc
    refine ea_iconst (v := (-1)) (pc' := 24) dX5_closed_23 (by decide) rfl ?_
    exact ea_iret rfl dX5_closed_24 ⟨_, rfl, h⟩
  · replace h := h.2 hc
    refine ea_aload_n (pc' := 8) (i := 0) dX5_closed_7 rfl 0 rfl rfl ?_
    refine ea_getr (k2 := 1) (x2 := 0) (kf := 0) (pc' := 11) kok_0 hVl0 (by decide) rfl fl_X5_10 rfl dX5_closed_8 rfl ?_
    refine ea_getrN (host := RX5) (k2 := 2) (x2 := 0) (kf := 0) (pc' := 14) kok_1 (hCl.1 0 x0 0 1 hVl0 rfl) (by decide) rfl rfl rfl dX5_closed_11 rfl ?_
    refine ea_iload_n (pc' := 15) (i := 1) dX5_closed_14 rfl 1 rfl rfl ?_
    obtain ⟨o3, h⟩ := h
    refine ea_aald (t0 := 4) (cn := RX3) (j := l1.toNatClampNeg) (x2 := l1.toNatClampNeg) (k2 := 3) (pc' := 16) (hCl.1 1 0 0 2 (hCl.1 0 x0 0 1 hVl0 rfl) rfl) rfl rfl o3 dX5_closed_15 rfl (Nat.zero_add _) rfl rfl ?_
    refine ea_iload_n (pc' := 17) (i := 2) dX5_closed_16 rfl 2 rfl rfl ?_
    refine ea_cvi (As := [.int l2]) (st := []) (d := d) (pc' := 20) mv_X3_isPortAhead ml_X5_126 kok_3 (ev_cle (n := 4) (j := l1.toNatClampNeg) (k2 := 3) (x2 := l1.toNatClampNeg) hCl (hCl.1 1 0 0 2 (hCl.1 0 x0 0 1 hVl0 rfl) rfl) rfl rfl o3 rfl rfl (Nat.zero_add _)) rfl rfl dX5_closed_17 rfl (Nat.le_of_ble_eq_true rfl) (ev_room (by decide)) ⟨Nat.le_refl _, Nat.le_refl _⟩ h rfl (fun r4 S5 h => ?_)
    refine ea_if_ne (tgt := 25) (pc' := 23) dX5_closed_20 (by decide) rfl (fun hc => ?_) (fun hc => ?_)
    · replace h := h.1 hc
      refine ea_aload_n (pc' := 26) (i := 0) dX5_closed_25 rfl 0 rfl rfl ?_
      refine ea_iload_n (pc' := 27) (i := 1) dX5_closed_26 rfl 1 rfl rfl ?_
      refine ea_cvr (As := [.int l1]) (st := []) (d := d) (pc' := 30) mv_X5_drawnPlan ml_X5_100 kok_0 hVl0 rfl rfl dX5_closed_27 rfl (Nat.le_of_ble_eq_true rfl) (ev_room (by decide)) ⟨Nat.le_refl _, Nat.le_refl _⟩ h rfl (fun S6 h => ?_)
      obtain ⟨o8, h⟩ := h
      have hW7 : (6, l1.toNatClampNeg) ∈ evKs G := ev_cle (kd := 23) (x := 0) (n := 4) hCl (hCl.1 0 _ 7 23 hVl0 rfl) rfl rfl o8 rfl rfl rfl
      refine ea_astore_n (lv' := [(3, .ref (evad G 6 l1.toNatClampNeg)), (0, .ref (evad G 0 x0)), (1, .int l1), (2, .int l2)]) (pc' := 31) dX5_closed_30 rfl (by decide) rfl rfl ?_
      refine ea_aload_n (pc' := 32) (i := 3) dX5_closed_31 rfl 0 rfl rfl ?_
      refine ea_cvi (As := []) (st := []) (d := d) (pc' := 35) mv_X2_stands ml_X5_104 kok_6 hW7 rfl rfl dX5_closed_32 rfl (Nat.le_of_ble_eq_true rfl) (ev_room (by decide)) ⟨Nat.le_refl _, Nat.le_refl _⟩ h rfl (fun r9 S10 h => ?_)
      refine ea_if_eq (tgt := 46) (pc' := 38) dX5_closed_35 (by decide) rfl (fun hc => ?_) (fun hc => ?_)
      · replace h := h.1 hc
        refine ea_bipush (v := (-9)) (pc' := 48) dX5_closed_46 (by decide) rfl ?_
        exact ea_iret rfl dX5_closed_48 ⟨_, rfl, h⟩
      · replace h := h.2 hc
        refine ea_aload_n (pc' := 39) (i := 3) dX5_closed_38 rfl 0 rfl rfl ?_
        refine ea_iload_n (pc' := 40) (i := 2) dX5_closed_39 rfl 3 rfl rfl ?_
        refine ea_cvi (As := [.int l2]) (st := []) (d := d) (pc' := 43) mv_X2_meetingAt ml_X5_166 kok_6 hW7 rfl rfl dX5_closed_40 rfl (Nat.le_of_ble_eq_true rfl) (ev_room (by decide)) ⟨Nat.le_refl _, Nat.le_refl _⟩ h rfl (fun r11 S12 h => ?_)
        refine ea_goto (tgt := 48) dX5_closed_43 (by decide) ?_
        exact ea_iret rfl dX5_closed_48 ⟨_, rfl, h⟩
    · replace h := h.2 hc
      refine ea_iconst (v := (-1)) (pc' := 24) dX5_closed_23 (by decide) rfl ?_
      exact ea_iret rfl dX5_closed_24 ⟨_, rfl, h⟩
theorem vm_X5_closed {G : evG} {d : Nat} {q : Int32 → evS → Prop} {x0 : Nat} {l1 : Int32} {l2 : Int32} {S : evS} (h : bk_X5_closed_0 G d (evQI q) x0 l1 l2 S) : evSp G yX5_closed M_X5_closed (d + 1) [.ref (evad G 0 x0), .int l1, .int l2] S (evQI q) :=
  evSp.of (by decide +kernel) rfl (Nat.le_of_ble_eq_true rfl) h
abbrev bk_X5_cost_0 (G : evG) (d : Nat) (Q : Option Value → evS → Prop) (x0 : Nat) (l1 : Int32) (l2 : Int32) (S : evS) : Prop := evAt G M_X5_cost (evFm G (d + 1) Q) 0 [(0, .ref (evad G 0 x0)), (1, .int l1), (2, .int l2)] [] S
set_option maxRecDepth 100000 in
set_option maxHeartbeats 4000000 in
theorem vb_X5_cost_0 {G : evG} {d : Nat} {q : Int32 → evS → Prop} (hCl : evCl G) {x0 : Nat} {l1 : Int32} {l2 : Int32} {S : evS} (hVl0 : (0, x0) ∈ evKs G)
    (h : (evSp G yX5_isNoShip M_X5_isNoShip d [.int l1] S (evQI fun r1 S2 => ((¬ r1 = 0 → q (-1) S2) ∧ (r1 = 0 → (vp_in l1 4 ∧ (evSp G yX3_isLegAhead M_X3_isLegAhead d [.ref (evad G 3 l1.toNatClampNeg), .int l2] S2 (evQI fun r4 S5 => ((¬ r4 = 0 → (evSp G yX5_drawnPlan M_X5_drawnPlan d [.ref (evad G 0 x0), .int l1] S5 (evQR (evad G 6 l1.toNatClampNeg) fun S6 => (vp_in l1 4 ∧ (evSp G yX2_stands M_X2_stands d [.ref (evad G 6 l1.toNatClampNeg)] S6 (evQI fun r9 S10 => ((r9 = 0 → q (-9) S10) ∧ (¬ r9 = 0 → (evSp G yX2_burntOnLeg M_X2_burntOnLeg d [.ref (evad G 6 l1.toNatClampNeg), .int l2] S10 (evQI fun r11 S12 => q r11 S12)))))))))) ∧ (r4 = 0 → q (-1) S5)))))))))) : bk_X5_cost_0 G d (evQI q) x0 l1 l2 S := by
  refine ea_iload_n (pc' := 1) (i := 1) dX5_cost_0 rfl 1 rfl rfl ?_
  refine ea_csi (As := [.int l1]) (st := []) (d := d) (pc' := 4) mv_X5_isNoShip ml_X5_81 rfl dX5_cost_1 rfl (Nat.le_of_ble_eq_true rfl) (ev_room (by decide)) ⟨Nat.le_refl _, Nat.le_refl _⟩ h rfl (fun r1 S2 h => ?_)
  refine ea_if_ne (tgt := 23) (pc' := 7) dX5_cost_4 (by decide) rfl (fun hc => ?_) (fun hc => ?_)
  · replace h := h.1 hc
    refine ea_iconst (v := (-1)) (pc' := 24) dX5_cost_23 (by decide) rfl ?_
    exact ea_iret rfl dX5_cost_24 ⟨_, rfl, h⟩
  · replace h := h.2 hc
    refine ea_aload_n (pc' := 8) (i := 0) dX5_cost_7 rfl 0 rfl rfl ?_
    refine ea_getr (k2 := 1) (x2 := 0) (kf := 0) (pc' := 11) kok_0 hVl0 (by decide) rfl fl_X5_10 rfl dX5_cost_8 rfl ?_
    refine ea_getrN (host := RX5) (k2 := 2) (x2 := 0) (kf := 0) (pc' := 14) kok_1 (hCl.1 0 x0 0 1 hVl0 rfl) (by decide) rfl rfl rfl dX5_cost_11 rfl ?_
    refine ea_iload_n (pc' := 15) (i := 1) dX5_cost_14 rfl 1 rfl rfl ?_
    obtain ⟨o3, h⟩ := h
    refine ea_aald (t0 := 4) (cn := RX3) (j := l1.toNatClampNeg) (x2 := l1.toNatClampNeg) (k2 := 3) (pc' := 16) (hCl.1 1 0 0 2 (hCl.1 0 x0 0 1 hVl0 rfl) rfl) rfl rfl o3 dX5_cost_15 rfl (Nat.zero_add _) rfl rfl ?_
    refine ea_iload_n (pc' := 17) (i := 2) dX5_cost_16 rfl 2 rfl rfl ?_
    refine ea_cvi (As := [.int l2]) (st := []) (d := d) (pc' := 20) mv_X3_isLegAhead ml_X5_157 kok_3 (ev_cle (n := 4) (j := l1.toNatClampNeg) (k2 := 3) (x2 := l1.toNatClampNeg) hCl (hCl.1 1 0 0 2 (hCl.1 0 x0 0 1 hVl0 rfl) rfl) rfl rfl o3 rfl rfl (Nat.zero_add _)) rfl rfl dX5_cost_17 rfl (Nat.le_of_ble_eq_true rfl) (ev_room (by decide)) ⟨Nat.le_refl _, Nat.le_refl _⟩ h rfl (fun r4 S5 h => ?_)
    refine ea_if_ne (tgt := 25) (pc' := 23) dX5_cost_20 (by decide) rfl (fun hc => ?_) (fun hc => ?_)
    · replace h := h.1 hc
      refine ea_aload_n (pc' := 26) (i := 0) dX5_cost_25 rfl 0 rfl rfl ?_
      refine ea_iload_n (pc' := 27) (i := 1) dX5_cost_26 rfl 1 rfl rfl ?_
      refine ea_cvr (As := [.int l1]) (st := []) (d := d) (pc' := 30) mv_X5_drawnPlan ml_X5_100 kok_0 hVl0 rfl rfl dX5_cost_27 rfl (Nat.le_of_ble_eq_true rfl) (ev_room (by decide)) ⟨Nat.le_refl _, Nat.le_refl _⟩ h rfl (fun S6 h => ?_)
      obtain ⟨o8, h⟩ := h
      have hW7 : (6, l1.toNatClampNeg) ∈ evKs G := ev_cle (kd := 23) (x := 0) (n := 4) hCl (hCl.1 0 _ 7 23 hVl0 rfl) rfl rfl o8 rfl rfl rfl
      refine ea_astore_n (lv' := [(3, .ref (evad G 6 l1.toNatClampNeg)), (0, .ref (evad G 0 x0)), (1, .int l1), (2, .int l2)]) (pc' := 31) dX5_cost_30 rfl (by decide) rfl rfl ?_
      refine ea_aload_n (pc' := 32) (i := 3) dX5_cost_31 rfl 0 rfl rfl ?_
      refine ea_cvi (As := []) (st := []) (d := d) (pc' := 35) mv_X2_stands ml_X5_104 kok_6 hW7 rfl rfl dX5_cost_32 rfl (Nat.le_of_ble_eq_true rfl) (ev_room (by decide)) ⟨Nat.le_refl _, Nat.le_refl _⟩ h rfl (fun r9 S10 h => ?_)
      refine ea_if_eq (tgt := 46) (pc' := 38) dX5_cost_35 (by decide) rfl (fun hc => ?_) (fun hc => ?_)
      · replace h := h.1 hc
        refine ea_bipush (v := (-9)) (pc' := 48) dX5_cost_46 (by decide) rfl ?_
        exact ea_iret rfl dX5_cost_48 ⟨_, rfl, h⟩
      · replace h := h.2 hc
        refine ea_aload_n (pc' := 39) (i := 3) dX5_cost_38 rfl 0 rfl rfl ?_
        refine ea_iload_n (pc' := 40) (i := 2) dX5_cost_39 rfl 3 rfl rfl ?_
        refine ea_cvi (As := [.int l2]) (st := []) (d := d) (pc' := 43) mv_X2_burntOnLeg ml_X5_119 kok_6 hW7 rfl rfl dX5_cost_40 rfl (Nat.le_of_ble_eq_true rfl) (ev_room (by decide)) ⟨Nat.le_refl _, Nat.le_refl _⟩ h rfl (fun r11 S12 h => ?_)
        refine ea_goto (tgt := 48) dX5_cost_43 (by decide) ?_
        exact ea_iret rfl dX5_cost_48 ⟨_, rfl, h⟩
    · replace h := h.2 hc
      refine ea_iconst (v := (-1)) (pc' := 24) dX5_cost_23 (by decide) rfl ?_
      exact ea_iret rfl dX5_cost_24 ⟨_, rfl, h⟩
theorem vm_X5_cost {G : evG} {d : Nat} {q : Int32 → evS → Prop} {x0 : Nat} {l1 : Int32} {l2 : Int32} {S : evS} (h : bk_X5_cost_0 G d (evQI q) x0 l1 l2 S) : evSp G yX5_cost M_X5_cost (d + 1) [.ref (evad G 0 x0), .int l1, .int l2] S (evQI q) :=
  evSp.of (by decide +kernel) rfl (Nat.le_of_ble_eq_true rfl) h
abbrev bk_X5_slack_0 (G : evG) (d : Nat) (Q : Option Value → evS → Prop) (x0 : Nat) (l1 : Int32) (S : evS) : Prop := evAt G M_X5_slack (evFm G (d + 1) Q) 0 [(0, .ref (evad G 0 x0)), (1, .int l1)] [] S
abbrev bk_X5_slack_37 (G : evG) (d : Nat) (Q : Option Value → evS → Prop) (x0 : Nat) (l2 : Int32) (l3 : Int32) (S : evS) : Prop := evAt G M_X5_slack (evFm G (d + 1) Q) 37 [(0, .ref (evad G 0 x0)), (2, .int l2), (3, .int l3)] [] S
set_option maxRecDepth 100000 in
set_option maxHeartbeats 4000000 in
theorem vb_X5_slack_0 {G : evG} {d : Nat} {q : Int32 → evS → Prop} (hCl : evCl G) {x0 : Nat} {l1 : Int32} {S : evS} (hVl0 : (0, x0) ∈ evKs G)
    (h : (evSp G yX5_isNoShip M_X5_isNoShip d [.int l1] S (evQI fun r1 S2 => ((r1 = 0 → (vp_in l1 4 ∧ (evSp G yX3_becomeLike M_X3_becomeLike d [.ref (evad G 3 36), .ref (evad G 3 l1.toNatClampNeg)] S2 (evQV fun S4 => (evSp G yX3_trait M_X3_trait d [.ref (evad G 3 36), .int 3] S4 (evQI fun r5 S6 => bk_X5_slack_37 G d (evQI q) x0 r5 99 S6)))))) ∧ (¬ r1 = 0 → q (-1) S2))))) : bk_X5_slack_0 G d (evQI q) x0 l1 S := by
  refine ea_iload_n (pc' := 1) (i := 1) dX5_slack_0 rfl 1 rfl rfl ?_
  refine ea_csi (As := [.int l1]) (st := []) (d := d) (pc' := 4) mv_X5_isNoShip ml_X5_81 rfl dX5_slack_1 rfl (Nat.le_of_ble_eq_true rfl) (ev_room (by decide)) ⟨Nat.le_refl _, Nat.le_refl _⟩ h rfl (fun r1 S2 h => ?_)
  refine ea_if_eq (tgt := 9) (pc' := 7) dX5_slack_4 (by decide) rfl (fun hc => ?_) (fun hc => ?_)
  · replace h := h.1 hc
    refine ea_aload_n (pc' := 10) (i := 0) dX5_slack_9 rfl 0 rfl rfl ?_
    refine ea_getr (k2 := 3) (x2 := 36) (kf := 5) (pc' := 13) kok_0 hVl0 (by decide) rfl fl_X5_41 rfl dX5_slack_10 rfl ?_
    refine ea_aload_n (pc' := 14) (i := 0) dX5_slack_13 rfl 0 rfl rfl ?_
    refine ea_getr (k2 := 1) (x2 := 0) (kf := 0) (pc' := 17) kok_0 hVl0 (by decide) rfl fl_X5_10 rfl dX5_slack_14 rfl ?_
    refine ea_getrN (host := RX5) (k2 := 2) (x2 := 0) (kf := 0) (pc' := 20) kok_1 (hCl.1 0 x0 0 1 hVl0 rfl) (by decide) rfl rfl rfl dX5_slack_17 rfl ?_
    refine ea_iload_n (pc' := 21) (i := 1) dX5_slack_20 rfl 1 rfl rfl ?_
    obtain ⟨o3, h⟩ := h
    refine ea_aald (t0 := 4) (cn := RX3) (j := l1.toNatClampNeg) (x2 := l1.toNatClampNeg) (k2 := 3) (pc' := 22) (hCl.1 1 0 0 2 (hCl.1 0 x0 0 1 hVl0 rfl) rfl) rfl rfl o3 dX5_slack_21 rfl (Nat.zero_add _) rfl rfl ?_
    refine ea_cvv (As := [.ref (evad G 3 l1.toNatClampNeg)]) (st := []) (d := d) (pc' := 25) mv_X3_becomeLike ml_X5_96 kok_3 (hCl.1 0 x0 5 3 hVl0 rfl) rfl rfl dX5_slack_22 rfl (Nat.le_of_ble_eq_true rfl) (ev_room (by decide)) ⟨Nat.le_refl _, Nat.le_refl _⟩ h rfl (fun S4 h => ?_)
    refine ea_aload_n (pc' := 26) (i := 0) dX5_slack_25 rfl 0 rfl rfl ?_
    refine ea_getr (k2 := 3) (x2 := 36) (kf := 5) (pc' := 29) kok_0 hVl0 (by decide) rfl fl_X5_41 rfl dX5_slack_26 rfl ?_
    refine ea_iconst (v := 3) (pc' := 30) dX5_slack_29 (by decide) rfl ?_
    refine ea_cvi (As := [.int 3]) (st := []) (d := d) (pc' := 33) mv_X3_trait ml_X5_108 kok_3 (hCl.1 0 x0 5 3 hVl0 rfl) rfl rfl dX5_slack_30 rfl (Nat.le_of_ble_eq_true rfl) (ev_room (by decide)) ⟨Nat.le_refl _, Nat.le_refl _⟩ h rfl (fun r5 S6 h => ?_)
    refine ea_istore_n (lv' := [(2, .int r5), (0, .ref (evad G 0 x0)), (1, .int l1)]) (pc' := 34) dX5_slack_33 rfl (by decide) rfl rfl ?_
    refine ea_bipush (v := 99) (pc' := 36) dX5_slack_34 (by decide) rfl ?_
    refine ea_istore_n (lv' := [(3, .int 99), (2, .int r5), (0, .ref (evad G 0 x0)), (1, .int l1)]) (pc' := 37) dX5_slack_36 rfl (by decide) rfl rfl ?_
    refine ea_loc [2, 1, 0] rfl ?_
    exact h
  · replace h := h.2 hc
    refine ea_iconst (v := (-1)) (pc' := 8) dX5_slack_7 (by decide) rfl ?_
    exact ea_iret rfl dX5_slack_8 ⟨_, rfl, h⟩
set_option maxRecDepth 100000 in
set_option maxHeartbeats 4000000 in
theorem vb_X5_slack_37 {G : evG} {d : Nat} {q : Int32 → evS → Prop} (hCl : evCl G) {x0 : Nat} {l2 : Int32} {l3 : Int32} {S : evS} (hVl0 : (0, x0) ∈ evKs G)
    (h : ((l3 < 0 → q (-9) S) ∧ (¬ l3 < 0 → (evSp G yX3_setTrait M_X3_setTrait d [.ref (evad G 3 36), .int 3, .int (l2 + l3)] S (evQV fun S1 => (evSp G yX2_draw M_X2_draw d [.ref (evad G 6 4), .ref (evad G 3 36)] S1 (evQV fun S2 => (evSp G yX2_stands M_X2_stands d [.ref (evad G 6 4)] S2 (evQI fun r3 S4 => ((r3 = 0 → (∀ v5 : Int32, v5 = (l3 + (-1)) → bk_X5_slack_37 G d (evQI q) x0 l2 v5 S4)) ∧ (¬ r3 = 0 → q l3 S4))))))))))) : bk_X5_slack_37 G d (evQI q) x0 l2 l3 S := by
  refine ea_iload_n (pc' := 38) (i := 3) dX5_slack_37 rfl 2 rfl rfl ?_
  refine ea_if_lt (tgt := 81) (pc' := 41) dX5_slack_38 (by decide) rfl (fun hc => ?_) (fun hc => ?_)
  · replace h := h.1 hc
    refine ea_bipush (v := (-9)) (pc' := 83) dX5_slack_81 (by decide) rfl ?_
    exact ea_iret rfl dX5_slack_83 ⟨_, rfl, h⟩
  · replace h := h.2 hc
    refine ea_aload_n (pc' := 42) (i := 0) dX5_slack_41 rfl 0 rfl rfl ?_
    refine ea_getr (k2 := 3) (x2 := 36) (kf := 5) (pc' := 45) kok_0 hVl0 (by decide) rfl fl_X5_41 rfl dX5_slack_42 rfl ?_
    refine ea_iconst (v := 3) (pc' := 46) dX5_slack_45 (by decide) rfl ?_
    refine ea_iload_n (pc' := 47) (i := 2) dX5_slack_46 rfl 1 rfl rfl ?_
    refine ea_iload_n (pc' := 48) (i := 3) dX5_slack_47 rfl 2 rfl rfl ?_
    refine ea_iadd (pc' := 49) dX5_slack_48 rfl ?_
    refine ea_cvv (As := [.int 3, .int (l2 + l3)]) (st := []) (d := d) (pc' := 52) mv_X3_setTrait ml_X5_122 kok_3 (hCl.1 0 x0 5 3 hVl0 rfl) rfl rfl dX5_slack_49 rfl (Nat.le_of_ble_eq_true rfl) (ev_room (by decide)) ⟨Nat.le_refl _, Nat.le_refl _⟩ h rfl (fun S1 h => ?_)
    refine ea_aload_n (pc' := 53) (i := 0) dX5_slack_52 rfl 0 rfl rfl ?_
    refine ea_getr (k2 := 6) (x2 := 4) (kf := 6) (pc' := 56) kok_0 hVl0 (by decide) rfl fl_X5_48 rfl dX5_slack_53 rfl ?_
    refine ea_aload_n (pc' := 57) (i := 0) dX5_slack_56 rfl 0 rfl rfl ?_
    refine ea_getr (k2 := 3) (x2 := 36) (kf := 5) (pc' := 60) kok_0 hVl0 (by decide) rfl fl_X5_41 rfl dX5_slack_57 rfl ?_
    refine ea_cvv (As := [.ref (evad G 3 36)]) (st := []) (d := d) (pc' := 63) mv_X2_draw ml_X5_169 kok_6 (hCl.1 0 x0 6 6 hVl0 rfl) rfl rfl dX5_slack_60 rfl (Nat.le_of_ble_eq_true rfl) (ev_room (by decide)) ⟨Nat.le_refl _, Nat.le_refl _⟩ h rfl (fun S2 h => ?_)
    refine ea_aload_n (pc' := 64) (i := 0) dX5_slack_63 rfl 0 rfl rfl ?_
    refine ea_getr (k2 := 6) (x2 := 4) (kf := 6) (pc' := 67) kok_0 hVl0 (by decide) rfl fl_X5_48 rfl dX5_slack_64 rfl ?_
    refine ea_cvi (As := []) (st := []) (d := d) (pc' := 70) mv_X2_stands ml_X5_104 kok_6 (hCl.1 0 x0 6 6 hVl0 rfl) rfl rfl dX5_slack_67 rfl (Nat.le_of_ble_eq_true rfl) (ev_room (by decide)) ⟨Nat.le_refl _, Nat.le_refl _⟩ h rfl (fun r3 S4 h => ?_)
    refine ea_if_eq (tgt := 75) (pc' := 73) dX5_slack_70 (by decide) rfl (fun hc => ?_) (fun hc => ?_)
    · replace h := h.1 hc
      obtain ⟨v5, hv5⟩ : ∃ z : Int32, z = (l3 + (-1)) := ⟨_, rfl⟩
      replace h := h v5 hv5
      refine ea_iinc (q := 2) (v := v5) (lv' := [(3, .int v5), (0, .ref (evad G 0 x0)), (2, .int l2)]) (pc' := 78) dX5_slack_75 rfl (by rw [hv5]; rfl) (by decide) rfl rfl ?_
      refine ea_goto (tgt := 37) dX5_slack_78 (by decide) ?_
      refine ea_loc [1, 2, 0] rfl ?_
      exact h
    · replace h := h.2 hc
      refine ea_iload_n (pc' := 74) (i := 3) dX5_slack_73 rfl 2 rfl rfl ?_
      exact ea_iret rfl dX5_slack_74 ⟨_, rfl, h⟩
theorem vm_X5_slack {G : evG} {d : Nat} {q : Int32 → evS → Prop} {x0 : Nat} {l1 : Int32} {S : evS} (h : bk_X5_slack_0 G d (evQI q) x0 l1 S) : evSp G yX5_slack M_X5_slack (d + 1) [.ref (evad G 0 x0), .int l1] S (evQI q) :=
  evSp.of (by decide +kernel) rfl (Nat.le_of_ble_eq_true rfl) h
abbrev bk_X5_needs_0 (G : evG) (d : Nat) (Q : Option Value → evS → Prop) (x0 : Nat) (l1 : Int32) (S : evS) : Prop := evAt G M_X5_needs (evFm G (d + 1) Q) 0 [(0, .ref (evad G 0 x0)), (1, .int l1)] [] S
set_option maxRecDepth 100000 in
set_option maxHeartbeats 4000000 in
theorem vb_X5_needs_0 {G : evG} {d : Nat} {q : Int32 → evS → Prop} (hCl : evCl G) {x0 : Nat} {l1 : Int32} {S : evS} (hVl0 : (0, x0) ∈ evKs G)
    (h : (evSp G yX5_isNoShip M_X5_isNoShip d [.int l1] S (evQI fun r1 S2 => ((r1 = 0 → (evSp G yX5_drawnPlan M_X5_drawnPlan d [.ref (evad G 0 x0), .int l1] S2 (evQR (evad G 6 l1.toNatClampNeg) fun S3 => (vp_in l1 4 ∧ (evSp G yX2_neededSpeed M_X2_neededSpeed d [.ref (evad G 6 l1.toNatClampNeg)] S3 (evQI fun r6 S7 => ((¬ r6 = 0 → q r6 S7) ∧ (r6 = 0 → q (-9) S7)))))))) ∧ (¬ r1 = 0 → q (-1) S2))))) : bk_X5_needs_0 G d (evQI q) x0 l1 S := by
  refine ea_iload_n (pc' := 1) (i := 1) dX5_needs_0 rfl 1 rfl rfl ?_
  refine ea_csi (As := [.int l1]) (st := []) (d := d) (pc' := 4) mv_X5_isNoShip ml_X5_81 rfl dX5_needs_1 rfl (Nat.le_of_ble_eq_true rfl) (ev_room (by decide)) ⟨Nat.le_refl _, Nat.le_refl _⟩ h rfl (fun r1 S2 h => ?_)
  refine ea_if_eq (tgt := 9) (pc' := 7) dX5_needs_4 (by decide) rfl (fun hc => ?_) (fun hc => ?_)
  · replace h := h.1 hc
    refine ea_aload_n (pc' := 10) (i := 0) dX5_needs_9 rfl 0 rfl rfl ?_
    refine ea_iload_n (pc' := 11) (i := 1) dX5_needs_10 rfl 1 rfl rfl ?_
    refine ea_cvr (As := [.int l1]) (st := []) (d := d) (pc' := 14) mv_X5_drawnPlan ml_X5_100 kok_0 hVl0 rfl rfl dX5_needs_11 rfl (Nat.le_of_ble_eq_true rfl) (ev_room (by decide)) ⟨Nat.le_refl _, Nat.le_refl _⟩ h rfl (fun S3 h => ?_)
    obtain ⟨o5, h⟩ := h
    have hW4 : (6, l1.toNatClampNeg) ∈ evKs G := ev_cle (kd := 23) (x := 0) (n := 4) hCl (hCl.1 0 _ 7 23 hVl0 rfl) rfl rfl o5 rfl rfl rfl
    refine ea_cvi (As := []) (st := []) (d := d) (pc' := 17) mv_X2_neededSpeed ml_X5_172 kok_6 hW4 rfl rfl dX5_needs_14 rfl (Nat.le_of_ble_eq_true rfl) (ev_room (by decide)) ⟨Nat.le_refl _, Nat.le_refl _⟩ h rfl (fun r6 S7 h => ?_)
    refine ea_istore_n (lv' := [(2, .int r6), (0, .ref (evad G 0 x0)), (1, .int l1)]) (pc' := 18) dX5_needs_17 rfl (by decide) rfl rfl ?_
    refine ea_iload_n (pc' := 19) (i := 2) dX5_needs_18 rfl 0 rfl rfl ?_
    refine ea_if_ne (tgt := 27) (pc' := 22) dX5_needs_19 (by decide) rfl (fun hc => ?_) (fun hc => ?_)
    · replace h := h.1 hc
      refine ea_iload_n (pc' := 28) (i := 2) dX5_needs_27 rfl 0 rfl rfl ?_
      exact ea_iret rfl dX5_needs_28 ⟨_, rfl, h⟩
    · replace h := h.2 hc
      refine ea_bipush (v := (-9)) (pc' := 24) dX5_needs_22 (by decide) rfl ?_
      refine ea_goto (tgt := 28) dX5_needs_24 (by decide) ?_
      exact ea_iret rfl dX5_needs_28 ⟨_, rfl, h⟩
  · replace h := h.2 hc
    refine ea_iconst (v := (-1)) (pc' := 8) dX5_needs_7 (by decide) rfl ?_
    exact ea_iret rfl dX5_needs_8 ⟨_, rfl, h⟩
theorem vm_X5_needs {G : evG} {d : Nat} {q : Int32 → evS → Prop} {x0 : Nat} {l1 : Int32} {S : evS} (h : bk_X5_needs_0 G d (evQI q) x0 l1 S) : evSp G yX5_needs M_X5_needs (d + 1) [.ref (evad G 0 x0), .int l1] S (evQI q) :=
  evSp.of (by decide +kernel) rfl (Nat.le_of_ble_eq_true rfl) h
abbrev bk_X5_eased_0 (G : evG) (d : Nat) (Q : Option Value → evS → Prop) (x0 : Nat) (l1 : Int32) (S : evS) : Prop := evAt G M_X5_eased (evFm G (d + 1) Q) 0 [(0, .ref (evad G 0 x0)), (1, .int l1)] [] S
abbrev bk_X5_eased_37 (G : evG) (d : Nat) (Q : Option Value → evS → Prop) (x0 : Nat) (x2 : Nat) (x3 : Nat) (s0 : Int32) (S : evS) : Prop := evAt G M_X5_eased (evFm G (d + 1) Q) 37 [(0, .ref (evad G 0 x0)), (2, .ref (evad G 3 x2)), (3, .ref (evad G 6 x3))] [.int s0] S
abbrev bk_X5_eased_52 (G : evG) (d : Nat) (Q : Option Value → evS → Prop) (x0 : Nat) (x2 : Nat) (l4 : Int32) (s0 : Int32) (S : evS) : Prop := evAt G M_X5_eased (evFm G (d + 1) Q) 52 [(0, .ref (evad G 0 x0)), (2, .ref (evad G 3 x2)), (4, .int l4)] [.int s0] S
abbrev bk_X5_eased_67 (G : evG) (d : Nat) (Q : Option Value → evS → Prop) (x0 : Nat) (x2 : Nat) (l4 : Int32) (l5 : Int32) (l6 : Int32) (l7 : Int32) (S : evS) : Prop := evAt G M_X5_eased (evFm G (d + 1) Q) 67 [(0, .ref (evad G 0 x0)), (2, .ref (evad G 3 x2)), (4, .int l4), (5, .int l5), (6, .int l6), (7, .int l7)] [] S
abbrev bk_X5_eased_80 (G : evG) (d : Nat) (Q : Option Value → evS → Prop) (x0 : Nat) (x2 : Nat) (l4 : Int32) (l5 : Int32) (l6 : Int32) (l7 : Int32) (l8 : Int32) (S : evS) : Prop := evAt G M_X5_eased (evFm G (d + 1) Q) 80 [(0, .ref (evad G 0 x0)), (2, .ref (evad G 3 x2)), (4, .int l4), (5, .int l5), (6, .int l6), (7, .int l7), (8, .int l8)] [] S
abbrev bk_X5_eased_129 (G : evG) (d : Nat) (Q : Option Value → evS → Prop) (x0 : Nat) (x2 : Nat) (l7 : Int32) (l8 : Int32) (l9 : Int32) (S : evS) : Prop := evAt G M_X5_eased (evFm G (d + 1) Q) 129 [(0, .ref (evad G 0 x0)), (2, .ref (evad G 3 x2)), (7, .int l7), (8, .int l8), (9, .int l9)] [] S
abbrev bk_X5_eased_145 (G : evG) (d : Nat) (Q : Option Value → evS → Prop) (x0 : Nat) (x2 : Nat) (l4 : Int32) (l5 : Int32) (l6 : Int32) (l7 : Int32) (l8 : Int32) (S : evS) : Prop := evAt G M_X5_eased (evFm G (d + 1) Q) 145 [(0, .ref (evad G 0 x0)), (2, .ref (evad G 3 x2)), (4, .int l4), (5, .int l5), (6, .int l6), (7, .int l7), (8, .int l8)] [] S
set_option maxRecDepth 100000 in
set_option maxHeartbeats 4000000 in
theorem vb_X5_eased_0 {G : evG} {d : Nat} {q : Int32 → evS → Prop} (hCl : evCl G) {x0 : Nat} {l1 : Int32} {S : evS} (hVl0 : (0, x0) ∈ evKs G)
    (h : (evSp G yX5_isNoShip M_X5_isNoShip d [.int l1] S (evQI fun r1 S2 => ((r1 = 0 → (vp_in l1 4 ∧ (evSp G yX5_drawnPlan M_X5_drawnPlan d [.ref (evad G 0 x0), .int l1] S2 (evQR (evad G 6 l1.toNatClampNeg) fun S4 => (vp_in l1 4 ∧ (evSp G yX2_stands M_X2_stands d [.ref (evad G 6 l1.toNatClampNeg)] S4 (evQI fun r7 S8 => ((¬ r7 = 0 → bk_X5_eased_37 G d (evQI q) x0 l1.toNatClampNeg l1.toNatClampNeg 0 S8) ∧ (r7 = 0 → bk_X5_eased_37 G d (evQI q) x0 l1.toNatClampNeg l1.toNatClampNeg 1 S8))))))))) ∧ (¬ r1 = 0 → q (-1) S2))))) : bk_X5_eased_0 G d (evQI q) x0 l1 S := by
  refine ea_iload_n (pc' := 1) (i := 1) dX5_eased_0 rfl 1 rfl rfl ?_
  refine ea_csi (As := [.int l1]) (st := []) (d := d) (pc' := 4) mv_X5_isNoShip ml_X5_81 rfl dX5_eased_1 rfl (Nat.le_of_ble_eq_true rfl) (ev_room (by decide)) ⟨Nat.le_refl _, Nat.le_refl _⟩ h rfl (fun r1 S2 h => ?_)
  refine ea_if_eq (tgt := 9) (pc' := 7) dX5_eased_4 (by decide) rfl (fun hc => ?_) (fun hc => ?_)
  · replace h := h.1 hc
    refine ea_aload_n (pc' := 10) (i := 0) dX5_eased_9 rfl 0 rfl rfl ?_
    refine ea_getr (k2 := 1) (x2 := 0) (kf := 0) (pc' := 13) kok_0 hVl0 (by decide) rfl fl_X5_10 rfl dX5_eased_10 rfl ?_
    refine ea_getrN (host := RX5) (k2 := 2) (x2 := 0) (kf := 0) (pc' := 16) kok_1 (hCl.1 0 x0 0 1 hVl0 rfl) (by decide) rfl rfl rfl dX5_eased_13 rfl ?_
    refine ea_iload_n (pc' := 17) (i := 1) dX5_eased_16 rfl 1 rfl rfl ?_
    obtain ⟨o3, h⟩ := h
    refine ea_aald (t0 := 4) (cn := RX3) (j := l1.toNatClampNeg) (x2 := l1.toNatClampNeg) (k2 := 3) (pc' := 18) (hCl.1 1 0 0 2 (hCl.1 0 x0 0 1 hVl0 rfl) rfl) rfl rfl o3 dX5_eased_17 rfl (Nat.zero_add _) rfl rfl ?_
    refine ea_astore_n (lv' := [(2, .ref (evad G 3 l1.toNatClampNeg)), (0, .ref (evad G 0 x0)), (1, .int l1)]) (pc' := 19) dX5_eased_18 rfl (by decide) rfl rfl ?_
    refine ea_aload_n (pc' := 20) (i := 0) dX5_eased_19 rfl 1 rfl rfl ?_
    refine ea_iload_n (pc' := 21) (i := 1) dX5_eased_20 rfl 2 rfl rfl ?_
    refine ea_cvr (As := [.int l1]) (st := []) (d := d) (pc' := 24) mv_X5_drawnPlan ml_X5_100 kok_0 hVl0 rfl rfl dX5_eased_21 rfl (Nat.le_of_ble_eq_true rfl) (ev_room (by decide)) ⟨Nat.le_refl _, Nat.le_refl _⟩ h rfl (fun S4 h => ?_)
    obtain ⟨o6, h⟩ := h
    have hW5 : (6, l1.toNatClampNeg) ∈ evKs G := ev_cle (kd := 23) (x := 0) (n := 4) hCl (hCl.1 0 _ 7 23 hVl0 rfl) rfl rfl o6 rfl rfl rfl
    refine ea_astore_n (lv' := [(3, .ref (evad G 6 l1.toNatClampNeg)), (2, .ref (evad G 3 l1.toNatClampNeg)), (0, .ref (evad G 0 x0)), (1, .int l1)]) (pc' := 25) dX5_eased_24 rfl (by decide) rfl rfl ?_
    refine ea_aload_n (pc' := 26) (i := 3) dX5_eased_25 rfl 0 rfl rfl ?_
    refine ea_cvi (As := []) (st := []) (d := d) (pc' := 29) mv_X2_stands ml_X5_104 kok_6 hW5 rfl rfl dX5_eased_26 rfl (Nat.le_of_ble_eq_true rfl) (ev_room (by decide)) ⟨Nat.le_refl _, Nat.le_refl _⟩ h rfl (fun r7 S8 h => ?_)
    refine ea_if_ne (tgt := 36) (pc' := 32) dX5_eased_29 (by decide) rfl (fun hc => ?_) (fun hc => ?_)
    · replace h := h.1 hc
      refine ea_iconst (v := 0) (pc' := 37) dX5_eased_36 (by decide) rfl ?_
      refine ea_loc [2, 1, 0] rfl ?_
      exact h
    · replace h := h.2 hc
      refine ea_iconst (v := 1) (pc' := 33) dX5_eased_32 (by decide) rfl ?_
      refine ea_goto (tgt := 37) dX5_eased_33 (by decide) ?_
      refine ea_loc [2, 1, 0] rfl ?_
      exact h
  · replace h := h.2 hc
    refine ea_iconst (v := (-1)) (pc' := 8) dX5_eased_7 (by decide) rfl ?_
    exact ea_iret rfl dX5_eased_8 ⟨_, rfl, h⟩
set_option maxRecDepth 100000 in
set_option maxHeartbeats 4000000 in
theorem vb_X5_eased_37 {G : evG} {d : Nat} {q : Int32 → evS → Prop} (hCl : evCl G) {x0 : Nat} {x2 : Nat} {x3 : Nat} {s0 : Int32} {S : evS} (hVl0 : (0, x0) ∈ evKs G) (hVl2 : (3, x2) ∈ evKs G) (hVl3 : (6, x3) ∈ evKs G)
    (h : ((s0 = 0 → (evSp G yX2_burntInAll M_X2_burntInAll d [.ref (evad G 6 x3)] S (evQI fun r1 S2 => bk_X5_eased_52 G d (evQI q) x0 x2 s0 r1 S2))) ∧ (¬ s0 = 0 → bk_X5_eased_52 G d (evQI q) x0 x2 s0 0 S))) : bk_X5_eased_37 G d (evQI q) x0 x2 x3 s0 S := by
  refine ea_istore (lv' := [(4, .int s0), (0, .ref (evad G 0 x0)), (2, .ref (evad G 3 x2)), (3, .ref (evad G 6 x3))]) (pc' := 39) dX5_eased_37 (by decide) rfl rfl ?_
  refine ea_iload (pc' := 41) dX5_eased_39 0 rfl rfl ?_
  refine ea_if_eq (tgt := 48) (pc' := 44) dX5_eased_41 (by decide) rfl (fun hc => ?_) (fun hc => ?_)
  · replace h := h.1 hc
    refine ea_aload_n (pc' := 49) (i := 3) dX5_eased_48 rfl 3 rfl rfl ?_
    refine ea_cvi (As := []) (st := []) (d := d) (pc' := 52) mv_X2_burntInAll ml_X5_142 kok_6 hVl3 rfl rfl dX5_eased_49 rfl (Nat.le_of_ble_eq_true rfl) (ev_room (by decide)) ⟨Nat.le_refl _, Nat.le_refl _⟩ h rfl (fun r1 S2 h => ?_)
    refine ea_loc [1, 2, 0] rfl ?_
    exact h
  · replace h := h.2 hc
    refine ea_iconst (v := 0) (pc' := 45) dX5_eased_44 (by decide) rfl ?_
    refine ea_goto (tgt := 52) dX5_eased_45 (by decide) ?_
    refine ea_loc [1, 2, 0] rfl ?_
    exact h
set_option maxRecDepth 100000 in
set_option maxHeartbeats 4000000 in
theorem vb_X5_eased_52 {G : evG} {d : Nat} {q : Int32 → evS → Prop} (hCl : evCl G) {x0 : Nat} {x2 : Nat} {l4 : Int32} {s0 : Int32} {S : evS} (hVl0 : (0, x0) ∈ evKs G) (hVl2 : (3, x2) ∈ evKs G)
    (h : (evSp G yX3_trait M_X3_trait d [.ref (evad G 3 x2), .int 2] S (evQI fun r1 S2 => (∀ v3 : Int32, v3 = (r1 + 1) → bk_X5_eased_67 G d (evQI q) x0 x2 l4 s0 (-9) v3 S2)))) : bk_X5_eased_52 G d (evQI q) x0 x2 l4 s0 S := by
  refine ea_istore (lv' := [(5, .int s0), (0, .ref (evad G 0 x0)), (2, .ref (evad G 3 x2)), (4, .int l4)]) (pc' := 54) dX5_eased_52 (by decide) rfl rfl ?_
  refine ea_bipush (v := (-9)) (pc' := 56) dX5_eased_54 (by decide) rfl ?_
  refine ea_istore (lv' := [(6, .int (-9)), (5, .int s0), (0, .ref (evad G 0 x0)), (2, .ref (evad G 3 x2)), (4, .int l4)]) (pc' := 58) dX5_eased_56 (by decide) rfl rfl ?_
  refine ea_aload_n (pc' := 59) (i := 2) dX5_eased_58 rfl 3 rfl rfl ?_
  refine ea_iconst (v := 2) (pc' := 60) dX5_eased_59 (by decide) rfl ?_
  refine ea_cvi (As := [.int 2]) (st := []) (d := d) (pc' := 63) mv_X3_trait ml_X5_108 kok_3 hVl2 rfl rfl dX5_eased_60 rfl (Nat.le_of_ble_eq_true rfl) (ev_room (by decide)) ⟨Nat.le_refl _, Nat.le_refl _⟩ h rfl (fun r1 S2 h => ?_)
  refine ea_iconst (v := 1) (pc' := 64) dX5_eased_63 (by decide) rfl ?_
  refine ea_iadd (pc' := 65) dX5_eased_64 rfl ?_
  refine ea_topi (fun v3 hv3 => ?_)
  replace h := h v3 hv3
  refine ea_istore (lv' := [(7, .int v3), (6, .int (-9)), (5, .int s0), (0, .ref (evad G 0 x0)), (2, .ref (evad G 3 x2)), (4, .int l4)]) (pc' := 67) dX5_eased_65 (by decide) rfl rfl ?_
  refine ea_loc [3, 4, 5, 2, 1, 0] rfl ?_
  exact h
set_option maxRecDepth 100000 in
set_option maxHeartbeats 4000000 in
theorem vb_X5_eased_67 {G : evG} {d : Nat} {q : Int32 → evS → Prop} (hCl : evCl G) {x0 : Nat} {x2 : Nat} {l4 : Int32} {l5 : Int32} {l6 : Int32} {l7 : Int32} {S : evS} (hVl0 : (0, x0) ∈ evKs G) (hVl2 : (3, x2) ∈ evKs G)
    (h : (evSp G yX3_trait M_X3_trait d [.ref (evad G 3 x2), .int 0] S (evQI fun r1 S2 => ((r1 < l7 → q l6 S2) ∧ (¬ r1 < l7 → bk_X5_eased_80 G d (evQI q) x0 x2 l4 l5 l6 l7 0 S2))))) : bk_X5_eased_67 G d (evQI q) x0 x2 l4 l5 l6 l7 S := by
  refine ea_iload (pc' := 69) dX5_eased_67 5 rfl rfl ?_
  refine ea_aload_n (pc' := 70) (i := 2) dX5_eased_69 rfl 1 rfl rfl ?_
  refine ea_iconst (v := 0) (pc' := 71) dX5_eased_70 (by decide) rfl ?_
  refine ea_cvi (As := [.int 0]) (st := [.int l7]) (d := d) (pc' := 74) mv_X3_trait ml_X5_108 kok_3 hVl2 rfl rfl dX5_eased_71 rfl (Nat.le_of_ble_eq_true rfl) (ev_room (by decide)) ⟨Nat.le_refl _, Nat.le_refl _⟩ h rfl (fun r1 S2 h => ?_)
  refine ea_icmp_gt (tgt := 157) (pc' := 77) dX5_eased_74 (by decide) rfl (fun hc => ?_) (fun hc => ?_)
  · replace h := h.1 hc
    refine ea_iload (pc' := 159) dX5_eased_157 4 rfl rfl ?_
    exact ea_iret rfl dX5_eased_159 ⟨_, rfl, h⟩
  · replace h := h.2 hc
    refine ea_iconst (v := 0) (pc' := 78) dX5_eased_77 (by decide) rfl ?_
    refine ea_istore (lv' := [(8, .int 0), (0, .ref (evad G 0 x0)), (2, .ref (evad G 3 x2)), (4, .int l4), (5, .int l5), (6, .int l6), (7, .int l7)]) (pc' := 80) dX5_eased_78 (by decide) rfl rfl ?_
    refine ea_loc [1, 2, 3, 4, 5, 6, 0] rfl ?_
    exact h
set_option maxRecDepth 100000 in
set_option maxHeartbeats 4000000 in
theorem vb_X5_eased_80 {G : evG} {d : Nat} {q : Int32 → evS → Prop} (hCl : evCl G) {x0 : Nat} {x2 : Nat} {l4 : Int32} {l5 : Int32} {l6 : Int32} {l7 : Int32} {l8 : Int32} {S : evS} (hVl0 : (0, x0) ∈ evKs G) (hVl2 : (3, x2) ∈ evKs G)
    (h : ((1 < l8 → (∀ v1 : Int32, v1 = (l7 + 1) → bk_X5_eased_67 G d (evQI q) x0 x2 l4 l5 l6 v1 S)) ∧ (¬ 1 < l8 → (evSp G yX5_drawEased M_X5_drawEased d [.ref (evad G 0 x0), .ref (evad G 3 x2), .int l7, .int l8] S (evQV fun S2 => (evSp G yX2_stands M_X2_stands d [.ref (evad G 6 4)] S2 (evQI fun r3 S4 => ((¬ r3 = 0 → (evSp G yX2_burntInAll M_X2_burntInAll d [.ref (evad G 6 4)] S4 (evQI fun r5 S6 => ((¬ l4 = 0 → bk_X5_eased_129 G d (evQI q) x0 x2 l7 l8 r5 S6) ∧ (l4 = 0 → ((l5 ≤ r5 → bk_X5_eased_145 G d (evQI q) x0 x2 l4 l5 l6 l7 l8 S6) ∧ (¬ l5 ≤ r5 → bk_X5_eased_129 G d (evQI q) x0 x2 l7 l8 r5 S6))))))) ∧ (r3 = 0 → bk_X5_eased_145 G d (evQI q) x0 x2 l4 l5 l6 l7 l8 S4))))))))) : bk_X5_eased_80 G d (evQI q) x0 x2 l4 l5 l6 l7 l8 S := by
  refine ea_iload (pc' := 82) dX5_eased_80 6 rfl rfl ?_
  refine ea_iconst (v := 1) (pc' := 83) dX5_eased_82 (by decide) rfl ?_
  refine ea_icmp_gt (tgt := 151) (pc' := 86) dX5_eased_83 (by decide) rfl (fun hc => ?_) (fun hc => ?_)
  · replace h := h.1 hc
    obtain ⟨v1, hv1⟩ : ∃ z : Int32, z = (l7 + 1) := ⟨_, rfl⟩
    replace h := h v1 hv1
    refine ea_iinc (q := 5) (v := v1) (lv' := [(7, .int v1), (0, .ref (evad G 0 x0)), (2, .ref (evad G 3 x2)), (4, .int l4), (5, .int l5), (6, .int l6), (8, .int l8)]) (pc' := 154) dX5_eased_151 rfl (by rw [hv1]; rfl) (by decide) rfl rfl ?_
    refine ea_goto (tgt := 67) dX5_eased_154 (by decide) ?_
    refine ea_loc [1, 2, 3, 4, 5, 0] rfl ?_
    exact h
  · replace h := h.2 hc
    refine ea_aload_n (pc' := 87) (i := 0) dX5_eased_86 rfl 0 rfl rfl ?_
    refine ea_aload_n (pc' := 88) (i := 2) dX5_eased_87 rfl 1 rfl rfl ?_
    refine ea_iload (pc' := 90) dX5_eased_88 5 rfl rfl ?_
    refine ea_iload (pc' := 92) dX5_eased_90 6 rfl rfl ?_
    refine ea_cvv (As := [.ref (evad G 3 x2), .int l7, .int l8]) (st := []) (d := d) (pc' := 95) mv_X5_drawEased ml_X5_175 kok_0 hVl0 rfl rfl dX5_eased_92 rfl (Nat.le_of_ble_eq_true rfl) (ev_room (by decide)) ⟨Nat.le_refl _, Nat.le_refl _⟩ h rfl (fun S2 h => ?_)
    refine ea_aload_n (pc' := 96) (i := 0) dX5_eased_95 rfl 0 rfl rfl ?_
    refine ea_getr (k2 := 6) (x2 := 4) (kf := 6) (pc' := 99) kok_0 hVl0 (by decide) rfl fl_X5_48 rfl dX5_eased_96 rfl ?_
    refine ea_cvi (As := []) (st := []) (d := d) (pc' := 102) mv_X2_stands ml_X5_104 kok_6 (hCl.1 0 x0 6 6 hVl0 rfl) rfl rfl dX5_eased_99 rfl (Nat.le_of_ble_eq_true rfl) (ev_room (by decide)) ⟨Nat.le_refl _, Nat.le_refl _⟩ h rfl (fun r3 S4 h => ?_)
    refine ea_if_ne (tgt := 108) (pc' := 105) dX5_eased_102 (by decide) rfl (fun hc => ?_) (fun hc => ?_)
    · replace h := h.1 hc
      refine ea_aload_n (pc' := 109) (i := 0) dX5_eased_108 rfl 0 rfl rfl ?_
      refine ea_getr (k2 := 6) (x2 := 4) (kf := 6) (pc' := 112) kok_0 hVl0 (by decide) rfl fl_X5_48 rfl dX5_eased_109 rfl ?_
      refine ea_cvi (As := []) (st := []) (d := d) (pc' := 115) mv_X2_burntInAll ml_X5_142 kok_6 (hCl.1 0 x0 6 6 hVl0 rfl) rfl rfl dX5_eased_112 rfl (Nat.le_of_ble_eq_true rfl) (ev_room (by decide)) ⟨Nat.le_refl _, Nat.le_refl _⟩ h rfl (fun r5 S6 h => ?_)
      refine ea_istore (lv' := [(9, .int r5), (0, .ref (evad G 0 x0)), (2, .ref (evad G 3 x2)), (4, .int l4), (5, .int l5), (6, .int l6), (7, .int l7), (8, .int l8)]) (pc' := 117) dX5_eased_115 (by decide) rfl rfl ?_
      refine ea_iload (pc' := 119) dX5_eased_117 3 rfl rfl ?_
      refine ea_if_ne (tgt := 129) (pc' := 122) dX5_eased_119 (by decide) rfl (fun hc => ?_) (fun hc => ?_)
      · replace h := h.1 hc
        refine ea_loc [1, 2, 6, 7, 0] rfl ?_
        exact h
      · replace h := h.2 hc
        refine ea_iload (pc' := 124) dX5_eased_122 0 rfl rfl ?_
        refine ea_iload (pc' := 126) dX5_eased_124 4 rfl rfl ?_
        refine ea_icmp_ge (tgt := 145) (pc' := 129) dX5_eased_126 (by decide) rfl (fun hc => ?_) (fun hc => ?_)
        · replace h := h.1 hc
          refine ea_loc [1, 2, 3, 4, 5, 6, 7] rfl ?_
          exact h
        · replace h := h.2 hc
          refine ea_loc [1, 2, 6, 7, 0] rfl ?_
          exact h
    · replace h := h.2 hc
      refine ea_goto (tgt := 145) dX5_eased_105 (by decide) ?_
      exact h
set_option maxRecDepth 100000 in
set_option maxHeartbeats 4000000 in
theorem vb_X5_eased_129 {G : evG} {d : Nat} {q : Int32 → evS → Prop} (hCl : evCl G) {x0 : Nat} {x2 : Nat} {l7 : Int32} {l8 : Int32} {l9 : Int32} {S : evS} (hVl0 : (0, x0) ∈ evKs G) (hVl2 : (3, x2) ∈ evKs G)
    (h : (∀ v1 : Int32, v1 = ((2 * l7) + l8) → bk_X5_eased_145 G d (evQI q) x0 x2 0 l9 v1 l7 l8 S)) : bk_X5_eased_129 G d (evQI q) x0 x2 l7 l8 l9 S := by
  refine ea_iconst (v := 0) (pc' := 130) dX5_eased_129 (by decide) rfl ?_
  refine ea_istore (lv' := [(4, .int 0), (0, .ref (evad G 0 x0)), (2, .ref (evad G 3 x2)), (7, .int l7), (8, .int l8), (9, .int l9)]) (pc' := 132) dX5_eased_130 (by decide) rfl rfl ?_
  refine ea_iload (pc' := 134) dX5_eased_132 5 rfl rfl ?_
  refine ea_istore (lv' := [(5, .int l9), (4, .int 0), (0, .ref (evad G 0 x0)), (2, .ref (evad G 3 x2)), (7, .int l7), (8, .int l8), (9, .int l9)]) (pc' := 136) dX5_eased_134 (by decide) rfl rfl ?_
  refine ea_iconst (v := 2) (pc' := 137) dX5_eased_136 (by decide) rfl ?_
  refine ea_iload (pc' := 139) dX5_eased_137 4 rfl rfl ?_
  refine ea_imul (pc' := 140) dX5_eased_139 rfl ?_
  refine ea_iload (pc' := 142) dX5_eased_140 5 rfl rfl ?_
  refine ea_iadd (pc' := 143) dX5_eased_142 rfl ?_
  refine ea_topi (fun v1 hv1 => ?_)
  replace h := h v1 hv1
  refine ea_istore (lv' := [(6, .int v1), (5, .int l9), (4, .int 0), (0, .ref (evad G 0 x0)), (2, .ref (evad G 3 x2)), (7, .int l7), (8, .int l8), (9, .int l9)]) (pc' := 145) dX5_eased_143 (by decide) rfl rfl ?_
  refine ea_loc [3, 4, 2, 1, 0, 5, 6] rfl ?_
  exact h
set_option maxRecDepth 100000 in
set_option maxHeartbeats 4000000 in
theorem vb_X5_eased_145 {G : evG} {d : Nat} {q : Int32 → evS → Prop} (hCl : evCl G) {x0 : Nat} {x2 : Nat} {l4 : Int32} {l5 : Int32} {l6 : Int32} {l7 : Int32} {l8 : Int32} {S : evS} (hVl0 : (0, x0) ∈ evKs G) (hVl2 : (3, x2) ∈ evKs G)
    (h : (∀ v1 : Int32, v1 = (l8 + 1) → bk_X5_eased_80 G d (evQI q) x0 x2 l4 l5 l6 l7 v1 S)) : bk_X5_eased_145 G d (evQI q) x0 x2 l4 l5 l6 l7 l8 S := by
  obtain ⟨v1, hv1⟩ : ∃ z : Int32, z = (l8 + 1) := ⟨_, rfl⟩
  replace h := h v1 hv1
  refine ea_iinc (q := 6) (v := v1) (lv' := [(8, .int v1), (0, .ref (evad G 0 x0)), (2, .ref (evad G 3 x2)), (4, .int l4), (5, .int l5), (6, .int l6), (7, .int l7)]) (pc' := 148) dX5_eased_145 rfl (by rw [hv1]; rfl) (by decide) rfl rfl ?_
  refine ea_goto (tgt := 80) dX5_eased_148 (by decide) ?_
  refine ea_loc [1, 2, 3, 4, 5, 6, 0] rfl ?_
  exact h
theorem vm_X5_eased {G : evG} {d : Nat} {q : Int32 → evS → Prop} {x0 : Nat} {l1 : Int32} {S : evS} (h : bk_X5_eased_0 G d (evQI q) x0 l1 S) : evSp G yX5_eased M_X5_eased (d + 1) [.ref (evad G 0 x0), .int l1] S (evQI q) :=
  evSp.of (by decide +kernel) rfl (Nat.le_of_ble_eq_true rfl) h
abbrev bk_X5_drawEased_0 (G : evG) (d : Nat) (Q : Option Value → evS → Prop) (x0 : Nat) (x1 : Nat) (l2 : Int32) (l3 : Int32) (S : evS) : Prop := evAt G M_X5_drawEased (evFm G (d + 1) Q) 0 [(0, .ref (evad G 0 x0)), (1, .ref (evad G 3 x1)), (2, .int l2), (3, .int l3)] [] S
abbrev bk_X5_drawEased_58 (G : evG) (d : Nat) (Q : Option Value → evS → Prop) (x0 : Nat) (S : evS) : Prop := evAt G M_X5_drawEased (evFm G (d + 1) Q) 58 [(0, .ref (evad G 0 x0))] [] S
set_option maxRecDepth 100000 in
set_option maxHeartbeats 4000000 in
theorem vb_X5_drawEased_0 {G : evG} {d : Nat} {q : evS → Prop} (hCl : evCl G) {x0 : Nat} {x1 : Nat} {l2 : Int32} {l3 : Int32} {S : evS} (hVl0 : (0, x0) ∈ evKs G) (hVl1 : (3, x1) ∈ evKs G)
    (h : (evSp G yX3_becomeLike M_X3_becomeLike d [.ref (evad G 3 36), .ref (evad G 3 x1)] S (evQV fun S1 => (∀ v2 : Int32, v2 = (l2 - 1) → ((¬ l3 = 0 → (evSp G yX3_ofLeg M_X3_ofLeg d [.ref (evad G 3 x1), .int v2, .int 3] S1 (evQI fun r3 S4 => (evSp G yX3_setOfLeg M_X3_setOfLeg d [.ref (evad G 3 36), .int v2, .int 3, .int (r3 + 1)] S4 (evQV fun S5 => bk_X5_drawEased_58 G d (evQV q) x0 S5))))) ∧ (l3 = 0 → (evSp G yX3_ofLeg M_X3_ofLeg d [.ref (evad G 3 x1), .int v2, .int 2] S1 (evQI fun r6 S7 => (evSp G yX3_setOfLeg M_X3_setOfLeg d [.ref (evad G 3 36), .int v2, .int 2, .int (r6 - 1)] S7 (evQV fun S8 => bk_X5_drawEased_58 G d (evQV q) x0 S8)))))))))) : bk_X5_drawEased_0 G d (evQV q) x0 x1 l2 l3 S := by
  refine ea_aload_n (pc' := 1) (i := 0) dX5_drawEased_0 rfl 0 rfl rfl ?_
  refine ea_getr (k2 := 3) (x2 := 36) (kf := 5) (pc' := 4) kok_0 hVl0 (by decide) rfl fl_X5_41 rfl dX5_drawEased_1 rfl ?_
  refine ea_aload_n (pc' := 5) (i := 1) dX5_drawEased_4 rfl 1 rfl rfl ?_
  refine ea_cvv (As := [.ref (evad G 3 x1)]) (st := []) (d := d) (pc' := 8) mv_X3_becomeLike ml_X5_96 kok_3 (hCl.1 0 x0 5 3 hVl0 rfl) rfl rfl dX5_drawEased_5 rfl (Nat.le_of_ble_eq_true rfl) (ev_room (by decide)) ⟨Nat.le_refl _, Nat.le_refl _⟩ h rfl (fun S1 h => ?_)
  refine ea_iload_n (pc' := 9) (i := 2) dX5_drawEased_8 rfl 2 rfl rfl ?_
  refine ea_iconst (v := 1) (pc' := 10) dX5_drawEased_9 (by decide) rfl ?_
  refine ea_isub (pc' := 11) dX5_drawEased_10 rfl ?_
  refine ea_topi (fun v2 hv2 => ?_)
  replace h := h v2 hv2
  refine ea_istore (lv' := [(4, .int v2), (0, .ref (evad G 0 x0)), (1, .ref (evad G 3 x1)), (2, .int l2), (3, .int l3)]) (pc' := 13) dX5_drawEased_11 (by decide) rfl rfl ?_
  refine ea_iload_n (pc' := 14) (i := 3) dX5_drawEased_13 rfl 4 rfl rfl ?_
  refine ea_if_ne (tgt := 39) (pc' := 17) dX5_drawEased_14 (by decide) rfl (fun hc => ?_) (fun hc => ?_)
  · replace h := h.1 hc
    refine ea_aload_n (pc' := 40) (i := 0) dX5_drawEased_39 rfl 1 rfl rfl ?_
    refine ea_getr (k2 := 3) (x2 := 36) (kf := 5) (pc' := 43) kok_0 hVl0 (by decide) rfl fl_X5_41 rfl dX5_drawEased_40 rfl ?_
    refine ea_iload (pc' := 45) dX5_drawEased_43 0 rfl rfl ?_
    refine ea_iconst (v := 3) (pc' := 46) dX5_drawEased_45 (by decide) rfl ?_
    refine ea_aload_n (pc' := 47) (i := 1) dX5_drawEased_46 rfl 2 rfl rfl ?_
    refine ea_iload (pc' := 49) dX5_drawEased_47 0 rfl rfl ?_
    refine ea_iconst (v := 3) (pc' := 50) dX5_drawEased_49 (by decide) rfl ?_
    refine ea_cvi (As := [.int v2, .int 3]) (st := [.int 3, .int v2, .ref (evad G 3 36)]) (d := d) (pc' := 53) mv_X3_ofLeg ml_X5_115 kok_3 hVl1 rfl rfl dX5_drawEased_50 rfl (Nat.le_of_ble_eq_true rfl) (ev_room (by decide)) ⟨Nat.le_refl _, Nat.le_refl _⟩ h rfl (fun r3 S4 h => ?_)
    refine ea_iconst (v := 1) (pc' := 54) dX5_drawEased_53 (by decide) rfl ?_
    refine ea_iadd (pc' := 55) dX5_drawEased_54 rfl ?_
    refine ea_cvv (As := [.int v2, .int 3, .int (r3 + 1)]) (st := []) (d := d) (pc' := 58) mv_X3_setOfLeg ml_X5_129 kok_3 (hCl.1 0 x0 5 3 hVl0 rfl) rfl rfl dX5_drawEased_55 rfl (Nat.le_of_ble_eq_true rfl) (ev_room (by decide)) ⟨Nat.le_refl _, Nat.le_refl _⟩ h rfl (fun S5 h => ?_)
    refine ea_loc [1] rfl ?_
    exact h
  · replace h := h.2 hc
    refine ea_aload_n (pc' := 18) (i := 0) dX5_drawEased_17 rfl 1 rfl rfl ?_
    refine ea_getr (k2 := 3) (x2 := 36) (kf := 5) (pc' := 21) kok_0 hVl0 (by decide) rfl fl_X5_41 rfl dX5_drawEased_18 rfl ?_
    refine ea_iload (pc' := 23) dX5_drawEased_21 0 rfl rfl ?_
    refine ea_iconst (v := 2) (pc' := 24) dX5_drawEased_23 (by decide) rfl ?_
    refine ea_aload_n (pc' := 25) (i := 1) dX5_drawEased_24 rfl 2 rfl rfl ?_
    refine ea_iload (pc' := 27) dX5_drawEased_25 0 rfl rfl ?_
    refine ea_iconst (v := 2) (pc' := 28) dX5_drawEased_27 (by decide) rfl ?_
    refine ea_cvi (As := [.int v2, .int 2]) (st := [.int 2, .int v2, .ref (evad G 3 36)]) (d := d) (pc' := 31) mv_X3_ofLeg ml_X5_115 kok_3 hVl1 rfl rfl dX5_drawEased_28 rfl (Nat.le_of_ble_eq_true rfl) (ev_room (by decide)) ⟨Nat.le_refl _, Nat.le_refl _⟩ h rfl (fun r6 S7 h => ?_)
    refine ea_iconst (v := 1) (pc' := 32) dX5_drawEased_31 (by decide) rfl ?_
    refine ea_isub (pc' := 33) dX5_drawEased_32 rfl ?_
    refine ea_cvv (As := [.int v2, .int 2, .int (r6 - 1)]) (st := []) (d := d) (pc' := 36) mv_X3_setOfLeg ml_X5_129 kok_3 (hCl.1 0 x0 5 3 hVl0 rfl) rfl rfl dX5_drawEased_33 rfl (Nat.le_of_ble_eq_true rfl) (ev_room (by decide)) ⟨Nat.le_refl _, Nat.le_refl _⟩ h rfl (fun S8 h => ?_)
    refine ea_goto (tgt := 58) dX5_drawEased_36 (by decide) ?_
    refine ea_loc [1] rfl ?_
    exact h
set_option maxRecDepth 100000 in
set_option maxHeartbeats 4000000 in
theorem vb_X5_drawEased_58 {G : evG} {d : Nat} {q : evS → Prop} (hCl : evCl G) {x0 : Nat} {S : evS} (hVl0 : (0, x0) ∈ evKs G)
    (h : (evSp G yX2_draw M_X2_draw d [.ref (evad G 6 4), .ref (evad G 3 36)] S (evQV fun S1 => q S1))) : bk_X5_drawEased_58 G d (evQV q) x0 S := by
  refine ea_aload_n (pc' := 59) (i := 0) dX5_drawEased_58 rfl 0 rfl rfl ?_
  refine ea_getr (k2 := 6) (x2 := 4) (kf := 6) (pc' := 62) kok_0 hVl0 (by decide) rfl fl_X5_48 rfl dX5_drawEased_59 rfl ?_
  refine ea_aload_n (pc' := 63) (i := 0) dX5_drawEased_62 rfl 0 rfl rfl ?_
  refine ea_getr (k2 := 3) (x2 := 36) (kf := 5) (pc' := 66) kok_0 hVl0 (by decide) rfl fl_X5_41 rfl dX5_drawEased_63 rfl ?_
  refine ea_cvv (As := [.ref (evad G 3 36)]) (st := []) (d := d) (pc' := 69) mv_X2_draw ml_X5_169 kok_6 (hCl.1 0 x0 6 6 hVl0 rfl) rfl rfl dX5_drawEased_66 rfl (Nat.le_of_ble_eq_true rfl) (ev_room (by decide)) ⟨Nat.le_refl _, Nat.le_refl _⟩ h rfl (fun S1 h => ?_)
  exact ea_vret rfl dX5_drawEased_69 ⟨rfl, h⟩
theorem vm_X5_drawEased {G : evG} {d : Nat} {q : evS → Prop} {x0 : Nat} {x1 : Nat} {l2 : Int32} {l3 : Int32} {S : evS} (h : bk_X5_drawEased_0 G d (evQV q) x0 x1 l2 l3 S) : evSp G yX5_drawEased M_X5_drawEased (d + 1) [.ref (evad G 0 x0), .ref (evad G 3 x1), .int l2, .int l3] S (evQV q) :=
  evSp.of (by decide +kernel) rfl (Nat.le_of_ble_eq_true rfl) h
abbrev bk_X5_mile_0 (G : evG) (d : Nat) (Q : Option Value → evS → Prop) (x0 : Nat) (l1 : Int32) (l2 : Int32) (S : evS) : Prop := evAt G M_X5_mile (evFm G (d + 1) Q) 0 [(0, .ref (evad G 0 x0)), (1, .int l1), (2, .int l2)] [] S
set_option maxRecDepth 100000 in
set_option maxHeartbeats 4000000 in
theorem vb_X5_mile_0 {G : evG} {d : Nat} {q : Int32 → evS → Prop} (hCl : evCl G) {x0 : Nat} {l1 : Int32} {l2 : Int32} {S : evS} (hVl0 : (0, x0) ∈ evKs G)
    (h : (evSp G yX5_isNoShip M_X5_isNoShip d [.int l1] S (evQI fun r1 S2 => ((¬ r1 = 0 → q (-1) S2) ∧ (r1 = 0 → ((l2 < 0 → q (-1) S2) ∧ (¬ l2 < 0 → ((l2 ≤ 999 → (evSp G yX5_drawnPlan M_X5_drawnPlan d [.ref (evad G 0 x0), .int l1] S2 (evQR (evad G 6 l1.toNatClampNeg) fun S3 => (vp_in l1 4 ∧ (evSp G yX2_mileAt M_X2_mileAt d [.ref (evad G 6 l1.toNatClampNeg), .int l2] S3 (evQI fun r6 S7 => q r6 S7)))))) ∧ (¬ l2 ≤ 999 → q (-1) S2))))))))) : bk_X5_mile_0 G d (evQI q) x0 l1 l2 S := by
  refine ea_iload_n (pc' := 1) (i := 1) dX5_mile_0 rfl 1 rfl rfl ?_
  refine ea_csi (As := [.int l1]) (st := []) (d := d) (pc' := 4) mv_X5_isNoShip ml_X5_81 rfl dX5_mile_1 rfl (Nat.le_of_ble_eq_true rfl) (ev_room (by decide)) ⟨Nat.le_refl _, Nat.le_refl _⟩ h rfl (fun r1 S2 h => ?_)
  refine ea_if_ne (tgt := 18) (pc' := 7) dX5_mile_4 (by decide) rfl (fun hc => ?_) (fun hc => ?_)
  · replace h := h.1 hc
    refine ea_iconst (v := (-1)) (pc' := 19) dX5_mile_18 (by decide) rfl ?_
    exact ea_iret rfl dX5_mile_19 ⟨_, rfl, h⟩
  · replace h := h.2 hc
    refine ea_iload_n (pc' := 8) (i := 2) dX5_mile_7 rfl 2 rfl rfl ?_
    refine ea_if_lt (tgt := 18) (pc' := 11) dX5_mile_8 (by decide) rfl (fun hc => ?_) (fun hc => ?_)
    · replace h := h.1 hc
      refine ea_iconst (v := (-1)) (pc' := 19) dX5_mile_18 (by decide) rfl ?_
      exact ea_iret rfl dX5_mile_19 ⟨_, rfl, h⟩
    · replace h := h.2 hc
      refine ea_iload_n (pc' := 12) (i := 2) dX5_mile_11 rfl 2 rfl rfl ?_
      refine ea_sipush (v := 999) (pc' := 15) dX5_mile_12 (by decide) rfl ?_
      refine ea_icmp_le (tgt := 20) (pc' := 18) dX5_mile_15 (by decide) rfl (fun hc => ?_) (fun hc => ?_)
      · replace h := h.1 hc
        refine ea_aload_n (pc' := 21) (i := 0) dX5_mile_20 rfl 0 rfl rfl ?_
        refine ea_iload_n (pc' := 22) (i := 1) dX5_mile_21 rfl 1 rfl rfl ?_
        refine ea_cvr (As := [.int l1]) (st := []) (d := d) (pc' := 25) mv_X5_drawnPlan ml_X5_100 kok_0 hVl0 rfl rfl dX5_mile_22 rfl (Nat.le_of_ble_eq_true rfl) (ev_room (by decide)) ⟨Nat.le_refl _, Nat.le_refl _⟩ h rfl (fun S3 h => ?_)
        obtain ⟨o5, h⟩ := h
        have hW4 : (6, l1.toNatClampNeg) ∈ evKs G := ev_cle (kd := 23) (x := 0) (n := 4) hCl (hCl.1 0 _ 7 23 hVl0 rfl) rfl rfl o5 rfl rfl rfl
        refine ea_iload_n (pc' := 26) (i := 2) dX5_mile_25 rfl 2 rfl rfl ?_
        refine ea_cvi (As := [.int l2]) (st := []) (d := d) (pc' := 29) mv_X2_mileAt ml_X5_179 kok_6 hW4 rfl rfl dX5_mile_26 rfl (Nat.le_of_ble_eq_true rfl) (ev_room (by decide)) ⟨Nat.le_refl _, Nat.le_refl _⟩ h rfl (fun r6 S7 h => ?_)
        exact ea_iret rfl dX5_mile_29 ⟨_, rfl, h⟩
      · replace h := h.2 hc
        refine ea_iconst (v := (-1)) (pc' := 19) dX5_mile_18 (by decide) rfl ?_
        exact ea_iret rfl dX5_mile_19 ⟨_, rfl, h⟩
theorem vm_X5_mile {G : evG} {d : Nat} {q : Int32 → evS → Prop} {x0 : Nat} {l1 : Int32} {l2 : Int32} {S : evS} (h : bk_X5_mile_0 G d (evQI q) x0 l1 l2 S) : evSp G yX5_mile M_X5_mile (d + 1) [.ref (evad G 0 x0), .int l1, .int l2] S (evQI q) :=
  evSp.of (by decide +kernel) rfl (Nat.le_of_ble_eq_true rfl) h
abbrev bk_X5_sees_0 (G : evG) (d : Nat) (Q : Option Value → evS → Prop) (x0 : Nat) (l1 : Int32) (l2 : Int32) (S : evS) : Prop := evAt G M_X5_sees (evFm G d Q) 0 [(0, .ref (evad G 0 x0)), (1, .int l1), (2, .int l2)] [] S
set_option maxRecDepth 100000 in
set_option maxHeartbeats 4000000 in
theorem vb_X5_sees_0 {G : evG} {d : Nat} {q : Int32 → evS → Prop} (hCl : evCl G) {x0 : Nat} {l1 : Int32} {l2 : Int32} {S : evS} (hVl0 : (0, x0) ∈ evKs G)
    (h : ((l1 < 0 → q (-1) S) ∧ (¬ l1 < 0 → ((999 < l1 → q (-1) S) ∧ (¬ 999 < l1 → ((l2 < 0 → q (-1) S) ∧ (¬ l2 < 0 → ((l2 ≤ 999 → (((S.1 0 x0 10) < 6 → (vp_in (S.1 0 x0 10) 6 ∧ (∀ S2 : evS, S2 = evup S 24 0 ((S.1 0 x0 10).toNatClampNeg) l1 → (vp_in (S2.1 0 x0 10) 6 ∧ (∀ S4 : evS, S4 = evup S2 25 0 ((S2.1 0 x0 10).toNatClampNeg) l2 → (∀ S5 : evS, S5 = evup S4 0 x0 10 ((S4.1 0 x0 10) + 1) → q (S5.1 0 x0 10) S5)))))) ∧ (¬ (S.1 0 x0 10) < 6 → q (-3) S))) ∧ (¬ l2 ≤ 999 → q (-1) S))))))))) : bk_X5_sees_0 G d (evQI q) x0 l1 l2 S := by
  refine ea_iload_n (pc' := 1) (i := 1) dX5_sees_0 rfl 1 rfl rfl ?_
  refine ea_if_lt (tgt := 22) (pc' := 4) dX5_sees_1 (by decide) rfl (fun hc => ?_) (fun hc => ?_)
  · replace h := h.1 hc
    refine ea_iconst (v := (-1)) (pc' := 23) dX5_sees_22 (by decide) rfl ?_
    exact ea_iret rfl dX5_sees_23 ⟨_, rfl, h⟩
  · replace h := h.2 hc
    refine ea_iload_n (pc' := 5) (i := 1) dX5_sees_4 rfl 1 rfl rfl ?_
    refine ea_sipush (v := 999) (pc' := 8) dX5_sees_5 (by decide) rfl ?_
    refine ea_icmp_gt (tgt := 22) (pc' := 11) dX5_sees_8 (by decide) rfl (fun hc => ?_) (fun hc => ?_)
    · replace h := h.1 hc
      refine ea_iconst (v := (-1)) (pc' := 23) dX5_sees_22 (by decide) rfl ?_
      exact ea_iret rfl dX5_sees_23 ⟨_, rfl, h⟩
    · replace h := h.2 hc
      refine ea_iload_n (pc' := 12) (i := 2) dX5_sees_11 rfl 2 rfl rfl ?_
      refine ea_if_lt (tgt := 22) (pc' := 15) dX5_sees_12 (by decide) rfl (fun hc => ?_) (fun hc => ?_)
      · replace h := h.1 hc
        refine ea_iconst (v := (-1)) (pc' := 23) dX5_sees_22 (by decide) rfl ?_
        exact ea_iret rfl dX5_sees_23 ⟨_, rfl, h⟩
      · replace h := h.2 hc
        refine ea_iload_n (pc' := 16) (i := 2) dX5_sees_15 rfl 2 rfl rfl ?_
        refine ea_sipush (v := 999) (pc' := 19) dX5_sees_16 (by decide) rfl ?_
        refine ea_icmp_le (tgt := 24) (pc' := 22) dX5_sees_19 (by decide) rfl (fun hc => ?_) (fun hc => ?_)
        · replace h := h.1 hc
          refine ea_aload_n (pc' := 25) (i := 0) dX5_sees_24 rfl 0 rfl rfl ?_
          refine ea_geti (kf := 10) (pc' := 28) kok_0 hVl0 (by decide) rfl fl_X5_63 dX5_sees_25 rfl ?_
          refine ea_bipush (v := 6) (pc' := 30) dX5_sees_28 (by decide) rfl ?_
          refine ea_icmp_lt (tgt := 36) (pc' := 33) dX5_sees_30 (by decide) rfl (fun hc => ?_) (fun hc => ?_)
          · replace h := h.1 hc
            refine ea_aload_n (pc' := 37) (i := 0) dX5_sees_36 rfl 0 rfl rfl ?_
            refine ea_getr (k2 := 24) (x2 := 0) (kf := 8) (pc' := 40) kok_0 hVl0 (by decide) rfl fl_X5_56 rfl dX5_sees_37 rfl ?_
            refine ea_aload_n (pc' := 41) (i := 0) dX5_sees_40 rfl 0 rfl rfl ?_
            refine ea_geti (kf := 10) (pc' := 44) kok_0 hVl0 (by decide) rfl fl_X5_63 dX5_sees_41 rfl ?_
            refine ea_iload_n (pc' := 45) (i := 1) dX5_sees_44 rfl 1 rfl rfl ?_
            obtain ⟨o1, h⟩ := h
            refine ea_iast (j := (S.1 0 x0 10).toNatClampNeg) (pc' := 46) (hCl.1 0 x0 8 24 hVl0 rfl) rfl o1 dX5_sees_45 rfl rfl ?_
            refine ea_tops (fun S2 hS2 => ?_)
            replace h := h S2 hS2
            refine ea_aload_n (pc' := 47) (i := 0) dX5_sees_46 rfl 0 rfl rfl ?_
            refine ea_getr (k2 := 25) (x2 := 0) (kf := 9) (pc' := 50) kok_0 hVl0 (by decide) rfl fl_X5_60 rfl dX5_sees_47 rfl ?_
            refine ea_aload_n (pc' := 51) (i := 0) dX5_sees_50 rfl 0 rfl rfl ?_
            refine ea_geti (kf := 10) (pc' := 54) kok_0 hVl0 (by decide) rfl fl_X5_63 dX5_sees_51 rfl ?_
            refine ea_iload_n (pc' := 55) (i := 2) dX5_sees_54 rfl 2 rfl rfl ?_
            obtain ⟨o3, h⟩ := h
            refine ea_iast (j := (S2.1 0 x0 10).toNatClampNeg) (pc' := 56) (hCl.1 0 x0 9 25 hVl0 rfl) rfl o3 dX5_sees_55 rfl rfl ?_
            refine ea_tops (fun S4 hS4 => ?_)
            replace h := h S4 hS4
            refine ea_aload_n (pc' := 57) (i := 0) dX5_sees_56 rfl 0 rfl rfl ?_
            refine ea_dup (pc' := 58) dX5_sees_57 rfl rfl ?_
            refine ea_geti (kf := 10) (pc' := 61) kok_0 hVl0 (by decide) rfl fl_X5_63 dX5_sees_58 rfl ?_
            refine ea_iconst (v := 1) (pc' := 62) dX5_sees_61 (by decide) rfl ?_
            refine ea_iadd (pc' := 63) dX5_sees_62 rfl ?_
            refine ea_puti (kf := 10) (pc' := 66) kok_0 hVl0 (by decide) rfl fl_X5_63 rfl rfl dX5_sees_63 rfl ?_
            refine ea_tops (fun S5 hS5 => ?_)
            replace h := h S5 hS5
            refine ea_aload_n (pc' := 67) (i := 0) dX5_sees_66 rfl 0 rfl rfl ?_
            refine ea_geti (kf := 10) (pc' := 70) kok_0 hVl0 (by decide) rfl fl_X5_63 dX5_sees_67 rfl ?_
            exact ea_iret rfl dX5_sees_70 ⟨_, rfl, h⟩
          · replace h := h.2 hc
            refine ea_bipush (v := (-3)) (pc' := 35) dX5_sees_33 (by decide) rfl ?_
            exact ea_iret rfl dX5_sees_35 ⟨_, rfl, h⟩
        · replace h := h.2 hc
          refine ea_iconst (v := (-1)) (pc' := 23) dX5_sees_22 (by decide) rfl ?_
          exact ea_iret rfl dX5_sees_23 ⟨_, rfl, h⟩
theorem vm_X5_sees {G : evG} {d : Nat} {q : Int32 → evS → Prop} {x0 : Nat} {l1 : Int32} {l2 : Int32} {S : evS} (h : bk_X5_sees_0 G d (evQI q) x0 l1 l2 S) : evSp G yX5_sees M_X5_sees d [.ref (evad G 0 x0), .int l1, .int l2] S (evQI q) :=
  evSp.of (by decide +kernel) rfl (Nat.le_of_ble_eq_true rfl) h
abbrev bk_X5_forget_0 (G : evG) (d : Nat) (Q : Option Value → evS → Prop) (x0 : Nat) (S : evS) : Prop := evAt G M_X5_forget (evFm G d Q) 0 [(0, .ref (evad G 0 x0))] [] S
set_option maxRecDepth 100000 in
set_option maxHeartbeats 4000000 in
theorem vb_X5_forget_0 {G : evG} {d : Nat} {q : Int32 → evS → Prop} (hCl : evCl G) {x0 : Nat} {S : evS} (hVl0 : (0, x0) ∈ evKs G)
    (h : (∀ v1 : Int32, v1 = (S.1 0 x0 10) → (∀ S2 : evS, S2 = evup S 0 x0 10 0 → q v1 S2))) : bk_X5_forget_0 G d (evQI q) x0 S := by
  refine ea_aload_n (pc' := 1) (i := 0) dX5_forget_0 rfl 0 rfl rfl ?_
  refine ea_geti (kf := 10) (pc' := 4) kok_0 hVl0 (by decide) rfl fl_X5_63 dX5_forget_1 rfl ?_
  refine ea_topi (fun v1 hv1 => ?_)
  replace h := h v1 hv1
  refine ea_istore_n (lv' := [(1, .int v1), (0, .ref (evad G 0 x0))]) (pc' := 5) dX5_forget_4 rfl (by decide) rfl rfl ?_
  refine ea_aload_n (pc' := 6) (i := 0) dX5_forget_5 rfl 1 rfl rfl ?_
  refine ea_iconst (v := 0) (pc' := 7) dX5_forget_6 (by decide) rfl ?_
  refine ea_puti (kf := 10) (pc' := 10) kok_0 hVl0 (by decide) rfl fl_X5_63 rfl rfl dX5_forget_7 rfl ?_
  refine ea_tops (fun S2 hS2 => ?_)
  replace h := h S2 hS2
  refine ea_iload_n (pc' := 11) (i := 1) dX5_forget_10 rfl 0 rfl rfl ?_
  exact ea_iret rfl dX5_forget_11 ⟨_, rfl, h⟩
theorem vm_X5_forget {G : evG} {d : Nat} {q : Int32 → evS → Prop} {x0 : Nat} {S : evS} (h : bk_X5_forget_0 G d (evQI q) x0 S) : evSp G yX5_forget M_X5_forget d [.ref (evad G 0 x0)] S (evQI q) :=
  evSp.of (by decide +kernel) rfl (Nat.le_of_ble_eq_true rfl) h
abbrev bk_X5_which_0 (G : evG) (d : Nat) (Q : Option Value → evS → Prop) (x0 : Nat) (S : evS) : Prop := evAt G M_X5_which (evFm G (d + 1) Q) 0 [(0, .ref (evad G 0 x0))] [] S
set_option maxRecDepth 100000 in
set_option maxHeartbeats 4000000 in
theorem vb_X5_which_0 {G : evG} {d : Nat} {q : Int32 → evS → Prop} (hCl : evCl G) {x0 : Nat} {S : evS} (hVl0 : (0, x0) ∈ evKs G)
    (h : (evSp G yX5_drawAllPlans M_X5_drawAllPlans d [.ref (evad G 0 x0)] S (evQV fun S1 => (evSp G yX5_suspects M_X5_suspects d [.ref (evad G 0 x0)] S1 (evQI fun r2 S3 => q r2 S3))))) : bk_X5_which_0 G d (evQI q) x0 S := by
  refine ea_aload_n (pc' := 1) (i := 0) dX5_which_0 rfl 0 rfl rfl ?_
  refine ea_cvv (As := []) (st := []) (d := d) (pc' := 4) mv_X5_drawAllPlans ml_X5_182 kok_0 hVl0 rfl rfl dX5_which_1 rfl (Nat.le_of_ble_eq_true rfl) (ev_room (by decide)) ⟨Nat.le_refl _, Nat.le_refl _⟩ h rfl (fun S1 h => ?_)
  refine ea_aload_n (pc' := 5) (i := 0) dX5_which_4 rfl 0 rfl rfl ?_
  refine ea_cvi (As := []) (st := []) (d := d) (pc' := 8) mv_X5_suspects ml_X5_185 kok_0 hVl0 rfl rfl dX5_which_5 rfl (Nat.le_of_ble_eq_true rfl) (ev_room (by decide)) ⟨Nat.le_refl _, Nat.le_refl _⟩ h rfl (fun r2 S3 h => ?_)
  exact ea_iret rfl dX5_which_8 ⟨_, rfl, h⟩
theorem vm_X5_which {G : evG} {d : Nat} {q : Int32 → evS → Prop} {x0 : Nat} {S : evS} (h : bk_X5_which_0 G d (evQI q) x0 S) : evSp G yX5_which M_X5_which (d + 1) [.ref (evad G 0 x0)] S (evQI q) :=
  evSp.of (by decide +kernel) rfl (Nat.le_of_ble_eq_true rfl) h
abbrev bk_X5_drawAllPlans_0 (G : evG) (d : Nat) (Q : Option Value → evS → Prop) (x0 : Nat) (S : evS) : Prop := evAt G M_X5_drawAllPlans (evFm G (d + 1) Q) 0 [(0, .ref (evad G 0 x0))] [] S
abbrev bk_X5_drawAllPlans_2 (G : evG) (d : Nat) (Q : Option Value → evS → Prop) (x0 : Nat) (l1 : Int32) (S : evS) : Prop := evAt G M_X5_drawAllPlans (evFm G (d + 1) Q) 2 [(0, .ref (evad G 0 x0)), (1, .int l1)] [] S
set_option maxRecDepth 100000 in
set_option maxHeartbeats 4000000 in
theorem vb_X5_drawAllPlans_0 {G : evG} {d : Nat} {q : evS → Prop} (hCl : evCl G) {x0 : Nat} {S : evS} (hVl0 : (0, x0) ∈ evKs G)
    (h : bk_X5_drawAllPlans_2 G d (evQV q) x0 0 S) : bk_X5_drawAllPlans_0 G d (evQV q) x0 S := by
  refine ea_iconst (v := 0) (pc' := 1) dX5_drawAllPlans_0 (by decide) rfl ?_
  refine ea_istore_n (lv' := [(1, .int 0), (0, .ref (evad G 0 x0))]) (pc' := 2) dX5_drawAllPlans_1 rfl (by decide) rfl rfl ?_
  refine ea_loc [1, 0] rfl ?_
  exact h
set_option maxRecDepth 100000 in
set_option maxHeartbeats 4000000 in
theorem vb_X5_drawAllPlans_2 {G : evG} {d : Nat} {q : evS → Prop} (hCl : evCl G) {x0 : Nat} {l1 : Int32} {S : evS} (hVl0 : (0, x0) ∈ evKs G)
    (h : ((4 ≤ l1 → q S) ∧ (¬ 4 ≤ l1 → (vp_in l1 4 ∧ (vp_in l1 4 ∧ (evSp G yX2_draw M_X2_draw d [.ref (evad G 6 l1.toNatClampNeg), .ref (evad G 3 l1.toNatClampNeg)] S (evQV fun S3 => (∀ v4 : Int32, v4 = (l1 + 1) → bk_X5_drawAllPlans_2 G d (evQV q) x0 v4 S3)))))))) : bk_X5_drawAllPlans_2 G d (evQV q) x0 l1 S := by
  refine ea_iload_n (pc' := 3) (i := 1) dX5_drawAllPlans_2 rfl 1 rfl rfl ?_
  refine ea_iconst (v := 4) (pc' := 4) dX5_drawAllPlans_3 (by decide) rfl ?_
  refine ea_icmp_ge (tgt := 31) (pc' := 7) dX5_drawAllPlans_4 (by decide) rfl (fun hc => ?_) (fun hc => ?_)
  · replace h := h.1 hc
    exact ea_vret rfl dX5_drawAllPlans_31 ⟨rfl, h⟩
  · replace h := h.2 hc
    refine ea_aload_n (pc' := 8) (i := 0) dX5_drawAllPlans_7 rfl 0 rfl rfl ?_
    refine ea_getr (k2 := 23) (x2 := 0) (kf := 7) (pc' := 11) kok_0 hVl0 (by decide) rfl fl_X5_52 rfl dX5_drawAllPlans_8 rfl ?_
    refine ea_iload_n (pc' := 12) (i := 1) dX5_drawAllPlans_11 rfl 1 rfl rfl ?_
    obtain ⟨o1, h⟩ := h
    refine ea_aald (t0 := 5) (cn := RX2) (j := l1.toNatClampNeg) (x2 := l1.toNatClampNeg) (k2 := 6) (pc' := 13) (hCl.1 0 x0 7 23 hVl0 rfl) rfl rfl o1 dX5_drawAllPlans_12 rfl rfl rfl rfl ?_
    refine ea_aload_n (pc' := 14) (i := 0) dX5_drawAllPlans_13 rfl 0 rfl rfl ?_
    refine ea_getr (k2 := 1) (x2 := 0) (kf := 0) (pc' := 17) kok_0 hVl0 (by decide) rfl fl_X5_10 rfl dX5_drawAllPlans_14 rfl ?_
    refine ea_getrN (host := RX5) (k2 := 2) (x2 := 0) (kf := 0) (pc' := 20) kok_1 (hCl.1 0 x0 0 1 hVl0 rfl) (by decide) rfl rfl rfl dX5_drawAllPlans_17 rfl ?_
    refine ea_iload_n (pc' := 21) (i := 1) dX5_drawAllPlans_20 rfl 1 rfl rfl ?_
    obtain ⟨o2, h⟩ := h
    refine ea_aald (t0 := 4) (cn := RX3) (j := l1.toNatClampNeg) (x2 := l1.toNatClampNeg) (k2 := 3) (pc' := 22) (hCl.1 1 0 0 2 (hCl.1 0 x0 0 1 hVl0 rfl) rfl) rfl rfl o2 dX5_drawAllPlans_21 rfl (Nat.zero_add _) rfl rfl ?_
    refine ea_cvv (As := [.ref (evad G 3 l1.toNatClampNeg)]) (st := []) (d := d) (pc' := 25) mv_X2_draw ml_X5_169 kok_6 (ev_cle (n := 4) (j := l1.toNatClampNeg) (k2 := 6) (x2 := l1.toNatClampNeg) hCl (hCl.1 0 x0 7 23 hVl0 rfl) rfl rfl o1 rfl rfl rfl) rfl rfl dX5_drawAllPlans_22 rfl (Nat.le_of_ble_eq_true rfl) (ev_room (by decide)) ⟨Nat.le_refl _, Nat.le_refl _⟩ h rfl (fun S3 h => ?_)
    obtain ⟨v4, hv4⟩ : ∃ z : Int32, z = (l1 + 1) := ⟨_, rfl⟩
    replace h := h v4 hv4
    refine ea_iinc (q := 1) (v := v4) (lv' := [(1, .int v4), (0, .ref (evad G 0 x0))]) (pc' := 28) dX5_drawAllPlans_25 rfl (by rw [hv4]; rfl) (by decide) rfl rfl ?_
    refine ea_goto (tgt := 2) dX5_drawAllPlans_28 (by decide) ?_
    refine ea_loc [1, 0] rfl ?_
    exact h
theorem vm_X5_drawAllPlans {G : evG} {d : Nat} {q : evS → Prop} {x0 : Nat} {S : evS} (h : bk_X5_drawAllPlans_0 G d (evQV q) x0 S) : evSp G yX5_drawAllPlans M_X5_drawAllPlans (d + 1) [.ref (evad G 0 x0)] S (evQV q) :=
  evSp.of (by decide +kernel) rfl (Nat.le_of_ble_eq_true rfl) h
