abbrev bk_X5_type_0 (G : evG) (d : Nat) (Q : Option Value → evS → Prop) (x0 : Nat) (l1 : Int32) (S : evS) : Prop := evAt G M_X5_type (evFm G (d + 1) Q) 0 [(0, .ref (evad G 0 x0)), (1, .int l1)] [] S
set_option maxRecDepth 100000 in
set_option maxHeartbeats 4000000 in
theorem vb_X5_type_0 {G : evG} {d : Nat} {q : Int32 → evS → Prop} (hCl : evCl G) {x0 : Nat} {l1 : Int32} {S : evS} (hVl0 : (0, x0) ∈ evKs G)
    (h : ((l1 < 0 → q (-1) S) ∧ (¬ l1 < 0 → ((l1 ≤ 255 → (evSp G yX4_takesLetter M_X4_takesLetter d [.ref (evad G 18 0), .int l1] S (evQI fun r1 S2 => ((r1 = 0 → q (-3) S2) ∧ (¬ r1 = 0 → (evSp G yX4_length M_X4_length d [.ref (evad G 18 0)] S2 (evQI fun r3 S4 => q r3 S4))))))) ∧ (¬ l1 ≤ 255 → q (-1) S))))) : bk_X5_type_0 G d (evQI q) x0 l1 S := by
  refine ea_iload_n (pc' := 1) (i := 1) dX5_type_0 rfl 1 rfl rfl ?_
  refine ea_if_lt (tgt := 11) (pc' := 4) dX5_type_1 (by decide) rfl (fun hc => ?_) (fun hc => ?_)
  · replace h := h.1 hc
    refine ea_iconst (v := (-1)) (pc' := 12) dX5_type_11 (by decide) rfl ?_
    exact ea_iret rfl dX5_type_12 ⟨_, rfl, h⟩
  · replace h := h.2 hc
    refine ea_iload_n (pc' := 5) (i := 1) dX5_type_4 rfl 1 rfl rfl ?_
    refine ea_sipush (v := 255) (pc' := 8) dX5_type_5 (by decide) rfl ?_
    refine ea_icmp_le (tgt := 13) (pc' := 11) dX5_type_8 (by decide) rfl (fun hc => ?_) (fun hc => ?_)
    · replace h := h.1 hc
      refine ea_aload_n (pc' := 14) (i := 0) dX5_type_13 rfl 0 rfl rfl ?_
      refine ea_getr (k2 := 18) (x2 := 0) (kf := 4) (pc' := 17) kok_0 hVl0 (by decide) rfl fl_X5_34 rfl dX5_type_14 rfl ?_
      refine ea_iload_n (pc' := 18) (i := 1) dX5_type_17 rfl 1 rfl rfl ?_
      refine ea_cvi (As := [.int l1]) (st := []) (d := d) (pc' := 21) mv_X4_takesLetter ml_X5_70 kok_18 (hCl.1 0 x0 4 18 hVl0 rfl) rfl rfl dX5_type_18 rfl (Nat.le_of_ble_eq_true rfl) (ev_room (by decide)) ⟨Nat.le_refl _, Nat.le_refl _⟩ h rfl (fun r1 S2 h => ?_)
      refine ea_if_eq (tgt := 34) (pc' := 24) dX5_type_21 (by decide) rfl (fun hc => ?_) (fun hc => ?_)
      · replace h := h.1 hc
        refine ea_bipush (v := (-3)) (pc' := 36) dX5_type_34 (by decide) rfl ?_
        exact ea_iret rfl dX5_type_36 ⟨_, rfl, h⟩
      · replace h := h.2 hc
        refine ea_aload_n (pc' := 25) (i := 0) dX5_type_24 rfl 0 rfl rfl ?_
        refine ea_getr (k2 := 18) (x2 := 0) (kf := 4) (pc' := 28) kok_0 hVl0 (by decide) rfl fl_X5_34 rfl dX5_type_25 rfl ?_
        refine ea_cvi (As := []) (st := []) (d := d) (pc' := 31) mv_X4_length ml_X5_74 kok_18 (hCl.1 0 x0 4 18 hVl0 rfl) rfl rfl dX5_type_28 rfl (Nat.le_of_ble_eq_true rfl) (ev_room (by decide)) ⟨Nat.le_refl _, Nat.le_refl _⟩ h rfl (fun r3 S4 h => ?_)
        refine ea_goto (tgt := 36) dX5_type_31 (by decide) ?_
        exact ea_iret rfl dX5_type_36 ⟨_, rfl, h⟩
    · replace h := h.2 hc
      refine ea_iconst (v := (-1)) (pc' := 12) dX5_type_11 (by decide) rfl ?_
      exact ea_iret rfl dX5_type_12 ⟨_, rfl, h⟩
theorem vm_X5_type {G : evG} {d : Nat} {q : Int32 → evS → Prop} {x0 : Nat} {l1 : Int32} {S : evS} (h : bk_X5_type_0 G d (evQI q) x0 l1 S) : evSp G yX5_type M_X5_type (d + 1) [.ref (evad G 0 x0), .int l1] S (evQI q) :=
  evSp.of (by decide +kernel) rfl (Nat.le_of_ble_eq_true rfl) h
abbrev bk_X5_clear_0 (G : evG) (d : Nat) (Q : Option Value → evS → Prop) (x0 : Nat) (S : evS) : Prop := evAt G M_X5_clear (evFm G (d + 1) Q) 0 [(0, .ref (evad G 0 x0))] [] S
set_option maxRecDepth 100000 in
set_option maxHeartbeats 4000000 in
theorem vb_X5_clear_0 {G : evG} {d : Nat} {q : Int32 → evS → Prop} (hCl : evCl G) {x0 : Nat} {S : evS} (hVl0 : (0, x0) ∈ evKs G)
    (h : (evSp G yX4_length M_X4_length d [.ref (evad G 18 0)] S (evQI fun r1 S2 => (evSp G yX4_becomeEmpty M_X4_becomeEmpty d [.ref (evad G 18 0)] S2 (evQV fun S3 => q r1 S3))))) : bk_X5_clear_0 G d (evQI q) x0 S := by
  refine ea_aload_n (pc' := 1) (i := 0) dX5_clear_0 rfl 0 rfl rfl ?_
  refine ea_getr (k2 := 18) (x2 := 0) (kf := 4) (pc' := 4) kok_0 hVl0 (by decide) rfl fl_X5_34 rfl dX5_clear_1 rfl ?_
  refine ea_cvi (As := []) (st := []) (d := d) (pc' := 7) mv_X4_length ml_X5_74 kok_18 (hCl.1 0 x0 4 18 hVl0 rfl) rfl rfl dX5_clear_4 rfl (Nat.le_of_ble_eq_true rfl) (ev_room (by decide)) ⟨Nat.le_refl _, Nat.le_refl _⟩ h rfl (fun r1 S2 h => ?_)
  refine ea_istore_n (lv' := [(1, .int r1), (0, .ref (evad G 0 x0))]) (pc' := 8) dX5_clear_7 rfl (by decide) rfl rfl ?_
  refine ea_aload_n (pc' := 9) (i := 0) dX5_clear_8 rfl 1 rfl rfl ?_
  refine ea_getr (k2 := 18) (x2 := 0) (kf := 4) (pc' := 12) kok_0 hVl0 (by decide) rfl fl_X5_34 rfl dX5_clear_9 rfl ?_
  refine ea_cvv (As := []) (st := []) (d := d) (pc' := 15) mv_X4_becomeEmpty ml_X5_78 kok_18 (hCl.1 0 x0 4 18 hVl0 rfl) rfl rfl dX5_clear_12 rfl (Nat.le_of_ble_eq_true rfl) (ev_room (by decide)) ⟨Nat.le_refl _, Nat.le_refl _⟩ h rfl (fun S3 h => ?_)
  refine ea_iload_n (pc' := 16) (i := 1) dX5_clear_15 rfl 0 rfl rfl ?_
  exact ea_iret rfl dX5_clear_16 ⟨_, rfl, h⟩
theorem vm_X5_clear {G : evG} {d : Nat} {q : Int32 → evS → Prop} {x0 : Nat} {S : evS} (h : bk_X5_clear_0 G d (evQI q) x0 S) : evSp G yX5_clear M_X5_clear (d + 1) [.ref (evad G 0 x0)] S (evQI q) :=
  evSp.of (by decide +kernel) rfl (Nat.le_of_ble_eq_true rfl) h
abbrev bk_X5_tells_0 (G : evG) (d : Nat) (Q : Option Value → evS → Prop) (x0 : Nat) (l1 : Int32) (S : evS) : Prop := evAt G M_X5_tells (evFm G (d + 1) Q) 0 [(0, .ref (evad G 0 x0)), (1, .int l1)] [] S
set_option maxRecDepth 100000 in
set_option maxHeartbeats 4000000 in
theorem vb_X5_tells_0 {G : evG} {d : Nat} {q : Int32 → evS → Prop} (hCl : evCl G) {x0 : Nat} {l1 : Int32} {S : evS} (hVl0 : (0, x0) ∈ evKs G)
    (h : (evSp G yX5_isNoShip M_X5_isNoShip d [.int l1] S (evQI fun r1 S2 => ((r1 = 0 → (evSp G yX4_tellShip M_X4_tellShip d [.ref (evad G 18 0), .ref (evad G 3 36)] S2 (evQI fun r3 S4 => ((0 ≤ r3 → (evSp G yX1_remember M_X1_remember d [.ref (evad G 16 0), .ref (evad G 1 0)] S4 (evQV fun S5 => (vp_in l1 4 ∧ (evSp G yX3_becomeLike M_X3_becomeLike d [.ref (evad G 3 l1.toNatClampNeg), .ref (evad G 3 36)] S5 (evQV fun S7 => (evSp G yX4_becomeEmpty M_X4_becomeEmpty d [.ref (evad G 18 0)] S7 (evQV fun S8 => q r3 S8)))))))) ∧ (¬ 0 ≤ r3 → q r3 S4))))) ∧ (¬ r1 = 0 → q (-1) S2))))) : bk_X5_tells_0 G d (evQI q) x0 l1 S := by
  refine ea_iload_n (pc' := 1) (i := 1) dX5_tells_0 rfl 1 rfl rfl ?_
  refine ea_csi (As := [.int l1]) (st := []) (d := d) (pc' := 4) mv_X5_isNoShip ml_X5_81 rfl dX5_tells_1 rfl (Nat.le_of_ble_eq_true rfl) (ev_room (by decide)) ⟨Nat.le_refl _, Nat.le_refl _⟩ h rfl (fun r1 S2 h => ?_)
  refine ea_if_eq (tgt := 9) (pc' := 7) dX5_tells_4 (by decide) rfl (fun hc => ?_) (fun hc => ?_)
  · replace h := h.1 hc
    refine ea_aload_n (pc' := 10) (i := 0) dX5_tells_9 rfl 0 rfl rfl ?_
    refine ea_getr (k2 := 18) (x2 := 0) (kf := 4) (pc' := 13) kok_0 hVl0 (by decide) rfl fl_X5_34 rfl dX5_tells_10 rfl ?_
    refine ea_aload_n (pc' := 14) (i := 0) dX5_tells_13 rfl 0 rfl rfl ?_
    refine ea_getr (k2 := 3) (x2 := 36) (kf := 5) (pc' := 17) kok_0 hVl0 (by decide) rfl fl_X5_41 rfl dX5_tells_14 rfl ?_
    refine ea_cvi (As := [.ref (evad G 3 36)]) (st := []) (d := d) (pc' := 20) mv_X4_tellShip ml_X5_84 kok_18 (hCl.1 0 x0 4 18 hVl0 rfl) rfl rfl dX5_tells_17 rfl (Nat.le_of_ble_eq_true rfl) (ev_room (by decide)) ⟨Nat.le_refl _, Nat.le_refl _⟩ h rfl (fun r3 S4 h => ?_)
    refine ea_istore_n (lv' := [(2, .int r3), (0, .ref (evad G 0 x0)), (1, .int l1)]) (pc' := 21) dX5_tells_20 rfl (by decide) rfl rfl ?_
    refine ea_iload_n (pc' := 22) (i := 2) dX5_tells_21 rfl 0 rfl rfl ?_
    refine ea_if_ge (tgt := 27) (pc' := 25) dX5_tells_22 (by decide) rfl (fun hc => ?_) (fun hc => ?_)
    · replace h := h.1 hc
      refine ea_aload_n (pc' := 28) (i := 0) dX5_tells_27 rfl 1 rfl rfl ?_
      refine ea_getr (k2 := 16) (x2 := 0) (kf := 1) (pc' := 31) kok_0 hVl0 (by decide) rfl fl_X5_19 rfl dX5_tells_28 rfl ?_
      refine ea_aload_n (pc' := 32) (i := 0) dX5_tells_31 rfl 1 rfl rfl ?_
      refine ea_getr (k2 := 1) (x2 := 0) (kf := 0) (pc' := 35) kok_0 hVl0 (by decide) rfl fl_X5_10 rfl dX5_tells_32 rfl ?_
      refine ea_cvv (As := [.ref (evad G 1 0)]) (st := []) (d := d) (pc' := 38) mv_X1_remember ml_X5_88 kok_16 (hCl.1 0 x0 1 16 hVl0 rfl) rfl rfl dX5_tells_35 rfl (Nat.le_of_ble_eq_true rfl) (ev_room (by decide)) ⟨Nat.le_refl _, Nat.le_refl _⟩ h rfl (fun S5 h => ?_)
      refine ea_aload_n (pc' := 39) (i := 0) dX5_tells_38 rfl 1 rfl rfl ?_
      refine ea_getr (k2 := 1) (x2 := 0) (kf := 0) (pc' := 42) kok_0 hVl0 (by decide) rfl fl_X5_10 rfl dX5_tells_39 rfl ?_
      refine ea_getrN (host := RX5) (k2 := 2) (x2 := 0) (kf := 0) (pc' := 45) kok_1 (hCl.1 0 x0 0 1 hVl0 rfl) (by decide) rfl rfl rfl dX5_tells_42 rfl ?_
      refine ea_iload_n (pc' := 46) (i := 1) dX5_tells_45 rfl 2 rfl rfl ?_
      obtain ⟨o6, h⟩ := h
      refine ea_aald (t0 := 4) (cn := RX3) (j := l1.toNatClampNeg) (x2 := l1.toNatClampNeg) (k2 := 3) (pc' := 47) (hCl.1 1 0 0 2 (hCl.1 0 x0 0 1 hVl0 rfl) rfl) rfl rfl o6 dX5_tells_46 rfl (Nat.zero_add _) rfl rfl ?_
      refine ea_aload_n (pc' := 48) (i := 0) dX5_tells_47 rfl 1 rfl rfl ?_
      refine ea_getr (k2 := 3) (x2 := 36) (kf := 5) (pc' := 51) kok_0 hVl0 (by decide) rfl fl_X5_41 rfl dX5_tells_48 rfl ?_
      refine ea_cvv (As := [.ref (evad G 3 36)]) (st := []) (d := d) (pc' := 54) mv_X3_becomeLike ml_X5_96 kok_3 (ev_cle (n := 4) (j := l1.toNatClampNeg) (k2 := 3) (x2 := l1.toNatClampNeg) hCl (hCl.1 1 0 0 2 (hCl.1 0 x0 0 1 hVl0 rfl) rfl) rfl rfl o6 rfl rfl (Nat.zero_add _)) rfl rfl dX5_tells_51 rfl (Nat.le_of_ble_eq_true rfl) (ev_room (by decide)) ⟨Nat.le_refl _, Nat.le_refl _⟩ h rfl (fun S7 h => ?_)
      refine ea_aload_n (pc' := 55) (i := 0) dX5_tells_54 rfl 1 rfl rfl ?_
      refine ea_getr (k2 := 18) (x2 := 0) (kf := 4) (pc' := 58) kok_0 hVl0 (by decide) rfl fl_X5_34 rfl dX5_tells_55 rfl ?_
      refine ea_cvv (As := []) (st := []) (d := d) (pc' := 61) mv_X4_becomeEmpty ml_X5_78 kok_18 (hCl.1 0 x0 4 18 hVl0 rfl) rfl rfl dX5_tells_58 rfl (Nat.le_of_ble_eq_true rfl) (ev_room (by decide)) ⟨Nat.le_refl _, Nat.le_refl _⟩ h rfl (fun S8 h => ?_)
      refine ea_iload_n (pc' := 62) (i := 2) dX5_tells_61 rfl 0 rfl rfl ?_
      exact ea_iret rfl dX5_tells_62 ⟨_, rfl, h⟩
    · replace h := h.2 hc
      refine ea_iload_n (pc' := 26) (i := 2) dX5_tells_25 rfl 0 rfl rfl ?_
      exact ea_iret rfl dX5_tells_26 ⟨_, rfl, h⟩
  · replace h := h.2 hc
    refine ea_iconst (v := (-1)) (pc' := 8) dX5_tells_7 (by decide) rfl ?_
    exact ea_iret rfl dX5_tells_8 ⟨_, rfl, h⟩
theorem vm_X5_tells {G : evG} {d : Nat} {q : Int32 → evS → Prop} {x0 : Nat} {l1 : Int32} {S : evS} (h : bk_X5_tells_0 G d (evQI q) x0 l1 S) : evSp G yX5_tells M_X5_tells (d + 1) [.ref (evad G 0 x0), .int l1] S (evQI q) :=
  evSp.of (by decide +kernel) rfl (Nat.le_of_ble_eq_true rfl) h
abbrev bk_X5_isNoShip_0 (G : evG) (d : Nat) (Q : Option Value → evS → Prop) (l0 : Int32) (S : evS) : Prop := evAt G M_X5_isNoShip (evFm G d Q) 0 [(0, .int l0)] [] S
set_option maxRecDepth 100000 in
set_option maxHeartbeats 4000000 in
theorem vb_X5_isNoShip_0 {G : evG} {d : Nat} {q : Int32 → evS → Prop} (hCl : evCl G) {l0 : Int32} {S : evS}
    (h : ((l0 < 0 → q 1 S) ∧ (¬ l0 < 0 → ((l0 < 4 → q 0 S) ∧ (¬ l0 < 4 → q 1 S))))) : bk_X5_isNoShip_0 G d (evQI q) l0 S := by
  refine ea_iload_n (pc' := 1) (i := 0) dX5_isNoShip_0 rfl 0 rfl rfl ?_
  refine ea_if_lt (tgt := 9) (pc' := 4) dX5_isNoShip_1 (by decide) rfl (fun hc => ?_) (fun hc => ?_)
  · replace h := h.1 hc
    refine ea_iconst (v := 1) (pc' := 10) dX5_isNoShip_9 (by decide) rfl ?_
    refine ea_goto (tgt := 14) dX5_isNoShip_10 (by decide) ?_
    exact ea_zret rfl dX5_isNoShip_14 (by decide) ⟨_, rfl, h⟩
  · replace h := h.2 hc
    refine ea_iload_n (pc' := 5) (i := 0) dX5_isNoShip_4 rfl 0 rfl rfl ?_
    refine ea_iconst (v := 4) (pc' := 6) dX5_isNoShip_5 (by decide) rfl ?_
    refine ea_icmp_lt (tgt := 13) (pc' := 9) dX5_isNoShip_6 (by decide) rfl (fun hc => ?_) (fun hc => ?_)
    · replace h := h.1 hc
      refine ea_iconst (v := 0) (pc' := 14) dX5_isNoShip_13 (by decide) rfl ?_
      exact ea_zret rfl dX5_isNoShip_14 (by decide) ⟨_, rfl, h⟩
    · replace h := h.2 hc
      refine ea_iconst (v := 1) (pc' := 10) dX5_isNoShip_9 (by decide) rfl ?_
      refine ea_goto (tgt := 14) dX5_isNoShip_10 (by decide) ?_
      exact ea_zret rfl dX5_isNoShip_14 (by decide) ⟨_, rfl, h⟩
theorem vm_X5_isNoShip {G : evG} {d : Nat} {q : Int32 → evS → Prop} {l0 : Int32} {S : evS} (h : bk_X5_isNoShip_0 G d (evQI q) l0 S) : evSp G yX5_isNoShip M_X5_isNoShip d [.int l0] S (evQI q) :=
  evSp.of (by decide +kernel) rfl (Nat.le_of_ble_eq_true rfl) h
abbrev bk_X5_sails_0 (G : evG) (d : Nat) (Q : Option Value → evS → Prop) (x0 : Nat) (l1 : Int32) (S : evS) : Prop := evAt G M_X5_sails (evFm G (d + 1) Q) 0 [(0, .ref (evad G 0 x0)), (1, .int l1)] [] S
set_option maxRecDepth 100000 in
set_option maxHeartbeats 4000000 in
theorem vb_X5_sails_0 {G : evG} {d : Nat} {q : Int32 → evS → Prop} (hCl : evCl G) {x0 : Nat} {l1 : Int32} {S : evS} (hVl0 : (0, x0) ∈ evKs G)
    (h : (evSp G yX5_isNoShip M_X5_isNoShip d [.int l1] S (evQI fun r1 S2 => ((r1 = 0 → (vp_in l1 4 ∧ (evSp G yX5_drawnPlan M_X5_drawnPlan d [.ref (evad G 0 x0), .int l1] S2 (evQR (evad G 6 l1.toNatClampNeg) fun S4 => (vp_in l1 4 ∧ (evSp G yX2_stands M_X2_stands d [.ref (evad G 6 l1.toNatClampNeg)] S4 (evQI fun r7 S8 => ((¬ r7 = 0 → (evSp G yX3_trait M_X3_trait d [.ref (evad G 3 l1.toNatClampNeg), .int 2] S8 (evQI fun r9 S10 => (∀ v11 : Int32, v11 = (r9 + 1) → (evSp G yX2_hourRoundedUp M_X2_hourRoundedUp d [.ref (evad G 6 l1.toNatClampNeg), .int v11] S10 (evQI fun r12 S13 => (evSp G yX3_ofLeg M_X3_ofLeg d [.ref (evad G 3 l1.toNatClampNeg), .int r9, .int 1] S13 (evQI fun r14 S15 => (∀ v16 : Int32, v16 = (r12 + r14) → (evSp G yX3_trait M_X3_trait d [.ref (evad G 3 l1.toNatClampNeg), .int 4] S15 (evQI fun r17 S18 => (evSp G yX2_burntOnLeg M_X2_burntOnLeg d [.ref (evad G 6 l1.toNatClampNeg), .int r9] S18 (evQI fun r19 S20 => (∀ v21 : Int32, v21 = (r17 + r19) → (evSp G yX1_remember M_X1_remember d [.ref (evad G 16 0), .ref (evad G 1 0)] S20 (evQV fun S22 => (evSp G yX3_setTrait M_X3_setTrait d [.ref (evad G 3 l1.toNatClampNeg), .int 2, .int v11] S22 (evQV fun S23 => (evSp G yX3_setTrait M_X3_setTrait d [.ref (evad G 3 l1.toNatClampNeg), .int 3, .int v16] S23 (evQV fun S24 => (evSp G yX3_setTrait M_X3_setTrait d [.ref (evad G 3 l1.toNatClampNeg), .int 4, .int v21] S24 (evQV fun S25 => q v16 S25)))))))))))))))))))))) ∧ (r7 = 0 → q (-2) S8))))))))) ∧ (¬ r1 = 0 → q (-1) S2))))) : bk_X5_sails_0 G d (evQI q) x0 l1 S := by
  refine ea_iload_n (pc' := 1) (i := 1) dX5_sails_0 rfl 1 rfl rfl ?_
  refine ea_csi (As := [.int l1]) (st := []) (d := d) (pc' := 4) mv_X5_isNoShip ml_X5_81 rfl dX5_sails_1 rfl (Nat.le_of_ble_eq_true rfl) (ev_room (by decide)) ⟨Nat.le_refl _, Nat.le_refl _⟩ h rfl (fun r1 S2 h => ?_)
  refine ea_if_eq (tgt := 9) (pc' := 7) dX5_sails_4 (by decide) rfl (fun hc => ?_) (fun hc => ?_)
  · replace h := h.1 hc
    refine ea_aload_n (pc' := 10) (i := 0) dX5_sails_9 rfl 0 rfl rfl ?_
    refine ea_getr (k2 := 1) (x2 := 0) (kf := 0) (pc' := 13) kok_0 hVl0 (by decide) rfl fl_X5_10 rfl dX5_sails_10 rfl ?_
    refine ea_getrN (host := RX5) (k2 := 2) (x2 := 0) (kf := 0) (pc' := 16) kok_1 (hCl.1 0 x0 0 1 hVl0 rfl) (by decide) rfl rfl rfl dX5_sails_13 rfl ?_
    refine ea_iload_n (pc' := 17) (i := 1) dX5_sails_16 rfl 1 rfl rfl ?_
    obtain ⟨o3, h⟩ := h
    refine ea_aald (t0 := 4) (cn := RX3) (j := l1.toNatClampNeg) (x2 := l1.toNatClampNeg) (k2 := 3) (pc' := 18) (hCl.1 1 0 0 2 (hCl.1 0 x0 0 1 hVl0 rfl) rfl) rfl rfl o3 dX5_sails_17 rfl (Nat.zero_add _) rfl rfl ?_
    refine ea_astore_n (lv' := [(2, .ref (evad G 3 l1.toNatClampNeg)), (0, .ref (evad G 0 x0)), (1, .int l1)]) (pc' := 19) dX5_sails_18 rfl (by decide) rfl rfl ?_
    refine ea_aload_n (pc' := 20) (i := 0) dX5_sails_19 rfl 1 rfl rfl ?_
    refine ea_iload_n (pc' := 21) (i := 1) dX5_sails_20 rfl 2 rfl rfl ?_
    refine ea_cvr (As := [.int l1]) (st := []) (d := d) (pc' := 24) mv_X5_drawnPlan ml_X5_100 kok_0 hVl0 rfl rfl dX5_sails_21 rfl (Nat.le_of_ble_eq_true rfl) (ev_room (by decide)) ⟨Nat.le_refl _, Nat.le_refl _⟩ h rfl (fun S4 h => ?_)
    obtain ⟨o6, h⟩ := h
    have hW5 : (6, l1.toNatClampNeg) ∈ evKs G := ev_cle (kd := 23) (x := 0) (n := 4) hCl (hCl.1 0 _ 7 23 hVl0 rfl) rfl rfl o6 rfl rfl rfl
    refine ea_astore_n (lv' := [(3, .ref (evad G 6 l1.toNatClampNeg)), (2, .ref (evad G 3 l1.toNatClampNeg)), (0, .ref (evad G 0 x0)), (1, .int l1)]) (pc' := 25) dX5_sails_24 rfl (by decide) rfl rfl ?_
    refine ea_aload_n (pc' := 26) (i := 3) dX5_sails_25 rfl 0 rfl rfl ?_
    refine ea_cvi (As := []) (st := []) (d := d) (pc' := 29) mv_X2_stands ml_X5_104 kok_6 hW5 rfl rfl dX5_sails_26 rfl (Nat.le_of_ble_eq_true rfl) (ev_room (by decide)) ⟨Nat.le_refl _, Nat.le_refl _⟩ h rfl (fun r7 S8 h => ?_)
    refine ea_if_ne (tgt := 35) (pc' := 32) dX5_sails_29 (by decide) rfl (fun hc => ?_) (fun hc => ?_)
    · replace h := h.1 hc
      refine ea_aload_n (pc' := 36) (i := 2) dX5_sails_35 rfl 1 rfl rfl ?_
      refine ea_iconst (v := 2) (pc' := 37) dX5_sails_36 (by decide) rfl ?_
      refine ea_cvi (As := [.int 2]) (st := []) (d := d) (pc' := 40) mv_X3_trait ml_X5_108 kok_3 (ev_cle (n := 4) (j := l1.toNatClampNeg) (k2 := 3) (x2 := l1.toNatClampNeg) hCl (hCl.1 1 0 0 2 (hCl.1 0 x0 0 1 hVl0 rfl) rfl) rfl rfl o3 rfl rfl (Nat.zero_add _)) rfl rfl dX5_sails_37 rfl (Nat.le_of_ble_eq_true rfl) (ev_room (by decide)) ⟨Nat.le_refl _, Nat.le_refl _⟩ h rfl (fun r9 S10 h => ?_)
      refine ea_istore (lv' := [(4, .int r9), (3, .ref (evad G 6 l1.toNatClampNeg)), (2, .ref (evad G 3 l1.toNatClampNeg)), (0, .ref (evad G 0 x0)), (1, .int l1)]) (pc' := 42) dX5_sails_40 (by decide) rfl rfl ?_
      refine ea_iload (pc' := 44) dX5_sails_42 0 rfl rfl ?_
      refine ea_iconst (v := 1) (pc' := 45) dX5_sails_44 (by decide) rfl ?_
      refine ea_iadd (pc' := 46) dX5_sails_45 rfl ?_
      refine ea_topi (fun v11 hv11 => ?_)
      replace h := h v11 hv11
      refine ea_istore (lv' := [(5, .int v11), (4, .int r9), (3, .ref (evad G 6 l1.toNatClampNeg)), (2, .ref (evad G 3 l1.toNatClampNeg)), (0, .ref (evad G 0 x0)), (1, .int l1)]) (pc' := 48) dX5_sails_46 (by decide) rfl rfl ?_
      refine ea_aload_n (pc' := 49) (i := 3) dX5_sails_48 rfl 2 rfl rfl ?_
      refine ea_iload (pc' := 51) dX5_sails_49 0 rfl rfl ?_
      refine ea_cvi (As := [.int v11]) (st := []) (d := d) (pc' := 54) mv_X2_hourRoundedUp ml_X5_112 kok_6 hW5 rfl rfl dX5_sails_51 rfl (Nat.le_of_ble_eq_true rfl) (ev_room (by decide)) ⟨Nat.le_refl _, Nat.le_refl _⟩ h rfl (fun r12 S13 h => ?_)
      refine ea_aload_n (pc' := 55) (i := 2) dX5_sails_54 rfl 3 rfl rfl ?_
      refine ea_iload (pc' := 57) dX5_sails_55 1 rfl rfl ?_
      refine ea_iconst (v := 1) (pc' := 58) dX5_sails_57 (by decide) rfl ?_
      refine ea_cvi (As := [.int r9, .int 1]) (st := [.int r12]) (d := d) (pc' := 61) mv_X3_ofLeg ml_X5_115 kok_3 (ev_cle (n := 4) (j := l1.toNatClampNeg) (k2 := 3) (x2 := l1.toNatClampNeg) hCl (hCl.1 1 0 0 2 (hCl.1 0 x0 0 1 hVl0 rfl) rfl) rfl rfl o3 rfl rfl (Nat.zero_add _)) rfl rfl dX5_sails_58 rfl (Nat.le_of_ble_eq_true rfl) (ev_room (by decide)) ⟨Nat.le_refl _, Nat.le_refl _⟩ h rfl (fun r14 S15 h => ?_)
      refine ea_iadd (pc' := 62) dX5_sails_61 rfl ?_
      refine ea_topi (fun v16 hv16 => ?_)
      replace h := h v16 hv16
      refine ea_istore (lv' := [(6, .int v16), (5, .int v11), (4, .int r9), (3, .ref (evad G 6 l1.toNatClampNeg)), (2, .ref (evad G 3 l1.toNatClampNeg)), (0, .ref (evad G 0 x0)), (1, .int l1)]) (pc' := 64) dX5_sails_62 (by decide) rfl rfl ?_
      refine ea_aload_n (pc' := 65) (i := 2) dX5_sails_64 rfl 4 rfl rfl ?_
      refine ea_iconst (v := 4) (pc' := 66) dX5_sails_65 (by decide) rfl ?_
      refine ea_cvi (As := [.int 4]) (st := []) (d := d) (pc' := 69) mv_X3_trait ml_X5_108 kok_3 (ev_cle (n := 4) (j := l1.toNatClampNeg) (k2 := 3) (x2 := l1.toNatClampNeg) hCl (hCl.1 1 0 0 2 (hCl.1 0 x0 0 1 hVl0 rfl) rfl) rfl rfl o3 rfl rfl (Nat.zero_add _)) rfl rfl dX5_sails_66 rfl (Nat.le_of_ble_eq_true rfl) (ev_room (by decide)) ⟨Nat.le_refl _, Nat.le_refl _⟩ h rfl (fun r17 S18 h => ?_)
      refine ea_aload_n (pc' := 70) (i := 3) dX5_sails_69 rfl 3 rfl rfl ?_
      refine ea_iload (pc' := 72) dX5_sails_70 2 rfl rfl ?_
      refine ea_cvi (As := [.int r9]) (st := [.int r17]) (d := d) (pc' := 75) mv_X2_burntOnLeg ml_X5_119 kok_6 hW5 rfl rfl dX5_sails_72 rfl (Nat.le_of_ble_eq_true rfl) (ev_room (by decide)) ⟨Nat.le_refl _, Nat.le_refl _⟩ h rfl (fun r19 S20 h => ?_)
      refine ea_iadd (pc' := 76) dX5_sails_75 rfl ?_
      refine ea_topi (fun v21 hv21 => ?_)
      replace h := h v21 hv21
      refine ea_istore (lv' := [(7, .int v21), (6, .int v16), (5, .int v11), (4, .int r9), (3, .ref (evad G 6 l1.toNatClampNeg)), (2, .ref (evad G 3 l1.toNatClampNeg)), (0, .ref (evad G 0 x0)), (1, .int l1)]) (pc' := 78) dX5_sails_76 (by decide) rfl rfl ?_
      refine ea_aload_n (pc' := 79) (i := 0) dX5_sails_78 rfl 6 rfl rfl ?_
      refine ea_getr (k2 := 16) (x2 := 0) (kf := 1) (pc' := 82) kok_0 hVl0 (by decide) rfl fl_X5_19 rfl dX5_sails_79 rfl ?_
      refine ea_aload_n (pc' := 83) (i := 0) dX5_sails_82 rfl 6 rfl rfl ?_
      refine ea_getr (k2 := 1) (x2 := 0) (kf := 0) (pc' := 86) kok_0 hVl0 (by decide) rfl fl_X5_10 rfl dX5_sails_83 rfl ?_
      refine ea_cvv (As := [.ref (evad G 1 0)]) (st := []) (d := d) (pc' := 89) mv_X1_remember ml_X5_88 kok_16 (hCl.1 0 x0 1 16 hVl0 rfl) rfl rfl dX5_sails_86 rfl (Nat.le_of_ble_eq_true rfl) (ev_room (by decide)) ⟨Nat.le_refl _, Nat.le_refl _⟩ h rfl (fun S22 h => ?_)
      refine ea_aload_n (pc' := 90) (i := 2) dX5_sails_89 rfl 5 rfl rfl ?_
      refine ea_iconst (v := 2) (pc' := 91) dX5_sails_90 (by decide) rfl ?_
      refine ea_iload (pc' := 93) dX5_sails_91 2 rfl rfl ?_
      refine ea_cvv (As := [.int 2, .int v11]) (st := []) (d := d) (pc' := 96) mv_X3_setTrait ml_X5_122 kok_3 (ev_cle (n := 4) (j := l1.toNatClampNeg) (k2 := 3) (x2 := l1.toNatClampNeg) hCl (hCl.1 1 0 0 2 (hCl.1 0 x0 0 1 hVl0 rfl) rfl) rfl rfl o3 rfl rfl (Nat.zero_add _)) rfl rfl dX5_sails_93 rfl (Nat.le_of_ble_eq_true rfl) (ev_room (by decide)) ⟨Nat.le_refl _, Nat.le_refl _⟩ h rfl (fun S23 h => ?_)
      refine ea_aload_n (pc' := 97) (i := 2) dX5_sails_96 rfl 5 rfl rfl ?_
      refine ea_iconst (v := 3) (pc' := 98) dX5_sails_97 (by decide) rfl ?_
      refine ea_iload (pc' := 100) dX5_sails_98 1 rfl rfl ?_
      refine ea_cvv (As := [.int 3, .int v16]) (st := []) (d := d) (pc' := 103) mv_X3_setTrait ml_X5_122 kok_3 (ev_cle (n := 4) (j := l1.toNatClampNeg) (k2 := 3) (x2 := l1.toNatClampNeg) hCl (hCl.1 1 0 0 2 (hCl.1 0 x0 0 1 hVl0 rfl) rfl) rfl rfl o3 rfl rfl (Nat.zero_add _)) rfl rfl dX5_sails_100 rfl (Nat.le_of_ble_eq_true rfl) (ev_room (by decide)) ⟨Nat.le_refl _, Nat.le_refl _⟩ h rfl (fun S24 h => ?_)
      refine ea_aload_n (pc' := 104) (i := 2) dX5_sails_103 rfl 5 rfl rfl ?_
      refine ea_iconst (v := 4) (pc' := 105) dX5_sails_104 (by decide) rfl ?_
      refine ea_iload (pc' := 107) dX5_sails_105 0 rfl rfl ?_
      refine ea_cvv (As := [.int 4, .int v21]) (st := []) (d := d) (pc' := 110) mv_X3_setTrait ml_X5_122 kok_3 (ev_cle (n := 4) (j := l1.toNatClampNeg) (k2 := 3) (x2 := l1.toNatClampNeg) hCl (hCl.1 1 0 0 2 (hCl.1 0 x0 0 1 hVl0 rfl) rfl) rfl rfl o3 rfl rfl (Nat.zero_add _)) rfl rfl dX5_sails_107 rfl (Nat.le_of_ble_eq_true rfl) (ev_room (by decide)) ⟨Nat.le_refl _, Nat.le_refl _⟩ h rfl (fun S25 h => ?_)
      refine ea_iload (pc' := 112) dX5_sails_110 1 rfl rfl ?_
      exact ea_iret rfl dX5_sails_112 ⟨_, rfl, h⟩
    · replace h := h.2 hc
      refine ea_bipush (v := (-2)) (pc' := 34) dX5_sails_32 (by decide) rfl ?_
      exact ea_iret rfl dX5_sails_34 ⟨_, rfl, h⟩
  · replace h := h.2 hc
    refine ea_iconst (v := (-1)) (pc' := 8) dX5_sails_7 (by decide) rfl ?_
    exact ea_iret rfl dX5_sails_8 ⟨_, rfl, h⟩
theorem vm_X5_sails {G : evG} {d : Nat} {q : Int32 → evS → Prop} {x0 : Nat} {l1 : Int32} {S : evS} (h : bk_X5_sails_0 G d (evQI q) x0 l1 S) : evSp G yX5_sails M_X5_sails (d + 1) [.ref (evad G 0 x0), .int l1] S (evQI q) :=
  evSp.of (by decide +kernel) rfl (Nat.le_of_ble_eq_true rfl) h
abbrev bk_X5_drawnPlan_0 (G : evG) (d : Nat) (Q : Option Value → evS → Prop) (x0 : Nat) (l1 : Int32) (S : evS) : Prop := evAt G M_X5_drawnPlan (evFm G (d + 1) Q) 0 [(0, .ref (evad G 0 x0)), (1, .int l1)] [] S
set_option maxRecDepth 100000 in
set_option maxHeartbeats 4000000 in
theorem vb_X5_drawnPlan_0 {G : evG} {d : Nat} {q : evS → Prop} {a : Nat} (hCl : evCl G) {x0 : Nat} {l1 : Int32} {S : evS} (hVl0 : (0, x0) ∈ evKs G)
    (h : (vp_in l1 4 ∧ (vp_in l1 4 ∧ (evSp G yX2_draw M_X2_draw d [.ref (evad G 6 l1.toNatClampNeg), .ref (evad G 3 l1.toNatClampNeg)] S (evQV fun S3 => (a = evad G 6 l1.toNatClampNeg ∧ q S3)))))) : bk_X5_drawnPlan_0 G d (evQR a q) x0 l1 S := by
  refine ea_aload_n (pc' := 1) (i := 0) dX5_drawnPlan_0 rfl 0 rfl rfl ?_
  refine ea_getr (k2 := 23) (x2 := 0) (kf := 7) (pc' := 4) kok_0 hVl0 (by decide) rfl fl_X5_52 rfl dX5_drawnPlan_1 rfl ?_
  refine ea_iload_n (pc' := 5) (i := 1) dX5_drawnPlan_4 rfl 1 rfl rfl ?_
  obtain ⟨o1, h⟩ := h
  refine ea_aald (t0 := 5) (cn := RX2) (j := l1.toNatClampNeg) (x2 := l1.toNatClampNeg) (k2 := 6) (pc' := 6) (hCl.1 0 x0 7 23 hVl0 rfl) rfl rfl o1 dX5_drawnPlan_5 rfl rfl rfl rfl ?_
  refine ea_astore_n (lv' := [(2, .ref (evad G 6 l1.toNatClampNeg)), (0, .ref (evad G 0 x0)), (1, .int l1)]) (pc' := 7) dX5_drawnPlan_6 rfl (by decide) rfl rfl ?_
  refine ea_aload_n (pc' := 8) (i := 2) dX5_drawnPlan_7 rfl 0 rfl rfl ?_
  refine ea_aload_n (pc' := 9) (i := 0) dX5_drawnPlan_8 rfl 1 rfl rfl ?_
  refine ea_getr (k2 := 1) (x2 := 0) (kf := 0) (pc' := 12) kok_0 hVl0 (by decide) rfl fl_X5_10 rfl dX5_drawnPlan_9 rfl ?_
  refine ea_getrN (host := RX5) (k2 := 2) (x2 := 0) (kf := 0) (pc' := 15) kok_1 (hCl.1 0 x0 0 1 hVl0 rfl) (by decide) rfl rfl rfl dX5_drawnPlan_12 rfl ?_
  refine ea_iload_n (pc' := 16) (i := 1) dX5_drawnPlan_15 rfl 2 rfl rfl ?_
  obtain ⟨o2, h⟩ := h
  refine ea_aald (t0 := 4) (cn := RX3) (j := l1.toNatClampNeg) (x2 := l1.toNatClampNeg) (k2 := 3) (pc' := 17) (hCl.1 1 0 0 2 (hCl.1 0 x0 0 1 hVl0 rfl) rfl) rfl rfl o2 dX5_drawnPlan_16 rfl (Nat.zero_add _) rfl rfl ?_
  refine ea_cvv (As := [.ref (evad G 3 l1.toNatClampNeg)]) (st := []) (d := d) (pc' := 20) mv_X2_draw ml_X5_169 kok_6 (ev_cle (n := 4) (j := l1.toNatClampNeg) (k2 := 6) (x2 := l1.toNatClampNeg) hCl (hCl.1 0 x0 7 23 hVl0 rfl) rfl rfl o1 rfl rfl rfl) rfl rfl dX5_drawnPlan_17 rfl (Nat.le_of_ble_eq_true rfl) (ev_room (by decide)) ⟨Nat.le_refl _, Nat.le_refl _⟩ h rfl (fun S3 h => ?_)
  refine ea_aload_n (pc' := 21) (i := 2) dX5_drawnPlan_20 rfl 0 rfl rfl ?_
  obtain ⟨ha, h⟩ := h
  exact ea_aret rfl dX5_drawnPlan_21 ⟨by rw [ha], h⟩
theorem vm_X5_drawnPlan {G : evG} {d : Nat} {q : evS → Prop} {a : Nat} {x0 : Nat} {l1 : Int32} {S : evS} (h : bk_X5_drawnPlan_0 G d (evQR a q) x0 l1 S) : evSp G yX5_drawnPlan M_X5_drawnPlan (d + 1) [.ref (evad G 0 x0), .int l1] S (evQR a q) :=
  evSp.of (by decide +kernel) rfl (Nat.le_of_ble_eq_true rfl) h
abbrev bk_X5_holds_0 (G : evG) (d : Nat) (Q : Option Value → evS → Prop) (x0 : Nat) (l1 : Int32) (l2 : Int32) (S : evS) : Prop := evAt G M_X5_holds (evFm G (d + 1) Q) 0 [(0, .ref (evad G 0 x0)), (1, .int l1), (2, .int l2)] [] S
set_option maxRecDepth 100000 in
set_option maxHeartbeats 4000000 in
theorem vb_X5_holds_0 {G : evG} {d : Nat} {q : Int32 → evS → Prop} (hCl : evCl G) {x0 : Nat} {l1 : Int32} {l2 : Int32} {S : evS} (hVl0 : (0, x0) ∈ evKs G)
    (h : (evSp G yX5_isNoShip M_X5_isNoShip d [.int l1] S (evQI fun r1 S2 => ((¬ r1 = 0 → q (-1) S2) ∧ (r1 = 0 → ((l2 < 1 → q (-1) S2) ∧ (¬ l2 < 1 → ((l2 ≤ 99 → (vp_in l1 4 ∧ (evSp G yX3_trait M_X3_trait d [.ref (evad G 3 l1.toNatClampNeg), .int 3] S2 (evQI fun r4 S5 => (∀ v6 : Int32, v6 = (r4 + l2) → ((v6 ≤ 9999 → (evSp G yX1_remember M_X1_remember d [.ref (evad G 16 0), .ref (evad G 1 0)] S5 (evQV fun S7 => (evSp G yX3_setTrait M_X3_setTrait d [.ref (evad G 3 l1.toNatClampNeg), .int 3, .int v6] S7 (evQV fun S8 => q v6 S8))))) ∧ (¬ v6 ≤ 9999 → q (-3) S5))))))) ∧ (¬ l2 ≤ 99 → q (-1) S2))))))))) : bk_X5_holds_0 G d (evQI q) x0 l1 l2 S := by
  refine ea_iload_n (pc' := 1) (i := 1) dX5_holds_0 rfl 1 rfl rfl ?_
  refine ea_csi (As := [.int l1]) (st := []) (d := d) (pc' := 4) mv_X5_isNoShip ml_X5_81 rfl dX5_holds_1 rfl (Nat.le_of_ble_eq_true rfl) (ev_room (by decide)) ⟨Nat.le_refl _, Nat.le_refl _⟩ h rfl (fun r1 S2 h => ?_)
  refine ea_if_ne (tgt := 18) (pc' := 7) dX5_holds_4 (by decide) rfl (fun hc => ?_) (fun hc => ?_)
  · replace h := h.1 hc
    refine ea_iconst (v := (-1)) (pc' := 19) dX5_holds_18 (by decide) rfl ?_
    exact ea_iret rfl dX5_holds_19 ⟨_, rfl, h⟩
  · replace h := h.2 hc
    refine ea_iload_n (pc' := 8) (i := 2) dX5_holds_7 rfl 2 rfl rfl ?_
    refine ea_iconst (v := 1) (pc' := 9) dX5_holds_8 (by decide) rfl ?_
    refine ea_icmp_lt (tgt := 18) (pc' := 12) dX5_holds_9 (by decide) rfl (fun hc => ?_) (fun hc => ?_)
    · replace h := h.1 hc
      refine ea_iconst (v := (-1)) (pc' := 19) dX5_holds_18 (by decide) rfl ?_
      exact ea_iret rfl dX5_holds_19 ⟨_, rfl, h⟩
    · replace h := h.2 hc
      refine ea_iload_n (pc' := 13) (i := 2) dX5_holds_12 rfl 2 rfl rfl ?_
      refine ea_bipush (v := 99) (pc' := 15) dX5_holds_13 (by decide) rfl ?_
      refine ea_icmp_le (tgt := 20) (pc' := 18) dX5_holds_15 (by decide) rfl (fun hc => ?_) (fun hc => ?_)
      · replace h := h.1 hc
        refine ea_aload_n (pc' := 21) (i := 0) dX5_holds_20 rfl 0 rfl rfl ?_
        refine ea_getr (k2 := 1) (x2 := 0) (kf := 0) (pc' := 24) kok_0 hVl0 (by decide) rfl fl_X5_10 rfl dX5_holds_21 rfl ?_
        refine ea_getrN (host := RX5) (k2 := 2) (x2 := 0) (kf := 0) (pc' := 27) kok_1 (hCl.1 0 x0 0 1 hVl0 rfl) (by decide) rfl rfl rfl dX5_holds_24 rfl ?_
        refine ea_iload_n (pc' := 28) (i := 1) dX5_holds_27 rfl 1 rfl rfl ?_
        obtain ⟨o3, h⟩ := h
        refine ea_aald (t0 := 4) (cn := RX3) (j := l1.toNatClampNeg) (x2 := l1.toNatClampNeg) (k2 := 3) (pc' := 29) (hCl.1 1 0 0 2 (hCl.1 0 x0 0 1 hVl0 rfl) rfl) rfl rfl o3 dX5_holds_28 rfl (Nat.zero_add _) rfl rfl ?_
        refine ea_astore_n (lv' := [(3, .ref (evad G 3 l1.toNatClampNeg)), (0, .ref (evad G 0 x0)), (1, .int l1), (2, .int l2)]) (pc' := 30) dX5_holds_29 rfl (by decide) rfl rfl ?_
        refine ea_aload_n (pc' := 31) (i := 3) dX5_holds_30 rfl 0 rfl rfl ?_
        refine ea_iconst (v := 3) (pc' := 32) dX5_holds_31 (by decide) rfl ?_
        refine ea_cvi (As := [.int 3]) (st := []) (d := d) (pc' := 35) mv_X3_trait ml_X5_108 kok_3 (ev_cle (n := 4) (j := l1.toNatClampNeg) (k2 := 3) (x2 := l1.toNatClampNeg) hCl (hCl.1 1 0 0 2 (hCl.1 0 x0 0 1 hVl0 rfl) rfl) rfl rfl o3 rfl rfl (Nat.zero_add _)) rfl rfl dX5_holds_32 rfl (Nat.le_of_ble_eq_true rfl) (ev_room (by decide)) ⟨Nat.le_refl _, Nat.le_refl _⟩ h rfl (fun r4 S5 h => ?_)
        refine ea_iload_n (pc' := 36) (i := 2) dX5_holds_35 rfl 3 rfl rfl ?_
        refine ea_iadd (pc' := 37) dX5_holds_36 rfl ?_
        refine ea_topi (fun v6 hv6 => ?_)
        replace h := h v6 hv6
        refine ea_istore (lv' := [(4, .int v6), (3, .ref (evad G 3 l1.toNatClampNeg)), (0, .ref (evad G 0 x0)), (1, .int l1), (2, .int l2)]) (pc' := 39) dX5_holds_37 (by decide) rfl rfl ?_
        refine ea_iload (pc' := 41) dX5_holds_39 0 rfl rfl ?_
        refine ea_sipush (v := 9999) (pc' := 44) dX5_holds_41 (by decide) rfl ?_
        refine ea_icmp_le (tgt := 50) (pc' := 47) dX5_holds_44 (by decide) rfl (fun hc => ?_) (fun hc => ?_)
        · replace h := h.1 hc
          refine ea_aload_n (pc' := 51) (i := 0) dX5_holds_50 rfl 2 rfl rfl ?_
          refine ea_getr (k2 := 16) (x2 := 0) (kf := 1) (pc' := 54) kok_0 hVl0 (by decide) rfl fl_X5_19 rfl dX5_holds_51 rfl ?_
          refine ea_aload_n (pc' := 55) (i := 0) dX5_holds_54 rfl 2 rfl rfl ?_
          refine ea_getr (k2 := 1) (x2 := 0) (kf := 0) (pc' := 58) kok_0 hVl0 (by decide) rfl fl_X5_10 rfl dX5_holds_55 rfl ?_
          refine ea_cvv (As := [.ref (evad G 1 0)]) (st := []) (d := d) (pc' := 61) mv_X1_remember ml_X5_88 kok_16 (hCl.1 0 x0 1 16 hVl0 rfl) rfl rfl dX5_holds_58 rfl (Nat.le_of_ble_eq_true rfl) (ev_room (by decide)) ⟨Nat.le_refl _, Nat.le_refl _⟩ h rfl (fun S7 h => ?_)
          refine ea_aload_n (pc' := 62) (i := 3) dX5_holds_61 rfl 1 rfl rfl ?_
          refine ea_iconst (v := 3) (pc' := 63) dX5_holds_62 (by decide) rfl ?_
          refine ea_iload (pc' := 65) dX5_holds_63 0 rfl rfl ?_
          refine ea_cvv (As := [.int 3, .int v6]) (st := []) (d := d) (pc' := 68) mv_X3_setTrait ml_X5_122 kok_3 (ev_cle (n := 4) (j := l1.toNatClampNeg) (k2 := 3) (x2 := l1.toNatClampNeg) hCl (hCl.1 1 0 0 2 (hCl.1 0 x0 0 1 hVl0 rfl) rfl) rfl rfl o3 rfl rfl (Nat.zero_add _)) rfl rfl dX5_holds_65 rfl (Nat.le_of_ble_eq_true rfl) (ev_room (by decide)) ⟨Nat.le_refl _, Nat.le_refl _⟩ h rfl (fun S8 h => ?_)
          refine ea_iload (pc' := 70) dX5_holds_68 0 rfl rfl ?_
          exact ea_iret rfl dX5_holds_70 ⟨_, rfl, h⟩
        · replace h := h.2 hc
          refine ea_bipush (v := (-3)) (pc' := 49) dX5_holds_47 (by decide) rfl ?_
          exact ea_iret rfl dX5_holds_49 ⟨_, rfl, h⟩
      · replace h := h.2 hc
        refine ea_iconst (v := (-1)) (pc' := 19) dX5_holds_18 (by decide) rfl ?_
        exact ea_iret rfl dX5_holds_19 ⟨_, rfl, h⟩
theorem vm_X5_holds {G : evG} {d : Nat} {q : Int32 → evS → Prop} {x0 : Nat} {l1 : Int32} {l2 : Int32} {S : evS} (h : bk_X5_holds_0 G d (evQI q) x0 l1 l2 S) : evSp G yX5_holds M_X5_holds (d + 1) [.ref (evad G 0 x0), .int l1, .int l2] S (evQI q) :=
  evSp.of (by decide +kernel) rfl (Nat.le_of_ble_eq_true rfl) h
abbrev bk_X5_moves_0 (G : evG) (d : Nat) (Q : Option Value → evS → Prop) (x0 : Nat) (l1 : Int32) (l2 : Int32) (l3 : Int32) (l4 : Int32) (S : evS) : Prop := evAt G M_X5_moves (evFm G (d + 1) Q) 0 [(0, .ref (evad G 0 x0)), (1, .int l1), (2, .int l2), (3, .int l3), (4, .int l4)] [] S
abbrev bk_X5_moves_89 (G : evG) (d : Nat) (Q : Option Value → evS → Prop) (x0 : Nat) (l3 : Int32) (l4 : Int32) (x5 : Nat) (l6 : Int32) (S : evS) : Prop := evAt G M_X5_moves (evFm G (d + 1) Q) 89 [(0, .ref (evad G 0 x0)), (3, .int l3), (4, .int l4), (5, .ref (evad G 3 x5)), (6, .int l6)] [] S
set_option maxRecDepth 100000 in
set_option maxHeartbeats 4000000 in
theorem vb_X5_moves_0 {G : evG} {d : Nat} {q : Int32 → evS → Prop} (hCl : evCl G) {x0 : Nat} {l1 : Int32} {l2 : Int32} {l3 : Int32} {l4 : Int32} {S : evS} (hVl0 : (0, x0) ∈ evKs G)
    (h : (evSp G yX5_isNoShip M_X5_isNoShip d [.int l1] S (evQI fun r1 S2 => ((¬ r1 = 0 → q (-1) S2) ∧ (r1 = 0 → (vp_in l1 4 ∧ (evSp G yX3_isPortAhead M_X3_isPortAhead d [.ref (evad G 3 l1.toNatClampNeg), .int l2] S2 (evQI fun r4 S5 => ((¬ r4 = 0 → ((l3 < 0 → q (-1) S5) ∧ (¬ l3 < 0 → ((l4 < l3 → q (-1) S5) ∧ (¬ l4 < l3 → ((l4 ≤ 999 → (vp_in l1 4 ∧ (∀ v7 : Int32, v7 = (l2 - 1) → (evSp G yX3_ofLeg M_X3_ofLeg d [.ref (evad G 3 l1.toNatClampNeg), .int v7, .int 2] S5 (evQI fun r8 S9 => ((¬ r8 = l3 → bk_X5_moves_89 G d (evQI q) x0 l3 l4 l1.toNatClampNeg v7 S9) ∧ (r8 = l3 → (evSp G yX3_ofLeg M_X3_ofLeg d [.ref (evad G 3 l1.toNatClampNeg), .int v7, .int 3] S9 (evQI fun r10 S11 => ((¬ r10 = l4 → bk_X5_moves_89 G d (evQI q) x0 l3 l4 l1.toNatClampNeg v7 S11) ∧ (r10 = l4 → q (-2) S11))))))))))) ∧ (¬ l4 ≤ 999 → q (-1) S5))))))) ∧ (r4 = 0 → q (-1) S5)))))))))) : bk_X5_moves_0 G d (evQI q) x0 l1 l2 l3 l4 S := by
  refine ea_iload_n (pc' := 1) (i := 1) dX5_moves_0 rfl 1 rfl rfl ?_
  refine ea_csi (As := [.int l1]) (st := []) (d := d) (pc' := 4) mv_X5_isNoShip ml_X5_81 rfl dX5_moves_1 rfl (Nat.le_of_ble_eq_true rfl) (ev_room (by decide)) ⟨Nat.le_refl _, Nat.le_refl _⟩ h rfl (fun r1 S2 h => ?_)
  refine ea_if_ne (tgt := 23) (pc' := 7) dX5_moves_4 (by decide) rfl (fun hc => ?_) (fun hc => ?_)
  · replace h := h.1 hc
    refine ea_iconst (v := (-1)) (pc' := 24) dX5_moves_23 (by decide) rfl ?_
    exact ea_iret rfl dX5_moves_24 ⟨_, rfl, h⟩
  · replace h := h.2 hc
    refine ea_aload_n (pc' := 8) (i := 0) dX5_moves_7 rfl 0 rfl rfl ?_
    refine ea_getr (k2 := 1) (x2 := 0) (kf := 0) (pc' := 11) kok_0 hVl0 (by decide) rfl fl_X5_10 rfl dX5_moves_8 rfl ?_
    refine ea_getrN (host := RX5) (k2 := 2) (x2 := 0) (kf := 0) (pc' := 14) kok_1 (hCl.1 0 x0 0 1 hVl0 rfl) (by decide) rfl rfl rfl dX5_moves_11 rfl ?_
    refine ea_iload_n (pc' := 15) (i := 1) dX5_moves_14 rfl 1 rfl rfl ?_
    obtain ⟨o3, h⟩ := h
    refine ea_aald (t0 := 4) (cn := RX3) (j := l1.toNatClampNeg) (x2 := l1.toNatClampNeg) (k2 := 3) (pc' := 16) (hCl.1 1 0 0 2 (hCl.1 0 x0 0 1 hVl0 rfl) rfl) rfl rfl o3 dX5_moves_15 rfl (Nat.zero_add _) rfl rfl ?_
    refine ea_iload_n (pc' := 17) (i := 2) dX5_moves_16 rfl 2 rfl rfl ?_
    refine ea_cvi (As := [.int l2]) (st := []) (d := d) (pc' := 20) mv_X3_isPortAhead ml_X5_126 kok_3 (ev_cle (n := 4) (j := l1.toNatClampNeg) (k2 := 3) (x2 := l1.toNatClampNeg) hCl (hCl.1 1 0 0 2 (hCl.1 0 x0 0 1 hVl0 rfl) rfl) rfl rfl o3 rfl rfl (Nat.zero_add _)) rfl rfl dX5_moves_17 rfl (Nat.le_of_ble_eq_true rfl) (ev_room (by decide)) ⟨Nat.le_refl _, Nat.le_refl _⟩ h rfl (fun r4 S5 h => ?_)
    refine ea_if_ne (tgt := 25) (pc' := 23) dX5_moves_20 (by decide) rfl (fun hc => ?_) (fun hc => ?_)
    · replace h := h.1 hc
      refine ea_iload_n (pc' := 26) (i := 3) dX5_moves_25 rfl 3 rfl rfl ?_
      refine ea_if_lt (tgt := 43) (pc' := 29) dX5_moves_26 (by decide) rfl (fun hc => ?_) (fun hc => ?_)
      · replace h := h.1 hc
        refine ea_iconst (v := (-1)) (pc' := 44) dX5_moves_43 (by decide) rfl ?_
        exact ea_iret rfl dX5_moves_44 ⟨_, rfl, h⟩
      · replace h := h.2 hc
        refine ea_iload (pc' := 31) dX5_moves_29 4 rfl rfl ?_
        refine ea_iload_n (pc' := 32) (i := 3) dX5_moves_31 rfl 3 rfl rfl ?_
        refine ea_icmp_lt (tgt := 43) (pc' := 35) dX5_moves_32 (by decide) rfl (fun hc => ?_) (fun hc => ?_)
        · replace h := h.1 hc
          refine ea_iconst (v := (-1)) (pc' := 44) dX5_moves_43 (by decide) rfl ?_
          exact ea_iret rfl dX5_moves_44 ⟨_, rfl, h⟩
        · replace h := h.2 hc
          refine ea_iload (pc' := 37) dX5_moves_35 4 rfl rfl ?_
          refine ea_sipush (v := 999) (pc' := 40) dX5_moves_37 (by decide) rfl ?_
          refine ea_icmp_le (tgt := 45) (pc' := 43) dX5_moves_40 (by decide) rfl (fun hc => ?_) (fun hc => ?_)
          · replace h := h.1 hc
            refine ea_aload_n (pc' := 46) (i := 0) dX5_moves_45 rfl 0 rfl rfl ?_
            refine ea_getr (k2 := 1) (x2 := 0) (kf := 0) (pc' := 49) kok_0 hVl0 (by decide) rfl fl_X5_10 rfl dX5_moves_46 rfl ?_
            refine ea_getrN (host := RX5) (k2 := 2) (x2 := 0) (kf := 0) (pc' := 52) kok_1 (hCl.1 0 x0 0 1 hVl0 rfl) (by decide) rfl rfl rfl dX5_moves_49 rfl ?_
            refine ea_iload_n (pc' := 53) (i := 1) dX5_moves_52 rfl 1 rfl rfl ?_
            obtain ⟨o6, h⟩ := h
            refine ea_aald (t0 := 4) (cn := RX3) (j := l1.toNatClampNeg) (x2 := l1.toNatClampNeg) (k2 := 3) (pc' := 54) (hCl.1 1 0 0 2 (hCl.1 0 x0 0 1 hVl0 rfl) rfl) rfl rfl o6 dX5_moves_53 rfl (Nat.zero_add _) rfl rfl ?_
            refine ea_astore (lv' := [(5, .ref (evad G 3 l1.toNatClampNeg)), (0, .ref (evad G 0 x0)), (1, .int l1), (2, .int l2), (3, .int l3), (4, .int l4)]) (pc' := 56) dX5_moves_54 (by decide) rfl rfl ?_
            refine ea_iload_n (pc' := 57) (i := 2) dX5_moves_56 rfl 3 rfl rfl ?_
            refine ea_iconst (v := 1) (pc' := 58) dX5_moves_57 (by decide) rfl ?_
            refine ea_isub (pc' := 59) dX5_moves_58 rfl ?_
            refine ea_topi (fun v7 hv7 => ?_)
            replace h := h v7 hv7
            refine ea_istore (lv' := [(6, .int v7), (5, .ref (evad G 3 l1.toNatClampNeg)), (0, .ref (evad G 0 x0)), (1, .int l1), (2, .int l2), (3, .int l3), (4, .int l4)]) (pc' := 61) dX5_moves_59 (by decide) rfl rfl ?_
            refine ea_aload (pc' := 63) dX5_moves_61 1 rfl rfl ?_
            refine ea_iload (pc' := 65) dX5_moves_63 0 rfl rfl ?_
            refine ea_iconst (v := 2) (pc' := 66) dX5_moves_65 (by decide) rfl ?_
            refine ea_cvi (As := [.int v7, .int 2]) (st := []) (d := d) (pc' := 69) mv_X3_ofLeg ml_X5_115 kok_3 (ev_cle (n := 4) (j := l1.toNatClampNeg) (k2 := 3) (x2 := l1.toNatClampNeg) hCl (hCl.1 1 0 0 2 (hCl.1 0 x0 0 1 hVl0 rfl) rfl) rfl rfl o6 rfl rfl (Nat.zero_add _)) rfl rfl dX5_moves_66 rfl (Nat.le_of_ble_eq_true rfl) (ev_room (by decide)) ⟨Nat.le_refl _, Nat.le_refl _⟩ h rfl (fun r8 S9 h => ?_)
            refine ea_iload_n (pc' := 70) (i := 3) dX5_moves_69 rfl 5 rfl rfl ?_
            refine ea_icmp_ne (tgt := 89) (pc' := 73) dX5_moves_70 (by decide) rfl (fun hc => ?_) (fun hc => ?_)
            · replace h := h.1 hc
              refine ea_loc [2, 5, 6, 1, 0] rfl ?_
              exact h
            · replace h := h.2 hc
              refine ea_aload (pc' := 75) dX5_moves_73 1 rfl rfl ?_
              refine ea_iload (pc' := 77) dX5_moves_75 0 rfl rfl ?_
              refine ea_iconst (v := 3) (pc' := 78) dX5_moves_77 (by decide) rfl ?_
              refine ea_cvi (As := [.int v7, .int 3]) (st := []) (d := d) (pc' := 81) mv_X3_ofLeg ml_X5_115 kok_3 (ev_cle (n := 4) (j := l1.toNatClampNeg) (k2 := 3) (x2 := l1.toNatClampNeg) hCl (hCl.1 1 0 0 2 (hCl.1 0 x0 0 1 hVl0 rfl) rfl) rfl rfl o6 rfl rfl (Nat.zero_add _)) rfl rfl dX5_moves_78 rfl (Nat.le_of_ble_eq_true rfl) (ev_room (by decide)) ⟨Nat.le_refl _, Nat.le_refl _⟩ h rfl (fun r10 S11 h => ?_)
              refine ea_iload (pc' := 83) dX5_moves_81 6 rfl rfl ?_
              refine ea_icmp_ne (tgt := 89) (pc' := 86) dX5_moves_83 (by decide) rfl (fun hc => ?_) (fun hc => ?_)
              · replace h := h.1 hc
                refine ea_loc [2, 5, 6, 1, 0] rfl ?_
                exact h
              · replace h := h.2 hc
                refine ea_bipush (v := (-2)) (pc' := 88) dX5_moves_86 (by decide) rfl ?_
                exact ea_iret rfl dX5_moves_88 ⟨_, rfl, h⟩
          · replace h := h.2 hc
            refine ea_iconst (v := (-1)) (pc' := 44) dX5_moves_43 (by decide) rfl ?_
            exact ea_iret rfl dX5_moves_44 ⟨_, rfl, h⟩
    · replace h := h.2 hc
      refine ea_iconst (v := (-1)) (pc' := 24) dX5_moves_23 (by decide) rfl ?_
      exact ea_iret rfl dX5_moves_24 ⟨_, rfl, h⟩
set_option maxRecDepth 100000 in
set_option maxHeartbeats 4000000 in
theorem vb_X5_moves_89 {G : evG} {d : Nat} {q : Int32 → evS → Prop} (hCl : evCl G) {x0 : Nat} {l3 : Int32} {l4 : Int32} {x5 : Nat} {l6 : Int32} {S : evS} (hVl0 : (0, x0) ∈ evKs G) (hVl5 : (3, x5) ∈ evKs G)
    (h : (evSp G yX1_remember M_X1_remember d [.ref (evad G 16 0), .ref (evad G 1 0)] S (evQV fun S1 => (evSp G yX3_setOfLeg M_X3_setOfLeg d [.ref (evad G 3 x5), .int l6, .int 2, .int l3] S1 (evQV fun S2 => (evSp G yX3_setOfLeg M_X3_setOfLeg d [.ref (evad G 3 x5), .int l6, .int 3, .int l4] S2 (evQV fun S3 => q 1 S3))))))) : bk_X5_moves_89 G d (evQI q) x0 l3 l4 x5 l6 S := by
  refine ea_aload_n (pc' := 90) (i := 0) dX5_moves_89 rfl 0 rfl rfl ?_
  refine ea_getr (k2 := 16) (x2 := 0) (kf := 1) (pc' := 93) kok_0 hVl0 (by decide) rfl fl_X5_19 rfl dX5_moves_90 rfl ?_
  refine ea_aload_n (pc' := 94) (i := 0) dX5_moves_93 rfl 0 rfl rfl ?_
  refine ea_getr (k2 := 1) (x2 := 0) (kf := 0) (pc' := 97) kok_0 hVl0 (by decide) rfl fl_X5_10 rfl dX5_moves_94 rfl ?_
  refine ea_cvv (As := [.ref (evad G 1 0)]) (st := []) (d := d) (pc' := 100) mv_X1_remember ml_X5_88 kok_16 (hCl.1 0 x0 1 16 hVl0 rfl) rfl rfl dX5_moves_97 rfl (Nat.le_of_ble_eq_true rfl) (ev_room (by decide)) ⟨Nat.le_refl _, Nat.le_refl _⟩ h rfl (fun S1 h => ?_)
  refine ea_aload (pc' := 102) dX5_moves_100 3 rfl rfl ?_
  refine ea_iload (pc' := 104) dX5_moves_102 4 rfl rfl ?_
  refine ea_iconst (v := 2) (pc' := 105) dX5_moves_104 (by decide) rfl ?_
  refine ea_iload_n (pc' := 106) (i := 3) dX5_moves_105 rfl 1 rfl rfl ?_
  refine ea_cvv (As := [.int l6, .int 2, .int l3]) (st := []) (d := d) (pc' := 109) mv_X3_setOfLeg ml_X5_129 kok_3 hVl5 rfl rfl dX5_moves_106 rfl (Nat.le_of_ble_eq_true rfl) (ev_room (by decide)) ⟨Nat.le_refl _, Nat.le_refl _⟩ h rfl (fun S2 h => ?_)
  refine ea_aload (pc' := 111) dX5_moves_109 3 rfl rfl ?_
  refine ea_iload (pc' := 113) dX5_moves_111 4 rfl rfl ?_
  refine ea_iconst (v := 3) (pc' := 114) dX5_moves_113 (by decide) rfl ?_
  refine ea_iload (pc' := 116) dX5_moves_114 2 rfl rfl ?_
  refine ea_cvv (As := [.int l6, .int 3, .int l4]) (st := []) (d := d) (pc' := 119) mv_X3_setOfLeg ml_X5_129 kok_3 hVl5 rfl rfl dX5_moves_116 rfl (Nat.le_of_ble_eq_true rfl) (ev_room (by decide)) ⟨Nat.le_refl _, Nat.le_refl _⟩ h rfl (fun S3 h => ?_)
  refine ea_iconst (v := 1) (pc' := 120) dX5_moves_119 (by decide) rfl ?_
  exact ea_iret rfl dX5_moves_120 ⟨_, rfl, h⟩
theorem vm_X5_moves {G : evG} {d : Nat} {q : Int32 → evS → Prop} {x0 : Nat} {l1 : Int32} {l2 : Int32} {l3 : Int32} {l4 : Int32} {S : evS} (h : bk_X5_moves_0 G d (evQI q) x0 l1 l2 l3 l4 S) : evSp G yX5_moves M_X5_moves (d + 1) [.ref (evad G 0 x0), .int l1, .int l2, .int l3, .int l4] S (evQI q) :=
  evSp.of (by decide +kernel) rfl (Nat.le_of_ble_eq_true rfl) h
abbrev bk_X5_fastens_0 (G : evG) (d : Nat) (Q : Option Value → evS → Prop) (x0 : Nat) (l1 : Int32) (l2 : Int32) (S : evS) : Prop := evAt G M_X5_fastens (evFm G (d + 1) Q) 0 [(0, .ref (evad G 0 x0)), (1, .int l1), (2, .int l2)] [] S
set_option maxRecDepth 100000 in
set_option maxHeartbeats 4000000 in
theorem vb_X5_fastens_0 {G : evG} {d : Nat} {q : Int32 → evS → Prop} (hCl : evCl G) {x0 : Nat} {l1 : Int32} {l2 : Int32} {S : evS} (hVl0 : (0, x0) ∈ evKs G)
    (h : (evSp G yX5_isNoShip M_X5_isNoShip d [.int l1] S (evQI fun r1 S2 => ((¬ r1 = 0 → q (-1) S2) ∧ (r1 = 0 → ((l2 < 1 → q (-1) S2) ∧ (¬ l2 < 1 → ((l2 ≤ 60 → (vp_in l1 4 ∧ (evSp G yX3_trait M_X3_trait d [.ref (evad G 3 l1.toNatClampNeg), .int 1] S2 (evQI fun r4 S5 => ((¬ r4 = l2 → (evSp G yX1_remember M_X1_remember d [.ref (evad G 16 0), .ref (evad G 1 0)] S5 (evQV fun S6 => (evSp G yX3_setTrait M_X3_setTrait d [.ref (evad G 3 l1.toNatClampNeg), .int 1, .int l2] S6 (evQV fun S7 => q r4 S7))))) ∧ (r4 = l2 → q (-2) S5)))))) ∧ (¬ l2 ≤ 60 → q (-1) S2))))))))) : bk_X5_fastens_0 G d (evQI q) x0 l1 l2 S := by
  refine ea_iload_n (pc' := 1) (i := 1) dX5_fastens_0 rfl 1 rfl rfl ?_
  refine ea_csi (As := [.int l1]) (st := []) (d := d) (pc' := 4) mv_X5_isNoShip ml_X5_81 rfl dX5_fastens_1 rfl (Nat.le_of_ble_eq_true rfl) (ev_room (by decide)) ⟨Nat.le_refl _, Nat.le_refl _⟩ h rfl (fun r1 S2 h => ?_)
  refine ea_if_ne (tgt := 18) (pc' := 7) dX5_fastens_4 (by decide) rfl (fun hc => ?_) (fun hc => ?_)
  · replace h := h.1 hc
    refine ea_iconst (v := (-1)) (pc' := 19) dX5_fastens_18 (by decide) rfl ?_
    exact ea_iret rfl dX5_fastens_19 ⟨_, rfl, h⟩
  · replace h := h.2 hc
    refine ea_iload_n (pc' := 8) (i := 2) dX5_fastens_7 rfl 2 rfl rfl ?_
    refine ea_iconst (v := 1) (pc' := 9) dX5_fastens_8 (by decide) rfl ?_
    refine ea_icmp_lt (tgt := 18) (pc' := 12) dX5_fastens_9 (by decide) rfl (fun hc => ?_) (fun hc => ?_)
    · replace h := h.1 hc
      refine ea_iconst (v := (-1)) (pc' := 19) dX5_fastens_18 (by decide) rfl ?_
      exact ea_iret rfl dX5_fastens_19 ⟨_, rfl, h⟩
    · replace h := h.2 hc
      refine ea_iload_n (pc' := 13) (i := 2) dX5_fastens_12 rfl 2 rfl rfl ?_
      refine ea_bipush (v := 60) (pc' := 15) dX5_fastens_13 (by decide) rfl ?_
      refine ea_icmp_le (tgt := 20) (pc' := 18) dX5_fastens_15 (by decide) rfl (fun hc => ?_) (fun hc => ?_)
      · replace h := h.1 hc
        refine ea_aload_n (pc' := 21) (i := 0) dX5_fastens_20 rfl 0 rfl rfl ?_
        refine ea_getr (k2 := 1) (x2 := 0) (kf := 0) (pc' := 24) kok_0 hVl0 (by decide) rfl fl_X5_10 rfl dX5_fastens_21 rfl ?_
        refine ea_getrN (host := RX5) (k2 := 2) (x2 := 0) (kf := 0) (pc' := 27) kok_1 (hCl.1 0 x0 0 1 hVl0 rfl) (by decide) rfl rfl rfl dX5_fastens_24 rfl ?_
        refine ea_iload_n (pc' := 28) (i := 1) dX5_fastens_27 rfl 1 rfl rfl ?_
        obtain ⟨o3, h⟩ := h
        refine ea_aald (t0 := 4) (cn := RX3) (j := l1.toNatClampNeg) (x2 := l1.toNatClampNeg) (k2 := 3) (pc' := 29) (hCl.1 1 0 0 2 (hCl.1 0 x0 0 1 hVl0 rfl) rfl) rfl rfl o3 dX5_fastens_28 rfl (Nat.zero_add _) rfl rfl ?_
        refine ea_astore_n (lv' := [(3, .ref (evad G 3 l1.toNatClampNeg)), (0, .ref (evad G 0 x0)), (1, .int l1), (2, .int l2)]) (pc' := 30) dX5_fastens_29 rfl (by decide) rfl rfl ?_
        refine ea_aload_n (pc' := 31) (i := 3) dX5_fastens_30 rfl 0 rfl rfl ?_
        refine ea_iconst (v := 1) (pc' := 32) dX5_fastens_31 (by decide) rfl ?_
        refine ea_cvi (As := [.int 1]) (st := []) (d := d) (pc' := 35) mv_X3_trait ml_X5_108 kok_3 (ev_cle (n := 4) (j := l1.toNatClampNeg) (k2 := 3) (x2 := l1.toNatClampNeg) hCl (hCl.1 1 0 0 2 (hCl.1 0 x0 0 1 hVl0 rfl) rfl) rfl rfl o3 rfl rfl (Nat.zero_add _)) rfl rfl dX5_fastens_32 rfl (Nat.le_of_ble_eq_true rfl) (ev_room (by decide)) ⟨Nat.le_refl _, Nat.le_refl _⟩ h rfl (fun r4 S5 h => ?_)
        refine ea_istore (lv' := [(4, .int r4), (3, .ref (evad G 3 l1.toNatClampNeg)), (0, .ref (evad G 0 x0)), (1, .int l1), (2, .int l2)]) (pc' := 37) dX5_fastens_35 (by decide) rfl rfl ?_
        refine ea_iload (pc' := 39) dX5_fastens_37 0 rfl rfl ?_
        refine ea_iload_n (pc' := 40) (i := 2) dX5_fastens_39 rfl 4 rfl rfl ?_
        refine ea_icmp_ne (tgt := 46) (pc' := 43) dX5_fastens_40 (by decide) rfl (fun hc => ?_) (fun hc => ?_)
        · replace h := h.1 hc
          refine ea_aload_n (pc' := 47) (i := 0) dX5_fastens_46 rfl 2 rfl rfl ?_
          refine ea_getr (k2 := 16) (x2 := 0) (kf := 1) (pc' := 50) kok_0 hVl0 (by decide) rfl fl_X5_19 rfl dX5_fastens_47 rfl ?_
          refine ea_aload_n (pc' := 51) (i := 0) dX5_fastens_50 rfl 2 rfl rfl ?_
          refine ea_getr (k2 := 1) (x2 := 0) (kf := 0) (pc' := 54) kok_0 hVl0 (by decide) rfl fl_X5_10 rfl dX5_fastens_51 rfl ?_
          refine ea_cvv (As := [.ref (evad G 1 0)]) (st := []) (d := d) (pc' := 57) mv_X1_remember ml_X5_88 kok_16 (hCl.1 0 x0 1 16 hVl0 rfl) rfl rfl dX5_fastens_54 rfl (Nat.le_of_ble_eq_true rfl) (ev_room (by decide)) ⟨Nat.le_refl _, Nat.le_refl _⟩ h rfl (fun S6 h => ?_)
          refine ea_aload_n (pc' := 58) (i := 3) dX5_fastens_57 rfl 1 rfl rfl ?_
          refine ea_iconst (v := 1) (pc' := 59) dX5_fastens_58 (by decide) rfl ?_
          refine ea_iload_n (pc' := 60) (i := 2) dX5_fastens_59 rfl 4 rfl rfl ?_
          refine ea_cvv (As := [.int 1, .int l2]) (st := []) (d := d) (pc' := 63) mv_X3_setTrait ml_X5_122 kok_3 (ev_cle (n := 4) (j := l1.toNatClampNeg) (k2 := 3) (x2 := l1.toNatClampNeg) hCl (hCl.1 1 0 0 2 (hCl.1 0 x0 0 1 hVl0 rfl) rfl) rfl rfl o3 rfl rfl (Nat.zero_add _)) rfl rfl dX5_fastens_60 rfl (Nat.le_of_ble_eq_true rfl) (ev_room (by decide)) ⟨Nat.le_refl _, Nat.le_refl _⟩ h rfl (fun S7 h => ?_)
          refine ea_iload (pc' := 65) dX5_fastens_63 0 rfl rfl ?_
          exact ea_iret rfl dX5_fastens_65 ⟨_, rfl, h⟩
        · replace h := h.2 hc
          refine ea_bipush (v := (-2)) (pc' := 45) dX5_fastens_43 (by decide) rfl ?_
          exact ea_iret rfl dX5_fastens_45 ⟨_, rfl, h⟩
      · replace h := h.2 hc
        refine ea_iconst (v := (-1)) (pc' := 19) dX5_fastens_18 (by decide) rfl ?_
        exact ea_iret rfl dX5_fastens_19 ⟨_, rfl, h⟩
theorem vm_X5_fastens {G : evG} {d : Nat} {q : Int32 → evS → Prop} {x0 : Nat} {l1 : Int32} {l2 : Int32} {S : evS} (h : bk_X5_fastens_0 G d (evQI q) x0 l1 l2 S) : evSp G yX5_fastens M_X5_fastens (d + 1) [.ref (evad G 0 x0), .int l1, .int l2] S (evQI q) :=
  evSp.of (by decide +kernel) rfl (Nat.le_of_ble_eq_true rfl) h
abbrev bk_X5_undo_0 (G : evG) (d : Nat) (Q : Option Value → evS → Prop) (x0 : Nat) (S : evS) : Prop := evAt G M_X5_undo (evFm G (d + 1) Q) 0 [(0, .ref (evad G 0 x0))] [] S
set_option maxRecDepth 100000 in
set_option maxHeartbeats 4000000 in
theorem vb_X5_undo_0 {G : evG} {d : Nat} {q : Int32 → evS → Prop} (hCl : evCl G) {x0 : Nat} {S : evS} (hVl0 : (0, x0) ∈ evKs G)
    (h : (evSp G yX1_known M_X1_known d [.ref (evad G 16 0)] S (evQI fun r1 S2 => ((¬ r1 = 0 → (evSp G yX1_restore M_X1_restore d [.ref (evad G 16 0), .ref (evad G 1 0)] S2 (evQV fun S3 => (evSp G yX1_known M_X1_known d [.ref (evad G 16 0)] S3 (evQI fun r4 S5 => q r4 S5))))) ∧ (r1 = 0 → q (-2) S2))))) : bk_X5_undo_0 G d (evQI q) x0 S := by
  refine ea_aload_n (pc' := 1) (i := 0) dX5_undo_0 rfl 0 rfl rfl ?_
  refine ea_getr (k2 := 16) (x2 := 0) (kf := 1) (pc' := 4) kok_0 hVl0 (by decide) rfl fl_X5_19 rfl dX5_undo_1 rfl ?_
  refine ea_cvi (As := []) (st := []) (d := d) (pc' := 7) mv_X1_known ml_X5_133 kok_16 (hCl.1 0 x0 1 16 hVl0 rfl) rfl rfl dX5_undo_4 rfl (Nat.le_of_ble_eq_true rfl) (ev_room (by decide)) ⟨Nat.le_refl _, Nat.le_refl _⟩ h rfl (fun r1 S2 h => ?_)
  refine ea_if_ne (tgt := 13) (pc' := 10) dX5_undo_7 (by decide) rfl (fun hc => ?_) (fun hc => ?_)
  · replace h := h.1 hc
    refine ea_aload_n (pc' := 14) (i := 0) dX5_undo_13 rfl 0 rfl rfl ?_
    refine ea_getr (k2 := 16) (x2 := 0) (kf := 1) (pc' := 17) kok_0 hVl0 (by decide) rfl fl_X5_19 rfl dX5_undo_14 rfl ?_
    refine ea_aload_n (pc' := 18) (i := 0) dX5_undo_17 rfl 0 rfl rfl ?_
    refine ea_getr (k2 := 1) (x2 := 0) (kf := 0) (pc' := 21) kok_0 hVl0 (by decide) rfl fl_X5_10 rfl dX5_undo_18 rfl ?_
    refine ea_cvv (As := [.ref (evad G 1 0)]) (st := []) (d := d) (pc' := 24) mv_X1_restore ml_X5_136 kok_16 (hCl.1 0 x0 1 16 hVl0 rfl) rfl rfl dX5_undo_21 rfl (Nat.le_of_ble_eq_true rfl) (ev_room (by decide)) ⟨Nat.le_refl _, Nat.le_refl _⟩ h rfl (fun S3 h => ?_)
    refine ea_aload_n (pc' := 25) (i := 0) dX5_undo_24 rfl 0 rfl rfl ?_
    refine ea_getr (k2 := 16) (x2 := 0) (kf := 1) (pc' := 28) kok_0 hVl0 (by decide) rfl fl_X5_19 rfl dX5_undo_25 rfl ?_
    refine ea_cvi (As := []) (st := []) (d := d) (pc' := 31) mv_X1_known ml_X5_133 kok_16 (hCl.1 0 x0 1 16 hVl0 rfl) rfl rfl dX5_undo_28 rfl (Nat.le_of_ble_eq_true rfl) (ev_room (by decide)) ⟨Nat.le_refl _, Nat.le_refl _⟩ h rfl (fun r4 S5 h => ?_)
    exact ea_iret rfl dX5_undo_31 ⟨_, rfl, h⟩
  · replace h := h.2 hc
    refine ea_bipush (v := (-2)) (pc' := 12) dX5_undo_10 (by decide) rfl ?_
    exact ea_iret rfl dX5_undo_12 ⟨_, rfl, h⟩
theorem vm_X5_undo {G : evG} {d : Nat} {q : Int32 → evS → Prop} {x0 : Nat} {S : evS} (h : bk_X5_undo_0 G d (evQI q) x0 S) : evSp G yX5_undo M_X5_undo (d + 1) [.ref (evad G 0 x0)] S (evQI q) :=
  evSp.of (by decide +kernel) rfl (Nat.le_of_ble_eq_true rfl) h
abbrev bk_X5_ship_0 (G : evG) (d : Nat) (Q : Option Value → evS → Prop) (x0 : Nat) (l1 : Int32) (l2 : Int32) (S : evS) : Prop := evAt G M_X5_ship (evFm G (d + 1) Q) 0 [(0, .ref (evad G 0 x0)), (1, .int l1), (2, .int l2)] [] S
set_option maxRecDepth 100000 in
set_option maxHeartbeats 4000000 in
theorem vb_X5_ship_0 {G : evG} {d : Nat} {q : Int32 → evS → Prop} (hCl : evCl G) {x0 : Nat} {l1 : Int32} {l2 : Int32} {S : evS} (hVl0 : (0, x0) ∈ evKs G)
    (h : (evSp G yX5_isNoShip M_X5_isNoShip d [.int l1] S (evQI fun r1 S2 => ((¬ r1 = 0 → q (-1) S2) ∧ (r1 = 0 → ((l2 < 0 → q (-1) S2) ∧ (¬ l2 < 0 → ((l2 < 9 → (vp_in l1 4 ∧ (evSp G yX3_trait M_X3_trait d [.ref (evad G 3 l1.toNatClampNeg), .int l2] S2 (evQI fun r4 S5 => q r4 S5)))) ∧ (¬ l2 < 9 → q (-1) S2))))))))) : bk_X5_ship_0 G d (evQI q) x0 l1 l2 S := by
  refine ea_iload_n (pc' := 1) (i := 1) dX5_ship_0 rfl 1 rfl rfl ?_
  refine ea_csi (As := [.int l1]) (st := []) (d := d) (pc' := 4) mv_X5_isNoShip ml_X5_81 rfl dX5_ship_1 rfl (Nat.le_of_ble_eq_true rfl) (ev_room (by decide)) ⟨Nat.le_refl _, Nat.le_refl _⟩ h rfl (fun r1 S2 h => ?_)
  refine ea_if_ne (tgt := 17) (pc' := 7) dX5_ship_4 (by decide) rfl (fun hc => ?_) (fun hc => ?_)
  · replace h := h.1 hc
    refine ea_iconst (v := (-1)) (pc' := 18) dX5_ship_17 (by decide) rfl ?_
    exact ea_iret rfl dX5_ship_18 ⟨_, rfl, h⟩
  · replace h := h.2 hc
    refine ea_iload_n (pc' := 8) (i := 2) dX5_ship_7 rfl 2 rfl rfl ?_
    refine ea_if_lt (tgt := 17) (pc' := 11) dX5_ship_8 (by decide) rfl (fun hc => ?_) (fun hc => ?_)
    · replace h := h.1 hc
      refine ea_iconst (v := (-1)) (pc' := 18) dX5_ship_17 (by decide) rfl ?_
      exact ea_iret rfl dX5_ship_18 ⟨_, rfl, h⟩
    · replace h := h.2 hc
      refine ea_iload_n (pc' := 12) (i := 2) dX5_ship_11 rfl 2 rfl rfl ?_
      refine ea_bipush (v := 9) (pc' := 14) dX5_ship_12 (by decide) rfl ?_
      refine ea_icmp_lt (tgt := 19) (pc' := 17) dX5_ship_14 (by decide) rfl (fun hc => ?_) (fun hc => ?_)
      · replace h := h.1 hc
        refine ea_aload_n (pc' := 20) (i := 0) dX5_ship_19 rfl 0 rfl rfl ?_
        refine ea_getr (k2 := 1) (x2 := 0) (kf := 0) (pc' := 23) kok_0 hVl0 (by decide) rfl fl_X5_10 rfl dX5_ship_20 rfl ?_
        refine ea_getrN (host := RX5) (k2 := 2) (x2 := 0) (kf := 0) (pc' := 26) kok_1 (hCl.1 0 x0 0 1 hVl0 rfl) (by decide) rfl rfl rfl dX5_ship_23 rfl ?_
        refine ea_iload_n (pc' := 27) (i := 1) dX5_ship_26 rfl 1 rfl rfl ?_
        obtain ⟨o3, h⟩ := h
        refine ea_aald (t0 := 4) (cn := RX3) (j := l1.toNatClampNeg) (x2 := l1.toNatClampNeg) (k2 := 3) (pc' := 28) (hCl.1 1 0 0 2 (hCl.1 0 x0 0 1 hVl0 rfl) rfl) rfl rfl o3 dX5_ship_27 rfl (Nat.zero_add _) rfl rfl ?_
        refine ea_iload_n (pc' := 29) (i := 2) dX5_ship_28 rfl 2 rfl rfl ?_
        refine ea_cvi (As := [.int l2]) (st := []) (d := d) (pc' := 32) mv_X3_trait ml_X5_108 kok_3 (ev_cle (n := 4) (j := l1.toNatClampNeg) (k2 := 3) (x2 := l1.toNatClampNeg) hCl (hCl.1 1 0 0 2 (hCl.1 0 x0 0 1 hVl0 rfl) rfl) rfl rfl o3 rfl rfl (Nat.zero_add _)) rfl rfl dX5_ship_29 rfl (Nat.le_of_ble_eq_true rfl) (ev_room (by decide)) ⟨Nat.le_refl _, Nat.le_refl _⟩ h rfl (fun r4 S5 h => ?_)
        exact ea_iret rfl dX5_ship_32 ⟨_, rfl, h⟩
      · replace h := h.2 hc
        refine ea_iconst (v := (-1)) (pc' := 18) dX5_ship_17 (by decide) rfl ?_
        exact ea_iret rfl dX5_ship_18 ⟨_, rfl, h⟩
theorem vm_X5_ship {G : evG} {d : Nat} {q : Int32 → evS → Prop} {x0 : Nat} {l1 : Int32} {l2 : Int32} {S : evS} (h : bk_X5_ship_0 G d (evQI q) x0 l1 l2 S) : evSp G yX5_ship M_X5_ship (d + 1) [.ref (evad G 0 x0), .int l1, .int l2] S (evQI q) :=
  evSp.of (by decide +kernel) rfl (Nat.le_of_ble_eq_true rfl) h
abbrev bk_X5_leg_0 (G : evG) (d : Nat) (Q : Option Value → evS → Prop) (x0 : Nat) (l1 : Int32) (l2 : Int32) (l3 : Int32) (S : evS) : Prop := evAt G M_X5_leg (evFm G (d + 1) Q) 0 [(0, .ref (evad G 0 x0)), (1, .int l1), (2, .int l2), (3, .int l3)] [] S
set_option maxRecDepth 100000 in
set_option maxHeartbeats 4000000 in
theorem vb_X5_leg_0 {G : evG} {d : Nat} {q : Int32 → evS → Prop} (hCl : evCl G) {x0 : Nat} {l1 : Int32} {l2 : Int32} {l3 : Int32} {S : evS} (hVl0 : (0, x0) ∈ evKs G)
    (h : (evSp G yX5_isNoShip M_X5_isNoShip d [.int l1] S (evQI fun r1 S2 => ((¬ r1 = 0 → q (-1) S2) ∧ (r1 = 0 → ((l3 < 0 → q (-1) S2) ∧ (¬ l3 < 0 → ((l3 < 4 → (vp_in l1 4 ∧ ((l2 < 0 → q (-1) S2) ∧ (¬ l2 < 0 → (evSp G yX3_trait M_X3_trait d [.ref (evad G 3 l1.toNatClampNeg), .int 0] S2 (evQI fun r4 S5 => ((l2 < r4 → (evSp G yX3_ofLeg M_X3_ofLeg d [.ref (evad G 3 l1.toNatClampNeg), .int l2, .int l3] S5 (evQI fun r6 S7 => q r6 S7))) ∧ (¬ l2 < r4 → q (-1) S5)))))))) ∧ (¬ l3 < 4 → q (-1) S2))))))))) : bk_X5_leg_0 G d (evQI q) x0 l1 l2 l3 S := by
  refine ea_iload_n (pc' := 1) (i := 1) dX5_leg_0 rfl 1 rfl rfl ?_
  refine ea_csi (As := [.int l1]) (st := []) (d := d) (pc' := 4) mv_X5_isNoShip ml_X5_81 rfl dX5_leg_1 rfl (Nat.le_of_ble_eq_true rfl) (ev_room (by decide)) ⟨Nat.le_refl _, Nat.le_refl _⟩ h rfl (fun r1 S2 h => ?_)
  refine ea_if_ne (tgt := 16) (pc' := 7) dX5_leg_4 (by decide) rfl (fun hc => ?_) (fun hc => ?_)
  · replace h := h.1 hc
    refine ea_iconst (v := (-1)) (pc' := 17) dX5_leg_16 (by decide) rfl ?_
    exact ea_iret rfl dX5_leg_17 ⟨_, rfl, h⟩
  · replace h := h.2 hc
    refine ea_iload_n (pc' := 8) (i := 3) dX5_leg_7 rfl 3 rfl rfl ?_
    refine ea_if_lt (tgt := 16) (pc' := 11) dX5_leg_8 (by decide) rfl (fun hc => ?_) (fun hc => ?_)
    · replace h := h.1 hc
      refine ea_iconst (v := (-1)) (pc' := 17) dX5_leg_16 (by decide) rfl ?_
      exact ea_iret rfl dX5_leg_17 ⟨_, rfl, h⟩
    · replace h := h.2 hc
      refine ea_iload_n (pc' := 12) (i := 3) dX5_leg_11 rfl 3 rfl rfl ?_
      refine ea_iconst (v := 4) (pc' := 13) dX5_leg_12 (by decide) rfl ?_
      refine ea_icmp_lt (tgt := 18) (pc' := 16) dX5_leg_13 (by decide) rfl (fun hc => ?_) (fun hc => ?_)
      · replace h := h.1 hc
        refine ea_aload_n (pc' := 19) (i := 0) dX5_leg_18 rfl 0 rfl rfl ?_
        refine ea_getr (k2 := 1) (x2 := 0) (kf := 0) (pc' := 22) kok_0 hVl0 (by decide) rfl fl_X5_10 rfl dX5_leg_19 rfl ?_
        refine ea_getrN (host := RX5) (k2 := 2) (x2 := 0) (kf := 0) (pc' := 25) kok_1 (hCl.1 0 x0 0 1 hVl0 rfl) (by decide) rfl rfl rfl dX5_leg_22 rfl ?_
        refine ea_iload_n (pc' := 26) (i := 1) dX5_leg_25 rfl 1 rfl rfl ?_
        obtain ⟨o3, h⟩ := h
        refine ea_aald (t0 := 4) (cn := RX3) (j := l1.toNatClampNeg) (x2 := l1.toNatClampNeg) (k2 := 3) (pc' := 27) (hCl.1 1 0 0 2 (hCl.1 0 x0 0 1 hVl0 rfl) rfl) rfl rfl o3 dX5_leg_26 rfl (Nat.zero_add _) rfl rfl ?_
        refine ea_astore (lv' := [(4, .ref (evad G 3 l1.toNatClampNeg)), (0, .ref (evad G 0 x0)), (1, .int l1), (2, .int l2), (3, .int l3)]) (pc' := 29) dX5_leg_27 (by decide) rfl rfl ?_
        refine ea_iload_n (pc' := 30) (i := 2) dX5_leg_29 rfl 3 rfl rfl ?_
        refine ea_if_lt (tgt := 43) (pc' := 33) dX5_leg_30 (by decide) rfl (fun hc => ?_) (fun hc => ?_)
        · replace h := h.1 hc
          refine ea_iconst (v := (-1)) (pc' := 44) dX5_leg_43 (by decide) rfl ?_
          exact ea_iret rfl dX5_leg_44 ⟨_, rfl, h⟩
        · replace h := h.2 hc
          refine ea_iload_n (pc' := 34) (i := 2) dX5_leg_33 rfl 3 rfl rfl ?_
          refine ea_aload (pc' := 36) dX5_leg_34 0 rfl rfl ?_
          refine ea_iconst (v := 0) (pc' := 37) dX5_leg_36 (by decide) rfl ?_
          refine ea_cvi (As := [.int 0]) (st := [.int l2]) (d := d) (pc' := 40) mv_X3_trait ml_X5_108 kok_3 (ev_cle (n := 4) (j := l1.toNatClampNeg) (k2 := 3) (x2 := l1.toNatClampNeg) hCl (hCl.1 1 0 0 2 (hCl.1 0 x0 0 1 hVl0 rfl) rfl) rfl rfl o3 rfl rfl (Nat.zero_add _)) rfl rfl dX5_leg_37 rfl (Nat.le_of_ble_eq_true rfl) (ev_room (by decide)) ⟨Nat.le_refl _, Nat.le_refl _⟩ h rfl (fun r4 S5 h => ?_)
          refine ea_icmp_lt (tgt := 45) (pc' := 43) dX5_leg_40 (by decide) rfl (fun hc => ?_) (fun hc => ?_)
          · replace h := h.1 hc
            refine ea_aload (pc' := 47) dX5_leg_45 0 rfl rfl ?_
            refine ea_iload_n (pc' := 48) (i := 2) dX5_leg_47 rfl 3 rfl rfl ?_
            refine ea_iload_n (pc' := 49) (i := 3) dX5_leg_48 rfl 4 rfl rfl ?_
            refine ea_cvi (As := [.int l2, .int l3]) (st := []) (d := d) (pc' := 52) mv_X3_ofLeg ml_X5_115 kok_3 (ev_cle (n := 4) (j := l1.toNatClampNeg) (k2 := 3) (x2 := l1.toNatClampNeg) hCl (hCl.1 1 0 0 2 (hCl.1 0 x0 0 1 hVl0 rfl) rfl) rfl rfl o3 rfl rfl (Nat.zero_add _)) rfl rfl dX5_leg_49 rfl (Nat.le_of_ble_eq_true rfl) (ev_room (by decide)) ⟨Nat.le_refl _, Nat.le_refl _⟩ h rfl (fun r6 S7 h => ?_)
            exact ea_iret rfl dX5_leg_52 ⟨_, rfl, h⟩
          · replace h := h.2 hc
            refine ea_iconst (v := (-1)) (pc' := 44) dX5_leg_43 (by decide) rfl ?_
            exact ea_iret rfl dX5_leg_44 ⟨_, rfl, h⟩
      · replace h := h.2 hc
        refine ea_iconst (v := (-1)) (pc' := 17) dX5_leg_16 (by decide) rfl ?_
        exact ea_iret rfl dX5_leg_17 ⟨_, rfl, h⟩
theorem vm_X5_leg {G : evG} {d : Nat} {q : Int32 → evS → Prop} {x0 : Nat} {l1 : Int32} {l2 : Int32} {l3 : Int32} {S : evS} (h : bk_X5_leg_0 G d (evQI q) x0 l1 l2 l3 S) : evSp G yX5_leg M_X5_leg (d + 1) [.ref (evad G 0 x0), .int l1, .int l2, .int l3] S (evQI q) :=
  evSp.of (by decide +kernel) rfl (Nat.le_of_ble_eq_true rfl) h
abbrev bk_X5_plan_0 (G : evG) (d : Nat) (Q : Option Value → evS → Prop) (x0 : Nat) (l1 : Int32) (l2 : Int32) (S : evS) : Prop := evAt G M_X5_plan (evFm G (d + 1) Q) 0 [(0, .ref (evad G 0 x0)), (1, .int l1), (2, .int l2)] [] S
set_option maxRecDepth 100000 in
set_option maxHeartbeats 4000000 in
theorem vb_X5_plan_0 {G : evG} {d : Nat} {q : Int32 → evS → Prop} (hCl : evCl G) {x0 : Nat} {l1 : Int32} {l2 : Int32} {S : evS} (hVl0 : (0, x0) ∈ evKs G)
    (h : (evSp G yX5_isNoShip M_X5_isNoShip d [.int l1] S (evQI fun r1 S2 => ((¬ r1 = 0 → q (-1) S2) ∧ (r1 = 0 → ((l2 < 0 → q (-1) S2) ∧ (¬ l2 < 0 → ((l2 ≤ 1 → (evSp G yX5_drawnPlan M_X5_drawnPlan d [.ref (evad G 0 x0), .int l1] S2 (evQR (evad G 6 l1.toNatClampNeg) fun S3 => (vp_in l1 4 ∧ (evSp G yX2_stands M_X2_stands d [.ref (evad G 6 l1.toNatClampNeg)] S3 (evQI fun r6 S7 => ((¬ r6 = 0 → ((¬ l2 = 0 → (evSp G yX2_burntInAll M_X2_burntInAll d [.ref (evad G 6 l1.toNatClampNeg)] S7 (evQI fun r8 S9 => q r8 S9))) ∧ (l2 = 0 → (evSp G yX2_stretchCount M_X2_stretchCount d [.ref (evad G 6 l1.toNatClampNeg)] S7 (evQI fun r10 S11 => q r10 S11))))) ∧ (r6 = 0 → q (-9) S7)))))))) ∧ (¬ l2 ≤ 1 → q (-1) S2))))))))) : bk_X5_plan_0 G d (evQI q) x0 l1 l2 S := by
  refine ea_iload_n (pc' := 1) (i := 1) dX5_plan_0 rfl 1 rfl rfl ?_
  refine ea_csi (As := [.int l1]) (st := []) (d := d) (pc' := 4) mv_X5_isNoShip ml_X5_81 rfl dX5_plan_1 rfl (Nat.le_of_ble_eq_true rfl) (ev_room (by decide)) ⟨Nat.le_refl _, Nat.le_refl _⟩ h rfl (fun r1 S2 h => ?_)
  refine ea_if_ne (tgt := 16) (pc' := 7) dX5_plan_4 (by decide) rfl (fun hc => ?_) (fun hc => ?_)
  · replace h := h.1 hc
    refine ea_iconst (v := (-1)) (pc' := 17) dX5_plan_16 (by decide) rfl ?_
    exact ea_iret rfl dX5_plan_17 ⟨_, rfl, h⟩
  · replace h := h.2 hc
    refine ea_iload_n (pc' := 8) (i := 2) dX5_plan_7 rfl 2 rfl rfl ?_
    refine ea_if_lt (tgt := 16) (pc' := 11) dX5_plan_8 (by decide) rfl (fun hc => ?_) (fun hc => ?_)
    · replace h := h.1 hc
      refine ea_iconst (v := (-1)) (pc' := 17) dX5_plan_16 (by decide) rfl ?_
      exact ea_iret rfl dX5_plan_17 ⟨_, rfl, h⟩
    · replace h := h.2 hc
      refine ea_iload_n (pc' := 12) (i := 2) dX5_plan_11 rfl 2 rfl rfl ?_
      refine ea_iconst (v := 1) (pc' := 13) dX5_plan_12 (by decide) rfl ?_
      refine ea_icmp_le (tgt := 18) (pc' := 16) dX5_plan_13 (by decide) rfl (fun hc => ?_) (fun hc => ?_)
      · replace h := h.1 hc
        refine ea_aload_n (pc' := 19) (i := 0) dX5_plan_18 rfl 0 rfl rfl ?_
        refine ea_iload_n (pc' := 20) (i := 1) dX5_plan_19 rfl 1 rfl rfl ?_
        refine ea_cvr (As := [.int l1]) (st := []) (d := d) (pc' := 23) mv_X5_drawnPlan ml_X5_100 kok_0 hVl0 rfl rfl dX5_plan_20 rfl (Nat.le_of_ble_eq_true rfl) (ev_room (by decide)) ⟨Nat.le_refl _, Nat.le_refl _⟩ h rfl (fun S3 h => ?_)
        obtain ⟨o5, h⟩ := h
        have hW4 : (6, l1.toNatClampNeg) ∈ evKs G := ev_cle (kd := 23) (x := 0) (n := 4) hCl (hCl.1 0 _ 7 23 hVl0 rfl) rfl rfl o5 rfl rfl rfl
        refine ea_astore_n (lv' := [(3, .ref (evad G 6 l1.toNatClampNeg)), (0, .ref (evad G 0 x0)), (1, .int l1), (2, .int l2)]) (pc' := 24) dX5_plan_23 rfl (by decide) rfl rfl ?_
        refine ea_aload_n (pc' := 25) (i := 3) dX5_plan_24 rfl 0 rfl rfl ?_
        refine ea_cvi (As := []) (st := []) (d := d) (pc' := 28) mv_X2_stands ml_X5_104 kok_6 hW4 rfl rfl dX5_plan_25 rfl (Nat.le_of_ble_eq_true rfl) (ev_room (by decide)) ⟨Nat.le_refl _, Nat.le_refl _⟩ h rfl (fun r6 S7 h => ?_)
        refine ea_if_ne (tgt := 34) (pc' := 31) dX5_plan_28 (by decide) rfl (fun hc => ?_) (fun hc => ?_)
        · replace h := h.1 hc
          refine ea_iload_n (pc' := 35) (i := 2) dX5_plan_34 rfl 3 rfl rfl ?_
          refine ea_if_ne (tgt := 45) (pc' := 38) dX5_plan_35 (by decide) rfl (fun hc => ?_) (fun hc => ?_)
          · replace h := h.1 hc
            refine ea_aload_n (pc' := 46) (i := 3) dX5_plan_45 rfl 0 rfl rfl ?_
            refine ea_cvi (As := []) (st := []) (d := d) (pc' := 49) mv_X2_burntInAll ml_X5_142 kok_6 hW4 rfl rfl dX5_plan_46 rfl (Nat.le_of_ble_eq_true rfl) (ev_room (by decide)) ⟨Nat.le_refl _, Nat.le_refl _⟩ h rfl (fun r8 S9 h => ?_)
            exact ea_iret rfl dX5_plan_49 ⟨_, rfl, h⟩
          · replace h := h.2 hc
            refine ea_aload_n (pc' := 39) (i := 3) dX5_plan_38 rfl 0 rfl rfl ?_
            refine ea_cvi (As := []) (st := []) (d := d) (pc' := 42) mv_X2_stretchCount ml_X5_139 kok_6 hW4 rfl rfl dX5_plan_39 rfl (Nat.le_of_ble_eq_true rfl) (ev_room (by decide)) ⟨Nat.le_refl _, Nat.le_refl _⟩ h rfl (fun r10 S11 h => ?_)
            refine ea_goto (tgt := 49) dX5_plan_42 (by decide) ?_
            exact ea_iret rfl dX5_plan_49 ⟨_, rfl, h⟩
        · replace h := h.2 hc
          refine ea_bipush (v := (-9)) (pc' := 33) dX5_plan_31 (by decide) rfl ?_
          exact ea_iret rfl dX5_plan_33 ⟨_, rfl, h⟩
      · replace h := h.2 hc
        refine ea_iconst (v := (-1)) (pc' := 17) dX5_plan_16 (by decide) rfl ?_
        exact ea_iret rfl dX5_plan_17 ⟨_, rfl, h⟩
theorem vm_X5_plan {G : evG} {d : Nat} {q : Int32 → evS → Prop} {x0 : Nat} {l1 : Int32} {l2 : Int32} {S : evS} (h : bk_X5_plan_0 G d (evQI q) x0 l1 l2 S) : evSp G yX5_plan M_X5_plan (d + 1) [.ref (evad G 0 x0), .int l1, .int l2] S (evQI q) :=
  evSp.of (by decide +kernel) rfl (Nat.le_of_ble_eq_true rfl) h
abbrev bk_X5_time_0 (G : evG) (d : Nat) (Q : Option Value → evS → Prop) (x0 : Nat) (l1 : Int32) (l2 : Int32) (l3 : Int32) (S : evS) : Prop := evAt G M_X5_time (evFm G (d + 1) Q) 0 [(0, .ref (evad G 0 x0)), (1, .int l1), (2, .int l2), (3, .int l3)] [] S
set_option maxRecDepth 100000 in
set_option maxHeartbeats 4000000 in
theorem vb_X5_time_0 {G : evG} {d : Nat} {q : Int32 → evS → Prop} (hCl : evCl G) {x0 : Nat} {l1 : Int32} {l2 : Int32} {l3 : Int32} {S : evS} (hVl0 : (0, x0) ∈ evKs G)
    (h : (evSp G yX5_isNoShip M_X5_isNoShip d [.int l1] S (evQI fun r1 S2 => ((¬ r1 = 0 → q (-1000000) S2) ∧ (r1 = 0 → ((l3 < 0 → q (-1000000) S2) ∧ (¬ l3 < 0 → ((1 < l3 → q (-1000000) S2) ∧ (¬ 1 < l3 → (vp_in l1 4 ∧ (evSp G yX3_isPortAhead M_X3_isPortAhead d [.ref (evad G 3 l1.toNatClampNeg), .int l2] S2 (evQI fun r4 S5 => ((¬ r4 = 0 → (evSp G yX5_drawnPlan M_X5_drawnPlan d [.ref (evad G 0 x0), .int l1] S5 (evQR (evad G 6 l1.toNatClampNeg) fun S6 => (vp_in l1 4 ∧ (evSp G yX2_stands M_X2_stands d [.ref (evad G 6 l1.toNatClampNeg)] S6 (evQI fun r9 S10 => ((¬ r9 = 0 → (evSp G yX2_hourUpper M_X2_hourUpper d [.ref (evad G 6 l1.toNatClampNeg), .int l2] S10 (evQI fun r11 S12 => (evSp G yX2_hourLower M_X2_hourLower d [.ref (evad G 6 l1.toNatClampNeg), .int l2] S12 (evQI fun r13 S14 => (evSp G yX5_partOf M_X5_partOf d [.int r11, .int r13, .int l3] S14 (evQI fun r15 S16 => q r15 S16))))))) ∧ (r9 = 0 → q (-2000000) S10)))))))) ∧ (r4 = 0 → q (-1000000) S5)))))))))))))) : bk_X5_time_0 G d (evQI q) x0 l1 l2 l3 S := by
  refine ea_iload_n (pc' := 1) (i := 1) dX5_time_0 rfl 1 rfl rfl ?_
  refine ea_csi (As := [.int l1]) (st := []) (d := d) (pc' := 4) mv_X5_isNoShip ml_X5_81 rfl dX5_time_1 rfl (Nat.le_of_ble_eq_true rfl) (ev_room (by decide)) ⟨Nat.le_refl _, Nat.le_refl _⟩ h rfl (fun r1 S2 h => ?_)
  refine ea_if_ne (tgt := 32) (pc' := 7) dX5_time_4 (by decide) rfl (fun hc => ?_) (fun hc => ?_)
  · replace h := h.1 hc
    refine ea_ldc (v := (-1000000)) (pc' := 34) dX5_time_32 kc_X5_145 rfl ?_
    exact ea_iret rfl dX5_time_34 ⟨_, rfl, h⟩
  · replace h := h.2 hc
    refine ea_iload_n (pc' := 8) (i := 3) dX5_time_7 rfl 3 rfl rfl ?_
    refine ea_if_lt (tgt := 32) (pc' := 11) dX5_time_8 (by decide) rfl (fun hc => ?_) (fun hc => ?_)
    · replace h := h.1 hc
      refine ea_ldc (v := (-1000000)) (pc' := 34) dX5_time_32 kc_X5_145 rfl ?_
      exact ea_iret rfl dX5_time_34 ⟨_, rfl, h⟩
    · replace h := h.2 hc
      refine ea_iload_n (pc' := 12) (i := 3) dX5_time_11 rfl 3 rfl rfl ?_
      refine ea_iconst (v := 1) (pc' := 13) dX5_time_12 (by decide) rfl ?_
      refine ea_icmp_gt (tgt := 32) (pc' := 16) dX5_time_13 (by decide) rfl (fun hc => ?_) (fun hc => ?_)
      · replace h := h.1 hc
        refine ea_ldc (v := (-1000000)) (pc' := 34) dX5_time_32 kc_X5_145 rfl ?_
        exact ea_iret rfl dX5_time_34 ⟨_, rfl, h⟩
      · replace h := h.2 hc
        refine ea_aload_n (pc' := 17) (i := 0) dX5_time_16 rfl 0 rfl rfl ?_
        refine ea_getr (k2 := 1) (x2 := 0) (kf := 0) (pc' := 20) kok_0 hVl0 (by decide) rfl fl_X5_10 rfl dX5_time_17 rfl ?_
        refine ea_getrN (host := RX5) (k2 := 2) (x2 := 0) (kf := 0) (pc' := 23) kok_1 (hCl.1 0 x0 0 1 hVl0 rfl) (by decide) rfl rfl rfl dX5_time_20 rfl ?_
        refine ea_iload_n (pc' := 24) (i := 1) dX5_time_23 rfl 1 rfl rfl ?_
        obtain ⟨o3, h⟩ := h
        refine ea_aald (t0 := 4) (cn := RX3) (j := l1.toNatClampNeg) (x2 := l1.toNatClampNeg) (k2 := 3) (pc' := 25) (hCl.1 1 0 0 2 (hCl.1 0 x0 0 1 hVl0 rfl) rfl) rfl rfl o3 dX5_time_24 rfl (Nat.zero_add _) rfl rfl ?_
        refine ea_iload_n (pc' := 26) (i := 2) dX5_time_25 rfl 2 rfl rfl ?_
        refine ea_cvi (As := [.int l2]) (st := []) (d := d) (pc' := 29) mv_X3_isPortAhead ml_X5_126 kok_3 (ev_cle (n := 4) (j := l1.toNatClampNeg) (k2 := 3) (x2 := l1.toNatClampNeg) hCl (hCl.1 1 0 0 2 (hCl.1 0 x0 0 1 hVl0 rfl) rfl) rfl rfl o3 rfl rfl (Nat.zero_add _)) rfl rfl dX5_time_26 rfl (Nat.le_of_ble_eq_true rfl) (ev_room (by decide)) ⟨Nat.le_refl _, Nat.le_refl _⟩ h rfl (fun r4 S5 h => ?_)
        refine ea_if_ne (tgt := 35) (pc' := 32) dX5_time_29 (by decide) rfl (fun hc => ?_) (fun hc => ?_)
        · replace h := h.1 hc
          refine ea_aload_n (pc' := 36) (i := 0) dX5_time_35 rfl 0 rfl rfl ?_
          refine ea_iload_n (pc' := 37) (i := 1) dX5_time_36 rfl 1 rfl rfl ?_
          refine ea_cvr (As := [.int l1]) (st := []) (d := d) (pc' := 40) mv_X5_drawnPlan ml_X5_100 kok_0 hVl0 rfl rfl dX5_time_37 rfl (Nat.le_of_ble_eq_true rfl) (ev_room (by decide)) ⟨Nat.le_refl _, Nat.le_refl _⟩ h rfl (fun S6 h => ?_)
          obtain ⟨o8, h⟩ := h
          have hW7 : (6, l1.toNatClampNeg) ∈ evKs G := ev_cle (kd := 23) (x := 0) (n := 4) hCl (hCl.1 0 _ 7 23 hVl0 rfl) rfl rfl o8 rfl rfl rfl
          refine ea_astore (lv' := [(4, .ref (evad G 6 l1.toNatClampNeg)), (0, .ref (evad G 0 x0)), (1, .int l1), (2, .int l2), (3, .int l3)]) (pc' := 42) dX5_time_40 (by decide) rfl rfl ?_
          refine ea_aload (pc' := 44) dX5_time_42 0 rfl rfl ?_
          refine ea_cvi (As := []) (st := []) (d := d) (pc' := 47) mv_X2_stands ml_X5_104 kok_6 hW7 rfl rfl dX5_time_44 rfl (Nat.le_of_ble_eq_true rfl) (ev_room (by decide)) ⟨Nat.le_refl _, Nat.le_refl _⟩ h rfl (fun r9 S10 h => ?_)
          refine ea_if_ne (tgt := 53) (pc' := 50) dX5_time_47 (by decide) rfl (fun hc => ?_) (fun hc => ?_)
          · replace h := h.1 hc
            refine ea_aload (pc' := 55) dX5_time_53 0 rfl rfl ?_
            refine ea_iload_n (pc' := 56) (i := 2) dX5_time_55 rfl 3 rfl rfl ?_
            refine ea_cvi (As := [.int l2]) (st := []) (d := d) (pc' := 59) mv_X2_hourUpper ml_X5_147 kok_6 hW7 rfl rfl dX5_time_56 rfl (Nat.le_of_ble_eq_true rfl) (ev_room (by decide)) ⟨Nat.le_refl _, Nat.le_refl _⟩ h rfl (fun r11 S12 h => ?_)
            refine ea_aload (pc' := 61) dX5_time_59 0 rfl rfl ?_
            refine ea_iload_n (pc' := 62) (i := 2) dX5_time_61 rfl 3 rfl rfl ?_
            refine ea_cvi (As := [.int l2]) (st := [.int r11]) (d := d) (pc' := 65) mv_X2_hourLower ml_X5_150 kok_6 hW7 rfl rfl dX5_time_62 rfl (Nat.le_of_ble_eq_true rfl) (ev_room (by decide)) ⟨Nat.le_refl _, Nat.le_refl _⟩ h rfl (fun r13 S14 h => ?_)
            refine ea_iload_n (pc' := 66) (i := 3) dX5_time_65 rfl 4 rfl rfl ?_
            refine ea_csi (As := [.int r11, .int r13, .int l3]) (st := []) (d := d) (pc' := 69) mv_X5_partOf ml_X5_153 rfl dX5_time_66 rfl (Nat.le_of_ble_eq_true rfl) (ev_room (by decide)) ⟨Nat.le_refl _, Nat.le_refl _⟩ h rfl (fun r15 S16 h => ?_)
            exact ea_iret rfl dX5_time_69 ⟨_, rfl, h⟩
          · replace h := h.2 hc
            refine ea_ldc (v := (-2000000)) (pc' := 52) dX5_time_50 kc_X5_146 rfl ?_
            exact ea_iret rfl dX5_time_52 ⟨_, rfl, h⟩
        · replace h := h.2 hc
          refine ea_ldc (v := (-1000000)) (pc' := 34) dX5_time_32 kc_X5_145 rfl ?_
          exact ea_iret rfl dX5_time_34 ⟨_, rfl, h⟩
theorem vm_X5_time {G : evG} {d : Nat} {q : Int32 → evS → Prop} {x0 : Nat} {l1 : Int32} {l2 : Int32} {l3 : Int32} {S : evS} (h : bk_X5_time_0 G d (evQI q) x0 l1 l2 l3 S) : evSp G yX5_time M_X5_time (d + 1) [.ref (evad G 0 x0), .int l1, .int l2, .int l3] S (evQI q) :=
  evSp.of (by decide +kernel) rfl (Nat.le_of_ble_eq_true rfl) h
