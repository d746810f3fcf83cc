abbrev bk_X6_time_0 (G : evG) (d : Nat) (Q : Option Value → evS → Prop) (x0 : Nat) (l1 : Int32) (l2 : Int32) (l3 : Int32) (S : evS) : Prop := evAt G M_X6_time (evFm G (d + 1) Q) 0 [(0, .ref (evad G 30 x0)), (1, .int l1), (2, .int l2), (3, .int l3)] [] S
set_option maxRecDepth 100000 in
set_option maxHeartbeats 4000000 in
theorem vb_X6_time_0 {G : evG} {d : Nat} {q : Int32 → evS → Prop} (hCl : evCl G) {x0 : Nat} {l1 : Int32} {l2 : Int32} {l3 : Int32} {S : evS} (hVl0 : (30, x0) ∈ evKs G)
    (h : (evSp G yX6_isAhead M_X6_isAhead d [.ref (evad G 30 x0), .int l1, .int l2] S (evQI fun r1 S2 => ((r1 = 0 → q (-1000000) S2) ∧ (¬ r1 = 0 → (evSp G yX6_in M_X6_in d [.int l3, .int 0, .int 1] S2 (evQI fun r3 S4 => ((¬ r3 = 0 → (evSp G yX6_plans M_X6_plans d [.ref (evad G 30 x0), .int l1] S4 (evQI fun r5 S6 => ((r5 = 0 → q (-2000000) S6) ∧ (¬ r5 = 0 → (evSp G yX6_timeTimes M_X6_timeTimes d [.ref (evad G 30 x0), .int l2] S6 (evQL fun r7 S8 => (evSp G yX6_milesAt M_X6_milesAt d [.ref (evad G 30 x0), .int l2] S8 (evQL fun r9 S10 => (evSp G yX6_lowest M_X6_lowest d [.long r7, .long r9, .int l3] S10 (evQI fun r11 S12 => q r11 S12))))))))))) ∧ (r3 = 0 → q (-1000000) S4))))))))) : bk_X6_time_0 G d (evQI q) x0 l1 l2 l3 S := by
  refine ea_aload_n (pc' := 1) (i := 0) dX6_time_0 rfl 0 rfl rfl ?_
  refine ea_iload_n (pc' := 2) (i := 1) dX6_time_1 rfl 1 rfl rfl ?_
  refine ea_iload_n (pc' := 3) (i := 2) dX6_time_2 rfl 2 rfl rfl ?_
  refine ea_cvi (As := [.int l1, .int l2]) (st := []) (d := d) (pc' := 6) mv_X6_isAhead ml_X6_190 kok_30 hVl0 rfl rfl dX6_time_3 rfl (Nat.le_of_ble_eq_true rfl) (ev_room (by decide)) ⟨Nat.le_refl _, Nat.le_refl _⟩ h rfl (fun r1 S2 h => ?_)
  refine ea_if_eq (tgt := 18) (pc' := 9) dX6_time_6 (by decide) rfl (fun hc => ?_) (fun hc => ?_)
  · replace h := h.1 hc
    refine ea_ldc (v := (-1000000)) (pc' := 20) dX6_time_18 kc_X6_199 rfl ?_
    exact ea_iret rfl dX6_time_20 ⟨_, rfl, h⟩
  · replace h := h.2 hc
    refine ea_iload_n (pc' := 10) (i := 3) dX6_time_9 rfl 3 rfl rfl ?_
    refine ea_iconst (v := 0) (pc' := 11) dX6_time_10 (by decide) rfl ?_
    refine ea_iconst (v := 1) (pc' := 12) dX6_time_11 (by decide) rfl ?_
    refine ea_csi (As := [.int l3, .int 0, .int 1]) (st := []) (d := d) (pc' := 15) mv_X6_in ml_X6_62 rfl dX6_time_12 rfl (Nat.le_of_ble_eq_true rfl) (ev_room (by decide)) ⟨Nat.le_refl _, Nat.le_refl _⟩ h rfl (fun r3 S4 h => ?_)
    refine ea_if_ne (tgt := 21) (pc' := 18) dX6_time_15 (by decide) rfl (fun hc => ?_) (fun hc => ?_)
    · replace h := h.1 hc
      refine ea_aload_n (pc' := 22) (i := 0) dX6_time_21 rfl 0 rfl rfl ?_
      refine ea_iload_n (pc' := 23) (i := 1) dX6_time_22 rfl 1 rfl rfl ?_
      refine ea_cvi (As := [.int l1]) (st := []) (d := d) (pc' := 26) mv_X6_plans ml_X6_180 kok_30 hVl0 rfl rfl dX6_time_23 rfl (Nat.le_of_ble_eq_true rfl) (ev_room (by decide)) ⟨Nat.le_refl _, Nat.le_refl _⟩ h rfl (fun r5 S6 h => ?_)
      refine ea_if_eq (tgt := 46) (pc' := 29) dX6_time_26 (by decide) rfl (fun hc => ?_) (fun hc => ?_)
      · replace h := h.1 hc
        refine ea_ldc (v := (-2000000)) (pc' := 48) dX6_time_46 kc_X6_204 rfl ?_
        exact ea_iret rfl dX6_time_48 ⟨_, rfl, h⟩
      · replace h := h.2 hc
        refine ea_aload_n (pc' := 30) (i := 0) dX6_time_29 rfl 0 rfl rfl ?_
        refine ea_iload_n (pc' := 31) (i := 2) dX6_time_30 rfl 2 rfl rfl ?_
        refine ea_cvl (As := [.int l2]) (st := []) (d := d) (pc' := 34) mv_X6_timeTimes ml_X6_187 kok_30 hVl0 rfl rfl dX6_time_31 rfl (Nat.le_of_ble_eq_true rfl) (ev_room (by decide)) ⟨Nat.le_refl _, Nat.le_refl _⟩ h rfl (fun r7 S8 h => ?_)
        refine ea_aload_n (pc' := 35) (i := 0) dX6_time_34 rfl 0 rfl rfl ?_
        refine ea_iload_n (pc' := 36) (i := 2) dX6_time_35 rfl 2 rfl rfl ?_
        refine ea_cvl (As := [.int l2]) (st := [.long r7]) (d := d) (pc' := 39) mv_X6_milesAt ml_X6_183 kok_30 hVl0 rfl rfl dX6_time_36 rfl (Nat.le_of_ble_eq_true rfl) (ev_room (by decide)) ⟨Nat.le_refl _, Nat.le_refl _⟩ h rfl (fun r9 S10 h => ?_)
        refine ea_iload_n (pc' := 40) (i := 3) dX6_time_39 rfl 3 rfl rfl ?_
        refine ea_csi (As := [.long r7, .long r9, .int l3]) (st := []) (d := d) (pc' := 43) mv_X6_lowest ml_X6_200 rfl dX6_time_40 rfl (Nat.le_of_ble_eq_true rfl) (ev_room (by decide)) ⟨Nat.le_refl _, Nat.le_refl _⟩ h rfl (fun r11 S12 h => ?_)
        refine ea_goto (tgt := 48) dX6_time_43 (by decide) ?_
        exact ea_iret rfl dX6_time_48 ⟨_, rfl, h⟩
    · replace h := h.2 hc
      refine ea_ldc (v := (-1000000)) (pc' := 20) dX6_time_18 kc_X6_199 rfl ?_
      exact ea_iret rfl dX6_time_20 ⟨_, rfl, h⟩
theorem vm_X6_time {G : evG} {d : Nat} {q : Int32 → evS → Prop} {x0 : Nat} {l1 : Int32} {l2 : Int32} {l3 : Int32} {S : evS} (h : bk_X6_time_0 G d (evQI q) x0 l1 l2 l3 S) : evSp G yX6_time M_X6_time (d + 1) [.ref (evad G 30 x0), .int l1, .int l2, .int l3] S (evQI q) :=
  evSp.of (by decide +kernel) rfl (Nat.le_of_ble_eq_true rfl) h
abbrev bk_X6_lowest_0 (G : evG) (d : Nat) (Q : Option Value → evS → Prop) (l0 : Int64) (l2 : Int64) (l4 : Int32) (S : evS) : Prop := evAt G M_X6_lowest (evFm G (d + 1) Q) 0 [(0, .long l0), (2, .long l2), (4, .int l4)] [] S
set_option maxRecDepth 100000 in
set_option maxHeartbeats 4000000 in
theorem vb_X6_lowest_0 {G : evG} {d : Nat} {q : Int32 → evS → Prop} (hCl : evCl G) {l0 : Int64} {l2 : Int64} {l4 : Int32} {S : evS}
    (h : (evSp G yX6_common M_X6_common d [.long l0, .long l2] S (evQL fun r1 S2 => ((¬ l4 = 0 → (¬ r1 = 0 ∧ q ((l2 / r1).toInt32) S2)) ∧ (l4 = 0 → (¬ r1 = 0 ∧ q ((l0 / r1).toInt32) S2)))))) : bk_X6_lowest_0 G d (evQI q) l0 l2 l4 S := by
  refine ea_lload_n (pc' := 1) (i := 0) dX6_lowest_0 rfl 0 rfl rfl ?_
  refine ea_lload_n (pc' := 2) (i := 2) dX6_lowest_1 rfl 1 rfl rfl ?_
  refine ea_csl (As := [.long l0, .long l2]) (st := []) (d := d) (pc' := 5) mv_X6_common ml_X6_166 rfl dX6_lowest_2 rfl (Nat.le_of_ble_eq_true rfl) (ev_room (by decide)) ⟨Nat.le_refl _, Nat.le_refl _⟩ h rfl (fun r1 S2 h => ?_)
  refine ea_lstore (lv' := [(5, .long r1), (0, .long l0), (2, .long l2), (4, .int l4)]) (pc' := 7) dX6_lowest_5 (by decide) rfl rfl ?_
  refine ea_iload (pc' := 9) dX6_lowest_7 3 rfl rfl ?_
  refine ea_if_ne (tgt := 16) (pc' := 12) dX6_lowest_9 (by decide) rfl (fun hc => ?_) (fun hc => ?_)
  · replace h := h.1 hc
    refine ea_lload_n (pc' := 17) (i := 2) dX6_lowest_16 rfl 2 rfl rfl ?_
    refine ea_lload (pc' := 19) dX6_lowest_17 0 rfl rfl ?_
    obtain ⟨o3, h⟩ := h
    refine ea_ldiv (pc' := 20) dX6_lowest_19 o3 rfl ?_
    refine ea_l2i (pc' := 21) dX6_lowest_20 rfl ?_
    exact ea_iret rfl dX6_lowest_21 ⟨_, rfl, h⟩
  · replace h := h.2 hc
    refine ea_lload_n (pc' := 13) (i := 0) dX6_lowest_12 rfl 1 rfl rfl ?_
    refine ea_goto (tgt := 17) dX6_lowest_13 (by decide) ?_
    refine ea_lload (pc' := 19) dX6_lowest_17 0 rfl rfl ?_
    obtain ⟨o4, h⟩ := h
    refine ea_ldiv (pc' := 20) dX6_lowest_19 o4 rfl ?_
    refine ea_l2i (pc' := 21) dX6_lowest_20 rfl ?_
    exact ea_iret rfl dX6_lowest_21 ⟨_, rfl, h⟩
theorem vm_X6_lowest {G : evG} {d : Nat} {q : Int32 → evS → Prop} {l0 : Int64} {l2 : Int64} {l4 : Int32} {S : evS} (h : bk_X6_lowest_0 G d (evQI q) l0 l2 l4 S) : evSp G yX6_lowest M_X6_lowest (d + 1) [.long l0, .long l2, .int l4] S (evQI q) :=
  evSp.of (by decide +kernel) rfl (Nat.le_of_ble_eq_true rfl) h
abbrev bk_X6_common_0 (G : evG) (d : Nat) (Q : Option Value → evS → Prop) (l0 : Int64) (l2 : Int64) (S : evS) : Prop := evAt G M_X6_common (evFm G d Q) 0 [(0, .long l0), (2, .long l2)] [] S
abbrev bk_X6_common_12 (G : evG) (d : Nat) (Q : Option Value → evS → Prop) (l2 : Int64) (s0 : Int64) (S : evS) : Prop := evAt G M_X6_common (evFm G d Q) 12 [(2, .long l2)] [.long s0] S
abbrev bk_X6_common_17 (G : evG) (d : Nat) (Q : Option Value → evS → Prop) (l4 : Int64) (l6 : Int64) (S : evS) : Prop := evAt G M_X6_common (evFm G d Q) 17 [(4, .long l4), (6, .long l6)] [] S
set_option maxRecDepth 100000 in
set_option maxHeartbeats 4000000 in
theorem vb_X6_common_0 {G : evG} {d : Nat} {q : Int64 → evS → Prop} (hCl : evCl G) {l0 : Int64} {l2 : Int64} {S : evS}
    (h : ((0 ≤ l0 → bk_X6_common_12 G d (evQL q) l2 l0 S) ∧ (¬ 0 ≤ l0 → bk_X6_common_12 G d (evQL q) l2 (-l0) S))) : bk_X6_common_0 G d (evQL q) l0 l2 S := by
  refine ea_lload_n (pc' := 1) (i := 0) dX6_common_0 rfl 0 rfl rfl ?_
  refine ea_lconst (v := 0) (pc' := 2) dX6_common_1 (by decide) rfl ?_
  refine ea_lcmp_ge (tgt := 11) (pc1 := 3) (pc' := 6) dX6_common_2 rfl dX6_common_3 (by decide) rfl (fun hc => ?_) (fun hc => ?_)
  · replace h := h.1 hc
    refine ea_lload_n (pc' := 12) (i := 0) dX6_common_11 rfl 0 rfl rfl ?_
    refine ea_loc [1] rfl ?_
    exact h
  · replace h := h.2 hc
    refine ea_lload_n (pc' := 7) (i := 0) dX6_common_6 rfl 0 rfl rfl ?_
    refine ea_lneg (pc' := 8) dX6_common_7 rfl ?_
    refine ea_goto (tgt := 12) dX6_common_8 (by decide) ?_
    refine ea_loc [1] rfl ?_
    exact h
set_option maxRecDepth 100000 in
set_option maxHeartbeats 4000000 in
theorem vb_X6_common_12 {G : evG} {d : Nat} {q : Int64 → evS → Prop} (hCl : evCl G) {l2 : Int64} {s0 : Int64} {S : evS}
    (h : bk_X6_common_17 G d (evQL q) s0 l2 S) : bk_X6_common_12 G d (evQL q) l2 s0 S := by
  refine ea_lstore (lv' := [(4, .long s0), (2, .long l2)]) (pc' := 14) dX6_common_12 (by decide) rfl rfl ?_
  refine ea_lload_n (pc' := 15) (i := 2) dX6_common_14 rfl 1 rfl rfl ?_
  refine ea_lstore (lv' := [(6, .long l2), (4, .long s0), (2, .long l2)]) (pc' := 17) dX6_common_15 (by decide) rfl rfl ?_
  refine ea_loc [1, 0] rfl ?_
  exact h
set_option maxRecDepth 100000 in
set_option maxHeartbeats 4000000 in
theorem vb_X6_common_17 {G : evG} {d : Nat} {q : Int64 → evS → Prop} (hCl : evCl G) {l4 : Int64} {l6 : Int64} {S : evS}
    (h : ((l6 = 0 → q l4 S) ∧ (¬ l6 = 0 → (¬ l6 = 0 ∧ (∀ v2 : Int64, v2 = (l4 - l4 / l6 * l6) → bk_X6_common_17 G d (evQL q) l6 v2 S))))) : bk_X6_common_17 G d (evQL q) l4 l6 S := by
  refine ea_lload (pc' := 19) dX6_common_17 1 rfl rfl ?_
  refine ea_lconst (v := 0) (pc' := 20) dX6_common_19 (by decide) rfl ?_
  refine ea_lcmp_eq (tgt := 42) (pc1 := 21) (pc' := 24) dX6_common_20 rfl dX6_common_21 (by decide) rfl (fun hc => ?_) (fun hc => ?_)
  · replace h := h.1 hc
    refine ea_lload (pc' := 44) dX6_common_42 0 rfl rfl ?_
    exact ea_lret rfl dX6_common_44 ⟨_, rfl, h⟩
  · replace h := h.2 hc
    refine ea_lload (pc' := 26) dX6_common_24 0 rfl rfl ?_
    refine ea_lload (pc' := 28) dX6_common_26 1 rfl rfl ?_
    obtain ⟨o1, h⟩ := h
    refine ea_lrem (pc' := 29) dX6_common_28 o1 rfl ?_
    refine ea_topl (fun v2 hv2 => ?_)
    replace h := h v2 hv2
    refine ea_lstore (lv' := [(8, .long v2), (4, .long l4), (6, .long l6)]) (pc' := 31) dX6_common_29 (by decide) rfl rfl ?_
    refine ea_lload (pc' := 33) dX6_common_31 2 rfl rfl ?_
    refine ea_lstore (lv' := [(4, .long l6), (8, .long v2), (6, .long l6)]) (pc' := 35) dX6_common_33 (by decide) rfl rfl ?_
    refine ea_lload (pc' := 37) dX6_common_35 1 rfl rfl ?_
    refine ea_lstore (lv' := [(6, .long v2), (4, .long l6), (8, .long v2)]) (pc' := 39) dX6_common_37 (by decide) rfl rfl ?_
    refine ea_goto (tgt := 17) dX6_common_39 (by decide) ?_
    refine ea_loc [1, 0] rfl ?_
    exact h
theorem vm_X6_common {G : evG} {d : Nat} {q : Int64 → evS → Prop} {l0 : Int64} {l2 : Int64} {S : evS} (h : bk_X6_common_0 G d (evQL q) l0 l2 S) : evSp G yX6_common M_X6_common d [.long l0, .long l2] S (evQL q) :=
  evSp.of (by decide +kernel) rfl (Nat.le_of_ble_eq_true rfl) h
abbrev bk_X6_speed_0 (G : evG) (d : Nat) (Q : Option Value → evS → Prop) (x0 : Nat) (l1 : Int32) (l2 : Int32) (l3 : Int32) (S : evS) : Prop := evAt G M_X6_speed (evFm G (d + 1) Q) 0 [(0, .ref (evad G 30 x0)), (1, .int l1), (2, .int l2), (3, .int l3)] [] S
set_option maxRecDepth 100000 in
set_option maxHeartbeats 4000000 in
theorem vb_X6_speed_0 {G : evG} {d : Nat} {q : Int32 → evS → Prop} (hCl : evCl G) {x0 : Nat} {l1 : Int32} {l2 : Int32} {l3 : Int32} {S : evS} (hVl0 : (30, x0) ∈ evKs G)
    (h : (evSp G yX6_isAhead M_X6_isAhead d [.ref (evad G 30 x0), .int l1, .int (l2 + 1)] S (evQI fun r1 S2 => ((r1 = 0 → q (-1000000) S2) ∧ (¬ r1 = 0 → (evSp G yX6_in M_X6_in d [.int l3, .int 0, .int 1] S2 (evQI fun r3 S4 => ((¬ r3 = 0 → (evSp G yX6_plans M_X6_plans d [.ref (evad G 30 x0), .int l1] S4 (evQI fun r5 S6 => ((¬ r5 = 0 → (evSp G yX6_markAhead M_X6_markAhead d [.ref (evad G 30 x0), .int l2] S6 (evQI fun r7 S8 => (evSp G yX6_markBehind M_X6_markBehind d [.ref (evad G 30 x0), .int r7] S8 (evQI fun r9 S10 => (vp_in r9 7 ∧ (vp_in r7 7 ∧ (vp_in r9 7 ∧ (vp_in r7 7 ∧ (evSp G yX6_lowest M_X6_lowest d [.long ((S10.1 49 0 r9.toNatClampNeg) - (S10.1 49 0 r7.toNatClampNeg)).toInt64, .long ((S10.2 54 0 r9.toNatClampNeg) - (S10.2 54 0 r7.toNatClampNeg)), .int l3] S10 (evQI fun r15 S16 => q r15 S16))))))))))) ∧ (r5 = 0 → q (-2000000) S6))))) ∧ (r3 = 0 → q (-1000000) S4))))))))) : bk_X6_speed_0 G d (evQI q) x0 l1 l2 l3 S := by
  refine ea_aload_n (pc' := 1) (i := 0) dX6_speed_0 rfl 0 rfl rfl ?_
  refine ea_iload_n (pc' := 2) (i := 1) dX6_speed_1 rfl 1 rfl rfl ?_
  refine ea_iload_n (pc' := 3) (i := 2) dX6_speed_2 rfl 2 rfl rfl ?_
  refine ea_iconst (v := 1) (pc' := 4) dX6_speed_3 (by decide) rfl ?_
  refine ea_iadd (pc' := 5) dX6_speed_4 rfl ?_
  refine ea_cvi (As := [.int l1, .int (l2 + 1)]) (st := []) (d := d) (pc' := 8) mv_X6_isAhead ml_X6_190 kok_30 hVl0 rfl rfl dX6_speed_5 rfl (Nat.le_of_ble_eq_true rfl) (ev_room (by decide)) ⟨Nat.le_refl _, Nat.le_refl _⟩ h rfl (fun r1 S2 h => ?_)
  refine ea_if_eq (tgt := 20) (pc' := 11) dX6_speed_8 (by decide) rfl (fun hc => ?_) (fun hc => ?_)
  · replace h := h.1 hc
    refine ea_ldc (v := (-1000000)) (pc' := 22) dX6_speed_20 kc_X6_199 rfl ?_
    exact ea_iret rfl dX6_speed_22 ⟨_, rfl, h⟩
  · replace h := h.2 hc
    refine ea_iload_n (pc' := 12) (i := 3) dX6_speed_11 rfl 3 rfl rfl ?_
    refine ea_iconst (v := 0) (pc' := 13) dX6_speed_12 (by decide) rfl ?_
    refine ea_iconst (v := 1) (pc' := 14) dX6_speed_13 (by decide) rfl ?_
    refine ea_csi (As := [.int l3, .int 0, .int 1]) (st := []) (d := d) (pc' := 17) mv_X6_in ml_X6_62 rfl dX6_speed_14 rfl (Nat.le_of_ble_eq_true rfl) (ev_room (by decide)) ⟨Nat.le_refl _, Nat.le_refl _⟩ h rfl (fun r3 S4 h => ?_)
    refine ea_if_ne (tgt := 23) (pc' := 20) dX6_speed_17 (by decide) rfl (fun hc => ?_) (fun hc => ?_)
    · replace h := h.1 hc
      refine ea_aload_n (pc' := 24) (i := 0) dX6_speed_23 rfl 0 rfl rfl ?_
      refine ea_iload_n (pc' := 25) (i := 1) dX6_speed_24 rfl 1 rfl rfl ?_
      refine ea_cvi (As := [.int l1]) (st := []) (d := d) (pc' := 28) mv_X6_plans ml_X6_180 kok_30 hVl0 rfl rfl dX6_speed_25 rfl (Nat.le_of_ble_eq_true rfl) (ev_room (by decide)) ⟨Nat.le_refl _, Nat.le_refl _⟩ h rfl (fun r5 S6 h => ?_)
      refine ea_if_ne (tgt := 34) (pc' := 31) dX6_speed_28 (by decide) rfl (fun hc => ?_) (fun hc => ?_)
      · replace h := h.1 hc
        refine ea_aload_n (pc' := 35) (i := 0) dX6_speed_34 rfl 0 rfl rfl ?_
        refine ea_iload_n (pc' := 36) (i := 2) dX6_speed_35 rfl 2 rfl rfl ?_
        refine ea_cvi (As := [.int l2]) (st := []) (d := d) (pc' := 39) mv_X6_markAhead ml_X6_170 kok_30 hVl0 rfl rfl dX6_speed_36 rfl (Nat.le_of_ble_eq_true rfl) (ev_room (by decide)) ⟨Nat.le_refl _, Nat.le_refl _⟩ h rfl (fun r7 S8 h => ?_)
        refine ea_istore (lv' := [(4, .int r7), (0, .ref (evad G 30 x0)), (1, .int l1), (2, .int l2), (3, .int l3)]) (pc' := 41) dX6_speed_39 (by decide) rfl rfl ?_
        refine ea_aload_n (pc' := 42) (i := 0) dX6_speed_41 rfl 1 rfl rfl ?_
        refine ea_iload (pc' := 44) dX6_speed_42 0 rfl rfl ?_
        refine ea_cvi (As := [.int r7]) (st := []) (d := d) (pc' := 47) mv_X6_markBehind ml_X6_149 kok_30 hVl0 rfl rfl dX6_speed_44 rfl (Nat.le_of_ble_eq_true rfl) (ev_room (by decide)) ⟨Nat.le_refl _, Nat.le_refl _⟩ h rfl (fun r9 S10 h => ?_)
        refine ea_istore (lv' := [(5, .int r9), (4, .int r7), (0, .ref (evad G 30 x0)), (1, .int l1), (2, .int l2), (3, .int l3)]) (pc' := 49) dX6_speed_47 (by decide) rfl rfl ?_
        refine ea_aload_n (pc' := 50) (i := 0) dX6_speed_49 rfl 2 rfl rfl ?_
        refine ea_getr (k2 := 49) (x2 := 0) (kf := 18) (pc' := 53) kok_30 hVl0 (by decide) rfl fl_X6_32 rfl dX6_speed_50 rfl ?_
        refine ea_iload (pc' := 55) dX6_speed_53 0 rfl rfl ?_
        obtain ⟨o11, h⟩ := h
        refine ea_iald (j := r9.toNatClampNeg) (pc' := 56) (hCl.1 30 x0 18 49 hVl0 rfl) rfl o11 dX6_speed_55 rfl rfl ?_
        refine ea_aload_n (pc' := 57) (i := 0) dX6_speed_56 rfl 2 rfl rfl ?_
        refine ea_getr (k2 := 49) (x2 := 0) (kf := 18) (pc' := 60) kok_30 hVl0 (by decide) rfl fl_X6_32 rfl dX6_speed_57 rfl ?_
        refine ea_iload (pc' := 62) dX6_speed_60 1 rfl rfl ?_
        obtain ⟨o12, h⟩ := h
        refine ea_iald (j := r7.toNatClampNeg) (pc' := 63) (hCl.1 30 x0 18 49 hVl0 rfl) rfl o12 dX6_speed_62 rfl rfl ?_
        refine ea_isub (pc' := 64) dX6_speed_63 rfl ?_
        refine ea_i2l (pc' := 65) dX6_speed_64 rfl ?_
        refine ea_aload_n (pc' := 66) (i := 0) dX6_speed_65 rfl 2 rfl rfl ?_
        refine ea_getr (k2 := 54) (x2 := 0) (kf := 23) (pc' := 69) kok_30 hVl0 (by decide) rfl fl_X6_47 rfl dX6_speed_66 rfl ?_
        refine ea_iload (pc' := 71) dX6_speed_69 0 rfl rfl ?_
        obtain ⟨o13, h⟩ := h
        refine ea_lald (j := r9.toNatClampNeg) (pc' := 72) (hCl.1 30 x0 23 54 hVl0 rfl) rfl o13 dX6_speed_71 rfl rfl ?_
        refine ea_aload_n (pc' := 73) (i := 0) dX6_speed_72 rfl 2 rfl rfl ?_
        refine ea_getr (k2 := 54) (x2 := 0) (kf := 23) (pc' := 76) kok_30 hVl0 (by decide) rfl fl_X6_47 rfl dX6_speed_73 rfl ?_
        refine ea_iload (pc' := 78) dX6_speed_76 1 rfl rfl ?_
        obtain ⟨o14, h⟩ := h
        refine ea_lald (j := r7.toNatClampNeg) (pc' := 79) (hCl.1 30 x0 23 54 hVl0 rfl) rfl o14 dX6_speed_78 rfl rfl ?_
        refine ea_lsub (pc' := 80) dX6_speed_79 rfl ?_
        refine ea_iload_n (pc' := 81) (i := 3) dX6_speed_80 rfl 5 rfl rfl ?_
        refine ea_csi (As := [.long ((S10.1 49 0 r9.toNatClampNeg) - (S10.1 49 0 r7.toNatClampNeg)).toInt64, .long ((S10.2 54 0 r9.toNatClampNeg) - (S10.2 54 0 r7.toNatClampNeg)), .int l3]) (st := []) (d := d) (pc' := 84) mv_X6_lowest ml_X6_200 rfl dX6_speed_81 rfl (Nat.le_of_ble_eq_true rfl) (ev_room (by decide)) ⟨Nat.le_refl _, Nat.le_refl _⟩ h rfl (fun r15 S16 h => ?_)
        exact ea_iret rfl dX6_speed_84 ⟨_, rfl, h⟩
      · replace h := h.2 hc
        refine ea_ldc (v := (-2000000)) (pc' := 33) dX6_speed_31 kc_X6_204 rfl ?_
        exact ea_iret rfl dX6_speed_33 ⟨_, rfl, h⟩
    · replace h := h.2 hc
      refine ea_ldc (v := (-1000000)) (pc' := 22) dX6_speed_20 kc_X6_199 rfl ?_
      exact ea_iret rfl dX6_speed_22 ⟨_, rfl, h⟩
theorem vm_X6_speed {G : evG} {d : Nat} {q : Int32 → evS → Prop} {x0 : Nat} {l1 : Int32} {l2 : Int32} {l3 : Int32} {S : evS} (h : bk_X6_speed_0 G d (evQI q) x0 l1 l2 l3 S) : evSp G yX6_speed M_X6_speed (d + 1) [.ref (evad G 30 x0), .int l1, .int l2, .int l3] S (evQI q) :=
  evSp.of (by decide +kernel) rfl (Nat.le_of_ble_eq_true rfl) h
abbrev bk_X6_closed_0 (G : evG) (d : Nat) (Q : Option Value → evS → Prop) (x0 : Nat) (l1 : Int32) (l2 : Int32) (S : evS) : Prop := evAt G M_X6_closed (evFm G (d + 1) Q) 0 [(0, .ref (evad G 30 x0)), (1, .int l1), (2, .int l2)] [] S
set_option maxRecDepth 100000 in
set_option maxHeartbeats 4000000 in
theorem vb_X6_closed_0 {G : evG} {d : Nat} {q : Int32 → evS → Prop} (hCl : evCl G) {x0 : Nat} {l1 : Int32} {l2 : Int32} {S : evS} (hVl0 : (30, x0) ∈ evKs G)
    (h : (evSp G yX6_isAhead M_X6_isAhead d [.ref (evad G 30 x0), .int l1, .int l2] S (evQI fun r1 S2 => ((¬ r1 = 0 → (evSp G yX6_plans M_X6_plans d [.ref (evad G 30 x0), .int l1] S2 (evQI fun r3 S4 => ((¬ r3 = 0 → (vp_in l2 7 ∧ ((¬ (S4.1 53 0 l2.toNatClampNeg) = 3 → (vp_in l2 7 ∧ q (S4.1 53 0 l2.toNatClampNeg) S4)) ∧ ((S4.1 53 0 l2.toNatClampNeg) = 3 → q 0 S4)))) ∧ (r3 = 0 → q (-9) S4))))) ∧ (r1 = 0 → q (-1) S2))))) : bk_X6_closed_0 G d (evQI q) x0 l1 l2 S := by
  refine ea_aload_n (pc' := 1) (i := 0) dX6_closed_0 rfl 0 rfl rfl ?_
  refine ea_iload_n (pc' := 2) (i := 1) dX6_closed_1 rfl 1 rfl rfl ?_
  refine ea_iload_n (pc' := 3) (i := 2) dX6_closed_2 rfl 2 rfl rfl ?_
  refine ea_cvi (As := [.int l1, .int l2]) (st := []) (d := d) (pc' := 6) mv_X6_isAhead ml_X6_190 kok_30 hVl0 rfl rfl dX6_closed_3 rfl (Nat.le_of_ble_eq_true rfl) (ev_room (by decide)) ⟨Nat.le_refl _, Nat.le_refl _⟩ h rfl (fun r1 S2 h => ?_)
  refine ea_if_ne (tgt := 11) (pc' := 9) dX6_closed_6 (by decide) rfl (fun hc => ?_) (fun hc => ?_)
  · replace h := h.1 hc
    refine ea_aload_n (pc' := 12) (i := 0) dX6_closed_11 rfl 0 rfl rfl ?_
    refine ea_iload_n (pc' := 13) (i := 1) dX6_closed_12 rfl 1 rfl rfl ?_
    refine ea_cvi (As := [.int l1]) (st := []) (d := d) (pc' := 16) mv_X6_plans ml_X6_180 kok_30 hVl0 rfl rfl dX6_closed_13 rfl (Nat.le_of_ble_eq_true rfl) (ev_room (by decide)) ⟨Nat.le_refl _, Nat.le_refl _⟩ h rfl (fun r3 S4 h => ?_)
    refine ea_if_ne (tgt := 24) (pc' := 19) dX6_closed_16 (by decide) rfl (fun hc => ?_) (fun hc => ?_)
    · replace h := h.1 hc
      refine ea_aload_n (pc' := 25) (i := 0) dX6_closed_24 rfl 0 rfl rfl ?_
      refine ea_getr (k2 := 53) (x2 := 0) (kf := 22) (pc' := 28) kok_30 hVl0 (by decide) rfl fl_X6_44 rfl dX6_closed_25 rfl ?_
      refine ea_iload_n (pc' := 29) (i := 2) dX6_closed_28 rfl 2 rfl rfl ?_
      obtain ⟨o5, h⟩ := h
      refine ea_iald (j := l2.toNatClampNeg) (pc' := 30) (hCl.1 30 x0 22 53 hVl0 rfl) rfl o5 dX6_closed_29 rfl rfl ?_
      refine ea_iconst (v := 3) (pc' := 31) dX6_closed_30 (by decide) rfl ?_
      refine ea_icmp_ne (tgt := 38) (pc' := 34) dX6_closed_31 (by decide) rfl (fun hc => ?_) (fun hc => ?_)
      · replace h := h.1 hc
        refine ea_aload_n (pc' := 39) (i := 0) dX6_closed_38 rfl 0 rfl rfl ?_
        refine ea_getr (k2 := 53) (x2 := 0) (kf := 22) (pc' := 42) kok_30 hVl0 (by decide) rfl fl_X6_44 rfl dX6_closed_39 rfl ?_
        refine ea_iload_n (pc' := 43) (i := 2) dX6_closed_42 rfl 2 rfl rfl ?_
        obtain ⟨o6, h⟩ := h
        refine ea_iald (j := l2.toNatClampNeg) (pc' := 44) (hCl.1 30 x0 22 53 hVl0 rfl) rfl o6 dX6_closed_43 rfl rfl ?_
        exact ea_iret rfl dX6_closed_44 ⟨_, rfl, h⟩
      · replace h := h.2 hc
        refine ea_iconst (v := 0) (pc' := 35) dX6_closed_34 (by decide) rfl ?_
        refine ea_goto (tgt := 44) dX6_closed_35 (by decide) ?_
        exact ea_iret rfl dX6_closed_44 ⟨_, rfl, h⟩
    · replace h := h.2 hc
      refine ea_bipush (v := (-9)) (pc' := 21) dX6_closed_19 (by decide) rfl ?_
      refine ea_goto (tgt := 44) dX6_closed_21 (by decide) ?_
      exact ea_iret rfl dX6_closed_44 ⟨_, rfl, h⟩
  · replace h := h.2 hc
    refine ea_iconst (v := (-1)) (pc' := 10) dX6_closed_9 (by decide) rfl ?_
    exact ea_iret rfl dX6_closed_10 ⟨_, rfl, h⟩
theorem vm_X6_closed {G : evG} {d : Nat} {q : Int32 → evS → Prop} {x0 : Nat} {l1 : Int32} {l2 : Int32} {S : evS} (h : bk_X6_closed_0 G d (evQI q) x0 l1 l2 S) : evSp G yX6_closed M_X6_closed (d + 1) [.ref (evad G 30 x0), .int l1, .int l2] S (evQI q) :=
  evSp.of (by decide +kernel) rfl (Nat.le_of_ble_eq_true rfl) h
abbrev bk_X6_cost_0 (G : evG) (d : Nat) (Q : Option Value → evS → Prop) (x0 : Nat) (l1 : Int32) (l2 : Int32) (S : evS) : Prop := evAt G M_X6_cost (evFm G (d + 1) Q) 0 [(0, .ref (evad G 30 x0)), (1, .int l1), (2, .int l2)] [] S
set_option maxRecDepth 100000 in
set_option maxHeartbeats 4000000 in
theorem vb_X6_cost_0 {G : evG} {d : Nat} {q : Int32 → evS → Prop} (hCl : evCl G) {x0 : Nat} {l1 : Int32} {l2 : Int32} {S : evS} (hVl0 : (30, x0) ∈ evKs G)
    (h : (evSp G yX6_isAhead M_X6_isAhead d [.ref (evad G 30 x0), .int l1, .int (l2 + 1)] S (evQI fun r1 S2 => ((¬ r1 = 0 → (evSp G yX6_plans M_X6_plans d [.ref (evad G 30 x0), .int l1] S2 (evQI fun r3 S4 => ((r3 = 0 → q (-9) S4) ∧ (¬ r3 = 0 → (evSp G yX6_costOf M_X6_costOf d [.ref (evad G 30 x0), .int l2] S4 (evQI fun r5 S6 => q r5 S6))))))) ∧ (r1 = 0 → q (-1) S2))))) : bk_X6_cost_0 G d (evQI q) x0 l1 l2 S := by
  refine ea_aload_n (pc' := 1) (i := 0) dX6_cost_0 rfl 0 rfl rfl ?_
  refine ea_iload_n (pc' := 2) (i := 1) dX6_cost_1 rfl 1 rfl rfl ?_
  refine ea_iload_n (pc' := 3) (i := 2) dX6_cost_2 rfl 2 rfl rfl ?_
  refine ea_iconst (v := 1) (pc' := 4) dX6_cost_3 (by decide) rfl ?_
  refine ea_iadd (pc' := 5) dX6_cost_4 rfl ?_
  refine ea_cvi (As := [.int l1, .int (l2 + 1)]) (st := []) (d := d) (pc' := 8) mv_X6_isAhead ml_X6_190 kok_30 hVl0 rfl rfl dX6_cost_5 rfl (Nat.le_of_ble_eq_true rfl) (ev_room (by decide)) ⟨Nat.le_refl _, Nat.le_refl _⟩ h rfl (fun r1 S2 h => ?_)
  refine ea_if_ne (tgt := 13) (pc' := 11) dX6_cost_8 (by decide) rfl (fun hc => ?_) (fun hc => ?_)
  · replace h := h.1 hc
    refine ea_aload_n (pc' := 14) (i := 0) dX6_cost_13 rfl 0 rfl rfl ?_
    refine ea_iload_n (pc' := 15) (i := 1) dX6_cost_14 rfl 1 rfl rfl ?_
    refine ea_cvi (As := [.int l1]) (st := []) (d := d) (pc' := 18) mv_X6_plans ml_X6_180 kok_30 hVl0 rfl rfl dX6_cost_15 rfl (Nat.le_of_ble_eq_true rfl) (ev_room (by decide)) ⟨Nat.le_refl _, Nat.le_refl _⟩ h rfl (fun r3 S4 h => ?_)
    refine ea_if_eq (tgt := 29) (pc' := 21) dX6_cost_18 (by decide) rfl (fun hc => ?_) (fun hc => ?_)
    · replace h := h.1 hc
      refine ea_bipush (v := (-9)) (pc' := 31) dX6_cost_29 (by decide) rfl ?_
      exact ea_iret rfl dX6_cost_31 ⟨_, rfl, h⟩
    · replace h := h.2 hc
      refine ea_aload_n (pc' := 22) (i := 0) dX6_cost_21 rfl 0 rfl rfl ?_
      refine ea_iload_n (pc' := 23) (i := 2) dX6_cost_22 rfl 2 rfl rfl ?_
      refine ea_cvi (As := [.int l2]) (st := []) (d := d) (pc' := 26) mv_X6_costOf ml_X6_177 kok_30 hVl0 rfl rfl dX6_cost_23 rfl (Nat.le_of_ble_eq_true rfl) (ev_room (by decide)) ⟨Nat.le_refl _, Nat.le_refl _⟩ h rfl (fun r5 S6 h => ?_)
      refine ea_goto (tgt := 31) dX6_cost_26 (by decide) ?_
      exact ea_iret rfl dX6_cost_31 ⟨_, rfl, h⟩
  · replace h := h.2 hc
    refine ea_iconst (v := (-1)) (pc' := 12) dX6_cost_11 (by decide) rfl ?_
    exact ea_iret rfl dX6_cost_12 ⟨_, rfl, h⟩
theorem vm_X6_cost {G : evG} {d : Nat} {q : Int32 → evS → Prop} {x0 : Nat} {l1 : Int32} {l2 : Int32} {S : evS} (h : bk_X6_cost_0 G d (evQI q) x0 l1 l2 S) : evSp G yX6_cost M_X6_cost (d + 1) [.ref (evad G 30 x0), .int l1, .int l2] S (evQI q) :=
  evSp.of (by decide +kernel) rfl (Nat.le_of_ble_eq_true rfl) h
abbrev bk_X6_slack_0 (G : evG) (d : Nat) (Q : Option Value → evS → Prop) (x0 : Nat) (l1 : Int32) (S : evS) : Prop := evAt G M_X6_slack (evFm G (d + 1) Q) 0 [(0, .ref (evad G 30 x0)), (1, .int l1)] [] S
abbrev bk_X6_slack_12 (G : evG) (d : Nat) (Q : Option Value → evS → Prop) (x0 : Nat) (l1 : Int32) (l2 : Int32) (S : evS) : Prop := evAt G M_X6_slack (evFm G (d + 1) Q) 12 [(0, .ref (evad G 30 x0)), (1, .int l1), (2, .int l2)] [] S
set_option maxRecDepth 100000 in
set_option maxHeartbeats 4000000 in
theorem vb_X6_slack_0 {G : evG} {d : Nat} {q : Int32 → evS → Prop} (hCl : evCl G) {x0 : Nat} {l1 : Int32} {S : evS} (hVl0 : (30, x0) ∈ evKs G)
    (h : (evSp G yX6_isShip M_X6_isShip d [.int l1] S (evQI fun r1 S2 => ((¬ r1 = 0 → bk_X6_slack_12 G d (evQI q) x0 l1 99 S2) ∧ (r1 = 0 → q (-1) S2))))) : bk_X6_slack_0 G d (evQI q) x0 l1 S := by
  refine ea_iload_n (pc' := 1) (i := 1) dX6_slack_0 rfl 1 rfl rfl ?_
  refine ea_csi (As := [.int l1]) (st := []) (d := d) (pc' := 4) mv_X6_isShip ml_X6_115 rfl dX6_slack_1 rfl (Nat.le_of_ble_eq_true rfl) (ev_room (by decide)) ⟨Nat.le_refl _, Nat.le_refl _⟩ h rfl (fun r1 S2 h => ?_)
  refine ea_if_ne (tgt := 9) (pc' := 7) dX6_slack_4 (by decide) rfl (fun hc => ?_) (fun hc => ?_)
  · replace h := h.1 hc
    refine ea_bipush (v := 99) (pc' := 11) dX6_slack_9 (by decide) rfl ?_
    refine ea_istore_n (lv' := [(2, .int 99), (0, .ref (evad G 30 x0)), (1, .int l1)]) (pc' := 12) dX6_slack_11 rfl (by decide) rfl rfl ?_
    refine ea_loc [1, 2, 0] rfl ?_
    exact h
  · replace h := h.2 hc
    refine ea_iconst (v := (-1)) (pc' := 8) dX6_slack_7 (by decide) rfl ?_
    exact ea_iret rfl dX6_slack_8 ⟨_, rfl, h⟩
set_option maxRecDepth 100000 in
set_option maxHeartbeats 4000000 in
theorem vb_X6_slack_12 {G : evG} {d : Nat} {q : Int32 → evS → Prop} (hCl : evCl G) {x0 : Nat} {l1 : Int32} {l2 : Int32} {S : evS} (hVl0 : (30, x0) ∈ evKs G)
    (h : ((l2 < 0 → q (-9) S) ∧ (¬ l2 < 0 → (evSp G yX6_lays M_X6_lays d [.ref (evad G 30 x0), .int l1, .int l2, .int 0, .int 0] S (evQV fun S1 => (evSp G yX6_hasPlan M_X6_hasPlan d [.ref (evad G 30 x0)] S1 (evQI fun r2 S3 => ((r2 = 0 → (∀ v4 : Int32, v4 = (l2 + (-1)) → bk_X6_slack_12 G d (evQI q) x0 l1 v4 S3)) ∧ (¬ r2 = 0 → q l2 S3))))))))) : bk_X6_slack_12 G d (evQI q) x0 l1 l2 S := by
  refine ea_iload_n (pc' := 13) (i := 2) dX6_slack_12 rfl 2 rfl rfl ?_
  refine ea_if_lt (tgt := 39) (pc' := 16) dX6_slack_13 (by decide) rfl (fun hc => ?_) (fun hc => ?_)
  · replace h := h.1 hc
    refine ea_bipush (v := (-9)) (pc' := 41) dX6_slack_39 (by decide) rfl ?_
    exact ea_iret rfl dX6_slack_41 ⟨_, rfl, h⟩
  · replace h := h.2 hc
    refine ea_aload_n (pc' := 17) (i := 0) dX6_slack_16 rfl 0 rfl rfl ?_
    refine ea_iload_n (pc' := 18) (i := 1) dX6_slack_17 rfl 1 rfl rfl ?_
    refine ea_iload_n (pc' := 19) (i := 2) dX6_slack_18 rfl 2 rfl rfl ?_
    refine ea_iconst (v := 0) (pc' := 20) dX6_slack_19 (by decide) rfl ?_
    refine ea_iconst (v := 0) (pc' := 21) dX6_slack_20 (by decide) rfl ?_
    refine ea_cvv (As := [.int l1, .int l2, .int 0, .int 0]) (st := []) (d := d) (pc' := 24) mv_X6_lays ml_X6_159 kok_30 hVl0 rfl rfl dX6_slack_21 rfl (Nat.le_of_ble_eq_true rfl) (ev_room (by decide)) ⟨Nat.le_refl _, Nat.le_refl _⟩ h rfl (fun S1 h => ?_)
    refine ea_aload_n (pc' := 25) (i := 0) dX6_slack_24 rfl 0 rfl rfl ?_
    refine ea_cvi (As := []) (st := []) (d := d) (pc' := 28) mv_X6_hasPlan ml_X6_163 kok_30 hVl0 rfl rfl dX6_slack_25 rfl (Nat.le_of_ble_eq_true rfl) (ev_room (by decide)) ⟨Nat.le_refl _, Nat.le_refl _⟩ h rfl (fun r2 S3 h => ?_)
    refine ea_if_eq (tgt := 33) (pc' := 31) dX6_slack_28 (by decide) rfl (fun hc => ?_) (fun hc => ?_)
    · replace h := h.1 hc
      obtain ⟨v4, hv4⟩ : ∃ z : Int32, z = (l2 + (-1)) := ⟨_, rfl⟩
      replace h := h v4 hv4
      refine ea_iinc (q := 2) (v := v4) (lv' := [(2, .int v4), (0, .ref (evad G 30 x0)), (1, .int l1)]) (pc' := 36) dX6_slack_33 rfl (by rw [hv4]; rfl) (by decide) rfl rfl ?_
      refine ea_goto (tgt := 12) dX6_slack_36 (by decide) ?_
      refine ea_loc [1, 2, 0] rfl ?_
      exact h
    · replace h := h.2 hc
      refine ea_iload_n (pc' := 32) (i := 2) dX6_slack_31 rfl 2 rfl rfl ?_
      exact ea_iret rfl dX6_slack_32 ⟨_, rfl, h⟩
theorem vm_X6_slack {G : evG} {d : Nat} {q : Int32 → evS → Prop} {x0 : Nat} {l1 : Int32} {S : evS} (h : bk_X6_slack_0 G d (evQI q) x0 l1 S) : evSp G yX6_slack M_X6_slack (d + 1) [.ref (evad G 30 x0), .int l1] S (evQI q) :=
  evSp.of (by decide +kernel) rfl (Nat.le_of_ble_eq_true rfl) h
abbrev bk_X6_needs_0 (G : evG) (d : Nat) (Q : Option Value → evS → Prop) (x0 : Nat) (l1 : Int32) (S : evS) : Prop := evAt G M_X6_needs (evFm G (d + 1) Q) 0 [(0, .ref (evad G 30 x0)), (1, .int l1)] [] S
set_option maxRecDepth 100000 in
set_option maxHeartbeats 4000000 in
theorem vb_X6_needs_0 {G : evG} {d : Nat} {q : Int32 → evS → Prop} (hCl : evCl G) {x0 : Nat} {l1 : Int32} {S : evS} (hVl0 : (30, x0) ∈ evKs G)
    (h : (evSp G yX6_isShip M_X6_isShip d [.int l1] S (evQI fun r1 S2 => ((¬ r1 = 0 → (evSp G yX6_lays M_X6_lays d [.ref (evad G 30 x0), .int l1, .int 0, .int 0, .int 0] S2 (evQV fun S3 => (evSp G yX6_fastNeeded M_X6_fastNeeded d [.ref (evad G 30 x0)] S3 (evQI fun r4 S5 => q r4 S5))))) ∧ (r1 = 0 → q (-1) S2))))) : bk_X6_needs_0 G d (evQI q) x0 l1 S := by
  refine ea_iload_n (pc' := 1) (i := 1) dX6_needs_0 rfl 1 rfl rfl ?_
  refine ea_csi (As := [.int l1]) (st := []) (d := d) (pc' := 4) mv_X6_isShip ml_X6_115 rfl dX6_needs_1 rfl (Nat.le_of_ble_eq_true rfl) (ev_room (by decide)) ⟨Nat.le_refl _, Nat.le_refl _⟩ h rfl (fun r1 S2 h => ?_)
  refine ea_if_ne (tgt := 9) (pc' := 7) dX6_needs_4 (by decide) rfl (fun hc => ?_) (fun hc => ?_)
  · replace h := h.1 hc
    refine ea_aload_n (pc' := 10) (i := 0) dX6_needs_9 rfl 0 rfl rfl ?_
    refine ea_iload_n (pc' := 11) (i := 1) dX6_needs_10 rfl 1 rfl rfl ?_
    refine ea_iconst (v := 0) (pc' := 12) dX6_needs_11 (by decide) rfl ?_
    refine ea_iconst (v := 0) (pc' := 13) dX6_needs_12 (by decide) rfl ?_
    refine ea_iconst (v := 0) (pc' := 14) dX6_needs_13 (by decide) rfl ?_
    refine ea_cvv (As := [.int l1, .int 0, .int 0, .int 0]) (st := []) (d := d) (pc' := 17) mv_X6_lays ml_X6_159 kok_30 hVl0 rfl rfl dX6_needs_14 rfl (Nat.le_of_ble_eq_true rfl) (ev_room (by decide)) ⟨Nat.le_refl _, Nat.le_refl _⟩ h rfl (fun S3 h => ?_)
    refine ea_aload_n (pc' := 18) (i := 0) dX6_needs_17 rfl 0 rfl rfl ?_
    refine ea_cvi (As := []) (st := []) (d := d) (pc' := 21) mv_X6_fastNeeded ml_X6_156 kok_30 hVl0 rfl rfl dX6_needs_18 rfl (Nat.le_of_ble_eq_true rfl) (ev_room (by decide)) ⟨Nat.le_refl _, Nat.le_refl _⟩ h rfl (fun r4 S5 h => ?_)
    exact ea_iret rfl dX6_needs_21 ⟨_, rfl, h⟩
  · replace h := h.2 hc
    refine ea_iconst (v := (-1)) (pc' := 8) dX6_needs_7 (by decide) rfl ?_
    exact ea_iret rfl dX6_needs_8 ⟨_, rfl, h⟩
theorem vm_X6_needs {G : evG} {d : Nat} {q : Int32 → evS → Prop} {x0 : Nat} {l1 : Int32} {S : evS} (h : bk_X6_needs_0 G d (evQI q) x0 l1 S) : evSp G yX6_needs M_X6_needs (d + 1) [.ref (evad G 30 x0), .int l1] S (evQI q) :=
  evSp.of (by decide +kernel) rfl (Nat.le_of_ble_eq_true rfl) h
abbrev bk_X6_eased_0 (G : evG) (d : Nat) (Q : Option Value → evS → Prop) (x0 : Nat) (l1 : Int32) (S : evS) : Prop := evAt G M_X6_eased (evFm G (d + 1) Q) 0 [(0, .ref (evad G 30 x0)), (1, .int l1)] [] S
abbrev bk_X6_eased_28 (G : evG) (d : Nat) (Q : Option Value → evS → Prop) (x0 : Nat) (l1 : Int32) (s0 : Int32) (S : evS) : Prop := evAt G M_X6_eased (evFm G (d + 1) Q) 28 [(0, .ref (evad G 30 x0)), (1, .int l1)] [.int s0] S
abbrev bk_X6_eased_43 (G : evG) (d : Nat) (Q : Option Value → evS → Prop) (x0 : Nat) (l1 : Int32) (l3 : Int32) (l4 : Int32) (l5 : Int32) (S : evS) : Prop := evAt G M_X6_eased (evFm G (d + 1) Q) 43 [(0, .ref (evad G 30 x0)), (1, .int l1), (3, .int l3), (4, .int l4), (5, .int l5)] [] S
abbrev bk_X6_eased_57 (G : evG) (d : Nat) (Q : Option Value → evS → Prop) (x0 : Nat) (l1 : Int32) (l3 : Int32) (l4 : Int32) (l5 : Int32) (l6 : Int32) (S : evS) : Prop := evAt G M_X6_eased (evFm G (d + 1) Q) 57 [(0, .ref (evad G 30 x0)), (1, .int l1), (3, .int l3), (4, .int l4), (5, .int l5), (6, .int l6)] [] S
abbrev bk_X6_eased_89 (G : evG) (d : Nat) (Q : Option Value → evS → Prop) (x0 : Nat) (l1 : Int32) (l3 : Int32) (l4 : Int32) (l5 : Int32) (l6 : Int32) (s0 : Int32) (S : evS) : Prop := evAt G M_X6_eased (evFm G (d + 1) Q) 89 [(0, .ref (evad G 30 x0)), (1, .int l1), (3, .int l3), (4, .int l4), (5, .int l5), (6, .int l6)] [.int s0] S
abbrev bk_X6_eased_110 (G : evG) (d : Nat) (Q : Option Value → evS → Prop) (x0 : Nat) (l1 : Int32) (l5 : Int32) (l6 : Int32) (l7 : Int32) (S : evS) : Prop := evAt G M_X6_eased (evFm G (d + 1) Q) 110 [(0, .ref (evad G 30 x0)), (1, .int l1), (5, .int l5), (6, .int l6), (7, .int l7)] [] S
abbrev bk_X6_eased_122 (G : evG) (d : Nat) (Q : Option Value → evS → Prop) (x0 : Nat) (l1 : Int32) (l3 : Int32) (l4 : Int32) (l5 : Int32) (l6 : Int32) (S : evS) : Prop := evAt G M_X6_eased (evFm G (d + 1) Q) 122 [(0, .ref (evad G 30 x0)), (1, .int l1), (3, .int l3), (4, .int l4), (5, .int l5), (6, .int l6)] [] S
set_option maxRecDepth 100000 in
set_option maxHeartbeats 4000000 in
theorem vb_X6_eased_0 {G : evG} {d : Nat} {q : Int32 → evS → Prop} (hCl : evCl G) {x0 : Nat} {l1 : Int32} {S : evS} (hVl0 : (30, x0) ∈ evKs G)
    (h : (evSp G yX6_isShip M_X6_isShip d [.int l1] S (evQI fun r1 S2 => ((¬ r1 = 0 → (evSp G yX6_plans M_X6_plans d [.ref (evad G 30 x0), .int l1] S2 (evQI fun r3 S4 => ((r3 = 0 → bk_X6_eased_28 G d (evQI q) x0 l1 (-9) S4) ∧ (¬ r3 = 0 → (evSp G yX6_costsAhead M_X6_costsAhead d [.ref (evad G 30 x0)] S4 (evQI fun r5 S6 => bk_X6_eased_28 G d (evQI q) x0 l1 r5 S6))))))) ∧ (r1 = 0 → q (-1) S2))))) : bk_X6_eased_0 G d (evQI q) x0 l1 S := by
  refine ea_iload_n (pc' := 1) (i := 1) dX6_eased_0 rfl 1 rfl rfl ?_
  refine ea_csi (As := [.int l1]) (st := []) (d := d) (pc' := 4) mv_X6_isShip ml_X6_115 rfl dX6_eased_1 rfl (Nat.le_of_ble_eq_true rfl) (ev_room (by decide)) ⟨Nat.le_refl _, Nat.le_refl _⟩ h rfl (fun r1 S2 h => ?_)
  refine ea_if_ne (tgt := 9) (pc' := 7) dX6_eased_4 (by decide) rfl (fun hc => ?_) (fun hc => ?_)
  · replace h := h.1 hc
    refine ea_aload_n (pc' := 10) (i := 0) dX6_eased_9 rfl 0 rfl rfl ?_
    refine ea_iload_n (pc' := 11) (i := 1) dX6_eased_10 rfl 1 rfl rfl ?_
    refine ea_cvi (As := [.int l1]) (st := []) (d := d) (pc' := 14) mv_X6_plans ml_X6_180 kok_30 hVl0 rfl rfl dX6_eased_11 rfl (Nat.le_of_ble_eq_true rfl) (ev_room (by decide)) ⟨Nat.le_refl _, Nat.le_refl _⟩ h rfl (fun r3 S4 h => ?_)
    refine ea_istore_n (lv' := [(2, .int r3), (0, .ref (evad G 30 x0)), (1, .int l1)]) (pc' := 15) dX6_eased_14 rfl (by decide) rfl rfl ?_
    refine ea_iload_n (pc' := 16) (i := 2) dX6_eased_15 rfl 0 rfl rfl ?_
    refine ea_if_eq (tgt := 26) (pc' := 19) dX6_eased_16 (by decide) rfl (fun hc => ?_) (fun hc => ?_)
    · replace h := h.1 hc
      refine ea_bipush (v := (-9)) (pc' := 28) dX6_eased_26 (by decide) rfl ?_
      refine ea_loc [1, 2] rfl ?_
      exact h
    · replace h := h.2 hc
      refine ea_aload_n (pc' := 20) (i := 0) dX6_eased_19 rfl 1 rfl rfl ?_
      refine ea_cvi (As := []) (st := []) (d := d) (pc' := 23) mv_X6_costsAhead ml_X6_196 kok_30 hVl0 rfl rfl dX6_eased_20 rfl (Nat.le_of_ble_eq_true rfl) (ev_room (by decide)) ⟨Nat.le_refl _, Nat.le_refl _⟩ h rfl (fun r5 S6 h => ?_)
      refine ea_goto (tgt := 28) dX6_eased_23 (by decide) ?_
      refine ea_loc [1, 2] rfl ?_
      exact h
  · replace h := h.2 hc
    refine ea_iconst (v := (-1)) (pc' := 8) dX6_eased_7 (by decide) rfl ?_
    exact ea_iret rfl dX6_eased_8 ⟨_, rfl, h⟩
set_option maxRecDepth 100000 in
set_option maxHeartbeats 4000000 in
theorem vb_X6_eased_28 {G : evG} {d : Nat} {q : Int32 → evS → Prop} (hCl : evCl G) {x0 : Nat} {l1 : Int32} {s0 : Int32} {S : evS} (hVl0 : (30, x0) ∈ evKs G)
    (h : (evSp G yX6_of M_X6_of d [.ref (evad G 30 x0), .int l1, .int 2] S (evQI fun r1 S2 => (∀ v3 : Int32, v3 = (r1 + 1) → bk_X6_eased_43 G d (evQI q) x0 l1 s0 (-9) v3 S2)))) : bk_X6_eased_28 G d (evQI q) x0 l1 s0 S := by
  refine ea_istore_n (lv' := [(3, .int s0), (0, .ref (evad G 30 x0)), (1, .int l1)]) (pc' := 29) dX6_eased_28 rfl (by decide) rfl rfl ?_
  refine ea_bipush (v := (-9)) (pc' := 31) dX6_eased_29 (by decide) rfl ?_
  refine ea_istore (lv' := [(4, .int (-9)), (3, .int s0), (0, .ref (evad G 30 x0)), (1, .int l1)]) (pc' := 33) dX6_eased_31 (by decide) rfl rfl ?_
  refine ea_aload_n (pc' := 34) (i := 0) dX6_eased_33 rfl 2 rfl rfl ?_
  refine ea_iload_n (pc' := 35) (i := 1) dX6_eased_34 rfl 3 rfl rfl ?_
  refine ea_iconst (v := 2) (pc' := 36) dX6_eased_35 (by decide) rfl ?_
  refine ea_cvi (As := [.int l1, .int 2]) (st := []) (d := d) (pc' := 39) mv_X6_of ml_X6_70 kok_30 hVl0 rfl rfl dX6_eased_36 rfl (Nat.le_of_ble_eq_true rfl) (ev_room (by decide)) ⟨Nat.le_refl _, Nat.le_refl _⟩ h rfl (fun r1 S2 h => ?_)
  refine ea_iconst (v := 1) (pc' := 40) dX6_eased_39 (by decide) rfl ?_
  refine ea_iadd (pc' := 41) dX6_eased_40 rfl ?_
  refine ea_topi (fun v3 hv3 => ?_)
  replace h := h v3 hv3
  refine ea_istore (lv' := [(5, .int v3), (4, .int (-9)), (3, .int s0), (0, .ref (evad G 30 x0)), (1, .int l1)]) (pc' := 43) dX6_eased_41 (by decide) rfl rfl ?_
  refine ea_loc [3, 4, 2, 1, 0] rfl ?_
  exact h
set_option maxRecDepth 100000 in
set_option maxHeartbeats 4000000 in
theorem vb_X6_eased_43 {G : evG} {d : Nat} {q : Int32 → evS → Prop} (hCl : evCl G) {x0 : Nat} {l1 : Int32} {l3 : Int32} {l4 : Int32} {l5 : Int32} {S : evS} (hVl0 : (30, x0) ∈ evKs G)
    (h : (evSp G yX6_of M_X6_of d [.ref (evad G 30 x0), .int l1, .int 0] S (evQI fun r1 S2 => ((r1 < l5 → q l4 S2) ∧ (¬ r1 < l5 → bk_X6_eased_57 G d (evQI q) x0 l1 l3 l4 l5 0 S2))))) : bk_X6_eased_43 G d (evQI q) x0 l1 l3 l4 l5 S := by
  refine ea_iload (pc' := 45) dX6_eased_43 4 rfl rfl ?_
  refine ea_aload_n (pc' := 46) (i := 0) dX6_eased_45 rfl 0 rfl rfl ?_
  refine ea_iload_n (pc' := 47) (i := 1) dX6_eased_46 rfl 1 rfl rfl ?_
  refine ea_iconst (v := 0) (pc' := 48) dX6_eased_47 (by decide) rfl ?_
  refine ea_cvi (As := [.int l1, .int 0]) (st := [.int l5]) (d := d) (pc' := 51) mv_X6_of ml_X6_70 kok_30 hVl0 rfl rfl dX6_eased_48 rfl (Nat.le_of_ble_eq_true rfl) (ev_room (by decide)) ⟨Nat.le_refl _, Nat.le_refl _⟩ h rfl (fun r1 S2 h => ?_)
  refine ea_icmp_gt (tgt := 134) (pc' := 54) dX6_eased_51 (by decide) rfl (fun hc => ?_) (fun hc => ?_)
  · replace h := h.1 hc
    refine ea_iload (pc' := 136) dX6_eased_134 3 rfl rfl ?_
    exact ea_iret rfl dX6_eased_136 ⟨_, rfl, h⟩
  · replace h := h.2 hc
    refine ea_iconst (v := 0) (pc' := 55) dX6_eased_54 (by decide) rfl ?_
    refine ea_istore (lv' := [(6, .int 0), (0, .ref (evad G 30 x0)), (1, .int l1), (3, .int l3), (4, .int l4), (5, .int l5)]) (pc' := 57) dX6_eased_55 (by decide) rfl rfl ?_
    refine ea_loc [1, 2, 3, 4, 5, 0] rfl ?_
    exact h
set_option maxRecDepth 100000 in
set_option maxHeartbeats 4000000 in
theorem vb_X6_eased_57 {G : evG} {d : Nat} {q : Int32 → evS → Prop} (hCl : evCl G) {x0 : Nat} {l1 : Int32} {l3 : Int32} {l4 : Int32} {l5 : Int32} {l6 : Int32} {S : evS} (hVl0 : (30, x0) ∈ evKs G)
    (h : ((2 ≤ l6 → (∀ v1 : Int32, v1 = (l5 + 1) → bk_X6_eased_43 G d (evQI q) x0 l1 l3 l4 v1 S)) ∧ (¬ 2 ≤ l6 → (evSp G yX6_lays M_X6_lays d [.ref (evad G 30 x0), .int l1, .int 0, .int l5, .int l6] S (evQV fun S2 => (evSp G yX6_hasPlan M_X6_hasPlan d [.ref (evad G 30 x0)] S2 (evQI fun r3 S4 => ((r3 = 0 → bk_X6_eased_89 G d (evQI q) x0 l1 l3 l4 l5 l6 (-9) S4) ∧ (¬ r3 = 0 → (evSp G yX6_costsAhead M_X6_costsAhead d [.ref (evad G 30 x0)] S4 (evQI fun r5 S6 => bk_X6_eased_89 G d (evQI q) x0 l1 l3 l4 l5 l6 r5 S6))))))))))) : bk_X6_eased_57 G d (evQI q) x0 l1 l3 l4 l5 l6 S := by
  refine ea_iload (pc' := 59) dX6_eased_57 5 rfl rfl ?_
  refine ea_iconst (v := 2) (pc' := 60) dX6_eased_59 (by decide) rfl ?_
  refine ea_icmp_ge (tgt := 128) (pc' := 63) dX6_eased_60 (by decide) rfl (fun hc => ?_) (fun hc => ?_)
  · replace h := h.1 hc
    obtain ⟨v1, hv1⟩ : ∃ z : Int32, z = (l5 + 1) := ⟨_, rfl⟩
    replace h := h v1 hv1
    refine ea_iinc (q := 4) (v := v1) (lv' := [(5, .int v1), (0, .ref (evad G 30 x0)), (1, .int l1), (3, .int l3), (4, .int l4), (6, .int l6)]) (pc' := 131) dX6_eased_128 rfl (by rw [hv1]; rfl) (by decide) rfl rfl ?_
    refine ea_goto (tgt := 43) dX6_eased_131 (by decide) ?_
    refine ea_loc [1, 2, 3, 4, 0] rfl ?_
    exact h
  · replace h := h.2 hc
    refine ea_aload_n (pc' := 64) (i := 0) dX6_eased_63 rfl 0 rfl rfl ?_
    refine ea_iload_n (pc' := 65) (i := 1) dX6_eased_64 rfl 1 rfl rfl ?_
    refine ea_iconst (v := 0) (pc' := 66) dX6_eased_65 (by decide) rfl ?_
    refine ea_iload (pc' := 68) dX6_eased_66 4 rfl rfl ?_
    refine ea_iload (pc' := 70) dX6_eased_68 5 rfl rfl ?_
    refine ea_cvv (As := [.int l1, .int 0, .int l5, .int l6]) (st := []) (d := d) (pc' := 73) mv_X6_lays ml_X6_159 kok_30 hVl0 rfl rfl dX6_eased_70 rfl (Nat.le_of_ble_eq_true rfl) (ev_room (by decide)) ⟨Nat.le_refl _, Nat.le_refl _⟩ h rfl (fun S2 h => ?_)
    refine ea_aload_n (pc' := 74) (i := 0) dX6_eased_73 rfl 0 rfl rfl ?_
    refine ea_cvi (As := []) (st := []) (d := d) (pc' := 77) mv_X6_hasPlan ml_X6_163 kok_30 hVl0 rfl rfl dX6_eased_74 rfl (Nat.le_of_ble_eq_true rfl) (ev_room (by decide)) ⟨Nat.le_refl _, Nat.le_refl _⟩ h rfl (fun r3 S4 h => ?_)
    refine ea_if_eq (tgt := 87) (pc' := 80) dX6_eased_77 (by decide) rfl (fun hc => ?_) (fun hc => ?_)
    · replace h := h.1 hc
      refine ea_bipush (v := (-9)) (pc' := 89) dX6_eased_87 (by decide) rfl ?_
      exact h
    · replace h := h.2 hc
      refine ea_aload_n (pc' := 81) (i := 0) dX6_eased_80 rfl 0 rfl rfl ?_
      refine ea_cvi (As := []) (st := []) (d := d) (pc' := 84) mv_X6_costsAhead ml_X6_196 kok_30 hVl0 rfl rfl dX6_eased_81 rfl (Nat.le_of_ble_eq_true rfl) (ev_room (by decide)) ⟨Nat.le_refl _, Nat.le_refl _⟩ h rfl (fun r5 S6 h => ?_)
      refine ea_goto (tgt := 89) dX6_eased_84 (by decide) ?_
      exact h
set_option maxRecDepth 100000 in
set_option maxHeartbeats 4000000 in
theorem vb_X6_eased_89 {G : evG} {d : Nat} {q : Int32 → evS → Prop} (hCl : evCl G) {x0 : Nat} {l1 : Int32} {l3 : Int32} {l4 : Int32} {l5 : Int32} {l6 : Int32} {s0 : Int32} {S : evS} (hVl0 : (30, x0) ∈ evKs G)
    (h : ((s0 = (-9) → bk_X6_eased_122 G d (evQI q) x0 l1 l3 l4 l5 l6 S) ∧ (¬ s0 = (-9) → ((l3 = (-9) → bk_X6_eased_110 G d (evQI q) x0 l1 l5 l6 s0 S) ∧ (¬ l3 = (-9) → ((l3 ≤ s0 → bk_X6_eased_122 G d (evQI q) x0 l1 l3 l4 l5 l6 S) ∧ (¬ l3 ≤ s0 → bk_X6_eased_110 G d (evQI q) x0 l1 l5 l6 s0 S))))))) : bk_X6_eased_89 G d (evQI q) x0 l1 l3 l4 l5 l6 s0 S := by
  refine ea_istore (lv' := [(7, .int s0), (0, .ref (evad G 30 x0)), (1, .int l1), (3, .int l3), (4, .int l4), (5, .int l5), (6, .int l6)]) (pc' := 91) dX6_eased_89 (by decide) rfl rfl ?_
  refine ea_iload (pc' := 93) dX6_eased_91 0 rfl rfl ?_
  refine ea_bipush (v := (-9)) (pc' := 95) dX6_eased_93 (by decide) rfl ?_
  refine ea_icmp_eq (tgt := 122) (pc' := 98) dX6_eased_95 (by decide) rfl (fun hc => ?_) (fun hc => ?_)
  · replace h := h.1 hc
    refine ea_loc [1, 2, 3, 4, 5, 6] rfl ?_
    exact h
  · replace h := h.2 hc
    refine ea_iload_n (pc' := 99) (i := 3) dX6_eased_98 rfl 3 rfl rfl ?_
    refine ea_bipush (v := (-9)) (pc' := 101) dX6_eased_99 (by decide) rfl ?_
    refine ea_icmp_eq (tgt := 110) (pc' := 104) dX6_eased_101 (by decide) rfl (fun hc => ?_) (fun hc => ?_)
    · replace h := h.1 hc
      refine ea_loc [1, 2, 5, 6, 0] rfl ?_
      exact h
    · replace h := h.2 hc
      refine ea_iload (pc' := 106) dX6_eased_104 0 rfl rfl ?_
      refine ea_iload_n (pc' := 107) (i := 3) dX6_eased_106 rfl 3 rfl rfl ?_
      refine ea_icmp_ge (tgt := 122) (pc' := 110) dX6_eased_107 (by decide) rfl (fun hc => ?_) (fun hc => ?_)
      · replace h := h.1 hc
        refine ea_loc [1, 2, 3, 4, 5, 6] rfl ?_
        exact h
      · replace h := h.2 hc
        refine ea_loc [1, 2, 5, 6, 0] rfl ?_
        exact h
set_option maxRecDepth 100000 in
set_option maxHeartbeats 4000000 in
theorem vb_X6_eased_110 {G : evG} {d : Nat} {q : Int32 → evS → Prop} (hCl : evCl G) {x0 : Nat} {l1 : Int32} {l5 : Int32} {l6 : Int32} {l7 : Int32} {S : evS} (hVl0 : (30, x0) ∈ evKs G)
    (h : (∀ v1 : Int32, v1 = ((2 * l5) + l6) → bk_X6_eased_122 G d (evQI q) x0 l1 l7 v1 l5 l6 S)) : bk_X6_eased_110 G d (evQI q) x0 l1 l5 l6 l7 S := by
  refine ea_iload (pc' := 112) dX6_eased_110 4 rfl rfl ?_
  refine ea_istore_n (lv' := [(3, .int l7), (0, .ref (evad G 30 x0)), (1, .int l1), (5, .int l5), (6, .int l6), (7, .int l7)]) (pc' := 113) dX6_eased_112 rfl (by decide) rfl rfl ?_
  refine ea_iconst (v := 2) (pc' := 114) dX6_eased_113 (by decide) rfl ?_
  refine ea_iload (pc' := 116) dX6_eased_114 3 rfl rfl ?_
  refine ea_imul (pc' := 117) dX6_eased_116 rfl ?_
  refine ea_iload (pc' := 119) dX6_eased_117 4 rfl rfl ?_
  refine ea_iadd (pc' := 120) dX6_eased_119 rfl ?_
  refine ea_topi (fun v1 hv1 => ?_)
  replace h := h v1 hv1
  refine ea_istore (lv' := [(4, .int v1), (3, .int l7), (0, .ref (evad G 30 x0)), (1, .int l1), (5, .int l5), (6, .int l6), (7, .int l7)]) (pc' := 122) dX6_eased_120 (by decide) rfl rfl ?_
  refine ea_loc [2, 3, 1, 0, 4, 5] rfl ?_
  exact h
set_option maxRecDepth 100000 in
set_option maxHeartbeats 4000000 in
theorem vb_X6_eased_122 {G : evG} {d : Nat} {q : Int32 → evS → Prop} (hCl : evCl G) {x0 : Nat} {l1 : Int32} {l3 : Int32} {l4 : Int32} {l5 : Int32} {l6 : Int32} {S : evS} (hVl0 : (30, x0) ∈ evKs G)
    (h : (∀ v1 : Int32, v1 = (l6 + 1) → bk_X6_eased_57 G d (evQI q) x0 l1 l3 l4 l5 v1 S)) : bk_X6_eased_122 G d (evQI q) x0 l1 l3 l4 l5 l6 S := by
  obtain ⟨v1, hv1⟩ : ∃ z : Int32, z = (l6 + 1) := ⟨_, rfl⟩
  replace h := h v1 hv1
  refine ea_iinc (q := 5) (v := v1) (lv' := [(6, .int v1), (0, .ref (evad G 30 x0)), (1, .int l1), (3, .int l3), (4, .int l4), (5, .int l5)]) (pc' := 125) dX6_eased_122 rfl (by rw [hv1]; rfl) (by decide) rfl rfl ?_
  refine ea_goto (tgt := 57) dX6_eased_125 (by decide) ?_
  refine ea_loc [1, 2, 3, 4, 5, 0] rfl ?_
  exact h
theorem vm_X6_eased {G : evG} {d : Nat} {q : Int32 → evS → Prop} {x0 : Nat} {l1 : Int32} {S : evS} (h : bk_X6_eased_0 G d (evQI q) x0 l1 S) : evSp G yX6_eased M_X6_eased (d + 1) [.ref (evad G 30 x0), .int l1] S (evQI q) :=
  evSp.of (by decide +kernel) rfl (Nat.le_of_ble_eq_true rfl) h
abbrev bk_X6_mile_0 (G : evG) (d : Nat) (Q : Option Value → evS → Prop) (x0 : Nat) (l1 : Int32) (l2 : Int32) (S : evS) : Prop := evAt G M_X6_mile (evFm G (d + 1) Q) 0 [(0, .ref (evad G 30 x0)), (1, .int l1), (2, .int l2)] [] S
set_option maxRecDepth 100000 in
set_option maxHeartbeats 4000000 in
theorem vb_X6_mile_0 {G : evG} {d : Nat} {q : Int32 → evS → Prop} (hCl : evCl G) {x0 : Nat} {l1 : Int32} {l2 : Int32} {S : evS} (hVl0 : (30, x0) ∈ evKs G)
    (h : (evSp G yX6_isShip M_X6_isShip d [.int l1] S (evQI fun r1 S2 => ((r1 = 0 → q (-1) S2) ∧ (¬ r1 = 0 → (evSp G yX6_in M_X6_in d [.int l2, .int 0, .int 999] S2 (evQI fun r3 S4 => ((r3 = 0 → q (-1) S4) ∧ (¬ r3 = 0 → (evSp G yX6_mileOf M_X6_mileOf d [.ref (evad G 30 x0), .int l1, .int l2] S4 (evQI fun r5 S6 => q r5 S6))))))))))) : bk_X6_mile_0 G d (evQI q) x0 l1 l2 S := by
  refine ea_iload_n (pc' := 1) (i := 1) dX6_mile_0 rfl 1 rfl rfl ?_
  refine ea_csi (As := [.int l1]) (st := []) (d := d) (pc' := 4) mv_X6_isShip ml_X6_115 rfl dX6_mile_1 rfl (Nat.le_of_ble_eq_true rfl) (ev_room (by decide)) ⟨Nat.le_refl _, Nat.le_refl _⟩ h rfl (fun r1 S2 h => ?_)
  refine ea_if_eq (tgt := 27) (pc' := 7) dX6_mile_4 (by decide) rfl (fun hc => ?_) (fun hc => ?_)
  · replace h := h.1 hc
    refine ea_iconst (v := (-1)) (pc' := 28) dX6_mile_27 (by decide) rfl ?_
    exact ea_iret rfl dX6_mile_28 ⟨_, rfl, h⟩
  · replace h := h.2 hc
    refine ea_iload_n (pc' := 8) (i := 2) dX6_mile_7 rfl 2 rfl rfl ?_
    refine ea_iconst (v := 0) (pc' := 9) dX6_mile_8 (by decide) rfl ?_
    refine ea_sipush (v := 999) (pc' := 12) dX6_mile_9 (by decide) rfl ?_
    refine ea_csi (As := [.int l2, .int 0, .int 999]) (st := []) (d := d) (pc' := 15) mv_X6_in ml_X6_62 rfl dX6_mile_12 rfl (Nat.le_of_ble_eq_true rfl) (ev_room (by decide)) ⟨Nat.le_refl _, Nat.le_refl _⟩ h rfl (fun r3 S4 h => ?_)
    refine ea_if_eq (tgt := 27) (pc' := 18) dX6_mile_15 (by decide) rfl (fun hc => ?_) (fun hc => ?_)
    · replace h := h.1 hc
      refine ea_iconst (v := (-1)) (pc' := 28) dX6_mile_27 (by decide) rfl ?_
      exact ea_iret rfl dX6_mile_28 ⟨_, rfl, h⟩
    · replace h := h.2 hc
      refine ea_aload_n (pc' := 19) (i := 0) dX6_mile_18 rfl 0 rfl rfl ?_
      refine ea_iload_n (pc' := 20) (i := 1) dX6_mile_19 rfl 1 rfl rfl ?_
      refine ea_iload_n (pc' := 21) (i := 2) dX6_mile_20 rfl 2 rfl rfl ?_
      refine ea_cvi (As := [.int l1, .int l2]) (st := []) (d := d) (pc' := 24) mv_X6_mileOf ml_X6_208 kok_30 hVl0 rfl rfl dX6_mile_21 rfl (Nat.le_of_ble_eq_true rfl) (ev_room (by decide)) ⟨Nat.le_refl _, Nat.le_refl _⟩ h rfl (fun r5 S6 h => ?_)
      refine ea_goto (tgt := 28) dX6_mile_24 (by decide) ?_
      exact ea_iret rfl dX6_mile_28 ⟨_, rfl, h⟩
theorem vm_X6_mile {G : evG} {d : Nat} {q : Int32 → evS → Prop} {x0 : Nat} {l1 : Int32} {l2 : Int32} {S : evS} (h : bk_X6_mile_0 G d (evQI q) x0 l1 l2 S) : evSp G yX6_mile M_X6_mile (d + 1) [.ref (evad G 30 x0), .int l1, .int l2] S (evQI q) :=
  evSp.of (by decide +kernel) rfl (Nat.le_of_ble_eq_true rfl) h
abbrev bk_X6_mileOf_0 (G : evG) (d : Nat) (Q : Option Value → evS → Prop) (x0 : Nat) (l1 : Int32) (l2 : Int32) (S : evS) : Prop := evAt G M_X6_mileOf (evFm G (d + 1) Q) 0 [(0, .ref (evad G 30 x0)), (1, .int l1), (2, .int l2)] [] S
set_option maxRecDepth 100000 in
set_option maxHeartbeats 4000000 in
theorem vb_X6_mileOf_0 {G : evG} {d : Nat} {q : Int32 → evS → Prop} (hCl : evCl G) {x0 : Nat} {l1 : Int32} {l2 : Int32} {S : evS} (hVl0 : (30, x0) ∈ evKs G)
    (h : (evSp G yX6_plans M_X6_plans d [.ref (evad G 30 x0), .int l1] S (evQI fun r1 S2 => ((r1 = 0 → q (-9) S2) ∧ (¬ r1 = 0 → (evSp G yX6_mileAt M_X6_mileAt d [.ref (evad G 30 x0), .int l2] S2 (evQI fun r3 S4 => q r3 S4))))))) : bk_X6_mileOf_0 G d (evQI q) x0 l1 l2 S := by
  refine ea_aload_n (pc' := 1) (i := 0) dX6_mileOf_0 rfl 0 rfl rfl ?_
  refine ea_iload_n (pc' := 2) (i := 1) dX6_mileOf_1 rfl 1 rfl rfl ?_
  refine ea_cvi (As := [.int l1]) (st := []) (d := d) (pc' := 5) mv_X6_plans ml_X6_180 kok_30 hVl0 rfl rfl dX6_mileOf_2 rfl (Nat.le_of_ble_eq_true rfl) (ev_room (by decide)) ⟨Nat.le_refl _, Nat.le_refl _⟩ h rfl (fun r1 S2 h => ?_)
  refine ea_if_eq (tgt := 16) (pc' := 8) dX6_mileOf_5 (by decide) rfl (fun hc => ?_) (fun hc => ?_)
  · replace h := h.1 hc
    refine ea_bipush (v := (-9)) (pc' := 18) dX6_mileOf_16 (by decide) rfl ?_
    exact ea_iret rfl dX6_mileOf_18 ⟨_, rfl, h⟩
  · replace h := h.2 hc
    refine ea_aload_n (pc' := 9) (i := 0) dX6_mileOf_8 rfl 0 rfl rfl ?_
    refine ea_iload_n (pc' := 10) (i := 2) dX6_mileOf_9 rfl 2 rfl rfl ?_
    refine ea_cvi (As := [.int l2]) (st := []) (d := d) (pc' := 13) mv_X6_mileAt ml_X6_205 kok_30 hVl0 rfl rfl dX6_mileOf_10 rfl (Nat.le_of_ble_eq_true rfl) (ev_room (by decide)) ⟨Nat.le_refl _, Nat.le_refl _⟩ h rfl (fun r3 S4 h => ?_)
    refine ea_goto (tgt := 18) dX6_mileOf_13 (by decide) ?_
    exact ea_iret rfl dX6_mileOf_18 ⟨_, rfl, h⟩
theorem vm_X6_mileOf {G : evG} {d : Nat} {q : Int32 → evS → Prop} {x0 : Nat} {l1 : Int32} {l2 : Int32} {S : evS} (h : bk_X6_mileOf_0 G d (evQI q) x0 l1 l2 S) : evSp G yX6_mileOf M_X6_mileOf (d + 1) [.ref (evad G 30 x0), .int l1, .int l2] S (evQI q) :=
  evSp.of (by decide +kernel) rfl (Nat.le_of_ble_eq_true rfl) h
abbrev bk_X6_mileAt_0 (G : evG) (d : Nat) (Q : Option Value → evS → Prop) (x0 : Nat) (l1 : Int32) (S : evS) : Prop := evAt G M_X6_mileAt (evFm G (d + 1) Q) 0 [(0, .ref (evad G 30 x0)), (1, .int l1)] [] S
abbrev bk_X6_mileAt_5 (G : evG) (d : Nat) (Q : Option Value → evS → Prop) (x0 : Nat) (l1 : Int32) (l2 : Int32) (S : evS) : Prop := evAt G M_X6_mileAt (evFm G (d + 1) Q) 5 [(0, .ref (evad G 30 x0)), (1, .int l1), (2, .int l2)] [] S
set_option maxRecDepth 100000 in
set_option maxHeartbeats 4000000 in
theorem vb_X6_mileAt_0 {G : evG} {d : Nat} {q : Int32 → evS → Prop} (hCl : evCl G) {x0 : Nat} {l1 : Int32} {S : evS} (hVl0 : (30, x0) ∈ evKs G)
    (h : (∀ v1 : Int32, v1 = (S.1 30 x0 16) → bk_X6_mileAt_5 G d (evQI q) x0 l1 v1 S)) : bk_X6_mileAt_0 G d (evQI q) x0 l1 S := by
  refine ea_aload_n (pc' := 1) (i := 0) dX6_mileAt_0 rfl 0 rfl rfl ?_
  refine ea_geti (kf := 16) (pc' := 4) kok_30 hVl0 (by decide) rfl fl_X6_129 dX6_mileAt_1 rfl ?_
  refine ea_topi (fun v1 hv1 => ?_)
  replace h := h v1 hv1
  refine ea_istore_n (lv' := [(2, .int v1), (0, .ref (evad G 30 x0)), (1, .int l1)]) (pc' := 5) dX6_mileAt_4 rfl (by decide) rfl rfl ?_
  refine ea_loc [1, 2, 0] rfl ?_
  exact h
set_option maxRecDepth 100000 in
set_option maxHeartbeats 4000000 in
theorem vb_X6_mileAt_5 {G : evG} {d : Nat} {q : Int32 → evS → Prop} (hCl : evCl G) {x0 : Nat} {l1 : Int32} {l2 : Int32} {S : evS} (hVl0 : (30, x0) ∈ evKs G)
    (h : (((S.1 30 x0 17) ≤ l2 → (vp_in (S.1 30 x0 17) 7 ∧ q (S.1 49 0 ((S.1 30 x0 17).toNatClampNeg)) S)) ∧ (¬ (S.1 30 x0 17) ≤ l2 → (evSp G yX6_markAhead M_X6_markAhead d [.ref (evad G 30 x0), .int l2] S (evQI fun r2 S3 => (evSp G yX6_markBehind M_X6_markBehind d [.ref (evad G 30 x0), .int r2] S3 (evQI fun r4 S5 => (vp_in r4 7 ∧ (vp_in r2 7 ∧ (∀ v8 : Int64, v8 = ((S5.1 49 0 r4.toNatClampNeg) - (S5.1 49 0 r2.toNatClampNeg)).toInt64 → (vp_in (l2 + 1) 7 ∧ (∀ v10 : Int64, v10 = ((l1 - (S5.1 50 0 ((l2 + 1).toNatClampNeg))).toInt64 * v8) → (evSp G yX6_evenTimes M_X6_evenTimes d [.ref (evad G 30 x0), .int r2, .int r4, .int l2] S5 (evQL fun r11 S12 => ((r11 < v10 → (evSp G yX6_evenTimes M_X6_evenTimes d [.ref (evad G 30 x0), .int r2, .int r4, .int (l2 + 1)] S12 (evQL fun r13 S14 => ((r13 < v10 → (∀ v15 : Int32, v15 = (l2 + 1) → bk_X6_mileAt_5 G d (evQI q) x0 l1 v15 S14)) ∧ (¬ r13 < v10 → (vp_in l2 7 ∧ (evSp G yX6_evenTimes M_X6_evenTimes d [.ref (evad G 30 x0), .int r2, .int r4, .int l2] S14 (evQL fun r17 S18 => (vp_in r4 7 ∧ (vp_in r2 7 ∧ (¬ ((S18.2 54 0 r4.toNatClampNeg) - (S18.2 54 0 r2.toNatClampNeg)) = 0 ∧ q ((S14.1 49 0 l2.toNatClampNeg) + ((v10 - r17) / ((S18.2 54 0 r4.toNatClampNeg) - (S18.2 54 0 r2.toNatClampNeg))).toInt32) S18))))))))))) ∧ (¬ r11 < v10 → (vp_in l2 7 ∧ q (S12.1 49 0 l2.toNatClampNeg) S12))))))))))))))))) : bk_X6_mileAt_5 G d (evQI q) x0 l1 l2 S := by
  refine ea_iload_n (pc' := 6) (i := 2) dX6_mileAt_5 rfl 2 rfl rfl ?_
  refine ea_aload_n (pc' := 7) (i := 0) dX6_mileAt_6 rfl 0 rfl rfl ?_
  refine ea_geti (kf := 17) (pc' := 10) kok_30 hVl0 (by decide) rfl fl_X6_132 dX6_mileAt_7 rfl ?_
  refine ea_icmp_ge (tgt := 137) (pc' := 13) dX6_mileAt_10 (by decide) rfl (fun hc => ?_) (fun hc => ?_)
  · replace h := h.1 hc
    refine ea_aload_n (pc' := 138) (i := 0) dX6_mileAt_137 rfl 0 rfl rfl ?_
    refine ea_getr (k2 := 49) (x2 := 0) (kf := 18) (pc' := 141) kok_30 hVl0 (by decide) rfl fl_X6_32 rfl dX6_mileAt_138 rfl ?_
    refine ea_aload_n (pc' := 142) (i := 0) dX6_mileAt_141 rfl 0 rfl rfl ?_
    refine ea_geti (kf := 17) (pc' := 145) kok_30 hVl0 (by decide) rfl fl_X6_132 dX6_mileAt_142 rfl ?_
    obtain ⟨o1, h⟩ := h
    refine ea_iald (j := (S.1 30 x0 17).toNatClampNeg) (pc' := 146) (hCl.1 30 x0 18 49 hVl0 rfl) rfl o1 dX6_mileAt_145 rfl rfl ?_
    exact ea_iret rfl dX6_mileAt_146 ⟨_, rfl, h⟩
  · replace h := h.2 hc
    refine ea_aload_n (pc' := 14) (i := 0) dX6_mileAt_13 rfl 0 rfl rfl ?_
    refine ea_iload_n (pc' := 15) (i := 2) dX6_mileAt_14 rfl 2 rfl rfl ?_
    refine ea_cvi (As := [.int l2]) (st := []) (d := d) (pc' := 18) mv_X6_markAhead ml_X6_170 kok_30 hVl0 rfl rfl dX6_mileAt_15 rfl (Nat.le_of_ble_eq_true rfl) (ev_room (by decide)) ⟨Nat.le_refl _, Nat.le_refl _⟩ h rfl (fun r2 S3 h => ?_)
    refine ea_istore_n (lv' := [(3, .int r2), (0, .ref (evad G 30 x0)), (1, .int l1), (2, .int l2)]) (pc' := 19) dX6_mileAt_18 rfl (by decide) rfl rfl ?_
    refine ea_aload_n (pc' := 20) (i := 0) dX6_mileAt_19 rfl 1 rfl rfl ?_
    refine ea_iload_n (pc' := 21) (i := 3) dX6_mileAt_20 rfl 0 rfl rfl ?_
    refine ea_cvi (As := [.int r2]) (st := []) (d := d) (pc' := 24) mv_X6_markBehind ml_X6_149 kok_30 hVl0 rfl rfl dX6_mileAt_21 rfl (Nat.le_of_ble_eq_true rfl) (ev_room (by decide)) ⟨Nat.le_refl _, Nat.le_refl _⟩ h rfl (fun r4 S5 h => ?_)
    refine ea_istore (lv' := [(4, .int r4), (3, .int r2), (0, .ref (evad G 30 x0)), (1, .int l1), (2, .int l2)]) (pc' := 26) dX6_mileAt_24 (by decide) rfl rfl ?_
    refine ea_aload_n (pc' := 27) (i := 0) dX6_mileAt_26 rfl 2 rfl rfl ?_
    refine ea_getr (k2 := 49) (x2 := 0) (kf := 18) (pc' := 30) kok_30 hVl0 (by decide) rfl fl_X6_32 rfl dX6_mileAt_27 rfl ?_
    refine ea_iload (pc' := 32) dX6_mileAt_30 0 rfl rfl ?_
    obtain ⟨o6, h⟩ := h
    refine ea_iald (j := r4.toNatClampNeg) (pc' := 33) (hCl.1 30 x0 18 49 hVl0 rfl) rfl o6 dX6_mileAt_32 rfl rfl ?_
    refine ea_aload_n (pc' := 34) (i := 0) dX6_mileAt_33 rfl 2 rfl rfl ?_
    refine ea_getr (k2 := 49) (x2 := 0) (kf := 18) (pc' := 37) kok_30 hVl0 (by decide) rfl fl_X6_32 rfl dX6_mileAt_34 rfl ?_
    refine ea_iload_n (pc' := 38) (i := 3) dX6_mileAt_37 rfl 1 rfl rfl ?_
    obtain ⟨o7, h⟩ := h
    refine ea_iald (j := r2.toNatClampNeg) (pc' := 39) (hCl.1 30 x0 18 49 hVl0 rfl) rfl o7 dX6_mileAt_38 rfl rfl ?_
    refine ea_isub (pc' := 40) dX6_mileAt_39 rfl ?_
    refine ea_i2l (pc' := 41) dX6_mileAt_40 rfl ?_
    refine ea_topl (fun v8 hv8 => ?_)
    replace h := h v8 hv8
    refine ea_lstore (lv' := [(5, .long v8), (4, .int r4), (3, .int r2), (0, .ref (evad G 30 x0)), (1, .int l1), (2, .int l2)]) (pc' := 43) dX6_mileAt_41 (by decide) rfl rfl ?_
    refine ea_iload_n (pc' := 44) (i := 1) dX6_mileAt_43 rfl 4 rfl rfl ?_
    refine ea_aload_n (pc' := 45) (i := 0) dX6_mileAt_44 rfl 3 rfl rfl ?_
    refine ea_getr (k2 := 50) (x2 := 0) (kf := 19) (pc' := 48) kok_30 hVl0 (by decide) rfl fl_X6_35 rfl dX6_mileAt_45 rfl ?_
    refine ea_iload_n (pc' := 49) (i := 2) dX6_mileAt_48 rfl 5 rfl rfl ?_
    refine ea_iconst (v := 1) (pc' := 50) dX6_mileAt_49 (by decide) rfl ?_
    refine ea_iadd (pc' := 51) dX6_mileAt_50 rfl ?_
    obtain ⟨o9, h⟩ := h
    refine ea_iald (j := (l2 + 1).toNatClampNeg) (pc' := 52) (hCl.1 30 x0 19 50 hVl0 rfl) rfl o9 dX6_mileAt_51 rfl rfl ?_
    refine ea_isub (pc' := 53) dX6_mileAt_52 rfl ?_
    refine ea_i2l (pc' := 54) dX6_mileAt_53 rfl ?_
    refine ea_lload (pc' := 56) dX6_mileAt_54 0 rfl rfl ?_
    refine ea_lmul (pc' := 57) dX6_mileAt_56 rfl ?_
    refine ea_topl (fun v10 hv10 => ?_)
    replace h := h v10 hv10
    refine ea_lstore (lv' := [(7, .long v10), (5, .long v8), (4, .int r4), (3, .int r2), (0, .ref (evad G 30 x0)), (1, .int l1), (2, .int l2)]) (pc' := 59) dX6_mileAt_57 (by decide) rfl rfl ?_
    refine ea_lload (pc' := 61) dX6_mileAt_59 0 rfl rfl ?_
    refine ea_aload_n (pc' := 62) (i := 0) dX6_mileAt_61 rfl 4 rfl rfl ?_
    refine ea_iload_n (pc' := 63) (i := 3) dX6_mileAt_62 rfl 3 rfl rfl ?_
    refine ea_iload (pc' := 65) dX6_mileAt_63 2 rfl rfl ?_
    refine ea_iload_n (pc' := 66) (i := 2) dX6_mileAt_65 rfl 6 rfl rfl ?_
    refine ea_cvl (As := [.int r2, .int r4, .int l2]) (st := [.long v10]) (d := d) (pc' := 69) mv_X6_evenTimes ml_X6_142 kok_30 hVl0 rfl rfl dX6_mileAt_66 rfl (Nat.le_of_ble_eq_true rfl) (ev_room (by decide)) ⟨Nat.le_refl _, Nat.le_refl _⟩ h rfl (fun r11 S12 h => ?_)
    refine ea_lcmp_gt (tgt := 80) (pc1 := 70) (pc' := 73) dX6_mileAt_69 rfl dX6_mileAt_70 (by decide) rfl (fun hc => ?_) (fun hc => ?_)
    · replace h := h.1 hc
      refine ea_lload (pc' := 82) dX6_mileAt_80 0 rfl rfl ?_
      refine ea_aload_n (pc' := 83) (i := 0) dX6_mileAt_82 rfl 4 rfl rfl ?_
      refine ea_iload_n (pc' := 84) (i := 3) dX6_mileAt_83 rfl 3 rfl rfl ?_
      refine ea_iload (pc' := 86) dX6_mileAt_84 2 rfl rfl ?_
      refine ea_iload_n (pc' := 87) (i := 2) dX6_mileAt_86 rfl 6 rfl rfl ?_
      refine ea_iconst (v := 1) (pc' := 88) dX6_mileAt_87 (by decide) rfl ?_
      refine ea_iadd (pc' := 89) dX6_mileAt_88 rfl ?_
      refine ea_cvl (As := [.int r2, .int r4, .int (l2 + 1)]) (st := [.long v10]) (d := d) (pc' := 92) mv_X6_evenTimes ml_X6_142 kok_30 hVl0 rfl rfl dX6_mileAt_89 rfl (Nat.le_of_ble_eq_true rfl) (ev_room (by decide)) ⟨Nat.le_refl _, Nat.le_refl _⟩ h rfl (fun r13 S14 h => ?_)
      refine ea_lcmp_gt (tgt := 131) (pc1 := 93) (pc' := 96) dX6_mileAt_92 rfl dX6_mileAt_93 (by decide) rfl (fun hc => ?_) (fun hc => ?_)
      · replace h := h.1 hc
        obtain ⟨v15, hv15⟩ : ∃ z : Int32, z = (l2 + 1) := ⟨_, rfl⟩
        replace h := h v15 hv15
        refine ea_iinc (q := 6) (v := v15) (lv' := [(2, .int v15), (7, .long v10), (5, .long v8), (4, .int r4), (3, .int r2), (0, .ref (evad G 30 x0)), (1, .int l1)]) (pc' := 134) dX6_mileAt_131 rfl (by rw [hv15]; rfl) (by decide) rfl rfl ?_
        refine ea_goto (tgt := 5) dX6_mileAt_134 (by decide) ?_
        refine ea_loc [5, 6, 0] rfl ?_
        exact h
      · replace h := h.2 hc
        refine ea_aload_n (pc' := 97) (i := 0) dX6_mileAt_96 rfl 4 rfl rfl ?_
        refine ea_getr (k2 := 49) (x2 := 0) (kf := 18) (pc' := 100) kok_30 hVl0 (by decide) rfl fl_X6_32 rfl dX6_mileAt_97 rfl ?_
        refine ea_iload_n (pc' := 101) (i := 2) dX6_mileAt_100 rfl 6 rfl rfl ?_
        obtain ⟨o16, h⟩ := h
        refine ea_iald (j := l2.toNatClampNeg) (pc' := 102) (hCl.1 30 x0 18 49 hVl0 rfl) rfl o16 dX6_mileAt_101 rfl rfl ?_
        refine ea_lload (pc' := 104) dX6_mileAt_102 0 rfl rfl ?_
        refine ea_aload_n (pc' := 105) (i := 0) dX6_mileAt_104 rfl 4 rfl rfl ?_
        refine ea_iload_n (pc' := 106) (i := 3) dX6_mileAt_105 rfl 3 rfl rfl ?_
        refine ea_iload (pc' := 108) dX6_mileAt_106 2 rfl rfl ?_
        refine ea_iload_n (pc' := 109) (i := 2) dX6_mileAt_108 rfl 6 rfl rfl ?_
        refine ea_cvl (As := [.int r2, .int r4, .int l2]) (st := [.long v10, .int (S14.1 49 0 l2.toNatClampNeg)]) (d := d) (pc' := 112) mv_X6_evenTimes ml_X6_142 kok_30 hVl0 rfl rfl dX6_mileAt_109 rfl (Nat.le_of_ble_eq_true rfl) (ev_room (by decide)) ⟨Nat.le_refl _, Nat.le_refl _⟩ h rfl (fun r17 S18 h => ?_)
        refine ea_lsub (pc' := 113) dX6_mileAt_112 rfl ?_
        refine ea_aload_n (pc' := 114) (i := 0) dX6_mileAt_113 rfl 4 rfl rfl ?_
        refine ea_getr (k2 := 54) (x2 := 0) (kf := 23) (pc' := 117) kok_30 hVl0 (by decide) rfl fl_X6_47 rfl dX6_mileAt_114 rfl ?_
        refine ea_iload (pc' := 119) dX6_mileAt_117 2 rfl rfl ?_
        obtain ⟨o19, h⟩ := h
        refine ea_lald (j := r4.toNatClampNeg) (pc' := 120) (hCl.1 30 x0 23 54 hVl0 rfl) rfl o19 dX6_mileAt_119 rfl rfl ?_
        refine ea_aload_n (pc' := 121) (i := 0) dX6_mileAt_120 rfl 4 rfl rfl ?_
        refine ea_getr (k2 := 54) (x2 := 0) (kf := 23) (pc' := 124) kok_30 hVl0 (by decide) rfl fl_X6_47 rfl dX6_mileAt_121 rfl ?_
        refine ea_iload_n (pc' := 125) (i := 3) dX6_mileAt_124 rfl 3 rfl rfl ?_
        obtain ⟨o20, h⟩ := h
        refine ea_lald (j := r2.toNatClampNeg) (pc' := 126) (hCl.1 30 x0 23 54 hVl0 rfl) rfl o20 dX6_mileAt_125 rfl rfl ?_
        refine ea_lsub (pc' := 127) dX6_mileAt_126 rfl ?_
        obtain ⟨o21, h⟩ := h
        refine ea_ldiv (pc' := 128) dX6_mileAt_127 o21 rfl ?_
        refine ea_l2i (pc' := 129) dX6_mileAt_128 rfl ?_
        refine ea_iadd (pc' := 130) dX6_mileAt_129 rfl ?_
        exact ea_iret rfl dX6_mileAt_130 ⟨_, rfl, h⟩
    · replace h := h.2 hc
      refine ea_aload_n (pc' := 74) (i := 0) dX6_mileAt_73 rfl 4 rfl rfl ?_
      refine ea_getr (k2 := 49) (x2 := 0) (kf := 18) (pc' := 77) kok_30 hVl0 (by decide) rfl fl_X6_32 rfl dX6_mileAt_74 rfl ?_
      refine ea_iload_n (pc' := 78) (i := 2) dX6_mileAt_77 rfl 6 rfl rfl ?_
      obtain ⟨o22, h⟩ := h
      refine ea_iald (j := l2.toNatClampNeg) (pc' := 79) (hCl.1 30 x0 18 49 hVl0 rfl) rfl o22 dX6_mileAt_78 rfl rfl ?_
      exact ea_iret rfl dX6_mileAt_79 ⟨_, rfl, h⟩
theorem vm_X6_mileAt {G : evG} {d : Nat} {q : Int32 → evS → Prop} {x0 : Nat} {l1 : Int32} {S : evS} (h : bk_X6_mileAt_0 G d (evQI q) x0 l1 S) : evSp G yX6_mileAt M_X6_mileAt (d + 1) [.ref (evad G 30 x0), .int l1] S (evQI q) :=
  evSp.of (by decide +kernel) rfl (Nat.le_of_ble_eq_true rfl) h
abbrev bk_X6_sees_0 (G : evG) (d : Nat) (Q : Option Value → evS → Prop) (x0 : Nat) (l1 : Int32) (l2 : Int32) (S : evS) : Prop := evAt G M_X6_sees (evFm G (d + 1) Q) 0 [(0, .ref (evad G 30 x0)), (1, .int l1), (2, .int l2)] [] S
set_option maxRecDepth 100000 in
set_option maxHeartbeats 4000000 in
theorem vb_X6_sees_0 {G : evG} {d : Nat} {q : Int32 → evS → Prop} (hCl : evCl G) {x0 : Nat} {l1 : Int32} {l2 : Int32} {S : evS} (hVl0 : (30, x0) ∈ evKs G)
    (h : (evSp G yX6_in M_X6_in d [.int l1, .int 0, .int 999] S (evQI fun r1 S2 => ((r1 = 0 → q (-1) S2) ∧ (¬ r1 = 0 → (evSp G yX6_in M_X6_in d [.int l2, .int 0, .int 999] S2 (evQI fun r3 S4 => ((¬ r3 = 0 → ((¬ (S4.1 30 x0 8) = 6 → (vp_in (2 * (S4.1 30 x0 8)) 12 ∧ (∀ S6 : evS, S6 = evup S4 38 0 ((2 * (S4.1 30 x0 8)).toNatClampNeg) l1 → (vp_in ((2 * (S6.1 30 x0 8)) + 1) 12 ∧ (∀ S8 : evS, S8 = evup S6 38 0 (((2 * (S6.1 30 x0 8)) + 1).toNatClampNeg) l2 → (∀ S9 : evS, S9 = evup S8 30 x0 8 ((S8.1 30 x0 8) + 1) → q (S9.1 30 x0 8) S9)))))) ∧ ((S4.1 30 x0 8) = 6 → q (-3) S4))) ∧ (r3 = 0 → q (-1) S4))))))))) : bk_X6_sees_0 G d (evQI q) x0 l1 l2 S := by
  refine ea_iload_n (pc' := 1) (i := 1) dX6_sees_0 rfl 1 rfl rfl ?_
  refine ea_iconst (v := 0) (pc' := 2) dX6_sees_1 (by decide) rfl ?_
  refine ea_sipush (v := 999) (pc' := 5) dX6_sees_2 (by decide) rfl ?_
  refine ea_csi (As := [.int l1, .int 0, .int 999]) (st := []) (d := d) (pc' := 8) mv_X6_in ml_X6_62 rfl dX6_sees_5 rfl (Nat.le_of_ble_eq_true rfl) (ev_room (by decide)) ⟨Nat.le_refl _, Nat.le_refl _⟩ h rfl (fun r1 S2 h => ?_)
  refine ea_if_eq (tgt := 22) (pc' := 11) dX6_sees_8 (by decide) rfl (fun hc => ?_) (fun hc => ?_)
  · replace h := h.1 hc
    refine ea_iconst (v := (-1)) (pc' := 23) dX6_sees_22 (by decide) rfl ?_
    exact ea_iret rfl dX6_sees_23 ⟨_, rfl, h⟩
  · replace h := h.2 hc
    refine ea_iload_n (pc' := 12) (i := 2) dX6_sees_11 rfl 2 rfl rfl ?_
    refine ea_iconst (v := 0) (pc' := 13) dX6_sees_12 (by decide) rfl ?_
    refine ea_sipush (v := 999) (pc' := 16) dX6_sees_13 (by decide) rfl ?_
    refine ea_csi (As := [.int l2, .int 0, .int 999]) (st := []) (d := d) (pc' := 19) mv_X6_in ml_X6_62 rfl dX6_sees_16 rfl (Nat.le_of_ble_eq_true rfl) (ev_room (by decide)) ⟨Nat.le_refl _, Nat.le_refl _⟩ h rfl (fun r3 S4 h => ?_)
    refine ea_if_ne (tgt := 24) (pc' := 22) dX6_sees_19 (by decide) rfl (fun hc => ?_) (fun hc => ?_)
    · replace h := h.1 hc
      refine ea_aload_n (pc' := 25) (i := 0) dX6_sees_24 rfl 0 rfl rfl ?_
      refine ea_geti (kf := 8) (pc' := 28) kok_30 hVl0 (by decide) rfl fl_X6_211 dX6_sees_25 rfl ?_
      refine ea_bipush (v := 6) (pc' := 30) dX6_sees_28 (by decide) rfl ?_
      refine ea_icmp_ne (tgt := 36) (pc' := 33) dX6_sees_30 (by decide) rfl (fun hc => ?_) (fun hc => ?_)
      · replace h := h.1 hc
        refine ea_aload_n (pc' := 37) (i := 0) dX6_sees_36 rfl 0 rfl rfl ?_
        refine ea_getr (k2 := 38) (x2 := 0) (kf := 7) (pc' := 40) kok_30 hVl0 (by decide) rfl fl_X6_26 rfl dX6_sees_37 rfl ?_
        refine ea_iconst (v := 2) (pc' := 41) dX6_sees_40 (by decide) rfl ?_
        refine ea_aload_n (pc' := 42) (i := 0) dX6_sees_41 rfl 0 rfl rfl ?_
        refine ea_geti (kf := 8) (pc' := 45) kok_30 hVl0 (by decide) rfl fl_X6_211 dX6_sees_42 rfl ?_
        refine ea_imul (pc' := 46) dX6_sees_45 rfl ?_
        refine ea_iload_n (pc' := 47) (i := 1) dX6_sees_46 rfl 1 rfl rfl ?_
        obtain ⟨o5, h⟩ := h
        refine ea_iast (j := (2 * (S4.1 30 x0 8)).toNatClampNeg) (pc' := 48) (hCl.1 30 x0 7 38 hVl0 rfl) rfl o5 dX6_sees_47 rfl rfl ?_
        refine ea_tops (fun S6 hS6 => ?_)
        replace h := h S6 hS6
        refine ea_aload_n (pc' := 49) (i := 0) dX6_sees_48 rfl 0 rfl rfl ?_
        refine ea_getr (k2 := 38) (x2 := 0) (kf := 7) (pc' := 52) kok_30 hVl0 (by decide) rfl fl_X6_26 rfl dX6_sees_49 rfl ?_
        refine ea_iconst (v := 2) (pc' := 53) dX6_sees_52 (by decide) rfl ?_
        refine ea_aload_n (pc' := 54) (i := 0) dX6_sees_53 rfl 0 rfl rfl ?_
        refine ea_geti (kf := 8) (pc' := 57) kok_30 hVl0 (by decide) rfl fl_X6_211 dX6_sees_54 rfl ?_
        refine ea_imul (pc' := 58) dX6_sees_57 rfl ?_
        refine ea_iconst (v := 1) (pc' := 59) dX6_sees_58 (by decide) rfl ?_
        refine ea_iadd (pc' := 60) dX6_sees_59 rfl ?_
        refine ea_iload_n (pc' := 61) (i := 2) dX6_sees_60 rfl 2 rfl rfl ?_
        obtain ⟨o7, h⟩ := h
        refine ea_iast (j := ((2 * (S6.1 30 x0 8)) + 1).toNatClampNeg) (pc' := 62) (hCl.1 30 x0 7 38 hVl0 rfl) rfl o7 dX6_sees_61 rfl rfl ?_
        refine ea_tops (fun S8 hS8 => ?_)
        replace h := h S8 hS8
        refine ea_aload_n (pc' := 63) (i := 0) dX6_sees_62 rfl 0 rfl rfl ?_
        refine ea_dup (pc' := 64) dX6_sees_63 rfl rfl ?_
        refine ea_geti (kf := 8) (pc' := 67) kok_30 hVl0 (by decide) rfl fl_X6_211 dX6_sees_64 rfl ?_
        refine ea_iconst (v := 1) (pc' := 68) dX6_sees_67 (by decide) rfl ?_
        refine ea_iadd (pc' := 69) dX6_sees_68 rfl ?_
        refine ea_puti (kf := 8) (pc' := 72) kok_30 hVl0 (by decide) rfl fl_X6_211 rfl rfl dX6_sees_69 rfl ?_
        refine ea_tops (fun S9 hS9 => ?_)
        replace h := h S9 hS9
        refine ea_aload_n (pc' := 73) (i := 0) dX6_sees_72 rfl 0 rfl rfl ?_
        refine ea_geti (kf := 8) (pc' := 76) kok_30 hVl0 (by decide) rfl fl_X6_211 dX6_sees_73 rfl ?_
        exact ea_iret rfl dX6_sees_76 ⟨_, rfl, h⟩
      · replace h := h.2 hc
        refine ea_bipush (v := (-3)) (pc' := 35) dX6_sees_33 (by decide) rfl ?_
        exact ea_iret rfl dX6_sees_35 ⟨_, rfl, h⟩
    · replace h := h.2 hc
      refine ea_iconst (v := (-1)) (pc' := 23) dX6_sees_22 (by decide) rfl ?_
      exact ea_iret rfl dX6_sees_23 ⟨_, rfl, h⟩
theorem vm_X6_sees {G : evG} {d : Nat} {q : Int32 → evS → Prop} {x0 : Nat} {l1 : Int32} {l2 : Int32} {S : evS} (h : bk_X6_sees_0 G d (evQI q) x0 l1 l2 S) : evSp G yX6_sees M_X6_sees (d + 1) [.ref (evad G 30 x0), .int l1, .int l2] S (evQI q) :=
  evSp.of (by decide +kernel) rfl (Nat.le_of_ble_eq_true rfl) h
abbrev bk_X6_forget_0 (G : evG) (d : Nat) (Q : Option Value → evS → Prop) (x0 : Nat) (S : evS) : Prop := evAt G M_X6_forget (evFm G d Q) 0 [(0, .ref (evad G 30 x0))] [] S
set_option maxRecDepth 100000 in
set_option maxHeartbeats 4000000 in
theorem vb_X6_forget_0 {G : evG} {d : Nat} {q : Int32 → evS → Prop} (hCl : evCl G) {x0 : Nat} {S : evS} (hVl0 : (30, x0) ∈ evKs G)
    (h : (∀ v1 : Int32, v1 = (S.1 30 x0 8) → (∀ S2 : evS, S2 = evup S 30 x0 8 0 → q v1 S2))) : bk_X6_forget_0 G d (evQI q) x0 S := by
  refine ea_aload_n (pc' := 1) (i := 0) dX6_forget_0 rfl 0 rfl rfl ?_
  refine ea_geti (kf := 8) (pc' := 4) kok_30 hVl0 (by decide) rfl fl_X6_211 dX6_forget_1 rfl ?_
  refine ea_topi (fun v1 hv1 => ?_)
  replace h := h v1 hv1
  refine ea_istore_n (lv' := [(1, .int v1), (0, .ref (evad G 30 x0))]) (pc' := 5) dX6_forget_4 rfl (by decide) rfl rfl ?_
  refine ea_aload_n (pc' := 6) (i := 0) dX6_forget_5 rfl 1 rfl rfl ?_
  refine ea_iconst (v := 0) (pc' := 7) dX6_forget_6 (by decide) rfl ?_
  refine ea_puti (kf := 8) (pc' := 10) kok_30 hVl0 (by decide) rfl fl_X6_211 rfl rfl dX6_forget_7 rfl ?_
  refine ea_tops (fun S2 hS2 => ?_)
  replace h := h S2 hS2
  refine ea_iload_n (pc' := 11) (i := 1) dX6_forget_10 rfl 0 rfl rfl ?_
  exact ea_iret rfl dX6_forget_11 ⟨_, rfl, h⟩
theorem vm_X6_forget {G : evG} {d : Nat} {q : Int32 → evS → Prop} {x0 : Nat} {S : evS} (h : bk_X6_forget_0 G d (evQI q) x0 S) : evSp G yX6_forget M_X6_forget d [.ref (evad G 30 x0)] S (evQI q) :=
  evSp.of (by decide +kernel) rfl (Nat.le_of_ble_eq_true rfl) h
