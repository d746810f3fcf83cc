abbrev bk_X5_suspects_0 (G : evG) (d : Nat) (Q : Option Value → evS → Prop) (x0 : Nat) (S : evS) : Prop := evAt G M_X5_suspects (evFm G (d + 1) Q) 0 [(0, .ref (evad G 0 x0))] [] S
abbrev bk_X5_suspects_4 (G : evG) (d : Nat) (Q : Option Value → evS → Prop) (x0 : Nat) (l1 : Int32) (l2 : Int32) (S : evS) : Prop := evAt G M_X5_suspects (evFm G (d + 1) Q) 4 [(0, .ref (evad G 0 x0)), (1, .int l1), (2, .int l2)] [] S
abbrev bk_X5_suspects_28 (G : evG) (d : Nat) (Q : Option Value → evS → Prop) (x0 : Nat) (l1 : Int32) (l2 : Int32) (S : evS) : Prop := evAt G M_X5_suspects (evFm G (d + 1) Q) 28 [(0, .ref (evad G 0 x0)), (1, .int l1), (2, .int l2)] [] S
set_option maxRecDepth 100000 in
set_option maxHeartbeats 4000000 in
theorem vb_X5_suspects_0 {G : evG} {d : Nat} {q : Int32 → evS → Prop} (hCl : evCl G) {x0 : Nat} {S : evS} (hVl0 : (0, x0) ∈ evKs G)
    (h : bk_X5_suspects_4 G d (evQI q) x0 0 0 S) : bk_X5_suspects_0 G d (evQI q) x0 S := by
  refine ea_iconst (v := 0) (pc' := 1) dX5_suspects_0 (by decide) rfl ?_
  refine ea_istore_n (lv' := [(1, .int 0), (0, .ref (evad G 0 x0))]) (pc' := 2) dX5_suspects_1 rfl (by decide) rfl rfl ?_
  refine ea_iconst (v := 0) (pc' := 3) dX5_suspects_2 (by decide) rfl ?_
  refine ea_istore_n (lv' := [(2, .int 0), (1, .int 0), (0, .ref (evad G 0 x0))]) (pc' := 4) dX5_suspects_3 rfl (by decide) rfl rfl ?_
  refine ea_loc [2, 1, 0] rfl ?_
  exact h
set_option maxRecDepth 100000 in
set_option maxHeartbeats 4000000 in
theorem vb_X5_suspects_4 {G : evG} {d : Nat} {q : Int32 → evS → Prop} (hCl : evCl G) {x0 : Nat} {l1 : Int32} {l2 : Int32} {S : evS} (hVl0 : (0, x0) ∈ evKs G)
    (h : ((4 ≤ l2 → q l1 S) ∧ (¬ 4 ≤ l2 → (vp_in l2 4 ∧ (evSp G yX5_agrees M_X5_agrees d [.ref (evad G 0 x0), .ref (evad G 6 l2.toNatClampNeg)] S (evQI fun r2 S3 => ((r2 = 0 → bk_X5_suspects_28 G d (evQI q) x0 l1 l2 S3) ∧ (¬ r2 = 0 → (∀ v4 : Int32, v4 = (l1 ||| (1 <<< (l2 &&& 31))) → bk_X5_suspects_28 G d (evQI q) x0 v4 l2 S3))))))))) : bk_X5_suspects_4 G d (evQI q) x0 l1 l2 S := by
  refine ea_iload_n (pc' := 5) (i := 2) dX5_suspects_4 rfl 2 rfl rfl ?_
  refine ea_iconst (v := 4) (pc' := 6) dX5_suspects_5 (by decide) rfl ?_
  refine ea_icmp_ge (tgt := 34) (pc' := 9) dX5_suspects_6 (by decide) rfl (fun hc => ?_) (fun hc => ?_)
  · replace h := h.1 hc
    refine ea_iload_n (pc' := 35) (i := 1) dX5_suspects_34 rfl 1 rfl rfl ?_
    exact ea_iret rfl dX5_suspects_35 ⟨_, rfl, h⟩
  · replace h := h.2 hc
    refine ea_aload_n (pc' := 10) (i := 0) dX5_suspects_9 rfl 0 rfl rfl ?_
    refine ea_aload_n (pc' := 11) (i := 0) dX5_suspects_10 rfl 0 rfl rfl ?_
    refine ea_getr (k2 := 23) (x2 := 0) (kf := 7) (pc' := 14) kok_0 hVl0 (by decide) rfl fl_X5_52 rfl dX5_suspects_11 rfl ?_
    refine ea_iload_n (pc' := 15) (i := 2) dX5_suspects_14 rfl 2 rfl rfl ?_
    obtain ⟨o1, h⟩ := h
    refine ea_aald (t0 := 5) (cn := RX2) (j := l2.toNatClampNeg) (x2 := l2.toNatClampNeg) (k2 := 6) (pc' := 16) (hCl.1 0 x0 7 23 hVl0 rfl) rfl rfl o1 dX5_suspects_15 rfl rfl rfl rfl ?_
    refine ea_cvi (As := [.ref (evad G 6 l2.toNatClampNeg)]) (st := []) (d := d) (pc' := 19) mv_X5_agrees ml_X5_204 kok_0 hVl0 rfl rfl dX5_suspects_16 rfl (Nat.le_of_ble_eq_true rfl) (ev_room (by decide)) ⟨Nat.le_refl _, Nat.le_refl _⟩ h rfl (fun r2 S3 h => ?_)
    refine ea_if_eq (tgt := 28) (pc' := 22) dX5_suspects_19 (by decide) rfl (fun hc => ?_) (fun hc => ?_)
    · replace h := h.1 hc
      exact h
    · replace h := h.2 hc
      refine ea_iload_n (pc' := 23) (i := 1) dX5_suspects_22 rfl 1 rfl rfl ?_
      refine ea_iconst (v := 1) (pc' := 24) dX5_suspects_23 (by decide) rfl ?_
      refine ea_iload_n (pc' := 25) (i := 2) dX5_suspects_24 rfl 2 rfl rfl ?_
      refine ea_ishl (pc' := 26) dX5_suspects_25 rfl ?_
      refine ea_ior (pc' := 27) dX5_suspects_26 rfl ?_
      refine ea_topi (fun v4 hv4 => ?_)
      replace h := h v4 hv4
      refine ea_istore_n (lv' := [(1, .int v4), (0, .ref (evad G 0 x0)), (2, .int l2)]) (pc' := 28) dX5_suspects_27 rfl (by decide) rfl rfl ?_
      refine ea_loc [1, 0, 2] rfl ?_
      exact h
set_option maxRecDepth 100000 in
set_option maxHeartbeats 4000000 in
theorem vb_X5_suspects_28 {G : evG} {d : Nat} {q : Int32 → evS → Prop} (hCl : evCl G) {x0 : Nat} {l1 : Int32} {l2 : Int32} {S : evS} (hVl0 : (0, x0) ∈ evKs G)
    (h : (∀ v1 : Int32, v1 = (l2 + 1) → bk_X5_suspects_4 G d (evQI q) x0 l1 v1 S)) : bk_X5_suspects_28 G d (evQI q) x0 l1 l2 S := by
  obtain ⟨v1, hv1⟩ : ∃ z : Int32, z = (l2 + 1) := ⟨_, rfl⟩
  replace h := h v1 hv1
  refine ea_iinc (q := 2) (v := v1) (lv' := [(2, .int v1), (0, .ref (evad G 0 x0)), (1, .int l1)]) (pc' := 31) dX5_suspects_28 rfl (by rw [hv1]; rfl) (by decide) rfl rfl ?_
  refine ea_goto (tgt := 4) dX5_suspects_31 (by decide) ?_
  refine ea_loc [1, 2, 0] rfl ?_
  exact h
theorem vm_X5_suspects {G : evG} {d : Nat} {q : Int32 → evS → Prop} {x0 : Nat} {S : evS} (h : bk_X5_suspects_0 G d (evQI q) x0 S) : evSp G yX5_suspects M_X5_suspects (d + 1) [.ref (evad G 0 x0)] S (evQI q) :=
  evSp.of (by decide +kernel) rfl (Nat.le_of_ble_eq_true rfl) h
abbrev bk_X5_agrees_0 (G : evG) (d : Nat) (Q : Option Value → evS → Prop) (x0 : Nat) (x1 : Nat) (S : evS) : Prop := evAt G M_X5_agrees (evFm G (d + 1) Q) 0 [(0, .ref (evad G 0 x0)), (1, .ref (evad G 6 x1))] [] S
abbrev bk_X5_agrees_2 (G : evG) (d : Nat) (Q : Option Value → evS → Prop) (x0 : Nat) (x1 : Nat) (l2 : Int32) (S : evS) : Prop := evAt G M_X5_agrees (evFm G (d + 1) Q) 2 [(0, .ref (evad G 0 x0)), (1, .ref (evad G 6 x1)), (2, .int l2)] [] S
set_option maxRecDepth 100000 in
set_option maxHeartbeats 4000000 in
theorem vb_X5_agrees_0 {G : evG} {d : Nat} {q : Int32 → evS → Prop} (hCl : evCl G) {x0 : Nat} {x1 : Nat} {S : evS} (hVl0 : (0, x0) ∈ evKs G) (hVl1 : (6, x1) ∈ evKs G)
    (h : bk_X5_agrees_2 G d (evQI q) x0 x1 0 S) : bk_X5_agrees_0 G d (evQI q) x0 x1 S := by
  refine ea_iconst (v := 0) (pc' := 1) dX5_agrees_0 (by decide) rfl ?_
  refine ea_istore_n (lv' := [(2, .int 0), (0, .ref (evad G 0 x0)), (1, .ref (evad G 6 x1))]) (pc' := 2) dX5_agrees_1 rfl (by decide) rfl rfl ?_
  refine ea_loc [1, 2, 0] rfl ?_
  exact h
set_option maxRecDepth 100000 in
set_option maxHeartbeats 4000000 in
theorem vb_X5_agrees_2 {G : evG} {d : Nat} {q : Int32 → evS → Prop} (hCl : evCl G) {x0 : Nat} {x1 : Nat} {l2 : Int32} {S : evS} (hVl0 : (0, x0) ∈ evKs G) (hVl1 : (6, x1) ∈ evKs G)
    (h : (((S.1 0 x0 10) ≤ l2 → q 1 S) ∧ (¬ (S.1 0 x0 10) ≤ l2 → (vp_in l2 6 ∧ (evSp G yX2_mileAt M_X2_mileAt d [.ref (evad G 6 x1), .int (S.1 24 0 l2.toNatClampNeg)] S (evQI fun r2 S3 => (vp_in l2 6 ∧ ((r2 = (S3.1 25 0 l2.toNatClampNeg) → (∀ v5 : Int32, v5 = (l2 + 1) → bk_X5_agrees_2 G d (evQI q) x0 x1 v5 S3)) ∧ (¬ r2 = (S3.1 25 0 l2.toNatClampNeg) → q 0 S3))))))))) : bk_X5_agrees_2 G d (evQI q) x0 x1 l2 S := by
  refine ea_iload_n (pc' := 3) (i := 2) dX5_agrees_2 rfl 2 rfl rfl ?_
  refine ea_aload_n (pc' := 4) (i := 0) dX5_agrees_3 rfl 0 rfl rfl ?_
  refine ea_geti (kf := 10) (pc' := 7) kok_0 hVl0 (by decide) rfl fl_X5_63 dX5_agrees_4 rfl ?_
  refine ea_icmp_ge (tgt := 37) (pc' := 10) dX5_agrees_7 (by decide) rfl (fun hc => ?_) (fun hc => ?_)
  · replace h := h.1 hc
    refine ea_iconst (v := 1) (pc' := 38) dX5_agrees_37 (by decide) rfl ?_
    exact ea_zret rfl dX5_agrees_38 (by decide) ⟨_, rfl, h⟩
  · replace h := h.2 hc
    refine ea_aload_n (pc' := 11) (i := 1) dX5_agrees_10 rfl 1 rfl rfl ?_
    refine ea_aload_n (pc' := 12) (i := 0) dX5_agrees_11 rfl 0 rfl rfl ?_
    refine ea_getr (k2 := 24) (x2 := 0) (kf := 8) (pc' := 15) kok_0 hVl0 (by decide) rfl fl_X5_56 rfl dX5_agrees_12 rfl ?_
    refine ea_iload_n (pc' := 16) (i := 2) dX5_agrees_15 rfl 2 rfl rfl ?_
    obtain ⟨o1, h⟩ := h
    refine ea_iald (j := l2.toNatClampNeg) (pc' := 17) (hCl.1 0 x0 8 24 hVl0 rfl) rfl o1 dX5_agrees_16 rfl rfl ?_
    refine ea_cvi (As := [.int (S.1 24 0 l2.toNatClampNeg)]) (st := []) (d := d) (pc' := 20) mv_X2_mileAt ml_X5_179 kok_6 hVl1 rfl rfl dX5_agrees_17 rfl (Nat.le_of_ble_eq_true rfl) (ev_room (by decide)) ⟨Nat.le_refl _, Nat.le_refl _⟩ h rfl (fun r2 S3 h => ?_)
    refine ea_aload_n (pc' := 21) (i := 0) dX5_agrees_20 rfl 0 rfl rfl ?_
    refine ea_getr (k2 := 25) (x2 := 0) (kf := 9) (pc' := 24) kok_0 hVl0 (by decide) rfl fl_X5_60 rfl dX5_agrees_21 rfl ?_
    refine ea_iload_n (pc' := 25) (i := 2) dX5_agrees_24 rfl 2 rfl rfl ?_
    obtain ⟨o4, h⟩ := h
    refine ea_iald (j := l2.toNatClampNeg) (pc' := 26) (hCl.1 0 x0 9 25 hVl0 rfl) rfl o4 dX5_agrees_25 rfl rfl ?_
    refine ea_icmp_eq (tgt := 31) (pc' := 29) dX5_agrees_26 (by decide) rfl (fun hc => ?_) (fun hc => ?_)
    · replace h := h.1 hc
      obtain ⟨v5, hv5⟩ : ∃ z : Int32, z = (l2 + 1) := ⟨_, rfl⟩
      replace h := h v5 hv5
      refine ea_iinc (q := 2) (v := v5) (lv' := [(2, .int v5), (0, .ref (evad G 0 x0)), (1, .ref (evad G 6 x1))]) (pc' := 34) dX5_agrees_31 rfl (by rw [hv5]; rfl) (by decide) rfl rfl ?_
      refine ea_goto (tgt := 2) dX5_agrees_34 (by decide) ?_
      refine ea_loc [1, 2, 0] rfl ?_
      exact h
    · replace h := h.2 hc
      refine ea_iconst (v := 0) (pc' := 30) dX5_agrees_29 (by decide) rfl ?_
      exact ea_zret rfl dX5_agrees_30 (by decide) ⟨_, rfl, h⟩
theorem vm_X5_agrees {G : evG} {d : Nat} {q : Int32 → evS → Prop} {x0 : Nat} {x1 : Nat} {S : evS} (h : bk_X5_agrees_0 G d (evQI q) x0 x1 S) : evSp G yX5_agrees M_X5_agrees (d + 1) [.ref (evad G 0 x0), .ref (evad G 6 x1)] S (evQI q) :=
  evSp.of (by decide +kernel) rfl (Nat.le_of_ble_eq_true rfl) h
abbrev bk_X5_look_0 (G : evG) (d : Nat) (Q : Option Value → evS → Prop) (x0 : Nat) (S : evS) : Prop := evAt G M_X5_look (evFm G (d + 1) Q) 0 [(0, .ref (evad G 0 x0))] [] S
abbrev bk_X5_look_28 (G : evG) (d : Nat) (Q : Option Value → evS → Prop) (x0 : Nat) (l1 : Int32) (l2 : Int32) (l3 : Int32) (l4 : Int32) (S : evS) : Prop := evAt G M_X5_look (evFm G (d + 1) Q) 28 [(0, .ref (evad G 0 x0)), (1, .int l1), (2, .int l2), (3, .int l3), (4, .int l4)] [] S
abbrev bk_X5_look_56 (G : evG) (d : Nat) (Q : Option Value → evS → Prop) (x0 : Nat) (l1 : Int32) (l2 : Int32) (l3 : Int32) (l4 : Int32) (S : evS) : Prop := evAt G M_X5_look (evFm G (d + 1) Q) 56 [(0, .ref (evad G 0 x0)), (1, .int l1), (2, .int l2), (3, .int l3), (4, .int l4)] [] S
set_option maxRecDepth 100000 in
set_option maxHeartbeats 4000000 in
theorem vb_X5_look_0 {G : evG} {d : Nat} {q : Int32 → evS → Prop} (hCl : evCl G) {x0 : Nat} {S : evS} (hVl0 : (0, x0) ∈ evKs G)
    (h : (evSp G yX5_drawAllPlans M_X5_drawAllPlans d [.ref (evad G 0 x0)] S (evQV fun S1 => (evSp G yX5_suspects M_X5_suspects d [.ref (evad G 0 x0)] S1 (evQI fun r2 S3 => (evSp G yJ6_bitCount_0f7a4 M_J6_bitCount_0f7a4 d [.int r2] S3 (evQI fun r4 S5 => ((2 ≤ r4 → bk_X5_look_28 G d (evQI q) x0 r2 (-9) 5 0 S5) ∧ (¬ 2 ≤ r4 → q (-9) S5))))))))) : bk_X5_look_0 G d (evQI q) x0 S := by
  refine ea_aload_n (pc' := 1) (i := 0) dX5_look_0 rfl 0 rfl rfl ?_
  refine ea_cvv (As := []) (st := []) (d := d) (pc' := 4) mv_X5_drawAllPlans ml_X5_182 kok_0 hVl0 rfl rfl dX5_look_1 rfl (Nat.le_of_ble_eq_true rfl) (ev_room (by decide)) ⟨Nat.le_refl _, Nat.le_refl _⟩ h rfl (fun S1 h => ?_)
  refine ea_aload_n (pc' := 5) (i := 0) dX5_look_4 rfl 0 rfl rfl ?_
  refine ea_cvi (As := []) (st := []) (d := d) (pc' := 8) mv_X5_suspects ml_X5_185 kok_0 hVl0 rfl rfl dX5_look_5 rfl (Nat.le_of_ble_eq_true rfl) (ev_room (by decide)) ⟨Nat.le_refl _, Nat.le_refl _⟩ h rfl (fun r2 S3 h => ?_)
  refine ea_istore_n (lv' := [(1, .int r2), (0, .ref (evad G 0 x0))]) (pc' := 9) dX5_look_8 rfl (by decide) rfl rfl ?_
  refine ea_iload_n (pc' := 10) (i := 1) dX5_look_9 rfl 0 rfl rfl ?_
  refine ea_csi (As := [.int r2]) (st := []) (d := d) (pc' := 13) mv_J6_bitCount_0f7a4 ml_X5_188 rfl dX5_look_10 rfl (Nat.le_of_ble_eq_true rfl) (ev_room (by decide)) ⟨Nat.le_refl _, Nat.le_refl _⟩ h rfl (fun r4 S5 h => ?_)
  refine ea_iconst (v := 2) (pc' := 14) dX5_look_13 (by decide) rfl ?_
  refine ea_icmp_ge (tgt := 20) (pc' := 17) dX5_look_14 (by decide) rfl (fun hc => ?_) (fun hc => ?_)
  · replace h := h.1 hc
    refine ea_bipush (v := (-9)) (pc' := 22) dX5_look_20 (by decide) rfl ?_
    refine ea_istore_n (lv' := [(2, .int (-9)), (1, .int r2), (0, .ref (evad G 0 x0))]) (pc' := 23) dX5_look_22 rfl (by decide) rfl rfl ?_
    refine ea_iconst (v := 5) (pc' := 24) dX5_look_23 (by decide) rfl ?_
    refine ea_istore_n (lv' := [(3, .int 5), (2, .int (-9)), (1, .int r2), (0, .ref (evad G 0 x0))]) (pc' := 25) dX5_look_24 rfl (by decide) rfl rfl ?_
    refine ea_iconst (v := 0) (pc' := 26) dX5_look_25 (by decide) rfl ?_
    refine ea_istore (lv' := [(4, .int 0), (3, .int 5), (2, .int (-9)), (1, .int r2), (0, .ref (evad G 0 x0))]) (pc' := 28) dX5_look_26 (by decide) rfl rfl ?_
    refine ea_loc [4, 3, 2, 1, 0] rfl ?_
    exact h
  · replace h := h.2 hc
    refine ea_bipush (v := (-9)) (pc' := 19) dX5_look_17 (by decide) rfl ?_
    exact ea_iret rfl dX5_look_19 ⟨_, rfl, h⟩
set_option maxRecDepth 100000 in
set_option maxHeartbeats 4000000 in
theorem vb_X5_look_28 {G : evG} {d : Nat} {q : Int32 → evS → Prop} (hCl : evCl G) {x0 : Nat} {l1 : Int32} {l2 : Int32} {l3 : Int32} {l4 : Int32} {S : evS} (hVl0 : (0, x0) ∈ evKs G)
    (h : ((99 < l4 → q l2 S) ∧ (¬ 99 < l4 → (evSp G yX5_mostAlike M_X5_mostAlike d [.ref (evad G 0 x0), .int l1, .int l4] S (evQI fun r1 S2 => ((l3 ≤ r1 → bk_X5_look_56 G d (evQI q) x0 l1 l2 l3 l4 S2) ∧ (¬ l3 ≤ r1 → bk_X5_look_56 G d (evQI q) x0 l1 l4 r1 l4 S2))))))) : bk_X5_look_28 G d (evQI q) x0 l1 l2 l3 l4 S := by
  refine ea_iload (pc' := 30) dX5_look_28 4 rfl rfl ?_
  refine ea_bipush (v := 99) (pc' := 32) dX5_look_30 (by decide) rfl ?_
  refine ea_icmp_gt (tgt := 62) (pc' := 35) dX5_look_32 (by decide) rfl (fun hc => ?_) (fun hc => ?_)
  · replace h := h.1 hc
    refine ea_iload_n (pc' := 63) (i := 2) dX5_look_62 rfl 2 rfl rfl ?_
    exact ea_iret rfl dX5_look_63 ⟨_, rfl, h⟩
  · replace h := h.2 hc
    refine ea_aload_n (pc' := 36) (i := 0) dX5_look_35 rfl 0 rfl rfl ?_
    refine ea_iload_n (pc' := 37) (i := 1) dX5_look_36 rfl 1 rfl rfl ?_
    refine ea_iload (pc' := 39) dX5_look_37 4 rfl rfl ?_
    refine ea_cvi (As := [.int l1, .int l4]) (st := []) (d := d) (pc' := 42) mv_X5_mostAlike ml_X5_193 kok_0 hVl0 rfl rfl dX5_look_39 rfl (Nat.le_of_ble_eq_true rfl) (ev_room (by decide)) ⟨Nat.le_refl _, Nat.le_refl _⟩ h rfl (fun r1 S2 h => ?_)
    refine ea_istore (lv' := [(5, .int r1), (0, .ref (evad G 0 x0)), (1, .int l1), (2, .int l2), (3, .int l3), (4, .int l4)]) (pc' := 44) dX5_look_42 (by decide) rfl rfl ?_
    refine ea_iload (pc' := 46) dX5_look_44 0 rfl rfl ?_
    refine ea_iload_n (pc' := 47) (i := 3) dX5_look_46 rfl 4 rfl rfl ?_
    refine ea_icmp_ge (tgt := 56) (pc' := 50) dX5_look_47 (by decide) rfl (fun hc => ?_) (fun hc => ?_)
    · replace h := h.1 hc
      refine ea_loc [1, 2, 3, 4, 5] rfl ?_
      exact h
    · replace h := h.2 hc
      refine ea_iload (pc' := 52) dX5_look_50 0 rfl rfl ?_
      refine ea_istore_n (lv' := [(3, .int r1), (5, .int r1), (0, .ref (evad G 0 x0)), (1, .int l1), (2, .int l2), (4, .int l4)]) (pc' := 53) dX5_look_52 rfl (by decide) rfl rfl ?_
      refine ea_iload (pc' := 55) dX5_look_53 5 rfl rfl ?_
      refine ea_istore_n (lv' := [(2, .int l4), (3, .int r1), (5, .int r1), (0, .ref (evad G 0 x0)), (1, .int l1), (4, .int l4)]) (pc' := 56) dX5_look_55 rfl (by decide) rfl rfl ?_
      refine ea_loc [3, 4, 0, 1, 5] rfl ?_
      exact h
set_option maxRecDepth 100000 in
set_option maxHeartbeats 4000000 in
theorem vb_X5_look_56 {G : evG} {d : Nat} {q : Int32 → evS → Prop} (hCl : evCl G) {x0 : Nat} {l1 : Int32} {l2 : Int32} {l3 : Int32} {l4 : Int32} {S : evS} (hVl0 : (0, x0) ∈ evKs G)
    (h : (∀ v1 : Int32, v1 = (l4 + 1) → bk_X5_look_28 G d (evQI q) x0 l1 l2 l3 v1 S)) : bk_X5_look_56 G d (evQI q) x0 l1 l2 l3 l4 S := by
  obtain ⟨v1, hv1⟩ : ∃ z : Int32, z = (l4 + 1) := ⟨_, rfl⟩
  replace h := h v1 hv1
  refine ea_iinc (q := 4) (v := v1) (lv' := [(4, .int v1), (0, .ref (evad G 0 x0)), (1, .int l1), (2, .int l2), (3, .int l3)]) (pc' := 59) dX5_look_56 rfl (by rw [hv1]; rfl) (by decide) rfl rfl ?_
  refine ea_goto (tgt := 28) dX5_look_59 (by decide) ?_
  refine ea_loc [1, 2, 3, 4, 0] rfl ?_
  exact h
theorem vm_X5_look {G : evG} {d : Nat} {q : Int32 → evS → Prop} {x0 : Nat} {S : evS} (h : bk_X5_look_0 G d (evQI q) x0 S) : evSp G yX5_look M_X5_look (d + 1) [.ref (evad G 0 x0)] S (evQI q) :=
  evSp.of (by decide +kernel) rfl (Nat.le_of_ble_eq_true rfl) h
abbrev bk_X5_mostAlike_0 (G : evG) (d : Nat) (Q : Option Value → evS → Prop) (x0 : Nat) (l1 : Int32) (l2 : Int32) (S : evS) : Prop := evAt G M_X5_mostAlike (evFm G (d + 1) Q) 0 [(0, .ref (evad G 0 x0)), (1, .int l1), (2, .int l2)] [] S
abbrev bk_X5_mostAlike_5 (G : evG) (d : Nat) (Q : Option Value → evS → Prop) (x0 : Nat) (l1 : Int32) (l2 : Int32) (l3 : Int32) (l4 : Int32) (S : evS) : Prop := evAt G M_X5_mostAlike (evFm G (d + 1) Q) 5 [(0, .ref (evad G 0 x0)), (1, .int l1), (2, .int l2), (3, .int l3), (4, .int l4)] [] S
abbrev bk_X5_mostAlike_56 (G : evG) (d : Nat) (Q : Option Value → evS → Prop) (x0 : Nat) (l1 : Int32) (l2 : Int32) (l3 : Int32) (l4 : Int32) (l5 : Int32) (l6 : Int32) (S : evS) : Prop := evAt G M_X5_mostAlike (evFm G (d + 1) Q) 56 [(0, .ref (evad G 0 x0)), (1, .int l1), (2, .int l2), (3, .int l3), (4, .int l4), (5, .int l5), (6, .int l6)] [] S
abbrev bk_X5_mostAlike_83 (G : evG) (d : Nat) (Q : Option Value → evS → Prop) (x0 : Nat) (l1 : Int32) (l2 : Int32) (l3 : Int32) (l4 : Int32) (l5 : Int32) (l6 : Int32) (S : evS) : Prop := evAt G M_X5_mostAlike (evFm G (d + 1) Q) 83 [(0, .ref (evad G 0 x0)), (1, .int l1), (2, .int l2), (3, .int l3), (4, .int l4), (5, .int l5), (6, .int l6)] [] S
abbrev bk_X5_mostAlike_96 (G : evG) (d : Nat) (Q : Option Value → evS → Prop) (x0 : Nat) (l1 : Int32) (l2 : Int32) (l3 : Int32) (l4 : Int32) (S : evS) : Prop := evAt G M_X5_mostAlike (evFm G (d + 1) Q) 96 [(0, .ref (evad G 0 x0)), (1, .int l1), (2, .int l2), (3, .int l3), (4, .int l4)] [] S
set_option maxRecDepth 100000 in
set_option maxHeartbeats 4000000 in
theorem vb_X5_mostAlike_0 {G : evG} {d : Nat} {q : Int32 → evS → Prop} (hCl : evCl G) {x0 : Nat} {l1 : Int32} {l2 : Int32} {S : evS} (hVl0 : (0, x0) ∈ evKs G)
    (h : bk_X5_mostAlike_5 G d (evQI q) x0 l1 l2 0 0 S) : bk_X5_mostAlike_0 G d (evQI q) x0 l1 l2 S := by
  refine ea_iconst (v := 0) (pc' := 1) dX5_mostAlike_0 (by decide) rfl ?_
  refine ea_istore_n (lv' := [(3, .int 0), (0, .ref (evad G 0 x0)), (1, .int l1), (2, .int l2)]) (pc' := 2) dX5_mostAlike_1 rfl (by decide) rfl rfl ?_
  refine ea_iconst (v := 0) (pc' := 3) dX5_mostAlike_2 (by decide) rfl ?_
  refine ea_istore (lv' := [(4, .int 0), (3, .int 0), (0, .ref (evad G 0 x0)), (1, .int l1), (2, .int l2)]) (pc' := 5) dX5_mostAlike_3 (by decide) rfl rfl ?_
  refine ea_loc [2, 3, 4, 1, 0] rfl ?_
  exact h
set_option maxRecDepth 100000 in
set_option maxHeartbeats 4000000 in
theorem vb_X5_mostAlike_5 {G : evG} {d : Nat} {q : Int32 → evS → Prop} (hCl : evCl G) {x0 : Nat} {l1 : Int32} {l2 : Int32} {l3 : Int32} {l4 : Int32} {S : evS} (hVl0 : (0, x0) ∈ evKs G)
    (h : ((4 ≤ l4 → q l3 S) ∧ (¬ 4 ≤ l4 → ((¬ ((l1 >>> (l4 &&& 31)) &&& 1) = 0 → (vp_in l4 4 ∧ (evSp G yX2_mileAt M_X2_mileAt d [.ref (evad G 6 l4.toNatClampNeg), .int l2] S (evQI fun r2 S3 => (vp_in l4 4 ∧ (∀ S5 : evS, S5 = evup S3 26 0 l4.toNatClampNeg r2 → bk_X5_mostAlike_56 G d (evQI q) x0 l1 l2 l3 l4 1 0 S5)))))) ∧ (((l1 >>> (l4 &&& 31)) &&& 1) = 0 → (vp_in l4 4 ∧ (∀ S7 : evS, S7 = evup S 26 0 l4.toNatClampNeg (-2000000) → bk_X5_mostAlike_96 G d (evQI q) x0 l1 l2 l3 l4 S7))))))) : bk_X5_mostAlike_5 G d (evQI q) x0 l1 l2 l3 l4 S := by
  refine ea_iload (pc' := 7) dX5_mostAlike_5 4 rfl rfl ?_
  refine ea_iconst (v := 4) (pc' := 8) dX5_mostAlike_7 (by decide) rfl ?_
  refine ea_icmp_ge (tgt := 102) (pc' := 11) dX5_mostAlike_8 (by decide) rfl (fun hc => ?_) (fun hc => ?_)
  · replace h := h.1 hc
    refine ea_iload_n (pc' := 103) (i := 3) dX5_mostAlike_102 rfl 3 rfl rfl ?_
    exact ea_iret rfl dX5_mostAlike_103 ⟨_, rfl, h⟩
  · replace h := h.2 hc
    refine ea_iload_n (pc' := 12) (i := 1) dX5_mostAlike_11 rfl 1 rfl rfl ?_
    refine ea_iload (pc' := 14) dX5_mostAlike_12 4 rfl rfl ?_
    refine ea_ishr (pc' := 15) dX5_mostAlike_14 rfl ?_
    refine ea_iconst (v := 1) (pc' := 16) dX5_mostAlike_15 (by decide) rfl ?_
    refine ea_iand (pc' := 17) dX5_mostAlike_16 rfl ?_
    refine ea_if_ne (tgt := 32) (pc' := 20) dX5_mostAlike_17 (by decide) rfl (fun hc => ?_) (fun hc => ?_)
    · replace h := h.1 hc
      refine ea_aload_n (pc' := 33) (i := 0) dX5_mostAlike_32 rfl 0 rfl rfl ?_
      refine ea_getr (k2 := 26) (x2 := 0) (kf := 11) (pc' := 36) kok_0 hVl0 (by decide) rfl fl_X5_67 rfl dX5_mostAlike_33 rfl ?_
      refine ea_iload (pc' := 38) dX5_mostAlike_36 4 rfl rfl ?_
      refine ea_aload_n (pc' := 39) (i := 0) dX5_mostAlike_38 rfl 0 rfl rfl ?_
      refine ea_getr (k2 := 23) (x2 := 0) (kf := 7) (pc' := 42) kok_0 hVl0 (by decide) rfl fl_X5_52 rfl dX5_mostAlike_39 rfl ?_
      refine ea_iload (pc' := 44) dX5_mostAlike_42 4 rfl rfl ?_
      obtain ⟨o1, h⟩ := h
      refine ea_aald (t0 := 5) (cn := RX2) (j := l4.toNatClampNeg) (x2 := l4.toNatClampNeg) (k2 := 6) (pc' := 45) (hCl.1 0 x0 7 23 hVl0 rfl) rfl rfl o1 dX5_mostAlike_44 rfl rfl rfl rfl ?_
      refine ea_iload_n (pc' := 46) (i := 2) dX5_mostAlike_45 rfl 2 rfl rfl ?_
      refine ea_cvi (As := [.int l2]) (st := [.int l4, .ref (evad G 26 0)]) (d := d) (pc' := 49) mv_X2_mileAt ml_X5_179 kok_6 (ev_cle (n := 4) (j := l4.toNatClampNeg) (k2 := 6) (x2 := l4.toNatClampNeg) hCl (hCl.1 0 x0 7 23 hVl0 rfl) rfl rfl o1 rfl rfl rfl) rfl rfl dX5_mostAlike_46 rfl (Nat.le_of_ble_eq_true rfl) (ev_room (by decide)) ⟨Nat.le_refl _, Nat.le_refl _⟩ h rfl (fun r2 S3 h => ?_)
      obtain ⟨o4, h⟩ := h
      refine ea_iast (j := l4.toNatClampNeg) (pc' := 50) (hCl.1 0 x0 11 26 hVl0 rfl) rfl o4 dX5_mostAlike_49 rfl rfl ?_
      refine ea_tops (fun S5 hS5 => ?_)
      replace h := h S5 hS5
      refine ea_iconst (v := 1) (pc' := 51) dX5_mostAlike_50 (by decide) rfl ?_
      refine ea_istore (lv' := [(5, .int 1), (0, .ref (evad G 0 x0)), (1, .int l1), (2, .int l2), (3, .int l3), (4, .int l4)]) (pc' := 53) dX5_mostAlike_51 (by decide) rfl rfl ?_
      refine ea_iconst (v := 0) (pc' := 54) dX5_mostAlike_53 (by decide) rfl ?_
      refine ea_istore (lv' := [(6, .int 0), (5, .int 1), (0, .ref (evad G 0 x0)), (1, .int l1), (2, .int l2), (3, .int l3), (4, .int l4)]) (pc' := 56) dX5_mostAlike_54 (by decide) rfl rfl ?_
      refine ea_loc [2, 3, 4, 5, 6, 1, 0] rfl ?_
      exact h
    · replace h := h.2 hc
      refine ea_aload_n (pc' := 21) (i := 0) dX5_mostAlike_20 rfl 0 rfl rfl ?_
      refine ea_getr (k2 := 26) (x2 := 0) (kf := 11) (pc' := 24) kok_0 hVl0 (by decide) rfl fl_X5_67 rfl dX5_mostAlike_21 rfl ?_
      refine ea_iload (pc' := 26) dX5_mostAlike_24 4 rfl rfl ?_
      refine ea_ldc (v := (-2000000)) (pc' := 28) dX5_mostAlike_26 kc_X5_146 rfl ?_
      obtain ⟨o6, h⟩ := h
      refine ea_iast (j := l4.toNatClampNeg) (pc' := 29) (hCl.1 0 x0 11 26 hVl0 rfl) rfl o6 dX5_mostAlike_28 rfl rfl ?_
      refine ea_tops (fun S7 hS7 => ?_)
      replace h := h S7 hS7
      refine ea_goto (tgt := 96) dX5_mostAlike_29 (by decide) ?_
      exact h
set_option maxRecDepth 100000 in
set_option maxHeartbeats 4000000 in
theorem vb_X5_mostAlike_56 {G : evG} {d : Nat} {q : Int32 → evS → Prop} (hCl : evCl G) {x0 : Nat} {l1 : Int32} {l2 : Int32} {l3 : Int32} {l4 : Int32} {l5 : Int32} {l6 : Int32} {S : evS} (hVl0 : (0, x0) ∈ evKs G)
    (h : ((l4 ≤ l6 → (evSp G yJ9_max_7cf53 M_J9_max_7cf53 d [.int l3, .int l5] S (evQI fun r1 S2 => bk_X5_mostAlike_96 G d (evQI q) x0 l1 l2 r1 l4 S2))) ∧ (¬ l4 ≤ l6 → (vp_in l6 4 ∧ (vp_in l4 4 ∧ ((¬ (S.1 26 0 l6.toNatClampNeg) = (S.1 26 0 l4.toNatClampNeg) → bk_X5_mostAlike_83 G d (evQI q) x0 l1 l2 l3 l4 l5 l6 S) ∧ ((S.1 26 0 l6.toNatClampNeg) = (S.1 26 0 l4.toNatClampNeg) → (∀ v5 : Int32, v5 = (l5 + 1) → bk_X5_mostAlike_83 G d (evQI q) x0 l1 l2 l3 l4 v5 l6 S)))))))) : bk_X5_mostAlike_56 G d (evQI q) x0 l1 l2 l3 l4 l5 l6 S := by
  refine ea_iload (pc' := 58) dX5_mostAlike_56 6 rfl rfl ?_
  refine ea_iload (pc' := 60) dX5_mostAlike_58 4 rfl rfl ?_
  refine ea_icmp_ge (tgt := 89) (pc' := 63) dX5_mostAlike_60 (by decide) rfl (fun hc => ?_) (fun hc => ?_)
  · replace h := h.1 hc
    refine ea_iload_n (pc' := 90) (i := 3) dX5_mostAlike_89 rfl 3 rfl rfl ?_
    refine ea_iload (pc' := 92) dX5_mostAlike_90 5 rfl rfl ?_
    refine ea_csi (As := [.int l3, .int l5]) (st := []) (d := d) (pc' := 95) mv_J9_max_7cf53 ml_X5_208 rfl dX5_mostAlike_92 rfl (Nat.le_of_ble_eq_true rfl) (ev_room (by decide)) ⟨Nat.le_refl _, Nat.le_refl _⟩ h rfl (fun r1 S2 h => ?_)
    refine ea_istore_n (lv' := [(3, .int r1), (0, .ref (evad G 0 x0)), (1, .int l1), (2, .int l2), (4, .int l4), (5, .int l5), (6, .int l6)]) (pc' := 96) dX5_mostAlike_95 rfl (by decide) rfl rfl ?_
    refine ea_loc [1, 2, 3, 0, 4] rfl ?_
    exact h
  · replace h := h.2 hc
    refine ea_aload_n (pc' := 64) (i := 0) dX5_mostAlike_63 rfl 0 rfl rfl ?_
    refine ea_getr (k2 := 26) (x2 := 0) (kf := 11) (pc' := 67) kok_0 hVl0 (by decide) rfl fl_X5_67 rfl dX5_mostAlike_64 rfl ?_
    refine ea_iload (pc' := 69) dX5_mostAlike_67 6 rfl rfl ?_
    obtain ⟨o3, h⟩ := h
    refine ea_iald (j := l6.toNatClampNeg) (pc' := 70) (hCl.1 0 x0 11 26 hVl0 rfl) rfl o3 dX5_mostAlike_69 rfl rfl ?_
    refine ea_aload_n (pc' := 71) (i := 0) dX5_mostAlike_70 rfl 0 rfl rfl ?_
    refine ea_getr (k2 := 26) (x2 := 0) (kf := 11) (pc' := 74) kok_0 hVl0 (by decide) rfl fl_X5_67 rfl dX5_mostAlike_71 rfl ?_
    refine ea_iload (pc' := 76) dX5_mostAlike_74 4 rfl rfl ?_
    obtain ⟨o4, h⟩ := h
    refine ea_iald (j := l4.toNatClampNeg) (pc' := 77) (hCl.1 0 x0 11 26 hVl0 rfl) rfl o4 dX5_mostAlike_76 rfl rfl ?_
    refine ea_icmp_ne (tgt := 83) (pc' := 80) dX5_mostAlike_77 (by decide) rfl (fun hc => ?_) (fun hc => ?_)
    · replace h := h.1 hc
      exact h
    · replace h := h.2 hc
      obtain ⟨v5, hv5⟩ : ∃ z : Int32, z = (l5 + 1) := ⟨_, rfl⟩
      replace h := h v5 hv5
      refine ea_iinc (q := 5) (v := v5) (lv' := [(5, .int v5), (0, .ref (evad G 0 x0)), (1, .int l1), (2, .int l2), (3, .int l3), (4, .int l4), (6, .int l6)]) (pc' := 83) dX5_mostAlike_80 rfl (by rw [hv5]; rfl) (by decide) rfl rfl ?_
      refine ea_loc [1, 2, 3, 4, 5, 0, 6] rfl ?_
      exact h
set_option maxRecDepth 100000 in
set_option maxHeartbeats 4000000 in
theorem vb_X5_mostAlike_83 {G : evG} {d : Nat} {q : Int32 → evS → Prop} (hCl : evCl G) {x0 : Nat} {l1 : Int32} {l2 : Int32} {l3 : Int32} {l4 : Int32} {l5 : Int32} {l6 : Int32} {S : evS} (hVl0 : (0, x0) ∈ evKs G)
    (h : (∀ v1 : Int32, v1 = (l6 + 1) → bk_X5_mostAlike_56 G d (evQI q) x0 l1 l2 l3 l4 l5 v1 S)) : bk_X5_mostAlike_83 G d (evQI q) x0 l1 l2 l3 l4 l5 l6 S := by
  obtain ⟨v1, hv1⟩ : ∃ z : Int32, z = (l6 + 1) := ⟨_, rfl⟩
  replace h := h v1 hv1
  refine ea_iinc (q := 6) (v := v1) (lv' := [(6, .int v1), (0, .ref (evad G 0 x0)), (1, .int l1), (2, .int l2), (3, .int l3), (4, .int l4), (5, .int l5)]) (pc' := 86) dX5_mostAlike_83 rfl (by rw [hv1]; rfl) (by decide) rfl rfl ?_
  refine ea_goto (tgt := 56) dX5_mostAlike_86 (by decide) ?_
  refine ea_loc [1, 2, 3, 4, 5, 6, 0] rfl ?_
  exact h
set_option maxRecDepth 100000 in
set_option maxHeartbeats 4000000 in
theorem vb_X5_mostAlike_96 {G : evG} {d : Nat} {q : Int32 → evS → Prop} (hCl : evCl G) {x0 : Nat} {l1 : Int32} {l2 : Int32} {l3 : Int32} {l4 : Int32} {S : evS} (hVl0 : (0, x0) ∈ evKs G)
    (h : (∀ v1 : Int32, v1 = (l4 + 1) → bk_X5_mostAlike_5 G d (evQI q) x0 l1 l2 l3 v1 S)) : bk_X5_mostAlike_96 G d (evQI q) x0 l1 l2 l3 l4 S := by
  obtain ⟨v1, hv1⟩ : ∃ z : Int32, z = (l4 + 1) := ⟨_, rfl⟩
  replace h := h v1 hv1
  refine ea_iinc (q := 4) (v := v1) (lv' := [(4, .int v1), (0, .ref (evad G 0 x0)), (1, .int l1), (2, .int l2), (3, .int l3)]) (pc' := 99) dX5_mostAlike_96 rfl (by rw [hv1]; rfl) (by decide) rfl rfl ?_
  refine ea_goto (tgt := 5) dX5_mostAlike_99 (by decide) ?_
  refine ea_loc [1, 2, 3, 4, 0] rfl ?_
  exact h
theorem vm_X5_mostAlike {G : evG} {d : Nat} {q : Int32 → evS → Prop} {x0 : Nat} {l1 : Int32} {l2 : Int32} {S : evS} (h : bk_X5_mostAlike_0 G d (evQI q) x0 l1 l2 S) : evSp G yX5_mostAlike M_X5_mostAlike (d + 1) [.ref (evad G 0 x0), .int l1, .int l2] S (evQI q) :=
  evSp.of (by decide +kernel) rfl (Nat.le_of_ble_eq_true rfl) h
abbrev bk_X5_keep_0 (G : evG) (d : Nat) (Q : Option Value → evS → Prop) (x0 : Nat) (l1 : Int32) (S : evS) : Prop := evAt G M_X5_keep (evFm G (d + 1) Q) 0 [(0, .ref (evad G 0 x0)), (1, .int l1)] [] S
set_option maxRecDepth 100000 in
set_option maxHeartbeats 4000000 in
theorem vb_X5_keep_0 {G : evG} {d : Nat} {q : Int32 → evS → Prop} (hCl : evCl G) {x0 : Nat} {l1 : Int32} {S : evS} (hVl0 : (0, x0) ∈ evKs G)
    (h : ((l1 < 0 → q (-1) S) ∧ (¬ l1 < 0 → ((l1 < 2 → (vp_in l1 2 ∧ (evSp G yX0_becomeLike M_X0_becomeLike d [.ref (evad G 1 (7 + l1.toNatClampNeg)), .ref (evad G 1 0)] S (evQV fun S2 => (vp_in l1 2 ∧ (∀ S4 : evS, S4 = evup S2 22 0 l1.toNatClampNeg 1 → (evSp G yX0_legsInAll M_X0_legsInAll d [.ref (evad G 1 0)] S4 (evQI fun r5 S6 => q r5 S6)))))))) ∧ (¬ l1 < 2 → q (-1) S))))) : bk_X5_keep_0 G d (evQI q) x0 l1 S := by
  refine ea_iload_n (pc' := 1) (i := 1) dX5_keep_0 rfl 1 rfl rfl ?_
  refine ea_if_lt (tgt := 9) (pc' := 4) dX5_keep_1 (by decide) rfl (fun hc => ?_) (fun hc => ?_)
  · replace h := h.1 hc
    refine ea_iconst (v := (-1)) (pc' := 10) dX5_keep_9 (by decide) rfl ?_
    exact ea_iret rfl dX5_keep_10 ⟨_, rfl, h⟩
  · replace h := h.2 hc
    refine ea_iload_n (pc' := 5) (i := 1) dX5_keep_4 rfl 1 rfl rfl ?_
    refine ea_iconst (v := 2) (pc' := 6) dX5_keep_5 (by decide) rfl ?_
    refine ea_icmp_lt (tgt := 11) (pc' := 9) dX5_keep_6 (by decide) rfl (fun hc => ?_) (fun hc => ?_)
    · replace h := h.1 hc
      refine ea_aload_n (pc' := 12) (i := 0) dX5_keep_11 rfl 0 rfl rfl ?_
      refine ea_getr (k2 := 21) (x2 := 0) (kf := 2) (pc' := 15) kok_0 hVl0 (by decide) rfl fl_X5_23 rfl dX5_keep_12 rfl ?_
      refine ea_iload_n (pc' := 16) (i := 1) dX5_keep_15 rfl 1 rfl rfl ?_
      obtain ⟨o1, h⟩ := h
      refine ea_aald (t0 := 3) (cn := RX0) (j := l1.toNatClampNeg) (x2 := (7 + l1.toNatClampNeg)) (k2 := 1) (pc' := 17) (hCl.1 0 x0 2 21 hVl0 rfl) rfl rfl o1 dX5_keep_16 rfl rfl rfl rfl ?_
      refine ea_aload_n (pc' := 18) (i := 0) dX5_keep_17 rfl 0 rfl rfl ?_
      refine ea_getr (k2 := 1) (x2 := 0) (kf := 0) (pc' := 21) kok_0 hVl0 (by decide) rfl fl_X5_10 rfl dX5_keep_18 rfl ?_
      refine ea_cvv (As := [.ref (evad G 1 0)]) (st := []) (d := d) (pc' := 24) mv_X0_becomeLike ml_X5_196 kok_1 (ev_cle (n := 2) (j := l1.toNatClampNeg) (k2 := 1) (x2 := (7 + l1.toNatClampNeg)) hCl (hCl.1 0 x0 2 21 hVl0 rfl) rfl rfl o1 rfl rfl rfl) rfl rfl dX5_keep_21 rfl (Nat.le_of_ble_eq_true rfl) (ev_room (by decide)) ⟨Nat.le_refl _, Nat.le_refl _⟩ h rfl (fun S2 h => ?_)
      refine ea_aload_n (pc' := 25) (i := 0) dX5_keep_24 rfl 0 rfl rfl ?_
      refine ea_getr (k2 := 22) (x2 := 0) (kf := 3) (pc' := 28) kok_0 hVl0 (by decide) rfl fl_X5_27 rfl dX5_keep_25 rfl ?_
      refine ea_iload_n (pc' := 29) (i := 1) dX5_keep_28 rfl 1 rfl rfl ?_
      refine ea_iconst (v := 1) (pc' := 30) dX5_keep_29 (by decide) rfl ?_
      obtain ⟨o3, h⟩ := h
      refine ea_zast (j := l1.toNatClampNeg) (pc' := 31) (hCl.1 0 x0 3 22 hVl0 rfl) rfl (by decide) o3 dX5_keep_30 rfl rfl ?_
      refine ea_tops (fun S4 hS4 => ?_)
      replace h := h S4 hS4
      refine ea_aload_n (pc' := 32) (i := 0) dX5_keep_31 rfl 0 rfl rfl ?_
      refine ea_getr (k2 := 1) (x2 := 0) (kf := 0) (pc' := 35) kok_0 hVl0 (by decide) rfl fl_X5_10 rfl dX5_keep_32 rfl ?_
      refine ea_cvi (As := []) (st := []) (d := d) (pc' := 38) mv_X0_legsInAll ml_X5_198 kok_1 (hCl.1 0 x0 0 1 hVl0 rfl) rfl rfl dX5_keep_35 rfl (Nat.le_of_ble_eq_true rfl) (ev_room (by decide)) ⟨Nat.le_refl _, Nat.le_refl _⟩ h rfl (fun r5 S6 h => ?_)
      exact ea_iret rfl dX5_keep_38 ⟨_, rfl, h⟩
    · replace h := h.2 hc
      refine ea_iconst (v := (-1)) (pc' := 10) dX5_keep_9 (by decide) rfl ?_
      exact ea_iret rfl dX5_keep_10 ⟨_, rfl, h⟩
theorem vm_X5_keep {G : evG} {d : Nat} {q : Int32 → evS → Prop} {x0 : Nat} {l1 : Int32} {S : evS} (h : bk_X5_keep_0 G d (evQI q) x0 l1 S) : evSp G yX5_keep M_X5_keep (d + 1) [.ref (evad G 0 x0), .int l1] S (evQI q) :=
  evSp.of (by decide +kernel) rfl (Nat.le_of_ble_eq_true rfl) h
abbrev bk_X5_back_0 (G : evG) (d : Nat) (Q : Option Value → evS → Prop) (x0 : Nat) (l1 : Int32) (S : evS) : Prop := evAt G M_X5_back (evFm G (d + 1) Q) 0 [(0, .ref (evad G 0 x0)), (1, .int l1)] [] S
set_option maxRecDepth 100000 in
set_option maxHeartbeats 4000000 in
theorem vb_X5_back_0 {G : evG} {d : Nat} {q : Int32 → evS → Prop} (hCl : evCl G) {x0 : Nat} {l1 : Int32} {S : evS} (hVl0 : (0, x0) ∈ evKs G)
    (h : ((l1 < 0 → q (-1) S) ∧ (¬ l1 < 0 → ((l1 < 2 → (vp_in l1 2 ∧ ((¬ (S.1 22 0 l1.toNatClampNeg) = 0 → (vp_in l1 2 ∧ (evSp G yX0_becomeLike M_X0_becomeLike d [.ref (evad G 1 0), .ref (evad G 1 (7 + l1.toNatClampNeg))] S (evQV fun S3 => (evSp G yX1_lose M_X1_lose d [.ref (evad G 16 0)] S3 (evQV fun S4 => (evSp G yX0_legsInAll M_X0_legsInAll d [.ref (evad G 1 0)] S4 (evQI fun r5 S6 => q r5 S6)))))))) ∧ ((S.1 22 0 l1.toNatClampNeg) = 0 → q (-2) S)))) ∧ (¬ l1 < 2 → q (-1) S))))) : bk_X5_back_0 G d (evQI q) x0 l1 S := by
  refine ea_iload_n (pc' := 1) (i := 1) dX5_back_0 rfl 1 rfl rfl ?_
  refine ea_if_lt (tgt := 9) (pc' := 4) dX5_back_1 (by decide) rfl (fun hc => ?_) (fun hc => ?_)
  · replace h := h.1 hc
    refine ea_iconst (v := (-1)) (pc' := 10) dX5_back_9 (by decide) rfl ?_
    exact ea_iret rfl dX5_back_10 ⟨_, rfl, h⟩
  · replace h := h.2 hc
    refine ea_iload_n (pc' := 5) (i := 1) dX5_back_4 rfl 1 rfl rfl ?_
    refine ea_iconst (v := 2) (pc' := 6) dX5_back_5 (by decide) rfl ?_
    refine ea_icmp_lt (tgt := 11) (pc' := 9) dX5_back_6 (by decide) rfl (fun hc => ?_) (fun hc => ?_)
    · replace h := h.1 hc
      refine ea_aload_n (pc' := 12) (i := 0) dX5_back_11 rfl 0 rfl rfl ?_
      refine ea_getr (k2 := 22) (x2 := 0) (kf := 3) (pc' := 15) kok_0 hVl0 (by decide) rfl fl_X5_27 rfl dX5_back_12 rfl ?_
      refine ea_iload_n (pc' := 16) (i := 1) dX5_back_15 rfl 1 rfl rfl ?_
      obtain ⟨o1, h⟩ := h
      refine ea_zald (j := l1.toNatClampNeg) (pc' := 17) (hCl.1 0 x0 3 22 hVl0 rfl) rfl o1 dX5_back_16 rfl rfl ?_
      refine ea_if_ne (tgt := 23) (pc' := 20) dX5_back_17 (by decide) rfl (fun hc => ?_) (fun hc => ?_)
      · replace h := h.1 hc
        refine ea_aload_n (pc' := 24) (i := 0) dX5_back_23 rfl 0 rfl rfl ?_
        refine ea_getr (k2 := 1) (x2 := 0) (kf := 0) (pc' := 27) kok_0 hVl0 (by decide) rfl fl_X5_10 rfl dX5_back_24 rfl ?_
        refine ea_aload_n (pc' := 28) (i := 0) dX5_back_27 rfl 0 rfl rfl ?_
        refine ea_getr (k2 := 21) (x2 := 0) (kf := 2) (pc' := 31) kok_0 hVl0 (by decide) rfl fl_X5_23 rfl dX5_back_28 rfl ?_
        refine ea_iload_n (pc' := 32) (i := 1) dX5_back_31 rfl 1 rfl rfl ?_
        obtain ⟨o2, h⟩ := h
        refine ea_aald (t0 := 3) (cn := RX0) (j := l1.toNatClampNeg) (x2 := (7 + l1.toNatClampNeg)) (k2 := 1) (pc' := 33) (hCl.1 0 x0 2 21 hVl0 rfl) rfl rfl o2 dX5_back_32 rfl rfl rfl rfl ?_
        refine ea_cvv (As := [.ref (evad G 1 (7 + l1.toNatClampNeg))]) (st := []) (d := d) (pc' := 36) mv_X0_becomeLike ml_X5_196 kok_1 (hCl.1 0 x0 0 1 hVl0 rfl) rfl rfl dX5_back_33 rfl (Nat.le_of_ble_eq_true rfl) (ev_room (by decide)) ⟨Nat.le_refl _, Nat.le_refl _⟩ h rfl (fun S3 h => ?_)
        refine ea_aload_n (pc' := 37) (i := 0) dX5_back_36 rfl 0 rfl rfl ?_
        refine ea_getr (k2 := 16) (x2 := 0) (kf := 1) (pc' := 40) kok_0 hVl0 (by decide) rfl fl_X5_19 rfl dX5_back_37 rfl ?_
        refine ea_cvv (As := []) (st := []) (d := d) (pc' := 43) mv_X1_lose ml_X5_201 kok_16 (hCl.1 0 x0 1 16 hVl0 rfl) rfl rfl dX5_back_40 rfl (Nat.le_of_ble_eq_true rfl) (ev_room (by decide)) ⟨Nat.le_refl _, Nat.le_refl _⟩ h rfl (fun S4 h => ?_)
        refine ea_aload_n (pc' := 44) (i := 0) dX5_back_43 rfl 0 rfl rfl ?_
        refine ea_getr (k2 := 1) (x2 := 0) (kf := 0) (pc' := 47) kok_0 hVl0 (by decide) rfl fl_X5_10 rfl dX5_back_44 rfl ?_
        refine ea_cvi (As := []) (st := []) (d := d) (pc' := 50) mv_X0_legsInAll ml_X5_198 kok_1 (hCl.1 0 x0 0 1 hVl0 rfl) rfl rfl dX5_back_47 rfl (Nat.le_of_ble_eq_true rfl) (ev_room (by decide)) ⟨Nat.le_refl _, Nat.le_refl _⟩ h rfl (fun r5 S6 h => ?_)
        exact ea_iret rfl dX5_back_50 ⟨_, rfl, h⟩
      · replace h := h.2 hc
        refine ea_bipush (v := (-2)) (pc' := 22) dX5_back_20 (by decide) rfl ?_
        exact ea_iret rfl dX5_back_22 ⟨_, rfl, h⟩
    · replace h := h.2 hc
      refine ea_iconst (v := (-1)) (pc' := 10) dX5_back_9 (by decide) rfl ?_
      exact ea_iret rfl dX5_back_10 ⟨_, rfl, h⟩
theorem vm_X5_back {G : evG} {d : Nat} {q : Int32 → evS → Prop} {x0 : Nat} {l1 : Int32} {S : evS} (h : bk_X5_back_0 G d (evQI q) x0 l1 S) : evSp G yX5_back M_X5_back (d + 1) [.ref (evad G 0 x0), .int l1] S (evQI q) :=
  evSp.of (by decide +kernel) rfl (Nat.le_of_ble_eq_true rfl) h
abbrev bk_X5_count_0 (G : evG) (d : Nat) (Q : Option Value → evS → Prop) (x0 : Nat) (l1 : Int32) (S : evS) : Prop := evAt G M_X5_count (evFm G (d + 1) Q) 0 [(0, .ref (evad G 0 x0)), (1, .int l1)] [] S
set_option maxRecDepth 100000 in
set_option maxHeartbeats 4000000 in
theorem vb_X5_count_0 {G : evG} {d : Nat} {q : Int32 → evS → Prop} (hCl : evCl G) {x0 : Nat} {l1 : Int32} {S : evS} (hVl0 : (0, x0) ∈ evKs G)
    (h : ((l1.toInt = 0 + (0 : Nat) → (evSp G yX0_legsInAll M_X0_legsInAll d [.ref (evad G 1 0)] S (evQI fun r1 S2 => q r1 S2))) ∧ (l1.toInt = 0 + (1 : Nat) → q (S.1 0 x0 10) S) ∧ (l1.toInt = 0 + (2 : Nat) → (evSp G yX4_length M_X4_length d [.ref (evad G 18 0)] S (evQI fun r3 S4 => q r3 S4))) ∧ (l1.toInt = 0 + (3 : Nat) → (evSp G yX1_known M_X1_known d [.ref (evad G 16 0)] S (evQI fun r5 S6 => q r5 S6))) ∧ (l1.toInt < 0 ∨ 3 < l1.toInt → q (-1) S))) : bk_X5_count_0 G d (evQI q) x0 l1 S := by
  refine ea_iload_n (pc' := 1) (i := 1) dX5_count_0 rfl 1 rfl rfl ?_
  refine ea_table (n := 4) (tgd := 61) (fun j => [32, 40, 45, 53].getD j 0) dX5_count_1 (by decide) (by decide) (by decide) (fun j hj hx => ?_) (fun hx => ?_)
  · match j, hj, hx with
    | 0, _, hx =>
      replace h := h.1 hx
      show evAt G M_X5_count _ 32 _ _ _
      refine ea_aload_n (pc' := 33) (i := 0) dX5_count_32 rfl 0 rfl rfl ?_
      refine ea_getr (k2 := 1) (x2 := 0) (kf := 0) (pc' := 36) kok_0 hVl0 (by decide) rfl fl_X5_10 rfl dX5_count_33 rfl ?_
      refine ea_cvi (As := []) (st := []) (d := d) (pc' := 39) mv_X0_legsInAll ml_X5_198 kok_1 (hCl.1 0 x0 0 1 hVl0 rfl) rfl rfl dX5_count_36 rfl (Nat.le_of_ble_eq_true rfl) (ev_room (by decide)) ⟨Nat.le_refl _, Nat.le_refl _⟩ h rfl (fun r1 S2 h => ?_)
      exact ea_iret rfl dX5_count_39 ⟨_, rfl, h⟩
    | 1, _, hx =>
      replace h := h.2.1 hx
      show evAt G M_X5_count _ 40 _ _ _
      refine ea_aload_n (pc' := 41) (i := 0) dX5_count_40 rfl 0 rfl rfl ?_
      refine ea_geti (kf := 10) (pc' := 44) kok_0 hVl0 (by decide) rfl fl_X5_63 dX5_count_41 rfl ?_
      exact ea_iret rfl dX5_count_44 ⟨_, rfl, h⟩
    | 2, _, hx =>
      replace h := h.2.2.1 hx
      show evAt G M_X5_count _ 45 _ _ _
      refine ea_aload_n (pc' := 46) (i := 0) dX5_count_45 rfl 0 rfl rfl ?_
      refine ea_getr (k2 := 18) (x2 := 0) (kf := 4) (pc' := 49) kok_0 hVl0 (by decide) rfl fl_X5_34 rfl dX5_count_46 rfl ?_
      refine ea_cvi (As := []) (st := []) (d := d) (pc' := 52) mv_X4_length ml_X5_74 kok_18 (hCl.1 0 x0 4 18 hVl0 rfl) rfl rfl dX5_count_49 rfl (Nat.le_of_ble_eq_true rfl) (ev_room (by decide)) ⟨Nat.le_refl _, Nat.le_refl _⟩ h rfl (fun r3 S4 h => ?_)
      exact ea_iret rfl dX5_count_52 ⟨_, rfl, h⟩
    | 3, _, hx =>
      replace h := h.2.2.2.1 hx
      show evAt G M_X5_count _ 53 _ _ _
      refine ea_aload_n (pc' := 54) (i := 0) dX5_count_53 rfl 0 rfl rfl ?_
      refine ea_getr (k2 := 16) (x2 := 0) (kf := 1) (pc' := 57) kok_0 hVl0 (by decide) rfl fl_X5_19 rfl dX5_count_54 rfl ?_
      refine ea_cvi (As := []) (st := []) (d := d) (pc' := 60) mv_X1_known ml_X5_133 kok_16 (hCl.1 0 x0 1 16 hVl0 rfl) rfl rfl dX5_count_57 rfl (Nat.le_of_ble_eq_true rfl) (ev_room (by decide)) ⟨Nat.le_refl _, Nat.le_refl _⟩ h rfl (fun r5 S6 h => ?_)
      exact ea_iret rfl dX5_count_60 ⟨_, rfl, h⟩
  · replace h := h.2.2.2.2 hx
    refine ea_iconst (v := (-1)) (pc' := 62) dX5_count_61 (by decide) rfl ?_
    exact ea_iret rfl dX5_count_62 ⟨_, rfl, h⟩
theorem vm_X5_count {G : evG} {d : Nat} {q : Int32 → evS → Prop} {x0 : Nat} {l1 : Int32} {S : evS} (h : bk_X5_count_0 G d (evQI q) x0 l1 S) : evSp G yX5_count M_X5_count (d + 1) [.ref (evad G 0 x0), .int l1] S (evQI q) :=
  evSp.of (by decide +kernel) rfl (Nat.le_of_ble_eq_true rfl) h
