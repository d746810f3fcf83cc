abbrev bk_X6_which_0 (G : evG) (d : Nat) (Q : Option Value → evS → Prop) (x0 : Nat) (S : evS) : Prop := evAt G M_X6_which (evFm G (d + 1) Q) 0 [(0, .ref (evad G 30 x0))] [] S
set_option maxRecDepth 100000 in
set_option maxHeartbeats 4000000 in
theorem vb_X6_which_0 {G : evG} {d : Nat} {q : Int32 → evS → Prop} (hCl : evCl G) {x0 : Nat} {S : evS} (hVl0 : (30, x0) ∈ evKs G)
    (h : (evSp G yX6_whichNow M_X6_whichNow d [.ref (evad G 30 x0)] S (evQI fun r1 S2 => q r1 S2))) : bk_X6_which_0 G d (evQI q) x0 S := by
  refine ea_aload_n (pc' := 1) (i := 0) dX6_which_0 rfl 0 rfl rfl ?_
  refine ea_cvi (As := []) (st := []) (d := d) (pc' := 4) mv_X6_whichNow ml_X6_214 kok_30 hVl0 rfl rfl dX6_which_1 rfl (Nat.le_of_ble_eq_true rfl) (ev_room (by decide)) ⟨Nat.le_refl _, Nat.le_refl _⟩ h rfl (fun r1 S2 h => ?_)
  exact ea_iret rfl dX6_which_4 ⟨_, rfl, h⟩
theorem vm_X6_which {G : evG} {d : Nat} {q : Int32 → evS → Prop} {x0 : Nat} {S : evS} (h : bk_X6_which_0 G d (evQI q) x0 S) : evSp G yX6_which M_X6_which (d + 1) [.ref (evad G 30 x0)] S (evQI q) :=
  evSp.of (by decide +kernel) rfl (Nat.le_of_ble_eq_true rfl) h
abbrev bk_X6_whichNow_0 (G : evG) (d : Nat) (Q : Option Value → evS → Prop) (x0 : Nat) (S : evS) : Prop := evAt G M_X6_whichNow (evFm G (d + 1) Q) 0 [(0, .ref (evad G 30 x0))] [] S
abbrev bk_X6_whichNow_4 (G : evG) (d : Nat) (Q : Option Value → evS → Prop) (x0 : Nat) (l1 : Int32) (l2 : Int32) (S : evS) : Prop := evAt G M_X6_whichNow (evFm G (d + 1) Q) 4 [(0, .ref (evad G 30 x0)), (1, .int l1), (2, .int l2)] [] S
abbrev bk_X6_whichNow_14 (G : evG) (d : Nat) (Q : Option Value → evS → Prop) (x0 : Nat) (l1 : Int32) (l2 : Int32) (l3 : Int32) (l4 : Int32) (S : evS) : Prop := evAt G M_X6_whichNow (evFm G (d + 1) Q) 14 [(0, .ref (evad G 30 x0)), (1, .int l1), (2, .int l2), (3, .int l3), (4, .int l4)] [] S
abbrev bk_X6_whichNow_60 (G : evG) (d : Nat) (Q : Option Value → evS → Prop) (x0 : Nat) (l1 : Int32) (l2 : Int32) (l4 : Int32) (s0 : Int32) (S : evS) : Prop := evAt G M_X6_whichNow (evFm G (d + 1) Q) 60 [(0, .ref (evad G 30 x0)), (1, .int l1), (2, .int l2), (4, .int l4)] [.int s0] S
abbrev bk_X6_whichNow_67 (G : evG) (d : Nat) (Q : Option Value → evS → Prop) (x0 : Nat) (l1 : Int32) (l2 : Int32) (l3 : Int32) (S : evS) : Prop := evAt G M_X6_whichNow (evFm G (d + 1) Q) 67 [(0, .ref (evad G 30 x0)), (1, .int l1), (2, .int l2), (3, .int l3)] [] S
abbrev bk_X6_whichNow_79 (G : evG) (d : Nat) (Q : Option Value → evS → Prop) (x0 : Nat) (l2 : Int32) (s0 : Int32) (s1 : Int32) (S : evS) : Prop := evAt G M_X6_whichNow (evFm G (d + 1) Q) 79 [(0, .ref (evad G 30 x0)), (2, .int l2)] [.int s1, .int s0] S
set_option maxRecDepth 100000 in
set_option maxHeartbeats 4000000 in
theorem vb_X6_whichNow_0 {G : evG} {d : Nat} {q : Int32 → evS → Prop} (hCl : evCl G) {x0 : Nat} {S : evS} (hVl0 : (30, x0) ∈ evKs G)
    (h : bk_X6_whichNow_4 G d (evQI q) x0 0 0 S) : bk_X6_whichNow_0 G d (evQI q) x0 S := by
  refine ea_iconst (v := 0) (pc' := 1) dX6_whichNow_0 (by decide) rfl ?_
  refine ea_istore_n (lv' := [(1, .int 0), (0, .ref (evad G 30 x0))]) (pc' := 2) dX6_whichNow_1 rfl (by decide) rfl rfl ?_
  refine ea_iconst (v := 0) (pc' := 3) dX6_whichNow_2 (by decide) rfl ?_
  refine ea_istore_n (lv' := [(2, .int 0), (1, .int 0), (0, .ref (evad G 30 x0))]) (pc' := 4) dX6_whichNow_3 rfl (by decide) rfl rfl ?_
  refine ea_loc [2, 1, 0] rfl ?_
  exact h
set_option maxRecDepth 100000 in
set_option maxHeartbeats 4000000 in
theorem vb_X6_whichNow_4 {G : evG} {d : Nat} {q : Int32 → evS → Prop} (hCl : evCl G) {x0 : Nat} {l1 : Int32} {l2 : Int32} {S : evS} (hVl0 : (30, x0) ∈ evKs G)
    (h : ((4 ≤ l2 → q l1 S) ∧ (¬ 4 ≤ l2 → bk_X6_whichNow_14 G d (evQI q) x0 l1 l2 1 0 S))) : bk_X6_whichNow_4 G d (evQI q) x0 l1 l2 S := by
  refine ea_iload_n (pc' := 5) (i := 2) dX6_whichNow_4 rfl 2 rfl rfl ?_
  refine ea_iconst (v := 4) (pc' := 6) dX6_whichNow_5 (by decide) rfl ?_
  refine ea_icmp_ge (tgt := 87) (pc' := 9) dX6_whichNow_6 (by decide) rfl (fun hc => ?_) (fun hc => ?_)
  · replace h := h.1 hc
    refine ea_iload_n (pc' := 88) (i := 1) dX6_whichNow_87 rfl 1 rfl rfl ?_
    exact ea_iret rfl dX6_whichNow_88 ⟨_, rfl, h⟩
  · replace h := h.2 hc
    refine ea_iconst (v := 1) (pc' := 10) dX6_whichNow_9 (by decide) rfl ?_
    refine ea_istore_n (lv' := [(3, .int 1), (0, .ref (evad G 30 x0)), (1, .int l1), (2, .int l2)]) (pc' := 11) dX6_whichNow_10 rfl (by decide) rfl rfl ?_
    refine ea_iconst (v := 0) (pc' := 12) dX6_whichNow_11 (by decide) rfl ?_
    refine ea_istore (lv' := [(4, .int 0), (3, .int 1), (0, .ref (evad G 30 x0)), (1, .int l1), (2, .int l2)]) (pc' := 14) dX6_whichNow_12 (by decide) rfl rfl ?_
    refine ea_loc [2, 3, 4, 1, 0] rfl ?_
    exact h
set_option maxRecDepth 100000 in
set_option maxHeartbeats 4000000 in
theorem vb_X6_whichNow_14 {G : evG} {d : Nat} {q : Int32 → evS → Prop} (hCl : evCl G) {x0 : Nat} {l1 : Int32} {l2 : Int32} {l3 : Int32} {l4 : Int32} {S : evS} (hVl0 : (30, x0) ∈ evKs G)
    (h : (((S.1 30 x0 8) ≤ l4 → bk_X6_whichNow_67 G d (evQI q) x0 l1 l2 l3 S) ∧ (¬ (S.1 30 x0 8) ≤ l4 → ((l3 = 0 → bk_X6_whichNow_67 G d (evQI q) x0 l1 l2 l3 S) ∧ (¬ l3 = 0 → (vp_in (2 * l4) 12 ∧ (evSp G yX6_mileOf M_X6_mileOf d [.ref (evad G 30 x0), .int l2, .int (S.1 38 0 ((2 * l4).toNatClampNeg))] S (evQI fun r2 S3 => (vp_in ((2 * l4) + 1) 12 ∧ ((¬ r2 = (S3.1 38 0 (((2 * l4) + 1).toNatClampNeg)) → bk_X6_whichNow_60 G d (evQI q) x0 l1 l2 l4 0 S3) ∧ (r2 = (S3.1 38 0 (((2 * l4) + 1).toNatClampNeg)) → bk_X6_whichNow_60 G d (evQI q) x0 l1 l2 l4 1 S3))))))))))) : bk_X6_whichNow_14 G d (evQI q) x0 l1 l2 l3 l4 S := by
  refine ea_iload (pc' := 16) dX6_whichNow_14 4 rfl rfl ?_
  refine ea_aload_n (pc' := 17) (i := 0) dX6_whichNow_16 rfl 0 rfl rfl ?_
  refine ea_geti (kf := 8) (pc' := 20) kok_30 hVl0 (by decide) rfl fl_X6_211 dX6_whichNow_17 rfl ?_
  refine ea_icmp_ge (tgt := 67) (pc' := 23) dX6_whichNow_20 (by decide) rfl (fun hc => ?_) (fun hc => ?_)
  · replace h := h.1 hc
    refine ea_loc [0, 1, 2, 3] rfl ?_
    exact h
  · replace h := h.2 hc
    refine ea_iload_n (pc' := 24) (i := 3) dX6_whichNow_23 rfl 3 rfl rfl ?_
    refine ea_if_eq (tgt := 67) (pc' := 27) dX6_whichNow_24 (by decide) rfl (fun hc => ?_) (fun hc => ?_)
    · replace h := h.1 hc
      refine ea_loc [0, 1, 2, 3] rfl ?_
      exact h
    · replace h := h.2 hc
      refine ea_aload_n (pc' := 28) (i := 0) dX6_whichNow_27 rfl 0 rfl rfl ?_
      refine ea_iload_n (pc' := 29) (i := 2) dX6_whichNow_28 rfl 2 rfl rfl ?_
      refine ea_aload_n (pc' := 30) (i := 0) dX6_whichNow_29 rfl 0 rfl rfl ?_
      refine ea_getr (k2 := 38) (x2 := 0) (kf := 7) (pc' := 33) kok_30 hVl0 (by decide) rfl fl_X6_26 rfl dX6_whichNow_30 rfl ?_
      refine ea_iconst (v := 2) (pc' := 34) dX6_whichNow_33 (by decide) rfl ?_
      refine ea_iload (pc' := 36) dX6_whichNow_34 4 rfl rfl ?_
      refine ea_imul (pc' := 37) dX6_whichNow_36 rfl ?_
      obtain ⟨o1, h⟩ := h
      refine ea_iald (j := (2 * l4).toNatClampNeg) (pc' := 38) (hCl.1 30 x0 7 38 hVl0 rfl) rfl o1 dX6_whichNow_37 rfl rfl ?_
      refine ea_cvi (As := [.int l2, .int (S.1 38 0 ((2 * l4).toNatClampNeg))]) (st := []) (d := d) (pc' := 41) mv_X6_mileOf ml_X6_208 kok_30 hVl0 rfl rfl dX6_whichNow_38 rfl (Nat.le_of_ble_eq_true rfl) (ev_room (by decide)) ⟨Nat.le_refl _, Nat.le_refl _⟩ h rfl (fun r2 S3 h => ?_)
      refine ea_aload_n (pc' := 42) (i := 0) dX6_whichNow_41 rfl 0 rfl rfl ?_
      refine ea_getr (k2 := 38) (x2 := 0) (kf := 7) (pc' := 45) kok_30 hVl0 (by decide) rfl fl_X6_26 rfl dX6_whichNow_42 rfl ?_
      refine ea_iconst (v := 2) (pc' := 46) dX6_whichNow_45 (by decide) rfl ?_
      refine ea_iload (pc' := 48) dX6_whichNow_46 4 rfl rfl ?_
      refine ea_imul (pc' := 49) dX6_whichNow_48 rfl ?_
      refine ea_iconst (v := 1) (pc' := 50) dX6_whichNow_49 (by decide) rfl ?_
      refine ea_iadd (pc' := 51) dX6_whichNow_50 rfl ?_
      obtain ⟨o4, h⟩ := h
      refine ea_iald (j := ((2 * l4) + 1).toNatClampNeg) (pc' := 52) (hCl.1 30 x0 7 38 hVl0 rfl) rfl o4 dX6_whichNow_51 rfl rfl ?_
      refine ea_icmp_ne (tgt := 59) (pc' := 55) dX6_whichNow_52 (by decide) rfl (fun hc => ?_) (fun hc => ?_)
      · replace h := h.1 hc
        refine ea_iconst (v := 0) (pc' := 60) dX6_whichNow_59 (by decide) rfl ?_
        refine ea_loc [0, 1, 2, 4] rfl ?_
        exact h
      · replace h := h.2 hc
        refine ea_iconst (v := 1) (pc' := 56) dX6_whichNow_55 (by decide) rfl ?_
        refine ea_goto (tgt := 60) dX6_whichNow_56 (by decide) ?_
        refine ea_loc [0, 1, 2, 4] rfl ?_
        exact h
set_option maxRecDepth 100000 in
set_option maxHeartbeats 4000000 in
theorem vb_X6_whichNow_60 {G : evG} {d : Nat} {q : Int32 → evS → Prop} (hCl : evCl G) {x0 : Nat} {l1 : Int32} {l2 : Int32} {l4 : Int32} {s0 : Int32} {S : evS} (hVl0 : (30, x0) ∈ evKs G)
    (h : (∀ v1 : Int32, v1 = (l4 + 1) → bk_X6_whichNow_14 G d (evQI q) x0 l1 l2 s0 v1 S)) : bk_X6_whichNow_60 G d (evQI q) x0 l1 l2 l4 s0 S := by
  refine ea_istore_n (lv' := [(3, .int s0), (0, .ref (evad G 30 x0)), (1, .int l1), (2, .int l2), (4, .int l4)]) (pc' := 61) dX6_whichNow_60 rfl (by decide) rfl rfl ?_
  obtain ⟨v1, hv1⟩ : ∃ z : Int32, z = (l4 + 1) := ⟨_, rfl⟩
  replace h := h v1 hv1
  refine ea_iinc (q := 4) (v := v1) (lv' := [(4, .int v1), (3, .int s0), (0, .ref (evad G 30 x0)), (1, .int l1), (2, .int l2)]) (pc' := 64) dX6_whichNow_61 rfl (by rw [hv1]; rfl) (by decide) rfl rfl ?_
  refine ea_goto (tgt := 14) dX6_whichNow_64 (by decide) ?_
  refine ea_loc [2, 3, 4, 1, 0] rfl ?_
  exact h
set_option maxRecDepth 100000 in
set_option maxHeartbeats 4000000 in
theorem vb_X6_whichNow_67 {G : evG} {d : Nat} {q : Int32 → evS → Prop} (hCl : evCl G) {x0 : Nat} {l1 : Int32} {l2 : Int32} {l3 : Int32} {S : evS} (hVl0 : (30, x0) ∈ evKs G)
    (h : ((l3 = 0 → bk_X6_whichNow_79 G d (evQI q) x0 l2 l1 0 S) ∧ (¬ l3 = 0 → bk_X6_whichNow_79 G d (evQI q) x0 l2 l1 (1 <<< (l2 &&& 31)) S))) : bk_X6_whichNow_67 G d (evQI q) x0 l1 l2 l3 S := by
  refine ea_iload_n (pc' := 68) (i := 1) dX6_whichNow_67 rfl 1 rfl rfl ?_
  refine ea_iload_n (pc' := 69) (i := 3) dX6_whichNow_68 rfl 3 rfl rfl ?_
  refine ea_if_eq (tgt := 78) (pc' := 72) dX6_whichNow_69 (by decide) rfl (fun hc => ?_) (fun hc => ?_)
  · replace h := h.1 hc
    refine ea_iconst (v := 0) (pc' := 79) dX6_whichNow_78 (by decide) rfl ?_
    refine ea_loc [0, 2] rfl ?_
    exact h
  · replace h := h.2 hc
    refine ea_iconst (v := 1) (pc' := 73) dX6_whichNow_72 (by decide) rfl ?_
    refine ea_iload_n (pc' := 74) (i := 2) dX6_whichNow_73 rfl 2 rfl rfl ?_
    refine ea_ishl (pc' := 75) dX6_whichNow_74 rfl ?_
    refine ea_goto (tgt := 79) dX6_whichNow_75 (by decide) ?_
    refine ea_loc [0, 2] rfl ?_
    exact h
set_option maxRecDepth 100000 in
set_option maxHeartbeats 4000000 in
theorem vb_X6_whichNow_79 {G : evG} {d : Nat} {q : Int32 → evS → Prop} (hCl : evCl G) {x0 : Nat} {l2 : Int32} {s0 : Int32} {s1 : Int32} {S : evS} (hVl0 : (30, x0) ∈ evKs G)
    (h : (∀ v1 : Int32, v1 = (s0 ||| s1) → (∀ v2 : Int32, v2 = (l2 + 1) → bk_X6_whichNow_4 G d (evQI q) x0 v1 v2 S))) : bk_X6_whichNow_79 G d (evQI q) x0 l2 s0 s1 S := by
  refine ea_ior (pc' := 80) dX6_whichNow_79 rfl ?_
  refine ea_topi (fun v1 hv1 => ?_)
  replace h := h v1 hv1
  refine ea_istore_n (lv' := [(1, .int v1), (0, .ref (evad G 30 x0)), (2, .int l2)]) (pc' := 81) dX6_whichNow_80 rfl (by decide) rfl rfl ?_
  obtain ⟨v2, hv2⟩ : ∃ z : Int32, z = (l2 + 1) := ⟨_, rfl⟩
  replace h := h v2 hv2
  refine ea_iinc (q := 2) (v := v2) (lv' := [(2, .int v2), (1, .int v1), (0, .ref (evad G 30 x0))]) (pc' := 84) dX6_whichNow_81 rfl (by rw [hv2]; rfl) (by decide) rfl rfl ?_
  refine ea_goto (tgt := 4) dX6_whichNow_84 (by decide) ?_
  refine ea_loc [2, 1, 0] rfl ?_
  exact h
theorem vm_X6_whichNow {G : evG} {d : Nat} {q : Int32 → evS → Prop} {x0 : Nat} {S : evS} (h : bk_X6_whichNow_0 G d (evQI q) x0 S) : evSp G yX6_whichNow M_X6_whichNow (d + 1) [.ref (evad G 30 x0)] S (evQI q) :=
  evSp.of (by decide +kernel) rfl (Nat.le_of_ble_eq_true rfl) h
abbrev bk_X6_look_0 (G : evG) (d : Nat) (Q : Option Value → evS → Prop) (x0 : Nat) (S : evS) : Prop := evAt G M_X6_look (evFm G (d + 1) Q) 0 [(0, .ref (evad G 30 x0))] [] S
abbrev bk_X6_look_24 (G : evG) (d : Nat) (Q : Option Value → evS → Prop) (x0 : Nat) (l1 : Int32) (l2 : Int32) (l3 : Int32) (l4 : Int32) (S : evS) : Prop := evAt G M_X6_look (evFm G (d + 1) Q) 24 [(0, .ref (evad G 30 x0)), (1, .int l1), (2, .int l2), (3, .int l3), (4, .int l4)] [] S
abbrev bk_X6_look_52 (G : evG) (d : Nat) (Q : Option Value → evS → Prop) (x0 : Nat) (l1 : Int32) (l3 : Int32) (l4 : Int32) (l5 : Int32) (s0 : Int32) (S : evS) : Prop := evAt G M_X6_look (evFm G (d + 1) Q) 52 [(0, .ref (evad G 30 x0)), (1, .int l1), (3, .int l3), (4, .int l4), (5, .int l5)] [.int s0] S
abbrev bk_X6_look_65 (G : evG) (d : Nat) (Q : Option Value → evS → Prop) (x0 : Nat) (l1 : Int32) (l2 : Int32) (l4 : Int32) (s0 : Int32) (S : evS) : Prop := evAt G M_X6_look (evFm G (d + 1) Q) 65 [(0, .ref (evad G 30 x0)), (1, .int l1), (2, .int l2), (4, .int l4)] [.int s0] S
set_option maxRecDepth 100000 in
set_option maxHeartbeats 4000000 in
theorem vb_X6_look_0 {G : evG} {d : Nat} {q : Int32 → evS → Prop} (hCl : evCl G) {x0 : Nat} {S : evS} (hVl0 : (30, x0) ∈ evKs G)
    (h : (evSp G yX6_whichNow M_X6_whichNow d [.ref (evad G 30 x0)] S (evQI fun r1 S2 => ((¬ (r1 &&& (r1 - 1)) = 0 → bk_X6_look_24 G d (evQI q) x0 r1 (-9) 5 0 S2) ∧ ((r1 &&& (r1 - 1)) = 0 → q (-9) S2))))) : bk_X6_look_0 G d (evQI q) x0 S := by
  refine ea_aload_n (pc' := 1) (i := 0) dX6_look_0 rfl 0 rfl rfl ?_
  refine ea_cvi (As := []) (st := []) (d := d) (pc' := 4) mv_X6_whichNow ml_X6_214 kok_30 hVl0 rfl rfl dX6_look_1 rfl (Nat.le_of_ble_eq_true rfl) (ev_room (by decide)) ⟨Nat.le_refl _, Nat.le_refl _⟩ h rfl (fun r1 S2 h => ?_)
  refine ea_istore_n (lv' := [(1, .int r1), (0, .ref (evad G 30 x0))]) (pc' := 5) dX6_look_4 rfl (by decide) rfl rfl ?_
  refine ea_iload_n (pc' := 6) (i := 1) dX6_look_5 rfl 0 rfl rfl ?_
  refine ea_iload_n (pc' := 7) (i := 1) dX6_look_6 rfl 0 rfl rfl ?_
  refine ea_iconst (v := 1) (pc' := 8) dX6_look_7 (by decide) rfl ?_
  refine ea_isub (pc' := 9) dX6_look_8 rfl ?_
  refine ea_iand (pc' := 10) dX6_look_9 rfl ?_
  refine ea_if_ne (tgt := 16) (pc' := 13) dX6_look_10 (by decide) rfl (fun hc => ?_) (fun hc => ?_)
  · replace h := h.1 hc
    refine ea_bipush (v := (-9)) (pc' := 18) dX6_look_16 (by decide) rfl ?_
    refine ea_istore_n (lv' := [(2, .int (-9)), (1, .int r1), (0, .ref (evad G 30 x0))]) (pc' := 19) dX6_look_18 rfl (by decide) rfl rfl ?_
    refine ea_iconst (v := 5) (pc' := 20) dX6_look_19 (by decide) rfl ?_
    refine ea_istore_n (lv' := [(3, .int 5), (2, .int (-9)), (1, .int r1), (0, .ref (evad G 30 x0))]) (pc' := 21) dX6_look_20 rfl (by decide) rfl rfl ?_
    refine ea_iconst (v := 0) (pc' := 22) dX6_look_21 (by decide) rfl ?_
    refine ea_istore (lv' := [(4, .int 0), (3, .int 5), (2, .int (-9)), (1, .int r1), (0, .ref (evad G 30 x0))]) (pc' := 24) dX6_look_22 (by decide) rfl rfl ?_
    refine ea_loc [4, 3, 2, 1, 0] rfl ?_
    exact h
  · replace h := h.2 hc
    refine ea_bipush (v := (-9)) (pc' := 15) dX6_look_13 (by decide) rfl ?_
    exact ea_iret rfl dX6_look_15 ⟨_, rfl, h⟩
set_option maxRecDepth 100000 in
set_option maxHeartbeats 4000000 in
theorem vb_X6_look_24 {G : evG} {d : Nat} {q : Int32 → evS → Prop} (hCl : evCl G) {x0 : Nat} {l1 : Int32} {l2 : Int32} {l3 : Int32} {l4 : Int32} {S : evS} (hVl0 : (30, x0) ∈ evKs G)
    (h : ((100 ≤ l4 → q l2 S) ∧ (¬ 100 ≤ l4 → (evSp G yX6_alikeAt M_X6_alikeAt d [.ref (evad G 30 x0), .int l1, .int l4] S (evQI fun r1 S2 => ((l3 ≤ r1 → bk_X6_look_52 G d (evQI q) x0 l1 l3 l4 r1 l2 S2) ∧ (¬ l3 ≤ r1 → bk_X6_look_52 G d (evQI q) x0 l1 l3 l4 r1 l4 S2))))))) : bk_X6_look_24 G d (evQI q) x0 l1 l2 l3 l4 S := by
  refine ea_iload (pc' := 26) dX6_look_24 4 rfl rfl ?_
  refine ea_bipush (v := 100) (pc' := 28) dX6_look_26 (by decide) rfl ?_
  refine ea_icmp_ge (tgt := 72) (pc' := 31) dX6_look_28 (by decide) rfl (fun hc => ?_) (fun hc => ?_)
  · replace h := h.1 hc
    refine ea_iload_n (pc' := 73) (i := 2) dX6_look_72 rfl 2 rfl rfl ?_
    exact ea_iret rfl dX6_look_73 ⟨_, rfl, h⟩
  · replace h := h.2 hc
    refine ea_aload_n (pc' := 32) (i := 0) dX6_look_31 rfl 0 rfl rfl ?_
    refine ea_iload_n (pc' := 33) (i := 1) dX6_look_32 rfl 1 rfl rfl ?_
    refine ea_iload (pc' := 35) dX6_look_33 4 rfl rfl ?_
    refine ea_cvi (As := [.int l1, .int l4]) (st := []) (d := d) (pc' := 38) mv_X6_alikeAt ml_X6_217 kok_30 hVl0 rfl rfl dX6_look_35 rfl (Nat.le_of_ble_eq_true rfl) (ev_room (by decide)) ⟨Nat.le_refl _, Nat.le_refl _⟩ h rfl (fun r1 S2 h => ?_)
    refine ea_istore (lv' := [(5, .int r1), (0, .ref (evad G 30 x0)), (1, .int l1), (2, .int l2), (3, .int l3), (4, .int l4)]) (pc' := 40) dX6_look_38 (by decide) rfl rfl ?_
    refine ea_iload (pc' := 42) dX6_look_40 0 rfl rfl ?_
    refine ea_iload_n (pc' := 43) (i := 3) dX6_look_42 rfl 4 rfl rfl ?_
    refine ea_icmp_ge (tgt := 51) (pc' := 46) dX6_look_43 (by decide) rfl (fun hc => ?_) (fun hc => ?_)
    · replace h := h.1 hc
      refine ea_iload_n (pc' := 52) (i := 2) dX6_look_51 rfl 3 rfl rfl ?_
      refine ea_loc [1, 2, 4, 5, 0] rfl ?_
      exact h
    · replace h := h.2 hc
      refine ea_iload (pc' := 48) dX6_look_46 5 rfl rfl ?_
      refine ea_goto (tgt := 52) dX6_look_48 (by decide) ?_
      refine ea_loc [1, 2, 4, 5, 0] rfl ?_
      exact h
set_option maxRecDepth 100000 in
set_option maxHeartbeats 4000000 in
theorem vb_X6_look_52 {G : evG} {d : Nat} {q : Int32 → evS → Prop} (hCl : evCl G) {x0 : Nat} {l1 : Int32} {l3 : Int32} {l4 : Int32} {l5 : Int32} {s0 : Int32} {S : evS} (hVl0 : (30, x0) ∈ evKs G)
    (h : ((l3 ≤ l5 → bk_X6_look_65 G d (evQI q) x0 l1 s0 l4 l3 S) ∧ (¬ l3 ≤ l5 → bk_X6_look_65 G d (evQI q) x0 l1 s0 l4 l5 S))) : bk_X6_look_52 G d (evQI q) x0 l1 l3 l4 l5 s0 S := by
  refine ea_istore_n (lv' := [(2, .int s0), (0, .ref (evad G 30 x0)), (1, .int l1), (3, .int l3), (4, .int l4), (5, .int l5)]) (pc' := 53) dX6_look_52 rfl (by decide) rfl rfl ?_
  refine ea_iload (pc' := 55) dX6_look_53 5 rfl rfl ?_
  refine ea_iload_n (pc' := 56) (i := 3) dX6_look_55 rfl 3 rfl rfl ?_
  refine ea_icmp_ge (tgt := 64) (pc' := 59) dX6_look_56 (by decide) rfl (fun hc => ?_) (fun hc => ?_)
  · replace h := h.1 hc
    refine ea_iload_n (pc' := 65) (i := 3) dX6_look_64 rfl 3 rfl rfl ?_
    refine ea_loc [1, 2, 0, 4] rfl ?_
    exact h
  · replace h := h.2 hc
    refine ea_iload (pc' := 61) dX6_look_59 5 rfl rfl ?_
    refine ea_goto (tgt := 65) dX6_look_61 (by decide) ?_
    refine ea_loc [1, 2, 0, 4] rfl ?_
    exact h
set_option maxRecDepth 100000 in
set_option maxHeartbeats 4000000 in
theorem vb_X6_look_65 {G : evG} {d : Nat} {q : Int32 → evS → Prop} (hCl : evCl G) {x0 : Nat} {l1 : Int32} {l2 : Int32} {l4 : Int32} {s0 : Int32} {S : evS} (hVl0 : (30, x0) ∈ evKs G)
    (h : (∀ v1 : Int32, v1 = (l4 + 1) → bk_X6_look_24 G d (evQI q) x0 l1 l2 s0 v1 S)) : bk_X6_look_65 G d (evQI q) x0 l1 l2 l4 s0 S := by
  refine ea_istore_n (lv' := [(3, .int s0), (0, .ref (evad G 30 x0)), (1, .int l1), (2, .int l2), (4, .int l4)]) (pc' := 66) dX6_look_65 rfl (by decide) rfl rfl ?_
  obtain ⟨v1, hv1⟩ : ∃ z : Int32, z = (l4 + 1) := ⟨_, rfl⟩
  replace h := h v1 hv1
  refine ea_iinc (q := 4) (v := v1) (lv' := [(4, .int v1), (3, .int s0), (0, .ref (evad G 30 x0)), (1, .int l1), (2, .int l2)]) (pc' := 69) dX6_look_66 rfl (by rw [hv1]; rfl) (by decide) rfl rfl ?_
  refine ea_goto (tgt := 24) dX6_look_69 (by decide) ?_
  refine ea_loc [2, 3, 4, 1, 0] rfl ?_
  exact h
theorem vm_X6_look {G : evG} {d : Nat} {q : Int32 → evS → Prop} {x0 : Nat} {S : evS} (h : bk_X6_look_0 G d (evQI q) x0 S) : evSp G yX6_look M_X6_look (d + 1) [.ref (evad G 30 x0)] S (evQI q) :=
  evSp.of (by decide +kernel) rfl (Nat.le_of_ble_eq_true rfl) h
abbrev bk_X6_alikeAt_0 (G : evG) (d : Nat) (Q : Option Value → evS → Prop) (x0 : Nat) (l1 : Int32) (l2 : Int32) (S : evS) : Prop := evAt G M_X6_alikeAt (evFm G (d + 1) Q) 0 [(0, .ref (evad G 30 x0)), (1, .int l1), (2, .int l2)] [] S
abbrev bk_X6_alikeAt_5 (G : evG) (d : Nat) (Q : Option Value → evS → Prop) (x0 : Nat) (l1 : Int32) (l2 : Int32) (l3 : Int32) (l4 : Int32) (S : evS) : Prop := evAt G M_X6_alikeAt (evFm G (d + 1) Q) 5 [(0, .ref (evad G 30 x0)), (1, .int l1), (2, .int l2), (3, .int l3), (4, .int l4)] [] S
abbrev bk_X6_alikeAt_34 (G : evG) (d : Nat) (Q : Option Value → evS → Prop) (x0 : Nat) (l1 : Int32) (l3 : Int32) (l4 : Int32) (S : evS) : Prop := evAt G M_X6_alikeAt (evFm G (d + 1) Q) 34 [(0, .ref (evad G 30 x0)), (1, .int l1), (3, .int l3), (4, .int l4)] [] S
abbrev bk_X6_alikeAt_46 (G : evG) (d : Nat) (Q : Option Value → evS → Prop) (x0 : Nat) (l1 : Int32) (l3 : Int32) (l4 : Int32) (l5 : Int32) (l6 : Int32) (S : evS) : Prop := evAt G M_X6_alikeAt (evFm G (d + 1) Q) 46 [(0, .ref (evad G 30 x0)), (1, .int l1), (3, .int l3), (4, .int l4), (5, .int l5), (6, .int l6)] [] S
abbrev bk_X6_alikeAt_90 (G : evG) (d : Nat) (Q : Option Value → evS → Prop) (x0 : Nat) (l1 : Int32) (l3 : Int32) (l4 : Int32) (l6 : Int32) (s0 : Int32) (S : evS) : Prop := evAt G M_X6_alikeAt (evFm G (d + 1) Q) 90 [(0, .ref (evad G 30 x0)), (1, .int l1), (3, .int l3), (4, .int l4), (6, .int l6)] [.int s0] S
abbrev bk_X6_alikeAt_91 (G : evG) (d : Nat) (Q : Option Value → evS → Prop) (x0 : Nat) (l1 : Int32) (l3 : Int32) (l4 : Int32) (l6 : Int32) (s0 : Int32) (s1 : Int32) (S : evS) : Prop := evAt G M_X6_alikeAt (evFm G (d + 1) Q) 91 [(0, .ref (evad G 30 x0)), (1, .int l1), (3, .int l3), (4, .int l4), (6, .int l6)] [.int s1, .int s0] S
abbrev bk_X6_alikeAt_112 (G : evG) (d : Nat) (Q : Option Value → evS → Prop) (x0 : Nat) (l1 : Int32) (l4 : Int32) (s0 : Int32) (S : evS) : Prop := evAt G M_X6_alikeAt (evFm G (d + 1) Q) 112 [(0, .ref (evad G 30 x0)), (1, .int l1), (4, .int l4)] [.int s0] S
set_option maxRecDepth 100000 in
set_option maxHeartbeats 4000000 in
theorem vb_X6_alikeAt_0 {G : evG} {d : Nat} {q : Int32 → evS → Prop} (hCl : evCl G) {x0 : Nat} {l1 : Int32} {l2 : Int32} {S : evS} (hVl0 : (30, x0) ∈ evKs G)
    (h : bk_X6_alikeAt_5 G d (evQI q) x0 l1 l2 0 0 S) : bk_X6_alikeAt_0 G d (evQI q) x0 l1 l2 S := by
  refine ea_iconst (v := 0) (pc' := 1) dX6_alikeAt_0 (by decide) rfl ?_
  refine ea_istore_n (lv' := [(3, .int 0), (0, .ref (evad G 30 x0)), (1, .int l1), (2, .int l2)]) (pc' := 2) dX6_alikeAt_1 rfl (by decide) rfl rfl ?_
  refine ea_iconst (v := 0) (pc' := 3) dX6_alikeAt_2 (by decide) rfl ?_
  refine ea_istore (lv' := [(4, .int 0), (3, .int 0), (0, .ref (evad G 30 x0)), (1, .int l1), (2, .int l2)]) (pc' := 5) dX6_alikeAt_3 (by decide) rfl rfl ?_
  refine ea_loc [2, 3, 4, 1, 0] rfl ?_
  exact h
set_option maxRecDepth 100000 in
set_option maxHeartbeats 4000000 in
theorem vb_X6_alikeAt_5 {G : evG} {d : Nat} {q : Int32 → evS → Prop} (hCl : evCl G) {x0 : Nat} {l1 : Int32} {l2 : Int32} {l3 : Int32} {l4 : Int32} {S : evS} (hVl0 : (30, x0) ∈ evKs G)
    (h : ((4 ≤ l4 → bk_X6_alikeAt_34 G d (evQI q) x0 l1 l3 0 S) ∧ (¬ 4 ≤ l4 → (evSp G yX6_mileOf M_X6_mileOf d [.ref (evad G 30 x0), .int l4, .int l2] S (evQI fun r1 S2 => (vp_in l4 4 ∧ (∀ S4 : evS, S4 = evup S2 55 0 l4.toNatClampNeg r1 → (∀ v5 : Int32, v5 = (l4 + 1) → bk_X6_alikeAt_5 G d (evQI q) x0 l1 l2 l3 v5 S4)))))))) : bk_X6_alikeAt_5 G d (evQI q) x0 l1 l2 l3 l4 S := by
  refine ea_iload (pc' := 7) dX6_alikeAt_5 4 rfl rfl ?_
  refine ea_iconst (v := 4) (pc' := 8) dX6_alikeAt_7 (by decide) rfl ?_
  refine ea_icmp_ge (tgt := 31) (pc' := 11) dX6_alikeAt_8 (by decide) rfl (fun hc => ?_) (fun hc => ?_)
  · replace h := h.1 hc
    refine ea_iconst (v := 0) (pc' := 32) dX6_alikeAt_31 (by decide) rfl ?_
    refine ea_istore (lv' := [(4, .int 0), (0, .ref (evad G 30 x0)), (1, .int l1), (2, .int l2), (3, .int l3)]) (pc' := 34) dX6_alikeAt_32 (by decide) rfl rfl ?_
    refine ea_loc [1, 2, 4, 0] rfl ?_
    exact h
  · replace h := h.2 hc
    refine ea_aload_n (pc' := 12) (i := 0) dX6_alikeAt_11 rfl 0 rfl rfl ?_
    refine ea_getr (k2 := 55) (x2 := 0) (kf := 24) (pc' := 15) kok_30 hVl0 (by decide) rfl fl_X6_51 rfl dX6_alikeAt_12 rfl ?_
    refine ea_iload (pc' := 17) dX6_alikeAt_15 4 rfl rfl ?_
    refine ea_aload_n (pc' := 18) (i := 0) dX6_alikeAt_17 rfl 0 rfl rfl ?_
    refine ea_iload (pc' := 20) dX6_alikeAt_18 4 rfl rfl ?_
    refine ea_iload_n (pc' := 21) (i := 2) dX6_alikeAt_20 rfl 2 rfl rfl ?_
    refine ea_cvi (As := [.int l4, .int l2]) (st := [.int l4, .ref (evad G 55 0)]) (d := d) (pc' := 24) mv_X6_mileOf ml_X6_208 kok_30 hVl0 rfl rfl dX6_alikeAt_21 rfl (Nat.le_of_ble_eq_true rfl) (ev_room (by decide)) ⟨Nat.le_refl _, Nat.le_refl _⟩ h rfl (fun r1 S2 h => ?_)
    obtain ⟨o3, h⟩ := h
    refine ea_iast (j := l4.toNatClampNeg) (pc' := 25) (hCl.1 30 x0 24 55 hVl0 rfl) rfl o3 dX6_alikeAt_24 rfl rfl ?_
    refine ea_tops (fun S4 hS4 => ?_)
    replace h := h S4 hS4
    obtain ⟨v5, hv5⟩ : ∃ z : Int32, z = (l4 + 1) := ⟨_, rfl⟩
    replace h := h v5 hv5
    refine ea_iinc (q := 4) (v := v5) (lv' := [(4, .int v5), (0, .ref (evad G 30 x0)), (1, .int l1), (2, .int l2), (3, .int l3)]) (pc' := 28) dX6_alikeAt_25 rfl (by rw [hv5]; rfl) (by decide) rfl rfl ?_
    refine ea_goto (tgt := 5) dX6_alikeAt_28 (by decide) ?_
    refine ea_loc [1, 2, 3, 4, 0] rfl ?_
    exact h
set_option maxRecDepth 100000 in
set_option maxHeartbeats 4000000 in
theorem vb_X6_alikeAt_34 {G : evG} {d : Nat} {q : Int32 → evS → Prop} (hCl : evCl G) {x0 : Nat} {l1 : Int32} {l3 : Int32} {l4 : Int32} {S : evS} (hVl0 : (30, x0) ∈ evKs G)
    (h : ((4 ≤ l4 → q l3 S) ∧ (¬ 4 ≤ l4 → bk_X6_alikeAt_46 G d (evQI q) x0 l1 l3 l4 0 0 S))) : bk_X6_alikeAt_34 G d (evQI q) x0 l1 l3 l4 S := by
  refine ea_iload (pc' := 36) dX6_alikeAt_34 3 rfl rfl ?_
  refine ea_iconst (v := 4) (pc' := 37) dX6_alikeAt_36 (by decide) rfl ?_
  refine ea_icmp_ge (tgt := 119) (pc' := 40) dX6_alikeAt_37 (by decide) rfl (fun hc => ?_) (fun hc => ?_)
  · replace h := h.1 hc
    refine ea_iload_n (pc' := 120) (i := 3) dX6_alikeAt_119 rfl 2 rfl rfl ?_
    exact ea_iret rfl dX6_alikeAt_120 ⟨_, rfl, h⟩
  · replace h := h.2 hc
    refine ea_iconst (v := 0) (pc' := 41) dX6_alikeAt_40 (by decide) rfl ?_
    refine ea_istore (lv' := [(5, .int 0), (0, .ref (evad G 30 x0)), (1, .int l1), (3, .int l3), (4, .int l4)]) (pc' := 43) dX6_alikeAt_41 (by decide) rfl rfl ?_
    refine ea_iconst (v := 0) (pc' := 44) dX6_alikeAt_43 (by decide) rfl ?_
    refine ea_istore (lv' := [(6, .int 0), (5, .int 0), (0, .ref (evad G 30 x0)), (1, .int l1), (3, .int l3), (4, .int l4)]) (pc' := 46) dX6_alikeAt_44 (by decide) rfl rfl ?_
    refine ea_loc [2, 3, 4, 5, 1, 0] rfl ?_
    exact h
set_option maxRecDepth 100000 in
set_option maxHeartbeats 4000000 in
theorem vb_X6_alikeAt_46 {G : evG} {d : Nat} {q : Int32 → evS → Prop} (hCl : evCl G) {x0 : Nat} {l1 : Int32} {l3 : Int32} {l4 : Int32} {l5 : Int32} {l6 : Int32} {S : evS} (hVl0 : (30, x0) ∈ evKs G)
    (h : ((4 ≤ l6 → ((l5 ≤ l3 → bk_X6_alikeAt_112 G d (evQI q) x0 l1 l4 l3 S) ∧ (¬ l5 ≤ l3 → bk_X6_alikeAt_112 G d (evQI q) x0 l1 l4 l5 S))) ∧ (¬ 4 ≤ l6 → ((¬ (((l1 >>> (l4 &&& 31)) &&& (l1 >>> (l6 &&& 31))) &&& 1) = 1 → bk_X6_alikeAt_90 G d (evQI q) x0 l1 l3 l4 l6 l5 S) ∧ ((((l1 >>> (l4 &&& 31)) &&& (l1 >>> (l6 &&& 31))) &&& 1) = 1 → (vp_in l4 4 ∧ (vp_in l6 4 ∧ ((¬ (S.1 55 0 l4.toNatClampNeg) = (S.1 55 0 l6.toNatClampNeg) → bk_X6_alikeAt_90 G d (evQI q) x0 l1 l3 l4 l6 l5 S) ∧ ((S.1 55 0 l4.toNatClampNeg) = (S.1 55 0 l6.toNatClampNeg) → bk_X6_alikeAt_91 G d (evQI q) x0 l1 l3 l4 l6 l5 1 S))))))))) : bk_X6_alikeAt_46 G d (evQI q) x0 l1 l3 l4 l5 l6 S := by
  refine ea_iload (pc' := 48) dX6_alikeAt_46 5 rfl rfl ?_
  refine ea_iconst (v := 4) (pc' := 49) dX6_alikeAt_48 (by decide) rfl ?_
  refine ea_icmp_ge (tgt := 100) (pc' := 52) dX6_alikeAt_49 (by decide) rfl (fun hc => ?_) (fun hc => ?_)
  · replace h := h.1 hc
    refine ea_iload (pc' := 102) dX6_alikeAt_100 4 rfl rfl ?_
    refine ea_iload_n (pc' := 103) (i := 3) dX6_alikeAt_102 rfl 2 rfl rfl ?_
    refine ea_icmp_le (tgt := 111) (pc' := 106) dX6_alikeAt_103 (by decide) rfl (fun hc => ?_) (fun hc => ?_)
    · replace h := h.1 hc
      refine ea_iload_n (pc' := 112) (i := 3) dX6_alikeAt_111 rfl 2 rfl rfl ?_
      refine ea_loc [0, 1, 3] rfl ?_
      exact h
    · replace h := h.2 hc
      refine ea_iload (pc' := 108) dX6_alikeAt_106 4 rfl rfl ?_
      refine ea_goto (tgt := 112) dX6_alikeAt_108 (by decide) ?_
      refine ea_loc [0, 1, 3] rfl ?_
      exact h
  · replace h := h.2 hc
    refine ea_iload (pc' := 54) dX6_alikeAt_52 4 rfl rfl ?_
    refine ea_iload_n (pc' := 55) (i := 1) dX6_alikeAt_54 rfl 1 rfl rfl ?_
    refine ea_iload (pc' := 57) dX6_alikeAt_55 3 rfl rfl ?_
    refine ea_ishr (pc' := 58) dX6_alikeAt_57 rfl ?_
    refine ea_iload_n (pc' := 59) (i := 1) dX6_alikeAt_58 rfl 1 rfl rfl ?_
    refine ea_iload (pc' := 61) dX6_alikeAt_59 5 rfl rfl ?_
    refine ea_ishr (pc' := 62) dX6_alikeAt_61 rfl ?_
    refine ea_iand (pc' := 63) dX6_alikeAt_62 rfl ?_
    refine ea_iconst (v := 1) (pc' := 64) dX6_alikeAt_63 (by decide) rfl ?_
    refine ea_iand (pc' := 65) dX6_alikeAt_64 rfl ?_
    refine ea_iconst (v := 1) (pc' := 66) dX6_alikeAt_65 (by decide) rfl ?_
    refine ea_icmp_ne (tgt := 90) (pc' := 69) dX6_alikeAt_66 (by decide) rfl (fun hc => ?_) (fun hc => ?_)
    · replace h := h.1 hc
      refine ea_loc [0, 1, 2, 3, 5] rfl ?_
      exact h
    · replace h := h.2 hc
      refine ea_aload_n (pc' := 70) (i := 0) dX6_alikeAt_69 rfl 0 rfl rfl ?_
      refine ea_getr (k2 := 55) (x2 := 0) (kf := 24) (pc' := 73) kok_30 hVl0 (by decide) rfl fl_X6_51 rfl dX6_alikeAt_70 rfl ?_
      refine ea_iload (pc' := 75) dX6_alikeAt_73 3 rfl rfl ?_
      obtain ⟨o1, h⟩ := h
      refine ea_iald (j := l4.toNatClampNeg) (pc' := 76) (hCl.1 30 x0 24 55 hVl0 rfl) rfl o1 dX6_alikeAt_75 rfl rfl ?_
      refine ea_aload_n (pc' := 77) (i := 0) dX6_alikeAt_76 rfl 0 rfl rfl ?_
      refine ea_getr (k2 := 55) (x2 := 0) (kf := 24) (pc' := 80) kok_30 hVl0 (by decide) rfl fl_X6_51 rfl dX6_alikeAt_77 rfl ?_
      refine ea_iload (pc' := 82) dX6_alikeAt_80 5 rfl rfl ?_
      obtain ⟨o2, h⟩ := h
      refine ea_iald (j := l6.toNatClampNeg) (pc' := 83) (hCl.1 30 x0 24 55 hVl0 rfl) rfl o2 dX6_alikeAt_82 rfl rfl ?_
      refine ea_icmp_ne (tgt := 90) (pc' := 86) dX6_alikeAt_83 (by decide) rfl (fun hc => ?_) (fun hc => ?_)
      · replace h := h.1 hc
        refine ea_loc [0, 1, 2, 3, 5] rfl ?_
        exact h
      · replace h := h.2 hc
        refine ea_iconst (v := 1) (pc' := 87) dX6_alikeAt_86 (by decide) rfl ?_
        refine ea_goto (tgt := 91) dX6_alikeAt_87 (by decide) ?_
        refine ea_loc [0, 1, 2, 3, 5] rfl ?_
        exact h
set_option maxRecDepth 100000 in
set_option maxHeartbeats 4000000 in
theorem vb_X6_alikeAt_90 {G : evG} {d : Nat} {q : Int32 → evS → Prop} (hCl : evCl G) {x0 : Nat} {l1 : Int32} {l3 : Int32} {l4 : Int32} {l6 : Int32} {s0 : Int32} {S : evS} (hVl0 : (30, x0) ∈ evKs G)
    (h : bk_X6_alikeAt_91 G d (evQI q) x0 l1 l3 l4 l6 s0 0 S) : bk_X6_alikeAt_90 G d (evQI q) x0 l1 l3 l4 l6 s0 S := by
  refine ea_iconst (v := 0) (pc' := 91) dX6_alikeAt_90 (by decide) rfl ?_
  exact h
set_option maxRecDepth 100000 in
set_option maxHeartbeats 4000000 in
theorem vb_X6_alikeAt_91 {G : evG} {d : Nat} {q : Int32 → evS → Prop} (hCl : evCl G) {x0 : Nat} {l1 : Int32} {l3 : Int32} {l4 : Int32} {l6 : Int32} {s0 : Int32} {s1 : Int32} {S : evS} (hVl0 : (30, x0) ∈ evKs G)
    (h : (∀ v1 : Int32, v1 = (s0 + s1) → (∀ v2 : Int32, v2 = (l6 + 1) → bk_X6_alikeAt_46 G d (evQI q) x0 l1 l3 l4 v1 v2 S))) : bk_X6_alikeAt_91 G d (evQI q) x0 l1 l3 l4 l6 s0 s1 S := by
  refine ea_iadd (pc' := 92) dX6_alikeAt_91 rfl ?_
  refine ea_topi (fun v1 hv1 => ?_)
  replace h := h v1 hv1
  refine ea_istore (lv' := [(5, .int v1), (0, .ref (evad G 30 x0)), (1, .int l1), (3, .int l3), (4, .int l4), (6, .int l6)]) (pc' := 94) dX6_alikeAt_92 (by decide) rfl rfl ?_
  obtain ⟨v2, hv2⟩ : ∃ z : Int32, z = (l6 + 1) := ⟨_, rfl⟩
  replace h := h v2 hv2
  refine ea_iinc (q := 5) (v := v2) (lv' := [(6, .int v2), (5, .int v1), (0, .ref (evad G 30 x0)), (1, .int l1), (3, .int l3), (4, .int l4)]) (pc' := 97) dX6_alikeAt_94 rfl (by rw [hv2]; rfl) (by decide) rfl rfl ?_
  refine ea_goto (tgt := 46) dX6_alikeAt_97 (by decide) ?_
  refine ea_loc [2, 3, 4, 5, 1, 0] rfl ?_
  exact h
set_option maxRecDepth 100000 in
set_option maxHeartbeats 4000000 in
theorem vb_X6_alikeAt_112 {G : evG} {d : Nat} {q : Int32 → evS → Prop} (hCl : evCl G) {x0 : Nat} {l1 : Int32} {l4 : Int32} {s0 : Int32} {S : evS} (hVl0 : (30, x0) ∈ evKs G)
    (h : (∀ v1 : Int32, v1 = (l4 + 1) → bk_X6_alikeAt_34 G d (evQI q) x0 l1 s0 v1 S)) : bk_X6_alikeAt_112 G d (evQI q) x0 l1 l4 s0 S := by
  refine ea_istore_n (lv' := [(3, .int s0), (0, .ref (evad G 30 x0)), (1, .int l1), (4, .int l4)]) (pc' := 113) dX6_alikeAt_112 rfl (by decide) rfl rfl ?_
  obtain ⟨v1, hv1⟩ : ∃ z : Int32, z = (l4 + 1) := ⟨_, rfl⟩
  replace h := h v1 hv1
  refine ea_iinc (q := 3) (v := v1) (lv' := [(4, .int v1), (3, .int s0), (0, .ref (evad G 30 x0)), (1, .int l1)]) (pc' := 116) dX6_alikeAt_113 rfl (by rw [hv1]; rfl) (by decide) rfl rfl ?_
  refine ea_goto (tgt := 34) dX6_alikeAt_116 (by decide) ?_
  refine ea_loc [2, 3, 1, 0] rfl ?_
  exact h
theorem vm_X6_alikeAt {G : evG} {d : Nat} {q : Int32 → evS → Prop} {x0 : Nat} {l1 : Int32} {l2 : Int32} {S : evS} (h : bk_X6_alikeAt_0 G d (evQI q) x0 l1 l2 S) : evSp G yX6_alikeAt M_X6_alikeAt (d + 1) [.ref (evad G 30 x0), .int l1, .int l2] S (evQI q) :=
  evSp.of (by decide +kernel) rfl (Nat.le_of_ble_eq_true rfl) h
abbrev bk_X6_keep_0 (G : evG) (d : Nat) (Q : Option Value → evS → Prop) (x0 : Nat) (l1 : Int32) (S : evS) : Prop := evAt G M_X6_keep (evFm G (d + 1) Q) 0 [(0, .ref (evad G 30 x0)), (1, .int l1)] [] S
abbrev bk_X6_keep_13 (G : evG) (d : Nat) (Q : Option Value → evS → Prop) (x0 : Nat) (l1 : Int32) (l2 : Int32) (S : evS) : Prop := evAt G M_X6_keep (evFm G (d + 1) Q) 13 [(0, .ref (evad G 30 x0)), (1, .int l1), (2, .int l2)] [] S
set_option maxRecDepth 100000 in
set_option maxHeartbeats 4000000 in
theorem vb_X6_keep_0 {G : evG} {d : Nat} {q : Int32 → evS → Prop} (hCl : evCl G) {x0 : Nat} {l1 : Int32} {S : evS} (hVl0 : (30, x0) ∈ evKs G)
    (h : (evSp G yX6_in M_X6_in d [.int l1, .int 0, .int 1] S (evQI fun r1 S2 => ((¬ r1 = 0 → bk_X6_keep_13 G d (evQI q) x0 l1 0 S2) ∧ (r1 = 0 → q (-1) S2))))) : bk_X6_keep_0 G d (evQI q) x0 l1 S := by
  refine ea_iload_n (pc' := 1) (i := 1) dX6_keep_0 rfl 1 rfl rfl ?_
  refine ea_iconst (v := 0) (pc' := 2) dX6_keep_1 (by decide) rfl ?_
  refine ea_iconst (v := 1) (pc' := 3) dX6_keep_2 (by decide) rfl ?_
  refine ea_csi (As := [.int l1, .int 0, .int 1]) (st := []) (d := d) (pc' := 6) mv_X6_in ml_X6_62 rfl dX6_keep_3 rfl (Nat.le_of_ble_eq_true rfl) (ev_room (by decide)) ⟨Nat.le_refl _, Nat.le_refl _⟩ h rfl (fun r1 S2 h => ?_)
  refine ea_if_ne (tgt := 11) (pc' := 9) dX6_keep_6 (by decide) rfl (fun hc => ?_) (fun hc => ?_)
  · replace h := h.1 hc
    refine ea_iconst (v := 0) (pc' := 12) dX6_keep_11 (by decide) rfl ?_
    refine ea_istore_n (lv' := [(2, .int 0), (0, .ref (evad G 30 x0)), (1, .int l1)]) (pc' := 13) dX6_keep_12 rfl (by decide) rfl rfl ?_
    refine ea_loc [1, 2, 0] rfl ?_
    exact h
  · replace h := h.2 hc
    refine ea_iconst (v := (-1)) (pc' := 10) dX6_keep_9 (by decide) rfl ?_
    exact ea_iret rfl dX6_keep_10 ⟨_, rfl, h⟩
set_option maxRecDepth 100000 in
set_option maxHeartbeats 4000000 in
theorem vb_X6_keep_13 {G : evG} {d : Nat} {q : Int32 → evS → Prop} (hCl : evCl G) {x0 : Nat} {l1 : Int32} {l2 : Int32} {S : evS} (hVl0 : (30, x0) ∈ evKs G)
    (h : ((132 ≤ l2 → (vp_in l1 2 ∧ (∀ S2 : evS, S2 = evup S 35 0 l1.toNatClampNeg 1 → (evSp G yX6_legsOfAll M_X6_legsOfAll d [.ref (evad G 30 x0)] S2 (evQI fun r3 S4 => q r3 S4))))) ∧ (¬ 132 ≤ l2 → (vp_in l2 132 ∧ (vp_in ((132 * l1) + l2) 264 ∧ (∀ S7 : evS, S7 = evup S 34 0 (((132 * l1) + l2).toNatClampNeg) (S.1 31 0 l2.toNatClampNeg) → (∀ v8 : Int32, v8 = (l2 + 1) → bk_X6_keep_13 G d (evQI q) x0 l1 v8 S7))))))) : bk_X6_keep_13 G d (evQI q) x0 l1 l2 S := by
  refine ea_iload_n (pc' := 14) (i := 2) dX6_keep_13 rfl 2 rfl rfl ?_
  refine ea_sipush (v := 132) (pc' := 17) dX6_keep_14 (by decide) rfl ?_
  refine ea_icmp_ge (tgt := 44) (pc' := 20) dX6_keep_17 (by decide) rfl (fun hc => ?_) (fun hc => ?_)
  · replace h := h.1 hc
    refine ea_aload_n (pc' := 45) (i := 0) dX6_keep_44 rfl 0 rfl rfl ?_
    refine ea_getr (k2 := 35) (x2 := 0) (kf := 4) (pc' := 48) kok_30 hVl0 (by decide) rfl fl_X6_19 rfl dX6_keep_45 rfl ?_
    refine ea_iload_n (pc' := 49) (i := 1) dX6_keep_48 rfl 1 rfl rfl ?_
    refine ea_iconst (v := 1) (pc' := 50) dX6_keep_49 (by decide) rfl ?_
    obtain ⟨o1, h⟩ := h
    refine ea_zast (j := l1.toNatClampNeg) (pc' := 51) (hCl.1 30 x0 4 35 hVl0 rfl) rfl (by decide) o1 dX6_keep_50 rfl rfl ?_
    refine ea_tops (fun S2 hS2 => ?_)
    replace h := h S2 hS2
    refine ea_aload_n (pc' := 52) (i := 0) dX6_keep_51 rfl 0 rfl rfl ?_
    refine ea_cvi (As := []) (st := []) (d := d) (pc' := 55) mv_X6_legsOfAll ml_X6_220 kok_30 hVl0 rfl rfl dX6_keep_52 rfl (Nat.le_of_ble_eq_true rfl) (ev_room (by decide)) ⟨Nat.le_refl _, Nat.le_refl _⟩ h rfl (fun r3 S4 h => ?_)
    exact ea_iret rfl dX6_keep_55 ⟨_, rfl, h⟩
  · replace h := h.2 hc
    refine ea_aload_n (pc' := 21) (i := 0) dX6_keep_20 rfl 0 rfl rfl ?_
    refine ea_getr (k2 := 34) (x2 := 0) (kf := 3) (pc' := 24) kok_30 hVl0 (by decide) rfl fl_X6_16 rfl dX6_keep_21 rfl ?_
    refine ea_sipush (v := 132) (pc' := 27) dX6_keep_24 (by decide) rfl ?_
    refine ea_iload_n (pc' := 28) (i := 1) dX6_keep_27 rfl 1 rfl rfl ?_
    refine ea_imul (pc' := 29) dX6_keep_28 rfl ?_
    refine ea_iload_n (pc' := 30) (i := 2) dX6_keep_29 rfl 2 rfl rfl ?_
    refine ea_iadd (pc' := 31) dX6_keep_30 rfl ?_
    refine ea_aload_n (pc' := 32) (i := 0) dX6_keep_31 rfl 0 rfl rfl ?_
    refine ea_getr (k2 := 31) (x2 := 0) (kf := 0) (pc' := 35) kok_30 hVl0 (by decide) rfl fl_X6_7 rfl dX6_keep_32 rfl ?_
    refine ea_iload_n (pc' := 36) (i := 2) dX6_keep_35 rfl 2 rfl rfl ?_
    obtain ⟨o5, h⟩ := h
    refine ea_iald (j := l2.toNatClampNeg) (pc' := 37) (hCl.1 30 x0 0 31 hVl0 rfl) rfl o5 dX6_keep_36 rfl rfl ?_
    obtain ⟨o6, h⟩ := h
    refine ea_iast (j := ((132 * l1) + l2).toNatClampNeg) (pc' := 38) (hCl.1 30 x0 3 34 hVl0 rfl) rfl o6 dX6_keep_37 rfl rfl ?_
    refine ea_tops (fun S7 hS7 => ?_)
    replace h := h S7 hS7
    obtain ⟨v8, hv8⟩ : ∃ z : Int32, z = (l2 + 1) := ⟨_, rfl⟩
    replace h := h v8 hv8
    refine ea_iinc (q := 2) (v := v8) (lv' := [(2, .int v8), (0, .ref (evad G 30 x0)), (1, .int l1)]) (pc' := 41) dX6_keep_38 rfl (by rw [hv8]; rfl) (by decide) rfl rfl ?_
    refine ea_goto (tgt := 13) dX6_keep_41 (by decide) ?_
    refine ea_loc [1, 2, 0] rfl ?_
    exact h
theorem vm_X6_keep {G : evG} {d : Nat} {q : Int32 → evS → Prop} {x0 : Nat} {l1 : Int32} {S : evS} (h : bk_X6_keep_0 G d (evQI q) x0 l1 S) : evSp G yX6_keep M_X6_keep (d + 1) [.ref (evad G 30 x0), .int l1] S (evQI q) :=
  evSp.of (by decide +kernel) rfl (Nat.le_of_ble_eq_true rfl) h
abbrev bk_X6_legsOfAll_0 (G : evG) (d : Nat) (Q : Option Value → evS → Prop) (x0 : Nat) (S : evS) : Prop := evAt G M_X6_legsOfAll (evFm G (d + 1) Q) 0 [(0, .ref (evad G 30 x0))] [] S
abbrev bk_X6_legsOfAll_4 (G : evG) (d : Nat) (Q : Option Value → evS → Prop) (x0 : Nat) (l1 : Int32) (l2 : Int32) (S : evS) : Prop := evAt G M_X6_legsOfAll (evFm G (d + 1) Q) 4 [(0, .ref (evad G 30 x0)), (1, .int l1), (2, .int l2)] [] S
set_option maxRecDepth 100000 in
set_option maxHeartbeats 4000000 in
theorem vb_X6_legsOfAll_0 {G : evG} {d : Nat} {q : Int32 → evS → Prop} (hCl : evCl G) {x0 : Nat} {S : evS} (hVl0 : (30, x0) ∈ evKs G)
    (h : bk_X6_legsOfAll_4 G d (evQI q) x0 0 0 S) : bk_X6_legsOfAll_0 G d (evQI q) x0 S := by
  refine ea_iconst (v := 0) (pc' := 1) dX6_legsOfAll_0 (by decide) rfl ?_
  refine ea_istore_n (lv' := [(1, .int 0), (0, .ref (evad G 30 x0))]) (pc' := 2) dX6_legsOfAll_1 rfl (by decide) rfl rfl ?_
  refine ea_iconst (v := 0) (pc' := 3) dX6_legsOfAll_2 (by decide) rfl ?_
  refine ea_istore_n (lv' := [(2, .int 0), (1, .int 0), (0, .ref (evad G 30 x0))]) (pc' := 4) dX6_legsOfAll_3 rfl (by decide) rfl rfl ?_
  refine ea_loc [2, 1, 0] rfl ?_
  exact h
set_option maxRecDepth 100000 in
set_option maxHeartbeats 4000000 in
theorem vb_X6_legsOfAll_4 {G : evG} {d : Nat} {q : Int32 → evS → Prop} (hCl : evCl G) {x0 : Nat} {l1 : Int32} {l2 : Int32} {S : evS} (hVl0 : (30, x0) ∈ evKs G)
    (h : ((4 ≤ l2 → q l1 S) ∧ (¬ 4 ≤ l2 → (evSp G yX6_of M_X6_of d [.ref (evad G 30 x0), .int l2, .int 0] S (evQI fun r1 S2 => (∀ v3 : Int32, v3 = (l1 + r1) → (∀ v4 : Int32, v4 = (l2 + 1) → bk_X6_legsOfAll_4 G d (evQI q) x0 v3 v4 S2))))))) : bk_X6_legsOfAll_4 G d (evQI q) x0 l1 l2 S := by
  refine ea_iload_n (pc' := 5) (i := 2) dX6_legsOfAll_4 rfl 2 rfl rfl ?_
  refine ea_iconst (v := 4) (pc' := 6) dX6_legsOfAll_5 (by decide) rfl ?_
  refine ea_icmp_ge (tgt := 24) (pc' := 9) dX6_legsOfAll_6 (by decide) rfl (fun hc => ?_) (fun hc => ?_)
  · replace h := h.1 hc
    refine ea_iload_n (pc' := 25) (i := 1) dX6_legsOfAll_24 rfl 1 rfl rfl ?_
    exact ea_iret rfl dX6_legsOfAll_25 ⟨_, rfl, h⟩
  · replace h := h.2 hc
    refine ea_iload_n (pc' := 10) (i := 1) dX6_legsOfAll_9 rfl 1 rfl rfl ?_
    refine ea_aload_n (pc' := 11) (i := 0) dX6_legsOfAll_10 rfl 0 rfl rfl ?_
    refine ea_iload_n (pc' := 12) (i := 2) dX6_legsOfAll_11 rfl 2 rfl rfl ?_
    refine ea_iconst (v := 0) (pc' := 13) dX6_legsOfAll_12 (by decide) rfl ?_
    refine ea_cvi (As := [.int l2, .int 0]) (st := [.int l1]) (d := d) (pc' := 16) mv_X6_of ml_X6_70 kok_30 hVl0 rfl rfl dX6_legsOfAll_13 rfl (Nat.le_of_ble_eq_true rfl) (ev_room (by decide)) ⟨Nat.le_refl _, Nat.le_refl _⟩ h rfl (fun r1 S2 h => ?_)
    refine ea_iadd (pc' := 17) dX6_legsOfAll_16 rfl ?_
    refine ea_topi (fun v3 hv3 => ?_)
    replace h := h v3 hv3
    refine ea_istore_n (lv' := [(1, .int v3), (0, .ref (evad G 30 x0)), (2, .int l2)]) (pc' := 18) dX6_legsOfAll_17 rfl (by decide) rfl rfl ?_
    obtain ⟨v4, hv4⟩ : ∃ z : Int32, z = (l2 + 1) := ⟨_, rfl⟩
    replace h := h v4 hv4
    refine ea_iinc (q := 2) (v := v4) (lv' := [(2, .int v4), (1, .int v3), (0, .ref (evad G 30 x0))]) (pc' := 21) dX6_legsOfAll_18 rfl (by rw [hv4]; rfl) (by decide) rfl rfl ?_
    refine ea_goto (tgt := 4) dX6_legsOfAll_21 (by decide) ?_
    refine ea_loc [2, 1, 0] rfl ?_
    exact h
theorem vm_X6_legsOfAll {G : evG} {d : Nat} {q : Int32 → evS → Prop} {x0 : Nat} {S : evS} (h : bk_X6_legsOfAll_0 G d (evQI q) x0 S) : evSp G yX6_legsOfAll M_X6_legsOfAll (d + 1) [.ref (evad G 30 x0)] S (evQI q) :=
  evSp.of (by decide +kernel) rfl (Nat.le_of_ble_eq_true rfl) h
abbrev bk_X6_back_0 (G : evG) (d : Nat) (Q : Option Value → evS → Prop) (x0 : Nat) (l1 : Int32) (S : evS) : Prop := evAt G M_X6_back (evFm G (d + 1) Q) 0 [(0, .ref (evad G 30 x0)), (1, .int l1)] [] S
abbrev bk_X6_back_25 (G : evG) (d : Nat) (Q : Option Value → evS → Prop) (x0 : Nat) (l1 : Int32) (l2 : Int32) (S : evS) : Prop := evAt G M_X6_back (evFm G (d + 1) Q) 25 [(0, .ref (evad G 30 x0)), (1, .int l1), (2, .int l2)] [] S
set_option maxRecDepth 100000 in
set_option maxHeartbeats 4000000 in
theorem vb_X6_back_0 {G : evG} {d : Nat} {q : Int32 → evS → Prop} (hCl : evCl G) {x0 : Nat} {l1 : Int32} {S : evS} (hVl0 : (30, x0) ∈ evKs G)
    (h : (evSp G yX6_in M_X6_in d [.int l1, .int 0, .int 1] S (evQI fun r1 S2 => ((¬ r1 = 0 → (vp_in l1 2 ∧ ((¬ (S2.1 35 0 l1.toNatClampNeg) = 0 → bk_X6_back_25 G d (evQI q) x0 l1 0 S2) ∧ ((S2.1 35 0 l1.toNatClampNeg) = 0 → q (-2) S2)))) ∧ (r1 = 0 → q (-1) S2))))) : bk_X6_back_0 G d (evQI q) x0 l1 S := by
  refine ea_iload_n (pc' := 1) (i := 1) dX6_back_0 rfl 1 rfl rfl ?_
  refine ea_iconst (v := 0) (pc' := 2) dX6_back_1 (by decide) rfl ?_
  refine ea_iconst (v := 1) (pc' := 3) dX6_back_2 (by decide) rfl ?_
  refine ea_csi (As := [.int l1, .int 0, .int 1]) (st := []) (d := d) (pc' := 6) mv_X6_in ml_X6_62 rfl dX6_back_3 rfl (Nat.le_of_ble_eq_true rfl) (ev_room (by decide)) ⟨Nat.le_refl _, Nat.le_refl _⟩ h rfl (fun r1 S2 h => ?_)
  refine ea_if_ne (tgt := 11) (pc' := 9) dX6_back_6 (by decide) rfl (fun hc => ?_) (fun hc => ?_)
  · replace h := h.1 hc
    refine ea_aload_n (pc' := 12) (i := 0) dX6_back_11 rfl 0 rfl rfl ?_
    refine ea_getr (k2 := 35) (x2 := 0) (kf := 4) (pc' := 15) kok_30 hVl0 (by decide) rfl fl_X6_19 rfl dX6_back_12 rfl ?_
    refine ea_iload_n (pc' := 16) (i := 1) dX6_back_15 rfl 1 rfl rfl ?_
    obtain ⟨o3, h⟩ := h
    refine ea_zald (j := l1.toNatClampNeg) (pc' := 17) (hCl.1 30 x0 4 35 hVl0 rfl) rfl o3 dX6_back_16 rfl rfl ?_
    refine ea_if_ne (tgt := 23) (pc' := 20) dX6_back_17 (by decide) rfl (fun hc => ?_) (fun hc => ?_)
    · replace h := h.1 hc
      refine ea_iconst (v := 0) (pc' := 24) dX6_back_23 (by decide) rfl ?_
      refine ea_istore_n (lv' := [(2, .int 0), (0, .ref (evad G 30 x0)), (1, .int l1)]) (pc' := 25) dX6_back_24 rfl (by decide) rfl rfl ?_
      refine ea_loc [1, 2, 0] rfl ?_
      exact h
    · replace h := h.2 hc
      refine ea_bipush (v := (-2)) (pc' := 22) dX6_back_20 (by decide) rfl ?_
      exact ea_iret rfl dX6_back_22 ⟨_, rfl, h⟩
  · replace h := h.2 hc
    refine ea_iconst (v := (-1)) (pc' := 10) dX6_back_9 (by decide) rfl ?_
    exact ea_iret rfl dX6_back_10 ⟨_, rfl, h⟩
set_option maxRecDepth 100000 in
set_option maxHeartbeats 4000000 in
theorem vb_X6_back_25 {G : evG} {d : Nat} {q : Int32 → evS → Prop} (hCl : evCl G) {x0 : Nat} {l1 : Int32} {l2 : Int32} {S : evS} (hVl0 : (30, x0) ∈ evKs G)
    (h : ((132 ≤ l2 → (∀ S1 : evS, S1 = evup S 30 x0 2 0 → (evSp G yX6_legsOfAll M_X6_legsOfAll d [.ref (evad G 30 x0)] S1 (evQI fun r2 S3 => q r2 S3)))) ∧ (¬ 132 ≤ l2 → (vp_in ((132 * l1) + l2) 264 ∧ (vp_in l2 132 ∧ (∀ S6 : evS, S6 = evup S 31 0 l2.toNatClampNeg (S.1 34 0 (((132 * l1) + l2).toNatClampNeg)) → (∀ v7 : Int32, v7 = (l2 + 1) → bk_X6_back_25 G d (evQI q) x0 l1 v7 S6))))))) : bk_X6_back_25 G d (evQI q) x0 l1 l2 S := by
  refine ea_iload_n (pc' := 26) (i := 2) dX6_back_25 rfl 2 rfl rfl ?_
  refine ea_sipush (v := 132) (pc' := 29) dX6_back_26 (by decide) rfl ?_
  refine ea_icmp_ge (tgt := 56) (pc' := 32) dX6_back_29 (by decide) rfl (fun hc => ?_) (fun hc => ?_)
  · replace h := h.1 hc
    refine ea_aload_n (pc' := 57) (i := 0) dX6_back_56 rfl 0 rfl rfl ?_
    refine ea_iconst (v := 0) (pc' := 58) dX6_back_57 (by decide) rfl ?_
    refine ea_puti (kf := 2) (pc' := 61) kok_30 hVl0 (by decide) rfl fl_X6_58 rfl rfl dX6_back_58 rfl ?_
    refine ea_tops (fun S1 hS1 => ?_)
    replace h := h S1 hS1
    refine ea_aload_n (pc' := 62) (i := 0) dX6_back_61 rfl 0 rfl rfl ?_
    refine ea_cvi (As := []) (st := []) (d := d) (pc' := 65) mv_X6_legsOfAll ml_X6_220 kok_30 hVl0 rfl rfl dX6_back_62 rfl (Nat.le_of_ble_eq_true rfl) (ev_room (by decide)) ⟨Nat.le_refl _, Nat.le_refl _⟩ h rfl (fun r2 S3 h => ?_)
    exact ea_iret rfl dX6_back_65 ⟨_, rfl, h⟩
  · replace h := h.2 hc
    refine ea_aload_n (pc' := 33) (i := 0) dX6_back_32 rfl 0 rfl rfl ?_
    refine ea_getr (k2 := 31) (x2 := 0) (kf := 0) (pc' := 36) kok_30 hVl0 (by decide) rfl fl_X6_7 rfl dX6_back_33 rfl ?_
    refine ea_iload_n (pc' := 37) (i := 2) dX6_back_36 rfl 2 rfl rfl ?_
    refine ea_aload_n (pc' := 38) (i := 0) dX6_back_37 rfl 0 rfl rfl ?_
    refine ea_getr (k2 := 34) (x2 := 0) (kf := 3) (pc' := 41) kok_30 hVl0 (by decide) rfl fl_X6_16 rfl dX6_back_38 rfl ?_
    refine ea_sipush (v := 132) (pc' := 44) dX6_back_41 (by decide) rfl ?_
    refine ea_iload_n (pc' := 45) (i := 1) dX6_back_44 rfl 1 rfl rfl ?_
    refine ea_imul (pc' := 46) dX6_back_45 rfl ?_
    refine ea_iload_n (pc' := 47) (i := 2) dX6_back_46 rfl 2 rfl rfl ?_
    refine ea_iadd (pc' := 48) dX6_back_47 rfl ?_
    obtain ⟨o4, h⟩ := h
    refine ea_iald (j := ((132 * l1) + l2).toNatClampNeg) (pc' := 49) (hCl.1 30 x0 3 34 hVl0 rfl) rfl o4 dX6_back_48 rfl rfl ?_
    obtain ⟨o5, h⟩ := h
    refine ea_iast (j := l2.toNatClampNeg) (pc' := 50) (hCl.1 30 x0 0 31 hVl0 rfl) rfl o5 dX6_back_49 rfl rfl ?_
    refine ea_tops (fun S6 hS6 => ?_)
    replace h := h S6 hS6
    obtain ⟨v7, hv7⟩ : ∃ z : Int32, z = (l2 + 1) := ⟨_, rfl⟩
    replace h := h v7 hv7
    refine ea_iinc (q := 2) (v := v7) (lv' := [(2, .int v7), (0, .ref (evad G 30 x0)), (1, .int l1)]) (pc' := 53) dX6_back_50 rfl (by rw [hv7]; rfl) (by decide) rfl rfl ?_
    refine ea_goto (tgt := 25) dX6_back_53 (by decide) ?_
    refine ea_loc [1, 2, 0] rfl ?_
    exact h
theorem vm_X6_back {G : evG} {d : Nat} {q : Int32 → evS → Prop} {x0 : Nat} {l1 : Int32} {S : evS} (h : bk_X6_back_0 G d (evQI q) x0 l1 S) : evSp G yX6_back M_X6_back (d + 1) [.ref (evad G 30 x0), .int l1] S (evQI q) :=
  evSp.of (by decide +kernel) rfl (Nat.le_of_ble_eq_true rfl) h
abbrev bk_X6_count_0 (G : evG) (d : Nat) (Q : Option Value → evS → Prop) (x0 : Nat) (l1 : Int32) (S : evS) : Prop := evAt G M_X6_count (evFm G (d + 1) Q) 0 [(0, .ref (evad G 30 x0)), (1, .int l1)] [] S
set_option maxRecDepth 100000 in
set_option maxHeartbeats 4000000 in
theorem vb_X6_count_0 {G : evG} {d : Nat} {q : Int32 → evS → Prop} (hCl : evCl G) {x0 : Nat} {l1 : Int32} {S : evS} (hVl0 : (30, x0) ∈ evKs G)
    (h : ((l1.toInt = 0 + (0 : Nat) → (evSp G yX6_legsOfAll M_X6_legsOfAll d [.ref (evad G 30 x0)] S (evQI fun r1 S2 => q r1 S2))) ∧ (l1.toInt = 0 + (1 : Nat) → q (S.1 30 x0 8) S) ∧ (l1.toInt = 0 + (2 : Nat) → q (S.1 30 x0 6) S) ∧ (l1.toInt = 0 + (3 : Nat) → q (S.1 30 x0 2) S) ∧ (l1.toInt < 0 ∨ 3 < l1.toInt → q (-1) S))) : bk_X6_count_0 G d (evQI q) x0 l1 S := by
  refine ea_iload_n (pc' := 1) (i := 1) dX6_count_0 rfl 1 rfl rfl ?_
  refine ea_table (n := 4) (tgd := 52) (fun j => [32, 37, 42, 47].getD j 0) dX6_count_1 (by decide) (by decide) (by decide) (fun j hj hx => ?_) (fun hx => ?_)
  · match j, hj, hx with
    | 0, _, hx =>
      replace h := h.1 hx
      show evAt G M_X6_count _ 32 _ _ _
      refine ea_aload_n (pc' := 33) (i := 0) dX6_count_32 rfl 0 rfl rfl ?_
      refine ea_cvi (As := []) (st := []) (d := d) (pc' := 36) mv_X6_legsOfAll ml_X6_220 kok_30 hVl0 rfl rfl dX6_count_33 rfl (Nat.le_of_ble_eq_true rfl) (ev_room (by decide)) ⟨Nat.le_refl _, Nat.le_refl _⟩ h rfl (fun r1 S2 h => ?_)
      exact ea_iret rfl dX6_count_36 ⟨_, rfl, h⟩
    | 1, _, hx =>
      replace h := h.2.1 hx
      show evAt G M_X6_count _ 37 _ _ _
      refine ea_aload_n (pc' := 38) (i := 0) dX6_count_37 rfl 0 rfl rfl ?_
      refine ea_geti (kf := 8) (pc' := 41) kok_30 hVl0 (by decide) rfl fl_X6_211 dX6_count_38 rfl ?_
      exact ea_iret rfl dX6_count_41 ⟨_, rfl, h⟩
    | 2, _, hx =>
      replace h := h.2.2.1 hx
      show evAt G M_X6_count _ 42 _ _ _
      refine ea_aload_n (pc' := 43) (i := 0) dX6_count_42 rfl 0 rfl rfl ?_
      refine ea_geti (kf := 6) (pc' := 46) kok_30 hVl0 (by decide) rfl fl_X6_73 dX6_count_43 rfl ?_
      exact ea_iret rfl dX6_count_46 ⟨_, rfl, h⟩
    | 3, _, hx =>
      replace h := h.2.2.2.1 hx
      show evAt G M_X6_count _ 47 _ _ _
      refine ea_aload_n (pc' := 48) (i := 0) dX6_count_47 rfl 0 rfl rfl ?_
      refine ea_geti (kf := 2) (pc' := 51) kok_30 hVl0 (by decide) rfl fl_X6_58 dX6_count_48 rfl ?_
      exact ea_iret rfl dX6_count_51 ⟨_, rfl, h⟩
  · replace h := h.2.2.2.2 hx
    refine ea_iconst (v := (-1)) (pc' := 53) dX6_count_52 (by decide) rfl ?_
    exact ea_iret rfl dX6_count_53 ⟨_, rfl, h⟩
theorem vm_X6_count {G : evG} {d : Nat} {q : Int32 → evS → Prop} {x0 : Nat} {l1 : Int32} {S : evS} (h : bk_X6_count_0 G d (evQI q) x0 l1 S) : evSp G yX6_count M_X6_count (d + 1) [.ref (evad G 30 x0), .int l1] S (evQI q) :=
  evSp.of (by decide +kernel) rfl (Nat.le_of_ble_eq_true rfl) h
