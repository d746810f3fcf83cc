abbrev bk_X3_becomeNew_0 (G : evG) (d : Nat) (Q : Option Value → evS → Prop) (x0 : Nat) (S : evS) : Prop := evAt G M_X3_becomeNew (evFm G (d + 1) Q) 0 [(0, .ref (evad G 3 x0))] [] S
set_option maxRecDepth 100000 in
set_option maxHeartbeats 4000000 in
theorem vb_X3_becomeNew_0 {G : evG} {d : Nat} {q : evS → Prop} (hCl : evCl G) {x0 : Nat} {S : evS} (hVl0 : (3, x0) ∈ evKs G)
    (h : (∀ S1 : evS, S1 = evcpy S 4 x0 (va_cpy (evst 61) (S.1 4 x0) 0 0 (9 : Int32).toNatClampNeg) → (evSp G yJ7_fill_53178 M_J7_fill_53178 d [.ref (evad G 5 x0), .int 0] S1 (evQV fun S2 => q S2)))) : bk_X3_becomeNew_0 G d (evQV q) x0 S := by
  refine ea_gs61 (pc' := 3) fs_X3_19 dX3_becomeNew_0 rfl ?_
  refine ea_iconst (v := 0) (pc' := 4) dX3_becomeNew_3 (by decide) rfl ?_
  refine ea_aload_n (pc' := 5) (i := 0) dX3_becomeNew_4 rfl 0 rfl rfl ?_
  refine ea_getr (k2 := 4) (x2 := x0) (kf := 0) (pc' := 8) kok_3 hVl0 (by decide) rfl fl_X3_9 rfl dX3_becomeNew_5 rfl ?_
  refine ea_iconst (v := 0) (pc' := 9) dX3_becomeNew_8 (by decide) rfl ?_
  refine ea_bipush (v := 9) (pc' := 11) dX3_becomeNew_9 (by decide) rfl ?_
  refine ea_copyt (pc' := 14) (hCl.1 3 x0 0 4 hVl0 rfl) rfl (by decide) (by decide) (by decide) ac_X3_22 (Nat.le_add_left 1 d) (ev_acr d) dX3_becomeNew_11 rfl ?_
  refine ea_tops (fun S1 hS1 => ?_)
  replace h := h S1 hS1
  refine ea_aload_n (pc' := 15) (i := 0) dX3_becomeNew_14 rfl 0 rfl rfl ?_
  refine ea_getr (k2 := 5) (x2 := x0) (kf := 1) (pc' := 18) kok_3 hVl0 (by decide) rfl fl_X3_13 rfl dX3_becomeNew_15 rfl ?_
  refine ea_iconst (v := 0) (pc' := 19) dX3_becomeNew_18 (by decide) rfl ?_
  refine ea_csv (As := [.ref (evad G 5 x0), .int 0]) (st := []) (d := d) (pc' := 22) mv_J7_fill_53178 ml_X3_28 rfl dX3_becomeNew_19 rfl (Nat.le_of_ble_eq_true rfl) (ev_room (by decide)) ⟨Nat.le_refl _, Nat.le_refl _⟩ h rfl (fun S2 h => ?_)
  exact ea_vret rfl dX3_becomeNew_22 ⟨rfl, h⟩
theorem vm_X3_becomeNew {G : evG} {d : Nat} {q : evS → Prop} {x0 : Nat} {S : evS} (h : bk_X3_becomeNew_0 G d (evQV q) x0 S) : evSp G yX3_becomeNew M_X3_becomeNew (d + 1) [.ref (evad G 3 x0)] S (evQV q) :=
  evSp.of (by decide +kernel) rfl (Nat.le_of_ble_eq_true rfl) h
abbrev bk_X3_trait_0 (G : evG) (d : Nat) (Q : Option Value → evS → Prop) (x0 : Nat) (l1 : Int32) (S : evS) : Prop := evAt G M_X3_trait (evFm G d Q) 0 [(0, .ref (evad G 3 x0)), (1, .int l1)] [] S
set_option maxRecDepth 100000 in
set_option maxHeartbeats 4000000 in
theorem vb_X3_trait_0 {G : evG} {d : Nat} {q : Int32 → evS → Prop} (hCl : evCl G) {x0 : Nat} {l1 : Int32} {S : evS} (hVl0 : (3, x0) ∈ evKs G)
    (h : ((l1 < 0 → q 0 S) ∧ (¬ l1 < 0 → ((9 ≤ l1 → q 0 S) ∧ (¬ 9 ≤ l1 → (vp_in l1 9 ∧ q (S.1 4 x0 l1.toNatClampNeg) S)))))) : bk_X3_trait_0 G d (evQI q) x0 l1 S := by
  refine ea_iload_n (pc' := 1) (i := 1) dX3_trait_0 rfl 1 rfl rfl ?_
  refine ea_if_lt (tgt := 19) (pc' := 4) dX3_trait_1 (by decide) rfl (fun hc => ?_) (fun hc => ?_)
  · replace h := h.1 hc
    refine ea_iconst (v := 0) (pc' := 20) dX3_trait_19 (by decide) rfl ?_
    exact ea_iret rfl dX3_trait_20 ⟨_, rfl, h⟩
  · replace h := h.2 hc
    refine ea_iload_n (pc' := 5) (i := 1) dX3_trait_4 rfl 1 rfl rfl ?_
    refine ea_bipush (v := 9) (pc' := 7) dX3_trait_5 (by decide) rfl ?_
    refine ea_icmp_ge (tgt := 19) (pc' := 10) dX3_trait_7 (by decide) rfl (fun hc => ?_) (fun hc => ?_)
    · replace h := h.1 hc
      refine ea_iconst (v := 0) (pc' := 20) dX3_trait_19 (by decide) rfl ?_
      exact ea_iret rfl dX3_trait_20 ⟨_, rfl, h⟩
    · replace h := h.2 hc
      refine ea_aload_n (pc' := 11) (i := 0) dX3_trait_10 rfl 0 rfl rfl ?_
      refine ea_getr (k2 := 4) (x2 := x0) (kf := 0) (pc' := 14) kok_3 hVl0 (by decide) rfl fl_X3_9 rfl dX3_trait_11 rfl ?_
      refine ea_iload_n (pc' := 15) (i := 1) dX3_trait_14 rfl 1 rfl rfl ?_
      obtain ⟨o1, h⟩ := h
      refine ea_iald (j := l1.toNatClampNeg) (pc' := 16) (hCl.1 3 x0 0 4 hVl0 rfl) rfl o1 dX3_trait_15 rfl rfl ?_
      refine ea_goto (tgt := 20) dX3_trait_16 (by decide) ?_
      exact ea_iret rfl dX3_trait_20 ⟨_, rfl, h⟩
theorem vm_X3_trait {G : evG} {d : Nat} {q : Int32 → evS → Prop} {x0 : Nat} {l1 : Int32} {S : evS} (h : bk_X3_trait_0 G d (evQI q) x0 l1 S) : evSp G yX3_trait M_X3_trait d [.ref (evad G 3 x0), .int l1] S (evQI q) :=
  evSp.of (by decide +kernel) rfl (Nat.le_of_ble_eq_true rfl) h
abbrev bk_X3_setOfLeg_0 (G : evG) (d : Nat) (Q : Option Value → evS → Prop) (x0 : Nat) (l1 : Int32) (l2 : Int32) (l3 : Int32) (S : evS) : Prop := evAt G M_X3_setOfLeg (evFm G (d + 1) Q) 0 [(0, .ref (evad G 3 x0)), (1, .int l1), (2, .int l2), (3, .int l3)] [] S
set_option maxRecDepth 100000 in
set_option maxHeartbeats 4000000 in
theorem vb_X3_setOfLeg_0 {G : evG} {d : Nat} {q : evS → Prop} (hCl : evCl G) {x0 : Nat} {l1 : Int32} {l2 : Int32} {l3 : Int32} {S : evS} (hVl0 : (3, x0) ∈ evKs G)
    (h : (evSp G yX3_placeOf M_X3_placeOf d [.int l1, .int l2] S (evQI fun r1 S2 => ((r1 < 0 → q S2) ∧ (¬ r1 < 0 → (vp_in r1 24 ∧ (∀ S4 : evS, S4 = evup S2 5 x0 r1.toNatClampNeg l3 → q S4))))))) : bk_X3_setOfLeg_0 G d (evQV q) x0 l1 l2 l3 S := by
  refine ea_iload_n (pc' := 1) (i := 1) dX3_setOfLeg_0 rfl 1 rfl rfl ?_
  refine ea_iload_n (pc' := 2) (i := 2) dX3_setOfLeg_1 rfl 2 rfl rfl ?_
  refine ea_csi (As := [.int l1, .int l2]) (st := []) (d := d) (pc' := 5) mv_X3_placeOf ml_X3_34 rfl dX3_setOfLeg_2 rfl (Nat.le_of_ble_eq_true rfl) (ev_room (by decide)) ⟨Nat.le_refl _, Nat.le_refl _⟩ h rfl (fun r1 S2 h => ?_)
  refine ea_istore (lv' := [(4, .int r1), (0, .ref (evad G 3 x0)), (1, .int l1), (2, .int l2), (3, .int l3)]) (pc' := 7) dX3_setOfLeg_5 (by decide) rfl rfl ?_
  refine ea_iload (pc' := 9) dX3_setOfLeg_7 0 rfl rfl ?_
  refine ea_if_lt (tgt := 20) (pc' := 12) dX3_setOfLeg_9 (by decide) rfl (fun hc => ?_) (fun hc => ?_)
  · replace h := h.1 hc
    exact ea_vret rfl dX3_setOfLeg_20 ⟨rfl, h⟩
  · replace h := h.2 hc
    refine ea_aload_n (pc' := 13) (i := 0) dX3_setOfLeg_12 rfl 1 rfl rfl ?_
    refine ea_getr (k2 := 5) (x2 := x0) (kf := 1) (pc' := 16) kok_3 hVl0 (by decide) rfl fl_X3_13 rfl dX3_setOfLeg_13 rfl ?_
    refine ea_iload (pc' := 18) dX3_setOfLeg_16 0 rfl rfl ?_
    refine ea_iload_n (pc' := 19) (i := 3) dX3_setOfLeg_18 rfl 4 rfl rfl ?_
    obtain ⟨o3, h⟩ := h
    refine ea_iast (j := r1.toNatClampNeg) (pc' := 20) (hCl.1 3 x0 1 5 hVl0 rfl) rfl o3 dX3_setOfLeg_19 rfl rfl ?_
    refine ea_tops (fun S4 hS4 => ?_)
    replace h := h S4 hS4
    exact ea_vret rfl dX3_setOfLeg_20 ⟨rfl, h⟩
theorem vm_X3_setOfLeg {G : evG} {d : Nat} {q : evS → Prop} {x0 : Nat} {l1 : Int32} {l2 : Int32} {l3 : Int32} {S : evS} (h : bk_X3_setOfLeg_0 G d (evQV q) x0 l1 l2 l3 S) : evSp G yX3_setOfLeg M_X3_setOfLeg (d + 1) [.ref (evad G 3 x0), .int l1, .int l2, .int l3] S (evQV q) :=
  evSp.of (by decide +kernel) rfl (Nat.le_of_ble_eq_true rfl) h
abbrev bk_X3_placeOf_0 (G : evG) (d : Nat) (Q : Option Value → evS → Prop) (l0 : Int32) (l1 : Int32) (S : evS) : Prop := evAt G M_X3_placeOf (evFm G d Q) 0 [(0, .int l0), (1, .int l1)] [] S
set_option maxRecDepth 100000 in
set_option maxHeartbeats 4000000 in
theorem vb_X3_placeOf_0 {G : evG} {d : Nat} {q : Int32 → evS → Prop} (hCl : evCl G) {l0 : Int32} {l1 : Int32} {S : evS}
    (h : ((l0 < 0 → q (-1) S) ∧ (¬ l0 < 0 → ((6 ≤ l0 → q (-1) S) ∧ (¬ 6 ≤ l0 → ((l1 < 0 → q (-1) S) ∧ (¬ l1 < 0 → ((l1 < 4 → q ((l0 * 4) + l1) S) ∧ (¬ l1 < 4 → q (-1) S))))))))) : bk_X3_placeOf_0 G d (evQI q) l0 l1 S := by
  refine ea_iload_n (pc' := 1) (i := 0) dX3_placeOf_0 rfl 0 rfl rfl ?_
  refine ea_if_lt (tgt := 19) (pc' := 4) dX3_placeOf_1 (by decide) rfl (fun hc => ?_) (fun hc => ?_)
  · replace h := h.1 hc
    refine ea_iconst (v := (-1)) (pc' := 20) dX3_placeOf_19 (by decide) rfl ?_
    exact ea_iret rfl dX3_placeOf_20 ⟨_, rfl, h⟩
  · replace h := h.2 hc
    refine ea_iload_n (pc' := 5) (i := 0) dX3_placeOf_4 rfl 0 rfl rfl ?_
    refine ea_bipush (v := 6) (pc' := 7) dX3_placeOf_5 (by decide) rfl ?_
    refine ea_icmp_ge (tgt := 19) (pc' := 10) dX3_placeOf_7 (by decide) rfl (fun hc => ?_) (fun hc => ?_)
    · replace h := h.1 hc
      refine ea_iconst (v := (-1)) (pc' := 20) dX3_placeOf_19 (by decide) rfl ?_
      exact ea_iret rfl dX3_placeOf_20 ⟨_, rfl, h⟩
    · replace h := h.2 hc
      refine ea_iload_n (pc' := 11) (i := 1) dX3_placeOf_10 rfl 1 rfl rfl ?_
      refine ea_if_lt (tgt := 19) (pc' := 14) dX3_placeOf_11 (by decide) rfl (fun hc => ?_) (fun hc => ?_)
      · replace h := h.1 hc
        refine ea_iconst (v := (-1)) (pc' := 20) dX3_placeOf_19 (by decide) rfl ?_
        exact ea_iret rfl dX3_placeOf_20 ⟨_, rfl, h⟩
      · replace h := h.2 hc
        refine ea_iload_n (pc' := 15) (i := 1) dX3_placeOf_14 rfl 1 rfl rfl ?_
        refine ea_iconst (v := 4) (pc' := 16) dX3_placeOf_15 (by decide) rfl ?_
        refine ea_icmp_lt (tgt := 21) (pc' := 19) dX3_placeOf_16 (by decide) rfl (fun hc => ?_) (fun hc => ?_)
        · replace h := h.1 hc
          refine ea_iload_n (pc' := 22) (i := 0) dX3_placeOf_21 rfl 0 rfl rfl ?_
          refine ea_iconst (v := 4) (pc' := 23) dX3_placeOf_22 (by decide) rfl ?_
          refine ea_imul (pc' := 24) dX3_placeOf_23 rfl ?_
          refine ea_iload_n (pc' := 25) (i := 1) dX3_placeOf_24 rfl 1 rfl rfl ?_
          refine ea_iadd (pc' := 26) dX3_placeOf_25 rfl ?_
          exact ea_iret rfl dX3_placeOf_26 ⟨_, rfl, h⟩
        · replace h := h.2 hc
          refine ea_iconst (v := (-1)) (pc' := 20) dX3_placeOf_19 (by decide) rfl ?_
          exact ea_iret rfl dX3_placeOf_20 ⟨_, rfl, h⟩
theorem vm_X3_placeOf {G : evG} {d : Nat} {q : Int32 → evS → Prop} {l0 : Int32} {l1 : Int32} {S : evS} (h : bk_X3_placeOf_0 G d (evQI q) l0 l1 S) : evSp G yX3_placeOf M_X3_placeOf d [.int l0, .int l1] S (evQI q) :=
  evSp.of (by decide +kernel) rfl (Nat.le_of_ble_eq_true rfl) h
abbrev bk_X3_setTrait_0 (G : evG) (d : Nat) (Q : Option Value → evS → Prop) (x0 : Nat) (l1 : Int32) (l2 : Int32) (S : evS) : Prop := evAt G M_X3_setTrait (evFm G d Q) 0 [(0, .ref (evad G 3 x0)), (1, .int l1), (2, .int l2)] [] S
set_option maxRecDepth 100000 in
set_option maxHeartbeats 4000000 in
theorem vb_X3_setTrait_0 {G : evG} {d : Nat} {q : evS → Prop} (hCl : evCl G) {x0 : Nat} {l1 : Int32} {l2 : Int32} {S : evS} (hVl0 : (3, x0) ∈ evKs G)
    (h : ((l1 < 0 → q S) ∧ (¬ l1 < 0 → ((9 ≤ l1 → q S) ∧ (¬ 9 ≤ l1 → (vp_in l1 9 ∧ (∀ S2 : evS, S2 = evup S 4 x0 l1.toNatClampNeg l2 → q S2))))))) : bk_X3_setTrait_0 G d (evQV q) x0 l1 l2 S := by
  refine ea_iload_n (pc' := 1) (i := 1) dX3_setTrait_0 rfl 1 rfl rfl ?_
  refine ea_if_lt (tgt := 17) (pc' := 4) dX3_setTrait_1 (by decide) rfl (fun hc => ?_) (fun hc => ?_)
  · replace h := h.1 hc
    exact ea_vret rfl dX3_setTrait_17 ⟨rfl, h⟩
  · replace h := h.2 hc
    refine ea_iload_n (pc' := 5) (i := 1) dX3_setTrait_4 rfl 1 rfl rfl ?_
    refine ea_bipush (v := 9) (pc' := 7) dX3_setTrait_5 (by decide) rfl ?_
    refine ea_icmp_ge (tgt := 17) (pc' := 10) dX3_setTrait_7 (by decide) rfl (fun hc => ?_) (fun hc => ?_)
    · replace h := h.1 hc
      exact ea_vret rfl dX3_setTrait_17 ⟨rfl, h⟩
    · replace h := h.2 hc
      refine ea_aload_n (pc' := 11) (i := 0) dX3_setTrait_10 rfl 0 rfl rfl ?_
      refine ea_getr (k2 := 4) (x2 := x0) (kf := 0) (pc' := 14) kok_3 hVl0 (by decide) rfl fl_X3_9 rfl dX3_setTrait_11 rfl ?_
      refine ea_iload_n (pc' := 15) (i := 1) dX3_setTrait_14 rfl 1 rfl rfl ?_
      refine ea_iload_n (pc' := 16) (i := 2) dX3_setTrait_15 rfl 2 rfl rfl ?_
      obtain ⟨o1, h⟩ := h
      refine ea_iast (j := l1.toNatClampNeg) (pc' := 17) (hCl.1 3 x0 0 4 hVl0 rfl) rfl o1 dX3_setTrait_16 rfl rfl ?_
      refine ea_tops (fun S2 hS2 => ?_)
      replace h := h S2 hS2
      exact ea_vret rfl dX3_setTrait_17 ⟨rfl, h⟩
theorem vm_X3_setTrait {G : evG} {d : Nat} {q : evS → Prop} {x0 : Nat} {l1 : Int32} {l2 : Int32} {S : evS} (h : bk_X3_setTrait_0 G d (evQV q) x0 l1 l2 S) : evSp G yX3_setTrait M_X3_setTrait d [.ref (evad G 3 x0), .int l1, .int l2] S (evQV q) :=
  evSp.of (by decide +kernel) rfl (Nat.le_of_ble_eq_true rfl) h
abbrev bk_X1_remember_0 (G : evG) (d : Nat) (Q : Option Value → evS → Prop) (x0 : Nat) (x1 : Nat) (S : evS) : Prop := evAt G M_X1_remember (evFm G (d + 1) Q) 0 [(0, .ref (evad G 16 x0)), (1, .ref (evad G 1 x1))] [] S
abbrev bk_X1_remember_35 (G : evG) (d : Nat) (Q : Option Value → evS → Prop) (x0 : Nat) (xs0 : Nat) (s1 : Int32) (S : evS) : Prop := evAt G M_X1_remember (evFm G (d + 1) Q) 35 [(0, .ref (evad G 16 x0))] [.int s1, .ref (evad G 16 xs0)] S
set_option maxRecDepth 100000 in
set_option maxHeartbeats 4000000 in
theorem vb_X1_remember_0 {G : evG} {d : Nat} {q : evS → Prop} (hCl : evCl G) {x0 : Nat} {x1 : Nat} {S : evS} (hVl0 : (16, x0) ∈ evKs G) (hVl1 : (1, x1) ∈ evKs G)
    (h : (vp_in (S.1 16 x0 1) 6 ∧ (evSp G yX0_becomeLike M_X0_becomeLike d [.ref (evad G 1 (1 + ((S.1 16 x0 1).toNatClampNeg))), .ref (evad G 1 x1)] S (evQV fun S2 => ((6 ≤ ((S2.1 16 x0 1) + 1) → bk_X1_remember_35 G d (evQV q) x0 x0 0 S2) ∧ (¬ 6 ≤ ((S2.1 16 x0 1) + 1) → bk_X1_remember_35 G d (evQV q) x0 x0 ((S2.1 16 x0 1) + 1) S2)))))) : bk_X1_remember_0 G d (evQV q) x0 x1 S := by
  refine ea_aload_n (pc' := 1) (i := 0) dX1_remember_0 rfl 0 rfl rfl ?_
  refine ea_getr (k2 := 17) (x2 := 0) (kf := 0) (pc' := 4) kok_16 hVl0 (by decide) rfl fl_X1_11 rfl dX1_remember_1 rfl ?_
  refine ea_aload_n (pc' := 5) (i := 0) dX1_remember_4 rfl 0 rfl rfl ?_
  refine ea_geti (kf := 1) (pc' := 8) kok_16 hVl0 (by decide) rfl fl_X1_15 dX1_remember_5 rfl ?_
  obtain ⟨o1, h⟩ := h
  refine ea_aald (t0 := 3) (cn := RX0) (j := (S.1 16 x0 1).toNatClampNeg) (x2 := (1 + ((S.1 16 x0 1).toNatClampNeg))) (k2 := 1) (pc' := 9) (hCl.1 16 x0 0 17 hVl0 rfl) rfl rfl o1 dX1_remember_8 rfl rfl rfl rfl ?_
  refine ea_aload_n (pc' := 10) (i := 1) dX1_remember_9 rfl 1 rfl rfl ?_
  refine ea_cvv (As := [.ref (evad G 1 x1)]) (st := []) (d := d) (pc' := 13) mv_X0_becomeLike ml_X1_23 kok_1 (ev_cle (n := 6) (j := (S.1 16 x0 1).toNatClampNeg) (k2 := 1) (x2 := (1 + ((S.1 16 x0 1).toNatClampNeg))) hCl (hCl.1 16 x0 0 17 hVl0 rfl) rfl rfl o1 rfl rfl rfl) rfl rfl dX1_remember_10 rfl (Nat.le_of_ble_eq_true rfl) (ev_room (by decide)) ⟨Nat.le_refl _, Nat.le_refl _⟩ h rfl (fun S2 h => ?_)
  refine ea_aload_n (pc' := 14) (i := 0) dX1_remember_13 rfl 0 rfl rfl ?_
  refine ea_aload_n (pc' := 15) (i := 0) dX1_remember_14 rfl 0 rfl rfl ?_
  refine ea_geti (kf := 1) (pc' := 18) kok_16 hVl0 (by decide) rfl fl_X1_15 dX1_remember_15 rfl ?_
  refine ea_iconst (v := 1) (pc' := 19) dX1_remember_18 (by decide) rfl ?_
  refine ea_iadd (pc' := 20) dX1_remember_19 rfl ?_
  refine ea_bipush (v := 6) (pc' := 22) dX1_remember_20 (by decide) rfl ?_
  refine ea_icmp_ge (tgt := 34) (pc' := 25) dX1_remember_22 (by decide) rfl (fun hc => ?_) (fun hc => ?_)
  · replace h := h.1 hc
    refine ea_iconst (v := 0) (pc' := 35) dX1_remember_34 (by decide) rfl ?_
    refine ea_loc [0] rfl ?_
    exact h
  · replace h := h.2 hc
    refine ea_aload_n (pc' := 26) (i := 0) dX1_remember_25 rfl 0 rfl rfl ?_
    refine ea_geti (kf := 1) (pc' := 29) kok_16 hVl0 (by decide) rfl fl_X1_15 dX1_remember_26 rfl ?_
    refine ea_iconst (v := 1) (pc' := 30) dX1_remember_29 (by decide) rfl ?_
    refine ea_iadd (pc' := 31) dX1_remember_30 rfl ?_
    refine ea_goto (tgt := 35) dX1_remember_31 (by decide) ?_
    refine ea_loc [0] rfl ?_
    exact h
set_option maxRecDepth 100000 in
set_option maxHeartbeats 4000000 in
theorem vb_X1_remember_35 {G : evG} {d : Nat} {q : evS → Prop} (hCl : evCl G) {x0 : Nat} {xs0 : Nat} {s1 : Int32} {S : evS} (hVl0 : (16, x0) ∈ evKs G) (hVs0 : (16, xs0) ∈ evKs G)
    (h : (∀ S1 : evS, S1 = evup S 16 xs0 1 s1 → (evSp G yJ9_min_7cf53 M_J9_min_7cf53 d [.int 6, .int ((S1.1 16 x0 2) + 1)] S1 (evQI fun r2 S3 => (∀ S4 : evS, S4 = evup S3 16 x0 2 r2 → q S4))))) : bk_X1_remember_35 G d (evQV q) x0 xs0 s1 S := by
  refine ea_puti (kf := 1) (pc' := 38) kok_16 hVs0 (by decide) rfl fl_X1_15 rfl rfl dX1_remember_35 rfl ?_
  refine ea_tops (fun S1 hS1 => ?_)
  replace h := h S1 hS1
  refine ea_aload_n (pc' := 39) (i := 0) dX1_remember_38 rfl 0 rfl rfl ?_
  refine ea_bipush (v := 6) (pc' := 41) dX1_remember_39 (by decide) rfl ?_
  refine ea_aload_n (pc' := 42) (i := 0) dX1_remember_41 rfl 0 rfl rfl ?_
  refine ea_geti (kf := 2) (pc' := 45) kok_16 hVl0 (by decide) rfl fl_X1_19 dX1_remember_42 rfl ?_
  refine ea_iconst (v := 1) (pc' := 46) dX1_remember_45 (by decide) rfl ?_
  refine ea_iadd (pc' := 47) dX1_remember_46 rfl ?_
  refine ea_csi (As := [.int 6, .int ((S1.1 16 x0 2) + 1)]) (st := [.ref (evad G 16 x0)]) (d := d) (pc' := 50) mv_J9_min_7cf53 ml_X1_27 rfl dX1_remember_47 rfl (Nat.le_of_ble_eq_true rfl) (ev_room (by decide)) ⟨Nat.le_refl _, Nat.le_refl _⟩ h rfl (fun r2 S3 h => ?_)
  refine ea_puti (kf := 2) (pc' := 53) kok_16 hVl0 (by decide) rfl fl_X1_19 rfl rfl dX1_remember_50 rfl ?_
  refine ea_tops (fun S4 hS4 => ?_)
  replace h := h S4 hS4
  exact ea_vret rfl dX1_remember_53 ⟨rfl, h⟩
theorem vm_X1_remember {G : evG} {d : Nat} {q : evS → Prop} {x0 : Nat} {x1 : Nat} {S : evS} (h : bk_X1_remember_0 G d (evQV q) x0 x1 S) : evSp G yX1_remember M_X1_remember (d + 1) [.ref (evad G 16 x0), .ref (evad G 1 x1)] S (evQV q) :=
  evSp.of (by decide +kernel) rfl (Nat.le_of_ble_eq_true rfl) h
abbrev bk_X0_becomeLike_0 (G : evG) (d : Nat) (Q : Option Value → evS → Prop) (x0 : Nat) (x1 : Nat) (S : evS) : Prop := evAt G M_X0_becomeLike (evFm G (d + 1) Q) 0 [(0, .ref (evad G 1 x0)), (1, .ref (evad G 1 x1))] [] S
abbrev bk_X0_becomeLike_2 (G : evG) (d : Nat) (Q : Option Value → evS → Prop) (x0 : Nat) (x1 : Nat) (l2 : Int32) (S : evS) : Prop := evAt G M_X0_becomeLike (evFm G (d + 1) Q) 2 [(0, .ref (evad G 1 x0)), (1, .ref (evad G 1 x1)), (2, .int l2)] [] S
set_option maxRecDepth 100000 in
set_option maxHeartbeats 4000000 in
theorem vb_X0_becomeLike_0 {G : evG} {d : Nat} {q : evS → Prop} (hCl : evCl G) {x0 : Nat} {x1 : Nat} {S : evS} (hVl0 : (1, x0) ∈ evKs G) (hVl1 : (1, x1) ∈ evKs G)
    (h : bk_X0_becomeLike_2 G d (evQV q) x0 x1 0 S) : bk_X0_becomeLike_0 G d (evQV q) x0 x1 S := by
  refine ea_iconst (v := 0) (pc' := 1) dX0_becomeLike_0 (by decide) rfl ?_
  refine ea_istore_n (lv' := [(2, .int 0), (0, .ref (evad G 1 x0)), (1, .ref (evad G 1 x1))]) (pc' := 2) dX0_becomeLike_1 rfl (by decide) rfl rfl ?_
  refine ea_loc [1, 2, 0] rfl ?_
  exact h
set_option maxRecDepth 100000 in
set_option maxHeartbeats 4000000 in
theorem vb_X0_becomeLike_2 {G : evG} {d : Nat} {q : evS → Prop} (hCl : evCl G) {x0 : Nat} {x1 : Nat} {l2 : Int32} {S : evS} (hVl0 : (1, x0) ∈ evKs G) (hVl1 : (1, x1) ∈ evKs G)
    (h : ((4 ≤ l2 → q S) ∧ (¬ 4 ≤ l2 → (vp_in l2 4 ∧ (vp_in l2 4 ∧ (evSp G yX3_becomeLike M_X3_becomeLike d [.ref (evad G 3 (4 * x0 + l2.toNatClampNeg)), .ref (evad G 3 (4 * x1 + l2.toNatClampNeg))] S (evQV fun S3 => (∀ v4 : Int32, v4 = (l2 + 1) → bk_X0_becomeLike_2 G d (evQV q) x0 x1 v4 S3)))))))) : bk_X0_becomeLike_2 G d (evQV q) x0 x1 l2 S := by
  refine ea_iload_n (pc' := 3) (i := 2) dX0_becomeLike_2 rfl 2 rfl rfl ?_
  refine ea_iconst (v := 4) (pc' := 4) dX0_becomeLike_3 (by decide) rfl ?_
  refine ea_icmp_ge (tgt := 28) (pc' := 7) dX0_becomeLike_4 (by decide) rfl (fun hc => ?_) (fun hc => ?_)
  · replace h := h.1 hc
    exact ea_vret rfl dX0_becomeLike_28 ⟨rfl, h⟩
  · replace h := h.2 hc
    refine ea_aload_n (pc' := 8) (i := 0) dX0_becomeLike_7 rfl 0 rfl rfl ?_
    refine ea_getr (k2 := 2) (x2 := x0) (kf := 0) (pc' := 11) kok_1 hVl0 (by decide) rfl fl_X0_11 rfl dX0_becomeLike_8 rfl ?_
    refine ea_iload_n (pc' := 12) (i := 2) dX0_becomeLike_11 rfl 2 rfl rfl ?_
    obtain ⟨o1, h⟩ := h
    refine ea_aald (t0 := 4) (cn := RX3) (j := l2.toNatClampNeg) (x2 := (4 * x0 + l2.toNatClampNeg)) (k2 := 3) (pc' := 13) (hCl.1 1 x0 0 2 hVl0 rfl) rfl rfl o1 dX0_becomeLike_12 rfl rfl rfl rfl ?_
    refine ea_aload_n (pc' := 14) (i := 1) dX0_becomeLike_13 rfl 1 rfl rfl ?_
    refine ea_getr (k2 := 2) (x2 := x1) (kf := 0) (pc' := 17) kok_1 hVl1 (by decide) rfl fl_X0_11 rfl dX0_becomeLike_14 rfl ?_
    refine ea_iload_n (pc' := 18) (i := 2) dX0_becomeLike_17 rfl 2 rfl rfl ?_
    obtain ⟨o2, h⟩ := h
    refine ea_aald (t0 := 4) (cn := RX3) (j := l2.toNatClampNeg) (x2 := (4 * x1 + l2.toNatClampNeg)) (k2 := 3) (pc' := 19) (hCl.1 1 x1 0 2 hVl1 rfl) rfl rfl o2 dX0_becomeLike_18 rfl rfl rfl rfl ?_
    refine ea_cvv (As := [.ref (evad G 3 (4 * x1 + l2.toNatClampNeg))]) (st := []) (d := d) (pc' := 22) mv_X3_becomeLike ml_X0_18 kok_3 (ev_cle (n := 4) (j := l2.toNatClampNeg) (k2 := 3) (x2 := (4 * x0 + l2.toNatClampNeg)) hCl (hCl.1 1 x0 0 2 hVl0 rfl) rfl rfl o1 rfl rfl rfl) rfl rfl dX0_becomeLike_19 rfl (Nat.le_of_ble_eq_true rfl) (ev_room (by decide)) ⟨Nat.le_refl _, Nat.le_refl _⟩ h rfl (fun S3 h => ?_)
    obtain ⟨v4, hv4⟩ : ∃ z : Int32, z = (l2 + 1) := ⟨_, rfl⟩
    replace h := h v4 hv4
    refine ea_iinc (q := 2) (v := v4) (lv' := [(2, .int v4), (0, .ref (evad G 1 x0)), (1, .ref (evad G 1 x1))]) (pc' := 25) dX0_becomeLike_22 rfl (by rw [hv4]; rfl) (by decide) rfl rfl ?_
    refine ea_goto (tgt := 2) dX0_becomeLike_25 (by decide) ?_
    refine ea_loc [1, 2, 0] rfl ?_
    exact h
theorem vm_X0_becomeLike {G : evG} {d : Nat} {q : evS → Prop} {x0 : Nat} {x1 : Nat} {S : evS} (h : bk_X0_becomeLike_0 G d (evQV q) x0 x1 S) : evSp G yX0_becomeLike M_X0_becomeLike (d + 1) [.ref (evad G 1 x0), .ref (evad G 1 x1)] S (evQV q) :=
  evSp.of (by decide +kernel) rfl (Nat.le_of_ble_eq_true rfl) h
abbrev bk_X3_becomeLike_0 (G : evG) (d : Nat) (Q : Option Value → evS → Prop) (x0 : Nat) (x1 : Nat) (S : evS) : Prop := evAt G M_X3_becomeLike (evFm G (d + 1) Q) 0 [(0, .ref (evad G 3 x0)), (1, .ref (evad G 3 x1))] [] S
set_option maxRecDepth 100000 in
set_option maxHeartbeats 4000000 in
theorem vb_X3_becomeLike_0 {G : evG} {d : Nat} {q : evS → Prop} (hCl : evCl G) {x0 : Nat} {x1 : Nat} {S : evS} (hVl0 : (3, x0) ∈ evKs G) (hVl1 : (3, x1) ∈ evKs G)
    (h : (∀ S1 : evS, S1 = evcpy S 4 x0 (va_cpy (S.1 4 x1) (S.1 4 x0) 0 0 (9 : Int32).toNatClampNeg) → (∀ S2 : evS, S2 = evcpy S1 5 x0 (va_cpy (S1.1 5 x1) (S1.1 5 x0) 0 0 (24 : Int32).toNatClampNeg) → q S2))) : bk_X3_becomeLike_0 G d (evQV q) x0 x1 S := by
  refine ea_aload_n (pc' := 1) (i := 1) dX3_becomeLike_0 rfl 1 rfl rfl ?_
  refine ea_getr (k2 := 4) (x2 := x1) (kf := 0) (pc' := 4) kok_3 hVl1 (by decide) rfl fl_X3_9 rfl dX3_becomeLike_1 rfl ?_
  refine ea_iconst (v := 0) (pc' := 5) dX3_becomeLike_4 (by decide) rfl ?_
  refine ea_aload_n (pc' := 6) (i := 0) dX3_becomeLike_5 rfl 0 rfl rfl ?_
  refine ea_getr (k2 := 4) (x2 := x0) (kf := 0) (pc' := 9) kok_3 hVl0 (by decide) rfl fl_X3_9 rfl dX3_becomeLike_6 rfl ?_
  refine ea_iconst (v := 0) (pc' := 10) dX3_becomeLike_9 (by decide) rfl ?_
  refine ea_bipush (v := 9) (pc' := 12) dX3_becomeLike_10 (by decide) rfl ?_
  refine ea_copyi (pc' := 15) (hCl.1 3 x0 0 4 hVl0 rfl) rfl (hCl.1 3 x1 0 4 hVl1 rfl) rfl (by decide) (by decide) (by decide) ac_X3_22 (Nat.le_add_left 1 d) (ev_acr d) dX3_becomeLike_12 rfl ?_
  refine ea_tops (fun S1 hS1 => ?_)
  replace h := h S1 hS1
  refine ea_aload_n (pc' := 16) (i := 1) dX3_becomeLike_15 rfl 1 rfl rfl ?_
  refine ea_getr (k2 := 5) (x2 := x1) (kf := 1) (pc' := 19) kok_3 hVl1 (by decide) rfl fl_X3_13 rfl dX3_becomeLike_16 rfl ?_
  refine ea_iconst (v := 0) (pc' := 20) dX3_becomeLike_19 (by decide) rfl ?_
  refine ea_aload_n (pc' := 21) (i := 0) dX3_becomeLike_20 rfl 0 rfl rfl ?_
  refine ea_getr (k2 := 5) (x2 := x0) (kf := 1) (pc' := 24) kok_3 hVl0 (by decide) rfl fl_X3_13 rfl dX3_becomeLike_21 rfl ?_
  refine ea_iconst (v := 0) (pc' := 25) dX3_becomeLike_24 (by decide) rfl ?_
  refine ea_bipush (v := 24) (pc' := 27) dX3_becomeLike_25 (by decide) rfl ?_
  refine ea_copyi (pc' := 30) (hCl.1 3 x0 1 5 hVl0 rfl) rfl (hCl.1 3 x1 1 5 hVl1 rfl) rfl (by decide) (by decide) (by decide) ac_X3_22 (Nat.le_add_left 1 d) (ev_acr d) dX3_becomeLike_27 rfl ?_
  refine ea_tops (fun S2 hS2 => ?_)
  replace h := h S2 hS2
  exact ea_vret rfl dX3_becomeLike_30 ⟨rfl, h⟩
theorem vm_X3_becomeLike {G : evG} {d : Nat} {q : evS → Prop} {x0 : Nat} {x1 : Nat} {S : evS} (h : bk_X3_becomeLike_0 G d (evQV q) x0 x1 S) : evSp G yX3_becomeLike M_X3_becomeLike (d + 1) [.ref (evad G 3 x0), .ref (evad G 3 x1)] S (evQV q) :=
  evSp.of (by decide +kernel) rfl (Nat.le_of_ble_eq_true rfl) h
abbrev bk_X3_ofLeg_0 (G : evG) (d : Nat) (Q : Option Value → evS → Prop) (x0 : Nat) (l1 : Int32) (l2 : Int32) (S : evS) : Prop := evAt G M_X3_ofLeg (evFm G (d + 1) Q) 0 [(0, .ref (evad G 3 x0)), (1, .int l1), (2, .int l2)] [] S
set_option maxRecDepth 100000 in
set_option maxHeartbeats 4000000 in
theorem vb_X3_ofLeg_0 {G : evG} {d : Nat} {q : Int32 → evS → Prop} (hCl : evCl G) {x0 : Nat} {l1 : Int32} {l2 : Int32} {S : evS} (hVl0 : (3, x0) ∈ evKs G)
    (h : (evSp G yX3_placeOf M_X3_placeOf d [.int l1, .int l2] S (evQI fun r1 S2 => ((0 ≤ r1 → (vp_in r1 24 ∧ q (S2.1 5 x0 r1.toNatClampNeg) S2)) ∧ (¬ 0 ≤ r1 → q 0 S2))))) : bk_X3_ofLeg_0 G d (evQI q) x0 l1 l2 S := by
  refine ea_iload_n (pc' := 1) (i := 1) dX3_ofLeg_0 rfl 1 rfl rfl ?_
  refine ea_iload_n (pc' := 2) (i := 2) dX3_ofLeg_1 rfl 2 rfl rfl ?_
  refine ea_csi (As := [.int l1, .int l2]) (st := []) (d := d) (pc' := 5) mv_X3_placeOf ml_X3_34 rfl dX3_ofLeg_2 rfl (Nat.le_of_ble_eq_true rfl) (ev_room (by decide)) ⟨Nat.le_refl _, Nat.le_refl _⟩ h rfl (fun r1 S2 h => ?_)
  refine ea_istore_n (lv' := [(3, .int r1), (0, .ref (evad G 3 x0)), (1, .int l1), (2, .int l2)]) (pc' := 6) dX3_ofLeg_5 rfl (by decide) rfl rfl ?_
  refine ea_iload_n (pc' := 7) (i := 3) dX3_ofLeg_6 rfl 0 rfl rfl ?_
  refine ea_if_ge (tgt := 14) (pc' := 10) dX3_ofLeg_7 (by decide) rfl (fun hc => ?_) (fun hc => ?_)
  · replace h := h.1 hc
    refine ea_aload_n (pc' := 15) (i := 0) dX3_ofLeg_14 rfl 1 rfl rfl ?_
    refine ea_getr (k2 := 5) (x2 := x0) (kf := 1) (pc' := 18) kok_3 hVl0 (by decide) rfl fl_X3_13 rfl dX3_ofLeg_15 rfl ?_
    refine ea_iload_n (pc' := 19) (i := 3) dX3_ofLeg_18 rfl 0 rfl rfl ?_
    obtain ⟨o3, h⟩ := h
    refine ea_iald (j := r1.toNatClampNeg) (pc' := 20) (hCl.1 3 x0 1 5 hVl0 rfl) rfl o3 dX3_ofLeg_19 rfl rfl ?_
    exact ea_iret rfl dX3_ofLeg_20 ⟨_, rfl, h⟩
  · replace h := h.2 hc
    refine ea_iconst (v := 0) (pc' := 11) dX3_ofLeg_10 (by decide) rfl ?_
    refine ea_goto (tgt := 20) dX3_ofLeg_11 (by decide) ?_
    exact ea_iret rfl dX3_ofLeg_20 ⟨_, rfl, h⟩
theorem vm_X3_ofLeg {G : evG} {d : Nat} {q : Int32 → evS → Prop} {x0 : Nat} {l1 : Int32} {l2 : Int32} {S : evS} (h : bk_X3_ofLeg_0 G d (evQI q) x0 l1 l2 S) : evSp G yX3_ofLeg M_X3_ofLeg (d + 1) [.ref (evad G 3 x0), .int l1, .int l2] S (evQI q) :=
  evSp.of (by decide +kernel) rfl (Nat.le_of_ble_eq_true rfl) h
abbrev bk_X3_isPortAhead_0 (G : evG) (d : Nat) (Q : Option Value → evS → Prop) (x0 : Nat) (l1 : Int32) (S : evS) : Prop := evAt G M_X3_isPortAhead (evFm G d Q) 0 [(0, .ref (evad G 3 x0)), (1, .int l1)] [] S
set_option maxRecDepth 100000 in
set_option maxHeartbeats 4000000 in
theorem vb_X3_isPortAhead_0 {G : evG} {d : Nat} {q : Int32 → evS → Prop} (hCl : evCl G) {x0 : Nat} {l1 : Int32} {S : evS} (hVl0 : (3, x0) ∈ evKs G)
    (h : ((l1 ≤ (S.1 4 x0 2) → q 0 S) ∧ (¬ l1 ≤ (S.1 4 x0 2) → (((S.1 4 x0 0) < l1 → q 0 S) ∧ (¬ (S.1 4 x0 0) < l1 → q 1 S))))) : bk_X3_isPortAhead_0 G d (evQI q) x0 l1 S := by
  refine ea_iload_n (pc' := 1) (i := 1) dX3_isPortAhead_0 rfl 1 rfl rfl ?_
  refine ea_aload_n (pc' := 2) (i := 0) dX3_isPortAhead_1 rfl 0 rfl rfl ?_
  refine ea_getr (k2 := 4) (x2 := x0) (kf := 0) (pc' := 5) kok_3 hVl0 (by decide) rfl fl_X3_9 rfl dX3_isPortAhead_2 rfl ?_
  refine ea_iconst (v := 2) (pc' := 6) dX3_isPortAhead_5 (by decide) rfl ?_
  refine ea_iald (j := 2) (pc' := 7) (hCl.1 3 x0 0 4 hVl0 rfl) rfl (by unfold vp_in; decide) dX3_isPortAhead_6 (by decide) rfl ?_
  refine ea_icmp_le (tgt := 24) (pc' := 10) dX3_isPortAhead_7 (by decide) rfl (fun hc => ?_) (fun hc => ?_)
  · replace h := h.1 hc
    refine ea_iconst (v := 0) (pc' := 25) dX3_isPortAhead_24 (by decide) rfl ?_
    exact ea_zret rfl dX3_isPortAhead_25 (by decide) ⟨_, rfl, h⟩
  · replace h := h.2 hc
    refine ea_iload_n (pc' := 11) (i := 1) dX3_isPortAhead_10 rfl 1 rfl rfl ?_
    refine ea_aload_n (pc' := 12) (i := 0) dX3_isPortAhead_11 rfl 0 rfl rfl ?_
    refine ea_getr (k2 := 4) (x2 := x0) (kf := 0) (pc' := 15) kok_3 hVl0 (by decide) rfl fl_X3_9 rfl dX3_isPortAhead_12 rfl ?_
    refine ea_iconst (v := 0) (pc' := 16) dX3_isPortAhead_15 (by decide) rfl ?_
    refine ea_iald (j := 0) (pc' := 17) (hCl.1 3 x0 0 4 hVl0 rfl) rfl (by unfold vp_in; decide) dX3_isPortAhead_16 (by decide) rfl ?_
    refine ea_icmp_gt (tgt := 24) (pc' := 20) dX3_isPortAhead_17 (by decide) rfl (fun hc => ?_) (fun hc => ?_)
    · replace h := h.1 hc
      refine ea_iconst (v := 0) (pc' := 25) dX3_isPortAhead_24 (by decide) rfl ?_
      exact ea_zret rfl dX3_isPortAhead_25 (by decide) ⟨_, rfl, h⟩
    · replace h := h.2 hc
      refine ea_iconst (v := 1) (pc' := 21) dX3_isPortAhead_20 (by decide) rfl ?_
      refine ea_goto (tgt := 25) dX3_isPortAhead_21 (by decide) ?_
      exact ea_zret rfl dX3_isPortAhead_25 (by decide) ⟨_, rfl, h⟩
theorem vm_X3_isPortAhead {G : evG} {d : Nat} {q : Int32 → evS → Prop} {x0 : Nat} {l1 : Int32} {S : evS} (h : bk_X3_isPortAhead_0 G d (evQI q) x0 l1 S) : evSp G yX3_isPortAhead M_X3_isPortAhead d [.ref (evad G 3 x0), .int l1] S (evQI q) :=
  evSp.of (by decide +kernel) rfl (Nat.le_of_ble_eq_true rfl) h
abbrev bk_X1_known_0 (G : evG) (d : Nat) (Q : Option Value → evS → Prop) (x0 : Nat) (S : evS) : Prop := evAt G M_X1_known (evFm G d Q) 0 [(0, .ref (evad G 16 x0))] [] S
set_option maxRecDepth 100000 in
set_option maxHeartbeats 4000000 in
theorem vb_X1_known_0 {G : evG} {d : Nat} {q : Int32 → evS → Prop} (hCl : evCl G) {x0 : Nat} {S : evS} (hVl0 : (16, x0) ∈ evKs G)
    (h : q (S.1 16 x0 2) S) : bk_X1_known_0 G d (evQI q) x0 S := by
  refine ea_aload_n (pc' := 1) (i := 0) dX1_known_0 rfl 0 rfl rfl ?_
  refine ea_geti (kf := 2) (pc' := 4) kok_16 hVl0 (by decide) rfl fl_X1_19 dX1_known_1 rfl ?_
  exact ea_iret rfl dX1_known_4 ⟨_, rfl, h⟩
theorem vm_X1_known {G : evG} {d : Nat} {q : Int32 → evS → Prop} {x0 : Nat} {S : evS} (h : bk_X1_known_0 G d (evQI q) x0 S) : evSp G yX1_known M_X1_known d [.ref (evad G 16 x0)] S (evQI q) :=
  evSp.of (by decide +kernel) rfl (Nat.le_of_ble_eq_true rfl) h
abbrev bk_X1_restore_0 (G : evG) (d : Nat) (Q : Option Value → evS → Prop) (x0 : Nat) (x1 : Nat) (S : evS) : Prop := evAt G M_X1_restore (evFm G (d + 1) Q) 0 [(0, .ref (evad G 16 x0)), (1, .ref (evad G 1 x1))] [] S
abbrev bk_X1_restore_26 (G : evG) (d : Nat) (Q : Option Value → evS → Prop) (x0 : Nat) (x1 : Nat) (xs0 : Nat) (s1 : Int32) (S : evS) : Prop := evAt G M_X1_restore (evFm G (d + 1) Q) 26 [(0, .ref (evad G 16 x0)), (1, .ref (evad G 1 x1))] [.int s1, .ref (evad G 16 xs0)] S
set_option maxRecDepth 100000 in
set_option maxHeartbeats 4000000 in
theorem vb_X1_restore_0 {G : evG} {d : Nat} {q : evS → Prop} (hCl : evCl G) {x0 : Nat} {x1 : Nat} {S : evS} (hVl0 : (16, x0) ∈ evKs G) (hVl1 : (1, x1) ∈ evKs G)
    (h : ((¬ (S.1 16 x0 2) = 0 → (((S.1 16 x0 1) ≤ 0 → bk_X1_restore_26 G d (evQV q) x0 x1 x0 5 S) ∧ (¬ (S.1 16 x0 1) ≤ 0 → bk_X1_restore_26 G d (evQV q) x0 x1 x0 ((S.1 16 x0 1) - 1) S))) ∧ ((S.1 16 x0 2) = 0 → q S))) : bk_X1_restore_0 G d (evQV q) x0 x1 S := by
  refine ea_aload_n (pc' := 1) (i := 0) dX1_restore_0 rfl 0 rfl rfl ?_
  refine ea_geti (kf := 2) (pc' := 4) kok_16 hVl0 (by decide) rfl fl_X1_19 dX1_restore_1 rfl ?_
  refine ea_if_ne (tgt := 8) (pc' := 7) dX1_restore_4 (by decide) rfl (fun hc => ?_) (fun hc => ?_)
  · replace h := h.1 hc
    refine ea_aload_n (pc' := 9) (i := 0) dX1_restore_8 rfl 0 rfl rfl ?_
    refine ea_aload_n (pc' := 10) (i := 0) dX1_restore_9 rfl 0 rfl rfl ?_
    refine ea_geti (kf := 1) (pc' := 13) kok_16 hVl0 (by decide) rfl fl_X1_15 dX1_restore_10 rfl ?_
    refine ea_if_le (tgt := 25) (pc' := 16) dX1_restore_13 (by decide) rfl (fun hc => ?_) (fun hc => ?_)
    · replace h := h.1 hc
      refine ea_iconst (v := 5) (pc' := 26) dX1_restore_25 (by decide) rfl ?_
      exact h
    · replace h := h.2 hc
      refine ea_aload_n (pc' := 17) (i := 0) dX1_restore_16 rfl 0 rfl rfl ?_
      refine ea_geti (kf := 1) (pc' := 20) kok_16 hVl0 (by decide) rfl fl_X1_15 dX1_restore_17 rfl ?_
      refine ea_iconst (v := 1) (pc' := 21) dX1_restore_20 (by decide) rfl ?_
      refine ea_isub (pc' := 22) dX1_restore_21 rfl ?_
      refine ea_goto (tgt := 26) dX1_restore_22 (by decide) ?_
      exact h
  · replace h := h.2 hc
    exact ea_vret rfl dX1_restore_7 ⟨rfl, h⟩
set_option maxRecDepth 100000 in
set_option maxHeartbeats 4000000 in
theorem vb_X1_restore_26 {G : evG} {d : Nat} {q : evS → Prop} (hCl : evCl G) {x0 : Nat} {x1 : Nat} {xs0 : Nat} {s1 : Int32} {S : evS} (hVl0 : (16, x0) ∈ evKs G) (hVl1 : (1, x1) ∈ evKs G) (hVs0 : (16, xs0) ∈ evKs G)
    (h : (∀ S1 : evS, S1 = evup S 16 xs0 1 s1 → (∀ S2 : evS, S2 = evup S1 16 x0 2 ((S1.1 16 x0 2) - 1) → (vp_in (S2.1 16 x0 1) 6 ∧ (evSp G yX0_becomeLike M_X0_becomeLike d [.ref (evad G 1 x1), .ref (evad G 1 (1 + ((S2.1 16 x0 1).toNatClampNeg)))] S2 (evQV fun S4 => q S4)))))) : bk_X1_restore_26 G d (evQV q) x0 x1 xs0 s1 S := by
  refine ea_puti (kf := 1) (pc' := 29) kok_16 hVs0 (by decide) rfl fl_X1_15 rfl rfl dX1_restore_26 rfl ?_
  refine ea_tops (fun S1 hS1 => ?_)
  replace h := h S1 hS1
  refine ea_aload_n (pc' := 30) (i := 0) dX1_restore_29 rfl 0 rfl rfl ?_
  refine ea_dup (pc' := 31) dX1_restore_30 rfl rfl ?_
  refine ea_geti (kf := 2) (pc' := 34) kok_16 hVl0 (by decide) rfl fl_X1_19 dX1_restore_31 rfl ?_
  refine ea_iconst (v := 1) (pc' := 35) dX1_restore_34 (by decide) rfl ?_
  refine ea_isub (pc' := 36) dX1_restore_35 rfl ?_
  refine ea_puti (kf := 2) (pc' := 39) kok_16 hVl0 (by decide) rfl fl_X1_19 rfl rfl dX1_restore_36 rfl ?_
  refine ea_tops (fun S2 hS2 => ?_)
  replace h := h S2 hS2
  refine ea_aload_n (pc' := 40) (i := 1) dX1_restore_39 rfl 1 rfl rfl ?_
  refine ea_aload_n (pc' := 41) (i := 0) dX1_restore_40 rfl 0 rfl rfl ?_
  refine ea_getr (k2 := 17) (x2 := 0) (kf := 0) (pc' := 44) kok_16 hVl0 (by decide) rfl fl_X1_11 rfl dX1_restore_41 rfl ?_
  refine ea_aload_n (pc' := 45) (i := 0) dX1_restore_44 rfl 0 rfl rfl ?_
  refine ea_geti (kf := 1) (pc' := 48) kok_16 hVl0 (by decide) rfl fl_X1_15 dX1_restore_45 rfl ?_
  obtain ⟨o3, h⟩ := h
  refine ea_aald (t0 := 3) (cn := RX0) (j := (S2.1 16 x0 1).toNatClampNeg) (x2 := (1 + ((S2.1 16 x0 1).toNatClampNeg))) (k2 := 1) (pc' := 49) (hCl.1 16 x0 0 17 hVl0 rfl) rfl rfl o3 dX1_restore_48 rfl rfl rfl rfl ?_
  refine ea_cvv (As := [.ref (evad G 1 (1 + ((S2.1 16 x0 1).toNatClampNeg)))]) (st := []) (d := d) (pc' := 52) mv_X0_becomeLike ml_X1_23 kok_1 hVl1 rfl rfl dX1_restore_49 rfl (Nat.le_of_ble_eq_true rfl) (ev_room (by decide)) ⟨Nat.le_refl _, Nat.le_refl _⟩ h rfl (fun S4 h => ?_)
  exact ea_vret rfl dX1_restore_52 ⟨rfl, h⟩
theorem vm_X1_restore {G : evG} {d : Nat} {q : evS → Prop} {x0 : Nat} {x1 : Nat} {S : evS} (h : bk_X1_restore_0 G d (evQV q) x0 x1 S) : evSp G yX1_restore M_X1_restore (d + 1) [.ref (evad G 16 x0), .ref (evad G 1 x1)] S (evQV q) :=
  evSp.of (by decide +kernel) rfl (Nat.le_of_ble_eq_true rfl) h
abbrev bk_X3_isLegAhead_0 (G : evG) (d : Nat) (Q : Option Value → evS → Prop) (x0 : Nat) (l1 : Int32) (S : evS) : Prop := evAt G M_X3_isLegAhead (evFm G d Q) 0 [(0, .ref (evad G 3 x0)), (1, .int l1)] [] S
set_option maxRecDepth 100000 in
set_option maxHeartbeats 4000000 in
theorem vb_X3_isLegAhead_0 {G : evG} {d : Nat} {q : Int32 → evS → Prop} (hCl : evCl G) {x0 : Nat} {l1 : Int32} {S : evS} (hVl0 : (3, x0) ∈ evKs G)
    (h : ((l1 < (S.1 4 x0 2) → q 0 S) ∧ (¬ l1 < (S.1 4 x0 2) → (((S.1 4 x0 0) ≤ l1 → q 0 S) ∧ (¬ (S.1 4 x0 0) ≤ l1 → q 1 S))))) : bk_X3_isLegAhead_0 G d (evQI q) x0 l1 S := by
  refine ea_iload_n (pc' := 1) (i := 1) dX3_isLegAhead_0 rfl 1 rfl rfl ?_
  refine ea_aload_n (pc' := 2) (i := 0) dX3_isLegAhead_1 rfl 0 rfl rfl ?_
  refine ea_getr (k2 := 4) (x2 := x0) (kf := 0) (pc' := 5) kok_3 hVl0 (by decide) rfl fl_X3_9 rfl dX3_isLegAhead_2 rfl ?_
  refine ea_iconst (v := 2) (pc' := 6) dX3_isLegAhead_5 (by decide) rfl ?_
  refine ea_iald (j := 2) (pc' := 7) (hCl.1 3 x0 0 4 hVl0 rfl) rfl (by unfold vp_in; decide) dX3_isLegAhead_6 (by decide) rfl ?_
  refine ea_icmp_lt (tgt := 24) (pc' := 10) dX3_isLegAhead_7 (by decide) rfl (fun hc => ?_) (fun hc => ?_)
  · replace h := h.1 hc
    refine ea_iconst (v := 0) (pc' := 25) dX3_isLegAhead_24 (by decide) rfl ?_
    exact ea_zret rfl dX3_isLegAhead_25 (by decide) ⟨_, rfl, h⟩
  · replace h := h.2 hc
    refine ea_iload_n (pc' := 11) (i := 1) dX3_isLegAhead_10 rfl 1 rfl rfl ?_
    refine ea_aload_n (pc' := 12) (i := 0) dX3_isLegAhead_11 rfl 0 rfl rfl ?_
    refine ea_getr (k2 := 4) (x2 := x0) (kf := 0) (pc' := 15) kok_3 hVl0 (by decide) rfl fl_X3_9 rfl dX3_isLegAhead_12 rfl ?_
    refine ea_iconst (v := 0) (pc' := 16) dX3_isLegAhead_15 (by decide) rfl ?_
    refine ea_iald (j := 0) (pc' := 17) (hCl.1 3 x0 0 4 hVl0 rfl) rfl (by unfold vp_in; decide) dX3_isLegAhead_16 (by decide) rfl ?_
    refine ea_icmp_ge (tgt := 24) (pc' := 20) dX3_isLegAhead_17 (by decide) rfl (fun hc => ?_) (fun hc => ?_)
    · replace h := h.1 hc
      refine ea_iconst (v := 0) (pc' := 25) dX3_isLegAhead_24 (by decide) rfl ?_
      exact ea_zret rfl dX3_isLegAhead_25 (by decide) ⟨_, rfl, h⟩
    · replace h := h.2 hc
      refine ea_iconst (v := 1) (pc' := 21) dX3_isLegAhead_20 (by decide) rfl ?_
      refine ea_goto (tgt := 25) dX3_isLegAhead_21 (by decide) ?_
      exact ea_zret rfl dX3_isLegAhead_25 (by decide) ⟨_, rfl, h⟩
theorem vm_X3_isLegAhead {G : evG} {d : Nat} {q : Int32 → evS → Prop} {x0 : Nat} {l1 : Int32} {S : evS} (h : bk_X3_isLegAhead_0 G d (evQI q) x0 l1 S) : evSp G yX3_isLegAhead M_X3_isLegAhead d [.ref (evad G 3 x0), .int l1] S (evQI q) :=
  evSp.of (by decide +kernel) rfl (Nat.le_of_ble_eq_true rfl) h
abbrev bk_X0_legsInAll_0 (G : evG) (d : Nat) (Q : Option Value → evS → Prop) (x0 : Nat) (S : evS) : Prop := evAt G M_X0_legsInAll (evFm G (d + 1) Q) 0 [(0, .ref (evad G 1 x0))] [] S
abbrev bk_X0_legsInAll_4 (G : evG) (d : Nat) (Q : Option Value → evS → Prop) (x0 : Nat) (l1 : Int32) (l2 : Int32) (S : evS) : Prop := evAt G M_X0_legsInAll (evFm G (d + 1) Q) 4 [(0, .ref (evad G 1 x0)), (1, .int l1), (2, .int l2)] [] S
set_option maxRecDepth 100000 in
set_option maxHeartbeats 4000000 in
theorem vb_X0_legsInAll_0 {G : evG} {d : Nat} {q : Int32 → evS → Prop} (hCl : evCl G) {x0 : Nat} {S : evS} (hVl0 : (1, x0) ∈ evKs G)
    (h : bk_X0_legsInAll_4 G d (evQI q) x0 0 0 S) : bk_X0_legsInAll_0 G d (evQI q) x0 S := by
  refine ea_iconst (v := 0) (pc' := 1) dX0_legsInAll_0 (by decide) rfl ?_
  refine ea_istore_n (lv' := [(1, .int 0), (0, .ref (evad G 1 x0))]) (pc' := 2) dX0_legsInAll_1 rfl (by decide) rfl rfl ?_
  refine ea_iconst (v := 0) (pc' := 3) dX0_legsInAll_2 (by decide) rfl ?_
  refine ea_istore_n (lv' := [(2, .int 0), (1, .int 0), (0, .ref (evad G 1 x0))]) (pc' := 4) dX0_legsInAll_3 rfl (by decide) rfl rfl ?_
  refine ea_loc [2, 1, 0] rfl ?_
  exact h
set_option maxRecDepth 100000 in
set_option maxHeartbeats 4000000 in
theorem vb_X0_legsInAll_4 {G : evG} {d : Nat} {q : Int32 → evS → Prop} (hCl : evCl G) {x0 : Nat} {l1 : Int32} {l2 : Int32} {S : evS} (hVl0 : (1, x0) ∈ evKs G)
    (h : ((4 ≤ l2 → q l1 S) ∧ (¬ 4 ≤ l2 → (vp_in l2 4 ∧ (evSp G yX3_trait M_X3_trait d [.ref (evad G 3 (4 * x0 + l2.toNatClampNeg)), .int 0] S (evQI fun r2 S3 => (∀ v4 : Int32, v4 = (l1 + r2) → (∀ v5 : Int32, v5 = (l2 + 1) → bk_X0_legsInAll_4 G d (evQI q) x0 v4 v5 S3)))))))) : bk_X0_legsInAll_4 G d (evQI q) x0 l1 l2 S := by
  refine ea_iload_n (pc' := 5) (i := 2) dX0_legsInAll_4 rfl 2 rfl rfl ?_
  refine ea_iconst (v := 4) (pc' := 6) dX0_legsInAll_5 (by decide) rfl ?_
  refine ea_icmp_ge (tgt := 28) (pc' := 9) dX0_legsInAll_6 (by decide) rfl (fun hc => ?_) (fun hc => ?_)
  · replace h := h.1 hc
    refine ea_iload_n (pc' := 29) (i := 1) dX0_legsInAll_28 rfl 1 rfl rfl ?_
    exact ea_iret rfl dX0_legsInAll_29 ⟨_, rfl, h⟩
  · replace h := h.2 hc
    refine ea_iload_n (pc' := 10) (i := 1) dX0_legsInAll_9 rfl 1 rfl rfl ?_
    refine ea_aload_n (pc' := 11) (i := 0) dX0_legsInAll_10 rfl 0 rfl rfl ?_
    refine ea_getr (k2 := 2) (x2 := x0) (kf := 0) (pc' := 14) kok_1 hVl0 (by decide) rfl fl_X0_11 rfl dX0_legsInAll_11 rfl ?_
    refine ea_iload_n (pc' := 15) (i := 2) dX0_legsInAll_14 rfl 2 rfl rfl ?_
    obtain ⟨o1, h⟩ := h
    refine ea_aald (t0 := 4) (cn := RX3) (j := l2.toNatClampNeg) (x2 := (4 * x0 + l2.toNatClampNeg)) (k2 := 3) (pc' := 16) (hCl.1 1 x0 0 2 hVl0 rfl) rfl rfl o1 dX0_legsInAll_15 rfl rfl rfl rfl ?_
    refine ea_iconst (v := 0) (pc' := 17) dX0_legsInAll_16 (by decide) rfl ?_
    refine ea_cvi (As := [.int 0]) (st := [.int l1]) (d := d) (pc' := 20) mv_X3_trait ml_X0_22 kok_3 (ev_cle (n := 4) (j := l2.toNatClampNeg) (k2 := 3) (x2 := (4 * x0 + l2.toNatClampNeg)) hCl (hCl.1 1 x0 0 2 hVl0 rfl) rfl rfl o1 rfl rfl rfl) rfl rfl dX0_legsInAll_17 rfl (Nat.le_of_ble_eq_true rfl) (ev_room (by decide)) ⟨Nat.le_refl _, Nat.le_refl _⟩ h rfl (fun r2 S3 h => ?_)
    refine ea_iadd (pc' := 21) dX0_legsInAll_20 rfl ?_
    refine ea_topi (fun v4 hv4 => ?_)
    replace h := h v4 hv4
    refine ea_istore_n (lv' := [(1, .int v4), (0, .ref (evad G 1 x0)), (2, .int l2)]) (pc' := 22) dX0_legsInAll_21 rfl (by decide) rfl rfl ?_
    obtain ⟨v5, hv5⟩ : ∃ z : Int32, z = (l2 + 1) := ⟨_, rfl⟩
    replace h := h v5 hv5
    refine ea_iinc (q := 2) (v := v5) (lv' := [(2, .int v5), (1, .int v4), (0, .ref (evad G 1 x0))]) (pc' := 25) dX0_legsInAll_22 rfl (by rw [hv5]; rfl) (by decide) rfl rfl ?_
    refine ea_goto (tgt := 4) dX0_legsInAll_25 (by decide) ?_
    refine ea_loc [2, 1, 0] rfl ?_
    exact h
theorem vm_X0_legsInAll {G : evG} {d : Nat} {q : Int32 → evS → Prop} {x0 : Nat} {S : evS} (h : bk_X0_legsInAll_0 G d (evQI q) x0 S) : evSp G yX0_legsInAll M_X0_legsInAll (d + 1) [.ref (evad G 1 x0)] S (evQI q) :=
  evSp.of (by decide +kernel) rfl (Nat.le_of_ble_eq_true rfl) h
