abbrev bk_X4_takesLetter_0 (G : evG) (d : Nat) (Q : Option Value → evS → Prop) (x0 : Nat) (l1 : Int32) (S : evS) : Prop := evAt G M_X4_takesLetter (evFm G d Q) 0 [(0, .ref (evad G 18 x0)), (1, .int l1)] [] S
set_option maxRecDepth 100000 in
set_option maxHeartbeats 4000000 in
theorem vb_X4_takesLetter_0 {G : evG} {d : Nat} {q : Int32 → evS → Prop} (hCl : evCl G) {x0 : Nat} {l1 : Int32} {S : evS} (hVl0 : (18, x0) ∈ evKs G)
    (h : (((S.1 18 x0 1) < 150 → (vp_in (S.1 18 x0 1) 150 ∧ (∀ S2 : evS, S2 = evup S 19 0 ((S.1 18 x0 1).toNatClampNeg) l1 → (∀ S3 : evS, S3 = evup S2 18 x0 1 ((S2.1 18 x0 1) + 1) → q 1 S3)))) ∧ (¬ (S.1 18 x0 1) < 150 → q 0 S))) : bk_X4_takesLetter_0 G d (evQI q) x0 l1 S := by
  refine ea_aload_n (pc' := 1) (i := 0) dX4_takesLetter_0 rfl 0 rfl rfl ?_
  refine ea_geti (kf := 1) (pc' := 4) kok_18 hVl0 (by decide) rfl fl_X4_13 dX4_takesLetter_1 rfl ?_
  refine ea_sipush (v := 150) (pc' := 7) dX4_takesLetter_4 (by decide) rfl ?_
  refine ea_icmp_lt (tgt := 12) (pc' := 10) dX4_takesLetter_7 (by decide) rfl (fun hc => ?_) (fun hc => ?_)
  · replace h := h.1 hc
    refine ea_aload_n (pc' := 13) (i := 0) dX4_takesLetter_12 rfl 0 rfl rfl ?_
    refine ea_getr (k2 := 19) (x2 := 0) (kf := 0) (pc' := 16) kok_18 hVl0 (by decide) rfl fl_X4_9 rfl dX4_takesLetter_13 rfl ?_
    refine ea_aload_n (pc' := 17) (i := 0) dX4_takesLetter_16 rfl 0 rfl rfl ?_
    refine ea_geti (kf := 1) (pc' := 20) kok_18 hVl0 (by decide) rfl fl_X4_13 dX4_takesLetter_17 rfl ?_
    refine ea_iload_n (pc' := 21) (i := 1) dX4_takesLetter_20 rfl 1 rfl rfl ?_
    obtain ⟨o1, h⟩ := h
    refine ea_iast (j := (S.1 18 x0 1).toNatClampNeg) (pc' := 22) (hCl.1 18 x0 0 19 hVl0 rfl) rfl o1 dX4_takesLetter_21 rfl rfl ?_
    refine ea_tops (fun S2 hS2 => ?_)
    replace h := h S2 hS2
    refine ea_aload_n (pc' := 23) (i := 0) dX4_takesLetter_22 rfl 0 rfl rfl ?_
    refine ea_dup (pc' := 24) dX4_takesLetter_23 rfl rfl ?_
    refine ea_geti (kf := 1) (pc' := 27) kok_18 hVl0 (by decide) rfl fl_X4_13 dX4_takesLetter_24 rfl ?_
    refine ea_iconst (v := 1) (pc' := 28) dX4_takesLetter_27 (by decide) rfl ?_
    refine ea_iadd (pc' := 29) dX4_takesLetter_28 rfl ?_
    refine ea_puti (kf := 1) (pc' := 32) kok_18 hVl0 (by decide) rfl fl_X4_13 rfl rfl dX4_takesLetter_29 rfl ?_
    refine ea_tops (fun S3 hS3 => ?_)
    replace h := h S3 hS3
    refine ea_iconst (v := 1) (pc' := 33) dX4_takesLetter_32 (by decide) rfl ?_
    exact ea_zret rfl dX4_takesLetter_33 (by decide) ⟨_, rfl, h⟩
  · replace h := h.2 hc
    refine ea_iconst (v := 0) (pc' := 11) dX4_takesLetter_10 (by decide) rfl ?_
    exact ea_zret rfl dX4_takesLetter_11 (by decide) ⟨_, rfl, h⟩
theorem vm_X4_takesLetter {G : evG} {d : Nat} {q : Int32 → evS → Prop} {x0 : Nat} {l1 : Int32} {S : evS} (h : bk_X4_takesLetter_0 G d (evQI q) x0 l1 S) : evSp G yX4_takesLetter M_X4_takesLetter d [.ref (evad G 18 x0), .int l1] S (evQI q) :=
  evSp.of (by decide +kernel) rfl (Nat.le_of_ble_eq_true rfl) h
abbrev bk_X4_length_0 (G : evG) (d : Nat) (Q : Option Value → evS → Prop) (x0 : Nat) (S : evS) : Prop := evAt G M_X4_length (evFm G d Q) 0 [(0, .ref (evad G 18 x0))] [] S
set_option maxRecDepth 100000 in
set_option maxHeartbeats 4000000 in
theorem vb_X4_length_0 {G : evG} {d : Nat} {q : Int32 → evS → Prop} (hCl : evCl G) {x0 : Nat} {S : evS} (hVl0 : (18, x0) ∈ evKs G)
    (h : q (S.1 18 x0 1) S) : bk_X4_length_0 G d (evQI q) x0 S := by
  refine ea_aload_n (pc' := 1) (i := 0) dX4_length_0 rfl 0 rfl rfl ?_
  refine ea_geti (kf := 1) (pc' := 4) kok_18 hVl0 (by decide) rfl fl_X4_13 dX4_length_1 rfl ?_
  exact ea_iret rfl dX4_length_4 ⟨_, rfl, h⟩
theorem vm_X4_length {G : evG} {d : Nat} {q : Int32 → evS → Prop} {x0 : Nat} {S : evS} (h : bk_X4_length_0 G d (evQI q) x0 S) : evSp G yX4_length M_X4_length d [.ref (evad G 18 x0)] S (evQI q) :=
  evSp.of (by decide +kernel) rfl (Nat.le_of_ble_eq_true rfl) h
abbrev bk_X4_becomeEmpty_0 (G : evG) (d : Nat) (Q : Option Value → evS → Prop) (x0 : Nat) (S : evS) : Prop := evAt G M_X4_becomeEmpty (evFm G d Q) 0 [(0, .ref (evad G 18 x0))] [] S
set_option maxRecDepth 100000 in
set_option maxHeartbeats 4000000 in
theorem vb_X4_becomeEmpty_0 {G : evG} {d : Nat} {q : evS → Prop} (hCl : evCl G) {x0 : Nat} {S : evS} (hVl0 : (18, x0) ∈ evKs G)
    (h : (∀ S1 : evS, S1 = evup S 18 x0 1 0 → q S1)) : bk_X4_becomeEmpty_0 G d (evQV q) x0 S := by
  refine ea_aload_n (pc' := 1) (i := 0) dX4_becomeEmpty_0 rfl 0 rfl rfl ?_
  refine ea_iconst (v := 0) (pc' := 2) dX4_becomeEmpty_1 (by decide) rfl ?_
  refine ea_puti (kf := 1) (pc' := 5) kok_18 hVl0 (by decide) rfl fl_X4_13 rfl rfl dX4_becomeEmpty_2 rfl ?_
  refine ea_tops (fun S1 hS1 => ?_)
  replace h := h S1 hS1
  exact ea_vret rfl dX4_becomeEmpty_5 ⟨rfl, h⟩
theorem vm_X4_becomeEmpty {G : evG} {d : Nat} {q : evS → Prop} {x0 : Nat} {S : evS} (h : bk_X4_becomeEmpty_0 G d (evQV q) x0 S) : evSp G yX4_becomeEmpty M_X4_becomeEmpty d [.ref (evad G 18 x0)] S (evQV q) :=
  evSp.of (by decide +kernel) rfl (Nat.le_of_ble_eq_true rfl) h
abbrev bk_X4_tellShip_0 (G : evG) (d : Nat) (Q : Option Value → evS → Prop) (x0 : Nat) (x1 : Nat) (S : evS) : Prop := evAt G M_X4_tellShip (evFm G (d + 1) Q) 0 [(0, .ref (evad G 18 x0)), (1, .ref (evad G 3 x1))] [] S
abbrev bk_X4_tellShip_28 (G : evG) (d : Nat) (Q : Option Value → evS → Prop) (x0 : Nat) (x1 : Nat) (l2 : Int32) (l3 : Int32) (S : evS) : Prop := evAt G M_X4_tellShip (evFm G (d + 1) Q) 28 [(0, .ref (evad G 18 x0)), (1, .ref (evad G 3 x1)), (2, .int l2), (3, .int l3)] [] S
abbrev bk_X4_tellShip_80 (G : evG) (d : Nat) (Q : Option Value → evS → Prop) (x0 : Nat) (x1 : Nat) (l2 : Int32) (l3 : Int32) (S : evS) : Prop := evAt G M_X4_tellShip (evFm G (d + 1) Q) 80 [(0, .ref (evad G 18 x0)), (1, .ref (evad G 3 x1)), (2, .int l2), (3, .int l3)] [] S
abbrev bk_X4_tellShip_86 (G : evG) (d : Nat) (Q : Option Value → evS → Prop) (x0 : Nat) (S : evS) : Prop := evAt G M_X4_tellShip (evFm G (d + 1) Q) 86 [(0, .ref (evad G 18 x0))] [] S
set_option maxRecDepth 100000 in
set_option maxHeartbeats 4000000 in
theorem vb_X4_tellShip_0 {G : evG} {d : Nat} {q : Int32 → evS → Prop} (hCl : evCl G) {x0 : Nat} {x1 : Nat} {S : evS} (hVl0 : (18, x0) ∈ evKs G) (hVl1 : (3, x1) ∈ evKs G)
    (h : (evSp G yX3_becomeNew M_X3_becomeNew d [.ref (evad G 3 x1)] S (evQV fun S1 => (∀ S2 : evS, S2 = evup S1 18 x0 2 0 → (∀ S3 : evS, S3 = evup S2 18 x0 5 0 → (∀ S4 : evS, S4 = evup S3 18 x0 6 0 → (∀ S5 : evS, S5 = evup S4 18 x0 7 0 → bk_X4_tellShip_28 G d (evQI q) x0 x1 0 0 S5))))))) : bk_X4_tellShip_0 G d (evQI q) x0 x1 S := by
  refine ea_aload_n (pc' := 1) (i := 1) dX4_tellShip_0 rfl 1 rfl rfl ?_
  refine ea_cvv (As := []) (st := []) (d := d) (pc' := 4) mv_X3_becomeNew ml_X4_36 kok_3 hVl1 rfl rfl dX4_tellShip_1 rfl (Nat.le_of_ble_eq_true rfl) (ev_room (by decide)) ⟨Nat.le_refl _, Nat.le_refl _⟩ h rfl (fun S1 h => ?_)
  refine ea_aload_n (pc' := 5) (i := 0) dX4_tellShip_4 rfl 0 rfl rfl ?_
  refine ea_iconst (v := 0) (pc' := 6) dX4_tellShip_5 (by decide) rfl ?_
  refine ea_puti (kf := 2) (pc' := 9) kok_18 hVl0 (by decide) rfl fl_X4_17 rfl rfl dX4_tellShip_6 rfl ?_
  refine ea_tops (fun S2 hS2 => ?_)
  replace h := h S2 hS2
  refine ea_aload_n (pc' := 10) (i := 0) dX4_tellShip_9 rfl 0 rfl rfl ?_
  refine ea_iconst (v := 0) (pc' := 11) dX4_tellShip_10 (by decide) rfl ?_
  refine ea_puti (kf := 5) (pc' := 14) kok_18 hVl0 (by decide) rfl fl_X4_26 rfl rfl dX4_tellShip_11 rfl ?_
  refine ea_tops (fun S3 hS3 => ?_)
  replace h := h S3 hS3
  refine ea_aload_n (pc' := 15) (i := 0) dX4_tellShip_14 rfl 0 rfl rfl ?_
  refine ea_iconst (v := 0) (pc' := 16) dX4_tellShip_15 (by decide) rfl ?_
  refine ea_putz (kf := 6) (pc' := 19) kok_18 hVl0 (by decide) rfl fl_X4_29 rfl rfl (by decide) dX4_tellShip_16 rfl ?_
  refine ea_tops (fun S4 hS4 => ?_)
  replace h := h S4 hS4
  refine ea_aload_n (pc' := 20) (i := 0) dX4_tellShip_19 rfl 0 rfl rfl ?_
  refine ea_iconst (v := 0) (pc' := 21) dX4_tellShip_20 (by decide) rfl ?_
  refine ea_putz (kf := 7) (pc' := 24) kok_18 hVl0 (by decide) rfl fl_X4_33 rfl rfl (by decide) dX4_tellShip_21 rfl ?_
  refine ea_tops (fun S5 hS5 => ?_)
  replace h := h S5 hS5
  refine ea_iconst (v := 0) (pc' := 25) dX4_tellShip_24 (by decide) rfl ?_
  refine ea_istore_n (lv' := [(2, .int 0), (0, .ref (evad G 18 x0)), (1, .ref (evad G 3 x1))]) (pc' := 26) dX4_tellShip_25 rfl (by decide) rfl rfl ?_
  refine ea_iconst (v := 0) (pc' := 27) dX4_tellShip_26 (by decide) rfl ?_
  refine ea_istore_n (lv' := [(3, .int 0), (2, .int 0), (0, .ref (evad G 18 x0)), (1, .ref (evad G 3 x1))]) (pc' := 28) dX4_tellShip_27 rfl (by decide) rfl rfl ?_
  refine ea_loc [2, 3, 1, 0] rfl ?_
  exact h
set_option maxRecDepth 100000 in
set_option maxHeartbeats 4000000 in
theorem vb_X4_tellShip_28 {G : evG} {d : Nat} {q : Int32 → evS → Prop} (hCl : evCl G) {x0 : Nat} {x1 : Nat} {l2 : Int32} {l3 : Int32} {S : evS} (hVl0 : (18, x0) ∈ evKs G) (hVl1 : (3, x1) ∈ evKs G)
    (h : ((150 ≤ l3 → bk_X4_tellShip_86 G d (evQI q) x0 S) ∧ (¬ 150 ≤ l3 → (((S.1 18 x0 1) ≤ l2 → bk_X4_tellShip_86 G d (evQI q) x0 S) ∧ (¬ (S.1 18 x0 1) ≤ l2 → (vp_in l2 150 ∧ ((¬ (S.1 19 0 l2.toNatClampNeg) = 32 → (evSp G yX4_takesToken M_X4_takesToken d [.ref (evad G 18 x0), .ref (evad G 3 x1), .int l2] S (evQI fun r2 S3 => ((¬ r2 = 0 → (evSp G yX4_tokenEnd M_X4_tokenEnd d [.ref (evad G 18 x0), .int l2] S3 (evQI fun r4 S5 => bk_X4_tellShip_80 G d (evQI q) x0 x1 r4 l3 S5))) ∧ (r2 = 0 → q ((-10) - l2) S3))))) ∧ ((S.1 19 0 l2.toNatClampNeg) = 32 → (∀ v6 : Int32, v6 = (l2 + 1) → bk_X4_tellShip_80 G d (evQI q) x0 x1 v6 l3 S))))))))) : bk_X4_tellShip_28 G d (evQI q) x0 x1 l2 l3 S := by
  refine ea_iload_n (pc' := 29) (i := 3) dX4_tellShip_28 rfl 3 rfl rfl ?_
  refine ea_sipush (v := 150) (pc' := 32) dX4_tellShip_29 (by decide) rfl ?_
  refine ea_icmp_ge (tgt := 86) (pc' := 35) dX4_tellShip_32 (by decide) rfl (fun hc => ?_) (fun hc => ?_)
  · replace h := h.1 hc
    refine ea_loc [0] rfl ?_
    exact h
  · replace h := h.2 hc
    refine ea_iload_n (pc' := 36) (i := 2) dX4_tellShip_35 rfl 2 rfl rfl ?_
    refine ea_aload_n (pc' := 37) (i := 0) dX4_tellShip_36 rfl 0 rfl rfl ?_
    refine ea_geti (kf := 1) (pc' := 40) kok_18 hVl0 (by decide) rfl fl_X4_13 dX4_tellShip_37 rfl ?_
    refine ea_icmp_ge (tgt := 86) (pc' := 43) dX4_tellShip_40 (by decide) rfl (fun hc => ?_) (fun hc => ?_)
    · replace h := h.1 hc
      refine ea_loc [0] rfl ?_
      exact h
    · replace h := h.2 hc
      refine ea_aload_n (pc' := 44) (i := 0) dX4_tellShip_43 rfl 0 rfl rfl ?_
      refine ea_getr (k2 := 19) (x2 := 0) (kf := 0) (pc' := 47) kok_18 hVl0 (by decide) rfl fl_X4_9 rfl dX4_tellShip_44 rfl ?_
      refine ea_iload_n (pc' := 48) (i := 2) dX4_tellShip_47 rfl 2 rfl rfl ?_
      obtain ⟨o1, h⟩ := h
      refine ea_iald (j := l2.toNatClampNeg) (pc' := 49) (hCl.1 18 x0 0 19 hVl0 rfl) rfl o1 dX4_tellShip_48 rfl rfl ?_
      refine ea_bipush (v := 32) (pc' := 51) dX4_tellShip_49 (by decide) rfl ?_
      refine ea_icmp_ne (tgt := 60) (pc' := 54) dX4_tellShip_51 (by decide) rfl (fun hc => ?_) (fun hc => ?_)
      · replace h := h.1 hc
        refine ea_aload_n (pc' := 61) (i := 0) dX4_tellShip_60 rfl 0 rfl rfl ?_
        refine ea_aload_n (pc' := 62) (i := 1) dX4_tellShip_61 rfl 1 rfl rfl ?_
        refine ea_iload_n (pc' := 63) (i := 2) dX4_tellShip_62 rfl 2 rfl rfl ?_
        refine ea_cvi (As := [.ref (evad G 3 x1), .int l2]) (st := []) (d := d) (pc' := 66) mv_X4_takesToken ml_X4_41 kok_18 hVl0 rfl rfl dX4_tellShip_63 rfl (Nat.le_of_ble_eq_true rfl) (ev_room (by decide)) ⟨Nat.le_refl _, Nat.le_refl _⟩ h rfl (fun r2 S3 h => ?_)
        refine ea_if_ne (tgt := 74) (pc' := 69) dX4_tellShip_66 (by decide) rfl (fun hc => ?_) (fun hc => ?_)
        · replace h := h.1 hc
          refine ea_aload_n (pc' := 75) (i := 0) dX4_tellShip_74 rfl 0 rfl rfl ?_
          refine ea_iload_n (pc' := 76) (i := 2) dX4_tellShip_75 rfl 2 rfl rfl ?_
          refine ea_cvi (As := [.int l2]) (st := []) (d := d) (pc' := 79) mv_X4_tokenEnd ml_X4_45 kok_18 hVl0 rfl rfl dX4_tellShip_76 rfl (Nat.le_of_ble_eq_true rfl) (ev_room (by decide)) ⟨Nat.le_refl _, Nat.le_refl _⟩ h rfl (fun r4 S5 h => ?_)
          refine ea_istore_n (lv' := [(2, .int r4), (0, .ref (evad G 18 x0)), (1, .ref (evad G 3 x1)), (3, .int l3)]) (pc' := 80) dX4_tellShip_79 rfl (by decide) rfl rfl ?_
          refine ea_loc [1, 2, 0, 3] rfl ?_
          exact h
        · replace h := h.2 hc
          refine ea_bipush (v := (-10)) (pc' := 71) dX4_tellShip_69 (by decide) rfl ?_
          refine ea_iload_n (pc' := 72) (i := 2) dX4_tellShip_71 rfl 2 rfl rfl ?_
          refine ea_isub (pc' := 73) dX4_tellShip_72 rfl ?_
          exact ea_iret rfl dX4_tellShip_73 ⟨_, rfl, h⟩
      · replace h := h.2 hc
        obtain ⟨v6, hv6⟩ : ∃ z : Int32, z = (l2 + 1) := ⟨_, rfl⟩
        replace h := h v6 hv6
        refine ea_iinc (q := 2) (v := v6) (lv' := [(2, .int v6), (0, .ref (evad G 18 x0)), (1, .ref (evad G 3 x1)), (3, .int l3)]) (pc' := 57) dX4_tellShip_54 rfl (by rw [hv6]; rfl) (by decide) rfl rfl ?_
        refine ea_goto (tgt := 80) dX4_tellShip_57 (by decide) ?_
        refine ea_loc [1, 2, 0, 3] rfl ?_
        exact h
set_option maxRecDepth 100000 in
set_option maxHeartbeats 4000000 in
theorem vb_X4_tellShip_80 {G : evG} {d : Nat} {q : Int32 → evS → Prop} (hCl : evCl G) {x0 : Nat} {x1 : Nat} {l2 : Int32} {l3 : Int32} {S : evS} (hVl0 : (18, x0) ∈ evKs G) (hVl1 : (3, x1) ∈ evKs G)
    (h : (∀ v1 : Int32, v1 = (l3 + 1) → bk_X4_tellShip_28 G d (evQI q) x0 x1 l2 v1 S)) : bk_X4_tellShip_80 G d (evQI q) x0 x1 l2 l3 S := by
  obtain ⟨v1, hv1⟩ : ∃ z : Int32, z = (l3 + 1) := ⟨_, rfl⟩
  replace h := h v1 hv1
  refine ea_iinc (q := 3) (v := v1) (lv' := [(3, .int v1), (0, .ref (evad G 18 x0)), (1, .ref (evad G 3 x1)), (2, .int l2)]) (pc' := 83) dX4_tellShip_80 rfl (by rw [hv1]; rfl) (by decide) rfl rfl ?_
  refine ea_goto (tgt := 28) dX4_tellShip_83 (by decide) ?_
  refine ea_loc [1, 2, 3, 0] rfl ?_
  exact h
set_option maxRecDepth 100000 in
set_option maxHeartbeats 4000000 in
theorem vb_X4_tellShip_86 {G : evG} {d : Nat} {q : Int32 → evS → Prop} (hCl : evCl G) {x0 : Nat} {S : evS} (hVl0 : (18, x0) ∈ evKs G)
    (h : ((¬ (S.1 18 x0 2) = 0 → q ((-10) - (S.1 18 x0 1)) S) ∧ ((S.1 18 x0 2) = 0 → q (S.1 18 x0 5) S))) : bk_X4_tellShip_86 G d (evQI q) x0 S := by
  refine ea_aload_n (pc' := 87) (i := 0) dX4_tellShip_86 rfl 0 rfl rfl ?_
  refine ea_geti (kf := 2) (pc' := 90) kok_18 hVl0 (by decide) rfl fl_X4_17 dX4_tellShip_87 rfl ?_
  refine ea_if_ne (tgt := 100) (pc' := 93) dX4_tellShip_90 (by decide) rfl (fun hc => ?_) (fun hc => ?_)
  · replace h := h.1 hc
    refine ea_bipush (v := (-10)) (pc' := 102) dX4_tellShip_100 (by decide) rfl ?_
    refine ea_aload_n (pc' := 103) (i := 0) dX4_tellShip_102 rfl 0 rfl rfl ?_
    refine ea_geti (kf := 1) (pc' := 106) kok_18 hVl0 (by decide) rfl fl_X4_13 dX4_tellShip_103 rfl ?_
    refine ea_isub (pc' := 107) dX4_tellShip_106 rfl ?_
    exact ea_iret rfl dX4_tellShip_107 ⟨_, rfl, h⟩
  · replace h := h.2 hc
    refine ea_aload_n (pc' := 94) (i := 0) dX4_tellShip_93 rfl 0 rfl rfl ?_
    refine ea_geti (kf := 5) (pc' := 97) kok_18 hVl0 (by decide) rfl fl_X4_26 dX4_tellShip_94 rfl ?_
    refine ea_goto (tgt := 107) dX4_tellShip_97 (by decide) ?_
    exact ea_iret rfl dX4_tellShip_107 ⟨_, rfl, h⟩
theorem vm_X4_tellShip {G : evG} {d : Nat} {q : Int32 → evS → Prop} {x0 : Nat} {x1 : Nat} {S : evS} (h : bk_X4_tellShip_0 G d (evQI q) x0 x1 S) : evSp G yX4_tellShip M_X4_tellShip (d + 1) [.ref (evad G 18 x0), .ref (evad G 3 x1)] S (evQI q) :=
  evSp.of (by decide +kernel) rfl (Nat.le_of_ble_eq_true rfl) h
abbrev bk_X4_takesToken_0 (G : evG) (d : Nat) (Q : Option Value → evS → Prop) (x0 : Nat) (x1 : Nat) (l2 : Int32) (S : evS) : Prop := evAt G M_X4_takesToken (evFm G (d + 1) Q) 0 [(0, .ref (evad G 18 x0)), (1, .ref (evad G 3 x1)), (2, .int l2)] [] S
set_option maxRecDepth 100000 in
set_option maxHeartbeats 4000000 in
theorem vb_X4_takesToken_0 {G : evG} {d : Nat} {q : Int32 → evS → Prop} (hCl : evCl G) {x0 : Nat} {x1 : Nat} {l2 : Int32} {S : evS} (hVl0 : (18, x0) ∈ evKs G) (hVl1 : (3, x1) ∈ evKs G)
    (h : (vp_in l2 150 ∧ (∀ v2 : Int32, v2 = (S.1 19 0 l2.toNatClampNeg) → ((¬ (S.1 18 x0 2) = 0 → (evSp G yX4_numbersOfItem M_X4_numbersOfItem d [.ref (evad G 18 x0)] S (evQI fun r3 S4 => ((r3 ≤ (S.1 18 x0 3) → ((v2 = 59 → (evSp G yX4_endItem M_X4_endItem d [.ref (evad G 18 x0), .ref (evad G 3 x1)] S4 (evQV fun S5 => q 1 S5))) ∧ (¬ v2 = 59 → q 0 S4))) ∧ (¬ r3 ≤ (S.1 18 x0 3) → (evSp G yX4_isFigure M_X4_isFigure d [.int v2] S4 (evQI fun r6 S7 => ((r6 = 0 → q 0 S7) ∧ (¬ r6 = 0 → (evSp G yX4_numberAt M_X4_numberAt d [.ref (evad G 18 x0), .int l2] S7 (evQI fun r8 S9 => (evSp G yX4_takesNumber M_X4_takesNumber d [.ref (evad G 18 x0), .int r8] S9 (evQI fun r10 S11 => ((r10 = 0 → q 0 S11) ∧ (¬ r10 = 0 → q 1 S11))))))))))))))) ∧ ((S.1 18 x0 2) = 0 → (evSp G yX4_beginsItem M_X4_beginsItem d [.ref (evad G 18 x0), .ref (evad G 3 x1), .int v2] S (evQI fun r12 S13 => ((r12 = 0 ∨ r12 = 1) ∧ q r12 S13)))))))) : bk_X4_takesToken_0 G d (evQI q) x0 x1 l2 S := by
  refine ea_aload_n (pc' := 1) (i := 0) dX4_takesToken_0 rfl 0 rfl rfl ?_
  refine ea_getr (k2 := 19) (x2 := 0) (kf := 0) (pc' := 4) kok_18 hVl0 (by decide) rfl fl_X4_9 rfl dX4_takesToken_1 rfl ?_
  refine ea_iload_n (pc' := 5) (i := 2) dX4_takesToken_4 rfl 2 rfl rfl ?_
  obtain ⟨o1, h⟩ := h
  refine ea_iald (j := l2.toNatClampNeg) (pc' := 6) (hCl.1 18 x0 0 19 hVl0 rfl) rfl o1 dX4_takesToken_5 rfl rfl ?_
  refine ea_topi (fun v2 hv2 => ?_)
  replace h := h v2 hv2
  refine ea_istore_n (lv' := [(3, .int v2), (0, .ref (evad G 18 x0)), (1, .ref (evad G 3 x1)), (2, .int l2)]) (pc' := 7) dX4_takesToken_6 rfl (by decide) rfl rfl ?_
  refine ea_aload_n (pc' := 8) (i := 0) dX4_takesToken_7 rfl 1 rfl rfl ?_
  refine ea_geti (kf := 2) (pc' := 11) kok_18 hVl0 (by decide) rfl fl_X4_17 dX4_takesToken_8 rfl ?_
  refine ea_if_ne (tgt := 21) (pc' := 14) dX4_takesToken_11 (by decide) rfl (fun hc => ?_) (fun hc => ?_)
  · replace h := h.1 hc
    refine ea_aload_n (pc' := 22) (i := 0) dX4_takesToken_21 rfl 1 rfl rfl ?_
    refine ea_geti (kf := 3) (pc' := 25) kok_18 hVl0 (by decide) rfl fl_X4_20 dX4_takesToken_22 rfl ?_
    refine ea_aload_n (pc' := 26) (i := 0) dX4_takesToken_25 rfl 1 rfl rfl ?_
    refine ea_cvi (As := []) (st := [.int (S.1 18 x0 3)]) (d := d) (pc' := 29) mv_X4_numbersOfItem ml_X4_52 kok_18 hVl0 rfl rfl dX4_takesToken_26 rfl (Nat.le_of_ble_eq_true rfl) (ev_room (by decide)) ⟨Nat.le_refl _, Nat.le_refl _⟩ h rfl (fun r3 S4 h => ?_)
    refine ea_icmp_ge (tgt := 57) (pc' := 32) dX4_takesToken_29 (by decide) rfl (fun hc => ?_) (fun hc => ?_)
    · replace h := h.1 hc
      refine ea_iload_n (pc' := 58) (i := 3) dX4_takesToken_57 rfl 0 rfl rfl ?_
      refine ea_bipush (v := 59) (pc' := 60) dX4_takesToken_58 (by decide) rfl ?_
      refine ea_icmp_eq (tgt := 65) (pc' := 63) dX4_takesToken_60 (by decide) rfl (fun hc => ?_) (fun hc => ?_)
      · replace h := h.1 hc
        refine ea_aload_n (pc' := 66) (i := 0) dX4_takesToken_65 rfl 1 rfl rfl ?_
        refine ea_aload_n (pc' := 67) (i := 1) dX4_takesToken_66 rfl 2 rfl rfl ?_
        refine ea_cvv (As := [.ref (evad G 3 x1)]) (st := []) (d := d) (pc' := 70) mv_X4_endItem ml_X4_66 kok_18 hVl0 rfl rfl dX4_takesToken_67 rfl (Nat.le_of_ble_eq_true rfl) (ev_room (by decide)) ⟨Nat.le_refl _, Nat.le_refl _⟩ h rfl (fun S5 h => ?_)
        refine ea_iconst (v := 1) (pc' := 71) dX4_takesToken_70 (by decide) rfl ?_
        exact ea_zret rfl dX4_takesToken_71 (by decide) ⟨_, rfl, h⟩
      · replace h := h.2 hc
        refine ea_iconst (v := 0) (pc' := 64) dX4_takesToken_63 (by decide) rfl ?_
        exact ea_zret rfl dX4_takesToken_64 (by decide) ⟨_, rfl, h⟩
    · replace h := h.2 hc
      refine ea_iload_n (pc' := 33) (i := 3) dX4_takesToken_32 rfl 0 rfl rfl ?_
      refine ea_csi (As := [.int v2]) (st := []) (d := d) (pc' := 36) mv_X4_isFigure ml_X4_56 rfl dX4_takesToken_33 rfl (Nat.le_of_ble_eq_true rfl) (ev_room (by decide)) ⟨Nat.le_refl _, Nat.le_refl _⟩ h rfl (fun r6 S7 h => ?_)
      refine ea_if_eq (tgt := 55) (pc' := 39) dX4_takesToken_36 (by decide) rfl (fun hc => ?_) (fun hc => ?_)
      · replace h := h.1 hc
        refine ea_iconst (v := 0) (pc' := 56) dX4_takesToken_55 (by decide) rfl ?_
        exact ea_zret rfl dX4_takesToken_56 (by decide) ⟨_, rfl, h⟩
      · replace h := h.2 hc
        refine ea_aload_n (pc' := 40) (i := 0) dX4_takesToken_39 rfl 1 rfl rfl ?_
        refine ea_aload_n (pc' := 41) (i := 0) dX4_takesToken_40 rfl 1 rfl rfl ?_
        refine ea_iload_n (pc' := 42) (i := 2) dX4_takesToken_41 rfl 3 rfl rfl ?_
        refine ea_cvi (As := [.int l2]) (st := [.ref (evad G 18 x0)]) (d := d) (pc' := 45) mv_X4_numberAt ml_X4_60 kok_18 hVl0 rfl rfl dX4_takesToken_42 rfl (Nat.le_of_ble_eq_true rfl) (ev_room (by decide)) ⟨Nat.le_refl _, Nat.le_refl _⟩ h rfl (fun r8 S9 h => ?_)
        refine ea_cvi (As := [.int r8]) (st := []) (d := d) (pc' := 48) mv_X4_takesNumber ml_X4_63 kok_18 hVl0 rfl rfl dX4_takesToken_45 rfl (Nat.le_of_ble_eq_true rfl) (ev_room (by decide)) ⟨Nat.le_refl _, Nat.le_refl _⟩ h rfl (fun r10 S11 h => ?_)
        refine ea_if_eq (tgt := 55) (pc' := 51) dX4_takesToken_48 (by decide) rfl (fun hc => ?_) (fun hc => ?_)
        · replace h := h.1 hc
          refine ea_iconst (v := 0) (pc' := 56) dX4_takesToken_55 (by decide) rfl ?_
          exact ea_zret rfl dX4_takesToken_56 (by decide) ⟨_, rfl, h⟩
        · replace h := h.2 hc
          refine ea_iconst (v := 1) (pc' := 52) dX4_takesToken_51 (by decide) rfl ?_
          refine ea_goto (tgt := 56) dX4_takesToken_52 (by decide) ?_
          exact ea_zret rfl dX4_takesToken_56 (by decide) ⟨_, rfl, h⟩
  · replace h := h.2 hc
    refine ea_aload_n (pc' := 15) (i := 0) dX4_takesToken_14 rfl 1 rfl rfl ?_
    refine ea_aload_n (pc' := 16) (i := 1) dX4_takesToken_15 rfl 2 rfl rfl ?_
    refine ea_iload_n (pc' := 17) (i := 3) dX4_takesToken_16 rfl 0 rfl rfl ?_
    refine ea_cvi (As := [.ref (evad G 3 x1), .int v2]) (st := []) (d := d) (pc' := 20) mv_X4_beginsItem ml_X4_49 kok_18 hVl0 rfl rfl dX4_takesToken_17 rfl (Nat.le_of_ble_eq_true rfl) (ev_room (by decide)) ⟨Nat.le_refl _, Nat.le_refl _⟩ h rfl (fun r12 S13 h => ?_)
    obtain ⟨o14, h⟩ := h
    exact ea_zret rfl dX4_takesToken_20 o14 ⟨_, rfl, h⟩
theorem vm_X4_takesToken {G : evG} {d : Nat} {q : Int32 → evS → Prop} {x0 : Nat} {x1 : Nat} {l2 : Int32} {S : evS} (h : bk_X4_takesToken_0 G d (evQI q) x0 x1 l2 S) : evSp G yX4_takesToken M_X4_takesToken (d + 1) [.ref (evad G 18 x0), .ref (evad G 3 x1), .int l2] S (evQI q) :=
  evSp.of (by decide +kernel) rfl (Nat.le_of_ble_eq_true rfl) h
abbrev bk_X4_beginsItem_0 (G : evG) (d : Nat) (Q : Option Value → evS → Prop) (x0 : Nat) (x1 : Nat) (l2 : Int32) (S : evS) : Prop := evAt G M_X4_beginsItem (evFm G (d + 1) Q) 0 [(0, .ref (evad G 18 x0)), (1, .ref (evad G 3 x1)), (2, .int l2)] [] S
abbrev bk_X4_beginsItem_16 (G : evG) (d : Nat) (Q : Option Value → evS → Prop) (x0 : Nat) (l2 : Int32) (S : evS) : Prop := evAt G M_X4_beginsItem (evFm G (d + 1) Q) 16 [(0, .ref (evad G 18 x0)), (2, .int l2)] [] S
abbrev bk_X4_beginsItem_29 (G : evG) (d : Nat) (Q : Option Value → evS → Prop) (x0 : Nat) (l2 : Int32) (S : evS) : Prop := evAt G M_X4_beginsItem (evFm G (d + 1) Q) 29 [(0, .ref (evad G 18 x0)), (2, .int l2)] [] S
abbrev bk_X4_beginsItem_42 (G : evG) (d : Nat) (Q : Option Value → evS → Prop) (x0 : Nat) (l2 : Int32) (S : evS) : Prop := evAt G M_X4_beginsItem (evFm G (d + 1) Q) 42 [(0, .ref (evad G 18 x0)), (2, .int l2)] [] S
abbrev bk_X4_beginsItem_46 (G : evG) (d : Nat) (Q : Option Value → evS → Prop) (x0 : Nat) (l2 : Int32) (S : evS) : Prop := evAt G M_X4_beginsItem (evFm G (d + 1) Q) 46 [(0, .ref (evad G 18 x0)), (2, .int l2)] [] S
abbrev bk_X4_beginsItem_47 (G : evG) (d : Nat) (Q : Option Value → evS → Prop) (x0 : Nat) (l2 : Int32) (s0 : Int32) (S : evS) : Prop := evAt G M_X4_beginsItem (evFm G (d + 1) Q) 47 [(0, .ref (evad G 18 x0)), (2, .int l2)] [.int s0] S
set_option maxRecDepth 100000 in
set_option maxHeartbeats 4000000 in
theorem vb_X4_beginsItem_0 {G : evG} {d : Nat} {q : Int32 → evS → Prop} (hCl : evCl G) {x0 : Nat} {x1 : Nat} {l2 : Int32} {S : evS} (hVl0 : (18, x0) ∈ evKs G) (hVl1 : (3, x1) ∈ evKs G)
    (h : ((¬ l2 = 108 → bk_X4_beginsItem_16 G d (evQI q) x0 l2 S) ∧ (l2 = 108 → (evSp G yX3_trait M_X3_trait d [.ref (evad G 3 x1), .int 0] S (evQI fun r1 S2 => ((r1 < 6 → bk_X4_beginsItem_42 G d (evQI q) x0 l2 S2) ∧ (¬ r1 < 6 → bk_X4_beginsItem_16 G d (evQI q) x0 l2 S2))))))) : bk_X4_beginsItem_0 G d (evQI q) x0 x1 l2 S := by
  refine ea_iload_n (pc' := 1) (i := 2) dX4_beginsItem_0 rfl 2 rfl rfl ?_
  refine ea_bipush (v := 108) (pc' := 3) dX4_beginsItem_1 (by decide) rfl ?_
  refine ea_icmp_ne (tgt := 16) (pc' := 6) dX4_beginsItem_3 (by decide) rfl (fun hc => ?_) (fun hc => ?_)
  · replace h := h.1 hc
    refine ea_loc [0, 2] rfl ?_
    exact h
  · replace h := h.2 hc
    refine ea_aload_n (pc' := 7) (i := 1) dX4_beginsItem_6 rfl 1 rfl rfl ?_
    refine ea_iconst (v := 0) (pc' := 8) dX4_beginsItem_7 (by decide) rfl ?_
    refine ea_cvi (As := [.int 0]) (st := []) (d := d) (pc' := 11) mv_X3_trait ml_X4_70 kok_3 hVl1 rfl rfl dX4_beginsItem_8 rfl (Nat.le_of_ble_eq_true rfl) (ev_room (by decide)) ⟨Nat.le_refl _, Nat.le_refl _⟩ h rfl (fun r1 S2 h => ?_)
    refine ea_bipush (v := 6) (pc' := 13) dX4_beginsItem_11 (by decide) rfl ?_
    refine ea_icmp_lt (tgt := 42) (pc' := 16) dX4_beginsItem_13 (by decide) rfl (fun hc => ?_) (fun hc => ?_)
    · replace h := h.1 hc
      refine ea_loc [0, 2] rfl ?_
      exact h
    · replace h := h.2 hc
      refine ea_loc [0, 2] rfl ?_
      exact h
set_option maxRecDepth 100000 in
set_option maxHeartbeats 4000000 in
theorem vb_X4_beginsItem_16 {G : evG} {d : Nat} {q : Int32 → evS → Prop} (hCl : evCl G) {x0 : Nat} {l2 : Int32} {S : evS} (hVl0 : (18, x0) ∈ evKs G)
    (h : ((¬ l2 = 118 → bk_X4_beginsItem_29 G d (evQI q) x0 l2 S) ∧ (l2 = 118 → (((S.1 18 x0 6) = 0 → bk_X4_beginsItem_42 G d (evQI q) x0 l2 S) ∧ (¬ (S.1 18 x0 6) = 0 → bk_X4_beginsItem_29 G d (evQI q) x0 l2 S))))) : bk_X4_beginsItem_16 G d (evQI q) x0 l2 S := by
  refine ea_iload_n (pc' := 17) (i := 2) dX4_beginsItem_16 rfl 1 rfl rfl ?_
  refine ea_bipush (v := 118) (pc' := 19) dX4_beginsItem_17 (by decide) rfl ?_
  refine ea_icmp_ne (tgt := 29) (pc' := 22) dX4_beginsItem_19 (by decide) rfl (fun hc => ?_) (fun hc => ?_)
  · replace h := h.1 hc
    exact h
  · replace h := h.2 hc
    refine ea_aload_n (pc' := 23) (i := 0) dX4_beginsItem_22 rfl 0 rfl rfl ?_
    refine ea_geti (kf := 6) (pc' := 26) kok_18 hVl0 (by decide) rfl fl_X4_29 dX4_beginsItem_23 rfl ?_
    refine ea_if_eq (tgt := 42) (pc' := 29) dX4_beginsItem_26 (by decide) rfl (fun hc => ?_) (fun hc => ?_)
    · replace h := h.1 hc
      exact h
    · replace h := h.2 hc
      exact h
set_option maxRecDepth 100000 in
set_option maxHeartbeats 4000000 in
theorem vb_X4_beginsItem_29 {G : evG} {d : Nat} {q : Int32 → evS → Prop} (hCl : evCl G) {x0 : Nat} {l2 : Int32} {S : evS} (hVl0 : (18, x0) ∈ evKs G)
    (h : ((¬ l2 = 102 → bk_X4_beginsItem_46 G d (evQI q) x0 l2 S) ∧ (l2 = 102 → ((¬ (S.1 18 x0 7) = 0 → bk_X4_beginsItem_46 G d (evQI q) x0 l2 S) ∧ ((S.1 18 x0 7) = 0 → bk_X4_beginsItem_42 G d (evQI q) x0 l2 S))))) : bk_X4_beginsItem_29 G d (evQI q) x0 l2 S := by
  refine ea_iload_n (pc' := 30) (i := 2) dX4_beginsItem_29 rfl 1 rfl rfl ?_
  refine ea_bipush (v := 102) (pc' := 32) dX4_beginsItem_30 (by decide) rfl ?_
  refine ea_icmp_ne (tgt := 46) (pc' := 35) dX4_beginsItem_32 (by decide) rfl (fun hc => ?_) (fun hc => ?_)
  · replace h := h.1 hc
    exact h
  · replace h := h.2 hc
    refine ea_aload_n (pc' := 36) (i := 0) dX4_beginsItem_35 rfl 0 rfl rfl ?_
    refine ea_geti (kf := 7) (pc' := 39) kok_18 hVl0 (by decide) rfl fl_X4_33 dX4_beginsItem_36 rfl ?_
    refine ea_if_ne (tgt := 46) (pc' := 42) dX4_beginsItem_39 (by decide) rfl (fun hc => ?_) (fun hc => ?_)
    · replace h := h.1 hc
      exact h
    · replace h := h.2 hc
      exact h
set_option maxRecDepth 100000 in
set_option maxHeartbeats 4000000 in
theorem vb_X4_beginsItem_42 {G : evG} {d : Nat} {q : Int32 → evS → Prop} (hCl : evCl G) {x0 : Nat} {l2 : Int32} {S : evS} (hVl0 : (18, x0) ∈ evKs G)
    (h : bk_X4_beginsItem_47 G d (evQI q) x0 l2 1 S) : bk_X4_beginsItem_42 G d (evQI q) x0 l2 S := by
  refine ea_iconst (v := 1) (pc' := 43) dX4_beginsItem_42 (by decide) rfl ?_
  refine ea_goto (tgt := 47) dX4_beginsItem_43 (by decide) ?_
  exact h
set_option maxRecDepth 100000 in
set_option maxHeartbeats 4000000 in
theorem vb_X4_beginsItem_46 {G : evG} {d : Nat} {q : Int32 → evS → Prop} (hCl : evCl G) {x0 : Nat} {l2 : Int32} {S : evS} (hVl0 : (18, x0) ∈ evKs G)
    (h : bk_X4_beginsItem_47 G d (evQI q) x0 l2 0 S) : bk_X4_beginsItem_46 G d (evQI q) x0 l2 S := by
  refine ea_iconst (v := 0) (pc' := 47) dX4_beginsItem_46 (by decide) rfl ?_
  exact h
set_option maxRecDepth 100000 in
set_option maxHeartbeats 4000000 in
theorem vb_X4_beginsItem_47 {G : evG} {d : Nat} {q : Int32 → evS → Prop} (hCl : evCl G) {x0 : Nat} {l2 : Int32} {s0 : Int32} {S : evS} (hVl0 : (18, x0) ∈ evKs G)
    (h : ((s0 = 0 → ((s0 = 0 ∨ s0 = 1) ∧ q s0 S)) ∧ (¬ s0 = 0 → (∀ S2 : evS, S2 = evup S 18 x0 2 l2 → (∀ S3 : evS, S3 = evup S2 18 x0 3 0 → ((s0 = 0 ∨ s0 = 1) ∧ q s0 S3)))))) : bk_X4_beginsItem_47 G d (evQI q) x0 l2 s0 S := by
  refine ea_istore_n (lv' := [(3, .int s0), (0, .ref (evad G 18 x0)), (2, .int l2)]) (pc' := 48) dX4_beginsItem_47 rfl (by decide) rfl rfl ?_
  refine ea_iload_n (pc' := 49) (i := 3) dX4_beginsItem_48 rfl 0 rfl rfl ?_
  refine ea_if_eq (tgt := 62) (pc' := 52) dX4_beginsItem_49 (by decide) rfl (fun hc => ?_) (fun hc => ?_)
  · replace h := h.1 hc
    refine ea_iload_n (pc' := 63) (i := 3) dX4_beginsItem_62 rfl 0 rfl rfl ?_
    obtain ⟨o1, h⟩ := h
    exact ea_zret rfl dX4_beginsItem_63 o1 ⟨_, rfl, h⟩
  · replace h := h.2 hc
    refine ea_aload_n (pc' := 53) (i := 0) dX4_beginsItem_52 rfl 1 rfl rfl ?_
    refine ea_iload_n (pc' := 54) (i := 2) dX4_beginsItem_53 rfl 2 rfl rfl ?_
    refine ea_puti (kf := 2) (pc' := 57) kok_18 hVl0 (by decide) rfl fl_X4_17 rfl rfl dX4_beginsItem_54 rfl ?_
    refine ea_tops (fun S2 hS2 => ?_)
    replace h := h S2 hS2
    refine ea_aload_n (pc' := 58) (i := 0) dX4_beginsItem_57 rfl 1 rfl rfl ?_
    refine ea_iconst (v := 0) (pc' := 59) dX4_beginsItem_58 (by decide) rfl ?_
    refine ea_puti (kf := 3) (pc' := 62) kok_18 hVl0 (by decide) rfl fl_X4_20 rfl rfl dX4_beginsItem_59 rfl ?_
    refine ea_tops (fun S3 hS3 => ?_)
    replace h := h S3 hS3
    refine ea_iload_n (pc' := 63) (i := 3) dX4_beginsItem_62 rfl 0 rfl rfl ?_
    obtain ⟨o4, h⟩ := h
    exact ea_zret rfl dX4_beginsItem_63 o4 ⟨_, rfl, h⟩
theorem vm_X4_beginsItem {G : evG} {d : Nat} {q : Int32 → evS → Prop} {x0 : Nat} {x1 : Nat} {l2 : Int32} {S : evS} (h : bk_X4_beginsItem_0 G d (evQI q) x0 x1 l2 S) : evSp G yX4_beginsItem M_X4_beginsItem (d + 1) [.ref (evad G 18 x0), .ref (evad G 3 x1), .int l2] S (evQI q) :=
  evSp.of (by decide +kernel) rfl (Nat.le_of_ble_eq_true rfl) h
abbrev bk_X4_numbersOfItem_0 (G : evG) (d : Nat) (Q : Option Value → evS → Prop) (x0 : Nat) (S : evS) : Prop := evAt G M_X4_numbersOfItem (evFm G d Q) 0 [(0, .ref (evad G 18 x0))] [] S
set_option maxRecDepth 100000 in
set_option maxHeartbeats 4000000 in
theorem vb_X4_numbersOfItem_0 {G : evG} {d : Nat} {q : Int32 → evS → Prop} (hCl : evCl G) {x0 : Nat} {S : evS} (hVl0 : (18, x0) ∈ evKs G)
    (h : ((¬ (S.1 18 x0 2) = 118 → q 4 S) ∧ ((S.1 18 x0 2) = 118 → q 1 S))) : bk_X4_numbersOfItem_0 G d (evQI q) x0 S := by
  refine ea_aload_n (pc' := 1) (i := 0) dX4_numbersOfItem_0 rfl 0 rfl rfl ?_
  refine ea_geti (kf := 2) (pc' := 4) kok_18 hVl0 (by decide) rfl fl_X4_17 dX4_numbersOfItem_1 rfl ?_
  refine ea_bipush (v := 118) (pc' := 6) dX4_numbersOfItem_4 (by decide) rfl ?_
  refine ea_icmp_ne (tgt := 13) (pc' := 9) dX4_numbersOfItem_6 (by decide) rfl (fun hc => ?_) (fun hc => ?_)
  · replace h := h.1 hc
    refine ea_iconst (v := 4) (pc' := 14) dX4_numbersOfItem_13 (by decide) rfl ?_
    exact ea_iret rfl dX4_numbersOfItem_14 ⟨_, rfl, h⟩
  · replace h := h.2 hc
    refine ea_iconst (v := 1) (pc' := 10) dX4_numbersOfItem_9 (by decide) rfl ?_
    refine ea_goto (tgt := 14) dX4_numbersOfItem_10 (by decide) ?_
    exact ea_iret rfl dX4_numbersOfItem_14 ⟨_, rfl, h⟩
theorem vm_X4_numbersOfItem {G : evG} {d : Nat} {q : Int32 → evS → Prop} {x0 : Nat} {S : evS} (h : bk_X4_numbersOfItem_0 G d (evQI q) x0 S) : evSp G yX4_numbersOfItem M_X4_numbersOfItem d [.ref (evad G 18 x0)] S (evQI q) :=
  evSp.of (by decide +kernel) rfl (Nat.le_of_ble_eq_true rfl) h
abbrev bk_X4_isFigure_0 (G : evG) (d : Nat) (Q : Option Value → evS → Prop) (l0 : Int32) (S : evS) : Prop := evAt G M_X4_isFigure (evFm G d Q) 0 [(0, .int l0)] [] S
set_option maxRecDepth 100000 in
set_option maxHeartbeats 4000000 in
theorem vb_X4_isFigure_0 {G : evG} {d : Nat} {q : Int32 → evS → Prop} (hCl : evCl G) {l0 : Int32} {S : evS}
    (h : ((l0 < 48 → q 0 S) ∧ (¬ l0 < 48 → ((57 < l0 → q 0 S) ∧ (¬ 57 < l0 → q 1 S))))) : bk_X4_isFigure_0 G d (evQI q) l0 S := by
  refine ea_iload_n (pc' := 1) (i := 0) dX4_isFigure_0 rfl 0 rfl rfl ?_
  refine ea_bipush (v := 48) (pc' := 3) dX4_isFigure_1 (by decide) rfl ?_
  refine ea_icmp_lt (tgt := 16) (pc' := 6) dX4_isFigure_3 (by decide) rfl (fun hc => ?_) (fun hc => ?_)
  · replace h := h.1 hc
    refine ea_iconst (v := 0) (pc' := 17) dX4_isFigure_16 (by decide) rfl ?_
    exact ea_zret rfl dX4_isFigure_17 (by decide) ⟨_, rfl, h⟩
  · replace h := h.2 hc
    refine ea_iload_n (pc' := 7) (i := 0) dX4_isFigure_6 rfl 0 rfl rfl ?_
    refine ea_bipush (v := 57) (pc' := 9) dX4_isFigure_7 (by decide) rfl ?_
    refine ea_icmp_gt (tgt := 16) (pc' := 12) dX4_isFigure_9 (by decide) rfl (fun hc => ?_) (fun hc => ?_)
    · replace h := h.1 hc
      refine ea_iconst (v := 0) (pc' := 17) dX4_isFigure_16 (by decide) rfl ?_
      exact ea_zret rfl dX4_isFigure_17 (by decide) ⟨_, rfl, h⟩
    · replace h := h.2 hc
      refine ea_iconst (v := 1) (pc' := 13) dX4_isFigure_12 (by decide) rfl ?_
      refine ea_goto (tgt := 17) dX4_isFigure_13 (by decide) ?_
      exact ea_zret rfl dX4_isFigure_17 (by decide) ⟨_, rfl, h⟩
theorem vm_X4_isFigure {G : evG} {d : Nat} {q : Int32 → evS → Prop} {l0 : Int32} {S : evS} (h : bk_X4_isFigure_0 G d (evQI q) l0 S) : evSp G yX4_isFigure M_X4_isFigure d [.int l0] S (evQI q) :=
  evSp.of (by decide +kernel) rfl (Nat.le_of_ble_eq_true rfl) h
abbrev bk_X4_numberAt_0 (G : evG) (d : Nat) (Q : Option Value → evS → Prop) (x0 : Nat) (l1 : Int32) (S : evS) : Prop := evAt G M_X4_numberAt (evFm G (d + 1) Q) 0 [(0, .ref (evad G 18 x0)), (1, .int l1)] [] S
abbrev bk_X4_numberAt_28 (G : evG) (d : Nat) (Q : Option Value → evS → Prop) (x0 : Nat) (l1 : Int32) (l2 : Int32) (S : evS) : Prop := evAt G M_X4_numberAt (evFm G (d + 1) Q) 28 [(0, .ref (evad G 18 x0)), (1, .int l1), (2, .int l2)] [] S
abbrev bk_X4_numberAt_33 (G : evG) (d : Nat) (Q : Option Value → evS → Prop) (x0 : Nat) (l2 : Int32) (l3 : Int32) (l4 : Int32) (S : evS) : Prop := evAt G M_X4_numberAt (evFm G (d + 1) Q) 33 [(0, .ref (evad G 18 x0)), (2, .int l2), (3, .int l3), (4, .int l4)] [] S
set_option maxRecDepth 100000 in
set_option maxHeartbeats 4000000 in
theorem vb_X4_numberAt_0 {G : evG} {d : Nat} {q : Int32 → evS → Prop} (hCl : evCl G) {x0 : Nat} {l1 : Int32} {S : evS} (hVl0 : (18, x0) ∈ evKs G)
    (h : (evSp G yX4_tokenEnd M_X4_tokenEnd d [.ref (evad G 18 x0), .int l1] S (evQI fun r1 S2 => (vp_in l1 150 ∧ ((¬ (S2.1 19 0 l1.toNatClampNeg) = 48 → bk_X4_numberAt_28 G d (evQI q) x0 l1 r1 S2) ∧ ((S2.1 19 0 l1.toNatClampNeg) = 48 → ((r1 ≤ (l1 + 1) → bk_X4_numberAt_28 G d (evQI q) x0 l1 r1 S2) ∧ (¬ r1 ≤ (l1 + 1) → q 1000 S2)))))))) : bk_X4_numberAt_0 G d (evQI q) x0 l1 S := by
  refine ea_aload_n (pc' := 1) (i := 0) dX4_numberAt_0 rfl 0 rfl rfl ?_
  refine ea_iload_n (pc' := 2) (i := 1) dX4_numberAt_1 rfl 1 rfl rfl ?_
  refine ea_cvi (As := [.int l1]) (st := []) (d := d) (pc' := 5) mv_X4_tokenEnd ml_X4_45 kok_18 hVl0 rfl rfl dX4_numberAt_2 rfl (Nat.le_of_ble_eq_true rfl) (ev_room (by decide)) ⟨Nat.le_refl _, Nat.le_refl _⟩ h rfl (fun r1 S2 h => ?_)
  refine ea_istore_n (lv' := [(2, .int r1), (0, .ref (evad G 18 x0)), (1, .int l1)]) (pc' := 6) dX4_numberAt_5 rfl (by decide) rfl rfl ?_
  refine ea_aload_n (pc' := 7) (i := 0) dX4_numberAt_6 rfl 1 rfl rfl ?_
  refine ea_getr (k2 := 19) (x2 := 0) (kf := 0) (pc' := 10) kok_18 hVl0 (by decide) rfl fl_X4_9 rfl dX4_numberAt_7 rfl ?_
  refine ea_iload_n (pc' := 11) (i := 1) dX4_numberAt_10 rfl 2 rfl rfl ?_
  obtain ⟨o3, h⟩ := h
  refine ea_iald (j := l1.toNatClampNeg) (pc' := 12) (hCl.1 18 x0 0 19 hVl0 rfl) rfl o3 dX4_numberAt_11 rfl rfl ?_
  refine ea_bipush (v := 48) (pc' := 14) dX4_numberAt_12 (by decide) rfl ?_
  refine ea_icmp_ne (tgt := 28) (pc' := 17) dX4_numberAt_14 (by decide) rfl (fun hc => ?_) (fun hc => ?_)
  · replace h := h.1 hc
    refine ea_loc [1, 2, 0] rfl ?_
    exact h
  · replace h := h.2 hc
    refine ea_iload_n (pc' := 18) (i := 2) dX4_numberAt_17 rfl 0 rfl rfl ?_
    refine ea_iload_n (pc' := 19) (i := 1) dX4_numberAt_18 rfl 2 rfl rfl ?_
    refine ea_iconst (v := 1) (pc' := 20) dX4_numberAt_19 (by decide) rfl ?_
    refine ea_iadd (pc' := 21) dX4_numberAt_20 rfl ?_
    refine ea_icmp_le (tgt := 28) (pc' := 24) dX4_numberAt_21 (by decide) rfl (fun hc => ?_) (fun hc => ?_)
    · replace h := h.1 hc
      refine ea_loc [1, 2, 0] rfl ?_
      exact h
    · replace h := h.2 hc
      refine ea_sipush (v := 1000) (pc' := 27) dX4_numberAt_24 (by decide) rfl ?_
      exact ea_iret rfl dX4_numberAt_27 ⟨_, rfl, h⟩
set_option maxRecDepth 100000 in
set_option maxHeartbeats 4000000 in
theorem vb_X4_numberAt_28 {G : evG} {d : Nat} {q : Int32 → evS → Prop} (hCl : evCl G) {x0 : Nat} {l1 : Int32} {l2 : Int32} {S : evS} (hVl0 : (18, x0) ∈ evKs G)
    (h : bk_X4_numberAt_33 G d (evQI q) x0 l2 0 l1 S) : bk_X4_numberAt_28 G d (evQI q) x0 l1 l2 S := by
  refine ea_iconst (v := 0) (pc' := 29) dX4_numberAt_28 (by decide) rfl ?_
  refine ea_istore_n (lv' := [(3, .int 0), (0, .ref (evad G 18 x0)), (1, .int l1), (2, .int l2)]) (pc' := 30) dX4_numberAt_29 rfl (by decide) rfl rfl ?_
  refine ea_iload_n (pc' := 31) (i := 1) dX4_numberAt_30 rfl 2 rfl rfl ?_
  refine ea_istore (lv' := [(4, .int l1), (3, .int 0), (0, .ref (evad G 18 x0)), (1, .int l1), (2, .int l2)]) (pc' := 33) dX4_numberAt_31 (by decide) rfl rfl ?_
  refine ea_loc [2, 4, 1, 0] rfl ?_
  exact h
set_option maxRecDepth 100000 in
set_option maxHeartbeats 4000000 in
theorem vb_X4_numberAt_33 {G : evG} {d : Nat} {q : Int32 → evS → Prop} (hCl : evCl G) {x0 : Nat} {l2 : Int32} {l3 : Int32} {l4 : Int32} {S : evS} (hVl0 : (18, x0) ∈ evKs G)
    (h : ((l2 ≤ l4 → q l3 S) ∧ (¬ l2 ≤ l4 → (vp_in l4 150 ∧ (evSp G yJ9_min_7cf53 M_J9_min_7cf53 d [.int 1000, .int (((l3 * 10) + (S.1 19 0 l4.toNatClampNeg)) - 48)] S (evQI fun r2 S3 => (∀ v4 : Int32, v4 = (l4 + 1) → bk_X4_numberAt_33 G d (evQI q) x0 l2 r2 v4 S3))))))) : bk_X4_numberAt_33 G d (evQI q) x0 l2 l3 l4 S := by
  refine ea_iload (pc' := 35) dX4_numberAt_33 3 rfl rfl ?_
  refine ea_iload_n (pc' := 36) (i := 2) dX4_numberAt_35 rfl 1 rfl rfl ?_
  refine ea_icmp_ge (tgt := 67) (pc' := 39) dX4_numberAt_36 (by decide) rfl (fun hc => ?_) (fun hc => ?_)
  · replace h := h.1 hc
    refine ea_iload_n (pc' := 68) (i := 3) dX4_numberAt_67 rfl 2 rfl rfl ?_
    exact ea_iret rfl dX4_numberAt_68 ⟨_, rfl, h⟩
  · replace h := h.2 hc
    refine ea_sipush (v := 1000) (pc' := 42) dX4_numberAt_39 (by decide) rfl ?_
    refine ea_iload_n (pc' := 43) (i := 3) dX4_numberAt_42 rfl 2 rfl rfl ?_
    refine ea_bipush (v := 10) (pc' := 45) dX4_numberAt_43 (by decide) rfl ?_
    refine ea_imul (pc' := 46) dX4_numberAt_45 rfl ?_
    refine ea_aload_n (pc' := 47) (i := 0) dX4_numberAt_46 rfl 0 rfl rfl ?_
    refine ea_getr (k2 := 19) (x2 := 0) (kf := 0) (pc' := 50) kok_18 hVl0 (by decide) rfl fl_X4_9 rfl dX4_numberAt_47 rfl ?_
    refine ea_iload (pc' := 52) dX4_numberAt_50 3 rfl rfl ?_
    obtain ⟨o1, h⟩ := h
    refine ea_iald (j := l4.toNatClampNeg) (pc' := 53) (hCl.1 18 x0 0 19 hVl0 rfl) rfl o1 dX4_numberAt_52 rfl rfl ?_
    refine ea_iadd (pc' := 54) dX4_numberAt_53 rfl ?_
    refine ea_bipush (v := 48) (pc' := 56) dX4_numberAt_54 (by decide) rfl ?_
    refine ea_isub (pc' := 57) dX4_numberAt_56 rfl ?_
    refine ea_csi (As := [.int 1000, .int (((l3 * 10) + (S.1 19 0 l4.toNatClampNeg)) - 48)]) (st := []) (d := d) (pc' := 60) mv_J9_min_7cf53 ml_X4_93 rfl dX4_numberAt_57 rfl (Nat.le_of_ble_eq_true rfl) (ev_room (by decide)) ⟨Nat.le_refl _, Nat.le_refl _⟩ h rfl (fun r2 S3 h => ?_)
    refine ea_istore_n (lv' := [(3, .int r2), (0, .ref (evad G 18 x0)), (2, .int l2), (4, .int l4)]) (pc' := 61) dX4_numberAt_60 rfl (by decide) rfl rfl ?_
    obtain ⟨v4, hv4⟩ : ∃ z : Int32, z = (l4 + 1) := ⟨_, rfl⟩
    replace h := h v4 hv4
    refine ea_iinc (q := 3) (v := v4) (lv' := [(4, .int v4), (3, .int r2), (0, .ref (evad G 18 x0)), (2, .int l2)]) (pc' := 64) dX4_numberAt_61 rfl (by rw [hv4]; rfl) (by decide) rfl rfl ?_
    refine ea_goto (tgt := 33) dX4_numberAt_64 (by decide) ?_
    refine ea_loc [2, 3, 1, 0] rfl ?_
    exact h
theorem vm_X4_numberAt {G : evG} {d : Nat} {q : Int32 → evS → Prop} {x0 : Nat} {l1 : Int32} {S : evS} (h : bk_X4_numberAt_0 G d (evQI q) x0 l1 S) : evSp G yX4_numberAt M_X4_numberAt (d + 1) [.ref (evad G 18 x0), .int l1] S (evQI q) :=
  evSp.of (by decide +kernel) rfl (Nat.le_of_ble_eq_true rfl) h
abbrev bk_X4_tokenEnd_0 (G : evG) (d : Nat) (Q : Option Value → evS → Prop) (x0 : Nat) (l1 : Int32) (S : evS) : Prop := evAt G M_X4_tokenEnd (evFm G (d + 1) Q) 0 [(0, .ref (evad G 18 x0)), (1, .int l1)] [] S
abbrev bk_X4_tokenEnd_18 (G : evG) (d : Nat) (Q : Option Value → evS → Prop) (x0 : Nat) (l2 : Int32) (S : evS) : Prop := evAt G M_X4_tokenEnd (evFm G (d + 1) Q) 18 [(0, .ref (evad G 18 x0)), (2, .int l2)] [] S
set_option maxRecDepth 100000 in
set_option maxHeartbeats 4000000 in
theorem vb_X4_tokenEnd_0 {G : evG} {d : Nat} {q : Int32 → evS → Prop} (hCl : evCl G) {x0 : Nat} {l1 : Int32} {S : evS} (hVl0 : (18, x0) ∈ evKs G)
    (h : (vp_in l1 150 ∧ (evSp G yX4_isFigure M_X4_isFigure d [.int (S.1 19 0 l1.toNatClampNeg)] S (evQI fun r2 S3 => ((¬ r2 = 0 → bk_X4_tokenEnd_18 G d (evQI q) x0 l1 S3) ∧ (r2 = 0 → q (l1 + 1) S3)))))) : bk_X4_tokenEnd_0 G d (evQI q) x0 l1 S := by
  refine ea_aload_n (pc' := 1) (i := 0) dX4_tokenEnd_0 rfl 0 rfl rfl ?_
  refine ea_getr (k2 := 19) (x2 := 0) (kf := 0) (pc' := 4) kok_18 hVl0 (by decide) rfl fl_X4_9 rfl dX4_tokenEnd_1 rfl ?_
  refine ea_iload_n (pc' := 5) (i := 1) dX4_tokenEnd_4 rfl 1 rfl rfl ?_
  obtain ⟨o1, h⟩ := h
  refine ea_iald (j := l1.toNatClampNeg) (pc' := 6) (hCl.1 18 x0 0 19 hVl0 rfl) rfl o1 dX4_tokenEnd_5 rfl rfl ?_
  refine ea_csi (As := [.int (S.1 19 0 l1.toNatClampNeg)]) (st := []) (d := d) (pc' := 9) mv_X4_isFigure ml_X4_56 rfl dX4_tokenEnd_6 rfl (Nat.le_of_ble_eq_true rfl) (ev_room (by decide)) ⟨Nat.le_refl _, Nat.le_refl _⟩ h rfl (fun r2 S3 h => ?_)
  refine ea_if_ne (tgt := 16) (pc' := 12) dX4_tokenEnd_9 (by decide) rfl (fun hc => ?_) (fun hc => ?_)
  · replace h := h.1 hc
    refine ea_iload_n (pc' := 17) (i := 1) dX4_tokenEnd_16 rfl 1 rfl rfl ?_
    refine ea_istore_n (lv' := [(2, .int l1), (0, .ref (evad G 18 x0)), (1, .int l1)]) (pc' := 18) dX4_tokenEnd_17 rfl (by decide) rfl rfl ?_
    refine ea_loc [1, 0] rfl ?_
    exact h
  · replace h := h.2 hc
    refine ea_iload_n (pc' := 13) (i := 1) dX4_tokenEnd_12 rfl 1 rfl rfl ?_
    refine ea_iconst (v := 1) (pc' := 14) dX4_tokenEnd_13 (by decide) rfl ?_
    refine ea_iadd (pc' := 15) dX4_tokenEnd_14 rfl ?_
    exact ea_iret rfl dX4_tokenEnd_15 ⟨_, rfl, h⟩
set_option maxRecDepth 100000 in
set_option maxHeartbeats 4000000 in
theorem vb_X4_tokenEnd_18 {G : evG} {d : Nat} {q : Int32 → evS → Prop} (hCl : evCl G) {x0 : Nat} {l2 : Int32} {S : evS} (hVl0 : (18, x0) ∈ evKs G)
    (h : (((S.1 18 x0 1) ≤ l2 → q (S.1 18 x0 1) S) ∧ (¬ (S.1 18 x0 1) ≤ l2 → (vp_in l2 150 ∧ (evSp G yX4_isFigure M_X4_isFigure d [.int (S.1 19 0 l2.toNatClampNeg)] S (evQI fun r2 S3 => ((¬ r2 = 0 → (∀ v4 : Int32, v4 = (l2 + 1) → bk_X4_tokenEnd_18 G d (evQI q) x0 v4 S3)) ∧ (r2 = 0 → q l2 S3)))))))) : bk_X4_tokenEnd_18 G d (evQI q) x0 l2 S := by
  refine ea_iload_n (pc' := 19) (i := 2) dX4_tokenEnd_18 rfl 1 rfl rfl ?_
  refine ea_aload_n (pc' := 20) (i := 0) dX4_tokenEnd_19 rfl 0 rfl rfl ?_
  refine ea_geti (kf := 1) (pc' := 23) kok_18 hVl0 (by decide) rfl fl_X4_13 dX4_tokenEnd_20 rfl ?_
  refine ea_icmp_ge (tgt := 46) (pc' := 26) dX4_tokenEnd_23 (by decide) rfl (fun hc => ?_) (fun hc => ?_)
  · replace h := h.1 hc
    refine ea_aload_n (pc' := 47) (i := 0) dX4_tokenEnd_46 rfl 0 rfl rfl ?_
    refine ea_geti (kf := 1) (pc' := 50) kok_18 hVl0 (by decide) rfl fl_X4_13 dX4_tokenEnd_47 rfl ?_
    exact ea_iret rfl dX4_tokenEnd_50 ⟨_, rfl, h⟩
  · replace h := h.2 hc
    refine ea_aload_n (pc' := 27) (i := 0) dX4_tokenEnd_26 rfl 0 rfl rfl ?_
    refine ea_getr (k2 := 19) (x2 := 0) (kf := 0) (pc' := 30) kok_18 hVl0 (by decide) rfl fl_X4_9 rfl dX4_tokenEnd_27 rfl ?_
    refine ea_iload_n (pc' := 31) (i := 2) dX4_tokenEnd_30 rfl 1 rfl rfl ?_
    obtain ⟨o1, h⟩ := h
    refine ea_iald (j := l2.toNatClampNeg) (pc' := 32) (hCl.1 18 x0 0 19 hVl0 rfl) rfl o1 dX4_tokenEnd_31 rfl rfl ?_
    refine ea_csi (As := [.int (S.1 19 0 l2.toNatClampNeg)]) (st := []) (d := d) (pc' := 35) mv_X4_isFigure ml_X4_56 rfl dX4_tokenEnd_32 rfl (Nat.le_of_ble_eq_true rfl) (ev_room (by decide)) ⟨Nat.le_refl _, Nat.le_refl _⟩ h rfl (fun r2 S3 h => ?_)
    refine ea_if_ne (tgt := 40) (pc' := 38) dX4_tokenEnd_35 (by decide) rfl (fun hc => ?_) (fun hc => ?_)
    · replace h := h.1 hc
      obtain ⟨v4, hv4⟩ : ∃ z : Int32, z = (l2 + 1) := ⟨_, rfl⟩
      replace h := h v4 hv4
      refine ea_iinc (q := 1) (v := v4) (lv' := [(2, .int v4), (0, .ref (evad G 18 x0))]) (pc' := 43) dX4_tokenEnd_40 rfl (by rw [hv4]; rfl) (by decide) rfl rfl ?_
      refine ea_goto (tgt := 18) dX4_tokenEnd_43 (by decide) ?_
      refine ea_loc [1, 0] rfl ?_
      exact h
    · replace h := h.2 hc
      refine ea_iload_n (pc' := 39) (i := 2) dX4_tokenEnd_38 rfl 1 rfl rfl ?_
      exact ea_iret rfl dX4_tokenEnd_39 ⟨_, rfl, h⟩
theorem vm_X4_tokenEnd {G : evG} {d : Nat} {q : Int32 → evS → Prop} {x0 : Nat} {l1 : Int32} {S : evS} (h : bk_X4_tokenEnd_0 G d (evQI q) x0 l1 S) : evSp G yX4_tokenEnd M_X4_tokenEnd (d + 1) [.ref (evad G 18 x0), .int l1] S (evQI q) :=
  evSp.of (by decide +kernel) rfl (Nat.le_of_ble_eq_true rfl) h
abbrev bk_X4_takesNumber_0 (G : evG) (d : Nat) (Q : Option Value → evS → Prop) (x0 : Nat) (l1 : Int32) (S : evS) : Prop := evAt G M_X4_takesNumber (evFm G (d + 1) Q) 0 [(0, .ref (evad G 18 x0)), (1, .int l1)] [] S
set_option maxRecDepth 100000 in
set_option maxHeartbeats 4000000 in
theorem vb_X4_takesNumber_0 {G : evG} {d : Nat} {q : Int32 → evS → Prop} (hCl : evCl G) {x0 : Nat} {l1 : Int32} {S : evS} (hVl0 : (18, x0) ∈ evKs G)
    (h : (((S.1 18 x0 3) < 0 → q 0 S) ∧ (¬ (S.1 18 x0 3) < 0 → (((Int32.ofNat (evN 20)) ≤ (S.1 18 x0 3) → q 0 S) ∧ (¬ (Int32.ofNat (evN 20)) ≤ (S.1 18 x0 3) → (evSp G yX4_least M_X4_least d [.ref (evad G 18 x0)] S (evQI fun r1 S2 => ((l1 < r1 → q 0 S2) ∧ (¬ l1 < r1 → (evSp G yX4_greatest M_X4_greatest d [.ref (evad G 18 x0)] S2 (evQI fun r3 S4 => ((l1 ≤ r3 → (vp_in (S4.1 18 x0 3) 4 ∧ (∀ S6 : evS, S6 = evup S4 20 0 ((S4.1 18 x0 3).toNatClampNeg) l1 → (∀ S7 : evS, S7 = evup S6 18 x0 3 ((S6.1 18 x0 3) + 1) → q 1 S7)))) ∧ (¬ l1 ≤ r3 → q 0 S4))))))))))))) : bk_X4_takesNumber_0 G d (evQI q) x0 l1 S := by
  refine ea_aload_n (pc' := 1) (i := 0) dX4_takesNumber_0 rfl 0 rfl rfl ?_
  refine ea_geti (kf := 3) (pc' := 4) kok_18 hVl0 (by decide) rfl fl_X4_20 dX4_takesNumber_1 rfl ?_
  refine ea_if_lt (tgt := 35) (pc' := 7) dX4_takesNumber_4 (by decide) rfl (fun hc => ?_) (fun hc => ?_)
  · replace h := h.1 hc
    refine ea_iconst (v := 0) (pc' := 36) dX4_takesNumber_35 (by decide) rfl ?_
    exact ea_zret rfl dX4_takesNumber_36 (by decide) ⟨_, rfl, h⟩
  · replace h := h.2 hc
    refine ea_aload_n (pc' := 8) (i := 0) dX4_takesNumber_7 rfl 0 rfl rfl ?_
    refine ea_geti (kf := 3) (pc' := 11) kok_18 hVl0 (by decide) rfl fl_X4_20 dX4_takesNumber_8 rfl ?_
    refine ea_aload_n (pc' := 12) (i := 0) dX4_takesNumber_11 rfl 0 rfl rfl ?_
    refine ea_getr (k2 := 20) (x2 := 0) (kf := 4) (pc' := 15) kok_18 hVl0 (by decide) rfl fl_X4_23 rfl dX4_takesNumber_12 rfl ?_
    refine ea_alen (v := (Int32.ofNat (evN 20))) (pc' := 16) (hCl.1 18 x0 4 20 hVl0 rfl) rfl rfl dX4_takesNumber_15 rfl ?_
    refine ea_icmp_ge (tgt := 35) (pc' := 19) dX4_takesNumber_16 (by decide) rfl (fun hc => ?_) (fun hc => ?_)
    · replace h := h.1 hc
      refine ea_iconst (v := 0) (pc' := 36) dX4_takesNumber_35 (by decide) rfl ?_
      exact ea_zret rfl dX4_takesNumber_36 (by decide) ⟨_, rfl, h⟩
    · replace h := h.2 hc
      refine ea_iload_n (pc' := 20) (i := 1) dX4_takesNumber_19 rfl 1 rfl rfl ?_
      refine ea_aload_n (pc' := 21) (i := 0) dX4_takesNumber_20 rfl 0 rfl rfl ?_
      refine ea_cvi (As := []) (st := [.int l1]) (d := d) (pc' := 24) mv_X4_least ml_X4_73 kok_18 hVl0 rfl rfl dX4_takesNumber_21 rfl (Nat.le_of_ble_eq_true rfl) (ev_room (by decide)) ⟨Nat.le_refl _, Nat.le_refl _⟩ h rfl (fun r1 S2 h => ?_)
      refine ea_icmp_lt (tgt := 35) (pc' := 27) dX4_takesNumber_24 (by decide) rfl (fun hc => ?_) (fun hc => ?_)
      · replace h := h.1 hc
        refine ea_iconst (v := 0) (pc' := 36) dX4_takesNumber_35 (by decide) rfl ?_
        exact ea_zret rfl dX4_takesNumber_36 (by decide) ⟨_, rfl, h⟩
      · replace h := h.2 hc
        refine ea_iload_n (pc' := 28) (i := 1) dX4_takesNumber_27 rfl 1 rfl rfl ?_
        refine ea_aload_n (pc' := 29) (i := 0) dX4_takesNumber_28 rfl 0 rfl rfl ?_
        refine ea_cvi (As := []) (st := [.int l1]) (d := d) (pc' := 32) mv_X4_greatest ml_X4_76 kok_18 hVl0 rfl rfl dX4_takesNumber_29 rfl (Nat.le_of_ble_eq_true rfl) (ev_room (by decide)) ⟨Nat.le_refl _, Nat.le_refl _⟩ h rfl (fun r3 S4 h => ?_)
        refine ea_icmp_le (tgt := 37) (pc' := 35) dX4_takesNumber_32 (by decide) rfl (fun hc => ?_) (fun hc => ?_)
        · replace h := h.1 hc
          refine ea_aload_n (pc' := 38) (i := 0) dX4_takesNumber_37 rfl 0 rfl rfl ?_
          refine ea_getr (k2 := 20) (x2 := 0) (kf := 4) (pc' := 41) kok_18 hVl0 (by decide) rfl fl_X4_23 rfl dX4_takesNumber_38 rfl ?_
          refine ea_aload_n (pc' := 42) (i := 0) dX4_takesNumber_41 rfl 0 rfl rfl ?_
          refine ea_geti (kf := 3) (pc' := 45) kok_18 hVl0 (by decide) rfl fl_X4_20 dX4_takesNumber_42 rfl ?_
          refine ea_iload_n (pc' := 46) (i := 1) dX4_takesNumber_45 rfl 1 rfl rfl ?_
          obtain ⟨o5, h⟩ := h
          refine ea_iast (j := (S4.1 18 x0 3).toNatClampNeg) (pc' := 47) (hCl.1 18 x0 4 20 hVl0 rfl) rfl o5 dX4_takesNumber_46 rfl rfl ?_
          refine ea_tops (fun S6 hS6 => ?_)
          replace h := h S6 hS6
          refine ea_aload_n (pc' := 48) (i := 0) dX4_takesNumber_47 rfl 0 rfl rfl ?_
          refine ea_dup (pc' := 49) dX4_takesNumber_48 rfl rfl ?_
          refine ea_geti (kf := 3) (pc' := 52) kok_18 hVl0 (by decide) rfl fl_X4_20 dX4_takesNumber_49 rfl ?_
          refine ea_iconst (v := 1) (pc' := 53) dX4_takesNumber_52 (by decide) rfl ?_
          refine ea_iadd (pc' := 54) dX4_takesNumber_53 rfl ?_
          refine ea_puti (kf := 3) (pc' := 57) kok_18 hVl0 (by decide) rfl fl_X4_20 rfl rfl dX4_takesNumber_54 rfl ?_
          refine ea_tops (fun S7 hS7 => ?_)
          replace h := h S7 hS7
          refine ea_iconst (v := 1) (pc' := 58) dX4_takesNumber_57 (by decide) rfl ?_
          exact ea_zret rfl dX4_takesNumber_58 (by decide) ⟨_, rfl, h⟩
        · replace h := h.2 hc
          refine ea_iconst (v := 0) (pc' := 36) dX4_takesNumber_35 (by decide) rfl ?_
          exact ea_zret rfl dX4_takesNumber_36 (by decide) ⟨_, rfl, h⟩
theorem vm_X4_takesNumber {G : evG} {d : Nat} {q : Int32 → evS → Prop} {x0 : Nat} {l1 : Int32} {S : evS} (h : bk_X4_takesNumber_0 G d (evQI q) x0 l1 S) : evSp G yX4_takesNumber M_X4_takesNumber (d + 1) [.ref (evad G 18 x0), .int l1] S (evQI q) :=
  evSp.of (by decide +kernel) rfl (Nat.le_of_ble_eq_true rfl) h
abbrev bk_X4_least_0 (G : evG) (d : Nat) (Q : Option Value → evS → Prop) (x0 : Nat) (S : evS) : Prop := evAt G M_X4_least (evFm G d Q) 0 [(0, .ref (evad G 18 x0))] [] S
set_option maxRecDepth 100000 in
set_option maxHeartbeats 4000000 in
theorem vb_X4_least_0 {G : evG} {d : Nat} {q : Int32 → evS → Prop} (hCl : evCl G) {x0 : Nat} {S : evS} (hVl0 : (18, x0) ∈ evKs G)
    (h : ((¬ (S.1 18 x0 2) = 118 → ((¬ (S.1 18 x0 2) = 108 → ((¬ (S.1 18 x0 3) = 0 → (vp_in ((S.1 18 x0 3) - 1) 4 ∧ (∀ v2 : Int32, v2 = (S.1 20 0 (((S.1 18 x0 3) - 1).toNatClampNeg)) → ((¬ (S.1 18 x0 3) = 1 → (vp_in ((S.1 18 x0 3) - 2) 4 ∧ q ((v2 + v2) - (S.1 20 0 (((S.1 18 x0 3) - 2).toNatClampNeg))) S)) ∧ ((S.1 18 x0 3) = 1 → q v2 S))))) ∧ ((S.1 18 x0 3) = 0 → q 0 S))) ∧ ((S.1 18 x0 2) = 108 → ((¬ (S.1 18 x0 3) = 3 → (vp_in (S.1 18 x0 3) 4 ∧ q (evst 62 ((S.1 18 x0 3).toNatClampNeg)) S)) ∧ ((S.1 18 x0 3) = 3 → q (S.1 20 0 2) S))))) ∧ ((S.1 18 x0 2) = 118 → q 1 S))) : bk_X4_least_0 G d (evQI q) x0 S := by
  refine ea_aload_n (pc' := 1) (i := 0) dX4_least_0 rfl 0 rfl rfl ?_
  refine ea_geti (kf := 2) (pc' := 4) kok_18 hVl0 (by decide) rfl fl_X4_17 dX4_least_1 rfl ?_
  refine ea_bipush (v := 118) (pc' := 6) dX4_least_4 (by decide) rfl ?_
  refine ea_icmp_ne (tgt := 11) (pc' := 9) dX4_least_6 (by decide) rfl (fun hc => ?_) (fun hc => ?_)
  · replace h := h.1 hc
    refine ea_aload_n (pc' := 12) (i := 0) dX4_least_11 rfl 0 rfl rfl ?_
    refine ea_geti (kf := 2) (pc' := 15) kok_18 hVl0 (by decide) rfl fl_X4_17 dX4_least_12 rfl ?_
    refine ea_bipush (v := 108) (pc' := 17) dX4_least_15 (by decide) rfl ?_
    refine ea_icmp_ne (tgt := 46) (pc' := 20) dX4_least_17 (by decide) rfl (fun hc => ?_) (fun hc => ?_)
    · replace h := h.1 hc
      refine ea_aload_n (pc' := 47) (i := 0) dX4_least_46 rfl 0 rfl rfl ?_
      refine ea_geti (kf := 3) (pc' := 50) kok_18 hVl0 (by decide) rfl fl_X4_20 dX4_least_47 rfl ?_
      refine ea_if_ne (tgt := 55) (pc' := 53) dX4_least_50 (by decide) rfl (fun hc => ?_) (fun hc => ?_)
      · replace h := h.1 hc
        refine ea_aload_n (pc' := 56) (i := 0) dX4_least_55 rfl 0 rfl rfl ?_
        refine ea_getr (k2 := 20) (x2 := 0) (kf := 4) (pc' := 59) kok_18 hVl0 (by decide) rfl fl_X4_23 rfl dX4_least_56 rfl ?_
        refine ea_aload_n (pc' := 60) (i := 0) dX4_least_59 rfl 0 rfl rfl ?_
        refine ea_geti (kf := 3) (pc' := 63) kok_18 hVl0 (by decide) rfl fl_X4_20 dX4_least_60 rfl ?_
        refine ea_iconst (v := 1) (pc' := 64) dX4_least_63 (by decide) rfl ?_
        refine ea_isub (pc' := 65) dX4_least_64 rfl ?_
        obtain ⟨o1, h⟩ := h
        refine ea_iald (j := ((S.1 18 x0 3) - 1).toNatClampNeg) (pc' := 66) (hCl.1 18 x0 4 20 hVl0 rfl) rfl o1 dX4_least_65 rfl rfl ?_
        refine ea_topi (fun v2 hv2 => ?_)
        replace h := h v2 hv2
        refine ea_istore_n (lv' := [(1, .int v2), (0, .ref (evad G 18 x0))]) (pc' := 67) dX4_least_66 rfl (by decide) rfl rfl ?_
        refine ea_aload_n (pc' := 68) (i := 0) dX4_least_67 rfl 1 rfl rfl ?_
        refine ea_geti (kf := 3) (pc' := 71) kok_18 hVl0 (by decide) rfl fl_X4_20 dX4_least_68 rfl ?_
        refine ea_iconst (v := 1) (pc' := 72) dX4_least_71 (by decide) rfl ?_
        refine ea_icmp_ne (tgt := 79) (pc' := 75) dX4_least_72 (by decide) rfl (fun hc => ?_) (fun hc => ?_)
        · replace h := h.1 hc
          refine ea_iload_n (pc' := 80) (i := 1) dX4_least_79 rfl 0 rfl rfl ?_
          refine ea_iload_n (pc' := 81) (i := 1) dX4_least_80 rfl 0 rfl rfl ?_
          refine ea_iadd (pc' := 82) dX4_least_81 rfl ?_
          refine ea_aload_n (pc' := 83) (i := 0) dX4_least_82 rfl 1 rfl rfl ?_
          refine ea_getr (k2 := 20) (x2 := 0) (kf := 4) (pc' := 86) kok_18 hVl0 (by decide) rfl fl_X4_23 rfl dX4_least_83 rfl ?_
          refine ea_aload_n (pc' := 87) (i := 0) dX4_least_86 rfl 1 rfl rfl ?_
          refine ea_geti (kf := 3) (pc' := 90) kok_18 hVl0 (by decide) rfl fl_X4_20 dX4_least_87 rfl ?_
          refine ea_iconst (v := 2) (pc' := 91) dX4_least_90 (by decide) rfl ?_
          refine ea_isub (pc' := 92) dX4_least_91 rfl ?_
          obtain ⟨o3, h⟩ := h
          refine ea_iald (j := ((S.1 18 x0 3) - 2).toNatClampNeg) (pc' := 93) (hCl.1 18 x0 4 20 hVl0 rfl) rfl o3 dX4_least_92 rfl rfl ?_
          refine ea_isub (pc' := 94) dX4_least_93 rfl ?_
          exact ea_iret rfl dX4_least_94 ⟨_, rfl, h⟩
        · replace h := h.2 hc
          refine ea_iload_n (pc' := 76) (i := 1) dX4_least_75 rfl 0 rfl rfl ?_
          refine ea_goto (tgt := 94) dX4_least_76 (by decide) ?_
          exact ea_iret rfl dX4_least_94 ⟨_, rfl, h⟩
      · replace h := h.2 hc
        refine ea_iconst (v := 0) (pc' := 54) dX4_least_53 (by decide) rfl ?_
        exact ea_iret rfl dX4_least_54 ⟨_, rfl, h⟩
    · replace h := h.2 hc
      refine ea_aload_n (pc' := 21) (i := 0) dX4_least_20 rfl 0 rfl rfl ?_
      refine ea_geti (kf := 3) (pc' := 24) kok_18 hVl0 (by decide) rfl fl_X4_20 dX4_least_21 rfl ?_
      refine ea_iconst (v := 3) (pc' := 25) dX4_least_24 (by decide) rfl ?_
      refine ea_icmp_ne (tgt := 37) (pc' := 28) dX4_least_25 (by decide) rfl (fun hc => ?_) (fun hc => ?_)
      · replace h := h.1 hc
        refine ea_gs62 (pc' := 40) fs_X4_79 dX4_least_37 rfl ?_
        refine ea_aload_n (pc' := 41) (i := 0) dX4_least_40 rfl 0 rfl rfl ?_
        refine ea_geti (kf := 3) (pc' := 44) kok_18 hVl0 (by decide) rfl fl_X4_20 dX4_least_41 rfl ?_
        obtain ⟨o4, h⟩ := h
        refine ea_tl62 (j := (S.1 18 x0 3).toNatClampNeg) (pc' := 45) o4 dX4_least_44 rfl rfl ?_
        exact ea_iret rfl dX4_least_45 ⟨_, rfl, h⟩
      · replace h := h.2 hc
        refine ea_aload_n (pc' := 29) (i := 0) dX4_least_28 rfl 0 rfl rfl ?_
        refine ea_getr (k2 := 20) (x2 := 0) (kf := 4) (pc' := 32) kok_18 hVl0 (by decide) rfl fl_X4_23 rfl dX4_least_29 rfl ?_
        refine ea_iconst (v := 2) (pc' := 33) dX4_least_32 (by decide) rfl ?_
        refine ea_iald (j := 2) (pc' := 34) (hCl.1 18 x0 4 20 hVl0 rfl) rfl (by unfold vp_in; decide) dX4_least_33 (by decide) rfl ?_
        refine ea_goto (tgt := 45) dX4_least_34 (by decide) ?_
        exact ea_iret rfl dX4_least_45 ⟨_, rfl, h⟩
  · replace h := h.2 hc
    refine ea_iconst (v := 1) (pc' := 10) dX4_least_9 (by decide) rfl ?_
    exact ea_iret rfl dX4_least_10 ⟨_, rfl, h⟩
theorem vm_X4_least {G : evG} {d : Nat} {q : Int32 → evS → Prop} {x0 : Nat} {S : evS} (h : bk_X4_least_0 G d (evQI q) x0 S) : evSp G yX4_least M_X4_least d [.ref (evad G 18 x0)] S (evQI q) :=
  evSp.of (by decide +kernel) rfl (Nat.le_of_ble_eq_true rfl) h
abbrev bk_X4_greatest_0 (G : evG) (d : Nat) (Q : Option Value → evS → Prop) (x0 : Nat) (S : evS) : Prop := evAt G M_X4_greatest (evFm G d Q) 0 [(0, .ref (evad G 18 x0))] [] S
set_option maxRecDepth 100000 in
set_option maxHeartbeats 4000000 in
theorem vb_X4_greatest_0 {G : evG} {d : Nat} {q : Int32 → evS → Prop} (hCl : evCl G) {x0 : Nat} {S : evS} (hVl0 : (18, x0) ∈ evKs G)
    (h : ((¬ (S.1 18 x0 2) = 118 → ((¬ (S.1 18 x0 2) = 108 → q 999 S) ∧ ((S.1 18 x0 2) = 108 → (vp_in (S.1 18 x0 3) 4 ∧ q (evst 63 ((S.1 18 x0 3).toNatClampNeg)) S)))) ∧ ((S.1 18 x0 2) = 118 → q 60 S))) : bk_X4_greatest_0 G d (evQI q) x0 S := by
  refine ea_aload_n (pc' := 1) (i := 0) dX4_greatest_0 rfl 0 rfl rfl ?_
  refine ea_geti (kf := 2) (pc' := 4) kok_18 hVl0 (by decide) rfl fl_X4_17 dX4_greatest_1 rfl ?_
  refine ea_bipush (v := 118) (pc' := 6) dX4_greatest_4 (by decide) rfl ?_
  refine ea_icmp_ne (tgt := 12) (pc' := 9) dX4_greatest_6 (by decide) rfl (fun hc => ?_) (fun hc => ?_)
  · replace h := h.1 hc
    refine ea_aload_n (pc' := 13) (i := 0) dX4_greatest_12 rfl 0 rfl rfl ?_
    refine ea_geti (kf := 2) (pc' := 16) kok_18 hVl0 (by decide) rfl fl_X4_17 dX4_greatest_13 rfl ?_
    refine ea_bipush (v := 108) (pc' := 18) dX4_greatest_16 (by decide) rfl ?_
    refine ea_icmp_ne (tgt := 32) (pc' := 21) dX4_greatest_18 (by decide) rfl (fun hc => ?_) (fun hc => ?_)
    · replace h := h.1 hc
      refine ea_sipush (v := 999) (pc' := 35) dX4_greatest_32 (by decide) rfl ?_
      exact ea_iret rfl dX4_greatest_35 ⟨_, rfl, h⟩
    · replace h := h.2 hc
      refine ea_gs63 (pc' := 24) fs_X4_82 dX4_greatest_21 rfl ?_
      refine ea_aload_n (pc' := 25) (i := 0) dX4_greatest_24 rfl 0 rfl rfl ?_
      refine ea_geti (kf := 3) (pc' := 28) kok_18 hVl0 (by decide) rfl fl_X4_20 dX4_greatest_25 rfl ?_
      obtain ⟨o1, h⟩ := h
      refine ea_tl63 (j := (S.1 18 x0 3).toNatClampNeg) (pc' := 29) o1 dX4_greatest_28 rfl rfl ?_
      refine ea_goto (tgt := 35) dX4_greatest_29 (by decide) ?_
      exact ea_iret rfl dX4_greatest_35 ⟨_, rfl, h⟩
  · replace h := h.2 hc
    refine ea_bipush (v := 60) (pc' := 11) dX4_greatest_9 (by decide) rfl ?_
    exact ea_iret rfl dX4_greatest_11 ⟨_, rfl, h⟩
theorem vm_X4_greatest {G : evG} {d : Nat} {q : Int32 → evS → Prop} {x0 : Nat} {S : evS} (h : bk_X4_greatest_0 G d (evQI q) x0 S) : evSp G yX4_greatest M_X4_greatest d [.ref (evad G 18 x0)] S (evQI q) :=
  evSp.of (by decide +kernel) rfl (Nat.le_of_ble_eq_true rfl) h
abbrev bk_X4_endItem_0 (G : evG) (d : Nat) (Q : Option Value → evS → Prop) (x0 : Nat) (x1 : Nat) (S : evS) : Prop := evAt G M_X4_endItem (evFm G (d + 1) Q) 0 [(0, .ref (evad G 18 x0)), (1, .ref (evad G 3 x1))] [] S
abbrev bk_X4_endItem_17 (G : evG) (d : Nat) (Q : Option Value → evS → Prop) (x0 : Nat) (x1 : Nat) (l2 : Int32) (l3 : Int32) (S : evS) : Prop := evAt G M_X4_endItem (evFm G (d + 1) Q) 17 [(0, .ref (evad G 18 x0)), (1, .ref (evad G 3 x1)), (2, .int l2), (3, .int l3)] [] S
abbrev bk_X4_endItem_81 (G : evG) (d : Nat) (Q : Option Value → evS → Prop) (x0 : Nat) (x1 : Nat) (l2 : Int32) (S : evS) : Prop := evAt G M_X4_endItem (evFm G (d + 1) Q) 81 [(0, .ref (evad G 18 x0)), (1, .ref (evad G 3 x1)), (2, .int l2)] [] S
abbrev bk_X4_endItem_110 (G : evG) (d : Nat) (Q : Option Value → evS → Prop) (x0 : Nat) (S : evS) : Prop := evAt G M_X4_endItem (evFm G (d + 1) Q) 110 [(0, .ref (evad G 18 x0))] [] S
set_option maxRecDepth 100000 in
set_option maxHeartbeats 4000000 in
theorem vb_X4_endItem_0 {G : evG} {d : Nat} {q : evS → Prop} (hCl : evCl G) {x0 : Nat} {x1 : Nat} {S : evS} (hVl0 : (18, x0) ∈ evKs G) (hVl1 : (3, x1) ∈ evKs G)
    (h : ((¬ (S.1 18 x0 2) = 108 → ((¬ (S.1 18 x0 2) = 118 → bk_X4_endItem_81 G d (evQV q) x0 x1 0 S) ∧ ((S.1 18 x0 2) = 118 → (evSp G yX3_setTrait M_X3_setTrait d [.ref (evad G 3 x1), .int 1, .int (S.1 20 0 0)] S (evQV fun S1 => (∀ S2 : evS, S2 = evup S1 18 x0 6 1 → bk_X4_endItem_110 G d (evQV q) x0 S2)))))) ∧ ((S.1 18 x0 2) = 108 → (evSp G yX3_trait M_X3_trait d [.ref (evad G 3 x1), .int 0] S (evQI fun r3 S4 => bk_X4_endItem_17 G d (evQV q) x0 x1 r3 0 S4))))) : bk_X4_endItem_0 G d (evQV q) x0 x1 S := by
  refine ea_aload_n (pc' := 1) (i := 0) dX4_endItem_0 rfl 0 rfl rfl ?_
  refine ea_geti (kf := 2) (pc' := 4) kok_18 hVl0 (by decide) rfl fl_X4_17 dX4_endItem_1 rfl ?_
  refine ea_bipush (v := 108) (pc' := 6) dX4_endItem_4 (by decide) rfl ?_
  refine ea_icmp_ne (tgt := 51) (pc' := 9) dX4_endItem_6 (by decide) rfl (fun hc => ?_) (fun hc => ?_)
  · replace h := h.1 hc
    refine ea_aload_n (pc' := 52) (i := 0) dX4_endItem_51 rfl 0 rfl rfl ?_
    refine ea_geti (kf := 2) (pc' := 55) kok_18 hVl0 (by decide) rfl fl_X4_17 dX4_endItem_52 rfl ?_
    refine ea_bipush (v := 118) (pc' := 57) dX4_endItem_55 (by decide) rfl ?_
    refine ea_icmp_ne (tgt := 79) (pc' := 60) dX4_endItem_57 (by decide) rfl (fun hc => ?_) (fun hc => ?_)
    · replace h := h.1 hc
      refine ea_iconst (v := 0) (pc' := 80) dX4_endItem_79 (by decide) rfl ?_
      refine ea_istore_n (lv' := [(2, .int 0), (0, .ref (evad G 18 x0)), (1, .ref (evad G 3 x1))]) (pc' := 81) dX4_endItem_80 rfl (by decide) rfl rfl ?_
      refine ea_loc [1, 2, 0] rfl ?_
      exact h
    · replace h := h.2 hc
      refine ea_aload_n (pc' := 61) (i := 1) dX4_endItem_60 rfl 1 rfl rfl ?_
      refine ea_iconst (v := 1) (pc' := 62) dX4_endItem_61 (by decide) rfl ?_
      refine ea_aload_n (pc' := 63) (i := 0) dX4_endItem_62 rfl 0 rfl rfl ?_
      refine ea_getr (k2 := 20) (x2 := 0) (kf := 4) (pc' := 66) kok_18 hVl0 (by decide) rfl fl_X4_23 rfl dX4_endItem_63 rfl ?_
      refine ea_iconst (v := 0) (pc' := 67) dX4_endItem_66 (by decide) rfl ?_
      refine ea_iald (j := 0) (pc' := 68) (hCl.1 18 x0 4 20 hVl0 rfl) rfl (by unfold vp_in; decide) dX4_endItem_67 (by decide) rfl ?_
      refine ea_cvv (As := [.int 1, .int (S.1 20 0 0)]) (st := []) (d := d) (pc' := 71) mv_X3_setTrait ml_X4_89 kok_3 hVl1 rfl rfl dX4_endItem_68 rfl (Nat.le_of_ble_eq_true rfl) (ev_room (by decide)) ⟨Nat.le_refl _, Nat.le_refl _⟩ h rfl (fun S1 h => ?_)
      refine ea_aload_n (pc' := 72) (i := 0) dX4_endItem_71 rfl 0 rfl rfl ?_
      refine ea_iconst (v := 1) (pc' := 73) dX4_endItem_72 (by decide) rfl ?_
      refine ea_putz (kf := 6) (pc' := 76) kok_18 hVl0 (by decide) rfl fl_X4_29 rfl rfl (by decide) dX4_endItem_73 rfl ?_
      refine ea_tops (fun S2 hS2 => ?_)
      replace h := h S2 hS2
      refine ea_goto (tgt := 110) dX4_endItem_76 (by decide) ?_
      refine ea_loc [0] rfl ?_
      exact h
  · replace h := h.2 hc
    refine ea_aload_n (pc' := 10) (i := 1) dX4_endItem_9 rfl 1 rfl rfl ?_
    refine ea_iconst (v := 0) (pc' := 11) dX4_endItem_10 (by decide) rfl ?_
    refine ea_cvi (As := [.int 0]) (st := []) (d := d) (pc' := 14) mv_X3_trait ml_X4_70 kok_3 hVl1 rfl rfl dX4_endItem_11 rfl (Nat.le_of_ble_eq_true rfl) (ev_room (by decide)) ⟨Nat.le_refl _, Nat.le_refl _⟩ h rfl (fun r3 S4 h => ?_)
    refine ea_istore_n (lv' := [(2, .int r3), (0, .ref (evad G 18 x0)), (1, .ref (evad G 3 x1))]) (pc' := 15) dX4_endItem_14 rfl (by decide) rfl rfl ?_
    refine ea_iconst (v := 0) (pc' := 16) dX4_endItem_15 (by decide) rfl ?_
    refine ea_istore_n (lv' := [(3, .int 0), (2, .int r3), (0, .ref (evad G 18 x0)), (1, .ref (evad G 3 x1))]) (pc' := 17) dX4_endItem_16 rfl (by decide) rfl rfl ?_
    refine ea_loc [2, 3, 1, 0] rfl ?_
    exact h
set_option maxRecDepth 100000 in
set_option maxHeartbeats 4000000 in
theorem vb_X4_endItem_17 {G : evG} {d : Nat} {q : evS → Prop} (hCl : evCl G) {x0 : Nat} {x1 : Nat} {l2 : Int32} {l3 : Int32} {S : evS} (hVl0 : (18, x0) ∈ evKs G) (hVl1 : (3, x1) ∈ evKs G)
    (h : ((4 ≤ l3 → (evSp G yX3_setTrait M_X3_setTrait d [.ref (evad G 3 x1), .int 0, .int (l2 + 1)] S (evQV fun S1 => bk_X4_endItem_110 G d (evQV q) x0 S1))) ∧ (¬ 4 ≤ l3 → (vp_in l3 4 ∧ (evSp G yX3_setOfLeg M_X3_setOfLeg d [.ref (evad G 3 x1), .int l2, .int l3, .int (S.1 20 0 l3.toNatClampNeg)] S (evQV fun S3 => (∀ v4 : Int32, v4 = (l3 + 1) → bk_X4_endItem_17 G d (evQV q) x0 x1 l2 v4 S3))))))) : bk_X4_endItem_17 G d (evQV q) x0 x1 l2 l3 S := by
  refine ea_iload_n (pc' := 18) (i := 3) dX4_endItem_17 rfl 3 rfl rfl ?_
  refine ea_iconst (v := 4) (pc' := 19) dX4_endItem_18 (by decide) rfl ?_
  refine ea_icmp_ge (tgt := 40) (pc' := 22) dX4_endItem_19 (by decide) rfl (fun hc => ?_) (fun hc => ?_)
  · replace h := h.1 hc
    refine ea_aload_n (pc' := 41) (i := 1) dX4_endItem_40 rfl 1 rfl rfl ?_
    refine ea_iconst (v := 0) (pc' := 42) dX4_endItem_41 (by decide) rfl ?_
    refine ea_iload_n (pc' := 43) (i := 2) dX4_endItem_42 rfl 2 rfl rfl ?_
    refine ea_iconst (v := 1) (pc' := 44) dX4_endItem_43 (by decide) rfl ?_
    refine ea_iadd (pc' := 45) dX4_endItem_44 rfl ?_
    refine ea_cvv (As := [.int 0, .int (l2 + 1)]) (st := []) (d := d) (pc' := 48) mv_X3_setTrait ml_X4_89 kok_3 hVl1 rfl rfl dX4_endItem_45 rfl (Nat.le_of_ble_eq_true rfl) (ev_room (by decide)) ⟨Nat.le_refl _, Nat.le_refl _⟩ h rfl (fun S1 h => ?_)
    refine ea_goto (tgt := 110) dX4_endItem_48 (by decide) ?_
    refine ea_loc [0] rfl ?_
    exact h
  · replace h := h.2 hc
    refine ea_aload_n (pc' := 23) (i := 1) dX4_endItem_22 rfl 1 rfl rfl ?_
    refine ea_iload_n (pc' := 24) (i := 2) dX4_endItem_23 rfl 2 rfl rfl ?_
    refine ea_iload_n (pc' := 25) (i := 3) dX4_endItem_24 rfl 3 rfl rfl ?_
    refine ea_aload_n (pc' := 26) (i := 0) dX4_endItem_25 rfl 0 rfl rfl ?_
    refine ea_getr (k2 := 20) (x2 := 0) (kf := 4) (pc' := 29) kok_18 hVl0 (by decide) rfl fl_X4_23 rfl dX4_endItem_26 rfl ?_
    refine ea_iload_n (pc' := 30) (i := 3) dX4_endItem_29 rfl 3 rfl rfl ?_
    obtain ⟨o2, h⟩ := h
    refine ea_iald (j := l3.toNatClampNeg) (pc' := 31) (hCl.1 18 x0 4 20 hVl0 rfl) rfl o2 dX4_endItem_30 rfl rfl ?_
    refine ea_cvv (As := [.int l2, .int l3, .int (S.1 20 0 l3.toNatClampNeg)]) (st := []) (d := d) (pc' := 34) mv_X3_setOfLeg ml_X4_85 kok_3 hVl1 rfl rfl dX4_endItem_31 rfl (Nat.le_of_ble_eq_true rfl) (ev_room (by decide)) ⟨Nat.le_refl _, Nat.le_refl _⟩ h rfl (fun S3 h => ?_)
    obtain ⟨v4, hv4⟩ : ∃ z : Int32, z = (l3 + 1) := ⟨_, rfl⟩
    replace h := h v4 hv4
    refine ea_iinc (q := 3) (v := v4) (lv' := [(3, .int v4), (0, .ref (evad G 18 x0)), (1, .ref (evad G 3 x1)), (2, .int l2)]) (pc' := 37) dX4_endItem_34 rfl (by rw [hv4]; rfl) (by decide) rfl rfl ?_
    refine ea_goto (tgt := 17) dX4_endItem_37 (by decide) ?_
    refine ea_loc [1, 2, 3, 0] rfl ?_
    exact h
set_option maxRecDepth 100000 in
set_option maxHeartbeats 4000000 in
theorem vb_X4_endItem_81 {G : evG} {d : Nat} {q : evS → Prop} (hCl : evCl G) {x0 : Nat} {x1 : Nat} {l2 : Int32} {S : evS} (hVl0 : (18, x0) ∈ evKs G) (hVl1 : (3, x1) ∈ evKs G)
    (h : ((4 ≤ l2 → (∀ S1 : evS, S1 = evup S 18 x0 7 1 → bk_X4_endItem_110 G d (evQV q) x0 S1)) ∧ (¬ 4 ≤ l2 → (vp_in l2 4 ∧ (evSp G yX3_setTrait M_X3_setTrait d [.ref (evad G 3 x1), .int (5 + l2), .int (S.1 20 0 l2.toNatClampNeg)] S (evQV fun S3 => (∀ v4 : Int32, v4 = (l2 + 1) → bk_X4_endItem_81 G d (evQV q) x0 x1 v4 S3))))))) : bk_X4_endItem_81 G d (evQV q) x0 x1 l2 S := by
  refine ea_iload_n (pc' := 82) (i := 2) dX4_endItem_81 rfl 2 rfl rfl ?_
  refine ea_iconst (v := 4) (pc' := 83) dX4_endItem_82 (by decide) rfl ?_
  refine ea_icmp_ge (tgt := 105) (pc' := 86) dX4_endItem_83 (by decide) rfl (fun hc => ?_) (fun hc => ?_)
  · replace h := h.1 hc
    refine ea_aload_n (pc' := 106) (i := 0) dX4_endItem_105 rfl 0 rfl rfl ?_
    refine ea_iconst (v := 1) (pc' := 107) dX4_endItem_106 (by decide) rfl ?_
    refine ea_putz (kf := 7) (pc' := 110) kok_18 hVl0 (by decide) rfl fl_X4_33 rfl rfl (by decide) dX4_endItem_107 rfl ?_
    refine ea_tops (fun S1 hS1 => ?_)
    replace h := h S1 hS1
    refine ea_loc [0] rfl ?_
    exact h
  · replace h := h.2 hc
    refine ea_aload_n (pc' := 87) (i := 1) dX4_endItem_86 rfl 1 rfl rfl ?_
    refine ea_iconst (v := 5) (pc' := 88) dX4_endItem_87 (by decide) rfl ?_
    refine ea_iload_n (pc' := 89) (i := 2) dX4_endItem_88 rfl 2 rfl rfl ?_
    refine ea_iadd (pc' := 90) dX4_endItem_89 rfl ?_
    refine ea_aload_n (pc' := 91) (i := 0) dX4_endItem_90 rfl 0 rfl rfl ?_
    refine ea_getr (k2 := 20) (x2 := 0) (kf := 4) (pc' := 94) kok_18 hVl0 (by decide) rfl fl_X4_23 rfl dX4_endItem_91 rfl ?_
    refine ea_iload_n (pc' := 95) (i := 2) dX4_endItem_94 rfl 2 rfl rfl ?_
    obtain ⟨o2, h⟩ := h
    refine ea_iald (j := l2.toNatClampNeg) (pc' := 96) (hCl.1 18 x0 4 20 hVl0 rfl) rfl o2 dX4_endItem_95 rfl rfl ?_
    refine ea_cvv (As := [.int (5 + l2), .int (S.1 20 0 l2.toNatClampNeg)]) (st := []) (d := d) (pc' := 99) mv_X3_setTrait ml_X4_89 kok_3 hVl1 rfl rfl dX4_endItem_96 rfl (Nat.le_of_ble_eq_true rfl) (ev_room (by decide)) ⟨Nat.le_refl _, Nat.le_refl _⟩ h rfl (fun S3 h => ?_)
    obtain ⟨v4, hv4⟩ : ∃ z : Int32, z = (l2 + 1) := ⟨_, rfl⟩
    replace h := h v4 hv4
    refine ea_iinc (q := 2) (v := v4) (lv' := [(2, .int v4), (0, .ref (evad G 18 x0)), (1, .ref (evad G 3 x1))]) (pc' := 102) dX4_endItem_99 rfl (by rw [hv4]; rfl) (by decide) rfl rfl ?_
    refine ea_goto (tgt := 81) dX4_endItem_102 (by decide) ?_
    refine ea_loc [1, 2, 0] rfl ?_
    exact h
set_option maxRecDepth 100000 in
set_option maxHeartbeats 4000000 in
theorem vb_X4_endItem_110 {G : evG} {d : Nat} {q : evS → Prop} (hCl : evCl G) {x0 : Nat} {S : evS} (hVl0 : (18, x0) ∈ evKs G)
    (h : (∀ S1 : evS, S1 = evup S 18 x0 2 0 → (∀ S2 : evS, S2 = evup S1 18 x0 5 ((S1.1 18 x0 5) + 1) → q S2))) : bk_X4_endItem_110 G d (evQV q) x0 S := by
  refine ea_aload_n (pc' := 111) (i := 0) dX4_endItem_110 rfl 0 rfl rfl ?_
  refine ea_iconst (v := 0) (pc' := 112) dX4_endItem_111 (by decide) rfl ?_
  refine ea_puti (kf := 2) (pc' := 115) kok_18 hVl0 (by decide) rfl fl_X4_17 rfl rfl dX4_endItem_112 rfl ?_
  refine ea_tops (fun S1 hS1 => ?_)
  replace h := h S1 hS1
  refine ea_aload_n (pc' := 116) (i := 0) dX4_endItem_115 rfl 0 rfl rfl ?_
  refine ea_dup (pc' := 117) dX4_endItem_116 rfl rfl ?_
  refine ea_geti (kf := 5) (pc' := 120) kok_18 hVl0 (by decide) rfl fl_X4_26 dX4_endItem_117 rfl ?_
  refine ea_iconst (v := 1) (pc' := 121) dX4_endItem_120 (by decide) rfl ?_
  refine ea_iadd (pc' := 122) dX4_endItem_121 rfl ?_
  refine ea_puti (kf := 5) (pc' := 125) kok_18 hVl0 (by decide) rfl fl_X4_26 rfl rfl dX4_endItem_122 rfl ?_
  refine ea_tops (fun S2 hS2 => ?_)
  replace h := h S2 hS2
  exact ea_vret rfl dX4_endItem_125 ⟨rfl, h⟩
theorem vm_X4_endItem {G : evG} {d : Nat} {q : evS → Prop} {x0 : Nat} {x1 : Nat} {S : evS} (h : bk_X4_endItem_0 G d (evQV q) x0 x1 S) : evSp G yX4_endItem M_X4_endItem (d + 1) [.ref (evad G 18 x0), .ref (evad G 3 x1)] S (evQV q) :=
  evSp.of (by decide +kernel) rfl (Nat.le_of_ble_eq_true rfl) h
