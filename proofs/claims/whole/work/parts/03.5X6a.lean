abbrev bk_X6_begins_0 (G : evG) (d : Nat) (Q : Option Value → evS → Prop) (k0 : Nat) (x0 : Nat) (l1 : Int32) (S : evS) : Prop := evAt G M_X6_begins (evFm G d Q) 0 [(0, .ref (evad G k0 x0)), (1, .int l1)] [] S
abbrev bk_X6_begins_2 (G : evG) (d : Nat) (Q : Option Value → evS → Prop) (k0 : Nat) (x0 : Nat) (l1 : Int32) (l2 : Int32) (S : evS) : Prop := evAt G M_X6_begins (evFm G d Q) 2 [(0, .ref (evad G k0 x0)), (1, .int l1), (2, .int l2)] [] S
set_option maxRecDepth 100000 in
set_option maxHeartbeats 4000000 in
theorem vb_X6_begins_0 {G : evG} {d : Nat} {q : evS → Prop} (hCl : evCl G) {k0 : Nat} {x0 : Nat} {l1 : Int32} {S : evS} (hTl0 : evT k0 = 1) (hVl0 : (k0, x0) ∈ evKs G)
    (h : bk_X6_begins_2 G d (evQV q) k0 x0 l1 0 S) : bk_X6_begins_0 G d (evQV q) k0 x0 l1 S := by
  refine ea_iconst (v := 0) (pc' := 1) dX6_begins_0 (by decide) rfl ?_
  refine ea_istore_n (lv' := [(2, .int 0), (0, .ref (evad G k0 x0)), (1, .int l1)]) (pc' := 2) dX6_begins_1 rfl (by decide) rfl rfl ?_
  refine ea_loc [1, 2, 0] rfl ?_
  exact h
set_option maxRecDepth 100000 in
set_option maxHeartbeats 4000000 in
theorem vb_X6_begins_2 {G : evG} {d : Nat} {q : evS → Prop} (hCl : evCl G) {k0 : Nat} {x0 : Nat} {l1 : Int32} {l2 : Int32} {S : evS} (hTl0 : evT k0 = 1) (hVl0 : (k0, x0) ∈ evKs G)
    (h : ((33 ≤ l2 → (vp_in (l1 + 1) (evN k0) ∧ (∀ S2 : evS, S2 = evup S k0 x0 ((l1 + 1).toNatClampNeg) 20 → (vp_in (l1 + 5) (evN k0) ∧ (∀ S4 : evS, S4 = evup S2 k0 x0 ((l1 + 5).toNatClampNeg) 1 → (vp_in ((l1 + 5) + 1) (evN k0) ∧ (∀ S6 : evS, S6 = evup S4 k0 x0 (((l1 + 5) + 1).toNatClampNeg) 2 → (vp_in ((l1 + 5) + 2) (evN k0) ∧ (∀ S8 : evS, S8 = evup S6 k0 x0 (((l1 + 5) + 2).toNatClampNeg) 4 → (vp_in ((l1 + 5) + 3) (evN k0) ∧ (∀ S10 : evS, S10 = evup S8 k0 x0 (((l1 + 5) + 3).toNatClampNeg) 8 → q S10))))))))))) ∧ (¬ 33 ≤ l2 → (vp_in (l1 + l2) (evN k0) ∧ (∀ S12 : evS, S12 = evup S k0 x0 ((l1 + l2).toNatClampNeg) 0 → (∀ v13 : Int32, v13 = (l2 + 1) → bk_X6_begins_2 G d (evQV q) k0 x0 l1 v13 S12)))))) : bk_X6_begins_2 G d (evQV q) k0 x0 l1 l2 S := by
  refine ea_iload_n (pc' := 3) (i := 2) dX6_begins_2 rfl 2 rfl rfl ?_
  refine ea_bipush (v := 33) (pc' := 5) dX6_begins_3 (by decide) rfl ?_
  refine ea_icmp_ge (tgt := 20) (pc' := 8) dX6_begins_5 (by decide) rfl (fun hc => ?_) (fun hc => ?_)
  · replace h := h.1 hc
    refine ea_aload_n (pc' := 21) (i := 0) dX6_begins_20 rfl 0 rfl rfl ?_
    refine ea_iload_n (pc' := 22) (i := 1) dX6_begins_21 rfl 1 rfl rfl ?_
    refine ea_iconst (v := 1) (pc' := 23) dX6_begins_22 (by decide) rfl ?_
    refine ea_iadd (pc' := 24) dX6_begins_23 rfl ?_
    refine ea_bipush (v := 20) (pc' := 26) dX6_begins_24 (by decide) rfl ?_
    obtain ⟨o1, h⟩ := h
    refine ea_iast (j := (l1 + 1).toNatClampNeg) (pc' := 27) hVl0 hTl0 o1 dX6_begins_26 rfl rfl ?_
    refine ea_tops (fun S2 hS2 => ?_)
    replace h := h S2 hS2
    refine ea_aload_n (pc' := 28) (i := 0) dX6_begins_27 rfl 0 rfl rfl ?_
    refine ea_iload_n (pc' := 29) (i := 1) dX6_begins_28 rfl 1 rfl rfl ?_
    refine ea_iconst (v := 5) (pc' := 30) dX6_begins_29 (by decide) rfl ?_
    refine ea_iadd (pc' := 31) dX6_begins_30 rfl ?_
    refine ea_iconst (v := 1) (pc' := 32) dX6_begins_31 (by decide) rfl ?_
    obtain ⟨o3, h⟩ := h
    refine ea_iast (j := (l1 + 5).toNatClampNeg) (pc' := 33) hVl0 hTl0 o3 dX6_begins_32 rfl rfl ?_
    refine ea_tops (fun S4 hS4 => ?_)
    replace h := h S4 hS4
    refine ea_aload_n (pc' := 34) (i := 0) dX6_begins_33 rfl 0 rfl rfl ?_
    refine ea_iload_n (pc' := 35) (i := 1) dX6_begins_34 rfl 1 rfl rfl ?_
    refine ea_iconst (v := 5) (pc' := 36) dX6_begins_35 (by decide) rfl ?_
    refine ea_iadd (pc' := 37) dX6_begins_36 rfl ?_
    refine ea_iconst (v := 1) (pc' := 38) dX6_begins_37 (by decide) rfl ?_
    refine ea_iadd (pc' := 39) dX6_begins_38 rfl ?_
    refine ea_iconst (v := 2) (pc' := 40) dX6_begins_39 (by decide) rfl ?_
    obtain ⟨o5, h⟩ := h
    refine ea_iast (j := ((l1 + 5) + 1).toNatClampNeg) (pc' := 41) hVl0 hTl0 o5 dX6_begins_40 rfl rfl ?_
    refine ea_tops (fun S6 hS6 => ?_)
    replace h := h S6 hS6
    refine ea_aload_n (pc' := 42) (i := 0) dX6_begins_41 rfl 0 rfl rfl ?_
    refine ea_iload_n (pc' := 43) (i := 1) dX6_begins_42 rfl 1 rfl rfl ?_
    refine ea_iconst (v := 5) (pc' := 44) dX6_begins_43 (by decide) rfl ?_
    refine ea_iadd (pc' := 45) dX6_begins_44 rfl ?_
    refine ea_iconst (v := 2) (pc' := 46) dX6_begins_45 (by decide) rfl ?_
    refine ea_iadd (pc' := 47) dX6_begins_46 rfl ?_
    refine ea_iconst (v := 4) (pc' := 48) dX6_begins_47 (by decide) rfl ?_
    obtain ⟨o7, h⟩ := h
    refine ea_iast (j := ((l1 + 5) + 2).toNatClampNeg) (pc' := 49) hVl0 hTl0 o7 dX6_begins_48 rfl rfl ?_
    refine ea_tops (fun S8 hS8 => ?_)
    replace h := h S8 hS8
    refine ea_aload_n (pc' := 50) (i := 0) dX6_begins_49 rfl 0 rfl rfl ?_
    refine ea_iload_n (pc' := 51) (i := 1) dX6_begins_50 rfl 1 rfl rfl ?_
    refine ea_iconst (v := 5) (pc' := 52) dX6_begins_51 (by decide) rfl ?_
    refine ea_iadd (pc' := 53) dX6_begins_52 rfl ?_
    refine ea_iconst (v := 3) (pc' := 54) dX6_begins_53 (by decide) rfl ?_
    refine ea_iadd (pc' := 55) dX6_begins_54 rfl ?_
    refine ea_bipush (v := 8) (pc' := 57) dX6_begins_55 (by decide) rfl ?_
    obtain ⟨o9, h⟩ := h
    refine ea_iast (j := ((l1 + 5) + 3).toNatClampNeg) (pc' := 58) hVl0 hTl0 o9 dX6_begins_57 rfl rfl ?_
    refine ea_tops (fun S10 hS10 => ?_)
    replace h := h S10 hS10
    exact ea_vret rfl dX6_begins_58 ⟨rfl, h⟩
  · replace h := h.2 hc
    refine ea_aload_n (pc' := 9) (i := 0) dX6_begins_8 rfl 0 rfl rfl ?_
    refine ea_iload_n (pc' := 10) (i := 1) dX6_begins_9 rfl 1 rfl rfl ?_
    refine ea_iload_n (pc' := 11) (i := 2) dX6_begins_10 rfl 2 rfl rfl ?_
    refine ea_iadd (pc' := 12) dX6_begins_11 rfl ?_
    refine ea_iconst (v := 0) (pc' := 13) dX6_begins_12 (by decide) rfl ?_
    obtain ⟨o11, h⟩ := h
    refine ea_iast (j := (l1 + l2).toNatClampNeg) (pc' := 14) hVl0 hTl0 o11 dX6_begins_13 rfl rfl ?_
    refine ea_tops (fun S12 hS12 => ?_)
    replace h := h S12 hS12
    obtain ⟨v13, hv13⟩ : ∃ z : Int32, z = (l2 + 1) := ⟨_, rfl⟩
    replace h := h v13 hv13
    refine ea_iinc (q := 2) (v := v13) (lv' := [(2, .int v13), (0, .ref (evad G k0 x0)), (1, .int l1)]) (pc' := 17) dX6_begins_14 rfl (by rw [hv13]; rfl) (by decide) rfl rfl ?_
    refine ea_goto (tgt := 2) dX6_begins_17 (by decide) ?_
    refine ea_loc [1, 2, 0] rfl ?_
    exact h
theorem vm_X6_begins {G : evG} {d : Nat} {q : evS → Prop} {k0 : Nat} {x0 : Nat} {l1 : Int32} {S : evS} (h : bk_X6_begins_0 G d (evQV q) k0 x0 l1 S) : evSp G yX6_begins M_X6_begins d [.ref (evad G k0 x0), .int l1] S (evQV q) :=
  evSp.of (by decide +kernel) rfl (Nat.le_of_ble_eq_true rfl) h
abbrev bk_X6_undo_0 (G : evG) (d : Nat) (Q : Option Value → evS → Prop) (x0 : Nat) (S : evS) : Prop := evAt G M_X6_undo (evFm G d Q) 0 [(0, .ref (evad G 30 x0))] [] S
abbrev bk_X6_undo_22 (G : evG) (d : Nat) (Q : Option Value → evS → Prop) (x0 : Nat) (l1 : Int32) (S : evS) : Prop := evAt G M_X6_undo (evFm G d Q) 22 [(0, .ref (evad G 30 x0)), (1, .int l1)] [] S
set_option maxRecDepth 100000 in
set_option maxHeartbeats 4000000 in
theorem vb_X6_undo_0 {G : evG} {d : Nat} {q : Int32 → evS → Prop} (hCl : evCl G) {x0 : Nat} {S : evS} (hVl0 : (30, x0) ∈ evKs G)
    (h : ((¬ (S.1 30 x0 2) = 0 → (∀ S1 : evS, S1 = evup S 30 x0 2 ((S.1 30 x0 2) - 1) → bk_X6_undo_22 G d (evQI q) x0 0 S1)) ∧ ((S.1 30 x0 2) = 0 → q (-2) S))) : bk_X6_undo_0 G d (evQI q) x0 S := by
  refine ea_aload_n (pc' := 1) (i := 0) dX6_undo_0 rfl 0 rfl rfl ?_
  refine ea_geti (kf := 2) (pc' := 4) kok_30 hVl0 (by decide) rfl fl_X6_58 dX6_undo_1 rfl ?_
  refine ea_if_ne (tgt := 10) (pc' := 7) dX6_undo_4 (by decide) rfl (fun hc => ?_) (fun hc => ?_)
  · replace h := h.1 hc
    refine ea_aload_n (pc' := 11) (i := 0) dX6_undo_10 rfl 0 rfl rfl ?_
    refine ea_dup (pc' := 12) dX6_undo_11 rfl rfl ?_
    refine ea_geti (kf := 2) (pc' := 15) kok_30 hVl0 (by decide) rfl fl_X6_58 dX6_undo_12 rfl ?_
    refine ea_iconst (v := 1) (pc' := 16) dX6_undo_15 (by decide) rfl ?_
    refine ea_isub (pc' := 17) dX6_undo_16 rfl ?_
    refine ea_puti (kf := 2) (pc' := 20) kok_30 hVl0 (by decide) rfl fl_X6_58 rfl rfl dX6_undo_17 rfl ?_
    refine ea_tops (fun S1 hS1 => ?_)
    replace h := h S1 hS1
    refine ea_iconst (v := 0) (pc' := 21) dX6_undo_20 (by decide) rfl ?_
    refine ea_istore_n (lv' := [(1, .int 0), (0, .ref (evad G 30 x0))]) (pc' := 22) dX6_undo_21 rfl (by decide) rfl rfl ?_
    refine ea_loc [1, 0] rfl ?_
    exact h
  · replace h := h.2 hc
    refine ea_bipush (v := (-2)) (pc' := 9) dX6_undo_7 (by decide) rfl ?_
    exact ea_iret rfl dX6_undo_9 ⟨_, rfl, h⟩
set_option maxRecDepth 100000 in
set_option maxHeartbeats 4000000 in
theorem vb_X6_undo_22 {G : evG} {d : Nat} {q : Int32 → evS → Prop} (hCl : evCl G) {x0 : Nat} {l1 : Int32} {S : evS} (hVl0 : (30, x0) ∈ evKs G)
    (h : ((132 ≤ l1 → q (S.1 30 x0 2) S) ∧ (¬ 132 ≤ l1 → (vp_in ((132 * (S.1 30 x0 2)) + l1) 792 ∧ (vp_in l1 132 ∧ (∀ S3 : evS, S3 = evup S 31 0 l1.toNatClampNeg (S.1 32 0 (((132 * (S.1 30 x0 2)) + l1).toNatClampNeg)) → (∀ v4 : Int32, v4 = (l1 + 1) → bk_X6_undo_22 G d (evQI q) x0 v4 S3))))))) : bk_X6_undo_22 G d (evQI q) x0 l1 S := by
  refine ea_iload_n (pc' := 23) (i := 1) dX6_undo_22 rfl 1 rfl rfl ?_
  refine ea_sipush (v := 132) (pc' := 26) dX6_undo_23 (by decide) rfl ?_
  refine ea_icmp_ge (tgt := 56) (pc' := 29) dX6_undo_26 (by decide) rfl (fun hc => ?_) (fun hc => ?_)
  · replace h := h.1 hc
    refine ea_aload_n (pc' := 57) (i := 0) dX6_undo_56 rfl 0 rfl rfl ?_
    refine ea_geti (kf := 2) (pc' := 60) kok_30 hVl0 (by decide) rfl fl_X6_58 dX6_undo_57 rfl ?_
    exact ea_iret rfl dX6_undo_60 ⟨_, rfl, h⟩
  · replace h := h.2 hc
    refine ea_aload_n (pc' := 30) (i := 0) dX6_undo_29 rfl 0 rfl rfl ?_
    refine ea_getr (k2 := 31) (x2 := 0) (kf := 0) (pc' := 33) kok_30 hVl0 (by decide) rfl fl_X6_7 rfl dX6_undo_30 rfl ?_
    refine ea_iload_n (pc' := 34) (i := 1) dX6_undo_33 rfl 1 rfl rfl ?_
    refine ea_aload_n (pc' := 35) (i := 0) dX6_undo_34 rfl 0 rfl rfl ?_
    refine ea_getr (k2 := 32) (x2 := 0) (kf := 1) (pc' := 38) kok_30 hVl0 (by decide) rfl fl_X6_13 rfl dX6_undo_35 rfl ?_
    refine ea_sipush (v := 132) (pc' := 41) dX6_undo_38 (by decide) rfl ?_
    refine ea_aload_n (pc' := 42) (i := 0) dX6_undo_41 rfl 0 rfl rfl ?_
    refine ea_geti (kf := 2) (pc' := 45) kok_30 hVl0 (by decide) rfl fl_X6_58 dX6_undo_42 rfl ?_
    refine ea_imul (pc' := 46) dX6_undo_45 rfl ?_
    refine ea_iload_n (pc' := 47) (i := 1) dX6_undo_46 rfl 1 rfl rfl ?_
    refine ea_iadd (pc' := 48) dX6_undo_47 rfl ?_
    obtain ⟨o1, h⟩ := h
    refine ea_iald (j := ((132 * (S.1 30 x0 2)) + l1).toNatClampNeg) (pc' := 49) (hCl.1 30 x0 1 32 hVl0 rfl) rfl o1 dX6_undo_48 rfl rfl ?_
    obtain ⟨o2, h⟩ := h
    refine ea_iast (j := l1.toNatClampNeg) (pc' := 50) (hCl.1 30 x0 0 31 hVl0 rfl) rfl o2 dX6_undo_49 rfl rfl ?_
    refine ea_tops (fun S3 hS3 => ?_)
    replace h := h S3 hS3
    obtain ⟨v4, hv4⟩ : ∃ z : Int32, z = (l1 + 1) := ⟨_, rfl⟩
    replace h := h v4 hv4
    refine ea_iinc (q := 1) (v := v4) (lv' := [(1, .int v4), (0, .ref (evad G 30 x0))]) (pc' := 53) dX6_undo_50 rfl (by rw [hv4]; rfl) (by decide) rfl rfl ?_
    refine ea_goto (tgt := 22) dX6_undo_53 (by decide) ?_
    refine ea_loc [1, 0] rfl ?_
    exact h
theorem vm_X6_undo {G : evG} {d : Nat} {q : Int32 → evS → Prop} {x0 : Nat} {S : evS} (h : bk_X6_undo_0 G d (evQI q) x0 S) : evSp G yX6_undo M_X6_undo d [.ref (evad G 30 x0)] S (evQI q) :=
  evSp.of (by decide +kernel) rfl (Nat.le_of_ble_eq_true rfl) h
abbrev bk_X6_type_0 (G : evG) (d : Nat) (Q : Option Value → evS → Prop) (x0 : Nat) (l1 : Int32) (S : evS) : Prop := evAt G M_X6_type (evFm G (d + 1) Q) 0 [(0, .ref (evad G 30 x0)), (1, .int l1)] [] S
set_option maxRecDepth 100000 in
set_option maxHeartbeats 4000000 in
theorem vb_X6_type_0 {G : evG} {d : Nat} {q : Int32 → evS → Prop} (hCl : evCl G) {x0 : Nat} {l1 : Int32} {S : evS} (hVl0 : (30, x0) ∈ evKs G)
    (h : (evSp G yX6_in M_X6_in d [.int l1, .int 0, .int 255] S (evQI fun r1 S2 => ((¬ r1 = 0 → ((¬ (S2.1 30 x0 6) = 150 → (vp_in (S2.1 30 x0 6) 150 ∧ (∀ S4 : evS, S4 = evup S2 36 0 ((S2.1 30 x0 6).toNatClampNeg) l1 → (∀ S5 : evS, S5 = evup S4 30 x0 6 ((S4.1 30 x0 6) + 1) → q (S5.1 30 x0 6) S5)))) ∧ ((S2.1 30 x0 6) = 150 → q (-3) S2))) ∧ (r1 = 0 → q (-1) S2))))) : bk_X6_type_0 G d (evQI q) x0 l1 S := by
  refine ea_iload_n (pc' := 1) (i := 1) dX6_type_0 rfl 1 rfl rfl ?_
  refine ea_iconst (v := 0) (pc' := 2) dX6_type_1 (by decide) rfl ?_
  refine ea_sipush (v := 255) (pc' := 5) dX6_type_2 (by decide) rfl ?_
  refine ea_csi (As := [.int l1, .int 0, .int 255]) (st := []) (d := d) (pc' := 8) mv_X6_in ml_X6_62 rfl dX6_type_5 rfl (Nat.le_of_ble_eq_true rfl) (ev_room (by decide)) ⟨Nat.le_refl _, Nat.le_refl _⟩ h rfl (fun r1 S2 h => ?_)
  refine ea_if_ne (tgt := 13) (pc' := 11) dX6_type_8 (by decide) rfl (fun hc => ?_) (fun hc => ?_)
  · replace h := h.1 hc
    refine ea_aload_n (pc' := 14) (i := 0) dX6_type_13 rfl 0 rfl rfl ?_
    refine ea_geti (kf := 6) (pc' := 17) kok_30 hVl0 (by decide) rfl fl_X6_73 dX6_type_14 rfl ?_
    refine ea_sipush (v := 150) (pc' := 20) dX6_type_17 (by decide) rfl ?_
    refine ea_icmp_ne (tgt := 26) (pc' := 23) dX6_type_20 (by decide) rfl (fun hc => ?_) (fun hc => ?_)
    · replace h := h.1 hc
      refine ea_aload_n (pc' := 27) (i := 0) dX6_type_26 rfl 0 rfl rfl ?_
      refine ea_getr (k2 := 36) (x2 := 0) (kf := 5) (pc' := 30) kok_30 hVl0 (by decide) rfl fl_X6_23 rfl dX6_type_27 rfl ?_
      refine ea_aload_n (pc' := 31) (i := 0) dX6_type_30 rfl 0 rfl rfl ?_
      refine ea_geti (kf := 6) (pc' := 34) kok_30 hVl0 (by decide) rfl fl_X6_73 dX6_type_31 rfl ?_
      refine ea_iload_n (pc' := 35) (i := 1) dX6_type_34 rfl 1 rfl rfl ?_
      obtain ⟨o3, h⟩ := h
      refine ea_iast (j := (S2.1 30 x0 6).toNatClampNeg) (pc' := 36) (hCl.1 30 x0 5 36 hVl0 rfl) rfl o3 dX6_type_35 rfl rfl ?_
      refine ea_tops (fun S4 hS4 => ?_)
      replace h := h S4 hS4
      refine ea_aload_n (pc' := 37) (i := 0) dX6_type_36 rfl 0 rfl rfl ?_
      refine ea_dup (pc' := 38) dX6_type_37 rfl rfl ?_
      refine ea_geti (kf := 6) (pc' := 41) kok_30 hVl0 (by decide) rfl fl_X6_73 dX6_type_38 rfl ?_
      refine ea_iconst (v := 1) (pc' := 42) dX6_type_41 (by decide) rfl ?_
      refine ea_iadd (pc' := 43) dX6_type_42 rfl ?_
      refine ea_puti (kf := 6) (pc' := 46) kok_30 hVl0 (by decide) rfl fl_X6_73 rfl rfl dX6_type_43 rfl ?_
      refine ea_tops (fun S5 hS5 => ?_)
      replace h := h S5 hS5
      refine ea_aload_n (pc' := 47) (i := 0) dX6_type_46 rfl 0 rfl rfl ?_
      refine ea_geti (kf := 6) (pc' := 50) kok_30 hVl0 (by decide) rfl fl_X6_73 dX6_type_47 rfl ?_
      exact ea_iret rfl dX6_type_50 ⟨_, rfl, h⟩
    · replace h := h.2 hc
      refine ea_bipush (v := (-3)) (pc' := 25) dX6_type_23 (by decide) rfl ?_
      exact ea_iret rfl dX6_type_25 ⟨_, rfl, h⟩
  · replace h := h.2 hc
    refine ea_iconst (v := (-1)) (pc' := 12) dX6_type_11 (by decide) rfl ?_
    exact ea_iret rfl dX6_type_12 ⟨_, rfl, h⟩
theorem vm_X6_type {G : evG} {d : Nat} {q : Int32 → evS → Prop} {x0 : Nat} {l1 : Int32} {S : evS} (h : bk_X6_type_0 G d (evQI q) x0 l1 S) : evSp G yX6_type M_X6_type (d + 1) [.ref (evad G 30 x0), .int l1] S (evQI q) :=
  evSp.of (by decide +kernel) rfl (Nat.le_of_ble_eq_true rfl) h
abbrev bk_X6_in_0 (G : evG) (d : Nat) (Q : Option Value → evS → Prop) (l0 : Int32) (l1 : Int32) (l2 : Int32) (S : evS) : Prop := evAt G M_X6_in (evFm G d Q) 0 [(0, .int l0), (1, .int l1), (2, .int l2)] [] S
set_option maxRecDepth 100000 in
set_option maxHeartbeats 4000000 in
theorem vb_X6_in_0 {G : evG} {d : Nat} {q : Int32 → evS → Prop} (hCl : evCl G) {l0 : Int32} {l1 : Int32} {l2 : Int32} {S : evS}
    (h : ((l0 < l1 → q 0 S) ∧ (¬ l0 < l1 → ((l2 < l0 → q 0 S) ∧ (¬ l2 < l0 → q 1 S))))) : bk_X6_in_0 G d (evQI q) l0 l1 l2 S := by
  refine ea_iload_n (pc' := 1) (i := 0) dX6_in_0 rfl 0 rfl rfl ?_
  refine ea_iload_n (pc' := 2) (i := 1) dX6_in_1 rfl 1 rfl rfl ?_
  refine ea_icmp_lt (tgt := 14) (pc' := 5) dX6_in_2 (by decide) rfl (fun hc => ?_) (fun hc => ?_)
  · replace h := h.1 hc
    refine ea_iconst (v := 0) (pc' := 15) dX6_in_14 (by decide) rfl ?_
    exact ea_zret rfl dX6_in_15 (by decide) ⟨_, rfl, h⟩
  · replace h := h.2 hc
    refine ea_iload_n (pc' := 6) (i := 0) dX6_in_5 rfl 0 rfl rfl ?_
    refine ea_iload_n (pc' := 7) (i := 2) dX6_in_6 rfl 2 rfl rfl ?_
    refine ea_icmp_gt (tgt := 14) (pc' := 10) dX6_in_7 (by decide) rfl (fun hc => ?_) (fun hc => ?_)
    · replace h := h.1 hc
      refine ea_iconst (v := 0) (pc' := 15) dX6_in_14 (by decide) rfl ?_
      exact ea_zret rfl dX6_in_15 (by decide) ⟨_, rfl, h⟩
    · replace h := h.2 hc
      refine ea_iconst (v := 1) (pc' := 11) dX6_in_10 (by decide) rfl ?_
      refine ea_goto (tgt := 15) dX6_in_11 (by decide) ?_
      exact ea_zret rfl dX6_in_15 (by decide) ⟨_, rfl, h⟩
theorem vm_X6_in {G : evG} {d : Nat} {q : Int32 → evS → Prop} {l0 : Int32} {l1 : Int32} {l2 : Int32} {S : evS} (h : bk_X6_in_0 G d (evQI q) l0 l1 l2 S) : evSp G yX6_in M_X6_in d [.int l0, .int l1, .int l2] S (evQI q) :=
  evSp.of (by decide +kernel) rfl (Nat.le_of_ble_eq_true rfl) h
abbrev bk_X6_clear_0 (G : evG) (d : Nat) (Q : Option Value → evS → Prop) (x0 : Nat) (S : evS) : Prop := evAt G M_X6_clear (evFm G d Q) 0 [(0, .ref (evad G 30 x0))] [] S
set_option maxRecDepth 100000 in
set_option maxHeartbeats 4000000 in
theorem vb_X6_clear_0 {G : evG} {d : Nat} {q : Int32 → evS → Prop} (hCl : evCl G) {x0 : Nat} {S : evS} (hVl0 : (30, x0) ∈ evKs G)
    (h : (∀ v1 : Int32, v1 = (S.1 30 x0 6) → (∀ S2 : evS, S2 = evup S 30 x0 6 0 → q v1 S2))) : bk_X6_clear_0 G d (evQI q) x0 S := by
  refine ea_aload_n (pc' := 1) (i := 0) dX6_clear_0 rfl 0 rfl rfl ?_
  refine ea_geti (kf := 6) (pc' := 4) kok_30 hVl0 (by decide) rfl fl_X6_73 dX6_clear_1 rfl ?_
  refine ea_topi (fun v1 hv1 => ?_)
  replace h := h v1 hv1
  refine ea_istore_n (lv' := [(1, .int v1), (0, .ref (evad G 30 x0))]) (pc' := 5) dX6_clear_4 rfl (by decide) rfl rfl ?_
  refine ea_aload_n (pc' := 6) (i := 0) dX6_clear_5 rfl 1 rfl rfl ?_
  refine ea_iconst (v := 0) (pc' := 7) dX6_clear_6 (by decide) rfl ?_
  refine ea_puti (kf := 6) (pc' := 10) kok_30 hVl0 (by decide) rfl fl_X6_73 rfl rfl dX6_clear_7 rfl ?_
  refine ea_tops (fun S2 hS2 => ?_)
  replace h := h S2 hS2
  refine ea_iload_n (pc' := 11) (i := 1) dX6_clear_10 rfl 0 rfl rfl ?_
  exact ea_iret rfl dX6_clear_11 ⟨_, rfl, h⟩
theorem vm_X6_clear {G : evG} {d : Nat} {q : Int32 → evS → Prop} {x0 : Nat} {S : evS} (h : bk_X6_clear_0 G d (evQI q) x0 S) : evSp G yX6_clear M_X6_clear d [.ref (evad G 30 x0)] S (evQI q) :=
  evSp.of (by decide +kernel) rfl (Nat.le_of_ble_eq_true rfl) h
abbrev bk_X6_tells_0 (G : evG) (d : Nat) (Q : Option Value → evS → Prop) (x0 : Nat) (l1 : Int32) (S : evS) : Prop := evAt G M_X6_tells (evFm G (d + 1) Q) 0 [(0, .ref (evad G 30 x0)), (1, .int l1)] [] S
abbrev bk_X6_tells_26 (G : evG) (d : Nat) (Q : Option Value → evS → Prop) (x0 : Nat) (l1 : Int32) (l2 : Int32) (l3 : Int32) (S : evS) : Prop := evAt G M_X6_tells (evFm G (d + 1) Q) 26 [(0, .ref (evad G 30 x0)), (1, .int l1), (2, .int l2), (3, .int l3)] [] S
set_option maxRecDepth 100000 in
set_option maxHeartbeats 4000000 in
theorem vb_X6_tells_0 {G : evG} {d : Nat} {q : Int32 → evS → Prop} (hCl : evCl G) {x0 : Nat} {l1 : Int32} {S : evS} (hVl0 : (30, x0) ∈ evKs G)
    (h : (evSp G yX6_isShip M_X6_isShip d [.int l1] S (evQI fun r1 S2 => ((¬ r1 = 0 → (evSp G yX6_reads M_X6_reads d [.ref (evad G 30 x0)] S2 (evQI fun r3 S4 => ((0 ≤ r3 → (evSp G yX6_remembers M_X6_remembers d [.ref (evad G 30 x0)] S4 (evQV fun S5 => bk_X6_tells_26 G d (evQI q) x0 l1 r3 0 S5))) ∧ (¬ 0 ≤ r3 → q r3 S4))))) ∧ (r1 = 0 → q (-1) S2))))) : bk_X6_tells_0 G d (evQI q) x0 l1 S := by
  refine ea_iload_n (pc' := 1) (i := 1) dX6_tells_0 rfl 1 rfl rfl ?_
  refine ea_csi (As := [.int l1]) (st := []) (d := d) (pc' := 4) mv_X6_isShip ml_X6_115 rfl dX6_tells_1 rfl (Nat.le_of_ble_eq_true rfl) (ev_room (by decide)) ⟨Nat.le_refl _, Nat.le_refl _⟩ h rfl (fun r1 S2 h => ?_)
  refine ea_if_ne (tgt := 9) (pc' := 7) dX6_tells_4 (by decide) rfl (fun hc => ?_) (fun hc => ?_)
  · replace h := h.1 hc
    refine ea_aload_n (pc' := 10) (i := 0) dX6_tells_9 rfl 0 rfl rfl ?_
    refine ea_cvi (As := []) (st := []) (d := d) (pc' := 13) mv_X6_reads ml_X6_119 kok_30 hVl0 rfl rfl dX6_tells_10 rfl (Nat.le_of_ble_eq_true rfl) (ev_room (by decide)) ⟨Nat.le_refl _, Nat.le_refl _⟩ h rfl (fun r3 S4 h => ?_)
    refine ea_istore_n (lv' := [(2, .int r3), (0, .ref (evad G 30 x0)), (1, .int l1)]) (pc' := 14) dX6_tells_13 rfl (by decide) rfl rfl ?_
    refine ea_iload_n (pc' := 15) (i := 2) dX6_tells_14 rfl 0 rfl rfl ?_
    refine ea_if_ge (tgt := 20) (pc' := 18) dX6_tells_15 (by decide) rfl (fun hc => ?_) (fun hc => ?_)
    · replace h := h.1 hc
      refine ea_aload_n (pc' := 21) (i := 0) dX6_tells_20 rfl 1 rfl rfl ?_
      refine ea_cvv (As := []) (st := []) (d := d) (pc' := 24) mv_X6_remembers ml_X6_123 kok_30 hVl0 rfl rfl dX6_tells_21 rfl (Nat.le_of_ble_eq_true rfl) (ev_room (by decide)) ⟨Nat.le_refl _, Nat.le_refl _⟩ h rfl (fun S5 h => ?_)
      refine ea_iconst (v := 0) (pc' := 25) dX6_tells_24 (by decide) rfl ?_
      refine ea_istore_n (lv' := [(3, .int 0), (2, .int r3), (0, .ref (evad G 30 x0)), (1, .int l1)]) (pc' := 26) dX6_tells_25 rfl (by decide) rfl rfl ?_
      refine ea_loc [2, 3, 1, 0] rfl ?_
      exact h
    · replace h := h.2 hc
      refine ea_iload_n (pc' := 19) (i := 2) dX6_tells_18 rfl 0 rfl rfl ?_
      exact ea_iret rfl dX6_tells_19 ⟨_, rfl, h⟩
  · replace h := h.2 hc
    refine ea_iconst (v := (-1)) (pc' := 8) dX6_tells_7 (by decide) rfl ?_
    exact ea_iret rfl dX6_tells_8 ⟨_, rfl, h⟩
set_option maxRecDepth 100000 in
set_option maxHeartbeats 4000000 in
theorem vb_X6_tells_26 {G : evG} {d : Nat} {q : Int32 → evS → Prop} (hCl : evCl G) {x0 : Nat} {l1 : Int32} {l2 : Int32} {l3 : Int32} {S : evS} (hVl0 : (30, x0) ∈ evKs G)
    (h : ((33 ≤ l3 → (∀ S1 : evS, S1 = evup S 30 x0 6 0 → q l2 S1)) ∧ (¬ 33 ≤ l3 → (vp_in l3 33 ∧ (vp_in ((33 * l1) + l3) 132 ∧ (∀ S4 : evS, S4 = evup S 31 0 (((33 * l1) + l3).toNatClampNeg) (S.1 40 0 l3.toNatClampNeg) → (∀ v5 : Int32, v5 = (l3 + 1) → bk_X6_tells_26 G d (evQI q) x0 l1 l2 v5 S4))))))) : bk_X6_tells_26 G d (evQI q) x0 l1 l2 l3 S := by
  refine ea_iload_n (pc' := 27) (i := 3) dX6_tells_26 rfl 3 rfl rfl ?_
  refine ea_bipush (v := 33) (pc' := 29) dX6_tells_27 (by decide) rfl ?_
  refine ea_icmp_ge (tgt := 55) (pc' := 32) dX6_tells_29 (by decide) rfl (fun hc => ?_) (fun hc => ?_)
  · replace h := h.1 hc
    refine ea_aload_n (pc' := 56) (i := 0) dX6_tells_55 rfl 0 rfl rfl ?_
    refine ea_iconst (v := 0) (pc' := 57) dX6_tells_56 (by decide) rfl ?_
    refine ea_puti (kf := 6) (pc' := 60) kok_30 hVl0 (by decide) rfl fl_X6_73 rfl rfl dX6_tells_57 rfl ?_
    refine ea_tops (fun S1 hS1 => ?_)
    replace h := h S1 hS1
    refine ea_iload_n (pc' := 61) (i := 2) dX6_tells_60 rfl 2 rfl rfl ?_
    exact ea_iret rfl dX6_tells_61 ⟨_, rfl, h⟩
  · replace h := h.2 hc
    refine ea_aload_n (pc' := 33) (i := 0) dX6_tells_32 rfl 0 rfl rfl ?_
    refine ea_getr (k2 := 31) (x2 := 0) (kf := 0) (pc' := 36) kok_30 hVl0 (by decide) rfl fl_X6_7 rfl dX6_tells_33 rfl ?_
    refine ea_bipush (v := 33) (pc' := 38) dX6_tells_36 (by decide) rfl ?_
    refine ea_iload_n (pc' := 39) (i := 1) dX6_tells_38 rfl 1 rfl rfl ?_
    refine ea_imul (pc' := 40) dX6_tells_39 rfl ?_
    refine ea_iload_n (pc' := 41) (i := 3) dX6_tells_40 rfl 3 rfl rfl ?_
    refine ea_iadd (pc' := 42) dX6_tells_41 rfl ?_
    refine ea_aload_n (pc' := 43) (i := 0) dX6_tells_42 rfl 0 rfl rfl ?_
    refine ea_getr (k2 := 40) (x2 := 0) (kf := 9) (pc' := 46) kok_30 hVl0 (by decide) rfl fl_X6_29 rfl dX6_tells_43 rfl ?_
    refine ea_iload_n (pc' := 47) (i := 3) dX6_tells_46 rfl 3 rfl rfl ?_
    obtain ⟨o2, h⟩ := h
    refine ea_iald (j := l3.toNatClampNeg) (pc' := 48) (hCl.1 30 x0 9 40 hVl0 rfl) rfl o2 dX6_tells_47 rfl rfl ?_
    obtain ⟨o3, h⟩ := h
    refine ea_iast (j := ((33 * l1) + l3).toNatClampNeg) (pc' := 49) (hCl.1 30 x0 0 31 hVl0 rfl) rfl o3 dX6_tells_48 rfl rfl ?_
    refine ea_tops (fun S4 hS4 => ?_)
    replace h := h S4 hS4
    obtain ⟨v5, hv5⟩ : ∃ z : Int32, z = (l3 + 1) := ⟨_, rfl⟩
    replace h := h v5 hv5
    refine ea_iinc (q := 3) (v := v5) (lv' := [(3, .int v5), (0, .ref (evad G 30 x0)), (1, .int l1), (2, .int l2)]) (pc' := 52) dX6_tells_49 rfl (by rw [hv5]; rfl) (by decide) rfl rfl ?_
    refine ea_goto (tgt := 26) dX6_tells_52 (by decide) ?_
    refine ea_loc [1, 2, 3, 0] rfl ?_
    exact h
theorem vm_X6_tells {G : evG} {d : Nat} {q : Int32 → evS → Prop} {x0 : Nat} {l1 : Int32} {S : evS} (h : bk_X6_tells_0 G d (evQI q) x0 l1 S) : evSp G yX6_tells M_X6_tells (d + 1) [.ref (evad G 30 x0), .int l1] S (evQI q) :=
  evSp.of (by decide +kernel) rfl (Nat.le_of_ble_eq_true rfl) h
abbrev bk_X6_isShip_0 (G : evG) (d : Nat) (Q : Option Value → evS → Prop) (l0 : Int32) (S : evS) : Prop := evAt G M_X6_isShip (evFm G (d + 1) Q) 0 [(0, .int l0)] [] S
set_option maxRecDepth 100000 in
set_option maxHeartbeats 4000000 in
theorem vb_X6_isShip_0 {G : evG} {d : Nat} {q : Int32 → evS → Prop} (hCl : evCl G) {l0 : Int32} {S : evS}
    (h : (evSp G yX6_in M_X6_in d [.int l0, .int 0, .int 3] S (evQI fun r1 S2 => ((r1 = 0 ∨ r1 = 1) ∧ q r1 S2)))) : bk_X6_isShip_0 G d (evQI q) l0 S := by
  refine ea_iload_n (pc' := 1) (i := 0) dX6_isShip_0 rfl 0 rfl rfl ?_
  refine ea_iconst (v := 0) (pc' := 2) dX6_isShip_1 (by decide) rfl ?_
  refine ea_iconst (v := 3) (pc' := 3) dX6_isShip_2 (by decide) rfl ?_
  refine ea_csi (As := [.int l0, .int 0, .int 3]) (st := []) (d := d) (pc' := 6) mv_X6_in ml_X6_62 rfl dX6_isShip_3 rfl (Nat.le_of_ble_eq_true rfl) (ev_room (by decide)) ⟨Nat.le_refl _, Nat.le_refl _⟩ h rfl (fun r1 S2 h => ?_)
  obtain ⟨o3, h⟩ := h
  exact ea_zret rfl dX6_isShip_6 o3 ⟨_, rfl, h⟩
theorem vm_X6_isShip {G : evG} {d : Nat} {q : Int32 → evS → Prop} {l0 : Int32} {S : evS} (h : bk_X6_isShip_0 G d (evQI q) l0 S) : evSp G yX6_isShip M_X6_isShip (d + 1) [.int l0] S (evQI q) :=
  evSp.of (by decide +kernel) rfl (Nat.le_of_ble_eq_true rfl) h
abbrev bk_X6_reads_0 (G : evG) (d : Nat) (Q : Option Value → evS → Prop) (x0 : Nat) (S : evS) : Prop := evAt G M_X6_reads (evFm G (d + 1) Q) 0 [(0, .ref (evad G 30 x0))] [] S
abbrev bk_X6_reads_29 (G : evG) (d : Nat) (Q : Option Value → evS → Prop) (x0 : Nat) (l1 : Int32) (S : evS) : Prop := evAt G M_X6_reads (evFm G (d + 1) Q) 29 [(0, .ref (evad G 30 x0)), (1, .int l1)] [] S
abbrev bk_X6_reads_93 (G : evG) (d : Nat) (Q : Option Value → evS → Prop) (x0 : Nat) (l1 : Int32) (S : evS) : Prop := evAt G M_X6_reads (evFm G (d + 1) Q) 93 [(0, .ref (evad G 30 x0)), (1, .int l1)] [] S
abbrev bk_X6_reads_94 (G : evG) (d : Nat) (Q : Option Value → evS → Prop) (x0 : Nat) (l1 : Int32) (s0 : Int32) (S : evS) : Prop := evAt G M_X6_reads (evFm G (d + 1) Q) 94 [(0, .ref (evad G 30 x0)), (1, .int l1)] [.int s0] S
set_option maxRecDepth 100000 in
set_option maxHeartbeats 4000000 in
theorem vb_X6_reads_0 {G : evG} {d : Nat} {q : Int32 → evS → Prop} (hCl : evCl G) {x0 : Nat} {S : evS} (hVl0 : (30, x0) ∈ evKs G)
    (h : (evSp G yX6_begins M_X6_begins d [.ref (evad G 40 0), .int 0] S (evQV fun S1 => (∀ S2 : evS, S2 = evup S1 30 x0 13 0 → (∀ S3 : evS, S3 = evup S2 30 x0 14 0 → (∀ S4 : evS, S4 = evup S3 30 x0 10 0 → (evSp G yX6_blanks M_X6_blanks d [.ref (evad G 30 x0)] S4 (evQV fun S5 => bk_X6_reads_29 G d (evQI q) x0 0 S5)))))))) : bk_X6_reads_0 G d (evQI q) x0 S := by
  refine ea_aload_n (pc' := 1) (i := 0) dX6_reads_0 rfl 0 rfl rfl ?_
  refine ea_getr (k2 := 40) (x2 := 0) (kf := 9) (pc' := 4) kok_30 hVl0 (by decide) rfl fl_X6_29 rfl dX6_reads_1 rfl ?_
  refine ea_iconst (v := 0) (pc' := 5) dX6_reads_4 (by decide) rfl ?_
  refine ea_csv (As := [.ref (evad G 40 0), .int 0]) (st := []) (d := d) (pc' := 8) mv_X6_begins ml_X6_54 rfl dX6_reads_5 rfl (Nat.le_of_ble_eq_true rfl) (ev_room (by decide)) ⟨Nat.le_refl _, Nat.le_refl _⟩ h rfl (fun S1 h => ?_)
  refine ea_aload_n (pc' := 9) (i := 0) dX6_reads_8 rfl 0 rfl rfl ?_
  refine ea_iconst (v := 0) (pc' := 10) dX6_reads_9 (by decide) rfl ?_
  refine ea_putz (kf := 13) (pc' := 13) kok_30 hVl0 (by decide) rfl fl_X6_99 rfl rfl (by decide) dX6_reads_10 rfl ?_
  refine ea_tops (fun S2 hS2 => ?_)
  replace h := h S2 hS2
  refine ea_aload_n (pc' := 14) (i := 0) dX6_reads_13 rfl 0 rfl rfl ?_
  refine ea_iconst (v := 0) (pc' := 15) dX6_reads_14 (by decide) rfl ?_
  refine ea_putz (kf := 14) (pc' := 18) kok_30 hVl0 (by decide) rfl fl_X6_103 rfl rfl (by decide) dX6_reads_15 rfl ?_
  refine ea_tops (fun S3 hS3 => ?_)
  replace h := h S3 hS3
  refine ea_aload_n (pc' := 19) (i := 0) dX6_reads_18 rfl 0 rfl rfl ?_
  refine ea_iconst (v := 0) (pc' := 20) dX6_reads_19 (by decide) rfl ?_
  refine ea_puti (kf := 10) (pc' := 23) kok_30 hVl0 (by decide) rfl fl_X6_76 rfl rfl dX6_reads_20 rfl ?_
  refine ea_tops (fun S4 hS4 => ?_)
  replace h := h S4 hS4
  refine ea_iconst (v := 0) (pc' := 24) dX6_reads_23 (by decide) rfl ?_
  refine ea_istore_n (lv' := [(1, .int 0), (0, .ref (evad G 30 x0))]) (pc' := 25) dX6_reads_24 rfl (by decide) rfl rfl ?_
  refine ea_aload_n (pc' := 26) (i := 0) dX6_reads_25 rfl 1 rfl rfl ?_
  refine ea_cvv (As := []) (st := []) (d := d) (pc' := 29) mv_X6_blanks ml_X6_82 kok_30 hVl0 rfl rfl dX6_reads_26 rfl (Nat.le_of_ble_eq_true rfl) (ev_room (by decide)) ⟨Nat.le_refl _, Nat.le_refl _⟩ h rfl (fun S5 h => ?_)
  refine ea_loc [1, 0] rfl ?_
  exact h
set_option maxRecDepth 100000 in
set_option maxHeartbeats 4000000 in
theorem vb_X6_reads_29 {G : evG} {d : Nat} {q : Int32 → evS → Prop} (hCl : evCl G) {x0 : Nat} {l1 : Int32} {S : evS} (hVl0 : (30, x0) ∈ evKs G)
    (h : (((S.1 30 x0 6) ≤ (S.1 30 x0 10) → q l1 S) ∧ (¬ (S.1 30 x0 6) ≤ (S.1 30 x0 10) → (vp_in (S.1 30 x0 10) 150 ∧ (∀ v2 : Int32, v2 = (S.1 36 0 ((S.1 30 x0 10).toNatClampNeg)) → ((¬ v2 = 108 → ((¬ v2 = 118 → ((¬ v2 = 102 → bk_X6_reads_93 G d (evQI q) x0 l1 S) ∧ (v2 = 102 → (evSp G yX6_takesTable M_X6_takesTable d [.ref (evad G 30 x0)] S (evQI fun r3 S4 => ((r3 = 0 → bk_X6_reads_93 G d (evQI q) x0 l1 S4) ∧ (¬ r3 = 0 → bk_X6_reads_94 G d (evQI q) x0 l1 1 S4))))))) ∧ (v2 = 118 → (evSp G yX6_takesFastest M_X6_takesFastest d [.ref (evad G 30 x0)] S (evQI fun r5 S6 => bk_X6_reads_94 G d (evQI q) x0 l1 r5 S6))))) ∧ (v2 = 108 → (evSp G yX6_takesLeg M_X6_takesLeg d [.ref (evad G 30 x0)] S (evQI fun r7 S8 => bk_X6_reads_94 G d (evQI q) x0 l1 r7 S8))))))))) : bk_X6_reads_29 G d (evQI q) x0 l1 S := by
  refine ea_aload_n (pc' := 30) (i := 0) dX6_reads_29 rfl 0 rfl rfl ?_
  refine ea_geti (kf := 10) (pc' := 33) kok_30 hVl0 (by decide) rfl fl_X6_76 dX6_reads_30 rfl ?_
  refine ea_aload_n (pc' := 34) (i := 0) dX6_reads_33 rfl 0 rfl rfl ?_
  refine ea_geti (kf := 6) (pc' := 37) kok_30 hVl0 (by decide) rfl fl_X6_73 dX6_reads_34 rfl ?_
  refine ea_icmp_ge (tgt := 117) (pc' := 40) dX6_reads_37 (by decide) rfl (fun hc => ?_) (fun hc => ?_)
  · replace h := h.1 hc
    refine ea_iload_n (pc' := 118) (i := 1) dX6_reads_117 rfl 1 rfl rfl ?_
    exact ea_iret rfl dX6_reads_118 ⟨_, rfl, h⟩
  · replace h := h.2 hc
    refine ea_aload_n (pc' := 41) (i := 0) dX6_reads_40 rfl 0 rfl rfl ?_
    refine ea_getr (k2 := 36) (x2 := 0) (kf := 5) (pc' := 44) kok_30 hVl0 (by decide) rfl fl_X6_23 rfl dX6_reads_41 rfl ?_
    refine ea_aload_n (pc' := 45) (i := 0) dX6_reads_44 rfl 0 rfl rfl ?_
    refine ea_geti (kf := 10) (pc' := 48) kok_30 hVl0 (by decide) rfl fl_X6_76 dX6_reads_45 rfl ?_
    obtain ⟨o1, h⟩ := h
    refine ea_iald (j := (S.1 30 x0 10).toNatClampNeg) (pc' := 49) (hCl.1 30 x0 5 36 hVl0 rfl) rfl o1 dX6_reads_48 rfl rfl ?_
    refine ea_topi (fun v2 hv2 => ?_)
    replace h := h v2 hv2
    refine ea_istore_n (lv' := [(2, .int v2), (0, .ref (evad G 30 x0)), (1, .int l1)]) (pc' := 50) dX6_reads_49 rfl (by decide) rfl rfl ?_
    refine ea_iload_n (pc' := 51) (i := 2) dX6_reads_50 rfl 0 rfl rfl ?_
    refine ea_bipush (v := 108) (pc' := 53) dX6_reads_51 (by decide) rfl ?_
    refine ea_icmp_ne (tgt := 63) (pc' := 56) dX6_reads_53 (by decide) rfl (fun hc => ?_) (fun hc => ?_)
    · replace h := h.1 hc
      refine ea_iload_n (pc' := 64) (i := 2) dX6_reads_63 rfl 0 rfl rfl ?_
      refine ea_bipush (v := 118) (pc' := 66) dX6_reads_64 (by decide) rfl ?_
      refine ea_icmp_ne (tgt := 76) (pc' := 69) dX6_reads_66 (by decide) rfl (fun hc => ?_) (fun hc => ?_)
      · replace h := h.1 hc
        refine ea_iload_n (pc' := 77) (i := 2) dX6_reads_76 rfl 0 rfl rfl ?_
        refine ea_bipush (v := 102) (pc' := 79) dX6_reads_77 (by decide) rfl ?_
        refine ea_icmp_ne (tgt := 93) (pc' := 82) dX6_reads_79 (by decide) rfl (fun hc => ?_) (fun hc => ?_)
        · replace h := h.1 hc
          refine ea_loc [1, 2] rfl ?_
          exact h
        · replace h := h.2 hc
          refine ea_aload_n (pc' := 83) (i := 0) dX6_reads_82 rfl 1 rfl rfl ?_
          refine ea_cvi (As := []) (st := []) (d := d) (pc' := 86) mv_X6_takesTable ml_X6_112 kok_30 hVl0 rfl rfl dX6_reads_83 rfl (Nat.le_of_ble_eq_true rfl) (ev_room (by decide)) ⟨Nat.le_refl _, Nat.le_refl _⟩ h rfl (fun r3 S4 h => ?_)
          refine ea_if_eq (tgt := 93) (pc' := 89) dX6_reads_86 (by decide) rfl (fun hc => ?_) (fun hc => ?_)
          · replace h := h.1 hc
            refine ea_loc [1, 2] rfl ?_
            exact h
          · replace h := h.2 hc
            refine ea_iconst (v := 1) (pc' := 90) dX6_reads_89 (by decide) rfl ?_
            refine ea_goto (tgt := 94) dX6_reads_90 (by decide) ?_
            refine ea_loc [1, 2] rfl ?_
            exact h
      · replace h := h.2 hc
        refine ea_aload_n (pc' := 70) (i := 0) dX6_reads_69 rfl 1 rfl rfl ?_
        refine ea_cvi (As := []) (st := []) (d := d) (pc' := 73) mv_X6_takesFastest ml_X6_109 kok_30 hVl0 rfl rfl dX6_reads_70 rfl (Nat.le_of_ble_eq_true rfl) (ev_room (by decide)) ⟨Nat.le_refl _, Nat.le_refl _⟩ h rfl (fun r5 S6 h => ?_)
        refine ea_goto (tgt := 94) dX6_reads_73 (by decide) ?_
        refine ea_loc [1, 2] rfl ?_
        exact h
    · replace h := h.2 hc
      refine ea_aload_n (pc' := 57) (i := 0) dX6_reads_56 rfl 1 rfl rfl ?_
      refine ea_cvi (As := []) (st := []) (d := d) (pc' := 60) mv_X6_takesLeg ml_X6_106 kok_30 hVl0 rfl rfl dX6_reads_57 rfl (Nat.le_of_ble_eq_true rfl) (ev_room (by decide)) ⟨Nat.le_refl _, Nat.le_refl _⟩ h rfl (fun r7 S8 h => ?_)
      refine ea_goto (tgt := 94) dX6_reads_60 (by decide) ?_
      refine ea_loc [1, 2] rfl ?_
      exact h
set_option maxRecDepth 100000 in
set_option maxHeartbeats 4000000 in
theorem vb_X6_reads_93 {G : evG} {d : Nat} {q : Int32 → evS → Prop} (hCl : evCl G) {x0 : Nat} {l1 : Int32} {S : evS} (hVl0 : (30, x0) ∈ evKs G)
    (h : bk_X6_reads_94 G d (evQI q) x0 l1 0 S) : bk_X6_reads_93 G d (evQI q) x0 l1 S := by
  refine ea_iconst (v := 0) (pc' := 94) dX6_reads_93 (by decide) rfl ?_
  exact h
set_option maxRecDepth 100000 in
set_option maxHeartbeats 4000000 in
theorem vb_X6_reads_94 {G : evG} {d : Nat} {q : Int32 → evS → Prop} (hCl : evCl G) {x0 : Nat} {l1 : Int32} {s0 : Int32} {S : evS} (hVl0 : (30, x0) ∈ evKs G)
    (h : ((¬ s0 = 0 → (∀ v1 : Int32, v1 = (l1 + 1) → (evSp G yX6_blanks M_X6_blanks d [.ref (evad G 30 x0)] S (evQV fun S2 => bk_X6_reads_29 G d (evQI q) x0 v1 S2)))) ∧ (s0 = 0 → q ((-10) - (S.1 30 x0 11)) S))) : bk_X6_reads_94 G d (evQI q) x0 l1 s0 S := by
  refine ea_istore_n (lv' := [(3, .int s0), (0, .ref (evad G 30 x0)), (1, .int l1)]) (pc' := 95) dX6_reads_94 rfl (by decide) rfl rfl ?_
  refine ea_iload_n (pc' := 96) (i := 3) dX6_reads_95 rfl 0 rfl rfl ?_
  refine ea_if_ne (tgt := 107) (pc' := 99) dX6_reads_96 (by decide) rfl (fun hc => ?_) (fun hc => ?_)
  · replace h := h.1 hc
    obtain ⟨v1, hv1⟩ : ∃ z : Int32, z = (l1 + 1) := ⟨_, rfl⟩
    replace h := h v1 hv1
    refine ea_iinc (q := 2) (v := v1) (lv' := [(1, .int v1), (3, .int s0), (0, .ref (evad G 30 x0))]) (pc' := 110) dX6_reads_107 rfl (by rw [hv1]; rfl) (by decide) rfl rfl ?_
    refine ea_aload_n (pc' := 111) (i := 0) dX6_reads_110 rfl 2 rfl rfl ?_
    refine ea_cvv (As := []) (st := []) (d := d) (pc' := 114) mv_X6_blanks ml_X6_82 kok_30 hVl0 rfl rfl dX6_reads_111 rfl (Nat.le_of_ble_eq_true rfl) (ev_room (by decide)) ⟨Nat.le_refl _, Nat.le_refl _⟩ h rfl (fun S2 h => ?_)
    refine ea_goto (tgt := 29) dX6_reads_114 (by decide) ?_
    refine ea_loc [2, 0] rfl ?_
    exact h
  · replace h := h.2 hc
    refine ea_bipush (v := (-10)) (pc' := 101) dX6_reads_99 (by decide) rfl ?_
    refine ea_aload_n (pc' := 102) (i := 0) dX6_reads_101 rfl 1 rfl rfl ?_
    refine ea_geti (kf := 11) (pc' := 105) kok_30 hVl0 (by decide) rfl fl_X6_79 dX6_reads_102 rfl ?_
    refine ea_isub (pc' := 106) dX6_reads_105 rfl ?_
    exact ea_iret rfl dX6_reads_106 ⟨_, rfl, h⟩
theorem vm_X6_reads {G : evG} {d : Nat} {q : Int32 → evS → Prop} {x0 : Nat} {S : evS} (h : bk_X6_reads_0 G d (evQI q) x0 S) : evSp G yX6_reads M_X6_reads (d + 1) [.ref (evad G 30 x0)] S (evQI q) :=
  evSp.of (by decide +kernel) rfl (Nat.le_of_ble_eq_true rfl) h
abbrev bk_X6_blanks_0 (G : evG) (d : Nat) (Q : Option Value → evS → Prop) (x0 : Nat) (S : evS) : Prop := evAt G M_X6_blanks (evFm G d Q) 0 [(0, .ref (evad G 30 x0))] [] S
set_option maxRecDepth 100000 in
set_option maxHeartbeats 4000000 in
theorem vb_X6_blanks_0 {G : evG} {d : Nat} {q : evS → Prop} (hCl : evCl G) {x0 : Nat} {S : evS} (hVl0 : (30, x0) ∈ evKs G)
    (h : (((S.1 30 x0 6) ≤ (S.1 30 x0 10) → (∀ S1 : evS, S1 = evup S 30 x0 11 (S.1 30 x0 10) → q S1)) ∧ (¬ (S.1 30 x0 6) ≤ (S.1 30 x0 10) → (vp_in (S.1 30 x0 10) 150 ∧ ((¬ (S.1 36 0 ((S.1 30 x0 10).toNatClampNeg)) = 32 → (∀ S3 : evS, S3 = evup S 30 x0 11 (S.1 30 x0 10) → q S3)) ∧ ((S.1 36 0 ((S.1 30 x0 10).toNatClampNeg)) = 32 → (∀ S4 : evS, S4 = evup S 30 x0 10 ((S.1 30 x0 10) + 1) → bk_X6_blanks_0 G d (evQV q) x0 S4))))))) : bk_X6_blanks_0 G d (evQV q) x0 S := by
  refine ea_aload_n (pc' := 1) (i := 0) dX6_blanks_0 rfl 0 rfl rfl ?_
  refine ea_geti (kf := 10) (pc' := 4) kok_30 hVl0 (by decide) rfl fl_X6_76 dX6_blanks_1 rfl ?_
  refine ea_aload_n (pc' := 5) (i := 0) dX6_blanks_4 rfl 0 rfl rfl ?_
  refine ea_geti (kf := 6) (pc' := 8) kok_30 hVl0 (by decide) rfl fl_X6_73 dX6_blanks_5 rfl ?_
  refine ea_icmp_ge (tgt := 38) (pc' := 11) dX6_blanks_8 (by decide) rfl (fun hc => ?_) (fun hc => ?_)
  · replace h := h.1 hc
    refine ea_aload_n (pc' := 39) (i := 0) dX6_blanks_38 rfl 0 rfl rfl ?_
    refine ea_aload_n (pc' := 40) (i := 0) dX6_blanks_39 rfl 0 rfl rfl ?_
    refine ea_geti (kf := 10) (pc' := 43) kok_30 hVl0 (by decide) rfl fl_X6_76 dX6_blanks_40 rfl ?_
    refine ea_puti (kf := 11) (pc' := 46) kok_30 hVl0 (by decide) rfl fl_X6_79 rfl rfl dX6_blanks_43 rfl ?_
    refine ea_tops (fun S1 hS1 => ?_)
    replace h := h S1 hS1
    exact ea_vret rfl dX6_blanks_46 ⟨rfl, h⟩
  · replace h := h.2 hc
    refine ea_aload_n (pc' := 12) (i := 0) dX6_blanks_11 rfl 0 rfl rfl ?_
    refine ea_getr (k2 := 36) (x2 := 0) (kf := 5) (pc' := 15) kok_30 hVl0 (by decide) rfl fl_X6_23 rfl dX6_blanks_12 rfl ?_
    refine ea_aload_n (pc' := 16) (i := 0) dX6_blanks_15 rfl 0 rfl rfl ?_
    refine ea_geti (kf := 10) (pc' := 19) kok_30 hVl0 (by decide) rfl fl_X6_76 dX6_blanks_16 rfl ?_
    obtain ⟨o2, h⟩ := h
    refine ea_iald (j := (S.1 30 x0 10).toNatClampNeg) (pc' := 20) (hCl.1 30 x0 5 36 hVl0 rfl) rfl o2 dX6_blanks_19 rfl rfl ?_
    refine ea_bipush (v := 32) (pc' := 22) dX6_blanks_20 (by decide) rfl ?_
    refine ea_icmp_ne (tgt := 38) (pc' := 25) dX6_blanks_22 (by decide) rfl (fun hc => ?_) (fun hc => ?_)
    · replace h := h.1 hc
      refine ea_aload_n (pc' := 39) (i := 0) dX6_blanks_38 rfl 0 rfl rfl ?_
      refine ea_aload_n (pc' := 40) (i := 0) dX6_blanks_39 rfl 0 rfl rfl ?_
      refine ea_geti (kf := 10) (pc' := 43) kok_30 hVl0 (by decide) rfl fl_X6_76 dX6_blanks_40 rfl ?_
      refine ea_puti (kf := 11) (pc' := 46) kok_30 hVl0 (by decide) rfl fl_X6_79 rfl rfl dX6_blanks_43 rfl ?_
      refine ea_tops (fun S3 hS3 => ?_)
      replace h := h S3 hS3
      exact ea_vret rfl dX6_blanks_46 ⟨rfl, h⟩
    · replace h := h.2 hc
      refine ea_aload_n (pc' := 26) (i := 0) dX6_blanks_25 rfl 0 rfl rfl ?_
      refine ea_dup (pc' := 27) dX6_blanks_26 rfl rfl ?_
      refine ea_geti (kf := 10) (pc' := 30) kok_30 hVl0 (by decide) rfl fl_X6_76 dX6_blanks_27 rfl ?_
      refine ea_iconst (v := 1) (pc' := 31) dX6_blanks_30 (by decide) rfl ?_
      refine ea_iadd (pc' := 32) dX6_blanks_31 rfl ?_
      refine ea_puti (kf := 10) (pc' := 35) kok_30 hVl0 (by decide) rfl fl_X6_76 rfl rfl dX6_blanks_32 rfl ?_
      refine ea_tops (fun S4 hS4 => ?_)
      replace h := h S4 hS4
      refine ea_goto (tgt := 0) dX6_blanks_35 (by decide) ?_
      exact h
theorem vm_X6_blanks {G : evG} {d : Nat} {q : evS → Prop} {x0 : Nat} {S : evS} (h : bk_X6_blanks_0 G d (evQV q) x0 S) : evSp G yX6_blanks M_X6_blanks d [.ref (evad G 30 x0)] S (evQV q) :=
  evSp.of (by decide +kernel) rfl (Nat.le_of_ble_eq_true rfl) h
abbrev bk_X6_takesLeg_0 (G : evG) (d : Nat) (Q : Option Value → evS → Prop) (x0 : Nat) (S : evS) : Prop := evAt G M_X6_takesLeg (evFm G (d + 1) Q) 0 [(0, .ref (evad G 30 x0))] [] S
abbrev bk_X6_takesLeg_27 (G : evG) (d : Nat) (Q : Option Value → evS → Prop) (x0 : Nat) (l1 : Int32) (l2 : Int32) (S : evS) : Prop := evAt G M_X6_takesLeg (evFm G (d + 1) Q) 27 [(0, .ref (evad G 30 x0)), (1, .int l1), (2, .int l2)] [] S
abbrev bk_X6_takesLeg_59 (G : evG) (d : Nat) (Q : Option Value → evS → Prop) (x0 : Nat) (l1 : Int32) (l2 : Int32) (s0 : Int32) (S : evS) : Prop := evAt G M_X6_takesLeg (evFm G (d + 1) Q) 59 [(0, .ref (evad G 30 x0)), (1, .int l1), (2, .int l2)] [.int s0] S
abbrev bk_X6_takesLeg_84 (G : evG) (d : Nat) (Q : Option Value → evS → Prop) (x0 : Nat) (l1 : Int32) (l2 : Int32) (xs0 : Nat) (s1 : Int32) (s2 : Int32) (S : evS) : Prop := evAt G M_X6_takesLeg (evFm G (d + 1) Q) 84 [(0, .ref (evad G 30 x0)), (1, .int l1), (2, .int l2)] [.int s2, .int s1, .ref (evad G 30 xs0)] S
set_option maxRecDepth 100000 in
set_option maxHeartbeats 4000000 in
theorem vb_X6_takesLeg_0 {G : evG} {d : Nat} {q : Int32 → evS → Prop} (hCl : evCl G) {x0 : Nat} {S : evS} (hVl0 : (30, x0) ∈ evKs G)
    (h : (∀ v1 : Int32, v1 = (S.1 40 0 0) → ((¬ v1 = 6 → (∀ S2 : evS, S2 = evup S 30 x0 10 ((S.1 30 x0 10) + 1) → bk_X6_takesLeg_27 G d (evQI q) x0 v1 0 S2)) ∧ (v1 = 6 → q 0 S)))) : bk_X6_takesLeg_0 G d (evQI q) x0 S := by
  refine ea_aload_n (pc' := 1) (i := 0) dX6_takesLeg_0 rfl 0 rfl rfl ?_
  refine ea_getr (k2 := 40) (x2 := 0) (kf := 9) (pc' := 4) kok_30 hVl0 (by decide) rfl fl_X6_29 rfl dX6_takesLeg_1 rfl ?_
  refine ea_iconst (v := 0) (pc' := 5) dX6_takesLeg_4 (by decide) rfl ?_
  refine ea_iald (j := 0) (pc' := 6) (hCl.1 30 x0 9 40 hVl0 rfl) rfl (by unfold vp_in; decide) dX6_takesLeg_5 (by decide) rfl ?_
  refine ea_topi (fun v1 hv1 => ?_)
  replace h := h v1 hv1
  refine ea_istore_n (lv' := [(1, .int v1), (0, .ref (evad G 30 x0))]) (pc' := 7) dX6_takesLeg_6 rfl (by decide) rfl rfl ?_
  refine ea_iload_n (pc' := 8) (i := 1) dX6_takesLeg_7 rfl 0 rfl rfl ?_
  refine ea_bipush (v := 6) (pc' := 10) dX6_takesLeg_8 (by decide) rfl ?_
  refine ea_icmp_ne (tgt := 15) (pc' := 13) dX6_takesLeg_10 (by decide) rfl (fun hc => ?_) (fun hc => ?_)
  · replace h := h.1 hc
    refine ea_aload_n (pc' := 16) (i := 0) dX6_takesLeg_15 rfl 1 rfl rfl ?_
    refine ea_dup (pc' := 17) dX6_takesLeg_16 rfl rfl ?_
    refine ea_geti (kf := 10) (pc' := 20) kok_30 hVl0 (by decide) rfl fl_X6_76 dX6_takesLeg_17 rfl ?_
    refine ea_iconst (v := 1) (pc' := 21) dX6_takesLeg_20 (by decide) rfl ?_
    refine ea_iadd (pc' := 22) dX6_takesLeg_21 rfl ?_
    refine ea_puti (kf := 10) (pc' := 25) kok_30 hVl0 (by decide) rfl fl_X6_76 rfl rfl dX6_takesLeg_22 rfl ?_
    refine ea_tops (fun S2 hS2 => ?_)
    replace h := h S2 hS2
    refine ea_iconst (v := 0) (pc' := 26) dX6_takesLeg_25 (by decide) rfl ?_
    refine ea_istore_n (lv' := [(2, .int 0), (1, .int v1), (0, .ref (evad G 30 x0))]) (pc' := 27) dX6_takesLeg_26 rfl (by decide) rfl rfl ?_
    refine ea_loc [2, 1, 0] rfl ?_
    exact h
  · replace h := h.2 hc
    refine ea_iconst (v := 0) (pc' := 14) dX6_takesLeg_13 (by decide) rfl ?_
    exact ea_zret rfl dX6_takesLeg_14 (by decide) ⟨_, rfl, h⟩
set_option maxRecDepth 100000 in
set_option maxHeartbeats 4000000 in
theorem vb_X6_takesLeg_27 {G : evG} {d : Nat} {q : Int32 → evS → Prop} (hCl : evCl G) {x0 : Nat} {l1 : Int32} {l2 : Int32} {S : evS} (hVl0 : (30, x0) ∈ evKs G)
    (h : ((4 ≤ l2 → (∀ S1 : evS, S1 = evup S 40 0 0 ((S.1 40 0 0) + 1) → (evSp G yX6_takesStop M_X6_takesStop d [.ref (evad G 30 x0)] S1 (evQI fun r2 S3 => ((r2 = 0 ∨ r2 = 1) ∧ q r2 S3))))) ∧ (¬ 4 ≤ l2 → ((¬ l2 = 0 → ((¬ l2 = 3 → bk_X6_takesLeg_59 G d (evQI q) x0 l1 l2 0 S) ∧ (l2 = 3 → (evSp G yX6_legPlace M_X6_legPlace d [.int l1, .int 2] S (evQI fun r5 S6 => (vp_in r5 33 ∧ bk_X6_takesLeg_59 G d (evQI q) x0 l1 l2 (S6.1 40 0 r5.toNatClampNeg) S6)))))) ∧ (l2 = 0 → bk_X6_takesLeg_59 G d (evQI q) x0 l1 l2 1 S))))) : bk_X6_takesLeg_27 G d (evQI q) x0 l1 l2 S := by
  refine ea_iload_n (pc' := 28) (i := 2) dX6_takesLeg_27 rfl 2 rfl rfl ?_
  refine ea_iconst (v := 4) (pc' := 29) dX6_takesLeg_28 (by decide) rfl ?_
  refine ea_icmp_ge (tgt := 112) (pc' := 32) dX6_takesLeg_29 (by decide) rfl (fun hc => ?_) (fun hc => ?_)
  · replace h := h.1 hc
    refine ea_aload_n (pc' := 113) (i := 0) dX6_takesLeg_112 rfl 0 rfl rfl ?_
    refine ea_getr (k2 := 40) (x2 := 0) (kf := 9) (pc' := 116) kok_30 hVl0 (by decide) rfl fl_X6_29 rfl dX6_takesLeg_113 rfl ?_
    refine ea_iconst (v := 0) (pc' := 117) dX6_takesLeg_116 (by decide) rfl ?_
    refine ea_dup2 (pc' := 118) dX6_takesLeg_117 rfl rfl rfl ?_
    refine ea_iald (j := 0) (pc' := 119) (hCl.1 30 x0 9 40 hVl0 rfl) rfl (by unfold vp_in; decide) dX6_takesLeg_118 (by decide) rfl ?_
    refine ea_iconst (v := 1) (pc' := 120) dX6_takesLeg_119 (by decide) rfl ?_
    refine ea_iadd (pc' := 121) dX6_takesLeg_120 rfl ?_
    refine ea_iast (j := 0) (pc' := 122) (hCl.1 30 x0 9 40 hVl0 rfl) rfl (by unfold vp_in; decide) dX6_takesLeg_121 (by decide) rfl ?_
    refine ea_tops (fun S1 hS1 => ?_)
    replace h := h S1 hS1
    refine ea_aload_n (pc' := 123) (i := 0) dX6_takesLeg_122 rfl 0 rfl rfl ?_
    refine ea_cvi (As := []) (st := []) (d := d) (pc' := 126) mv_X6_takesStop ml_X6_95 kok_30 hVl0 rfl rfl dX6_takesLeg_123 rfl (Nat.le_of_ble_eq_true rfl) (ev_room (by decide)) ⟨Nat.le_refl _, Nat.le_refl _⟩ h rfl (fun r2 S3 h => ?_)
    obtain ⟨o4, h⟩ := h
    exact ea_zret rfl dX6_takesLeg_126 o4 ⟨_, rfl, h⟩
  · replace h := h.2 hc
    refine ea_iload_n (pc' := 33) (i := 2) dX6_takesLeg_32 rfl 2 rfl rfl ?_
    refine ea_if_ne (tgt := 40) (pc' := 36) dX6_takesLeg_33 (by decide) rfl (fun hc => ?_) (fun hc => ?_)
    · replace h := h.1 hc
      refine ea_iload_n (pc' := 41) (i := 2) dX6_takesLeg_40 rfl 2 rfl rfl ?_
      refine ea_iconst (v := 3) (pc' := 42) dX6_takesLeg_41 (by decide) rfl ?_
      refine ea_icmp_ne (tgt := 58) (pc' := 45) dX6_takesLeg_42 (by decide) rfl (fun hc => ?_) (fun hc => ?_)
      · replace h := h.1 hc
        refine ea_iconst (v := 0) (pc' := 59) dX6_takesLeg_58 (by decide) rfl ?_
        exact h
      · replace h := h.2 hc
        refine ea_aload_n (pc' := 46) (i := 0) dX6_takesLeg_45 rfl 0 rfl rfl ?_
        refine ea_getr (k2 := 40) (x2 := 0) (kf := 9) (pc' := 49) kok_30 hVl0 (by decide) rfl fl_X6_29 rfl dX6_takesLeg_46 rfl ?_
        refine ea_iload_n (pc' := 50) (i := 1) dX6_takesLeg_49 rfl 1 rfl rfl ?_
        refine ea_iconst (v := 2) (pc' := 51) dX6_takesLeg_50 (by decide) rfl ?_
        refine ea_csi (As := [.int l1, .int 2]) (st := [.ref (evad G 40 0)]) (d := d) (pc' := 54) mv_X6_legPlace ml_X6_66 rfl dX6_takesLeg_51 rfl (Nat.le_of_ble_eq_true rfl) (ev_room (by decide)) ⟨Nat.le_refl _, Nat.le_refl _⟩ h rfl (fun r5 S6 h => ?_)
        obtain ⟨o7, h⟩ := h
        refine ea_iald (j := r5.toNatClampNeg) (pc' := 55) (hCl.1 30 x0 9 40 hVl0 rfl) rfl o7 dX6_takesLeg_54 rfl rfl ?_
        refine ea_goto (tgt := 59) dX6_takesLeg_55 (by decide) ?_
        exact h
    · replace h := h.2 hc
      refine ea_iconst (v := 1) (pc' := 37) dX6_takesLeg_36 (by decide) rfl ?_
      refine ea_goto (tgt := 59) dX6_takesLeg_37 (by decide) ?_
      exact h
set_option maxRecDepth 100000 in
set_option maxHeartbeats 4000000 in
theorem vb_X6_takesLeg_59 {G : evG} {d : Nat} {q : Int32 → evS → Prop} (hCl : evCl G) {x0 : Nat} {l1 : Int32} {l2 : Int32} {s0 : Int32} {S : evS} (hVl0 : (30, x0) ∈ evKs G)
    (h : ((¬ l2 = 0 → ((¬ l2 = 1 → bk_X6_takesLeg_84 G d (evQI q) x0 l1 l2 x0 s0 999 S) ∧ (l2 = 1 → bk_X6_takesLeg_84 G d (evQI q) x0 l1 l2 x0 s0 9 S))) ∧ (l2 = 0 → bk_X6_takesLeg_84 G d (evQI q) x0 l1 l2 x0 s0 99 S))) : bk_X6_takesLeg_59 G d (evQI q) x0 l1 l2 s0 S := by
  refine ea_istore_n (lv' := [(3, .int s0), (0, .ref (evad G 30 x0)), (1, .int l1), (2, .int l2)]) (pc' := 60) dX6_takesLeg_59 rfl (by decide) rfl rfl ?_
  refine ea_aload_n (pc' := 61) (i := 0) dX6_takesLeg_60 rfl 1 rfl rfl ?_
  refine ea_iload_n (pc' := 62) (i := 3) dX6_takesLeg_61 rfl 0 rfl rfl ?_
  refine ea_iload_n (pc' := 63) (i := 2) dX6_takesLeg_62 rfl 3 rfl rfl ?_
  refine ea_if_ne (tgt := 71) (pc' := 66) dX6_takesLeg_63 (by decide) rfl (fun hc => ?_) (fun hc => ?_)
  · replace h := h.1 hc
    refine ea_iload_n (pc' := 72) (i := 2) dX6_takesLeg_71 rfl 3 rfl rfl ?_
    refine ea_iconst (v := 1) (pc' := 73) dX6_takesLeg_72 (by decide) rfl ?_
    refine ea_icmp_ne (tgt := 81) (pc' := 76) dX6_takesLeg_73 (by decide) rfl (fun hc => ?_) (fun hc => ?_)
    · replace h := h.1 hc
      refine ea_sipush (v := 999) (pc' := 84) dX6_takesLeg_81 (by decide) rfl ?_
      refine ea_loc [1, 2, 3] rfl ?_
      exact h
    · replace h := h.2 hc
      refine ea_bipush (v := 9) (pc' := 78) dX6_takesLeg_76 (by decide) rfl ?_
      refine ea_goto (tgt := 84) dX6_takesLeg_78 (by decide) ?_
      refine ea_loc [1, 2, 3] rfl ?_
      exact h
  · replace h := h.2 hc
    refine ea_bipush (v := 99) (pc' := 68) dX6_takesLeg_66 (by decide) rfl ?_
    refine ea_goto (tgt := 84) dX6_takesLeg_68 (by decide) ?_
    refine ea_loc [1, 2, 3] rfl ?_
    exact h
set_option maxRecDepth 100000 in
set_option maxHeartbeats 4000000 in
theorem vb_X6_takesLeg_84 {G : evG} {d : Nat} {q : Int32 → evS → Prop} (hCl : evCl G) {x0 : Nat} {l1 : Int32} {l2 : Int32} {xs0 : Nat} {s1 : Int32} {s2 : Int32} {S : evS} (hVl0 : (30, x0) ∈ evKs G) (hVs0 : (30, xs0) ∈ evKs G)
    (h : (evSp G yX6_takesNumber M_X6_takesNumber d [.ref (evad G 30 xs0), .int s1, .int s2] S (evQI fun r1 S2 => ((¬ r1 = 0 → (evSp G yX6_legPlace M_X6_legPlace d [.int l1, .int l2] S2 (evQI fun r3 S4 => (vp_in r3 33 ∧ (∀ S6 : evS, S6 = evup S4 40 0 r3.toNatClampNeg (S4.1 30 x0 12) → (∀ v7 : Int32, v7 = (l2 + 1) → bk_X6_takesLeg_27 G d (evQI q) x0 l1 v7 S6)))))) ∧ (r1 = 0 → q 0 S2))))) : bk_X6_takesLeg_84 G d (evQI q) x0 l1 l2 xs0 s1 s2 S := by
  refine ea_cvi (As := [.int s1, .int s2]) (st := []) (d := d) (pc' := 87) mv_X6_takesNumber ml_X6_92 kok_30 hVs0 rfl rfl dX6_takesLeg_84 rfl (Nat.le_of_ble_eq_true rfl) (ev_room (by decide)) ⟨Nat.le_refl _, Nat.le_refl _⟩ h rfl (fun r1 S2 h => ?_)
  refine ea_if_ne (tgt := 92) (pc' := 90) dX6_takesLeg_87 (by decide) rfl (fun hc => ?_) (fun hc => ?_)
  · replace h := h.1 hc
    refine ea_aload_n (pc' := 93) (i := 0) dX6_takesLeg_92 rfl 0 rfl rfl ?_
    refine ea_getr (k2 := 40) (x2 := 0) (kf := 9) (pc' := 96) kok_30 hVl0 (by decide) rfl fl_X6_29 rfl dX6_takesLeg_93 rfl ?_
    refine ea_iload_n (pc' := 97) (i := 1) dX6_takesLeg_96 rfl 1 rfl rfl ?_
    refine ea_iload_n (pc' := 98) (i := 2) dX6_takesLeg_97 rfl 2 rfl rfl ?_
    refine ea_csi (As := [.int l1, .int l2]) (st := [.ref (evad G 40 0)]) (d := d) (pc' := 101) mv_X6_legPlace ml_X6_66 rfl dX6_takesLeg_98 rfl (Nat.le_of_ble_eq_true rfl) (ev_room (by decide)) ⟨Nat.le_refl _, Nat.le_refl _⟩ h rfl (fun r3 S4 h => ?_)
    refine ea_aload_n (pc' := 102) (i := 0) dX6_takesLeg_101 rfl 0 rfl rfl ?_
    refine ea_geti (kf := 12) (pc' := 105) kok_30 hVl0 (by decide) rfl fl_X6_85 dX6_takesLeg_102 rfl ?_
    obtain ⟨o5, h⟩ := h
    refine ea_iast (j := r3.toNatClampNeg) (pc' := 106) (hCl.1 30 x0 9 40 hVl0 rfl) rfl o5 dX6_takesLeg_105 rfl rfl ?_
    refine ea_tops (fun S6 hS6 => ?_)
    replace h := h S6 hS6
    obtain ⟨v7, hv7⟩ : ∃ z : Int32, z = (l2 + 1) := ⟨_, rfl⟩
    replace h := h v7 hv7
    refine ea_iinc (q := 2) (v := v7) (lv' := [(2, .int v7), (0, .ref (evad G 30 x0)), (1, .int l1)]) (pc' := 109) dX6_takesLeg_106 rfl (by rw [hv7]; rfl) (by decide) rfl rfl ?_
    refine ea_goto (tgt := 27) dX6_takesLeg_109 (by decide) ?_
    refine ea_loc [1, 2, 0] rfl ?_
    exact h
  · replace h := h.2 hc
    refine ea_iconst (v := 0) (pc' := 91) dX6_takesLeg_90 (by decide) rfl ?_
    exact ea_zret rfl dX6_takesLeg_91 (by decide) ⟨_, rfl, h⟩
theorem vm_X6_takesLeg {G : evG} {d : Nat} {q : Int32 → evS → Prop} {x0 : Nat} {S : evS} (h : bk_X6_takesLeg_0 G d (evQI q) x0 S) : evSp G yX6_takesLeg M_X6_takesLeg (d + 1) [.ref (evad G 30 x0)] S (evQI q) :=
  evSp.of (by decide +kernel) rfl (Nat.le_of_ble_eq_true rfl) h
abbrev bk_X6_legPlace_0 (G : evG) (d : Nat) (Q : Option Value → evS → Prop) (l0 : Int32) (l1 : Int32) (S : evS) : Prop := evAt G M_X6_legPlace (evFm G d Q) 0 [(0, .int l0), (1, .int l1)] [] S
set_option maxRecDepth 100000 in
set_option maxHeartbeats 4000000 in
theorem vb_X6_legPlace_0 {G : evG} {d : Nat} {q : Int32 → evS → Prop} (hCl : evCl G) {l0 : Int32} {l1 : Int32} {S : evS}
    (h : q ((9 + (4 * l0)) + l1) S) : bk_X6_legPlace_0 G d (evQI q) l0 l1 S := by
  refine ea_bipush (v := 9) (pc' := 2) dX6_legPlace_0 (by decide) rfl ?_
  refine ea_iconst (v := 4) (pc' := 3) dX6_legPlace_2 (by decide) rfl ?_
  refine ea_iload_n (pc' := 4) (i := 0) dX6_legPlace_3 rfl 0 rfl rfl ?_
  refine ea_imul (pc' := 5) dX6_legPlace_4 rfl ?_
  refine ea_iadd (pc' := 6) dX6_legPlace_5 rfl ?_
  refine ea_iload_n (pc' := 7) (i := 1) dX6_legPlace_6 rfl 1 rfl rfl ?_
  refine ea_iadd (pc' := 8) dX6_legPlace_7 rfl ?_
  exact ea_iret rfl dX6_legPlace_8 ⟨_, rfl, h⟩
theorem vm_X6_legPlace {G : evG} {d : Nat} {q : Int32 → evS → Prop} {l0 : Int32} {l1 : Int32} {S : evS} (h : bk_X6_legPlace_0 G d (evQI q) l0 l1 S) : evSp G yX6_legPlace M_X6_legPlace d [.int l0, .int l1] S (evQI q) :=
  evSp.of (by decide +kernel) rfl (Nat.le_of_ble_eq_true rfl) h
abbrev bk_X6_takesNumber_0 (G : evG) (d : Nat) (Q : Option Value → evS → Prop) (x0 : Nat) (l1 : Int32) (l2 : Int32) (S : evS) : Prop := evAt G M_X6_takesNumber (evFm G (d + 1) Q) 0 [(0, .ref (evad G 30 x0)), (1, .int l1), (2, .int l2)] [] S
abbrev bk_X6_takesNumber_9 (G : evG) (d : Nat) (Q : Option Value → evS → Prop) (x0 : Nat) (l1 : Int32) (l2 : Int32) (S : evS) : Prop := evAt G M_X6_takesNumber (evFm G (d + 1) Q) 9 [(0, .ref (evad G 30 x0)), (1, .int l1), (2, .int l2)] [] S
abbrev bk_X6_takesNumber_57 (G : evG) (d : Nat) (Q : Option Value → evS → Prop) (x0 : Nat) (l1 : Int32) (l2 : Int32) (xs0 : Nat) (s1 : Int32) (S : evS) : Prop := evAt G M_X6_takesNumber (evFm G (d + 1) Q) 57 [(0, .ref (evad G 30 x0)), (1, .int l1), (2, .int l2)] [.int s1, .ref (evad G 30 xs0)] S
abbrev bk_X6_takesNumber_111 (G : evG) (d : Nat) (Q : Option Value → evS → Prop) (x0 : Nat) (l1 : Int32) (l2 : Int32) (S : evS) : Prop := evAt G M_X6_takesNumber (evFm G (d + 1) Q) 111 [(0, .ref (evad G 30 x0)), (1, .int l1), (2, .int l2)] [] S
abbrev bk_X6_takesNumber_115 (G : evG) (d : Nat) (Q : Option Value → evS → Prop) (x0 : Nat) (l1 : Int32) (l2 : Int32) (S : evS) : Prop := evAt G M_X6_takesNumber (evFm G (d + 1) Q) 115 [(0, .ref (evad G 30 x0)), (1, .int l1), (2, .int l2)] [] S
abbrev bk_X6_takesNumber_116 (G : evG) (d : Nat) (Q : Option Value → evS → Prop) (x0 : Nat) (l1 : Int32) (l2 : Int32) (s0 : Int32) (S : evS) : Prop := evAt G M_X6_takesNumber (evFm G (d + 1) Q) 116 [(0, .ref (evad G 30 x0)), (1, .int l1), (2, .int l2)] [.int s0] S
set_option maxRecDepth 100000 in
set_option maxHeartbeats 4000000 in
theorem vb_X6_takesNumber_0 {G : evG} {d : Nat} {q : Int32 → evS → Prop} (hCl : evCl G) {x0 : Nat} {l1 : Int32} {l2 : Int32} {S : evS} (hVl0 : (30, x0) ∈ evKs G)
    (h : (evSp G yX6_blanks M_X6_blanks d [.ref (evad G 30 x0)] S (evQV fun S1 => (∀ S2 : evS, S2 = evup S1 30 x0 12 0 → bk_X6_takesNumber_9 G d (evQI q) x0 l1 l2 S2)))) : bk_X6_takesNumber_0 G d (evQI q) x0 l1 l2 S := by
  refine ea_aload_n (pc' := 1) (i := 0) dX6_takesNumber_0 rfl 0 rfl rfl ?_
  refine ea_cvv (As := []) (st := []) (d := d) (pc' := 4) mv_X6_blanks ml_X6_82 kok_30 hVl0 rfl rfl dX6_takesNumber_1 rfl (Nat.le_of_ble_eq_true rfl) (ev_room (by decide)) ⟨Nat.le_refl _, Nat.le_refl _⟩ h rfl (fun S1 h => ?_)
  refine ea_aload_n (pc' := 5) (i := 0) dX6_takesNumber_4 rfl 0 rfl rfl ?_
  refine ea_iconst (v := 0) (pc' := 6) dX6_takesNumber_5 (by decide) rfl ?_
  refine ea_puti (kf := 12) (pc' := 9) kok_30 hVl0 (by decide) rfl fl_X6_85 rfl rfl dX6_takesNumber_6 rfl ?_
  refine ea_tops (fun S2 hS2 => ?_)
  replace h := h S2 hS2
  exact h
set_option maxRecDepth 100000 in
set_option maxHeartbeats 4000000 in
theorem vb_X6_takesNumber_9 {G : evG} {d : Nat} {q : Int32 → evS → Prop} (hCl : evCl G) {x0 : Nat} {l1 : Int32} {l2 : Int32} {S : evS} (hVl0 : (30, x0) ∈ evKs G)
    (h : (evSp G yX6_isAt M_X6_isAt d [.ref (evad G 30 x0), .int 48, .int 57] S (evQI fun r1 S2 => ((r1 = 0 → (((S2.1 30 x0 10) = ((S2.1 30 x0 11) + 1) → bk_X6_takesNumber_111 G d (evQI q) x0 l1 l2 S2) ∧ (¬ (S2.1 30 x0 10) = ((S2.1 30 x0 11) + 1) → (((S2.1 30 x0 10) ≤ (S2.1 30 x0 11) → bk_X6_takesNumber_115 G d (evQI q) x0 l1 l2 S2) ∧ (¬ (S2.1 30 x0 10) ≤ (S2.1 30 x0 11) → (vp_in (S2.1 30 x0 11) 150 ∧ (((S2.1 36 0 ((S2.1 30 x0 11).toNatClampNeg)) = 48 → bk_X6_takesNumber_115 G d (evQI q) x0 l1 l2 S2) ∧ (¬ (S2.1 36 0 ((S2.1 30 x0 11).toNatClampNeg)) = 48 → bk_X6_takesNumber_111 G d (evQI q) x0 l1 l2 S2)))))))) ∧ (¬ r1 = 0 → (((S2.1 30 x0 12) ≤ 999 → (vp_in (S2.1 30 x0 10) 150 ∧ bk_X6_takesNumber_57 G d (evQI q) x0 l1 l2 x0 (((10 * (S2.1 30 x0 12)) + (S2.1 36 0 ((S2.1 30 x0 10).toNatClampNeg))) - 48) S2)) ∧ (¬ (S2.1 30 x0 12) ≤ 999 → bk_X6_takesNumber_57 G d (evQI q) x0 l1 l2 x0 1000 S2))))))) : bk_X6_takesNumber_9 G d (evQI q) x0 l1 l2 S := by
  refine ea_aload_n (pc' := 10) (i := 0) dX6_takesNumber_9 rfl 0 rfl rfl ?_
  refine ea_bipush (v := 48) (pc' := 12) dX6_takesNumber_10 (by decide) rfl ?_
  refine ea_bipush (v := 57) (pc' := 14) dX6_takesNumber_12 (by decide) rfl ?_
  refine ea_cvi (As := [.int 48, .int 57]) (st := []) (d := d) (pc' := 17) mv_X6_isAt ml_X6_88 kok_30 hVl0 rfl rfl dX6_takesNumber_14 rfl (Nat.le_of_ble_eq_true rfl) (ev_room (by decide)) ⟨Nat.le_refl _, Nat.le_refl _⟩ h rfl (fun r1 S2 h => ?_)
  refine ea_if_eq (tgt := 73) (pc' := 20) dX6_takesNumber_17 (by decide) rfl (fun hc => ?_) (fun hc => ?_)
  · replace h := h.1 hc
    refine ea_aload_n (pc' := 74) (i := 0) dX6_takesNumber_73 rfl 0 rfl rfl ?_
    refine ea_geti (kf := 10) (pc' := 77) kok_30 hVl0 (by decide) rfl fl_X6_76 dX6_takesNumber_74 rfl ?_
    refine ea_aload_n (pc' := 78) (i := 0) dX6_takesNumber_77 rfl 0 rfl rfl ?_
    refine ea_geti (kf := 11) (pc' := 81) kok_30 hVl0 (by decide) rfl fl_X6_79 dX6_takesNumber_78 rfl ?_
    refine ea_iconst (v := 1) (pc' := 82) dX6_takesNumber_81 (by decide) rfl ?_
    refine ea_iadd (pc' := 83) dX6_takesNumber_82 rfl ?_
    refine ea_icmp_eq (tgt := 111) (pc' := 86) dX6_takesNumber_83 (by decide) rfl (fun hc => ?_) (fun hc => ?_)
    · replace h := h.1 hc
      exact h
    · replace h := h.2 hc
      refine ea_aload_n (pc' := 87) (i := 0) dX6_takesNumber_86 rfl 0 rfl rfl ?_
      refine ea_geti (kf := 10) (pc' := 90) kok_30 hVl0 (by decide) rfl fl_X6_76 dX6_takesNumber_87 rfl ?_
      refine ea_aload_n (pc' := 91) (i := 0) dX6_takesNumber_90 rfl 0 rfl rfl ?_
      refine ea_geti (kf := 11) (pc' := 94) kok_30 hVl0 (by decide) rfl fl_X6_79 dX6_takesNumber_91 rfl ?_
      refine ea_icmp_le (tgt := 115) (pc' := 97) dX6_takesNumber_94 (by decide) rfl (fun hc => ?_) (fun hc => ?_)
      · replace h := h.1 hc
        exact h
      · replace h := h.2 hc
        refine ea_aload_n (pc' := 98) (i := 0) dX6_takesNumber_97 rfl 0 rfl rfl ?_
        refine ea_getr (k2 := 36) (x2 := 0) (kf := 5) (pc' := 101) kok_30 hVl0 (by decide) rfl fl_X6_23 rfl dX6_takesNumber_98 rfl ?_
        refine ea_aload_n (pc' := 102) (i := 0) dX6_takesNumber_101 rfl 0 rfl rfl ?_
        refine ea_geti (kf := 11) (pc' := 105) kok_30 hVl0 (by decide) rfl fl_X6_79 dX6_takesNumber_102 rfl ?_
        obtain ⟨o3, h⟩ := h
        refine ea_iald (j := (S2.1 30 x0 11).toNatClampNeg) (pc' := 106) (hCl.1 30 x0 5 36 hVl0 rfl) rfl o3 dX6_takesNumber_105 rfl rfl ?_
        refine ea_bipush (v := 48) (pc' := 108) dX6_takesNumber_106 (by decide) rfl ?_
        refine ea_icmp_eq (tgt := 115) (pc' := 111) dX6_takesNumber_108 (by decide) rfl (fun hc => ?_) (fun hc => ?_)
        · replace h := h.1 hc
          exact h
        · replace h := h.2 hc
          exact h
  · replace h := h.2 hc
    refine ea_aload_n (pc' := 21) (i := 0) dX6_takesNumber_20 rfl 0 rfl rfl ?_
    refine ea_aload_n (pc' := 22) (i := 0) dX6_takesNumber_21 rfl 0 rfl rfl ?_
    refine ea_geti (kf := 12) (pc' := 25) kok_30 hVl0 (by decide) rfl fl_X6_85 dX6_takesNumber_22 rfl ?_
    refine ea_sipush (v := 999) (pc' := 28) dX6_takesNumber_25 (by decide) rfl ?_
    refine ea_icmp_le (tgt := 37) (pc' := 31) dX6_takesNumber_28 (by decide) rfl (fun hc => ?_) (fun hc => ?_)
    · replace h := h.1 hc
      refine ea_bipush (v := 10) (pc' := 39) dX6_takesNumber_37 (by decide) rfl ?_
      refine ea_aload_n (pc' := 40) (i := 0) dX6_takesNumber_39 rfl 0 rfl rfl ?_
      refine ea_geti (kf := 12) (pc' := 43) kok_30 hVl0 (by decide) rfl fl_X6_85 dX6_takesNumber_40 rfl ?_
      refine ea_imul (pc' := 44) dX6_takesNumber_43 rfl ?_
      refine ea_aload_n (pc' := 45) (i := 0) dX6_takesNumber_44 rfl 0 rfl rfl ?_
      refine ea_getr (k2 := 36) (x2 := 0) (kf := 5) (pc' := 48) kok_30 hVl0 (by decide) rfl fl_X6_23 rfl dX6_takesNumber_45 rfl ?_
      refine ea_aload_n (pc' := 49) (i := 0) dX6_takesNumber_48 rfl 0 rfl rfl ?_
      refine ea_geti (kf := 10) (pc' := 52) kok_30 hVl0 (by decide) rfl fl_X6_76 dX6_takesNumber_49 rfl ?_
      obtain ⟨o4, h⟩ := h
      refine ea_iald (j := (S2.1 30 x0 10).toNatClampNeg) (pc' := 53) (hCl.1 30 x0 5 36 hVl0 rfl) rfl o4 dX6_takesNumber_52 rfl rfl ?_
      refine ea_iadd (pc' := 54) dX6_takesNumber_53 rfl ?_
      refine ea_bipush (v := 48) (pc' := 56) dX6_takesNumber_54 (by decide) rfl ?_
      refine ea_isub (pc' := 57) dX6_takesNumber_56 rfl ?_
      exact h
    · replace h := h.2 hc
      refine ea_sipush (v := 1000) (pc' := 34) dX6_takesNumber_31 (by decide) rfl ?_
      refine ea_goto (tgt := 57) dX6_takesNumber_34 (by decide) ?_
      exact h
set_option maxRecDepth 100000 in
set_option maxHeartbeats 4000000 in
theorem vb_X6_takesNumber_57 {G : evG} {d : Nat} {q : Int32 → evS → Prop} (hCl : evCl G) {x0 : Nat} {l1 : Int32} {l2 : Int32} {xs0 : Nat} {s1 : Int32} {S : evS} (hVl0 : (30, x0) ∈ evKs G) (hVs0 : (30, xs0) ∈ evKs G)
    (h : (∀ S1 : evS, S1 = evup S 30 xs0 12 s1 → (∀ S2 : evS, S2 = evup S1 30 x0 10 ((S1.1 30 x0 10) + 1) → bk_X6_takesNumber_9 G d (evQI q) x0 l1 l2 S2))) : bk_X6_takesNumber_57 G d (evQI q) x0 l1 l2 xs0 s1 S := by
  refine ea_puti (kf := 12) (pc' := 60) kok_30 hVs0 (by decide) rfl fl_X6_85 rfl rfl dX6_takesNumber_57 rfl ?_
  refine ea_tops (fun S1 hS1 => ?_)
  replace h := h S1 hS1
  refine ea_aload_n (pc' := 61) (i := 0) dX6_takesNumber_60 rfl 0 rfl rfl ?_
  refine ea_dup (pc' := 62) dX6_takesNumber_61 rfl rfl ?_
  refine ea_geti (kf := 10) (pc' := 65) kok_30 hVl0 (by decide) rfl fl_X6_76 dX6_takesNumber_62 rfl ?_
  refine ea_iconst (v := 1) (pc' := 66) dX6_takesNumber_65 (by decide) rfl ?_
  refine ea_iadd (pc' := 67) dX6_takesNumber_66 rfl ?_
  refine ea_puti (kf := 10) (pc' := 70) kok_30 hVl0 (by decide) rfl fl_X6_76 rfl rfl dX6_takesNumber_67 rfl ?_
  refine ea_tops (fun S2 hS2 => ?_)
  replace h := h S2 hS2
  refine ea_goto (tgt := 9) dX6_takesNumber_70 (by decide) ?_
  exact h
set_option maxRecDepth 100000 in
set_option maxHeartbeats 4000000 in
theorem vb_X6_takesNumber_111 {G : evG} {d : Nat} {q : Int32 → evS → Prop} (hCl : evCl G) {x0 : Nat} {l1 : Int32} {l2 : Int32} {S : evS} (hVl0 : (30, x0) ∈ evKs G)
    (h : bk_X6_takesNumber_116 G d (evQI q) x0 l1 l2 1 S) : bk_X6_takesNumber_111 G d (evQI q) x0 l1 l2 S := by
  refine ea_iconst (v := 1) (pc' := 112) dX6_takesNumber_111 (by decide) rfl ?_
  refine ea_goto (tgt := 116) dX6_takesNumber_112 (by decide) ?_
  exact h
set_option maxRecDepth 100000 in
set_option maxHeartbeats 4000000 in
theorem vb_X6_takesNumber_115 {G : evG} {d : Nat} {q : Int32 → evS → Prop} (hCl : evCl G) {x0 : Nat} {l1 : Int32} {l2 : Int32} {S : evS} (hVl0 : (30, x0) ∈ evKs G)
    (h : bk_X6_takesNumber_116 G d (evQI q) x0 l1 l2 0 S) : bk_X6_takesNumber_115 G d (evQI q) x0 l1 l2 S := by
  refine ea_iconst (v := 0) (pc' := 116) dX6_takesNumber_115 (by decide) rfl ?_
  exact h
set_option maxRecDepth 100000 in
set_option maxHeartbeats 4000000 in
theorem vb_X6_takesNumber_116 {G : evG} {d : Nat} {q : Int32 → evS → Prop} (hCl : evCl G) {x0 : Nat} {l1 : Int32} {l2 : Int32} {s0 : Int32} {S : evS} (hVl0 : (30, x0) ∈ evKs G)
    (h : ((s0 = 0 → q 0 S) ∧ (¬ s0 = 0 → (evSp G yX6_in M_X6_in d [.int (S.1 30 x0 12), .int l1, .int l2] S (evQI fun r1 S2 => ((r1 = 0 → q 0 S2) ∧ (¬ r1 = 0 → ((999 < (S2.1 30 x0 12) → q 0 S2) ∧ (¬ 999 < (S2.1 30 x0 12) → q 1 S2))))))))) : bk_X6_takesNumber_116 G d (evQI q) x0 l1 l2 s0 S := by
  refine ea_istore_n (lv' := [(3, .int s0), (0, .ref (evad G 30 x0)), (1, .int l1), (2, .int l2)]) (pc' := 117) dX6_takesNumber_116 rfl (by decide) rfl rfl ?_
  refine ea_iload_n (pc' := 118) (i := 3) dX6_takesNumber_117 rfl 0 rfl rfl ?_
  refine ea_if_eq (tgt := 147) (pc' := 121) dX6_takesNumber_118 (by decide) rfl (fun hc => ?_) (fun hc => ?_)
  · replace h := h.1 hc
    refine ea_iconst (v := 0) (pc' := 148) dX6_takesNumber_147 (by decide) rfl ?_
    exact ea_zret rfl dX6_takesNumber_148 (by decide) ⟨_, rfl, h⟩
  · replace h := h.2 hc
    refine ea_aload_n (pc' := 122) (i := 0) dX6_takesNumber_121 rfl 1 rfl rfl ?_
    refine ea_geti (kf := 12) (pc' := 125) kok_30 hVl0 (by decide) rfl fl_X6_85 dX6_takesNumber_122 rfl ?_
    refine ea_iload_n (pc' := 126) (i := 1) dX6_takesNumber_125 rfl 2 rfl rfl ?_
    refine ea_iload_n (pc' := 127) (i := 2) dX6_takesNumber_126 rfl 3 rfl rfl ?_
    refine ea_csi (As := [.int (S.1 30 x0 12), .int l1, .int l2]) (st := []) (d := d) (pc' := 130) mv_X6_in ml_X6_62 rfl dX6_takesNumber_127 rfl (Nat.le_of_ble_eq_true rfl) (ev_room (by decide)) ⟨Nat.le_refl _, Nat.le_refl _⟩ h rfl (fun r1 S2 h => ?_)
    refine ea_if_eq (tgt := 147) (pc' := 133) dX6_takesNumber_130 (by decide) rfl (fun hc => ?_) (fun hc => ?_)
    · replace h := h.1 hc
      refine ea_iconst (v := 0) (pc' := 148) dX6_takesNumber_147 (by decide) rfl ?_
      exact ea_zret rfl dX6_takesNumber_148 (by decide) ⟨_, rfl, h⟩
    · replace h := h.2 hc
      refine ea_aload_n (pc' := 134) (i := 0) dX6_takesNumber_133 rfl 1 rfl rfl ?_
      refine ea_geti (kf := 12) (pc' := 137) kok_30 hVl0 (by decide) rfl fl_X6_85 dX6_takesNumber_134 rfl ?_
      refine ea_sipush (v := 999) (pc' := 140) dX6_takesNumber_137 (by decide) rfl ?_
      refine ea_icmp_gt (tgt := 147) (pc' := 143) dX6_takesNumber_140 (by decide) rfl (fun hc => ?_) (fun hc => ?_)
      · replace h := h.1 hc
        refine ea_iconst (v := 0) (pc' := 148) dX6_takesNumber_147 (by decide) rfl ?_
        exact ea_zret rfl dX6_takesNumber_148 (by decide) ⟨_, rfl, h⟩
      · replace h := h.2 hc
        refine ea_iconst (v := 1) (pc' := 144) dX6_takesNumber_143 (by decide) rfl ?_
        refine ea_goto (tgt := 148) dX6_takesNumber_144 (by decide) ?_
        exact ea_zret rfl dX6_takesNumber_148 (by decide) ⟨_, rfl, h⟩
theorem vm_X6_takesNumber {G : evG} {d : Nat} {q : Int32 → evS → Prop} {x0 : Nat} {l1 : Int32} {l2 : Int32} {S : evS} (h : bk_X6_takesNumber_0 G d (evQI q) x0 l1 l2 S) : evSp G yX6_takesNumber M_X6_takesNumber (d + 1) [.ref (evad G 30 x0), .int l1, .int l2] S (evQI q) :=
  evSp.of (by decide +kernel) rfl (Nat.le_of_ble_eq_true rfl) h
abbrev bk_X6_isAt_0 (G : evG) (d : Nat) (Q : Option Value → evS → Prop) (x0 : Nat) (l1 : Int32) (l2 : Int32) (S : evS) : Prop := evAt G M_X6_isAt (evFm G (d + 1) Q) 0 [(0, .ref (evad G 30 x0)), (1, .int l1), (2, .int l2)] [] S
set_option maxRecDepth 100000 in
set_option maxHeartbeats 4000000 in
theorem vb_X6_isAt_0 {G : evG} {d : Nat} {q : Int32 → evS → Prop} (hCl : evCl G) {x0 : Nat} {l1 : Int32} {l2 : Int32} {S : evS} (hVl0 : (30, x0) ∈ evKs G)
    (h : (((S.1 30 x0 6) ≤ (S.1 30 x0 10) → q 0 S) ∧ (¬ (S.1 30 x0 6) ≤ (S.1 30 x0 10) → (vp_in (S.1 30 x0 10) 150 ∧ (evSp G yX6_in M_X6_in d [.int (S.1 36 0 ((S.1 30 x0 10).toNatClampNeg)), .int l1, .int l2] S (evQI fun r2 S3 => ((r2 = 0 → q 0 S3) ∧ (¬ r2 = 0 → q 1 S3)))))))) : bk_X6_isAt_0 G d (evQI q) x0 l1 l2 S := by
  refine ea_aload_n (pc' := 1) (i := 0) dX6_isAt_0 rfl 0 rfl rfl ?_
  refine ea_geti (kf := 10) (pc' := 4) kok_30 hVl0 (by decide) rfl fl_X6_76 dX6_isAt_1 rfl ?_
  refine ea_aload_n (pc' := 5) (i := 0) dX6_isAt_4 rfl 0 rfl rfl ?_
  refine ea_geti (kf := 6) (pc' := 8) kok_30 hVl0 (by decide) rfl fl_X6_73 dX6_isAt_5 rfl ?_
  refine ea_icmp_ge (tgt := 32) (pc' := 11) dX6_isAt_8 (by decide) rfl (fun hc => ?_) (fun hc => ?_)
  · replace h := h.1 hc
    refine ea_iconst (v := 0) (pc' := 33) dX6_isAt_32 (by decide) rfl ?_
    exact ea_zret rfl dX6_isAt_33 (by decide) ⟨_, rfl, h⟩
  · replace h := h.2 hc
    refine ea_aload_n (pc' := 12) (i := 0) dX6_isAt_11 rfl 0 rfl rfl ?_
    refine ea_getr (k2 := 36) (x2 := 0) (kf := 5) (pc' := 15) kok_30 hVl0 (by decide) rfl fl_X6_23 rfl dX6_isAt_12 rfl ?_
    refine ea_aload_n (pc' := 16) (i := 0) dX6_isAt_15 rfl 0 rfl rfl ?_
    refine ea_geti (kf := 10) (pc' := 19) kok_30 hVl0 (by decide) rfl fl_X6_76 dX6_isAt_16 rfl ?_
    obtain ⟨o1, h⟩ := h
    refine ea_iald (j := (S.1 30 x0 10).toNatClampNeg) (pc' := 20) (hCl.1 30 x0 5 36 hVl0 rfl) rfl o1 dX6_isAt_19 rfl rfl ?_
    refine ea_iload_n (pc' := 21) (i := 1) dX6_isAt_20 rfl 1 rfl rfl ?_
    refine ea_iload_n (pc' := 22) (i := 2) dX6_isAt_21 rfl 2 rfl rfl ?_
    refine ea_csi (As := [.int (S.1 36 0 ((S.1 30 x0 10).toNatClampNeg)), .int l1, .int l2]) (st := []) (d := d) (pc' := 25) mv_X6_in ml_X6_62 rfl dX6_isAt_22 rfl (Nat.le_of_ble_eq_true rfl) (ev_room (by decide)) ⟨Nat.le_refl _, Nat.le_refl _⟩ h rfl (fun r2 S3 h => ?_)
    refine ea_if_eq (tgt := 32) (pc' := 28) dX6_isAt_25 (by decide) rfl (fun hc => ?_) (fun hc => ?_)
    · replace h := h.1 hc
      refine ea_iconst (v := 0) (pc' := 33) dX6_isAt_32 (by decide) rfl ?_
      exact ea_zret rfl dX6_isAt_33 (by decide) ⟨_, rfl, h⟩
    · replace h := h.2 hc
      refine ea_iconst (v := 1) (pc' := 29) dX6_isAt_28 (by decide) rfl ?_
      refine ea_goto (tgt := 33) dX6_isAt_29 (by decide) ?_
      exact ea_zret rfl dX6_isAt_33 (by decide) ⟨_, rfl, h⟩
theorem vm_X6_isAt {G : evG} {d : Nat} {q : Int32 → evS → Prop} {x0 : Nat} {l1 : Int32} {l2 : Int32} {S : evS} (h : bk_X6_isAt_0 G d (evQI q) x0 l1 l2 S) : evSp G yX6_isAt M_X6_isAt (d + 1) [.ref (evad G 30 x0), .int l1, .int l2] S (evQI q) :=
  evSp.of (by decide +kernel) rfl (Nat.le_of_ble_eq_true rfl) h
abbrev bk_X6_takesStop_0 (G : evG) (d : Nat) (Q : Option Value → evS → Prop) (x0 : Nat) (S : evS) : Prop := evAt G M_X6_takesStop (evFm G (d + 1) Q) 0 [(0, .ref (evad G 30 x0))] [] S
set_option maxRecDepth 100000 in
set_option maxHeartbeats 4000000 in
theorem vb_X6_takesStop_0 {G : evG} {d : Nat} {q : Int32 → evS → Prop} (hCl : evCl G) {x0 : Nat} {S : evS} (hVl0 : (30, x0) ∈ evKs G)
    (h : (evSp G yX6_blanks M_X6_blanks d [.ref (evad G 30 x0)] S (evQV fun S1 => (evSp G yX6_isAt M_X6_isAt d [.ref (evad G 30 x0), .int 59, .int 59] S1 (evQI fun r2 S3 => ((r2 = 0 → (∀ S4 : evS, S4 = evup S3 30 x0 10 ((S3.1 30 x0 10) + 0) → ((r2 = 0 ∨ r2 = 1) ∧ q r2 S4))) ∧ (¬ r2 = 0 → (∀ S6 : evS, S6 = evup S3 30 x0 10 ((S3.1 30 x0 10) + 1) → ((r2 = 0 ∨ r2 = 1) ∧ q r2 S6))))))))) : bk_X6_takesStop_0 G d (evQI q) x0 S := by
  refine ea_aload_n (pc' := 1) (i := 0) dX6_takesStop_0 rfl 0 rfl rfl ?_
  refine ea_cvv (As := []) (st := []) (d := d) (pc' := 4) mv_X6_blanks ml_X6_82 kok_30 hVl0 rfl rfl dX6_takesStop_1 rfl (Nat.le_of_ble_eq_true rfl) (ev_room (by decide)) ⟨Nat.le_refl _, Nat.le_refl _⟩ h rfl (fun S1 h => ?_)
  refine ea_aload_n (pc' := 5) (i := 0) dX6_takesStop_4 rfl 0 rfl rfl ?_
  refine ea_bipush (v := 59) (pc' := 7) dX6_takesStop_5 (by decide) rfl ?_
  refine ea_bipush (v := 59) (pc' := 9) dX6_takesStop_7 (by decide) rfl ?_
  refine ea_cvi (As := [.int 59, .int 59]) (st := []) (d := d) (pc' := 12) mv_X6_isAt ml_X6_88 kok_30 hVl0 rfl rfl dX6_takesStop_9 rfl (Nat.le_of_ble_eq_true rfl) (ev_room (by decide)) ⟨Nat.le_refl _, Nat.le_refl _⟩ h rfl (fun r2 S3 h => ?_)
  refine ea_istore_n (lv' := [(1, .int r2), (0, .ref (evad G 30 x0))]) (pc' := 13) dX6_takesStop_12 rfl (by decide) rfl rfl ?_
  refine ea_aload_n (pc' := 14) (i := 0) dX6_takesStop_13 rfl 1 rfl rfl ?_
  refine ea_dup (pc' := 15) dX6_takesStop_14 rfl rfl ?_
  refine ea_geti (kf := 10) (pc' := 18) kok_30 hVl0 (by decide) rfl fl_X6_76 dX6_takesStop_15 rfl ?_
  refine ea_iload_n (pc' := 19) (i := 1) dX6_takesStop_18 rfl 0 rfl rfl ?_
  refine ea_if_eq (tgt := 26) (pc' := 22) dX6_takesStop_19 (by decide) rfl (fun hc => ?_) (fun hc => ?_)
  · replace h := h.1 hc
    refine ea_iconst (v := 0) (pc' := 27) dX6_takesStop_26 (by decide) rfl ?_
    refine ea_iadd (pc' := 28) dX6_takesStop_27 rfl ?_
    refine ea_puti (kf := 10) (pc' := 31) kok_30 hVl0 (by decide) rfl fl_X6_76 rfl rfl dX6_takesStop_28 rfl ?_
    refine ea_tops (fun S4 hS4 => ?_)
    replace h := h S4 hS4
    refine ea_iload_n (pc' := 32) (i := 1) dX6_takesStop_31 rfl 0 rfl rfl ?_
    obtain ⟨o5, h⟩ := h
    exact ea_zret rfl dX6_takesStop_32 o5 ⟨_, rfl, h⟩
  · replace h := h.2 hc
    refine ea_iconst (v := 1) (pc' := 23) dX6_takesStop_22 (by decide) rfl ?_
    refine ea_goto (tgt := 27) dX6_takesStop_23 (by decide) ?_
    refine ea_iadd (pc' := 28) dX6_takesStop_27 rfl ?_
    refine ea_puti (kf := 10) (pc' := 31) kok_30 hVl0 (by decide) rfl fl_X6_76 rfl rfl dX6_takesStop_28 rfl ?_
    refine ea_tops (fun S6 hS6 => ?_)
    replace h := h S6 hS6
    refine ea_iload_n (pc' := 32) (i := 1) dX6_takesStop_31 rfl 0 rfl rfl ?_
    obtain ⟨o7, h⟩ := h
    exact ea_zret rfl dX6_takesStop_32 o7 ⟨_, rfl, h⟩
theorem vm_X6_takesStop {G : evG} {d : Nat} {q : Int32 → evS → Prop} {x0 : Nat} {S : evS} (h : bk_X6_takesStop_0 G d (evQI q) x0 S) : evSp G yX6_takesStop M_X6_takesStop (d + 1) [.ref (evad G 30 x0)] S (evQI q) :=
  evSp.of (by decide +kernel) rfl (Nat.le_of_ble_eq_true rfl) h
