abbrev bk_X6_takesFastest_0 (G : evG) (d : Nat) (Q : Option Value → evS → Prop) (x0 : Nat) (S : evS) : Prop := evAt G M_X6_takesFastest (evFm G (d + 1) Q) 0 [(0, .ref (evad G 30 x0))] [] S
set_option maxRecDepth 100000 in
set_option maxHeartbeats 4000000 in
theorem vb_X6_takesFastest_0 {G : evG} {d : Nat} {q : Int32 → evS → Prop} (hCl : evCl G) {x0 : Nat} {S : evS} (hVl0 : (30, x0) ∈ evKs G)
    (h : (((S.1 30 x0 13) = 0 → (∀ S1 : evS, S1 = evup S 30 x0 13 1 → (∀ S2 : evS, S2 = evup S1 30 x0 10 ((S1.1 30 x0 10) + 1) → (evSp G yX6_takesNumber M_X6_takesNumber d [.ref (evad G 30 x0), .int 1, .int 60] S2 (evQI fun r3 S4 => ((¬ r3 = 0 → (∀ S5 : evS, S5 = evup S4 40 0 1 (S4.1 30 x0 12) → (evSp G yX6_takesStop M_X6_takesStop d [.ref (evad G 30 x0)] S5 (evQI fun r6 S7 => ((r6 = 0 ∨ r6 = 1) ∧ q r6 S7))))) ∧ (r3 = 0 → q 0 S4))))))) ∧ (¬ (S.1 30 x0 13) = 0 → q 0 S))) : bk_X6_takesFastest_0 G d (evQI q) x0 S := by
  refine ea_aload_n (pc' := 1) (i := 0) dX6_takesFastest_0 rfl 0 rfl rfl ?_
  refine ea_geti (kf := 13) (pc' := 4) kok_30 hVl0 (by decide) rfl fl_X6_99 dX6_takesFastest_1 rfl ?_
  refine ea_if_eq (tgt := 9) (pc' := 7) dX6_takesFastest_4 (by decide) rfl (fun hc => ?_) (fun hc => ?_)
  · replace h := h.1 hc
    refine ea_aload_n (pc' := 10) (i := 0) dX6_takesFastest_9 rfl 0 rfl rfl ?_
    refine ea_iconst (v := 1) (pc' := 11) dX6_takesFastest_10 (by decide) rfl ?_
    refine ea_putz (kf := 13) (pc' := 14) kok_30 hVl0 (by decide) rfl fl_X6_99 rfl rfl (by decide) dX6_takesFastest_11 rfl ?_
    refine ea_tops (fun S1 hS1 => ?_)
    replace h := h S1 hS1
    refine ea_aload_n (pc' := 15) (i := 0) dX6_takesFastest_14 rfl 0 rfl rfl ?_
    refine ea_dup (pc' := 16) dX6_takesFastest_15 rfl rfl ?_
    refine ea_geti (kf := 10) (pc' := 19) kok_30 hVl0 (by decide) rfl fl_X6_76 dX6_takesFastest_16 rfl ?_
    refine ea_iconst (v := 1) (pc' := 20) dX6_takesFastest_19 (by decide) rfl ?_
    refine ea_iadd (pc' := 21) dX6_takesFastest_20 rfl ?_
    refine ea_puti (kf := 10) (pc' := 24) kok_30 hVl0 (by decide) rfl fl_X6_76 rfl rfl dX6_takesFastest_21 rfl ?_
    refine ea_tops (fun S2 hS2 => ?_)
    replace h := h S2 hS2
    refine ea_aload_n (pc' := 25) (i := 0) dX6_takesFastest_24 rfl 0 rfl rfl ?_
    refine ea_iconst (v := 1) (pc' := 26) dX6_takesFastest_25 (by decide) rfl ?_
    refine ea_bipush (v := 60) (pc' := 28) dX6_takesFastest_26 (by decide) rfl ?_
    refine ea_cvi (As := [.int 1, .int 60]) (st := []) (d := d) (pc' := 31) mv_X6_takesNumber ml_X6_92 kok_30 hVl0 rfl rfl dX6_takesFastest_28 rfl (Nat.le_of_ble_eq_true rfl) (ev_room (by decide)) ⟨Nat.le_refl _, Nat.le_refl _⟩ h rfl (fun r3 S4 h => ?_)
    refine ea_if_ne (tgt := 36) (pc' := 34) dX6_takesFastest_31 (by decide) rfl (fun hc => ?_) (fun hc => ?_)
    · replace h := h.1 hc
      refine ea_aload_n (pc' := 37) (i := 0) dX6_takesFastest_36 rfl 0 rfl rfl ?_
      refine ea_getr (k2 := 40) (x2 := 0) (kf := 9) (pc' := 40) kok_30 hVl0 (by decide) rfl fl_X6_29 rfl dX6_takesFastest_37 rfl ?_
      refine ea_iconst (v := 1) (pc' := 41) dX6_takesFastest_40 (by decide) rfl ?_
      refine ea_aload_n (pc' := 42) (i := 0) dX6_takesFastest_41 rfl 0 rfl rfl ?_
      refine ea_geti (kf := 12) (pc' := 45) kok_30 hVl0 (by decide) rfl fl_X6_85 dX6_takesFastest_42 rfl ?_
      refine ea_iast (j := 1) (pc' := 46) (hCl.1 30 x0 9 40 hVl0 rfl) rfl (by unfold vp_in; decide) dX6_takesFastest_45 (by decide) rfl ?_
      refine ea_tops (fun S5 hS5 => ?_)
      replace h := h S5 hS5
      refine ea_aload_n (pc' := 47) (i := 0) dX6_takesFastest_46 rfl 0 rfl rfl ?_
      refine ea_cvi (As := []) (st := []) (d := d) (pc' := 50) mv_X6_takesStop ml_X6_95 kok_30 hVl0 rfl rfl dX6_takesFastest_47 rfl (Nat.le_of_ble_eq_true rfl) (ev_room (by decide)) ⟨Nat.le_refl _, Nat.le_refl _⟩ h rfl (fun r6 S7 h => ?_)
      obtain ⟨o8, h⟩ := h
      exact ea_zret rfl dX6_takesFastest_50 o8 ⟨_, rfl, h⟩
    · replace h := h.2 hc
      refine ea_iconst (v := 0) (pc' := 35) dX6_takesFastest_34 (by decide) rfl ?_
      exact ea_zret rfl dX6_takesFastest_35 (by decide) ⟨_, rfl, h⟩
  · replace h := h.2 hc
    refine ea_iconst (v := 0) (pc' := 8) dX6_takesFastest_7 (by decide) rfl ?_
    exact ea_zret rfl dX6_takesFastest_8 (by decide) ⟨_, rfl, h⟩
theorem vm_X6_takesFastest {G : evG} {d : Nat} {q : Int32 → evS → Prop} {x0 : Nat} {S : evS} (h : bk_X6_takesFastest_0 G d (evQI q) x0 S) : evSp G yX6_takesFastest M_X6_takesFastest (d + 1) [.ref (evad G 30 x0)] S (evQI q) :=
  evSp.of (by decide +kernel) rfl (Nat.le_of_ble_eq_true rfl) h
abbrev bk_X6_takesTable_0 (G : evG) (d : Nat) (Q : Option Value → evS → Prop) (x0 : Nat) (S : evS) : Prop := evAt G M_X6_takesTable (evFm G (d + 1) Q) 0 [(0, .ref (evad G 30 x0))] [] S
abbrev bk_X6_takesTable_26 (G : evG) (d : Nat) (Q : Option Value → evS → Prop) (x0 : Nat) (l1 : Int32) (S : evS) : Prop := evAt G M_X6_takesTable (evFm G (d + 1) Q) 26 [(0, .ref (evad G 30 x0)), (1, .int l1)] [] S
abbrev bk_X6_takesTable_49 (G : evG) (d : Nat) (Q : Option Value → evS → Prop) (x0 : Nat) (l1 : Int32) (s0 : Int32) (S : evS) : Prop := evAt G M_X6_takesTable (evFm G (d + 1) Q) 49 [(0, .ref (evad G 30 x0)), (1, .int l1)] [.int s0] S
abbrev bk_X6_takesTable_73 (G : evG) (d : Nat) (Q : Option Value → evS → Prop) (x0 : Nat) (l1 : Int32) (s0 : Int32) (S : evS) : Prop := evAt G M_X6_takesTable (evFm G (d + 1) Q) 73 [(0, .ref (evad G 30 x0)), (1, .int l1)] [.int s0] S
set_option maxRecDepth 100000 in
set_option maxHeartbeats 4000000 in
theorem vb_X6_takesTable_0 {G : evG} {d : Nat} {q : Int32 → evS → Prop} (hCl : evCl G) {x0 : Nat} {S : evS} (hVl0 : (30, x0) ∈ evKs G)
    (h : (((S.1 30 x0 14) = 0 → (∀ S1 : evS, S1 = evup S 30 x0 14 1 → (∀ S2 : evS, S2 = evup S1 30 x0 10 ((S1.1 30 x0 10) + 1) → bk_X6_takesTable_26 G d (evQI q) x0 0 S2))) ∧ (¬ (S.1 30 x0 14) = 0 → q 0 S))) : bk_X6_takesTable_0 G d (evQI q) x0 S := by
  refine ea_aload_n (pc' := 1) (i := 0) dX6_takesTable_0 rfl 0 rfl rfl ?_
  refine ea_geti (kf := 14) (pc' := 4) kok_30 hVl0 (by decide) rfl fl_X6_103 dX6_takesTable_1 rfl ?_
  refine ea_if_eq (tgt := 9) (pc' := 7) dX6_takesTable_4 (by decide) rfl (fun hc => ?_) (fun hc => ?_)
  · replace h := h.1 hc
    refine ea_aload_n (pc' := 10) (i := 0) dX6_takesTable_9 rfl 0 rfl rfl ?_
    refine ea_iconst (v := 1) (pc' := 11) dX6_takesTable_10 (by decide) rfl ?_
    refine ea_putz (kf := 14) (pc' := 14) kok_30 hVl0 (by decide) rfl fl_X6_103 rfl rfl (by decide) dX6_takesTable_11 rfl ?_
    refine ea_tops (fun S1 hS1 => ?_)
    replace h := h S1 hS1
    refine ea_aload_n (pc' := 15) (i := 0) dX6_takesTable_14 rfl 0 rfl rfl ?_
    refine ea_dup (pc' := 16) dX6_takesTable_15 rfl rfl ?_
    refine ea_geti (kf := 10) (pc' := 19) kok_30 hVl0 (by decide) rfl fl_X6_76 dX6_takesTable_16 rfl ?_
    refine ea_iconst (v := 1) (pc' := 20) dX6_takesTable_19 (by decide) rfl ?_
    refine ea_iadd (pc' := 21) dX6_takesTable_20 rfl ?_
    refine ea_puti (kf := 10) (pc' := 24) kok_30 hVl0 (by decide) rfl fl_X6_76 rfl rfl dX6_takesTable_21 rfl ?_
    refine ea_tops (fun S2 hS2 => ?_)
    replace h := h S2 hS2
    refine ea_iconst (v := 0) (pc' := 25) dX6_takesTable_24 (by decide) rfl ?_
    refine ea_istore_n (lv' := [(1, .int 0), (0, .ref (evad G 30 x0))]) (pc' := 26) dX6_takesTable_25 rfl (by decide) rfl rfl ?_
    refine ea_loc [1, 0] rfl ?_
    exact h
  · replace h := h.2 hc
    refine ea_iconst (v := 0) (pc' := 8) dX6_takesTable_7 (by decide) rfl ?_
    exact ea_zret rfl dX6_takesTable_8 (by decide) ⟨_, rfl, h⟩
set_option maxRecDepth 100000 in
set_option maxHeartbeats 4000000 in
theorem vb_X6_takesTable_26 {G : evG} {d : Nat} {q : Int32 → evS → Prop} (hCl : evCl G) {x0 : Nat} {l1 : Int32} {S : evS} (hVl0 : (30, x0) ∈ evKs G)
    (h : ((4 ≤ l1 → (evSp G yX6_takesStop M_X6_takesStop d [.ref (evad G 30 x0)] S (evQI fun r1 S2 => ((r1 = 0 ∨ r1 = 1) ∧ q r1 S2)))) ∧ (¬ 4 ≤ l1 → ((¬ l1 = 0 → (vp_in ((5 + l1) - 1) 33 ∧ bk_X6_takesTable_49 G d (evQI q) x0 l1 (S.1 40 0 (((5 + l1) - 1).toNatClampNeg)) S)) ∧ (l1 = 0 → bk_X6_takesTable_49 G d (evQI q) x0 l1 0 S))))) : bk_X6_takesTable_26 G d (evQI q) x0 l1 S := by
  refine ea_iload_n (pc' := 27) (i := 1) dX6_takesTable_26 rfl 1 rfl rfl ?_
  refine ea_iconst (v := 4) (pc' := 28) dX6_takesTable_27 (by decide) rfl ?_
  refine ea_icmp_ge (tgt := 105) (pc' := 31) dX6_takesTable_28 (by decide) rfl (fun hc => ?_) (fun hc => ?_)
  · replace h := h.1 hc
    refine ea_aload_n (pc' := 106) (i := 0) dX6_takesTable_105 rfl 0 rfl rfl ?_
    refine ea_cvi (As := []) (st := []) (d := d) (pc' := 109) mv_X6_takesStop ml_X6_95 kok_30 hVl0 rfl rfl dX6_takesTable_106 rfl (Nat.le_of_ble_eq_true rfl) (ev_room (by decide)) ⟨Nat.le_refl _, Nat.le_refl _⟩ h rfl (fun r1 S2 h => ?_)
    obtain ⟨o3, h⟩ := h
    exact ea_zret rfl dX6_takesTable_109 o3 ⟨_, rfl, h⟩
  · replace h := h.2 hc
    refine ea_iload_n (pc' := 32) (i := 1) dX6_takesTable_31 rfl 1 rfl rfl ?_
    refine ea_if_ne (tgt := 39) (pc' := 35) dX6_takesTable_32 (by decide) rfl (fun hc => ?_) (fun hc => ?_)
    · replace h := h.1 hc
      refine ea_aload_n (pc' := 40) (i := 0) dX6_takesTable_39 rfl 0 rfl rfl ?_
      refine ea_getr (k2 := 40) (x2 := 0) (kf := 9) (pc' := 43) kok_30 hVl0 (by decide) rfl fl_X6_29 rfl dX6_takesTable_40 rfl ?_
      refine ea_iconst (v := 5) (pc' := 44) dX6_takesTable_43 (by decide) rfl ?_
      refine ea_iload_n (pc' := 45) (i := 1) dX6_takesTable_44 rfl 1 rfl rfl ?_
      refine ea_iadd (pc' := 46) dX6_takesTable_45 rfl ?_
      refine ea_iconst (v := 1) (pc' := 47) dX6_takesTable_46 (by decide) rfl ?_
      refine ea_isub (pc' := 48) dX6_takesTable_47 rfl ?_
      obtain ⟨o4, h⟩ := h
      refine ea_iald (j := ((5 + l1) - 1).toNatClampNeg) (pc' := 49) (hCl.1 30 x0 9 40 hVl0 rfl) rfl o4 dX6_takesTable_48 rfl rfl ?_
      exact h
    · replace h := h.2 hc
      refine ea_iconst (v := 0) (pc' := 36) dX6_takesTable_35 (by decide) rfl ?_
      refine ea_goto (tgt := 49) dX6_takesTable_36 (by decide) ?_
      exact h
set_option maxRecDepth 100000 in
set_option maxHeartbeats 4000000 in
theorem vb_X6_takesTable_49 {G : evG} {d : Nat} {q : Int32 → evS → Prop} (hCl : evCl G) {x0 : Nat} {l1 : Int32} {s0 : Int32} {S : evS} (hVl0 : (30, x0) ∈ evKs G)
    (h : ((2 ≤ l1 → (vp_in ((5 + l1) - 2) 33 ∧ bk_X6_takesTable_73 G d (evQI q) x0 l1 ((2 * s0) - (S.1 40 0 (((5 + l1) - 2).toNatClampNeg))) S)) ∧ (¬ 2 ≤ l1 → bk_X6_takesTable_73 G d (evQI q) x0 l1 s0 S))) : bk_X6_takesTable_49 G d (evQI q) x0 l1 s0 S := by
  refine ea_istore_n (lv' := [(2, .int s0), (0, .ref (evad G 30 x0)), (1, .int l1)]) (pc' := 50) dX6_takesTable_49 rfl (by decide) rfl rfl ?_
  refine ea_iload_n (pc' := 51) (i := 1) dX6_takesTable_50 rfl 2 rfl rfl ?_
  refine ea_iconst (v := 2) (pc' := 52) dX6_takesTable_51 (by decide) rfl ?_
  refine ea_icmp_ge (tgt := 59) (pc' := 55) dX6_takesTable_52 (by decide) rfl (fun hc => ?_) (fun hc => ?_)
  · replace h := h.1 hc
    refine ea_iconst (v := 2) (pc' := 60) dX6_takesTable_59 (by decide) rfl ?_
    refine ea_iload_n (pc' := 61) (i := 2) dX6_takesTable_60 rfl 0 rfl rfl ?_
    refine ea_imul (pc' := 62) dX6_takesTable_61 rfl ?_
    refine ea_aload_n (pc' := 63) (i := 0) dX6_takesTable_62 rfl 1 rfl rfl ?_
    refine ea_getr (k2 := 40) (x2 := 0) (kf := 9) (pc' := 66) kok_30 hVl0 (by decide) rfl fl_X6_29 rfl dX6_takesTable_63 rfl ?_
    refine ea_iconst (v := 5) (pc' := 67) dX6_takesTable_66 (by decide) rfl ?_
    refine ea_iload_n (pc' := 68) (i := 1) dX6_takesTable_67 rfl 2 rfl rfl ?_
    refine ea_iadd (pc' := 69) dX6_takesTable_68 rfl ?_
    refine ea_iconst (v := 2) (pc' := 70) dX6_takesTable_69 (by decide) rfl ?_
    refine ea_isub (pc' := 71) dX6_takesTable_70 rfl ?_
    obtain ⟨o1, h⟩ := h
    refine ea_iald (j := ((5 + l1) - 2).toNatClampNeg) (pc' := 72) (hCl.1 30 x0 9 40 hVl0 rfl) rfl o1 dX6_takesTable_71 rfl rfl ?_
    refine ea_isub (pc' := 73) dX6_takesTable_72 rfl ?_
    refine ea_loc [1, 2] rfl ?_
    exact h
  · replace h := h.2 hc
    refine ea_iload_n (pc' := 56) (i := 2) dX6_takesTable_55 rfl 0 rfl rfl ?_
    refine ea_goto (tgt := 73) dX6_takesTable_56 (by decide) ?_
    refine ea_loc [1, 2] rfl ?_
    exact h
set_option maxRecDepth 100000 in
set_option maxHeartbeats 4000000 in
theorem vb_X6_takesTable_73 {G : evG} {d : Nat} {q : Int32 → evS → Prop} (hCl : evCl G) {x0 : Nat} {l1 : Int32} {s0 : Int32} {S : evS} (hVl0 : (30, x0) ∈ evKs G)
    (h : (evSp G yX6_takesNumber M_X6_takesNumber d [.ref (evad G 30 x0), .int s0, .int 999] S (evQI fun r1 S2 => ((¬ r1 = 0 → (vp_in (5 + l1) 33 ∧ (∀ S4 : evS, S4 = evup S2 40 0 ((5 + l1).toNatClampNeg) (S2.1 30 x0 12) → (∀ v5 : Int32, v5 = (l1 + 1) → bk_X6_takesTable_26 G d (evQI q) x0 v5 S4)))) ∧ (r1 = 0 → q 0 S2))))) : bk_X6_takesTable_73 G d (evQI q) x0 l1 s0 S := by
  refine ea_istore_n (lv' := [(3, .int s0), (0, .ref (evad G 30 x0)), (1, .int l1)]) (pc' := 74) dX6_takesTable_73 rfl (by decide) rfl rfl ?_
  refine ea_aload_n (pc' := 75) (i := 0) dX6_takesTable_74 rfl 1 rfl rfl ?_
  refine ea_iload_n (pc' := 76) (i := 3) dX6_takesTable_75 rfl 0 rfl rfl ?_
  refine ea_sipush (v := 999) (pc' := 79) dX6_takesTable_76 (by decide) rfl ?_
  refine ea_cvi (As := [.int s0, .int 999]) (st := []) (d := d) (pc' := 82) mv_X6_takesNumber ml_X6_92 kok_30 hVl0 rfl rfl dX6_takesTable_79 rfl (Nat.le_of_ble_eq_true rfl) (ev_room (by decide)) ⟨Nat.le_refl _, Nat.le_refl _⟩ h rfl (fun r1 S2 h => ?_)
  refine ea_if_ne (tgt := 87) (pc' := 85) dX6_takesTable_82 (by decide) rfl (fun hc => ?_) (fun hc => ?_)
  · replace h := h.1 hc
    refine ea_aload_n (pc' := 88) (i := 0) dX6_takesTable_87 rfl 1 rfl rfl ?_
    refine ea_getr (k2 := 40) (x2 := 0) (kf := 9) (pc' := 91) kok_30 hVl0 (by decide) rfl fl_X6_29 rfl dX6_takesTable_88 rfl ?_
    refine ea_iconst (v := 5) (pc' := 92) dX6_takesTable_91 (by decide) rfl ?_
    refine ea_iload_n (pc' := 93) (i := 1) dX6_takesTable_92 rfl 2 rfl rfl ?_
    refine ea_iadd (pc' := 94) dX6_takesTable_93 rfl ?_
    refine ea_aload_n (pc' := 95) (i := 0) dX6_takesTable_94 rfl 1 rfl rfl ?_
    refine ea_geti (kf := 12) (pc' := 98) kok_30 hVl0 (by decide) rfl fl_X6_85 dX6_takesTable_95 rfl ?_
    obtain ⟨o3, h⟩ := h
    refine ea_iast (j := (5 + l1).toNatClampNeg) (pc' := 99) (hCl.1 30 x0 9 40 hVl0 rfl) rfl o3 dX6_takesTable_98 rfl rfl ?_
    refine ea_tops (fun S4 hS4 => ?_)
    replace h := h S4 hS4
    obtain ⟨v5, hv5⟩ : ∃ z : Int32, z = (l1 + 1) := ⟨_, rfl⟩
    replace h := h v5 hv5
    refine ea_iinc (q := 2) (v := v5) (lv' := [(1, .int v5), (3, .int s0), (0, .ref (evad G 30 x0))]) (pc' := 102) dX6_takesTable_99 rfl (by rw [hv5]; rfl) (by decide) rfl rfl ?_
    refine ea_goto (tgt := 26) dX6_takesTable_102 (by decide) ?_
    refine ea_loc [2, 0] rfl ?_
    exact h
  · replace h := h.2 hc
    refine ea_iconst (v := 0) (pc' := 86) dX6_takesTable_85 (by decide) rfl ?_
    exact ea_zret rfl dX6_takesTable_86 (by decide) ⟨_, rfl, h⟩
theorem vm_X6_takesTable {G : evG} {d : Nat} {q : Int32 → evS → Prop} {x0 : Nat} {S : evS} (h : bk_X6_takesTable_0 G d (evQI q) x0 S) : evSp G yX6_takesTable M_X6_takesTable (d + 1) [.ref (evad G 30 x0)] S (evQI q) :=
  evSp.of (by decide +kernel) rfl (Nat.le_of_ble_eq_true rfl) h
abbrev bk_X6_remembers_0 (G : evG) (d : Nat) (Q : Option Value → evS → Prop) (x0 : Nat) (S : evS) : Prop := evAt G M_X6_remembers (evFm G d Q) 0 [(0, .ref (evad G 30 x0))] [] S
abbrev bk_X6_remembers_11 (G : evG) (d : Nat) (Q : Option Value → evS → Prop) (x0 : Nat) (l1 : Int32) (S : evS) : Prop := evAt G M_X6_remembers (evFm G d Q) 11 [(0, .ref (evad G 30 x0)), (1, .int l1)] [] S
abbrev bk_X6_remembers_50 (G : evG) (d : Nat) (Q : Option Value → evS → Prop) (x0 : Nat) (S : evS) : Prop := evAt G M_X6_remembers (evFm G d Q) 50 [(0, .ref (evad G 30 x0))] [] S
abbrev bk_X6_remembers_52 (G : evG) (d : Nat) (Q : Option Value → evS → Prop) (x0 : Nat) (l1 : Int32) (S : evS) : Prop := evAt G M_X6_remembers (evFm G d Q) 52 [(0, .ref (evad G 30 x0)), (1, .int l1)] [] S
set_option maxRecDepth 100000 in
set_option maxHeartbeats 4000000 in
theorem vb_X6_remembers_0 {G : evG} {d : Nat} {q : evS → Prop} (hCl : evCl G) {x0 : Nat} {S : evS} (hVl0 : (30, x0) ∈ evKs G)
    (h : ((¬ (S.1 30 x0 2) = 6 → bk_X6_remembers_50 G d (evQV q) x0 S) ∧ ((S.1 30 x0 2) = 6 → bk_X6_remembers_11 G d (evQV q) x0 0 S))) : bk_X6_remembers_0 G d (evQV q) x0 S := by
  refine ea_aload_n (pc' := 1) (i := 0) dX6_remembers_0 rfl 0 rfl rfl ?_
  refine ea_geti (kf := 2) (pc' := 4) kok_30 hVl0 (by decide) rfl fl_X6_58 dX6_remembers_1 rfl ?_
  refine ea_bipush (v := 6) (pc' := 6) dX6_remembers_4 (by decide) rfl ?_
  refine ea_icmp_ne (tgt := 50) (pc' := 9) dX6_remembers_6 (by decide) rfl (fun hc => ?_) (fun hc => ?_)
  · replace h := h.1 hc
    exact h
  · replace h := h.2 hc
    refine ea_iconst (v := 0) (pc' := 10) dX6_remembers_9 (by decide) rfl ?_
    refine ea_istore_n (lv' := [(1, .int 0), (0, .ref (evad G 30 x0))]) (pc' := 11) dX6_remembers_10 rfl (by decide) rfl rfl ?_
    refine ea_loc [1, 0] rfl ?_
    exact h
set_option maxRecDepth 100000 in
set_option maxHeartbeats 4000000 in
theorem vb_X6_remembers_11 {G : evG} {d : Nat} {q : evS → Prop} (hCl : evCl G) {x0 : Nat} {l1 : Int32} {S : evS} (hVl0 : (30, x0) ∈ evKs G)
    (h : ((660 ≤ l1 → (∀ S1 : evS, S1 = evup S 30 x0 2 ((S.1 30 x0 2) - 1) → bk_X6_remembers_50 G d (evQV q) x0 S1)) ∧ (¬ 660 ≤ l1 → (vp_in (l1 + 132) 792 ∧ (vp_in l1 792 ∧ (∀ S4 : evS, S4 = evup S 32 0 l1.toNatClampNeg (S.1 32 0 ((l1 + 132).toNatClampNeg)) → (∀ v5 : Int32, v5 = (l1 + 1) → bk_X6_remembers_11 G d (evQV q) x0 v5 S4))))))) : bk_X6_remembers_11 G d (evQV q) x0 l1 S := by
  refine ea_iload_n (pc' := 12) (i := 1) dX6_remembers_11 rfl 1 rfl rfl ?_
  refine ea_sipush (v := 660) (pc' := 15) dX6_remembers_12 (by decide) rfl ?_
  refine ea_icmp_ge (tgt := 40) (pc' := 18) dX6_remembers_15 (by decide) rfl (fun hc => ?_) (fun hc => ?_)
  · replace h := h.1 hc
    refine ea_aload_n (pc' := 41) (i := 0) dX6_remembers_40 rfl 0 rfl rfl ?_
    refine ea_dup (pc' := 42) dX6_remembers_41 rfl rfl ?_
    refine ea_geti (kf := 2) (pc' := 45) kok_30 hVl0 (by decide) rfl fl_X6_58 dX6_remembers_42 rfl ?_
    refine ea_iconst (v := 1) (pc' := 46) dX6_remembers_45 (by decide) rfl ?_
    refine ea_isub (pc' := 47) dX6_remembers_46 rfl ?_
    refine ea_puti (kf := 2) (pc' := 50) kok_30 hVl0 (by decide) rfl fl_X6_58 rfl rfl dX6_remembers_47 rfl ?_
    refine ea_tops (fun S1 hS1 => ?_)
    replace h := h S1 hS1
    refine ea_loc [0] rfl ?_
    exact h
  · replace h := h.2 hc
    refine ea_aload_n (pc' := 19) (i := 0) dX6_remembers_18 rfl 0 rfl rfl ?_
    refine ea_getr (k2 := 32) (x2 := 0) (kf := 1) (pc' := 22) kok_30 hVl0 (by decide) rfl fl_X6_13 rfl dX6_remembers_19 rfl ?_
    refine ea_iload_n (pc' := 23) (i := 1) dX6_remembers_22 rfl 1 rfl rfl ?_
    refine ea_aload_n (pc' := 24) (i := 0) dX6_remembers_23 rfl 0 rfl rfl ?_
    refine ea_getr (k2 := 32) (x2 := 0) (kf := 1) (pc' := 27) kok_30 hVl0 (by decide) rfl fl_X6_13 rfl dX6_remembers_24 rfl ?_
    refine ea_iload_n (pc' := 28) (i := 1) dX6_remembers_27 rfl 1 rfl rfl ?_
    refine ea_sipush (v := 132) (pc' := 31) dX6_remembers_28 (by decide) rfl ?_
    refine ea_iadd (pc' := 32) dX6_remembers_31 rfl ?_
    obtain ⟨o2, h⟩ := h
    refine ea_iald (j := (l1 + 132).toNatClampNeg) (pc' := 33) (hCl.1 30 x0 1 32 hVl0 rfl) rfl o2 dX6_remembers_32 rfl rfl ?_
    obtain ⟨o3, h⟩ := h
    refine ea_iast (j := l1.toNatClampNeg) (pc' := 34) (hCl.1 30 x0 1 32 hVl0 rfl) rfl o3 dX6_remembers_33 rfl rfl ?_
    refine ea_tops (fun S4 hS4 => ?_)
    replace h := h S4 hS4
    obtain ⟨v5, hv5⟩ : ∃ z : Int32, z = (l1 + 1) := ⟨_, rfl⟩
    replace h := h v5 hv5
    refine ea_iinc (q := 1) (v := v5) (lv' := [(1, .int v5), (0, .ref (evad G 30 x0))]) (pc' := 37) dX6_remembers_34 rfl (by rw [hv5]; rfl) (by decide) rfl rfl ?_
    refine ea_goto (tgt := 11) dX6_remembers_37 (by decide) ?_
    refine ea_loc [1, 0] rfl ?_
    exact h
set_option maxRecDepth 100000 in
set_option maxHeartbeats 4000000 in
theorem vb_X6_remembers_50 {G : evG} {d : Nat} {q : evS → Prop} (hCl : evCl G) {x0 : Nat} {S : evS} (hVl0 : (30, x0) ∈ evKs G)
    (h : bk_X6_remembers_52 G d (evQV q) x0 0 S) : bk_X6_remembers_50 G d (evQV q) x0 S := by
  refine ea_iconst (v := 0) (pc' := 51) dX6_remembers_50 (by decide) rfl ?_
  refine ea_istore_n (lv' := [(1, .int 0), (0, .ref (evad G 30 x0))]) (pc' := 52) dX6_remembers_51 rfl (by decide) rfl rfl ?_
  refine ea_loc [1, 0] rfl ?_
  exact h
set_option maxRecDepth 100000 in
set_option maxHeartbeats 4000000 in
theorem vb_X6_remembers_52 {G : evG} {d : Nat} {q : evS → Prop} (hCl : evCl G) {x0 : Nat} {l1 : Int32} {S : evS} (hVl0 : (30, x0) ∈ evKs G)
    (h : ((132 ≤ l1 → (∀ S1 : evS, S1 = evup S 30 x0 2 ((S.1 30 x0 2) + 1) → q S1)) ∧ (¬ 132 ≤ l1 → (vp_in l1 132 ∧ (vp_in ((132 * (S.1 30 x0 2)) + l1) 792 ∧ (∀ S4 : evS, S4 = evup S 32 0 (((132 * (S.1 30 x0 2)) + l1).toNatClampNeg) (S.1 31 0 l1.toNatClampNeg) → (∀ v5 : Int32, v5 = (l1 + 1) → bk_X6_remembers_52 G d (evQV q) x0 v5 S4))))))) : bk_X6_remembers_52 G d (evQV q) x0 l1 S := by
  refine ea_iload_n (pc' := 53) (i := 1) dX6_remembers_52 rfl 1 rfl rfl ?_
  refine ea_sipush (v := 132) (pc' := 56) dX6_remembers_53 (by decide) rfl ?_
  refine ea_icmp_ge (tgt := 86) (pc' := 59) dX6_remembers_56 (by decide) rfl (fun hc => ?_) (fun hc => ?_)
  · replace h := h.1 hc
    refine ea_aload_n (pc' := 87) (i := 0) dX6_remembers_86 rfl 0 rfl rfl ?_
    refine ea_dup (pc' := 88) dX6_remembers_87 rfl rfl ?_
    refine ea_geti (kf := 2) (pc' := 91) kok_30 hVl0 (by decide) rfl fl_X6_58 dX6_remembers_88 rfl ?_
    refine ea_iconst (v := 1) (pc' := 92) dX6_remembers_91 (by decide) rfl ?_
    refine ea_iadd (pc' := 93) dX6_remembers_92 rfl ?_
    refine ea_puti (kf := 2) (pc' := 96) kok_30 hVl0 (by decide) rfl fl_X6_58 rfl rfl dX6_remembers_93 rfl ?_
    refine ea_tops (fun S1 hS1 => ?_)
    replace h := h S1 hS1
    exact ea_vret rfl dX6_remembers_96 ⟨rfl, h⟩
  · replace h := h.2 hc
    refine ea_aload_n (pc' := 60) (i := 0) dX6_remembers_59 rfl 0 rfl rfl ?_
    refine ea_getr (k2 := 32) (x2 := 0) (kf := 1) (pc' := 63) kok_30 hVl0 (by decide) rfl fl_X6_13 rfl dX6_remembers_60 rfl ?_
    refine ea_sipush (v := 132) (pc' := 66) dX6_remembers_63 (by decide) rfl ?_
    refine ea_aload_n (pc' := 67) (i := 0) dX6_remembers_66 rfl 0 rfl rfl ?_
    refine ea_geti (kf := 2) (pc' := 70) kok_30 hVl0 (by decide) rfl fl_X6_58 dX6_remembers_67 rfl ?_
    refine ea_imul (pc' := 71) dX6_remembers_70 rfl ?_
    refine ea_iload_n (pc' := 72) (i := 1) dX6_remembers_71 rfl 1 rfl rfl ?_
    refine ea_iadd (pc' := 73) dX6_remembers_72 rfl ?_
    refine ea_aload_n (pc' := 74) (i := 0) dX6_remembers_73 rfl 0 rfl rfl ?_
    refine ea_getr (k2 := 31) (x2 := 0) (kf := 0) (pc' := 77) kok_30 hVl0 (by decide) rfl fl_X6_7 rfl dX6_remembers_74 rfl ?_
    refine ea_iload_n (pc' := 78) (i := 1) dX6_remembers_77 rfl 1 rfl rfl ?_
    obtain ⟨o2, h⟩ := h
    refine ea_iald (j := l1.toNatClampNeg) (pc' := 79) (hCl.1 30 x0 0 31 hVl0 rfl) rfl o2 dX6_remembers_78 rfl rfl ?_
    obtain ⟨o3, h⟩ := h
    refine ea_iast (j := ((132 * (S.1 30 x0 2)) + l1).toNatClampNeg) (pc' := 80) (hCl.1 30 x0 1 32 hVl0 rfl) rfl o3 dX6_remembers_79 rfl rfl ?_
    refine ea_tops (fun S4 hS4 => ?_)
    replace h := h S4 hS4
    obtain ⟨v5, hv5⟩ : ∃ z : Int32, z = (l1 + 1) := ⟨_, rfl⟩
    replace h := h v5 hv5
    refine ea_iinc (q := 1) (v := v5) (lv' := [(1, .int v5), (0, .ref (evad G 30 x0))]) (pc' := 83) dX6_remembers_80 rfl (by rw [hv5]; rfl) (by decide) rfl rfl ?_
    refine ea_goto (tgt := 52) dX6_remembers_83 (by decide) ?_
    refine ea_loc [1, 0] rfl ?_
    exact h
theorem vm_X6_remembers {G : evG} {d : Nat} {q : evS → Prop} {x0 : Nat} {S : evS} (h : bk_X6_remembers_0 G d (evQV q) x0 S) : evSp G yX6_remembers M_X6_remembers d [.ref (evad G 30 x0)] S (evQV q) :=
  evSp.of (by decide +kernel) rfl (Nat.le_of_ble_eq_true rfl) h
abbrev bk_X6_sails_0 (G : evG) (d : Nat) (Q : Option Value → evS → Prop) (x0 : Nat) (l1 : Int32) (S : evS) : Prop := evAt G M_X6_sails (evFm G (d + 1) Q) 0 [(0, .ref (evad G 30 x0)), (1, .int l1)] [] S
set_option maxRecDepth 100000 in
set_option maxHeartbeats 4000000 in
theorem vb_X6_sails_0 {G : evG} {d : Nat} {q : Int32 → evS → Prop} (hCl : evCl G) {x0 : Nat} {l1 : Int32} {S : evS} (hVl0 : (30, x0) ∈ evKs G)
    (h : (evSp G yX6_isShip M_X6_isShip d [.int l1] S (evQI fun r1 S2 => ((¬ r1 = 0 → (evSp G yX6_plans M_X6_plans d [.ref (evad G 30 x0), .int l1] S2 (evQI fun r3 S4 => ((¬ r3 = 0 → (evSp G yX6_remembers M_X6_remembers d [.ref (evad G 30 x0)] S4 (evQV fun S5 => (∀ v6 : Int32, v6 = ((S5.1 30 x0 16) + 1) → (evSp G yX6_milesAt M_X6_milesAt d [.ref (evad G 30 x0), .int v6] S5 (evQL fun r7 S8 => (evSp G yX6_timeTimes M_X6_timeTimes d [.ref (evad G 30 x0), .int v6] S8 (evQL fun r9 S10 => (¬ r7 = 0 ∧ (∀ v12 : Int32, v12 = (((r9 + r7) - 1) / r7).toInt32 → (∀ v13 : Int32, v13 = (33 * l1) → (vp_in (v13 + 4) 132 ∧ (evSp G yX6_costOf M_X6_costOf d [.ref (evad G 30 x0), .int (S10.1 30 x0 16)] S10 (evQI fun r15 S16 => (vp_in (v13 + 4) 132 ∧ (∀ S18 : evS, S18 = evup S16 31 0 ((v13 + 4).toNatClampNeg) ((S10.1 31 0 ((v13 + 4).toNatClampNeg)) + r15) → (vp_in (v13 + 2) 132 ∧ (∀ S20 : evS, S20 = evup S18 31 0 ((v13 + 2).toNatClampNeg) v6 → (evSp G yX6_ofLeg M_X6_ofLeg d [.ref (evad G 30 x0), .int l1, .int (v6 - 1), .int 1] S20 (evQI fun r21 S22 => (vp_in (v13 + 3) 132 ∧ (∀ S24 : evS, S24 = evup S22 31 0 ((v13 + 3).toNatClampNeg) (v12 + r21) → (vp_in (v13 + 3) 132 ∧ q (S24.1 31 0 ((v13 + 3).toNatClampNeg)) S24))))))))))))))))))))))) ∧ (r3 = 0 → q (-2) S4))))) ∧ (r1 = 0 → q (-1) S2))))) : bk_X6_sails_0 G d (evQI q) x0 l1 S := by
  refine ea_iload_n (pc' := 1) (i := 1) dX6_sails_0 rfl 1 rfl rfl ?_
  refine ea_csi (As := [.int l1]) (st := []) (d := d) (pc' := 4) mv_X6_isShip ml_X6_115 rfl dX6_sails_1 rfl (Nat.le_of_ble_eq_true rfl) (ev_room (by decide)) ⟨Nat.le_refl _, Nat.le_refl _⟩ h rfl (fun r1 S2 h => ?_)
  refine ea_if_ne (tgt := 9) (pc' := 7) dX6_sails_4 (by decide) rfl (fun hc => ?_) (fun hc => ?_)
  · replace h := h.1 hc
    refine ea_aload_n (pc' := 10) (i := 0) dX6_sails_9 rfl 0 rfl rfl ?_
    refine ea_iload_n (pc' := 11) (i := 1) dX6_sails_10 rfl 1 rfl rfl ?_
    refine ea_cvi (As := [.int l1]) (st := []) (d := d) (pc' := 14) mv_X6_plans ml_X6_180 kok_30 hVl0 rfl rfl dX6_sails_11 rfl (Nat.le_of_ble_eq_true rfl) (ev_room (by decide)) ⟨Nat.le_refl _, Nat.le_refl _⟩ h rfl (fun r3 S4 h => ?_)
    refine ea_if_ne (tgt := 20) (pc' := 17) dX6_sails_14 (by decide) rfl (fun hc => ?_) (fun hc => ?_)
    · replace h := h.1 hc
      refine ea_aload_n (pc' := 21) (i := 0) dX6_sails_20 rfl 0 rfl rfl ?_
      refine ea_cvv (As := []) (st := []) (d := d) (pc' := 24) mv_X6_remembers ml_X6_123 kok_30 hVl0 rfl rfl dX6_sails_21 rfl (Nat.le_of_ble_eq_true rfl) (ev_room (by decide)) ⟨Nat.le_refl _, Nat.le_refl _⟩ h rfl (fun S5 h => ?_)
      refine ea_aload_n (pc' := 25) (i := 0) dX6_sails_24 rfl 0 rfl rfl ?_
      refine ea_geti (kf := 16) (pc' := 28) kok_30 hVl0 (by decide) rfl fl_X6_129 dX6_sails_25 rfl ?_
      refine ea_iconst (v := 1) (pc' := 29) dX6_sails_28 (by decide) rfl ?_
      refine ea_iadd (pc' := 30) dX6_sails_29 rfl ?_
      refine ea_topi (fun v6 hv6 => ?_)
      replace h := h v6 hv6
      refine ea_istore_n (lv' := [(2, .int v6), (0, .ref (evad G 30 x0)), (1, .int l1)]) (pc' := 31) dX6_sails_30 rfl (by decide) rfl rfl ?_
      refine ea_aload_n (pc' := 32) (i := 0) dX6_sails_31 rfl 1 rfl rfl ?_
      refine ea_iload_n (pc' := 33) (i := 2) dX6_sails_32 rfl 0 rfl rfl ?_
      refine ea_cvl (As := [.int v6]) (st := []) (d := d) (pc' := 36) mv_X6_milesAt ml_X6_183 kok_30 hVl0 rfl rfl dX6_sails_33 rfl (Nat.le_of_ble_eq_true rfl) (ev_room (by decide)) ⟨Nat.le_refl _, Nat.le_refl _⟩ h rfl (fun r7 S8 h => ?_)
      refine ea_lstore_n (lv' := [(3, .long r7), (2, .int v6), (0, .ref (evad G 30 x0)), (1, .int l1)]) (pc' := 37) dX6_sails_36 rfl (by decide) rfl rfl ?_
      refine ea_aload_n (pc' := 38) (i := 0) dX6_sails_37 rfl 2 rfl rfl ?_
      refine ea_iload_n (pc' := 39) (i := 2) dX6_sails_38 rfl 1 rfl rfl ?_
      refine ea_cvl (As := [.int v6]) (st := []) (d := d) (pc' := 42) mv_X6_timeTimes ml_X6_187 kok_30 hVl0 rfl rfl dX6_sails_39 rfl (Nat.le_of_ble_eq_true rfl) (ev_room (by decide)) ⟨Nat.le_refl _, Nat.le_refl _⟩ h rfl (fun r9 S10 h => ?_)
      refine ea_lstore (lv' := [(5, .long r9), (3, .long r7), (2, .int v6), (0, .ref (evad G 30 x0)), (1, .int l1)]) (pc' := 44) dX6_sails_42 (by decide) rfl rfl ?_
      refine ea_lload (pc' := 46) dX6_sails_44 0 rfl rfl ?_
      refine ea_lload_n (pc' := 47) (i := 3) dX6_sails_46 rfl 1 rfl rfl ?_
      refine ea_ladd (pc' := 48) dX6_sails_47 rfl ?_
      refine ea_lconst (v := 1) (pc' := 49) dX6_sails_48 (by decide) rfl ?_
      refine ea_lsub (pc' := 50) dX6_sails_49 rfl ?_
      refine ea_lload_n (pc' := 51) (i := 3) dX6_sails_50 rfl 1 rfl rfl ?_
      obtain ⟨o11, h⟩ := h
      refine ea_ldiv (pc' := 52) dX6_sails_51 o11 rfl ?_
      refine ea_l2i (pc' := 53) dX6_sails_52 rfl ?_
      refine ea_topi (fun v12 hv12 => ?_)
      replace h := h v12 hv12
      refine ea_istore (lv' := [(7, .int v12), (5, .long r9), (3, .long r7), (2, .int v6), (0, .ref (evad G 30 x0)), (1, .int l1)]) (pc' := 55) dX6_sails_53 (by decide) rfl rfl ?_
      refine ea_bipush (v := 33) (pc' := 57) dX6_sails_55 (by decide) rfl ?_
      refine ea_iload_n (pc' := 58) (i := 1) dX6_sails_57 rfl 5 rfl rfl ?_
      refine ea_imul (pc' := 59) dX6_sails_58 rfl ?_
      refine ea_topi (fun v13 hv13 => ?_)
      replace h := h v13 hv13
      refine ea_istore (lv' := [(8, .int v13), (7, .int v12), (5, .long r9), (3, .long r7), (2, .int v6), (0, .ref (evad G 30 x0)), (1, .int l1)]) (pc' := 61) dX6_sails_59 (by decide) rfl rfl ?_
      refine ea_aload_n (pc' := 62) (i := 0) dX6_sails_61 rfl 5 rfl rfl ?_
      refine ea_getr (k2 := 31) (x2 := 0) (kf := 0) (pc' := 65) kok_30 hVl0 (by decide) rfl fl_X6_7 rfl dX6_sails_62 rfl ?_
      refine ea_iload (pc' := 67) dX6_sails_65 0 rfl rfl ?_
      refine ea_iconst (v := 4) (pc' := 68) dX6_sails_67 (by decide) rfl ?_
      refine ea_iadd (pc' := 69) dX6_sails_68 rfl ?_
      refine ea_dup2 (pc' := 70) dX6_sails_69 rfl rfl rfl ?_
      obtain ⟨o14, h⟩ := h
      refine ea_iald (j := (v13 + 4).toNatClampNeg) (pc' := 71) (hCl.1 30 x0 0 31 hVl0 rfl) rfl o14 dX6_sails_70 rfl rfl ?_
      refine ea_aload_n (pc' := 72) (i := 0) dX6_sails_71 rfl 5 rfl rfl ?_
      refine ea_aload_n (pc' := 73) (i := 0) dX6_sails_72 rfl 5 rfl rfl ?_
      refine ea_geti (kf := 16) (pc' := 76) kok_30 hVl0 (by decide) rfl fl_X6_129 dX6_sails_73 rfl ?_
      refine ea_cvi (As := [.int (S10.1 30 x0 16)]) (st := [.int (S10.1 31 0 ((v13 + 4).toNatClampNeg)), .int (v13 + 4), .ref (evad G 31 0)]) (d := d) (pc' := 79) mv_X6_costOf ml_X6_177 kok_30 hVl0 rfl rfl dX6_sails_76 rfl (Nat.le_of_ble_eq_true rfl) (ev_room (by decide)) ⟨Nat.le_refl _, Nat.le_refl _⟩ h rfl (fun r15 S16 h => ?_)
      refine ea_iadd (pc' := 80) dX6_sails_79 rfl ?_
      obtain ⟨o17, h⟩ := h
      refine ea_iast (j := (v13 + 4).toNatClampNeg) (pc' := 81) (hCl.1 30 x0 0 31 hVl0 rfl) rfl o17 dX6_sails_80 rfl rfl ?_
      refine ea_tops (fun S18 hS18 => ?_)
      replace h := h S18 hS18
      refine ea_aload_n (pc' := 82) (i := 0) dX6_sails_81 rfl 5 rfl rfl ?_
      refine ea_getr (k2 := 31) (x2 := 0) (kf := 0) (pc' := 85) kok_30 hVl0 (by decide) rfl fl_X6_7 rfl dX6_sails_82 rfl ?_
      refine ea_iload (pc' := 87) dX6_sails_85 0 rfl rfl ?_
      refine ea_iconst (v := 2) (pc' := 88) dX6_sails_87 (by decide) rfl ?_
      refine ea_iadd (pc' := 89) dX6_sails_88 rfl ?_
      refine ea_iload_n (pc' := 90) (i := 2) dX6_sails_89 rfl 4 rfl rfl ?_
      obtain ⟨o19, h⟩ := h
      refine ea_iast (j := (v13 + 2).toNatClampNeg) (pc' := 91) (hCl.1 30 x0 0 31 hVl0 rfl) rfl o19 dX6_sails_90 rfl rfl ?_
      refine ea_tops (fun S20 hS20 => ?_)
      replace h := h S20 hS20
      refine ea_aload_n (pc' := 92) (i := 0) dX6_sails_91 rfl 5 rfl rfl ?_
      refine ea_getr (k2 := 31) (x2 := 0) (kf := 0) (pc' := 95) kok_30 hVl0 (by decide) rfl fl_X6_7 rfl dX6_sails_92 rfl ?_
      refine ea_iload (pc' := 97) dX6_sails_95 0 rfl rfl ?_
      refine ea_iconst (v := 3) (pc' := 98) dX6_sails_97 (by decide) rfl ?_
      refine ea_iadd (pc' := 99) dX6_sails_98 rfl ?_
      refine ea_iload (pc' := 101) dX6_sails_99 1 rfl rfl ?_
      refine ea_aload_n (pc' := 102) (i := 0) dX6_sails_101 rfl 5 rfl rfl ?_
      refine ea_iload_n (pc' := 103) (i := 1) dX6_sails_102 rfl 6 rfl rfl ?_
      refine ea_iload_n (pc' := 104) (i := 2) dX6_sails_103 rfl 4 rfl rfl ?_
      refine ea_iconst (v := 1) (pc' := 105) dX6_sails_104 (by decide) rfl ?_
      refine ea_isub (pc' := 106) dX6_sails_105 rfl ?_
      refine ea_iconst (v := 1) (pc' := 107) dX6_sails_106 (by decide) rfl ?_
      refine ea_cvi (As := [.int l1, .int (v6 - 1), .int 1]) (st := [.int v12, .int (v13 + 3), .ref (evad G 31 0)]) (d := d) (pc' := 110) mv_X6_ofLeg ml_X6_135 kok_30 hVl0 rfl rfl dX6_sails_107 rfl (Nat.le_of_ble_eq_true rfl) (ev_room (by decide)) ⟨Nat.le_refl _, Nat.le_refl _⟩ h rfl (fun r21 S22 h => ?_)
      refine ea_iadd (pc' := 111) dX6_sails_110 rfl ?_
      obtain ⟨o23, h⟩ := h
      refine ea_iast (j := (v13 + 3).toNatClampNeg) (pc' := 112) (hCl.1 30 x0 0 31 hVl0 rfl) rfl o23 dX6_sails_111 rfl rfl ?_
      refine ea_tops (fun S24 hS24 => ?_)
      replace h := h S24 hS24
      refine ea_aload_n (pc' := 113) (i := 0) dX6_sails_112 rfl 5 rfl rfl ?_
      refine ea_getr (k2 := 31) (x2 := 0) (kf := 0) (pc' := 116) kok_30 hVl0 (by decide) rfl fl_X6_7 rfl dX6_sails_113 rfl ?_
      refine ea_iload (pc' := 118) dX6_sails_116 0 rfl rfl ?_
      refine ea_iconst (v := 3) (pc' := 119) dX6_sails_118 (by decide) rfl ?_
      refine ea_iadd (pc' := 120) dX6_sails_119 rfl ?_
      obtain ⟨o25, h⟩ := h
      refine ea_iald (j := (v13 + 3).toNatClampNeg) (pc' := 121) (hCl.1 30 x0 0 31 hVl0 rfl) rfl o25 dX6_sails_120 rfl rfl ?_
      exact ea_iret rfl dX6_sails_121 ⟨_, rfl, h⟩
    · replace h := h.2 hc
      refine ea_bipush (v := (-2)) (pc' := 19) dX6_sails_17 (by decide) rfl ?_
      exact ea_iret rfl dX6_sails_19 ⟨_, rfl, h⟩
  · replace h := h.2 hc
    refine ea_iconst (v := (-1)) (pc' := 8) dX6_sails_7 (by decide) rfl ?_
    exact ea_iret rfl dX6_sails_8 ⟨_, rfl, h⟩
theorem vm_X6_sails {G : evG} {d : Nat} {q : Int32 → evS → Prop} {x0 : Nat} {l1 : Int32} {S : evS} (h : bk_X6_sails_0 G d (evQI q) x0 l1 S) : evSp G yX6_sails M_X6_sails (d + 1) [.ref (evad G 30 x0), .int l1] S (evQI q) :=
  evSp.of (by decide +kernel) rfl (Nat.le_of_ble_eq_true rfl) h
abbrev bk_X6_plans_0 (G : evG) (d : Nat) (Q : Option Value → evS → Prop) (x0 : Nat) (l1 : Int32) (S : evS) : Prop := evAt G M_X6_plans (evFm G (d + 1) Q) 0 [(0, .ref (evad G 30 x0)), (1, .int l1)] [] S
set_option maxRecDepth 100000 in
set_option maxHeartbeats 4000000 in
theorem vb_X6_plans_0 {G : evG} {d : Nat} {q : Int32 → evS → Prop} (hCl : evCl G) {x0 : Nat} {l1 : Int32} {S : evS} (hVl0 : (30, x0) ∈ evKs G)
    (h : (evSp G yX6_lays M_X6_lays d [.ref (evad G 30 x0), .int l1, .int 0, .int 0, .int 0] S (evQV fun S1 => (evSp G yX6_hasPlan M_X6_hasPlan d [.ref (evad G 30 x0)] S1 (evQI fun r2 S3 => ((r2 = 0 ∨ r2 = 1) ∧ q r2 S3)))))) : bk_X6_plans_0 G d (evQI q) x0 l1 S := by
  refine ea_aload_n (pc' := 1) (i := 0) dX6_plans_0 rfl 0 rfl rfl ?_
  refine ea_iload_n (pc' := 2) (i := 1) dX6_plans_1 rfl 1 rfl rfl ?_
  refine ea_iconst (v := 0) (pc' := 3) dX6_plans_2 (by decide) rfl ?_
  refine ea_iconst (v := 0) (pc' := 4) dX6_plans_3 (by decide) rfl ?_
  refine ea_iconst (v := 0) (pc' := 5) dX6_plans_4 (by decide) rfl ?_
  refine ea_cvv (As := [.int l1, .int 0, .int 0, .int 0]) (st := []) (d := d) (pc' := 8) mv_X6_lays ml_X6_159 kok_30 hVl0 rfl rfl dX6_plans_5 rfl (Nat.le_of_ble_eq_true rfl) (ev_room (by decide)) ⟨Nat.le_refl _, Nat.le_refl _⟩ h rfl (fun S1 h => ?_)
  refine ea_aload_n (pc' := 9) (i := 0) dX6_plans_8 rfl 0 rfl rfl ?_
  refine ea_cvi (As := []) (st := []) (d := d) (pc' := 12) mv_X6_hasPlan ml_X6_163 kok_30 hVl0 rfl rfl dX6_plans_9 rfl (Nat.le_of_ble_eq_true rfl) (ev_room (by decide)) ⟨Nat.le_refl _, Nat.le_refl _⟩ h rfl (fun r2 S3 h => ?_)
  obtain ⟨o4, h⟩ := h
  exact ea_zret rfl dX6_plans_12 o4 ⟨_, rfl, h⟩
theorem vm_X6_plans {G : evG} {d : Nat} {q : Int32 → evS → Prop} {x0 : Nat} {l1 : Int32} {S : evS} (h : bk_X6_plans_0 G d (evQI q) x0 l1 S) : evSp G yX6_plans M_X6_plans (d + 1) [.ref (evad G 30 x0), .int l1] S (evQI q) :=
  evSp.of (by decide +kernel) rfl (Nat.le_of_ble_eq_true rfl) h
abbrev bk_X6_lays_0 (G : evG) (d : Nat) (Q : Option Value → evS → Prop) (x0 : Nat) (l1 : Int32) (l2 : Int32) (l3 : Int32) (l4 : Int32) (S : evS) : Prop := evAt G M_X6_lays (evFm G (d + 1) Q) 0 [(0, .ref (evad G 30 x0)), (1, .int l1), (2, .int l2), (3, .int l3), (4, .int l4)] [] S
abbrev bk_X6_lays_38 (G : evG) (d : Nat) (Q : Option Value → evS → Prop) (x0 : Nat) (l1 : Int32) (l2 : Int32) (l3 : Int32) (l4 : Int32) (l5 : Int32) (l6 : Int32) (S : evS) : Prop := evAt G M_X6_lays (evFm G (d + 1) Q) 38 [(0, .ref (evad G 30 x0)), (1, .int l1), (2, .int l2), (3, .int l3), (4, .int l4), (5, .int l5), (6, .int l6)] [] S
abbrev bk_X6_lays_117 (G : evG) (d : Nat) (Q : Option Value → evS → Prop) (x0 : Nat) (l1 : Int32) (l2 : Int32) (l3 : Int32) (l4 : Int32) (l5 : Int32) (l6 : Int32) (l7 : Int32) (xs0 : Nat) (s1 : Int32) (s2 : Int32) (S : evS) : Prop := evAt G M_X6_lays (evFm G (d + 1) Q) 117 [(0, .ref (evad G 30 x0)), (1, .int l1), (2, .int l2), (3, .int l3), (4, .int l4), (5, .int l5), (6, .int l6), (7, .int l7)] [.int s2, .int s1, .ref (evad G 51 xs0)] S
abbrev bk_X6_lays_118 (G : evG) (d : Nat) (Q : Option Value → evS → Prop) (x0 : Nat) (l1 : Int32) (l2 : Int32) (l3 : Int32) (l4 : Int32) (l5 : Int32) (l6 : Int32) (l7 : Int32) (xs0 : Nat) (s1 : Int32) (s2 : Int32) (s3 : Int32) (S : evS) : Prop := evAt G M_X6_lays (evFm G (d + 1) Q) 118 [(0, .ref (evad G 30 x0)), (1, .int l1), (2, .int l2), (3, .int l3), (4, .int l4), (5, .int l5), (6, .int l6), (7, .int l7)] [.int s3, .int s2, .int s1, .ref (evad G 51 xs0)] S
abbrev bk_X6_lays_153 (G : evG) (d : Nat) (Q : Option Value → evS → Prop) (x0 : Nat) (l1 : Int32) (l2 : Int32) (l3 : Int32) (l4 : Int32) (l5 : Int32) (l6 : Int32) (l7 : Int32) (xs0 : Nat) (s1 : Int32) (s2 : Int32) (S : evS) : Prop := evAt G M_X6_lays (evFm G (d + 1) Q) 153 [(0, .ref (evad G 30 x0)), (1, .int l1), (2, .int l2), (3, .int l3), (4, .int l4), (5, .int l5), (6, .int l6), (7, .int l7)] [.int s2, .int s1, .ref (evad G 52 xs0)] S
abbrev bk_X6_lays_154 (G : evG) (d : Nat) (Q : Option Value → evS → Prop) (x0 : Nat) (l1 : Int32) (l2 : Int32) (l3 : Int32) (l4 : Int32) (l5 : Int32) (l6 : Int32) (l7 : Int32) (xs0 : Nat) (s1 : Int32) (s2 : Int32) (s3 : Int32) (S : evS) : Prop := evAt G M_X6_lays (evFm G (d + 1) Q) 154 [(0, .ref (evad G 30 x0)), (1, .int l1), (2, .int l2), (3, .int l3), (4, .int l4), (5, .int l5), (6, .int l6), (7, .int l7)] [.int s3, .int s2, .int s1, .ref (evad G 52 xs0)] S
abbrev bk_X6_lays_179 (G : evG) (d : Nat) (Q : Option Value → evS → Prop) (x0 : Nat) (l1 : Int32) (l2 : Int32) (l3 : Int32) (l4 : Int32) (l6 : Int32) (s0 : Int32) (s1 : Int32) (S : evS) : Prop := evAt G M_X6_lays (evFm G (d + 1) Q) 179 [(0, .ref (evad G 30 x0)), (1, .int l1), (2, .int l2), (3, .int l3), (4, .int l4), (6, .int l6)] [.int s1, .int s0] S
set_option maxRecDepth 100000 in
set_option maxHeartbeats 4000000 in
theorem vb_X6_lays_0 {G : evG} {d : Nat} {q : evS → Prop} (hCl : evCl G) {x0 : Nat} {l1 : Int32} {l2 : Int32} {l3 : Int32} {l4 : Int32} {S : evS} (hVl0 : (30, x0) ∈ evKs G)
    (h : (∀ S1 : evS, S1 = evup S 30 x0 15 l1 → (evSp G yX6_of M_X6_of d [.ref (evad G 30 x0), .int l1, .int 2] S1 (evQI fun r2 S3 => (∀ S4 : evS, S4 = evup S3 30 x0 16 r2 → (evSp G yX6_of M_X6_of d [.ref (evad G 30 x0), .int l1, .int 0] S4 (evQI fun r5 S6 => (∀ S7 : evS, S7 = evup S6 30 x0 17 r5 → (∀ S8 : evS, S8 = evup S7 49 0 0 0 → bk_X6_lays_38 G d (evQV q) x0 l1 l2 l3 l4 0 1 S8))))))))) : bk_X6_lays_0 G d (evQV q) x0 l1 l2 l3 l4 S := by
  refine ea_aload_n (pc' := 1) (i := 0) dX6_lays_0 rfl 0 rfl rfl ?_
  refine ea_iload_n (pc' := 2) (i := 1) dX6_lays_1 rfl 1 rfl rfl ?_
  refine ea_puti (kf := 15) (pc' := 5) kok_30 hVl0 (by decide) rfl fl_X6_126 rfl rfl dX6_lays_2 rfl ?_
  refine ea_tops (fun S1 hS1 => ?_)
  replace h := h S1 hS1
  refine ea_aload_n (pc' := 6) (i := 0) dX6_lays_5 rfl 0 rfl rfl ?_
  refine ea_aload_n (pc' := 7) (i := 0) dX6_lays_6 rfl 0 rfl rfl ?_
  refine ea_iload_n (pc' := 8) (i := 1) dX6_lays_7 rfl 1 rfl rfl ?_
  refine ea_iconst (v := 2) (pc' := 9) dX6_lays_8 (by decide) rfl ?_
  refine ea_cvi (As := [.int l1, .int 2]) (st := [.ref (evad G 30 x0)]) (d := d) (pc' := 12) mv_X6_of ml_X6_70 kok_30 hVl0 rfl rfl dX6_lays_9 rfl (Nat.le_of_ble_eq_true rfl) (ev_room (by decide)) ⟨Nat.le_refl _, Nat.le_refl _⟩ h rfl (fun r2 S3 h => ?_)
  refine ea_puti (kf := 16) (pc' := 15) kok_30 hVl0 (by decide) rfl fl_X6_129 rfl rfl dX6_lays_12 rfl ?_
  refine ea_tops (fun S4 hS4 => ?_)
  replace h := h S4 hS4
  refine ea_aload_n (pc' := 16) (i := 0) dX6_lays_15 rfl 0 rfl rfl ?_
  refine ea_aload_n (pc' := 17) (i := 0) dX6_lays_16 rfl 0 rfl rfl ?_
  refine ea_iload_n (pc' := 18) (i := 1) dX6_lays_17 rfl 1 rfl rfl ?_
  refine ea_iconst (v := 0) (pc' := 19) dX6_lays_18 (by decide) rfl ?_
  refine ea_cvi (As := [.int l1, .int 0]) (st := [.ref (evad G 30 x0)]) (d := d) (pc' := 22) mv_X6_of ml_X6_70 kok_30 hVl0 rfl rfl dX6_lays_19 rfl (Nat.le_of_ble_eq_true rfl) (ev_room (by decide)) ⟨Nat.le_refl _, Nat.le_refl _⟩ h rfl (fun r5 S6 h => ?_)
  refine ea_puti (kf := 17) (pc' := 25) kok_30 hVl0 (by decide) rfl fl_X6_132 rfl rfl dX6_lays_22 rfl ?_
  refine ea_tops (fun S7 hS7 => ?_)
  replace h := h S7 hS7
  refine ea_aload_n (pc' := 26) (i := 0) dX6_lays_25 rfl 0 rfl rfl ?_
  refine ea_getr (k2 := 49) (x2 := 0) (kf := 18) (pc' := 29) kok_30 hVl0 (by decide) rfl fl_X6_32 rfl dX6_lays_26 rfl ?_
  refine ea_iconst (v := 0) (pc' := 30) dX6_lays_29 (by decide) rfl ?_
  refine ea_iconst (v := 0) (pc' := 31) dX6_lays_30 (by decide) rfl ?_
  refine ea_iast (j := 0) (pc' := 32) (hCl.1 30 x0 18 49 hVl0 rfl) rfl (by unfold vp_in; decide) dX6_lays_31 (by decide) rfl ?_
  refine ea_tops (fun S8 hS8 => ?_)
  replace h := h S8 hS8
  refine ea_iconst (v := 0) (pc' := 33) dX6_lays_32 (by decide) rfl ?_
  refine ea_istore (lv' := [(5, .int 0), (0, .ref (evad G 30 x0)), (1, .int l1), (2, .int l2), (3, .int l3), (4, .int l4)]) (pc' := 35) dX6_lays_33 (by decide) rfl rfl ?_
  refine ea_iconst (v := 1) (pc' := 36) dX6_lays_35 (by decide) rfl ?_
  refine ea_istore (lv' := [(6, .int 1), (5, .int 0), (0, .ref (evad G 30 x0)), (1, .int l1), (2, .int l2), (3, .int l3), (4, .int l4)]) (pc' := 38) dX6_lays_36 (by decide) rfl rfl ?_
  refine ea_loc [2, 3, 4, 5, 6, 1, 0] rfl ?_
  exact h
set_option maxRecDepth 100000 in
set_option maxHeartbeats 4000000 in
theorem vb_X6_lays_38 {G : evG} {d : Nat} {q : evS → Prop} (hCl : evCl G) {x0 : Nat} {l1 : Int32} {l2 : Int32} {l3 : Int32} {l4 : Int32} {l5 : Int32} {l6 : Int32} {S : evS} (hVl0 : (30, x0) ∈ evKs G)
    (h : (((S.1 30 x0 17) < l6 → (vp_in (S.1 30 x0 16) 7 ∧ (∀ S2 : evS, S2 = evup S 50 0 ((S.1 30 x0 16).toNatClampNeg) 0 → (vp_in (S2.1 30 x0 16) 7 ∧ (∀ S4 : evS, S4 = evup S2 53 0 ((S2.1 30 x0 16).toNatClampNeg) 3 → (evSp G yX6_of M_X6_of d [.ref (evad G 30 x0), .int l1, .int 3] S4 (evQI fun r5 S6 => (vp_in (S4.1 30 x0 16) 7 ∧ (∀ S8 : evS, S8 = evupL S6 54 0 ((S4.1 30 x0 16).toNatClampNeg) ((r5 + l2).toInt64) → (((S8.1 30 x0 17) ≤ (S8.1 30 x0 16) → q S8) ∧ (¬ (S8.1 30 x0 17) ≤ (S8.1 30 x0 16) → (vp_in (S8.1 30 x0 17) 7 ∧ (∀ S10 : evS, S10 = evup S8 53 0 ((S8.1 30 x0 17).toNatClampNeg) 3 → (vp_in (S10.1 30 x0 17) 7 ∧ (vp_in (S10.1 30 x0 17) 7 ∧ (∀ S13 : evS, S13 = evupL S10 54 0 ((S10.1 30 x0 17).toNatClampNeg) ((S10.1 52 0 ((S10.1 30 x0 17).toNatClampNeg)).toInt64) → (evSp G yX6_marksAll M_X6_marksAll d [.ref (evad G 30 x0)] S13 (evQV fun S14 => q S14)))))))))))))))))) ∧ (¬ (S.1 30 x0 17) < l6 → (∀ v15 : Int32, v15 = (l6 - 1) → (vp_in v15 7 ∧ (evSp G yX6_ofLeg M_X6_ofLeg d [.ref (evad G 30 x0), .int l1, .int v15, .int 0] S (evQI fun r17 S18 => (vp_in l6 7 ∧ (∀ S20 : evS, S20 = evup S18 49 0 l6.toNatClampNeg ((S.1 49 0 v15.toNatClampNeg) + r17) → (vp_in l6 7 ∧ (∀ S22 : evS, S22 = evup S20 50 0 l6.toNatClampNeg l5 → (evSp G yX6_ofLeg M_X6_ofLeg d [.ref (evad G 30 x0), .int l1, .int v15, .int 2] S22 (evQI fun r23 S24 => ((¬ l6 = l3 → bk_X6_lays_117 G d (evQV q) x0 l1 l2 l3 l4 l5 l6 v15 0 l6 (r23 - l5) S24) ∧ (l6 = l3 → ((¬ l4 = 0 → bk_X6_lays_117 G d (evQV q) x0 l1 l2 l3 l4 l5 l6 v15 0 l6 (r23 - l5) S24) ∧ (l4 = 0 → bk_X6_lays_118 G d (evQV q) x0 l1 l2 l3 l4 l5 l6 v15 0 l6 (r23 - l5) 1 S24))))))))))))))))) : bk_X6_lays_38 G d (evQV q) x0 l1 l2 l3 l4 l5 l6 S := by
  refine ea_iload (pc' := 40) dX6_lays_38 6 rfl rfl ?_
  refine ea_aload_n (pc' := 41) (i := 0) dX6_lays_40 rfl 0 rfl rfl ?_
  refine ea_geti (kf := 17) (pc' := 44) kok_30 hVl0 (by decide) rfl fl_X6_132 dX6_lays_41 rfl ?_
  refine ea_icmp_gt (tgt := 196) (pc' := 47) dX6_lays_44 (by decide) rfl (fun hc => ?_) (fun hc => ?_)
  · replace h := h.1 hc
    refine ea_aload_n (pc' := 197) (i := 0) dX6_lays_196 rfl 0 rfl rfl ?_
    refine ea_getr (k2 := 50) (x2 := 0) (kf := 19) (pc' := 200) kok_30 hVl0 (by decide) rfl fl_X6_35 rfl dX6_lays_197 rfl ?_
    refine ea_aload_n (pc' := 201) (i := 0) dX6_lays_200 rfl 0 rfl rfl ?_
    refine ea_geti (kf := 16) (pc' := 204) kok_30 hVl0 (by decide) rfl fl_X6_129 dX6_lays_201 rfl ?_
    refine ea_iconst (v := 0) (pc' := 205) dX6_lays_204 (by decide) rfl ?_
    obtain ⟨o1, h⟩ := h
    refine ea_iast (j := (S.1 30 x0 16).toNatClampNeg) (pc' := 206) (hCl.1 30 x0 19 50 hVl0 rfl) rfl o1 dX6_lays_205 rfl rfl ?_
    refine ea_tops (fun S2 hS2 => ?_)
    replace h := h S2 hS2
    refine ea_aload_n (pc' := 207) (i := 0) dX6_lays_206 rfl 0 rfl rfl ?_
    refine ea_getr (k2 := 53) (x2 := 0) (kf := 22) (pc' := 210) kok_30 hVl0 (by decide) rfl fl_X6_44 rfl dX6_lays_207 rfl ?_
    refine ea_aload_n (pc' := 211) (i := 0) dX6_lays_210 rfl 0 rfl rfl ?_
    refine ea_geti (kf := 16) (pc' := 214) kok_30 hVl0 (by decide) rfl fl_X6_129 dX6_lays_211 rfl ?_
    refine ea_iconst (v := 3) (pc' := 215) dX6_lays_214 (by decide) rfl ?_
    obtain ⟨o3, h⟩ := h
    refine ea_iast (j := (S2.1 30 x0 16).toNatClampNeg) (pc' := 216) (hCl.1 30 x0 22 53 hVl0 rfl) rfl o3 dX6_lays_215 rfl rfl ?_
    refine ea_tops (fun S4 hS4 => ?_)
    replace h := h S4 hS4
    refine ea_aload_n (pc' := 217) (i := 0) dX6_lays_216 rfl 0 rfl rfl ?_
    refine ea_getr (k2 := 54) (x2 := 0) (kf := 23) (pc' := 220) kok_30 hVl0 (by decide) rfl fl_X6_47 rfl dX6_lays_217 rfl ?_
    refine ea_aload_n (pc' := 221) (i := 0) dX6_lays_220 rfl 0 rfl rfl ?_
    refine ea_geti (kf := 16) (pc' := 224) kok_30 hVl0 (by decide) rfl fl_X6_129 dX6_lays_221 rfl ?_
    refine ea_aload_n (pc' := 225) (i := 0) dX6_lays_224 rfl 0 rfl rfl ?_
    refine ea_iload_n (pc' := 226) (i := 1) dX6_lays_225 rfl 1 rfl rfl ?_
    refine ea_iconst (v := 3) (pc' := 227) dX6_lays_226 (by decide) rfl ?_
    refine ea_cvi (As := [.int l1, .int 3]) (st := [.int (S4.1 30 x0 16), .ref (evad G 54 0)]) (d := d) (pc' := 230) mv_X6_of ml_X6_70 kok_30 hVl0 rfl rfl dX6_lays_227 rfl (Nat.le_of_ble_eq_true rfl) (ev_room (by decide)) ⟨Nat.le_refl _, Nat.le_refl _⟩ h rfl (fun r5 S6 h => ?_)
    refine ea_iload_n (pc' := 231) (i := 2) dX6_lays_230 rfl 2 rfl rfl ?_
    refine ea_iadd (pc' := 232) dX6_lays_231 rfl ?_
    refine ea_i2l (pc' := 233) dX6_lays_232 rfl ?_
    obtain ⟨o7, h⟩ := h
    refine ea_last (j := (S4.1 30 x0 16).toNatClampNeg) (pc' := 234) (hCl.1 30 x0 23 54 hVl0 rfl) rfl o7 dX6_lays_233 rfl rfl ?_
    refine ea_tops (fun S8 hS8 => ?_)
    replace h := h S8 hS8
    refine ea_aload_n (pc' := 235) (i := 0) dX6_lays_234 rfl 0 rfl rfl ?_
    refine ea_geti (kf := 17) (pc' := 238) kok_30 hVl0 (by decide) rfl fl_X6_132 dX6_lays_235 rfl ?_
    refine ea_aload_n (pc' := 239) (i := 0) dX6_lays_238 rfl 0 rfl rfl ?_
    refine ea_geti (kf := 16) (pc' := 242) kok_30 hVl0 (by decide) rfl fl_X6_129 dX6_lays_239 rfl ?_
    refine ea_icmp_le (tgt := 278) (pc' := 245) dX6_lays_242 (by decide) rfl (fun hc => ?_) (fun hc => ?_)
    · replace h := h.1 hc
      exact ea_vret rfl dX6_lays_278 ⟨rfl, h⟩
    · replace h := h.2 hc
      refine ea_aload_n (pc' := 246) (i := 0) dX6_lays_245 rfl 0 rfl rfl ?_
      refine ea_getr (k2 := 53) (x2 := 0) (kf := 22) (pc' := 249) kok_30 hVl0 (by decide) rfl fl_X6_44 rfl dX6_lays_246 rfl ?_
      refine ea_aload_n (pc' := 250) (i := 0) dX6_lays_249 rfl 0 rfl rfl ?_
      refine ea_geti (kf := 17) (pc' := 253) kok_30 hVl0 (by decide) rfl fl_X6_132 dX6_lays_250 rfl ?_
      refine ea_iconst (v := 3) (pc' := 254) dX6_lays_253 (by decide) rfl ?_
      obtain ⟨o9, h⟩ := h
      refine ea_iast (j := (S8.1 30 x0 17).toNatClampNeg) (pc' := 255) (hCl.1 30 x0 22 53 hVl0 rfl) rfl o9 dX6_lays_254 rfl rfl ?_
      refine ea_tops (fun S10 hS10 => ?_)
      replace h := h S10 hS10
      refine ea_aload_n (pc' := 256) (i := 0) dX6_lays_255 rfl 0 rfl rfl ?_
      refine ea_getr (k2 := 54) (x2 := 0) (kf := 23) (pc' := 259) kok_30 hVl0 (by decide) rfl fl_X6_47 rfl dX6_lays_256 rfl ?_
      refine ea_aload_n (pc' := 260) (i := 0) dX6_lays_259 rfl 0 rfl rfl ?_
      refine ea_geti (kf := 17) (pc' := 263) kok_30 hVl0 (by decide) rfl fl_X6_132 dX6_lays_260 rfl ?_
      refine ea_aload_n (pc' := 264) (i := 0) dX6_lays_263 rfl 0 rfl rfl ?_
      refine ea_getr (k2 := 52) (x2 := 0) (kf := 21) (pc' := 267) kok_30 hVl0 (by decide) rfl fl_X6_41 rfl dX6_lays_264 rfl ?_
      refine ea_aload_n (pc' := 268) (i := 0) dX6_lays_267 rfl 0 rfl rfl ?_
      refine ea_geti (kf := 17) (pc' := 271) kok_30 hVl0 (by decide) rfl fl_X6_132 dX6_lays_268 rfl ?_
      obtain ⟨o11, h⟩ := h
      refine ea_iald (j := (S10.1 30 x0 17).toNatClampNeg) (pc' := 272) (hCl.1 30 x0 21 52 hVl0 rfl) rfl o11 dX6_lays_271 rfl rfl ?_
      refine ea_i2l (pc' := 273) dX6_lays_272 rfl ?_
      obtain ⟨o12, h⟩ := h
      refine ea_last (j := (S10.1 30 x0 17).toNatClampNeg) (pc' := 274) (hCl.1 30 x0 23 54 hVl0 rfl) rfl o12 dX6_lays_273 rfl rfl ?_
      refine ea_tops (fun S13 hS13 => ?_)
      replace h := h S13 hS13
      refine ea_aload_n (pc' := 275) (i := 0) dX6_lays_274 rfl 0 rfl rfl ?_
      refine ea_cvv (As := []) (st := []) (d := d) (pc' := 278) mv_X6_marksAll ml_X6_139 kok_30 hVl0 rfl rfl dX6_lays_275 rfl (Nat.le_of_ble_eq_true rfl) (ev_room (by decide)) ⟨Nat.le_refl _, Nat.le_refl _⟩ h rfl (fun S14 h => ?_)
      exact ea_vret rfl dX6_lays_278 ⟨rfl, h⟩
  · replace h := h.2 hc
    refine ea_iload (pc' := 49) dX6_lays_47 6 rfl rfl ?_
    refine ea_iconst (v := 1) (pc' := 50) dX6_lays_49 (by decide) rfl ?_
    refine ea_isub (pc' := 51) dX6_lays_50 rfl ?_
    refine ea_topi (fun v15 hv15 => ?_)
    replace h := h v15 hv15
    refine ea_istore (lv' := [(7, .int v15), (0, .ref (evad G 30 x0)), (1, .int l1), (2, .int l2), (3, .int l3), (4, .int l4), (5, .int l5), (6, .int l6)]) (pc' := 53) dX6_lays_51 (by decide) rfl rfl ?_
    refine ea_aload_n (pc' := 54) (i := 0) dX6_lays_53 rfl 1 rfl rfl ?_
    refine ea_getr (k2 := 49) (x2 := 0) (kf := 18) (pc' := 57) kok_30 hVl0 (by decide) rfl fl_X6_32 rfl dX6_lays_54 rfl ?_
    refine ea_iload (pc' := 59) dX6_lays_57 7 rfl rfl ?_
    refine ea_aload_n (pc' := 60) (i := 0) dX6_lays_59 rfl 1 rfl rfl ?_
    refine ea_getr (k2 := 49) (x2 := 0) (kf := 18) (pc' := 63) kok_30 hVl0 (by decide) rfl fl_X6_32 rfl dX6_lays_60 rfl ?_
    refine ea_iload (pc' := 65) dX6_lays_63 0 rfl rfl ?_
    obtain ⟨o16, h⟩ := h
    refine ea_iald (j := v15.toNatClampNeg) (pc' := 66) (hCl.1 30 x0 18 49 hVl0 rfl) rfl o16 dX6_lays_65 rfl rfl ?_
    refine ea_aload_n (pc' := 67) (i := 0) dX6_lays_66 rfl 1 rfl rfl ?_
    refine ea_iload_n (pc' := 68) (i := 1) dX6_lays_67 rfl 2 rfl rfl ?_
    refine ea_iload (pc' := 70) dX6_lays_68 0 rfl rfl ?_
    refine ea_iconst (v := 0) (pc' := 71) dX6_lays_70 (by decide) rfl ?_
    refine ea_cvi (As := [.int l1, .int v15, .int 0]) (st := [.int (S.1 49 0 v15.toNatClampNeg), .int l6, .ref (evad G 49 0)]) (d := d) (pc' := 74) mv_X6_ofLeg ml_X6_135 kok_30 hVl0 rfl rfl dX6_lays_71 rfl (Nat.le_of_ble_eq_true rfl) (ev_room (by decide)) ⟨Nat.le_refl _, Nat.le_refl _⟩ h rfl (fun r17 S18 h => ?_)
    refine ea_iadd (pc' := 75) dX6_lays_74 rfl ?_
    obtain ⟨o19, h⟩ := h
    refine ea_iast (j := l6.toNatClampNeg) (pc' := 76) (hCl.1 30 x0 18 49 hVl0 rfl) rfl o19 dX6_lays_75 rfl rfl ?_
    refine ea_tops (fun S20 hS20 => ?_)
    replace h := h S20 hS20
    refine ea_aload_n (pc' := 77) (i := 0) dX6_lays_76 rfl 1 rfl rfl ?_
    refine ea_getr (k2 := 50) (x2 := 0) (kf := 19) (pc' := 80) kok_30 hVl0 (by decide) rfl fl_X6_35 rfl dX6_lays_77 rfl ?_
    refine ea_iload (pc' := 82) dX6_lays_80 7 rfl rfl ?_
    refine ea_iload (pc' := 84) dX6_lays_82 6 rfl rfl ?_
    obtain ⟨o21, h⟩ := h
    refine ea_iast (j := l6.toNatClampNeg) (pc' := 85) (hCl.1 30 x0 19 50 hVl0 rfl) rfl o21 dX6_lays_84 rfl rfl ?_
    refine ea_tops (fun S22 hS22 => ?_)
    replace h := h S22 hS22
    refine ea_aload_n (pc' := 86) (i := 0) dX6_lays_85 rfl 1 rfl rfl ?_
    refine ea_getr (k2 := 51) (x2 := 0) (kf := 20) (pc' := 89) kok_30 hVl0 (by decide) rfl fl_X6_38 rfl dX6_lays_86 rfl ?_
    refine ea_iload (pc' := 91) dX6_lays_89 7 rfl rfl ?_
    refine ea_aload_n (pc' := 92) (i := 0) dX6_lays_91 rfl 1 rfl rfl ?_
    refine ea_iload_n (pc' := 93) (i := 1) dX6_lays_92 rfl 2 rfl rfl ?_
    refine ea_iload (pc' := 95) dX6_lays_93 0 rfl rfl ?_
    refine ea_iconst (v := 2) (pc' := 96) dX6_lays_95 (by decide) rfl ?_
    refine ea_cvi (As := [.int l1, .int v15, .int 2]) (st := [.int l6, .ref (evad G 51 0)]) (d := d) (pc' := 99) mv_X6_ofLeg ml_X6_135 kok_30 hVl0 rfl rfl dX6_lays_96 rfl (Nat.le_of_ble_eq_true rfl) (ev_room (by decide)) ⟨Nat.le_refl _, Nat.le_refl _⟩ h rfl (fun r23 S24 h => ?_)
    refine ea_iload (pc' := 101) dX6_lays_99 6 rfl rfl ?_
    refine ea_isub (pc' := 102) dX6_lays_101 rfl ?_
    refine ea_iload (pc' := 104) dX6_lays_102 7 rfl rfl ?_
    refine ea_iload_n (pc' := 105) (i := 3) dX6_lays_104 rfl 4 rfl rfl ?_
    refine ea_icmp_ne (tgt := 117) (pc' := 108) dX6_lays_105 (by decide) rfl (fun hc => ?_) (fun hc => ?_)
    · replace h := h.1 hc
      refine ea_loc [1, 2, 3, 4, 5, 6, 7, 0] rfl ?_
      exact h
    · replace h := h.2 hc
      refine ea_iload (pc' := 110) dX6_lays_108 5 rfl rfl ?_
      refine ea_if_ne (tgt := 117) (pc' := 113) dX6_lays_110 (by decide) rfl (fun hc => ?_) (fun hc => ?_)
      · replace h := h.1 hc
        refine ea_loc [1, 2, 3, 4, 5, 6, 7, 0] rfl ?_
        exact h
      · replace h := h.2 hc
        refine ea_iconst (v := 1) (pc' := 114) dX6_lays_113 (by decide) rfl ?_
        refine ea_goto (tgt := 118) dX6_lays_114 (by decide) ?_
        refine ea_loc [1, 2, 3, 4, 5, 6, 7, 0] rfl ?_
        exact h
set_option maxRecDepth 100000 in
set_option maxHeartbeats 4000000 in
theorem vb_X6_lays_117 {G : evG} {d : Nat} {q : evS → Prop} (hCl : evCl G) {x0 : Nat} {l1 : Int32} {l2 : Int32} {l3 : Int32} {l4 : Int32} {l5 : Int32} {l6 : Int32} {l7 : Int32} {xs0 : Nat} {s1 : Int32} {s2 : Int32} {S : evS} (hVl0 : (30, x0) ∈ evKs G) (hVs0 : (51, xs0) ∈ evKs G)
    (h : bk_X6_lays_118 G d (evQV q) x0 l1 l2 l3 l4 l5 l6 l7 xs0 s1 s2 0 S) : bk_X6_lays_117 G d (evQV q) x0 l1 l2 l3 l4 l5 l6 l7 xs0 s1 s2 S := by
  refine ea_iconst (v := 0) (pc' := 118) dX6_lays_117 (by decide) rfl ?_
  exact h
set_option maxRecDepth 100000 in
set_option maxHeartbeats 4000000 in
theorem vb_X6_lays_118 {G : evG} {d : Nat} {q : evS → Prop} (hCl : evCl G) {x0 : Nat} {l1 : Int32} {l2 : Int32} {l3 : Int32} {l4 : Int32} {l5 : Int32} {l6 : Int32} {l7 : Int32} {xs0 : Nat} {s1 : Int32} {s2 : Int32} {s3 : Int32} {S : evS} (hVl0 : (30, x0) ∈ evKs G) (hVs0 : (51, xs0) ∈ evKs G)
    (h : (vp_in s1 7 ∧ (∀ S2 : evS, S2 = evup S 51 xs0 s1.toNatClampNeg (s2 - s3) → (evSp G yX6_ofLeg M_X6_ofLeg d [.ref (evad G 30 x0), .int l1, .int l7, .int 3] S2 (evQI fun r3 S4 => ((¬ l6 = l3 → bk_X6_lays_153 G d (evQV q) x0 l1 l2 l3 l4 l5 l6 l7 0 l6 (r3 - l5) S4) ∧ (l6 = l3 → ((¬ l4 = 1 → bk_X6_lays_153 G d (evQV q) x0 l1 l2 l3 l4 l5 l6 l7 0 l6 (r3 - l5) S4) ∧ (l4 = 1 → bk_X6_lays_154 G d (evQV q) x0 l1 l2 l3 l4 l5 l6 l7 0 l6 (r3 - l5) 1 S4))))))))) : bk_X6_lays_118 G d (evQV q) x0 l1 l2 l3 l4 l5 l6 l7 xs0 s1 s2 s3 S := by
  refine ea_isub (pc' := 119) dX6_lays_118 rfl ?_
  obtain ⟨o1, h⟩ := h
  refine ea_iast (j := s1.toNatClampNeg) (pc' := 120) hVs0 rfl o1 dX6_lays_119 rfl rfl ?_
  refine ea_tops (fun S2 hS2 => ?_)
  replace h := h S2 hS2
  refine ea_aload_n (pc' := 121) (i := 0) dX6_lays_120 rfl 0 rfl rfl ?_
  refine ea_getr (k2 := 52) (x2 := 0) (kf := 21) (pc' := 124) kok_30 hVl0 (by decide) rfl fl_X6_41 rfl dX6_lays_121 rfl ?_
  refine ea_iload (pc' := 126) dX6_lays_124 6 rfl rfl ?_
  refine ea_aload_n (pc' := 127) (i := 0) dX6_lays_126 rfl 0 rfl rfl ?_
  refine ea_iload_n (pc' := 128) (i := 1) dX6_lays_127 rfl 1 rfl rfl ?_
  refine ea_iload (pc' := 130) dX6_lays_128 7 rfl rfl ?_
  refine ea_iconst (v := 3) (pc' := 131) dX6_lays_130 (by decide) rfl ?_
  refine ea_cvi (As := [.int l1, .int l7, .int 3]) (st := [.int l6, .ref (evad G 52 0)]) (d := d) (pc' := 134) mv_X6_ofLeg ml_X6_135 kok_30 hVl0 rfl rfl dX6_lays_131 rfl (Nat.le_of_ble_eq_true rfl) (ev_room (by decide)) ⟨Nat.le_refl _, Nat.le_refl _⟩ h rfl (fun r3 S4 h => ?_)
  refine ea_iload (pc' := 136) dX6_lays_134 5 rfl rfl ?_
  refine ea_isub (pc' := 137) dX6_lays_136 rfl ?_
  refine ea_iload (pc' := 139) dX6_lays_137 6 rfl rfl ?_
  refine ea_iload_n (pc' := 140) (i := 3) dX6_lays_139 rfl 3 rfl rfl ?_
  refine ea_icmp_ne (tgt := 153) (pc' := 143) dX6_lays_140 (by decide) rfl (fun hc => ?_) (fun hc => ?_)
  · replace h := h.1 hc
    exact h
  · replace h := h.2 hc
    refine ea_iload (pc' := 145) dX6_lays_143 4 rfl rfl ?_
    refine ea_iconst (v := 1) (pc' := 146) dX6_lays_145 (by decide) rfl ?_
    refine ea_icmp_ne (tgt := 153) (pc' := 149) dX6_lays_146 (by decide) rfl (fun hc => ?_) (fun hc => ?_)
    · replace h := h.1 hc
      exact h
    · replace h := h.2 hc
      refine ea_iconst (v := 1) (pc' := 150) dX6_lays_149 (by decide) rfl ?_
      refine ea_goto (tgt := 154) dX6_lays_150 (by decide) ?_
      exact h
set_option maxRecDepth 100000 in
set_option maxHeartbeats 4000000 in
theorem vb_X6_lays_153 {G : evG} {d : Nat} {q : evS → Prop} (hCl : evCl G) {x0 : Nat} {l1 : Int32} {l2 : Int32} {l3 : Int32} {l4 : Int32} {l5 : Int32} {l6 : Int32} {l7 : Int32} {xs0 : Nat} {s1 : Int32} {s2 : Int32} {S : evS} (hVl0 : (30, x0) ∈ evKs G) (hVs0 : (52, xs0) ∈ evKs G)
    (h : bk_X6_lays_154 G d (evQV q) x0 l1 l2 l3 l4 l5 l6 l7 xs0 s1 s2 0 S) : bk_X6_lays_153 G d (evQV q) x0 l1 l2 l3 l4 l5 l6 l7 xs0 s1 s2 S := by
  refine ea_iconst (v := 0) (pc' := 154) dX6_lays_153 (by decide) rfl ?_
  exact h
set_option maxRecDepth 100000 in
set_option maxHeartbeats 4000000 in
theorem vb_X6_lays_154 {G : evG} {d : Nat} {q : evS → Prop} (hCl : evCl G) {x0 : Nat} {l1 : Int32} {l2 : Int32} {l3 : Int32} {l4 : Int32} {l5 : Int32} {l6 : Int32} {l7 : Int32} {xs0 : Nat} {s1 : Int32} {s2 : Int32} {s3 : Int32} {S : evS} (hVl0 : (30, x0) ∈ evKs G) (hVs0 : (52, xs0) ∈ evKs G)
    (h : (vp_in s1 7 ∧ (∀ S2 : evS, S2 = evup S 52 xs0 s1.toNatClampNeg (s2 + s3) → ((l6 ≤ (S2.1 30 x0 16) → bk_X6_lays_179 G d (evQV q) x0 l1 l2 l3 l4 l6 l5 0 S2) ∧ (¬ l6 ≤ (S2.1 30 x0 16) → (evSp G yX6_ofLeg M_X6_ofLeg d [.ref (evad G 30 x0), .int l1, .int l7, .int 1] S2 (evQI fun r3 S4 => bk_X6_lays_179 G d (evQV q) x0 l1 l2 l3 l4 l6 l5 r3 S4))))))) : bk_X6_lays_154 G d (evQV q) x0 l1 l2 l3 l4 l5 l6 l7 xs0 s1 s2 s3 S := by
  refine ea_iadd (pc' := 155) dX6_lays_154 rfl ?_
  obtain ⟨o1, h⟩ := h
  refine ea_iast (j := s1.toNatClampNeg) (pc' := 156) hVs0 rfl o1 dX6_lays_155 rfl rfl ?_
  refine ea_tops (fun S2 hS2 => ?_)
  replace h := h S2 hS2
  refine ea_iload (pc' := 158) dX6_lays_156 5 rfl rfl ?_
  refine ea_iload (pc' := 160) dX6_lays_158 6 rfl rfl ?_
  refine ea_aload_n (pc' := 161) (i := 0) dX6_lays_160 rfl 0 rfl rfl ?_
  refine ea_geti (kf := 16) (pc' := 164) kok_30 hVl0 (by decide) rfl fl_X6_129 dX6_lays_161 rfl ?_
  refine ea_icmp_le (tgt := 178) (pc' := 167) dX6_lays_164 (by decide) rfl (fun hc => ?_) (fun hc => ?_)
  · replace h := h.1 hc
    refine ea_iconst (v := 0) (pc' := 179) dX6_lays_178 (by decide) rfl ?_
    refine ea_loc [0, 1, 2, 3, 4, 6] rfl ?_
    exact h
  · replace h := h.2 hc
    refine ea_aload_n (pc' := 168) (i := 0) dX6_lays_167 rfl 0 rfl rfl ?_
    refine ea_iload_n (pc' := 169) (i := 1) dX6_lays_168 rfl 1 rfl rfl ?_
    refine ea_iload (pc' := 171) dX6_lays_169 7 rfl rfl ?_
    refine ea_iconst (v := 1) (pc' := 172) dX6_lays_171 (by decide) rfl ?_
    refine ea_cvi (As := [.int l1, .int l7, .int 1]) (st := [.int l5]) (d := d) (pc' := 175) mv_X6_ofLeg ml_X6_135 kok_30 hVl0 rfl rfl dX6_lays_172 rfl (Nat.le_of_ble_eq_true rfl) (ev_room (by decide)) ⟨Nat.le_refl _, Nat.le_refl _⟩ h rfl (fun r3 S4 h => ?_)
    refine ea_goto (tgt := 179) dX6_lays_175 (by decide) ?_
    refine ea_loc [0, 1, 2, 3, 4, 6] rfl ?_
    exact h
set_option maxRecDepth 100000 in
set_option maxHeartbeats 4000000 in
theorem vb_X6_lays_179 {G : evG} {d : Nat} {q : evS → Prop} (hCl : evCl G) {x0 : Nat} {l1 : Int32} {l2 : Int32} {l3 : Int32} {l4 : Int32} {l6 : Int32} {s0 : Int32} {s1 : Int32} {S : evS} (hVl0 : (30, x0) ∈ evKs G)
    (h : (∀ v1 : Int32, v1 = (s0 + s1) → (vp_in l6 7 ∧ (∀ S3 : evS, S3 = evup S 53 0 l6.toNatClampNeg 0 → (∀ v4 : Int32, v4 = (l6 + 1) → bk_X6_lays_38 G d (evQV q) x0 l1 l2 l3 l4 v1 v4 S3))))) : bk_X6_lays_179 G d (evQV q) x0 l1 l2 l3 l4 l6 s0 s1 S := by
  refine ea_iadd (pc' := 180) dX6_lays_179 rfl ?_
  refine ea_topi (fun v1 hv1 => ?_)
  replace h := h v1 hv1
  refine ea_istore (lv' := [(5, .int v1), (0, .ref (evad G 30 x0)), (1, .int l1), (2, .int l2), (3, .int l3), (4, .int l4), (6, .int l6)]) (pc' := 182) dX6_lays_180 (by decide) rfl rfl ?_
  refine ea_aload_n (pc' := 183) (i := 0) dX6_lays_182 rfl 1 rfl rfl ?_
  refine ea_getr (k2 := 53) (x2 := 0) (kf := 22) (pc' := 186) kok_30 hVl0 (by decide) rfl fl_X6_44 rfl dX6_lays_183 rfl ?_
  refine ea_iload (pc' := 188) dX6_lays_186 6 rfl rfl ?_
  refine ea_iconst (v := 0) (pc' := 189) dX6_lays_188 (by decide) rfl ?_
  obtain ⟨o2, h⟩ := h
  refine ea_iast (j := l6.toNatClampNeg) (pc' := 190) (hCl.1 30 x0 22 53 hVl0 rfl) rfl o2 dX6_lays_189 rfl rfl ?_
  refine ea_tops (fun S3 hS3 => ?_)
  replace h := h S3 hS3
  obtain ⟨v4, hv4⟩ : ∃ z : Int32, z = (l6 + 1) := ⟨_, rfl⟩
  replace h := h v4 hv4
  refine ea_iinc (q := 6) (v := v4) (lv' := [(6, .int v4), (5, .int v1), (0, .ref (evad G 30 x0)), (1, .int l1), (2, .int l2), (3, .int l3), (4, .int l4)]) (pc' := 193) dX6_lays_190 rfl (by rw [hv4]; rfl) (by decide) rfl rfl ?_
  refine ea_goto (tgt := 38) dX6_lays_193 (by decide) ?_
  refine ea_loc [2, 3, 4, 5, 6, 1, 0] rfl ?_
  exact h
theorem vm_X6_lays {G : evG} {d : Nat} {q : evS → Prop} {x0 : Nat} {l1 : Int32} {l2 : Int32} {l3 : Int32} {l4 : Int32} {S : evS} (h : bk_X6_lays_0 G d (evQV q) x0 l1 l2 l3 l4 S) : evSp G yX6_lays M_X6_lays (d + 1) [.ref (evad G 30 x0), .int l1, .int l2, .int l3, .int l4] S (evQV q) :=
  evSp.of (by decide +kernel) rfl (Nat.le_of_ble_eq_true rfl) h
abbrev bk_X6_of_0 (G : evG) (d : Nat) (Q : Option Value → evS → Prop) (x0 : Nat) (l1 : Int32) (l2 : Int32) (S : evS) : Prop := evAt G M_X6_of (evFm G d Q) 0 [(0, .ref (evad G 30 x0)), (1, .int l1), (2, .int l2)] [] S
set_option maxRecDepth 100000 in
set_option maxHeartbeats 4000000 in
theorem vb_X6_of_0 {G : evG} {d : Nat} {q : Int32 → evS → Prop} (hCl : evCl G) {x0 : Nat} {l1 : Int32} {l2 : Int32} {S : evS} (hVl0 : (30, x0) ∈ evKs G)
    (h : (vp_in ((33 * l1) + l2) 132 ∧ q (S.1 31 0 (((33 * l1) + l2).toNatClampNeg)) S)) : bk_X6_of_0 G d (evQI q) x0 l1 l2 S := by
  refine ea_aload_n (pc' := 1) (i := 0) dX6_of_0 rfl 0 rfl rfl ?_
  refine ea_getr (k2 := 31) (x2 := 0) (kf := 0) (pc' := 4) kok_30 hVl0 (by decide) rfl fl_X6_7 rfl dX6_of_1 rfl ?_
  refine ea_bipush (v := 33) (pc' := 6) dX6_of_4 (by decide) rfl ?_
  refine ea_iload_n (pc' := 7) (i := 1) dX6_of_6 rfl 1 rfl rfl ?_
  refine ea_imul (pc' := 8) dX6_of_7 rfl ?_
  refine ea_iload_n (pc' := 9) (i := 2) dX6_of_8 rfl 2 rfl rfl ?_
  refine ea_iadd (pc' := 10) dX6_of_9 rfl ?_
  obtain ⟨o1, h⟩ := h
  refine ea_iald (j := ((33 * l1) + l2).toNatClampNeg) (pc' := 11) (hCl.1 30 x0 0 31 hVl0 rfl) rfl o1 dX6_of_10 rfl rfl ?_
  exact ea_iret rfl dX6_of_11 ⟨_, rfl, h⟩
theorem vm_X6_of {G : evG} {d : Nat} {q : Int32 → evS → Prop} {x0 : Nat} {l1 : Int32} {l2 : Int32} {S : evS} (h : bk_X6_of_0 G d (evQI q) x0 l1 l2 S) : evSp G yX6_of M_X6_of d [.ref (evad G 30 x0), .int l1, .int l2] S (evQI q) :=
  evSp.of (by decide +kernel) rfl (Nat.le_of_ble_eq_true rfl) h
abbrev bk_X6_ofLeg_0 (G : evG) (d : Nat) (Q : Option Value → evS → Prop) (x0 : Nat) (l1 : Int32) (l2 : Int32) (l3 : Int32) (S : evS) : Prop := evAt G M_X6_ofLeg (evFm G (d + 1) Q) 0 [(0, .ref (evad G 30 x0)), (1, .int l1), (2, .int l2), (3, .int l3)] [] S
set_option maxRecDepth 100000 in
set_option maxHeartbeats 4000000 in
theorem vb_X6_ofLeg_0 {G : evG} {d : Nat} {q : Int32 → evS → Prop} (hCl : evCl G) {x0 : Nat} {l1 : Int32} {l2 : Int32} {l3 : Int32} {S : evS} (hVl0 : (30, x0) ∈ evKs G)
    (h : (evSp G yX6_legPlace M_X6_legPlace d [.int l2, .int l3] S (evQI fun r1 S2 => (evSp G yX6_of M_X6_of d [.ref (evad G 30 x0), .int l1, .int r1] S2 (evQI fun r3 S4 => q r3 S4))))) : bk_X6_ofLeg_0 G d (evQI q) x0 l1 l2 l3 S := by
  refine ea_aload_n (pc' := 1) (i := 0) dX6_ofLeg_0 rfl 0 rfl rfl ?_
  refine ea_iload_n (pc' := 2) (i := 1) dX6_ofLeg_1 rfl 1 rfl rfl ?_
  refine ea_iload_n (pc' := 3) (i := 2) dX6_ofLeg_2 rfl 2 rfl rfl ?_
  refine ea_iload_n (pc' := 4) (i := 3) dX6_ofLeg_3 rfl 3 rfl rfl ?_
  refine ea_csi (As := [.int l2, .int l3]) (st := [.int l1, .ref (evad G 30 x0)]) (d := d) (pc' := 7) mv_X6_legPlace ml_X6_66 rfl dX6_ofLeg_4 rfl (Nat.le_of_ble_eq_true rfl) (ev_room (by decide)) ⟨Nat.le_refl _, Nat.le_refl _⟩ h rfl (fun r1 S2 h => ?_)
  refine ea_cvi (As := [.int l1, .int r1]) (st := []) (d := d) (pc' := 10) mv_X6_of ml_X6_70 kok_30 hVl0 rfl rfl dX6_ofLeg_7 rfl (Nat.le_of_ble_eq_true rfl) (ev_room (by decide)) ⟨Nat.le_refl _, Nat.le_refl _⟩ h rfl (fun r3 S4 h => ?_)
  exact ea_iret rfl dX6_ofLeg_10 ⟨_, rfl, h⟩
theorem vm_X6_ofLeg {G : evG} {d : Nat} {q : Int32 → evS → Prop} {x0 : Nat} {l1 : Int32} {l2 : Int32} {l3 : Int32} {S : evS} (h : bk_X6_ofLeg_0 G d (evQI q) x0 l1 l2 l3 S) : evSp G yX6_ofLeg M_X6_ofLeg (d + 1) [.ref (evad G 30 x0), .int l1, .int l2, .int l3] S (evQI q) :=
  evSp.of (by decide +kernel) rfl (Nat.le_of_ble_eq_true rfl) h
abbrev bk_X6_marksAll_0 (G : evG) (d : Nat) (Q : Option Value → evS → Prop) (x0 : Nat) (S : evS) : Prop := evAt G M_X6_marksAll (evFm G (d + 1) Q) 0 [(0, .ref (evad G 30 x0))] [] S
abbrev bk_X6_marksAll_5 (G : evG) (d : Nat) (Q : Option Value → evS → Prop) (x0 : Nat) (l1 : Int32) (S : evS) : Prop := evAt G M_X6_marksAll (evFm G (d + 1) Q) 5 [(0, .ref (evad G 30 x0)), (1, .int l1)] [] S
abbrev bk_X6_marksAll_30 (G : evG) (d : Nat) (Q : Option Value → evS → Prop) (x0 : Nat) (l1 : Int32) (S : evS) : Prop := evAt G M_X6_marksAll (evFm G (d + 1) Q) 30 [(0, .ref (evad G 30 x0)), (1, .int l1)] [] S
set_option maxRecDepth 100000 in
set_option maxHeartbeats 4000000 in
theorem vb_X6_marksAll_0 {G : evG} {d : Nat} {q : evS → Prop} (hCl : evCl G) {x0 : Nat} {S : evS} (hVl0 : (30, x0) ∈ evKs G)
    (h : (∀ v1 : Int32, v1 = (S.1 30 x0 16) → bk_X6_marksAll_5 G d (evQV q) x0 v1 S)) : bk_X6_marksAll_0 G d (evQV q) x0 S := by
  refine ea_aload_n (pc' := 1) (i := 0) dX6_marksAll_0 rfl 0 rfl rfl ?_
  refine ea_geti (kf := 16) (pc' := 4) kok_30 hVl0 (by decide) rfl fl_X6_129 dX6_marksAll_1 rfl ?_
  refine ea_topi (fun v1 hv1 => ?_)
  replace h := h v1 hv1
  refine ea_istore_n (lv' := [(1, .int v1), (0, .ref (evad G 30 x0))]) (pc' := 5) dX6_marksAll_4 rfl (by decide) rfl rfl ?_
  refine ea_loc [1, 0] rfl ?_
  exact h
set_option maxRecDepth 100000 in
set_option maxHeartbeats 4000000 in
theorem vb_X6_marksAll_5 {G : evG} {d : Nat} {q : evS → Prop} (hCl : evCl G) {x0 : Nat} {l1 : Int32} {S : evS} (hVl0 : (30, x0) ∈ evKs G)
    (h : (((S.1 30 x0 17) ≤ l1 → q S) ∧ (¬ (S.1 30 x0 17) ≤ l1 → (evSp G yX6_markBehind M_X6_markBehind d [.ref (evad G 30 x0), .int l1] S (evQI fun r1 S2 => (evSp G yX6_marksOne M_X6_marksOne d [.ref (evad G 30 x0), .int l1, .int r1] S2 (evQI fun r3 S4 => ((¬ r3 = 0 → bk_X6_marksAll_30 G d (evQV q) x0 l1 S4) ∧ (r3 = 0 → bk_X6_marksAll_30 G d (evQV q) x0 r1 S4))))))))) : bk_X6_marksAll_5 G d (evQV q) x0 l1 S := by
  refine ea_iload_n (pc' := 6) (i := 1) dX6_marksAll_5 rfl 1 rfl rfl ?_
  refine ea_aload_n (pc' := 7) (i := 0) dX6_marksAll_6 rfl 0 rfl rfl ?_
  refine ea_geti (kf := 17) (pc' := 10) kok_30 hVl0 (by decide) rfl fl_X6_132 dX6_marksAll_7 rfl ?_
  refine ea_icmp_ge (tgt := 33) (pc' := 13) dX6_marksAll_10 (by decide) rfl (fun hc => ?_) (fun hc => ?_)
  · replace h := h.1 hc
    exact ea_vret rfl dX6_marksAll_33 ⟨rfl, h⟩
  · replace h := h.2 hc
    refine ea_aload_n (pc' := 14) (i := 0) dX6_marksAll_13 rfl 0 rfl rfl ?_
    refine ea_iload_n (pc' := 15) (i := 1) dX6_marksAll_14 rfl 1 rfl rfl ?_
    refine ea_cvi (As := [.int l1]) (st := []) (d := d) (pc' := 18) mv_X6_markBehind ml_X6_149 kok_30 hVl0 rfl rfl dX6_marksAll_15 rfl (Nat.le_of_ble_eq_true rfl) (ev_room (by decide)) ⟨Nat.le_refl _, Nat.le_refl _⟩ h rfl (fun r1 S2 h => ?_)
    refine ea_istore_n (lv' := [(2, .int r1), (0, .ref (evad G 30 x0)), (1, .int l1)]) (pc' := 19) dX6_marksAll_18 rfl (by decide) rfl rfl ?_
    refine ea_aload_n (pc' := 20) (i := 0) dX6_marksAll_19 rfl 1 rfl rfl ?_
    refine ea_iload_n (pc' := 21) (i := 1) dX6_marksAll_20 rfl 2 rfl rfl ?_
    refine ea_iload_n (pc' := 22) (i := 2) dX6_marksAll_21 rfl 0 rfl rfl ?_
    refine ea_cvi (As := [.int l1, .int r1]) (st := []) (d := d) (pc' := 25) mv_X6_marksOne ml_X6_153 kok_30 hVl0 rfl rfl dX6_marksAll_22 rfl (Nat.le_of_ble_eq_true rfl) (ev_room (by decide)) ⟨Nat.le_refl _, Nat.le_refl _⟩ h rfl (fun r3 S4 h => ?_)
    refine ea_if_ne (tgt := 30) (pc' := 28) dX6_marksAll_25 (by decide) rfl (fun hc => ?_) (fun hc => ?_)
    · replace h := h.1 hc
      refine ea_loc [1, 2] rfl ?_
      exact h
    · replace h := h.2 hc
      refine ea_iload_n (pc' := 29) (i := 2) dX6_marksAll_28 rfl 0 rfl rfl ?_
      refine ea_istore_n (lv' := [(1, .int r1), (2, .int r1), (0, .ref (evad G 30 x0))]) (pc' := 30) dX6_marksAll_29 rfl (by decide) rfl rfl ?_
      refine ea_loc [2, 0] rfl ?_
      exact h
set_option maxRecDepth 100000 in
set_option maxHeartbeats 4000000 in
theorem vb_X6_marksAll_30 {G : evG} {d : Nat} {q : evS → Prop} (hCl : evCl G) {x0 : Nat} {l1 : Int32} {S : evS} (hVl0 : (30, x0) ∈ evKs G)
    (h : bk_X6_marksAll_5 G d (evQV q) x0 l1 S) : bk_X6_marksAll_30 G d (evQV q) x0 l1 S := by
  refine ea_goto (tgt := 5) dX6_marksAll_30 (by decide) ?_
  exact h
theorem vm_X6_marksAll {G : evG} {d : Nat} {q : evS → Prop} {x0 : Nat} {S : evS} (h : bk_X6_marksAll_0 G d (evQV q) x0 S) : evSp G yX6_marksAll M_X6_marksAll (d + 1) [.ref (evad G 30 x0)] S (evQV q) :=
  evSp.of (by decide +kernel) rfl (Nat.le_of_ble_eq_true rfl) h
abbrev bk_X6_markBehind_0 (G : evG) (d : Nat) (Q : Option Value → evS → Prop) (x0 : Nat) (l1 : Int32) (S : evS) : Prop := evAt G M_X6_markBehind (evFm G d Q) 0 [(0, .ref (evad G 30 x0)), (1, .int l1)] [] S
abbrev bk_X6_markBehind_4 (G : evG) (d : Nat) (Q : Option Value → evS → Prop) (x0 : Nat) (l2 : Int32) (S : evS) : Prop := evAt G M_X6_markBehind (evFm G d Q) 4 [(0, .ref (evad G 30 x0)), (2, .int l2)] [] S
set_option maxRecDepth 100000 in
set_option maxHeartbeats 4000000 in
theorem vb_X6_markBehind_0 {G : evG} {d : Nat} {q : Int32 → evS → Prop} (hCl : evCl G) {x0 : Nat} {l1 : Int32} {S : evS} (hVl0 : (30, x0) ∈ evKs G)
    (h : (∀ v1 : Int32, v1 = (l1 + 1) → bk_X6_markBehind_4 G d (evQI q) x0 v1 S)) : bk_X6_markBehind_0 G d (evQI q) x0 l1 S := by
  refine ea_iload_n (pc' := 1) (i := 1) dX6_markBehind_0 rfl 1 rfl rfl ?_
  refine ea_iconst (v := 1) (pc' := 2) dX6_markBehind_1 (by decide) rfl ?_
  refine ea_iadd (pc' := 3) dX6_markBehind_2 rfl ?_
  refine ea_topi (fun v1 hv1 => ?_)
  replace h := h v1 hv1
  refine ea_istore_n (lv' := [(2, .int v1), (0, .ref (evad G 30 x0)), (1, .int l1)]) (pc' := 4) dX6_markBehind_3 rfl (by decide) rfl rfl ?_
  refine ea_loc [1, 0] rfl ?_
  exact h
set_option maxRecDepth 100000 in
set_option maxHeartbeats 4000000 in
theorem vb_X6_markBehind_4 {G : evG} {d : Nat} {q : Int32 → evS → Prop} (hCl : evCl G) {x0 : Nat} {l2 : Int32} {S : evS} (hVl0 : (30, x0) ∈ evKs G)
    (h : (vp_in l2 7 ∧ ((¬ (S.1 53 0 l2.toNatClampNeg) = 0 → q l2 S) ∧ ((S.1 53 0 l2.toNatClampNeg) = 0 → (∀ v2 : Int32, v2 = (l2 + 1) → bk_X6_markBehind_4 G d (evQI q) x0 v2 S))))) : bk_X6_markBehind_4 G d (evQI q) x0 l2 S := by
  refine ea_aload_n (pc' := 5) (i := 0) dX6_markBehind_4 rfl 0 rfl rfl ?_
  refine ea_getr (k2 := 53) (x2 := 0) (kf := 22) (pc' := 8) kok_30 hVl0 (by decide) rfl fl_X6_44 rfl dX6_markBehind_5 rfl ?_
  refine ea_iload_n (pc' := 9) (i := 2) dX6_markBehind_8 rfl 1 rfl rfl ?_
  obtain ⟨o1, h⟩ := h
  refine ea_iald (j := l2.toNatClampNeg) (pc' := 10) (hCl.1 30 x0 22 53 hVl0 rfl) rfl o1 dX6_markBehind_9 rfl rfl ?_
  refine ea_if_ne (tgt := 19) (pc' := 13) dX6_markBehind_10 (by decide) rfl (fun hc => ?_) (fun hc => ?_)
  · replace h := h.1 hc
    refine ea_iload_n (pc' := 20) (i := 2) dX6_markBehind_19 rfl 1 rfl rfl ?_
    exact ea_iret rfl dX6_markBehind_20 ⟨_, rfl, h⟩
  · replace h := h.2 hc
    obtain ⟨v2, hv2⟩ : ∃ z : Int32, z = (l2 + 1) := ⟨_, rfl⟩
    replace h := h v2 hv2
    refine ea_iinc (q := 1) (v := v2) (lv' := [(2, .int v2), (0, .ref (evad G 30 x0))]) (pc' := 16) dX6_markBehind_13 rfl (by rw [hv2]; rfl) (by decide) rfl rfl ?_
    refine ea_goto (tgt := 4) dX6_markBehind_16 (by decide) ?_
    refine ea_loc [1, 0] rfl ?_
    exact h
theorem vm_X6_markBehind {G : evG} {d : Nat} {q : Int32 → evS → Prop} {x0 : Nat} {l1 : Int32} {S : evS} (h : bk_X6_markBehind_0 G d (evQI q) x0 l1 S) : evSp G yX6_markBehind M_X6_markBehind d [.ref (evad G 30 x0), .int l1] S (evQI q) :=
  evSp.of (by decide +kernel) rfl (Nat.le_of_ble_eq_true rfl) h
abbrev bk_X6_marksOne_0 (G : evG) (d : Nat) (Q : Option Value → evS → Prop) (x0 : Nat) (l1 : Int32) (l2 : Int32) (S : evS) : Prop := evAt G M_X6_marksOne (evFm G (d + 1) Q) 0 [(0, .ref (evad G 30 x0)), (1, .int l1), (2, .int l2)] [] S
abbrev bk_X6_marksOne_8 (G : evG) (d : Nat) (Q : Option Value → evS → Prop) (x0 : Nat) (l1 : Int32) (l2 : Int32) (l3 : Int32) (l4 : Int32) (S : evS) : Prop := evAt G M_X6_marksOne (evFm G (d + 1) Q) 8 [(0, .ref (evad G 30 x0)), (1, .int l1), (2, .int l2), (3, .int l3), (4, .int l4)] [] S
abbrev bk_X6_marksOne_50 (G : evG) (d : Nat) (Q : Option Value → evS → Prop) (x0 : Nat) (l1 : Int32) (l2 : Int32) (l4 : Int32) (S : evS) : Prop := evAt G M_X6_marksOne (evFm G (d + 1) Q) 50 [(0, .ref (evad G 30 x0)), (1, .int l1), (2, .int l2), (4, .int l4)] [] S
abbrev bk_X6_marksOne_55 (G : evG) (d : Nat) (Q : Option Value → evS → Prop) (x0 : Nat) (l1 : Int32) (l2 : Int32) (l3 : Int32) (l4 : Int32) (S : evS) : Prop := evAt G M_X6_marksOne (evFm G (d + 1) Q) 55 [(0, .ref (evad G 30 x0)), (1, .int l1), (2, .int l2), (3, .int l3), (4, .int l4)] [] S
abbrev bk_X6_marksOne_56 (G : evG) (d : Nat) (Q : Option Value → evS → Prop) (x0 : Nat) (l1 : Int32) (l2 : Int32) (l4 : Int32) (s0 : Int32) (S : evS) : Prop := evAt G M_X6_marksOne (evFm G (d + 1) Q) 56 [(0, .ref (evad G 30 x0)), (1, .int l1), (2, .int l2), (4, .int l4)] [.int s0] S
abbrev bk_X6_marksOne_109 (G : evG) (d : Nat) (Q : Option Value → evS → Prop) (x0 : Nat) (l3 : Int32) (s0 : Int32) (S : evS) : Prop := evAt G M_X6_marksOne (evFm G (d + 1) Q) 109 [(0, .ref (evad G 30 x0)), (3, .int l3)] [.int s0] S
abbrev bk_X6_marksOne_126 (G : evG) (d : Nat) (Q : Option Value → evS → Prop) (x0 : Nat) (l3 : Int32) (l4 : Int32) (xs0 : Nat) (s1 : Int32) (s2 : Int32) (S : evS) : Prop := evAt G M_X6_marksOne (evFm G (d + 1) Q) 126 [(0, .ref (evad G 30 x0)), (3, .int l3), (4, .int l4)] [.int s2, .int s1, .ref (evad G 53 xs0)] S
set_option maxRecDepth 100000 in
set_option maxHeartbeats 4000000 in
theorem vb_X6_marksOne_0 {G : evG} {d : Nat} {q : Int32 → evS → Prop} (hCl : evCl G) {x0 : Nat} {l1 : Int32} {l2 : Int32} {S : evS} (hVl0 : (30, x0) ∈ evKs G)
    (h : (∀ v1 : Int32, v1 = (l1 + 1) → bk_X6_marksOne_8 G d (evQI q) x0 l1 l2 (-9) v1 S)) : bk_X6_marksOne_0 G d (evQI q) x0 l1 l2 S := by
  refine ea_bipush (v := (-9)) (pc' := 2) dX6_marksOne_0 (by decide) rfl ?_
  refine ea_istore_n (lv' := [(3, .int (-9)), (0, .ref (evad G 30 x0)), (1, .int l1), (2, .int l2)]) (pc' := 3) dX6_marksOne_2 rfl (by decide) rfl rfl ?_
  refine ea_iload_n (pc' := 4) (i := 1) dX6_marksOne_3 rfl 2 rfl rfl ?_
  refine ea_iconst (v := 1) (pc' := 5) dX6_marksOne_4 (by decide) rfl ?_
  refine ea_iadd (pc' := 6) dX6_marksOne_5 rfl ?_
  refine ea_topi (fun v1 hv1 => ?_)
  replace h := h v1 hv1
  refine ea_istore (lv' := [(4, .int v1), (3, .int (-9)), (0, .ref (evad G 30 x0)), (1, .int l1), (2, .int l2)]) (pc' := 8) dX6_marksOne_6 (by decide) rfl rfl ?_
  refine ea_loc [2, 3, 4, 1, 0] rfl ?_
  exact h
set_option maxRecDepth 100000 in
set_option maxHeartbeats 4000000 in
theorem vb_X6_marksOne_8 {G : evG} {d : Nat} {q : Int32 → evS → Prop} (hCl : evCl G) {x0 : Nat} {l1 : Int32} {l2 : Int32} {l3 : Int32} {l4 : Int32} {S : evS} (hVl0 : (30, x0) ∈ evKs G)
    (h : ((l2 ≤ l4 → ((¬ l3 = (-9) → (evSp G yX6_evenTimes M_X6_evenTimes d [.ref (evad G 30 x0), .int l1, .int l2, .int l3] S (evQL fun r1 S2 => (vp_in l3 7 ∧ (vp_in l2 7 ∧ (vp_in l1 7 ∧ ((((S2.1 51 0 l3.toNatClampNeg).toInt64 * ((S2.1 49 0 l2.toNatClampNeg) - (S2.1 49 0 l1.toNatClampNeg)).toInt64) ≤ r1 → bk_X6_marksOne_109 G d (evQI q) x0 l3 0 S2) ∧ (¬ ((S2.1 51 0 l3.toNatClampNeg).toInt64 * ((S2.1 49 0 l2.toNatClampNeg) - (S2.1 49 0 l1.toNatClampNeg)).toInt64) ≤ r1 → bk_X6_marksOne_109 G d (evQI q) x0 l3 1 S2)))))))) ∧ (l3 = (-9) → q 0 S))) ∧ (¬ l2 ≤ l4 → (evSp G yX6_missedTimes M_X6_missedTimes d [.ref (evad G 30 x0), .int l1, .int l2, .int l4] S (evQL fun r6 S7 => ((r6 ≤ 0 → bk_X6_marksOne_55 G d (evQI q) x0 l1 l2 l3 l4 S7) ∧ (¬ r6 ≤ 0 → ((l3 = (-9) → bk_X6_marksOne_50 G d (evQI q) x0 l1 l2 l4 S7) ∧ (¬ l3 = (-9) → (evSp G yX6_missedTimes M_X6_missedTimes d [.ref (evad G 30 x0), .int l1, .int l2, .int l3] S7 (evQL fun r8 S9 => ((r6 ≤ r8 → bk_X6_marksOne_55 G d (evQI q) x0 l1 l2 l3 l4 S9) ∧ (¬ r6 ≤ r8 → bk_X6_marksOne_50 G d (evQI q) x0 l1 l2 l4 S9))))))))))))) : bk_X6_marksOne_8 G d (evQI q) x0 l1 l2 l3 l4 S := by
  refine ea_iload (pc' := 10) dX6_marksOne_8 4 rfl rfl ?_
  refine ea_iload_n (pc' := 11) (i := 2) dX6_marksOne_10 rfl 2 rfl rfl ?_
  refine ea_icmp_ge (tgt := 63) (pc' := 14) dX6_marksOne_11 (by decide) rfl (fun hc => ?_) (fun hc => ?_)
  · replace h := h.1 hc
    refine ea_iload_n (pc' := 64) (i := 3) dX6_marksOne_63 rfl 3 rfl rfl ?_
    refine ea_bipush (v := (-9)) (pc' := 66) dX6_marksOne_64 (by decide) rfl ?_
    refine ea_icmp_ne (tgt := 71) (pc' := 69) dX6_marksOne_66 (by decide) rfl (fun hc => ?_) (fun hc => ?_)
    · replace h := h.1 hc
      refine ea_aload_n (pc' := 72) (i := 0) dX6_marksOne_71 rfl 0 rfl rfl ?_
      refine ea_iload_n (pc' := 73) (i := 1) dX6_marksOne_72 rfl 1 rfl rfl ?_
      refine ea_iload_n (pc' := 74) (i := 2) dX6_marksOne_73 rfl 2 rfl rfl ?_
      refine ea_iload_n (pc' := 75) (i := 3) dX6_marksOne_74 rfl 3 rfl rfl ?_
      refine ea_cvl (As := [.int l1, .int l2, .int l3]) (st := []) (d := d) (pc' := 78) mv_X6_evenTimes ml_X6_142 kok_30 hVl0 rfl rfl dX6_marksOne_75 rfl (Nat.le_of_ble_eq_true rfl) (ev_room (by decide)) ⟨Nat.le_refl _, Nat.le_refl _⟩ h rfl (fun r1 S2 h => ?_)
      refine ea_aload_n (pc' := 79) (i := 0) dX6_marksOne_78 rfl 0 rfl rfl ?_
      refine ea_getr (k2 := 51) (x2 := 0) (kf := 20) (pc' := 82) kok_30 hVl0 (by decide) rfl fl_X6_38 rfl dX6_marksOne_79 rfl ?_
      refine ea_iload_n (pc' := 83) (i := 3) dX6_marksOne_82 rfl 3 rfl rfl ?_
      obtain ⟨o3, h⟩ := h
      refine ea_iald (j := l3.toNatClampNeg) (pc' := 84) (hCl.1 30 x0 20 51 hVl0 rfl) rfl o3 dX6_marksOne_83 rfl rfl ?_
      refine ea_i2l (pc' := 85) dX6_marksOne_84 rfl ?_
      refine ea_aload_n (pc' := 86) (i := 0) dX6_marksOne_85 rfl 0 rfl rfl ?_
      refine ea_getr (k2 := 49) (x2 := 0) (kf := 18) (pc' := 89) kok_30 hVl0 (by decide) rfl fl_X6_32 rfl dX6_marksOne_86 rfl ?_
      refine ea_iload_n (pc' := 90) (i := 2) dX6_marksOne_89 rfl 2 rfl rfl ?_
      obtain ⟨o4, h⟩ := h
      refine ea_iald (j := l2.toNatClampNeg) (pc' := 91) (hCl.1 30 x0 18 49 hVl0 rfl) rfl o4 dX6_marksOne_90 rfl rfl ?_
      refine ea_aload_n (pc' := 92) (i := 0) dX6_marksOne_91 rfl 0 rfl rfl ?_
      refine ea_getr (k2 := 49) (x2 := 0) (kf := 18) (pc' := 95) kok_30 hVl0 (by decide) rfl fl_X6_32 rfl dX6_marksOne_92 rfl ?_
      refine ea_iload_n (pc' := 96) (i := 1) dX6_marksOne_95 rfl 1 rfl rfl ?_
      obtain ⟨o5, h⟩ := h
      refine ea_iald (j := l1.toNatClampNeg) (pc' := 97) (hCl.1 30 x0 18 49 hVl0 rfl) rfl o5 dX6_marksOne_96 rfl rfl ?_
      refine ea_isub (pc' := 98) dX6_marksOne_97 rfl ?_
      refine ea_i2l (pc' := 99) dX6_marksOne_98 rfl ?_
      refine ea_lmul (pc' := 100) dX6_marksOne_99 rfl ?_
      refine ea_lcmp_ge (tgt := 108) (pc1 := 101) (pc' := 104) dX6_marksOne_100 rfl dX6_marksOne_101 (by decide) rfl (fun hc => ?_) (fun hc => ?_)
      · replace h := h.1 hc
        refine ea_iconst (v := 0) (pc' := 109) dX6_marksOne_108 (by decide) rfl ?_
        refine ea_loc [0, 3] rfl ?_
        exact h
      · replace h := h.2 hc
        refine ea_iconst (v := 1) (pc' := 105) dX6_marksOne_104 (by decide) rfl ?_
        refine ea_goto (tgt := 109) dX6_marksOne_105 (by decide) ?_
        refine ea_loc [0, 3] rfl ?_
        exact h
    · replace h := h.2 hc
      refine ea_iconst (v := 0) (pc' := 70) dX6_marksOne_69 (by decide) rfl ?_
      exact ea_zret rfl dX6_marksOne_70 (by decide) ⟨_, rfl, h⟩
  · replace h := h.2 hc
    refine ea_aload_n (pc' := 15) (i := 0) dX6_marksOne_14 rfl 0 rfl rfl ?_
    refine ea_iload_n (pc' := 16) (i := 1) dX6_marksOne_15 rfl 1 rfl rfl ?_
    refine ea_iload_n (pc' := 17) (i := 2) dX6_marksOne_16 rfl 2 rfl rfl ?_
    refine ea_iload (pc' := 19) dX6_marksOne_17 4 rfl rfl ?_
    refine ea_cvl (As := [.int l1, .int l2, .int l4]) (st := []) (d := d) (pc' := 22) mv_X6_missedTimes ml_X6_146 kok_30 hVl0 rfl rfl dX6_marksOne_19 rfl (Nat.le_of_ble_eq_true rfl) (ev_room (by decide)) ⟨Nat.le_refl _, Nat.le_refl _⟩ h rfl (fun r6 S7 h => ?_)
    refine ea_lstore (lv' := [(5, .long r6), (0, .ref (evad G 30 x0)), (1, .int l1), (2, .int l2), (3, .int l3), (4, .int l4)]) (pc' := 24) dX6_marksOne_22 (by decide) rfl rfl ?_
    refine ea_lload (pc' := 26) dX6_marksOne_24 0 rfl rfl ?_
    refine ea_lconst (v := 0) (pc' := 27) dX6_marksOne_26 (by decide) rfl ?_
    refine ea_lcmp_le (tgt := 55) (pc1 := 28) (pc' := 31) dX6_marksOne_27 rfl dX6_marksOne_28 (by decide) rfl (fun hc => ?_) (fun hc => ?_)
    · replace h := h.1 hc
      refine ea_loc [1, 2, 3, 4, 5] rfl ?_
      exact h
    · replace h := h.2 hc
      refine ea_iload_n (pc' := 32) (i := 3) dX6_marksOne_31 rfl 4 rfl rfl ?_
      refine ea_bipush (v := (-9)) (pc' := 34) dX6_marksOne_32 (by decide) rfl ?_
      refine ea_icmp_eq (tgt := 50) (pc' := 37) dX6_marksOne_34 (by decide) rfl (fun hc => ?_) (fun hc => ?_)
      · replace h := h.1 hc
        refine ea_loc [1, 2, 3, 5] rfl ?_
        exact h
      · replace h := h.2 hc
        refine ea_lload (pc' := 39) dX6_marksOne_37 0 rfl rfl ?_
        refine ea_aload_n (pc' := 40) (i := 0) dX6_marksOne_39 rfl 1 rfl rfl ?_
        refine ea_iload_n (pc' := 41) (i := 1) dX6_marksOne_40 rfl 2 rfl rfl ?_
        refine ea_iload_n (pc' := 42) (i := 2) dX6_marksOne_41 rfl 3 rfl rfl ?_
        refine ea_iload_n (pc' := 43) (i := 3) dX6_marksOne_42 rfl 4 rfl rfl ?_
        refine ea_cvl (As := [.int l1, .int l2, .int l3]) (st := [.long r6]) (d := d) (pc' := 46) mv_X6_missedTimes ml_X6_146 kok_30 hVl0 rfl rfl dX6_marksOne_43 rfl (Nat.le_of_ble_eq_true rfl) (ev_room (by decide)) ⟨Nat.le_refl _, Nat.le_refl _⟩ h rfl (fun r8 S9 h => ?_)
        refine ea_lcmp_le (tgt := 55) (pc1 := 47) (pc' := 50) dX6_marksOne_46 rfl dX6_marksOne_47 (by decide) rfl (fun hc => ?_) (fun hc => ?_)
        · replace h := h.1 hc
          refine ea_loc [1, 2, 3, 4, 5] rfl ?_
          exact h
        · replace h := h.2 hc
          refine ea_loc [1, 2, 3, 5] rfl ?_
          exact h
set_option maxRecDepth 100000 in
set_option maxHeartbeats 4000000 in
theorem vb_X6_marksOne_50 {G : evG} {d : Nat} {q : Int32 → evS → Prop} (hCl : evCl G) {x0 : Nat} {l1 : Int32} {l2 : Int32} {l4 : Int32} {S : evS} (hVl0 : (30, x0) ∈ evKs G)
    (h : bk_X6_marksOne_56 G d (evQI q) x0 l1 l2 l4 l4 S) : bk_X6_marksOne_50 G d (evQI q) x0 l1 l2 l4 S := by
  refine ea_iload (pc' := 52) dX6_marksOne_50 3 rfl rfl ?_
  refine ea_goto (tgt := 56) dX6_marksOne_52 (by decide) ?_
  exact h
set_option maxRecDepth 100000 in
set_option maxHeartbeats 4000000 in
theorem vb_X6_marksOne_55 {G : evG} {d : Nat} {q : Int32 → evS → Prop} (hCl : evCl G) {x0 : Nat} {l1 : Int32} {l2 : Int32} {l3 : Int32} {l4 : Int32} {S : evS} (hVl0 : (30, x0) ∈ evKs G)
    (h : bk_X6_marksOne_56 G d (evQI q) x0 l1 l2 l4 l3 S) : bk_X6_marksOne_55 G d (evQI q) x0 l1 l2 l3 l4 S := by
  refine ea_iload_n (pc' := 56) (i := 3) dX6_marksOne_55 rfl 3 rfl rfl ?_
  refine ea_loc [0, 1, 2, 4] rfl ?_
  exact h
set_option maxRecDepth 100000 in
set_option maxHeartbeats 4000000 in
theorem vb_X6_marksOne_56 {G : evG} {d : Nat} {q : Int32 → evS → Prop} (hCl : evCl G) {x0 : Nat} {l1 : Int32} {l2 : Int32} {l4 : Int32} {s0 : Int32} {S : evS} (hVl0 : (30, x0) ∈ evKs G)
    (h : (∀ v1 : Int32, v1 = (l4 + 1) → bk_X6_marksOne_8 G d (evQI q) x0 l1 l2 s0 v1 S)) : bk_X6_marksOne_56 G d (evQI q) x0 l1 l2 l4 s0 S := by
  refine ea_istore_n (lv' := [(3, .int s0), (0, .ref (evad G 30 x0)), (1, .int l1), (2, .int l2), (4, .int l4)]) (pc' := 57) dX6_marksOne_56 rfl (by decide) rfl rfl ?_
  obtain ⟨v1, hv1⟩ : ∃ z : Int32, z = (l4 + 1) := ⟨_, rfl⟩
  replace h := h v1 hv1
  refine ea_iinc (q := 4) (v := v1) (lv' := [(4, .int v1), (3, .int s0), (0, .ref (evad G 30 x0)), (1, .int l1), (2, .int l2)]) (pc' := 60) dX6_marksOne_57 rfl (by rw [hv1]; rfl) (by decide) rfl rfl ?_
  refine ea_goto (tgt := 8) dX6_marksOne_60 (by decide) ?_
  refine ea_loc [2, 3, 4, 1, 0] rfl ?_
  exact h
set_option maxRecDepth 100000 in
set_option maxHeartbeats 4000000 in
theorem vb_X6_marksOne_109 {G : evG} {d : Nat} {q : Int32 → evS → Prop} (hCl : evCl G) {x0 : Nat} {l3 : Int32} {s0 : Int32} {S : evS} (hVl0 : (30, x0) ∈ evKs G)
    (h : ((s0 = 0 → bk_X6_marksOne_126 G d (evQI q) x0 l3 s0 0 l3 2 S) ∧ (¬ s0 = 0 → bk_X6_marksOne_126 G d (evQI q) x0 l3 s0 0 l3 1 S))) : bk_X6_marksOne_109 G d (evQI q) x0 l3 s0 S := by
  refine ea_istore (lv' := [(4, .int s0), (0, .ref (evad G 30 x0)), (3, .int l3)]) (pc' := 111) dX6_marksOne_109 (by decide) rfl rfl ?_
  refine ea_aload_n (pc' := 112) (i := 0) dX6_marksOne_111 rfl 1 rfl rfl ?_
  refine ea_getr (k2 := 53) (x2 := 0) (kf := 22) (pc' := 115) kok_30 hVl0 (by decide) rfl fl_X6_44 rfl dX6_marksOne_112 rfl ?_
  refine ea_iload_n (pc' := 116) (i := 3) dX6_marksOne_115 rfl 2 rfl rfl ?_
  refine ea_iload (pc' := 118) dX6_marksOne_116 0 rfl rfl ?_
  refine ea_if_eq (tgt := 125) (pc' := 121) dX6_marksOne_118 (by decide) rfl (fun hc => ?_) (fun hc => ?_)
  · replace h := h.1 hc
    refine ea_iconst (v := 2) (pc' := 126) dX6_marksOne_125 (by decide) rfl ?_
    refine ea_loc [1, 2, 0] rfl ?_
    exact h
  · replace h := h.2 hc
    refine ea_iconst (v := 1) (pc' := 122) dX6_marksOne_121 (by decide) rfl ?_
    refine ea_goto (tgt := 126) dX6_marksOne_122 (by decide) ?_
    refine ea_loc [1, 2, 0] rfl ?_
    exact h
set_option maxRecDepth 100000 in
set_option maxHeartbeats 4000000 in
theorem vb_X6_marksOne_126 {G : evG} {d : Nat} {q : Int32 → evS → Prop} (hCl : evCl G) {x0 : Nat} {l3 : Int32} {l4 : Int32} {xs0 : Nat} {s1 : Int32} {s2 : Int32} {S : evS} (hVl0 : (30, x0) ∈ evKs G) (hVs0 : (53, xs0) ∈ evKs G)
    (h : (vp_in s1 7 ∧ (∀ S2 : evS, S2 = evup S 53 xs0 s1.toNatClampNeg s2 → ((l4 = 0 → (vp_in l3 7 ∧ (vp_in l3 7 ∧ (∀ S5 : evS, S5 = evupL S2 54 0 l3.toNatClampNeg ((S2.1 52 0 l3.toNatClampNeg).toInt64) → q 1 S5)))) ∧ (¬ l4 = 0 → (vp_in l3 7 ∧ (vp_in l3 7 ∧ (∀ S8 : evS, S8 = evupL S2 54 0 l3.toNatClampNeg ((S2.1 51 0 l3.toNatClampNeg).toInt64) → q 1 S8)))))))) : bk_X6_marksOne_126 G d (evQI q) x0 l3 l4 xs0 s1 s2 S := by
  obtain ⟨o1, h⟩ := h
  refine ea_iast (j := s1.toNatClampNeg) (pc' := 127) hVs0 rfl o1 dX6_marksOne_126 rfl rfl ?_
  refine ea_tops (fun S2 hS2 => ?_)
  replace h := h S2 hS2
  refine ea_aload_n (pc' := 128) (i := 0) dX6_marksOne_127 rfl 0 rfl rfl ?_
  refine ea_getr (k2 := 54) (x2 := 0) (kf := 23) (pc' := 131) kok_30 hVl0 (by decide) rfl fl_X6_47 rfl dX6_marksOne_128 rfl ?_
  refine ea_iload_n (pc' := 132) (i := 3) dX6_marksOne_131 rfl 1 rfl rfl ?_
  refine ea_iload (pc' := 134) dX6_marksOne_132 2 rfl rfl ?_
  refine ea_if_eq (tgt := 147) (pc' := 137) dX6_marksOne_134 (by decide) rfl (fun hc => ?_) (fun hc => ?_)
  · replace h := h.1 hc
    refine ea_aload_n (pc' := 148) (i := 0) dX6_marksOne_147 rfl 0 rfl rfl ?_
    refine ea_getr (k2 := 52) (x2 := 0) (kf := 21) (pc' := 151) kok_30 hVl0 (by decide) rfl fl_X6_41 rfl dX6_marksOne_148 rfl ?_
    refine ea_iload_n (pc' := 152) (i := 3) dX6_marksOne_151 rfl 1 rfl rfl ?_
    obtain ⟨o3, h⟩ := h
    refine ea_iald (j := l3.toNatClampNeg) (pc' := 153) (hCl.1 30 x0 21 52 hVl0 rfl) rfl o3 dX6_marksOne_152 rfl rfl ?_
    refine ea_i2l (pc' := 154) dX6_marksOne_153 rfl ?_
    obtain ⟨o4, h⟩ := h
    refine ea_last (j := l3.toNatClampNeg) (pc' := 155) (hCl.1 30 x0 23 54 hVl0 rfl) rfl o4 dX6_marksOne_154 rfl rfl ?_
    refine ea_tops (fun S5 hS5 => ?_)
    replace h := h S5 hS5
    refine ea_iconst (v := 1) (pc' := 156) dX6_marksOne_155 (by decide) rfl ?_
    exact ea_zret rfl dX6_marksOne_156 (by decide) ⟨_, rfl, h⟩
  · replace h := h.2 hc
    refine ea_aload_n (pc' := 138) (i := 0) dX6_marksOne_137 rfl 0 rfl rfl ?_
    refine ea_getr (k2 := 51) (x2 := 0) (kf := 20) (pc' := 141) kok_30 hVl0 (by decide) rfl fl_X6_38 rfl dX6_marksOne_138 rfl ?_
    refine ea_iload_n (pc' := 142) (i := 3) dX6_marksOne_141 rfl 1 rfl rfl ?_
    obtain ⟨o6, h⟩ := h
    refine ea_iald (j := l3.toNatClampNeg) (pc' := 143) (hCl.1 30 x0 20 51 hVl0 rfl) rfl o6 dX6_marksOne_142 rfl rfl ?_
    refine ea_i2l (pc' := 144) dX6_marksOne_143 rfl ?_
    refine ea_goto (tgt := 154) dX6_marksOne_144 (by decide) ?_
    obtain ⟨o7, h⟩ := h
    refine ea_last (j := l3.toNatClampNeg) (pc' := 155) (hCl.1 30 x0 23 54 hVl0 rfl) rfl o7 dX6_marksOne_154 rfl rfl ?_
    refine ea_tops (fun S8 hS8 => ?_)
    replace h := h S8 hS8
    refine ea_iconst (v := 1) (pc' := 156) dX6_marksOne_155 (by decide) rfl ?_
    exact ea_zret rfl dX6_marksOne_156 (by decide) ⟨_, rfl, h⟩
theorem vm_X6_marksOne {G : evG} {d : Nat} {q : Int32 → evS → Prop} {x0 : Nat} {l1 : Int32} {l2 : Int32} {S : evS} (h : bk_X6_marksOne_0 G d (evQI q) x0 l1 l2 S) : evSp G yX6_marksOne M_X6_marksOne (d + 1) [.ref (evad G 30 x0), .int l1, .int l2] S (evQI q) :=
  evSp.of (by decide +kernel) rfl (Nat.le_of_ble_eq_true rfl) h
abbrev bk_X6_missedTimes_0 (G : evG) (d : Nat) (Q : Option Value → evS → Prop) (x0 : Nat) (l1 : Int32) (l2 : Int32) (l3 : Int32) (S : evS) : Prop := evAt G M_X6_missedTimes (evFm G (d + 1) Q) 0 [(0, .ref (evad G 30 x0)), (1, .int l1), (2, .int l2), (3, .int l3)] [] S
set_option maxRecDepth 100000 in
set_option maxHeartbeats 4000000 in
theorem vb_X6_missedTimes_0 {G : evG} {d : Nat} {q : Int64 → evS → Prop} (hCl : evCl G) {x0 : Nat} {l1 : Int32} {l2 : Int32} {l3 : Int32} {S : evS} (hVl0 : (30, x0) ∈ evKs G)
    (h : (evSp G yX6_evenTimes M_X6_evenTimes d [.ref (evad G 30 x0), .int l1, .int l2, .int l3] S (evQL fun r1 S2 => (vp_in l2 7 ∧ (vp_in l1 7 ∧ (∀ v5 : Int64, v5 = ((S2.1 49 0 l2.toNatClampNeg) - (S2.1 49 0 l1.toNatClampNeg)).toInt64 → (vp_in l3 7 ∧ (∀ v7 : Int64, v7 = (((S2.1 51 0 l3.toNatClampNeg).toInt64 * v5) - r1) → (vp_in l3 7 ∧ (∀ v9 : Int64, v9 = (r1 - ((S2.1 52 0 l3.toNatClampNeg).toInt64 * v5)) → ((v7 ≤ 0 → ((v9 ≤ 0 → q 0 S2) ∧ (¬ v9 ≤ 0 → q v9 S2))) ∧ (¬ v7 ≤ 0 → q v7 S2)))))))))))) : bk_X6_missedTimes_0 G d (evQL q) x0 l1 l2 l3 S := by
  refine ea_aload_n (pc' := 1) (i := 0) dX6_missedTimes_0 rfl 0 rfl rfl ?_
  refine ea_iload_n (pc' := 2) (i := 1) dX6_missedTimes_1 rfl 1 rfl rfl ?_
  refine ea_iload_n (pc' := 3) (i := 2) dX6_missedTimes_2 rfl 2 rfl rfl ?_
  refine ea_iload_n (pc' := 4) (i := 3) dX6_missedTimes_3 rfl 3 rfl rfl ?_
  refine ea_cvl (As := [.int l1, .int l2, .int l3]) (st := []) (d := d) (pc' := 7) mv_X6_evenTimes ml_X6_142 kok_30 hVl0 rfl rfl dX6_missedTimes_4 rfl (Nat.le_of_ble_eq_true rfl) (ev_room (by decide)) ⟨Nat.le_refl _, Nat.le_refl _⟩ h rfl (fun r1 S2 h => ?_)
  refine ea_lstore (lv' := [(4, .long r1), (0, .ref (evad G 30 x0)), (1, .int l1), (2, .int l2), (3, .int l3)]) (pc' := 9) dX6_missedTimes_7 (by decide) rfl rfl ?_
  refine ea_aload_n (pc' := 10) (i := 0) dX6_missedTimes_9 rfl 1 rfl rfl ?_
  refine ea_getr (k2 := 49) (x2 := 0) (kf := 18) (pc' := 13) kok_30 hVl0 (by decide) rfl fl_X6_32 rfl dX6_missedTimes_10 rfl ?_
  refine ea_iload_n (pc' := 14) (i := 2) dX6_missedTimes_13 rfl 3 rfl rfl ?_
  obtain ⟨o3, h⟩ := h
  refine ea_iald (j := l2.toNatClampNeg) (pc' := 15) (hCl.1 30 x0 18 49 hVl0 rfl) rfl o3 dX6_missedTimes_14 rfl rfl ?_
  refine ea_aload_n (pc' := 16) (i := 0) dX6_missedTimes_15 rfl 1 rfl rfl ?_
  refine ea_getr (k2 := 49) (x2 := 0) (kf := 18) (pc' := 19) kok_30 hVl0 (by decide) rfl fl_X6_32 rfl dX6_missedTimes_16 rfl ?_
  refine ea_iload_n (pc' := 20) (i := 1) dX6_missedTimes_19 rfl 2 rfl rfl ?_
  obtain ⟨o4, h⟩ := h
  refine ea_iald (j := l1.toNatClampNeg) (pc' := 21) (hCl.1 30 x0 18 49 hVl0 rfl) rfl o4 dX6_missedTimes_20 rfl rfl ?_
  refine ea_isub (pc' := 22) dX6_missedTimes_21 rfl ?_
  refine ea_i2l (pc' := 23) dX6_missedTimes_22 rfl ?_
  refine ea_topl (fun v5 hv5 => ?_)
  replace h := h v5 hv5
  refine ea_lstore (lv' := [(6, .long v5), (4, .long r1), (0, .ref (evad G 30 x0)), (1, .int l1), (2, .int l2), (3, .int l3)]) (pc' := 25) dX6_missedTimes_23 (by decide) rfl rfl ?_
  refine ea_aload_n (pc' := 26) (i := 0) dX6_missedTimes_25 rfl 2 rfl rfl ?_
  refine ea_getr (k2 := 51) (x2 := 0) (kf := 20) (pc' := 29) kok_30 hVl0 (by decide) rfl fl_X6_38 rfl dX6_missedTimes_26 rfl ?_
  refine ea_iload_n (pc' := 30) (i := 3) dX6_missedTimes_29 rfl 5 rfl rfl ?_
  obtain ⟨o6, h⟩ := h
  refine ea_iald (j := l3.toNatClampNeg) (pc' := 31) (hCl.1 30 x0 20 51 hVl0 rfl) rfl o6 dX6_missedTimes_30 rfl rfl ?_
  refine ea_i2l (pc' := 32) dX6_missedTimes_31 rfl ?_
  refine ea_lload (pc' := 34) dX6_missedTimes_32 0 rfl rfl ?_
  refine ea_lmul (pc' := 35) dX6_missedTimes_34 rfl ?_
  refine ea_lload (pc' := 37) dX6_missedTimes_35 1 rfl rfl ?_
  refine ea_lsub (pc' := 38) dX6_missedTimes_37 rfl ?_
  refine ea_topl (fun v7 hv7 => ?_)
  replace h := h v7 hv7
  refine ea_lstore (lv' := [(8, .long v7), (6, .long v5), (4, .long r1), (0, .ref (evad G 30 x0)), (1, .int l1), (2, .int l2), (3, .int l3)]) (pc' := 40) dX6_missedTimes_38 (by decide) rfl rfl ?_
  refine ea_lload (pc' := 42) dX6_missedTimes_40 2 rfl rfl ?_
  refine ea_aload_n (pc' := 43) (i := 0) dX6_missedTimes_42 rfl 3 rfl rfl ?_
  refine ea_getr (k2 := 52) (x2 := 0) (kf := 21) (pc' := 46) kok_30 hVl0 (by decide) rfl fl_X6_41 rfl dX6_missedTimes_43 rfl ?_
  refine ea_iload_n (pc' := 47) (i := 3) dX6_missedTimes_46 rfl 6 rfl rfl ?_
  obtain ⟨o8, h⟩ := h
  refine ea_iald (j := l3.toNatClampNeg) (pc' := 48) (hCl.1 30 x0 21 52 hVl0 rfl) rfl o8 dX6_missedTimes_47 rfl rfl ?_
  refine ea_i2l (pc' := 49) dX6_missedTimes_48 rfl ?_
  refine ea_lload (pc' := 51) dX6_missedTimes_49 1 rfl rfl ?_
  refine ea_lmul (pc' := 52) dX6_missedTimes_51 rfl ?_
  refine ea_lsub (pc' := 53) dX6_missedTimes_52 rfl ?_
  refine ea_topl (fun v9 hv9 => ?_)
  replace h := h v9 hv9
  refine ea_lstore (lv' := [(10, .long v9), (8, .long v7), (6, .long v5), (4, .long r1), (0, .ref (evad G 30 x0)), (1, .int l1), (2, .int l2), (3, .int l3)]) (pc' := 55) dX6_missedTimes_53 (by decide) rfl rfl ?_
  refine ea_lload (pc' := 57) dX6_missedTimes_55 1 rfl rfl ?_
  refine ea_lconst (v := 0) (pc' := 58) dX6_missedTimes_57 (by decide) rfl ?_
  refine ea_lcmp_le (tgt := 67) (pc1 := 59) (pc' := 62) dX6_missedTimes_58 rfl dX6_missedTimes_59 (by decide) rfl (fun hc => ?_) (fun hc => ?_)
  · replace h := h.1 hc
    refine ea_lload (pc' := 69) dX6_missedTimes_67 0 rfl rfl ?_
    refine ea_lconst (v := 0) (pc' := 70) dX6_missedTimes_69 (by decide) rfl ?_
    refine ea_lcmp_le (tgt := 79) (pc1 := 71) (pc' := 74) dX6_missedTimes_70 rfl dX6_missedTimes_71 (by decide) rfl (fun hc => ?_) (fun hc => ?_)
    · replace h := h.1 hc
      refine ea_lconst (v := 0) (pc' := 80) dX6_missedTimes_79 (by decide) rfl ?_
      exact ea_lret rfl dX6_missedTimes_80 ⟨_, rfl, h⟩
    · replace h := h.2 hc
      refine ea_lload (pc' := 76) dX6_missedTimes_74 0 rfl rfl ?_
      refine ea_goto (tgt := 80) dX6_missedTimes_76 (by decide) ?_
      exact ea_lret rfl dX6_missedTimes_80 ⟨_, rfl, h⟩
  · replace h := h.2 hc
    refine ea_lload (pc' := 64) dX6_missedTimes_62 1 rfl rfl ?_
    refine ea_goto (tgt := 80) dX6_missedTimes_64 (by decide) ?_
    exact ea_lret rfl dX6_missedTimes_80 ⟨_, rfl, h⟩
theorem vm_X6_missedTimes {G : evG} {d : Nat} {q : Int64 → evS → Prop} {x0 : Nat} {l1 : Int32} {l2 : Int32} {l3 : Int32} {S : evS} (h : bk_X6_missedTimes_0 G d (evQL q) x0 l1 l2 l3 S) : evSp G yX6_missedTimes M_X6_missedTimes (d + 1) [.ref (evad G 30 x0), .int l1, .int l2, .int l3] S (evQL q) :=
  evSp.of (by decide +kernel) rfl (Nat.le_of_ble_eq_true rfl) h
abbrev bk_X6_evenTimes_0 (G : evG) (d : Nat) (Q : Option Value → evS → Prop) (x0 : Nat) (l1 : Int32) (l2 : Int32) (l3 : Int32) (S : evS) : Prop := evAt G M_X6_evenTimes (evFm G d Q) 0 [(0, .ref (evad G 30 x0)), (1, .int l1), (2, .int l2), (3, .int l3)] [] S
set_option maxRecDepth 100000 in
set_option maxHeartbeats 4000000 in
theorem vb_X6_evenTimes_0 {G : evG} {d : Nat} {q : Int64 → evS → Prop} (hCl : evCl G) {x0 : Nat} {l1 : Int32} {l2 : Int32} {l3 : Int32} {S : evS} (hVl0 : (30, x0) ∈ evKs G)
    (h : (vp_in l1 7 ∧ (vp_in l2 7 ∧ (vp_in l1 7 ∧ (vp_in l2 7 ∧ (vp_in l1 7 ∧ (vp_in l3 7 ∧ (vp_in l1 7 ∧ q (((S.2 54 0 l1.toNatClampNeg) * ((S.1 49 0 l2.toNatClampNeg) - (S.1 49 0 l1.toNatClampNeg)).toInt64) + (((S.2 54 0 l2.toNatClampNeg) - (S.2 54 0 l1.toNatClampNeg)) * ((S.1 49 0 l3.toNatClampNeg) - (S.1 49 0 l1.toNatClampNeg)).toInt64)) S)))))))) : bk_X6_evenTimes_0 G d (evQL q) x0 l1 l2 l3 S := by
  refine ea_aload_n (pc' := 1) (i := 0) dX6_evenTimes_0 rfl 0 rfl rfl ?_
  refine ea_getr (k2 := 54) (x2 := 0) (kf := 23) (pc' := 4) kok_30 hVl0 (by decide) rfl fl_X6_47 rfl dX6_evenTimes_1 rfl ?_
  refine ea_iload_n (pc' := 5) (i := 1) dX6_evenTimes_4 rfl 1 rfl rfl ?_
  obtain ⟨o1, h⟩ := h
  refine ea_lald (j := l1.toNatClampNeg) (pc' := 6) (hCl.1 30 x0 23 54 hVl0 rfl) rfl o1 dX6_evenTimes_5 rfl rfl ?_
  refine ea_aload_n (pc' := 7) (i := 0) dX6_evenTimes_6 rfl 0 rfl rfl ?_
  refine ea_getr (k2 := 49) (x2 := 0) (kf := 18) (pc' := 10) kok_30 hVl0 (by decide) rfl fl_X6_32 rfl dX6_evenTimes_7 rfl ?_
  refine ea_iload_n (pc' := 11) (i := 2) dX6_evenTimes_10 rfl 2 rfl rfl ?_
  obtain ⟨o2, h⟩ := h
  refine ea_iald (j := l2.toNatClampNeg) (pc' := 12) (hCl.1 30 x0 18 49 hVl0 rfl) rfl o2 dX6_evenTimes_11 rfl rfl ?_
  refine ea_aload_n (pc' := 13) (i := 0) dX6_evenTimes_12 rfl 0 rfl rfl ?_
  refine ea_getr (k2 := 49) (x2 := 0) (kf := 18) (pc' := 16) kok_30 hVl0 (by decide) rfl fl_X6_32 rfl dX6_evenTimes_13 rfl ?_
  refine ea_iload_n (pc' := 17) (i := 1) dX6_evenTimes_16 rfl 1 rfl rfl ?_
  obtain ⟨o3, h⟩ := h
  refine ea_iald (j := l1.toNatClampNeg) (pc' := 18) (hCl.1 30 x0 18 49 hVl0 rfl) rfl o3 dX6_evenTimes_17 rfl rfl ?_
  refine ea_isub (pc' := 19) dX6_evenTimes_18 rfl ?_
  refine ea_i2l (pc' := 20) dX6_evenTimes_19 rfl ?_
  refine ea_lmul (pc' := 21) dX6_evenTimes_20 rfl ?_
  refine ea_aload_n (pc' := 22) (i := 0) dX6_evenTimes_21 rfl 0 rfl rfl ?_
  refine ea_getr (k2 := 54) (x2 := 0) (kf := 23) (pc' := 25) kok_30 hVl0 (by decide) rfl fl_X6_47 rfl dX6_evenTimes_22 rfl ?_
  refine ea_iload_n (pc' := 26) (i := 2) dX6_evenTimes_25 rfl 2 rfl rfl ?_
  obtain ⟨o4, h⟩ := h
  refine ea_lald (j := l2.toNatClampNeg) (pc' := 27) (hCl.1 30 x0 23 54 hVl0 rfl) rfl o4 dX6_evenTimes_26 rfl rfl ?_
  refine ea_aload_n (pc' := 28) (i := 0) dX6_evenTimes_27 rfl 0 rfl rfl ?_
  refine ea_getr (k2 := 54) (x2 := 0) (kf := 23) (pc' := 31) kok_30 hVl0 (by decide) rfl fl_X6_47 rfl dX6_evenTimes_28 rfl ?_
  refine ea_iload_n (pc' := 32) (i := 1) dX6_evenTimes_31 rfl 1 rfl rfl ?_
  obtain ⟨o5, h⟩ := h
  refine ea_lald (j := l1.toNatClampNeg) (pc' := 33) (hCl.1 30 x0 23 54 hVl0 rfl) rfl o5 dX6_evenTimes_32 rfl rfl ?_
  refine ea_lsub (pc' := 34) dX6_evenTimes_33 rfl ?_
  refine ea_aload_n (pc' := 35) (i := 0) dX6_evenTimes_34 rfl 0 rfl rfl ?_
  refine ea_getr (k2 := 49) (x2 := 0) (kf := 18) (pc' := 38) kok_30 hVl0 (by decide) rfl fl_X6_32 rfl dX6_evenTimes_35 rfl ?_
  refine ea_iload_n (pc' := 39) (i := 3) dX6_evenTimes_38 rfl 3 rfl rfl ?_
  obtain ⟨o6, h⟩ := h
  refine ea_iald (j := l3.toNatClampNeg) (pc' := 40) (hCl.1 30 x0 18 49 hVl0 rfl) rfl o6 dX6_evenTimes_39 rfl rfl ?_
  refine ea_aload_n (pc' := 41) (i := 0) dX6_evenTimes_40 rfl 0 rfl rfl ?_
  refine ea_getr (k2 := 49) (x2 := 0) (kf := 18) (pc' := 44) kok_30 hVl0 (by decide) rfl fl_X6_32 rfl dX6_evenTimes_41 rfl ?_
  refine ea_iload_n (pc' := 45) (i := 1) dX6_evenTimes_44 rfl 1 rfl rfl ?_
  obtain ⟨o7, h⟩ := h
  refine ea_iald (j := l1.toNatClampNeg) (pc' := 46) (hCl.1 30 x0 18 49 hVl0 rfl) rfl o7 dX6_evenTimes_45 rfl rfl ?_
  refine ea_isub (pc' := 47) dX6_evenTimes_46 rfl ?_
  refine ea_i2l (pc' := 48) dX6_evenTimes_47 rfl ?_
  refine ea_lmul (pc' := 49) dX6_evenTimes_48 rfl ?_
  refine ea_ladd (pc' := 50) dX6_evenTimes_49 rfl ?_
  exact ea_lret rfl dX6_evenTimes_50 ⟨_, rfl, h⟩
theorem vm_X6_evenTimes {G : evG} {d : Nat} {q : Int64 → evS → Prop} {x0 : Nat} {l1 : Int32} {l2 : Int32} {l3 : Int32} {S : evS} (h : bk_X6_evenTimes_0 G d (evQL q) x0 l1 l2 l3 S) : evSp G yX6_evenTimes M_X6_evenTimes d [.ref (evad G 30 x0), .int l1, .int l2, .int l3] S (evQL q) :=
  evSp.of (by decide +kernel) rfl (Nat.le_of_ble_eq_true rfl) h
abbrev bk_X6_hasPlan_0 (G : evG) (d : Nat) (Q : Option Value → evS → Prop) (x0 : Nat) (S : evS) : Prop := evAt G M_X6_hasPlan (evFm G (d + 1) Q) 0 [(0, .ref (evad G 30 x0))] [] S
set_option maxRecDepth 100000 in
set_option maxHeartbeats 4000000 in
theorem vb_X6_hasPlan_0 {G : evG} {d : Nat} {q : Int32 → evS → Prop} (hCl : evCl G) {x0 : Nat} {S : evS} (hVl0 : (30, x0) ∈ evKs G)
    (h : (evSp G yX6_fastNeeded M_X6_fastNeeded d [.ref (evad G 30 x0)] S (evQI fun r1 S2 => ((r1 = (-9) → q 0 S2) ∧ (¬ r1 = (-9) → (evSp G yX6_of M_X6_of d [.ref (evad G 30 x0), .int (S2.1 30 x0 15), .int 1] S2 (evQI fun r3 S4 => ((r3 < r1 → q 0 S4) ∧ (¬ r3 < r1 → q 1 S4))))))))) : bk_X6_hasPlan_0 G d (evQI q) x0 S := by
  refine ea_aload_n (pc' := 1) (i := 0) dX6_hasPlan_0 rfl 0 rfl rfl ?_
  refine ea_cvi (As := []) (st := []) (d := d) (pc' := 4) mv_X6_fastNeeded ml_X6_156 kok_30 hVl0 rfl rfl dX6_hasPlan_1 rfl (Nat.le_of_ble_eq_true rfl) (ev_room (by decide)) ⟨Nat.le_refl _, Nat.le_refl _⟩ h rfl (fun r1 S2 h => ?_)
  refine ea_istore_n (lv' := [(1, .int r1), (0, .ref (evad G 30 x0))]) (pc' := 5) dX6_hasPlan_4 rfl (by decide) rfl rfl ?_
  refine ea_iload_n (pc' := 6) (i := 1) dX6_hasPlan_5 rfl 0 rfl rfl ?_
  refine ea_bipush (v := (-9)) (pc' := 8) dX6_hasPlan_6 (by decide) rfl ?_
  refine ea_icmp_eq (tgt := 28) (pc' := 11) dX6_hasPlan_8 (by decide) rfl (fun hc => ?_) (fun hc => ?_)
  · replace h := h.1 hc
    refine ea_iconst (v := 0) (pc' := 29) dX6_hasPlan_28 (by decide) rfl ?_
    exact ea_zret rfl dX6_hasPlan_29 (by decide) ⟨_, rfl, h⟩
  · replace h := h.2 hc
    refine ea_iload_n (pc' := 12) (i := 1) dX6_hasPlan_11 rfl 0 rfl rfl ?_
    refine ea_aload_n (pc' := 13) (i := 0) dX6_hasPlan_12 rfl 1 rfl rfl ?_
    refine ea_aload_n (pc' := 14) (i := 0) dX6_hasPlan_13 rfl 1 rfl rfl ?_
    refine ea_geti (kf := 15) (pc' := 17) kok_30 hVl0 (by decide) rfl fl_X6_126 dX6_hasPlan_14 rfl ?_
    refine ea_iconst (v := 1) (pc' := 18) dX6_hasPlan_17 (by decide) rfl ?_
    refine ea_cvi (As := [.int (S2.1 30 x0 15), .int 1]) (st := [.int r1]) (d := d) (pc' := 21) mv_X6_of ml_X6_70 kok_30 hVl0 rfl rfl dX6_hasPlan_18 rfl (Nat.le_of_ble_eq_true rfl) (ev_room (by decide)) ⟨Nat.le_refl _, Nat.le_refl _⟩ h rfl (fun r3 S4 h => ?_)
    refine ea_icmp_gt (tgt := 28) (pc' := 24) dX6_hasPlan_21 (by decide) rfl (fun hc => ?_) (fun hc => ?_)
    · replace h := h.1 hc
      refine ea_iconst (v := 0) (pc' := 29) dX6_hasPlan_28 (by decide) rfl ?_
      exact ea_zret rfl dX6_hasPlan_29 (by decide) ⟨_, rfl, h⟩
    · replace h := h.2 hc
      refine ea_iconst (v := 1) (pc' := 25) dX6_hasPlan_24 (by decide) rfl ?_
      refine ea_goto (tgt := 29) dX6_hasPlan_25 (by decide) ?_
      exact ea_zret rfl dX6_hasPlan_29 (by decide) ⟨_, rfl, h⟩
theorem vm_X6_hasPlan {G : evG} {d : Nat} {q : Int32 → evS → Prop} {x0 : Nat} {S : evS} (h : bk_X6_hasPlan_0 G d (evQI q) x0 S) : evSp G yX6_hasPlan M_X6_hasPlan (d + 1) [.ref (evad G 30 x0)] S (evQI q) :=
  evSp.of (by decide +kernel) rfl (Nat.le_of_ble_eq_true rfl) h
