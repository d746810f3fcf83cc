abbrev bk_J7_fill_53178_0 (G : evG) (d : Nat) (Q : Option Value → evS → Prop) (k0 : Nat) (x0 : Nat) (l1 : Int32) (S : evS) : Prop := evAt G M_J7_fill_53178 (evFm G d Q) 0 [(0, .ref (evad G k0 x0)), (1, .int l1)] [] S
abbrev bk_J7_fill_53178_5 (G : evG) (d : Nat) (Q : Option Value → evS → Prop) (k0 : Nat) (x0 : Nat) (l1 : Int32) (l2 : Int32) (l3 : Int32) (S : evS) : Prop := evAt G M_J7_fill_53178 (evFm G d Q) 5 [(0, .ref (evad G k0 x0)), (1, .int l1), (2, .int l2), (3, .int l3)] [] S
set_option maxRecDepth 100000 in
set_option maxHeartbeats 4000000 in
theorem vb_J7_fill_53178_0 {G : evG} {d : Nat} {q : evS → Prop} (hCl : evCl G) {k0 : Nat} {x0 : Nat} {l1 : Int32} {S : evS} (hTl0 : evT k0 = 1) (hVl0 : (k0, x0) ∈ evKs G)
    (h : (∀ v1 : Int32, v1 = (Int32.ofNat (evN k0)) → bk_J7_fill_53178_5 G d (evQV q) k0 x0 l1 0 v1 S)) : bk_J7_fill_53178_0 G d (evQV q) k0 x0 l1 S := by
  refine ea_iconst (v := 0) (pc' := 1) dJ7_fill_53178_0 (by decide) rfl ?_
  refine ea_istore_n (lv' := [(2, .int 0), (0, .ref (evad G k0 x0)), (1, .int l1)]) (pc' := 2) dJ7_fill_53178_1 rfl (by decide) rfl rfl ?_
  refine ea_aload_n (pc' := 3) (i := 0) dJ7_fill_53178_2 rfl 1 rfl rfl ?_
  refine ea_alen (v := (Int32.ofNat (evN k0))) (pc' := 4) hVl0 hTl0 rfl dJ7_fill_53178_3 rfl ?_
  refine ea_topi (fun v1 hv1 => ?_)
  replace h := h v1 hv1
  refine ea_istore_n (lv' := [(3, .int v1), (2, .int 0), (0, .ref (evad G k0 x0)), (1, .int l1)]) (pc' := 5) dJ7_fill_53178_4 rfl (by decide) rfl rfl ?_
  refine ea_loc [2, 3, 1, 0] rfl ?_
  exact h
set_option maxRecDepth 100000 in
set_option maxHeartbeats 4000000 in
theorem vb_J7_fill_53178_5 {G : evG} {d : Nat} {q : evS → Prop} (hCl : evCl G) {k0 : Nat} {x0 : Nat} {l1 : Int32} {l2 : Int32} {l3 : Int32} {S : evS} (hTl0 : evT k0 = 1) (hVl0 : (k0, x0) ∈ evKs G)
    (h : ((l3 ≤ l2 → q S) ∧ (¬ l3 ≤ l2 → (vp_in l2 (evN k0) ∧ (∀ S2 : evS, S2 = evup S k0 x0 l2.toNatClampNeg l1 → (∀ v3 : Int32, v3 = (l2 + 1) → bk_J7_fill_53178_5 G d (evQV q) k0 x0 l1 v3 l3 S2)))))) : bk_J7_fill_53178_5 G d (evQV q) k0 x0 l1 l2 l3 S := by
  refine ea_iload_n (pc' := 6) (i := 2) dJ7_fill_53178_5 rfl 2 rfl rfl ?_
  refine ea_iload_n (pc' := 7) (i := 3) dJ7_fill_53178_6 rfl 3 rfl rfl ?_
  refine ea_icmp_ge (tgt := 20) (pc' := 10) dJ7_fill_53178_7 (by decide) rfl (fun hc => ?_) (fun hc => ?_)
  · replace h := h.1 hc
    exact ea_vret rfl dJ7_fill_53178_20 ⟨rfl, h⟩
  · replace h := h.2 hc
    refine ea_aload_n (pc' := 11) (i := 0) dJ7_fill_53178_10 rfl 0 rfl rfl ?_
    refine ea_iload_n (pc' := 12) (i := 2) dJ7_fill_53178_11 rfl 2 rfl rfl ?_
    refine ea_iload_n (pc' := 13) (i := 1) dJ7_fill_53178_12 rfl 1 rfl rfl ?_
    obtain ⟨o1, h⟩ := h
    refine ea_iast (j := l2.toNatClampNeg) (pc' := 14) hVl0 hTl0 o1 dJ7_fill_53178_13 rfl rfl ?_
    refine ea_tops (fun S2 hS2 => ?_)
    replace h := h S2 hS2
    obtain ⟨v3, hv3⟩ : ∃ z : Int32, z = (l2 + 1) := ⟨_, rfl⟩
    replace h := h v3 hv3
    refine ea_iinc (q := 2) (v := v3) (lv' := [(2, .int v3), (0, .ref (evad G k0 x0)), (1, .int l1), (3, .int l3)]) (pc' := 17) dJ7_fill_53178_14 rfl (by rw [hv3]; rfl) (by decide) rfl rfl ?_
    refine ea_goto (tgt := 5) dJ7_fill_53178_17 (by decide) ?_
    refine ea_loc [1, 2, 0, 3] rfl ?_
    exact h
theorem vm_J7_fill_53178 {G : evG} {d : Nat} {q : evS → Prop} {k0 : Nat} {x0 : Nat} {l1 : Int32} {S : evS} (h : bk_J7_fill_53178_0 G d (evQV q) k0 x0 l1 S) : evSp G yJ7_fill_53178 M_J7_fill_53178 d [.ref (evad G k0 x0), .int l1] S (evQV q) :=
  evSp.of (by decide +kernel) rfl (Nat.le_of_ble_eq_true rfl) h
abbrev bk_J9_min_7cf53_0 (G : evG) (d : Nat) (Q : Option Value → evS → Prop) (l0 : Int32) (l1 : Int32) (S : evS) : Prop := evAt G M_J9_min_7cf53 (evFm G d Q) 0 [(0, .int l0), (1, .int l1)] [] S
set_option maxRecDepth 100000 in
set_option maxHeartbeats 4000000 in
theorem vb_J9_min_7cf53_0 {G : evG} {d : Nat} {q : Int32 → evS → Prop} (hCl : evCl G) {l0 : Int32} {l1 : Int32} {S : evS}
    (h : ((l1 < l0 → q l1 S) ∧ (¬ l1 < l0 → q l0 S))) : bk_J9_min_7cf53_0 G d (evQI q) l0 l1 S := by
  refine ea_iload_n (pc' := 1) (i := 0) dJ9_min_7cf53_0 rfl 0 rfl rfl ?_
  refine ea_iload_n (pc' := 2) (i := 1) dJ9_min_7cf53_1 rfl 1 rfl rfl ?_
  refine ea_icmp_gt (tgt := 9) (pc' := 5) dJ9_min_7cf53_2 (by decide) rfl (fun hc => ?_) (fun hc => ?_)
  · replace h := h.1 hc
    refine ea_iload_n (pc' := 10) (i := 1) dJ9_min_7cf53_9 rfl 1 rfl rfl ?_
    exact ea_iret rfl dJ9_min_7cf53_10 ⟨_, rfl, h⟩
  · replace h := h.2 hc
    refine ea_iload_n (pc' := 6) (i := 0) dJ9_min_7cf53_5 rfl 0 rfl rfl ?_
    refine ea_goto (tgt := 10) dJ9_min_7cf53_6 (by decide) ?_
    exact ea_iret rfl dJ9_min_7cf53_10 ⟨_, rfl, h⟩
theorem vm_J9_min_7cf53 {G : evG} {d : Nat} {q : Int32 → evS → Prop} {l0 : Int32} {l1 : Int32} {S : evS} (h : bk_J9_min_7cf53_0 G d (evQI q) l0 l1 S) : evSp G yJ9_min_7cf53 M_J9_min_7cf53 d [.int l0, .int l1] S (evQI q) :=
  evSp.of (by decide +kernel) rfl (Nat.le_of_ble_eq_true rfl) h
abbrev bk_J9_max_7cf53_0 (G : evG) (d : Nat) (Q : Option Value → evS → Prop) (l0 : Int32) (l1 : Int32) (S : evS) : Prop := evAt G M_J9_max_7cf53 (evFm G d Q) 0 [(0, .int l0), (1, .int l1)] [] S
set_option maxRecDepth 100000 in
set_option maxHeartbeats 4000000 in
theorem vb_J9_max_7cf53_0 {G : evG} {d : Nat} {q : Int32 → evS → Prop} (hCl : evCl G) {l0 : Int32} {l1 : Int32} {S : evS}
    (h : ((l0 < l1 → q l1 S) ∧ (¬ l0 < l1 → q l0 S))) : bk_J9_max_7cf53_0 G d (evQI q) l0 l1 S := by
  refine ea_iload_n (pc' := 1) (i := 0) dJ9_max_7cf53_0 rfl 0 rfl rfl ?_
  refine ea_iload_n (pc' := 2) (i := 1) dJ9_max_7cf53_1 rfl 1 rfl rfl ?_
  refine ea_icmp_lt (tgt := 9) (pc' := 5) dJ9_max_7cf53_2 (by decide) rfl (fun hc => ?_) (fun hc => ?_)
  · replace h := h.1 hc
    refine ea_iload_n (pc' := 10) (i := 1) dJ9_max_7cf53_9 rfl 1 rfl rfl ?_
    exact ea_iret rfl dJ9_max_7cf53_10 ⟨_, rfl, h⟩
  · replace h := h.2 hc
    refine ea_iload_n (pc' := 6) (i := 0) dJ9_max_7cf53_5 rfl 0 rfl rfl ?_
    refine ea_goto (tgt := 10) dJ9_max_7cf53_6 (by decide) ?_
    exact ea_iret rfl dJ9_max_7cf53_10 ⟨_, rfl, h⟩
theorem vm_J9_max_7cf53 {G : evG} {d : Nat} {q : Int32 → evS → Prop} {l0 : Int32} {l1 : Int32} {S : evS} (h : bk_J9_max_7cf53_0 G d (evQI q) l0 l1 S) : evSp G yJ9_max_7cf53 M_J9_max_7cf53 d [.int l0, .int l1] S (evQI q) :=
  evSp.of (by decide +kernel) rfl (Nat.le_of_ble_eq_true rfl) h
abbrev bk_J9_abs_0f7a4_0 (G : evG) (d : Nat) (Q : Option Value → evS → Prop) (l0 : Int32) (S : evS) : Prop := evAt G M_J9_abs_0f7a4 (evFm G d Q) 0 [(0, .int l0)] [] S
set_option maxRecDepth 100000 in
set_option maxHeartbeats 4000000 in
theorem vb_J9_abs_0f7a4_0 {G : evG} {d : Nat} {q : Int32 → evS → Prop} (hCl : evCl G) {l0 : Int32} {S : evS}
    (h : ((0 ≤ l0 → q l0 S) ∧ (¬ 0 ≤ l0 → q (-l0) S))) : bk_J9_abs_0f7a4_0 G d (evQI q) l0 S := by
  refine ea_iload_n (pc' := 1) (i := 0) dJ9_abs_0f7a4_0 rfl 0 rfl rfl ?_
  refine ea_if_ge (tgt := 9) (pc' := 4) dJ9_abs_0f7a4_1 (by decide) rfl (fun hc => ?_) (fun hc => ?_)
  · replace h := h.1 hc
    refine ea_iload_n (pc' := 10) (i := 0) dJ9_abs_0f7a4_9 rfl 0 rfl rfl ?_
    exact ea_iret rfl dJ9_abs_0f7a4_10 ⟨_, rfl, h⟩
  · replace h := h.2 hc
    refine ea_iload_n (pc' := 5) (i := 0) dJ9_abs_0f7a4_4 rfl 0 rfl rfl ?_
    refine ea_ineg (pc' := 6) dJ9_abs_0f7a4_5 rfl ?_
    refine ea_goto (tgt := 10) dJ9_abs_0f7a4_6 (by decide) ?_
    exact ea_iret rfl dJ9_abs_0f7a4_10 ⟨_, rfl, h⟩
theorem vm_J9_abs_0f7a4 {G : evG} {d : Nat} {q : Int32 → evS → Prop} {l0 : Int32} {S : evS} (h : bk_J9_abs_0f7a4_0 G d (evQI q) l0 S) : evSp G yJ9_abs_0f7a4 M_J9_abs_0f7a4 d [.int l0] S (evQI q) :=
  evSp.of (by decide +kernel) rfl (Nat.le_of_ble_eq_true rfl) h
abbrev bk_J9_floorDiv_7cf53_0 (G : evG) (d : Nat) (Q : Option Value → evS → Prop) (l0 : Int32) (l1 : Int32) (S : evS) : Prop := evAt G M_J9_floorDiv_7cf53 (evFm G d Q) 0 [(0, .int l0), (1, .int l1)] [] S
set_option maxRecDepth 100000 in
set_option maxHeartbeats 4000000 in
theorem vb_J9_floorDiv_7cf53_0 {G : evG} {d : Nat} {q : Int32 → evS → Prop} (hCl : evCl G) {l0 : Int32} {l1 : Int32} {S : evS}
    (h : (¬ l1 = 0 ∧ (∀ v2 : Int32, v2 = (l0 / l1) → ((0 ≤ (l0 ^^^ l1) → q v2 S) ∧ (¬ 0 ≤ (l0 ^^^ l1) → (((v2 * l1) = l0 → q v2 S) ∧ (¬ (v2 * l1) = l0 → q (v2 - 1) S))))))) : bk_J9_floorDiv_7cf53_0 G d (evQI q) l0 l1 S := by
  refine ea_iload_n (pc' := 1) (i := 0) dJ9_floorDiv_7cf53_0 rfl 0 rfl rfl ?_
  refine ea_iload_n (pc' := 2) (i := 1) dJ9_floorDiv_7cf53_1 rfl 1 rfl rfl ?_
  obtain ⟨o1, h⟩ := h
  refine ea_idiv (pc' := 3) dJ9_floorDiv_7cf53_2 o1 rfl ?_
  refine ea_topi (fun v2 hv2 => ?_)
  replace h := h v2 hv2
  refine ea_istore_n (lv' := [(2, .int v2), (0, .int l0), (1, .int l1)]) (pc' := 4) dJ9_floorDiv_7cf53_3 rfl (by decide) rfl rfl ?_
  refine ea_iload_n (pc' := 5) (i := 0) dJ9_floorDiv_7cf53_4 rfl 1 rfl rfl ?_
  refine ea_iload_n (pc' := 6) (i := 1) dJ9_floorDiv_7cf53_5 rfl 2 rfl rfl ?_
  refine ea_ixor (pc' := 7) dJ9_floorDiv_7cf53_6 rfl ?_
  refine ea_if_ge (tgt := 21) (pc' := 10) dJ9_floorDiv_7cf53_7 (by decide) rfl (fun hc => ?_) (fun hc => ?_)
  · replace h := h.1 hc
    refine ea_iload_n (pc' := 22) (i := 2) dJ9_floorDiv_7cf53_21 rfl 0 rfl rfl ?_
    exact ea_iret rfl dJ9_floorDiv_7cf53_22 ⟨_, rfl, h⟩
  · replace h := h.2 hc
    refine ea_iload_n (pc' := 11) (i := 2) dJ9_floorDiv_7cf53_10 rfl 0 rfl rfl ?_
    refine ea_iload_n (pc' := 12) (i := 1) dJ9_floorDiv_7cf53_11 rfl 2 rfl rfl ?_
    refine ea_imul (pc' := 13) dJ9_floorDiv_7cf53_12 rfl ?_
    refine ea_iload_n (pc' := 14) (i := 0) dJ9_floorDiv_7cf53_13 rfl 1 rfl rfl ?_
    refine ea_icmp_eq (tgt := 21) (pc' := 17) dJ9_floorDiv_7cf53_14 (by decide) rfl (fun hc => ?_) (fun hc => ?_)
    · replace h := h.1 hc
      refine ea_iload_n (pc' := 22) (i := 2) dJ9_floorDiv_7cf53_21 rfl 0 rfl rfl ?_
      exact ea_iret rfl dJ9_floorDiv_7cf53_22 ⟨_, rfl, h⟩
    · replace h := h.2 hc
      refine ea_iload_n (pc' := 18) (i := 2) dJ9_floorDiv_7cf53_17 rfl 0 rfl rfl ?_
      refine ea_iconst (v := 1) (pc' := 19) dJ9_floorDiv_7cf53_18 (by decide) rfl ?_
      refine ea_isub (pc' := 20) dJ9_floorDiv_7cf53_19 rfl ?_
      exact ea_iret rfl dJ9_floorDiv_7cf53_20 ⟨_, rfl, h⟩
theorem vm_J9_floorDiv_7cf53 {G : evG} {d : Nat} {q : Int32 → evS → Prop} {l0 : Int32} {l1 : Int32} {S : evS} (h : bk_J9_floorDiv_7cf53_0 G d (evQI q) l0 l1 S) : evSp G yJ9_floorDiv_7cf53 M_J9_floorDiv_7cf53 d [.int l0, .int l1] S (evQI q) :=
  evSp.of (by decide +kernel) rfl (Nat.le_of_ble_eq_true rfl) h
abbrev bk_J9_min_f86c9_0 (G : evG) (d : Nat) (Q : Option Value → evS → Prop) (l0 : Int64) (l2 : Int64) (S : evS) : Prop := evAt G M_J9_min_f86c9 (evFm G d Q) 0 [(0, .long l0), (2, .long l2)] [] S
set_option maxRecDepth 100000 in
set_option maxHeartbeats 4000000 in
theorem vb_J9_min_f86c9_0 {G : evG} {d : Nat} {q : Int64 → evS → Prop} (hCl : evCl G) {l0 : Int64} {l2 : Int64} {S : evS}
    (h : ((l2 < l0 → q l2 S) ∧ (¬ l2 < l0 → q l0 S))) : bk_J9_min_f86c9_0 G d (evQL q) l0 l2 S := by
  refine ea_lload_n (pc' := 1) (i := 0) dJ9_min_f86c9_0 rfl 0 rfl rfl ?_
  refine ea_lload_n (pc' := 2) (i := 2) dJ9_min_f86c9_1 rfl 1 rfl rfl ?_
  refine ea_lcmp_gt (tgt := 10) (pc1 := 3) (pc' := 6) dJ9_min_f86c9_2 rfl dJ9_min_f86c9_3 (by decide) rfl (fun hc => ?_) (fun hc => ?_)
  · replace h := h.1 hc
    refine ea_lload_n (pc' := 11) (i := 2) dJ9_min_f86c9_10 rfl 1 rfl rfl ?_
    exact ea_lret rfl dJ9_min_f86c9_11 ⟨_, rfl, h⟩
  · replace h := h.2 hc
    refine ea_lload_n (pc' := 7) (i := 0) dJ9_min_f86c9_6 rfl 0 rfl rfl ?_
    refine ea_goto (tgt := 11) dJ9_min_f86c9_7 (by decide) ?_
    exact ea_lret rfl dJ9_min_f86c9_11 ⟨_, rfl, h⟩
theorem vm_J9_min_f86c9 {G : evG} {d : Nat} {q : Int64 → evS → Prop} {l0 : Int64} {l2 : Int64} {S : evS} (h : bk_J9_min_f86c9_0 G d (evQL q) l0 l2 S) : evSp G yJ9_min_f86c9 M_J9_min_f86c9 d [.long l0, .long l2] S (evQL q) :=
  evSp.of (by decide +kernel) rfl (Nat.le_of_ble_eq_true rfl) h
abbrev bk_J6_bitCount_0f7a4_0 (G : evG) (d : Nat) (Q : Option Value → evS → Prop) (l0 : Int32) (S : evS) : Prop := evAt G M_J6_bitCount_0f7a4 (evFm G d Q) 0 [(0, .int l0)] [] S
set_option maxRecDepth 100000 in
set_option maxHeartbeats 4000000 in
theorem vb_J6_bitCount_0f7a4_0 {G : evG} {d : Nat} {q : Int32 → evS → Prop} (hCl : evCl G) {l0 : Int32} {S : evS}
    (h : (∀ v1 : Int32, v1 = (l0 - (((l0.toUInt32 >>> ((1 : Int32).toUInt32 &&& Int32.toUInt32 31)).toInt32) &&& 1431655765)) → (∀ v2 : Int32, v2 = ((v1 &&& 858993459) + (((v1.toUInt32 >>> ((2 : Int32).toUInt32 &&& Int32.toUInt32 31)).toInt32) &&& 858993459)) → (∀ v3 : Int32, v3 = ((v2 + ((v2.toUInt32 >>> ((4 : Int32).toUInt32 &&& Int32.toUInt32 31)).toInt32)) &&& 252645135) → (∀ v4 : Int32, v4 = (v3 + ((v3.toUInt32 >>> ((8 : Int32).toUInt32 &&& Int32.toUInt32 31)).toInt32)) → (∀ v5 : Int32, v5 = (v4 + ((v4.toUInt32 >>> ((16 : Int32).toUInt32 &&& Int32.toUInt32 31)).toInt32)) → q (v5 &&& 63) S)))))) : bk_J6_bitCount_0f7a4_0 G d (evQI q) l0 S := by
  refine ea_iload_n (pc' := 1) (i := 0) dJ6_bitCount_0f7a4_0 rfl 0 rfl rfl ?_
  refine ea_iload_n (pc' := 2) (i := 0) dJ6_bitCount_0f7a4_1 rfl 0 rfl rfl ?_
  refine ea_iconst (v := 1) (pc' := 3) dJ6_bitCount_0f7a4_2 (by decide) rfl ?_
  refine ea_iushr (pc' := 4) dJ6_bitCount_0f7a4_3 rfl ?_
  refine ea_ldcw (v := 1431655765) (pc' := 7) dJ6_bitCount_0f7a4_4 kc_J6_265 rfl ?_
  refine ea_iand (pc' := 8) dJ6_bitCount_0f7a4_7 rfl ?_
  refine ea_isub (pc' := 9) dJ6_bitCount_0f7a4_8 rfl ?_
  refine ea_topi (fun v1 hv1 => ?_)
  replace h := h v1 hv1
  refine ea_istore_n (lv' := [(0, .int v1)]) (pc' := 10) dJ6_bitCount_0f7a4_9 rfl (by decide) rfl rfl ?_
  refine ea_iload_n (pc' := 11) (i := 0) dJ6_bitCount_0f7a4_10 rfl 0 rfl rfl ?_
  refine ea_ldcw (v := 858993459) (pc' := 14) dJ6_bitCount_0f7a4_11 kc_J6_266 rfl ?_
  refine ea_iand (pc' := 15) dJ6_bitCount_0f7a4_14 rfl ?_
  refine ea_iload_n (pc' := 16) (i := 0) dJ6_bitCount_0f7a4_15 rfl 0 rfl rfl ?_
  refine ea_iconst (v := 2) (pc' := 17) dJ6_bitCount_0f7a4_16 (by decide) rfl ?_
  refine ea_iushr (pc' := 18) dJ6_bitCount_0f7a4_17 rfl ?_
  refine ea_ldcw (v := 858993459) (pc' := 21) dJ6_bitCount_0f7a4_18 kc_J6_266 rfl ?_
  refine ea_iand (pc' := 22) dJ6_bitCount_0f7a4_21 rfl ?_
  refine ea_iadd (pc' := 23) dJ6_bitCount_0f7a4_22 rfl ?_
  refine ea_topi (fun v2 hv2 => ?_)
  replace h := h v2 hv2
  refine ea_istore_n (lv' := [(0, .int v2)]) (pc' := 24) dJ6_bitCount_0f7a4_23 rfl (by decide) rfl rfl ?_
  refine ea_iload_n (pc' := 25) (i := 0) dJ6_bitCount_0f7a4_24 rfl 0 rfl rfl ?_
  refine ea_iload_n (pc' := 26) (i := 0) dJ6_bitCount_0f7a4_25 rfl 0 rfl rfl ?_
  refine ea_iconst (v := 4) (pc' := 27) dJ6_bitCount_0f7a4_26 (by decide) rfl ?_
  refine ea_iushr (pc' := 28) dJ6_bitCount_0f7a4_27 rfl ?_
  refine ea_iadd (pc' := 29) dJ6_bitCount_0f7a4_28 rfl ?_
  refine ea_ldcw (v := 252645135) (pc' := 32) dJ6_bitCount_0f7a4_29 kc_J6_267 rfl ?_
  refine ea_iand (pc' := 33) dJ6_bitCount_0f7a4_32 rfl ?_
  refine ea_topi (fun v3 hv3 => ?_)
  replace h := h v3 hv3
  refine ea_istore_n (lv' := [(0, .int v3)]) (pc' := 34) dJ6_bitCount_0f7a4_33 rfl (by decide) rfl rfl ?_
  refine ea_iload_n (pc' := 35) (i := 0) dJ6_bitCount_0f7a4_34 rfl 0 rfl rfl ?_
  refine ea_iload_n (pc' := 36) (i := 0) dJ6_bitCount_0f7a4_35 rfl 0 rfl rfl ?_
  refine ea_bipush (v := 8) (pc' := 38) dJ6_bitCount_0f7a4_36 (by decide) rfl ?_
  refine ea_iushr (pc' := 39) dJ6_bitCount_0f7a4_38 rfl ?_
  refine ea_iadd (pc' := 40) dJ6_bitCount_0f7a4_39 rfl ?_
  refine ea_topi (fun v4 hv4 => ?_)
  replace h := h v4 hv4
  refine ea_istore_n (lv' := [(0, .int v4)]) (pc' := 41) dJ6_bitCount_0f7a4_40 rfl (by decide) rfl rfl ?_
  refine ea_iload_n (pc' := 42) (i := 0) dJ6_bitCount_0f7a4_41 rfl 0 rfl rfl ?_
  refine ea_iload_n (pc' := 43) (i := 0) dJ6_bitCount_0f7a4_42 rfl 0 rfl rfl ?_
  refine ea_bipush (v := 16) (pc' := 45) dJ6_bitCount_0f7a4_43 (by decide) rfl ?_
  refine ea_iushr (pc' := 46) dJ6_bitCount_0f7a4_45 rfl ?_
  refine ea_iadd (pc' := 47) dJ6_bitCount_0f7a4_46 rfl ?_
  refine ea_topi (fun v5 hv5 => ?_)
  replace h := h v5 hv5
  refine ea_istore_n (lv' := [(0, .int v5)]) (pc' := 48) dJ6_bitCount_0f7a4_47 rfl (by decide) rfl rfl ?_
  refine ea_iload_n (pc' := 49) (i := 0) dJ6_bitCount_0f7a4_48 rfl 0 rfl rfl ?_
  refine ea_bipush (v := 63) (pc' := 51) dJ6_bitCount_0f7a4_49 (by decide) rfl ?_
  refine ea_iand (pc' := 52) dJ6_bitCount_0f7a4_51 rfl ?_
  exact ea_iret rfl dJ6_bitCount_0f7a4_52 ⟨_, rfl, h⟩
theorem vm_J6_bitCount_0f7a4 {G : evG} {d : Nat} {q : Int32 → evS → Prop} {l0 : Int32} {S : evS} (h : bk_J6_bitCount_0f7a4_0 G d (evQI q) l0 S) : evSp G yJ6_bitCount_0f7a4 M_J6_bitCount_0f7a4 d [.int l0] S (evQI q) :=
  evSp.of (by decide +kernel) rfl (Nat.le_of_ble_eq_true rfl) h
