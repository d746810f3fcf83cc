/-! CONSTRUCTOR of EvenVoyage (WRITTEN BY genev.py) -/
def AgK (K : List (Nat × Nat)) (ad ad' : evAd) (S S' : evS) : Prop := ∀ a b, (a, b) ∈ K → ad' a b = ad a b ∧ S'.1 a b = S.1 a b
theorem AgK.rf {K : List (Nat × Nat)} {ad : evAd} {S : evS} : AgK K ad ad S S := fun _ _ _ => ⟨rfl, rfl⟩
theorem AgK.tr {K L : List (Nat × Nat)} {ad ad1 ad2 : evAd} {S S1 S2 : evS} (h : AgK K ad ad1 S S1) (h2 : AgK (K ++ L) ad1 ad2 S1 S2) : AgK K ad ad2 S S2 := fun a b hab =>
  ⟨(h2 a b (List.mem_append_left _ hab)).1.trans (h a b hab).1, (h2 a b (List.mem_append_left _ hab)).2.trans (h a b hab).2⟩
theorem AgK.tr0 {K : List (Nat × Nat)} {ad ad1 ad2 : evAd} {S S1 S2 : evS} (h : AgK K ad ad1 S S1) (h2 : AgK K ad1 ad2 S1 S2) : AgK K ad ad2 S S2 := fun a b hab =>
  ⟨(h2 a b hab).1.trans (h a b hab).1, (h2 a b hab).2.trans (h a b hab).2⟩
theorem AgK.mk' {K K2 : List (Nat × Nat)} {ad ad' : evAd} {S S' : evS} (dj : ∀ q ∈ K, q ∉ K2) (f : ∀ a b, (a, b) ∉ K2 → ad' a b = ad a b ∧ S'.1 a b = S.1 a b ∧ S'.2 a b = S.2 a b) : AgK K ad ad' S S' := fun a b hab => ⟨(f a b (dj _ hab)).1, (f a b (dj _ hab)).2.1⟩
theorem AgK.nw {K : List (Nat × Nat)} {kd x : Nat} {ad ad' : evAd} {S S' : evS} (hx : (kd, x) ∉ K) (f : ∀ a b, ¬ (a = kd ∧ b = x) → ad' a b = ad a b ∧ S'.1 a b = S.1 a b ∧ S'.2 a b = S.2 a b) : AgK K ad ad' S S' := fun a b hab => by
  have : ¬ (a = kd ∧ b = x) := by
    rintro ⟨rfl, rfl⟩
    exact hx hab
  exact ⟨(f a b this).1, (f a b this).2.1⟩
theorem kPlan_c (x : Nat) (hx : x < 5) : KCl (kPlan x) := kcl_n (f := kPlan) 5 (by decide +kernel) x hx
theorem kPlan_o (x : Nat) : (6, x) ∈ kPlan x := List.mem_append_right _ (List.mem_singleton.mpr rfl)
theorem nI_ge2 (i : Nat) (hi : i ≤ 2) : (2 : Int32) ≤ nI i ↔ 2 ≤ i := (show ∀ i : Fin 3, (2 : Int32) ≤ nI i.1 ↔ 2 ≤ i.1 by decide) ⟨i, by omega⟩
def InE (S : evS) : Prop := InF 0 S ∧ InPa S ∧ (S.1 22 0 0 = 0 ∧ S.1 22 0 1 = 0) ∧ InT S ∧ S.1 0 0 10 = 0
def kE0 : List (Nat × Nat) := []
theorem kE0_c : KCl kE0 := KCl.nil
def kE1 : List (Nat × Nat) := kE0 ++ kFleet 0
theorem kE1_c : KCl kE1 := KCl.b (by decide +kernel)
theorem kE1_d : ∀ q ∈ kE0, q ∉ kFleet 0 := dj_b (by decide +kernel)
def kE2 : List (Nat × Nat) := kE1 ++ kPast
theorem kE2_c : KCl kE2 := KCl.b (by decide +kernel)
theorem kE2_d : ∀ q ∈ kE1, q ∉ kPast := dj_b (by decide +kernel)
def kE3 : List (Nat × Nat) := kE2 ++ [(22, 0)]
theorem kE3_c : KCl kE3 := KCl.b (by decide +kernel)
theorem kE3_d : (22, 0) ∉ kE2 := by decide +kernel
def kE4 : List (Nat × Nat) := kE3 ++ kText
theorem kE4_c : KCl kE4 := KCl.b (by decide +kernel)
theorem kE4_d : ∀ q ∈ kE3, q ∉ kText := dj_b (by decide +kernel)
def kE5 : List (Nat × Nat) := kE4 ++ kShip 36
theorem kE5_c : KCl kE5 := KCl.b (by decide +kernel)
theorem kE5_d : ∀ q ∈ kE4, q ∉ kShip 36 := dj_b (by decide +kernel)
def kE6 : List (Nat × Nat) := kE5 ++ kPlan 4
theorem kE6_c : KCl kE6 := KCl.b (by decide +kernel)
theorem kE6_d : ∀ q ∈ kE5, q ∉ kPlan 4 := dj_b (by decide +kernel)
def kE7 : List (Nat × Nat) := kE6 ++ [(24, 0)]
theorem kE7_c : KCl kE7 := KCl.b (by decide +kernel)
theorem kE7_d : (24, 0) ∉ kE6 := by decide +kernel
def kE8 : List (Nat × Nat) := kE7 ++ [(25, 0)]
theorem kE8_c : KCl kE8 := KCl.b (by decide +kernel)
theorem kE8_d : (25, 0) ∉ kE7 := by decide +kernel
def kE9 : List (Nat × Nat) := kE8 ++ [(26, 0)]
theorem kE9_c : KCl kE9 := KCl.b (by decide +kernel)
theorem kE9_d : (26, 0) ∉ kE8 := by decide +kernel
def kEI : Nat → List (Nat × Nat)
  | 0 => kE9
  | i + 1 => kEI i ++ kFleet (7 + i)
def kEJ : List (Nat × Nat) := kEI 2 ++ [(21, 0)]
def kEP : Nat → List (Nat × Nat)
  | 0 => kEJ
  | i + 1 => kEP i ++ kPlan i
def kEQ : List (Nat × Nat) := kEP 4 ++ [(23, 0)]
def kEv : List (Nat × Nat) := kEQ ++ [(0, 0)]
theorem kEI_c (i : Nat) (hi : i ≤ 2) : KCl (kEI i) := KCl.b ((show ∀ i : Fin 3, kclB (kEI i.1) = true by decide +kernel) ⟨i, by omega⟩)
theorem kEI_d (i : Nat) (hi : i < 2) : ∀ q ∈ kEI i, q ∉ kFleet (7 + i) := dj_b ((show ∀ i : Fin 2, djB (kEI i.1) (kFleet (7 + i.1)) = true by decide +kernel) ⟨i, by omega⟩)
theorem kEP_c (i : Nat) (hi : i ≤ 4) : KCl (kEP i) := KCl.b ((show ∀ i : Fin 5, kclB (kEP i.1) = true by decide +kernel) ⟨i, by omega⟩)
theorem kEP_d (i : Nat) (hi : i < 4) : ∀ q ∈ kEP i, q ∉ kPlan i := dj_b ((show ∀ i : Fin 4, djB (kEP i.1) (kPlan i.1) = true by decide +kernel) ⟨i, by omega⟩)
theorem kEI_9 (i : Nat) (hi : i ≤ 2) : ∀ q ∈ kE9, q ∈ kEI i := fun q hq => by
  have : i = 0 ∨ i = 1 ∨ i = 2 := by omega
  rcases this with rfl | rfl | rfl
  · exact hq
  · exact List.mem_append_left _ hq
  · exact List.mem_append_left _ (List.mem_append_left _ hq)
theorem kEP_J (i : Nat) (hi : i ≤ 4) : ∀ q ∈ kEJ, q ∈ kEP i := fun q hq => by
  have : i = 0 ∨ i = 1 ∨ i = 2 ∨ i = 3 ∨ i = 4 := by omega
  rcases this with rfl | rfl | rfl | rfl | rfl
  · exact hq
  · exact List.mem_append_left _ hq
  · exact List.mem_append_left _ (List.mem_append_left _ hq)
  · exact List.mem_append_left _ (List.mem_append_left _ (List.mem_append_left _ hq))
  · exact List.mem_append_left _ (List.mem_append_left _ (List.mem_append_left _ (List.mem_append_left _ hq)))
theorem kPlan_1 (f g : Nat) (hf : f < 5) (hg : g < 5) (h : (6, g) ∈ kPlan f) : g = f := by
  have := (show ∀ f g : Fin 5, (kPlan f.1).contains (6, g.1) = true → g.1 = f.1 by decide +kernel) ⟨f, hf⟩ ⟨g, hg⟩
  exact this (List.contains_iff_mem.mpr h)
theorem AgK.sub {K L : List (Nat × Nat)} {ad ad1 : evAd} {S S1 : evS} (hs : ∀ q ∈ K, q ∈ L) (h : AgK L ad ad1 S S1) : AgK K ad ad1 S S1 := fun a b hab => h a b (hs _ hab)
theorem i_voyage {G : evG} : eiM G yX5_init M_X5_init 5 190 1895 0 0 kEv [.null, .null, .null, .null, .null, .null, .null, .null, .null, .null, .int 0, .null] InE := by
  refine eiM.of (by decide) rfl rfl (by decide) (fun h sz => ?_)
  show eiAt G M_X5_init (eiRm 5 190 1895) [(h, .inr (evC 0, [.null, .null, .null, .null, .null, .null, .null, .null, .null, .null, .int 0, .null]))] sz (eiZ G 0 0 kEv [.null, .null, .null, .null, .null, .null, .null, .null, .null, .null, .int 0, .null] InE h sz 190 1895) 0 [(0, .ref h)] [] 0 0 ([(h, .inr (evC 0, [.null, .null, .null, .null, .null, .null, .null, .null, .null, .null, .int 0, .null]))] ++ evwK (evca G) (fun _ _ => 0) (fun _ _ _ => 0, fun _ _ _ => 0) kE0)
  refine ei_aload_n dX5_init_0 rfl 0 rfl rfl ?_
  refine ei_obj (ev_in (by decide +kernel) rfl) dX5_init_1 (by decide) (by decide) rfl ?_
  refine ei_aload_n dX5_init_4 rfl 0 rfl rfl ?_
  refine ei_make (i_fleet 0 (by omega)) kok_1 (by decide) (ev_in (by decide +kernel) rfl) (ev_in (by decide +kernel) rfl) (ev_in (by decide +kernel) rfl) rfl rfl rfl (by decide +kernel) (Or.inl (ev_in (by decide +kernel) rfl)) (ev_in (by decide +kernel) rfl) (ev_in (by decide +kernel) rfl) dX5_init_5 dX5_init_8 dX5_init_9 (by decide) (by decide) (by decide) (by simp [Value.category]) kE0_c (kFleet_c 0 (by omega)) kE1_d (fun S1 S' ha hI => hI.mv (by omega) ha) (kFleet_o 0) rfl (fun q1 ad1 S1 f1 e1 i1 => ?_)
  have a1 := AgK.mk' kE1_d f1
  refine ei_pf kok_0 rfl (ev_in (by decide +kernel) rfl) (k0 := 0) (by decide) rfl rfl rfl rfl (by simp) dX5_init_12 rfl (fs' := [.ref q1, .null, .null, .null, .null, .null, .null, .null, .null, .null, .int 0, .null]) rfl ?_
  refine ei_aload_n dX5_init_15 rfl 0 rfl rfl ?_
  refine ei_make (i_past) kok_16 (by decide) (ev_in (by decide +kernel) rfl) (ev_in (by decide +kernel) rfl) (ev_in (by decide +kernel) rfl) rfl rfl rfl (by decide +kernel) (Or.inl (ev_in (by decide +kernel) rfl)) (ev_in (by decide +kernel) rfl) (ev_in (by decide +kernel) rfl) dX5_init_16 dX5_init_19 dX5_init_20 (by decide) (by decide) (by decide) (by simp [Value.category]) kE1_c (KCl.b (by decide +kernel)) kE2_d (fun S1 S' ha hI => by unfold InPa at hI ⊢; rw [ha 16 0 (by decide +kernel)]; exact hI) (by decide +kernel) rfl (fun q2 ad2 S2 f2 e2 i2 => ?_)
  have a2 := AgK.mk' kE2_d f2
  refine ei_pf kok_0 rfl (ev_in (by decide +kernel) rfl) (k0 := 1) (by decide) rfl rfl rfl rfl (by simp) dX5_init_23 rfl (fs' := [.ref q1, .ref q2, .null, .null, .null, .null, .null, .null, .null, .null, .int 0, .null]) rfl ?_
  refine ei_aload_n dX5_init_26 rfl 0 rfl rfl ?_
  refine ei_iconst dX5_init_27 rfl rfl ?_
  refine ei_newq (t0 := 3) (N := 2) (C2 := RX0) (ev_in (by decide +kernel) rfl) (fun U h => h.2.1.2.1) rfl (by decide) (by decide) (by decide) (by decide) (by decide) dX5_init_28 rfl (fun qi => ?_)
  refine ei_pf kok_0 rfl (ev_in (by decide +kernel) rfl) (k0 := 2) (by decide) rfl rfl rfl rfl (by simp) dX5_init_31 rfl (fs' := [.ref q1, .ref q2, .ref qi, .null, .null, .null, .null, .null, .null, .null, .int 0, .null]) rfl ?_
  refine ei_aload_n dX5_init_34 rfl 0 rfl rfl ?_
  refine ei_iconst dX5_init_35 rfl rfl ?_
  refine ei_newZ 22 0 rfl rfl ⟨by decide, by decide⟩ (by decide) (by decide) (by decide) dX5_init_36 kE2_c kE3_d rfl (fun q3 ad3 S3 f3 e3 z3 => ?_)
  have a3 := AgK.nw kE3_d f3
  refine ei_pf kok_0 rfl (ev_in (by decide +kernel) rfl) (k0 := 3) (by decide) rfl rfl rfl rfl (by simp) dX5_init_38 rfl (fs' := [.ref q1, .ref q2, .ref qi, .ref q3, .null, .null, .null, .null, .null, .null, .int 0, .null]) rfl ?_
  refine ei_aload_n dX5_init_41 rfl 0 rfl rfl ?_
  refine ei_make (i_text) kok_18 (by decide) (ev_in (by decide +kernel) rfl) (ev_in (by decide +kernel) rfl) (ev_in (by decide +kernel) rfl) rfl rfl rfl (by decide +kernel) (Or.inr ⟨rfl, Or.inl ⟨rfl, rfl⟩⟩) (ev_in (by decide +kernel) rfl) (ev_in (by decide +kernel) rfl) dX5_init_42 dX5_init_45 dX5_init_46 (by decide) (by decide) (by decide) (by simp [Value.category]) kE3_c (KCl.b (by decide +kernel)) kE4_d (fun S1 S' ha hI => by unfold InT at hI ⊢; rw [ha 18 0 (by decide +kernel)]; exact hI) (by decide +kernel) rfl (fun q4 ad4 S4 f4 e4 i4 => ?_)
  have a4 := AgK.mk' kE4_d f4
  refine ei_pf kok_0 rfl (ev_in (by decide +kernel) rfl) (k0 := 4) (by decide) rfl rfl rfl rfl (by simp) dX5_init_49 rfl (fs' := [.ref q1, .ref q2, .ref qi, .ref q3, .ref q4, .null, .null, .null, .null, .null, .int 0, .null]) rfl ?_
  refine ei_aload_n dX5_init_52 rfl 0 rfl rfl ?_
  refine ei_make (i_ship 36 (by omega)) kok_3 (by decide) (ev_in (by decide +kernel) rfl) (ev_in (by decide +kernel) rfl) (ev_in (by decide +kernel) rfl) rfl rfl rfl (by decide +kernel) (Or.inl (ev_in (by decide +kernel) rfl)) (ev_in (by decide +kernel) rfl) (ev_in (by decide +kernel) rfl) dX5_init_53 dX5_init_56 dX5_init_57 (by decide) (by decide) (by decide) (by simp [Value.category]) kE4_c (kShip_c 36 (by omega)) kE5_d (fun S1 S' ha hI => hI.mv (ha 4 _ (mem_kShip.mpr ⟨by omega, rfl⟩)) (ha 5 _ (mem_kShip.mpr ⟨by omega, rfl⟩))) (mem_kShip.mpr ⟨by omega, rfl⟩) rfl (fun q5 ad5 S5 f5 e5 i5 => ?_)
  have a5 := AgK.mk' kE5_d f5
  refine ei_pf kok_0 rfl (ev_in (by decide +kernel) rfl) (k0 := 5) (by decide) rfl rfl rfl rfl (by simp) dX5_init_60 rfl (fs' := [.ref q1, .ref q2, .ref qi, .ref q3, .ref q4, .ref q5, .null, .null, .null, .null, .int 0, .null]) rfl ?_
  refine ei_aload_n dX5_init_63 rfl 0 rfl rfl ?_
  refine ei_make (i_plan 4 (by omega)) kok_6 (by decide) (ev_in (by decide +kernel) rfl) (ev_in (by decide +kernel) rfl) (ev_in (by decide +kernel) rfl) rfl rfl rfl (by decide +kernel) (Or.inr ⟨rfl, Or.inr ⟨rfl, rfl⟩⟩) (ev_in (by decide +kernel) rfl) (ev_in (by decide +kernel) rfl) dX5_init_64 dX5_init_67 dX5_init_68 (by decide) (by decide) (by decide) (by simp [Value.category]) kE5_c (kPlan_c 4 (by omega)) kE6_d (fun _ _ _ _ => trivial) (kPlan_o 4) rfl (fun q6 ad6 S6 f6 e6 i6 => ?_)
  have a6 := AgK.mk' kE6_d f6
  refine ei_pf kok_0 rfl (ev_in (by decide +kernel) rfl) (k0 := 6) (by decide) rfl rfl rfl rfl (by simp) dX5_init_71 rfl (fs' := [.ref q1, .ref q2, .ref qi, .ref q3, .ref q4, .ref q5, .ref q6, .null, .null, .null, .int 0, .null]) rfl ?_
  refine ei_aload_n dX5_init_74 rfl 0 rfl rfl ?_
  refine ei_iconst dX5_init_75 rfl rfl ?_
  refine ei_newq (t0 := 5) (N := 4) (C2 := RX2) (ev_in (by decide +kernel) rfl) (fun U h => h.2.1.2.2) rfl (by decide) (by decide) (by decide) (by decide) (by decide) dX5_init_76 rfl (fun qp => ?_)
  refine ei_pf kok_0 rfl (ev_in (by decide +kernel) rfl) (k0 := 7) (by decide) rfl rfl rfl rfl (by simp) dX5_init_79 rfl (fs' := [.ref q1, .ref q2, .ref qi, .ref q3, .ref q4, .ref q5, .ref q6, .ref qp, .null, .null, .int 0, .null]) rfl ?_
  refine ei_aload_n dX5_init_82 rfl 0 rfl rfl ?_
  refine ei_bipush dX5_init_83 rfl rfl ?_
  refine ei_newI 24 0 rfl rfl ⟨by decide, by decide⟩ (by decide) (by decide) (by decide) dX5_init_85 kE6_c kE7_d rfl (fun q7 ad7 S7 f7 e7 z7 => ?_)
  have a7 := AgK.nw kE7_d f7
  refine ei_pf kok_0 rfl (ev_in (by decide +kernel) rfl) (k0 := 8) (by decide) rfl rfl rfl rfl (by simp) dX5_init_87 rfl (fs' := [.ref q1, .ref q2, .ref qi, .ref q3, .ref q4, .ref q5, .ref q6, .ref qp, .ref q7, .null, .int 0, .null]) rfl ?_
  refine ei_aload_n dX5_init_90 rfl 0 rfl rfl ?_
  refine ei_bipush dX5_init_91 rfl rfl ?_
  refine ei_newI 25 0 rfl rfl ⟨by decide, by decide⟩ (by decide) (by decide) (by decide) dX5_init_93 kE7_c kE8_d rfl (fun q8 ad8 S8 f8 e8 z8 => ?_)
  have a8 := AgK.nw kE8_d f8
  refine ei_pf kok_0 rfl (ev_in (by decide +kernel) rfl) (k0 := 9) (by decide) rfl rfl rfl rfl (by simp) dX5_init_95 rfl (fs' := [.ref q1, .ref q2, .ref qi, .ref q3, .ref q4, .ref q5, .ref q6, .ref qp, .ref q7, .ref q8, .int 0, .null]) rfl ?_
  refine ei_aload_n dX5_init_98 rfl 0 rfl rfl ?_
  refine ei_iconst dX5_init_99 rfl rfl ?_
  refine ei_pi kok_0 (ev_in (by decide +kernel) rfl) (k0 := 10) (by decide) rfl rfl rfl (by simp) dX5_init_100 rfl (fs' := [.ref q1, .ref q2, .ref qi, .ref q3, .ref q4, .ref q5, .ref q6, .ref qp, .ref q7, .ref q8, .int 0, .null]) rfl ?_
  refine ei_aload_n dX5_init_103 rfl 0 rfl rfl ?_
  refine ei_iconst dX5_init_104 rfl rfl ?_
  refine ei_newI 26 0 rfl rfl ⟨by decide, by decide⟩ (by decide) (by decide) (by decide) dX5_init_105 kE8_c kE9_d rfl (fun q9 ad9 S9 f9 e9 z9 => ?_)
  have a9 := AgK.nw kE9_d f9
  refine ei_pf kok_0 rfl (ev_in (by decide +kernel) rfl) (k0 := 11) (by decide) rfl rfl rfl rfl (by simp) dX5_init_107 rfl (fs' := [.ref q1, .ref q2, .ref qi, .ref q3, .ref q4, .ref q5, .ref q6, .ref qp, .ref q7, .ref q8, .int 0, .ref q9]) rfl ?_
  refine ei_iconst dX5_init_110 rfl rfl ?_
  refine ei_istore_n dX5_init_111 rfl (by decide) (lv' := [(1, .int 0), (0, .ref h)]) rfl rfl ?_
  have key2 : ∀ m i (ad : evAd) (S : evS) (cells slots : Nat) (F : Nat → Option Nat) (adJ : evAd) (SJ : evS), i + m = 4 → cells = 150 + 10 * i → slots = 1607 + 72 * i → (∀ j, j < i → F j = some (ad 6 j)) → AgK kE9 ad9 adJ S9 SJ → adJ 21 0 = qi → AgK kEJ adJ ad SJ S →
      eiAt G M_X5_init (eiRm 5 190 1895) [(h, .inr (evC 0, [.null, .null, .null, .null, .null, .null, .null, .null, .null, .null, .int 0, .null]))] sz (eiZ G 0 0 kEv [.null, .null, .null, .null, .null, .null, .null, .null, .null, .null, .int 0, .null] InE h sz 190 1895) 138 [(1, .int (nI i)), (0, .ref h)] [] cells slots (((h, .inr (evC 0, [.ref q1, .ref q2, .ref qi, .ref q3, .ref q4, .ref q5, .ref q6, .ref qp, .ref q7, .ref q8, .int 0, .ref q9])) :: (qp, .inl (evca G 5, 4, .inr (.inr (.inr (.inr F))))) :: []) ++ evwK (evca G) ad S (kEP i)) := by
    intro m
    induction m with
    | zero =>
      intro i ad S cells slots F adJ SJ hi hc hs hF g9 g21 gJ
      have hi4 : i = 4 := by omega
      subst hi4
      refine ei_iload_n dX5_init_138 rfl 0 rfl rfl (ei_iconst dX5_init_139 rfl rfl (ei_icmp_ge dX5_init_140 (tgt := 162) rfl rfl (fun _ => ?_) (fun hc => absurd ((nI_ge4 4 (by omega)).mpr (by omega)) hc)))
      refine ei_keyq (kd := 23) (x := 0) rfl rfl rfl (kEP_c 4 (by omega)) (by decide +kernel) (fun _ _ e => absurd e (by decide)) (fun i hi => hF i hi) (fun adQ SQ fQ eQ => ?_)
      have aQ : AgK (kEP 4) ad adQ S SQ := AgK.nw (by decide +kernel) fQ
      have t9 : AgK kE9 ad9 adQ S9 SQ := g9.tr0 (AgK.sub (fun q hq => List.mem_append_left _ (kEI_9 2 (by omega) q hq)) (gJ.tr0 (AgK.sub (kEP_J 4 (by omega)) aQ)))
      have t8 : AgK kE8 ad8 adQ S8 SQ := AgK.tr a9 t9
      have t7 : AgK kE7 ad7 adQ S7 SQ := AgK.tr a8 t8
      have t6 : AgK kE6 ad6 adQ S6 SQ := AgK.tr a7 t7
      have t5 : AgK kE5 ad5 adQ S5 SQ := AgK.tr a6 t6
      have t4 : AgK kE4 ad4 adQ S4 SQ := AgK.tr a5 t5
      have t3 : AgK kE3 ad3 adQ S3 SQ := AgK.tr a4 t4
      have t2 : AgK kE2 ad2 adQ S2 SQ := AgK.tr a3 t3
      have t1 : AgK kE1 ad1 adQ S1 SQ := AgK.tr a2 t2
      have u21 : adQ 21 0 = qi := ((gJ.tr0 (AgK.sub (kEP_J 4 (by omega)) aQ)) 21 0 (by decide +kernel)).1.trans g21
      refine ei_key (kd := 0) (x := 0) (fun _ => 0) rfl (KCl.b (by decide +kernel)) (by decide +kernel) (fun ad' S' z1 z2 => ?_) (fun adE SE fE eE zE => ?_)
      · show [Value.ref (ad' 1 0), Value.ref (ad' 16 0), Value.ref (ad' 21 0), Value.ref (ad' 22 0), Value.ref (ad' 18 0), Value.ref (ad' 3 36), Value.ref (ad' 6 4), Value.ref (ad' 23 0), Value.ref (ad' 24 0), Value.ref (ad' 25 0), Value.int (S'.1 0 0 10), Value.ref (ad' 26 0)] = _
        rw [(z1 1 0 (fun z => absurd z.1 (by decide))).trans ((t1 1 0 (by decide +kernel)).1.trans e1), (z1 16 0 (fun z => absurd z.1 (by decide))).trans ((t2 16 0 (by decide +kernel)).1.trans e2), (z1 21 0 (fun z => absurd z.1 (by decide))).trans u21, (z1 22 0 (fun z => absurd z.1 (by decide))).trans ((t3 22 0 (by decide +kernel)).1.trans e3), (z1 18 0 (fun z => absurd z.1 (by decide))).trans ((t4 18 0 (by decide +kernel)).1.trans e4), (z1 3 36 (fun z => absurd z.1 (by decide))).trans ((t5 3 36 (by decide +kernel)).1.trans e5), (z1 6 4 (fun z => absurd z.1 (by decide))).trans ((t6 6 4 (by decide +kernel)).1.trans e6), (z1 23 0 (fun z => absurd z.1 (by decide))).trans eQ, (z1 24 0 (fun z => absurd z.1 (by decide))).trans ((t7 24 0 (by decide +kernel)).1.trans e7), (z1 25 0 (fun z => absurd z.1 (by decide))).trans ((t8 25 0 (by decide +kernel)).1.trans e8), z2, (z1 26 0 (fun z => absurd z.1 (by decide))).trans ((t9 26 0 (by decide +kernel)).1.trans e9)]
      refine ei_ret rfl dX5_init_162 eE ⟨InF.mv (by omega) (fun a b hab => ?_) i1, ?_, ⟨?_, ?_⟩, ?_, ?_⟩ (by omega) (by omega)
      · have ne : ¬ (a = 0 ∧ b = 0) := by
          rintro ⟨rfl, rfl⟩
          exact absurd hab (by decide +kernel)
        rw [(fE a b ne).2.1]
        exact (t1 a b hab).2
      · unfold InPa
        rw [(fE 16 0 (fun z => absurd z.1 (by decide))).2.1, (t2 16 0 (by decide +kernel)).2]
        exact i2
      · rw [(fE 22 0 (fun z => absurd z.1 (by decide))).2.1, (t3 22 0 (by decide +kernel)).2, z3]
      · rw [(fE 22 0 (fun z => absurd z.1 (by decide))).2.1, (t3 22 0 (by decide +kernel)).2, z3]
      · unfold InT
        rw [(fE 18 0 (fun z => absurd z.1 (by decide))).2.1, (t4 18 0 (by decide +kernel)).2]
        exact i4
      · rw [zE]
    | succ m ih =>
      intro i ad S cells slots F adJ SJ hi hc hs hF g9 g21 gJ
      refine ei_iload_n dX5_init_138 rfl 0 rfl rfl (ei_iconst dX5_init_139 rfl rfl (ei_icmp_ge dX5_init_140 (tgt := 162) rfl rfl (fun hc => absurd ((nI_ge4 i (by omega)).mp hc) (by omega)) (fun _ => ?_)))
      refine ei_aload_n dX5_init_143 rfl 1 rfl rfl (ei_gf kok_0 (ev_in (by decide +kernel) rfl) (k0 := 7) (by decide) rfl dX5_init_144 rfl (ei_iload_n dX5_init_147 rfl 0 rfl rfl ?_))
      refine ei_make (i_plan i (by omega)) kok_6 (by decide) (ev_in (by decide +kernel) rfl) (ev_in (by decide +kernel) rfl) (ev_in (by decide +kernel) rfl) rfl rfl rfl (by decide +kernel) (Or.inr ⟨rfl, Or.inr ⟨rfl, rfl⟩⟩) (ev_in (by decide +kernel) rfl) (ev_in (by decide +kernel) rfl) dX5_init_148 dX5_init_151 dX5_init_152 (by decide) (by show cells + 1 + 9 ≤ 190; omega) (by show slots + 14 + 58 ≤ 1895; omega) (by simp [Value.category]) (kEP_c i (by omega)) (kPlan_c _ (by omega)) (kEP_d i (by omega)) (fun _ _ _ _ => trivial) (kPlan_o _) rfl (fun q adN SN fN eN hI => ?_)
      subst eN
      refine ei_astq kok_6 (List.mem_append_right _ (kPlan_o _)) rfl (by omega) (by decide) dX5_init_155 rfl ?_
      refine ei_iinc (q := 0) dX5_init_156 rfl (nI_s i (by omega)) (by decide) (lv' := [(1, .int (nI (i + 1))), (0, .ref h)]) rfl rfl (ei_goto dX5_init_159 (tgt := 138) rfl (ih (i + 1) adN SN _ _ _ adJ SJ (by omega) (by omega) (by show slots + 14 + 58 = _; omega) (fun j hj => ?_) g9 g21 (gJ.tr0 (AgK.sub (kEP_J i (by omega)) (AgK.mk' (kEP_d i (by omega)) fN)))))
      by_cases hji : j = i
      · subst hji; simp [va_up]
      · have := (fN 6 j (fun z => by have := kPlan_1 _ _ (by omega) (by omega) z; omega)).1
        simp only [va_up, if_neg hji]
        rw [this]
        exact hF j (by omega)
  have key1 : ∀ m i (ad : evAd) (S : evS) (cells slots : Nat) (F : Nat → Option Nat), i + m = 2 → cells = 122 + 14 * i → slots = 1317 + 145 * i → (∀ j, j < i → F j = some (ad 1 (7 + j))) → AgK kE9 ad9 ad S9 S →
      eiAt G M_X5_init (eiRm 5 190 1895) [(h, .inr (evC 0, [.null, .null, .null, .null, .null, .null, .null, .null, .null, .null, .int 0, .null]))] sz (eiZ G 0 0 kEv [.null, .null, .null, .null, .null, .null, .null, .null, .null, .null, .int 0, .null] InE h sz 190 1895) 112 [(1, .int (nI i)), (0, .ref h)] [] cells slots (((h, .inr (evC 0, [.ref q1, .ref q2, .ref qi, .ref q3, .ref q4, .ref q5, .ref q6, .ref qp, .ref q7, .ref q8, .int 0, .ref q9])) :: (qi, .inl (evca G 3, 2, .inr (.inr (.inr (.inr F))))) :: (qp, .inl (evca G 5, 4, .inr (.inr (.inr (.inr fun _ => none))))) :: []) ++ evwK (evca G) ad S (kEI i)) := by
    intro m
    induction m with
    | zero =>
      intro i ad S cells slots F hi hc hs hF g9
      have hi4 : i = 2 := by omega
      subst hi4
      refine ei_iload_n dX5_init_112 rfl 0 rfl rfl (ei_iconst dX5_init_113 rfl rfl (ei_icmp_ge dX5_init_114 (tgt := 136) rfl rfl (fun _ => ?_) (fun hc => absurd ((nI_ge2 2 (by omega)).mpr (by omega)) hc)))
      refine ei_keyq (kd := 21) (x := 0) rfl rfl rfl (kEI_c 2 (by omega)) (by decide +kernel) (fun _ _ e => absurd e (by decide)) (fun i hi => hF i hi) (fun adJ SJ fJ eJ => ?_)
      refine ei_iconst dX5_init_136 rfl rfl ?_
      refine ei_istore_n dX5_init_137 rfl (by decide) (lv' := [(1, .int 0), (0, .ref h)]) rfl rfl ?_
      exact key2 4 0 adJ SJ cells slots _ adJ SJ rfl (by omega) (by omega) (fun j hj => absurd hj (by omega)) (g9.tr0 (AgK.sub (kEI_9 2 (by omega)) (AgK.nw (by decide +kernel) fJ))) eJ AgK.rf
    | succ m ih =>
      intro i ad S cells slots F hi hc hs hF g9
      refine ei_iload_n dX5_init_112 rfl 0 rfl rfl (ei_iconst dX5_init_113 rfl rfl (ei_icmp_ge dX5_init_114 (tgt := 136) rfl rfl (fun hc => absurd ((nI_ge2 i (by omega)).mp hc) (by omega)) (fun _ => ?_)))
      refine ei_aload_n dX5_init_117 rfl 1 rfl rfl (ei_gf kok_0 (ev_in (by decide +kernel) rfl) (k0 := 2) (by decide) rfl dX5_init_118 rfl (ei_iload_n dX5_init_121 rfl 0 rfl rfl ?_))
      refine ei_make (i_fleet (7 + i) (by omega)) kok_1 (by decide) (ev_in (by decide +kernel) rfl) (ev_in (by decide +kernel) rfl) (ev_in (by decide +kernel) rfl) rfl rfl rfl (by decide +kernel) (Or.inl (ev_in (by decide +kernel) rfl)) (ev_in (by decide +kernel) rfl) (ev_in (by decide +kernel) rfl) dX5_init_122 dX5_init_125 dX5_init_126 (by decide) (by show cells + 1 + 13 ≤ 190; omega) (by show slots + 1 + 144 ≤ 1895; omega) (by simp [Value.category]) (kEI_c i (by omega)) (kFleet_c _ (by omega)) (kEI_d i (by omega)) (fun S1 S' ha hI => hI.mv (by omega) ha) (kFleet_o _) rfl (fun q adN SN fN eN hI => ?_)
      subst eN
      refine ei_astq kok_1 (List.mem_append_right _ (kFleet_o _)) rfl (by omega) (by decide) dX5_init_129 rfl ?_
      refine ei_iinc (q := 0) dX5_init_130 rfl (nI_s i (by omega)) (by decide) (lv' := [(1, .int (nI (i + 1))), (0, .ref h)]) rfl rfl (ei_goto dX5_init_133 (tgt := 112) rfl (ih (i + 1) adN SN _ _ _ (by omega) (by omega) (by show slots + 1 + 144 = _; omega) (fun j hj => ?_) (g9.tr0 (AgK.sub (kEI_9 i (by omega)) (AgK.mk' (kEI_d i (by omega)) fN)))))
      by_cases hji : j = i
      · subst hji; simp [va_up]
      · have := (fN 1 (7 + j) (fun z => by have := kFleet_1 _ _ (by omega) (by omega) z; omega)).1
        simp only [va_up, if_neg hji]
        rw [this]
        exact hF j (by omega)
  exact key1 2 0 ad9 S9 122 1317 _ rfl rfl rfl (fun j hj => absurd hj (by omega)) AgK.rf
