/-! CONSTRUCTOR of Past -/
def kPaN : Nat → List (Nat × Nat)
  | 0 => []
  | i + 1 => kPaN i ++ kFleet (1 + i)
def kPast : List (Nat × Nat) := kPaN 6 ++ [(17, 0)] ++ [(16, 0)]
def InPa (S : evS) : Prop := S.1 16 0 1 = 0 ∧ S.1 16 0 2 = 0
theorem kPaN_c (i : Nat) (hi : i ≤ 6) : KCl (kPaN i) := KCl.b ((show ∀ i : Fin 7, kclB (kPaN i.1) = true by decide +kernel) ⟨i, by omega⟩)
theorem kPaN_d (i : Nat) (hi : i < 6) : ∀ q ∈ kPaN i, q ∉ kFleet (1 + i) := dj_b ((show ∀ i : Fin 6, djB (kPaN i.1) (kFleet (1 + i.1)) = true by decide +kernel) ⟨i, by omega⟩)
theorem kFleet_1 (f g : Nat) (hf : f < 9) (hg : g < 9) (h : (1, g) ∈ kFleet f) : g = f := by
  have := (show ∀ f g : Fin 9, (kFleet f.1).contains (1, g.1) = true → g.1 = f.1 by decide +kernel) ⟨f, hf⟩ ⟨g, hg⟩
  exact this (List.contains_iff_mem.mpr h)
theorem kFleet_4 (f i : Nat) (hf : f < 9) (hi : i < 4) : (4, 4 * f + i) ∈ kFleet f := List.contains_iff_mem.mp ((show ∀ f : Fin 9, ∀ i : Fin 4, (kFleet f.1).contains (4, 4 * f.1 + i.1) = true by decide +kernel) ⟨f, hf⟩ ⟨i, hi⟩)
theorem kFleet_5 (f i : Nat) (hf : f < 9) (hi : i < 4) : (5, 4 * f + i) ∈ kFleet f := List.contains_iff_mem.mp ((show ∀ f : Fin 9, ∀ i : Fin 4, (kFleet f.1).contains (5, 4 * f.1 + i.1) = true by decide +kernel) ⟨f, hf⟩ ⟨i, hi⟩)
theorem InF.mv {f : Nat} (hf : f < 9) {S S' : evS} (ha : ∀ a b, (a, b) ∈ kFleet f → S'.1 a b = S.1 a b) (h : InF f S) : InF f S' := fun i hi => (h i hi).mv (ha _ _ (kFleet_4 f i hf hi)) (ha _ _ (kFleet_5 f i hf hi))
theorem kFleet_o (f : Nat) : (1, f) ∈ kFleet f := List.mem_append_right _ (List.mem_singleton.mpr rfl)
theorem nI_ge6 (i : Nat) (hi : i ≤ 6) : (6 : Int32) ≤ nI i ↔ 6 ≤ i := (show ∀ i : Fin 7, (6 : Int32) ≤ nI i.1 ↔ 6 ≤ i.1 by decide) ⟨i, by omega⟩
theorem i_past {G : evG} : eiM G yX1_init M_X1_init 4 85 876 16 0 kPast [.null, .int 0, .int 0] InPa := by
  refine eiM.of (by decide) rfl rfl (by decide) (fun h sz => ?_)
  refine ei_aload_n dX1_init_0 rfl 0 rfl rfl ?_
  refine ei_obj (ev_in (by decide +kernel) rfl) dX1_init_1 (by decide) (by decide) rfl ?_
  refine ei_aload_n dX1_init_4 rfl 0 rfl rfl ?_
  refine ei_bipush dX1_init_5 rfl rfl ?_
  refine ei_newq (t0 := 3) (N := 6) (C2 := RX0) (ev_in (by decide +kernel) rfl) (fun U h => h.2.1.2.1) rfl (by decide) (by decide) (by decide) (by decide) (by decide) dX1_init_7 rfl (fun qa => ?_)
  refine ei_pf kok_16 rfl (ev_in (by decide +kernel) rfl) (k0 := 0) (by decide) rfl rfl rfl rfl (by simp) dX1_init_10 rfl (fs' := [.ref qa, .int 0, .int 0]) rfl ?_
  refine ei_aload_n dX1_init_13 rfl 0 rfl rfl (ei_iconst dX1_init_14 rfl rfl ?_)
  refine ei_pi kok_16 (ev_in (by decide +kernel) rfl) (k0 := 1) (by decide) rfl rfl rfl (by simp) dX1_init_15 rfl (fs' := [.ref qa, .int 0, .int 0]) rfl ?_
  refine ei_aload_n dX1_init_18 rfl 0 rfl rfl (ei_iconst dX1_init_19 rfl rfl ?_)
  refine ei_pi kok_16 (ev_in (by decide +kernel) rfl) (k0 := 2) (by decide) rfl rfl rfl (by simp) dX1_init_20 rfl (fs' := [.ref qa, .int 0, .int 0]) rfl ?_
  refine ei_iconst dX1_init_23 rfl rfl ?_
  refine ei_istore_n dX1_init_24 rfl (by decide) (lv' := [(1, .int 0), (0, .ref h)]) rfl rfl ?_
  have key : ∀ m i (ad : evAd) (S : evS) (cells slots : Nat) (F : Nat → Option Nat), i + m = 6 → cells = 1 + 14 * i → slots = 6 + 145 * i → (∀ j, j < i → F j = some (ad 1 (1 + j))) →
      eiAt G M_X1_init (eiRm 4 85 876) [(h, .inr (evC 16, [.null, .int 0, .int 0]))] sz (eiZ G 16 0 kPast [.null, .int 0, .int 0] InPa h sz 85 876) 25 [(1, .int (nI i)), (0, .ref h)] [] cells slots (((h, .inr (evC 16, [.ref qa, .int 0, .int 0])) :: (qa, .inl (evca G 3, 6, .inr (.inr (.inr (.inr F))))) :: []) ++ evwK (evca G) ad S (kPaN i)) := by
    intro m
    induction m with
    | zero =>
      intro i ad S cells slots F hi hc hs hF
      have hi4 : i = 6 := by omega
      subst hi4
      refine ei_iload_n dX1_init_25 rfl 0 rfl rfl (ei_bipush dX1_init_26 rfl rfl (ei_icmp_ge dX1_init_28 (tgt := 50) rfl rfl (fun _ => ?_) (fun hc => absurd ((nI_ge6 6 (by omega)).mpr (by omega)) hc)))
      refine ei_keyq (kd := 17) (x := 0) rfl rfl rfl (kPaN_c 6 (by omega)) (by decide +kernel) (fun _ _ e => absurd e (by decide)) (fun i hi => hF i hi) (fun ad1 S1 f1 e1 => ?_)
      refine ei_key (kd := 16) (x := 0) (fun _ => 0) rfl (KCl.b (by decide +kernel)) (by decide +kernel) (fun ad' S' z1 z2 => ?_) (fun ad2 S2 f2 e2 z2 => ?_)
      · show [Value.ref (ad' 17 0), Value.int (S'.1 16 0 1), Value.int (S'.1 16 0 2)] = _
        rw [z1 17 0 (fun z => absurd z.1 (by decide)), e1, z2]
      exact ei_ret rfl dX1_init_50 e2 ⟨by rw [z2], by rw [z2]⟩ (by omega) (by omega)
    | succ m ih =>
      intro i ad S cells slots F hi hc hs hF
      refine ei_iload_n dX1_init_25 rfl 0 rfl rfl (ei_bipush dX1_init_26 rfl rfl (ei_icmp_ge dX1_init_28 (tgt := 50) rfl rfl (fun hc => absurd ((nI_ge6 i (by omega)).mp hc) (by omega)) (fun _ => ?_)))
      refine ei_aload_n dX1_init_31 rfl 1 rfl rfl (ei_gf kok_16 (ev_in (by decide +kernel) rfl) (k0 := 0) (by decide) rfl dX1_init_32 rfl (ei_iload_n dX1_init_35 rfl 0 rfl rfl ?_))
      refine ei_make (i_fleet (1 + i) (by omega)) kok_1 (by decide) (ev_in (by decide +kernel) rfl) (ev_in (by decide +kernel) rfl) (ev_in (by decide +kernel) rfl) rfl rfl rfl (by decide +kernel) (Or.inl (ev_in (by decide +kernel) rfl)) (ev_in (by decide +kernel) rfl) (ev_in (by decide +kernel) rfl) dX1_init_36 dX1_init_39 dX1_init_40 (by decide) (by show cells + 1 + 13 ≤ 85; omega) (by show slots + 1 + 144 ≤ 876; omega) (by simp [Value.category]) (kPaN_c i (by omega)) (kFleet_c _ (by omega)) (kPaN_d i (by omega)) (fun S1 S' ha hI => hI.mv (by omega) ha) (kFleet_o _) rfl (fun q ad1 S1 f1 e1 hI => ?_)
      subst e1
      refine ei_astq kok_1 (List.mem_append_right _ (kFleet_o _)) rfl (by omega) (by decide) dX1_init_43 rfl ?_
      refine ei_iinc (q := 0) dX1_init_44 rfl (nI_s i (by omega)) (by decide) (lv' := [(1, .int (nI (i + 1))), (0, .ref h)]) rfl rfl (ei_goto dX1_init_47 (tgt := 25) rfl (ih (i + 1) ad1 S1 _ _ _ (by omega) (by omega) (by show slots + 1 + 144 = _; omega) (fun j hj => ?_)))
      by_cases hji : j = i
      · subst hji; simp [va_up]
      · have := (f1 1 (1 + j) (fun z => by have := kFleet_1 _ _ (by omega) (by omega) z; omega)).1
        simp only [va_up, if_neg hji]
        rw [this]
        exact hF j (by omega)
  exact key 6 0 _ _ 1 6 _ rfl rfl rfl (fun j hj => absurd hj (by omega))
