/-! CONSTRUCTORS of Fleet and Past -/
theorem InS.mv {x : Nat} {S S' : evS} (h4 : S'.1 4 x = S.1 4 x) (h5 : S'.1 5 x = S.1 5 x) (h : InS x S) : InS x S' := by
  intro k hk
  have := h k hk
  unfold shp at this ⊢
  rw [h4, h5]
  exact this
def kFlN (f : Nat) : Nat → List (Nat × Nat)
  | 0 => []
  | i + 1 => kFlN f i ++ kShip (4 * f + i)
def kFleet (f : Nat) : List (Nat × Nat) := kFlN f 4 ++ [(2, f)] ++ [(1, f)]
def InF (f : Nat) (S : evS) : Prop := ∀ i, i < 4 → InS (4 * f + i) S
theorem kFlN_c (f i : Nat) (hf : f < 9) (hi : i ≤ 4) : KCl (kFlN f i) := KCl.b ((show ∀ f : Fin 9, ∀ i : Fin 5, kclB (kFlN f.1 i.1) = true by decide +kernel) ⟨f, hf⟩ ⟨i, by omega⟩)
theorem kFlN_d (f i : Nat) (hf : f < 9) (hi : i < 4) : ∀ q ∈ kFlN f i, q ∉ kShip (4 * f + i) := dj_b ((show ∀ f : Fin 9, ∀ i : Fin 4, djB (kFlN f.1 i.1) (kShip (4 * f.1 + i.1)) = true by decide +kernel) ⟨f, hf⟩ ⟨i, by omega⟩)
theorem kFl2_c (f : Nat) (hf : f < 9) : KCl (kFlN f 4 ++ [(2, f)]) := kcl_n (f := fun f => kFlN f 4 ++ [(2, f)]) 9 (by decide +kernel) f hf
theorem kFleet_c (f : Nat) (hf : f < 9) : KCl (kFleet f) := kcl_n (f := kFleet) 9 (by decide +kernel) f hf
theorem kFl2_n (f : Nat) (hf : f < 9) : (2, f) ∉ kFlN f 4 := fun h => absurd ((show ∀ f : Fin 9, (kFlN f.1 4).contains (2, f.1) = false by decide +kernel) ⟨f, hf⟩) (by rw [List.contains_iff_mem.mpr h]; simp)
theorem kFl1_n (f : Nat) (hf : f < 9) : (1, f) ∉ kFlN f 4 ++ [(2, f)] := fun h => absurd ((show ∀ f : Fin 9, (kFlN f.1 4 ++ [(2, f.1)]).contains (1, f.1) = false by decide +kernel) ⟨f, hf⟩) (by rw [List.contains_iff_mem.mpr h]; simp)
theorem kShip_c (x : Nat) (hx : x < 37) : KCl (kShip x) := kcl_n (f := kShip) 37 (by decide +kernel) x hx
theorem mem_kShip {a b x : Nat} : (a, b) ∈ kShip x ↔ (a = 4 ∨ a = 5 ∨ a = 3) ∧ b = x := by
  simp [kShip]
  omega
theorem i_fleet {G : evG} (f : Nat) (hf : f < 9) : eiM G yX0_init M_X0_init 3 13 144 1 f (kFleet f) [.null] (InF f) := by
  refine eiM.of (by decide) rfl rfl (by decide) (fun h sz => ?_)
  refine ei_aload_n dX0_init_0 rfl 0 rfl rfl ?_
  refine ei_obj (ev_in (by decide +kernel) rfl) dX0_init_1 (by decide) (by decide) rfl ?_
  refine ei_aload_n dX0_init_4 rfl 0 rfl rfl ?_
  refine ei_iconst dX0_init_5 rfl rfl ?_
  refine ei_newq (t0 := 4) (N := 4) (C2 := RX3) (ev_in (by decide +kernel) rfl) (fun U h => h.2.1.1) rfl (by decide) (by decide) (by decide) (by decide) (by decide) dX0_init_6 rfl (fun qa => ?_)
  refine ei_pf kok_1 rfl (ev_in (by decide +kernel) rfl) (k0 := 0) (by decide) rfl rfl rfl rfl (by simp) dX0_init_9 rfl (fs' := [.ref qa]) rfl ?_
  refine ei_iconst dX0_init_12 rfl rfl ?_
  refine ei_istore_n dX0_init_13 rfl (by decide) (lv' := [(1, .int 0), (0, .ref h)]) rfl rfl ?_
  have key : ∀ m i (ad : evAd) (S : evS) (cells slots : Nat) (F : Nat → Option Nat), i + m = 4 → cells = 1 + 3 * i → slots = 4 + 35 * i → (∀ j, j < i → F j = some (ad 3 (4 * f + j))) → (∀ j, j < i → InS (4 * f + j) S) →
      eiAt G M_X0_init (eiRm 3 13 144) [(h, .inr (evC 1, [.null]))] sz (eiZ G 1 f (kFleet f) [.null] (InF f) h sz 13 144) 14 [(1, .int (nI i)), (0, .ref h)] [] cells slots (((h, .inr (evC 1, [.ref qa])) :: (qa, .inl (evca G 4, 4, .inr (.inr (.inr (.inr F))))) :: []) ++ evwK (evca G) ad S (kFlN f i)) := by
    intro m
    induction m with
    | zero =>
      intro i ad S cells slots F hi hc hs hF hS
      have hi4 : i = 4 := by omega
      subst hi4
      refine ei_iload_n dX0_init_14 rfl 0 rfl rfl (ei_iconst dX0_init_15 rfl rfl (ei_icmp_ge dX0_init_16 (tgt := 38) rfl rfl (fun _ => ?_) (fun hc => absurd ((nI_ge4 4 (by omega)).mpr (by omega)) hc)))
      refine ei_keyq (kd := 2) (x := f) rfl rfl rfl (kFlN_c f 4 hf (by omega)) (kFl2_n f hf) (fun _ _ e => absurd e (by decide)) (fun i hi => hF i hi) (fun ad1 S1 f1 e1 => ?_)
      refine ei_key (kd := 1) (x := f) (fun _ => 0) rfl (kFl2_c f hf) (kFl1_n f hf) (fun ad' S' z1 z2 => ?_) (fun ad2 S2 f2 e2 z2 => ?_)
      · show [Value.ref (ad' 2 f)] = _
        rw [z1 2 f (fun z => absurd z.1 (by decide)), e1]
      refine ei_ret rfl dX0_init_38 e2 (fun i hi => (hS i hi).mv ?_ ?_) (by omega) (by omega)
      · rw [(f2 4 _ (fun z => absurd z.1 (by decide))).2.1, (f1 4 _ (fun z => absurd z.1 (by decide))).2.1]
      · rw [(f2 5 _ (fun z => absurd z.1 (by decide))).2.1, (f1 5 _ (fun z => absurd z.1 (by decide))).2.1]
    | succ m ih =>
      intro i ad S cells slots F hi hc hs hF hS
      refine ei_iload_n dX0_init_14 rfl 0 rfl rfl (ei_iconst dX0_init_15 rfl rfl (ei_icmp_ge dX0_init_16 (tgt := 38) rfl rfl (fun hc => absurd ((nI_ge4 i (by omega)).mp hc) (by omega)) (fun _ => ?_)))
      refine ei_aload_n dX0_init_19 rfl 1 rfl rfl (ei_gf kok_1 (ev_in (by decide +kernel) rfl) (k0 := 0) (by decide) rfl dX0_init_20 rfl (ei_iload_n dX0_init_23 rfl 0 rfl rfl ?_))
      refine ei_make (i_ship (4 * f + i) (by omega)) kok_3 (by decide) (ev_in (by decide +kernel) rfl) (ev_in (by decide +kernel) rfl) (ev_in (by decide +kernel) rfl) rfl rfl rfl (by decide +kernel) (Or.inl (ev_in (by decide +kernel) rfl)) (ev_in (by decide +kernel) rfl) (ev_in (by decide +kernel) rfl) dX0_init_24 dX0_init_27 dX0_init_28 (by decide) (by show cells + 1 + 2 ≤ 13; omega) (by show slots + 2 + 33 ≤ 144; omega) (by simp [Value.category]) (kFlN_c f i hf (by omega)) (kShip_c _ (by omega)) (kFlN_d f i hf (by omega)) (fun S1 S' ha hI => hI.mv (ha 4 _ (mem_kShip.mpr ⟨by omega, rfl⟩)) (ha 5 _ (mem_kShip.mpr ⟨by omega, rfl⟩))) (mem_kShip.mpr ⟨by omega, rfl⟩) rfl (fun q ad1 S1 f1 e1 hI => ?_)
      subst e1
      refine ei_astq kok_3 (List.mem_append_right _ (mem_kShip.mpr ⟨by omega, rfl⟩)) rfl (by omega) (by decide) dX0_init_31 rfl ?_
      refine ei_iinc (q := 0) dX0_init_32 rfl (nI_s i (by omega)) (by decide) (lv' := [(1, .int (nI (i + 1))), (0, .ref h)]) rfl rfl (ei_goto dX0_init_35 (tgt := 14) rfl (ih (i + 1) ad1 S1 _ _ _ (by omega) (by omega) (by show slots + 2 + 33 = _; omega) (fun j hj => ?_) (fun j hj => ?_)))
      · by_cases hji : j = i
        · subst hji; simp [va_up]
        · have := (f1 3 (4 * f + j) (fun z => by have := (mem_kShip.mp z).2; omega)).1
          simp only [va_up, if_neg hji]
          rw [this]
          exact hF j (by omega)
      · by_cases hji : j = i
        · subst hji; exact hI
        · exact (hS j (by omega)).mv ((f1 4 _ (fun z => by have := (mem_kShip.mp z).2; omega)).2.1) ((f1 5 _ (fun z => by have := (mem_kShip.mp z).2; omega)).2.1)
  exact key 4 0 _ _ 1 4 _ rfl rfl rfl (fun j hj => absurd hj (by omega)) (fun j hj => absurd hj (by omega))
