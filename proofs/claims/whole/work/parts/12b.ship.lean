/-! CONSTRUCTOR of Ship (WRITTEN BY genctor.py) -/
def kShip (x : Nat) : List (Nat × Nat) := [] ++ [(4, x)] ++ [(5, x)] ++ [(3, x)]
def InS (x : Nat) (S : evS) : Prop := ∀ k, k < 33 → shp S x k = iI (D0 k)
theorem i_ship {G : evG} (x : Nat) (hx : x < 37) : eiM G yX3_init M_X3_init 2 2 33 3 x (kShip x) [.null, .null] (InS x) := by
  refine eiM.of (by decide) rfl rfl (by decide) (fun h sz => ?_)
  refine ei_aload_n dX3_init_0 rfl 0 rfl rfl ?_
  refine ei_obj (ev_in (by decide +kernel) rfl) dX3_init_1 (by decide) (by decide) rfl ?_
  refine ei_aload_n dX3_init_4 rfl 0 rfl rfl ?_
  refine ei_bipush dX3_init_5 rfl rfl ?_
  refine ei_newI 4 x rfl rfl ⟨by decide, by decide⟩ (by decide) (by decide) (by decide) dX3_init_7 (KCl.b rfl) (by simp) rfl (fun q1 ad1 S1 f1 e1 z1 => ?_)
  refine ei_pf kok_3 rfl (ev_in (by decide +kernel) rfl) (k0 := 0) (by decide) rfl rfl rfl rfl (by simp) dX3_init_9 rfl (fs' := [.ref q1, .null]) rfl ?_
  refine ei_aload_n dX3_init_12 rfl 0 rfl rfl ?_
  refine ei_bipush dX3_init_13 rfl rfl ?_
  refine ei_newI 5 x rfl rfl ⟨by decide, by decide⟩ (by decide) (by decide) (by decide) dX3_init_15 (kcl_n (f := fun x => [] ++ [(4, x)]) 37 (by decide +kernel) x hx) (by simp) rfl (fun q2 ad2 S2 f2 e2 z2 => ?_)
  have g2_4_x : ad2 4 x = q1 := ((f2 4 x (fun z => absurd z.1 (by decide))).1).trans e1
  refine ei_pf kok_3 rfl (ev_in (by decide +kernel) rfl) (k0 := 1) (by decide) rfl rfl rfl rfl (by simp) dX3_init_17 rfl (fs' := [.ref q1, .ref q2]) rfl ?_
  refine ei_key (kd := 3) (x := x) (fun _ => 0) rfl (kcl_n (f := fun x => [] ++ [(4, x)] ++ [(5, x)]) 37 (by decide +kernel) x hx) (by simp) (fun ad' S' z1 z2 => ?_) (fun ad3 S3 f3 e3 z3 => ?_)
  · show [Value.ref (ad' 4 x), Value.ref (ad' 5 x)] = _
    rw [(z1 4 x (fun z => absurd z.1 (by decide))).trans g2_4_x, (z1 5 x (fun z => absurd z.1 (by decide))).trans e2]
  have kc : KCl (kShip x) := kcl_n (f := kShip) 37 (by decide +kernel) x hx
  refine ei_aload_n dX3_init_20 rfl 0 rfl rfl ?_
  refine ei_cv (kd := 3) (x := x) (As := []) (st := []) (n := 0) (d := 1) mv_X3_becomeNew (ev_in (by decide +kernel) rfl) kok_3 (by simp) rfl rfl dX3_init_21 (by rw [e3]; rfl) (by decide) (by decide) (by decide) kc (fun a b hab => ?_) (c_becomeNew (G := eiG G ad3 (kShip x)) (d := 0) kc (by show (3, x) ∈ kShip x; simp [kShip])) rfl (fun S9 hS => ?_)
  · simp at hab
    omega
  · exact ei_ret rfl dX3_init_24 e3 (fun k hk => (hS.2 k hk).trans (evst61 k hk)) rfl rfl
