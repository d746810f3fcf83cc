/-! THE START: what the machine knows at the law's entry -/
theorem st_K {s : State} {args : Array Value} (hts : ∀ w ∈ evtb, w.before args s = true) : ∃ D : va_G, ∀ (c : Nat) (q : vw_C), vwCl[c]? = some q → u_Kn s q.1 q.2.1 q.2.2 (D.1 c) (D.2 c) := by
  have hk : ∀ kd : Nat, evKOk kd → Cond.instantiable (evQ kd).1 (evQ kd).2.2 ∈ evtb → ∃ (cC : ClassId) (iS : Nat → Nat), u_Kn s (evQ kd).1 (evQ kd).2.1 (evQ kd).2.2 cC iS := fun kd ok h => u_known hts ok.2.2.1 (hts _ h)
  have h : ∀ c : Nat, ∃ p : ClassId × (Nat → Nat), ∀ q : vw_C, vwCl[c]? = some q → u_Kn s q.1 q.2.1 q.2.2 p.1 p.2 := by
    have up : ∀ (c kd : Nat), vwCl[c]? = some (evQ kd) → (∃ (cC : ClassId) (iS : Nat → Nat), u_Kn s (evQ kd).1 (evQ kd).2.1 (evQ kd).2.2 cC iS) → ∃ p : ClassId × (Nat → Nat), ∀ q : vw_C, vwCl[c]? = some q → u_Kn s q.1 q.2.1 q.2.2 p.1 p.2 := by
      rintro c kd hc ⟨cC, iS, hu⟩
      refine ⟨(cC, iS), fun q hq => ?_⟩
      rw [hc] at hq
      cases hq
      exact hu
    intro c
    match c with
    | 0 => exact up 0 1 rfl (hk 1 kok_1 (ev_in (by decide +kernel) rfl))
    | 1 => exact up 1 16 rfl (hk 16 kok_16 (ev_in (by decide +kernel) rfl))
    | 2 => exact up 2 6 rfl (hk 6 kok_6 (ev_in (by decide +kernel) rfl))
    | 3 => exact up 3 3 rfl (hk 3 kok_3 (ev_in (by decide +kernel) rfl))
    | 4 => exact up 4 18 rfl (hk 18 kok_18 (ev_in (by decide +kernel) rfl))
    | 5 => exact up 5 0 rfl (hk 0 kok_0 (ev_in (by decide +kernel) rfl))
    | 6 => exact up 6 30 rfl (hk 30 kok_30 (ev_in (by decide +kernel) rfl))
    | n + 7 => exact ⟨(0, fun _ => 0), fun q hq => by
        have : vwCl[n + 7]? = none := List.getElem?_eq_none (by simp)
        rw [this] at hq
        cases hq⟩
  exact ⟨(fun c => (Classical.choose (h c)).1, fun c => (Classical.choose (h c)).2), fun c q hq => Classical.choose_spec (h c) q hq⟩
theorem st_p {s : State} {args : Array Value} {ty : FieldType} (hr : ∀ (U : State) (cA : ClassId), U.vm.findClass ("[" ++ ty.toString) = some cA → va_RA U cA ty) (h : (Cond.arrayClass ty).before args s = true) : ∃ cA : ClassId, ArrOfT s cA ty ∧ va_RA s cA ty := by
  obtain ⟨cA, kA, comp, h1, h2, h3⟩ := Cond.arrayClass_spec h
  exact ⟨cA, fun n z => ⟨fun k h => (by cases h), kA, h2, comp, h3⟩, hr s cA h1⟩
theorem st_o {s : State} {C : String} (h : va_AO C s) : ∃ cA : ClassId, ArrOfT s cA (.object C) ∧ va_RA s cA (.object C) := by
  obtain ⟨comp, cA, kA, h1, h2, h3, h4, h5⟩ := Cond.arrayOver_spec (args := #[]) (first := s) (o := none) (idx := []) h
  exact ⟨cA, fun n z => ⟨fun k h => (by cases h), kA, h3, comp, h4⟩, kA, comp, h3, h4, h1, h5⟩
theorem st_T9 {args : Array Value} {s : State} {A : Nat → Prop} {C n : String} {kd N : Nat} (hN : N < 2 ^ 31) (hlay : (Cond.laysStatic C n "[I").before args s = true) (hini : (Cond.initialized C).before args s = true) (harr : (Cond.arrayOf (.static C n "[I") .int).before args s = true) (hlen : (Cond.eq (.length (.static C n "[I")) (.int (Int32.ofNat N))).before args s = true) (hel : ∀ j : Nat, j < N → (Cond.eq (.elem (.static C n "[I") (.int (Int32.ofNat j))) (.int (evst kd j))).before args s = true) (hA : ∀ a : Nat, a < s.heap.size → ¬ A a) :
    ∃ t : Nat, va_Z C n "[I" (.ref t) A s s.heap ∧ va_T .int t N (fun j => .int (evst kd j)) A s s.heap := by
  obtain ⟨t, h1, h2⟩ := va_Tof (A := A) (f := fun j => .int (evst kd j)) hN harr (va_eqt hlen) (fun j hj => va_eqt (hel j hj)) hA
  exact ⟨t, va_Zref hlay hini h1 hA, h2⟩
theorem st_G {s : State} (l : Launch) {b L : Nat} {xs : Nat → Int32} (hL : L ≤ 2560) (hts : ∀ w ∈ lw_tbl, w.before #[Value.ref b] s = true) (hX : va_X b L xs s s.heap) (hgv : (Jvm.Cond.and given_1 narrow_1).before #[Value.ref b] s = true) :
    ∃ (D : va_G) (ca : Nat → ClassId) (ad : evAd), ad 60 0 = b ∧ evKI (l, D, ca, ad, [], L, xs) s ∧ evRA (l, D, ca, ad, [], L, xs) (va_A [] s.heap.size) s s.heap := by
  have hte : ∀ w ∈ evtb, w.before #[Value.ref b] s = true := fun w hw => hts w (List.mem_filter.mp hw).1
  have hA : ∀ a : Nat, a < s.heap.size → ¬ va_A [] s.heap.size a := by
    rintro a ha (⟨k, e, h⟩ | h)
    · cases h
    · omega
  have hs := flat_of_before _ hgv
  obtain ⟨D, hD⟩ := st_K hte
  obtain ⟨c0, i0⟩ := st_p (ty := .int) (fun U cA h => h) (hts _ (by decide +kernel))
  obtain ⟨c1, i1⟩ := st_p (ty := .long) (fun U cA h => h) (hts _ (by decide +kernel))
  obtain ⟨c2, i2⟩ := st_p (ty := .boolean) (fun U cA h => h) (hts _ (by decide +kernel))
  have a0 : va_AO RX0 s := va_AO.of (hts _ (by decide +kernel))
  have a3 : va_AO RX3 s := va_AO.of (hts _ (by decide +kernel))
  have a2 : va_AO RX2 s := va_AO.of (hts _ (by decide +kernel))
  obtain ⟨c3, i3⟩ := st_o a0
  obtain ⟨c4, i4⟩ := st_o a3
  obtain ⟨c5, i5⟩ := st_o a2
  have g9 : ∀ j : Fin 9, Cond.eq (.elem (.static RX3 "AT_FIRST" "[I") (.int (Int32.ofNat j.1))) (.int (evst 61 j.1)) ∈ flatC (Jvm.Cond.and given_1 narrow_1) := by decide +kernel
  have g4 : ∀ j : Fin 4, Cond.eq (.elem (.static RX4 "LEAST_OF_LEG" "[I") (.int (Int32.ofNat j.1))) (.int (evst 62 j.1)) ∈ flatC (Jvm.Cond.and given_1 narrow_1) := by decide +kernel
  have g5 : ∀ j : Fin 4, Cond.eq (.elem (.static RX4 "MOST_OF_LEG" "[I") (.int (Int32.ofNat j.1))) (.int (evst 63 j.1)) ∈ flatC (Jvm.Cond.and given_1 narrow_1) := by decide +kernel
  obtain ⟨t1, z1, y1⟩ := st_T9 (A := va_A [] s.heap.size) (C := RX3) (n := "AT_FIRST") (kd := 61) (N := 9) (by decide) (hts _ (by decide +kernel)) (hts _ (by decide +kernel)) (hs _ (by decide +kernel)) (hs _ (by decide +kernel)) (fun j hj => hs _ (g9 ⟨j, hj⟩)) hA
  obtain ⟨t2, z2, y2⟩ := st_T9 (A := va_A [] s.heap.size) (C := RX4) (n := "LEAST_OF_LEG") (kd := 62) (N := 4) (by decide) (hts _ (by decide +kernel)) (hts _ (by decide +kernel)) (hs _ (by decide +kernel)) (hs _ (by decide +kernel)) (fun j hj => hs _ (g4 ⟨j, hj⟩)) hA
  obtain ⟨t3, z3, y3⟩ := st_T9 (A := va_A [] s.heap.size) (C := RX4) (n := "MOST_OF_LEG") (kd := 63) (N := 4) (by decide) (hts _ (by decide +kernel)) (hts _ (by decide +kernel)) (hs _ (by decide +kernel)) (hs _ (by decide +kernel)) (fun j hj => hs _ (g5 ⟨j, hj⟩)) hA
  refine ⟨D, fun k => if k = 0 then c0 else if k = 1 then c1 else if k = 2 then c2 else if k = 3 then c3 else if k = 4 then c4 else c5, fun a _ => if a = 60 then b else if a = 61 then t1 else if a = 62 then t2 else t3, rfl, ⟨⟨⟨hD, fun k q hq => ?_⟩, va_Nw.of rfl (hts _ (by decide +kernel))⟩, ⟨a3, a0, a2⟩, va_Nw.of rfl (hts _ (by decide +kernel)), va_Nw.of rfl (hts _ (by decide +kernel))⟩, ?_, ⟨z1, y1⟩, ⟨z2, y2⟩, ⟨z3, y3⟩⟩
  · match k with
    | 0 => cases hq; exact i0
    | 1 => cases hq; exact i1
    | 2 => cases hq; exact i2
    | 3 => cases hq; exact i3
    | 4 => cases hq; exact i4
    | 5 => cases hq; exact i5
    | n + 6 => exact absurd hq (by rw [List.getElem?_eq_none (by simp [evtys])]; simp)
  · obtain ⟨scr, h1, h2, h3, h4, h5⟩ := hX
    refine ⟨scr, h1, h2, h3, Nat.le_of_eq h4.symm, by rw [h4], h5, hA b (Array.getElem?_eq_some_iff.mp h1).1⟩
