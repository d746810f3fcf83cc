section C9c
variable {G : evG} {d : Nat} {S : evS}
theorem evup_18 {S : evS} {c c' : Nat} {v : Int32} (h : c ≠ c') : (evup S 18 0 c' v).1 18 0 c = S.1 18 0 c := evup_c (by omega)
theorem ShD.e18 {S : evS} {D : Nat → Int} (h : ShD S 36 D) {a c : Nat} {v : Int32} (ha : a ≠ 4 ∧ a ≠ 5) : ShD (evup S a 0 c v) 36 D := by
  intro k hk
  rw [← h k hk]
  unfold shp
  rw [evup_c (by omega), evup_c (by omega)]
theorem c_beginsItem (hCl : evCl G) (hV : (0, 0) ∈ evKs G) {A : Ab} {c g n : Nat} {v D : Nat → Int} {fa ta : Bool} (h : TkC A S 0 g v n fa ta D) (hD : 0 ≤ D 0 ∧ D 0 ≤ 6) (hc : c < 256) : evSp G yX4_beginsItem M_X4_beginsItem (d + 1) [.ref (evad G 18 0), .ref (evad G 3 36), .int (nI c)] S (evQI fun r S' => FrC S S' ∧ ((r = 0 ∧ RepC A S' ∧ ¬ mayB c fa ta D) ∨ (r = 1 ∧ mayB c fa ta D ∧ TkC A S' c 0 v n fa ta D))) := by
  obtain ⟨h1, h2, h3, h4, h5, h6, h7⟩ := id h
  have no : ¬ mayB c fa ta D → bk_X4_beginsItem_46 G d (evQI fun r S' => FrC S S' ∧ ((r = 0 ∧ RepC A S' ∧ ¬ mayB c fa ta D) ∨ (r = 1 ∧ mayB c fa ta D ∧ TkC A S' c 0 v n fa ta D))) 0 (nI c) S := by
    intro z
    exact vb_X4_beginsItem_46 hCl (k_text hCl hV) (vb_X4_beginsItem_47 hCl (k_text hCl hV) ⟨fun _ => ⟨Or.inl rfl, FrC.rf, Or.inl ⟨rfl, h1, z⟩⟩, fun y => absurd rfl y⟩)
  have yes : mayB c fa ta D → bk_X4_beginsItem_42 G d (evQI fun r S' => FrC S S' ∧ ((r = 0 ∧ RepC A S' ∧ ¬ mayB c fa ta D) ∨ (r = 1 ∧ mayB c fa ta D ∧ TkC A S' c 0 v n fa ta D))) 0 (nI c) S := by
    intro z
    refine vb_X4_beginsItem_42 hCl (k_text hCl hV) (vb_X4_beginsItem_47 hCl (k_text hCl hV) ⟨fun y => absurd y (by decide), fun _ => ?_⟩)
    rintro S2 rfl S3 rfl
    have t1 := h1.tk (kd := 18) (c := 2) (v := nI c) (Or.inl ⟨rfl, by omega⟩)
    have t2 := t1.1.tk (kd := 18) (c := 3) (v := 0) (Or.inl ⟨rfl, by omega⟩)
    refine ⟨Or.inr rfl, t1.2.tr t2.2, Or.inr ⟨rfl, z, t2.1, ?_, fun _ => ⟨evup_at, fun j hj => by omega⟩, ?_, ?_, ?_, (h7.e18 (by decide)).e18 (by decide)⟩⟩
    · rw [evup_18 (by omega), evup_at]
    · rw [evup_18 (by omega), evup_18 (by omega)]; exact h4
    · rw [evup_18 (by omega), evup_18 (by omega)]; exact h5
    · rw [evup_18 (by omega), evup_18 (by omega)]; exact h6
  have e : ∀ k : Nat, k < 256 → (nI c = nI k ↔ c = k) := fun k hk => nI_eqi (by omega) (by omega)
  have tab : (¬ (c = 108 ∧ D 0 < 6)) → (¬ (c = 118 ∧ fa = false)) → bk_X4_beginsItem_29 G d (evQI fun r S' => FrC S S' ∧ ((r = 0 ∧ RepC A S' ∧ ¬ mayB c fa ta D) ∨ (r = 1 ∧ mayB c fa ta D ∧ TkC A S' c 0 v n fa ta D))) 0 (nI c) S := by
    intro z1 z2
    refine vb_X4_beginsItem_29 hCl (k_text hCl hV) ?_
    rw [show (102 : Int32) = nI 102 from rfl, e 102 (by omega), h6]
    refine ⟨fun z => no (by rintro (y | y | y); exact z1 y; exact z2 y; exact z y.1), fun z => ⟨fun y => ?_, fun y => ?_⟩⟩
    · refine no ?_
      rintro (x | x | x)
      · exact z1 x
      · exact z2 x
      · apply y; rw [x.2]; rfl
    · refine yes (Or.inr (Or.inr ⟨z, ?_⟩))
      cases ta
      · rfl
      · exact absurd y (by decide)
  have fas : (¬ (c = 108 ∧ D 0 < 6)) → bk_X4_beginsItem_16 G d (evQI fun r S' => FrC S S' ∧ ((r = 0 ∧ RepC A S' ∧ ¬ mayB c fa ta D) ∨ (r = 1 ∧ mayB c fa ta D ∧ TkC A S' c 0 v n fa ta D))) 0 (nI c) S := by
    intro z1
    refine vb_X4_beginsItem_16 hCl (k_text hCl hV) ?_
    rw [show (118 : Int32) = nI 118 from rfl, e 118 (by omega), h5]
    refine ⟨fun z => tab z1 (fun y => z y.1), fun z => ⟨fun y => ?_, fun y => ?_⟩⟩
    · refine yes (Or.inr (Or.inl ⟨z, ?_⟩))
      cases fa
      · rfl
      · exact absurd y (by decide)
    · refine tab z1 ?_
      intro x
      apply y; rw [x.2]; rfl
  refine vm_X4_beginsItem (vb_X4_beginsItem_0 hCl (k_text hCl hV) (k_trial hCl hV) ?_)
  rw [show (108 : Int32) = nI 108 from rfl, e 108 (by omega)]
  refine ⟨fun z => fas (fun y => z y.1), fun z => (c_trait hCl (k_trial hCl hV) (j := 0) (by omega) rfl).mI ?_⟩
  rintro r1 S2 ⟨rfl, rfl⟩
  rw [h7.t (by omega), show (6 : Int32) = iI 6 from rfl, iI_lt (rg_of (A := 6) (by omega) (by omega)) (rg_of (A := 6) (by omega) (by omega))]
  exact ⟨fun y => yes (Or.inl ⟨z, y⟩), fun y => fas (fun x => y x.2)⟩
theorem ShD.upT {S : evS} {D : Nat → Int} {s j : Nat} {v : Int32} {z : Int} (h : ShD S s D) (hj : j < 9) (hv : v = iI z) : ShD (evup S 4 s j v) s (upI D j z) := by
  intro k hk
  by_cases e : k = j
  · subst e
    unfold shp
    rw [if_pos hj, evup_at, upI_at, hv]
  · rw [upI_o e, ← h k hk]
    unfold shp
    rw [evup_c (kd := 4) (by omega), evup_c (kd := 4) (by omega)]
theorem ShD.upL {S : evS} {D : Nat → Int} {s j : Nat} {v : Int32} {z : Int} (h : ShD S s D) (hj : j < 24) (hv : v = iI z) : ShD (evup S 5 s j v) s (upI D (9 + j) z) := by
  intro k hk
  by_cases e : k = 9 + j
  · subst e
    unfold shp
    rw [if_neg (by omega), show 9 + j - 9 = j by omega, evup_at, upI_at, hv]
  · rw [upI_o e, ← h k hk]
    unfold shp
    rw [evup_c (kd := 5) (by omega)]
    by_cases h9 : k < 9
    · rw [if_pos h9, if_pos h9]
    · rw [if_neg h9, if_neg h9, evup_c (kd := 5) (by omega)]
theorem c_endItem (hCl : evCl G) (hV : (0, 0) ∈ evKs G) {A : Ab} {it g n : Nat} {v D : Nat → Int} {fa ta : Bool} (h : TkC A S it g v n fa ta D) (hI : InV it g v D) (hD : 0 ≤ D 0 ∧ D 0 ≤ 6) (hi : ¬ it = 0) (hg : ¬ g < cnt it) : evSp G yX4_endItem M_X4_endItem (d + 2) [.ref (evad G 18 0), .ref (evad G 3 36)] S (evQV fun S' => FrC S S' ∧ TkC A S' 0 g v (n + 1) (fa || decide (it = 118)) (ta || decide (it = 102)) (endD it v D)) := by
  obtain ⟨h1, h2, h3, h4, h5, h6, h7⟩ := id h
  obtain ⟨h3, h3v⟩ := h3 hi
  have a3 := hI.2.2.1
  have hi3 : it = 108 ∨ it = 118 ∨ it = 102 := by have := hI.1; omega
  have fin : ∀ S' : evS, RepC A S' → FrC S S' → S'.1 18 0 5 = nI n → S'.1 18 0 6 = (if (fa || decide (it = 118)) = true then 1 else 0) → S'.1 18 0 7 = (if (ta || decide (it = 102)) = true then 1 else 0) → ShD S' 36 (endD it v D) → bk_X4_endItem_110 G (d + 1) (evQV fun S' => FrC S S' ∧ TkC A S' 0 g v (n + 1) (fa || decide (it = 118)) (ta || decide (it = 102)) (endD it v D)) 0 S' := by
    intro S' a1 a2 a5 a6 a7 a8
    refine vb_X4_endItem_110 hCl (k_text hCl hV) ?_
    rintro S1 rfl S2 rfl
    rw [evup_18 (by omega), a5, inc_n (n := n) rfl]
    have t1 := a1.tk (kd := 18) (c := 2) (v := 0) (Or.inl ⟨rfl, by omega⟩)
    have t2 := t1.1.tk (kd := 18) (c := 5) (v := nI (n + 1)) (Or.inl ⟨rfl, by omega⟩)
    refine ⟨(a2.tr t1.2).tr t2.2, t2.1, ?_, fun z => absurd rfl z, evup_at, ?_, ?_, (a8.e18 (by decide)).e18 (by decide)⟩
    · rw [evup_18 (by omega), evup_at]; rfl
    · rw [evup_18 (by omega), evup_18 (by omega)]; exact a6
    · rw [evup_18 (by omega), evup_18 (by omega)]; exact a7
  refine vm_X4_endItem (vb_X4_endItem_0 hCl (k_text hCl hV) (k_trial hCl hV) ?_)
  rw [h2]
  rcases hi3 with rfl | rfl | rfl
  · refine ⟨fun z => absurd rfl z, fun _ => (c_trait hCl (k_trial hCl hV) (j := 0) (by omega) rfl).mI ?_⟩
    rintro r3 S4 ⟨rfl, rfl⟩
    have hl := a3 rfl
    have e0 : D 0 = (nL D : Int) := by unfold nL; omega
    have n6 : nL D < 6 := by unfold nL; omega
    have c4 : cnt 108 = 4 := rfl
    rw [h7.t (by omega), e0, ← iI_n]
    have st : ∀ w (S' : evS) (D' : Nat → Int), w < 4 → RepC A S' → FrC S4 S' → (∀ a b c, a ≠ 5 → S'.1 a b c = S4.1 a b c) → ShD S' 36 D' → (∀ S2 : evS, RepC A S2 → FrC S4 S2 → (∀ a b c, a ≠ 5 → S2.1 a b c = S4.1 a b c) → ShD S2 36 (upI D' (9 + (4 * nL D + w)) (v w)) → bk_X4_endItem_17 G (d + 1) (evQV fun S' => FrC S4 S' ∧ TkC A S' 0 g v (n + 1) (fa || decide (108 = 118)) (ta || decide (108 = 102)) (endD 108 v D)) 0 36 (nI (nL D)) (nI (w + 1)) S2) → bk_X4_endItem_17 G (d + 1) (evQV fun S' => FrC S4 S' ∧ TkC A S' 0 g v (n + 1) (fa || decide (108 = 118)) (ta || decide (108 = 102)) (endD 108 v D)) 0 36 (nI (nL D)) (nI w) S' := by
      intro w S' D' hw a1 a2 a3 a4 k
      refine vb_X4_endItem_17 hCl (k_text hCl hV) (k_trial hCl hV) ⟨fun z => absurd z (nI_ge (b := 4) hw (by omega)), fun _ => ⟨vp_in_nI hw (by omega), ?_⟩⟩
      rw [nI_clamp (by omega), a3 20 0 w (by decide), h3v w (by omega)]
      refine (c_setOfLeg (d := d) hCl (k_trial hCl hV) (k := nL D) (w := w) n6 hw rfl rfl).mV ?_
      rintro S3 rfl
      intro v4 hv
      rw [inc_n hv]
      have t := a1.tup (a := 5) (j := 4 * nL D + w) (v := iI (v w)) (Or.inr rfl)
      exact k _ t.1 (a2.tr t.2) (fun a b c y => by rw [evup_c (by omega)]; exact a3 a b c y) (a4.upL (by omega) rfl)
    refine st 0 S4 D (by omega) h1 FrC.rf (fun _ _ _ _ => rfl) h7 (fun S1 b1 b2 b3 b4 => ?_)
    refine st 1 S1 _ (by omega) b1 b2 b3 b4 (fun S2 d1 d2 d3 d4 => ?_)
    refine st 2 S2 _ (by omega) d1 d2 d3 d4 (fun S3 e1 e2 e3 e4 => ?_)
    refine st 3 S3 _ (by omega) e1 e2 e3 e4 (fun S5 f1 f2 f3 f4 => ?_)
    refine vb_X4_endItem_17 hCl (k_text hCl hV) (k_trial hCl hV) ⟨fun _ => ?_, fun z => absurd (by decide) z⟩
    refine (c_setTrait hCl (k_trial hCl hV) (j := 0) (by omega) rfl).mV ?_
    rintro S6 rfl
    have t := f1.tup (a := 4) (j := 0) (v := nI (nL D) + 1) (Or.inl rfl)
    refine fin _ t.1 (f2.tr t.2) ?_ ?_ ?_ ?_
    · rw [evup_c (by omega), f3 18 0 5 (by decide)]; exact h4
    · rw [evup_c (by omega), f3 18 0 6 (by decide)]; simpa using h5
    · rw [evup_c (by omega), f3 18 0 7 (by decide)]; simpa using h6
    · have := f4.upT (j := 0) (v := nI (nL D) + 1) (z := D 0 + 1) (by omega) (by rw [e0, iI_n, iI_1, iI_add])
      unfold endD
      rw [if_pos rfl]
      exact this
  · refine ⟨fun _ => ⟨fun z => absurd rfl z, fun _ => ?_⟩, fun z => absurd z (by decide)⟩
    have c1 : cnt 118 = 1 := rfl
    rw [h3v 0 (by omega)]
    refine (c_setTrait hCl (k_trial hCl hV) (j := 1) (by omega) rfl).mV ?_
    rintro S1 rfl S2 rfl
    have t := h1.tup (a := 4) (j := 1) (v := iI (v 0)) (Or.inl rfl)
    have t2 := t.1.tk (kd := 18) (c := 6) (v := 1) (Or.inl ⟨rfl, by omega⟩)
    refine fin _ t2.1 (t.2.tr t2.2) ?_ ?_ ?_ ?_
    · rw [evup_18 (by omega), evup_c (by omega)]; exact h4
    · rw [evup_at]; simp
    · rw [evup_18 (by omega), evup_c (by omega)]; simpa using h6
    · unfold endD
      rw [if_neg (by decide), if_pos rfl]
      exact (h7.upT (by omega) rfl).e18 (by decide)
  · refine ⟨fun _ => ⟨fun _ => ?_, fun z => absurd z (by decide)⟩, fun z => absurd z (by decide)⟩
    have c4 : cnt 102 = 4 := rfl
    have st : ∀ w (S' : evS) (D' : Nat → Int), w < 4 → RepC A S' → FrC S S' → (∀ a b c, a ≠ 4 → S'.1 a b c = S.1 a b c) → ShD S' 36 D' → (∀ S2 : evS, RepC A S2 → FrC S S2 → (∀ a b c, a ≠ 4 → S2.1 a b c = S.1 a b c) → ShD S2 36 (upI D' (5 + w) (v w)) → bk_X4_endItem_81 G (d + 1) (evQV fun S' => FrC S S' ∧ TkC A S' 0 g v (n + 1) (fa || decide (102 = 118)) (ta || decide (102 = 102)) (endD 102 v D)) 0 36 (nI (w + 1)) S2) → bk_X4_endItem_81 G (d + 1) (evQV fun S' => FrC S S' ∧ TkC A S' 0 g v (n + 1) (fa || decide (102 = 118)) (ta || decide (102 = 102)) (endD 102 v D)) 0 36 (nI w) S' := by
      intro w S' D' hw a1 a2 a3 a4 k
      refine vb_X4_endItem_81 hCl (k_text hCl hV) (k_trial hCl hV) ⟨fun z => absurd z (nI_ge (b := 4) hw (by omega)), fun _ => ⟨vp_in_nI hw (by omega), ?_⟩⟩
      rw [nI_clamp (by omega), a3 20 0 w (by decide), h3v w (by omega), show (5 : Int32) = nI 5 from rfl, add_n]
      refine (c_setTrait hCl (k_trial hCl hV) (j := 5 + w) (by omega) rfl).mV ?_
      rintro S3 rfl
      intro v4 hv
      rw [inc_n hv]
      have t := a1.tup (a := 4) (j := 5 + w) (v := iI (v w)) (Or.inl rfl)
      exact k _ t.1 (a2.tr t.2) (fun a b c y => by rw [evup_c (by omega)]; exact a3 a b c y) (a4.upT (by omega) rfl)
    refine st 0 S D (by omega) h1 FrC.rf (fun _ _ _ _ => rfl) h7 (fun S1 b1 b2 b3 b4 => ?_)
    refine st 1 S1 _ (by omega) b1 b2 b3 b4 (fun S2 d1 d2 d3 d4 => ?_)
    refine st 2 S2 _ (by omega) d1 d2 d3 d4 (fun S3 e1 e2 e3 e4 => ?_)
    refine st 3 S3 _ (by omega) e1 e2 e3 e4 (fun S5 f1 f2 f3 f4 => ?_)
    refine vb_X4_endItem_81 hCl (k_text hCl hV) (k_trial hCl hV) ⟨fun _ => ?_, fun z => absurd (by decide) z⟩
    rintro S6 rfl
    have t2 := f1.tk (kd := 18) (c := 7) (v := 1) (Or.inl ⟨rfl, by omega⟩)
    refine fin _ t2.1 (f2.tr t2.2) ?_ ?_ ?_ ?_
    · rw [evup_18 (by omega), f3 18 0 5 (by decide)]; exact h4
    · rw [evup_18 (by omega), f3 18 0 6 (by decide)]; simpa using h5
    · rw [evup_at]; simp
    · unfold endD
      rw [if_neg (by decide), if_neg (by decide)]
      exact f4.e18 (by decide)
end C9c
