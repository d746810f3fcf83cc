section C7e
variable {G : evG} {d : Nat} {S : evS}
theorem k_text (hCl : evCl G) (hV : (0, 0) ∈ evKs G) : (18, 0) ∈ evKs G := hCl.1 0 0 4 18 hV rfl
theorem x_length (hCl : evCl G) (hV : (0, 0) ∈ evKs G) {A : Ab} (h : RepC A S) : evSp G yX4_length M_X4_length d [.ref (evad G 18 0)] S (evQI fun r S' => r = nI A.2.2.2.1.length ∧ S' = S) :=
  vm_X4_length (vb_X4_length_0 hCl (k_text hCl hV) ⟨h.2.2.2.1.1, rfl⟩)
theorem RepC.txt {A : Ab} {S S' : evS} (h : RepC A S) {T : List Nat} (hs : ∀ a b c, RelC a b c → a ≠ 18 → a ≠ 19 → S'.1 a b c = S.1 a b c) (h1 : S'.1 18 0 1 = nI T.length) (h2 : ∀ j t, T[j]? = some t → S'.1 19 0 j = nI t) : RepC (A.1, A.2.1, A.2.2.1, T, A.2.2.2.2) S' := by
  obtain ⟨c1, ⟨nx, c2, c3, c4, c5⟩, c6, ⟨c7, c8⟩, c9, c10⟩ := h
  have hsh : ∀ a b c, (a = 4 ∨ a = 5) ∧ b < 36 → S'.1 a b c = S.1 a b c := fun a b c z => hs a b c (by unfold RelC; omega) (by omega) (by omega)
  have r16 : ∀ b c, S'.1 16 b c = S.1 16 b c := fun b c => hs 16 b c (Or.inr (Or.inl rfl)) (by decide) (by decide)
  refine ⟨c1.same (by omega) hsh, ⟨nx, c2, by rw [r16]; exact c3, by rw [r16]; exact c4, fun j Q hQ => (c5 j Q hQ).same (by omega) hsh⟩, fun m hm => ⟨fun z => ?_, fun Q z => ⟨?_, ((c6 m hm).2 Q z).2.same (by omega) hsh⟩⟩, ⟨h1, h2⟩, ?_, fun j p z => ⟨?_, ?_⟩⟩
  · rw [hs 22 0 m (by unfold RelC; omega) (by decide) (by decide)]; exact (c6 m hm).1 z
  · rw [hs 22 0 m (by unfold RelC; omega) (by decide) (by decide)]; exact ((c6 m hm).2 Q z).1
  · rw [hs 0 0 10 (by unfold RelC; omega) (by decide) (by decide)]; exact c9
  · rw [hs 24 0 j (by unfold RelC; omega) (by decide) (by decide)]; exact (c10 j p z).1
  · rw [hs 25 0 j (by unfold RelC; omega) (by decide) (by decide)]; exact (c10 j p z).2
theorem RepC.sn {A : Ab} {S S' : evS} (h : RepC A S) {T : List (Int × Int)} (hs : ∀ a b c, RelC a b c → a ≠ 0 → a ≠ 24 → a ≠ 25 → S'.1 a b c = S.1 a b c) (h1 : S'.1 0 0 10 = nI T.length) (h2 : ∀ j p, T[j]? = some p → S'.1 24 0 j = iI p.1 ∧ S'.1 25 0 j = iI p.2) : RepC (A.1, A.2.1, A.2.2.1, A.2.2.2.1, T) S' := by
  obtain ⟨c1, ⟨nx, c2, c3, c4, c5⟩, c6, ⟨c7, c8⟩, c9, c10⟩ := h
  have hsh : ∀ a b c, (a = 4 ∨ a = 5) ∧ b < 36 → S'.1 a b c = S.1 a b c := fun a b c z => hs a b c (by unfold RelC; omega) (by omega) (by omega) (by omega)
  have r16 : ∀ b c, S'.1 16 b c = S.1 16 b c := fun b c => hs 16 b c (Or.inr (Or.inl rfl)) (by decide) (by decide) (by decide)
  refine ⟨c1.same (by omega) hsh, ⟨nx, c2, by rw [r16]; exact c3, by rw [r16]; exact c4, fun j Q hQ => (c5 j Q hQ).same (by omega) hsh⟩, fun m hm => ⟨fun z => ?_, fun Q z => ⟨?_, ((c6 m hm).2 Q z).2.same (by omega) hsh⟩⟩, ⟨?_, fun j t z => ?_⟩, h1, h2⟩
  · rw [hs 22 0 m (by unfold RelC; omega) (by decide) (by decide) (by decide)]; exact (c6 m hm).1 z
  · rw [hs 22 0 m (by unfold RelC; omega) (by decide) (by decide) (by decide)]; exact ((c6 m hm).2 Q z).1
  · rw [hs 18 0 1 (by unfold RelC; omega) (by decide) (by decide) (by decide)]; exact c7
  · rw [hs 19 0 j (by unfold RelC; omega) (by decide) (by decide) (by decide)]; exact c8 j t z
theorem x_empty (hCl : evCl G) (hV : (0, 0) ∈ evKs G) {A : Ab} (h : RepC A S) : evSp G yX4_becomeEmpty M_X4_becomeEmpty d [.ref (evad G 18 0)] S (evQV fun S' => RepC (A.1, A.2.1, A.2.2.1, [], A.2.2.2.2) S' ∧ FrC S S') := by
  refine vm_X4_becomeEmpty (vb_X4_becomeEmpty_0 hCl (k_text hCl hV) ?_)
  rintro S1 rfl
  exact ⟨h.txt (fun a b c _ z _ => evup_c (by rintro ⟨y, -⟩; exact z y)) evup_at (fun j t z => by simp at z), FrC.up (by omega)⟩
theorem x_clear (hCl : evCl G) (hV : (0, 0) ∈ evKs G) {A : Ab} (h : RepC A S) (w : WfA A) : evSp G yX5_clear M_X5_clear (d + 1) [.ref (evad G 0 0)] S (xQ S (o_clear A)) := by
  refine vm_X5_clear (vb_X5_clear_0 hCl hV ((x_length hCl hV h).mI ?_))
  rintro r S1 ⟨rfl, rfl⟩
  refine (x_empty hCl hV h).mV ?_
  rintro S2 ⟨h2, f2⟩
  exact ⟨rfl, h2, f2⟩
theorem x_type (hCl : evCl G) (hV : (0, 0) ∈ evKs G) {A : Ab} (h : RepC A S) (w : WfA A) {t : Int32} : evSp G yX5_type M_X5_type (d + 1) [.ref (evad G 0 0), .int t] S (xQ S (o_type A t)) := by
  refine vm_X5_type (vb_X5_type_0 hCl hV ⟨fun h1 => ?_, fun h1 => ⟨fun h2 => ?_, fun h2 => ?_⟩⟩)
  · rw [show o_type A t = (-1, A) from if_pos (Or.inl h1)]
    exact ⟨rfl, h, FrC.rf⟩
  · have t0 := t_lo (a := 0) rfl ⟨by decide, by decide⟩ h1
    have hl := w.2.2.2.1.1
    unfold o_type
    rw [if_neg (by rintro (z | z); exact h1 z; exact z h2)]
    refine vm_X4_takesLetter (vb_X4_takesLetter_0 hCl (k_text hCl hV) ?_)
    rw [h.2.2.2.1.1]
    refine ⟨fun hlt => ?_, fun hlt => ?_⟩
    · have hlt' : A.2.2.2.1.length < 150 := by
        rcases Nat.lt_or_ge A.2.2.2.1.length 150 with z | z
        · exact z
        · exact absurd hlt (nI_nlt (a := A.2.2.2.1.length) (b := 150) z (by omega))
      refine ⟨vp_in_nI hlt' (by omega), ?_⟩
      rw [nI_clamp (by omega), if_neg (by omega)]
      rintro S2 rfl S3 rfl
      rw [show (evup S 19 0 A.2.2.2.1.length t).1 18 0 1 = nI A.2.2.2.1.length from by rw [evup_c (by rintro ⟨z, -⟩; exact absurd z (by decide))]; exact h.2.2.2.1.1]
      have e1 : nI A.2.2.2.1.length + 1 = nI (A.2.2.2.1 ++ [t.toNatClampNeg]).length := by
        rw [iI_n, iI_1, iI_add, iI_n, List.length_append]
        rfl
      have e2 : (A.2.2.2.1 ++ [t.toNatClampNeg]).length = A.2.2.2.1.length + 1 := by rw [List.length_append]; rfl
      have hR : RepC (A.1, A.2.1, A.2.2.1, A.2.2.2.1 ++ [t.toNatClampNeg], A.2.2.2.2) (evup (evup S 19 0 A.2.2.2.1.length t) 18 0 1 (nI A.2.2.2.1.length + 1)) := by
        refine h.txt (fun a b c _ z y => ?_) ?_ (fun j u hj => ?_)
        · rw [evup_c (by rintro ⟨x, -⟩; exact z x), evup_c (by rintro ⟨x, -⟩; exact y x)]
        · rw [evup_at, e1]
        · rw [evup_c (by rintro ⟨x, -⟩; exact absurd x (by decide))]
          rcases Nat.lt_trichotomy j A.2.2.2.1.length with z | z | z
          · rw [evup_o (by omega)]
            rw [List.getElem?_append_left z] at hj
            exact h.2.2.2.1.2 j u hj
          · subst z
            rw [evup_at]
            rw [List.getElem?_append_right (Nat.le_refl _), Nat.sub_self] at hj
            simp only [List.getElem?_cons_zero, Option.some.injEq] at hj
            subst hj
            exact t_n t0
          · rw [List.getElem?_eq_none (by omega)] at hj
            exact absurd hj (by simp)
      refine ⟨fun z => absurd z (by decide), fun _ => (x_length hCl hV hR).mI ?_⟩
      rintro r3 S4 ⟨rfl, rfl⟩
      refine ⟨?_, hR, (FrC.up (by omega)).tr (FrC.up (by omega))⟩
      show nI (A.2.2.2.1 ++ [t.toNatClampNeg]).length = nI (A.2.2.2.1.length + 1)
      rw [e2]
    · have hge : 150 ≤ A.2.2.2.1.length := by
        rcases Nat.lt_or_ge A.2.2.2.1.length 150 with z | z
        · exact absurd (nI_lt (b := 150) z (by omega)) hlt
        · exact z
      rw [if_pos hge]
      exact ⟨fun _ => ⟨rfl, h, FrC.rf⟩, fun z => absurd rfl z⟩
  · rw [show o_type A t = (-1, A) from if_pos (Or.inr h2)]
    exact ⟨rfl, h, FrC.rf⟩
theorem x_sees (hCl : evCl G) (hV : (0, 0) ∈ evKs G) {A : Ab} (h : RepC A S) (w : WfA A) {t m : Int32} : evSp G yX5_sees M_X5_sees (d + 1) [.ref (evad G 0 0), .int t, .int m] S (xQ S (o_sees A t m)) := by
  refine vm_X5_sees (vb_X5_sees_0 hCl hV ⟨fun h1 => ?_, fun h1 => ⟨fun h2 => ?_, fun h2 => ⟨fun h3 => ?_, fun h3 => ⟨fun h4 => ?_, fun h4 => ?_⟩⟩⟩⟩)
  · rw [show o_sees A t m = (-1, A) from if_pos (Or.inl h1)]
    exact ⟨rfl, h, FrC.rf⟩
  · rw [show o_sees A t m = (-1, A) from if_pos (Or.inr (Or.inl h2))]
    exact ⟨rfl, h, FrC.rf⟩
  · rw [show o_sees A t m = (-1, A) from if_pos (Or.inr (Or.inr (Or.inl h3)))]
    exact ⟨rfl, h, FrC.rf⟩
  · have hl := w.2.2.2.2.1
    unfold o_sees
    rw [if_neg (by rintro (z | z | z | z); exact h1 z; exact h2 z; exact h3 z; exact z h4), h.2.2.2.2.1]
    refine ⟨fun hlt => ?_, fun hlt => ?_⟩
    · have hlt' : A.2.2.2.2.length < 6 := by
        rcases Nat.lt_or_ge A.2.2.2.2.length 6 with z | z
        · exact z
        · exact absurd hlt (nI_nlt (a := A.2.2.2.2.length) (b := 6) z (by omega))
      refine ⟨vp_in_nI hlt' (by omega), ?_⟩
      rw [nI_clamp (by omega), if_neg (by omega)]
      rintro S2 rfl
      rw [evup_c (by rintro ⟨z, -⟩; exact absurd z (by decide)), h.2.2.2.2.1]
      refine ⟨vp_in_nI hlt' (by omega), ?_⟩
      rw [nI_clamp (by omega)]
      rintro S4 rfl S5 rfl
      have e2 : (A.2.2.2.2 ++ [(t.toInt, m.toInt)]).length = A.2.2.2.2.length + 1 := by rw [List.length_append]; rfl
      rw [show (evup (evup S 24 0 A.2.2.2.2.length t) 25 0 A.2.2.2.2.length m).1 0 0 10 = nI A.2.2.2.2.length from by rw [evup_c (by rintro ⟨z, -⟩; exact absurd z (by decide)), evup_c (by rintro ⟨z, -⟩; exact absurd z (by decide))]; exact h.2.2.2.2.1]
      have e1 : nI A.2.2.2.2.length + 1 = nI (A.2.2.2.2.length + 1) := by
        rw [iI_n, iI_1, iI_add, iI_n]
        rfl
      rw [e1, evup_at]
      refine ⟨rfl, h.sn (fun a b c _ z y x => ?_) ?_ (fun j u hj => ?_), ((FrC.up (by omega)).tr (FrC.up (by omega))).tr (FrC.up (by omega))⟩
      · rw [evup_c (by rintro ⟨q, -⟩; exact z q), evup_c (by rintro ⟨q, -⟩; exact x q), evup_c (by rintro ⟨q, -⟩; exact y q)]
      · rw [evup_at, e2]
      · have f24 : (evup (evup (evup S 24 0 A.2.2.2.2.length t) 25 0 A.2.2.2.2.length m) 0 0 10 (nI (A.2.2.2.2.length + 1))).1 24 0 j = (evup S 24 0 A.2.2.2.2.length t).1 24 0 j := by
          rw [evup_c (by rintro ⟨x, -⟩; exact absurd x (by decide)), evup_c (by rintro ⟨x, -⟩; exact absurd x (by decide))]
        have f25 : (evup (evup (evup S 24 0 A.2.2.2.2.length t) 25 0 A.2.2.2.2.length m) 0 0 10 (nI (A.2.2.2.2.length + 1))).1 25 0 j = (evup (evup S 24 0 A.2.2.2.2.length t) 25 0 A.2.2.2.2.length m).1 25 0 j := by
          rw [evup_c (by rintro ⟨x, -⟩; exact absurd x (by decide))]
        rw [f24, f25]
        rcases Nat.lt_trichotomy j A.2.2.2.2.length with z | z | z
        · rw [evup_o (S := S) (by omega), evup_o (kd := 25) (by omega), evup_c (by rintro ⟨x, -⟩; exact absurd x (by decide))]
          rw [List.getElem?_append_left z] at hj
          exact h.2.2.2.2.2 j u hj
        · subst z
          rw [evup_at, evup_at]
          rw [List.getElem?_append_right (Nat.le_refl _), Nat.sub_self] at hj
          simp only [List.getElem?_cons_zero, Option.some.injEq] at hj
          subst hj
          exact ⟨self_i t, self_i m⟩
        · rw [List.getElem?_eq_none (by omega)] at hj
          exact absurd hj (by simp)
    · have hge : 6 ≤ A.2.2.2.2.length := by
        rcases Nat.lt_or_ge A.2.2.2.2.length 6 with z | z
        · exact absurd (nI_lt (b := 6) z (by omega)) hlt
        · exact z
      rw [if_pos hge]
      exact ⟨rfl, h, FrC.rf⟩
  · rw [show o_sees A t m = (-1, A) from if_pos (Or.inr (Or.inr (Or.inr h4)))]
    exact ⟨rfl, h, FrC.rf⟩
theorem x_forget (hCl : evCl G) (hV : (0, 0) ∈ evKs G) {A : Ab} (h : RepC A S) (w : WfA A) : evSp G yX5_forget M_X5_forget (d + 1) [.ref (evad G 0 0)] S (xQ S (o_forget A)) := by
  refine vm_X5_forget (vb_X5_forget_0 hCl hV ?_)
  rintro v1 rfl S2 rfl
  refine ⟨h.2.2.2.2.1, h.sn (fun a b c _ z y x => evup_c (by rintro ⟨q, -⟩; exact z q)) evup_at (fun j u hj => by simp at hj), FrC.up (by omega)⟩
theorem sumLegs_0 {F : Fl} {f : Nat} (h : FlC S f F) : sumLegs S f 4 = legsA F := by
  have e : ∀ n, n < 4 → S.1 4 (4 * f + n) 0 = iI (F n 0) := fun n hn => by
    have := h n 0 hn (by omega)
    unfold shp at this
    rw [if_pos (by omega)] at this
    exact this
  show (((0 + S.1 4 (4 * f + 0) 0) + S.1 4 (4 * f + 1) 0) + S.1 4 (4 * f + 2) 0) + S.1 4 (4 * f + 3) 0 = _
  rw [e 0 (by omega), e 1 (by omega), e 2 (by omega), e 3 (by omega)]
  rfl
theorem x_legs (hCl : evCl G) (hV : (0, 0) ∈ evKs G) {A : Ab} (h : RepC A S) : evSp G yX0_legsInAll M_X0_legsInAll (d + 1) [.ref (evad G 1 0)] S (evQI fun r S' => r = legsA A.1 ∧ S' = S) := by
  refine (c_legsInAll hCl (hCl.1 0 0 0 1 hV rfl)).mI ?_
  rintro r S' ⟨rfl, rfl⟩
  exact ⟨sumLegs_0 h.1, rfl⟩
theorem x_count (hCl : evCl G) (hV : (0, 0) ∈ evKs G) {A : Ab} (h : RepC A S) (w : WfA A) {t : Int32} : evSp G yX5_count M_X5_count (d + 2) [.ref (evad G 0 0), .int t] S (xQ S (o_count A t)) := by
  have et : ∀ n : Nat, n < 4 → t.toInt = 0 + (n : Nat) → t = nI n := fun n hn e => by rw [self_i t, e, iI_n]; congr 1; omega
  refine vm_X5_count (vb_X5_count_0 hCl hV ⟨fun e => ?_, fun e => ?_, fun e => ?_, fun e => ?_, fun e => ?_⟩)
  · obtain rfl := et 0 (by omega) e
    refine (x_legs (d := d) hCl hV h).mI ?_
    rintro r S' ⟨rfl, rfl⟩
    exact ⟨rfl, h, FrC.rf⟩
  · obtain rfl := et 1 (by omega) e
    exact ⟨h.2.2.2.2.1, h, FrC.rf⟩
  · obtain rfl := et 2 (by omega) e
    refine (x_length hCl hV h).mI ?_
    rintro r S' ⟨rfl, rfl⟩
    exact ⟨rfl, h, FrC.rf⟩
  · obtain rfl := et 3 (by omega) e
    refine (c_known hCl (hCl.1 0 0 1 16 hV rfl)).mI ?_
    rintro r S' ⟨rfl, rfl⟩
    obtain ⟨-, ⟨nx, h2, h3, h4, h5⟩, -⟩ := id h
    exact ⟨h4, h, FrC.rf⟩
  · unfold o_count
    rw [if_neg (by rintro rfl; revert e; decide), if_neg (by rintro rfl; revert e; decide), if_neg (by rintro rfl; revert e; decide), if_neg (by rintro rfl; revert e; decide)]
    exact ⟨rfl, h, FrC.rf⟩
theorem x_undo (hCl : evCl G) (hV : (0, 0) ∈ evKs G) {A : Ab} (h : RepC A S) (w : WfA A) : evSp G yX5_undo M_X5_undo (d + 4) [.ref (evad G 0 0)] S (xQ S (o_undo A)) := by
  obtain ⟨F, P, R⟩ := A
  obtain ⟨h1, ⟨nx, h2, h3, h4, h5⟩, h6, ⟨h7, h8⟩, h9, h10⟩ := id h
  have hl : P.length ≤ 6 := w.2.1.1
  refine vm_X5_undo (vb_X5_undo_0 hCl hV ((c_known hCl (hCl.1 0 0 1 16 hV rfl)).mI ?_))
  rintro r S' ⟨rfl, rfl⟩
  rw [h4]
  cases P with
  | nil => exact ⟨fun z => absurd rfl z, fun _ => ⟨rfl, h, FrC.rf⟩⟩
  | cons Q P =>
    have hl' : P.length + 1 ≤ 6 := hl
    refine ⟨fun _ => ?_, fun z => ?_⟩
    · refine (c_restore (d := d) hCl (hCl.1 0 0 1 16 hV rfl) (f1 := 0) (nx := nx) (kn := P.length) (hCl.1 0 0 0 1 hV rfl) h2 (by omega) (by omega) h3 h4).mV ?_
      rintro S3 ⟨b, c1, c2, c3⟩
      have keep : ∀ f F, f < 9 → 1 ≤ f → FlC S' f F → FlC S3 f F := by
        intro f F hf hne hF i k hi hk
        rw [← hF i k hi hk]
        unfold shp
        rw [b.1 4 _ _ (by rintro (⟨-, z⟩ | z) <;> omega), b.1 5 _ _ (by rintro (⟨-, z⟩ | z) <;> omega)]
      have oth : ∀ a bb c, a ≠ 4 → a ≠ 5 → a ≠ 16 → S3.1 a bb c = S'.1 a bb c := fun a bb c y1 y2 y3 => b.1 a bb c (by rintro (⟨z, -⟩ | z) <;> omega)
      have hR : RepC (Q, P, R) S3 := by
        refine ⟨fun i k hi hk => ?_, ⟨pastPrev nx, by unfold pastPrev; split <;> omega, c2, c3, fun j V hV' => ?_⟩, fun m hm => ⟨fun z => ?_, fun Q z => ⟨?_, keep _ _ (by omega) (by omega) ((h6 m hm).2 Q z).2⟩⟩, ⟨?_, fun j t z => ?_⟩, ?_, fun j p z => ?_⟩
        · rw [c1 i k hi hk]
          have := h5 0 Q rfl i k hi hk
          rw [show (nx + 5 - 0) % 6 = pastPrev nx from by unfold pastPrev; split <;> omega] at this
          exact this
        · have hj : j < P.length := (List.getElem?_eq_some_iff.mp hV').1
          have e : (pastPrev nx + 5 - j) % 6 = (nx + 5 - (j + 1)) % 6 := by unfold pastPrev; split <;> omega
          show FlC S3 (1 + (pastPrev nx + 5 - j) % 6) V
          rw [e]
          exact keep _ _ (by omega) (by omega) (h5 (j + 1) V (by rw [List.getElem?_cons_succ]; exact hV'))
        · rw [oth 22 0 m (by decide) (by decide) (by decide)]; exact (h6 m hm).1 z
        · rw [oth 22 0 m (by decide) (by decide) (by decide)]; exact ((h6 m hm).2 Q z).1
        · rw [oth 18 0 1 (by decide) (by decide) (by decide)]; exact h7
        · rw [oth 19 0 j (by decide) (by decide) (by decide)]; exact h8 j t z
        · rw [oth 0 0 10 (by decide) (by decide) (by decide)]; exact h9
        · rw [oth 24 0 j (by decide) (by decide) (by decide), oth 25 0 j (by decide) (by decide) (by decide)]; exact h10 j p z
      refine (c_known hCl (hCl.1 0 0 1 16 hV rfl)).mI ?_
      rintro r4 S5 ⟨rfl, rfl⟩
      exact ⟨c3, hR, ⟨fun a bb c q => oth a bb c (by omega) (by omega) (by omega), b.2⟩⟩
    · exfalso
      have z' : nI (P.length + 1) = 0 := z
      rw [iI_n, iI_0, iI_eq (rg_n (by omega)) (rg_of (A := 0) (by omega) (by omega))] at z'
      omega
theorem x_keep (hCl : evCl G) (hV : (0, 0) ∈ evKs G) {A : Ab} (h : RepC A S) (w : WfA A) {t : Int32} : evSp G yX5_keep M_X5_keep (d + 3) [.ref (evad G 0 0), .int t] S (xQ S (o_keep A t)) := by
  obtain ⟨h1, ⟨nx, h2, h3, h4, h5⟩, h6, ⟨h7, h8⟩, h9, h10⟩ := id h
  refine vm_X5_keep (vb_X5_keep_0 hCl hV ⟨fun e1 => ?_, fun e1 => ⟨fun e2 => ?_, fun e2 => ?_⟩⟩)
  · rw [show o_keep A t = (-1, A) from if_pos (Or.inl e1)]
    exact ⟨rfl, h, FrC.rf⟩
  · have t0 := t_lo (a := 0) rfl ⟨by decide, by decide⟩ e1
    have t2 := t_hs (a := 2) rfl ⟨by decide, by decide⟩ e2
    have tc := t_cl t0
    have tn := t_n t0
    unfold o_keep
    rw [if_neg (by rintro (z | z); exact e1 z; exact z e2)]
    generalize t.toNatClampNeg = m at *
    subst tn
    have hm : m < 2 := by omega
    refine ⟨vp_in_nI hm (by omega), ?_⟩
    have hI : (1, 7 + m) ∈ evKs G := hCl.2 21 0 m (hCl.1 0 0 2 21 hV rfl) rfl hm
    refine (c_fleetLike (d := d) hCl (f0 := 7 + m) (f1 := 0) hI (hCl.1 0 0 0 1 hV rfl) (by omega)).mV ?_
    rintro S2 ⟨b, c1⟩
    refine ⟨vp_in_nI hm (by omega), ?_⟩
    rintro S4 rfl
    have keep : ∀ f F, f < 9 → f ≠ 7 + m → FlC S f F → FlC (evup S2 22 0 m 1) f F := by
      intro f F hf hne hF i k hi hk
      rw [← hF i k hi hk]
      unfold shp
      rw [evup_c (by rintro ⟨z, -⟩; exact absurd z (by decide)), evup_c (by rintro ⟨z, -⟩; exact absurd z (by decide)), b.1 4 _ _ (by rintro ⟨-, z⟩; omega), b.1 5 _ _ (by rintro ⟨-, z⟩; omega)]
    have oth : ∀ a bb c, a ≠ 4 → a ≠ 5 → ¬ (a = 22 ∧ bb = 0 ∧ c = m) → (evup S2 22 0 m 1).1 a bb c = S.1 a bb c := fun a bb c y1 y2 y3 => by
      rw [evup_c y3, b.1 a bb c (by rintro ⟨z, -⟩; omega)]
    have hR : RepC (A.1, A.2.1, (fun k => if k = m then some A.1 else A.2.2.1 k), A.2.2.2) (evup S2 22 0 m 1) := by
      refine ⟨keep 0 _ (by omega) (by omega) h1, ⟨nx, h2, ?_, ?_, fun j Q hQ => keep _ _ (by omega) (by omega) (h5 j Q hQ)⟩, fun k hk => ⟨fun z => ?_, fun Q z => ?_⟩, ⟨?_, fun j t z => ?_⟩, ?_, fun j p z => ?_⟩
      · rw [oth 16 _ _ (by decide) (by decide) (by omega)]; exact h3
      · rw [oth 16 _ _ (by decide) (by decide) (by omega)]; exact h4
      · by_cases hkm : k = m
        · simp [hkm] at z
        · simp only [hkm, if_false] at z
          rw [oth 22 0 k (by decide) (by decide) (by omega)]
          exact (h6 k hk).1 z
      · by_cases hkm : k = m
        · subst hkm
          simp only [if_true, Option.some.injEq] at z
          subst z
          refine ⟨evup_at, fun i j hi hj => ?_⟩
          have := c1 i j hi hj
          have e0 := h1 i j hi hj
          rw [← e0, ← this]
          unfold shp
          rw [evup_c (by rintro ⟨z, -⟩; exact absurd z (by decide)), evup_c (by rintro ⟨z, -⟩; exact absurd z (by decide))]
        · simp only [hkm, if_false] at z
          exact ⟨by rw [oth 22 0 k (by decide) (by decide) (by omega)]; exact ((h6 k hk).2 Q z).1, keep _ _ (by omega) (by omega) ((h6 k hk).2 Q z).2⟩
      · rw [oth 18 0 1 (by decide) (by decide) (by omega)]; exact h7
      · rw [oth 19 0 j (by decide) (by decide) (by omega)]; exact h8 j t z
      · rw [oth 0 0 10 (by decide) (by decide) (by omega)]; exact h9
      · rw [oth 24 0 j (by decide) (by decide) (by omega), oth 25 0 j (by decide) (by decide) (by omega)]; exact h10 j p z
    refine (x_legs (d := d + 1) hCl hV hR).mI ?_
    rintro r5 S6 ⟨rfl, rfl⟩
    exact ⟨rfl, hR, ⟨fun a bb c q => oth a bb c (by omega) (by omega) (by omega), b.2⟩⟩
  · rw [show o_keep A t = (-1, A) from if_pos (Or.inr e2)]
    exact ⟨rfl, h, FrC.rf⟩
theorem x_back (hCl : evCl G) (hV : (0, 0) ∈ evKs G) {A : Ab} (h : RepC A S) (w : WfA A) {t : Int32} : evSp G yX5_back M_X5_back (d + 3) [.ref (evad G 0 0), .int t] S (xQ S (o_back A t)) := by
  obtain ⟨h1, ⟨nx, h2, h3, h4, h5⟩, h6, ⟨h7, h8⟩, h9, h10⟩ := id h
  refine vm_X5_back (vb_X5_back_0 hCl hV ⟨fun e1 => ?_, fun e1 => ⟨fun e2 => ?_, fun e2 => ?_⟩⟩)
  · rw [show o_back A t = (-1, A) from if_pos (Or.inl e1)]
    exact ⟨rfl, h, FrC.rf⟩
  · have t0 := t_lo (a := 0) rfl ⟨by decide, by decide⟩ e1
    have t2 := t_hs (a := 2) rfl ⟨by decide, by decide⟩ e2
    have tc := t_cl t0
    have tn := t_n t0
    unfold o_back
    rw [if_neg (by rintro (z | z); exact e1 z; exact z e2)]
    generalize t.toNatClampNeg = m at *
    subst tn
    have hm : m < 2 := by omega
    refine ⟨vp_in_nI hm (by omega), ?_⟩
    cases hQ : A.2.2.1 m with
    | none =>
      rw [(h6 m hm).1 hQ]
      exact ⟨fun z => absurd rfl z, fun _ => ⟨rfl, h, FrC.rf⟩⟩
    | some Q =>
      obtain ⟨k1, k2⟩ := (h6 m hm).2 Q hQ
      rw [k1]
      refine ⟨fun _ => ⟨vp_in_nI hm (by omega), ?_⟩, fun z => absurd z (by decide)⟩
      have hI : (1, 7 + m) ∈ evKs G := hCl.2 21 0 m (hCl.1 0 0 2 21 hV rfl) rfl hm
      refine (c_fleetLike (d := d) hCl (f0 := 0) (f1 := 7 + m) (hCl.1 0 0 0 1 hV rfl) hI (by omega)).mV ?_
      rintro S2 ⟨b, c1⟩
      refine (c_lose hCl (hCl.1 0 0 1 16 hV rfl)).mV ?_
      rintro S4 rfl
      have keep : ∀ f F, f < 9 → 1 ≤ f → FlC S f F → FlC (evup S2 16 0 2 0) f F := by
        intro f F hf hne hF i k hi hk
        rw [← hF i k hi hk]
        unfold shp
        rw [evup_c (by rintro ⟨z, -⟩; exact absurd z (by decide)), evup_c (by rintro ⟨z, -⟩; exact absurd z (by decide)), b.1 4 _ _ (by rintro ⟨-, z⟩; omega), b.1 5 _ _ (by rintro ⟨-, z⟩; omega)]
      have oth : ∀ a bb c, a ≠ 4 → a ≠ 5 → ¬ (a = 16 ∧ bb = 0 ∧ c = 2) → (evup S2 16 0 2 0).1 a bb c = S.1 a bb c := fun a bb c y1 y2 y3 => by
        rw [evup_c y3, b.1 a bb c (by rintro ⟨z, -⟩; omega)]
      have hR : RepC (Q, [], A.2.2) (evup S2 16 0 2 0) := by
        refine ⟨fun i j hi hj => ?_, ⟨nx, h2, ?_, evup_at, fun j Q hQ => by simp at hQ⟩, fun k hk => ⟨fun z => ?_, fun Q z => ⟨?_, keep _ _ (by omega) (by omega) ((h6 k hk).2 Q z).2⟩⟩, ⟨?_, fun j t z => ?_⟩, ?_, fun j p z => ?_⟩
        · rw [← k2 i j hi hj, ← c1 i j hi hj]
          unfold shp
          rw [evup_c (by rintro ⟨z, -⟩; exact absurd z (by decide)), evup_c (by rintro ⟨z, -⟩; exact absurd z (by decide))]
        · rw [oth 16 _ _ (by decide) (by decide) (by omega)]; exact h3
        · rw [oth 22 0 k (by decide) (by decide) (by omega)]; exact (h6 k hk).1 z
        · rw [oth 22 0 k (by decide) (by decide) (by omega)]; exact ((h6 k hk).2 Q z).1
        · rw [oth 18 0 1 (by decide) (by decide) (by omega)]; exact h7
        · rw [oth 19 0 j (by decide) (by decide) (by omega)]; exact h8 j t z
        · rw [oth 0 0 10 (by decide) (by decide) (by omega)]; exact h9
        · rw [oth 24 0 j (by decide) (by decide) (by omega), oth 25 0 j (by decide) (by decide) (by omega)]; exact h10 j p z
      refine (x_legs (d := d + 1) hCl hV hR).mI ?_
      rintro r5 S6 ⟨rfl, rfl⟩
      exact ⟨rfl, hR, ⟨fun a bb c q => oth a bb c (by omega) (by omega) (by omega), b.2⟩⟩
  · rw [show o_back A t = (-1, A) from if_pos (Or.inr e2)]
    exact ⟨rfl, h, FrC.rf⟩
end C7e
