theorem fue_p {D : Nat → Int} (t : WfT D) (t7 : D 7 ≤ D 8) {m s : Int} (hm : 1 ≤ m ∧ m ≤ 594) (hs : 0 < s ∧ s ≤ 10300) : 0 ≤ fue D m s ∧ fue D m s ≤ 603396 * s := by
  have hq : 0 ≤ m.tdiv (10 * s) := Int.tdiv_nonneg (by omega) (by omega)
  have hq2 : m.tdiv (10 * s) * (10 * s) ≤ m := by
    rw [Int.tdiv_eq_ediv_of_nonneg (by omega)]
    exact Int.ediv_mul_le m (by omega)
  have hq3 : m < (m.tdiv (10 * s) + 1) * (10 * s) := by
    rw [Int.tdiv_eq_ediv_of_nonneg (by omega)]
    exact Int.lt_ediv_add_one_mul_self m (by omega)
  have key : ∀ n : Nat, n < 3 → (n : Int) ≤ m.tdiv (10 * s) → (n < 2 → m.tdiv (10 * s) = n) → 0 ≤ D (5 + n) * 10 * s + (D (5 + (n + 1)) - D (5 + n)) * (m - 10 * (n : Int) * s) ∧ D (5 + n) * 10 * s + (D (5 + (n + 1)) - D (5 + n)) * (m - 10 * (n : Int) * s) ≤ 603396 * s := by
    intro n hn h1 h2
    have ta := t n (by omega)
    have tb := t (n + 1) (by omega)
    have e0 : (n : Int) * (10 * s) ≤ m := Int.le_trans (Int.mul_le_mul_of_nonneg_right h1 (by omega)) hq2
    have e1 : 10 * (n : Int) * s = (n : Int) * (10 * s) := by rw [Int.mul_comm 10 (n : Int), Int.mul_assoc]
    rw [e1]
    have a0 : 0 ≤ m - (n : Int) * (10 * s) := by omega
    have n0 : 0 ≤ (n : Int) * (10 * s) := Int.mul_nonneg (by omega) (by omega)
    have e2 : D (5 + n) * 10 * s = D (5 + n) * (10 * s) := Int.mul_assoc _ _ _
    rw [e2]
    have u1 := Int.mul_le_mul_of_nonneg_right (a := D (5 + n)) (b := 999) (c := 10 * s) (by omega) (by omega)
    have u2 := Int.mul_le_mul_of_nonneg_right (a := D (5 + (n + 1)) - D (5 + n)) (b := 999) (c := m - (n : Int) * (10 * s)) (by omega) a0
    have lo1 := Int.mul_nonneg (a := D (5 + n)) (b := 10 * s) (by omega) (by omega)
    refine ⟨?_, by omega⟩
    by_cases h : n < 2
    · have eq := h2 h
      rw [eq] at hq3
      have e3 : ((n : Int) + 1) * (10 * s) = (n : Int) * (10 * s) + 10 * s := by rw [Int.add_mul, Int.one_mul]
      rw [e3] at hq3
      have p1 := Int.mul_nonneg (a := D (5 + n)) (b := 10 * s - (m - (n : Int) * (10 * s))) (by omega) (by omega)
      have p2 := Int.mul_nonneg (a := D (5 + (n + 1))) (b := m - (n : Int) * (10 * s)) (by omega) a0
      rw [Int.mul_sub] at p1
      rw [Int.sub_mul]
      omega
    · obtain rfl : n = 2 := by omega
      have p2 := Int.mul_nonneg (a := D (5 + (2 + 1)) - D (5 + 2)) (b := m - ((2 : Nat) : Int) * (10 * s)) (by show 0 ≤ D 8 - D 7; omega) a0
      omega
  have hst : stp m s < 3 ∧ (stp m s : Int) ≤ m.tdiv (10 * s) ∧ (stp m s < 2 → m.tdiv (10 * s) = stp m s) := by
    unfold stp
    omega
  exact key (stp m s) hst.1 hst.2.1 hst.2.2
theorem cst_p {D : Nat → Int} {f l k : Nat} (w : WfP D f l) (t : WfT D) (t7 : D 7 ≤ D 8) (h1 : f ≤ k) (h2 : k < l) (hho : 0 < hoA D f l k) : 0 ≤ cst D f l k ∧ cst D f l k ≤ 5973620 := by
  obtain ⟨a1, a2, a3, a4, a5, a6, a7, a8, a9, a10, a11, a12⟩ := sBE w h1 h2
  have fp := fue_p t t7 (m := miA D f l k) (s := hoA D f l k) (by omega) (by omega)
  have wk := w.2.2.2.2.2.2.2.2 k h2
  unfold cst
  have p0 := Int.mul_nonneg (a := D (9 + 4 * k)) (b := fue D (miA D f l k) (hoA D f l k)) (by omega) (by omega)
  have p1 := Int.mul_le_mul_of_nonneg_right (a := D (9 + 4 * k)) (b := 99) (c := fue D (miA D f l k) (hoA D f l k)) (by omega) (by omega)
  rw [Int.tdiv_eq_ediv_of_nonneg p0]
  refine ⟨Int.ediv_nonneg p0 (by omega), ?_⟩
  have := Int.ediv_lt_of_lt_mul (a := D (9 + 4 * k) * fue D (miA D f l k) (hoA D f l k)) (b := 5973621) (c := 10 * hoA D f l k) (by omega) (by omega)
  omega
theorem csm_p {D : Nat → Int} {f l : Nat} (w : WfP D f l) (t : WfT D) (t7 : D 7 ≤ D 8) (hho : ∀ k, f ≤ k → k < l → 0 < hoA D f l k) : ∀ k, k ≤ l → 0 ≤ csm D f l k ∧ csm D f l k ≤ 5973620 * k := by
  intro k
  induction k with
  | zero => intro _; unfold csm; omega
  | succ k ih =>
    intro hk
    have i1 := ih (by omega)
    unfold csm
    by_cases h1 : f ≤ k
    · rw [if_pos h1]
      have := cst_p w t t7 h1 (by omega) (hho k h1 (by omega))
      omega
    · rw [if_neg h1]; omega
theorem csI_9 {D : Nat → Int} {f l : Nat} (w : WfP D f l) (t : WfT D) (t7 : D 7 ≤ D 8) (hs : 0 < pNeed D f l) : ¬ csI D f l = -9 := by
  have b := csm_p w t t7 (fun k k1 k2 => stand_ho w hs k1 k2) l (Nat.le_refl _)
  have l6 := w.2.2.2.1
  unfold csI
  rw [show (-9 : Int32) = iI (-9) from rfl, iI_eq (rg_of (A := 40000000) (by omega) (by omega)) (rg_of (A := 9) (by omega) (by omega))]
  omega
section C8d
variable {G : evG} {d : Nat} {S : evS}
theorem RepM.oth {A : Ab} {S S' : evS} (h : RepM A S) {T : List Nat} {U : List (Int × Int)} (hs : ∀ a c, RelM a c → a ≠ 36 → a ≠ 38 → ¬ (a = 30 ∧ (c = 6 ∨ c = 8)) → S'.1 a 0 c = S.1 a 0 c) (h1 : S'.1 30 0 6 = nI T.length ∧ ∀ j t, T[j]? = some t → S'.1 36 0 j = nI t) (h2 : S'.1 30 0 8 = nI U.length ∧ ∀ j p, U[j]? = some p → S'.1 38 0 (2 * j) = iI p.1 ∧ S'.1 38 0 (2 * j + 1) = iI p.2) : RepM (A.1, A.2.1, A.2.2.1, T, U) S' := by
  obtain ⟨c1, ⟨c2, c3⟩, c4, -, -⟩ := h
  have r31 := fun c => hs 31 c (by unfold RelM; omega) (by decide) (by decide) (by omega)
  have r32 := fun c => hs 32 c (by unfold RelM; omega) (by decide) (by decide) (by omega)
  have r34 := fun c => hs 34 c (by unfold RelM; omega) (by decide) (by decide) (by omega)
  have r35 := fun c => hs 35 c (by unfold RelM; omega) (by decide) (by decide) (by omega)
  exact ⟨c1.same (fun _ _ _ _ => r31 _), ⟨by rw [hs 30 2 (by unfold RelM; omega) (by decide) (by decide) (by omega)]; exact c2, fun j Q z => (c3 j Q z).same (fun _ _ _ _ => r32 _)⟩, fun m hm => ⟨fun z => by rw [r35]; exact (c4 m hm).1 z, fun Q z => ⟨by rw [r35]; exact ((c4 m hm).2 Q z).1, ((c4 m hm).2 Q z).2.same (fun _ _ _ _ => r34 _)⟩⟩, h1, h2⟩
theorem y_clear (hCl : evCl G) (hV : (30, 0) ∈ evKs G) {A : Ab} (h : RepM A S) (w : WfA A) : evSp G yX6_clear M_X6_clear (d + 1) [.ref (evad G 30 0)] S (mQ S (o_clear A)) := by
  refine vm_X6_clear (vb_X6_clear_0 hCl hV ?_)
  rintro v1 rfl S2 rfl
  refine ⟨h.2.2.2.1.1, h.oth (fun a c _ _ _ z => evup_c (by omega)) ⟨evup_at, fun j t z => by simp at z⟩ ⟨?_, fun j p z => ?_⟩, FrM.up (by omega)⟩
  · rw [evup_c (by omega)]; exact h.2.2.2.2.1
  · rw [evup_c (by omega), evup_c (by omega)]; exact h.2.2.2.2.2 j p z
theorem y_forget (hCl : evCl G) (hV : (30, 0) ∈ evKs G) {A : Ab} (h : RepM A S) (w : WfA A) : evSp G yX6_forget M_X6_forget (d + 1) [.ref (evad G 30 0)] S (mQ S (o_forget A)) := by
  refine vm_X6_forget (vb_X6_forget_0 hCl hV ?_)
  rintro v1 rfl S2 rfl
  refine ⟨h.2.2.2.2.1, h.oth (fun a c _ _ _ z => evup_c (by omega)) ⟨?_, fun j t z => ?_⟩ ⟨evup_at, fun j t z => by simp at z⟩, FrM.up (by omega)⟩
  · rw [evup_c (by omega)]; exact h.2.2.2.1.1
  · rw [evup_c (by omega)]; exact h.2.2.2.1.2 j t z
theorem nI_eqi {a b : Nat} (ha : a < 2147483648) (hb : b < 2147483648) : nI a = nI b ↔ a = b := by rw [iI_n, iI_n, iI_eq (rg_n ha) (rg_n hb)]; omega
theorem y_type (hCl : evCl G) (hV : (30, 0) ∈ evKs G) {A : Ab} (h : RepM A S) (w : WfA A) {t : Int32} : evSp G yX6_type M_X6_type (d + 1) [.ref (evad G 30 0), .int t] S (mQ S (o_type A t)) := by
  refine vm_X6_type (vb_X6_type_0 hCl hV ((m_in' (P := t < 0 ∨ ¬ t ≤ 255) hCl (by rw [nle_i])).mI ?_))
  rintro r1 S2 ⟨rfl, rfl⟩
  by_cases hp : t < 0 ∨ ¬ t ≤ 255
  · rw [if_pos hp, show o_type A t = (-1, A) from if_pos hp]
    exact ⟨fun z => absurd rfl z, fun _ => ⟨rfl, h, FrM.rf⟩⟩
  · rw [if_neg hp]
    have hl := w.2.2.2.1.1
    have t0 := t_lo (t := t) (a := 0) rfl ⟨by decide, by decide⟩ (fun z => hp (Or.inl z))
    unfold o_type
    rw [if_neg hp, h.2.2.2.1.1, show (150 : Int32) = nI 150 from rfl, nI_eqi (by omega) (by omega)]
    refine ⟨fun _ => ⟨fun hne => ?_, fun he => ?_⟩, fun z => absurd z (by decide)⟩
    · refine ⟨vp_in_nI (by omega) (by omega), ?_⟩
      rw [nI_clamp (by omega), if_neg (by omega)]
      rintro S4 rfl S5 rfl
      rw [evup_at, evup_c (by omega), h.2.2.2.1.1, inc_n (n := A.2.2.2.1.length) rfl]
      have e2 : (A.2.2.2.1 ++ [t.toNatClampNeg]).length = A.2.2.2.1.length + 1 := by rw [List.length_append]; rfl
      refine ⟨rfl, h.oth (fun a c _ z1 _ z => by rw [evup_c (by omega), evup_c (by omega)]) ⟨by rw [evup_at, e2], fun j u hj => ?_⟩ ⟨?_, fun j p z => ?_⟩, (FrM.up (by omega)).tr (FrM.up (by omega))⟩
      · rw [evup_c (by omega)]
        rcases Nat.lt_trichotomy j A.2.2.2.1.length with z | z | z
        · rw [evup_o (by omega)]
          rw [List.getElem?_append_left z] at hj
          exact h.2.2.2.1.2 j u hj
        · subst z
          rw [evup_at]
          rw [List.getElem?_append_right (Nat.le_refl _), Nat.sub_self] at hj
          simp only [List.getElem?_cons_zero, Option.some.injEq] at hj
          subst hj
          exact t_n t0
        · rw [List.getElem?_eq_none (by omega)] at hj
          exact absurd hj (by simp)
      · rw [evup_c (by omega), evup_c (by omega)]; exact h.2.2.2.2.1
      · rw [evup_c (by omega), evup_c (by omega), evup_c (by omega), evup_c (by omega)]; exact h.2.2.2.2.2 j p z
    · rw [if_pos (by omega)]
      exact ⟨rfl, h, FrM.rf⟩
theorem y_sees (hCl : evCl G) (hV : (30, 0) ∈ evKs G) {A : Ab} (h : RepM A S) (w : WfA A) {t m : Int32} : evSp G yX6_sees M_X6_sees (d + 1) [.ref (evad G 30 0), .int t, .int m] S (mQ S (o_sees A t m)) := by
  refine vm_X6_sees (vb_X6_sees_0 hCl hV ((m_in hCl).mI ?_))
  rintro r1 S2 ⟨rfl, rfl⟩
  by_cases hp : t < 0 ∨ 999 < t
  · rw [if_pos hp, show o_sees A t m = (-1, A) from if_pos (hp.elim Or.inl (fun z => Or.inr (Or.inl z)))]
    exact ⟨fun _ => ⟨rfl, h, FrM.rf⟩, fun z => absurd rfl z⟩
  · rw [if_neg hp]
    refine ⟨fun z => absurd z (by decide), fun _ => (m_in' (P := m < 0 ∨ ¬ m ≤ 999) hCl (by rw [nle_i])).mI ?_⟩
    rintro r3 S4 ⟨rfl, rfl⟩
    by_cases hq : m < 0 ∨ ¬ m ≤ 999
    · rw [if_pos hq, show o_sees A t m = (-1, A) from if_pos (Or.inr (Or.inr hq))]
      exact ⟨fun z => absurd rfl z, fun _ => ⟨rfl, h, FrM.rf⟩⟩
    · rw [if_neg hq]
      have hl := w.2.2.2.2.1
      unfold o_sees
      rw [if_neg (by
        rintro (z | z | z)
        · exact hp (Or.inl z)
        · exact hp (Or.inr z)
        · exact hq z), h.2.2.2.2.1, show (6 : Int32) = nI 6 from rfl, nI_eqi (by omega) (by omega)]
      refine ⟨fun _ => ⟨fun hne => ?_, fun he => ?_⟩, fun z => absurd z (by decide)⟩
      · rw [show (2 : Int32) * nI A.2.2.2.2.length = nI (2 * A.2.2.2.2.length) from by rw [show (2 : Int32) = nI 2 from rfl, iI_n, iI_n, iI_n, iI_mul]; rfl]
        refine ⟨vp_in_nI (by omega) (by omega), ?_⟩
        rw [nI_clamp (by omega), if_neg (by omega)]
        rintro S6 rfl
        rw [evup_c (by omega), h.2.2.2.2.1, show (2 : Int32) = nI 2 from rfl, show (1 : Int32) = nI 1 from rfl, mad_n]
        refine ⟨vp_in_nI (by omega) (by omega), ?_⟩
        rw [nI_clamp (by omega)]
        rintro S8 rfl S9 rfl
        rw [evup_at, evup_c (by omega), evup_c (by omega), h.2.2.2.2.1, add_n]
        have e2 : (A.2.2.2.2 ++ [(t.toInt, m.toInt)]).length = A.2.2.2.2.length + 1 := by rw [List.length_append]; rfl
        refine ⟨rfl, h.oth (fun a c _ _ z1 z => by rw [evup_c (by omega), evup_c (by omega), evup_c (by omega)]) ⟨?_, fun j u hj => ?_⟩ ⟨by rw [evup_at, e2], fun j p hj => ?_⟩, ((FrM.up (by omega)).tr (FrM.up (by omega))).tr (FrM.up (by omega))⟩
        · rw [evup_c (by omega), evup_c (by omega), evup_c (by omega)]; exact h.2.2.2.1.1
        · rw [evup_c (by omega), evup_c (by omega), evup_c (by omega)]; exact h.2.2.2.1.2 j u hj
        · rw [evup_c (kd := 30) (by omega), evup_c (kd := 30) (by omega)]
          rcases Nat.lt_trichotomy j A.2.2.2.2.length with z | z | z
          · rw [evup_o (by omega), evup_o (by omega), evup_o (by omega), evup_o (by omega)]
            rw [List.getElem?_append_left z] at hj
            exact h.2.2.2.2.2 j p hj
          · subst z
            rw [evup_o (by omega), evup_at, evup_at]
            rw [List.getElem?_append_right (Nat.le_refl _), Nat.sub_self] at hj
            simp only [List.getElem?_cons_zero, Option.some.injEq] at hj
            subst hj
            exact ⟨self_i t, self_i m⟩
          · rw [List.getElem?_eq_none (by omega)] at hj
            exact absurd hj (by simp)
      · rw [if_pos (by omega)]
        exact ⟨rfl, h, FrM.rf⟩
theorem m_legs_loop (hCl : evCl G) (hV : (30, 0) ∈ evKs G) {A : Ab} (h : RepM A S) : evSp G yX6_legsOfAll M_X6_legsOfAll (d + 1) [.ref (evad G 30 0)] S (evQI fun r S' => r = legsA A.1 ∧ S' = S) := by
  have st : ∀ i, i < 4 → ∀ l : Int32, bk_X6_legsOfAll_4 G d (evQI fun r S' => r = legsA A.1 ∧ S' = S) 0 (l + iI (A.1 i 0)) (nI (i + 1)) S → bk_X6_legsOfAll_4 G d (evQI fun r S' => r = legsA A.1 ∧ S' = S) 0 l (nI i) S := by
    intro i hi l hn
    refine vb_X6_legsOfAll_4 hCl hV ⟨fun z => absurd z (nI_ge (b := 4) (by omega) (by omega)), fun _ => (m_of' hCl hV h hi (k := 0) (by omega) rfl).mI ?_⟩
    rintro r S' ⟨rfl, rfl⟩
    rintro v3 rfl v4 hv
    rw [inc_n hv]
    exact hn
  refine vm_X6_legsOfAll (vb_X6_legsOfAll_0 hCl hV ?_)
  refine st 0 (by omega) 0 (st 1 (by omega) _ (st 2 (by omega) _ (st 3 (by omega) _ ?_)))
  exact vb_X6_legsOfAll_4 hCl hV ⟨fun _ => ⟨rfl, rfl⟩, fun z => absurd (by decide) z⟩
theorem y_count (hCl : evCl G) (hV : (30, 0) ∈ evKs G) {A : Ab} (h : RepM A S) (w : WfA A) {t : Int32} : evSp G yX6_count M_X6_count (d + 2) [.ref (evad G 30 0), .int t] S (mQ S (o_count A t)) := by
  have et : ∀ n : Nat, n < 4 → t.toInt = 0 + (n : Nat) → t = nI n := fun n hn e => by rw [self_i t, e, iI_n]; congr 1; omega
  refine vm_X6_count (vb_X6_count_0 hCl hV ⟨fun e => ?_, fun e => ?_, fun e => ?_, fun e => ?_, fun e => ?_⟩)
  · obtain rfl := et 0 (by omega) e
    refine (m_legs_loop (d := d) hCl hV h).mI ?_
    rintro r S' ⟨rfl, rfl⟩
    exact ⟨rfl, h, FrM.rf⟩
  · obtain rfl := et 1 (by omega) e
    exact ⟨h.2.2.2.2.1, h, FrM.rf⟩
  · obtain rfl := et 2 (by omega) e
    exact ⟨h.2.2.2.1.1, h, FrM.rf⟩
  · obtain rfl := et 3 (by omega) e
    exact ⟨h.2.1.1, h, FrM.rf⟩
  · unfold o_count
    rw [if_neg (by rintro rfl; revert e; decide), if_neg (by rintro rfl; revert e; decide), if_neg (by rintro rfl; revert e; decide), if_neg (by rintro rfl; revert e; decide)]
    exact ⟨rfl, h, FrM.rf⟩
theorem y_undo (hCl : evCl G) (hV : (30, 0) ∈ evKs G) {A : Ab} (h : RepM A S) (w : WfA A) : evSp G yX6_undo M_X6_undo (d + 1) [.ref (evad G 30 0)] S (mQ S (o_undo A)) := by
  obtain ⟨F, P, R⟩ := A
  obtain ⟨h1, ⟨h2, h3⟩, h4, ⟨h5, h6⟩, h7, h8⟩ := id h
  have hl : P.length ≤ 6 := w.2.1.1
  refine vm_X6_undo (vb_X6_undo_0 hCl hV ?_)
  rw [h2]
  cases P with
  | nil => exact ⟨fun z => absurd rfl z, fun _ => ⟨rfl, h, FrM.rf⟩⟩
  | cons Q P =>
    have hl' : P.length + 1 ≤ 6 := hl
    refine ⟨fun _ => ?_, fun z => ?_⟩
    · rintro S1 rfl
      have e1 : nI (Q :: P).length - 1 = nI P.length := dec_n (n := P.length) rfl
      rw [e1]
      have loop : ∀ n k (S2 : evS), k + n = 132 → Cpy (evup S 30 0 2 (nI P.length)) S2 31 0 32 (132 * P.length) k → bk_X6_undo_22 G (d + 1) (mQ S (o_undo (F, Q :: P, R))) 0 (nI k) S2 := by
        intro n
        induction n with
        | zero =>
          intro k S2 hk c
          obtain rfl : k = 132 := by omega
          have e2 : S2.1 30 0 2 = nI P.length := by rw [c.2.1 30 0 2 (by omega), evup_at]
          have oth : ∀ a b x, a ≠ 31 → ¬ (a = 30 ∧ x = 2) → S2.1 a b x = S.1 a b x := fun a b x z1 z2 => by rw [c.2.1 a b x (by omega), evup_c (by omega)]
          refine vb_X6_undo_22 hCl hV ⟨fun _ => ⟨e2, ?_, fun a b x hx => oth a b x (by omega) (by omega)⟩, fun z => absurd (by decide) z⟩
          refine ⟨fun i k hi hk => ?_, ⟨e2, fun j V hVj => ?_⟩, fun m hm => ⟨fun z => by rw [oth 35 _ _ (by decide) (by omega)]; exact (h4 m hm).1 z, fun Q z => ⟨by rw [oth 35 _ _ (by decide) (by omega)]; exact ((h4 m hm).2 Q z).1, ((h4 m hm).2 Q z).2.same (fun _ _ _ _ => oth 34 _ _ (by decide) (by omega))⟩⟩, ⟨by rw [oth 30 _ _ (by decide) (by omega)]; exact h5, fun j t z => by rw [oth 36 _ _ (by decide) (by omega)]; exact h6 j t z⟩, by rw [oth 30 _ _ (by decide) (by omega)]; exact h7, fun j p z => by rw [oth 38 _ _ (by decide) (by omega), oth 38 _ _ (by decide) (by omega)]; exact h8 j p z⟩
          · rw [c.1 _ (by omega), evup_c (by omega)]
            have := h3 0 Q rfl i k hi hk
            exact this
          · have hj : j < P.length := (List.getElem?_eq_some_iff.mp hVj).1
            have := h3 (j + 1) V (by rw [List.getElem?_cons_succ]; exact hVj)
            refine RwF.same (S := S) ?_ (fun _ _ _ _ => oth 32 _ _ (by decide) (by omega))
            have e : (Q :: P).length - 1 - (j + 1) = P.length - 1 - j := by rw [List.length_cons]; omega
            have t := this
            rw [show ((F, Q :: P, R) : Ab).2.1.length - 1 - (j + 1) = P.length - 1 - j from e] at t
            exact t
        | succ n ih =>
          intro k S2 hk c
          have e2 : S2.1 30 0 2 = nI P.length := by rw [c.2.1 30 0 2 (by omega), evup_at]
          refine vb_X6_undo_22 hCl hV ⟨fun z => absurd z (nI_ge (b := 132) (by omega) (by omega)), fun _ => ?_⟩
          rw [e2, show (132 : Int32) = nI 132 from rfl, mad_n]
          refine ⟨vp_in_nI (by omega) (by omega), vp_in_nI (by omega) (by omega), ?_⟩
          rw [nI_clamp (by omega), nI_clamp (by omega)]
          rintro S4 rfl v5 hv
          rw [inc_n hv]
          refine ih (k + 1) _ (by omega) ?_
          have := c.s (Or.inl (by decide))
          rw [Nat.zero_add] at this
          exact this
      exact loop 132 0 _ (by omega) Cpy.z
    · exfalso
      have z' : nI (P.length + 1) = nI 0 := z
      rw [nI_eqi (by omega) (by omega)] at z'
      omega
end C8d
