section C8c
variable {G : evG} {d : Nat} {S : evS}
theorem y_plan (hCl : evCl G) (hV : (30, 0) ∈ evKs G) {A : Ab} (h : RepM A S) (w : WfA A) {i t : Int32} : evSp G yX6_plan M_X6_plan (d + 6) [.ref (evad G 30 0), .int i, .int t] S (mQ S (o_plan A i t)) := by
  refine vm_X6_plan (vb_X6_plan_0 hCl hV ((m_isShip (d := d + 4) hCl).mI ?_))
  rintro r S' ⟨rfl, rfl⟩
  rcases ship_cases i with hb | ⟨n, hn, rfl⟩
  · rw [if_pos hb, show o_plan A i t = (-1, A) from if_pos (Or.inl hb)]
    exact ⟨fun _ => ⟨rfl, h, FrM.rf⟩, fun z => absurd rfl z⟩
  · rw [if_neg (nbad hn)]
    refine ⟨fun z => absurd z (by decide), fun _ => (m_in' (P := t < 0 ∨ ¬ t ≤ 1) hCl (by rw [nle_i])).mI ?_⟩
    rintro r3 S4 ⟨rfl, rfl⟩
    have es : shN A (nI n) = A.1 n := by unfold shN; rw [pm_clamp hn]
    by_cases hp : t < 0 ∨ ¬ t ≤ 1
    · rw [if_pos hp, show o_plan A (nI n) t = (-1, A) from if_pos (Or.inr hp)]
      exact ⟨fun z => absurd rfl z, fun _ => ⟨rfl, h, FrM.rf⟩⟩
    · rw [if_neg hp]
      unfold o_plan
      rw [if_neg (by rintro (z | z); exact nbad hn z; exact hp z), es]
      refine ⟨fun _ => (m_plans' (d := d) hCl hV h w hn).mI ?_, fun z => absurd z (by decide)⟩
      rintro r5 S6 ⟨rfl, h6, f6, P6⟩
      have wp := (w.1 n hn).p
      by_cases hs : stN (A.1 n)
      · rw [if_pos hs, if_neg (not_not_intro hs)]
        refine ⟨fun _ => ⟨fun ht => ?_, fun ht => ?_⟩, fun z => absurd z (by decide)⟩
        · rw [if_neg ht]
          refine (m_costsAhead (d := d + 2) hCl hV wp (w.1 n hn).2.2.2.1 P6 hn (h6.rt w hn) (fun k k1 k2 => stand_ho wp hs.1 k1 k2)).mI ?_
          rintro r8 S9 ⟨rfl, rfl⟩
          exact ⟨rfl, h6, f6⟩
        · rw [if_pos ht]
          refine (m_stretches hCl hV wp P6).mI ?_
          rintro r8 S9 ⟨rfl, rfl⟩
          exact ⟨rfl, h6, f6⟩
      · rw [if_neg hs, if_pos hs]
        exact ⟨fun z => absurd rfl z, fun _ => ⟨rfl, h6, f6⟩⟩
theorem y_time (hCl : evCl G) (hV : (30, 0) ∈ evKs G) {A : Ab} (h : RepM A S) (w : WfA A) {i p t : Int32} : evSp G yX6_time M_X6_time (d + 6) [.ref (evad G 30 0), .int i, .int p, .int t] S (mQ S (o_time A i p t)) := by
  refine vm_X6_time (vb_X6_time_0 hCl hV ((m_isAhead (d := d + 3) hCl hV h w).mI ?_))
  rintro r S' ⟨rfl, rfl⟩
  by_cases hb : badI i ∨ ¬ ahead (shN A i) p
  · rw [if_pos hb, show o_time A i p t = (-1000000, A) from if_pos (hb.elim Or.inl (fun z => Or.inr (Or.inr (Or.inr z))))]
    exact ⟨fun _ => ⟨rfl, h, FrM.rf⟩, fun z => absurd rfl z⟩
  · rw [if_neg hb]
    refine ⟨fun z => absurd z (by decide), fun _ => (m_in hCl).mI ?_⟩
    rintro r3 S4 ⟨rfl, rfl⟩
    by_cases hp : t < 0 ∨ 1 < t
    · rw [if_pos hp, show o_time A i p t = (-1000000, A) from if_pos (Or.inr (hp.elim Or.inl (fun z => Or.inr (Or.inl z))))]
      exact ⟨fun z => absurd rfl z, fun _ => ⟨rfl, h, FrM.rf⟩⟩
    · rw [if_neg hp]
      rcases ship_cases i with hbi | ⟨n, hn, rfl⟩
      · exact absurd (Or.inl hbi) hb
      have es : shN A (nI n) = A.1 n := by unfold shN; rw [pm_clamp hn]
      have ha : ahead (A.1 n) p := Classical.byContradiction fun z => hb (Or.inr (by rw [es]; exact z))
      unfold o_time
      rw [if_neg (by
        rintro (z | z | z | z)
        · exact nbad hn z
        · exact hp (Or.inl z)
        · exact hp (Or.inr z)
        · rw [es] at z; exact z ha), es]
      obtain ⟨k, rfl, k1, k2, k6⟩ := ahead_k (w.1 n hn) ha
      have wp := (w.1 n hn).p
      refine ⟨fun _ => (m_plans' (d := d) hCl hV h w hn).mI ?_, fun z => absurd z (by decide)⟩
      rintro r5 S6 ⟨rfl, h6, f6, P6⟩
      by_cases hs : stN (A.1 n)
      · rw [if_pos hs, if_neg (not_not_intro hs), nI_clamp (by omega), Nat.add_sub_cancel]
        refine ⟨fun z => absurd z (by decide), fun _ => (m_timeTimes (d := d + 4) hCl hV wp P6 k1 k2).mL ?_⟩
        rintro r7 S8 ⟨rfl, rfl⟩
        refine (m_milesAt (d := d + 4) hCl hV wp P6 k1 k2).mL ?_
        rintro r9 S10 ⟨rfl, rfl⟩
        have b := sBE wp k1 k2
        refine (m_lowest (d := d + 4) hCl (tU_b wp k1 k2) (by omega)).mI ?_
        rintro r11 S12 ⟨rfl, rfl⟩
        exact ⟨rfl, h6, f6⟩
      · rw [if_neg hs, if_pos hs]
        exact ⟨fun _ => ⟨rfl, h6, f6⟩, fun z => absurd rfl z⟩
theorem y_speed (hCl : evCl G) (hV : (30, 0) ∈ evKs G) {A : Ab} (h : RepM A S) (w : WfA A) {i p t : Int32} : evSp G yX6_speed M_X6_speed (d + 6) [.ref (evad G 30 0), .int i, .int p, .int t] S (mQ S (o_speed A i p t)) := by
  refine vm_X6_speed (vb_X6_speed_0 hCl hV ((m_isAhead (d := d + 3) hCl hV h w).mI ?_))
  rintro r S' ⟨rfl, rfl⟩
  rcases ship_cases i with hbi | ⟨n, hn, rfl⟩
  · rw [if_pos (Or.inl hbi), show o_speed A i p t = (-1000000, A) from if_pos (Or.inl hbi)]
    exact ⟨fun _ => ⟨rfl, h, FrM.rf⟩, fun z => absurd rfl z⟩
  have es : shN A (nI n) = A.1 n := by unfold shN; rw [pm_clamp hn]
  by_cases ha : legAh (A.1 n) p
  · rw [if_neg (by
      rintro (z | z)
      · exact nbad hn z
      · rw [es] at z; exact z ((ahead_leg (w.1 n hn)).mpr ha))]
    refine ⟨fun z => absurd z (by decide), fun _ => (m_in hCl).mI ?_⟩
    rintro r3 S4 ⟨rfl, rfl⟩
    by_cases hp : t < 0 ∨ 1 < t
    · rw [if_pos hp, show o_speed A (nI n) p t = (-1000000, A) from if_pos (Or.inr (hp.elim Or.inl (fun z => Or.inr (Or.inl z))))]
      exact ⟨fun z => absurd rfl z, fun _ => ⟨rfl, h, FrM.rf⟩⟩
    · rw [if_neg hp]
      unfold o_speed
      rw [if_neg (by
        rintro (z | z | z | z)
        · exact nbad hn z
        · exact hp (Or.inl z)
        · exact hp (Or.inr z)
        · rw [es] at z; exact z ha), es]
      obtain ⟨k, rfl, k1, k2, k6⟩ := legAh_k (w.1 n hn) ha
      have wp := (w.1 n hn).p
      refine ⟨fun _ => (m_plans' (d := d) hCl hV h w hn).mI ?_, fun z => absurd z (by decide)⟩
      rintro r5 S6 ⟨rfl, h6, f6, P6⟩
      by_cases hs : stN (A.1 n)
      · rw [if_pos hs, if_neg (not_not_intro hs), nI_clamp (by omega)]
        refine ⟨fun _ => ?_, fun z => absurd z (by decide)⟩
        obtain ⟨b1, b2, b3, b4, b5, b6, b7, b8, b9, b10, b11, b12⟩ := sBE wp k1 k2
        have l6 := wp.2.2.2.1
        refine m_about hCl hV wp P6 k1 k2 ?_
        rintro r7 rfl
        refine m_about2 hCl hV wp P6 k1 k2 ?_
        rintro r9 rfl
        refine ⟨vp_in_nI (by omega) (by omega), vp_in_nI (by omega) (by omega), vp_in_nI (by omega) (by omega), vp_in_nI (by omega) (by omega), ?_⟩
        rw [nI_clamp (by omega), nI_clamp (by omega), P6.1.2.2.1 _ (by omega), P6.1.2.2.1 _ (by omega), (P6.2.1 _ (by omega) (by omega)).2 b8, (P6.2.1 _ (by omega) (by omega)).2 b7, iI_sub, lI_sub]
        have c := stand_ho wp hs.1 k1 k2
        have em : farD (A.1 n) (sE (A.1 n) (nF (A.1 n)) (nL (A.1 n)) k) - farD (A.1 n) (sB (A.1 n) (nF (A.1 n)) (nL (A.1 n)) k) = miA (A.1 n) (nF (A.1 n)) (nL (A.1 n)) k := rfl
        have eh : pH (A.1 n) (nF (A.1 n)) (nL (A.1 n)) (sE (A.1 n) (nF (A.1 n)) (nL (A.1 n)) k) - pH (A.1 n) (nF (A.1 n)) (nL (A.1 n)) (sB (A.1 n) (nF (A.1 n)) (nL (A.1 n)) k) = hoA (A.1 n) (nF (A.1 n)) (nL (A.1 n)) k := rfl
        rw [em, eh, iI_64 (rg_of (A := 594) (by omega) (by omega))]
        refine (m_lowest (d := d + 4) hCl (by omega) (by omega)).mI ?_
        rintro r11 S12 ⟨rfl, rfl⟩
        exact ⟨rfl, h6, f6⟩
      · rw [if_neg hs, if_pos hs]
        exact ⟨fun z => absurd rfl z, fun _ => ⟨rfl, h6, f6⟩⟩
  · have hna : badI (nI n) ∨ ¬ ahead (shN A (nI n)) (p + 1) := Or.inr (by rw [es]; exact fun z => ha ((ahead_leg (w.1 n hn)).mp z))
    rw [if_pos hna, show o_speed A (nI n) p t = (-1000000, A) from if_pos (Or.inr (Or.inr (Or.inr (by rw [es]; exact ha))))]
    exact ⟨fun _ => ⟨rfl, h, FrM.rf⟩, fun z => absurd rfl z⟩
theorem pM_3 {D : Nat → Int} {f l : Nat} (w : WfP D f l) {p : Nat} (h1 : f < p) (h2 : p < l) : 0 ≤ pM D f l p ∧ pM D f l p ≤ 2 := by
  have key : ∀ fu b mk hr, (∀ q, f < q → q < l → 0 ≤ mk q ∧ mk q ≤ 2) → ∀ q, f < q → q < l → 0 ≤ (spl (farD D) (lowD D f) (highD D f) l fu b mk hr).1 q ∧ (spl (farD D) (lowD D f) (highD D f) l fu b mk hr).1 q ≤ 2 := by
    intro fu
    induction fu with
    | zero => intro b mk hr h; exact h
    | succ fu ih =>
      intro b mk hr h
      unfold spl
      split
      · split
        · exact ih _ _ _ h
        · split
          · refine ih _ _ _ (fun q a1 a2 => ?_)
            unfold upI; split
            · omega
            · exact h q a1 a2
          · refine ih _ _ _ (fun q a1 a2 => ?_)
            unfold upI; split
            · omega
            · exact h q a1 a2
      · exact h
  refine key 14 f _ _ (fun q a1 a2 => ?_) p h1 h2
  unfold mk0
  rw [if_neg (by omega)]
  omega
theorem pM_l {D : Nat → Int} {f l : Nat} (w : WfP D f l) (h : f < l) : pM D f l l = 3 := by
  have key : ∀ fu b mk hr, f ≤ b → mk l = 3 → (spl (farD D) (lowD D f) (highD D f) l fu b mk hr).1 l = 3 := by
    intro fu
    induction fu with
    | zero => intro b mk hr _ h; exact h
    | succ fu ih =>
      intro b mk hr hb h
      unfold spl
      split
      · rename_i hbl
        have n1 := nxt_in (mk := mk) hbl
        have n2 := wrst_in (far := farD D) (low := lowD D f) (high := highD D f) (hr := hr) n1.1
        split
        · exact ih _ _ _ (by omega) h
        · split
          · refine ih _ _ _ hb ?_
            unfold upI; rw [if_neg (by omega)]; exact h
          · refine ih _ _ _ hb ?_
            unfold upI; rw [if_neg (by omega)]; exact h
      · exact h
  exact key 14 f _ _ (Nat.le_refl _) (by unfold mk0; rw [if_pos (Or.inr rfl)])
theorem y_closed (hCl : evCl G) (hV : (30, 0) ∈ evKs G) {A : Ab} (h : RepM A S) (w : WfA A) {i p : Int32} : evSp G yX6_closed M_X6_closed (d + 6) [.ref (evad G 30 0), .int i, .int p] S (mQ S (o_closed A i p)) := by
  refine vm_X6_closed (vb_X6_closed_0 hCl hV ((m_isAhead (d := d + 3) hCl hV h w).mI ?_))
  rintro r S' ⟨rfl, rfl⟩
  by_cases hb : badI i ∨ ¬ ahead (shN A i) p
  · rw [if_pos hb, show o_closed A i p = (-1, A) from if_pos hb]
    exact ⟨fun z => absurd rfl z, fun _ => ⟨rfl, h, FrM.rf⟩⟩
  · rw [if_neg hb]
    rcases ship_cases i with hbi | ⟨n, hn, rfl⟩
    · exact absurd (Or.inl hbi) hb
    have es : shN A (nI n) = A.1 n := by unfold shN; rw [pm_clamp hn]
    have ha : ahead (A.1 n) p := Classical.byContradiction fun z => hb (Or.inr (by rw [es]; exact z))
    unfold o_closed
    rw [if_neg hb, es]
    obtain ⟨k, rfl, k1, k2, k6⟩ := ahead_k (w.1 n hn) ha
    have wp := (w.1 n hn).p
    refine ⟨fun _ => (m_plans' (d := d) hCl hV h w hn).mI ?_, fun z => absurd z (by decide)⟩
    rintro r5 S6 ⟨rfl, h6, f6, P6⟩
    by_cases hs : stN (A.1 n)
    · rw [if_pos hs, if_neg (not_not_intro hs), nI_clamp (by omega)]
      refine ⟨fun _ => ⟨vp_in_nI (by omega) (by omega), ?_⟩, fun z => absurd z (by decide)⟩
      rw [(P6.2.1 (k + 1) (by omega) (by omega)).1]
      by_cases hl : k + 1 < nL (A.1 n)
      · have b := pM_3 wp (p := k + 1) (by omega) hl
        rw [if_pos hl, show (3 : Int32) = iI 3 from rfl, iI_eq (rg_of (A := 3) (by omega) (by omega)) (rg_of (A := 3) (by omega) (by omega))]
        exact ⟨fun _ => ⟨vp_in_nI (by omega) (by omega), rfl, h6, f6⟩, fun z => by omega⟩
      · have el : k + 1 = nL (A.1 n) := by omega
        rw [if_neg hl, el, pM_l wp (by omega)]
        exact ⟨fun z => absurd rfl z, fun _ => ⟨rfl, h6, f6⟩⟩
    · rw [if_neg hs, if_pos hs]
      exact ⟨fun z => absurd rfl z, fun _ => ⟨rfl, h6, f6⟩⟩
theorem y_cost (hCl : evCl G) (hV : (30, 0) ∈ evKs G) {A : Ab} (h : RepM A S) (w : WfA A) {i p : Int32} : evSp G yX6_cost M_X6_cost (d + 6) [.ref (evad G 30 0), .int i, .int p] S (mQ S (o_cost A i p)) := by
  refine vm_X6_cost (vb_X6_cost_0 hCl hV ((m_isAhead (d := d + 3) hCl hV h w).mI ?_))
  rintro r S' ⟨rfl, rfl⟩
  rcases ship_cases i with hbi | ⟨n, hn, rfl⟩
  · rw [if_pos (Or.inl hbi), show o_cost A i p = (-1, A) from if_pos (Or.inl hbi)]
    exact ⟨fun z => absurd rfl z, fun _ => ⟨rfl, h, FrM.rf⟩⟩
  have es : shN A (nI n) = A.1 n := by unfold shN; rw [pm_clamp hn]
  by_cases ha : legAh (A.1 n) p
  · rw [if_neg (by
      rintro (z | z)
      · exact nbad hn z
      · rw [es] at z; exact z ((ahead_leg (w.1 n hn)).mpr ha))]
    unfold o_cost
    rw [if_neg (by rintro (z | z); exact nbad hn z; rw [es] at z; exact z ha), es]
    obtain ⟨k, rfl, k1, k2, k6⟩ := legAh_k (w.1 n hn) ha
    have wp := (w.1 n hn).p
    refine ⟨fun _ => (m_plans' (d := d) hCl hV h w hn).mI ?_, fun z => absurd z (by decide)⟩
    rintro r5 S6 ⟨rfl, h6, f6, P6⟩
    by_cases hs : stN (A.1 n)
    · rw [if_pos hs, if_neg (not_not_intro hs), nI_clamp (by omega)]
      refine ⟨fun z => absurd z (by decide), fun _ => (m_costOf (d := d + 3) hCl hV wp (w.1 n hn).2.2.2.1 P6 hn (h6.rt w hn) k1 k2 (stand_ho wp hs.1 k1 k2)).mI ?_⟩
      rintro r7 S8 ⟨rfl, rfl⟩
      exact ⟨rfl, h6, f6⟩
    · rw [if_neg hs, if_pos hs]
      exact ⟨fun _ => ⟨rfl, h6, f6⟩, fun z => absurd rfl z⟩
  · have hna : badI (nI n) ∨ ¬ ahead (shN A (nI n)) (p + 1) := Or.inr (by rw [es]; exact fun z => ha ((ahead_leg (w.1 n hn)).mp z))
    rw [if_pos hna, show o_cost A (nI n) p = (-1, A) from if_pos (Or.inr (by rw [es]; exact ha))]
    exact ⟨fun z => absurd rfl z, fun _ => ⟨rfl, h, FrM.rf⟩⟩
theorem y_needs (hCl : evCl G) (hV : (30, 0) ∈ evKs G) {A : Ab} (h : RepM A S) (w : WfA A) {i : Int32} : evSp G yX6_needs M_X6_needs (d + 5) [.ref (evad G 30 0), .int i] S (mQ S (o_needs A i)) := by
  refine vm_X6_needs (vb_X6_needs_0 hCl hV ((m_isShip (d := d + 3) hCl).mI ?_))
  rintro r S' ⟨rfl, rfl⟩
  rcases ship_cases i with hb | ⟨n, hn, rfl⟩
  · rw [if_pos hb, show o_needs A i = (-1, A) from if_pos hb]
    exact ⟨fun z => absurd rfl z, fun _ => ⟨rfl, h, FrM.rf⟩⟩
  · rw [if_neg (nbad hn)]
    have es : shN A (nI n) = A.1 n := by unfold shN; rw [pm_clamp hn]
    unfold o_needs
    rw [if_neg (nbad hn), es]
    have wp := (w.1 n hn).p
    refine ⟨fun _ => (m_lays (d := d) hCl hV wp hn (port := 0) (side := 0) (held := 0) (by omega) (by omega) (h.rd w hn) rfl rfl rfl rfl).mV ?_, fun z => absurd z (by decide)⟩
    rintro S3 ⟨b3, P3⟩
    refine (m_fastNeeded (d := d + 3) hCl hV wp P3).mI ?_
    rintro r4 S5 ⟨rfl, rfl⟩
    exact ⟨rfl, (h.lay b3).1, (h.lay b3).2⟩
theorem m_mile' (hCl : evCl G) (hV : (30, 0) ∈ evKs G) {A : Ab} (h : RepM A S) (w : WfA A) {n : Nat} (hn : n < 4) {t : Int32} {z : Int} (ht : t = iI z) (hz : 0 ≤ z ∧ z ≤ 999) : evSp G yX6_mileOf M_X6_mileOf (d + 6) [.ref (evad G 30 0), .int (nI n), .int t] S (evQI fun r S' => r = mlA A n z ∧ RepM A S' ∧ FrM S S' ∧ evBm S S' ofLays) := by
  refine (m_mileOf (d := d) hCl hV (w.1 n hn).p hn (h.rd w hn) (h.rt w hn) hz rfl ht).mI ?_
  rintro r S' ⟨rfl, b⟩
  exact ⟨rfl, (h.lay b).1, (h.lay b).2, b⟩
theorem y_mile (hCl : evCl G) (hV : (30, 0) ∈ evKs G) {A : Ab} (h : RepM A S) (w : WfA A) {i t : Int32} : evSp G yX6_mile M_X6_mile (d + 7) [.ref (evad G 30 0), .int i, .int t] S (mQ S (o_mile A i t)) := by
  refine vm_X6_mile (vb_X6_mile_0 hCl hV ((m_isShip (d := d + 5) hCl).mI ?_))
  rintro r S' ⟨rfl, rfl⟩
  rcases ship_cases i with hb | ⟨n, hn, rfl⟩
  · rw [if_pos hb, show o_mile A i t = (-1, A) from if_pos (Or.inl hb)]
    exact ⟨fun _ => ⟨rfl, h, FrM.rf⟩, fun z => absurd rfl z⟩
  · rw [if_neg (nbad hn)]
    refine ⟨fun z => absurd z (by decide), fun _ => (m_in' (P := t < 0 ∨ ¬ t ≤ 999) hCl (by rw [nle_i])).mI ?_⟩
    rintro r3 S4 ⟨rfl, rfl⟩
    have es : shN A (nI n) = A.1 n := by unfold shN; rw [pm_clamp hn]
    by_cases hp : t < 0 ∨ ¬ t ≤ 999
    · rw [if_pos hp, show o_mile A (nI n) t = (-1, A) from if_pos (Or.inr hp)]
      exact ⟨fun _ => ⟨rfl, h, FrM.rf⟩, fun z => absurd rfl z⟩
    · rw [if_neg hp]
      have t0 := t_lo (t := t) (a := 0) rfl ⟨by decide, by decide⟩ (fun z => hp (Or.inl z))
      have t9 := t_hi (t := t) (a := 999) rfl ⟨by decide, by decide⟩ (Classical.byContradiction fun z => hp (Or.inr z))
      unfold o_mile
      rw [if_neg (by rintro (z | z); exact nbad hn z; exact hp z), es]
      refine ⟨fun z => absurd z (by decide), fun _ => (m_mile' (d := d) hCl hV h w hn (self_i t) ⟨t0, t9⟩).mI ?_⟩
      rintro r5 S6 ⟨rfl, h6, f6, -⟩
      exact ⟨rfl, h6, f6⟩
theorem MPln.same {S S' : evS} {i : Nat} {D : Nat → Int} {f l : Nat} (h : MPln S i D f l) (hb : evBm S S' ofRem) : MPln S' i D f l := by
  have r30 := fun c (hc : c ≠ 2) => hb.1 30 0 c (by unfold ofRem; omega)
  have r49 := fun c => hb.1 49 0 c (by unfold ofRem; omega)
  have r50 := fun c => hb.1 50 0 c (by unfold ofRem; omega)
  have r51 := fun c => hb.1 51 0 c (by unfold ofRem; omega)
  have r52 := fun c => hb.1 52 0 c (by unfold ofRem; omega)
  have r53 := fun c => hb.1 53 0 c (by unfold ofRem; omega)
  have r54 := fun c => hb.2 54 0 c (by unfold ofRem; omega)
  unfold MPln MlC MlM at *
  rw [r30 15 (by omega), r30 16 (by omega), r30 17 (by omega)]
  simp only [r49, r50, r51, r52, r53, r54]
  exact h
theorem y_sails (hCl : evCl G) (hV : (30, 0) ∈ evKs G) {A : Ab} (h : RepM A S) (w : WfA A) {i : Int32} : evSp G yX6_sails M_X6_sails (d + 6) [.ref (evad G 30 0), .int i] S (mQ S (o_sails A i)) := by
  refine vm_X6_sails (vb_X6_sails_0 hCl hV ((m_isShip (d := d + 4) hCl).mI ?_))
  rintro r S' ⟨rfl, rfl⟩
  rcases ship_cases i with hb | ⟨n, hn, rfl⟩
  · rw [if_pos hb, show o_sails A i = (-1, A) from if_pos hb]
    exact ⟨fun z => absurd rfl z, fun _ => ⟨rfl, h, FrM.rf⟩⟩
  · rw [if_neg (nbad hn)]
    have es : shN A (nI n) = A.1 n := by unfold shN; rw [pm_clamp hn]
    unfold o_sails
    rw [if_neg (nbad hn), es, pm_clamp hn]
    have wp := (w.1 n hn).p
    refine ⟨fun _ => (m_plans' (d := d) hCl hV h w hn).mI ?_, fun z => absurd z (by decide)⟩
    rintro r3 S4 ⟨rfl, h4, f4, P4⟩
    by_cases hs : stN (A.1 n)
    · rw [if_pos hs, if_neg (not_not_intro hs)]
      refine ⟨fun _ => (m_rem (d := d + 4) hCl hV h4 w).mV ?_, fun z => absurd z (by decide)⟩
      rintro S5 ⟨h5, f5, b5⟩
      have P5 := P4.same b5
      have w1 := (w.1 n hn).1
      have hfl : nF (A.1 n) < nL (A.1 n) := by
        rcases Nat.lt_or_ge (nF (A.1 n)) (nL (A.1 n)) with z | z
        · exact z
        · exfalso
          have e : nF (A.1 n) = nL (A.1 n) := by unfold nF nL at *; omega
          have h0 := hs.1
          unfold pNeed pN at h0
          rw [e] at h0
          have : (mea (farD (A.1 n)) (nL (A.1 n)) (pM (A.1 n) (nL (A.1 n)) (nL (A.1 n))) (pH (A.1 n) (nL (A.1 n)) (nL (A.1 n))) 7 (nL (A.1 n)) 0 1 0) = (0, 1, 0) := by unfold mea; rw [if_neg (by omega)]
          rw [this] at h0
          revert h0
          decide
      have l6 : nL (A.1 n) ≤ 6 := by unfold nL; omega
      intro v6 hv6
      rw [P5.1.1] at hv6
      rw [inc_n hv6]
      refine (m_milesAt (d := d + 4) hCl hV wp P5 (Nat.le_refl _) hfl).mL ?_
      rintro r7 S8 ⟨rfl, rfl⟩
      refine (m_timeTimes (d := d + 4) hCl hV wp P5 (Nat.le_refl _) hfl).mL ?_
      rintro r9 S10 ⟨rfl, rfl⟩
      have b := sBE wp (Nat.le_refl _) hfl
      have tb := tU_b wp (Nat.le_refl _) hfl
      have mi1 : 1 ≤ miA (A.1 n) (nF (A.1 n)) (nL (A.1 n)) (nF (A.1 n)) ∧ miA (A.1 n) (nF (A.1 n)) (nL (A.1 n)) (nF (A.1 n)) ≤ 594 := by omega
      refine ⟨?_, ?_⟩
      · rw [lI_0, lI_eq (rgl_of (A := 594) (by omega) (by omega)) (rgl_of (A := 594) (by omega) (by omega))]; omega
      · intro v12 hv12 v13 hv13
        rw [show (33 : Int32) = nI 33 from rfl, show nI 33 * nI n = nI (33 * n) from by rw [iI_n, iI_n, iI_n, iI_mul]; rfl] at hv13
        subst hv13
        rw [show nI (33 * n) + 4 = nI (33 * n + 4) from add_n, show nI (33 * n) + 2 = nI (33 * n + 2) from add_n, show nI (33 * n) + 3 = nI (33 * n + 3) from add_n]
        refine ⟨vp_in_nI (by omega) (by omega), ?_⟩
        rw [P5.1.1]
        refine (m_costOf (d := d + 3) hCl hV wp (w.1 n hn).2.2.2.1 P5 hn ((h4.rt w hn).bm b5 (by unfold ofRem; intro b c; omega)) (Nat.le_refl _) hfl (stand_ho wp hs.1 (Nat.le_refl _) hfl)).mI ?_
        rintro r15 S16 ⟨rfl, rfl⟩
        refine ⟨vp_in_nI (by omega) (by omega), ?_⟩
        rw [nI_clamp (by omega), h5.at hn (by omega), iI_add]
        rintro S18 rfl
        refine ⟨vp_in_nI (by omega) (by omega), ?_⟩
        rw [nI_clamp (by omega)]
        rintro S20 rfl
        rw [dec_n (n := nF (A.1 n)) rfl]
        have h20 := (h5.setR hn (j := 4) (by omega) (rfl : iI (A.1 n 4 + cst (A.1 n) (nF (A.1 n)) (nL (A.1 n)) (nF (A.1 n))) = _)).setR hn (j := 2) (by omega) (show nI (nF (A.1 n) + 1) = iI ((nF (A.1 n) : Int) + 1) from by rw [iI_n]; rfl)
        refine (m_leg' (d := d + 4) hCl hV h20 hn (k := nF (A.1 n)) (w := 1) (by omega) (by omega) rfl rfl).mI ?_
        rintro r21 S22 ⟨rfl, rfl⟩
        refine ⟨vp_in_nI (by omega) (by omega), ?_⟩
        rw [nI_clamp (by omega)]
        have e12 : v12 = iI (-((-tU (A.1 n) (nF (A.1 n)) (nL (A.1 n)) (nF (A.1 n))) / miA (A.1 n) (nF (A.1 n)) (nL (A.1 n)) (nF (A.1 n)))) := by
          have st := sail_t wp hfl hs.1
          rw [hv12, show (1 : Int64) = lI 1 from rfl, lI_add, lI_sub, lI_div (rgl_of (A := 3000000000) (by omega) (by omega)) (rgl_of (A := 594) (by omega) (by omega)), lI_32, ceil_eq (by omega), Int.tdiv_eq_ediv_of_nonneg (by omega)]
        have eL : updF (updF A.1 n 4 (A.1 n 4 + cst (A.1 n) (nF (A.1 n)) (nL (A.1 n)) (nF (A.1 n)))) n 2 ((nF (A.1 n) : Int) + 1) n (9 + (4 * nF (A.1 n) + 1)) = A.1 n (9 + (4 * nF (A.1 n) + 1)) := by
          rw [updF_i, updF_i, upI_o (by omega), upI_o (by omega)]
        have eV : v12 + iI (updF (updF A.1 n 4 (A.1 n 4 + cst (A.1 n) (nF (A.1 n)) (nL (A.1 n)) (nF (A.1 n)))) n 2 ((nF (A.1 n) : Int) + 1) n (9 + (4 * nF (A.1 n) + 1))) = iI (-((-tU (A.1 n) (nF (A.1 n)) (nL (A.1 n)) (nF (A.1 n))) / miA (A.1 n) (nF (A.1 n)) (nL (A.1 n)) (nF (A.1 n))) + A.1 n (9 + (4 * nF (A.1 n) + 1))) := by
          rw [eL, e12, iI_add]
        rintro S24 rfl
        refine ⟨vp_in_nI (by omega) (by omega), ?_⟩
        have h24 := h20.setR hn (j := 3) (by omega) eV
        rw [evup_at]
        refine ⟨eV, ?_, (((f4.tr f5).tr (FrM.up (by omega))).tr (FrM.up (by omega))).tr (FrM.up (by omega))⟩
        have eF : updF (updF (updF A.1 n 4 (A.1 n 4 + cst (A.1 n) (nF (A.1 n)) (nL (A.1 n)) (nF (A.1 n)))) n 2 ((nF (A.1 n) : Int) + 1)) n 3 (-((-tU (A.1 n) (nF (A.1 n)) (nL (A.1 n)) (nF (A.1 n))) / miA (A.1 n) (nF (A.1 n)) (nL (A.1 n)) (nF (A.1 n))) + A.1 n (9 + (4 * nF (A.1 n) + 1))) = updF (updF (updF A.1 n 2 ((nF (A.1 n) : Int) + 1)) n 3 (-((-tU (A.1 n) (nF (A.1 n)) (nL (A.1 n)) (nF (A.1 n))) / miA (A.1 n) (nF (A.1 n)) (nL (A.1 n)) (nF (A.1 n))) + A.1 n (9 + (4 * nF (A.1 n) + 1)))) n 4 (A.1 n 4 + cst (A.1 n) (nF (A.1 n)) (nL (A.1 n)) (nF (A.1 n))) := by
          funext a b
          simp only [updF]
          by_cases e3 : a = n ∧ b = 3
          · rw [if_pos e3, if_neg (by omega), if_pos e3]
          · rw [if_neg e3]
            by_cases e2 : a = n ∧ b = 2
            · rw [if_pos e2, if_neg (by omega), if_neg (by omega), if_pos e2]
            · rw [if_neg e2]
              by_cases e4 : a = n ∧ b = 4
              · rw [if_pos e4, if_pos e4]
              · rw [if_neg e4, if_neg e4, if_neg e3, if_neg e2]
        have h25 := h24
        rw [show ((updF (updF (updF A.1 n 4 (A.1 n 4 + cst (A.1 n) (nF (A.1 n)) (nL (A.1 n)) (nF (A.1 n)))) n 2 ((nF (A.1 n) : Int) + 1)) n 3 (-((-tU (A.1 n) (nF (A.1 n)) (nL (A.1 n)) (nF (A.1 n))) / miA (A.1 n) (nF (A.1 n)) (nL (A.1 n)) (nF (A.1 n))) + A.1 n (9 + (4 * nF (A.1 n) + 1)))) : Fl) = _ from eF] at h25
        exact h25
    · rw [if_neg hs, if_pos hs]
      exact ⟨fun z => absurd rfl z, fun _ => ⟨rfl, h4, f4⟩⟩
end C8c
