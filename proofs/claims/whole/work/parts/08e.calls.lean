section C8e
variable {G : evG} {d : Nat} {S : evS}
theorem y_keep (hCl : evCl G) (hV : (30, 0) ∈ evKs G) {A : Ab} (h : RepM A S) (w : WfA A) {t : Int32} : evSp G yX6_keep M_X6_keep (d + 2) [.ref (evad G 30 0), .int t] S (mQ S (o_keep A t)) := by
  refine vm_X6_keep (vb_X6_keep_0 hCl hV ((m_in' (P := t < 0 ∨ ¬ t < 2) hCl (by rw [nlt_i (b := 1) (c := 2) (z := 1) rfl rfl ⟨by decide, by decide⟩ ⟨by decide, by decide⟩])).mI ?_))
  rintro r1 S2 ⟨rfl, rfl⟩
  by_cases hp : t < 0 ∨ ¬ t < 2
  · rw [if_pos hp, show o_keep A t = (-1, A) from if_pos hp]
    exact ⟨fun z => absurd rfl z, fun _ => ⟨rfl, h, FrM.rf⟩⟩
  · rw [if_neg hp]
    have t0 := t_lo (t := t) (a := 0) rfl ⟨by decide, by decide⟩ (fun z => hp (Or.inl z))
    have t2 := t_hs (t := t) (a := 2) rfl ⟨by decide, by decide⟩ (Classical.byContradiction fun z => hp (Or.inr z))
    have tc := t_cl t0
    have tn := t_n t0
    unfold o_keep
    rw [if_neg hp]
    generalize t.toNatClampNeg = m at *
    subst tn
    have hm : m < 2 := by omega
    refine ⟨fun _ => ?_, fun z => absurd z (by decide)⟩
    obtain ⟨h1, ⟨h2, h3⟩, h4, ⟨h5, h6⟩, h7, h8⟩ := id h
    have loop : ∀ n k (S3 : evS), k + n = 132 → Cpy S2 S3 34 (132 * m) 31 0 k → bk_X6_keep_13 G (d + 1) (mQ S2 (legsA A.1, A.1, A.2.1, (fun k => if k = m then some A.1 else A.2.2.1 k), A.2.2.2)) 0 (nI m) (nI k) S3 := by
      intro n
      induction n with
      | zero =>
        intro k S3 hk c
        obtain rfl : k = 132 := by omega
        refine vb_X6_keep_13 hCl hV ⟨fun _ => ⟨vp_in_nI hm (by omega), ?_⟩, fun z => absurd (by decide) z⟩
        rw [nI_clamp (by omega)]
        rintro S4 rfl
        have oth : ∀ a b x, a ≠ 34 → ¬ (a = 35 ∧ b = 0 ∧ x = m) → (evup S3 35 0 m 1).1 a b x = S2.1 a b x := fun a b x z1 z2 => by rw [evup_c z2, c.2.1 a b x (by omega)]
        have hR : RepM (A.1, A.2.1, (fun k => if k = m then some A.1 else A.2.2.1 k), A.2.2.2) (evup S3 35 0 m 1) := by
          refine ⟨h1.same (fun _ _ _ _ => oth 31 _ _ (by decide) (by omega)), ⟨by rw [oth 30 _ _ (by decide) (by omega)]; exact h2, fun j Q z => (h3 j Q z).same (fun _ _ _ _ => oth 32 _ _ (by decide) (by omega))⟩, fun k hk => ⟨fun z => ?_, fun Q z => ?_⟩, ⟨by rw [oth 30 _ _ (by decide) (by omega)]; exact h5, fun j t z => by rw [oth 36 _ _ (by decide) (by omega)]; exact h6 j t z⟩, by rw [oth 30 _ _ (by decide) (by omega)]; exact h7, fun j p z => by rw [oth 38 _ _ (by decide) (by omega), oth 38 _ _ (by decide) (by omega)]; exact h8 j p z⟩
          · by_cases hkm : k = m
            · simp [hkm] at z
            · simp only [hkm, if_false] at z
              rw [oth 35 0 k (by decide) (by omega)]
              exact (h4 k hk).1 z
          · by_cases hkm : k = m
            · subst hkm
              simp only [if_true, Option.some.injEq] at z
              subst z
              refine ⟨evup_at, fun i j hi hj => ?_⟩
              rw [evup_c (by omega), c.1 _ (by omega)]
              exact h1 i j hi hj
            · simp only [hkm, if_false] at z
              refine ⟨by rw [oth 35 0 k (by decide) (by omega)]; exact ((h4 k hk).2 Q z).1, ((h4 k hk).2 Q z).2.same (fun i j hi hj => ?_)⟩
              rw [evup_c (by omega), c.2.1 _ _ _ (by omega)]
        refine (m_legs_loop (d := d) hCl hV hR).mI ?_
        rintro r5 S6 ⟨rfl, rfl⟩
        exact ⟨rfl, hR, fun a b x hx => oth a b x (by omega) (by omega)⟩
      | succ n ih =>
        intro k S3 hk c
        refine vb_X6_keep_13 hCl hV ⟨fun z => absurd z (nI_ge (b := 132) (by omega) (by omega)), fun _ => ?_⟩
        rw [show (132 : Int32) = nI 132 from rfl, mad_n]
        refine ⟨vp_in_nI (by omega) (by omega), vp_in_nI (by omega) (by omega), ?_⟩
        rw [nI_clamp (by omega), nI_clamp (by omega)]
        rintro S4 rfl v5 hv
        rw [inc_n hv]
        refine ih (k + 1) _ (by omega) ?_
        have := c.s (Or.inl (by decide))
        rw [Nat.zero_add] at this
        exact this
    exact loop 132 0 _ (by omega) Cpy.z
theorem y_back (hCl : evCl G) (hV : (30, 0) ∈ evKs G) {A : Ab} (h : RepM A S) (w : WfA A) {t : Int32} : evSp G yX6_back M_X6_back (d + 2) [.ref (evad G 30 0), .int t] S (mQ S (o_back A t)) := by
  refine vm_X6_back (vb_X6_back_0 hCl hV ((m_in' (P := t < 0 ∨ ¬ t < 2) hCl (by rw [nlt_i (b := 1) (c := 2) (z := 1) rfl rfl ⟨by decide, by decide⟩ ⟨by decide, by decide⟩])).mI ?_))
  rintro r1 S2 ⟨rfl, rfl⟩
  by_cases hp : t < 0 ∨ ¬ t < 2
  · rw [if_pos hp, show o_back A t = (-1, A) from if_pos hp]
    exact ⟨fun z => absurd rfl z, fun _ => ⟨rfl, h, FrM.rf⟩⟩
  · rw [if_neg hp]
    have t0 := t_lo (t := t) (a := 0) rfl ⟨by decide, by decide⟩ (fun z => hp (Or.inl z))
    have t2 := t_hs (t := t) (a := 2) rfl ⟨by decide, by decide⟩ (Classical.byContradiction fun z => hp (Or.inr z))
    have tc := t_cl t0
    have tn := t_n t0
    unfold o_back
    rw [if_neg hp]
    generalize t.toNatClampNeg = m at *
    subst tn
    have hm : m < 2 := by omega
    obtain ⟨h1, ⟨h2, h3⟩, h4, ⟨h5, h6⟩, h7, h8⟩ := id h
    refine ⟨fun _ => ⟨vp_in_nI hm (by omega), ?_⟩, fun z => absurd z (by decide)⟩
    cases hQ : A.2.2.1 m with
    | none =>
      rw [(h4 m hm).1 hQ]
      exact ⟨fun z => absurd rfl z, fun _ => ⟨rfl, h, FrM.rf⟩⟩
    | some Q =>
      obtain ⟨k1, k2⟩ := (h4 m hm).2 Q hQ
      rw [k1]
      refine ⟨fun _ => ?_, fun z => absurd z (by decide)⟩
      have loop : ∀ n k (S3 : evS), k + n = 132 → Cpy S2 S3 31 0 34 (132 * m) k → bk_X6_back_25 G (d + 1) (mQ S2 (legsA Q, Q, [], A.2.2)) 0 (nI m) (nI k) S3 := by
        intro n
        induction n with
        | zero =>
          intro k S3 hk c
          obtain rfl : k = 132 := by omega
          refine vb_X6_back_25 hCl hV ⟨fun _ => ?_, fun z => absurd (by decide) z⟩
          rintro S4 rfl
          have oth : ∀ a b x, a ≠ 31 → ¬ (a = 30 ∧ b = 0 ∧ x = 2) → (evup S3 30 0 2 0).1 a b x = S2.1 a b x := fun a b x z1 z2 => by rw [evup_c z2, c.2.1 a b x (by omega)]
          have hR : RepM (Q, [], A.2.2) (evup S3 30 0 2 0) := by
            refine ⟨fun i j hi hj => ?_, ⟨evup_at, fun j Q z => by simp at z⟩, fun k hk => ⟨fun z => by rw [oth 35 _ _ (by decide) (by omega)]; exact (h4 k hk).1 z, fun Q z => ⟨by rw [oth 35 _ _ (by decide) (by omega)]; exact ((h4 k hk).2 Q z).1, ((h4 k hk).2 Q z).2.same (fun _ _ _ _ => oth 34 _ _ (by decide) (by omega))⟩⟩, ⟨by rw [oth 30 _ _ (by decide) (by omega)]; exact h5, fun j t z => by rw [oth 36 _ _ (by decide) (by omega)]; exact h6 j t z⟩, by rw [oth 30 _ _ (by decide) (by omega)]; exact h7, fun j p z => by rw [oth 38 _ _ (by decide) (by omega), oth 38 _ _ (by decide) (by omega)]; exact h8 j p z⟩
            rw [evup_c (by omega), c.1 _ (by omega)]
            exact k2 i j hi hj
          refine (m_legs_loop (d := d) hCl hV hR).mI ?_
          rintro r5 S6 ⟨rfl, rfl⟩
          exact ⟨rfl, hR, fun a b x hx => oth a b x (by omega) (by omega)⟩
        | succ n ih =>
          intro k S3 hk c
          refine vb_X6_back_25 hCl hV ⟨fun z => absurd z (nI_ge (b := 132) (by omega) (by omega)), fun _ => ?_⟩
          rw [show (132 : Int32) = nI 132 from rfl, mad_n]
          refine ⟨vp_in_nI (by omega) (by omega), vp_in_nI (by omega) (by omega), ?_⟩
          rw [nI_clamp (by omega), nI_clamp (by omega)]
          rintro S4 rfl v5 hv
          rw [inc_n hv]
          refine ih (k + 1) _ (by omega) ?_
          have := c.s (Or.inl (by decide))
          rw [Nat.zero_add] at this
          exact this
      exact loop 132 0 _ (by omega) Cpy.z
theorem RepM.rdH {A : Ab} {S : evS} (h : RepM A S) (w : WfA A) {i n : Nat} (hi : i < 4) : RwD S i (hlD (A.1 i) n) n 0 0 (nL (A.1 i)) := by
  have w1 := (w.1 i hi).1
  have e : ∀ j, j ≠ 3 → hlD (A.1 i) n j = A.1 i j := fun j hj => by unfold hlD; rw [upI_o hj]
  refine ⟨by rw [e 2 (by omega)]; exact h.at hi (by omega), by rw [e 0 (by omega)]; exact h.at hi (by omega), ?_, fun k hk => ?_⟩
  · rw [h.at hi (by omega)]
    unfold hlD
    rw [upI_at]
    congr 1
    omega
  · have hk6 : k < 6 := by unfold nL at hk; omega
    rw [e _ (by omega), e _ (by omega), e _ (by omega), e _ (by omega)]
    refine ⟨h.at hi (by omega), h.at hi (by omega), ?_, ?_⟩
    · rw [h.at hi (by omega), if_neg (by omega), Int.add_zero]
    · rw [h.at hi (by omega), if_neg (by omega), Int.sub_zero]
theorem y_slack_loop (hCl : evCl G) (hV : (30, 0) ∈ evKs G) {A : Ab} (w : WfA A) {i : Nat} (hi : i < 4) {S0 : evS} :
    ∀ n (S : evS), n ≤ 100 → RepM A S → FrM S0 S → bk_X6_slack_12 G (d + 4) (evQI fun r S' => r = slk (A.1 i) n ∧ RepM A S' ∧ FrM S0 S') 0 (nI i) (iI ((n : Int) - 1)) S := by
  intro n
  induction n with
  | zero =>
    intro S _ h f
    refine vb_X6_slack_12 hCl hV ⟨fun _ => ⟨rfl, h, f⟩, fun z => absurd ?_ z⟩
    decide
  | succ n ih =>
    intro S hn h f
    have e : iI (((n + 1 : Nat) : Int) - 1) = iI n := by congr 1; omega
    rw [e]
    refine vb_X6_slack_12 hCl hV ⟨fun z => absurd z ?_, fun _ => ?_⟩
    · rw [iI_0, iI_lt (rg_n (by omega)) (rg_of (A := 0) (by omega) (by omega))]; omega
    · have wp := (w.1 i hi).hl (h := n) (by omega)
      refine (m_lays (d := d) hCl hV wp hi (port := 0) (side := 0) (held := n) (by omega) (by omega) (h.rdH w hi) rfl rfl rfl rfl).mV ?_
      rintro S1 ⟨b1, P1⟩
      obtain ⟨h1, f1⟩ := h.lay b1
      refine (m_hasPlan (d := d + 2) hCl hV wp P1 hi (by rw [h1.at hi (by omega)]; rfl)).mI ?_
      rintro r3 S4 ⟨rfl, rfl⟩
      unfold slk
      by_cases hst : stq (hlD (A.1 i) n) (nF (A.1 i)) (nL (A.1 i))
      · rw [if_pos hst, if_pos hst]
        exact ⟨fun z => absurd z (by decide), fun _ => ⟨(iI_n n).symm, h1, f.tr f1⟩⟩
      · rw [if_neg hst, if_neg hst]
        refine ⟨fun _ => ?_, fun z => absurd rfl z⟩
        rintro v5 rfl
        rw [show iI (n : Int) + (-1) = iI ((n : Int) - 1) from by rw [show (-1 : Int32) = iI (-1) from rfl, iI_add]; rfl]
        exact ih _ (by omega) h1 (f.tr f1)
theorem y_slack (hCl : evCl G) (hV : (30, 0) ∈ evKs G) {A : Ab} (h : RepM A S) (w : WfA A) {i : Int32} : evSp G yX6_slack M_X6_slack (d + 5) [.ref (evad G 30 0), .int i] S (mQ S (o_slack A i)) := by
  refine vm_X6_slack (vb_X6_slack_0 hCl hV ((m_isShip (d := d + 3) hCl).mI ?_))
  rintro r S' ⟨rfl, rfl⟩
  rcases ship_cases i with hb | ⟨n, hn, rfl⟩
  · rw [if_pos hb, show o_slack A i = (-1, A) from if_pos hb]
    exact ⟨fun z => absurd rfl z, fun _ => ⟨rfl, h, FrM.rf⟩⟩
  · rw [if_neg (nbad hn)]
    unfold o_slack
    rw [if_neg (nbad hn)]
    unfold shN
    rw [pm_clamp hn]
    exact ⟨fun _ => y_slack_loop (d := d) hCl hV w hn 100 _ (by omega) h FrM.rf, fun z => absurd z (by decide)⟩
theorem RepM.rdE {A : Ab} {S : evS} (h : RepM A S) (w : WfA A) {i k s : Nat} (hi : i < 4) (hs : s ≤ 1) : RwD S i (eaD (A.1 i) k s) 0 (k + 1) s (nL (A.1 i)) ∧ RwT S i (eaD (A.1 i) k s) (nL (A.1 i)) := by
  have w1 := (w.1 i hi).1
  have e : ∀ j, j < 9 → eaD (A.1 i) k s j = A.1 i j := fun j hj => eaD_o (by omega) (by omega)
  refine ⟨⟨by rw [e 2 (by omega)]; exact h.at hi (by omega), by rw [e 0 (by omega)]; exact h.at hi (by omega), by rw [e 3 (by omega), Int.sub_zero]; exact h.at hi (by omega), fun m hm => ?_⟩, by rw [e 1 (by omega)]; exact h.at hi (by omega), fun n hn => by rw [e _ (by omega)]; exact h.at hi (by omega), fun m hm => ?_⟩
  · have hm6 : m < 6 := by unfold nL at hm; omega
    refine ⟨by rw [eaD_o (by omega) (by omega)]; exact h.at hi (by omega), by rw [eaD_o (by omega) (by omega)]; exact h.at hi (by omega), ?_, ?_⟩
    · rw [h.at hi (by omega)]
      by_cases z : m + 1 = k + 1 ∧ s = 0
      · obtain ⟨z1, rfl⟩ := z
        obtain rfl : m = k := by omega
        rw [if_pos ⟨rfl, rfl⟩]
        unfold eaD; rw [if_pos rfl, upI_at]
        congr 1; omega
      · rw [if_neg z, Int.add_zero, eaD_o (by omega) (by omega)]
    · rw [h.at hi (by omega)]
      by_cases z : m + 1 = k + 1 ∧ s = 1
      · obtain ⟨z1, rfl⟩ := z
        obtain rfl : m = k := by omega
        rw [if_pos ⟨rfl, rfl⟩]
        unfold eaD; rw [if_neg (by omega), upI_at]
        congr 1; omega
      · rw [if_neg z, Int.sub_zero, eaD_o (by omega) (by omega)]
  · have hm6 : m < 6 := by unfold nL at hm; omega
    rw [eaD_o (by omega) (by omega)]
    exact h.at hi (by omega)
/-- the reference's state of the loop: least, found -/
def EaM (st : Option Int32 × Int32) (l3 l4 : Int32) : Prop := l4 = st.2 ∧ (st.1 = none → l3 = -9) ∧ ∀ c, st.1 = some c → l3 = c ∧ ¬ c = -9
theorem y_eased_side (hCl : evCl G) (hV : (30, 0) ∈ evKs G) {A : Ab} (w : WfA A) {n k s : Nat} (hn : n < 4) (hk : k < 6) (hs : s ≤ 1) {S0 : evS} {q : Int32 → evS → Prop} {st : Option Int32 × Int32} {l3 l4 : Int32} (hst : EaM st l3 l4) (h : RepM A S) (f : FrM S0 S)
    (hq : ∀ m3 m4 (S' : evS), EaM (eaS (A.1 n) k s st) m3 m4 → RepM A S' → FrM S0 S' → bk_X6_eased_57 G (d + 4) (evQI q) 0 (nI n) m3 m4 (nI (k + 1)) (nI (s + 1)) S') : bk_X6_eased_57 G (d + 4) (evQI q) 0 (nI n) l3 l4 (nI (k + 1)) (nI s) S := by
  obtain ⟨R1, R2⟩ := h.rdE w (i := n) (k := k) (s := s) hn hs
  have wp := (w.1 n hn).ea (k := k) (s := s)
  refine vb_X6_eased_57 hCl hV ⟨fun z => absurd z (nI_ge (b := 2) (by omega) (by omega)), fun _ => (m_lays (d := d) hCl hV wp hn (port := k + 1) (side := s) (held := 0) (by omega) (by omega) R1 rfl rfl rfl rfl).mV ?_⟩
  rintro S2 ⟨b2, P2⟩
  obtain ⟨h2, f2⟩ := h.lay b2
  obtain ⟨R3, R4⟩ := h2.rdE w (i := n) (k := k) (s := s) hn hs
  have step : ∀ m3 m4 (S' : evS), EaM (eaS (A.1 n) k s st) m3 m4 → RepM A S' → FrM S0 S' → bk_X6_eased_122 G (d + 4) (evQI q) 0 (nI n) m3 m4 (nI (k + 1)) (nI s) S' := by
    intro m3 m4 S' a1 a2 a3
    refine vb_X6_eased_122 hCl hV ?_
    intro v1 hv
    rw [inc_n hv]
    exact hq m3 m4 S' a1 a2 a3
  refine (m_hasPlan (d := d + 2) hCl hV wp P2 hn R4.1).mI ?_
  rintro r3 S4 ⟨rfl, rfl⟩
  by_cases hq2 : stq (eaD (A.1 n) k s) (nF (A.1 n)) (nL (A.1 n))
  · rw [if_pos hq2]
    refine ⟨fun z => absurd z (by decide), fun _ => (m_costsAhead (d := d + 1) hCl hV wp (eaD_T (w.1 n hn).2.2.2.1) P2 hn R4 (fun k k1 k2 => stand_ho wp hq2.1 k1 k2)).mI ?_⟩
    rintro r5 S6 ⟨rfl, rfl⟩
    have w3 := (w.1 n hn).2.2.1
    have c9 : ¬ csI (eaD (A.1 n) k s) (nF (A.1 n)) (nL (A.1 n)) = -9 := csI_9 wp (eaD_T (w.1 n hn).2.2.2.1) (by rw [eaD_o (by omega) (by omega), eaD_o (by omega) (by omega)]; exact w3.2.2) hq2.1
    have new : eaS (A.1 n) k s st = (some (csI (eaD (A.1 n) k s) (nF (A.1 n)) (nL (A.1 n))), nI (2 * (k + 1) + s)) → bk_X6_eased_110 G (d + 4) (evQI q) 0 (nI n) (nI (k + 1)) (nI s) (csI (eaD (A.1 n) k s) (nF (A.1 n)) (nL (A.1 n))) S6 := by
      intro e1
      refine vb_X6_eased_110 hCl hV ?_
      intro v1 hv
      refine step _ _ _ ?_ h2 (f.tr f2)
      rw [e1]
      refine ⟨?_, fun z => by simp at z, fun c hc => ?_⟩
      · rw [hv, show (2 : Int32) = nI 2 from rfl, mad_n]
      · simp only [Option.some.injEq] at hc
        exact ⟨hc, hc ▸ c9⟩
    have en : eaS (A.1 n) k s st = (match st.1 with
      | none => (some (csI (eaD (A.1 n) k s) (nF (A.1 n)) (nL (A.1 n))), nI (2 * (k + 1) + s))
      | some l => if csI (eaD (A.1 n) k s) (nF (A.1 n)) (nL (A.1 n)) < l then (some (csI (eaD (A.1 n) k s) (nF (A.1 n)) (nL (A.1 n))), nI (2 * (k + 1) + s)) else st) := by
      unfold eaS; rw [if_pos hq2]; rfl
    show bk_X6_eased_89 G (d + 4) (evQI q) 0 (nI n) l3 l4 (nI (k + 1)) (nI s) (csI (eaD (A.1 n) k s) (nF (A.1 n)) (nL (A.1 n))) S6
    refine vb_X6_eased_89 hCl hV ⟨fun z => absurd z c9, fun _ => ?_⟩
    obtain ⟨t1, t2, t3⟩ := hst
    obtain ⟨so, sb⟩ := st
    cases so with
    | none =>
      have t2' := t2 rfl
      subst t2'
      exact ⟨fun _ => new en, fun z => absurd rfl z⟩
    | some c =>
      obtain ⟨rfl, hc9⟩ := t3 c rfl
      refine ⟨fun z => absurd z hc9, fun _ => ⟨fun hle => ?_, fun hle => ?_⟩⟩
      · refine step _ _ _ ?_ h2 (f.tr f2)
        rw [en]
        show EaM (if csI (eaD (A.1 n) k s) (nF (A.1 n)) (nL (A.1 n)) < l3 then _ else _) _ _
        rw [if_neg (by intro z; have := Int32.lt_iff_toInt_lt.mp z; have := Int32.le_iff_toInt_le.mp hle; omega)]
        exact ⟨t1, t2, t3⟩
      · refine new ?_
        rw [en]
        show (if csI (eaD (A.1 n) k s) (nF (A.1 n)) (nL (A.1 n)) < l3 then _ else _) = _
        rw [if_pos (by
          rw [Int32.lt_iff_toInt_lt]
          rw [Int32.le_iff_toInt_le] at hle
          omega)]
  · rw [if_neg hq2]
    refine ⟨fun _ => vb_X6_eased_89 hCl hV ⟨fun _ => step _ _ _ ?_ h2 (f.tr f2), fun z => absurd rfl z⟩, fun z => absurd rfl z⟩
    have en : eaS (A.1 n) k s st = st := by unfold eaS; rw [if_neg hq2]
    rw [en]
    exact hst
theorem y_eased_loop (hCl : evCl G) (hV : (30, 0) ∈ evKs G) {A : Ab} (w : WfA A) {n : Nat} (hn : n < 4) {S0 : evS} :
    ∀ m (S : evS) (st : Option Int32 × Int32) (l3 l4 : Int32), m ≤ nL (A.1 n) → RepM A S → FrM S0 S → EaM st l3 l4 → bk_X6_eased_43 G (d + 4) (evQI fun r S' => r = (eaL (A.1 n) m st).2 ∧ RepM A S' ∧ FrM S0 S') 0 (nI n) l3 l4 (nI (nL (A.1 n) - m + 1)) S := by
  intro m
  have w1 := (w.1 n hn).1
  have hl : nL (A.1 n) ≤ 6 := by unfold nL; omega
  have e0 : A.1 n 0 = (nL (A.1 n) : Int) := by unfold nL; omega
  induction m with
  | zero =>
    intro S st l3 l4 _ h f hst
    refine vb_X6_eased_43 hCl hV ((m_of' hCl hV h hn (k := 0) (by omega) rfl).mI ?_)
    rintro r1 S2 ⟨rfl, rfl⟩
    rw [e0, ← iI_n]
    exact ⟨fun _ => ⟨hst.1, h, f⟩, fun z => absurd (nI_lt (by omega) (by omega)) z⟩
  | succ m ih =>
    intro S st l3 l4 hm h f hst
    refine vb_X6_eased_43 hCl hV ((m_of' hCl hV h hn (k := 0) (by omega) rfl).mI ?_)
    rintro r1 S2 ⟨rfl, rfl⟩
    rw [e0, ← iI_n]
    refine ⟨fun z => absurd z (nI_nlt (by omega) (by omega)), fun _ => ?_⟩
    refine y_eased_side (d := d) hCl hV w hn (k := nL (A.1 n) - (m + 1)) (s := 0) (by omega) (by omega) hst h f ?_
    intro m3 m4 S3 st3 h3 f3
    refine y_eased_side (d := d) hCl hV w hn (k := nL (A.1 n) - (m + 1)) (s := 1) (by omega) (by omega) st3 h3 f3 ?_
    intro p3 p4 S4 st4 h4 f4
    refine vb_X6_eased_57 hCl hV ⟨fun _ => ?_, fun z => absurd (nI_le (a := 2) (b := 2) (by omega) (by omega)) z⟩
    intro v1 hv
    have ev : v1 = nI (nL (A.1 n) - m + 1) := by rw [inc_n hv]; congr 1; omega
    rw [ev]
    exact ih S4 _ p3 p4 (by omega) h4 f4 st4
theorem y_eased (hCl : evCl G) (hV : (30, 0) ∈ evKs G) {A : Ab} (h : RepM A S) (w : WfA A) {i : Int32} : evSp G yX6_eased M_X6_eased (d + 6) [.ref (evad G 30 0), .int i] S (mQ S (o_eased A i)) := by
  refine vm_X6_eased (vb_X6_eased_0 hCl hV ((m_isShip (d := d + 4) hCl).mI ?_))
  rintro r S' ⟨rfl, rfl⟩
  rcases ship_cases i with hb | ⟨n, hn, rfl⟩
  · rw [if_pos hb, show o_eased A i = (-1, A) from if_pos hb]
    exact ⟨fun z => absurd rfl z, fun _ => ⟨rfl, h, FrM.rf⟩⟩
  · rw [if_neg (nbad hn)]
    unfold o_eased
    rw [if_neg (nbad hn)]
    unfold shN
    rw [pm_clamp hn]
    have wp := (w.1 n hn).p
    have w1 := (w.1 n hn).1
    have e2 : A.1 n 2 = (nF (A.1 n) : Int) := by unfold nF; omega
    have hfl : nF (A.1 n) ≤ nL (A.1 n) := by unfold nF nL; omega
    have hl : nL (A.1 n) ≤ 6 := by unfold nL; omega
    refine ⟨fun _ => (m_plans' (d := d) hCl hV h w hn).mI ?_, fun z => absurd z (by decide)⟩
    rintro r3 S4 ⟨rfl, h4, f4, P4⟩
    have go : ∀ l3 : Int32, EaM (ea0 (A.1 n)) l3 (-9) → bk_X6_eased_28 G (d + 5) (evQI fun r S2 => r = (eaL (A.1 n) (nL (A.1 n) - nF (A.1 n)) (ea0 (A.1 n))).2 ∧ RepM A S2 ∧ FrM S' S2) 0 (nI n) l3 S4 := by
      intro l3 hst
      refine vb_X6_eased_28 hCl hV ((m_of' hCl hV h4 hn (k := 2) (by omega) rfl).mI ?_)
      rintro r1 S2 ⟨rfl, rfl⟩
      rw [e2]
      rintro v3 hv
      have ev : v3 = nI (nL (A.1 n) - (nL (A.1 n) - nF (A.1 n)) + 1) := by rw [hv, iI_1, iI_add, iI_n]; congr 1; omega
      rw [ev]
      exact y_eased_loop (d := d + 1) hCl hV w hn _ _ _ l3 (-9) (by omega) h4 f4 hst
    by_cases hs : stq (A.1 n) (nF (A.1 n)) (nL (A.1 n))
    · rw [if_pos hs]
      refine ⟨fun z => absurd z (by decide), fun _ => (m_costsAhead (d := d + 2) hCl hV wp (w.1 n hn).2.2.2.1 P4 hn (h4.rt w hn) (fun k k1 k2 => stand_ho wp hs.1 k1 k2)).mI ?_⟩
      rintro r8 S9 ⟨rfl, rfl⟩
      refine go _ ?_
      unfold ea0
      rw [if_pos hs]
      refine ⟨rfl, fun z => by simp at z, fun c hc => ?_⟩
      simp only [Option.some.injEq] at hc
      exact ⟨hc, hc ▸ csI_9 wp (w.1 n hn).2.2.2.1 (w.1 n hn).2.2.1.2.2 hs.1⟩
    · rw [if_neg hs]
      refine ⟨fun _ => go _ ?_, fun z => absurd rfl z⟩
      unfold ea0
      rw [if_neg hs]
      exact ⟨rfl, fun _ => rfl, fun c hc => by simp at hc⟩
end C8e
