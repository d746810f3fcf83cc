section C9i
variable {G : evG} {d : Nat} {S : evS}
theorem m_begins_loop (hCl : evCl G) {k0 off N : Nat} (hT : evT k0 = 1) (hN : evN k0 = N) (hN2 : N < 2000) (hV : (k0, 0) ∈ evKs G) (hoff : off + 33 ≤ N) {q : evS → Prop} {S0 : evS} (hq : ∀ S' : evS, (∀ k, k < 33 → S'.1 k0 0 (off + k) = iI (D0 k)) → (∀ a b c, ¬ (a = k0 ∧ b = 0 ∧ off ≤ c ∧ c < off + 33) → S'.1 a b c = S0.1 a b c) → S'.2 = S0.2 → q S') :
    ∀ n j (S : evS), j + n = 33 → (∀ k, k < j → S.1 k0 0 (off + k) = 0) → (∀ a b c, ¬ (a = k0 ∧ b = 0 ∧ off ≤ c ∧ c < off + 33) → S.1 a b c = S0.1 a b c) → S.2 = S0.2 → bk_X6_begins_2 G d (evQV q) k0 0 (nI off) (nI j) S := by
  intro n
  induction n with
  | zero =>
    intro j S hj h1 h2 h3
    obtain rfl : j = 33 := by omega
    refine vb_X6_begins_2 hCl hT hV ⟨fun _ => ?_, fun z => absurd (by decide) z⟩
    rw [hN, show (1 : Int32) = nI 1 from rfl, show (5 : Int32) = nI 5 from rfl, show (2 : Int32) = nI 2 from rfl, show (3 : Int32) = nI 3 from rfl]
    rw [add_n, add_n, add_n, add_n, add_n]
    refine ⟨vp_in_nI (by omega) (by omega), ?_⟩
    rw [nI_clamp (by omega)]
    rintro S2 rfl
    refine ⟨vp_in_nI (by omega) (by omega), ?_⟩
    rw [nI_clamp (by omega)]
    rintro S4 rfl
    refine ⟨vp_in_nI (by omega) (by omega), ?_⟩
    rw [nI_clamp (by omega)]
    rintro S6 rfl
    refine ⟨vp_in_nI (by omega) (by omega), ?_⟩
    rw [nI_clamp (by omega)]
    rintro S8 rfl
    refine ⟨vp_in_nI (by omega) (by omega), ?_⟩
    rw [nI_clamp (by omega)]
    rintro S10 rfl
    refine hq _ (fun k hk => ?_) (fun a b c z => ?_) h3
    · rcases (by omega : k = 8 ∨ k = 7 ∨ k = 6 ∨ k = 5 ∨ k = 1 ∨ (k ≠ 8 ∧ k ≠ 7 ∧ k ≠ 6 ∧ k ≠ 5 ∧ k ≠ 1)) with rfl | rfl | rfl | rfl | rfl | hn
      · rw [show off + 8 = off + 5 + 3 by omega, evup_at]; rfl
      · rw [evup_o (by omega), show off + 7 = off + 5 + 2 by omega, evup_at]; rfl
      · rw [evup_o (by omega), evup_o (by omega), show off + 6 = off + 5 + 1 by omega, evup_at]; rfl
      · rw [evup_o (by omega), evup_o (by omega), evup_o (by omega), evup_at]; rfl
      · rw [evup_o (by omega), evup_o (by omega), evup_o (by omega), evup_o (by omega), evup_at]; rfl
      · rw [evup_o (by omega), evup_o (by omega), evup_o (by omega), evup_o (by omega), evup_o (by omega), h1 k hk]
        unfold D0
        rw [if_neg (by omega), if_neg (by omega), if_neg (by omega), if_neg (by omega), if_neg (by omega)]
        rfl
    · rw [evup_c (by omega), evup_c (by omega), evup_c (by omega), evup_c (by omega), evup_c (by omega)]
      exact h2 a b c z
  | succ n ih =>
    intro j S hj h1 h2 h3
    refine vb_X6_begins_2 hCl hT hV ⟨fun z => absurd z (nI_ge (b := 33) (by omega) (by omega)), fun _ => ?_⟩
    rw [hN, add_n]
    refine ⟨vp_in_nI (by omega) (by omega), ?_⟩
    rw [nI_clamp (by omega)]
    rintro S12 rfl v13 hv
    rw [inc_n hv]
    refine ih (j + 1) _ (by omega) (fun k hk => ?_) (fun a b c z => ?_) h3
    · by_cases e : k = j
      · subst e; rw [evup_at]
      · rw [evup_o (by omega)]; exact h1 k (by omega)
    · rw [evup_c (by omega)]; exact h2 a b c z
theorem m_begins (hCl : evCl G) {k0 off N : Nat} (hT : evT k0 = 1) (hN : evN k0 = N) (hN2 : N < 2000) (hV : (k0, 0) ∈ evKs G) (hoff : off + 33 ≤ N) {l1 : Int32} (h1 : l1 = nI off) : evSp G yX6_begins M_X6_begins d [.ref (evad G k0 0), .int l1] S (evQV fun S' => (∀ k, k < 33 → S'.1 k0 0 (off + k) = iI (D0 k)) ∧ (∀ a b c, ¬ (a = k0 ∧ b = 0 ∧ off ≤ c ∧ c < off + 33) → S'.1 a b c = S.1 a b c) ∧ S'.2 = S.2) := by
  subst h1
  exact vm_X6_begins (vb_X6_begins_0 hCl hT hV (m_begins_loop hCl hT hN hN2 hV hoff (fun S' a1 a2 a3 => ⟨a1, a2, a3⟩) 33 0 S (by omega) (fun k hk => by omega) (fun _ _ _ _ => rfl) rfl))
theorem m_reads_loop (hCl : evCl G) (hV : (30, 0) ∈ evKs G) {A : Ab} (w : WfA A) {S0 : evS} {R : Rs} :
    ∀ m p g n v fa ta D (S : evS), lnA A - p = m → MS A S0 S p fa ta D → S.1 30 0 11 = nI p → (p < lnA A → ¬ txA A p = 32) → InD D → Runs (txA A) (lnA A) p 0 g v n fa ta D R → bk_X6_reads_29 G (d + 3) (evQI fun r S' => r = rsI R ∧ RepM A S' ∧ FrM S0 S' ∧ ∀ k E, R = .inr (k, E) → ∀ j, j < 33 → S'.1 40 0 j = iI (E j)) 0 (nI n) S := by
  have hl := lnA_b w
  intro m
  induction m using Nat.strongRecOn with
  | _ m ih =>
    intro p g n v fa ta D S hm h h11 hsp hD hR
    refine vb_X6_reads_29 hCl hV ?_
    rw [h.1.len, h.2.2.1]
    refine ⟨fun z => ?_, fun z => ?_⟩
    · have hp : lnA A ≤ p := by
        rcases Nat.lt_or_ge p (lnA A) with y | y
        · exact absurd z (nI_ge y (by omega))
        · exact y
      have e := run_end hR hp
      rw [if_pos rfl] at e
      subst e
      refine ⟨rfl, h.1, h.2.1, fun k E y j hj => ?_⟩
      have y' := Sum.inr.inj y
      simp only [Prod.mk.injEq] at y'
      obtain ⟨-, rfl⟩ := y'
      exact h.2.2.2.2.2.2 j hj
    · have hp : p < lnA A := by
        rcases Nat.lt_or_ge p (lnA A) with y | y
        · exact y
        · exact absurd (nI_le y (by have := h.2.2.2.1; omega)) z
      have xb := txA_b w hp
      have hs := hsp hp
      refine ⟨vp_in_nI (by omega) (by omega), ?_⟩
      rw [nI_clamp (by omega), h.1.let hp]
      have fin : ∀ (r : Int32) (S' : evS), (r = 0 ∨ r = 1) ∧ ItP A S0 R n p r S' → bk_X6_reads_94 G (d + 3) (evQI fun r S' => r = rsI R ∧ RepM A S' ∧ FrM S0 S' ∧ ∀ k E, R = .inr (k, E) → ∀ j, j < 33 → S'.1 40 0 j = iI (E j)) 0 (nI n) r S' := by
        rintro r S' ⟨-, (⟨rfl, a1, a2, t, a3, a4⟩ | ⟨rfl, p2, g2, v2, fa2, ta2, D2, a1, a2, a3, a4⟩)⟩
        · refine vb_X6_reads_94 hCl hV ⟨fun z => absurd rfl z, fun _ => ?_⟩
          subst a4
          refine ⟨?_, a1, a2, fun k E y => by simp at y⟩
          rw [a3, show (-10 : Int32) = iI (-10) from rfl, iI_n, iI_sub]
          rfl
        · refine vb_X6_reads_94 hCl hV ⟨fun _ => ?_, fun z => absurd z (by decide)⟩
          intro v1 hv
          rw [inc_n hv]
          refine m_blank hCl hV w a2 ?_
          intro S3 p3 M3 b11 hpp hsp3 sk
          have p3l := M3.2.2.2.1
          exact ih (lnA A - p3) (by omega) p3 g2 (n + 1) v2 fa2 ta2 D2 S3 rfl M3 b11 hsp3 a3 (sk _ _ _ _ _ _ _ _ a4)
      rintro v2 rfl
      rw [show (108 : Int32) = nI 108 from rfl, show (118 : Int32) = nI 118 from rfl, show (102 : Int32) = nI 102 from rfl, nI_eqi (by omega) (by omega), nI_eqi (by omega) (by omega), nI_eqi (by omega) (by omega)]
      refine ⟨fun y1 => ⟨fun y2 => ⟨fun y3 => ?_, fun y3 => ?_⟩, fun y2 => ?_⟩, fun y1 => ?_⟩
      · refine vb_X6_reads_93 hCl hV (fin 0 S ⟨Or.inl rfl, Or.inl ⟨rfl, h.1, h.2.1, p, h11, run_b0 hR (by omega) hs ?_⟩⟩)
        rintro (x | x | x)
        · exact y1 x.1
        · exact y2 x.1
        · exact y3 x.1
      · refine (m_takesTable (d := d) hCl hV w h h11 hD hp y3 hR).mI ?_
        rintro r3 S4 ⟨z1, z2⟩
        refine ⟨fun z => ?_, fun z => ?_⟩
        · subst z
          exact vb_X6_reads_93 hCl hV (fin 0 S4 ⟨Or.inl rfl, z2⟩)
        · obtain rfl : r3 = 1 := z1.resolve_left z
          exact fin 1 S4 ⟨Or.inr rfl, z2⟩
      · exact (m_takesFastest (d := d) hCl hV w h h11 hD hp y2 hR).mI fin
      · exact (m_takesLeg (d := d) hCl hV w h h11 hD hp y1 hR).mI fin
theorem m_reads (hCl : evCl G) (hV : (30, 0) ∈ evKs G) {A : Ab} (w : WfA A) (h : RepM A S) : evSp G yX6_reads M_X6_reads (d + 4) [.ref (evad G 30 0)] S (evQI fun r S' => r = rsI (prs A) ∧ RepM A S' ∧ FrM S S' ∧ ∀ k E, prs A = .inr (k, E) → ∀ j, j < 33 → S'.1 40 0 j = iI (E j)) := by
  refine vm_X6_reads (vb_X6_reads_0 hCl hV ((m_begins (off := 0) (N := 33) hCl rfl rfl (by omega) (hCl.1 30 0 9 40 hV rfl) (by omega) rfl).mV ?_))
  rintro S1 ⟨c1, c2, c3⟩
  have h1 : RepM A S1 := h.same (fun a c z => c2 a 0 c (by unfold RelM at z; omega))
  have f1 : FrM S S1 := fun a b c z => c2 a b c (by omega)
  rintro S2 rfl S3 rfl S4 rfl
  have t2 := h1.tk (kd := 30) (c := 13) (v := 0) (Or.inl ⟨rfl, by omega, by omega⟩)
  have t3 := t2.1.tk (kd := 30) (c := 14) (v := 0) (Or.inl ⟨rfl, by omega, by omega⟩)
  have t4 := t3.1.tk (kd := 30) (c := 10) (v := 0) (Or.inl ⟨rfl, by omega, by omega⟩)
  have M4 : MS A S (evup (evup (evup S1 30 0 13 0) 30 0 14 0) 30 0 10 0) 0 false false D0 := by
    refine ⟨t4.1, ((f1.tr t2.2).tr t3.2).tr t4.2, evup_at, by omega, ?_, ?_, fun k hk => ?_⟩
    · rw [evup_30 (by omega), evup_30 (by omega), evup_at]; rfl
    · rw [evup_30 (by omega), evup_at]; rfl
    · rw [evup_c (by omega), evup_c (by omega), evup_c (by omega)]
      have := c1 k hk
      rw [Nat.zero_add] at this
      exact this
  refine m_blank hCl hV w M4 ?_
  intro S5 p' M5 b11 hpp hsp sk
  exact m_reads_loop (d := d) hCl hV w (lnA A - p') p' 0 0 (fun _ => 0) false false D0 S5 rfl M5 b11 hsp InD0 (sk _ _ _ _ _ _ _ _ (prs_r A))
theorem y_tells (hCl : evCl G) (hV : (30, 0) ∈ evKs G) {A : Ab} (h : RepM A S) (w : WfA A) {i : Int32} : evSp G yX6_tells M_X6_tells (d + 5) [.ref (evad G 30 0), .int i] S (mQ S (o_tells A i)) := by
  refine vm_X6_tells (vb_X6_tells_0 hCl hV ((m_isShip (d := d + 3) hCl).mI ?_))
  rintro r S' ⟨rfl, rfl⟩
  rcases ship_cases i with hb | ⟨n, hn, rfl⟩
  · rw [if_pos hb, show o_tells A i = (-1, A) from if_pos hb]
    exact ⟨fun z => absurd rfl z, fun _ => ⟨rfl, h, FrM.rf⟩⟩
  · rw [if_neg (nbad hn)]
    refine ⟨fun _ => (m_reads (d := d) hCl hV w h).mI ?_, fun z => absurd z (by decide)⟩
    rintro r3 S4 ⟨rfl, h4, f4, k4⟩
    have hl := lnA_b w
    have pi := prs_i A
    unfold o_tells
    rw [if_neg (nbad hn), pm_clamp hn]
    cases hr : prs A with
    | inl t =>
      have tb := pi.1 t hr
      refine ⟨fun z => absurd z ?_, fun _ => ⟨rfl, h4, f4⟩⟩
      show ¬ 0 ≤ iI (-10 - (t : Int))
      rw [iI_0, iI_le (rg_of (A := 1) (by omega) (by omega)) (rg_of (A := 1000) (by omega) (by omega))]
      omega
    | inr p =>
      obtain ⟨m, E⟩ := p
      have mb := pi.2 m E hr
      refine ⟨fun _ => (m_rem (d := d + 3) hCl hV h4 w).mV ?_, fun z => absurd (nI_pos' (n := m) (by omega)) z⟩
      rintro S5 ⟨h5, f5, b5⟩
      have e40 : ∀ j, j < 33 → S5.1 40 0 j = iI (E j) := fun j hj => by rw [b5.1 40 0 j (by unfold ofRem; omega)]; exact k4 m E hr j hj
      obtain ⟨c1, ⟨c2, c3⟩, c4, ⟨c5, c6⟩, c7, c8⟩ := id h5
      have loop : ∀ x k (S3 : evS), k + x = 33 → Cpy S5 S3 31 (33 * n) 40 0 k → bk_X6_tells_26 G (d + 4) (mQ S' (nI m, setS A.1 n E, pushP A.1 A.2.1, A.2.2.1, [], A.2.2.2.2)) 0 (nI n) (nI m) (nI k) S3 := by
        intro x
        induction x with
        | zero =>
          intro k S3 hk c
          obtain rfl : k = 33 := by omega
          refine vb_X6_tells_26 hCl hV ⟨fun _ => ?_, fun z => absurd (by decide) z⟩
          rintro S6 rfl
          have oth : ∀ a b y, a ≠ 31 → ¬ (a = 30 ∧ b = 0 ∧ y = 6) → (evup S3 30 0 6 0).1 a b y = S5.1 a b y := fun a b y z1 z2 => by rw [evup_c z2, c.2.1 a b y (by omega)]
          refine ⟨rfl, ⟨fun i j hi hj => ?_, ⟨by rw [oth 30 _ _ (by decide) (by omega)]; exact c2, fun j Q z => (c3 j Q z).same (fun _ _ _ _ => oth 32 _ _ (by decide) (by omega))⟩, fun k hk => ⟨fun z => by rw [oth 35 _ _ (by decide) (by omega)]; exact (c4 k hk).1 z, fun Q z => ⟨by rw [oth 35 _ _ (by decide) (by omega)]; exact ((c4 k hk).2 Q z).1, ((c4 k hk).2 Q z).2.same (fun _ _ _ _ => oth 34 _ _ (by decide) (by omega))⟩⟩, ⟨evup_at, fun j t z => by simp at z⟩, by rw [oth 30 _ _ (by decide) (by omega)]; exact c7, fun j p z => by rw [oth 38 _ _ (by decide) (by omega), oth 38 _ _ (by decide) (by omega)]; exact c8 j p z⟩, fun a b y hy => ?_⟩
          · show (evup S3 30 0 6 0).1 31 0 (0 + (33 * i + j)) = iI (setS A.1 n E i j)
            rw [evup_c (by omega), Nat.zero_add]
            unfold setS
            by_cases e : i = n
            · subst e
              rw [if_pos rfl, c.1 j hj, Nat.zero_add]
              exact e40 j hj
            · rw [if_neg e, c.2.1 _ _ _ (by omega)]
              exact h5.at hi hj
          · rw [oth a b y (by omega) (by omega)]
            exact (f4.tr f5) a b y hy
        | succ x ih =>
          intro k S3 hk c
          refine vb_X6_tells_26 hCl hV ⟨fun z => absurd z (nI_ge (b := 33) (by omega) (by omega)), fun _ => ⟨vp_in_nI (by omega) (by omega), ?_⟩⟩
          rw [show (33 : Int32) = nI 33 from rfl, mad_n]
          refine ⟨vp_in_nI (by omega) (by omega), ?_⟩
          rw [nI_clamp (by omega), nI_clamp (by omega)]
          rintro S6 rfl v5 hv
          rw [inc_n hv]
          refine ih (k + 1) _ (by omega) ?_
          have := c.s (Or.inl (by decide))
          rw [Nat.zero_add] at this
          exact this
      exact loop 33 0 S5 (by omega) Cpy.z
end C9i
