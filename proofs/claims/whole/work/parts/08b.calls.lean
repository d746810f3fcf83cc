/-! THE REFERENCE'S CALLS, by what they answer -/
theorem nle_i {a b : Int32} : ¬ a ≤ b ↔ b < a := by rw [Int32.lt_iff_toInt_lt, Int32.le_iff_toInt_le]; omega
theorem nlt_i {a b c : Int32} {z : Int} (hb : b = iI z) (hc : c = iI (z + 1)) (h1 : rg z) (h2 : rg (z + 1)) : ¬ a < c ↔ b < a := by
  subst hb hc; rw [lt_i h2, i_lt h1]; omega
theorem ahead_leg {D : Nat → Int} (w : WfS D) {k : Int32} : ahead D (k + 1) ↔ legAh D k := by
  have w1 := w.1
  have r := rg_i k
  by_cases h : k.toInt = 2147483647
  · have e : k = 2147483647 := by rw [self_i k, h]; rfl
    subst e
    have e1 : ((2147483647 : Int32) + 1).toInt = -2147483648 := by decide
    have e2 : (2147483647 : Int32).toInt = 2147483647 := by decide
    unfold ahead legAh
    rw [e1, e2]
    omega
  · have e : (k + 1).toInt = k.toInt + 1 := by
      conv => lhs; rw [self_i k, iI_1, iI_add]
      rw [iI_toInt ⟨by unfold rg at r; omega, by unfold rg at r; omega⟩]
    unfold ahead legAh
    rw [e]
    omega
section C8b
variable {G : evG} {d : Nat} {S : evS}
/-- what a call of the reference leaves -/
abbrev mQ (S : evS) (o : Int32 × Ab) : Option Value → evS → Prop := evQI fun r S' => r = o.1 ∧ RepM o.2 S' ∧ FrM S S'
theorem m_in' (hCl : evCl G) {v a b : Int32} {P : Prop} [Decidable P] (hP : (v < a ∨ b < v) ↔ P) : evSp G yX6_in M_X6_in d [.int v, .int a, .int b] S (evQI fun r S' => r = (if P then 0 else 1) ∧ S' = S) := by
  refine (m_in hCl).mI ?_
  rintro r S' ⟨rfl, rfl⟩
  refine ⟨?_, rfl⟩
  by_cases h : P
  · rw [if_pos h, if_pos (hP.mpr h)]
  · rw [if_neg h, if_neg (fun z => h (hP.mp z))]
theorem m_of' (hCl : evCl G) (hV : (30, 0) ∈ evKs G) {A : Ab} (h : RepM A S) {i k : Nat} (hi : i < 4) (hk : k < 33) {b : Int32} (hb : b = nI k) : evSp G yX6_of M_X6_of d [.ref (evad G 30 0), .int (nI i), .int b] S (evQI fun r S' => r = iI (A.1 i k) ∧ S' = S) := by
  refine (m_of hCl hV hi hk rfl hb).mI ?_
  rintro r S' ⟨rfl, rfl⟩
  exact ⟨h.at hi hk, rfl⟩
theorem m_leg' (hCl : evCl G) (hV : (30, 0) ∈ evKs G) {A : Ab} (h : RepM A S) {i k w : Nat} (hi : i < 4) (hk : k < 6) (hw : w < 4) {b c : Int32} (hb : b = nI k) (hc : c = nI w) : evSp G yX6_ofLeg M_X6_ofLeg (d + 1) [.ref (evad G 30 0), .int (nI i), .int b, .int c] S (evQI fun r S' => r = iI (A.1 i (9 + (4 * k + w))) ∧ S' = S) := by
  refine (m_ofLeg (d := d) hCl hV hi hk hw rfl hb hc).mI ?_
  rintro r S' ⟨rfl, rfl⟩
  exact ⟨h.at hi (by omega), rfl⟩
theorem m_isAhead (hCl : evCl G) (hV : (30, 0) ∈ evKs G) {A : Ab} (h : RepM A S) (w : WfA A) {i p : Int32} : evSp G yX6_isAhead M_X6_isAhead (d + 2) [.ref (evad G 30 0), .int i, .int p] S (evQI fun r S' => r = (if badI i ∨ ¬ ahead (shN A i) p then 0 else 1) ∧ S' = S) := by
  refine vm_X6_isAhead (vb_X6_isAhead_0 hCl hV ((m_isShip (d := d) hCl).mI ?_))
  rintro r S' ⟨rfl, rfl⟩
  rcases ship_cases i with hb | ⟨n, hn, rfl⟩
  · rw [if_pos hb, if_pos (Or.inl hb)]
    exact ⟨fun _ => ⟨rfl, rfl⟩, fun z => absurd rfl z⟩
  · rw [if_neg (nbad hn)]
    refine ⟨fun z => absurd z (by decide), fun _ => ?_⟩
    have es : shN A (nI n) = A.1 n := by unfold shN; rw [pm_clamp hn]
    rw [es]
    refine (m_of' hCl hV h hn (k := 2) (by omega) rfl).mI ?_
    rintro r3 S4 ⟨rfl, rfl⟩
    refine (m_of' hCl hV h hn (k := 0) (by omega) rfl).mI ?_
    rintro r5 S6 ⟨rfl, rfl⟩
    have w1 := (w.1 n hn).1
    have r0 : rg (A.1 n 0) := rg_of (A := 6) (by omega) (by omega)
    have r2 : rg (A.1 n 2 + 1) := rg_of (A := 7) (by omega) (by omega)
    rw [iI_1, iI_add]
    refine (m_in' (P := ¬ ahead (A.1 n) p) hCl (by rw [lt_i r2, i_lt r0]; unfold ahead; omega)).mI ?_
    rintro r7 S8 ⟨rfl, rfl⟩
    by_cases ha : ahead (A.1 n) p
    · rw [if_neg (not_not_intro ha), if_neg (by rintro (z | z); exact nbad hn z; exact z ha)]
      exact ⟨fun z => absurd z (by decide), fun _ => ⟨rfl, rfl⟩⟩
    · rw [if_pos ha, if_pos (Or.inr ha)]
      exact ⟨fun _ => ⟨rfl, rfl⟩, fun z => absurd rfl z⟩
theorem m_plans' (hCl : evCl G) (hV : (30, 0) ∈ evKs G) {A : Ab} (h : RepM A S) (w : WfA A) {n : Nat} (hn : n < 4) : evSp G yX6_plans M_X6_plans (d + 5) [.ref (evad G 30 0), .int (nI n)] S (evQI fun r S' => r = (if stN (A.1 n) then 1 else 0) ∧ RepM A S' ∧ FrM S S' ∧ MPln S' n (A.1 n) (nF (A.1 n)) (nL (A.1 n))) := by
  refine (m_plans (d := d) hCl hV (w.1 n hn).p hn (h.rd w hn) (h.rt w hn) rfl).mI ?_
  rintro r S' ⟨rfl, b, P⟩
  exact ⟨rfl, (h.lay b).1, (h.lay b).2, P⟩
theorem y_holds (hCl : evCl G) (hV : (30, 0) ∈ evKs G) {A : Ab} (h : RepM A S) (w : WfA A) {i t : Int32} : evSp G yX6_holds M_X6_holds (d + 2) [.ref (evad G 30 0), .int i, .int t] S (mQ S (o_holds A i t)) := by
  refine vm_X6_holds (vb_X6_holds_0 hCl hV ((m_isShip (d := d) hCl).mI ?_))
  rintro r S' ⟨rfl, rfl⟩
  rcases ship_cases i with hb | ⟨n, hn, rfl⟩
  · rw [if_pos hb, show o_holds A i t = (-1, A) from if_pos (Or.inl hb)]
    exact ⟨fun _ => ⟨rfl, h, FrM.rf⟩, fun z => absurd rfl z⟩
  · rw [if_neg (nbad hn)]
    refine ⟨fun z => absurd z (by decide), fun _ => (m_in' (P := t < 1 ∨ ¬ t ≤ 99) hCl (by rw [nle_i])).mI ?_⟩
    rintro r3 S4 ⟨rfl, rfl⟩
    by_cases hp : t < 1 ∨ ¬ t ≤ 99
    · rw [if_pos hp, show o_holds A (nI n) t = (-1, A) from if_pos (Or.inr hp)]
      exact ⟨fun z => absurd rfl z, fun _ => ⟨rfl, h, FrM.rf⟩⟩
    · rw [if_neg hp]
      refine ⟨fun _ => (m_of' hCl hV h hn (k := 3) (by omega) rfl).mI ?_, fun z => absurd z (by decide)⟩
      rintro r5 S6 ⟨rfl, rfl⟩
      unfold o_holds
      rw [if_neg (by rintro (z | z); exact nbad hn z; exact hp z)]
      unfold shN
      rw [pm_clamp hn]
      have w3 := (w.1 n hn).2.2.1
      have t1 := t_lo (t := t) (a := 1) rfl ⟨by decide, by decide⟩ (fun z => hp (Or.inl z))
      have t2 := t_hi (t := t) (a := 99) rfl ⟨by decide, by decide⟩ (Classical.byContradiction fun z => hp (Or.inr z))
      have ea : iI (A.1 n 3) + t = iI (A.1 n 3 + t.toInt) := by conv => lhs; rw [self_i t, iI_add]
      rw [ea, show (9999 : Int32) = iI 9999 from rfl, iI_le (rg_of (A := 20000) (by omega) (by omega)) (rg_of (A := 9999) (by omega) (by omega))]
      refine ⟨fun hz => ?_, fun hz => ?_⟩
      · rw [if_neg (by omega)]
        refine (m_rem (d := d) hCl hV h w).mV ?_
        rintro S7 ⟨h7, f7, b7⟩
        rw [show (33 : Int32) = nI 33 from rfl, show (3 : Int32) = nI 3 from rfl, mad_n]
        refine ⟨vp_in_nI (by omega) (by omega), vp_in_nI (by omega) (by omega), ?_⟩
        rw [nI_clamp (by omega), h7.at hn (by omega)]
        rintro S10 rfl
        have h8 := h7.setR hn (j := 3) (by omega) ea
        refine (m_of' hCl hV h8 hn (by omega) rfl).mI ?_
        rintro r11 S12 ⟨rfl, rfl⟩
        refine ⟨?_, h8, f7.tr (FrM.up (by omega))⟩
        show iI (updF A.1 n 3 (A.1 n 3 + t.toInt) n 3) = _
        simp [updF]
      · rw [if_pos (by omega)]
        exact ⟨rfl, h, FrM.rf⟩
theorem y_fastens (hCl : evCl G) (hV : (30, 0) ∈ evKs G) {A : Ab} (h : RepM A S) (w : WfA A) {i t : Int32} : evSp G yX6_fastens M_X6_fastens (d + 2) [.ref (evad G 30 0), .int i, .int t] S (mQ S (o_fastens A i t)) := by
  refine vm_X6_fastens (vb_X6_fastens_0 hCl hV ((m_isShip (d := d) hCl).mI ?_))
  rintro r S' ⟨rfl, rfl⟩
  rcases ship_cases i with hb | ⟨n, hn, rfl⟩
  · rw [if_pos hb, show o_fastens A i t = (-1, A) from if_pos (Or.inl hb)]
    exact ⟨fun _ => ⟨rfl, h, FrM.rf⟩, fun z => absurd rfl z⟩
  · rw [if_neg (nbad hn)]
    refine ⟨fun z => absurd z (by decide), fun _ => (m_in' (P := t < 1 ∨ ¬ t ≤ 60) hCl (by rw [nle_i])).mI ?_⟩
    rintro r3 S4 ⟨rfl, rfl⟩
    by_cases hp : t < 1 ∨ ¬ t ≤ 60
    · rw [if_pos hp, show o_fastens A (nI n) t = (-1, A) from if_pos (Or.inr hp)]
      exact ⟨fun z => absurd rfl z, fun _ => ⟨rfl, h, FrM.rf⟩⟩
    · rw [if_neg hp]
      refine ⟨fun _ => (m_of' hCl hV h hn (k := 1) (by omega) rfl).mI ?_, fun z => absurd z (by decide)⟩
      rintro r5 S6 ⟨rfl, rfl⟩
      unfold o_fastens
      rw [if_neg (by rintro (z | z); exact nbad hn z; exact hp z)]
      unfold shN
      rw [pm_clamp hn]
      have w1 := (w.1 n hn).2.1
      rw [eq_i (rg_of (A := 60) (by omega) (by omega))]
      refine ⟨fun hz => ?_, fun hz => ?_⟩
      · rw [if_neg hz]
        refine (m_rem (d := d) hCl hV h w).mV ?_
        rintro S7 ⟨h7, f7, b7⟩
        rw [show (33 : Int32) = nI 33 from rfl, show (1 : Int32) = nI 1 from rfl, mad_n]
        refine ⟨vp_in_nI (by omega) (by omega), ?_⟩
        rw [nI_clamp (by omega)]
        rintro S10 rfl
        exact ⟨rfl, h7.setR hn (j := 1) (by omega) (self_i t), f7.tr (FrM.up (by omega))⟩
      · rw [if_pos hz]
        exact ⟨rfl, h, FrM.rf⟩
theorem y_ship (hCl : evCl G) (hV : (30, 0) ∈ evKs G) {A : Ab} (h : RepM A S) (w : WfA A) {i t : Int32} : evSp G yX6_ship M_X6_ship (d + 2) [.ref (evad G 30 0), .int i, .int t] S (mQ S (o_ship A i t)) := by
  refine vm_X6_ship (vb_X6_ship_0 hCl hV ((m_isShip (d := d) hCl).mI ?_))
  rintro r S' ⟨rfl, rfl⟩
  rcases ship_cases i with hb | ⟨n, hn, rfl⟩
  · rw [if_pos hb, show o_ship A i t = (-1, A) from if_pos (Or.inl hb)]
    exact ⟨fun _ => ⟨rfl, h, FrM.rf⟩, fun z => absurd rfl z⟩
  · rw [if_neg (nbad hn)]
    refine ⟨fun z => absurd z (by decide), fun _ => (m_in' (P := t < 0 ∨ ¬ t < 9) hCl (by rw [nlt_i (b := 8) (c := 9) (z := 8) rfl rfl ⟨by decide, by decide⟩ ⟨by decide, by decide⟩])).mI ?_⟩
    rintro r3 S4 ⟨rfl, rfl⟩
    by_cases hp : t < 0 ∨ ¬ t < 9
    · rw [if_pos hp, show o_ship A (nI n) t = (-1, A) from if_pos (Or.inr hp)]
      exact ⟨fun _ => ⟨rfl, h, FrM.rf⟩, fun z => absurd rfl z⟩
    · rw [if_neg hp]
      have t0 := t_lo (t := t) (a := 0) rfl ⟨by decide, by decide⟩ (fun z => hp (Or.inl z))
      have t9 := t_hs (t := t) (a := 9) rfl ⟨by decide, by decide⟩ (Classical.byContradiction fun z => hp (Or.inr z))
      have tc := t_cl t0
      refine ⟨fun z => absurd z (by decide), fun _ => (m_of' hCl hV h hn (k := t.toNatClampNeg) (by omega) (t_n t0)).mI ?_⟩
      rintro r5 S6 ⟨rfl, rfl⟩
      unfold o_ship
      rw [if_neg (by rintro (z | z); exact nbad hn z; exact hp z)]
      unfold shN
      rw [pm_clamp hn]
      exact ⟨rfl, h, FrM.rf⟩
theorem y_leg (hCl : evCl G) (hV : (30, 0) ∈ evKs G) {A : Ab} (h : RepM A S) (w : WfA A) {i k t : Int32} : evSp G yX6_leg M_X6_leg (d + 2) [.ref (evad G 30 0), .int i, .int k, .int t] S (mQ S (o_leg A i k t)) := by
  refine vm_X6_leg (vb_X6_leg_0 hCl hV ((m_isShip (d := d) hCl).mI ?_))
  rintro r S' ⟨rfl, rfl⟩
  rcases ship_cases i with hb | ⟨n, hn, rfl⟩
  · rw [if_pos hb, show o_leg A i k t = (-1, A) from if_pos (Or.inl hb)]
    exact ⟨fun _ => ⟨rfl, h, FrM.rf⟩, fun z => absurd rfl z⟩
  · rw [if_neg (nbad hn)]
    refine ⟨fun z => absurd z (by decide), fun _ => (m_of' hCl hV h hn (k := 0) (by omega) rfl).mI ?_⟩
    rintro r3 S4 ⟨rfl, rfl⟩
    have w1 := (w.1 n hn).1
    have es : shN A (nI n) = A.1 n := by unfold shN; rw [pm_clamp hn]
    rw [iI_1, iI_sub]
    refine (m_in' (P := k < 0 ∨ A.1 n 0 ≤ k.toInt) hCl (by rw [i_lt (rg_of (A := 7) (by omega) (by omega))]; constructor <;> (rintro (z | z); exact Or.inl z; exact Or.inr (by omega)))).mI ?_
    rintro r5 S6 ⟨rfl, rfl⟩
    by_cases hk : k < 0 ∨ A.1 n 0 ≤ k.toInt
    · rw [if_pos hk, show o_leg A (nI n) k t = (-1, A) from if_pos (Or.inr (Or.inr (Or.inr (by rw [es]; exact hk))))]
      exact ⟨fun _ => ⟨rfl, h, FrM.rf⟩, fun z => absurd rfl z⟩
    · rw [if_neg hk]
      refine ⟨fun z => absurd z (by decide), fun _ => (m_in' (P := t < 0 ∨ ¬ t < 4) hCl (by rw [nlt_i (b := 3) (c := 4) (z := 3) rfl rfl ⟨by decide, by decide⟩ ⟨by decide, by decide⟩])).mI ?_⟩
      rintro r7 S8 ⟨rfl, rfl⟩
      by_cases hp : t < 0 ∨ ¬ t < 4
      · rw [if_pos hp, show o_leg A (nI n) k t = (-1, A) from if_pos (Or.inr (hp.elim Or.inl (fun z => Or.inr (Or.inl z))))]
        exact ⟨fun _ => ⟨rfl, h, FrM.rf⟩, fun z => absurd rfl z⟩
      · rw [if_neg hp]
        have t0 := t_lo (t := t) (a := 0) rfl ⟨by decide, by decide⟩ (fun z => hp (Or.inl z))
        have t9 := t_hs (t := t) (a := 4) rfl ⟨by decide, by decide⟩ (Classical.byContradiction fun z => hp (Or.inr z))
        have tc := t_cl t0
        have k0 := t_lo (t := k) (a := 0) rfl ⟨by decide, by decide⟩ (fun z => hk (Or.inl z))
        have kc := t_cl k0
        refine ⟨fun z => absurd z (by decide), fun _ => (m_leg' (d := d) hCl hV h hn (k := k.toNatClampNeg) (w := t.toNatClampNeg) (by omega) (by omega) (t_n k0) (t_n t0)).mI ?_⟩
        rintro r9 S10 ⟨rfl, rfl⟩
        unfold o_leg
        rw [if_neg (by
          rintro (z | z | z | z | z)
          · exact nbad hn z
          · exact hp (Or.inl z)
          · exact hp (Or.inr z)
          · exact hk (Or.inl z)
          · rw [es] at z; exact hk (Or.inr z)), es]
        exact ⟨rfl, h, FrM.rf⟩
theorem y_moves (hCl : evCl G) (hV : (30, 0) ∈ evKs G) {A : Ab} (h : RepM A S) (w : WfA A) {i p o c : Int32} : evSp G yX6_moves M_X6_moves (d + 3) [.ref (evad G 30 0), .int i, .int p, .int o, .int c] S (mQ S (o_moves A i p o c)) := by
  refine vm_X6_moves (vb_X6_moves_0 hCl hV ((m_isAhead (d := d) hCl hV h w).mI ?_))
  rintro r S' ⟨rfl, rfl⟩
  by_cases hb : badI i ∨ ¬ ahead (shN A i) p
  · rw [if_pos hb, show o_moves A i p o c = (-1, A) from if_pos (hb.elim Or.inl (fun z => Or.inr (Or.inl z)))]
    exact ⟨fun _ => ⟨rfl, h, FrM.rf⟩, fun z => absurd rfl z⟩
  · rw [if_neg hb]
    refine ⟨fun z => absurd z (by decide), fun _ => (m_in hCl).mI ?_⟩
    rintro r3 S4 ⟨rfl, rfl⟩
    rcases ship_cases i with hbi | ⟨n, hn, rfl⟩
    · exact absurd (Or.inl hbi) hb
    have es : shN A (nI n) = A.1 n := by unfold shN; rw [pm_clamp hn]
    have ha : ahead (A.1 n) p := Classical.byContradiction fun z => hb (Or.inr (by rw [es]; exact z))
    obtain ⟨k, rfl, k1, k2, k6⟩ := ahead_k (w.1 n hn) ha
    have wl := (w.1 n hn).2.2.2.2 k k2
    by_cases h1 : o < 0
    · rw [if_pos (Or.inl h1), show o_moves A (nI n) (nI (k + 1)) o c = (-1, A) from if_pos (Or.inr (Or.inr (Or.inl h1)))]
      exact ⟨fun _ => ⟨rfl, h, FrM.rf⟩, fun z => absurd rfl z⟩
    by_cases h2 : c < o ∨ ¬ c ≤ 999
    · rw [show o_moves A (nI n) (nI (k + 1)) o c = (-1, A) from if_pos (Or.inr (Or.inr (Or.inr h2)))]
      refine ⟨fun _ => ⟨rfl, h, FrM.rf⟩, fun _ => (m_in' (P := c < o ∨ ¬ c ≤ 999) hCl (by rw [nle_i])).mI ?_⟩
      rintro r5 S6 ⟨rfl, rfl⟩
      rw [if_pos h2]
      exact ⟨fun z => absurd rfl z, fun _ => ⟨rfl, h, FrM.rf⟩⟩
    have ho : ¬ (o < 0 ∨ 999 < o) := by
      rintro (z | z)
      · exact h1 z
      · apply h2
        by_cases y : c < o
        · exact Or.inl y
        · right; rw [nle_i]; rw [Int32.lt_iff_toInt_lt] at *; omega
    rw [if_neg ho]
    refine ⟨fun z => absurd z (by decide), fun _ => (m_in' (P := c < o ∨ ¬ c ≤ 999) hCl (by rw [nle_i])).mI ?_⟩
    rintro r5 S6 ⟨rfl, rfl⟩
    rw [if_neg h2]
    refine ⟨fun _ => ?_, fun z => absurd z (by decide)⟩
    rintro v7 hv7
    rw [dec_n hv7]
    have eo : o_moves A (nI n) (nI (k + 1)) o c = if A.1 n (9 + (4 * k + 2)) = o.toInt ∧ A.1 n (9 + (4 * k + 3)) = c.toInt then (-2, A) else (1, updF (updF A.1 n (9 + (4 * k + 2)) o.toInt) n (9 + (4 * k + 3)) c.toInt, pushP A.1 A.2.1, A.2.2) := by
      unfold o_moves
      rw [if_neg (by
        rintro (z | z | z | z)
        · exact nbad hn z
        · rw [es] at z; exact z ha
        · exact h1 z
        · exact h2 z), es, pm_clamp hn, nI_clamp (by omega), Nat.add_sub_cancel]
    have fin : ¬ (A.1 n (9 + (4 * k + 2)) = o.toInt ∧ A.1 n (9 + (4 * k + 3)) = c.toInt) → bk_X6_moves_67 G (d + 2) (mQ S6 (o_moves A (nI n) (nI (k + 1)) o c)) 0 (nI n) o c (nI k) S6 := by
      intro hz
      rw [eo, if_neg hz]
      refine vb_X6_moves_67 hCl hV ((m_rem (d := d + 1) hCl hV h w).mV ?_)
      rintro S7 ⟨h7, f7, b7⟩
      refine (m_legPlace (k := k) (w := 2) hCl).mI ?_
      rintro r8 S8 ⟨rfl, rfl⟩
      rw [show (33 : Int32) = nI 33 from rfl, mad_n]
      refine ⟨vp_in_nI (by omega) (by omega), ?_⟩
      rw [nI_clamp (by omega)]
      rintro S9 rfl
      refine (m_legPlace (k := k) (w := 3) hCl).mI ?_
      rintro r10 S10 ⟨rfl, rfl⟩
      rw [mad_n]
      refine ⟨vp_in_nI (by omega) (by omega), ?_⟩
      rw [nI_clamp (by omega)]
      rintro S11 rfl
      exact ⟨rfl, (h7.setR hn (j := 9 + (4 * k + 2)) (by omega) (self_i o)).setR hn (j := 9 + (4 * k + 3)) (by omega) (self_i c), (f7.tr (FrM.up (by omega))).tr (FrM.up (by omega))⟩
    refine (m_leg' (d := d + 1) hCl hV h hn (k := k) (w := 2) (by omega) (by omega) rfl rfl).mI ?_
    rintro r8 S9 ⟨rfl, rfl⟩
    rw [eq_i (rg_of (A := 999) (by omega) (by omega))]
    refine ⟨fun hz => fin (fun z => hz z.1), fun hz => ?_⟩
    refine (m_leg' (d := d + 1) hCl hV h hn (k := k) (w := 3) (by omega) (by omega) rfl rfl).mI ?_
    rintro r8 S9 ⟨rfl, rfl⟩
    rw [eq_i (rg_of (A := 999) (by omega) (by omega))]
    refine ⟨fun hy => fin (fun z => hy z.2), fun hy => ?_⟩
    rw [eo, if_pos ⟨hz, hy⟩]
    exact ⟨rfl, h, FrM.rf⟩
end C8b
