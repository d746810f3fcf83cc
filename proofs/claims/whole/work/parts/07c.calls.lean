/-! THE CLASS'S CALLS, by what they answer -/
theorem i_lt {z : Int} (h : rg z) {t : Int32} : iI z < t ↔ z < t.toInt := by rw [Int32.lt_iff_toInt_lt, iI_toInt h]
theorem lt_i {z : Int} (h : rg z) {t : Int32} : t < iI z ↔ t.toInt < z := by rw [Int32.lt_iff_toInt_lt, iI_toInt h]
theorem i_le {z : Int} (h : rg z) {t : Int32} : iI z ≤ t ↔ z ≤ t.toInt := by rw [Int32.le_iff_toInt_le, iI_toInt h]
theorem le_i {z : Int} (h : rg z) {t : Int32} : t ≤ iI z ↔ t.toInt ≤ z := by rw [Int32.le_iff_toInt_le, iI_toInt h]
theorem eq_i {z : Int} (h : rg z) {t : Int32} : iI z = t ↔ z = t.toInt := ⟨fun e => by rw [← e, iI_toInt h], fun e => by rw [e]; exact (self_i t).symm⟩
theorem nbad {n : Nat} (h : n < 4) : ¬ badI (nI n) := by
  rintro (z | z)
  · exact absurd z (nI_pos (by omega))
  · exact absurd z (nI_nlt (a := 3) (by omega) (by omega))
theorem t_lo {t : Int32} {a : Int} {c : Int32} (hc : c = iI a) (ha : rg a) (h : ¬ t < c) : a ≤ t.toInt := by subst hc; rw [lt_i ha] at h; omega
theorem t_hi {t : Int32} {a : Int} {c : Int32} (hc : c = iI a) (ha : rg a) (h : t ≤ c) : t.toInt ≤ a := by subst hc; rw [le_i ha] at h; omega
theorem t_hs {t : Int32} {a : Int} {c : Int32} (hc : c = iI a) (ha : rg a) (h : t < c) : t.toInt < a := by subst hc; rw [lt_i ha] at h; omega
theorem t_n {t : Int32} (h : 0 ≤ t.toInt) : t = nI t.toNatClampNeg := by
  have e : (t.toNatClampNeg : Int) = t.toInt := by
    have := iI_cl (rg_i t)
    rw [← self_i t] at this
    omega
  rw [iI_n, e]
  exact self_i t
theorem t_cl {t : Int32} (h : 0 ≤ t.toInt) : (t.toNatClampNeg : Int) = t.toInt := by
  have := iI_cl (rg_i t)
  rw [← self_i t] at this
  omega
theorem ahead_k {D : Nat → Int} {p : Int32} (w : WfS D) (h : ahead D p) : ∃ k, p = nI (k + 1) ∧ nF D ≤ k ∧ k < nL D ∧ k < 6 := by
  have w1 := w.1
  have h1 := h.1
  have h2 := h.2
  have hc := t_cl (t := p) (by omega)
  have hn := t_n (t := p) (by omega)
  refine ⟨p.toNatClampNeg - 1, ?_, ?_, ?_, ?_⟩
  · rw [show p.toNatClampNeg - 1 + 1 = p.toNatClampNeg by omega]; exact hn
  · unfold nF; omega
  · unfold nL; omega
  · omega
theorem legAh_k {D : Nat → Int} {p : Int32} (w : WfS D) (h : legAh D p) : ∃ k, p = nI k ∧ nF D ≤ k ∧ k < nL D ∧ k < 6 := by
  have w1 := w.1
  have h1 := h.1
  have h2 := h.2
  have hc := t_cl (t := p) (by omega)
  have hn := t_n (t := p) (by omega)
  refine ⟨p.toNatClampNeg, hn, ?_, ?_, ?_⟩
  · unfold nF; omega
  · unfold nL; omega
  · omega
theorem tU_b {D : Nat → Int} {f l k : Nat} (w : WfP D f l) (h1 : f ≤ k) (h2 : k < l) : -2000000000 ≤ tU D f l k ∧ tU D f l k ≤ 2000000000 := by
  obtain ⟨a1, a2, a3, a4, a5, a6, a7, a8, a9, a10, a11⟩ := sBE w h1 h2
  have b := evn_b (geoD w) (b := sB D f l k) (e := sE D f l k) (p := k + 1) (by omega) (by omega) a4 a5 a6
  have c := wtD_b w (k + 1) (by omega)
  have l6 : l ≤ 6 := w.2.2.2.1
  have e := bmul (a := wtD D f (k + 1)) (b := miA D f l k) (A := 54) (B := 594) (by omega) (by omega)
  unfold tU
  omega
section C7c
variable {G : evG} {d : Nat} {S : evS}
theorem x_port (hCl : evCl G) {n : Nat} {D : Nat → Int} (hV : (3, n) ∈ evKs G) (hs : ShD S n D) (w : WfS D) {p : Int32} : evSp G yX3_isPortAhead M_X3_isPortAhead d [.ref (evad G 3 n), .int p] S (evQI fun r S' => r = (if ahead D p then 1 else 0) ∧ S' = S) := by
  have w1 := w.1
  refine (c_isPortAhead hCl hV).mI ?_
  rintro r S' ⟨rfl, rfl⟩
  refine ⟨?_, rfl⟩
  rw [hs.t (by omega), hs.t (by omega)]
  by_cases h : ahead D p
  · rw [if_pos h, if_neg (by rw [le_i (rg_of (A := 6) (by omega) (by omega)), i_lt (rg_of (A := 6) (by omega) (by omega))]; have := h.1; have := h.2; omega)]
  · rw [if_neg h, if_pos (by rw [le_i (rg_of (A := 6) (by omega) (by omega)), i_lt (rg_of (A := 6) (by omega) (by omega))]; unfold ahead at h; omega)]
theorem x_legA (hCl : evCl G) {n : Nat} {D : Nat → Int} (hV : (3, n) ∈ evKs G) (hs : ShD S n D) (w : WfS D) {p : Int32} : evSp G yX3_isLegAhead M_X3_isLegAhead d [.ref (evad G 3 n), .int p] S (evQI fun r S' => r = (if legAh D p then 1 else 0) ∧ S' = S) := by
  have w1 := w.1
  refine (c_isLegAhead hCl hV).mI ?_
  rintro r S' ⟨rfl, rfl⟩
  refine ⟨?_, rfl⟩
  rw [hs.t (by omega), hs.t (by omega)]
  by_cases h : legAh D p
  · rw [if_pos h, if_neg (by rw [lt_i (rg_of (A := 6) (by omega) (by omega)), i_le (rg_of (A := 6) (by omega) (by omega))]; have := h.1; have := h.2; omega)]
  · rw [if_neg h, if_pos (by rw [lt_i (rg_of (A := 6) (by omega) (by omega)), i_le (rg_of (A := 6) (by omega) (by omega))]; unfold legAh at h; omega)]
theorem x_drawn (hCl : evCl G) (hV : (0, 0) ∈ evKs G) {n : Nat} {A : Ab} (hn : n < 4) (h : RepC A S) (w : WfA A) : evSp G yX5_drawnPlan M_X5_drawnPlan (d + 5) [.ref (evad G 0 0), .int (nI n)] S (evQR (evad G 6 n) fun S' => RepC A S' ∧ FrC S S' ∧ PlnR S' n (A.1 n) (nF (A.1 n)) (nL (A.1 n))) := by
  refine (c_drawnPlan hCl hV hn h.1 w.1).mR ?_
  rintro S' ⟨h1, h2⟩
  exact ⟨(h.plan h1).1, (h.plan h1).2, h2⟩
theorem x_fastens (hCl : evCl G) (hV : (0, 0) ∈ evKs G) {A : Ab} (h : RepC A S) (w : WfA A) {i t : Int32} : evSp G yX5_fastens M_X5_fastens (d + 4) [.ref (evad G 0 0), .int i, .int t] S (xQ S (o_fastens A i t)) := by
  rcases ship_cases i with hb | ⟨n, hn, rfl⟩
  · rw [show o_fastens A i t = (-1, A) from if_pos (Or.inl hb)]
    refine vm_X5_fastens (vb_X5_fastens_0 hCl hV ((c_noShip1 hCl hb).mI ?_))
    rintro r S' ⟨rfl, rfl⟩
    exact ⟨fun _ => ⟨rfl, h, FrC.rf⟩, fun z => absurd z (by decide)⟩
  · refine vm_X5_fastens (vb_X5_fastens_0 hCl hV ((c_noShip0 hCl hn).mI ?_))
    rintro r S' ⟨rfl, rfl⟩
    refine ⟨fun z => absurd rfl z, fun _ => ⟨fun h1 => ?_, fun h1 => ⟨fun h2 => ?_, fun h2 => ?_⟩⟩⟩
    · rw [show o_fastens A (nI n) t = (-1, A) from if_pos (Or.inr (Or.inl h1))]
      exact ⟨rfl, h, FrC.rf⟩
    · rw [pm_clamp hn]
      refine ⟨vp_in_nI hn (by omega), (c_trait hCl (k_ship hCl hV hn) (j := 1) (by omega) rfl).mI ?_⟩
      rintro r4 S5 ⟨rfl, rfl⟩
      have w1 := (w.1 n hn).2.1
      rw [(h.1.sh hn).t (by omega), eq_i (rg_of (A := 60) (by omega) (by omega))]
      unfold o_fastens
      rw [if_neg (by rintro (z | z | z); exact nbad hn z; exact h1 z; exact z h2)]
      unfold shN
      rw [pm_clamp hn]
      refine ⟨fun hz => ?_, fun hz => ?_⟩
      · rw [if_neg hz]
        refine (c_rem (d := d) hCl hV h w).mV ?_
        rintro S7 ⟨h7, f7⟩
        refine (c_setTrait hCl (k_ship hCl hV hn) (j := 1) (by omega) rfl).mV ?_
        rintro S8 rfl
        exact ⟨rfl, h7.setT hn (by omega) (self_i t), f7.tr (FrC.up (by omega))⟩
      · rw [if_pos hz]
        exact ⟨rfl, h, FrC.rf⟩
    · rw [show o_fastens A (nI n) t = (-1, A) from if_pos (Or.inr (Or.inr h2))]
      exact ⟨rfl, h, FrC.rf⟩
theorem x_ship (hCl : evCl G) (hV : (0, 0) ∈ evKs G) {A : Ab} (h : RepC A S) (w : WfA A) {i t : Int32} : evSp G yX5_ship M_X5_ship (d + 1) [.ref (evad G 0 0), .int i, .int t] S (xQ S (o_ship A i t)) := by
  rcases ship_cases i with hb | ⟨n, hn, rfl⟩
  · rw [show o_ship A i t = (-1, A) from if_pos (Or.inl hb)]
    refine vm_X5_ship (vb_X5_ship_0 hCl hV ((c_noShip1 hCl hb).mI ?_))
    rintro r S' ⟨rfl, rfl⟩
    exact ⟨fun _ => ⟨rfl, h, FrC.rf⟩, fun z => absurd z (by decide)⟩
  · refine vm_X5_ship (vb_X5_ship_0 hCl hV ((c_noShip0 hCl hn).mI ?_))
    rintro r S' ⟨rfl, rfl⟩
    refine ⟨fun z => absurd rfl z, fun _ => ⟨fun h1 => ?_, fun h1 => ⟨fun h2 => ?_, fun h2 => ?_⟩⟩⟩
    · rw [show o_ship A (nI n) t = (-1, A) from if_pos (Or.inr (Or.inl h1))]
      exact ⟨rfl, h, FrC.rf⟩
    · have t0 := t_lo (a := 0) rfl ⟨by decide, by decide⟩ h1
      have t9 := t_hs (a := 9) rfl ⟨by decide, by decide⟩ h2
      have tc := t_cl t0
      unfold o_ship
      rw [if_neg (by rintro (z | z | z); exact nbad hn z; exact h1 z; exact z h2)]
      unfold shN
      rw [pm_clamp hn]
      refine ⟨vp_in_nI hn (by omega), (c_trait hCl (k_ship hCl hV hn) (j := t.toNatClampNeg) (by omega) (t_n t0)).mI ?_⟩
      rintro r4 S5 ⟨rfl, rfl⟩
      rw [(h.1.sh hn).t (by omega)]
      exact ⟨rfl, h, FrC.rf⟩
    · rw [show o_ship A (nI n) t = (-1, A) from if_pos (Or.inr (Or.inr h2))]
      exact ⟨rfl, h, FrC.rf⟩
theorem x_leg (hCl : evCl G) (hV : (0, 0) ∈ evKs G) {A : Ab} (h : RepC A S) (w : WfA A) {i k t : Int32} : evSp G yX5_leg M_X5_leg (d + 2) [.ref (evad G 0 0), .int i, .int k, .int t] S (xQ S (o_leg A i k t)) := by
  rcases ship_cases i with hb | ⟨n, hn, rfl⟩
  · rw [show o_leg A i k t = (-1, A) from if_pos (Or.inl hb)]
    refine vm_X5_leg (vb_X5_leg_0 hCl hV ((c_noShip1 hCl hb).mI ?_))
    rintro r S' ⟨rfl, rfl⟩
    exact ⟨fun _ => ⟨rfl, h, FrC.rf⟩, fun z => absurd z (by decide)⟩
  · refine vm_X5_leg (vb_X5_leg_0 hCl hV ((c_noShip0 hCl hn).mI ?_))
    rintro r S' ⟨rfl, rfl⟩
    refine ⟨fun z => absurd rfl z, fun _ => ⟨fun h1 => ?_, fun h1 => ⟨fun h2 => ?_, fun h2 => ?_⟩⟩⟩
    · rw [show o_leg A (nI n) k t = (-1, A) from if_pos (Or.inr (Or.inl h1))]
      exact ⟨rfl, h, FrC.rf⟩
    · refine ⟨vp_in_nI hn (by omega), fun h3 => ?_, fun h3 => ?_⟩
      · rw [show o_leg A (nI n) k t = (-1, A) from if_pos (Or.inr (Or.inr (Or.inr (Or.inl h3))))]
        exact ⟨rfl, h, FrC.rf⟩
      · rw [pm_clamp hn]
        refine (c_trait hCl (k_ship hCl hV hn) (j := 0) (by omega) rfl).mI ?_
        rintro r4 S5 ⟨rfl, rfl⟩
        have w0 := (w.1 n hn).1
        rw [(h.1.sh hn).t (by omega), lt_i (rg_of (A := 6) (by omega) (by omega))]
        refine ⟨fun h4 => ?_, fun h4 => ?_⟩
        · have t0 := t_lo (a := 0) rfl ⟨by decide, by decide⟩ h1
          have t9 := t_hs (a := 4) rfl ⟨by decide, by decide⟩ h2
          have tc := t_cl t0
          have k0 := t_lo (a := 0) rfl ⟨by decide, by decide⟩ h3
          have kc := t_cl k0
          refine (c_ofLeg (d := d) hCl (k_ship hCl hV hn) (k := k.toNatClampNeg) (w := t.toNatClampNeg) (by omega) (by omega) (t_n k0) (t_n t0)).mI ?_
          rintro r6 S7 ⟨rfl, rfl⟩
          unfold o_leg
          rw [if_neg (by
            rintro (z | z | z | z | z)
            · exact nbad hn z
            · exact h1 z
            · exact z h2
            · exact h3 z
            · unfold shN at z; rw [pm_clamp hn] at z; omega)]
          unfold shN
          rw [pm_clamp hn, (h.1.sh hn).l (by omega)]
          exact ⟨rfl, h, FrC.rf⟩
        · rw [show o_leg A (nI n) k t = (-1, A) from if_pos (Or.inr (Or.inr (Or.inr (Or.inr (by unfold shN; rw [pm_clamp hn]; omega)))))]
          exact ⟨rfl, h, FrC.rf⟩
    · rw [show o_leg A (nI n) k t = (-1, A) from if_pos (Or.inr (Or.inr (Or.inl h2)))]
      exact ⟨rfl, h, FrC.rf⟩
end C7c
