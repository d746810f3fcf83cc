/-! CONTRACTS: Plan.sailedOnLeg, mileAt -/
def snc (D : Nat → Int) (f l k : Nat) (h : Int) : Int := miA D f l k * (h - wtD D f (k + 1) - pH D f l (sB D f l k)) - hoA D f l k * (farD D k - farD D (sB D f l k))
theorem snc_b {D : Nat → Int} {f l k : Nat} (w : WfP D f l) (h1 : f ≤ k) (h2 : k < l) {h : Int} (hh : 0 ≤ h ∧ h ≤ 999) : -20000000 ≤ snc D f l k h ∧ snc D f l k h ≤ 20000000 := by
  have b := sBE w h1 h2
  have h6 := w.2.2.2.1
  have wt := wtD_b w (k + 1) (by omega)
  have fb := far_be (geoD w) (b := sB D f l k) (e := k) b.2.1 (by omega)
  have b1 := bmul (a := miA D f l k) (b := h - wtD D f (k + 1) - pH D f l (sB D f l k)) (A := 594) (B := 12000) (by omega) (by omega)
  have b2 := bmul (a := hoA D f l k) (b := farD D k - farD D (sB D f l k)) (A := 10300) (B := 594) (by omega) (by omega)
  unfold snc
  omega
theorem sld_eq {D : Nat → Int} {f l k : Nat} {h : Int} : sld D f l k h = if 0 < snc D f l k h then min (D (9 + 4 * k)) ((snc D f l k h).tdiv (hoA D f l k)) else 0 := rfl
section C5i
variable {G : evG} {d : Nat} {S : evS}
theorem c_sailedOnLeg (hCl : evCl G) {x f l k : Nat} {D : Nat → Int} {h : Int} (hV : (6, x) ∈ evKs G) (w : WfP D f l) (P : PlnR S x D f l) (hk1 : f ≤ k) (hk2 : k < l) (hho : 0 < hoA D f l k) (hh : 0 ≤ h ∧ h ≤ 999) : evSp G yX2_sailedOnLeg M_X2_sailedOnLeg (d + 2) [.ref (evad G 6 x), .int (nI k), .int (iI h)] S (evQI fun r S' => r = iI (sld D f l k h) ∧ S' = S) := by
  have b := sBE w hk1 hk2
  have h6 := w.2.2.2.1
  have ps := P.2.2.1 k hk1 hk2
  have sb := snc_b w hk1 hk2 hh
  have wl := w.2.2.2.2.2.2.2.2 k hk2
  refine vm_X2_sailedOnLeg (vb_X2_sailedOnLeg_0 hCl hV ((c_hoursAround hCl hV w P hk1 hk2).mI ?_))
  rintro r1 S2 ⟨rfl, rfl⟩
  rw [iI_0, iI_lt (rg_of (A := 0) (by omega) (by omega)) (rg_of (A := 10300) (by omega) (by omega))]
  refine ⟨fun _ => ?_, fun h => absurd hho h⟩
  rw [nI_1, nI_clamp (n := k) (by omega), nI_clamp (n := k + 1) (by omega), ps.1]
  refine ⟨vp_in_nI (by omega) (by omega), fun v4 h4 => ?_⟩
  have e4 : v4 = nI (sB D f l k) := h4
  clear h4
  subst e4
  rw [nI_clamp (n := sB D f l k) (by omega), P.2.2.2.1 (k + 1) (by omega) (by omega), (P.2.1 (sB D f l k) b.1 (by omega)).2 b.2.2.2.2.2.2.1, iI_sub, iI_sub]
  refine ⟨vp_in_nI (by omega) (by omega), vp_in_nI (by omega) (by omega), fun v7 h7 => (c_milesAround hCl hV w P hk1 hk2).mI ?_⟩
  rintro r8 S9 ⟨rfl, rfl⟩
  refine ⟨vp_in_nI (by omega) (by omega), vp_in_nI (by omega) (by omega), fun v12 h12 => ?_⟩
  rw [P.1.2.2.1 k (by omega), P.1.2.2.1 (sB D f l k) (by omega), h7, iI_sub, iI_mul, iI_mul, iI_sub] at h12
  have e12 : v12 = iI (snc D f l k h) := h12
  clear h12
  subst e12
  rw [iI_lt (rg_of (A := 0) (by omega) (by omega)) (rg_of sb (by omega))]
  refine ⟨fun hz => (c_milesOfLeg hCl hV w P hk1 hk2).mI ?_, fun hz => ⟨by rw [sld_eq, if_neg hz], rfl⟩⟩
  rintro r13 S14 ⟨rfl, rfl⟩
  have tq : 0 ≤ (snc D f l k h).tdiv (hoA D f l k) ∧ (snc D f l k h).tdiv (hoA D f l k) ≤ 20000000 := by
    rw [Int.tdiv_eq_ediv_of_nonneg (by omega)]
    refine ⟨Int.ediv_nonneg (by omega) (by omega), ?_⟩
    have := Int.ediv_le_self (a := snc D f l k h) (hoA D f l k) (by omega)
    omega
  rw [iI_eq (rg_of (A := 10300) (by omega) (by omega)) (rg_of (A := 0) (by omega) (by omega)), iI_div (rg_of sb (by omega)) (rg_of (A := 10300) (by omega) (by omega))]
  refine ⟨by omega, (c_min hCl).mI ?_⟩
  rintro r16 S17 ⟨rfl, rfl⟩
  refine ⟨?_, rfl⟩
  rw [iI_min (rg_of (A := 99) (by omega) (by omega)) (rg_of (A := 20000000) (by omega) (by omega)), sld_eq, if_pos hz]
theorem c_mileAt_loop (hCl : evCl G) {x f l : Nat} {D : Nat → Int} {h : Int} (hV : (6, x) ∈ evKs G) (w : WfP D f l) (P : PlnR S x D f l) (hho : ∀ k, f ≤ k → k < l → 0 < hoA D f l k) (hh : 0 ≤ h ∧ h ≤ 999) {q : Int32 → evS → Prop} (hq : q (iI (ssm D f l h l)) S) :
    ∀ n k, k + n = l → f ≤ k → bk_X2_mileAt_25 G (d + 2) (evQI q) x (iI h) (iI (ssm D f l h k)) (nI k) S := by
  have h6 := w.2.2.2.1
  intro n
  induction n with
  | zero =>
    intro k hk _
    refine vb_X2_mileAt_25 hCl hV ⟨fun _ => by rw [show k = l by omega]; exact hq, fun h => absurd (by rw [P.1.2.1]; exact nI_le (by omega) (by omega)) h⟩
  | succ n ih =>
    intro k hk hf
    refine vb_X2_mileAt_25 hCl hV ⟨fun h => absurd h (by rw [P.1.2.1]; exact nI_ge (by omega) (by omega)), fun _ => (c_sailedOnLeg hCl hV w P hf (by omega) (hho k hf (by omega)) hh).mI ?_⟩
    rintro r1 S2 ⟨rfl, rfl⟩ v3 h3 v4 h4
    rw [nI_1] at h4
    have e : ssm D f l h (k + 1) = ssm D f l h k + sld D f l k h := by
      conv => lhs; unfold ssm
      rw [if_pos hf]
    rw [iI_add, ← e] at h3
    subst h3 h4
    exact ih (k + 1) (by omega) (by omega)
/-- MILE: -9 without a plan -/
def mileS (D : Nat → Int) (f l : Nat) (h : Int) : Int := if 0 < pNeed D f l ∧ pNeed D f l ≤ D 1 then ssm D f l h l else -9
theorem c_mileAt (hCl : evCl G) {x f l : Nat} {D : Nat → Int} {h : Int} (hV : (6, x) ∈ evKs G) (w : WfP D f l) (P : PlnR S x D f l) (hh : 0 ≤ h ∧ h ≤ 999) : evSp G yX2_mileAt M_X2_mileAt (d + 3) [.ref (evad G 6 x), .int (iI h)] S (evQI fun r S' => r = iI (mileS D f l h) ∧ S' = S) := by
  have h6 := w.2.2.2.1
  refine vm_X2_mileAt (vb_X2_mileAt_0 hCl hV ((c_stands hCl hV P (need_b w) ⟨w.2.2.2.2.2.2.1, w.2.2.2.2.2.2.2.1⟩).mI ?_))
  rintro r1 S2 ⟨hr, rfl⟩
  by_cases hs : 0 < pNeed D f l ∧ pNeed D f l ≤ D 1
  · rw [if_pos hs] at hr
    subst hr
    refine ⟨fun _ => ⟨by rw [P.1.1]; exact vp_in_nI (by have := w.2.2.1; omega) (by omega), fun v4 h4 v5 h5 => ?_⟩, fun h => absurd h (by decide)⟩
    rw [P.1.1, nI_clamp (by have := w.2.2.1; omega), P.1.2.2.1 f w.2.2.1] at h4
    rw [P.1.1] at h5
    have e : farD D f = ssm D f l h f := by
      cases f with
      | zero => rfl
      | succ f => unfold ssm; rw [if_neg (by omega)]
    rw [e] at h4
    subst h4 h5
    refine c_mileAt_loop hCl hV w P (fun k a1 a2 => stand_ho w hs.1 a1 a2) hh ⟨?_, rfl⟩ (l - f) f (by have := w.2.2.1; omega) (Nat.le_refl _)
    unfold mileS
    rw [if_pos hs]
  · rw [if_neg hs] at hr
    subst hr
    refine ⟨fun h => absurd rfl h, fun _ => ⟨?_, rfl⟩⟩
    unfold mileS
    rw [if_neg hs]
    rfl
end C5i
