/-! CONTRACTS: the greatest common measure, both sides -/
theorem nat_rem {x y : Nat} (hx : x < 2147483648) (hy : y < 2147483648) : iI x - iI x / iI y * iI y = iI ((x % y : Nat) : Int) := by
  rw [iI_div (rg_n hx) (rg_n hy), iI_mul, iI_sub, Int.tdiv_eq_ediv_of_nonneg (by omega)]
  congr 1
  have := Int.emod_add_mul_ediv (x : Int) (y : Int)
  rw [Int.mul_comm] at this
  rw [Int.natCast_emod]
  omega
theorem nat_reml {x y : Nat} (hx : x < 2147483648) (hy : y < 2147483648) : lI x - lI x / lI y * lI y = lI ((x % y : Nat) : Int) := by
  rw [lI_div (rg_rgl (rg_n hx)) (rg_rgl (rg_n hy)), lI_mul, lI_sub, Int.tdiv_eq_ediv_of_nonneg (by omega)]
  congr 1
  have := Int.emod_add_mul_ediv (x : Int) (y : Int)
  rw [Int.mul_comm] at this
  rw [Int.natCast_emod]
  omega
theorem half_rem {y r : Nat} (h0 : 0 < r) (h : r < y) : 2 * (y % r) < y := by
  have h1 := Nat.mod_lt y h0
  by_cases hz : 2 * r ≤ y
  · omega
  · have : y % r = y - r := by rw [Nat.mod_eq_sub_mod (by omega), Nat.mod_eq_of_lt (by omega)]
    omega
theorem gcd_step {x y : Nat} : Nat.gcd y (x % y) = Nat.gcd x y := by
  rw [Nat.gcd_comm y (x % y), Nat.gcd_comm x y]
  exact (Nat.gcd_rec y x).symm
/-- a fraction's part, in least terms -/
def lowest (u v : Int) (part : Int32) : Int := (if part = 0 then u else v).tdiv (Nat.gcd u.natAbs v.natAbs : Int)
section C6g
variable {G : evG} {d : Nat} {S : evS}
theorem c_cm_loop (hCl : evCl G) {q : Int32 → evS → Prop} : ∀ t x y s : Nat, x < 2147483648 → y < 2 ^ t → y < 2147483648 → s + 2 * t ≤ 63 → q (iI (Nat.gcd x y : Nat)) S → bk_X5_commonMeasure_13 G d (evQI q) (iI x) (iI y) (nI s) S := by
  have z0 : rg 0 := rg_of (A := 0) (by omega) (by omega)
  intro t
  induction t with
  | zero =>
    intro x y s hx hy hy2 hs hq
    have : y = 0 := by omega
    subst this
    refine vb_X5_commonMeasure_13 hCl ⟨fun h => absurd h (nI_ge (b := 64) (by omega) (by omega)), fun _ => ⟨fun _ => by rw [Nat.gcd_zero_right] at hq; exact hq, fun h => absurd (by decide) h⟩⟩
  | succ t ih =>
    intro x y s hx hy hy2 hs hq
    refine vb_X5_commonMeasure_13 hCl ⟨fun h => absurd h (nI_ge (b := 64) (by omega) (by omega)), fun _ => ?_⟩
    rw [iI_0, iI_le (rg_n hy2) z0, iI_eq (rg_n hy2) z0]
    refine ⟨fun h => ?_, fun h => ⟨by omega, fun v2 h2 v3 h3 => ?_⟩⟩
    · have : y = 0 := by omega
      subst this
      rw [Nat.gcd_zero_right] at hq
      exact hq
    · rw [nat_rem hx hy2] at h2
      rw [nI_1] at h3
      subst h2 h3
      have hr := Nat.mod_lt x (show 0 < y by omega)
      rw [← gcd_step] at hq
      refine vb_X5_commonMeasure_13 hCl ⟨fun h => absurd h (nI_ge (b := 64) (by omega) (by omega)), fun _ => ?_⟩
      rw [iI_0, iI_le (rg_n (by omega)) z0, iI_eq (rg_n (by omega)) z0]
      refine ⟨fun h => ?_, fun h => ⟨by omega, fun v2 h2 v3 h3 => ?_⟩⟩
      · have : x % y = 0 := by omega
        rw [this, Nat.gcd_zero_right] at hq
        exact hq
      · rw [nat_rem hy2 (by omega)] at h2
        rw [nI_1] at h3
        subst h2 h3
        have h5 := half_rem (y := y) (r := x % y) (by omega) hr
        rw [← gcd_step] at hq
        exact ih (x % y) (y % (x % y)) (s + 1 + 1) (by omega) (by rw [Nat.pow_succ] at hy; omega) (by omega) (by omega) hq
theorem abs_n {z : Int} (h : rg z) (h2 : -2147483647 ≤ z) : (if 0 ≤ iI z then iI z else -iI z) = iI (z.natAbs : Int) := by
  have z0 : rg 0 := rg_of (A := 0) (by omega) (by omega)
  rw [iI_0]
  by_cases hz : 0 ≤ z
  · rw [if_pos ((iI_le z0 h).mpr hz), show ((z.natAbs : Nat) : Int) = z by omega]
  · rw [if_neg (fun q => hz ((iI_le z0 h).mp q)), iI_neg, show ((z.natAbs : Nat) : Int) = -z by omega]
theorem c_commonMeasure (hCl : evCl G) {u v : Int} (hu : -2000000000 ≤ u ∧ u ≤ 2000000000) (hv : 0 ≤ v ∧ v < 16384) : evSp G yX5_commonMeasure M_X5_commonMeasure (d + 1) [.int (iI u), .int (iI v)] S (evQI fun r S' => r = iI (Nat.gcd u.natAbs v.natAbs : Nat) ∧ S' = S) := by
  refine vm_X5_commonMeasure (vb_X5_commonMeasure_0 hCl ((c_abs hCl).mI ?_))
  rintro r1 S2 ⟨rfl, rfl⟩
  refine (c_abs hCl).mI ?_
  rintro r3 S4 ⟨rfl, rfl⟩
  rw [abs_n (rg_of hu (by omega)) (by omega), abs_n (rg_of (A := 16384) (by omega) (by omega)) (by omega)]
  exact c_cm_loop hCl 14 u.natAbs v.natAbs 0 (by omega) (by omega) (by omega) (by omega) ⟨rfl, rfl⟩
theorem c_partOf (hCl : evCl G) {u v : Int} (hu : -2000000000 ≤ u ∧ u ≤ 2000000000) (hv : 0 < v ∧ v < 16384) {p : Int32} : evSp G yX5_partOf M_X5_partOf (d + 2) [.int (iI u), .int (iI v), .int p] S (evQI fun r S' => r = iI (lowest u v p) ∧ S' = S) := by
  have z0 : rg 0 := rg_of (A := 0) (by omega) (by omega)
  have gp : 0 < Nat.gcd u.natAbs v.natAbs := Nat.gcd_pos_of_pos_right _ (by omega)
  have gl : Nat.gcd u.natAbs v.natAbs ≤ v.natAbs := Nat.gcd_le_right _ (by omega)
  refine vm_X5_partOf (vb_X5_partOf_0 hCl ((c_commonMeasure hCl hu (by omega)).mI ?_))
  rintro r1 S2 ⟨rfl, rfl⟩
  unfold lowest
  refine ⟨fun hp => vb_X5_partOf_15 hCl ?_, fun hp => vb_X5_partOf_15 hCl ?_⟩
  · rw [if_neg hp, iI_0, iI_lt z0 (rg_n (by omega)), iI_eq (rg_n (by omega)) z0]
    exact ⟨fun _ => ⟨by omega, iI_div (rg_of (A := 16384) (by omega) (by omega)) (rg_n (by omega)), rfl⟩, fun h => by omega⟩
  · rw [if_pos hp, iI_0, iI_lt z0 (rg_n (by omega)), iI_eq (rg_n (by omega)) z0]
    exact ⟨fun _ => ⟨by omega, iI_div (rg_of hu (by omega)) (rg_n (by omega)), rfl⟩, fun h => by omega⟩
theorem m_common_loop (hCl : evCl G) {q : Int64 → evS → Prop} : ∀ n x y : Nat, y ≤ n → x < 2147483648 → y < 2147483648 → q (lI (Nat.gcd x y : Nat)) S → bk_X6_common_17 G d (evQL q) (lI x) (lI y) S := by
  have z0 : rgl 0 := rgl_of (A := 0) (by omega) (by omega)
  intro n
  induction n with
  | zero =>
    intro x y hn hx hy hq
    have : y = 0 := by omega
    subst this
    rw [Nat.gcd_zero_right] at hq
    exact vb_X6_common_17 hCl ⟨fun _ => hq, fun h => absurd rfl h⟩
  | succ n ih =>
    intro x y hn hx hy hq
    refine vb_X6_common_17 hCl ?_
    rw [lI_0, lI_eq (rg_rgl (rg_n hy)) z0]
    refine ⟨fun h => ?_, fun h => ⟨h, fun v2 h2 => ?_⟩⟩
    · have : y = 0 := by omega
      subst this
      rw [Nat.gcd_zero_right] at hq
      exact hq
    · rw [nat_reml hx hy] at h2
      subst h2
      have hr := Nat.mod_lt x (show 0 < y by omega)
      rw [← gcd_step] at hq
      exact ih y (x % y) (by omega) hy (by omega) hq
theorem m_lowest (hCl : evCl G) {u v : Int} (hu : -2000000000 ≤ u ∧ u ≤ 2000000000) (hv : 0 < v ∧ v < 16384) {p : Int32} : evSp G yX6_lowest M_X6_lowest (d + 1) [.long (lI u), .long (lI v), .int p] S (evQI fun r S' => r = iI (lowest u v p) ∧ S' = S) := by
  have z0 : rgl 0 := rgl_of (A := 0) (by omega) (by omega)
  have gp : 0 < Nat.gcd u.natAbs v.natAbs := Nat.gcd_pos_of_pos_right _ (by omega)
  have gl : Nat.gcd u.natAbs v.natAbs ≤ v.natAbs := Nat.gcd_le_right _ (by omega)
  have cm : evSp G yX6_common M_X6_common d [.long (lI u), .long (lI v)] S (evQL fun r S' => r = lI (Nat.gcd u.natAbs v.natAbs : Nat) ∧ S' = S) := by
    refine vm_X6_common (vb_X6_common_0 hCl ?_)
    have key : bk_X6_common_17 G d (evQL fun r S' => r = lI (Nat.gcd u.natAbs v.natAbs : Nat) ∧ S' = S) (lI (u.natAbs : Nat)) (lI (v.natAbs : Nat)) S := m_common_loop hCl v.natAbs u.natAbs v.natAbs (Nat.le_refl _) (by omega) (by omega) ⟨rfl, rfl⟩
    rw [show ((v.natAbs : Nat) : Int) = v by omega] at key
    rw [lI_0, lI_le z0 (rgl_of hu (by omega)), lI_neg]
    refine ⟨fun h => vb_X6_common_12 hCl ?_, fun h => vb_X6_common_12 hCl ?_⟩
    · rw [show ((u.natAbs : Nat) : Int) = u by omega] at key
      exact key
    · rw [show ((u.natAbs : Nat) : Int) = -u by omega] at key
      exact key
  refine vm_X6_lowest (vb_X6_lowest_0 hCl (cm.mL ?_))
  rintro r1 S2 ⟨rfl, rfl⟩
  unfold lowest
  rw [lI_0, lI_eq (rg_rgl (rg_n (by omega))) z0]
  refine ⟨fun hp => ⟨by omega, ?_, rfl⟩, fun hp => ⟨by omega, ?_, rfl⟩⟩
  · rw [if_neg hp, lI_div (rgl_of (A := 16384) (by omega) (by omega)) (rg_rgl (rg_n (by omega))), lI_32]
  · rw [if_pos hp, lI_div (rgl_of hu (by omega)) (rg_rgl (rg_n (by omega))), lI_32]
end C6g
