/-! CONTRACTS: Plan, what is read off a plan -/
def sB (D : Nat → Int) (f l k : Nat) : Nat := prv (pM D f l) k
def sE (D : Nat → Int) (f l k : Nat) : Nat := nxt (pM D f l) l k
def miA (D : Nat → Int) (f l k : Nat) : Int := farD D (sE D f l k) - farD D (sB D f l k)
def hoA (D : Nat → Int) (f l k : Nat) : Int := pH D f l (sE D f l k) - pH D f l (sB D f l k)
/-- TIME at port k + 1, times the miles of its stretch -/
def tU (D : Nat → Int) (f l k : Nat) : Int := evn (farD D) (pH D f l) (sB D f l k) (sE D f l k) (k + 1) + wtD D f (k + 1) * miA D f l k
def WfT (D : Nat → Int) : Prop := ∀ n, n < 4 → 0 ≤ D (5 + n) ∧ D (5 + n) ≤ 999
def stp (m s : Int) : Nat := (min 2 (m.tdiv (10 * s))).toNat
def fue (D : Nat → Int) (m s : Int) : Int := D (5 + stp m s) * 10 * s + (D (5 + (stp m s + 1)) - D (5 + stp m s)) * (m - 10 * (stp m s : Int) * s)
def cst (D : Nat → Int) (f l k : Nat) : Int := (D (9 + 4 * k) * fue D (miA D f l k) (hoA D f l k)).tdiv (10 * hoA D f l k)
/-- how much of leg k lies behind at hour h -/
def sld (D : Nat → Int) (f l k : Nat) (h : Int) : Int := if 0 < miA D f l k * (h - wtD D f (k + 1) - pH D f l (sB D f l k)) - hoA D f l k * (farD D k - farD D (sB D f l k)) then min (D (9 + 4 * k)) ((miA D f l k * (h - wtD D f (k + 1) - pH D f l (sB D f l k)) - hoA D f l k * (farD D k - farD D (sB D f l k))).tdiv (hoA D f l k)) else 0
theorem prv_in {mk : Nat → Int} {f : Nat} (hf : mk f ≠ 0) : ∀ k, f ≤ k → f ≤ prv mk k ∧ prv mk k ≤ k ∧ mk (prv mk k) ≠ 0 := by
  intro k
  induction k with
  | zero => intro h; have : f = 0 := by omega
            subst this; exact ⟨Nat.le_refl _, Nat.le_refl _, hf⟩
  | succ k ih =>
    intro h
    unfold prv
    split
    · rename_i hz
      have : f ≤ k := by
        rcases Nat.lt_or_ge k f with z | z
        · exact absurd (by rw [show f = k + 1 by omega]; exact hz) hf
        · exact z
      have := ih this
      omega
    · rename_i hz
      exact ⟨h, Nat.le_refl _, hz⟩
theorem sBE {D : Nat → Int} {f l k : Nat} (w : WfP D f l) (h1 : f ≤ k) (h2 : k < l) : f ≤ sB D f l k ∧ sB D f l k ≤ k ∧ k < sE D f l k ∧ sE D f l k ≤ l ∧ (-100 ≤ pH D f l (sB D f l k) ∧ pH D f l (sB D f l k) ≤ 10200) ∧ (-100 ≤ pH D f l (sE D f l k) ∧ pH D f l (sE D f l k) ≤ 10200) ∧ pM D f l (sB D f l k) ≠ 0 ∧ pM D f l (sE D f l k) ≠ 0 ∧ 1 ≤ miA D f l k ∧ miA D f l k ≤ 594 ∧ -10300 ≤ hoA D f l k ∧ hoA D f l k ≤ 10300 := by
  have mo := mokP w
  have p1 := prv_in mo.2.2.2 k h1
  have p2 := nxt_in (mk := pM D f l) h2
  have p3 := nxt_mk (mk := pM D f l) (last := l) (b := k) mo.2.2.1
  have q1 := mo.2.1 (sB D f l k) p1.1 (by unfold sB; omega) p1.2.2
  have q2 := mo.2.1 (sE D f l k) (by unfold sE; omega) p2.2 p3
  have f1 := far_be (geoD w) (b := sB D f l k) (e := sE D f l k) (by unfold sB sE; omega) p2.2
  refine ⟨p1.1, p1.2.1, p2.1, p2.2, q1, q2, p1.2.2, p3, ?_, ?_, ?_, ?_⟩
  · unfold miA sB sE at *; omega
  · unfold miA; omega
  · unfold hoA; omega
  · unfold hoA; omega
section C5g
variable {G : evG} {d : Nat} {S : evS}
theorem c_isNoLeg (hCl : evCl G) {x f l k : Nat} (hV : (6, x) ∈ evKs G) (h0 : S.1 6 x 0 = nI f) (h1 : S.1 6 x 1 = nI l) (hl : l ≤ 6) (hk1 : f ≤ k) (hk2 : k < l) : evSp G yX2_isNoLeg M_X2_isNoLeg d [.ref (evad G 6 x), .int (nI k)] S (evQI fun r S' => r = 0 ∧ S' = S) := by
  refine vm_X2_isNoLeg (vb_X2_isNoLeg_0 hCl hV ?_)
  rw [h0, h1]
  exact ⟨fun h => absurd h (nI_nlt hk1 (by omega)), fun _ => ⟨fun _ => ⟨rfl, rfl⟩, fun h => absurd (nI_lt hk2 (by omega)) h⟩⟩
theorem c_milesAround (hCl : evCl G) {x f l k : Nat} {D : Nat → Int} (hV : (6, x) ∈ evKs G) (w : WfP D f l) (P : PlnR S x D f l) (hk1 : f ≤ k) (hk2 : k < l) : evSp G yX2_milesAround M_X2_milesAround (d + 1) [.ref (evad G 6 x), .int (nI k)] S (evQI fun r S' => r = iI (miA D f l k) ∧ S' = S) := by
  have h6 := w.2.2.2.1
  have b := sBE w hk1 hk2
  have ps := P.2.2.1 k hk1 hk2
  refine vm_X2_milesAround (vb_X2_milesAround_0 hCl hV ((c_isNoLeg hCl hV P.1.1 P.1.2.1 h6 hk1 hk2).mI ?_))
  rintro r1 S2 ⟨rfl, rfl⟩
  rw [nI_clamp (n := k) (by omega), ps.1, ps.2, nI_clamp (n := prv (pM D f l) k) (by have := b.2.1; unfold sB at this; omega), nI_clamp (n := nxt (pM D f l) l k) (by have := b.2.2.2.1; unfold sE at this; omega)]
  refine ⟨fun _ => ⟨vp_in_nI (by omega) (by omega), vp_in_nI (by have := b.2.2.2.1; unfold sE at this; omega) (by omega), vp_in_nI (by omega) (by omega), vp_in_nI (by have := b.2.1; unfold sB at this; omega) (by omega), ?_, rfl⟩, fun h => absurd rfl h⟩
  have m1 := P.1.2.2.1 (sE D f l k) b.2.2.2.1
  have m2 := P.1.2.2.1 (sB D f l k) (by omega)
  unfold sE at m1
  unfold sB at m2
  rw [m1, m2, iI_sub]
  rfl
theorem c_hoursAround (hCl : evCl G) {x f l k : Nat} {D : Nat → Int} (hV : (6, x) ∈ evKs G) (w : WfP D f l) (P : PlnR S x D f l) (hk1 : f ≤ k) (hk2 : k < l) : evSp G yX2_hoursAround M_X2_hoursAround (d + 1) [.ref (evad G 6 x), .int (nI k)] S (evQI fun r S' => r = iI (hoA D f l k) ∧ S' = S) := by
  have h6 := w.2.2.2.1
  have b := sBE w hk1 hk2
  have ps := P.2.2.1 k hk1 hk2
  refine vm_X2_hoursAround (vb_X2_hoursAround_0 hCl hV ((c_isNoLeg hCl hV P.1.1 P.1.2.1 h6 hk1 hk2).mI ?_))
  rintro r1 S2 ⟨rfl, rfl⟩
  rw [nI_clamp (n := k) (by omega), ps.1, ps.2, nI_clamp (n := prv (pM D f l) k) (by have := b.2.1; unfold sB at this; omega), nI_clamp (n := nxt (pM D f l) l k) (by have := b.2.2.2.1; unfold sE at this; omega)]
  refine ⟨fun _ => ⟨vp_in_nI (by omega) (by omega), vp_in_nI (by have := b.2.2.2.1; unfold sE at this; omega) (by omega), vp_in_nI (by omega) (by omega), vp_in_nI (by have := b.2.1; unfold sB at this; omega) (by omega), ?_, rfl⟩, fun h => absurd rfl h⟩
  have m1 := (P.2.1 (sE D f l k) (by omega) b.2.2.2.1).2 b.2.2.2.2.2.2.2.1
  have m2 := (P.2.1 (sB D f l k) b.1 (by omega)).2 b.2.2.2.2.2.2.1
  unfold sE at m1
  unfold sB at m2
  rw [m1, m2, iI_sub]
  rfl
theorem c_milesOfLeg (hCl : evCl G) {x f l k : Nat} {D : Nat → Int} (hV : (6, x) ∈ evKs G) (w : WfP D f l) (P : PlnR S x D f l) (hk1 : f ≤ k) (hk2 : k < l) : evSp G yX2_milesOfLeg M_X2_milesOfLeg (d + 1) [.ref (evad G 6 x), .int (nI k)] S (evQI fun r S' => r = iI (D (9 + 4 * k)) ∧ S' = S) := by
  have h6 := w.2.2.2.1
  refine vm_X2_milesOfLeg (vb_X2_milesOfLeg_0 hCl hV ((c_isNoLeg hCl hV P.1.1 P.1.2.1 h6 hk1 hk2).mI ?_))
  rintro r1 S2 ⟨rfl, rfl⟩
  rw [nI_1, nI_clamp (n := k) (by omega), nI_clamp (n := k + 1) (by omega)]
  refine ⟨fun _ => ⟨vp_in_nI (by omega) (by omega), vp_in_nI (by omega) (by omega), ?_, rfl⟩, fun h => absurd rfl h⟩
  rw [P.1.2.2.1 (k + 1) (by omega), P.1.2.2.1 k (by omega), iI_sub, show farD D (k + 1) - farD D k = D (9 + 4 * k) from by rw [show farD D (k + 1) = farD D k + D (9 + 4 * k) from rfl]; omega]
theorem c_hourLower (hCl : evCl G) {x f l k : Nat} {D : Nat → Int} (hV : (6, x) ∈ evKs G) (w : WfP D f l) (P : PlnR S x D f l) (hk1 : f ≤ k) (hk2 : k < l) : evSp G yX2_hourLower M_X2_hourLower (d + 2) [.ref (evad G 6 x), .int (nI (k + 1))] S (evQI fun r S' => r = iI (miA D f l k) ∧ S' = S) := by
  refine vm_X2_hourLower (vb_X2_hourLower_0 hCl hV ?_)
  rw [nI_pred]
  exact c_milesAround hCl hV w P hk1 hk2
theorem c_hourUpper (hCl : evCl G) {x f l k : Nat} {D : Nat → Int} (hV : (6, x) ∈ evKs G) (w : WfP D f l) (P : PlnR S x D f l) (hk1 : f ≤ k) (hk2 : k < l) : evSp G yX2_hourUpper M_X2_hourUpper (d + 2) [.ref (evad G 6 x), .int (nI (k + 1))] S (evQI fun r S' => r = iI (tU D f l k) ∧ S' = S) := by
  have h6 := w.2.2.2.1
  have b := sBE w hk1 hk2
  have ps := P.2.2.1 k hk1 hk2
  refine vm_X2_hourUpper (vb_X2_hourUpper_0 hCl hV (fun v1 hv1 => ?_))
  rw [nI_pred] at hv1
  subst hv1
  refine (c_isNoLeg hCl hV P.1.1 P.1.2.1 h6 hk1 hk2).mI ?_
  rintro r2 S3 ⟨rfl, rfl⟩
  refine ⟨fun _ => ⟨vp_in_nI (by omega) (by omega), vp_in_nI (by omega) (by omega), ?_⟩, fun h => absurd rfl h⟩
  rw [nI_clamp (n := k) (by omega), nI_clamp (n := k + 1) (by omega), ps.1, ps.2]
  refine (c_evenHour (far := farD D) (hr := pH D f l) hCl hV (b := sB D f l k) (e := sE D f l k) (by omega) (by omega) (by omega) (P.1.2.2.1 _ (by omega)) (P.1.2.2.1 _ b.2.2.2.1) (P.1.2.2.1 _ (by omega)) ((P.2.1 _ b.1 (by omega)).2 b.2.2.2.2.2.2.1) ((P.2.1 _ (by omega) b.2.2.2.1).2 b.2.2.2.2.2.2.2.1)).mI ?_
  rintro r6 S7 ⟨rfl, rfl⟩
  refine ⟨vp_in_nI (by omega) (by omega), (c_milesAround hCl hV w P hk1 hk2).mI ?_⟩
  rintro r9 S10 ⟨rfl, rfl⟩
  refine ⟨?_, rfl⟩
  rw [P.2.2.2.1 (k + 1) (by omega) (by omega), iI_mul, iI_add]
  rfl
theorem c_stands (hCl : evCl G) {x f l : Nat} {D : Nat → Int} (hV : (6, x) ∈ evKs G) (P : PlnR S x D f l) (hn : 0 ≤ pNeed D f l ∧ pNeed D f l ≤ 594) (hd : 1 ≤ D 1 ∧ D 1 ≤ 60) : evSp G yX2_stands M_X2_stands d [.ref (evad G 6 x)] S (evQI fun r S' => r = (if 0 < pNeed D f l ∧ pNeed D f l ≤ D 1 then 1 else 0) ∧ S' = S) := by
  refine vm_X2_stands (vb_X2_stands_0 hCl hV ?_)
  rw [P.2.2.2.2.2.2.1, P.2.2.2.2.2.2.2, iI_0, iI_le (rg_of (A := 594) (by omega) (by omega)) (rg_of (A := 0) (by omega) (by omega)), iI_lt (rg_of (A := 60) (by omega) (by omega)) (rg_of (A := 594) (by omega) (by omega))]
  exact ⟨fun h => ⟨by rw [if_neg (by omega)], rfl⟩, fun h => ⟨fun h2 => ⟨by rw [if_neg (by omega)], rfl⟩, fun h2 => ⟨by rw [if_pos (by omega)], rfl⟩⟩⟩
theorem c_neededSpeed (hCl : evCl G) {x f l : Nat} {D : Nat → Int} (hV : (6, x) ∈ evKs G) (P : PlnR S x D f l) : evSp G yX2_neededSpeed M_X2_neededSpeed d [.ref (evad G 6 x)] S (evQI fun r S' => r = iI (pNeed D f l) ∧ S' = S) :=
  vm_X2_neededSpeed (vb_X2_neededSpeed_0 hCl hV ⟨P.2.2.2.2.2.2.1, rfl⟩)
theorem c_stretchCount (hCl : evCl G) {x f l : Nat} {D : Nat → Int} (hV : (6, x) ∈ evKs G) (P : PlnR S x D f l) : evSp G yX2_stretchCount M_X2_stretchCount d [.ref (evad G 6 x)] S (evQI fun r S' => r = iI (pN D f l).2.2 ∧ S' = S) :=
  vm_X2_stretchCount (vb_X2_stretchCount_0 hCl hV ⟨P.2.2.2.2.2.1, rfl⟩)
theorem c_meetingAt (hCl : evCl G) {x f l p : Nat} {D : Nat → Int} (hV : (6, x) ∈ evKs G) (w : WfP D f l) (P : PlnR S x D f l) (hp1 : f < p) (hp2 : p ≤ l) : evSp G yX2_meetingAt M_X2_meetingAt d [.ref (evad G 6 x), .int (nI p)] S (evQI fun r S' => r = (if p < l then iI (pM D f l p) else 0) ∧ S' = S) := by
  have h6 := w.2.2.2.1
  refine vm_X2_meetingAt (vb_X2_meetingAt_0 hCl hV ?_)
  rw [P.1.1, P.1.2.1, nI_clamp (by omega)]
  refine ⟨fun h => absurd h (nI_ge hp1 (by omega)), fun _ => ⟨fun h => ⟨vp_in_nI (by omega) (by omega), ?_, rfl⟩, fun h => ⟨?_, rfl⟩⟩⟩
  · have hpl : p < l := (nI_ltI (by omega) (by omega)).mp h
    rw [if_pos hpl, (P.2.1 p (by omega) hp2).1 hp1 hpl]
  · rw [if_neg (fun z => h (nI_lt z (by omega)))]
end C5g
