/-! CONTRACTS: Math.floorDiv, Plan.hourRoundedUp, burntOnLeg, burntInAll, sailedOnLeg, mileAt -/
theorem xor_sign {a b : Int} (ha : rg a) (hb : rg b) (h : 0 < b) : 0 ≤ (iI a ^^^ iI b) ↔ 0 ≤ a := by
  have e : ∀ z : Int32, 0 ≤ z ↔ z.toBitVec.msb = false := by
    intro z
    rw [Int32.le_iff_toInt_le, BitVec.msb_eq_toInt]
    show (0 : Int) ≤ z.toBitVec.toInt ↔ _
    simp
  rw [e, show (iI a ^^^ iI b).toBitVec = (iI a).toBitVec ^^^ (iI b).toBitVec from rfl, BitVec.msb_xor]
  have e1 : (iI b).toBitVec.msb = false := (e _).mp (by rw [iI_0, iI_le (rg_of (A := 0) (by omega) (by omega)) hb]; omega)
  rw [e1, Bool.xor_false, ← e, iI_0, iI_le (rg_of (A := 0) (by omega) (by omega)) ha]
theorem fdiv_neg {a b : Int} (hb : 0 < b) (ha : ¬ 0 ≤ a) : (a.tdiv b * b = a → a.tdiv b = a / b) ∧ (¬ a.tdiv b * b = a → a.tdiv b - 1 = a / b) := by
  have h := Int.tdiv_eq_ediv (a := a) (b := b)
  by_cases hd : b ∣ a
  · rw [if_pos (Or.inr hd)] at h
    refine ⟨fun _ => by omega, fun z => absurd ?_ z⟩
    rw [h, Int.add_zero]
    exact Int.ediv_mul_cancel hd
  · rw [if_neg (fun z => z.elim ha hd), Int.sign_eq_one_of_pos hb] at h
    refine ⟨fun z => absurd ⟨a.tdiv b, by rw [Int.mul_comm]; exact z.symm⟩ hd, fun _ => by omega⟩
theorem ceil_eq {t m : Int} (hm : 0 < m) : -((-t) / m) = (t + m - 1) / m := by
  have e1 := Int.emod_add_mul_ediv (-t) m
  have e2 := Int.emod_nonneg (-t) (Int.ne_of_gt hm)
  have e3 := Int.emod_lt_of_pos (-t) hm
  symm
  have key : t + m - 1 = (m - 1 - (-t) % m) + m * (-((-t) / m)) := by
    rw [Int.mul_neg]
    omega
  rw [key, Int.add_mul_ediv_left _ _ (Int.ne_of_gt hm), Int.ediv_eq_zero_of_lt (by omega) (by omega)]
  omega
def csm (D : Nat → Int) (f l : Nat) : Nat → Int
  | 0 => 0
  | k + 1 => if f ≤ k then csm D f l k + cst D f l k else 0
def ssm (D : Nat → Int) (f l : Nat) (h : Int) : Nat → Int
  | 0 => farD D f
  | k + 1 => if f ≤ k then ssm D f l h k + sld D f l k h else farD D f
theorem mea_ok {far : Nat → Int} {last : Nat} {mk hr : Nat → Int} (hl : mk last ≠ 0) : ∀ f b nd ok cn, b ≤ last → last < b + f → mk b ≠ 0 → (mea far last mk hr f b nd ok cn).2.1 ≠ 0 → ok ≠ 0 ∧ ∀ k, b ≤ k → k < last → 0 < hr (nxt mk last k) - hr (prv mk k) := by
  intro f
  induction f with
  | zero => intro b nd ok cn h1 h2; omega
  | succ f ih =>
    intro b nd ok cn h1 h2 hb h
    unfold mea at h
    split at h
    · rename_i hlt
      have ne := nxt_in (mk := mk) hlt
      split at h
      · rename_i hp
        obtain ⟨i1, i2⟩ := ih _ _ _ _ ne.2 (by omega) (nxt_mk hl) h
        refine ⟨i1, fun k a1 a2 => ?_⟩
        by_cases hk : k < nxt mk last b
        · rw [nxt_same hlt a1 hk, prv_st hlt hb a1 hk]; exact hp
        · exact i2 k (by omega) a2
      · obtain ⟨i1, -⟩ := ih _ _ _ _ ne.2 (by omega) (nxt_mk hl) h
        exact absurd rfl i1
    · exact ⟨h, fun k a1 a2 => by omega⟩
theorem mea_nd {far : Nat → Int} {first last : Nat} {mk hr low high : Nat → Int} (g : Geo first last far low high) : ∀ f b nd ok cn, first ≤ b → b ≤ last → 0 ≤ nd ∧ nd ≤ 594 → 0 ≤ (mea far last mk hr f b nd ok cn).1 ∧ (mea far last mk hr f b nd ok cn).1 ≤ 594 := by
  intro f
  induction f with
  | zero => intro b nd ok cn _ _ h; exact h
  | succ f ih =>
    intro b nd ok cn h0 h1 h
    unfold mea
    split
    · rename_i hlt
      have ne := nxt_in (mk := mk) hlt
      split
      · rename_i hp
        have fb := far_be g (b := b) (e := nxt mk last b) (by omega) ne.2
        have td := tdiv_ceil (m := far (nxt mk last b) - far b) (s := hr (nxt mk last b) - hr b) (by omega) hp
        exact ih _ _ _ _ (by omega) ne.2 (by omega)
      · exact ih _ _ _ _ (by omega) ne.2 h
    · exact h
theorem need_b {D : Nat → Int} {f l : Nat} (w : WfP D f l) : 0 ≤ pNeed D f l ∧ pNeed D f l ≤ 594 := by
  have := mea_nd (mk := pM D f l) (hr := pH D f l) (geoD w) 7 f 0 1 0 (Nat.le_refl _) w.2.2.1 (by omega)
  unfold pNeed pN
  split <;> omega
theorem stand_ho {D : Nat → Int} {f l : Nat} (w : WfP D f l) (h : 0 < pNeed D f l) {k : Nat} (h1 : f ≤ k) (h2 : k < l) : 0 < hoA D f l k := by
  have mo := mokP w
  have h3 : (pN D f l).2.1 ≠ 0 := fun z => by unfold pNeed at h; rw [if_pos z] at h; omega
  have h6 := w.2.2.2.1
  exact (mea_ok mo.2.2.1 7 f 0 1 0 w.2.2.1 (by omega) mo.2.2.2 h3).2 k h1 h2
theorem fue_b {D : Nat → Int} (t : WfT D) {m s : Int} (hm : 1 ≤ m ∧ m ≤ 594) (hs : 0 < s ∧ s ≤ 10300) : stp m s ≤ 2 ∧ -500000000 ≤ fue D m s ∧ fue D m s ≤ 500000000 := by
  have h1 : stp m s ≤ 2 := by unfold stp; omega
  have t1 := t (stp m s) (by omega)
  have t2 := t (stp m s + 1) (by omega)
  have b1 := bmul (a := D (5 + stp m s) * 10) (b := s) (A := 9990) (B := 10300) (by omega) (by omega)
  have b3 := bmul (a := 10 * (stp m s : Int)) (b := s) (A := 20) (B := 10300) (by omega) (by omega)
  have b2 := bmul (a := D (5 + (stp m s + 1)) - D (5 + stp m s)) (b := m - 10 * (stp m s : Int) * s) (A := 999) (B := 210000) (by omega) (by omega)
  refine ⟨h1, ?_, ?_⟩
  · unfold fue; omega
  · unfold fue; omega
theorem lI_0 : (0 : Int64) = lI 0 := rfl
theorem lI_2 : (2 : Int64) = lI 2 := rfl
theorem lI_10 : (10 : Int64) = lI 10 := rfl
theorem iI_min {a b : Int} (ha : rg a) (hb : rg b) : (if iI b < iI a then iI b else iI a) = iI (min a b) := by
  by_cases h : b < a
  · rw [if_pos ((iI_lt hb ha).mpr h), Int.min_eq_right (by omega)]
  · rw [if_neg (fun z => h ((iI_lt hb ha).mp z)), Int.min_eq_left (by omega)]
theorem lI_min {a b : Int} (ha : rgl a) (hb : rgl b) : (if lI b < lI a then lI b else lI a) = lI (min a b) := by
  by_cases h : b < a
  · rw [if_pos ((lI_lt hb ha).mpr h), Int.min_eq_right (by omega)]
  · rw [if_neg (fun z => h ((lI_lt hb ha).mp z)), Int.min_eq_left (by omega)]
section C5h
variable {G : evG} {d : Nat} {S : evS}
theorem c_floorDiv (hCl : evCl G) {a b : Int} (ha : -2000000000 ≤ a ∧ a ≤ 2000000000) (hb : 0 < b ∧ b ≤ 2000000000) : evSp G yJ9_floorDiv_7cf53 M_J9_floorDiv_7cf53 d [.int (iI a), .int (iI b)] S (evQI fun r S' => r = iI (a / b) ∧ S' = S) := by
  have ra : rg a := rg_of ha (by omega)
  have rb : rg b := rg_of (A := 2000000000) (by omega) (by omega)
  refine vm_J9_floorDiv_7cf53 (vb_J9_floorDiv_7cf53_0 hCl ⟨?_, fun v2 h2 => ?_⟩)
  · rw [iI_0, iI_eq rb (rg_of (A := 0) (by omega) (by omega))]; omega
  · rw [iI_div ra rb] at h2
    rw [h2, xor_sign ra rb hb.1, iI_mul, iI_1, iI_sub]
    refine ⟨fun h => ⟨by rw [Int.tdiv_eq_ediv_of_nonneg h], rfl⟩, fun h => ?_⟩
    have f := fdiv_neg hb.1 h
    have q := Int.tdiv_eq_ediv (a := a) (b := b)
    have q6 : rg (a.tdiv b * b) := by
      have e1 := Int.emod_add_mul_ediv a b
      have e2 := Int.emod_nonneg a (Int.ne_of_gt hb.1)
      have e3 := Int.emod_lt_of_pos a hb.1
      have e4 : a / b * b = b * (a / b) := Int.mul_comm _ _
      rw [q]
      split
      · rw [Int.add_zero, e4]; exact ⟨by omega, by omega⟩
      · rw [Int.sign_eq_one_of_pos hb.1, Int.add_mul, Int.one_mul, e4]; exact ⟨by omega, by omega⟩
    rw [iI_eq q6 ra]
    exact ⟨fun z => ⟨by rw [f.1 z], rfl⟩, fun z => ⟨by rw [f.2 z], rfl⟩⟩
theorem c_hourRoundedUp (hCl : evCl G) {x f l k : Nat} {D : Nat → Int} (hV : (6, x) ∈ evKs G) (w : WfP D f l) (P : PlnR S x D f l) (hk1 : f ≤ k) (hk2 : k < l) : evSp G yX2_hourRoundedUp M_X2_hourRoundedUp (d + 3) [.ref (evad G 6 x), .int (nI (k + 1))] S (evQI fun r S' => r = iI (-((-tU D f l k) / miA D f l k)) ∧ S' = S) := by
  have b := sBE w hk1 hk2
  have h6 := w.2.2.2.1
  refine vm_X2_hourRoundedUp (vb_X2_hourRoundedUp_0 hCl hV ((c_hourLower hCl hV w P hk1 hk2).mI ?_))
  rintro r1 S2 ⟨rfl, rfl⟩
  rw [iI_0, iI_lt (rg_of (A := 0) (by omega) (by omega)) (rg_of (A := 594) (by omega) (by omega))]
  refine ⟨fun _ => (c_hourUpper hCl hV w P hk1 hk2).mI ?_, fun h => by omega⟩
  rintro r3 S4 ⟨rfl, rfl⟩
  rw [iI_neg]
  have ev := evn_b (geoD w) (b := sB D f l k) (e := sE D f l k) (p := k + 1) (hr := pH D f l) (by omega) (by omega) b.2.2.2.1 b.2.2.2.2.1 b.2.2.2.2.2.1
  have wt := wtD_b w (k + 1) (by omega)
  have bm := bmul (a := wtD D f (k + 1)) (b := miA D f l k) (A := 54) (B := 594) (by omega) (by omega)
  refine (c_floorDiv hCl (a := -tU D f l k) (b := miA D f l k) (by unfold tU; omega) (by omega)).mI ?_
  rintro r5 S6 ⟨rfl, rfl⟩
  exact ⟨by rw [iI_neg], rfl⟩
theorem c_burntOnLeg (hCl : evCl G) {x f l k : Nat} {D : Nat → Int} (hV : (6, x) ∈ evKs G) (w : WfP D f l) (t : WfT D) (P : PlnR S x D f l) (hk1 : f ≤ k) (hk2 : k < l) (hho : 0 < hoA D f l k) : evSp G yX2_burntOnLeg M_X2_burntOnLeg (d + 2) [.ref (evad G 6 x), .int (nI k)] S (evQI fun r S' => r = iI (cst D f l k) ∧ S' = S) := by
  have b := sBE w hk1 hk2
  have h6 := w.2.2.2.1
  have fb := fue_b t (m := miA D f l k) (s := hoA D f l k) (by omega) (by omega)
  have wl := w.2.2.2.2.2.2.2.2 k hk2
  refine vm_X2_burntOnLeg (vb_X2_burntOnLeg_0 hCl hV ((c_hoursAround hCl hV w P hk1 hk2).mI ?_))
  rintro r1 S2 ⟨rfl, rfl⟩ v3 h3
  rw [iI_64 (rg_of (A := 10300) (by omega) (by omega))] at h3
  subst h3
  rw [lI_0, lI_lt (rgl_of (A := 0) (by omega) (by omega)) (rgl_of (A := 10300) (by omega) (by omega))]
  refine ⟨fun _ => (c_milesAround hCl hV w P hk1 hk2).mI ?_, fun h => absurd hho h⟩
  rintro r4 S5 ⟨rfl, rfl⟩ v6 h6'
  rw [iI_64 (rg_of (A := 594) (by omega) (by omega))] at h6'
  subst h6'
  rw [lI_10, lI_mul, lI_eq (rgl_of (A := 103000) (by omega) (by omega)) (rgl_of (A := 0) (by omega) (by omega)), lI_div (rgl_of (A := 594) (by omega) (by omega)) (rgl_of (A := 103000) (by omega) (by omega))]
  refine ⟨by omega, (c_minl hCl).mL ?_⟩
  rintro r8 S9 ⟨hr8, rfl⟩ v10 h10
  have tq : 0 ≤ (miA D f l k).tdiv (10 * hoA D f l k) ∧ (miA D f l k).tdiv (10 * hoA D f l k) ≤ 594 := by
    rw [Int.tdiv_eq_ediv_of_nonneg (by omega)]
    refine ⟨Int.ediv_nonneg (by omega) (by omega), ?_⟩
    have := Int.ediv_le_self (a := miA D f l k) (10 * hoA D f l k) (by omega)
    omega
  have hv : v10 = nI (stp (miA D f l k) (hoA D f l k)) := by
    rw [h10, hr8, lI_2, lI_min (rgl_of (A := 2) (by omega) (by omega)) (rgl_of (A := 594) (by omega) (by omega)), iI_n]
    unfold stp
    by_cases hz : (miA D f l k).tdiv (10 * hoA D f l k) < 2
    · rw [Int.min_eq_right (by omega), lI_32, show (((miA D f l k).tdiv (10 * hoA D f l k)).toNat : Int) = (miA D f l k).tdiv (10 * hoA D f l k) by omega]
    · rw [Int.min_eq_left (by omega), lI_32, show ((2 : Int).toNat : Int) = 2 from rfl]
  clear h10
  subst hv
  refine ⟨fun _ => ?_, fun h => absurd (nI_pos' (by omega)) h⟩
  rw [nI_1, nI_clamp (by omega), nI_clamp (by omega), P.2.2.2.2.1 _ (by omega), P.2.2.2.2.1 _ (by omega)]
  have t1 := t (stp (miA D f l k) (hoA D f l k)) (by omega)
  have t2 := t (stp (miA D f l k) (hoA D f l k) + 1) (by omega)
  refine ⟨vp_in_nI (by omega) (by omega), fun v12 h12 => ⟨vp_in_nI (by omega) (by omega), fun v14 h14 v15 h15 v16 h16 => ?_⟩⟩
  rw [iI_64 (rg_of (A := 999) (by omega) (by omega))] at h12
  rw [h12, iI_64 (rg_of (A := 999) (by omega) (by omega)), lI_sub] at h14
  rw [show (10 : Int32) = iI 10 from rfl, iI_n, iI_mul, iI_64 (rg_of (A := 20) (by omega) (by omega)), lI_mul, lI_sub] at h15
  rw [h12, h14, h15, lI_mul, lI_mul, lI_mul, lI_add, show D (5 + stp (miA D f l k) (hoA D f l k)) * 10 * hoA D f l k + (D (5 + (stp (miA D f l k) (hoA D f l k) + 1)) - D (5 + stp (miA D f l k) (hoA D f l k))) * (miA D f l k - 10 * (stp (miA D f l k) (hoA D f l k) : Int) * hoA D f l k) = fue D (miA D f l k) (hoA D f l k) from rfl] at h16
  refine (c_milesOfLeg hCl hV w P hk1 hk2).mI ?_
  rintro r17 S18 ⟨rfl, rfl⟩
  have bm := bmul (a := D (9 + 4 * k)) (b := fue D (miA D f l k) (hoA D f l k)) (A := 99) (B := 500000000) (by omega) (by omega)
  refine ⟨by omega, ?_, rfl⟩
  rw [iI_64 (rg_of (A := 99) (by omega) (by omega)), h16, lI_mul, lI_div (rgl_of bm (by omega)) (rgl_of (A := 103000) (by omega) (by omega)), lI_32]
  rfl
theorem c_burntInAll_loop (hCl : evCl G) {x f l : Nat} {D : Nat → Int} (hV : (6, x) ∈ evKs G) (w : WfP D f l) (t : WfT D) (P : PlnR S x D f l) (hho : ∀ k, f ≤ k → k < l → 0 < hoA D f l k) :
    ∀ n k, k + n = l → f ≤ k → bk_X2_burntInAll_7 G (d + 2) (evQI fun r S' => r = iI (csm D f l l) ∧ S' = S) x (iI (csm D f l k)) (nI k) S := by
  have h6 := w.2.2.2.1
  intro n
  induction n with
  | zero =>
    intro k hk _
    refine vb_X2_burntInAll_7 hCl hV ⟨fun _ => ⟨by rw [show k = l by omega], rfl⟩, fun h => absurd (by rw [P.1.2.1]; exact nI_le (by omega) (by omega)) h⟩
  | succ n ih =>
    intro k hk hf
    refine vb_X2_burntInAll_7 hCl hV ⟨fun h => absurd h (by rw [P.1.2.1]; exact nI_ge (by omega) (by omega)), fun _ => (c_burntOnLeg hCl hV w t P hf (by omega) (hho k hf (by omega))).mI ?_⟩
    rintro r1 S2 ⟨rfl, rfl⟩ v3 h3 v4 h4
    rw [nI_1] at h4
    have e : csm D f l (k + 1) = csm D f l k + cst D f l k := by
      conv => lhs; unfold csm
      rw [if_pos hf]
    rw [iI_add, ← e] at h3
    subst h3 h4
    exact ih (k + 1) (by omega) (by omega)
theorem c_burntInAll (hCl : evCl G) {x f l : Nat} {D : Nat → Int} (hV : (6, x) ∈ evKs G) (w : WfP D f l) (t : WfT D) (P : PlnR S x D f l) (hho : ∀ k, f ≤ k → k < l → 0 < hoA D f l k) : evSp G yX2_burntInAll M_X2_burntInAll (d + 3) [.ref (evad G 6 x)] S (evQI fun r S' => r = iI (csm D f l l) ∧ S' = S) := by
  refine vm_X2_burntInAll (vb_X2_burntInAll_0 hCl hV (fun v1 h1 => ?_))
  rw [P.1.1] at h1
  subst h1
  have h := c_burntInAll_loop (d := d) hCl hV w t P hho (l - f) f (by have := w.2.2.1; omega) (Nat.le_refl _)
  have e : csm D f l f = 0 := by
    cases f with
    | zero => rfl
    | succ f => unfold csm; rw [if_neg (by omega)]
  rw [e] at h
  exact h
end C5h
