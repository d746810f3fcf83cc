/-! MILES: the reference's first leg that fits, and the class's sum over all legs -/
theorem snc_evn {D : Nat → Int} {f l k : Nat} {h : Int} : (h - wtD D f (k + 1)) * miA D f l k - evn (farD D) (pH D f l) (sB D f l k) (sE D f l k) k = snc D f l k h := by
  unfold snc evn hoA miA
  grind
theorem snc_evn1 {D : Nat → Int} {f l k : Nat} {h : Int} : (h - wtD D f (k + 1)) * miA D f l k - evn (farD D) (pH D f l) (sB D f l k) (sE D f l k) (k + 1) = snc D f l k h - hoA D f l k * D (9 + 4 * k) := by
  rw [← snc_evn]
  unfold evn hoA
  rw [show farD D (k + 1) = farD D k + D (9 + 4 * k) from rfl]
  grind
theorem prv_self {mk : Nat → Int} {k : Nat} (h : mk k ≠ 0) : prv mk k = k := by
  cases k with
  | zero => rfl
  | succ k => unfold prv; rw [if_neg h]
theorem snc_next {D : Nat → Int} {f l k : Nat} (w : WfP D f l) (hho : ∀ k, f ≤ k → k < l → 0 < hoA D f l k) (h1 : f ≤ k) (h2 : k + 1 < l) {h : Int} (hs : snc D f l k h ≤ hoA D f l k * D (9 + 4 * k)) : snc D f l (k + 1) h ≤ 0 := by
  have b := sBE w h1 (by omega : k < l)
  have b2 := sBE w (by omega : f ≤ k + 1) h2
  have wl := w.2.2.2.2.2.2.2.2 k (by omega)
  have hw : wtD D f (k + 1 + 1) = wtD D f (k + 1) + D (9 + (4 * k + 1)) := by
    conv => lhs; unfold wtD
    rw [if_pos (by omega), show k + 1 - 1 = k by omega]
  have e3 : farD D (k + 1) = farD D k + D (9 + 4 * k) := rfl
  by_cases hm : pM D f l (k + 1) = 0
  · have eB : sB D f l (k + 1) = sB D f l k := by
      unfold sB
      conv => lhs; unfold prv
      rw [if_pos hm]
    have hk2 : k + 1 < sE D f l k := by
      rcases Nat.lt_or_ge (k + 1) (sE D f l k) with z | z
      · exact z
      · exact absurd (by rw [show k + 1 = sE D f l k by omega] at hm; exact hm) b.2.2.2.2.2.2.2.1
    have eE : sE D f l (k + 1) = sE D f l k := by
      have := nxt_same (mk := pM D f l) (last := l) (b := k) (k := k + 1) (by omega) (by omega) hk2
      exact this
    have hp : 0 ≤ miA D f l k * D (9 + (4 * k + 1)) := Int.mul_nonneg (by omega) (by omega)
    have e1 : miA D f l (k + 1) = miA D f l k := by unfold miA; rw [eB, eE]
    have e2 : hoA D f l (k + 1) = hoA D f l k := by unfold hoA; rw [eB, eE]
    have key : snc D f l (k + 1) h = snc D f l k h - hoA D f l k * D (9 + 4 * k) - miA D f l k * D (9 + (4 * k + 1)) := by
      unfold snc
      rw [e1, e2, eB, hw, e3]
      grind
    omega
  · have eB : sB D f l (k + 1) = k + 1 := prv_self hm
    have eE : sE D f l k = k + 1 := by
      have h3 : ¬ k + 1 < sE D f l k := fun z => hm (nxt_un (last := l) (b := k) (by omega) (by omega) z)
      omega
    have hk := hho k h1 (by omega)
    have emi : miA D f l k = farD D (k + 1) - farD D (sB D f l k) := by unfold miA; rw [eE]
    have eho : hoA D f l k = pH D f l (k + 1) - pH D f l (sB D f l k) := by unfold hoA; rw [eE]
    have k1 : miA D f l k * (h - wtD D f (k + 1) - pH D f l (sB D f l k)) ≤ miA D f l k * hoA D f l k := by
      have : miA D f l k * (h - wtD D f (k + 1) - pH D f l (sB D f l k)) - hoA D f l k * (farD D k - farD D (sB D f l k)) ≤ hoA D f l k * D (9 + 4 * k) := hs
      have e4 : miA D f l k * hoA D f l k = hoA D f l k * (farD D k - farD D (sB D f l k)) + hoA D f l k * D (9 + 4 * k) := by
        rw [emi, e3]
        grind
      omega
    have k2 : h - wtD D f (k + 1) - pH D f l (sB D f l k) ≤ hoA D f l k := Int.le_of_mul_le_mul_left k1 (by omega)
    have k3 : h - wtD D f (k + 1 + 1) - pH D f l (k + 1) ≤ 0 := by omega
    have k4 : miA D f l (k + 1) * (h - wtD D f (k + 1 + 1) - pH D f l (k + 1)) ≤ miA D f l (k + 1) * 0 := Int.mul_le_mul_of_nonneg_left k3 (by omega)
    unfold snc
    rw [eB, Int.sub_self, Int.mul_zero]
    omega
theorem ssm_s {D : Nat → Int} {f l k : Nat} {h : Int} (hf : f ≤ k) : ssm D f l h (k + 1) = ssm D f l h k + sld D f l k h := by
  conv => lhs; unfold ssm
  rw [if_pos hf]
theorem ssm_zero {D : Nat → Int} {f l : Nat} (w : WfP D f l) (hho : ∀ k, f ≤ k → k < l → 0 < hoA D f l k) {h : Int} : ∀ n k, k + n = l → f ≤ k → (k < l → snc D f l k h ≤ 0) → ssm D f l h l = ssm D f l h k := by
  intro n
  induction n with
  | zero => intro k hk _ _; rw [show k = l by omega]
  | succ n ih =>
    intro k hk hf hz
    have hz' := hz (by omega)
    have wl := w.2.2.2.2.2.2.2.2 k (by omega)
    have hp := hho k hf (by omega)
    rw [ih (k + 1) (by omega) (by omega) (fun hl => snc_next w hho hf hl (Int.le_trans hz' (Int.mul_nonneg (by omega) (by omega)))), ssm_s hf, sld_eq, if_neg (by omega), Int.add_zero]
section C6f
variable {G : evG} {d : Nat} {S : evS}
theorem m_even (hCl : evCl G) (hV : (30, 0) ∈ evKs G) {i f l k p : Nat} {D : Nat → Int} (w : WfP D f l) (P : MPln S i D f l) (hk1 : f ≤ k) (hk2 : k < l) (hp1 : sB D f l k ≤ p) (hp2 : p ≤ sE D f l k) {q : Int64 → evS → Prop} (hq : q (lI (evn (farD D) (pH D f l) (sB D f l k) (sE D f l k) p)) S) : evSp G yX6_evenTimes M_X6_evenTimes d [.ref (evad G 30 0), .int (nI (sB D f l k)), .int (nI (sE D f l k)), .int (nI p)] S (evQL q) := by
  have b := sBE w hk1 hk2
  have h6 := w.2.2.2.1
  have fb1 := far_be (geoD w) (b := sB D f l k) (e := sE D f l k) (by omega) b.2.2.2.1
  have fb2 := far_be (geoD w) (b := sB D f l k) (e := p) hp1 (by omega)
  refine (m_evenTimes (far := farD D) (hr := pH D f l) hCl hV (by omega) (by omega) (by omega) (P.1.2.2.1 _ (by omega)) (P.1.2.2.1 _ b.2.2.2.1) (P.1.2.2.1 p (by omega)) ((P.2.1 _ b.1 (by omega)).2 b.2.2.2.2.2.2.1) ((P.2.1 _ (by omega) b.2.2.2.1).2 b.2.2.2.2.2.2.2.1) (rg_of (A := 594) (by omega) (by omega)) (rg_of (A := 594) (by omega) (by omega))).mL ?_
  rintro r S' ⟨rfl, rfl⟩
  exact hq
theorem m_mileAt_loop (hCl : evCl G) (hV : (30, 0) ∈ evKs G) {i f l : Nat} {D : Nat → Int} {h : Int} (w : WfP D f l) (P : MPln S i D f l) (hho : ∀ k, f ≤ k → k < l → 0 < hoA D f l k) (hh : 0 ≤ h ∧ h ≤ 999) {q : Int32 → evS → Prop} (hq : q (iI (ssm D f l h l)) S) :
    ∀ n k, k + n = l → f ≤ k → ssm D f l h k = farD D k → bk_X6_mileAt_5 G (d + 1) (evQI q) 0 (iI h) (nI k) S := by
  have h6 := w.2.2.2.1
  intro n
  induction n with
  | zero =>
    intro k hk _ hs
    refine vb_X6_mileAt_5 hCl hV ⟨fun _ => ?_, fun h => absurd (by rw [P.1.2.1]; exact nI_le (by omega) (by omega)) h⟩
    rw [P.1.2.1, nI_clamp (by omega), P.1.2.2.1 l (Nat.le_refl _)]
    refine ⟨vp_in_nI (by omega) (by omega), ?_⟩
    rw [show k = l by omega] at hs
    rw [← hs]
    exact hq
  | succ n ih =>
    intro k hk hf hs
    have hkl : k < l := by omega
    have b := sBE w hf hkl
    have wl := w.2.2.2.2.2.2.2.2 k hkl
    have hp := hho k hf hkl
    have wt := wtD_b w (k + 1) (by omega)
    have fb1 := far_be (geoD w) (b := sB D f l k) (e := sE D f l k) (by omega) b.2.2.2.1
    have sb := snc_b w hf hkl hh
    have hmb := bmul (a := h - wtD D f (k + 1)) (b := miA D f l k) (A := 1100) (B := 594) (by omega) (by omega)
    have e0 := evn_b (geoD w) (b := sB D f l k) (e := sE D f l k) (p := k) (hr := pH D f l) b.2.1 (by omega) b.2.2.2.1 b.2.2.2.2.1 b.2.2.2.2.2.1
    have e1 := evn_b (geoD w) (b := sB D f l k) (e := sE D f l k) (p := k + 1) (hr := pH D f l) (by omega) (by omega) b.2.2.2.1 b.2.2.2.2.1 b.2.2.2.2.2.1
    have s0 := snc_evn (D := D) (f := f) (l := l) (k := k) (h := h)
    have s1 := snc_evn1 (D := D) (f := f) (l := l) (k := k) (h := h)
    refine vb_X6_mileAt_5 hCl hV ⟨fun h => absurd h (by rw [P.1.2.1]; exact nI_ge (by omega) (by omega)), fun _ => m_about hCl hV w P hf hkl ?_⟩
    rintro r2 rfl
    refine m_about2 hCl hV w P hf hkl ?_
    rintro r4 rfl
    have ve : vp_in (nI (sE D f l k)) 7 := vp_in_nI (by omega) (by omega)
    have vb : vp_in (nI (sB D f l k)) 7 := vp_in_nI (by omega) (by omega)
    have vk : vp_in (nI k) 7 := vp_in_nI (by omega) (by omega)
    rw [nI_clamp (n := sE D f l k) (by omega), nI_clamp (n := sB D f l k) (by omega), nI_clamp (n := k) (by omega), P.1.2.2.1 _ b.2.2.2.1, P.1.2.2.1 (sB D f l k) (by omega), iI_sub, iI_64 (z := farD D (sE D f l k) - farD D (sB D f l k)) (rg_of (A := 594) (by omega) (by omega)), nI_1, nI_clamp (n := k + 1) (by omega), P.2.2.1 (k + 1) (by omega) (by omega), iI_sub, iI_64 (z := h - wtD D f (k + 1)) (rg_of (A := 1100) (by omega) (by omega))]
    refine ⟨ve, vb, fun v8 h8 => ⟨vp_in_nI (by omega) (by omega), fun v10 h10 => ?_⟩⟩
    have h10' : v10 = lI ((h - wtD D f (k + 1)) * miA D f l k) := by rw [h10, h8, lI_mul]; rfl
    clear h10 h8
    subst h10'
    refine m_even hCl hV w P hf hkl b.2.1 (by omega) ?_
    rw [lI_lt (rgl_of e0 (by omega)) (rgl_of hmb (by omega))]
    refine ⟨fun hz => m_even hCl hV w P hf hkl (by omega) (by omega) ?_, fun hz => ⟨vk, ?_⟩⟩
    · rw [lI_lt (rgl_of e1 (by omega)) (rgl_of hmb (by omega))]
      refine ⟨fun hz2 v15 h15 => ?_, fun hz2 => ⟨vk, m_even hCl hV w P hf hkl b.2.1 (by omega) ?_⟩⟩
      · subst h15
        refine ih (k + 1) (by omega) (by omega) ?_
        rw [ssm_s hf, hs, sld_eq, if_pos (by omega), show farD D (k + 1) = farD D k + D (9 + 4 * k) from rfl, Int.min_eq_left]
        rw [Int.tdiv_eq_ediv_of_nonneg (by omega)]
        exact (Int.le_ediv_iff_mul_le hp).mpr (by rw [Int.mul_comm]; omega)
      · rw [(P.2.1 _ b.1 (by omega)).2 b.2.2.2.2.2.2.1, (P.2.1 _ (by omega) b.2.2.2.1).2 b.2.2.2.2.2.2.2.1, lI_sub, P.1.2.2.1 k (by omega), lI_sub, s0]
        have hho' : pH D f l (sE D f l k) - pH D f l (sB D f l k) = hoA D f l k := rfl
        rw [hho', lI_0, lI_eq (rgl_of (A := 10300) (by omega) (by omega)) (rgl_of (A := 0) (by omega) (by omega)), lI_div (rgl_of sb (by omega)) (rgl_of (A := 10300) (by omega) (by omega)), lI_32, iI_add]
        refine ⟨ve, vb, by omega, ?_⟩
        have hz3 : ssm D f l h l = ssm D f l h (k + 1) := ssm_zero w hho n (k + 1) (by omega) (by omega) (fun hl => snc_next w hho hf hl (by omega))
        rw [hz3, ssm_s hf, hs, sld_eq, if_pos (by omega), Int.min_eq_right] at hq
        · exact hq
        · rw [Int.tdiv_eq_ediv_of_nonneg (by omega)]
          have : snc D f l k h / hoA D f l k < D (9 + 4 * k) + 1 := (Int.ediv_lt_iff_lt_mul hp).mpr (by rw [Int.add_mul, Int.mul_comm (D (9 + 4 * k))]; omega)
          omega
    · rw [P.1.2.2.1 k (by omega), ← hs, ← ssm_zero w hho (n + 1) k (by omega) hf (fun _ => by omega)]
      exact hq
theorem m_mileAt (hCl : evCl G) (hV : (30, 0) ∈ evKs G) {i f l : Nat} {D : Nat → Int} {h : Int} (w : WfP D f l) (P : MPln S i D f l) (hst : 0 < pNeed D f l) (hh : 0 ≤ h ∧ h ≤ 999) : evSp G yX6_mileAt M_X6_mileAt (d + 2) [.ref (evad G 30 0), .int (iI h)] S (evQI fun r S' => r = iI (ssm D f l h l) ∧ S' = S) := by
  refine vm_X6_mileAt (vb_X6_mileAt_0 hCl hV (fun v1 h1 => ?_))
  rw [P.1.1] at h1
  subst h1
  refine m_mileAt_loop (d := d) hCl hV w P (fun k a1 a2 => stand_ho w hst a1 a2) hh ⟨rfl, rfl⟩ (l - f) f (by have := w.2.2.1; omega) (Nat.le_refl _) ?_
  cases f with
  | zero => rfl
  | succ f => unfold ssm; rw [if_neg (by omega)]
theorem m_mileOf (hCl : evCl G) (hV : (30, 0) ∈ evKs G) {i f l : Nat} {D : Nat → Int} {h : Int} (w : WfP D f l) (hi : i < 4) (hR : RwD S i D 0 0 0 l) (hT : RwT S i D l) (hh : 0 ≤ h ∧ h ≤ 999) {a b : Int32} (ha : a = nI i) (hb : b = iI h) : evSp G yX6_mileOf M_X6_mileOf (d + 6) [.ref (evad G 30 0), .int a, .int b] S (evQI fun r S' => r = iI (mileS D f l h) ∧ evBm S S' ofLays) := by
  subst hb
  refine vm_X6_mileOf (vb_X6_mileOf_0 hCl hV ((m_plans hCl hV w hi hR hT ha).mI ?_))
  rintro r1 S2 ⟨rfl, b2, p2⟩
  unfold mileS
  by_cases hs : 0 < pNeed D f l ∧ pNeed D f l ≤ D 1
  · rw [if_pos hs, if_pos hs]
    refine ⟨fun h => absurd h (by decide), fun _ => (m_mileAt (d := d + 3) hCl hV w p2 hs.1 hh).mI ?_⟩
    rintro r3 S4 ⟨rfl, rfl⟩
    exact ⟨rfl, b2⟩
  · rw [if_neg hs, if_neg hs]
    exact ⟨fun _ => ⟨rfl, b2⟩, fun h => absurd rfl h⟩
end C6f
