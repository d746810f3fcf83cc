/-! the first stretch: hours at its ends -/
theorem spl_h {D : Nat → Int} {f l : Nat} {c : Int} (w : WfP D f l) : ∀ fu b mk hr, f ≤ b → b ≤ l → hr f = c → (∀ q, f < q → q ≤ l → mk q ≠ 0 → -100 ≤ hr q ∧ hr q ≤ 1100) →
    (spl (farD D) (lowD D f) (highD D f) l fu b mk hr).2 f = c ∧ ∀ q, f < q → q ≤ l → (spl (farD D) (lowD D f) (highD D f) l fu b mk hr).1 q ≠ 0 → -100 ≤ (spl (farD D) (lowD D f) (highD D f) l fu b mk hr).2 q ∧ (spl (farD D) (lowD D f) (highD D f) l fu b mk hr).2 q ≤ 1100 := by
  have g := geoD w
  intro fu
  induction fu with
  | zero => intro b mk hr _ _ h1 h2; exact ⟨h1, h2⟩
  | succ fu ih =>
    intro b mk hr hfb hbl h1 h2
    unfold spl
    split
    · rename_i hlt
      have ne := nxt_in (mk := mk) hlt
      have wi := wrst_in (far := farD D) (low := lowD D f) (high := highD D f) (hr := hr) (e := nxt mk l b) ne.1
      split
      · exact ih _ _ _ (by omega) ne.2 h1 h2
      · rename_i hw
        have gw := g.2.2.2.2 (wrst (farD D) (lowD D f) (highD D f) hr b (nxt mk l b)) (by omega) (by omega)
        have up : ∀ v z : Int, -100 ≤ z ∧ z ≤ 1100 → (upI hr (wrst (farD D) (lowD D f) (highD D f) hr b (nxt mk l b)) z) f = c ∧ ∀ q, f < q → q ≤ l → (upI mk (wrst (farD D) (lowD D f) (highD D f) hr b (nxt mk l b)) v) q ≠ 0 → -100 ≤ (upI hr (wrst (farD D) (lowD D f) (highD D f) hr b (nxt mk l b)) z) q ∧ (upI hr (wrst (farD D) (lowD D f) (highD D f) hr b (nxt mk l b)) z) q ≤ 1100 := by
          intro v z hz
          refine ⟨by rw [upI_o (by omega)]; exact h1, fun q q1 q2 q3 => ?_⟩
          by_cases e : q = wrst (farD D) (lowD D f) (highD D f) hr b (nxt mk l b)
          · rw [e, upI_at]; exact hz
          · rw [upI_o e] at q3 ⊢; exact h2 q q1 q2 q3
        split
        · exact ih _ _ _ hfb hbl (up 1 _ (by omega)).1 (up 1 _ (by omega)).2
        · exact ih _ _ _ hfb hbl (up 2 _ (by omega)).1 (up 2 _ (by omega)).2
    · exact ⟨h1, h2⟩
theorem pH_h {D : Nat → Int} {f l : Nat} (w : WfP D f l) : pH D f l f = D 3 ∧ ∀ q, f < q → q ≤ l → pM D f l q ≠ 0 → -100 ≤ pH D f l q ∧ pH D f l q ≤ 1100 := by
  refine spl_h w 14 f (mk0 f l) (hr0 D f l) (Nat.le_refl _) w.2.2.1 (by unfold hr0; rw [if_pos rfl]) (fun q q1 q2 q3 => ?_)
  have g := (geoD w).2.2.2.2 l (by omega) (Nat.le_refl _)
  unfold hr0
  rw [if_neg (by omega)]
  omega
theorem sail_t {D : Nat → Int} {f l : Nat} (w : WfP D f l) (hfl : f < l) (hs : 0 < pNeed D f l) : 0 ≤ tU D f l f ∧ tU D f l f ≤ 1100 * miA D f l f := by
  obtain ⟨a1, a2, a3, a4, a5, a6, a7, a8, a9, a10, a11, a12⟩ := sBE w (Nat.le_refl f) hfl
  have ho := stand_ho w hs (Nat.le_refl f) hfl
  have eB : sB D f l f = f := prv_self (mokP w).2.2.2
  have hf := (pH_h w).1
  have he := (pH_h w).2 (sE D f l f) (by omega) a4 a8
  have d3 := w.2.2.2.2.1
  have fd := far_be (geoD w) (b := f) (e := f + 1) (by omega) (by omega)
  have fe := far_be (geoD w) (b := f + 1) (e := sE D f l f) (by omega) a4
  unfold tU
  rw [wtD_0 (f + 1) (Nat.le_refl _), Int.zero_mul, Int.add_zero]
  unfold hoA at ho
  unfold miA at a9 ⊢
  unfold evn
  rw [eB] at ho a9 ⊢
  have p1 := Int.mul_nonneg (a := pH D f l f) (b := farD D (sE D f l f) - farD D f) (by omega) (by omega)
  have p2 := Int.mul_nonneg (a := pH D f l (sE D f l f) - pH D f l f) (b := farD D (f + 1) - farD D f) (by omega) (by omega)
  have p3 := Int.mul_le_mul_of_nonneg_left (c := pH D f l (sE D f l f) - pH D f l f) (a := farD D (f + 1) - farD D f) (b := farD D (sE D f l f) - farD D f) (by omega) (by omega)
  have p4 := Int.mul_le_mul_of_nonneg_right (a := pH D f l (sE D f l f)) (b := 1100) (c := farD D (sE D f l f) - farD D f) (by omega) (by omega)
  have p5 : (pH D f l (sE D f l f) - pH D f l f) * (farD D (sE D f l f) - farD D f) = pH D f l (sE D f l f) * (farD D (sE D f l f) - farD D f) - pH D f l f * (farD D (sE D f l f) - farD D f) := Int.sub_mul _ _ _
  omega
/-- the hour at which one comes in next, rounded up -/
theorem sail_c {D : Nat → Int} {f l : Nat} (w : WfP D f l) (hfl : f < l) (hs : 0 < pNeed D f l) : 0 ≤ -((-tU D f l f) / miA D f l f) ∧ -((-tU D f l f) / miA D f l f) ≤ 1100 := by
  obtain ⟨t1, t2⟩ := sail_t w hfl hs
  have m1 := (sBE w (Nat.le_refl f) hfl).2.2.2.2.2.2.2.2.1
  rw [ceil_eq (by omega)]
  refine ⟨Int.ediv_nonneg (by omega) (by omega), ?_⟩
  have := Int.ediv_lt_of_lt_mul (a := tU D f l f + miA D f l f - 1) (b := 1101) (c := miA D f l f) (by omega) (by omega)
  omega
