/-! CONTRACTS: Plan.layPorts; a ship's numbers as whole numbers D 0 .. D 32 -/
def farD (D : Nat → Int) : Nat → Int
  | 0 => 0
  | k + 1 => farD D k + D (9 + 4 * k)
def wtD (D : Nat → Int) (first : Nat) : Nat → Int
  | 0 => 0
  | p + 1 => if first < p then wtD D first p + D (9 + (4 * (p - 1) + 1)) else 0
def lowD (D : Nat → Int) (first p : Nat) : Int := D (9 + (4 * (p - 1) + 2)) - wtD D first p
def highD (D : Nat → Int) (first p : Nat) : Int := D (9 + (4 * (p - 1) + 3)) - wtD D first p
/-- bounds of a ship's numbers, windows one hour wider and 99 hours of delay among them -/
def WfP (D : Nat → Int) (first last : Nat) : Prop := D 2 = first ∧ D 0 = last ∧ first ≤ last ∧ last ≤ 6 ∧ 0 ≤ D 3 ∧ D 3 ≤ 10100 ∧ 1 ≤ D 1 ∧ D 1 ≤ 60 ∧
  ∀ k, k < last → 1 ≤ D (9 + 4 * k) ∧ D (9 + 4 * k) ≤ 99 ∧ 0 ≤ D (9 + (4 * k + 1)) ∧ D (9 + (4 * k + 1)) ≤ 9 ∧ -1 ≤ D (9 + (4 * k + 2)) ∧ D (9 + (4 * k + 2)) ≤ 999 ∧ 0 ≤ D (9 + (4 * k + 3)) ∧ D (9 + (4 * k + 3)) ≤ 1000
theorem wtD_b {D : Nat → Int} {first last : Nat} (w : WfP D first last) : ∀ p, p ≤ last → 0 ≤ wtD D first p ∧ wtD D first p ≤ 9 * p := by
  intro p
  induction p with
  | zero => intro _; unfold wtD; omega
  | succ p ih =>
    intro h
    have h1 := ih (by omega)
    unfold wtD
    split
    · have h2 := w.2.2.2.2.2.2.2.2 (p - 1) (by omega)
      omega
    · omega
theorem geoD {D : Nat → Int} {first last : Nat} (w : WfP D first last) : Geo first last (farD D) (lowD D first) (highD D first) := by
  refine ⟨w.2.2.1, w.2.2.2.1, fun k hk => ?_, rfl, fun k h1 h2 => ?_⟩
  · have h2 := w.2.2.2.2.2.2.2.2 k hk
    rw [show farD D (k + 1) = farD D k + D (9 + 4 * k) from rfl]
    omega
  · have h3 := w.2.2.2.2.2.2.2.2 (k - 1) (by omega)
    have h4 := wtD_b w k h2
    have h5 := w.2.2.2.1
    unfold lowD highD
    omega
/-- what layPorts writes -/
def ofLay (x : Nat) : Nat → Nat → Nat → Prop := fun a b _ => b = x ∧ (a = 7 ∨ a = 8 ∨ a = 9 ∨ a = 10 ∨ a = 12)
section C5e
variable {G : evG} {d : Nat}
theorem c_lay2 (hCl : evCl G) {x x1 first last : Nat} {D : Nat → Int} (hV : (6, x) ∈ evKs G) (hV1 : (3, x1) ∈ evKs G) (h6 : last ≤ 6) (S0 : evS) (hD : ∀ k w, k < last → w < 4 → S0.1 5 x1 (4 * k + w) = iI (D (9 + (4 * k + w)))) (hl : S0.1 6 x 1 = nI last) {q : evS → Prop}
    (hq : ∀ S' : evS, evBc S0 S' (ofLay x) → (∀ k, k ≤ last → S'.1 7 x k = S0.1 7 x k) → (∀ p, first < p → p ≤ last → S'.1 8 x p = iI (wtD D first p) ∧ S'.1 9 x p = iI (lowD D first p) ∧ S'.1 10 x p = iI (highD D first p) ∧ S'.1 12 x p = 0) → q S') :
    ∀ n p (S : evS), p + n = last + 1 → first < p → evBc S0 S (ofLay x) → (∀ k, k ≤ last → S.1 7 x k = S0.1 7 x k) → (∀ j, first < j → j < p → S.1 8 x j = iI (wtD D first j) ∧ S.1 9 x j = iI (lowD D first j) ∧ S.1 10 x j = iI (highD D first j) ∧ S.1 12 x j = 0) → bk_X2_layPorts_55 G (d + 1) (evQV q) x x1 (iI (wtD D first p)) (nI p) S := by
  intro n
  induction n with
  | zero =>
    intro p S hp hfp hB h7 hs
    refine vb_X2_layPorts_55 hCl hV hV1 ⟨fun _ => hq S hB h7 (fun j a1 a2 => hs j a1 (by omega)), fun h => absurd ?_ h⟩
    rw [hB.1 6 x 1 (by rintro ⟨-, z⟩; omega), hl]
    exact nI_lt (by omega) (by omega)
  | succ n ih =>
    intro p S hp hfp hB h7 hs
    refine vb_X2_layPorts_55 hCl hV hV1 ⟨fun h => absurd h ?_, fun _ => ?_⟩
    · rw [hB.1 6 x 1 (by rintro ⟨-, z⟩; omega), hl]
      exact nI_nlt (by omega) (by omega)
    have vp : vp_in (nI p) 7 := vp_in_nI (by omega) (by omega)
    have hpm : nI p - 1 = nI (p - 1) := by
      have := nI_pred (p - 1)
      rw [show p - 1 + 1 = p by omega] at this
      exact this
    have leg : ∀ (T : evS) w, w < 4 → evBc S0 T (ofLay x) → T.1 5 x1 (4 * (p - 1) + w) = iI (D (9 + (4 * (p - 1) + w))) := by
      intro T w hw hT
      rw [hT.1 5 x1 _ (by rintro ⟨-, z⟩; omega)]
      exact hD _ _ (by omega) hw
    refine ⟨vp, fun S2 e2 => ?_⟩
    have b2 : evBc S0 S2 (ofLay x) := by rw [e2]; exact hB.tr (evBc.upw ⟨rfl, by omega⟩)
    refine (c_ofLeg hCl hV1 (k := p - 1) (w := 2) (by omega) (by omega) hpm rfl).mI ?_
    rintro r3 S4 ⟨hr3, hS4⟩
    subst hS4
    rw [leg _ 2 (by omega) b2] at hr3
    refine ⟨vp, fun S6 e6 => ?_⟩
    have b6 : evBc S0 S6 (ofLay x) := by rw [e6]; exact b2.tr (evBc.upw ⟨rfl, by omega⟩)
    refine (c_ofLeg hCl hV1 (k := p - 1) (w := 3) (by omega) (by omega) hpm rfl).mI ?_
    rintro r7 S8 ⟨hr7, hS8⟩
    subst hS8
    rw [leg _ 3 (by omega) b6] at hr7
    refine ⟨vp, fun S10 e10 => ⟨vp, fun S12 e12 => ?_⟩⟩
    have b10 : evBc S0 S10 (ofLay x) := by rw [e10]; exact b6.tr (evBc.upw ⟨rfl, by omega⟩)
    have b12 : evBc S0 S12 (ofLay x) := by rw [e12]; exact b10.tr (evBc.upw ⟨rfl, by omega⟩)
    refine (c_ofLeg hCl hV1 (k := p - 1) (w := 1) (by omega) (by omega) hpm rfl).mI ?_
    rintro r13 S14 ⟨hr13, hS14⟩ v15 hv15 v16 hv16
    subst hS14
    rw [leg _ 1 (by omega) b12] at hr13
    rw [hr13, iI_add, show wtD D first p + D (9 + (4 * (p - 1) + 1)) = wtD D first (p + 1) from by unfold wtD; rw [if_pos hfp]; cases p <;> rfl] at hv15
    rw [nI_1] at hv16
    rw [nI_clamp (by omega)] at e2 e6 e10 e12
    subst hv15 hv16
    refine ih (p + 1) _ (by omega) (by omega) b12 (fun k hk => ?_) (fun j a1 a2 => ?_)
    · rw [e12, e10, e6, e2, evup_ne (by rintro ⟨y, -⟩; cases y), evup_ne (by rintro ⟨y, -⟩; cases y), evup_ne (by rintro ⟨y, -⟩; cases y), evup_ne (by rintro ⟨y, -⟩; cases y)]
      exact h7 k hk
    · by_cases hj : j = p
      · subst hj
        refine ⟨?_, ?_, ?_, ?_⟩
        · rw [e12, e10, e6, e2, evup_ne (by rintro ⟨y, -⟩; cases y), evup_ne (by rintro ⟨y, -⟩; cases y), evup_ne (by rintro ⟨y, -⟩; cases y), evup_at]
        · rw [e12, e10, e6, evup_ne (by rintro ⟨y, -⟩; cases y), evup_ne (by rintro ⟨y, -⟩; cases y), evup_at, hr3, iI_sub]
          rfl
        · rw [e12, e10, evup_ne (by rintro ⟨y, -⟩; cases y), evup_at, hr7, iI_sub]
          rfl
        · rw [e12, evup_at]
      · have hs' := hs j a1 (by omega)
        rw [e12, e10, e6, e2]
        refine ⟨?_, ?_, ?_, ?_⟩
        · rw [evup_ne (by rintro ⟨y, -⟩; cases y), evup_ne (by rintro ⟨y, -⟩; cases y), evup_ne (by rintro ⟨y, -⟩; cases y), evup_o hj]; exact hs'.1
        · rw [evup_ne (by rintro ⟨y, -⟩; cases y), evup_ne (by rintro ⟨y, -⟩; cases y), evup_o hj, evup_ne (by rintro ⟨y, -⟩; cases y)]; exact hs'.2.1
        · rw [evup_ne (by rintro ⟨y, -⟩; cases y), evup_o hj, evup_ne (by rintro ⟨y, -⟩; cases y), evup_ne (by rintro ⟨y, -⟩; cases y)]; exact hs'.2.2.1
        · rw [evup_o hj, evup_ne (by rintro ⟨y, -⟩; cases y), evup_ne (by rintro ⟨y, -⟩; cases y), evup_ne (by rintro ⟨y, -⟩; cases y)]; exact hs'.2.2.2
theorem c_lay1 (hCl : evCl G) {x x1 first last : Nat} {D : Nat → Int} (hV : (6, x) ∈ evKs G) (hV1 : (3, x1) ∈ evKs G) (h6 : last ≤ 6) (S0 : evS) (hD : ∀ k w, k < last → w < 4 → S0.1 5 x1 (4 * k + w) = iI (D (9 + (4 * k + w)))) (hl : S0.1 6 x 1 = nI last) {q : evS → Prop}
    (hq : ∀ S' : evS, evBc S0 S' (ofLay x) → (∀ k, k ≤ last → S'.1 7 x k = iI (farD D k)) → bk_X2_layPorts_55 G (d + 1) (evQV q) x x1 0 (S'.1 6 x 0 + 1) S') :
    ∀ n k (S : evS), k + n = last → evBc S0 S (ofLay x) → (∀ j, j ≤ k → S.1 7 x j = iI (farD D j)) → bk_X2_layPorts_9 G (d + 1) (evQV q) x x1 (nI (k + 1)) S := by
  intro n
  induction n with
  | zero =>
    intro k S hk hB hs
    refine vb_X2_layPorts_9 hCl hV hV1 ⟨fun _ v1 hv1 => ?_, fun h => absurd ?_ h⟩
    · rw [hv1]
      exact hq S hB (fun j hj => hs j (by omega))
    · rw [hB.1 6 x 1 (by rintro ⟨-, z⟩; omega), hl]
      exact nI_lt (by omega) (by omega)
  | succ n ih =>
    intro k S hk hB hs
    refine vb_X2_layPorts_9 hCl hV hV1 ⟨fun h => absurd h ?_, fun _ => ?_⟩
    · rw [hB.1 6 x 1 (by rintro ⟨-, z⟩; omega), hl]
      exact nI_nlt (by omega) (by omega)
    rw [nI_pred]
    refine ⟨vp_in_nI (by omega) (by omega), ?_⟩
    refine (c_ofLeg hCl hV1 (k := k) (w := 0) (by omega) (by omega) rfl rfl).mI ?_
    rintro r3 S4 ⟨hr3, hS4⟩
    subst hS4
    rw [hB.1 5 x1 _ (by rintro ⟨-, z⟩; omega), hD k 0 (by omega) (by omega)] at hr3
    refine ⟨vp_in_nI (by omega) (by omega), fun S6 e6 v7 hv7 => ?_⟩
    rw [nI_clamp (by omega), nI_clamp (by omega), hs k (Nat.le_refl k), hr3, iI_add] at e6
    rw [nI_1] at hv7
    subst hv7 e6
    refine ih (k + 1) _ (by omega) (hB.tr (evBc.upw ⟨rfl, by omega⟩)) (fun j hj => ?_)
    by_cases h : j = k + 1
    · subst h; rw [evup_at]; rfl
    · rw [evup_o h]; exact hs j (by omega)
theorem c_layPorts (hCl : evCl G) {x x1 first last : Nat} {D : Nat → Int} {S : evS} (hV : (6, x) ∈ evKs G) (hV1 : (3, x1) ∈ evKs G) (hfl : first ≤ last) (h6 : last ≤ 6) (hD : ∀ k w, k < last → w < 4 → S.1 5 x1 (4 * k + w) = iI (D (9 + (4 * k + w)))) (hf : S.1 6 x 0 = nI first) (hl : S.1 6 x 1 = nI last) :
    evSp G yX2_layPorts M_X2_layPorts (d + 2) [.ref (evad G 6 x), .ref (evad G 3 x1)] S (evQV fun S' => evBc S S' (ofLay x) ∧ (∀ k, k ≤ last → S'.1 7 x k = iI (farD D k)) ∧ ∀ p, first < p → p ≤ last → S'.1 8 x p = iI (wtD D first p) ∧ S'.1 9 x p = iI (lowD D first p) ∧ S'.1 10 x p = iI (highD D first p) ∧ S'.1 12 x p = 0) := by
  refine vm_X2_layPorts (vb_X2_layPorts_0 hCl hV hV1 (fun S1 e1 => ?_))
  have b1 : evBc S S1 (ofLay x) := by rw [e1]; exact evBc.upw ⟨rfl, by omega⟩
  refine c_lay1 (D := D) (first := first) hCl hV hV1 h6 S hD hl ?_ last 0 S1 (by omega) b1 (fun j hj => ?_)
  · intro S' hb hs
    have hw : wtD D first (first + 1) = 0 := by unfold wtD; rw [if_neg (by omega)]
    have h := c_lay2 (d := d) (D := D) (first := first) (q := fun S' => evBc S S' (ofLay x) ∧ (∀ k, k ≤ last → S'.1 7 x k = iI (farD D k)) ∧ ∀ p, first < p → p ≤ last → S'.1 8 x p = iI (wtD D first p) ∧ S'.1 9 x p = iI (lowD D first p) ∧ S'.1 10 x p = iI (highD D first p) ∧ S'.1 12 x p = 0) hCl hV hV1 h6 S'
      (fun k w a1 a2 => by rw [hb.1 5 x1 _ (by rintro ⟨-, z⟩; omega)]; exact hD k w a1 a2) (by rw [hb.1 6 x 1 (by rintro ⟨-, z⟩; omega)]; exact hl)
      (fun S2 c1 c2 c3 => ⟨hb.tr c1, fun k hk => by rw [c2 k hk]; exact hs k hk, c3⟩) (last - first) (first + 1) S' (by omega) (by omega) evBc.rf (fun _ _ => rfl) (fun j a1 a2 => absurd a2 (by omega))
    rw [hb.1 6 x 0 (by rintro ⟨-, z⟩; omega), hf, nI_1]
    rw [hw] at h
    exact h
  · rw [show j = 0 by omega, e1, evup_at]
    rfl
end C5e
