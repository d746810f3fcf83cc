/-! CONTRACTS OF THE REFERENCE: fastNeeded, hasPlan, plans, stretches -/
theorem mea_0 {far : Nat → Int} {last : Nat} {mk hr : Nat → Int} : ∀ f b nd cn, (mea far last mk hr f b nd 0 cn).2.1 = 0 := by
  intro f
  induction f with
  | zero => intro b nd cn; rfl
  | succ f ih =>
    intro b nd cn
    unfold mea
    split
    · split
      · exact ih _ _ _
      · exact ih _ _ _
    · rfl
theorem mea_ge {far : Nat → Int} {last : Nat} {mk hr : Nat → Int} : ∀ f b nd ok cn, nd ≤ (mea far last mk hr f b nd ok cn).1 := by
  intro f
  induction f with
  | zero => intro b nd ok cn; exact Int.le_refl _
  | succ f ih =>
    intro b nd ok cn
    unfold mea
    split
    · split
      · exact Int.le_trans (Int.le_max_left _ _) (ih _ _ _ _)
      · exact ih _ _ _ _
    · exact Int.le_refl _
/-- marks among ports first + 1 .. first + n -/
def cmk (mk : Nat → Int) (first : Nat) : Nat → Int
  | 0 => 0
  | n + 1 => cmk mk first n + (if mk (first + (n + 1)) = 0 then 0 else 1)
theorem cmk_z {mk : Nat → Int} {first b : Nat} (hb : first ≤ b) : ∀ n, (∀ k, b < k → k ≤ b + n → mk k = 0) → cmk mk first (b + n - first) = cmk mk first (b - first) := by
  intro n
  induction n with
  | zero => intro _; rfl
  | succ n ih =>
    intro h
    rw [show b + (n + 1) - first = (b + n - first) + 1 by omega, ← ih (fun k a1 a2 => h k a1 (by omega))]
    conv => lhs; unfold cmk
    rw [if_pos (by rw [show first + (b + n - first + 1) = b + n + 1 by omega]; exact h _ (by omega) (by omega)), Int.add_zero]
theorem cmk_st {mk : Nat → Int} {first last b : Nat} (hfb : first ≤ b) (hb : b < last) (hl : mk last ≠ 0) : cmk mk first (nxt mk last b - first) = cmk mk first (b - first) + 1 := by
  have ne := nxt_in (mk := mk) hb
  have h := cmk_z (mk := mk) hfb (nxt mk last b - 1 - b) (fun k a1 a2 => nxt_un hb a1 (by omega))
  rw [show b + (nxt mk last b - 1 - b) - first = nxt mk last b - 1 - first by omega] at h
  rw [show nxt mk last b - first = (nxt mk last b - 1 - first) + 1 by omega, ← h]
  conv => lhs; unfold cmk
  rw [if_neg (by rw [show first + (nxt mk last b - 1 - first + 1) = nxt mk last b by omega]; exact nxt_mk hl)]
theorem mea_cn {far : Nat → Int} {first last : Nat} {mk hr : Nat → Int} (hl : mk last ≠ 0) : ∀ f b nd ok cn, first ≤ b → b ≤ last → last < b + f → cn = cmk mk first (b - first) → (mea far last mk hr f b nd ok cn).2.2 = cmk mk first (last - first) := by
  intro f
  induction f with
  | zero => intro b nd ok cn _ h1 h2; omega
  | succ f ih =>
    intro b nd ok cn h0 h1 h2 h3
    unfold mea
    split
    · rename_i hlt
      have ne := nxt_in (mk := mk) hlt
      have := cmk_st (mk := mk) h0 hlt hl
      split
      · exact ih _ _ _ _ (by omega) ne.2 (by omega) (by rw [this, h3])
      · exact ih _ _ _ _ (by omega) ne.2 (by omega) (by rw [this, h3])
    · rw [h3, show b = last by omega]
section C6d
variable {G : evG} {d : Nat} {S : evS}
theorem m_fast_loop (hCl : evCl G) (hV : (30, 0) ∈ evKs G) {first last : Nat} {far low high mk hr : Nat → Int} (g : Geo first last far low high) (hMo : Mok first last mk hr) (hC : MlC S first last far low high) (hM : MlM S first last mk hr) {q : Int32 → evS → Prop} :
    ∀ f b nd cn, first ≤ b → b ≤ last → last < b + f → mk b ≠ 0 → 0 ≤ nd ∧ nd ≤ 594 → q (if (mea far last mk hr f b nd 1 cn).2.1 = 0 then (-9) else iI (max 1 (mea far last mk hr f b nd 1 cn).1)) S → bk_X6_fastNeeded_21 G (d + 1 - 1) (evQI q) 0 (lI (max 1 nd)) (nI b) S := by
  have h6 := g.2.1
  intro f
  induction f with
  | zero => intro b nd cn _ h1 h2; omega
  | succ f ih =>
    intro b nd cn hfb hbl hlf hmb hnd hq
    refine vb_X6_fastNeeded_21 hCl hV ⟨fun h => ?_, fun h => ?_⟩
    · rw [hC.2.1] at h
      have hge : ¬ b < last := fun z => absurd h (nI_ge z (by omega))
      have e : mea far last mk hr (f + 1) b nd 1 cn = (nd, 1, cn) := by unfold mea; rw [if_neg hge]
      rw [e, if_neg (show ¬ ((nd, (1 : Int), cn) : Int × Int × Int).2.1 = 0 from by show ¬ (1 : Int) = 0; decide)] at hq
      rw [lI_32]
      exact hq
    · have hlt : b < last := by
        rcases Nat.lt_or_ge b last with z | z
        · exact z
        · exact absurd (by rw [hC.2.1]; exact nI_le z (by omega)) h
      have ne := nxt_in (mk := mk) hlt
      have nm := nxt_mk (mk := mk) (last := last) (b := b) hMo.2.2.1
      have hbb := hMo.2.1 b hfb hbl hmb
      have hbe := hMo.2.1 (nxt mk last b) (by omega) ne.2 nm
      have fb := far_be g (b := b) (e := nxt mk last b) (by omega) ne.2
      have ve : vp_in (nI (nxt mk last b)) 7 := vp_in_nI (by omega) (by omega)
      have vb : vp_in (nI b) 7 := vp_in_nI (by omega) (by omega)
      refine (m_markBehind hCl hV h6 hlt hfb hMo hM).mI ?_
      rintro r1 S2 ⟨rfl, rfl⟩
      rw [nI_clamp (n := nxt mk last b) (by omega), nI_clamp (n := b) (by omega), (hM _ (by omega) ne.2).2 nm, (hM b hfb hbl).2 hmb, lI_sub, hC.2.2.1 _ ne.2, hC.2.2.1 b hbl, iI_sub, iI_64 (rg_of (A := 594) (by omega) (by omega))]
      refine ⟨ve, vb, fun v5 h5 => ?_⟩
      subst h5
      rw [lI_0, lI_lt (rgl_of (A := 0) (by omega) (by omega)) (rgl_of (A := 11000) (by omega) (by omega)), lI_eq (rgl_of (A := 11000) (by omega) (by omega)) (rgl_of (A := 0) (by omega) (by omega))]
      refine ⟨fun hz => ⟨ve, vb, by omega, fun v9 h9 => ?_⟩, fun hz => ?_⟩
      · have td := tdiv_ceil (m := far (nxt mk last b) - far b) (s := hr (nxt mk last b) - hr b) (by omega) hz
        rw [show (1 : Int64) = lI 1 from rfl, lI_add, lI_sub, lI_div (rgl_of (A := 12000) (by omega) (by omega)) (rgl_of (A := 11000) (by omega) (by omega))] at h9
        subst h9
        have e : mea far last mk hr (f + 1) b nd 1 cn = mea far last mk hr f (nxt mk last b) (max nd ((far (nxt mk last b) - far b + (hr (nxt mk last b) - hr b) - 1).tdiv (hr (nxt mk last b) - hr b))) 1 (cn + 1) := by
          conv => lhs; unfold mea
          rw [if_pos hlt, if_pos hz]
        rw [e] at hq
        have hh := ih (nxt mk last b) (max nd ((far (nxt mk last b) - far b + (hr (nxt mk last b) - hr b) - 1).tdiv (hr (nxt mk last b) - hr b))) (cn + 1) (by omega) ne.2 (by omega) nm (by omega) hq
        rw [lI_le (rgl_of (A := 594) (by omega) (by omega)) (rgl_of (A := 594) (by omega) (by omega))]
        refine ⟨fun hc => vb_X6_fastNeeded_100 hCl hV ?_, fun hc => vb_X6_fastNeeded_100 hCl hV ?_⟩
        · rw [show max 1 (max nd ((far (nxt mk last b) - far b + (hr (nxt mk last b) - hr b) - 1).tdiv (hr (nxt mk last b) - hr b))) = max 1 nd by omega] at hh
          exact hh
        · rw [show max 1 (max nd ((far (nxt mk last b) - far b + (hr (nxt mk last b) - hr b) - 1).tdiv (hr (nxt mk last b) - hr b))) = (far (nxt mk last b) - far b + (hr (nxt mk last b) - hr b) - 1).tdiv (hr (nxt mk last b) - hr b) by omega] at hh
          exact hh
      · have e : mea far last mk hr (f + 1) b nd 1 cn = mea far last mk hr f (nxt mk last b) nd 0 (cn + 1) := by
          conv => lhs; unfold mea
          rw [if_pos hlt, if_neg hz]
        rw [e, if_pos (mea_0 _ _ _ _)] at hq
        exact hq
/-- needs(): -9, if there is none -/
def needS (D : Nat → Int) (f l : Nat) : Int := if pNeed D f l = 0 then -9 else pNeed D f l
theorem need_pos {D : Nat → Int} {f l : Nat} (w : WfP D f l) (h : f < l) (hk : (pN D f l).2.1 ≠ 0) : 1 ≤ (pN D f l).1 := by
  have mo := mokP w
  have h6 := w.2.2.2.1
  have ne := nxt_in (mk := pM D f l) h
  have ok := (mea_ok mo.2.2.1 7 f 0 1 0 w.2.2.1 (by omega) mo.2.2.2 hk).2 f (Nat.le_refl _) h
  have fb := far_be (geoD w) (b := f) (e := nxt (pM D f l) l f) (by omega) ne.2
  rw [prv_st h mo.2.2.2 (Nat.le_refl _) ne.1] at ok
  have td := tdiv_ceil (m := farD D (nxt (pM D f l) l f) - farD D f) (s := pH D f l (nxt (pM D f l) l f) - pH D f l f) (by omega) ok
  have e : pN D f l = mea (farD D) l (pM D f l) (pH D f l) 6 (nxt (pM D f l) l f) (max 0 ((farD D (nxt (pM D f l) l f) - farD D f + (pH D f l (nxt (pM D f l) l f) - pH D f l f) - 1).tdiv (pH D f l (nxt (pM D f l) l f) - pH D f l f))) 1 (0 + 1) := by
    unfold pN
    conv => lhs; unfold mea
    rw [if_pos h, if_pos ok]
  rw [e]
  have := mea_ge (far := farD D) (last := l) (mk := pM D f l) (hr := pH D f l) 6 (nxt (pM D f l) l f) (max 0 ((farD D (nxt (pM D f l) l f) - farD D f + (pH D f l (nxt (pM D f l) l f) - pH D f l f) - 1).tdiv (pH D f l (nxt (pM D f l) l f) - pH D f l f))) 1 (0 + 1)
  omega
theorem m_fastNeeded (hCl : evCl G) (hV : (30, 0) ∈ evKs G) {i f l : Nat} {D : Nat → Int} (w : WfP D f l) (P : MPln S i D f l) : evSp G yX6_fastNeeded M_X6_fastNeeded (d + 1) [.ref (evad G 30 0)] S (evQI fun r S' => r = iI (needS D f l) ∧ S' = S) := by
  have h6 := w.2.2.2.1
  have hfl := w.2.2.1
  have mo := mokP w
  refine vm_X6_fastNeeded (vb_X6_fastNeeded_0 hCl hV ?_)
  rw [P.1.1, P.1.2.1]
  refine ⟨fun h v1 hv1 => ?_, fun h => ⟨?_, rfl⟩⟩
  · have hlt : f < l := (nI_ltI (by omega) (by omega)).mp h
    subst hv1
    refine m_fast_loop (d := d) hCl hV (geoD w) mo P.1 P.2.1 7 f 0 0 (Nat.le_refl _) hfl (by omega) mo.2.2.2 (by omega) ⟨?_, rfl⟩
    show (if (pN D f l).2.1 = 0 then (-9) else iI (max 1 (pN D f l).1)) = iI (needS D f l)
    by_cases hz : (pN D f l).2.1 = 0
    · rw [if_pos hz]
      unfold needS pNeed
      rw [if_pos hz, if_pos rfl]
      rfl
    · have := need_pos w hlt hz
      rw [if_neg hz]
      unfold needS pNeed
      rw [if_neg hz, if_neg (by omega), Int.max_eq_right (by omega)]
  · have hge : ¬ f < l := fun z => h (nI_lt z (by omega))
    have e : pN D f l = (0, 1, 0) := by unfold pN mea; rw [if_neg hge]
    have e2 : pNeed D f l = 0 := by unfold pNeed; rw [e]; rfl
    unfold needS
    rw [if_pos e2]
    rfl
theorem m_hasPlan (hCl : evCl G) (hV : (30, 0) ∈ evKs G) {i f l : Nat} {D : Nat → Int} (w : WfP D f l) (P : MPln S i D f l) (hi : i < 4) (h1 : S.1 31 0 (33 * i + 1) = iI (D 1)) : evSp G yX6_hasPlan M_X6_hasPlan (d + 2) [.ref (evad G 30 0)] S (evQI fun r S' => r = (if 0 < pNeed D f l ∧ pNeed D f l ≤ D 1 then 1 else 0) ∧ S' = S) := by
  have nb := need_b w
  have d1 := w.2.2.2.2.2.2.1
  have d2 := w.2.2.2.2.2.2.2.1
  refine vm_X6_hasPlan (vb_X6_hasPlan_0 hCl hV ((m_fastNeeded hCl hV w P).mI ?_))
  rintro r1 S2 ⟨rfl, rfl⟩
  rw [show (-9 : Int32) = iI (-9) from rfl, iI_eq (rg_of (A := 594) (by unfold needS; split <;> omega) (by omega)) (rg_of (A := 9) (by omega) (by omega))]
  refine ⟨fun h => ⟨?_, rfl⟩, fun h => (m_of hCl hV hi (k := 1) (by omega) P.2.2.2 rfl).mI ?_⟩
  · rw [if_neg]
    unfold needS at h
    split at h <;> omega
  · rintro r3 S4 ⟨rfl, rfl⟩
    have hn : pNeed D f l ≠ 0 := fun z => h (by unfold needS; rw [if_pos z])
    rw [h1, iI_lt (rg_of (A := 60) (by omega) (by omega)) (rg_of (A := 594) (by unfold needS; split <;> omega) (by omega)), show needS D f l = pNeed D f l from by unfold needS; rw [if_neg hn]]
    exact ⟨fun z => ⟨by rw [if_neg (by omega)], rfl⟩, fun z => ⟨by rw [if_pos (by omega)], rfl⟩⟩
theorem m_stretches (hCl : evCl G) (hV : (30, 0) ∈ evKs G) {i f l : Nat} {D : Nat → Int} (w : WfP D f l) (P : MPln S i D f l) : evSp G yX6_stretches M_X6_stretches d [.ref (evad G 30 0)] S (evQI fun r S' => r = iI (pN D f l).2.2 ∧ S' = S) := by
  have h6 := w.2.2.2.1
  have hfl := w.2.2.1
  have mo := mokP w
  have cn : (pN D f l).2.2 = cmk (pM D f l) f (l - f) := mea_cn mo.2.2.1 7 f 0 1 0 (Nat.le_refl _) hfl (by omega) (by rw [Nat.sub_self]; rfl)
  have loop : ∀ n k, k + n = l - f → bk_X6_stretches_9 G d (evQI fun r S' => r = iI (pN D f l).2.2 ∧ S' = S) 0 (iI (cmk (pM D f l) f k)) (nI (f + (k + 1))) S := by
    intro n
    induction n with
    | zero =>
      intro k hk
      refine vb_X6_stretches_9 hCl hV ⟨fun _ => ⟨by rw [cn, show k = l - f by omega], rfl⟩, fun h => absurd (by rw [P.1.2.1]; exact nI_lt (by omega) (by omega)) h⟩
    | succ n ih =>
      intro k hk
      have m := (P.2.1 (f + (k + 1)) (by omega) (by omega)).1
      have mr := mo.1 (f + (k + 1)) (by omega) (by omega)
      refine vb_X6_stretches_9 hCl hV ⟨fun h => absurd h (by rw [P.1.2.1]; exact nI_nlt (by omega) (by omega)), fun _ => ⟨vp_in_nI (by omega) (by omega), ?_⟩⟩
      rw [nI_clamp (by omega), m, iI_0, iI_eq (rg_of (A := 3) (by omega) (by omega)) (rg_of (A := 0) (by omega) (by omega))]
      refine ⟨fun hz => vb_X6_stretches_32 hCl hV (fun v1 hv1 v2 hv2 => ?_), fun hz => vb_X6_stretches_32 hCl hV (fun v1 hv1 v2 hv2 => ?_)⟩
      · rw [nI_1] at hv2
        rw [iI_1, iI_add, show cmk (pM D f l) f k + 1 = cmk (pM D f l) f (k + 1) from by conv => rhs; unfold cmk; rw [if_neg hz]] at hv1
        subst hv1 hv2
        exact ih (k + 1) (by omega)
      · rw [nI_1] at hv2
        rw [iI_add, show cmk (pM D f l) f k + 0 = cmk (pM D f l) f (k + 1) from by conv => rhs; unfold cmk; rw [if_pos hz]] at hv1
        subst hv1 hv2
        exact ih (k + 1) (by omega)
  refine vm_X6_stretches (vb_X6_stretches_0 hCl hV (fun v1 hv1 => ?_))
  rw [P.1.1, nI_1] at hv1
  subst hv1
  exact loop (l - f) 0 (by omega)
end C6d
