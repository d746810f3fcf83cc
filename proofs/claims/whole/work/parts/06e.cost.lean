/-! CONTRACTS OF THE REFERENCE: plans, milesAt, timeTimes, costOf, costsAhead -/
def RwT (S : evS) (i : Nat) (D : Nat → Int) (last : Nat) : Prop := S.1 31 0 (33 * i + 1) = iI (D 1) ∧ (∀ n, n < 4 → S.1 31 0 (33 * i + (5 + n)) = iI (D (5 + n))) ∧ ∀ k, k < last → S.1 31 0 (33 * i + (9 + (4 * k + 0))) = iI (D (9 + 4 * k))
theorem RwT.bm {S S' : evS} {i : Nat} {D : Nat → Int} {last : Nat} {P : Nat → Nat → Nat → Prop} (h : RwT S i D last) (hb : evBm S S' P) (hp : ∀ b c, ¬ P 31 b c) : RwT S' i D last := by
  have e : ∀ c, S'.1 31 0 c = S.1 31 0 c := fun c => hb.1 31 0 c (hp 0 c)
  unfold RwT
  simp only [e]
  exact h
theorem ofLays31 : ∀ b c, ¬ ofLays 31 b c := by rintro b c (z | z) <;> omega
def stand (D : Nat → Int) (f l : Nat) : Prop := 0 < pNeed D f l ∧ pNeed D f l ≤ D 1
section C6e
variable {G : evG} {d : Nat} {S : evS}
theorem m_plans (hCl : evCl G) (hV : (30, 0) ∈ evKs G) {i f l : Nat} {D : Nat → Int} (w : WfP D f l) (hi : i < 4) (hR : RwD S i D 0 0 0 l) (hT : RwT S i D l) {a : Int32} (ha : a = nI i) : evSp G yX6_plans M_X6_plans (d + 5) [.ref (evad G 30 0), .int a] S (evQI fun r S' => r = (if 0 < pNeed D f l ∧ pNeed D f l ≤ D 1 then 1 else 0) ∧ evBm S S' ofLays ∧ MPln S' i D f l) := by
  refine vm_X6_plans (vb_X6_plans_0 hCl hV ((m_lays hCl hV w hi (port := 0) (side := 0) (held := 0) (by omega) (by omega) hR ha rfl rfl rfl).mV ?_))
  rintro S1 ⟨b1, p1⟩
  refine (m_hasPlan (d := d + 2) hCl hV w p1 hi (hT.bm b1 ofLays31).1).mI ?_
  rintro r S' ⟨rfl, rfl⟩
  refine ⟨?_, rfl, b1, p1⟩
  split
  · exact Or.inr rfl
  · exact Or.inl rfl
theorem m_milesAt (hCl : evCl G) (hV : (30, 0) ∈ evKs G) {i f l k : Nat} {D : Nat → Int} (w : WfP D f l) (P : MPln S i D f l) (hk1 : f ≤ k) (hk2 : k < l) : evSp G yX6_milesAt M_X6_milesAt (d + 1) [.ref (evad G 30 0), .int (nI (k + 1))] S (evQL fun r S' => r = lI (miA D f l k) ∧ S' = S) := by
  have b := sBE w hk1 hk2
  have h6 := w.2.2.2.1
  refine vm_X6_milesAt (vb_X6_milesAt_0 hCl hV ?_)
  rw [nI_pred]
  refine (m_markAhead hCl hV h6 (by omega) hk1 (mokP w) P.2.1).mI ?_
  rintro r1 S2 ⟨rfl, rfl⟩
  refine (m_markBehind (b := sB D f l k) hCl hV h6 (by omega) b.1 (mokP w) P.2.1).mI ?_
  rintro r3 S4 ⟨hr3, rfl⟩
  have ns : nxt (pM D f l) l (sB D f l k) = sE D f l k := by
    have hlt : sB D f l k < l := by omega
    have h1 := nxt_in (mk := pM D f l) hlt
    by_cases hz : k < nxt (pM D f l) l (sB D f l k)
    · exact (nxt_same hlt b.2.1 hz).symm
    · exfalso
      have h2 := nxt_mk (mk := pM D f l) (last := l) (b := sB D f l k) (mokP w).2.2.1
      have h3 : ∀ j m, m ≤ j → prv (pM D f l) j < m → pM D f l m = 0 := by
        intro j
        induction j with
        | zero => intro m a1 a2; omega
        | succ j ih =>
          intro m a1 a2
          unfold prv at a2
          split at a2
          · rename_i hz
            by_cases e : m = j + 1
            · rw [e]; exact hz
            · exact ih m (by omega) a2
          · omega
      exact h2 (h3 k _ (by omega) h1.1)
  rw [ns] at hr3
  subst hr3
  refine ⟨vp_in_nI (by omega) (by omega), vp_in_nI (by have := b.2.1; unfold sB at this; omega) (by omega), ?_, rfl⟩
  have m2 := P.1.2.2.1 (sB D f l k) (by omega)
  unfold sB at m2
  rw [nI_clamp (n := sE D f l k) (by omega), nI_clamp (n := prv (pM D f l) k) (by have := b.2.1; unfold sB at this; omega), P.1.2.2.1 _ b.2.2.2.1, m2, iI_sub]
  exact iI_64 (rg_of (A := 594) (by have := b.2.2.2.2.2.2.2.2; unfold miA sB at this; omega) (by omega))
theorem sB_nxt {D : Nat → Int} {f l k : Nat} (w : WfP D f l) (hk1 : f ≤ k) (hk2 : k < l) : nxt (pM D f l) l (sB D f l k) = sE D f l k := by
  have b := sBE w hk1 hk2
  have hlt : sB D f l k < l := by omega
  have h1 := nxt_in (mk := pM D f l) hlt
  by_cases hz : k < nxt (pM D f l) l (sB D f l k)
  · exact (nxt_same hlt b.2.1 hz).symm
  · exfalso
    have h2 := nxt_mk (mk := pM D f l) (last := l) (b := sB D f l k) (mokP w).2.2.1
    have h3 : ∀ j m, m ≤ j → prv (pM D f l) j < m → pM D f l m = 0 := by
      intro j
      induction j with
      | zero => intro m a1 a2; omega
      | succ j ih =>
        intro m a1 a2
        unfold prv at a2
        split at a2
        · rename_i hz
          by_cases e : m = j + 1
          · rw [e]; exact hz
          · exact ih m (by omega) a2
        · omega
    exact h2 (h3 k _ (by omega) h1.1)
/-- the two marks about leg k -/
theorem m_about (hCl : evCl G) (hV : (30, 0) ∈ evKs G) {i f l k : Nat} {D : Nat → Int} (w : WfP D f l) (P : MPln S i D f l) (hk1 : f ≤ k) (hk2 : k < l) {q : Int32 → evS → Prop} (hq : ∀ r, r = nI (sB D f l k) → q r S) : evSp G yX6_markAhead M_X6_markAhead d [.ref (evad G 30 0), .int (nI k)] S (evQI q) := by
  refine (m_markAhead hCl hV w.2.2.2.1 (by omega) hk1 (mokP w) P.2.1).mI ?_
  rintro r1 S2 ⟨rfl, rfl⟩
  exact hq _ rfl
theorem m_about2 (hCl : evCl G) (hV : (30, 0) ∈ evKs G) {i f l k : Nat} {D : Nat → Int} (w : WfP D f l) (P : MPln S i D f l) (hk1 : f ≤ k) (hk2 : k < l) {q : Int32 → evS → Prop} (hq : ∀ r, r = nI (sE D f l k) → q r S) : evSp G yX6_markBehind M_X6_markBehind d [.ref (evad G 30 0), .int (nI (sB D f l k))] S (evQI q) := by
  have b := sBE w hk1 hk2
  refine (m_markBehind hCl hV w.2.2.2.1 (by omega) b.1 (mokP w) P.2.1).mI ?_
  rintro r1 S2 ⟨rfl, rfl⟩
  rw [sB_nxt w hk1 hk2]
  exact hq _ rfl
theorem m_timeTimes (hCl : evCl G) (hV : (30, 0) ∈ evKs G) {i f l k : Nat} {D : Nat → Int} (w : WfP D f l) (P : MPln S i D f l) (hk1 : f ≤ k) (hk2 : k < l) : evSp G yX6_timeTimes M_X6_timeTimes (d + 1) [.ref (evad G 30 0), .int (nI (k + 1))] S (evQL fun r S' => r = lI (tU D f l k) ∧ S' = S) := by
  have b := sBE w hk1 hk2
  have h6 := w.2.2.2.1
  have fb2 := far_be (geoD w) (b := sB D f l k) (e := k + 1) (by omega) (by omega)
  have hmi := b.2.2.2.2.2.2.2.2
  have wt := wtD_b w (k + 1) (by omega)
  refine vm_X6_timeTimes (vb_X6_timeTimes_0 hCl hV ?_)
  rw [nI_pred]
  refine m_about hCl hV w P hk1 hk2 ?_
  rintro r1 rfl
  refine m_about2 hCl hV w P hk1 hk2 ?_
  rintro r3 rfl
  refine (m_evenTimes (far := farD D) (hr := pH D f l) hCl hV (by omega) (by omega) (by omega) (P.1.2.2.1 _ (by omega)) (P.1.2.2.1 _ b.2.2.2.1) (P.1.2.2.1 (k + 1) (by omega)) ((P.2.1 _ b.1 (by omega)).2 b.2.2.2.2.2.2.1) ((P.2.1 _ (by omega) b.2.2.2.1).2 b.2.2.2.2.2.2.2.1) (rg_of (A := 594) (by unfold miA at hmi; omega) (by omega)) (rg_of (A := 594) (by omega) (by omega))).mL ?_
  rintro r5 S6 ⟨rfl, rfl⟩
  refine ⟨vp_in_nI (by omega) (by omega), vp_in_nI (by omega) (by omega), vp_in_nI (by omega) (by omega), ?_, rfl⟩
  rw [nI_clamp (n := k + 1) (by omega), nI_clamp (n := sE D f l k) (by omega), nI_clamp (n := sB D f l k) (by omega), P.2.2.1 (k + 1) (by omega) (by omega), P.1.2.2.1 _ b.2.2.2.1, P.1.2.2.1 (sB D f l k) (by omega), iI_sub, iI_64 (z := wtD D f (k + 1)) (rg_of (A := 100) (by omega) (by omega)), iI_64 (z := farD D (sE D f l k) - farD D (sB D f l k)) (rg_of (A := 594) (by unfold miA at hmi; omega) (by omega)), lI_mul, lI_add]
  rfl
theorem m_costOf (hCl : evCl G) (hV : (30, 0) ∈ evKs G) {i f l k : Nat} {D : Nat → Int} (w : WfP D f l) (t : WfT D) (P : MPln S i D f l) (hi : i < 4) (hT : RwT S i D l) (hk1 : f ≤ k) (hk2 : k < l) (hho : 0 < hoA D f l k) : evSp G yX6_costOf M_X6_costOf (d + 2) [.ref (evad G 30 0), .int (nI k)] S (evQI fun r S' => r = iI (cst D f l k) ∧ S' = S) := by
  have b := sBE w hk1 hk2
  have h6 := w.2.2.2.1
  have fb := fue_b t (m := miA D f l k) (s := hoA D f l k) (by omega) (by omega)
  have wl := w.2.2.2.2.2.2.2.2 k hk2
  have hmi : -594 ≤ farD D (sE D f l k) - farD D (sB D f l k) ∧ farD D (sE D f l k) - farD D (sB D f l k) ≤ 594 := by have := b.2.2.2.2.2.2.2.2; unfold miA at this; omega
  have tq : 0 ≤ (miA D f l k).tdiv (10 * hoA D f l k) ∧ (miA D f l k).tdiv (10 * hoA D f l k) ≤ 594 := by
    rw [Int.tdiv_eq_ediv_of_nonneg (by omega)]
    refine ⟨Int.ediv_nonneg (by omega) (by omega), ?_⟩
    have := Int.ediv_le_self (a := miA D f l k) (10 * hoA D f l k) (by omega)
    omega
  refine vm_X6_costOf (vb_X6_costOf_0 hCl hV (m_about hCl hV w P hk1 hk2 ?_))
  rintro r1 rfl
  refine m_about2 hCl hV w P hk1 hk2 ?_
  rintro r3 rfl
  rw [nI_clamp (n := sE D f l k) (by omega), nI_clamp (n := sB D f l k) (by omega), P.1.2.2.1 _ b.2.2.2.1, P.1.2.2.1 (sB D f l k) (by omega), (P.2.1 _ b.1 (by omega)).2 b.2.2.2.2.2.2.1, (P.2.1 _ (by omega) b.2.2.2.1).2 b.2.2.2.2.2.2.2.1, iI_sub, iI_64 (z := farD D (sE D f l k) - farD D (sB D f l k)) (rg_of hmi (by omega)), lI_sub]
  have ve : vp_in (nI (sE D f l k)) 7 := vp_in_nI (by omega) (by omega)
  have vb : vp_in (nI (sB D f l k)) 7 := vp_in_nI (by omega) (by omega)
  refine ⟨ve, vb, fun v7 h7 => ⟨ve, vb, fun v10 h10 => ?_⟩⟩
  have h7' : v7 = lI (hoA D f l k) := h7
  have h10' : v10 = lI (miA D f l k) := h10
  clear h7 h10
  subst h7' h10'
  rw [lI_10, lI_mul, lI_0, lI_eq (rgl_of (A := 103000) (by omega) (by omega)) (rgl_of (A := 0) (by omega) (by omega)), lI_div (rgl_of (A := 594) (by omega) (by omega)) (rgl_of (A := 103000) (by omega) (by omega))]
  refine ⟨by omega, fun v12 h12 => ?_⟩
  have go : ∀ s0 : Int32, s0 = nI (stp (miA D f l k) (hoA D f l k)) → bk_X6_costOf_70 G (d + 1) (evQI fun r S' => r = iI (cst D f l k) ∧ S' = S) 0 (nI k) (lI (hoA D f l k)) (lI (miA D f l k)) s0 S := by
    intro s0 hs0
    have t1 := t (stp (miA D f l k) (hoA D f l k)) (by omega)
    have t2 := t (stp (miA D f l k) (hoA D f l k) + 1) (by omega)
    refine vb_X6_costOf_70 hCl hV ((m_of hCl hV hi (k := 5 + stp (miA D f l k) (hoA D f l k)) (by omega) P.2.2.2 (by rw [hs0, ← nI_add]; rfl)).mI ?_)
    rintro r1 S2 ⟨rfl, rfl⟩ v3 h3
    rw [hT.2.1 _ (by omega), iI_64 (rg_of (A := 999) (by omega) (by omega))] at h3
    refine (m_of hCl hV hi (k := 5 + (stp (miA D f l k) (hoA D f l k) + 1)) (by omega) P.2.2.2 (by rw [hs0, show (5 : Int32) = nI 5 from rfl, nI_add, nI_1, Nat.add_assoc])).mI ?_
    rintro r4 S5 ⟨rfl, rfl⟩ v6 h6' v7 h7
    rw [hT.2.1 _ (by omega), iI_64 (rg_of (A := 999) (by omega) (by omega))] at h6'
    rw [h3, h6', hs0, iI_n, iI_64 (rg_of (A := 2) (by omega) (by omega)), lI_10, lI_mul, lI_mul, lI_sub, lI_mul, lI_mul, lI_sub, lI_mul, lI_add, show D (5 + stp (miA D f l k) (hoA D f l k)) * 10 * hoA D f l k + (D (5 + (stp (miA D f l k) (hoA D f l k) + 1)) - D (5 + stp (miA D f l k) (hoA D f l k))) * (miA D f l k - 10 * (stp (miA D f l k) (hoA D f l k) : Int) * hoA D f l k) = fue D (miA D f l k) (hoA D f l k) from rfl] at h7
    refine (m_ofLeg hCl hV hi (k := k) (w := 0) (by omega) (by omega) P.2.2.2 rfl rfl).mI ?_
    rintro r8 S9 ⟨rfl, rfl⟩
    have bm := bmul (a := D (9 + 4 * k)) (b := fue D (miA D f l k) (hoA D f l k)) (A := 99) (B := 500000000) (by omega) (by omega)
    rw [lI_10, lI_mul, lI_0, lI_eq (rgl_of (A := 103000) (by omega) (by omega)) (rgl_of (A := 0) (by omega) (by omega)), hT.2.2 k hk2, iI_64 (rg_of (A := 99) (by omega) (by omega)), h7, lI_mul, lI_div (rgl_of bm (by omega)) (rgl_of (A := 103000) (by omega) (by omega)), lI_32]
    exact ⟨by omega, rfl, rfl⟩
  subst h12
  rw [lI_2, lI_le (rgl_of (A := 594) (by omega) (by omega)) (rgl_of (A := 2) (by omega) (by omega))]
  refine ⟨fun hz => go _ ?_, fun hz => go _ ?_⟩
  · rw [lI_32, iI_n]
    unfold stp
    rw [Int.min_eq_right hz, show (((miA D f l k).tdiv (10 * hoA D f l k)).toNat : Int) = (miA D f l k).tdiv (10 * hoA D f l k) by omega]
  · unfold stp
    rw [Int.min_eq_left (by omega)]
    rfl
theorem m_costsAhead (hCl : evCl G) (hV : (30, 0) ∈ evKs G) {i f l : Nat} {D : Nat → Int} (w : WfP D f l) (t : WfT D) (P : MPln S i D f l) (hi : i < 4) (hT : RwT S i D l) (hho : ∀ k, f ≤ k → k < l → 0 < hoA D f l k) : evSp G yX6_costsAhead M_X6_costsAhead (d + 3) [.ref (evad G 30 0)] S (evQI fun r S' => r = iI (csm D f l l) ∧ S' = S) := by
  have h6 := w.2.2.2.1
  have loop : ∀ n k, k + n = l → f ≤ k → bk_X6_costsAhead_7 G (d + 2) (evQI fun r S' => r = iI (csm D f l l) ∧ S' = S) 0 (iI (csm D f l k)) (nI k) S := by
    intro n
    induction n with
    | zero =>
      intro k hk _
      refine vb_X6_costsAhead_7 hCl hV ⟨fun _ => ⟨by rw [show k = l by omega], rfl⟩, fun h => absurd (by rw [P.1.2.1]; exact nI_le (by omega) (by omega)) h⟩
    | succ n ih =>
      intro k hk hf
      refine vb_X6_costsAhead_7 hCl hV ⟨fun h => absurd h (by rw [P.1.2.1]; exact nI_ge (by omega) (by omega)), fun _ => (m_costOf hCl hV w t P hi hT hf (by omega) (hho k hf (by omega))).mI ?_⟩
      rintro r1 S2 ⟨rfl, rfl⟩ v3 h3 v4 h4
      rw [nI_1] at h4
      have e : csm D f l (k + 1) = csm D f l k + cst D f l k := by
        conv => lhs; unfold csm
        rw [if_pos hf]
      rw [iI_add, ← e] at h3
      subst h3 h4
      exact ih (k + 1) (by omega) (by omega)
  refine vm_X6_costsAhead (vb_X6_costsAhead_0 hCl hV (fun v1 h1 => ?_))
  rw [P.1.1] at h1
  subst h1
  have h := loop (l - f) f (by have := w.2.2.1; omega) (Nat.le_refl _)
  have e : csm D f l f = 0 := by
    cases f with
    | zero => rfl
    | succ f => unfold csm; rw [if_neg (by omega)]
  rw [e] at h
  exact h
end C6e
