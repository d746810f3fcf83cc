/-! CONTRACTS OF THE REFERENCE: lays -/
def ofLays : Nat → Nat → Nat → Prop := fun a _ c => (a = 30 ∧ (c = 15 ∨ c = 16 ∨ c = 17)) ∨ (49 ≤ a ∧ a ≤ 54)
/-- the reference's plan is that of D, for ship i -/
def MPln (S : evS) (i : Nat) (D : Nat → Int) (first last : Nat) : Prop := MlC S first last (farD D) (lowD D first) (highD D first) ∧ MlM S first last (pM D first last) (pH D first last) ∧ (∀ p, first < p → p ≤ last → S.1 50 0 p = iI (wtD D first p)) ∧ S.1 30 0 15 = nI i
/-- the row of ship i holds D, but for a window one hour narrower at a port (of a side) and hours less -/
def RwD (S : evS) (i : Nat) (D : Nat → Int) (held : Int) (port side last : Nat) : Prop :=
  S.1 31 0 (33 * i + 2) = iI (D 2) ∧ S.1 31 0 (33 * i + 0) = iI (D 0) ∧ S.1 31 0 (33 * i + 3) = iI (D 3 - held) ∧
  ∀ k, k < last → S.1 31 0 (33 * i + (9 + (4 * k + 0))) = iI (D (9 + 4 * k)) ∧ S.1 31 0 (33 * i + (9 + (4 * k + 1))) = iI (D (9 + (4 * k + 1))) ∧
    S.1 31 0 (33 * i + (9 + (4 * k + 2))) = iI (D (9 + (4 * k + 2)) + (if k + 1 = port ∧ side = 0 then 1 else 0)) ∧ S.1 31 0 (33 * i + (9 + (4 * k + 3))) = iI (D (9 + (4 * k + 3)) - (if k + 1 = port ∧ side = 1 then 1 else 0))
theorem RwD.bm {S S' : evS} {i : Nat} {D : Nat → Int} {held : Int} {port side last : Nat} {P : Nat → Nat → Nat → Prop} (h : RwD S i D held port side last) (hb : evBm S S' P) (hp : ∀ b c, ¬ P 31 b c) : RwD S' i D held port side last := by
  have e : ∀ c, S'.1 31 0 c = S.1 31 0 c := fun c => hb.1 31 0 c (hp 0 c)
  unfold RwD
  simp only [e]
  exact h
theorem wtD_0 {D : Nat → Int} {first : Nat} : ∀ p, p ≤ first + 1 → wtD D first p = 0 := by
  intro p hp
  cases p with
  | zero => rfl
  | succ p => unfold wtD; rw [if_neg (by omega)]
/-- ports 1 .. p - 1 are laid -/
def LyU (S : evS) (D : Nat → Int) (first p : Nat) : Prop := (∀ j, j < p → S.1 49 0 j = iI (farD D j)) ∧ ∀ j, 1 ≤ j → j < p → S.1 50 0 j = iI (wtD D first j) ∧ S.1 51 0 j = iI (lowD D first j) ∧ S.1 52 0 j = iI (highD D first j) ∧ S.1 53 0 j = 0
section C6c
variable {G : evG} {d : Nat} {S : evS}
theorem m_lays_end (hCl : evCl G) (hV : (30, 0) ∈ evKs G) {i first last port side : Nat} {D : Nat → Int} {held : Int} (w : WfP D first last) (hi : i < 4) (S0 : evS) (hB : evBm S0 S ofLays) (hR : RwD S i D held port side last) (h15 : S.1 30 0 15 = nI i) (h16 : S.1 30 0 16 = nI first) (h17 : S.1 30 0 17 = nI last) (hL : LyU S D first (last + 1)) {l3 l4 l5 : Int32} {q : evS → Prop} (hq : ∀ S' : evS, evBm S0 S' ofLays → MPln S' i D first last → q S') :
    bk_X6_lays_38 G (d + 3) (evQV q) 0 (nI i) (iI held) l3 l4 l5 (nI (last + 1)) S := by
  have h6 := w.2.2.2.1
  have hfl := w.2.2.1
  have vf : vp_in (nI first) 7 := vp_in_nI (by omega) (by omega)
  have vl : vp_in (nI last) 7 := vp_in_nI (by omega) (by omega)
  refine vb_X6_lays_38 hCl hV ⟨fun _ => ?_, fun h => absurd (by rw [h17]; exact nI_lt (by omega) (by omega)) h⟩
  rw [h16, nI_clamp (by omega)]
  refine ⟨vf, fun S2 e2 => ?_⟩
  have k2 : S2.1 30 0 16 = nI first := by rw [e2, evup_ne (by rintro ⟨y, -⟩; cases y)]; exact h16
  rw [k2, nI_clamp (by omega)]
  refine ⟨vf, fun S4 e4 => ?_⟩
  have b4 : evBm S S4 ofLays := by rw [e4, e2]; exact (evBm.upw (Or.inr (by omega))).tr (evBm.upw (Or.inr (by omega)))
  have o4 : ∀ a c, a ≠ 50 → a ≠ 53 → S4.1 a 0 c = S.1 a 0 c := fun a c y1 y2 => by rw [e4, e2, evup_ne (fun z => y2 z.1), evup_ne (fun z => y1 z.1)]
  refine (m_of hCl hV hi (k := 3) (by omega) rfl rfl).mI ?_
  rintro r5 S6 ⟨hr5, hS6⟩
  subst hS6
  rw [o4 31 _ (by decide) (by decide), hR.2.2.1] at hr5
  have k6 : S6.1 30 0 16 = nI first := by rw [o4 30 _ (by decide) (by decide)]; exact h16
  rw [k6, nI_clamp (by omega)]
  refine ⟨vf, fun S8 e8 => ?_⟩
  have w3 := w.2.2.2.2.1
  have w4 := w.2.2.2.2.2.1
  rw [hr5, iI_add, show D 3 - held + held = D 3 by omega, iI_64 (rg_of (A := 10100) (by omega) (by omega))] at e8
  have o8 : ∀ a b c, S8.1 a b c = S6.1 a b c := fun a b c => by rw [e8]; rfl
  have b8 : evBm S S8 ofLays := b4.tr (by rw [e8]; exact evBm.upLw (Or.inr (by omega)))
  rw [o8, o8, k6, show S6.1 30 0 17 = nI last by rw [o4 30 _ (by decide) (by decide)]; exact h17]
  have hC8 : MlC S8 first last (farD D) (lowD D first) (highD D first) :=
    ⟨by rw [o8]; exact k6, by rw [o8, o4 30 _ (by decide) (by decide)]; exact h17, fun k hk => by rw [o8, o4 49 _ (by decide) (by decide)]; exact hL.1 k (by omega), fun k a1 a2 => ⟨by rw [o8, o4 51 _ (by decide) (by decide)]; exact (hL.2 k (by omega) (by omega)).2.1, by rw [o8, o4 52 _ (by decide) (by decide)]; exact (hL.2 k (by omega) (by omega)).2.2.1⟩⟩
  have m8 : ∀ k, first ≤ k → k ≤ last → k ≠ last ∨ first = last → S8.1 53 0 k = iI (mk0 first last k) ∧ (mk0 first last k ≠ 0 → S8.2 54 0 k = lI (hr0 D first last k)) := by
    intro k a1 a2 a3
    by_cases hk : k = first
    · subst hk
      rw [show mk0 k last k = 3 from by unfold mk0; rw [if_pos (Or.inl rfl)], show hr0 D k last k = D 3 from by unfold hr0; rw [if_pos rfl]]
      exact ⟨by rw [o8, e4, evup_at]; rfl, fun _ => by rw [e8, evupL_at]⟩
    · rw [show mk0 first last k = 0 from by unfold mk0; rw [if_neg (by omega)]]
      refine ⟨?_, fun z => absurd rfl z⟩
      rw [o8, e4, evup_o hk, e2, evup_ne (by rintro ⟨y, -⟩; cases y), (hL.2 k (by omega) (by omega)).2.2.2]
      rfl
  have w8 : ∀ p, first < p → p ≤ last → S8.1 50 0 p = iI (wtD D first p) := fun p a1 a2 => by rw [o8, e4, evup_ne (by rintro ⟨y, -⟩; cases y), e2, evup_o (by omega)]; exact (hL.2 p (by omega) (by omega)).1
  have f8 : S8.1 30 0 15 = nI i := by rw [o8, o4 30 _ (by decide) (by decide)]; exact h15
  refine ⟨fun h => ?_, fun h => ?_⟩
  · have hfe : last ≤ first := Nat.le_of_not_lt fun z => absurd h (nI_ge z (by omega))
    have ep : pMH D first last = (mk0 first last, hr0 D first last) := by unfold pMH spl; rw [if_neg (by omega)]
    refine hq S8 (hB.tr b8) ⟨hC8, fun k a1 a2 => ?_, w8, f8⟩
    have := m8 k a1 a2 (Or.inr (by omega))
    unfold pM pH
    rw [ep]
    exact this
  · have hlt : first < last := Nat.lt_of_not_le fun z => h (nI_le z (by omega))
    rw [nI_clamp (by omega)]
    refine ⟨vl, fun S10 e10 => ?_⟩
    have k10 : S10.1 30 0 17 = nI last := by rw [e10, evup_ne (by rintro ⟨y, -⟩; cases y)]; exact hC8.2.1
    rw [k10, nI_clamp (by omega)]
    refine ⟨vl, vl, fun S13 e13 => ?_⟩
    have gl := (geoD w).2.2.2.2 last hlt (Nat.le_refl _)
    rw [e10, evup_ne (by rintro ⟨y, -⟩; cases y), (hC8.2.2.2 last hlt (Nat.le_refl _)).2, iI_64 (rg_of (A := 1100) (by omega) (by omega))] at e13
    have o13 : ∀ a c, a ≠ 53 → S13.1 a 0 c = S8.1 a 0 c := fun a c y1 => by rw [e13]; exact congrFun (evup_ne (fun z => y1 z.1)) c
    have b13 : evBm S8 S13 ofLays := by rw [e13]; exact (evBm.upw (Or.inr (by omega))).tr (evBm.upLw (Or.inr (by omega)))
    have hC13 : MlC S13 first last (farD D) (lowD D first) (highD D first) :=
      ⟨by rw [o13 30 _ (by decide)]; exact hC8.1, by rw [o13 30 _ (by decide)]; exact hC8.2.1, fun k hk => by rw [o13 49 _ (by decide)]; exact hC8.2.2.1 k hk, fun k a1 a2 => ⟨by rw [o13 51 _ (by decide)]; exact (hC8.2.2.2 k a1 a2).1, by rw [o13 52 _ (by decide)]; exact (hC8.2.2.2 k a1 a2).2⟩⟩
    have hM13 : MlM S13 first last (mk0 first last) (hr0 D first last) := by
      intro k a1 a2
      by_cases hk : k = last
      · subst hk
        rw [show mk0 first k k = 3 from by unfold mk0; rw [if_pos (Or.inr rfl)], show hr0 D first k k = highD D first k from by unfold hr0; rw [if_neg (by omega)]]
        exact ⟨by rw [e13]; exact evup_at, fun _ => by rw [e13, evupL_at]⟩
      · have := m8 k a1 a2 (Or.inl hk)
        refine ⟨by rw [e13]; exact (evup_o hk).trans this.1, fun z => ?_⟩
        rw [e13, evupL_c (by rintro ⟨-, -, y⟩; exact hk y)]
        exact this.2 z
    refine (m_marksAll hCl hV (geoD w) (mok0 w) hC13 hM13).mV ?_
    rintro S14 ⟨b14, c14, m14⟩
    refine hq S14 (((hB.tr b8).tr b13).tr (b14.wk (fun a _ _ z => Or.inr (by have : a = 53 ∨ a = 54 := z; omega)))) ⟨c14, m14, fun p a1 a2 => ?_, ?_⟩
    · rw [b14.1 50 0 p (fun z => by have : 50 = 53 ∨ 50 = 54 := z; omega), o13 50 _ (by decide)]; exact w8 p a1 a2
    · rw [b14.1 30 0 15 (fun z => by have : 30 = 53 ∨ 30 = 54 := z; omega), o13 30 _ (by decide)]; exact f8
theorem m_lays_loop (hCl : evCl G) (hV : (30, 0) ∈ evKs G) {i first last port side : Nat} {D : Nat → Int} {held : Int} (w : WfP D first last) (hi : i < 4) (hport : port ≤ 6) (hside : side ≤ 1) (S0 : evS) {q : evS → Prop} (hq : ∀ S' : evS, evBm S0 S' ofLays → MPln S' i D first last → q S') :
    ∀ n k (S : evS), k + n = last → evBm S0 S ofLays → RwD S i D held port side last → S.1 30 0 15 = nI i → S.1 30 0 16 = nI first → S.1 30 0 17 = nI last → LyU S D first (k + 1) → bk_X6_lays_38 G (d + 3) (evQV q) 0 (nI i) (iI held) (nI port) (nI side) (iI (wtD D first (k + 1))) (nI (k + 1)) S := by
  have h6 := w.2.2.2.1
  have hfl := w.2.2.1
  intro n
  induction n with
  | zero =>
    intro k S hk hB hR h15 h16 h17 hL
    rw [show k = last by omega] at hL ⊢
    exact m_lays_end hCl hV w hi S0 hB hR h15 h16 h17 hL hq
  | succ n ih =>
    intro k S hk hB hR h15 h16 h17 hL
    have hv49 := hCl.1 30 0 18 49 hV rfl
    have hv51 := hCl.1 30 0 20 51 hV rfl
    have hv52 := hCl.1 30 0 21 52 hV rfl
    have vk : vp_in (nI k) 7 := vp_in_nI (by omega) (by omega)
    have vp : vp_in (nI (k + 1)) 7 := vp_in_nI (by omega) (by omega)
    refine vb_X6_lays_38 hCl hV ⟨fun h => absurd h (by rw [h17]; exact nI_nlt (by omega) (by omega)), fun _ v15 hv15 => ?_⟩
    rw [nI_pred] at hv15
    subst hv15
    refine ⟨vk, (m_ofLeg hCl hV hi (k := k) (w := 0) (by omega) (by omega) rfl rfl rfl).mI ?_⟩
    rintro r17 S18 ⟨hr17, hS18⟩
    subst hS18
    rw [(hR.2.2.2 k (by omega)).1] at hr17
    rw [nI_clamp (n := k) (by omega), nI_clamp (n := k + 1) (by omega), hL.1 k (by omega), hr17, iI_add]
    refine ⟨vp, fun S20 e20 => ⟨vp, fun S22 e22 => ?_⟩⟩
    have b22 : evBm S18 S22 ofLays := by rw [e22, e20]; exact (evBm.upw (Or.inr (by omega))).tr (evBm.upw (Or.inr (by omega)))
    have hR22 := hR.bm b22 (by rintro b c (z | z) <;> omega)
    refine (m_ofLeg hCl hV hi (k := k) (w := 2) (by omega) (by omega) rfl rfl rfl).mI ?_
    rintro r23 S24 ⟨hr23, hS24⟩
    subst hS24
    rw [(hR22.2.2.2 k (by omega)).2.2.1] at hr23
    have g118 : ∀ (s3 : Int32), s3 = iI (if k + 1 = port ∧ side = 0 then 1 else 0) → bk_X6_lays_118 G (d + 3) (evQV q) 0 (nI i) (iI held) (nI port) (nI side) (iI (wtD D first (k + 1))) (nI (k + 1)) (nI k) 0 (nI (k + 1)) (r23 - iI (wtD D first (k + 1))) s3 S24 := by
      intro s3 hs3
      refine vb_X6_lays_118 hCl hV hv51 ⟨vp, fun S25 e25 => ?_⟩
      rw [nI_clamp (by omega), hr23, hs3, iI_sub, iI_sub, show D (9 + (4 * k + 2)) + (if k + 1 = port ∧ side = 0 then (1 : Int) else 0) - wtD D first (k + 1) - (if k + 1 = port ∧ side = 0 then (1 : Int) else 0) = lowD D first (k + 1) from by unfold lowD; rw [show k + 1 - 1 = k by omega]; omega] at e25
      have b25 : evBm S24 S25 ofLays := by rw [e25]; exact evBm.upw (Or.inr (by omega))
      have hR25 := hR22.bm b25 (by rintro b c (z | z) <;> omega)
      refine (m_ofLeg hCl hV hi (k := k) (w := 3) (by omega) (by omega) rfl rfl rfl).mI ?_
      rintro r26 S26 ⟨hr26, hS26⟩
      subst hS26
      rw [(hR25.2.2.2 k (by omega)).2.2.2] at hr26
      have g154 : ∀ (s4 : Int32), s4 = iI (if k + 1 = port ∧ side = 1 then 1 else 0) → bk_X6_lays_154 G (d + 3) (evQV q) 0 (nI i) (iI held) (nI port) (nI side) (iI (wtD D first (k + 1))) (nI (k + 1)) (nI k) 0 (nI (k + 1)) (r26 - iI (wtD D first (k + 1))) s4 S26 := by
        intro s4 hs4
        refine vb_X6_lays_154 hCl hV hv52 ⟨vp, fun S27 e27 => ?_⟩
        rw [nI_clamp (by omega), hr26, hs4, iI_sub, iI_add, show D (9 + (4 * k + 3)) - (if k + 1 = port ∧ side = 1 then (1 : Int) else 0) - wtD D first (k + 1) + (if k + 1 = port ∧ side = 1 then (1 : Int) else 0) = highD D first (k + 1) from by unfold highD; rw [show k + 1 - 1 = k by omega]; omega] at e27
        have b27 : evBm S26 S27 ofLays := by rw [e27]; exact evBm.upw (Or.inr (by omega))
        have hR27 := hR25.bm b27 (by rintro b c (z | z) <;> omega)
        have o27 : ∀ c, S27.1 30 0 c = S18.1 30 0 c := fun c => by rw [e27, evup_ne (by rintro ⟨y, -⟩; cases y), e25, evup_ne (by rintro ⟨y, -⟩; cases y), e22, evup_ne (by rintro ⟨y, -⟩; cases y), e20, evup_ne (by rintro ⟨y, -⟩; cases y)]
        have g179 : ∀ (s5 : Int32), iI (wtD D first (k + 1)) + s5 = iI (wtD D first (k + 1 + 1)) → bk_X6_lays_179 G (d + 3) (evQV q) 0 (nI i) (iI held) (nI port) (nI side) (nI (k + 1)) (iI (wtD D first (k + 1))) s5 S27 := by
          intro s5 hs5
          refine vb_X6_lays_179 hCl hV (fun v1 hv1 => ⟨vp, fun S28 e28 v4 hv4 => ?_⟩)
          rw [hs5] at hv1
          rw [nI_1] at hv4
          rw [nI_clamp (by omega)] at e28
          subst hv1 hv4
          have b28 : evBm S27 S28 ofLays := by rw [e28]; exact evBm.upw (Or.inr (by omega))
          have o28 : ∀ c, S28.1 30 0 c = S18.1 30 0 c := fun c => by rw [e28, evup_ne (by rintro ⟨y, -⟩; cases y)]; exact o27 c
          refine ih (k + 1) S28 (by omega) ((((hB.tr b22).tr b25).tr b27).tr b28) (hR27.bm b28 (by rintro b c (z | z) <;> omega)) (by rw [o28]; exact h15) (by rw [o28]; exact h16) (by rw [o28]; exact h17) ⟨fun j hj => ?_, fun j a1 a2 => ?_⟩
          · rw [e28, evup_ne (by rintro ⟨y, -⟩; cases y), e27, evup_ne (by rintro ⟨y, -⟩; cases y), e25, evup_ne (by rintro ⟨y, -⟩; cases y), e22, evup_ne (by rintro ⟨y, -⟩; cases y), e20]
            by_cases hjk : j = k + 1
            · subst hjk; rw [evup_at]; rfl
            · rw [evup_o hjk]; exact hL.1 j (by omega)
          · by_cases hjk : j = k + 1
            · subst hjk
              refine ⟨?_, ?_, ?_, ?_⟩
              · rw [e28, evup_ne (by rintro ⟨y, -⟩; cases y), e27, evup_ne (by rintro ⟨y, -⟩; cases y), e25, evup_ne (by rintro ⟨y, -⟩; cases y), e22, evup_at]
              · rw [e28, evup_ne (by rintro ⟨y, -⟩; cases y), e27, evup_ne (by rintro ⟨y, -⟩; cases y), e25, evup_at]
              · rw [e28, evup_ne (by rintro ⟨y, -⟩; cases y), e27, evup_at]
              · rw [e28, evup_at]
            · have hj := hL.2 j a1 (by omega)
              refine ⟨?_, ?_, ?_, ?_⟩
              · rw [e28, evup_ne (by rintro ⟨y, -⟩; cases y), e27, evup_ne (by rintro ⟨y, -⟩; cases y), e25, evup_ne (by rintro ⟨y, -⟩; cases y), e22, evup_o hjk, e20, evup_ne (by rintro ⟨y, -⟩; cases y)]; exact hj.1
              · rw [e28, evup_ne (by rintro ⟨y, -⟩; cases y), e27, evup_ne (by rintro ⟨y, -⟩; cases y), e25, evup_o hjk, e22, evup_ne (by rintro ⟨y, -⟩; cases y), e20, evup_ne (by rintro ⟨y, -⟩; cases y)]; exact hj.2.1
              · rw [e28, evup_ne (by rintro ⟨y, -⟩; cases y), e27, evup_o hjk, e25, evup_ne (by rintro ⟨y, -⟩; cases y), e22, evup_ne (by rintro ⟨y, -⟩; cases y), e20, evup_ne (by rintro ⟨y, -⟩; cases y)]; exact hj.2.2.1
              · rw [e28, evup_o hjk, e27, evup_ne (by rintro ⟨y, -⟩; cases y), e25, evup_ne (by rintro ⟨y, -⟩; cases y), e22, evup_ne (by rintro ⟨y, -⟩; cases y), e20, evup_ne (by rintro ⟨y, -⟩; cases y)]; exact hj.2.2.2
        rw [o27, h16]
        refine ⟨fun h => g179 0 ?_, fun h => (m_ofLeg hCl hV hi (k := k) (w := 1) (by omega) (by omega) rfl rfl rfl).mI ?_⟩
        · have hle : k + 1 ≤ first := Nat.le_of_not_lt fun z => absurd h (nI_ge z (by omega))
          rw [iI_0, iI_add, wtD_0 (k + 1) (by omega), wtD_0 (k + 1 + 1) (by omega)]
          rfl
        · rintro r29 S29 ⟨hr29, hS29⟩
          subst hS29
          rw [(hR27.2.2.2 k (by omega)).2.1] at hr29
          refine g179 r29 ?_
          have hlt : first < k + 1 := Nat.lt_of_not_le fun z => h (nI_le z (by omega))
          rw [hr29, iI_add]
          conv => rhs; unfold wtD
          rw [if_pos hlt]
          rfl
      have hps : ∀ z : Nat, (nI (k + 1) = nI port ↔ k + 1 = port) := fun _ => nI_eq (by omega) (by omega)
      have hs1 : (nI side = 1 ↔ side = 1) := nI_eq (a := side) (b := 1) (by omega) (by omega)
      rw [hps 0, hs1]
      refine ⟨fun h => vb_X6_lays_153 hCl hV hv52 (g154 0 ?_), fun h => ⟨fun h' => vb_X6_lays_153 hCl hV hv52 (g154 0 ?_), fun h' => g154 1 ?_⟩⟩
      · rw [if_neg (fun z => h z.1)]; rfl
      · rw [if_neg (fun z => h' z.2)]; rfl
      · rw [if_pos ⟨h, h'⟩]; rfl
    have hps : ∀ z : Nat, (nI (k + 1) = nI port ↔ k + 1 = port) := fun _ => nI_eq (by omega) (by omega)
    have hs0 : (nI side = 0 ↔ side = 0) := nI_eq (a := side) (b := 0) (by omega) (by omega)
    rw [hps 0, hs0]
    refine ⟨fun h => vb_X6_lays_117 hCl hV hv51 (g118 0 ?_), fun h => ⟨fun h' => vb_X6_lays_117 hCl hV hv51 (g118 0 ?_), fun h' => g118 1 ?_⟩⟩
    · rw [if_neg (fun z => h z.1)]; rfl
    · rw [if_neg (fun z => h' z.2)]; rfl
    · rw [if_pos ⟨h, h'⟩]; rfl
theorem m_lays (hCl : evCl G) (hV : (30, 0) ∈ evKs G) {i first last port side : Nat} {D : Nat → Int} {held : Int} (w : WfP D first last) (hi : i < 4) (hport : port ≤ 6) (hside : side ≤ 1) (hR : RwD S i D held port side last) {l1 l2 l3 l4 : Int32} (h1 : l1 = nI i) (h2 : l2 = iI held) (h3 : l3 = nI port) (h4 : l4 = nI side) :
    evSp G yX6_lays M_X6_lays (d + 4) [.ref (evad G 30 0), .int l1, .int l2, .int l3, .int l4] S (evQV fun S' => evBm S S' ofLays ∧ MPln S' i D first last) := by
  subst h1 h2 h3 h4
  have h6 := w.2.2.2.1
  refine vm_X6_lays (vb_X6_lays_0 hCl hV (fun S1 e1 => ?_))
  have b1 : evBm S S1 ofLays := by rw [e1]; exact evBm.upw (Or.inl ⟨rfl, by omega⟩)
  have hR1 := hR.bm b1 (by rintro b c (z | z) <;> omega)
  refine (m_of hCl hV hi (k := 2) (by omega) rfl rfl).mI ?_
  rintro r2 S3 ⟨hr2, hS3⟩ S4 e4
  subst hS3
  rw [hR1.1, w.1, ← iI_n] at hr2
  have b4 : evBm S S4 ofLays := b1.tr (by rw [e4]; exact evBm.upw (Or.inl ⟨rfl, by omega⟩))
  have hR4 := hR.bm b4 (by rintro b c (z | z) <;> omega)
  refine (m_of hCl hV hi (k := 0) (by omega) rfl rfl).mI ?_
  rintro r5 S6 ⟨hr5, hS6⟩ S7 e7 S8 e8
  subst hS6
  rw [hR4.2.1, w.2.1, ← iI_n] at hr5
  have b8 : evBm S S8 ofLays := b4.tr (by rw [e8, e7]; exact (evBm.upw (Or.inl ⟨rfl, by omega⟩)).tr (evBm.upw (Or.inr (by omega))))
  have h := m_lays_loop (G := G) (d := d) (held := held) (q := fun S' => evBm S S' ofLays ∧ MPln S' i D first last) hCl hV w hi hport hside S (fun S' a1 a2 => ⟨a1, a2⟩) last 0 S8 (by omega) b8 (hR.bm b8 (by rintro b c (z | z) <;> omega)) ?_ ?_ ?_ ⟨fun j hj => ?_, fun j a1 a2 => by omega⟩
  · rw [wtD_0 1 (by omega)] at h
    exact h
  · rw [e8, evup_ne (by rintro ⟨y, -⟩; cases y), e7, evup_o (by decide), e4, evup_o (by decide), e1, evup_at]
  · rw [e8, evup_ne (by rintro ⟨y, -⟩; cases y), e7, evup_o (by decide), e4, evup_at, hr2]
  · rw [e8, evup_ne (by rintro ⟨y, -⟩; cases y), e7, evup_at, hr5]
  · rw [show j = 0 by omega, e8, evup_at]; rfl
end C6c
