def ItP (A : Ab) (S0 : evS) (R : Rs) (n p : Nat) (r : Int32) (S' : evS) : Prop :=
  (r = 0 ∧ RepM A S' ∧ FrM S0 S' ∧ ∃ t, S'.1 30 0 11 = nI t ∧ R = .inl t) ∨ (r = 1 ∧ ∃ p2 g v fa ta D', p < p2 ∧ MS A S0 S' p2 fa ta D' ∧ InD D' ∧ Runs (txA A) (lnA A) p2 0 g v (n + 1) fa ta D' R)
section C9g
variable {G : evG} {d : Nat} {S : evS}
/-- a number of an item, as the run has it -/
theorem m_num (hCl : evCl G) (hV : (30, 0) ∈ evKs G) {A : Ab} (w : WfA A) {S0 : evS} {fa ta fa' ta' : Bool} {X D v : Nat → Int} {it g n p p0 : Nat} {R : Rs} {q : Int32 → evS → Prop} (h : MS A S0 S p fa ta X) (hI : InV it g v D) (hi : ¬ it = 0) (hg : g < cnt it) (hR : Runs (txA A) (lnA A) p it g v n fa' ta' D R) (hp0 : p0 ≤ p) {l1 l2 : Int32} (e1 : l1 = iI (lstN it g v)) (e2 : l2 = iI (mstN it g))
    (h0 : ∀ (S' : evS), RepM A S' → FrM S0 S' → (∃ t, S'.1 30 0 11 = nI t ∧ R = .inl t) → q 0 S')
    (h1 : ∀ (S' : evS) p2 x, p0 ≤ p2 → MS A S0 S' p2 fa ta X → S'.1 30 0 12 = iI x → InV it (g + 1) (upI v g x) D → Runs (txA A) (lnA A) p2 it (g + 1) (upI v g x) n fa' ta' D R → q 1 S') :
    evSp G yX6_takesNumber M_X6_takesNumber (d + 2) [.ref (evad G 30 0), .int l1, .int l2] S (evQI q) := by
  refine m_takesNumber (d := d) hCl hV w h (lstN_b hI hi) mstN_b e1 e2 (fun S' p' p2 a1 a2 a3 a4 a5 => ?_) (fun S' p' a0 a1 a2 a3 a4 a5 a6 => ?_)
  · refine h0 S' a1.1 a1.2.1 ⟨p', a2, ?_⟩
    have hR' := a4 _ _ _ _ _ _ _ _ hR
    rcases Nat.lt_or_ge p' (lnA A) with z | z
    · exact run_n0 hR' (by omega) (a5 z).1 hi hg (a5 z).2
    · have e := run_end hR' z
      rw [if_neg hi] at e
      rw [e]
      congr 1
      omega
  · have hR' := a5 _ _ _ _ _ _ _ _ hR
    have tb := tkE_b (tx := txA A) a3
    have nb := nuA_b (L := lnA A) a6.1
    exact h1 S' _ _ (by omega) a1 a2 (hI.num hi hg a6.2.1 a6.2.2 (by omega)) (run_n1 hR' (by omega) a4 hi hg a6)
/-- the end of an item -/
theorem m_stop (hCl : evCl G) (hV : (30, 0) ∈ evKs G) {A : Ab} (w : WfA A) {S0 : evS} {fa ta fa' ta' : Bool} {X D v : Nat → Int} {it g n p p0 : Nat} {R : Rs} (h : MS A S0 S p fa ta X) (hI : InV it g v D) (hD : InD D) (hi : ¬ it = 0) (hg : ¬ g < cnt it) (hR : Runs (txA A) (lnA A) p it g v n fa' ta' D R) (hp0 : p0 ≤ p) (hX : X = endD it v D) (hfa : fa = (fa' || decide (it = 118))) (hta : ta = (ta' || decide (it = 102))) :
    evSp G yX6_takesStop M_X6_takesStop (d + 2) [.ref (evad G 30 0)] S (evQI fun r S' => (r = 0 ∨ r = 1) ∧ ItP A S0 R n p0 r S') := by
  refine m_takesStop (d := d) (q := ItP A S0 R n p0) hCl hV w h (fun S' p' a1 a2 a3 a4 => ?_) (fun S' p' a0 a1 a2 a3 a4 => ?_)
  · refine Or.inl ⟨rfl, a1.1, a1.2.1, p', a2, ?_⟩
    have hR' := a3 _ _ _ _ _ _ _ _ hR
    rcases Nat.lt_or_ge p' (lnA A) with z | z
    · exact run_e0 hR' (by omega) (a4 z).1 hi hg (a4 z).2
    · have e := run_end hR' z
      rw [if_neg hi] at e
      rw [e]
      congr 1
      have := a1.2.2.2.1
      omega
  · have hR' := a4 _ _ _ _ _ _ _ _ hR
    subst hX hfa hta
    exact Or.inr ⟨rfl, p' + 1, g, v, _, _, _, by omega, a1, hD.fin hI hi hg, run_e1 hR' (by omega) hi hg a3⟩
theorem m_takesFastest (hCl : evCl G) (hV : (30, 0) ∈ evKs G) {A : Ab} (w : WfA A) {S0 : evS} {fa ta : Bool} {D v : Nat → Int} {g n p : Nat} {R : Rs} (h : MS A S0 S p fa ta D) (h11 : S.1 30 0 11 = nI p) (hD : InD D) (hp : p < lnA A) (hx : txA A p = 118) (hR : Runs (txA A) (lnA A) p 0 g v n fa ta D R) :
    evSp G yX6_takesFastest M_X6_takesFastest (d + 3) [.ref (evad G 30 0)] S (evQI fun r S' => (r = 0 ∨ r = 1) ∧ ItP A S0 R n p r S') := by
  refine vm_X6_takesFastest (vb_X6_takesFastest_0 hCl hV ?_)
  rw [h.2.2.2.2.1]
  refine ⟨fun z => ?_, fun z => ⟨Or.inl rfl, Or.inl ⟨rfl, h.1, h.2.1, p, h11, run_b0 hR (by omega) (by omega) ?_⟩⟩⟩
  · have ef : fa = false := by
      cases fa
      · rfl
      · exact absurd z (by decide)
    subst ef
    have hR1 := run_b1 hR (by omega) (by omega) (Or.inr (Or.inl ⟨hx, rfl⟩))
    rw [hx] at hR1
    rintro S1 rfl S2 rfl
    rw [evup_30 (by omega), h.2.2.1, inc_n (n := p) rfl]
    have hI : InV 118 0 v D := ⟨by omega, by omega, fun z => by omega, fun j hj => by omega, fun j hj => by omega⟩
    refine m_num (d := d) (p0 := p) hCl hV w (h.fas.pos (by omega)) hI (by decide) (by decide) hR1 (by omega) rfl rfl (fun S' a1 a2 a3 => ?_) (fun S' p2 x a0 a1 a2 a3 a4 => ?_)
    · exact ⟨fun z => absurd rfl z, fun _ => ⟨Or.inl rfl, Or.inl ⟨rfl, a1, a2, a3⟩⟩⟩
    · refine ⟨fun _ => ?_, fun z => absurd z (by decide)⟩
      rintro S5 rfl
      refine (m_stop (d := d) (p0 := p) hCl hV w (a1.put (j := 1) (by omega) a2) a3 hD (by decide) (by decide) a4 a0 ?_ rfl (by simp)).mI (fun r S' z => ⟨z.1, z.1, z.2⟩)
      unfold endD
      rw [if_neg (by decide), if_pos rfl, upI_at]
  · rintro (y | y | y)
    · omega
    · apply z; rw [y.2]; rfl
    · omega
end C9g
