/-! CONTRACTS: Plan.draw: the plan of a ship's numbers -/
def mk0 (first last : Nat) : Nat → Int := fun k => if k = first ∨ k = last then 3 else 0
def hr0 (D : Nat → Int) (first last : Nat) : Nat → Int := fun k => if k = first then D 3 else highD D first last
def pMH (D : Nat → Int) (first last : Nat) : (Nat → Int) × (Nat → Int) := spl (farD D) (lowD D first) (highD D first) last 14 first (mk0 first last) (hr0 D first last)
def pM (D : Nat → Int) (first last : Nat) : Nat → Int := (pMH D first last).1
def pH (D : Nat → Int) (first last : Nat) : Nat → Int := (pMH D first last).2
def pN (D : Nat → Int) (first last : Nat) : Int × Int × Int := mea (farD D) last (pM D first last) (pH D first last) 7 first 0 1 0
/-- the least FASTEST, 0: none -/
def pNeed (D : Nat → Int) (first last : Nat) : Int := if (pN D first last).2.1 = 0 then 0 else (pN D first last).1
theorem spl_ok {first last : Nat} {far low high : Nat → Int} (g : Geo first last far low high) : ∀ f b mk hr, first ≤ b → b ≤ last → Mok first last mk hr → Mok first last (spl far low high last f b mk hr).1 (spl far low high last f b mk hr).2 := by
  intro f
  induction f with
  | zero => intro b mk hr _ _ h; exact h
  | succ f ih =>
    intro b mk hr hfb hbl h
    unfold spl
    split
    · rename_i hlt
      have ne := nxt_in (mk := mk) hlt
      have wi := wrst_in (far := far) (low := low) (high := high) (hr := hr) (e := nxt mk last b) ne.1
      split
      · exact ih _ _ _ (by omega) ne.2 h
      · rename_i hw
        have gw := g.2.2.2.2 (wrst far low high hr b (nxt mk last b)) (by omega) (by omega)
        split
        · exact ih _ _ _ hfb hbl (h.up (by omega) (by omega))
        · exact ih _ _ _ hfb hbl (h.up (by omega) (by omega))
    · exact h
theorem mok0 {D : Nat → Int} {first last : Nat} (w : WfP D first last) : Mok first last (mk0 first last) (hr0 D first last) := by
  refine ⟨fun k _ _ => ?_, fun k h1 h2 h3 => ?_, ?_, ?_⟩
  · unfold mk0; split <;> omega
  · unfold hr0
    split
    · have := w.2.2.2.2; omega
    · rename_i hk
      unfold mk0 at h3
      have hkl : k = last := by
        by_cases z : k = last
        · exact z
        · rw [if_neg (by omega)] at h3; exact absurd rfl h3
      have gw := (geoD w).2.2.2.2 last (by omega) (Nat.le_refl _)
      omega
  · unfold mk0; rw [if_pos (Or.inr rfl)]; decide
  · unfold mk0; rw [if_pos (Or.inl rfl)]; decide
theorem mokP {D : Nat → Int} {first last : Nat} (w : WfP D first last) : Mok first last (pM D first last) (pH D first last) := spl_ok (geoD w) 14 first _ _ (Nat.le_refl _) w.2.2.1 (mok0 w)
def ofPlan (x : Nat) : Nat → Nat → Nat → Prop := fun a b _ => b = x ∧ 6 ≤ a ∧ a ≤ 15
/-- Plan x holds the plan of D -/
def PlnR (S : evS) (x : Nat) (D : Nat → Int) (first last : Nat) : Prop :=
  PlC S x first last (farD D) (lowD D first) (highD D first) ∧ PlM S x first last (pM D first last) (pH D first last) ∧ PlS S x first last last (pM D first last) ∧
  (∀ p, first < p → p ≤ last → S.1 8 x p = iI (wtD D first p)) ∧ (∀ n, n < 4 → S.1 15 x n = iI (D (5 + n))) ∧ S.1 6 x 11 = iI (pN D first last).2.2 ∧ S.1 6 x 12 = iI (pNeed D first last) ∧ S.1 6 x 13 = iI (D 1)
/-- ship s has the numbers D -/
def ShD (S : evS) (s : Nat) (D : Nat → Int) : Prop := ∀ k, k < 33 → shp S s k = iI (D k)
theorem ShD.t {S : evS} {s : Nat} {D : Nat → Int} (h : ShD S s D) {k : Nat} (hk : k < 9) : S.1 4 s k = iI (D k) := by
  have := h k (by omega)
  unfold shp at this
  rw [if_pos hk] at this
  exact this
theorem ShD.l {S : evS} {s : Nat} {D : Nat → Int} (h : ShD S s D) {k : Nat} (hk : k < 24) : S.1 5 s k = iI (D (9 + k)) := by
  have := h (9 + k) (by omega)
  unfold shp at this
  rw [if_neg (by omega), show 9 + k - 9 = k by omega] at this
  exact this
theorem ShD.bc {S S' : evS} {s : Nat} {D : Nat → Int} {P : Nat → Nat → Nat → Prop} (h : ShD S s D) (hb : evBc S S' P) (hp : ∀ a c, P a s c → a ≠ 4 ∧ a ≠ 5) : ShD S' s D := by
  intro k hk
  rw [← h k hk]
  unfold shp
  rw [hb.1 4 s k (fun z => (hp _ _ z).1 rfl), hb.1 5 s (k - 9) (fun z => (hp _ _ z).2 rfl)]
section C5f
variable {G : evG} {d : Nat}
theorem c_draw_fin (hCl : evCl G) {x first last : Nat} {D : Nat → Int} {S0 S : evS} (hV : (6, x) ∈ evKs G) (w : WfP D first last) (hB : evBc S0 S (ofPlan x)) (hC : PlC S x first last (farD D) (lowD D first) (highD D first)) (hM : PlM S x first last (mk0 first last) (hr0 D first last)) (h8 : ∀ p, first < p → p ≤ last → S.1 8 x p = iI (wtD D first p)) (h15 : ∀ n, n < 4 → S.1 15 x n = iI (D (5 + n))) (h13 : S.1 6 x 13 = iI (D 1)) {q : evS → Prop} (hq : ∀ S' : evS, evBc S0 S' (ofPlan x) → PlnR S' x D first last → q S') :
    bk_X2_draw_122 G (d + 3) (evQV q) x S := by
  refine vb_X2_draw_122 hCl hV ((c_split hCl hV (geoD w) (mok0 w) hC hM).mV ?_)
  rintro S1 ⟨b1, c1, m1⟩
  refine (c_measure hCl hV (geoD w) (mokP w) c1 m1).mV ?_
  rintro S2 ⟨b2, c2, m2, s2, n2, n3⟩
  have b1' : evBc S S1 (ofPlan x) := ⟨fun a b c z => b1.1 a b c (by rintro ⟨y, rfl⟩; exact z ⟨rfl, by omega, by omega⟩), b1.2⟩
  have b2' : evBc S1 S2 (ofPlan x) := b2.wk (by rintro a b c ⟨rfl, y⟩; exact ⟨rfl, by omega, by omega⟩)
  refine hq S2 ((hB.tr b1').tr b2') ⟨c2, m2, s2, fun p a1 a2 => ?_, fun n hn => ?_, n2, n3, ?_⟩
  · rw [b2.1 8 x p (by rintro ⟨-, z⟩; omega), b1.1 8 x p (by rintro ⟨z, -⟩; omega)]; exact h8 p a1 a2
  · rw [b2.1 15 x n (by rintro ⟨-, z⟩; omega), b1.1 15 x n (by rintro ⟨z, -⟩; omega)]; exact h15 n hn
  · rw [b2.1 6 x 13 (by rintro ⟨-, z⟩; omega), b1.1 6 x 13 (by rintro ⟨z, -⟩; omega)]; exact h13
theorem c_draw_loop (hCl : evCl G) {x x1 first last : Nat} {D : Nat → Int} {S0 : evS} (hV : (6, x) ∈ evKs G) (hV1 : (3, x1) ∈ evKs G) (w : WfP D first last) (hs : ShD S0 x1 D) {q : evS → Prop} (hq : ∀ S' : evS, evBc S0 S' (ofPlan x) → PlnR S' x D first last → q S') :
    ∀ n j (S : evS), j + n = 4 → evBc S0 S (ofPlan x) → S.1 6 x 0 = nI first → S.1 6 x 1 = nI last → S.1 6 x 13 = iI (D 1) → (∀ i, i < j → S.1 15 x i = iI (D (5 + i))) → bk_X2_draw_50 G (d + 3) (evQV q) x x1 (nI j) S := by
  have hfl := w.2.2.1
  have h6 := w.2.2.2.1
  have hsT : ∀ T : evS, evBc S0 T (ofPlan x) → ShD T x1 D := fun T h => hs.bc h (by rintro a c ⟨-, z, z2⟩; omega)
  intro n
  induction n with
  | zero =>
    intro j S hj hB hf hl h13 ht
    refine vb_X2_draw_50 hCl hV hV1 ⟨fun _ => ?_, fun h => absurd (nI_le (a := 4) (b := j) (by omega) (by omega)) h⟩
    refine (c_layPorts (first := first) hCl hV hV1 hfl h6 (fun k z a1 a2 => (hsT S hB).l (by omega)) hf hl).mV ?_
    rintro S1 ⟨b1, f1, r1⟩
    have b1' : evBc S S1 (ofPlan x) := b1.wk (by rintro a b c ⟨rfl, y⟩; exact ⟨rfl, by omega, by omega⟩)
    have g0 : S1.1 6 x 0 = nI first := by rw [b1.1 6 x 0 (by rintro ⟨-, z⟩; omega)]; exact hf
    have g1 : S1.1 6 x 1 = nI last := by rw [b1.1 6 x 1 (by rintro ⟨-, z⟩; omega)]; exact hl
    have g13 : S1.1 6 x 13 = iI (D 1) := by rw [b1.1 6 x 13 (by rintro ⟨-, z⟩; omega)]; exact h13
    have g15 : ∀ i, i < 4 → S1.1 15 x i = iI (D (5 + i)) := fun i hi => by rw [b1.1 15 x i (by rintro ⟨-, z⟩; omega)]; exact ht i (by omega)
    refine (c_trait hCl hV1 (j := 3) (by omega) rfl).mI ?_
    rintro r2 S3 ⟨hr2, hS3⟩
    subst hS3
    rw [(hsT _ (hB.tr b1')).t (by omega)] at hr2
    have vf : vp_in (nI first) 7 := vp_in_nI (by omega) (by omega)
    have vl : vp_in (nI last) 7 := vp_in_nI (by omega) (by omega)
    rw [g0, nI_clamp (by omega)]
    refine ⟨vf, fun S5 e5 => ?_⟩
    have k5 : S5.1 6 x 0 = nI first := by rw [e5, evup_ne (by rintro ⟨y, -⟩; cases y)]; exact g0
    have k5l : S5.1 6 x 1 = nI last := by rw [e5, evup_ne (by rintro ⟨y, -⟩; cases y)]; exact g1
    have b5 : evBc S3 S5 (ofPlan x) := by rw [e5]; exact evBc.upw ⟨rfl, by omega, by omega⟩
    have o5 : ∀ a c, a ≠ 11 → S5.1 a x c = S3.1 a x c := fun a c y1 => by rw [e5, evup_ne (fun z => y1 z.1)]
    have hC5 : PlC S5 x first last (farD D) (lowD D first) (highD D first) :=
      ⟨k5, k5l, fun k hk => by rw [o5 7 k (by decide)]; exact f1 k hk, fun k a1 a2 => ⟨by rw [o5 9 k (by decide)]; exact (r1 k a1 a2).2.1, by rw [o5 10 k (by decide)]; exact (r1 k a1 a2).2.2.1⟩⟩
    have m5 : ∀ k, first ≤ k → k ≤ last → (first < k → k < last → S5.1 12 x k = iI (mk0 first last k)) ∧ (k ≠ last ∨ first = last → mk0 first last k ≠ 0 → S5.1 11 x k = iI (hr0 D first last k)) := by
      intro k a1 a2
      refine ⟨fun z1 z2 => ?_, fun a3 z => ?_⟩
      · rw [show mk0 first last k = 0 from by unfold mk0; rw [if_neg (by omega)], o5 12 k (by decide), (r1 k z1 a2).2.2.2]
        rfl
      · have hk : k = first := by
          by_cases y : k = first
          · exact y
          · refine absurd ?_ z
            unfold mk0
            rw [if_neg (by omega)]
        subst hk
        rw [show hr0 D k last k = D 3 from by unfold hr0; rw [if_pos rfl], e5, evup_at, hr2]
    have h85 : ∀ p, first < p → p ≤ last → S5.1 8 x p = iI (wtD D first p) := fun p a1 a2 => by rw [o5 8 p (by decide)]; exact (r1 p a1 a2).1
    have h155 : ∀ n, n < 4 → S5.1 15 x n = iI (D (5 + n)) := fun n hn => by rw [o5 15 n (by decide)]; exact g15 n hn
    rw [k5, k5l, nI_clamp (n := last) (by omega)]
    refine ⟨fun h => ?_, fun h => ⟨vl, vl, fun S8 e8 => ?_⟩⟩
    · have hfe : last ≤ first := Nat.le_of_not_lt fun z => absurd h (nI_ge z (by omega))
      exact c_draw_fin hCl hV w ((hB.tr b1').tr b5) hC5 (fun k a1 a2 => ⟨(m5 k a1 a2).1, (m5 k a1 a2).2 (Or.inr (by omega))⟩) h85 h155 (by rw [o5 6 13 (by decide)]; exact g13) hq
    · have hlt : first < last := Nat.lt_of_not_le fun z => h (nI_le z (by omega))
      have b8 : evBc S5 S8 (ofPlan x) := by rw [e8]; exact evBc.upw ⟨rfl, by omega, by omega⟩
      have o8 : ∀ a c, a ≠ 11 → S8.1 a x c = S5.1 a x c := fun a c y1 => by rw [e8, evup_ne (fun z => y1 z.1)]
      refine c_draw_fin hCl hV w (((hB.tr b1').tr b5).tr b8) ?_ ?_ (fun p a1 a2 => by rw [o8 8 p (by decide)]; exact h85 p a1 a2) (fun n hn => by rw [o8 15 n (by decide)]; exact h155 n hn) (by rw [o8 6 13 (by decide), o5 6 13 (by decide)]; exact g13) hq
      · exact ⟨by rw [o8 6 0 (by decide)]; exact k5, by rw [o8 6 1 (by decide)]; exact k5l, fun k hk => by rw [o8 7 k (by decide)]; exact hC5.2.2.1 k hk, fun k a1 a2 => ⟨by rw [o8 9 k (by decide)]; exact (hC5.2.2.2 k a1 a2).1, by rw [o8 10 k (by decide)]; exact (hC5.2.2.2 k a1 a2).2⟩⟩
      · intro k a1 a2
        refine ⟨fun z1 z2 => by rw [o8 12 k (by decide)]; exact (m5 k a1 a2).1 z1 z2, fun z => ?_⟩
        by_cases hk : k = last
        · subst hk
          rw [show hr0 D first k k = highD D first k from by unfold hr0; rw [if_neg (by omega)], e8, evup_at]
          exact (hC5.2.2.2 k hlt (Nat.le_refl _)).2
        · rw [e8, evup_o hk]
          exact (m5 k a1 a2).2 (Or.inl hk) z
  | succ n ih =>
    intro j S hj hB hf hl h13 ht
    refine vb_X2_draw_50 hCl hV hV1 ⟨fun h => absurd h (nI_ge (b := 4) (by omega) (by omega)), fun _ => ?_⟩
    refine (c_trait hCl hV1 (j := 5 + j) (by omega) (by rw [← nI_add]; rfl)).mI ?_
    rintro r13 S14 ⟨hr, hS⟩
    subst hS
    rw [(hsT _ hB).t (by omega)] at hr
    refine ⟨vp_in_nI (by omega) (by omega), fun S16 e16 v17 hv17 => ?_⟩
    rw [nI_1] at hv17
    rw [nI_clamp (by omega)] at e16
    subst hv17
    have o : ∀ c, S16.1 6 x c = S14.1 6 x c := fun c => by rw [e16, evup_ne (by rintro ⟨y, -⟩; cases y)]
    refine ih (j + 1) S16 (by omega) (hB.tr (by rw [e16]; exact evBc.upw ⟨rfl, by omega, by omega⟩)) (by rw [o]; exact hf) (by rw [o]; exact hl) (by rw [o]; exact h13) (fun i hi => ?_)
    by_cases hij : i = j
    · subst hij; rw [e16, evup_at, hr]
    · rw [e16, evup_o hij]; exact ht i (by omega)
theorem c_draw (hCl : evCl G) {x x1 first last : Nat} {D : Nat → Int} {S : evS} (hV : (6, x) ∈ evKs G) (hV1 : (3, x1) ∈ evKs G) (w : WfP D first last) (hs : ShD S x1 D) :
    evSp G yX2_draw M_X2_draw (d + 4) [.ref (evad G 6 x), .ref (evad G 3 x1)] S (evQV fun S' => evBc S S' (ofPlan x) ∧ PlnR S' x D first last) := by
  have hfl := w.2.2.1
  have h6 := w.2.2.2.1
  have hsT : ∀ T : evS, evBc S T (ofPlan x) → ShD T x1 D := fun T h => hs.bc h (by rintro a c ⟨-, z, z2⟩; omega)
  refine vm_X2_draw (vb_X2_draw_0 hCl hV hV1 ?_)
  refine (c_trait hCl hV1 (j := 2) (by omega) rfl).mI ?_
  rintro r1 S2 ⟨h1, hS2⟩
  subst hS2
  rw [hs.t (by omega), w.1, ← iI_n] at h1
  refine (c_max hCl).mI ?_
  rintro r3 S4 ⟨h3, hS4⟩
  subst hS4
  rw [h1, if_neg (nI_pos (by omega))] at h3
  refine (c_min hCl).mI ?_
  rintro r5 S6 ⟨h5, hS6⟩ S7 e7
  subst hS6
  rw [h3, if_neg (show ¬ (6 : Int32) < nI first from nI_nlt (a := 6) (by omega) (by omega))] at h5
  have b7 : evBc S6 S7 (ofPlan x) := by rw [e7]; exact evBc.upw ⟨rfl, by omega, by omega⟩
  have k7 : S7.1 6 x 0 = nI first := by rw [e7, evup_at, h5]
  refine (c_trait hCl hV1 (j := 0) (by omega) rfl).mI ?_
  rintro r8 S9 ⟨h8, hS9⟩
  subst hS9
  rw [(hsT _ b7).t (by omega), w.2.1, ← iI_n] at h8
  refine (c_max hCl).mI ?_
  rintro r10 S11 ⟨h10, hS11⟩
  subst hS11
  rw [h8, k7, if_neg (nI_nlt hfl (by omega))] at h10
  refine (c_min hCl).mI ?_
  rintro r12 S13 ⟨h12, hS13⟩ S14 e14
  subst hS13
  rw [h10, if_neg (show ¬ (6 : Int32) < nI last from nI_nlt (a := 6) (by omega) (by omega))] at h12
  have b14 : evBc S6 S14 (ofPlan x) := b7.tr (by rw [e14]; exact evBc.upw ⟨rfl, by omega, by omega⟩)
  refine (c_trait hCl hV1 (j := 1) (by omega) rfl).mI ?_
  rintro r15 S16 ⟨h15, hS16⟩ S17 e17
  subst hS16
  rw [(hsT _ b14).t (by omega)] at h15
  refine c_draw_loop hCl hV hV1 w hs (fun S' a1 a2 => ⟨a1, a2⟩) 4 0 S17 (by omega) (b14.tr (by rw [e17]; exact evBc.upw ⟨rfl, by omega, by omega⟩)) ?_ ?_ ?_ (fun i hi => absurd hi (by omega))
  · rw [e17, evup_o (by decide), e14, evup_o (by decide)]; exact k7
  · rw [e17, evup_o (by decide), e14, evup_at, h12]
  · rw [e17, evup_at, h15]
end C5f
