/-! the reference's text -/
theorem RepM.let {A : Ab} {S : evS} (h : RepM A S) {j : Nat} (hj : j < lnA A) : S.1 36 0 j = nI (txA A j) := h.2.2.2.1.2 j _ (txA_s hj)
theorem RepM.len {A : Ab} {S : evS} (h : RepM A S) : S.1 30 0 6 = nI (lnA A) := h.2.2.2.1.1
theorem RepM.tk {A : Ab} {S : evS} (h : RepM A S) {kd c : Nat} {v : Int32} (hk : (kd = 30 ∧ 10 ≤ c ∧ c ≤ 14) ∨ kd = 40) : RepM A (evup S kd 0 c v) ∧ FrM S (evup S kd 0 c v) :=
  ⟨h.same (fun x y z => evup_c (by rintro ⟨z1, z2, z3⟩; unfold RelM at z; omega)), FrM.up (by omega)⟩
theorem evup_30 {S : evS} {c c' : Nat} {v : Int32} (h : c ≠ c') : (evup S 30 0 c' v).1 30 0 c = S.1 30 0 c := evup_c (by omega)
def Skp (A : Ab) (p p' : Nat) : Prop := ∀ it g v n fa ta D R, Runs (txA A) (lnA A) p it g v n fa ta D R → Runs (txA A) (lnA A) p' it g v n fa ta D R
def b2i (b : Bool) : Int32 := if b = true then 1 else 0
/-- the reference while it reads -/
def MS (A : Ab) (S0 S : evS) (p : Nat) (fa ta : Bool) (X : Nat → Int) : Prop := RepM A S ∧ FrM S0 S ∧ S.1 30 0 10 = nI p ∧ p ≤ lnA A ∧ S.1 30 0 13 = b2i fa ∧ S.1 30 0 14 = b2i ta ∧ ∀ k, k < 33 → S.1 40 0 k = iI (X k)
theorem MS.pos {A : Ab} {S0 S : evS} {p p' : Nat} {fa ta : Bool} {X : Nat → Int} (h : MS A S0 S p fa ta X) (hp : p' ≤ lnA A) : MS A S0 (evup S 30 0 10 (nI p')) p' fa ta X := by
  obtain ⟨h1, h2, h3, h4, h5, h6, h7⟩ := h
  have t := h1.tk (kd := 30) (c := 10) (v := nI p') (Or.inl ⟨rfl, by omega, by omega⟩)
  exact ⟨t.1, h2.tr t.2, evup_at, hp, by rw [evup_30 (by omega)]; exact h5, by rw [evup_30 (by omega)]; exact h6, fun k hk => by rw [evup_c (by omega)]; exact h7 k hk⟩
theorem MS.loc {A : Ab} {S0 S : evS} {p c : Nat} {v : Int32} {fa ta : Bool} {X : Nat → Int} (h : MS A S0 S p fa ta X) (hc : c = 11 ∨ c = 12) : MS A S0 (evup S 30 0 c v) p fa ta X := by
  obtain ⟨h1, h2, h3, h4, h5, h6, h7⟩ := h
  have t := h1.tk (kd := 30) (c := c) (v := v) (Or.inl ⟨rfl, by omega, by omega⟩)
  exact ⟨t.1, h2.tr t.2, by rw [evup_30 (by omega)]; exact h3, h4, by rw [evup_30 (by omega)]; exact h5, by rw [evup_30 (by omega)]; exact h6, fun k hk => by rw [evup_c (by omega)]; exact h7 k hk⟩
theorem MS.put {A : Ab} {S0 S : evS} {p j : Nat} {v : Int32} {z : Int} {fa ta : Bool} {X : Nat → Int} (h : MS A S0 S p fa ta X) (hj : j < 33) (hv : v = iI z) : MS A S0 (evup S 40 0 j v) p fa ta (upI X j z) := by
  obtain ⟨h1, h2, h3, h4, h5, h6, h7⟩ := h
  have t := h1.tk (kd := 40) (c := j) (v := v) (Or.inr rfl)
  refine ⟨t.1, h2.tr t.2, by rw [evup_c (by omega)]; exact h3, h4, by rw [evup_c (by omega)]; exact h5, by rw [evup_c (by omega)]; exact h6, fun k hk => ?_⟩
  by_cases e : k = j
  · subst e; rw [evup_at, upI_at, hv]
  · rw [evup_o e, upI_o e]; exact h7 k hk
theorem MS.fas {A : Ab} {S0 S : evS} {p : Nat} {fa ta : Bool} {X : Nat → Int} (h : MS A S0 S p fa ta X) : MS A S0 (evup S 30 0 13 1) p true ta X := by
  obtain ⟨h1, h2, h3, h4, h5, h6, h7⟩ := h
  have t := h1.tk (kd := 30) (c := 13) (v := 1) (Or.inl ⟨rfl, by omega, by omega⟩)
  exact ⟨t.1, h2.tr t.2, by rw [evup_30 (by omega)]; exact h3, h4, evup_at, by rw [evup_30 (by omega)]; exact h6, fun k hk => by rw [evup_c (by omega)]; exact h7 k hk⟩
theorem MS.tab {A : Ab} {S0 S : evS} {p : Nat} {fa ta : Bool} {X : Nat → Int} (h : MS A S0 S p fa ta X) : MS A S0 (evup S 30 0 14 1) p fa true X := by
  obtain ⟨h1, h2, h3, h4, h5, h6, h7⟩ := h
  have t := h1.tk (kd := 30) (c := 14) (v := 1) (Or.inl ⟨rfl, by omega, by omega⟩)
  exact ⟨t.1, h2.tr t.2, by rw [evup_30 (by omega)]; exact h3, h4, by rw [evup_30 (by omega)]; exact h5, evup_at, fun k hk => by rw [evup_c (by omega)]; exact h7 k hk⟩
def rel (a b : Int) : Prop := (a = b ∧ 0 ≤ a ∧ a ≤ 999) ∨ (999 < a ∧ 999 < b ∧ b ≤ 9999)
section C9f
variable {G : evG} {d : Nat} {S : evS}
theorem m_blanks (hCl : evCl G) (hV : (30, 0) ∈ evKs G) {A : Ab} (w : WfA A) {S0 : evS} {fa ta : Bool} {X : Nat → Int} {q : evS → Prop} :
    ∀ k p (S : evS), p + k = lnA A → MS A S0 S p fa ta X → (∀ (S' : evS) p', MS A S0 S' p' fa ta X → S'.1 30 0 11 = nI p' → p ≤ p' → (p' < lnA A → ¬ txA A p' = 32) → Skp A p p' → q S') → bk_X6_blanks_0 G d (evQV q) 0 S := by
  have hl := lnA_b w
  intro k
  induction k with
  | zero =>
    intro p S hp h hq
    have h3 := h.2.2.1
    refine vb_X6_blanks_0 hCl hV ?_
    rw [h.1.len, h3]
    refine ⟨fun _ => ?_, fun z => absurd (nI_le (by omega) (by omega)) z⟩
    rintro S1 rfl
    exact hq _ p (h.loc (Or.inl rfl)) evup_at (Nat.le_refl _) (fun z => by omega) (fun _ _ _ _ _ _ _ _ z => z)
  | succ k ih =>
    intro p S hp h hq
    have h3 := h.2.2.1
    have hpl : p < lnA A := by omega
    have xb := txA_b w hpl
    refine vb_X6_blanks_0 hCl hV ?_
    rw [h.1.len, h3]
    refine ⟨fun z => absurd z (nI_ge (by omega) (by omega)), fun _ => ⟨vp_in_nI (by omega) (by omega), ?_⟩⟩
    rw [nI_clamp (by omega), h.1.let hpl, show (32 : Int32) = nI 32 from rfl, nI_eqi (by omega) (by omega)]
    refine ⟨fun hs => ?_, fun hs => ?_⟩
    · rintro S1 rfl
      exact hq _ p (h.loc (Or.inl rfl)) evup_at (Nat.le_refl _) (fun _ => hs) (fun _ _ _ _ _ _ _ _ z => z)
    · rintro S4 rfl
      rw [inc_n (n := p) rfl]
      exact ih (p + 1) _ (by omega) (h.pos (by omega)) (fun S' p' a1 a2 a3 a4 a5 => hq S' p' a1 a2 (by omega) a4 (fun it g v n fa ta D R hR => a5 it g v n fa ta D R (run_sp hR (by omega) hs)))
theorem m_blank (hCl : evCl G) (hV : (30, 0) ∈ evKs G) {A : Ab} (w : WfA A) {S0 : evS} {fa ta : Bool} {X : Nat → Int} {q : evS → Prop} {p : Nat} (h : MS A S0 S p fa ta X) (hq : ∀ (S' : evS) p', MS A S0 S' p' fa ta X → S'.1 30 0 11 = nI p' → p ≤ p' → (p' < lnA A → ¬ txA A p' = 32) → Skp A p p' → q S') : evSp G yX6_blanks M_X6_blanks d [.ref (evad G 30 0)] S (evQV q) :=
  vm_X6_blanks (m_blanks hCl hV w (lnA A - p) p S (by have := h.2.2.2.1; omega) h hq)
theorem m_isAt (hCl : evCl G) (hV : (30, 0) ∈ evKs G) {A : Ab} (w : WfA A) {S0 : evS} {fa ta : Bool} {X : Nat → Int} {p a b : Nat} (h : MS A S0 S p fa ta X) (ha : a < 1000) (hb : b < 1000) {l1 l2 : Int32} (h1 : l1 = nI a) (h2 : l2 = nI b) : evSp G yX6_isAt M_X6_isAt (d + 1) [.ref (evad G 30 0), .int l1, .int l2] S (evQI fun r S' => r = (if p < lnA A ∧ a ≤ txA A p ∧ txA A p ≤ b then 1 else 0) ∧ S' = S) := by
  subst h1 h2
  have hl := lnA_b w
  have h4 := h.2.2.2.1
  refine vm_X6_isAt (vb_X6_isAt_0 hCl hV ?_)
  rw [h.1.len, h.2.2.1]
  refine ⟨fun z => ⟨?_, rfl⟩, fun z => ?_⟩
  · rw [if_neg (by intro y; exact absurd z (nI_ge y.1 (by omega)))]
  · have hp : p < lnA A := by
      rcases Nat.lt_or_ge p (lnA A) with y | y
      · exact y
      · exact absurd (nI_le y (by omega)) z
    have xb := txA_b w hp
    refine ⟨vp_in_nI (by omega) (by omega), ?_⟩
    rw [nI_clamp (by omega), h.1.let hp]
    refine (m_in hCl).mI ?_
    rintro r2 S3 ⟨rfl, rfl⟩
    by_cases hy : a ≤ txA A p ∧ txA A p ≤ b
    · rw [if_neg (by
        rintro (z | z)
        · exact absurd z (nI_nlt hy.1 (by omega))
        · exact absurd z (nI_nlt hy.2 (by omega))), if_pos ⟨hp, hy⟩]
      exact ⟨fun z => absurd z (by decide), fun _ => ⟨rfl, rfl⟩⟩
    · rw [if_pos (by
        rcases Nat.lt_or_ge (txA A p) a with y | y
        · exact Or.inl (nI_lt y (by omega))
        · exact Or.inr (nI_lt (by omega) (by omega))), if_neg (fun z => hy z.2)]
      exact ⟨fun _ => ⟨rfl, rfl⟩, fun z => absurd rfl z⟩
theorem m_num_loop (hCl : evCl G) (hV : (30, 0) ∈ evKs G) {A : Ab} (w : WfA A) {S0 : evS} {fa ta : Bool} {X : Nat → Int} {q : Int32 → evS → Prop} {l1 l2 : Int32} {p0 : Nat}
    {EX : evS → Prop} (hE : ∀ S : evS, EX S → (((S.1 30 0 10) = ((S.1 30 0 11) + 1) → bk_X6_takesNumber_111 G (d + 1) (evQI q) 0 l1 l2 S) ∧ (¬ (S.1 30 0 10) = ((S.1 30 0 11) + 1) → (((S.1 30 0 10) ≤ (S.1 30 0 11) → bk_X6_takesNumber_115 G (d + 1) (evQI q) 0 l1 l2 S) ∧ (¬ (S.1 30 0 10) ≤ (S.1 30 0 11) → (vp_in (S.1 30 0 11) 150 ∧ (((S.1 36 0 ((S.1 30 0 11).toNatClampNeg)) = 48 → bk_X6_takesNumber_115 G (d + 1) (evQI q) 0 l1 l2 S) ∧ (¬ (S.1 36 0 ((S.1 30 0 11).toNatClampNeg)) = 48 → bk_X6_takesNumber_111 G (d + 1) (evQI q) 0 l1 l2 S)))))))) :
    ∀ k p (a b : Int) (S : evS), p + k = lnA A → MS A S0 S p fa ta X → S.1 30 0 11 = nI p0 → S.1 30 0 12 = iI b → rel a b → (∀ (S' : evS) b', MS A S0 S' (fgE (txA A) (lnA A) k p) fa ta X → S'.1 30 0 11 = nI p0 → S'.1 30 0 12 = iI b' → rel (nuF (txA A) (fgE (txA A) (lnA A) k p - p) p a) b' → EX S') → bk_X6_takesNumber_9 G (d + 1) (evQI q) 0 l1 l2 S := by
  have hl := lnA_b w
  intro k
  induction k with
  | zero =>
    intro p a b S hp h h11 h12 hr hq
    refine vb_X6_takesNumber_9 hCl hV ((m_isAt (d := d) hCl hV w h (a := 48) (b := 57) (by omega) (by omega) rfl rfl).mI ?_)
    rintro r1 S2 ⟨rfl, rfl⟩
    rw [if_neg (by omega)]
    refine ⟨fun _ => hE _ (hq _ b h h11 h12 ?_), fun z => absurd rfl z⟩
    unfold fgE
    rw [Nat.sub_self]
    exact hr
  | succ k ih =>
    intro p a b S hp h h11 h12 hr hq
    have hpl : p < lnA A := by omega
    have xb := txA_b w hpl
    refine vb_X6_takesNumber_9 hCl hV ((m_isAt (d := d) hCl hV w h (a := 48) (b := 57) (by omega) (by omega) rfl rfl).mI ?_)
    rintro r1 S2 ⟨rfl, rfl⟩
    by_cases hf : fig (txA A p)
    · rw [if_pos ⟨hpl, hf⟩]
      refine ⟨fun z => absurd z (by decide), fun _ => ?_⟩
      have eg : fgE (txA A) (lnA A) (k + 1) p = fgE (txA A) (lnA A) k (p + 1) := by
        conv => lhs; unfold fgE
        rw [if_pos ⟨hpl, hf⟩]
      have fb := fgE_b (tx := txA A) (L := lnA A) k (p + 1)
      have nx : ∀ (s1 : Int32) (b1 : Int), s1 = iI b1 → rel (min 1000 (a * 10 + txA A p - 48)) b1 → bk_X6_takesNumber_57 G (d + 1) (evQI q) 0 l1 l2 0 s1 S2 := by
        intro s1 b1 e1 hr1
        refine vb_X6_takesNumber_57 hCl hV hV ?_
        rintro S3 rfl S4 rfl
        rw [evup_30 (by omega), h.2.2.1, inc_n (n := p) rfl]
        refine ih (p + 1) (min 1000 (a * 10 + txA A p - 48)) b1 _ (by omega) ((h.loc (Or.inr rfl)).pos (by omega)) ?_ ?_ hr1 (fun S' b' a1 a2 a3 a4 => ?_)
        · rw [evup_30 (by omega), evup_30 (by omega)]; exact h11
        · rw [evup_30 (by omega), evup_at]; exact e1
        · refine hq S' b' (by rw [eg]; exact a1) a2 a3 ?_
          rw [eg, show fgE (txA A) (lnA A) k (p + 1) - p = (fgE (txA A) (lnA A) k (p + 1) - (p + 1)) + 1 by omega]
          exact a4
      rw [h12, h.2.2.1, show (999 : Int32) = iI 999 from rfl, iI_le (rg_of (A := 20000) (by unfold rel at hr; omega) (by omega)) (rg_of (A := 999) (by omega) (by omega))]
      refine ⟨fun z => ⟨vp_in_nI (by omega) (by omega), nx _ (10 * b + txA A p - 48) ?_ ?_⟩, fun z => nx _ 1000 rfl ?_⟩
      · rw [nI_clamp (by omega), h.1.let hpl, show (10 : Int32) = iI 10 from rfl, show (48 : Int32) = iI 48 from rfl, iI_mul, iI_n (txA A p), iI_add, iI_sub]
      · unfold rel at *; omega
      · unfold rel at *; omega
    · rw [if_neg (fun z => hf z.2)]
      have eg : fgE (txA A) (lnA A) (k + 1) p = p := by
        unfold fgE
        rw [if_neg (fun z => hf z.2)]
      refine ⟨fun _ => hE _ (hq _ b (by rw [eg]; exact h) h11 h12 ?_), fun z => absurd rfl z⟩
      rw [eg, Nat.sub_self]
      exact hr
theorem m_takesNumber (hCl : evCl G) (hV : (30, 0) ∈ evKs G) {A : Ab} (w : WfA A) {S0 : evS} {fa ta : Bool} {X : Nat → Int} {q : Int32 → evS → Prop} {p : Nat} (h : MS A S0 S p fa ta X) {lo hi : Int} (hlo : -3000 ≤ lo ∧ lo ≤ 3000) (hhi : 9 ≤ hi ∧ hi ≤ 999) {l1 l2 : Int32} (e1 : l1 = iI lo) (e2 : l2 = iI hi)
    (h0 : ∀ (S' : evS) p' p2, MS A S0 S' p2 fa ta X → S'.1 30 0 11 = nI p' → p' ≤ lnA A → Skp A p p' → (p' < lnA A → ¬ txA A p' = 32 ∧ ¬ (fig (txA A p') ∧ lo ≤ nuA (txA A) (lnA A) p' ∧ nuA (txA A) (lnA A) p' ≤ hi)) → q 0 S')
    (h1 : ∀ (S' : evS) p', p ≤ p' → MS A S0 S' (tkE (txA A) (lnA A) p') fa ta X → S'.1 30 0 12 = iI (nuA (txA A) (lnA A) p') → p' < lnA A → ¬ txA A p' = 32 → Skp A p p' → (fig (txA A p') ∧ lo ≤ nuA (txA A) (lnA A) p' ∧ nuA (txA A) (lnA A) p' ≤ hi) → q 1 S') :
    evSp G yX6_takesNumber M_X6_takesNumber (d + 2) [.ref (evad G 30 0), .int l1, .int l2] S (evQI q) := by
  subst e1 e2
  have hl := lnA_b w
  refine vm_X6_takesNumber (vb_X6_takesNumber_0 hCl hV (m_blank hCl hV w h ?_))
  intro S1 p' M1 b11 hpp hsp sk
  rintro S2 rfl
  have p'l : p' ≤ lnA A := M1.2.2.2.1
  have no : ∀ (S' : evS) p2, MS A S0 S' p2 fa ta X → S'.1 30 0 11 = nI p' → (p' < lnA A → ¬ (fig (txA A p') ∧ lo ≤ nuA (txA A) (lnA A) p' ∧ nuA (txA A) (lnA A) p' ≤ hi)) → bk_X6_takesNumber_115 G (d + 1) (evQI q) 0 (iI lo) (iI hi) S' := by
    intro S' p2 a1 a2 a3
    exact vb_X6_takesNumber_115 hCl hV (vb_X6_takesNumber_116 hCl hV ⟨fun _ => h0 S' p' p2 a1 a2 p'l sk (fun z => ⟨hsp z, a3 z⟩), fun z => absurd rfl z⟩)
  have yes : ∀ (S' : evS) (b' : Int), p' < lnA A → fig (txA A p') → MS A S0 S' (tkE (txA A) (lnA A) p') fa ta X → S'.1 30 0 11 = nI p' → S'.1 30 0 12 = iI b' → rel (nuA (txA A) (lnA A) p') b' → bk_X6_takesNumber_111 G (d + 1) (evQI q) 0 (iI lo) (iI hi) S' := by
    intro S' b' a0 af a1 a2 a3 a4
    have rb : 0 ≤ b' ∧ b' ≤ 9999 := by unfold rel at a4; omega
    refine vb_X6_takesNumber_111 hCl hV (vb_X6_takesNumber_116 hCl hV ⟨fun z => absurd z (by decide), fun _ => ?_⟩)
    rw [a3]
    refine (m_in' (P := b' < lo ∨ hi < b') hCl (by rw [iI_lt (rg_of (A := 9999) (by omega) (by omega)) (rg_of (A := 3000) (by omega) (by omega)), iI_lt (rg_of (A := 999) (by omega) (by omega)) (rg_of (A := 9999) (by omega) (by omega))])).mI ?_
    rintro r1 S3 ⟨rfl, rfl⟩
    by_cases hz : b' < lo ∨ hi < b'
    · rw [if_pos hz]
      refine ⟨fun _ => h0 _ p' _ a1 a2 p'l sk (fun z => ⟨hsp z, fun y => ?_⟩), fun z => absurd rfl z⟩
      unfold rel at a4
      omega
    · rw [if_neg hz, a3, show (999 : Int32) = iI 999 from rfl, iI_lt (rg_of (A := 999) (by omega) (by omega)) (rg_of (A := 9999) (by omega) (by omega))]
      refine ⟨fun z => absurd z (by decide), fun _ => ⟨fun y => by omega, fun y => ?_⟩⟩
      have eb : nuA (txA A) (lnA A) p' = b' := by unfold rel at a4; omega
      refine h1 _ p' hpp a1 (by rw [eb]; exact a3) a0 (hsp a0) sk ⟨af, by omega, by omega⟩
  refine m_num_loop (d := d) (p0 := p') hCl hV w (fun S z => z) (lnA A - p') p' 0 0 _ (by omega) (M1.loc (Or.inr rfl)) (by rw [evup_30 (by omega)]; exact b11) evup_at (Or.inl ⟨rfl, by omega, by omega⟩) (fun S' b' a1 a2 a3 a4 => ?_)
  rw [a1.2.2.1, a2]
  have fb := fgE_b (tx := txA A) (L := lnA A) (lnA A - p') p'
  have hl2 := a1.2.2.2.1
  rw [inc_n (n := p') rfl, nI_eqi (by omega) (by omega)]
  by_cases hf : p' < lnA A ∧ fig (txA A p')
  · have et : tkE (txA A) (lnA A) p' = fgE (txA A) (lnA A) (lnA A - p') p' := by unfold tkE; rw [if_pos hf.2]
    have tb := tkE_b (tx := txA A) hf.1
    have xb := txA_b w hf.1
    rw [← et] at a1 a4 ⊢
    refine ⟨fun z => ?_, fun z => ⟨fun y => ?_, fun y => ⟨vp_in_nI (by omega) (by omega), ?_⟩⟩⟩
    · refine yes S' b' hf.1 hf.2 a1 a2 a3 ?_
      unfold nuA
      rw [if_neg (by omega)]
      exact a4
    · exact absurd y (nI_ge (by omega) (by omega))
    · rw [nI_clamp (by omega), a1.1.let hf.1, show (48 : Int32) = nI 48 from rfl, nI_eqi (by omega) (by omega)]
      refine ⟨fun x => no S' _ a1 a2 (fun _ u => ?_), fun x => yes S' b' hf.1 hf.2 a1 a2 a3 ?_⟩
      · have : nuA (txA A) (lnA A) p' = 1000 := by unfold nuA; rw [if_pos ⟨x, by omega⟩]
        omega
      · unfold nuA
        rw [if_neg (fun u => x u.1)]
        exact a4
  · have ef : fgE (txA A) (lnA A) (lnA A - p') p' = p' := by
      rcases Nat.lt_or_ge p' (lnA A) with z | z
      · rw [show lnA A - p' = (lnA A - p' - 1) + 1 by omega]
        unfold fgE
        rw [if_neg hf]
      · rw [show lnA A - p' = 0 by omega]; rfl
    rw [ef] at a1 ⊢
    refine ⟨fun z => by omega, fun _ => ⟨fun _ => no S' _ a1 a2 (fun z u => hf ⟨z, u.1⟩), fun z => absurd (nI_le (Nat.le_refl _) (by omega)) z⟩⟩
theorem m_takesStop (hCl : evCl G) (hV : (30, 0) ∈ evKs G) {A : Ab} (w : WfA A) {S0 : evS} {fa ta : Bool} {X : Nat → Int} {q : Int32 → evS → Prop} {p : Nat} (h : MS A S0 S p fa ta X)
    (h0 : ∀ (S' : evS) p', MS A S0 S' p' fa ta X → S'.1 30 0 11 = nI p' → Skp A p p' → (p' < lnA A → ¬ txA A p' = 32 ∧ ¬ txA A p' = 59) → q 0 S')
    (h1 : ∀ (S' : evS) p', p ≤ p' → MS A S0 S' (p' + 1) fa ta X → p' < lnA A → txA A p' = 59 → Skp A p p' → q 1 S') :
    evSp G yX6_takesStop M_X6_takesStop (d + 2) [.ref (evad G 30 0)] S (evQI fun r S' => (r = 0 ∨ r = 1) ∧ q r S') := by
  refine vm_X6_takesStop (vb_X6_takesStop_0 hCl hV (m_blank hCl hV w h ?_))
  intro S1 p' M1 b11 hpp hsp sk
  have p'l : p' ≤ lnA A := M1.2.2.2.1
  refine (m_isAt (d := d) hCl hV w M1 (a := 59) (b := 59) (by omega) (by omega) rfl rfl).mI ?_
  rintro r2 S3 ⟨rfl, rfl⟩
  rw [M1.2.2.1]
  by_cases hz : p' < lnA A ∧ 59 ≤ txA A p' ∧ txA A p' ≤ 59
  · rw [if_pos hz]
    refine ⟨fun z => absurd z (by decide), fun _ => ?_⟩
    rintro S6 rfl
    rw [inc_n (n := p') rfl]
    exact ⟨Or.inr rfl, Or.inr rfl, h1 _ p' hpp (M1.pos (by omega)) hz.1 (by omega) sk⟩
  · rw [if_neg hz]
    refine ⟨fun _ => ?_, fun z => absurd rfl z⟩
    rintro S4 rfl
    rw [show nI p' + 0 = nI p' from by rw [show (0 : Int32) = nI 0 from rfl, add_n]; rfl]
    exact ⟨Or.inl rfl, Or.inl rfl, h0 _ p' (M1.pos p'l) (by rw [evup_30 (by omega)]; exact b11) sk (fun z => ⟨hsp z, fun y => hz ⟨z, by omega⟩⟩)⟩
end C9f
