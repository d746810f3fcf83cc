/-! CONTRACTS OF THE REFERENCE: small ones, marks -/
def evBm (S S' : evS) (P : Nat → Nat → Nat → Prop) : Prop := (∀ a b c, ¬ P a b c → S'.1 a b c = S.1 a b c) ∧ ∀ a b c, ¬ P a b c → S'.2 a b c = S.2 a b c
theorem evBm.rf {S : evS} {P : Nat → Nat → Nat → Prop} : evBm S S P := ⟨fun _ _ _ _ => rfl, fun _ _ _ _ => rfl⟩
theorem evBm.tr {S S' S2 : evS} {P : Nat → Nat → Nat → Prop} (h : evBm S S' P) (h2 : evBm S' S2 P) : evBm S S2 P := ⟨fun a b c q => (h2.1 a b c q).trans (h.1 a b c q), fun a b c q => (h2.2 a b c q).trans (h.2 a b c q)⟩
theorem evBm.wk {S S' : evS} {P P' : Nat → Nat → Nat → Prop} (h : evBm S S' P) (hp : ∀ a b c, P a b c → P' a b c) : evBm S S' P' := ⟨fun a b c q => h.1 a b c (fun z => q (hp a b c z)), fun a b c q => h.2 a b c (fun z => q (hp a b c z))⟩
theorem evBm.upw {S : evS} {kd x k : Nat} {v : Int32} {P : Nat → Nat → Nat → Prop} (h : P kd x k) : evBm S (evup S kd x k v) P := ⟨fun a b c q => evup_c (by rintro ⟨rfl, rfl, rfl⟩; exact q h), fun _ _ _ _ => rfl⟩
theorem evupL_at {S : evS} {kd x k : Nat} {v : Int64} : (evupL S kd x k v).2 kd x k = v := by simp [evupL]
theorem evupL_c {S : evS} {kd x k a b c : Nat} {v : Int64} (h : ¬ (a = kd ∧ b = x ∧ c = k)) : (evupL S kd x k v).2 a b c = S.2 a b c := by simp only [evupL]; rw [if_neg h]
theorem evBm.upLw {S : evS} {kd x k : Nat} {v : Int64} {P : Nat → Nat → Nat → Prop} (h : P kd x k) : evBm S (evupL S kd x k v) P := ⟨fun _ _ _ _ => rfl, fun a b c q => evupL_c (by rintro ⟨rfl, rfl, rfl⟩; exact q h)⟩
def MlC (S : evS) (first last : Nat) (far low high : Nat → Int) : Prop :=
  S.1 30 0 16 = nI first ∧ S.1 30 0 17 = nI last ∧ (∀ k, k ≤ last → S.1 49 0 k = iI (far k)) ∧ ∀ k, first < k → k ≤ last → S.1 51 0 k = iI (low k) ∧ S.1 52 0 k = iI (high k)
def MlM (S : evS) (first last : Nat) (mk hr : Nat → Int) : Prop := ∀ k, first ≤ k → k ≤ last → S.1 53 0 k = iI (mk k) ∧ (mk k ≠ 0 → S.2 54 0 k = lI (hr k))
theorem nI_n9 {w : Nat} (h : w < 2 ^ 31) : ¬ nI w = (-9) := fun z => absurd (nI_pos' h) (by rw [z]; decide)
section C6a
variable {G : evG} {d : Nat} {S : evS}
theorem m_in (hCl : evCl G) {v a b : Int32} : evSp G yX6_in M_X6_in d [.int v, .int a, .int b] S (evQI fun r S' => r = (if v < a ∨ b < v then 0 else 1) ∧ S' = S) := by
  refine vm_X6_in (vb_X6_in_0 hCl ⟨fun h => ⟨by rw [if_pos (Or.inl h)], rfl⟩, fun h => ⟨fun h2 => ⟨by rw [if_pos (Or.inr h2)], rfl⟩, fun h2 => ⟨by rw [if_neg (fun z => z.elim h h2)], rfl⟩⟩⟩)
theorem m_isShip (hCl : evCl G) {i : Int32} : evSp G yX6_isShip M_X6_isShip (d + 1) [.int i] S (evQI fun r S' => r = (if i < 0 ∨ 3 < i then 0 else 1) ∧ S' = S) := by
  refine vm_X6_isShip (vb_X6_isShip_0 hCl ((m_in hCl).mI ?_))
  rintro r S' ⟨rfl, rfl⟩
  refine ⟨?_, rfl, rfl⟩
  split
  · exact Or.inl rfl
  · exact Or.inr rfl
theorem m_of (hCl : evCl G) (hV : (30, 0) ∈ evKs G) {i k : Nat} (hi : i < 4) (hk : k < 33) {a b : Int32} (ha : a = nI i) (hb : b = nI k) : evSp G yX6_of M_X6_of d [.ref (evad G 30 0), .int a, .int b] S (evQI fun r S' => r = S.1 31 0 (33 * i + k) ∧ S' = S) := by
  subst ha hb
  refine vm_X6_of (vb_X6_of_0 hCl hV ?_)
  rw [show (33 : Int32) = nI 33 from rfl, pk_mul, nI_add, nI_clamp (by omega)]
  exact ⟨vp_in_nI (by omega) (by omega), rfl, rfl⟩
theorem m_legPlace (hCl : evCl G) {k w : Nat} : evSp G yX6_legPlace M_X6_legPlace d [.int (nI k), .int (nI w)] S (evQI fun r S' => r = nI (9 + (4 * k + w)) ∧ S' = S) := by
  refine vm_X6_legPlace (vb_X6_legPlace_0 hCl ⟨?_, rfl⟩)
  rw [show (9 : Int32) = nI 9 from rfl, show (4 : Int32) = nI 4 from rfl, pk_mul, nI_add, nI_add, Nat.add_assoc]
theorem m_ofLeg (hCl : evCl G) (hV : (30, 0) ∈ evKs G) {i k w : Nat} (hi : i < 4) (hk : k < 6) (hw : w < 4) {a b c : Int32} (ha : a = nI i) (hb : b = nI k) (hc : c = nI w) : evSp G yX6_ofLeg M_X6_ofLeg (d + 1) [.ref (evad G 30 0), .int a, .int b, .int c] S (evQI fun r S' => r = S.1 31 0 (33 * i + (9 + (4 * k + w))) ∧ S' = S) := by
  subst hb hc
  refine vm_X6_ofLeg (vb_X6_ofLeg_0 hCl hV ((m_legPlace hCl).mI ?_))
  rintro r S' ⟨rfl, rfl⟩
  exact m_of hCl hV hi (by omega) ha rfl
theorem m_evenTimes (hCl : evCl G) (hV : (30, 0) ∈ evKs G) {b e p : Nat} (hb : b ≤ 6) (he : e ≤ 6) (hp : p ≤ 6) {far hr : Nat → Int} (f1 : S.1 49 0 b = iI (far b)) (f2 : S.1 49 0 e = iI (far e)) (f3 : S.1 49 0 p = iI (far p)) (g1 : S.2 54 0 b = lI (hr b)) (g2 : S.2 54 0 e = lI (hr e)) (r1 : rg (far e - far b)) (r2 : rg (far p - far b)) :
    evSp G yX6_evenTimes M_X6_evenTimes d [.ref (evad G 30 0), .int (nI b), .int (nI e), .int (nI p)] S (evQL fun r S' => r = lI (evn far hr b e p) ∧ S' = S) := by
  have vb : vp_in (nI b) 7 := vp_in_nI (by omega) (by omega)
  have ve : vp_in (nI e) 7 := vp_in_nI (by omega) (by omega)
  have vp : vp_in (nI p) 7 := vp_in_nI (by omega) (by omega)
  refine vm_X6_evenTimes (vb_X6_evenTimes_0 hCl hV ?_)
  rw [nI_clamp (n := b) (by omega), nI_clamp (n := e) (by omega), nI_clamp (n := p) (by omega), f1, f2, f3, g1, g2, iI_sub, iI_sub, iI_64 r1, iI_64 r2, lI_sub, lI_mul, lI_mul, lI_add]
  exact ⟨vb, ve, vb, ve, vb, vp, vb, rfl, rfl⟩
theorem m_missedTimes (hCl : evCl G) (hV : (30, 0) ∈ evKs G) {first last b e p : Nat} {far low high hr : Nat → Int} (g : Geo first last far low high) (P : MlC S first last far low high) (h1 : b ≤ p) (h2 : p ≤ e) (he : e ≤ last) (hfp : first < p) (hb : -100 ≤ hr b ∧ hr b ≤ 10200) (hh : -100 ≤ hr e ∧ hr e ≤ 10200) (g1 : S.2 54 0 b = lI (hr b)) (g2 : S.2 54 0 e = lI (hr e)) :
    evSp G yX6_missedTimes M_X6_missedTimes (d + 1) [.ref (evad G 30 0), .int (nI b), .int (nI e), .int (nI p)] S (evQL fun r S' => r = lI (iabs (mss far low high hr b e p)) ∧ S' = S) := by
  have h6 := g.2.1
  have vb : vp_in (nI b) 7 := vp_in_nI (by omega) (by omega)
  have ve : vp_in (nI e) 7 := vp_in_nI (by omega) (by omega)
  have vp : vp_in (nI p) 7 := vp_in_nI (by omega) (by omega)
  have e1 := evn_b g h1 h2 he hb hh
  have w := g.2.2.2.2 p hfp (Nat.le_trans h2 he)
  have l1 := lowM_b g (Nat.le_trans h1 h2) he (z := low p) (by omega)
  have l2 := lowM_b g (Nat.le_trans h1 h2) he (z := high p) (by omega)
  have fl := P.2.2.2 p hfp (by omega)
  have fb1 := far_be g (Nat.le_trans h1 h2) he
  have fb2 := far_be g h1 (Nat.le_trans h2 he)
  refine vm_X6_missedTimes (vb_X6_missedTimes_0 hCl hV ((m_evenTimes hCl hV (by omega) (by omega) (by omega) (P.2.2.1 b (by omega)) (P.2.2.1 e (by omega)) (P.2.2.1 p (by omega)) g1 g2 (rg_of (A := 594) (by omega) (by omega)) (rg_of (A := 594) (by omega) (by omega))).mL ?_))
  rintro r1 S2 ⟨rfl, rfl⟩
  rw [nI_clamp (n := b) (by omega), nI_clamp (n := e) (by omega), nI_clamp (n := p) (by omega), P.2.2.1 b (by omega), P.2.2.1 e (by omega), fl.1, fl.2, iI_sub, iI_64 (rg_of (A := 594) (by omega) (by omega)), iI_64 (rg_of (A := 1100) (by omega) (by omega)), iI_64 (rg_of (A := 1100) (by omega) (by omega))]
  refine ⟨ve, vb, fun v5 h5 => ⟨vp, fun v7 h7 => ⟨vp, fun v9 h9 => ?_⟩⟩⟩
  rw [h5, lI_mul, lI_sub] at h7 h9
  subst h7 h9
  rw [lI_0, lI_le (rgl_of (A := 14000000) (by omega) (by omega)) (rgl_of (A := 0) (by omega) (by omega)), lI_le (rgl_of (A := 14000000) (by omega) (by omega)) (rgl_of (A := 0) (by omega) (by omega))]
  have key : iabs (mss far low high hr b e p) = if evn far hr b e p < low p * (far e - far b) then low p * (far e - far b) - evn far hr b e p else max 0 (evn far hr b e p - high p * (far e - far b)) := by
    unfold iabs mss
    split <;> split <;> omega
  rw [key]
  refine ⟨fun h => ⟨fun h' => ⟨?_, rfl⟩, fun h' => ⟨?_, rfl⟩⟩, fun h => ⟨?_, rfl⟩⟩
  · rw [if_neg (by omega), Int.max_eq_left (by omega)]
  · rw [if_neg (by omega), Int.max_eq_right (by omega)]
  · rw [if_pos (by omega)]
theorem m_markBehind_loop (hCl : evCl G) (hV : (30, 0) ∈ evKs G) {first last : Nat} {mk : Nat → Int} (hl : last ≤ 6) (hm : ∀ k, first ≤ k → k ≤ last → S.1 53 0 k = iI (mk k)) (hr : ∀ k, first ≤ k → k ≤ last → rg (mk k)) (hml : mk last ≠ 0) {q : Int32 → evS → Prop} :
    ∀ n, n ≤ last → first ≤ last - n → q (nI (nxe mk last n)) S → bk_X6_markBehind_4 G d (evQI q) 0 (nI (last - n)) S := by
  intro n
  induction n with
  | zero =>
    intro _ h2 hq
    refine vb_X6_markBehind_4 hCl hV ⟨vp_in_nI (by omega) (by omega), ?_⟩
    rw [nI_clamp (by omega), hm _ h2 (by omega), iI_0, iI_eq (hr _ h2 (by omega)) (rg_of (A := 0) (by omega) (by omega))]
    exact ⟨fun _ => hq, fun h => absurd h hml⟩
  | succ n ih =>
    intro h1 h2 hq
    refine vb_X6_markBehind_4 hCl hV ⟨vp_in_nI (by omega) (by omega), ?_⟩
    rw [nI_clamp (by omega), hm _ h2 (by omega), iI_0, iI_eq (hr _ h2 (by omega)) (rg_of (A := 0) (by omega) (by omega))]
    unfold nxe at hq
    refine ⟨fun hz => ?_, fun hz v2 hv2 => ?_⟩
    · rw [if_neg hz] at hq; exact hq
    · rw [if_pos hz] at hq
      rw [nI_1, show last - (n + 1) + 1 = last - n by omega] at hv2
      subst hv2
      exact ih (by omega) (by omega) hq
theorem m_markBehind (hCl : evCl G) (hV : (30, 0) ∈ evKs G) {first last b : Nat} {mk hr : Nat → Int} (hl : last ≤ 6) (hb : b < last) (hfb : first ≤ b) (hMo : Mok first last mk hr) (hM : MlM S first last mk hr) :
    evSp G yX6_markBehind M_X6_markBehind d [.ref (evad G 30 0), .int (nI b)] S (evQI fun r S' => r = nI (nxt mk last b) ∧ S' = S) := by
  refine vm_X6_markBehind (vb_X6_markBehind_0 hCl hV (fun v1 hv1 => ?_))
  rw [nI_1] at hv1
  have h := m_markBehind_loop (G := G) (d := d) (q := fun r S' => r = nI (nxt mk last b) ∧ S' = S) hCl hV hl (fun k a1 a2 => (hM k a1 a2).1) (fun k a1 a2 => rg_of (A := 3) (by have := hMo.1 k a1 a2; omega) (by omega)) hMo.2.2.1 (last - (b + 1)) (by omega) (by omega) ⟨rfl, rfl⟩
  rw [show last - (last - (b + 1)) = b + 1 by omega] at h
  subst hv1
  exact h
theorem m_markAhead (hCl : evCl G) (hV : (30, 0) ∈ evKs G) {first last k : Nat} {mk hr : Nat → Int} (hl : last ≤ 6) (hk : k ≤ last) (hfk : first ≤ k) (hMo : Mok first last mk hr) (hM : MlM S first last mk hr) :
    evSp G yX6_markAhead M_X6_markAhead d [.ref (evad G 30 0), .int (nI k)] S (evQI fun r S' => r = nI (prv mk k) ∧ S' = S) := by
  have loop : ∀ k, first ≤ k → k ≤ last → ∀ {q : Int32 → evS → Prop}, q (nI (prv mk k)) S → bk_X6_markAhead_2 G d (evQI q) 0 (nI k) S := by
    intro k
    induction k with
    | zero =>
      intro a1 a2 q hq
      refine vb_X6_markAhead_2 hCl hV ⟨vp_in_nI (by omega) (by omega), ?_⟩
      rw [nI_clamp (by omega), (hM _ a1 a2).1, iI_0, iI_eq (rg_of (A := 3) (by have := hMo.1 0 a1 a2; omega) (by omega)) (rg_of (A := 0) (by omega) (by omega))]
      refine ⟨fun _ => hq, fun h => absurd h ?_⟩
      have := hMo.2.2.2
      rw [show first = 0 by omega] at this
      exact this
    | succ k ih =>
      intro a1 a2 q hq
      refine vb_X6_markAhead_2 hCl hV ⟨vp_in_nI (by omega) (by omega), ?_⟩
      rw [nI_clamp (by omega), (hM _ a1 a2).1, iI_0, iI_eq (rg_of (A := 3) (by have := hMo.1 (k + 1) a1 a2; omega) (by omega)) (rg_of (A := 0) (by omega) (by omega))]
      unfold prv at hq
      refine ⟨fun hz => ?_, fun hz v2 hv2 => ?_⟩
      · rw [if_neg hz] at hq; exact hq
      · rw [if_pos hz] at hq
        rw [pk_m1] at hv2
        subst hv2
        refine ih ?_ (by omega) hq
        rcases Nat.lt_or_ge k first with z | z
        · exact absurd (by rw [show first = k + 1 by omega]; exact hz) hMo.2.2.2
        · exact z
  exact vm_X6_markAhead (vb_X6_markAhead_0 hCl hV (loop k hfk hk ⟨rfl, rfl⟩))
end C6a
