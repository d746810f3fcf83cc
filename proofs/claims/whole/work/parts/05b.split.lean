/-! CONTRACTS: Plan, how stretches are split -/
def PlC (S : evS) (x first last : Nat) (far low high : Nat → Int) : Prop :=
  S.1 6 x 0 = nI first ∧ S.1 6 x 1 = nI last ∧ (∀ k, k ≤ last → S.1 7 x k = iI (far k)) ∧ ∀ k, first < k → k ≤ last → S.1 9 x k = iI (low k) ∧ S.1 10 x k = iI (high k)
def PlM (S : evS) (x first last : Nat) (mk hr : Nat → Int) : Prop := ∀ k, first ≤ k → k ≤ last → (first < k → k < last → S.1 12 x k = iI (mk k)) ∧ (mk k ≠ 0 → S.1 11 x k = iI (hr k))
section C5b
variable {G : evG} {d : Nat} {S : evS}
theorem c_evenHour (hCl : evCl G) {x b e p : Nat} (hV : (6, x) ∈ evKs G) (hb : b ≤ 6) (he : e ≤ 6) (hp : p ≤ 6) {far hr : Nat → Int} (f1 : S.1 7 x b = iI (far b)) (f2 : S.1 7 x e = iI (far e)) (f3 : S.1 7 x p = iI (far p)) (g1 : S.1 11 x b = iI (hr b)) (g2 : S.1 11 x e = iI (hr e)) :
    evSp G yX2_evenHour M_X2_evenHour d [.ref (evad G 6 x), .int (nI b), .int (nI e), .int (nI p)] S (evQI fun r S' => r = iI (evn far hr b e p) ∧ S' = S) := by
  have vb : vp_in (nI b) 7 := vp_in_nI (by omega) (by omega)
  have ve : vp_in (nI e) 7 := vp_in_nI (by omega) (by omega)
  have vp : vp_in (nI p) 7 := vp_in_nI (by omega) (by omega)
  refine vm_X2_evenHour (vb_X2_evenHour_0 hCl hV ?_)
  rw [nI_clamp (n := b) (by omega), nI_clamp (n := e) (by omega), nI_clamp (n := p) (by omega), f1, f2, f3, g1, g2]
  refine ⟨ve, vb, fun v3 h3 => ⟨vp, vb, fun v6 h6 => ⟨vb, ve, vb, ?_, rfl⟩⟩⟩
  rw [h3, h6, iI_sub, iI_sub, iI_sub, iI_mul, iI_mul, iI_add]
  rfl
theorem c_missAt (hCl : evCl G) {x first last b e p : Nat} {far low high hr : Nat → Int} (hV : (6, x) ∈ evKs G) (g : Geo first last far low high) (P : PlC S x first last far low high) (h1 : b ≤ p) (h2 : p ≤ e) (he : e ≤ last) (hfp : first < p) (hb : -100 ≤ hr b ∧ hr b ≤ 10200) (hh : -100 ≤ hr e ∧ hr e ≤ 10200) (g1 : S.1 11 x b = iI (hr b)) (g2 : S.1 11 x e = iI (hr e)) :
    evSp G yX2_missAt M_X2_missAt (d + 1) [.ref (evad G 6 x), .int (nI b), .int (nI e), .int (nI p)] S (evQI fun r S' => r = iI (mss far low high hr b e p) ∧ S' = S) := by
  have h6 := g.2.1
  have vb : vp_in (nI b) 7 := vp_in_nI (by omega) (by omega)
  have ve : vp_in (nI e) 7 := vp_in_nI (by omega) (by omega)
  have vp : vp_in (nI p) 7 := vp_in_nI (by omega) (by omega)
  have e1 := evn_b g h1 h2 he hb hh
  have w := g.2.2.2.2 p hfp (Nat.le_trans h2 he)
  have l1 := lowM_b g (Nat.le_trans h1 h2) he (z := low p) (by omega)
  have l2 := lowM_b g (Nat.le_trans h1 h2) he (z := high p) (by omega)
  have fl := P.2.2.2 p hfp (by omega)
  refine vm_X2_missAt (vb_X2_missAt_0 hCl hV ⟨ve, vb, fun v3 h3 => ?_⟩)
  rw [nI_clamp (n := b) (by omega), nI_clamp (n := e) (by omega), P.2.2.1 b (by omega), P.2.2.1 e (by omega), iI_sub] at h3
  refine (c_evenHour hCl hV (by omega) (by omega) (by omega) (P.2.2.1 b (by omega)) (P.2.2.1 e (by omega)) (P.2.2.1 p (by omega)) g1 g2).mI ?_
  rintro r4 S5 ⟨rfl, rfl⟩
  rw [nI_clamp (n := p) (by omega), fl.1, fl.2, h3, iI_mul, iI_mul, iI_sub, iI_sub, iI_le (rg_of l1 (by omega)) (rg_of e1 (by omega))]
  refine ⟨vp, fun hc => ⟨vp, ?_⟩, fun hc => ⟨vp, ?_, rfl⟩⟩
  · refine (c_max hCl).mI ?_
    rintro r8 S9 ⟨rfl, rfl⟩
    refine ⟨?_, rfl⟩
    rw [show mss far low high hr b e p = max 0 (evn far hr b e p - high p * (far e - far b)) from by unfold mss; rw [if_neg (by omega)], iI_0]
    by_cases hz : 0 < evn far hr b e p - high p * (far e - far b)
    · rw [if_pos ((iI_lt (rg_of (A := 0) (by omega) (by omega)) (rg_of (A := 14000000) (by omega) (by omega))).mpr hz), Int.max_eq_right (by omega)]
    · rw [if_neg (fun q => hz ((iI_lt (rg_of (A := 0) (by omega) (by omega)) (rg_of (A := 14000000) (by omega) (by omega))).mp q)), Int.max_eq_left (by omega)]
  · unfold mss
    rw [if_pos (by omega)]
theorem c_mostMissed_loop (hCl : evCl G) {x first last b e : Nat} {far low high hr : Nat → Int} (hV : (6, x) ∈ evKs G) (g : Geo first last far low high) (P : PlC S x first last far low high) (hfb : first ≤ b) (hbe : b < e) (he : e ≤ last) (hb : -100 ≤ hr b ∧ hr b ≤ 10200) (hh : -100 ≤ hr e ∧ hr e ≤ 10200) (g1 : S.1 11 x b = iI (hr b)) (g2 : S.1 11 x e = iI (hr e)) {q : Int32 → evS → Prop} :
    ∀ n w m, n < e - b → b ≤ w → w < e → 0 ≤ m → m ≤ 14000000 → q (nI (wst far low high hr b e n w m)) S → bk_X2_mostMissed_10 G (d + 1) (evQI q) x (nI b) (nI e) (nI w) (iI m) (nI (e - n)) S := by
  have h6 := g.2.1
  intro n
  induction n with
  | zero =>
    intro w m _ _ _ _ _ hq
    exact vb_X2_mostMissed_10 hCl hV ⟨fun _ => hq, fun h => absurd (nI_le (by omega) (by omega)) h⟩
  | succ n ih =>
    intro w m hn hw1 hw2 hm0 hm1 hq
    refine vb_X2_mostMissed_10 hCl hV ⟨fun h => absurd h (nI_ge (by omega) (by omega)), fun _ => ?_⟩
    have mb := mss_b g (b := b) (e := e) (p := e - (n + 1)) (by omega) (by omega) he (by omega) hb hh
    refine (c_missAt hCl hV g P (by omega) (by omega) he (by omega) hb hh g1 g2).mI ?_
    rintro r1 S2 ⟨rfl, rfl⟩
    refine (c_abs hCl).mI ?_
    rintro r3 S4 ⟨hr3, rfl⟩
    have hr4 : r3 = iI (iabs (mss far low high hr b e (e - (n + 1)))) := by
      rw [hr3, iI_0, iabs]
      by_cases hz : 0 ≤ mss far low high hr b e (e - (n + 1))
      · rw [if_pos ((iI_le (rg_of (A := 0) (by omega) (by omega)) (rg_of mb (by omega))).mpr hz), if_pos hz]
      · rw [if_neg (fun q => hz ((iI_le (rg_of (A := 0) (by omega) (by omega)) (rg_of mb (by omega))).mp q)), if_neg hz, iI_neg]
    have hab : 0 ≤ iabs (mss far low high hr b e (e - (n + 1))) ∧ iabs (mss far low high hr b e (e - (n + 1))) ≤ 14000000 := by
      unfold iabs
      split <;> omega
    have go : ∀ w' m', b ≤ w' → w' < e → 0 ≤ m' → m' ≤ 14000000 → q (nI (wst far low high hr b e n w' m')) S4 → bk_X2_mostMissed_43 G (d + 1) (evQI q) x (nI b) (nI e) (nI w') (iI m') (nI (e - (n + 1))) S4 := by
      intro w' m' a1 a2 a3 a4 a5
      refine vb_X2_mostMissed_43 hCl hV (fun v1 hv1 => ?_)
      rw [nI_1, show e - (n + 1) + 1 = e - n by omega] at hv1
      subst hv1
      exact ih w' m' (by omega) a1 a2 a3 a4 a5
    unfold wst at hq
    rw [hr4, iI_le (rg_of (A := 14000000) (by omega) (by omega)) (rg_of (A := 14000000) (by omega) (by omega))]
    refine ⟨fun hc => ?_, fun hc => ?_⟩
    · rw [if_neg (by omega)] at hq
      exact go w m hw1 hw2 hm0 hm1 hq
    · rw [if_pos (by omega)] at hq
      exact go _ _ (by omega) (by omega) hab.1 hab.2 hq
theorem c_mostMissed (hCl : evCl G) {x first last b e : Nat} {far low high hr : Nat → Int} (hV : (6, x) ∈ evKs G) (g : Geo first last far low high) (P : PlC S x first last far low high) (hfb : first ≤ b) (hbe : b < e) (he : e ≤ last) (hb : -100 ≤ hr b ∧ hr b ≤ 10200) (hh : -100 ≤ hr e ∧ hr e ≤ 10200) (g1 : S.1 11 x b = iI (hr b)) (g2 : S.1 11 x e = iI (hr e)) :
    evSp G yX2_mostMissed M_X2_mostMissed (d + 2) [.ref (evad G 6 x), .int (nI b), .int (nI e)] S (evQI fun r S' => r = nI (wrst far low high hr b e) ∧ S' = S) := by
  have h6 := g.2.1
  refine vm_X2_mostMissed (vb_X2_mostMissed_0 hCl hV (fun v1 hv1 => ?_))
  rw [nI_1] at hv1
  have h := c_mostMissed_loop (d := d) (q := fun r S' => r = nI (wrst far low high hr b e) ∧ S' = S) hCl hV g P hfb hbe he hb hh g1 g2 (e - (b + 1)) b 0 (by omega) (Nat.le_refl b) hbe (by omega) (by omega) ⟨rfl, rfl⟩
  rw [show e - (e - (b + 1)) = b + 1 by omega] at h
  subst hv1
  exact h
theorem c_nextEnd_loop (hCl : evCl G) {x first last : Nat} {mk : Nat → Int} (hV : (6, x) ∈ evKs G) (hl : last ≤ 6) (hL : S.1 6 x 1 = nI last) (hm : ∀ k, first < k → k < last → S.1 12 x k = iI (mk k)) (hr : ∀ k, first ≤ k → k ≤ last → rg (mk k)) {q : Int32 → evS → Prop} :
    ∀ n, n ≤ last → first < last - n → q (nI (nxe mk last n)) S → bk_X2_nextEnd_4 G d (evQI q) x (nI (last - n)) S := by
  intro n
  induction n with
  | zero =>
    intro _ _ hq
    refine vb_X2_nextEnd_4 hCl hV ⟨fun _ => by rw [hL]; exact hq, fun h => absurd (by rw [hL]; exact nI_le (by omega) (by omega)) h⟩
  | succ n ih =>
    intro h1 h2 hq
    refine vb_X2_nextEnd_4 hCl hV ⟨fun h => absurd h (by rw [hL]; exact nI_ge (by omega) (by omega)), fun _ => ⟨vp_in_nI (by omega) (by omega), ?_⟩⟩
    rw [nI_clamp (by omega), hm _ h2 (by omega), iI_0, iI_eq (hr _ (by omega) (by omega)) (rg_of (A := 0) (by omega) (by omega))]
    unfold nxe at hq
    refine ⟨fun hz v2 hv2 => ?_, fun hz => ?_⟩
    · rw [if_pos hz] at hq
      rw [nI_1, show last - (n + 1) + 1 = last - n by omega] at hv2
      subst hv2
      exact ih (by omega) (by omega) hq
    · rw [if_neg hz] at hq
      exact hq
theorem c_nextEnd (hCl : evCl G) {x first last b : Nat} {mk : Nat → Int} (hV : (6, x) ∈ evKs G) (hl : last ≤ 6) (hb : b < last) (hfb : first ≤ b) (hL : S.1 6 x 1 = nI last) (hm : ∀ k, first < k → k < last → S.1 12 x k = iI (mk k)) (hr : ∀ k, first ≤ k → k ≤ last → rg (mk k)) :
    evSp G yX2_nextEnd M_X2_nextEnd d [.ref (evad G 6 x), .int (nI b)] S (evQI fun r S' => r = nI (nxt mk last b) ∧ S' = S) := by
  refine vm_X2_nextEnd (vb_X2_nextEnd_0 hCl hV (fun v1 hv1 => ?_))
  rw [nI_1] at hv1
  have h := c_nextEnd_loop (G := G) (d := d) (q := fun r S' => r = nI (nxt mk last b) ∧ S' = S) hCl hV hl hL hm hr (last - (b + 1)) (by omega) (by omega) ⟨rfl, rfl⟩
  rw [show last - (last - (b + 1)) = b + 1 by omega] at h
  subst hv1
  exact h
end C5b
