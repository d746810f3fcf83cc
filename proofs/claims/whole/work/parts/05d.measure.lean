/-! CONTRACTS: Plan.measureStretches -/
def evBc (S S' : evS) (P : Nat → Nat → Nat → Prop) : Prop := (∀ a b c, ¬ P a b c → S'.1 a b c = S.1 a b c) ∧ S'.2 = S.2
theorem evBc.rf {S : evS} {P : Nat → Nat → Nat → Prop} : evBc S S P := ⟨fun _ _ _ _ => rfl, rfl⟩
theorem evBc.tr {S S' S2 : evS} {P : Nat → Nat → Nat → Prop} (h : evBc S S' P) (h2 : evBc S' S2 P) : evBc S S2 P := ⟨fun a b c q => (h2.1 a b c q).trans (h.1 a b c q), h2.2.trans h.2⟩
theorem evBc.wk {S S' : evS} {P P' : Nat → Nat → Nat → Prop} (h : evBc S S' P) (hp : ∀ a b c, P a b c → P' a b c) : evBc S S' P' := ⟨fun a b c q => h.1 a b c (fun z => q (hp a b c z)), h.2⟩
theorem evup_c {S : evS} {kd x k a b c : Nat} {v : Int32} (h : ¬ (a = kd ∧ b = x ∧ c = k)) : (evup S kd x k v).1 a b c = S.1 a b c := by simp only [evup]; rw [if_neg h]
theorem evBc.up {S : evS} {kd x k : Nat} {v : Int32} : evBc S (evup S kd x k v) (fun a b c => a = kd ∧ b = x ∧ c = k) := ⟨fun _ _ _ q => evup_c q, rfl⟩
theorem evBc.upw {S : evS} {kd x k : Nat} {v : Int32} {P : Nat → Nat → Nat → Prop} (h : P kd x k) : evBc S (evup S kd x k v) P := evBc.up.wk (by rintro a b c ⟨rfl, rfl, rfl⟩; exact h)
def prv (mk : Nat → Int) : Nat → Nat
  | 0 => 0
  | n + 1 => if mk (n + 1) = 0 then prv mk n else n + 1
def mea (far : Nat → Int) (last : Nat) (mk hr : Nat → Int) : Nat → Nat → Int → Int → Int → Int × Int × Int
  | 0, _, nd, ok, cn => (nd, ok, cn)
  | f + 1, b, nd, ok, cn => if b < last then
      (if 0 < hr (nxt mk last b) - hr b then mea far last mk hr f (nxt mk last b) (max nd ((far (nxt mk last b) - far b + (hr (nxt mk last b) - hr b) - 1).tdiv (hr (nxt mk last b) - hr b))) ok (cn + 1)
       else mea far last mk hr f (nxt mk last b) nd 0 (cn + 1))
    else (nd, ok, cn)
theorem nxe_un {mk : Nat → Int} {last : Nat} : ∀ n k, n ≤ last → last - n ≤ k → k < nxe mk last n → mk k = 0 := by
  intro n
  induction n with
  | zero => intro k _ h1 h2; unfold nxe at h2; omega
  | succ n ih =>
    intro k hn h1 h2
    unfold nxe at h2
    split at h2
    · rename_i hz
      by_cases e : k = last - (n + 1)
      · rw [e]; exact hz
      · exact ih k (by omega) (by omega) h2
    · omega
theorem nxt_un {mk : Nat → Int} {last b k : Nat} (hb : b < last) (h1 : b < k) (h2 : k < nxt mk last b) : mk k = 0 := nxe_un (last - (b + 1)) k (by omega) (by omega) h2
theorem nxe_same {mk : Nat → Int} {last : Nat} : ∀ n m, m ≤ n → n ≤ last → last - m ≤ nxe mk last n → nxe mk last m = nxe mk last n := by
  intro n
  induction n with
  | zero => intro m hm _ _; rw [Nat.le_zero.mp hm]
  | succ n ih =>
    intro m hm hn h
    by_cases e : m = n + 1
    · rw [e]
    · by_cases hz : mk (last - (n + 1)) = 0
      · have e2 : nxe mk last (n + 1) = nxe mk last n := by
          conv => lhs; unfold nxe
          rw [if_pos hz]
        rw [e2] at h ⊢
        exact ih m (by omega) (by omega) h
      · have e2 : nxe mk last (n + 1) = last - (n + 1) := by
          conv => lhs; unfold nxe
          rw [if_neg hz]
        rw [e2] at h
        omega
theorem nxt_same {mk : Nat → Int} {last b k : Nat} (hb : b < last) (h1 : b ≤ k) (h2 : k < nxt mk last b) : nxt mk last k = nxt mk last b := nxe_same _ _ (by omega) (by omega) (by unfold nxt at h2; omega)
theorem prv_eq {mk : Nat → Int} {b : Nat} (hb : b = 0 ∨ mk b ≠ 0) : ∀ n, (∀ k, b < k → k ≤ b + n → mk k = 0) → prv mk (b + n) = b := by
  intro n
  induction n with
  | zero =>
    intro _
    cases b with
    | zero => rfl
    | succ b => simp only [Nat.add_zero]; unfold prv; rw [if_neg (hb.resolve_left (by omega))]
  | succ n ih =>
    intro h
    rw [show b + (n + 1) = b + n + 1 by omega]
    unfold prv
    rw [if_pos (h _ (by omega) (by omega))]
    exact ih (fun k a1 a2 => h k a1 (by omega))
theorem prv_st {mk : Nat → Int} {last b k : Nat} (hb : b < last) (hm : mk b ≠ 0) (h1 : b ≤ k) (h2 : k < nxt mk last b) : prv mk k = b := by
  have := prv_eq (b := b) (Or.inr hm) (k - b) (fun j a1 a2 => nxt_un hb a1 (by omega))
  rw [show b + (k - b) = k by omega] at this
  exact this
/-- what measureStretches writes -/
def ofMea (x : Nat) : Nat → Nat → Nat → Prop := fun a b c => b = x ∧ (a = 13 ∨ a = 14 ∨ (a = 6 ∧ (c = 11 ∨ c = 12)))
theorem PlC.bc {S S' : evS} {x first last : Nat} {far low high : Nat → Int} (h : PlC S x first last far low high) (hb : evBc S S' (ofMea x)) : PlC S' x first last far low high :=
  ⟨by rw [hb.1 6 x 0 (by rintro ⟨-, q | q | q⟩ <;> omega)]; exact h.1, by rw [hb.1 6 x 1 (by rintro ⟨-, q | q | q⟩ <;> omega)]; exact h.2.1, fun k hk => by rw [hb.1 7 x k (by rintro ⟨-, q | q | q⟩ <;> omega)]; exact h.2.2.1 k hk,
    fun k h1 h2 => ⟨by rw [hb.1 9 x k (by rintro ⟨-, q | q | q⟩ <;> omega)]; exact (h.2.2.2 k h1 h2).1, by rw [hb.1 10 x k (by rintro ⟨-, q | q | q⟩ <;> omega)]; exact (h.2.2.2 k h1 h2).2⟩⟩
theorem PlM.bc {S S' : evS} {x first last : Nat} {mk hr : Nat → Int} (h : PlM S x first last mk hr) (hb : evBc S S' (ofMea x)) : PlM S' x first last mk hr := fun k h1 h2 =>
  ⟨fun z1 z2 => by rw [hb.1 12 x k (by rintro ⟨-, q | q | q⟩ <;> omega)]; exact (h k h1 h2).1 z1 z2, fun z => by rw [hb.1 11 x k (by rintro ⟨-, q | q | q⟩ <;> omega)]; exact (h k h1 h2).2 z⟩
def PlS (S : evS) (x first upto last : Nat) (mk : Nat → Int) : Prop := ∀ k, first ≤ k → k < upto → S.1 13 x k = nI (prv mk k) ∧ S.1 14 x k = nI (nxt mk last k)
theorem tdiv_ceil {m s : Int} (hm : 1 ≤ m) (hs : 0 < s) : 1 ≤ (m + s - 1).tdiv s ∧ (m + s - 1).tdiv s ≤ m := by
  rw [Int.tdiv_eq_ediv_of_nonneg (by omega)]
  refine ⟨?_, ?_⟩
  · exact (Int.le_ediv_iff_mul_le hs).mpr (by omega)
  · have h : (m + s - 1) / s < m + 1 := (Int.ediv_lt_iff_lt_mul hs).mpr (by
      have h1 : 0 ≤ m * (s - 1) := Int.mul_nonneg (by omega) (by omega)
      have h2 : m * (s - 1) = m * s - m := by rw [Int.mul_sub, Int.mul_one]
      rw [Int.add_mul]
      omega)
    omega
section C5d
variable {G : evG} {d : Nat}
theorem c_mea_in (hCl : evCl G) {x b e : Nat} (hV : (6, x) ∈ evKs G) (he : e ≤ 6) (S1 : evS) {q : evS → Prop} {l1 l3 : Int32}
    (hk : ∀ S' : evS, (∀ j, b ≤ j → j < e → S'.1 13 x j = nI b ∧ S'.1 14 x j = nI e) → evBc S1 S' (fun a y c => y = x ∧ (a = 13 ∨ a = 14) ∧ b ≤ c ∧ c < e) → bk_X2_measureStretches_43 G d (evQV q) x l1 (nI b) l3 (nI e) (nI e) S') :
    ∀ n k (S : evS), k + n = e → b ≤ k → (∀ j, b ≤ j → j < k → S.1 13 x j = nI b ∧ S.1 14 x j = nI e) → evBc S1 S (fun a y c => y = x ∧ (a = 13 ∨ a = 14) ∧ b ≤ c ∧ c < e) → bk_X2_measureStretches_43 G d (evQV q) x l1 (nI b) l3 (nI e) (nI k) S := by
  intro n
  induction n with
  | zero =>
    intro k S h1 _ h2 h3
    have : k = e := by omega
    subst this
    exact hk S h2 h3
  | succ n ih =>
    intro k S h1 hbk h2 h3
    refine vb_X2_measureStretches_43 hCl hV ⟨fun h => absurd h (nI_ge (by omega) (by omega)), fun _ => ⟨vp_in_nI (by omega) (by omega), fun S12 e12 => ⟨vp_in_nI (by omega) (by omega), fun S14 e14 v15 hv15 => ?_⟩⟩⟩
    rw [nI_1] at hv15
    rw [nI_clamp (by omega)] at e12 e14
    subst hv15 e14 e12
    refine ih (k + 1) _ (by omega) (by omega) (fun j a1 a2 => ?_) ((h3.tr (evBc.upw ⟨rfl, Or.inl rfl, hbk, by omega⟩)).tr (evBc.upw ⟨rfl, Or.inr rfl, hbk, by omega⟩))
    by_cases hj : j = k
    · subst hj
      rw [evup_at, evup_c (by rintro ⟨y, -⟩; cases y), evup_at]
      exact ⟨rfl, rfl⟩
    · rw [evup_c (by rintro ⟨y, -⟩; cases y), evup_c (by rintro ⟨-, -, y⟩; exact hj y), evup_c (by rintro ⟨-, -, y⟩; exact hj y), evup_c (by rintro ⟨y, -⟩; cases y)]
      exact h2 j a1 (by omega)
theorem c_mea_loop (hCl : evCl G) {x first last : Nat} {far low high mk hr : Nat → Int} (hV : (6, x) ∈ evKs G) (g : Geo first last far low high) (hMo : Mok first last mk hr) (S0 : evS) {q : evS → Prop} :
    ∀ f b nd ok cn (S : evS), f ≤ 7 → first ≤ b → b ≤ last → last < b + f → mk b ≠ 0 → 0 ≤ nd ∧ nd ≤ 594 → (ok = 0 ∨ ok = 1) → PlC S x first last far low high → PlM S x first last mk hr → PlS S x first b last mk → S.1 6 x 11 = iI cn → S.1 6 x 12 = iI nd → evBc S0 S (ofMea x) →
      (∀ S' : evS, evBc S0 S' (ofMea x) → PlC S' x first last far low high → PlM S' x first last mk hr → PlS S' x first last last mk → S'.1 6 x 11 = iI (mea far last mk hr f b nd ok cn).2.2 → S'.1 6 x 12 = iI (if (mea far last mk hr f b nd ok cn).2.1 = 0 then 0 else (mea far last mk hr f b nd ok cn).1) → q S') → bk_X2_measureStretches_19 G (d + 1) (evQV q) x (iI ok) (nI b) (nI (7 - f)) S := by
  have h6 := g.2.1
  intro f
  induction f with
  | zero => intro b nd ok cn S _ _ h1 h2; omega
  | succ f ih =>
    intro b nd ok cn S hf hfb hbl hlf hmb hnd hok hC hM hS hcn hn hB hq
    refine vb_X2_measureStretches_19 hCl hV ⟨fun h => absurd h (nI_ge (b := 7) (by omega) (by omega)), fun _ => ⟨fun h => ?_, fun h => ?_⟩⟩
    · rw [hC.2.1] at h
      have hge : ¬ b < last := fun z => absurd h (nI_ge z (by omega))
      have e : mea far last mk hr (f + 1) b nd ok cn = (nd, ok, cn) := by unfold mea; rw [if_neg hge]
      rw [e] at hq
      have hbl2 : b = last := by omega
      subst hbl2
      refine vb_X2_measureStretches_155 hCl hV ⟨fun hz => ?_, fun hz S1 e1 => ?_⟩
      · rw [iI_0, iI_eq (rg_of (A := 1) (by omega) (by omega)) (rg_of (A := 0) (by omega) (by omega))] at hz
        exact hq S hB hC hM hS hcn (by rw [if_neg hz]; exact hn)
      · rw [iI_0, iI_eq (rg_of (A := 1) (by omega) (by omega)) (rg_of (A := 0) (by omega) (by omega))] at hz
        subst e1
        have hb1 : evBc S (evup S 6 x 12 0) (ofMea x) := evBc.upw ⟨rfl, Or.inr (Or.inr ⟨rfl, Or.inr rfl⟩)⟩
        refine hq _ (hB.tr hb1) (hC.bc hb1) (hM.bc hb1) (fun k a1 a2 => ?_) ?_ ?_
        · rw [evup_c (by rintro ⟨y, -⟩; cases y), evup_c (by rintro ⟨y, -⟩; cases y)]; exact hS k a1 a2
        · rw [evup_o (by decide)]; exact hcn
        · rw [evup_at, if_pos hz]; rfl
    · have hlt : b < last := by
        rcases Nat.lt_or_ge b last with z | z
        · exact z
        · exact absurd (by rw [hC.2.1]; exact nI_le z (by omega)) h
      have ne := nxt_in (mk := mk) hlt
      have nm := nxt_mk (mk := mk) (last := last) (b := b) hMo.2.2.1
      have hbb := hMo.2.1 b hfb hbl hmb
      have hbe := hMo.2.1 (nxt mk last b) (by omega) ne.2 nm
      have fb := far_be g (b := b) (e := nxt mk last b) (by omega) ne.2
      refine (c_nextEnd hCl hV h6 hlt hfb hC.2.1 (fun k a1 a2 => (hM k (Nat.le_of_lt a1) (Nat.le_of_lt a2)).1 a1 a2) (fun k a1 a2 => rg_of (A := 3) (by have := hMo.1 k a1 a2; omega) (by omega))).mI ?_
      rintro r1 S2 ⟨rfl, rfl⟩
      refine c_mea_in hCl hV (by omega) S2 ?_ (nxt mk last b - b) b S2 (by omega) (Nat.le_refl b) (fun j a1 a2 => absurd a2 (by omega)) evBc.rf
      intro S' hs hb'
      have hbM : evBc S2 S' (ofMea x) := hb'.wk (fun a y c z => ⟨z.1, z.2.1.elim Or.inl (fun w => Or.inr (Or.inl w))⟩)
      have hC' := hC.bc hbM
      have hM' := hM.bc hbM
      have hS' : PlS S' x first (nxt mk last b) last mk := by
        intro k a1 a2
        by_cases hk : b ≤ k
        · rw [prv_st hlt hmb hk a2, nxt_same hlt hk a2]
          exact hs k hk a2
        · rw [hb'.1 13 x k (by rintro ⟨-, -, z⟩; omega), hb'.1 14 x k (by rintro ⟨-, -, z⟩; omega)]
          exact hS k a1 (by omega)
      have hcn' : S'.1 6 x 11 = iI cn := by rw [hb'.1 6 x 11 (by rintro ⟨-, z | z, -⟩ <;> cases z)]; exact hcn
      have hn' : S'.1 6 x 12 = iI nd := by rw [hb'.1 6 x 12 (by rintro ⟨-, z | z, -⟩ <;> cases z)]; exact hn
      have go : ∀ nd' ok' (T : evS), 0 ≤ nd' ∧ nd' ≤ 594 → (ok' = 0 ∨ ok' = 1) → PlC T x first last far low high → PlM T x first last mk hr → PlS T x first (nxt mk last b) last mk → T.1 6 x 11 = iI cn → T.1 6 x 12 = iI nd' → evBc S0 T (ofMea x) →
          mea far last mk hr (f + 1) b nd ok cn = mea far last mk hr f (nxt mk last b) nd' ok' (cn + 1) → bk_X2_measureStretches_136 G (d + 1) (evQV q) x (iI ok') (nI (7 - (f + 1))) (nI (nxt mk last b)) T := by
        intro nd' ok' T a1 a2 a3 a4 a5 a6 a7 a8 e
        refine vb_X2_measureStretches_136 hCl hV (fun S1 e1 v2 hv2 => ?_)
        rw [nI_1, show 7 - (f + 1) + 1 = 7 - f by omega] at hv2
        rw [a6, iI_1, iI_add] at e1
        subst hv2 e1
        have hb1 : evBc T (evup T 6 x 11 (iI (cn + 1))) (ofMea x) := evBc.upw ⟨rfl, Or.inr (Or.inr ⟨rfl, Or.inl rfl⟩)⟩
        refine ih (nxt mk last b) nd' ok' (cn + 1) _ (by omega) (by omega) ne.2 (by omega) nm a1 a2 (a3.bc hb1) (a4.bc hb1) (fun k c1 c2 => ?_) (by rw [evup_at]) (by rw [evup_o (by decide)]; exact a7) (a8.tr hb1) ?_
        · rw [evup_c (by rintro ⟨y, -⟩; cases y), evup_c (by rintro ⟨y, -⟩; cases y)]; exact a5 k c1 c2
        · rw [← e]; exact hq
      refine vb_X2_measureStretches_43 hCl hV ⟨fun _ => ⟨vp_in_nI (by omega) (by omega), vp_in_nI (by omega) (by omega), fun v3 h3 => ?_⟩, fun h => absurd (nI_le (Nat.le_refl _) (by omega)) h⟩
      rw [nI_clamp (by omega), nI_clamp (by omega), (hM' (nxt mk last b) (by omega) ne.2).2 nm, (hM' b hfb hbl).2 hmb, iI_sub] at h3
      subst h3
      rw [iI_0, iI_le (rg_of (A := 11000) (by omega) (by omega)) (rg_of (A := 0) (by omega) (by omega)), iI_eq (rg_of (A := 11000) (by omega) (by omega)) (rg_of (A := 0) (by omega) (by omega))]
      refine ⟨fun hz => ?_, fun hz => ⟨vp_in_nI (by omega) (by omega), vp_in_nI (by omega) (by omega), fun v6 h6' => ⟨by omega, ?_⟩⟩⟩
      · refine go nd 0 S' hnd (Or.inl rfl) hC' hM' hS' hcn' hn' (hB.tr hbM) ?_
        conv => lhs; unfold mea
        rw [if_pos hlt, if_neg (by omega)]
      · rw [nI_clamp (by omega), nI_clamp (by omega), hC'.2.2.1 _ ne.2, hC'.2.2.1 b hbl, iI_sub] at h6'
        have td := tdiv_ceil (m := far (nxt mk last b) - far b) (s := hr (nxt mk last b) - hr b) (by omega) (by omega)
        rw [h6', hn', iI_add, iI_1, iI_sub, iI_div (rg_of (A := 12000) (by omega) (by omega)) (rg_of (A := 11000) (by omega) (by omega))]
        refine (c_max hCl).mI ?_
        rintro r8 S9 ⟨hr8, rfl⟩ S10 e10
        have hr9 : r8 = iI (max nd ((far (nxt mk last b) - far b + (hr (nxt mk last b) - hr b) - 1).tdiv (hr (nxt mk last b) - hr b))) := by
          rw [hr8]
          by_cases hz2 : nd < (far (nxt mk last b) - far b + (hr (nxt mk last b) - hr b) - 1).tdiv (hr (nxt mk last b) - hr b)
          · rw [if_pos ((iI_lt (rg_of (A := 594) (by omega) (by omega)) (rg_of (A := 594) (by omega) (by omega))).mpr hz2), Int.max_eq_right (by omega)]
          · rw [if_neg (fun q => hz2 ((iI_lt (rg_of (A := 594) (by omega) (by omega)) (rg_of (A := 594) (by omega) (by omega))).mp q)), Int.max_eq_left (by omega)]
        subst e10
        have hb1 : evBc S9 (evup S9 6 x 12 r8) (ofMea x) := evBc.upw ⟨rfl, Or.inr (Or.inr ⟨rfl, Or.inr rfl⟩)⟩
        refine go (max nd ((far (nxt mk last b) - far b + (hr (nxt mk last b) - hr b) - 1).tdiv (hr (nxt mk last b) - hr b))) ok _ (by omega) hok (hC'.bc hb1) (hM'.bc hb1) (fun k c1 c2 => ?_) (by rw [evup_o (by decide)]; exact hcn') (by rw [evup_at]; exact hr9) ((hB.tr hbM).tr hb1) ?_
        · rw [evup_c (by rintro ⟨y, -⟩; cases y), evup_c (by rintro ⟨y, -⟩; cases y)]; exact hS' k c1 c2
        · conv => lhs; unfold mea
          rw [if_pos hlt, if_pos (by omega)]
theorem c_measure (hCl : evCl G) {x first last : Nat} {far low high mk hr : Nat → Int} {S : evS} (hV : (6, x) ∈ evKs G) (g : Geo first last far low high) (hMo : Mok first last mk hr) (hC : PlC S x first last far low high) (hM : PlM S x first last mk hr) :
    evSp G yX2_measureStretches M_X2_measureStretches (d + 2) [.ref (evad G 6 x)] S (evQV fun S' => evBc S S' (ofMea x) ∧ PlC S' x first last far low high ∧ PlM S' x first last mk hr ∧ PlS S' x first last last mk ∧ S'.1 6 x 11 = iI (mea far last mk hr 7 first 0 1 0).2.2 ∧ S'.1 6 x 12 = iI (if (mea far last mk hr 7 first 0 1 0).2.1 = 0 then 0 else (mea far last mk hr 7 first 0 1 0).1)) := by
  refine vm_X2_measureStretches (vb_X2_measureStretches_0 hCl hV (fun S1 e1 S2 e2 v3 h3 => ?_))
  subst e2 e1
  have hb : evBc S (evup (evup S 6 x 11 0) 6 x 12 0) (ofMea x) := (evBc.upw ⟨rfl, Or.inr (Or.inr ⟨rfl, Or.inl rfl⟩)⟩).tr (evBc.upw ⟨rfl, Or.inr (Or.inr ⟨rfl, Or.inr rfl⟩)⟩)
  rw [(hC.bc hb).1] at h3
  subst h3
  exact c_mea_loop hCl hV g hMo S 7 first 0 1 0 _ (by omega) (Nat.le_refl _) g.1 (by have := g.2.1; omega) hMo.2.2.2 (by omega) (Or.inr rfl) (hC.bc hb) (hM.bc hb) (fun k a1 a2 => absurd a2 (by omega)) (by rw [evup_o (by decide), evup_at]; rfl) (by rw [evup_at]; rfl) hb (fun S' a1 a2 a3 a4 a5 a6 => ⟨a1, a2, a3, a4, a5, a6⟩)
end C5d
