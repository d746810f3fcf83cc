/-! the class's text -/
def txA (A : Ab) (j : Nat) : Nat := A.2.2.2.1.getD j 0
def lnA (A : Ab) : Nat := A.2.2.2.1.length
theorem txA_s {A : Ab} {j : Nat} (hj : j < lnA A) : A.2.2.2.1[j]? = some (txA A j) := by
  unfold txA lnA at *
  rw [List.getElem?_eq_getElem hj, List.getD_eq_getElem?_getD, List.getElem?_eq_getElem hj]
  rfl
theorem txA_b {A : Ab} (w : WfA A) {j : Nat} (hj : j < lnA A) : txA A j < 256 := by
  have := txA_s hj
  exact w.2.2.2.1.2 _ (List.mem_of_getElem? this)
theorem lnA_b {A : Ab} (w : WfA A) : lnA A ≤ 150 := w.2.2.2.1.1
theorem RepC.let {A : Ab} {S : evS} (h : RepC A S) {j : Nat} (hj : j < lnA A) : S.1 19 0 j = nI (txA A j) := h.2.2.2.1.2 j _ (txA_s hj)
theorem RepC.len {A : Ab} {S : evS} (h : RepC A S) : S.1 18 0 1 = nI (lnA A) := h.2.2.2.1.1
theorem RepC.tk {A : Ab} {S : evS} (h : RepC A S) {kd c : Nat} {v : Int32} (hk : (kd = 18 ∧ c ≠ 1) ∨ kd = 20) : RepC A (evup S kd 0 c v) ∧ FrC S (evup S kd 0 c v) :=
  ⟨h.same (fun x b y z => evup_c (by rintro ⟨z1, z2, z3⟩; unfold RelC at z; omega)), FrC.up (by omega)⟩
def TkC (A : Ab) (S : evS) (it g : Nat) (v : Nat → Int) (n : Nat) (fa ta : Bool) (D : Nat → Int) : Prop :=
  RepC A S ∧ S.1 18 0 2 = nI it ∧ (¬ it = 0 → S.1 18 0 3 = nI g ∧ ∀ j, j < g → S.1 20 0 j = iI (v j)) ∧ S.1 18 0 5 = nI n ∧ S.1 18 0 6 = (if fa = true then 1 else 0) ∧ S.1 18 0 7 = (if ta = true then 1 else 0) ∧ ShD S 36 D
section C9b
variable {G : evG} {d : Nat} {S : evS}
theorem c_isFigure (hCl : evCl G) {c : Nat} (hc : c < 256) : evSp G yX4_isFigure M_X4_isFigure d [.int (nI c)] S (evQI fun r S' => r = (if fig c then 1 else 0) ∧ S' = S) := by
  refine vm_X4_isFigure (vb_X4_isFigure_0 hCl ⟨fun z => ⟨?_, rfl⟩, fun z => ⟨fun y => ⟨?_, rfl⟩, fun y => ⟨?_, rfl⟩⟩⟩)
  · rw [if_neg (by intro f; exact absurd z (nI_nlt (b := 48) f.1 (by omega)))]
  · rw [if_neg (by intro f; exact absurd y (nI_nlt (a := 57) f.2 (by omega)))]
  · rw [if_pos ⟨by
      rcases Nat.lt_or_ge c 48 with f | f
      · exact absurd (nI_lt (b := 48) f (by omega)) z
      · exact f, by
      rcases Nat.lt_or_ge 57 c with f | f
      · exact absurd (nI_lt (a := 57) f (by omega)) y
      · exact f⟩]
theorem c_tokenEnd_loop (hCl : evCl G) (hV : (0, 0) ∈ evKs G) {A : Ab} (w : WfA A) (h : RepC A S) {q : Int32 → evS → Prop} :
    ∀ k e, e + k = lnA A → q (nI (fgE (txA A) (lnA A) k e)) S → bk_X4_tokenEnd_18 G d (evQI q) 0 (nI e) S := by
  have hl := lnA_b w
  intro k
  induction k with
  | zero =>
    intro e he hq
    obtain rfl : e = lnA A := by omega
    refine vb_X4_tokenEnd_18 hCl (k_text hCl hV) ⟨fun _ => ?_, fun z => absurd ?_ z⟩
    · rw [h.len]; exact hq
    · rw [h.len]; exact nI_le (Nat.le_refl _) (by omega)
  | succ k ih =>
    intro e he hq
    have hel : e < lnA A := by omega
    refine vb_X4_tokenEnd_18 hCl (k_text hCl hV) ⟨fun z => absurd z ?_, fun _ => ⟨vp_in_nI (by omega) (by omega), ?_⟩⟩
    · rw [h.len]; exact nI_ge (by omega) (by omega)
    · rw [nI_clamp (by omega), h.let hel]
      refine (c_isFigure hCl (txA_b w hel)).mI ?_
      rintro r2 S3 ⟨rfl, rfl⟩
      unfold fgE at hq
      by_cases hf : fig (txA A e)
      · rw [if_pos hf]
        rw [if_pos ⟨hel, hf⟩] at hq
        refine ⟨fun _ => ?_, fun z => absurd z (by decide)⟩
        intro v4 hv
        rw [inc_n hv]
        exact ih (e + 1) (by omega) hq
      · rw [if_neg hf]
        rw [if_neg (fun z => hf z.2)] at hq
        exact ⟨fun z => absurd rfl z, fun _ => hq⟩
theorem c_tokenEnd (hCl : evCl G) (hV : (0, 0) ∈ evKs G) {A : Ab} (w : WfA A) (h : RepC A S) {p : Nat} (hp : p < lnA A) : evSp G yX4_tokenEnd M_X4_tokenEnd (d + 1) [.ref (evad G 18 0), .int (nI p)] S (evQI fun r S' => r = nI (tkE (txA A) (lnA A) p) ∧ S' = S) := by
  have hl := lnA_b w
  refine vm_X4_tokenEnd (vb_X4_tokenEnd_0 hCl (k_text hCl hV) ⟨vp_in_nI (by omega) (by omega), ?_⟩)
  rw [nI_clamp (by omega), h.let hp]
  refine (c_isFigure hCl (txA_b w hp)).mI ?_
  rintro r2 S3 ⟨rfl, rfl⟩
  unfold tkE
  by_cases hf : fig (txA A p)
  · rw [if_pos hf, if_pos hf]
    exact ⟨fun _ => c_tokenEnd_loop hCl hV w h _ p (by omega) ⟨rfl, rfl⟩, fun z => absurd z (by decide)⟩
  · rw [if_neg hf, if_neg hf]
    exact ⟨fun z => absurd rfl z, fun _ => ⟨inc_n rfl, rfl⟩⟩
theorem c_numberAt_loop (hCl : evCl G) (hV : (0, 0) ∈ evKs G) {A : Ab} (w : WfA A) (h : RepC A S) {e : Nat} (he : e ≤ lnA A) {q : Int32 → evS → Prop} :
    ∀ k x a, x + k = e → 0 ≤ a → a ≤ 1000 → (∀ y, x ≤ y → y < e → fig (txA A y)) → q (iI (nuF (txA A) k x a)) S → bk_X4_numberAt_33 G d (evQI q) 0 (nI e) (iI a) (nI x) S := by
  have hl := lnA_b w
  intro k
  induction k with
  | zero =>
    intro x a hx a0 a1 _ hq
    obtain rfl : x = e := by omega
    exact vb_X4_numberAt_33 hCl (k_text hCl hV) ⟨fun _ => hq, fun z => absurd (nI_le (Nat.le_refl _) (by omega)) z⟩
  | succ k ih =>
    intro x a hx a0 a1 hf hq
    have hxl : x < lnA A := by omega
    have tb := txA_b w hxl
    refine vb_X4_numberAt_33 hCl (k_text hCl hV) ⟨fun z => absurd z (nI_ge (by omega) (by omega)), fun _ => ⟨vp_in_nI (by omega) (by omega), ?_⟩⟩
    rw [nI_clamp (by omega), h.let hxl, iI_n (txA A x), show (10 : Int32) = iI 10 from rfl, show (48 : Int32) = iI 48 from rfl, show (1000 : Int32) = iI 1000 from rfl, iI_mul, iI_add, iI_sub]
    refine (c_min hCl).mI ?_
    rintro r2 S3 ⟨rfl, rfl⟩
    rw [iI_min (rg_of (A := 1000) (by omega) (by omega)) (rg_of (A := 20000) (by omega) (by omega))]
    intro v4 hv
    rw [inc_n hv]
    have hx0 := hf x (Nat.le_refl _) (by omega)
    exact ih (x + 1) _ (by omega) (by omega) (by omega) (fun y y1 y2 => hf y (by omega) y2) hq
theorem c_numberAt (hCl : evCl G) (hV : (0, 0) ∈ evKs G) {A : Ab} (w : WfA A) (h : RepC A S) {p : Nat} (hp : p < lnA A) (hf : fig (txA A p)) : evSp G yX4_numberAt M_X4_numberAt (d + 2) [.ref (evad G 18 0), .int (nI p)] S (evQI fun r S' => r = iI (nuA (txA A) (lnA A) p) ∧ S' = S) := by
  have hl := lnA_b w
  have tb := tkE_b (tx := txA A) hp
  have xb := txA_b w hp
  refine vm_X4_numberAt (vb_X4_numberAt_0 hCl (k_text hCl hV) ((c_tokenEnd (d := d) hCl hV w h hp).mI ?_))
  rintro r1 S2 ⟨rfl, rfl⟩
  refine ⟨vp_in_nI (by omega) (by omega), ?_⟩
  rw [nI_clamp (by omega), h.let hp, show (48 : Int32) = nI 48 from rfl, nI_eqi (by omega) (by omega)]
  have go : ¬ (txA A p = 48 ∧ p + 1 < tkE (txA A) (lnA A) p) → bk_X4_numberAt_28 G (d + 1) (evQI fun r S' => r = iI (nuA (txA A) (lnA A) p) ∧ S' = S2) 0 (nI p) (nI (tkE (txA A) (lnA A) p)) S2 := by
    intro hz
    refine vb_X4_numberAt_28 hCl (k_text hCl hV) (c_numberAt_loop hCl hV w h tb.2 (tkE (txA A) (lnA A) p - p) p 0 (by omega) (by omega) (by omega) (fun y y1 y2 => ?_) ⟨?_, rfl⟩)
    · unfold tkE at y2
      rw [if_pos hf] at y2
      exact fgE_f (L := lnA A) _ p y y1 y2
    · unfold nuA
      rw [if_neg hz]
  refine ⟨fun z => go (fun y => z y.1), fun z => ⟨fun y => go (fun x => ?_), fun y => ⟨?_, rfl⟩⟩⟩
  · rw [inc_n (n := p) rfl] at y
    exact absurd y (nI_ge x.2 (by omega))
  · rw [inc_n (n := p) rfl] at y
    unfold nuA
    rw [if_pos ⟨z, by
      rcases Nat.lt_or_ge (p + 1) (tkE (txA A) (lnA A) p) with x | x
      · exact x
      · exact absurd (nI_le x (by omega)) y⟩]
    rfl
theorem c_least (hCl : evCl G) (hV : (0, 0) ∈ evKs G) {A : Ab} {it g n : Nat} {v D : Nat → Int} {fa ta : Bool} (h : TkC A S it g v n fa ta D) (hi : it = 108 ∨ it = 118 ∨ it = 102) (hg : g < 4) : evSp G yX4_least M_X4_least d [.ref (evad G 18 0)] S (evQI fun r S' => r = iI (lstN it g v) ∧ S' = S) := by
  obtain ⟨h1, h2, h3, h4, h5, h6, h7⟩ := h
  obtain ⟨h3, h3v⟩ := h3 (by omega)
  refine vm_X4_least (vb_X4_least_0 hCl (k_text hCl hV) ?_)
  rw [h2, h3]
  rcases hi with rfl | rfl | rfl
  · refine ⟨fun _ => ⟨fun z => absurd rfl z, fun _ => ⟨fun z => ⟨vp_in_nI hg (by omega), ?_, rfl⟩, fun z => ⟨?_, rfl⟩⟩⟩, fun z => absurd z (by decide)⟩
    · rw [nI_clamp (by omega)]
      have z' : ¬ g = 3 := fun e => z (by rw [e]; rfl)
      rcases (by omega : g = 0 ∨ g = 1 ∨ g = 2) with rfl | rfl | rfl
      · rfl
      · rfl
      · rfl
    · have z' : g = 3 := (nI_eqi (b := 3) (by omega) (by omega)).mp z
      subst z'
      rw [h3v 2 (by omega)]
      rfl
  · exact ⟨fun z => absurd rfl z, fun _ => ⟨rfl, rfl⟩⟩
  · refine ⟨fun _ => ⟨fun _ => ⟨fun z => ?_, fun z => ⟨?_, rfl⟩⟩, fun z => absurd z (by decide)⟩, fun z => absurd z (by decide)⟩
    · have z' : ¬ g = 0 := fun e => z (by rw [e]; rfl)
      obtain ⟨m, rfl⟩ : ∃ m, g = m + 1 := ⟨g - 1, by omega⟩
      rw [show nI (m + 1) - 1 = nI m from dec_n rfl]
      refine ⟨vp_in_nI (by omega) (by omega), ?_⟩
      rw [nI_clamp (by omega), h3v m (by omega)]
      rintro v2 rfl
      refine ⟨fun y => ?_, fun y => ?_⟩
      · have y' : ¬ m = 0 := fun e => y (by rw [e]; rfl)
        obtain ⟨l, rfl⟩ : ∃ l, m = l + 1 := ⟨m - 1, by omega⟩
        have e2 : nI (l + 1 + 1) - 2 = nI l := by rw [show (2 : Int32) = iI 2 from rfl, iI_n, iI_sub, iI_n]; congr 1; omega
        rw [e2]
        refine ⟨vp_in_nI (by omega) (by omega), ?_, rfl⟩
        rw [nI_clamp (by omega), h3v l (by omega), iI_add, iI_sub]
        rfl
      · have y' : m + 1 = 1 := (nI_eqi (b := 1) (by omega) (by omega)).mp y
        obtain rfl : m = 0 := by omega
        exact ⟨rfl, rfl⟩
    · have z' : g = 0 := (nI_eqi (b := 0) (by omega) (by omega)).mp z
      subst z'
      rfl
theorem c_greatest (hCl : evCl G) (hV : (0, 0) ∈ evKs G) {A : Ab} {it g n : Nat} {v D : Nat → Int} {fa ta : Bool} (h : TkC A S it g v n fa ta D) (hi : it = 108 ∨ it = 118 ∨ it = 102) (hg : g < 4) : evSp G yX4_greatest M_X4_greatest d [.ref (evad G 18 0)] S (evQI fun r S' => r = iI (mstN it g) ∧ S' = S) := by
  obtain ⟨h1, h2, h3, h4, h5, h6, h7⟩ := h
  obtain ⟨h3, h3v⟩ := h3 (by omega)
  refine vm_X4_greatest (vb_X4_greatest_0 hCl (k_text hCl hV) ?_)
  rw [h2, h3]
  rcases hi with rfl | rfl | rfl
  · refine ⟨fun _ => ⟨fun z => absurd rfl z, fun _ => ⟨vp_in_nI hg (by omega), ?_, rfl⟩⟩, fun z => absurd z (by decide)⟩
    rw [nI_clamp (by omega)]
    rcases (by omega : g = 0 ∨ g = 1 ∨ g = 2 ∨ g = 3) with rfl | rfl | rfl | rfl
    · rfl
    · rfl
    · rfl
    · rfl
  · exact ⟨fun z => absurd rfl z, fun _ => ⟨rfl, rfl⟩⟩
  · exact ⟨fun _ => ⟨fun _ => ⟨rfl, rfl⟩, fun z => absurd z (by decide)⟩, fun z => absurd z (by decide)⟩
theorem lstN_b {it g : Nat} {v D : Nat → Int} (h : InV it g v D) (hi : ¬ it = 0) : -3000 ≤ lstN it g v ∧ lstN it g v ≤ 3000 := by
  obtain ⟨a1, a2, a3, a4, a5⟩ := h
  unfold lstN
  split
  · omega
  · split
    · split
      · have := a5 2 (by omega); omega
      · split <;> omega
    · split
      · omega
      · split
        · have := a5 0 (by omega); omega
        · have := a5 (g - 1) (by omega)
          have := a5 (g - 2) (by omega)
          omega
theorem mstN_b {it g : Nat} : 9 ≤ mstN it g ∧ mstN it g ≤ 999 := by
  unfold mstN
  split
  · omega
  · split
    · split
      · omega
      · split <;> omega
    · omega
theorem c_takesNumber (hCl : evCl G) (hV : (0, 0) ∈ evKs G) {A : Ab} {it g n : Nat} {v D : Nat → Int} {fa ta : Bool} (h : TkC A S it g v n fa ta D) (hI : InV it g v D) (hi : ¬ it = 0) (hg : g < cnt it) {z : Int} (hz : 0 ≤ z ∧ z ≤ 1000) : evSp G yX4_takesNumber M_X4_takesNumber (d + 1) [.ref (evad G 18 0), .int (iI z)] S (evQI fun r S' => FrC S S' ∧ ((r = 0 ∧ RepC A S' ∧ ¬ (lstN it g v ≤ z ∧ z ≤ mstN it g)) ∨ (r = 1 ∧ (lstN it g v ≤ z ∧ z ≤ mstN it g) ∧ TkC A S' it (g + 1) (upI v g z) n fa ta D))) := by
  have hi3 : it = 108 ∨ it = 118 ∨ it = 102 := by have := hI.1; omega
  have hg4 : g < 4 := by have := cnt_le (it := it); omega
  have lb := lstN_b hI hi
  have mb := mstN_b (it := it) (g := g)
  obtain ⟨h1, h2, h3, h4, h5, h6, h7⟩ := id h
  obtain ⟨h3, h3v⟩ := h3 hi
  refine vm_X4_takesNumber (vb_X4_takesNumber_0 hCl (k_text hCl hV) ?_)
  rw [h3]
  refine ⟨fun z => absurd z (nI_pos (by omega)), fun _ => ⟨fun z => absurd z (nI_ge (b := 4) hg4 (by omega)), fun _ => (c_least hCl hV h hi3 hg4).mI ?_⟩⟩
  rintro r1 S2 ⟨rfl, rfl⟩
  rw [iI_lt (rg_of (A := 1000) (by omega) (by omega)) (rg_of (A := 3000) (by omega) (by omega))]
  refine ⟨fun y => ⟨FrC.rf, Or.inl ⟨rfl, h1, by omega⟩⟩, fun y => (c_greatest hCl hV h hi3 hg4).mI ?_⟩
  rintro r3 S4 ⟨rfl, rfl⟩
  rw [iI_le (rg_of (A := 1000) (by omega) (by omega)) (rg_of (A := 3000) (by omega) (by omega))]
  refine ⟨fun x => ?_, fun x => ⟨FrC.rf, Or.inl ⟨rfl, h1, by omega⟩⟩⟩
  rw [h3]
  refine ⟨vp_in_nI hg4 (by omega), ?_⟩
  rw [nI_clamp (by omega)]
  rintro S6 rfl S7 rfl
  rw [evup_c (by omega), h3, inc_n (n := g) rfl]
  have t1 := h1.tk (kd := 20) (c := g) (v := iI z) (Or.inr rfl)
  have t2 := t1.1.tk (kd := 18) (c := 3) (v := nI (g + 1)) (Or.inl ⟨rfl, by omega⟩)
  refine ⟨t1.2.tr t2.2, Or.inr ⟨rfl, ⟨by omega, x⟩, t2.1, ?_, fun _ => ⟨evup_at, fun j hj => ?_⟩, ?_, ?_, ?_, fun k hk => ?_⟩⟩
  · rw [evup_c (by omega), evup_c (by omega)]; exact h2
  · rw [evup_c (by omega)]
    by_cases e : j = g
    · subst e; rw [evup_at, upI_at]
    · rw [evup_o e, upI_o e]; exact h3v j (by omega)
  · rw [evup_c (by omega), evup_c (by omega)]; exact h4
  · rw [evup_c (by omega), evup_c (by omega)]; exact h5
  · rw [evup_c (by omega), evup_c (by omega)]; exact h6
  · rw [← h7 k hk]
    unfold shp
    rw [evup_c (by omega), evup_c (by omega), evup_c (by omega), evup_c (by omega)]
end C9b
