/-! THE REFERENCE'S CELLS of the same state -/
def RwF (S : evS) (a off : Nat) (F : Fl) : Prop := ∀ i k, i < 4 → k < 33 → S.1 a 0 (off + (33 * i + k)) = iI (F i k)
def RepM (A : Ab) (S : evS) : Prop := RwF S 31 0 A.1 ∧
  (S.1 30 0 2 = nI A.2.1.length ∧ ∀ j Q, A.2.1[j]? = some Q → RwF S 32 (132 * (A.2.1.length - 1 - j)) Q) ∧
  (∀ m, m < 2 → (A.2.2.1 m = none → S.1 35 0 m = 0) ∧ ∀ Q, A.2.2.1 m = some Q → S.1 35 0 m = 1 ∧ RwF S 34 (132 * m) Q) ∧
  (S.1 30 0 6 = nI A.2.2.2.1.length ∧ ∀ j t, A.2.2.2.1[j]? = some t → S.1 36 0 j = nI t) ∧
  (S.1 30 0 8 = nI A.2.2.2.2.length ∧ ∀ j p, A.2.2.2.2[j]? = some p → S.1 38 0 (2 * j) = iI p.1 ∧ S.1 38 0 (2 * j + 1) = iI p.2)
def RelM (a c : Nat) : Prop := a = 31 ∨ a = 32 ∨ a = 34 ∨ a = 35 ∨ a = 36 ∨ a = 38 ∨ (a = 30 ∧ (c = 2 ∨ c = 6 ∨ c = 8))
def FrM (S S' : evS) : Prop := ∀ a b c, a < 30 → S'.1 a b c = S.1 a b c
theorem FrM.rf {S : evS} : FrM S S := fun _ _ _ _ => rfl
theorem FrM.tr {S S' S2 : evS} (h : FrM S S') (h2 : FrM S' S2) : FrM S S2 := fun a b c q => (h2 a b c q).trans (h a b c q)
theorem FrM.up {S : evS} {kd x k : Nat} {v : Int32} (h : 30 ≤ kd) : FrM S (evup S kd x k v) := fun a b c q => evup_c (by rintro ⟨rfl, -⟩; omega)
theorem FrM.bm {S S' : evS} {P : Nat → Nat → Nat → Prop} (h : evBm S S' P) (hp : ∀ a b c, P a b c → 30 ≤ a) : FrM S S' := fun a b c q => h.1 a b c (fun z => by have := hp a b c z; omega)
theorem RwF.same {S S' : evS} {a off : Nat} {F : Fl} (h : RwF S a off F) (hs : ∀ i k, i < 4 → k < 33 → S'.1 a 0 (off + (33 * i + k)) = S.1 a 0 (off + (33 * i + k))) : RwF S' a off F := fun i k hi hk => by rw [hs i k hi hk]; exact h i k hi hk
theorem RepM.same {A : Ab} {S S' : evS} (h : RepM A S) (hs : ∀ a c, RelM a c → S'.1 a 0 c = S.1 a 0 c) : RepM A S' := by
  obtain ⟨h1, ⟨h2, h3⟩, h4, ⟨h5, h6⟩, h7, h8⟩ := h
  have r31 := fun c => hs 31 c (by unfold RelM; omega)
  have r32 := fun c => hs 32 c (by unfold RelM; omega)
  have r34 := fun c => hs 34 c (by unfold RelM; omega)
  have r35 := fun c => hs 35 c (by unfold RelM; omega)
  have r36 := fun c => hs 36 c (by unfold RelM; omega)
  have r38 := fun c => hs 38 c (by unfold RelM; omega)
  refine ⟨h1.same (fun _ _ _ _ => r31 _), ⟨by rw [hs 30 2 (by unfold RelM; omega)]; exact h2, fun j Q z => (h3 j Q z).same (fun _ _ _ _ => r32 _)⟩, fun m hm => ⟨fun z => by rw [r35]; exact (h4 m hm).1 z, fun Q z => ⟨by rw [r35]; exact ((h4 m hm).2 Q z).1, ((h4 m hm).2 Q z).2.same (fun _ _ _ _ => r34 _)⟩⟩, ⟨by rw [hs 30 6 (by unfold RelM; omega)]; exact h5, fun j t z => by rw [r36]; exact h6 j t z⟩, by rw [hs 30 8 (by unfold RelM; omega)]; exact h7, fun j p z => by rw [r38, r38]; exact h8 j p z⟩
theorem RepM.at {A : Ab} {S : evS} (h : RepM A S) {i k : Nat} (hi : i < 4) (hk : k < 33) : S.1 31 0 (33 * i + k) = iI (A.1 i k) := by
  have := h.1 i k hi hk
  rw [Nat.zero_add] at this
  exact this
theorem RepM.rd {A : Ab} {S : evS} (h : RepM A S) (w : WfA A) {i : Nat} (hi : i < 4) : RwD S i (A.1 i) 0 0 0 (nL (A.1 i)) := by
  have w1 := (w.1 i hi).1
  refine ⟨h.at hi (by omega), h.at hi (by omega), by rw [h.at hi (by omega), Int.sub_zero], fun k hk => ?_⟩
  have hk6 : k < 6 := by unfold nL at hk; omega
  refine ⟨h.at hi (by omega), h.at hi (by omega), ?_, ?_⟩
  · rw [h.at hi (by omega), if_neg (by omega), Int.add_zero]
  · rw [h.at hi (by omega), if_neg (by omega), Int.sub_zero]
theorem RepM.rt {A : Ab} {S : evS} (h : RepM A S) (w : WfA A) {i : Nat} (hi : i < 4) : RwT S i (A.1 i) (nL (A.1 i)) := by
  have w1 := (w.1 i hi).1
  refine ⟨h.at hi (by omega), fun n hn => h.at hi (by omega), fun k hk => ?_⟩
  have hk6 : k < 6 := by unfold nL at hk; omega
  exact h.at hi (by omega)
theorem RepM.lay {A : Ab} {S S' : evS} (h : RepM A S) (hb : evBm S S' ofLays) : RepM A S' ∧ FrM S S' :=
  ⟨h.same (fun a c z => hb.1 a 0 c (by unfold ofLays; unfold RelM at z; omega)), FrM.bm hb (by unfold ofLays; intro a b c z; omega)⟩
/-- a copied stretch of cells -/
def Cpy (S0 S : evS) (a off b off2 n : Nat) : Prop := (∀ j, j < n → S.1 a 0 (off + j) = S0.1 b 0 (off2 + j)) ∧ (∀ x y z, ¬ (x = a ∧ y = 0 ∧ off ≤ z ∧ z < off + n) → S.1 x y z = S0.1 x y z) ∧ S.2 = S0.2
theorem Cpy.z {S0 : evS} {a off b off2 : Nat} : Cpy S0 S0 a off b off2 0 := ⟨fun j hj => by omega, fun _ _ _ _ => rfl, rfl⟩
theorem Cpy.s {S0 S : evS} {a off b off2 n : Nat} (h : Cpy S0 S a off b off2 n) (hab : b ≠ a ∨ off ≤ off2) : Cpy S0 (evup S a 0 (off + n) (S.1 b 0 (off2 + n))) a off b off2 (n + 1) := by
  obtain ⟨h1, h2, h3⟩ := h
  refine ⟨fun j hj => ?_, fun x y z q => ?_, h3⟩
  · by_cases e : j = n
    · subst e
      rw [evup_at]
      exact h2 b 0 _ (by rintro ⟨rfl, -, z1, z2⟩; rcases hab with z | z; exact z rfl; omega)
    · rw [evup_o (by omega)]; exact h1 j (by omega)
  · rw [evup_c (by rintro ⟨z1, z2, z3⟩; exact q ⟨z1, z2, by omega, by omega⟩)]
    exact h2 x y z (by rintro ⟨z1, z2, z3, z4⟩; exact q ⟨z1, z2, z3, by omega⟩)
theorem RepM.setR {A : Ab} {S : evS} (h : RepM A S) {n j : Nat} (hn : n < 4) (hj : j < 33) {v : Int32} {z : Int} (hv : v = iI z) : RepM (updF A.1 n j z, A.2) (evup S 31 0 (33 * n + j) v) := by
  obtain ⟨h1, ⟨h2, h3⟩, h4, ⟨h5, h6⟩, h7, h8⟩ := h
  have oth : ∀ a b c, a ≠ 31 → (evup S 31 0 (33 * n + j) v).1 a b c = S.1 a b c := fun a b c y => evup_c (by rintro ⟨z, -⟩; exact y z)
  refine ⟨fun i k hi hk => ?_, ⟨by rw [oth 30 _ _ (by decide)]; exact h2, fun j Q z => (h3 j Q z).same (fun _ _ _ _ => oth 32 _ _ (by decide))⟩, fun m hm => ⟨fun z => by rw [oth 35 _ _ (by decide)]; exact (h4 m hm).1 z, fun Q z => ⟨by rw [oth 35 _ _ (by decide)]; exact ((h4 m hm).2 Q z).1, ((h4 m hm).2 Q z).2.same (fun _ _ _ _ => oth 34 _ _ (by decide))⟩⟩, ⟨by rw [oth 30 _ _ (by decide)]; exact h5, fun j t z => by rw [oth 36 _ _ (by decide)]; exact h6 j t z⟩, by rw [oth 30 _ _ (by decide)]; exact h7, fun j p z => by rw [oth 38 _ _ (by decide), oth 38 _ _ (by decide)]; exact h8 j p z⟩
  show (evup S 31 0 (33 * n + j) v).1 31 0 (0 + (33 * i + k)) = iI (updF A.1 n j z i k)
  by_cases e : i = n ∧ k = j
  · obtain ⟨rfl, rfl⟩ := e
    rw [Nat.zero_add, evup_at, hv]
    simp [updF]
  · rw [evup_o (by omega), show updF A.1 n j z i k = A.1 i k from by simp only [updF]; rw [if_neg e]]
    exact h1 i k hi hk
section C8a
variable {G : evG} {d : Nat} {S : evS}
theorem inc_n {n : Nat} {v : Int32} (h : v = nI n + 1) : v = nI (n + 1) := by rw [h, iI_n, iI_1, iI_add, iI_n]; rfl
theorem dec_n {n : Nat} {v : Int32} (h : v = nI (n + 1) - 1) : v = nI n := by rw [h, iI_n, iI_1, iI_sub, iI_n]; congr 1; omega
theorem mad_n {a b c : Nat} : (nI a * nI b) + nI c = nI (a * b + c) := by rw [iI_n, iI_n, iI_n, iI_n, iI_mul, iI_add]; rfl
theorem add_n {a b : Nat} : nI a + nI b = nI (a + b) := by rw [iI_n, iI_n, iI_n, iI_add]; rfl
theorem m_rem_copy (hCl : evCl G) (hV : (30, 0) ∈ evKs G) {u : Nat} (hu : u < 6) {S0 : evS} (h0 : S0.1 30 0 2 = nI u) {q : evS → Prop} (hq : ∀ S' : evS, Cpy S0 S' 32 (132 * u) 31 0 132 → q (evup S' 30 0 2 (nI (u + 1)))) :
    ∀ n k (S : evS), k + n = 132 → Cpy S0 S 32 (132 * u) 31 0 k → bk_X6_remembers_52 G d (evQV q) 0 (nI k) S := by
  intro n
  induction n with
  | zero =>
    intro k S hk c
    obtain rfl : k = 132 := by omega
    have e2 : S.1 30 0 2 = nI u := by rw [c.2.1 30 0 2 (by omega)]; exact h0
    refine vb_X6_remembers_52 hCl hV ⟨fun _ => ?_, fun z => absurd (by decide) z⟩
    rintro S1 rfl
    rw [e2, inc_n (n := u) rfl]
    exact hq S c
  | succ n ih =>
    intro k S hk c
    have e2 : S.1 30 0 2 = nI u := by rw [c.2.1 30 0 2 (by omega)]; exact h0
    refine vb_X6_remembers_52 hCl hV ⟨fun z => absurd z (nI_ge (b := 132) (by omega) (by omega)), fun _ => ⟨vp_in_nI (by omega) (by omega), ?_⟩⟩
    rw [e2, show (132 : Int32) = nI 132 from rfl, mad_n]
    refine ⟨vp_in_nI (by omega) (by omega), ?_⟩
    rw [nI_clamp (by omega), nI_clamp (by omega)]
    rintro S4 rfl v5 hv
    rw [inc_n hv]
    refine ih (k + 1) _ (by omega) ?_
    have := c.s (Or.inl (by decide))
    rw [Nat.zero_add] at this
    exact this
theorem m_rem_shift (hCl : evCl G) (hV : (30, 0) ∈ evKs G) {S0 : evS} (h0 : S0.1 30 0 2 = nI 6) {q : evS → Prop} (hq : ∀ S' : evS, Cpy S0 S' 32 0 32 132 660 → bk_X6_remembers_50 G d (evQV q) 0 (evup S' 30 0 2 (nI 5))) :
    ∀ n k (S : evS), k + n = 660 → Cpy S0 S 32 0 32 132 k → bk_X6_remembers_11 G d (evQV q) 0 (nI k) S := by
  intro n
  induction n with
  | zero =>
    intro k S hk c
    obtain rfl : k = 660 := by omega
    have e2 : S.1 30 0 2 = nI 6 := by rw [c.2.1 30 0 2 (by omega)]; exact h0
    refine vb_X6_remembers_11 hCl hV ⟨fun _ => ?_, fun z => absurd (by decide) z⟩
    rintro S1 rfl
    rw [e2, dec_n (n := 5) rfl]
    exact hq S c
  | succ n ih =>
    intro k S hk c
    refine vb_X6_remembers_11 hCl hV ⟨fun z => absurd z (nI_ge (b := 660) (by omega) (by omega)), fun _ => ?_⟩
    rw [show nI k + 132 = nI (132 + k) from by rw [show (132 : Int32) = nI 132 from rfl, add_n, Nat.add_comm]]
    refine ⟨vp_in_nI (by omega) (by omega), vp_in_nI (by omega) (by omega), ?_⟩
    rw [nI_clamp (by omega), nI_clamp (by omega)]
    rintro S4 rfl v5 hv
    rw [inc_n hv]
    refine ih (k + 1) _ (by omega) ?_
    have := c.s (Or.inr (by omega))
    rw [Nat.zero_add] at this
    exact this
def ofRem : Nat → Nat → Nat → Prop := fun a _ c => a = 32 ∨ (a = 30 ∧ c = 2)
theorem m_rem (hCl : evCl G) (hV : (30, 0) ∈ evKs G) {A : Ab} (h : RepM A S) (w : WfA A) : evSp G yX6_remembers M_X6_remembers (d + 1) [.ref (evad G 30 0)] S (evQV fun S' => RepM (A.1, pushP A.1 A.2.1, A.2.2) S' ∧ FrM S S' ∧ evBm S S' ofRem) := by
  obtain ⟨h1, ⟨h2, h3⟩, h4, ⟨h5, h6⟩, h7, h8⟩ := id h
  have hl := w.2.1.1
  have fin : ∀ S' : evS, evBm S S' ofRem → S'.1 30 0 2 = nI (pushP A.1 A.2.1).length → (∀ j Q, (pushP A.1 A.2.1)[j]? = some Q → RwF S' 32 (132 * ((pushP A.1 A.2.1).length - 1 - j)) Q) → RepM (A.1, pushP A.1 A.2.1, A.2.2) S' ∧ FrM S S' ∧ evBm S S' ofRem := by
    intro S' b e1 e2
    have oth : ∀ a b' c, a ≠ 32 → ¬ (a = 30 ∧ c = 2) → S'.1 a b' c = S.1 a b' c := fun a b' c z1 z2 => b.1 a b' c (by rintro (z | z); exact z1 z; exact z2 z)
    refine ⟨⟨h1.same (fun _ _ _ _ => oth 31 _ _ (by decide) (by omega)), ⟨e1, e2⟩, fun m hm => ⟨fun z => by rw [oth 35 _ _ (by decide) (by omega)]; exact (h4 m hm).1 z, fun Q z => ⟨by rw [oth 35 _ _ (by decide) (by omega)]; exact ((h4 m hm).2 Q z).1, ((h4 m hm).2 Q z).2.same (fun _ _ _ _ => oth 34 _ _ (by decide) (by omega))⟩⟩, ⟨by rw [oth 30 _ _ (by decide) (by omega)]; exact h5, fun j t z => by rw [oth 36 _ _ (by decide) (by omega)]; exact h6 j t z⟩, by rw [oth 30 _ _ (by decide) (by omega)]; exact h7, fun j p z => by rw [oth 38 _ _ (by decide) (by omega), oth 38 _ _ (by decide) (by omega)]; exact h8 j p z⟩, FrM.bm b (by unfold ofRem; intro a b c z; omega), b⟩
  have push0 : (pushP A.1 A.2.1)[0]? = some A.1 := rfl
  refine vm_X6_remembers (vb_X6_remembers_0 hCl hV ?_)
  rw [h2]
  refine ⟨fun hz => ?_, fun hz => ?_⟩
  · have hlt : A.2.1.length < 6 := by
      rcases Nat.lt_or_ge A.2.1.length 6 with z | z
      · exact z
      · exfalso; apply hz; rw [show A.2.1.length = 6 by omega]; rfl
    have hpl : (pushP A.1 A.2.1).length = A.2.1.length + 1 := by
      unfold pushP; rw [List.length_take, List.length_cons]; omega
    refine vb_X6_remembers_50 hCl hV (m_rem_copy hCl hV hlt h2 (fun S' c => ?_) 132 0 S (by omega) Cpy.z)
    refine fin _ ⟨fun a b c' z => ?_, fun a b c' _ => ?_⟩ ?_ (fun j Q hQ => ?_)
    · unfold ofRem at z
      rw [evup_c (by omega), c.2.1 a b c' (by omega)]
    · show S'.2 a b c' = S.2 a b c'
      rw [c.2.2]
    · rw [evup_at, hpl]
    · rw [hpl]
      intro i k hi hk
      rw [evup_c (by omega)]
      cases j with
      | zero =>
        have e : Q = A.1 := by rw [push0, Option.some.injEq] at hQ; exact hQ.symm
        rw [e, show A.2.1.length + 1 - 1 - 0 = A.2.1.length by omega, c.1 (33 * i + k) (by omega)]
        exact h1 i k hi hk
      | succ j =>
        have hQ' : A.2.1[j]? = some Q := by
          unfold pushP at hQ
          rw [List.getElem?_take] at hQ
          split at hQ
          · exact hQ
          · exact absurd hQ (by simp)
        have hj : j < A.2.1.length := (List.getElem?_eq_some_iff.mp hQ').1
        rw [c.2.1 _ _ _ (by omega), show A.2.1.length + 1 - 1 - (j + 1) = A.2.1.length - 1 - j by omega]
        exact h3 j Q hQ' i k hi hk
  · have hlen : A.2.1.length = 6 := by
      have z' : nI A.2.1.length = nI 6 := hz
      rw [iI_n, iI_n, iI_eq (rg_n (by omega)) (rg_n (by omega))] at z'
      omega
    have hpl : (pushP A.1 A.2.1).length = 6 := by
      unfold pushP; rw [List.length_take, List.length_cons]; omega
    rw [hlen] at h2
    refine m_rem_shift hCl hV h2 (fun S1 c1 => ?_) 660 0 S (by omega) Cpy.z
    refine vb_X6_remembers_50 hCl hV (m_rem_copy hCl hV (u := 5) (by omega) evup_at (fun S' c => ?_) 132 0 _ (by omega) Cpy.z)
    refine fin _ ⟨fun a b c' z => ?_, fun a b c' _ => ?_⟩ ?_ (fun j Q hQ => ?_)
    · unfold ofRem at z
      rw [evup_c (by omega), c.2.1 a b c' (by omega), evup_c (by omega), c1.2.1 a b c' (by omega)]
    · show S'.2 a b c' = S.2 a b c'
      rw [c.2.2]
      show S1.2 a b c' = S.2 a b c'
      rw [c1.2.2]
    · rw [evup_at, hpl]
    · rw [hpl]
      intro i k hi hk
      rw [evup_c (by omega)]
      cases j with
      | zero =>
        have e : Q = A.1 := by rw [push0, Option.some.injEq] at hQ; exact hQ.symm
        rw [e, show 6 - 1 - 0 = 5 by omega, c.1 (33 * i + k) (by omega), evup_c (by omega), c1.2.1 _ _ _ (by omega)]
        exact h1 i k hi hk
      | succ j =>
        have hj6 : j + 1 < 6 := by
          have := (List.getElem?_eq_some_iff.mp hQ).1
          omega
        have hQ' : A.2.1[j]? = some Q := by
          unfold pushP at hQ
          rw [List.getElem?_take, if_pos hj6] at hQ
          exact hQ
        have hh := h3 j Q hQ' i k hi hk
        rw [c.2.1 _ _ _ (by omega), evup_c (by omega), show 132 * (6 - 1 - (j + 1)) + (33 * i + k) = 0 + (132 * (4 - j) + (33 * i + k)) by omega, c1.1 _ (by omega), show 132 + (132 * (4 - j) + (33 * i + k)) = 132 * (A.2.1.length - 1 - j) + (33 * i + k) by omega]
        exact hh
end C8a
