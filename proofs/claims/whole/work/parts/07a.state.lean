/-! THE STATE of both: ships now, ships before (latest first), images, the text, what was seen -/
abbrev Fl : Type := Nat → Nat → Int
abbrev Ab : Type := Fl × List Fl × (Nat → Option Fl) × List Nat × List (Int × Int)
def nF (D : Nat → Int) : Nat := (D 2).toNat
def nL (D : Nat → Int) : Nat := (D 0).toNat
def WfS (D : Nat → Int) : Prop := (0 ≤ D 2 ∧ D 2 ≤ D 0 ∧ D 0 ≤ 6) ∧ (1 ≤ D 1 ∧ D 1 ≤ 60) ∧ (0 ≤ D 3 ∧ D 3 ≤ 9999 ∧ D 7 ≤ D 8) ∧ WfT D ∧
  ∀ k, k < nL D → (1 ≤ D (9 + 4 * k) ∧ D (9 + 4 * k) ≤ 99) ∧ (0 ≤ D (9 + (4 * k + 1)) ∧ D (9 + (4 * k + 1)) ≤ 9) ∧ 0 ≤ D (9 + (4 * k + 2)) ∧ D (9 + (4 * k + 2)) ≤ D (9 + (4 * k + 3)) ∧ D (9 + (4 * k + 3)) ≤ 999
theorem WfS.p {D : Nat → Int} (h : WfS D) : WfP D (nF D) (nL D) := by
  obtain ⟨h1, h2, h3, h4, h5⟩ := h
  refine ⟨by unfold nF; omega, by unfold nL; omega, by unfold nF nL; omega, by unfold nL; omega, by omega, by omega, h2.1, h2.2, fun k hk => ?_⟩
  have := h5 k hk
  omega
def WfF (F : Fl) : Prop := ∀ i, i < 4 → WfS (F i)
def WfA (A : Ab) : Prop := WfF A.1 ∧ (A.2.1.length ≤ 6 ∧ ∀ Q ∈ A.2.1, WfF Q) ∧ (∀ m Q, A.2.2.1 m = some Q → WfF Q) ∧ (A.2.2.2.1.length ≤ 150 ∧ ∀ t ∈ A.2.2.2.1, t < 256) ∧ A.2.2.2.2.length ≤ 6 ∧ ∀ p ∈ A.2.2.2.2, (0 ≤ p.1 ∧ p.1 ≤ 999) ∧ 0 ≤ p.2 ∧ p.2 ≤ 999
/-- fleet f holds F -/
def FlC (S : evS) (f : Nat) (F : Fl) : Prop := ∀ i k, i < 4 → k < 33 → shp S (4 * f + i) k = iI (F i k)
def RepC (A : Ab) (S : evS) : Prop := FlC S 0 A.1 ∧
  (∃ nx, nx < 6 ∧ S.1 16 0 1 = nI nx ∧ S.1 16 0 2 = nI A.2.1.length ∧ ∀ j Q, A.2.1[j]? = some Q → FlC S (1 + (nx + 5 - j) % 6) Q) ∧
  (∀ m, m < 2 → (A.2.2.1 m = none → S.1 22 0 m = 0) ∧ ∀ Q, A.2.2.1 m = some Q → S.1 22 0 m = 1 ∧ FlC S (7 + m) Q) ∧
  (S.1 18 0 1 = nI A.2.2.2.1.length ∧ ∀ j t, A.2.2.2.1[j]? = some t → S.1 19 0 j = nI t) ∧
  (S.1 0 0 10 = nI A.2.2.2.2.length ∧ ∀ j p, A.2.2.2.2[j]? = some p → S.1 24 0 j = iI p.1 ∧ S.1 25 0 j = iI p.2)
def RelC (a b c : Nat) : Prop := (a = 0 ∧ c = 10) ∨ a = 16 ∨ (a = 18 ∧ c = 1) ∨ a = 19 ∨ a = 22 ∨ a = 24 ∨ a = 25 ∨ ((a = 4 ∨ a = 5) ∧ b < 36)
theorem FlC.same {S S' : evS} {f : Nat} {F : Fl} (h : FlC S f F) (hf : f < 9) (hs : ∀ a b c, (a = 4 ∨ a = 5) ∧ b < 36 → S'.1 a b c = S.1 a b c) : FlC S' f F := by
  intro i k hi hk
  rw [← h i k hi hk]
  unfold shp
  rw [hs 4 _ _ ⟨Or.inl rfl, by omega⟩, hs 5 _ _ ⟨Or.inr rfl, by omega⟩]
theorem RepC.same {A : Ab} {S S' : evS} (h : RepC A S) (hs : ∀ a b c, RelC a b c → S'.1 a b c = S.1 a b c) : RepC A S' := by
  obtain ⟨h1, ⟨nx, h2, h3, h4, h5⟩, h6, ⟨h7, h8⟩, h9, h10⟩ := h
  have hsh : ∀ a b c, (a = 4 ∨ a = 5) ∧ b < 36 → S'.1 a b c = S.1 a b c := fun a b c z => hs a b c (Or.inr (Or.inr (Or.inr (Or.inr (Or.inr (Or.inr (Or.inr z)))))))
  have r16 : ∀ b c, S'.1 16 b c = S.1 16 b c := fun b c => hs 16 b c (Or.inr (Or.inl rfl))
  refine ⟨h1.same (by omega) hsh, ⟨nx, h2, by rw [r16]; exact h3, by rw [r16]; exact h4, fun j Q hQ => (h5 j Q hQ).same (by omega) hsh⟩, fun m hm => ⟨fun z => ?_, fun Q z => ⟨?_, ((h6 m hm).2 Q z).2.same (by omega) hsh⟩⟩, ⟨?_, fun j t z => ?_⟩, ?_, fun j p z => ⟨?_, ?_⟩⟩
  · rw [hs 22 0 m (by unfold RelC; omega)]; exact (h6 m hm).1 z
  · rw [hs 22 0 m (by unfold RelC; omega)]; exact ((h6 m hm).2 Q z).1
  · rw [hs 18 0 1 (by unfold RelC; omega)]; exact h7
  · rw [hs 19 0 j (by unfold RelC; omega)]; exact h8 j t z
  · rw [hs 0 0 10 (by unfold RelC; omega)]; exact h9
  · rw [hs 24 0 j (by unfold RelC; omega)]; exact (h10 j p z).1
  · rw [hs 25 0 j (by unfold RelC; omega)]; exact (h10 j p z).2
/-- the class leaves the reference's cells -/
def FrC (S S' : evS) : Prop := (∀ a b c, 30 ≤ a → S'.1 a b c = S.1 a b c) ∧ S'.2 = S.2
theorem FrC.rf {S : evS} : FrC S S := ⟨fun _ _ _ _ => rfl, rfl⟩
theorem FrC.tr {S S' S2 : evS} (h : FrC S S') (h2 : FrC S' S2) : FrC S S2 := ⟨fun a b c q => (h2.1 a b c q).trans (h.1 a b c q), h2.2.trans h.2⟩
theorem FrC.up {S : evS} {kd x k : Nat} {v : Int32} (h : kd < 30) : FrC S (evup S kd x k v) := ⟨fun a b c q => evup_c (by rintro ⟨rfl, -⟩; omega), rfl⟩
theorem FrC.bc {S S' : evS} {P : Nat → Nat → Nat → Prop} (h : evBc S S' P) (hp : ∀ a b c, P a b c → a < 30) : FrC S S' := ⟨fun a b c q => h.1 a b c (fun z => by have := hp a b c z; omega), h.2⟩
theorem FrC.but {S S' : evS} {P : Nat → Nat → Prop} (h : evBut S S' P) (hp : ∀ a b, P a b → a < 30) : FrC S S' := ⟨fun a b c q => h.1 a b c (fun z => by have := hp a b z; omega), h.2⟩
def updF (F : Fl) (i k : Nat) (z : Int) : Fl := fun a b => if a = i ∧ b = k then z else F a b
theorem updF_i {F : Fl} {i k : Nat} {z : Int} : updF F i k z i = upI (F i) k z := by funext b; simp [updF, upI]
theorem updF_o {F : Fl} {i j k : Nat} {z : Int} (h : j ≠ i) : updF F i k z j = F j := by funext b; simp [updF, h]
def pushP (F : Fl) (P : List Fl) : List Fl := (F :: P).take 6
theorem ship_cases (i : Int32) : (i < 0 ∨ 3 < i) ∨ ∃ n : Nat, n < 4 ∧ i = nI n := by
  rcases pk_ix i (n := 4) (by omega) with h | h | h
  · exact Or.inl (Or.inl h)
  · refine Or.inl (Or.inr ?_)
    rw [Int32.lt_iff_toInt_lt]
    rw [Int32.le_iff_toInt_le] at h
    have e : (nI 4).toInt = 4 := by decide
    have e3 : (3 : Int32).toInt = 3 := by decide
    omega
  · exact Or.inr h
section C7a
variable {G : evG} {d : Nat} {S : evS}
theorem k_ship (hCl : evCl G) (hV : (0, 0) ∈ evKs G) {n : Nat} (hn : n < 4) : (3, n) ∈ evKs G := by
  have := ks_ship hCl (hCl.1 0 0 0 1 hV rfl) hn
  rw [show evX 0 0 0 = 0 from rfl, Nat.mul_zero, Nat.zero_add] at this
  exact this
theorem k_plan (hCl : evCl G) (hV : (0, 0) ∈ evKs G) {n : Nat} (hn : n < 4) : (6, n) ∈ evKs G := hCl.2 23 0 n (hCl.1 0 0 7 23 hV rfl) rfl hn
theorem c_noShip1 (hCl : evCl G) {i : Int32} (h : i < 0 ∨ 3 < i) : evSp G yX5_isNoShip M_X5_isNoShip d [.int i] S (evQI fun r S' => r = 1 ∧ S' = S) := by
  refine vm_X5_isNoShip (vb_X5_isNoShip_0 hCl ⟨fun _ => ⟨rfl, rfl⟩, fun h1 => ⟨fun h2 => ?_, fun _ => ⟨rfl, rfl⟩⟩⟩)
  rcases h with h | h
  · exact absurd h h1
  · rw [Int32.lt_iff_toInt_lt] at h h2
    have e : (4 : Int32).toInt = 4 := by decide
    have e3 : (3 : Int32).toInt = 3 := by decide
    omega
theorem c_noShip0 (hCl : evCl G) {n : Nat} (h : n < 4) : evSp G yX5_isNoShip M_X5_isNoShip d [.int (nI n)] S (evQI fun r S' => r = 0 ∧ S' = S) :=
  vm_X5_isNoShip (vb_X5_isNoShip_0 hCl ⟨fun h1 => absurd h1 (nI_pos (by omega)), fun _ => ⟨fun _ => ⟨rfl, rfl⟩, fun h2 => absurd (nI_lt (b := 4) h (by omega)) h2⟩⟩)
theorem FlC.sh {S : evS} {F : Fl} (h : FlC S 0 F) {n : Nat} (hn : n < 4) : ShD S n (F n) := by
  intro k hk
  have := h n k hn hk
  rw [Nat.mul_zero, Nat.zero_add] at this
  exact this
theorem c_drawnPlan (hCl : evCl G) (hV : (0, 0) ∈ evKs G) {n : Nat} {F : Fl} (hn : n < 4) (hF : FlC S 0 F) (w : WfF F) : evSp G yX5_drawnPlan M_X5_drawnPlan (d + 5) [.ref (evad G 0 0), .int (nI n)] S (evQR (evad G 6 n) fun S' => evBc S S' (ofPlan n) ∧ PlnR S' n (F n) (nF (F n)) (nL (F n))) := by
  refine vm_X5_drawnPlan (vb_X5_drawnPlan_0 hCl hV ?_)
  rw [nI_clamp (by omega)]
  refine ⟨vp_in_nI hn (by omega), vp_in_nI hn (by omega), (c_draw hCl (k_plan hCl hV hn) (k_ship hCl hV hn) (w n hn).p (hF.sh hn)).mV ?_⟩
  rintro S' ⟨h1, h2⟩
  exact ⟨rfl, h1, h2⟩
theorem RepC.plan {A : Ab} {S S' : evS} {x : Nat} (h : RepC A S) (hb : evBc S S' (ofPlan x)) : RepC A S' ∧ FrC S S' :=
  ⟨h.same (fun a b c z => hb.1 a b c (by rintro ⟨-, z1, z2⟩; unfold RelC at z; omega)), FrC.bc hb (by rintro a b c ⟨-, z1, z2⟩; omega)⟩
/-- past.remember -/
theorem c_rem0 (hCl : evCl G) (hV : (0, 0) ∈ evKs G) {A : Ab} (h : RepC A S) (w : WfA A) : evSp G yX1_remember M_X1_remember (d + 3) [.ref (evad G 16 0), .ref (evad G 1 0)] S (evQV fun S' => RepC (A.1, pushP A.1 A.2.1, A.2.2) S' ∧ FrC S S' ∧ ∀ k, shp S' 36 k = shp S 36 k) := by
  obtain ⟨h1, ⟨nx, h2, h3, h4, h5⟩, h6, ⟨h7, h8⟩, h9, h10⟩ := h
  have hl := w.2.1.1
  refine (c_remember hCl (hCl.1 0 0 1 16 hV rfl) (f1 := 0) (nx := nx) (kn := A.2.1.length) (hCl.1 0 0 0 1 hV rfl) h2 hl (by omega) h3 h4).mV ?_
  rintro S' ⟨b, c1, c2, c3⟩
  have keep : ∀ f F, f < 9 → f ≠ 1 + nx → FlC S f F → FlC S' f F := by
    intro f F hf hne hF i k hi hk
    rw [← hF i k hi hk]
    unfold shp
    rw [b.1 4 _ _ (by rintro (⟨-, z⟩ | z) <;> omega), b.1 5 _ _ (by rintro (⟨-, z⟩ | z) <;> omega)]
  have oth : ∀ a bb c, a ≠ 4 → a ≠ 5 → a ≠ 16 → S'.1 a bb c = S.1 a bb c := fun a bb c y1 y2 y3 => b.1 a bb c (by rintro (⟨z, -⟩ | z) <;> omega)
  refine ⟨⟨keep 0 _ (by omega) (by omega) h1, ⟨pastNext nx, by unfold pastNext; split <;> omega, c2, ?_, fun j Q hQ => ?_⟩, fun m hm => ⟨fun z => ?_, fun Q z => ⟨?_, keep _ _ (by omega) (by omega) ((h6 m hm).2 Q z).2⟩⟩, ⟨?_, fun j t z => ?_⟩, ?_, fun j p z => ?_⟩, ⟨fun a bb c q => oth a bb c (by omega) (by omega) (by omega), b.2⟩, fun k => ?_⟩
  · rw [c3]
    congr 1
    unfold pushP
    simp only [List.length_take, List.length_cons]
  · unfold pushP at hQ
    have hj : j < 6 := by
      have := (List.getElem?_eq_some_iff.mp hQ).1
      simp only [List.length_take] at this
      omega
    rw [List.getElem?_take, if_pos hj] at hQ
    cases j with
    | zero =>
      simp only [List.getElem?_cons_zero, Option.some.injEq] at hQ
      subst hQ
      have e : (pastNext nx + 5 - 0) % 6 = nx := by unfold pastNext; split <;> omega
      intro i k hi hk
      rw [e, c1 i k hi hk]
      exact h1 i k hi hk
    | succ j =>
      simp only [List.getElem?_cons_succ] at hQ
      have e : (pastNext nx + 5 - (j + 1)) % 6 = (nx + 5 - j) % 6 := by unfold pastNext; split <;> omega
      have hne : (nx + 5 - j) % 6 ≠ nx := by omega
      rw [e]
      exact keep _ _ (by omega) (by omega) (h5 j Q hQ)
  · rw [oth 22 0 m (by decide) (by decide) (by decide)]; exact (h6 m hm).1 z
  · rw [oth 22 0 m (by decide) (by decide) (by decide)]; exact ((h6 m hm).2 Q z).1
  · rw [oth 18 0 1 (by decide) (by decide) (by decide)]; exact h7
  · rw [oth 19 0 j (by decide) (by decide) (by decide)]; exact h8 j t z
  · rw [oth 0 0 10 (by decide) (by decide) (by decide)]; exact h9
  · rw [oth 24 0 j (by decide) (by decide) (by decide), oth 25 0 j (by decide) (by decide) (by decide)]; exact h10 j p z
  · unfold shp
    rw [b.1 4 _ _ (by rintro (⟨-, z⟩ | z) <;> omega), b.1 5 _ _ (by rintro (⟨-, z⟩ | z) <;> omega)]
theorem c_rem (hCl : evCl G) (hV : (0, 0) ∈ evKs G) {A : Ab} (h : RepC A S) (w : WfA A) : evSp G yX1_remember M_X1_remember (d + 3) [.ref (evad G 16 0), .ref (evad G 1 0)] S (evQV fun S' => RepC (A.1, pushP A.1 A.2.1, A.2.2) S' ∧ FrC S S') :=
  (c_rem0 hCl hV h w).mV (fun _ z => ⟨z.1, z.2.1⟩)
/-- a number of a ship is written -/
theorem RepC.setT {A : Ab} {S : evS} (h : RepC A S) {n j : Nat} (hn : n < 4) (hj : j < 9) {v : Int32} {z : Int} (hv : v = iI z) : RepC (updF A.1 n j z, A.2) (evup S 4 n j v) := by
  obtain ⟨h1, ⟨nx, h2, h3, h4, h5⟩, h6, ⟨h7, h8⟩, h9, h10⟩ := h
  have oth : ∀ a b c, a ≠ 4 → (evup S 4 n j v).1 a b c = S.1 a b c := fun a b c y => evup_c (by rintro ⟨z, -⟩; exact y z)
  have keep : ∀ f F, 1 ≤ f → FlC S f F → FlC (evup S 4 n j v) f F := by
    intro f F hf hF i k hi hk
    rw [← hF i k hi hk]
    unfold shp
    rw [evup_c (by rintro ⟨-, z, -⟩; omega), oth 5 _ _ (by decide)]
  refine ⟨fun i k hi hk => ?_, ⟨nx, h2, by rw [oth 16 _ _ (by decide)]; exact h3, by rw [oth 16 _ _ (by decide)]; exact h4, fun j Q hQ => keep _ _ (by omega) (h5 j Q hQ)⟩, fun m hm => ⟨fun z => by rw [oth 22 _ _ (by decide)]; exact (h6 m hm).1 z, fun Q z => ⟨by rw [oth 22 _ _ (by decide)]; exact ((h6 m hm).2 Q z).1, keep _ _ (by omega) ((h6 m hm).2 Q z).2⟩⟩, ⟨by rw [oth 18 _ _ (by decide)]; exact h7, fun j t z => by rw [oth 19 _ _ (by decide)]; exact h8 j t z⟩, by rw [oth 0 _ _ (by decide)]; exact h9, fun j p z => by rw [oth 24 _ _ (by decide), oth 25 _ _ (by decide)]; exact h10 j p z⟩
  have hh := h1 i k hi hk
  rw [Nat.mul_zero, Nat.zero_add] at hh ⊢
  by_cases e : i = n ∧ k = j
  · obtain ⟨rfl, rfl⟩ := e
    unfold shp
    rw [if_pos hj, evup_at, hv]
    simp [updF]
  · show shp (evup S 4 n j v) i k = iI (updF A.1 n j z i k)
    rw [show updF A.1 n j z i k = A.1 i k from by simp only [updF]; rw [if_neg e], ← hh]
    unfold shp
    rw [oth 5 _ _ (by decide)]
    by_cases hk9 : k < 9
    · rw [if_pos hk9, if_pos hk9, evup_c (by rintro ⟨-, y1, y2⟩; exact e ⟨y1, y2⟩)]
    · rw [if_neg hk9, if_neg hk9]
theorem RepC.setL {A : Ab} {S : evS} (h : RepC A S) {n j : Nat} (hn : n < 4) (hj : j < 24) {v : Int32} {z : Int} (hv : v = iI z) : RepC (updF A.1 n (9 + j) z, A.2) (evup S 5 n j v) := by
  obtain ⟨h1, ⟨nx, h2, h3, h4, h5⟩, h6, ⟨h7, h8⟩, h9, h10⟩ := h
  have oth : ∀ a b c, a ≠ 5 → (evup S 5 n j v).1 a b c = S.1 a b c := fun a b c y => evup_c (by rintro ⟨z, -⟩; exact y z)
  have keep : ∀ f F, 1 ≤ f → FlC S f F → FlC (evup S 5 n j v) f F := by
    intro f F hf hF i k hi hk
    rw [← hF i k hi hk]
    unfold shp
    rw [oth 4 _ _ (by decide), evup_c (by rintro ⟨-, z, -⟩; omega)]
  refine ⟨fun i k hi hk => ?_, ⟨nx, h2, by rw [oth 16 _ _ (by decide)]; exact h3, by rw [oth 16 _ _ (by decide)]; exact h4, fun j Q hQ => keep _ _ (by omega) (h5 j Q hQ)⟩, fun m hm => ⟨fun z => by rw [oth 22 _ _ (by decide)]; exact (h6 m hm).1 z, fun Q z => ⟨by rw [oth 22 _ _ (by decide)]; exact ((h6 m hm).2 Q z).1, keep _ _ (by omega) ((h6 m hm).2 Q z).2⟩⟩, ⟨by rw [oth 18 _ _ (by decide)]; exact h7, fun j t z => by rw [oth 19 _ _ (by decide)]; exact h8 j t z⟩, by rw [oth 0 _ _ (by decide)]; exact h9, fun j p z => by rw [oth 24 _ _ (by decide), oth 25 _ _ (by decide)]; exact h10 j p z⟩
  have hh := h1 i k hi hk
  rw [Nat.mul_zero, Nat.zero_add] at hh ⊢
  by_cases e : i = n ∧ k = 9 + j
  · obtain ⟨rfl, rfl⟩ := e
    unfold shp
    rw [if_neg (by omega), show 9 + j - 9 = j by omega, evup_at, hv]
    simp [updF]
  · show shp (evup S 5 n j v) i k = iI (updF A.1 n (9 + j) z i k)
    rw [show updF A.1 n (9 + j) z i k = A.1 i k from by simp only [updF]; rw [if_neg e], ← hh]
    unfold shp
    rw [oth 4 _ _ (by decide)]
    by_cases hk9 : k < 9
    · rw [if_pos hk9, if_pos hk9]
    · rw [if_neg hk9, if_neg hk9, evup_c (by rintro ⟨-, y1, y2⟩; exact e ⟨y1, by omega⟩)]
end C7a
