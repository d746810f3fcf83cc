/-! CONTRACTS: the JDK's own, Ship, Fleet -/
def shp (S : evS) (s k : Nat) : Int32 := if k < 9 then S.1 4 s k else S.1 5 s (k - 9)
def evBut (S S' : evS) (P : Nat → Nat → Prop) : Prop := (∀ a b c, ¬ P a b → S'.1 a b c = S.1 a b c) ∧ S'.2 = S.2
theorem evBut.rf {S : evS} {P : Nat → Nat → Prop} : evBut S S P := ⟨fun _ _ _ _ => rfl, rfl⟩
theorem evBut.tr {S S' S2 : evS} {P : Nat → Nat → Prop} (h : evBut S S' P) (h2 : evBut S' S2 P) : evBut S S2 P := ⟨fun a b c q => (h2.1 a b c q).trans (h.1 a b c q), h2.2.trans h.2⟩
theorem evBut.wk {S S' : evS} {P P' : Nat → Nat → Prop} (h : evBut S S' P) (hp : ∀ a b, P a b → P' a b) : evBut S S' P' := ⟨fun a b c q => h.1 a b c (fun z => q (hp a b z)), h.2⟩
theorem evBut.up {S : evS} {kd x k : Nat} {v : Int32} : evBut S (evup S kd x k v) (fun a b => a = kd ∧ b = x) := ⟨fun a b c q => by rw [evup_ne q], rfl⟩
theorem evup_at {S : evS} {kd x k : Nat} {v : Int32} : (evup S kd x k v).1 kd x k = v := by simp [evup]
theorem evup_o {S : evS} {kd x k c : Nat} {v : Int32} (h : c ≠ k) : (evup S kd x k v).1 kd x c = S.1 kd x c := by simp [evup, h]
theorem evcpy_at {S : evS} {kd x c : Nat} {g : Nat → Int32} : (evcpy S kd x g).1 kd x c = g c := by simp [evcpy]
theorem nI_lit4 : (4 : Int32) = nI 4 := rfl
section C4
variable {G : evG} {d : Nat} {S : evS}
theorem evSp.mI {y : MethodName} {M : evM} {as : List Value} {q q' : Int32 → evS → Prop} (h : evSp G y M d as S (evQI q)) (hq : ∀ r S', q r S' → q' r S') : evSp G y M d as S (evQI q') := h.mono (fun _ S' ⟨r, e, z⟩ => ⟨r, e, hq r S' z⟩)
theorem evSp.mL {y : MethodName} {M : evM} {as : List Value} {q q' : Int64 → evS → Prop} (h : evSp G y M d as S (evQL q)) (hq : ∀ r S', q r S' → q' r S') : evSp G y M d as S (evQL q') := h.mono (fun _ S' ⟨r, e, z⟩ => ⟨r, e, hq r S' z⟩)
theorem evSp.mV {y : MethodName} {M : evM} {as : List Value} {q q' : evS → Prop} (h : evSp G y M d as S (evQV q)) (hq : ∀ S', q S' → q' S') : evSp G y M d as S (evQV q') := h.mono (fun _ S' ⟨e, z⟩ => ⟨e, hq S' z⟩)
theorem evSp.mR {y : MethodName} {M : evM} {as : List Value} {a : Nat} {q q' : evS → Prop} (h : evSp G y M d as S (evQR a q)) (hq : ∀ S', q S' → q' S') : evSp G y M d as S (evQR a q') := h.mono (fun _ S' ⟨e, z⟩ => ⟨e, hq S' z⟩)
end C4
section C4
variable {G : evG} {d : Nat} {S : evS}
theorem c_min (hCl : evCl G) {a b : Int32} : evSp G yJ9_min_7cf53 M_J9_min_7cf53 d [.int a, .int b] S (evQI fun r S' => r = (if b < a then b else a) ∧ S' = S) :=
  vm_J9_min_7cf53 (vb_J9_min_7cf53_0 hCl ⟨fun h => ⟨by rw [if_pos h], rfl⟩, fun h => ⟨by rw [if_neg h], rfl⟩⟩)
theorem c_max (hCl : evCl G) {a b : Int32} : evSp G yJ9_max_7cf53 M_J9_max_7cf53 d [.int a, .int b] S (evQI fun r S' => r = (if a < b then b else a) ∧ S' = S) :=
  vm_J9_max_7cf53 (vb_J9_max_7cf53_0 hCl ⟨fun h => ⟨by rw [if_pos h], rfl⟩, fun h => ⟨by rw [if_neg h], rfl⟩⟩)
theorem c_abs (hCl : evCl G) {a : Int32} : evSp G yJ9_abs_0f7a4 M_J9_abs_0f7a4 d [.int a] S (evQI fun r S' => r = (if 0 ≤ a then a else -a) ∧ S' = S) :=
  vm_J9_abs_0f7a4 (vb_J9_abs_0f7a4_0 hCl ⟨fun h => ⟨by rw [if_pos h], rfl⟩, fun h => ⟨by rw [if_neg h], rfl⟩⟩)
theorem c_minl (hCl : evCl G) {a b : Int64} : evSp G yJ9_min_f86c9 M_J9_min_f86c9 d [.long a, .long b] S (evQL fun r S' => r = (if b < a then b else a) ∧ S' = S) :=
  vm_J9_min_f86c9 (vb_J9_min_f86c9_0 hCl ⟨fun h => ⟨by rw [if_pos h], rfl⟩, fun h => ⟨by rw [if_neg h], rfl⟩⟩)
/-- fill: places 0 .. i - 1 hold v already -/
theorem c_fill_loop (hCl : evCl G) {q : evS → Prop} {k0 x0 N : Nat} {v : Int32} (hT : evT k0 = 1) (hN : evN k0 = N) (hN2 : N < 2 ^ 31) (hV : (k0, x0) ∈ evKs G) (S0 : evS) (hq : ∀ S' : evS, evBut S0 S' (fun a b => a = k0 ∧ b = x0) → (∀ j, j < N → S'.1 k0 x0 j = v) → q S') :
    ∀ n i (S : evS), i + n = N → evBut S0 S (fun a b => a = k0 ∧ b = x0) → (∀ j, j < i → S.1 k0 x0 j = v) → bk_J7_fill_53178_5 G d (evQV q) k0 x0 v (nI i) (nI N) S := by
  intro n
  induction n with
  | zero =>
    intro i S hi hb hv
    refine vb_J7_fill_53178_5 hCl hT hV ⟨fun _ => hq S hb (fun j hj => hv j (by omega)), fun h => absurd (nI_le (by omega) (by omega)) h⟩
  | succ n ih =>
    intro i S hi hb hv
    refine vb_J7_fill_53178_5 hCl hT hV ⟨fun h => absurd h (nI_ge (by omega) (by omega)), fun _ => ⟨by rw [hN]; exact vp_in_nI (by omega) (by omega), ?_⟩⟩
    intro S2 hS2 v3 hv3
    rw [nI_1] at hv3
    rw [nI_clamp (by omega)] at hS2
    subst hv3 hS2
    refine ih (i + 1) _ (by omega) (hb.tr evBut.up) (fun j hj => ?_)
    by_cases h : j = i
    · subst h; exact evup_at
    · rw [evup_o h]; exact hv j (by omega)
theorem c_fill (hCl : evCl G) {k0 x0 N : Nat} {v : Int32} (hT : evT k0 = 1) (hN : evN k0 = N) (hN2 : N < 2 ^ 31) (hV : (k0, x0) ∈ evKs G) : evSp G yJ7_fill_53178 M_J7_fill_53178 d [.ref (evad G k0 x0), .int v] S (evQV fun S' => evBut S S' (fun a b => a = k0 ∧ b = x0) ∧ ∀ j, j < N → S'.1 k0 x0 j = v) := by
  refine vm_J7_fill_53178 (vb_J7_fill_53178_0 hCl hT hV ?_)
  intro v1 hv1
  rw [hN] at hv1
  subst hv1
  exact c_fill_loop hCl hT hN hN2 hV S (fun S' h1 h2 => ⟨h1, h2⟩) N 0 S (by omega) evBut.rf (fun j hj => absurd hj (by omega))
-- Ship
theorem c_trait (hCl : evCl G) {x j : Nat} (hV : (3, x) ∈ evKs G) (hj : j < 9) {w : Int32} (hw : w = nI j) : evSp G yX3_trait M_X3_trait d [.ref (evad G 3 x), .int w] S (evQI fun r S' => r = S.1 4 x j ∧ S' = S) := by
  subst hw
  refine vm_X3_trait (vb_X3_trait_0 hCl hV ⟨fun h => absurd h (nI_pos (by omega)), fun _ => ⟨fun h => absurd h (nI_ge (b := 9) hj (by omega)), fun _ => ⟨vp_in_nI hj (by omega), by rw [nI_clamp (by omega)], rfl⟩⟩⟩)
theorem c_setTrait (hCl : evCl G) {x j : Nat} (hV : (3, x) ∈ evKs G) (hj : j < 9) {w v : Int32} (hw : w = nI j) : evSp G yX3_setTrait M_X3_setTrait d [.ref (evad G 3 x), .int w, .int v] S (evQV fun S' => S' = evup S 4 x j v) := by
  subst hw
  refine vm_X3_setTrait (vb_X3_setTrait_0 hCl hV ⟨fun h => absurd h (nI_pos (by omega)), fun _ => ⟨fun h => absurd h (nI_ge (b := 9) hj (by omega)), fun _ => ⟨vp_in_nI hj (by omega), fun S2 hS2 => ?_⟩⟩⟩)
  rw [nI_clamp (by omega)] at hS2
  exact hS2
theorem c_placeOf (hCl : evCl G) {k w : Nat} (hk : k < 6) (hw : w < 4) : evSp G yX3_placeOf M_X3_placeOf d [.int (nI k), .int (nI w)] S (evQI fun r S' => r = nI (4 * k + w) ∧ S' = S) := by
  refine vm_X3_placeOf (vb_X3_placeOf_0 hCl ⟨fun h => absurd h (nI_pos (by omega)), fun _ => ⟨fun h => absurd h (nI_ge (b := 6) hk (by omega)), fun _ => ⟨fun h => absurd h (nI_pos (by omega)), fun _ => ⟨fun _ => ⟨?_, rfl⟩, fun h => absurd (nI_lt (b := 4) hw (by omega)) h⟩⟩⟩⟩)
  rw [nI_lit4, pk_mul, nI_add, Nat.mul_comm]
theorem c_ofLeg (hCl : evCl G) {x k w : Nat} (hV : (3, x) ∈ evKs G) (hk : k < 6) (hw : w < 4) {a b : Int32} (ha : a = nI k) (hb : b = nI w) : evSp G yX3_ofLeg M_X3_ofLeg (d + 1) [.ref (evad G 3 x), .int a, .int b] S (evQI fun r S' => r = S.1 5 x (4 * k + w) ∧ S' = S) := by
  subst ha hb
  refine vm_X3_ofLeg (vb_X3_ofLeg_0 hCl hV ((c_placeOf hCl hk hw).mono ?_))
  rintro _ S2 ⟨r, rfl, rfl, rfl⟩
  exact ⟨_, rfl, fun _ => ⟨vp_in_nI (by omega) (by omega), by rw [nI_clamp (by omega)], rfl⟩, fun h => absurd (nI_pos' (by omega)) h⟩
theorem c_setOfLeg (hCl : evCl G) {x k w : Nat} (hV : (3, x) ∈ evKs G) (hk : k < 6) (hw : w < 4) {a b v : Int32} (ha : a = nI k) (hb : b = nI w) : evSp G yX3_setOfLeg M_X3_setOfLeg (d + 1) [.ref (evad G 3 x), .int a, .int b, .int v] S (evQV fun S' => S' = evup S 5 x (4 * k + w) v) := by
  subst ha hb
  refine vm_X3_setOfLeg (vb_X3_setOfLeg_0 hCl hV ((c_placeOf hCl hk hw).mono ?_))
  rintro _ S2 ⟨r, rfl, rfl, rfl⟩
  refine ⟨_, rfl, fun h => absurd h (nI_pos (by omega)), fun _ => ⟨vp_in_nI (by omega) (by omega), fun S4 hS4 => ?_⟩⟩
  rw [nI_clamp (by omega)] at hS4
  exact hS4
theorem c_isPortAhead (hCl : evCl G) {x : Nat} (hV : (3, x) ∈ evKs G) {p : Int32} : evSp G yX3_isPortAhead M_X3_isPortAhead d [.ref (evad G 3 x), .int p] S (evQI fun r S' => r = (if p ≤ S.1 4 x 2 ∨ S.1 4 x 0 < p then 0 else 1) ∧ S' = S) := by
  refine vm_X3_isPortAhead (vb_X3_isPortAhead_0 hCl hV ⟨fun h => ⟨by rw [if_pos (Or.inl h)], rfl⟩, fun h => ⟨fun h2 => ⟨by rw [if_pos (Or.inr h2)], rfl⟩, fun h2 => ⟨by rw [if_neg (fun q => q.elim h h2)], rfl⟩⟩⟩)
theorem c_isLegAhead (hCl : evCl G) {x : Nat} (hV : (3, x) ∈ evKs G) {p : Int32} : evSp G yX3_isLegAhead M_X3_isLegAhead d [.ref (evad G 3 x), .int p] S (evQI fun r S' => r = (if p < S.1 4 x 2 ∨ S.1 4 x 0 ≤ p then 0 else 1) ∧ S' = S) := by
  refine vm_X3_isLegAhead (vb_X3_isLegAhead_0 hCl hV ⟨fun h => ⟨by rw [if_pos (Or.inl h)], rfl⟩, fun h => ⟨fun h2 => ⟨by rw [if_pos (Or.inr h2)], rfl⟩, fun h2 => ⟨by rw [if_neg (fun q => q.elim h h2)], rfl⟩⟩⟩)
/-- which cells are a ship's -/
def ofShip (s : Nat) : Nat → Nat → Prop := fun a b => (a = 4 ∨ a = 5) ∧ b = s
theorem shp_but {S S' : evS} {s t : Nat} (h : evBut S S' (ofShip s)) (hn : t ≠ s) (k : Nat) : shp S' t k = shp S t k := by
  unfold shp
  rw [h.1 4 t k (fun q => hn q.2), h.1 5 t (k - 9) (fun q => hn q.2)]
theorem c_shipLike (hCl : evCl G) {x0 x1 : Nat} (hV0 : (3, x0) ∈ evKs G) (hV1 : (3, x1) ∈ evKs G) : evSp G yX3_becomeLike M_X3_becomeLike (d + 1) [.ref (evad G 3 x0), .ref (evad G 3 x1)] S (evQV fun S' => evBut S S' (ofShip x0) ∧ ∀ k, k < 33 → shp S' x0 k = shp S x1 k) := by
  refine vm_X3_becomeLike (vb_X3_becomeLike_0 hCl hV0 hV1 ?_)
  intro S1 h1 S2 h2
  have e9 : (9 : Int32).toNatClampNeg = 9 := by decide
  have e24 : (24 : Int32).toNatClampNeg = 24 := by decide
  rw [e9] at h1
  rw [e24] at h2
  subst h1 h2
  refine ⟨⟨fun a b c q => ?_, rfl⟩, fun k hk => ?_⟩
  · rw [evcpy_ne (fun z => q ⟨Or.inr z.1, z.2⟩), evcpy_ne (fun z => q ⟨Or.inl z.1, z.2⟩)]
  · unfold shp
    by_cases h9 : k < 9
    · rw [if_pos h9, if_pos h9, evcpy_ne (by rintro ⟨h, -⟩; cases h), evcpy_at, pk_cpy_in (by omega) (by omega)]
      simp
    · rw [if_neg h9, if_neg h9, evcpy_at, pk_cpy_in (by omega) (by omega), evcpy_ne (by rintro ⟨h, -⟩; cases h)]
      simp
theorem c_becomeNew (hCl : evCl G) {x0 : Nat} (hV0 : (3, x0) ∈ evKs G) : evSp G yX3_becomeNew M_X3_becomeNew (d + 1) [.ref (evad G 3 x0)] S (evQV fun S' => evBut S S' (ofShip x0) ∧ ∀ k, k < 33 → shp S' x0 k = evst 61 k) := by
  refine vm_X3_becomeNew (vb_X3_becomeNew_0 hCl hV0 ?_)
  intro S1 h1
  have e9 : (9 : Int32).toNatClampNeg = 9 := by decide
  rw [e9] at h1
  subst h1
  have hV5 : (5, x0) ∈ evKs G := hCl.1 3 x0 1 5 hV0 rfl
  refine (c_fill hCl (N := 24) rfl rfl (by omega) hV5).mono ?_
  rintro _ S2 ⟨rfl, hb, hz⟩
  refine ⟨rfl, ⟨fun a b c q => ?_, hb.2⟩, fun k hk => ?_⟩
  · rw [hb.1 a b c (fun z => q ⟨Or.inr z.1, z.2⟩), evcpy_ne (fun z => q ⟨Or.inl z.1, z.2⟩)]
  · unfold shp
    by_cases h9 : k < 9
    · rw [if_pos h9, hb.1 4 x0 k (by rintro ⟨h, -⟩; cases h), evcpy_at, pk_cpy_in (by omega) (by omega)]
      simp
    · rw [if_neg h9, hz (k - 9) (by omega)]
      have : ∀ k, k < 33 → ¬ k < 9 → (0 : Int32) = evst 61 k := by decide
      exact this k hk h9
end C4
