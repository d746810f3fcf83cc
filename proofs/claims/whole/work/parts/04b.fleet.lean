/-! CONTRACTS: Fleet, Past -/
def ofFleet (f : Nat) : Nat → Nat → Prop := fun a b => (a = 4 ∨ a = 5) ∧ 4 * f ≤ b ∧ b < 4 * f + 4
theorem shp_butF {S S' : evS} {f t : Nat} (h : evBut S S' (ofFleet f)) (hn : t < 4 * f ∨ 4 * f + 4 ≤ t) (k : Nat) : shp S' t k = shp S t k := by
  unfold shp
  rw [h.1 4 t k (fun q => by have := q.2; omega), h.1 5 t (k - 9) (fun q => by have := q.2; omega)]
def sumLegs (S : evS) (f : Nat) : Nat → Int32
  | 0 => 0
  | n + 1 => sumLegs S f n + S.1 4 (4 * f + n) 0
section C4b
variable {G : evG} {d : Nat} {S : evS}
theorem ks_ship (hCl : evCl G) {f i : Nat} (hV : (1, f) ∈ evKs G) (hi : i < 4) : (3, 4 * f + i) ∈ evKs G := hCl.2 2 f i (hCl.1 1 f 0 2 hV rfl) rfl hi
theorem c_fleetLike_loop (hCl : evCl G) {q : evS → Prop} {f0 f1 : Nat} (hV0 : (1, f0) ∈ evKs G) (hV1 : (1, f1) ∈ evKs G) (hne : f0 ≠ f1) (S0 : evS) (hq : ∀ S' : evS, evBut S0 S' (ofFleet f0) → (∀ i k, i < 4 → k < 33 → shp S' (4 * f0 + i) k = shp S0 (4 * f1 + i) k) → q S') :
    ∀ n i (S : evS), i + n = 4 → evBut S0 S (ofFleet f0) → (∀ j k, j < i → k < 33 → shp S (4 * f0 + j) k = shp S0 (4 * f1 + j) k) → bk_X0_becomeLike_2 G (d + 1) (evQV q) f0 f1 (nI i) S := by
  intro n
  induction n with
  | zero =>
    intro i S hi hb hv
    exact vb_X0_becomeLike_2 hCl hV0 hV1 ⟨fun _ => hq S hb (fun j k hj hk => hv j k (by omega) hk), fun h => absurd (nI_le (a := 4) (b := i) (by omega) (by omega)) h⟩
  | succ n ih =>
    intro i S hi hb hv
    refine vb_X0_becomeLike_2 hCl hV0 hV1 ⟨fun h => absurd h (nI_ge (b := 4) (by omega) (by omega)), fun _ => ⟨vp_in_nI (by omega) (by omega), vp_in_nI (by omega) (by omega), ?_⟩⟩
    rw [nI_clamp (by omega)]
    refine (c_shipLike hCl (ks_ship hCl hV0 (by omega)) (ks_ship hCl hV1 (by omega))).mono ?_
    rintro _ S3 ⟨rfl, hb3, hs3⟩
    refine ⟨rfl, fun v4 hv4 => ?_⟩
    rw [nI_1] at hv4
    subst hv4
    have hbF : evBut S S3 (ofFleet f0) := hb3.wk (fun a b z => ⟨z.1, by have := z.2; omega⟩)
    refine ih (i + 1) S3 (by omega) (hb.tr hbF) (fun j k hj hk => ?_)
    by_cases h : j = i
    · subst h
      rw [hs3 k hk]
      exact shp_butF hb (by omega) k
    · rw [shp_but hb3 (by omega) k]
      exact hv j k (by omega) hk
theorem c_fleetLike (hCl : evCl G) {f0 f1 : Nat} (hV0 : (1, f0) ∈ evKs G) (hV1 : (1, f1) ∈ evKs G) (hne : f0 ≠ f1) : evSp G yX0_becomeLike M_X0_becomeLike (d + 2) [.ref (evad G 1 f0), .ref (evad G 1 f1)] S (evQV fun S' => evBut S S' (ofFleet f0) ∧ ∀ i k, i < 4 → k < 33 → shp S' (4 * f0 + i) k = shp S (4 * f1 + i) k) :=
  vm_X0_becomeLike (vb_X0_becomeLike_0 hCl hV0 hV1 (c_fleetLike_loop hCl hV0 hV1 hne S (fun _ h1 h2 => ⟨h1, h2⟩) 4 0 S (by omega) evBut.rf (fun j _ hj => absurd hj (by omega))))
theorem c_legsInAll_loop (hCl : evCl G) {f : Nat} (hV : (1, f) ∈ evKs G) :
    ∀ n i, i + n = 4 → bk_X0_legsInAll_4 G d (evQI fun r S' => r = sumLegs S f 4 ∧ S' = S) f (sumLegs S f i) (nI i) S := by
  intro n
  induction n with
  | zero =>
    intro i hi
    refine vb_X0_legsInAll_4 hCl hV ⟨fun _ => ⟨by rw [show i = 4 by omega], rfl⟩, fun h => absurd (nI_le (a := 4) (b := i) (by omega) (by omega)) h⟩
  | succ n ih =>
    intro i hi
    refine vb_X0_legsInAll_4 hCl hV ⟨fun h => absurd h (nI_ge (b := 4) (by omega) (by omega)), fun _ => ⟨vp_in_nI (by omega) (by omega), ?_⟩⟩
    rw [nI_clamp (by omega)]
    refine (c_trait hCl (ks_ship hCl hV (by omega)) (j := 0) (by omega) rfl).mono ?_
    rintro _ S3 ⟨r, rfl, rfl, rfl⟩
    refine ⟨_, rfl, fun v4 hv4 v5 hv5 => ?_⟩
    rw [nI_1] at hv5
    subst hv4 hv5
    exact ih (i + 1) (by omega)
theorem c_legsInAll (hCl : evCl G) {f : Nat} (hV : (1, f) ∈ evKs G) : evSp G yX0_legsInAll M_X0_legsInAll (d + 1) [.ref (evad G 1 f)] S (evQI fun r S' => r = sumLegs S f 4 ∧ S' = S) :=
  vm_X0_legsInAll (vb_X0_legsInAll_0 hCl hV (c_legsInAll_loop hCl hV 4 0 (by omega)))
-- Past
def pastNext (nx : Nat) : Nat := if nx + 1 < 6 then nx + 1 else 0
def pastPrev (nx : Nat) : Nat := if 0 < nx then nx - 1 else 5
theorem c_remember (hCl : evCl G) (hV0 : (16, 0) ∈ evKs G) {f1 nx kn : Nat} (hV1 : (1, f1) ∈ evKs G) (hnx : nx < 6) (hkn : kn ≤ 6) (hne : 1 + nx ≠ f1) (h1 : S.1 16 0 1 = nI nx) (h2 : S.1 16 0 2 = nI kn) :
    evSp G yX1_remember M_X1_remember (d + 3) [.ref (evad G 16 0), .ref (evad G 1 f1)] S (evQV fun S' => evBut S S' (fun a b => ofFleet (1 + nx) a b ∨ a = 16) ∧ (∀ i k, i < 4 → k < 33 → shp S' (4 * (1 + nx) + i) k = shp S (4 * f1 + i) k) ∧ S'.1 16 0 1 = nI (pastNext nx) ∧ S'.1 16 0 2 = nI (min 6 (kn + 1))) := by
  refine vm_X1_remember (vb_X1_remember_0 hCl hV0 hV1 ⟨by rw [h1]; exact vp_in_nI hnx (by omega), ?_⟩)
  rw [h1, nI_clamp (by omega)]
  refine (c_fleetLike (f0 := 1 + nx) hCl (hCl.2 17 0 nx (hCl.1 16 0 0 17 hV0 rfl) rfl hnx) hV1 hne).mono ?_
  rintro _ S2 ⟨rfl, hb, hs⟩
  have g1 : S2.1 16 0 1 = nI nx := by rw [hb.1 16 0 1 (by rintro ⟨h | h, -⟩ <;> cases h), h1]
  have g2 : S2.1 16 0 2 = nI kn := by rw [hb.1 16 0 2 (by rintro ⟨h | h, -⟩ <;> cases h), h2]
  have fin : ∀ s1 : Int32, s1 = nI (pastNext nx) → bk_X1_remember_35 G (d + 2) (evQV fun S' => evBut S S' (fun a b => ofFleet (1 + nx) a b ∨ a = 16) ∧ (∀ i k, i < 4 → k < 33 → shp S' (4 * (1 + nx) + i) k = shp S (4 * f1 + i) k) ∧ S'.1 16 0 1 = nI (pastNext nx) ∧ S'.1 16 0 2 = nI (min 6 (kn + 1))) 0 0 s1 S2 := by
    intro s1 hs1
    refine vb_X1_remember_35 hCl hV0 hV0 ?_
    intro S3 hS3
    refine (c_min hCl).mono ?_
    rintro _ S4 ⟨r, rfl, hr, hS4⟩
    refine ⟨_, rfl, fun S5 hS5 => ?_⟩
    have g3 : S3.1 16 0 2 = nI kn := by rw [hS3, evup_o (by decide), g2]
    have hr2 : r = nI (min 6 (kn + 1)) := by
      rw [hr, g3, nI_1]
      by_cases h : kn + 1 < 6
      · rw [if_pos (show nI (kn + 1) < 6 from nI_lt (b := 6) h (by omega)), Nat.min_eq_right (by omega)]
      · rw [if_neg (show ¬ nI (kn + 1) < 6 from nI_nlt (a := kn + 1) (b := 6) (by omega) (by omega)), Nat.min_eq_left (by omega)]
        rfl
    subst hS5 hS4 hS3
    refine ⟨⟨fun a b c z => ?_, hb.2⟩, fun i k hi hk => ?_, ?_, ?_⟩
    · rw [evup_ne (fun y => z (Or.inr y.1)), evup_ne (fun y => z (Or.inr y.1))]
      exact hb.1 a b c (fun y => z (Or.inl y))
    · rw [← hs i k hi hk]
      unfold shp
      rw [evup_ne (by rintro ⟨y, -⟩; cases y), evup_ne (by rintro ⟨y, -⟩; cases y), evup_ne (by rintro ⟨y, -⟩; cases y), evup_ne (by rintro ⟨y, -⟩; cases y)]
    · rw [evup_o (by decide), evup_at, hs1]
    · rw [evup_at, hr2]
  refine ⟨rfl, ?_⟩
  show ((6 ≤ S2.1 16 0 1 + 1 → _) ∧ (¬ 6 ≤ S2.1 16 0 1 + 1 → _))
  rw [g1, nI_1]
  refine ⟨fun h => fin 0 ?_, fun h => fin _ ?_⟩
  · unfold pastNext
    rw [if_neg (fun z => absurd h (nI_ge (b := 6) z (by omega)))]
    rfl
  · unfold pastNext
    rw [if_pos (Nat.lt_of_not_le fun z => h (nI_le (a := 6) z (by omega)))]
theorem c_restore (hCl : evCl G) (hV0 : (16, 0) ∈ evKs G) {f1 nx kn : Nat} (hV1 : (1, f1) ∈ evKs G) (hnx : nx < 6) (hkn : kn + 1 ≤ 6) (hne : f1 ≠ 1 + pastPrev nx) (h1 : S.1 16 0 1 = nI nx) (h2 : S.1 16 0 2 = nI (kn + 1)) :
    evSp G yX1_restore M_X1_restore (d + 3) [.ref (evad G 16 0), .ref (evad G 1 f1)] S (evQV fun S' => evBut S S' (fun a b => ofFleet f1 a b ∨ a = 16) ∧ (∀ i k, i < 4 → k < 33 → shp S' (4 * f1 + i) k = shp S (4 * (1 + pastPrev nx) + i) k) ∧ S'.1 16 0 1 = nI (pastPrev nx) ∧ S'.1 16 0 2 = nI kn) := by
  have hpp : pastPrev nx < 6 := by unfold pastPrev; split <;> omega
  have fin : ∀ s1 : Int32, s1 = nI (pastPrev nx) → bk_X1_restore_26 G (d + 2) (evQV fun S' => evBut S S' (fun a b => ofFleet f1 a b ∨ a = 16) ∧ (∀ i k, i < 4 → k < 33 → shp S' (4 * f1 + i) k = shp S (4 * (1 + pastPrev nx) + i) k) ∧ S'.1 16 0 1 = nI (pastPrev nx) ∧ S'.1 16 0 2 = nI kn) 0 f1 0 s1 S := by
    intro s1 hs1
    refine vb_X1_restore_26 hCl hV0 hV1 hV0 ?_
    intro S1 hS1 S2 hS2
    have g1 : S2.1 16 0 1 = nI (pastPrev nx) := by rw [hS2, evup_o (by decide), hS1, evup_at, hs1]
    have g2 : S2.1 16 0 2 = nI kn := by rw [hS2, evup_at, hS1, evup_o (by decide), h2, nI_pred]
    have hsp : ∀ t k, shp S2 t k = shp S t k := by
      intro t k
      rw [hS2, hS1]
      unfold shp
      rw [evup_ne (by rintro ⟨y, -⟩; cases y), evup_ne (by rintro ⟨y, -⟩; cases y), evup_ne (by rintro ⟨y, -⟩; cases y), evup_ne (by rintro ⟨y, -⟩; cases y)]
    refine ⟨by rw [g1]; exact vp_in_nI hpp (by omega), ?_⟩
    rw [g1, nI_clamp (by omega)]
    refine (c_fleetLike (f1 := 1 + pastPrev nx) hCl hV1 (hCl.2 17 0 (pastPrev nx) (hCl.1 16 0 0 17 hV0 rfl) rfl hpp) hne).mono ?_
    rintro _ S4 ⟨rfl, hb, hs⟩
    refine ⟨rfl, ⟨fun a b c z => ?_, ?_⟩, fun i k hi hk => ?_, ?_, ?_⟩
    · rw [hb.1 a b c (fun y => z (Or.inl y)), hS2, hS1, evup_ne (fun y => z (Or.inr y.1)), evup_ne (fun y => z (Or.inr y.1))]
    · rw [hb.2, hS2, hS1]
      rfl
    · rw [hs i k hi hk, hsp]
    · rw [hb.1 16 0 1 (by rintro ⟨h | h, -⟩ <;> cases h), g1]
    · rw [hb.1 16 0 2 (by rintro ⟨h | h, -⟩ <;> cases h), g2]
  refine vm_X1_restore (vb_X1_restore_0 hCl hV0 hV1 ⟨fun _ => ?_, fun h => ?_⟩)
  · rw [h1]
    refine ⟨fun h => fin 5 ?_, fun h => fin _ ?_⟩
    · unfold pastPrev
      rw [if_neg (fun z => absurd h (nI_nle z (by omega)))]
      rfl
    · unfold pastPrev
      have h0 : 0 < nx := Nat.pos_of_ne_zero (fun z => h (by rw [z]; decide))
      rw [if_pos h0, show nx = (nx - 1) + 1 by omega, nI_pred]
      rfl
  · rw [h2] at h
    exact absurd h (nI_ne0 (by omega) (by omega))
theorem c_known (hCl : evCl G) (hV0 : (16, 0) ∈ evKs G) : evSp G yX1_known M_X1_known d [.ref (evad G 16 0)] S (evQI fun r S' => r = S.1 16 0 2 ∧ S' = S) :=
  vm_X1_known (vb_X1_known_0 hCl hV0 ⟨rfl, rfl⟩)
theorem c_lose (hCl : evCl G) (hV0 : (16, 0) ∈ evKs G) : evSp G yX1_lose M_X1_lose d [.ref (evad G 16 0)] S (evQV fun S' => S' = evup S 16 0 2 0) :=
  vm_X1_lose (vb_X1_lose_0 hCl hV0 (fun S1 h => h))
end C4b
