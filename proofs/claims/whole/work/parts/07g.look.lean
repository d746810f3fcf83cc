/-! which and look: what they answer; the class -/
def mlA (A : Ab) (i : Nat) (h : Int) : Int32 := iI (mileS (A.1 i) (nF (A.1 i)) (nL (A.1 i)) h)
def agr (A : Ab) (i : Nat) : Bool := A.2.2.2.2.all (fun p => decide (mlA A i p.1 = iI p.2))
def whB (A : Ab) : Nat → Int32
  | 0 => 0
  | n + 1 => if agr A n = true then whB A n ||| (1 <<< (nI n &&& 31)) else whB A n
def o_which (A : Ab) : Int32 × Ab := (whB A 4, A)
def bt (b : Int32) (i : Nat) : Bool := decide (¬ ((b >>> (nI i &&& 31)) &&& 1) = 0)
def alk (b : Int32) (M : Nat → Int32) (i : Nat) : Nat → Nat
  | 0 => 1
  | j + 1 => alk b M i j + (if bt b j = true ∧ M j = M i then 1 else 0)
def mst (b : Int32) (M : Nat → Int32) : Nat → Nat
  | 0 => 0
  | i + 1 => if bt b i = true then max (mst b M i) (alk b M i i) else mst b M i
def lkL (f : Nat → Nat) : Nat → Int32 → Nat → Int32
  | 0, best, _ => best
  | n + 1, best, least => if f (100 - (n + 1)) < least then lkL f n (nI (100 - (n + 1))) (f (100 - (n + 1))) else lkL f n best least
def o_look (A : Ab) : Int32 × Ab := (if (whB A 4 &&& (whB A 4 - 1)) = 0 then -9 else lkL (fun h => mst (whB A 4) (fun i => mlA A i h) 4) 100 (-9) 5, A)
theorem whB_16 (A : Ab) : ∃ b : Fin 16, whB A 4 = nI b.val := by
  have : ∀ c0 c1 c2 c3 : Bool, ∃ b : Fin 16, (if c3 = true then (if c2 = true then (if c1 = true then (if c0 = true then (0 : Int32) ||| (1 <<< (nI 0 &&& 31)) else 0) ||| (1 <<< (nI 1 &&& 31)) else (if c0 = true then (0 : Int32) ||| (1 <<< (nI 0 &&& 31)) else 0)) ||| (1 <<< (nI 2 &&& 31)) else (if c1 = true then (if c0 = true then (0 : Int32) ||| (1 <<< (nI 0 &&& 31)) else 0) ||| (1 <<< (nI 1 &&& 31)) else (if c0 = true then (0 : Int32) ||| (1 <<< (nI 0 &&& 31)) else 0))) ||| (1 <<< (nI 3 &&& 31)) else (if c2 = true then (if c1 = true then (if c0 = true then (0 : Int32) ||| (1 <<< (nI 0 &&& 31)) else 0) ||| (1 <<< (nI 1 &&& 31)) else (if c0 = true then (0 : Int32) ||| (1 <<< (nI 0 &&& 31)) else 0)) ||| (1 <<< (nI 2 &&& 31)) else (if c1 = true then (if c0 = true then (0 : Int32) ||| (1 <<< (nI 0 &&& 31)) else 0) ||| (1 <<< (nI 1 &&& 31)) else (if c0 = true then (0 : Int32) ||| (1 <<< (nI 0 &&& 31)) else 0)))) = nI b.val := by decide
  exact this (agr A 0) (agr A 1) (agr A 2) (agr A 3)
def bcE (l0 : Int32) : Int32 :=
  let v1 := (l0 - (((l0.toUInt32 >>> ((1 : Int32).toUInt32 &&& Int32.toUInt32 31)).toInt32) &&& 1431655765))
  let v2 := ((v1 &&& 858993459) + (((v1.toUInt32 >>> ((2 : Int32).toUInt32 &&& Int32.toUInt32 31)).toInt32) &&& 858993459))
  let v3 := ((v2 + ((v2.toUInt32 >>> ((4 : Int32).toUInt32 &&& Int32.toUInt32 31)).toInt32)) &&& 252645135)
  let v4 := (v3 + ((v3.toUInt32 >>> ((8 : Int32).toUInt32 &&& Int32.toUInt32 31)).toInt32))
  let v5 := (v4 + ((v4.toUInt32 >>> ((16 : Int32).toUInt32 &&& Int32.toUInt32 31)).toInt32))
  v5 &&& 63
theorem bc16 : ∀ b : Fin 16, 2 ≤ bcE (nI b.val) ↔ ¬ (nI b.val &&& (nI b.val - 1)) = 0 := by decide
theorem ssm_b {D : Nat → Int} {f l : Nat} {h : Int} (w : WfP D f l) (hho : ∀ k, f ≤ k → k < l → 0 < hoA D f l k) : ∀ k, k ≤ l → 0 ≤ ssm D f l h k ∧ ssm D f l h k ≤ 594 + 99 * (k : Int) := by
  have hf := far_0 (geoD w) (e := f) w.2.2.1
  intro k
  induction k with
  | zero => intro _; unfold ssm; omega
  | succ k ih =>
    intro hk
    have i1 := ih (by omega)
    unfold ssm
    by_cases h1 : f ≤ k
    · rw [if_pos h1]
      have hp := hho k h1 (by omega)
      have wk := w.2.2.2.2.2.2.2.2 k (by omega)
      have hs : 0 ≤ sld D f l k h ∧ sld D f l k h ≤ 99 := by
        rw [sld_eq]
        split
        · rename_i hz
          have := Int.tdiv_nonneg (a := snc D f l k h) (b := hoA D f l k) (by omega) (by omega)
          omega
        · omega
      omega
    · rw [if_neg h1]; omega
theorem mile_b {D : Nat → Int} {f l : Nat} {h : Int} (w : WfP D f l) : -9 ≤ mileS D f l h ∧ mileS D f l h ≤ 2000 := by
  unfold mileS
  split
  · rename_i hz
    have := ssm_b (h := h) w (fun k k1 k2 => stand_ho w hz.1 k1 k2) l (by omega)
    have := w.2.2.2.1
    omega
  · omega
theorem mlA_not {A : Ab} (w : WfA A) {i : Nat} (hi : i < 4) {h : Int} : ¬ (-2000000 : Int32) = mlA A i h := by
  have b := mile_b (h := h) (w.1 i hi).p
  unfold mlA
  rw [show (-2000000 : Int32) = iI (-2000000) from rfl, iI_eq (rg_of (A := 2000000) (by omega) (by omega)) (rg_of (A := 2000000) (by omega) (by omega))]
  omega
theorem alk_b {b : Int32} {M : Nat → Int32} {i : Nat} : ∀ j, 1 ≤ alk b M i j ∧ alk b M i j ≤ 1 + j := by
  intro j
  induction j with
  | zero => unfold alk; omega
  | succ j ih => unfold alk; split <;> omega
theorem mst_b {b : Int32} {M : Nat → Int32} : ∀ i, mst b M i ≤ i := by
  intro i
  induction i with
  | zero => unfold mst; omega
  | succ i ih =>
    unfold mst
    have := (alk_b (b := b) (M := M) (i := i) i).2
    split
    · omega
    · omega
theorem PlnR.same {S S' : evS} {x : Nat} {D : Nat → Int} {f l : Nat} (h : PlnR S x D f l) (hs : ∀ a c, 6 ≤ a → a ≤ 15 → S'.1 a x c = S.1 a x c) : PlnR S' x D f l := by
  have h6 := fun c => hs 6 c (by decide) (by decide)
  have h7 := fun c => hs 7 c (by decide) (by decide)
  have h8 := fun c => hs 8 c (by decide) (by decide)
  have h9 := fun c => hs 9 c (by decide) (by decide)
  have h10 := fun c => hs 10 c (by decide) (by decide)
  have h11 := fun c => hs 11 c (by decide) (by decide)
  have h12 := fun c => hs 12 c (by decide) (by decide)
  have h13 := fun c => hs 13 c (by decide) (by decide)
  have h14 := fun c => hs 14 c (by decide) (by decide)
  have h15 := fun c => hs 15 c (by decide) (by decide)
  unfold PlnR PlC PlM PlS at *
  simp only [h6, h7, h8, h9, h10, h11, h12, h13, h14, h15]
  exact h
def AllP (A : Ab) (S : evS) : Prop := ∀ i, i < 4 → PlnR S i (A.1 i) (nF (A.1 i)) (nL (A.1 i))
section C7g
variable {G : evG} {d : Nat} {S : evS}
theorem x_drawAll_loop (hCl : evCl G) (hV : (0, 0) ∈ evKs G) {A : Ab} (w : WfA A) {S0 : evS} :
    ∀ n i (S : evS), i + n = 4 → RepC A S → FrC S0 S → (∀ j, j < i → PlnR S j (A.1 j) (nF (A.1 j)) (nL (A.1 j))) → bk_X5_drawAllPlans_2 G (d + 4) (evQV fun S' => RepC A S' ∧ FrC S0 S' ∧ AllP A S') 0 (nI i) S := by
  intro n
  induction n with
  | zero =>
    intro i S hi h f hp
    obtain rfl : i = 4 := by omega
    exact vb_X5_drawAllPlans_2 hCl hV ⟨fun _ => ⟨h, f, hp⟩, fun z => absurd (by decide) z⟩
  | succ n ih =>
    intro i S hi h f hp
    have hi4 : i < 4 := by omega
    refine vb_X5_drawAllPlans_2 hCl hV ⟨fun z => absurd z (nI_ge (b := 4) (by omega) (by omega)), fun _ => ⟨vp_in_nI hi4 (by omega), vp_in_nI hi4 (by omega), ?_⟩⟩
    rw [nI_clamp (by omega)]
    refine (c_draw (d := d) hCl (k_plan hCl hV hi4) (k_ship hCl hV hi4) (w.1 i hi4).p (h.1.sh hi4)).mV ?_
    rintro S3 ⟨b3, P3⟩
    obtain ⟨h3, f3⟩ := h.plan b3
    intro v4 hv
    have ev : v4 = nI (i + 1) := by rw [hv, iI_n, iI_1, iI_add, iI_n]; rfl
    rw [ev]
    refine ih (i + 1) S3 (by omega) h3 (f.tr f3) (fun j hj => ?_)
    by_cases e : j = i
    · subst e; exact P3
    · exact (hp j (by omega)).same (fun a c _ _ => b3.1 a j c (by rintro ⟨z, -⟩; exact e z))
theorem x_drawAll (hCl : evCl G) (hV : (0, 0) ∈ evKs G) {A : Ab} (w : WfA A) (h : RepC A S) : evSp G yX5_drawAllPlans M_X5_drawAllPlans (d + 5) [.ref (evad G 0 0)] S (evQV fun S' => RepC A S' ∧ FrC S S' ∧ AllP A S') :=
  vm_X5_drawAllPlans (vb_X5_drawAllPlans_0 hCl hV (x_drawAll_loop (d := d) hCl hV w 4 0 S (by omega) h FrC.rf (fun j hj => by omega)))
theorem x_mileAt (hCl : evCl G) (hV : (0, 0) ∈ evKs G) {A : Ab} (w : WfA A) (P : AllP A S) {i : Nat} (hi : i < 4) {t : Int32} {h : Int} (ht : t = iI h) (hh : 0 ≤ h ∧ h ≤ 999) : evSp G yX2_mileAt M_X2_mileAt (d + 3) [.ref (evad G 6 i), .int t] S (evQI fun r S' => r = mlA A i h ∧ S' = S) := by
  subst ht
  exact c_mileAt (d := d) hCl (k_plan hCl hV hi) (w.1 i hi).p (P i hi) hh
theorem x_agrees_loop (hCl : evCl G) (hV : (0, 0) ∈ evKs G) {A : Ab} (w : WfA A) (h : RepC A S) (P : AllP A S) {i : Nat} (hi : i < 4) :
    ∀ n j, j + n = A.2.2.2.2.length → bk_X5_agrees_2 G (d + 3) (evQI fun r S' => r = (if (A.2.2.2.2.drop j).all (fun p => decide (mlA A i p.1 = iI p.2)) = true then 1 else 0) ∧ S' = S) 0 i (nI j) S := by
  have hl := w.2.2.2.2.1
  intro n
  induction n with
  | zero =>
    intro j hj
    refine vb_X5_agrees_2 hCl hV (k_plan hCl hV hi) ⟨fun _ => ⟨?_, rfl⟩, fun z => absurd ?_ z⟩
    · rw [List.drop_of_length_le (by omega)]; rfl
    · rw [h.2.2.2.2.1]; exact nI_le (by omega) (by omega)
  | succ n ih =>
    intro j hj
    have hjl : j < A.2.2.2.2.length := by omega
    refine vb_X5_agrees_2 hCl hV (k_plan hCl hV hi) ⟨fun z => absurd z ?_, fun _ => ⟨vp_in_nI (by omega) (by omega), ?_⟩⟩
    · rw [h.2.2.2.2.1]; exact nI_ge (by omega) (by omega)
    · rw [nI_clamp (by omega)]
      have hg : A.2.2.2.2[j]? = some A.2.2.2.2[j] := List.getElem?_eq_getElem hjl
      obtain ⟨g1, g2⟩ := h.2.2.2.2.2 j _ hg
      have hb := w.2.2.2.2.2 _ (List.getElem_mem hjl)
      refine (x_mileAt (d := d) hCl hV w P hi g1 hb.1).mI ?_
      rintro r2 S3 ⟨rfl, rfl⟩
      refine ⟨vp_in_nI (by omega) (by omega), ?_⟩
      rw [g2, List.drop_eq_getElem_cons hjl]
      refine ⟨fun e => ?_, fun e => ?_⟩
      · intro v5 hv
        have ev : v5 = nI (j + 1) := by rw [hv, iI_n, iI_1, iI_add, iI_n]; rfl
        rw [ev]
        have := ih (j + 1) (by omega)
        simp only [List.all_cons, e, decide_true, Bool.true_and]
        exact this
      · refine ⟨?_, rfl⟩
        simp only [List.all_cons, e, decide_false, Bool.false_and]
        rfl
theorem x_agrees (hCl : evCl G) (hV : (0, 0) ∈ evKs G) {A : Ab} (w : WfA A) (h : RepC A S) (P : AllP A S) {i : Nat} (hi : i < 4) : evSp G yX5_agrees M_X5_agrees (d + 4) [.ref (evad G 0 0), .ref (evad G 6 i)] S (evQI fun r S' => r = (if agr A i = true then 1 else 0) ∧ S' = S) :=
  vm_X5_agrees (vb_X5_agrees_0 hCl hV (k_plan hCl hV hi) (x_agrees_loop (d := d) hCl hV w h P hi A.2.2.2.2.length 0 (by omega)))
theorem x_suspects_loop (hCl : evCl G) (hV : (0, 0) ∈ evKs G) {A : Ab} (w : WfA A) (h : RepC A S) (P : AllP A S) :
    ∀ n i, i + n = 4 → bk_X5_suspects_4 G (d + 4) (evQI fun r S' => r = whB A 4 ∧ S' = S) 0 (whB A i) (nI i) S := by
  intro n
  induction n with
  | zero =>
    intro i hi
    obtain rfl : i = 4 := by omega
    exact vb_X5_suspects_4 hCl hV ⟨fun _ => ⟨rfl, rfl⟩, fun z => absurd (by decide) z⟩
  | succ n ih =>
    intro i hi
    have hi4 : i < 4 := by omega
    refine vb_X5_suspects_4 hCl hV ⟨fun z => absurd z (nI_ge (b := 4) (by omega) (by omega)), fun _ => ⟨vp_in_nI hi4 (by omega), ?_⟩⟩
    rw [nI_clamp (by omega)]
    refine (x_agrees (d := d) hCl hV w h P hi4).mI ?_
    rintro r2 S3 ⟨rfl, rfl⟩
    have hn : ∀ l : Int32, l = whB A (i + 1) → bk_X5_suspects_28 G (d + 4) (evQI fun r S' => r = whB A 4 ∧ S' = S3) 0 l (nI i) S3 := by
      rintro l rfl
      refine vb_X5_suspects_28 hCl hV ?_
      intro v1 hv
      have ev : v1 = nI (i + 1) := by rw [hv, iI_n, iI_1, iI_add, iI_n]; rfl
      rw [ev]
      exact ih (i + 1) (by omega)
    by_cases e : agr A i = true
    · rw [if_pos e]
      refine ⟨fun z => absurd z (by decide), fun _ => ?_⟩
      intro v4 hv
      refine hn _ ?_
      rw [hv]
      show _ = if agr A i = true then _ else _
      rw [if_pos e]
    · rw [if_neg e]
      refine ⟨fun _ => hn _ ?_, fun z => absurd rfl z⟩
      show _ = if agr A i = true then _ else _
      rw [if_neg e]
theorem x_suspects (hCl : evCl G) (hV : (0, 0) ∈ evKs G) {A : Ab} (w : WfA A) (h : RepC A S) (P : AllP A S) : evSp G yX5_suspects M_X5_suspects (d + 5) [.ref (evad G 0 0)] S (evQI fun r S' => r = whB A 4 ∧ S' = S) :=
  vm_X5_suspects (vb_X5_suspects_0 hCl hV (x_suspects_loop (d := d) hCl hV w h P 4 0 (by omega)))
theorem x_which (hCl : evCl G) (hV : (0, 0) ∈ evKs G) {A : Ab} (h : RepC A S) (w : WfA A) : evSp G yX5_which M_X5_which (d + 6) [.ref (evad G 0 0)] S (xQ S (o_which A)) := by
  refine vm_X5_which (vb_X5_which_0 hCl hV ((x_drawAll (d := d) hCl hV w h).mV ?_))
  rintro S1 ⟨h1, f1, P1⟩
  refine (x_suspects (d := d) hCl hV w h1 P1).mI ?_
  rintro r2 S3 ⟨rfl, rfl⟩
  exact ⟨rfl, h1, f1⟩
theorem RepC.plc {A : Ab} {S : evS} (h : RepC A S) {j : Nat} {v : Int32} : RepC A (evup S 26 0 j v) ∧ FrC S (evup S 26 0 j v) :=
  ⟨h.same (fun x b c z => evup_c (by rintro ⟨z1, z2, z3⟩; unfold RelC at z; omega)), FrC.up (by omega)⟩
theorem AllP.plc {A : Ab} {S : evS} (h : AllP A S) {j : Nat} {v : Int32} : AllP A (evup S 26 0 j v) :=
  fun i hi => (h i hi).same (fun a c h1 h2 => evup_c (by rintro ⟨z, -⟩; omega))
theorem x_alike_in (hCl : evCl G) (hV : (0, 0) ∈ evKs G) {b l3 : Int32} {l2 : Int32} {M : Nat → Int32} {q : Int32 → evS → Prop} {i m : Nat} (hi : i < 4) (hl3 : l3 = nI m) (hm : m ≤ 4) (hbi : bt b i = true) (hM : ¬ (-2000000 : Int32) = M i) (hp : ∀ j, j < i → S.1 26 0 j = if bt b j = true then M j else -2000000) (hpi : S.1 26 0 i = M i)
    (hq : bk_X5_mostAlike_96 G d (evQI q) 0 b l2 (nI (max m (alk b M i i))) (nI i) S) :
    ∀ n j, j + n = i → bk_X5_mostAlike_56 G d (evQI q) 0 b l2 l3 (nI i) (nI (alk b M i j)) (nI j) S := by
  intro n
  have ab := (alk_b (b := b) (M := M) (i := i) i).2
  induction n with
  | zero =>
    intro j hj
    obtain rfl : j = i := by omega
    refine vb_X5_mostAlike_56 hCl hV ⟨fun _ => (c_max hCl).mI ?_, fun z => absurd (nI_le (by omega) (by omega)) z⟩
    rintro r1 S2 ⟨rfl, rfl⟩
    have e : (if l3 < nI (alk b M j j) then nI (alk b M j j) else l3) = nI (max m (alk b M j j)) := by
      subst hl3
      by_cases c : m < alk b M j j
      · rw [if_pos (nI_lt c (by omega)), Nat.max_eq_right (by omega)]
      · rw [if_neg (nI_nlt (by omega) (by omega)), Nat.max_eq_left (by omega)]
    rw [e]
    exact hq
  | succ n ih =>
    intro j hj
    have hji : j < i := by omega
    have ab2 := (alk_b (b := b) (M := M) (i := i) j).2
    refine vb_X5_mostAlike_56 hCl hV ⟨fun z => absurd z (nI_ge (by omega) (by omega)), fun _ => ⟨vp_in_nI (by omega) (by omega), vp_in_nI (by omega) (by omega), ?_⟩⟩
    rw [nI_clamp (by omega), nI_clamp (by omega), hp j hji, hpi]
    have nx : ∀ l5 : Int32, l5 = nI (alk b M i (j + 1)) → bk_X5_mostAlike_83 G d (evQI q) 0 b l2 l3 (nI i) l5 (nI j) S := by
      rintro l5 rfl
      refine vb_X5_mostAlike_83 hCl hV ?_
      intro v1 hv
      have ev : v1 = nI (j + 1) := by rw [hv, iI_n, iI_1, iI_add, iI_n]; rfl
      rw [ev]
      exact ih (j + 1) (by omega)
    refine ⟨fun hz => nx _ ?_, fun hz => ?_⟩
    · show _ = nI (alk b M i j + _)
      rw [if_neg (by rintro ⟨c1, c2⟩; rw [if_pos c1] at hz; exact hz c2)]
      rfl
    · intro v5 hv
      refine nx _ ?_
      have hb : bt b j = true ∧ M j = M i := by
        by_cases c : bt b j = true
        · rw [if_pos c] at hz; exact ⟨c, hz⟩
        · rw [if_neg c] at hz; exact absurd hz hM
      show _ = nI (alk b M i j + _)
      rw [if_pos hb, hv, iI_n, iI_1, iI_add, iI_n]
      rfl
theorem x_alike_loop (hCl : evCl G) (hV : (0, 0) ∈ evKs G) {A : Ab} (w : WfA A) {b l2 : Int32} {h : Int} (ht : l2 = iI h) (hh : 0 ≤ h ∧ h ≤ 999) {S0 : evS} :
    ∀ n i (S : evS), i + n = 4 → RepC A S → FrC S0 S → AllP A S → (∀ j, j < i → S.1 26 0 j = if bt b j = true then mlA A j h else -2000000) → bk_X5_mostAlike_5 G (d + 3) (evQI fun r S' => r = nI (mst b (fun i => mlA A i h) 4) ∧ RepC A S' ∧ FrC S0 S' ∧ AllP A S') 0 b l2 (nI (mst b (fun i => mlA A i h) i)) (nI i) S := by
  intro n
  induction n with
  | zero =>
    intro i S hi hR f P hp
    obtain rfl : i = 4 := by omega
    exact vb_X5_mostAlike_5 hCl hV ⟨fun _ => ⟨rfl, hR, f, P⟩, fun z => absurd (by decide) z⟩
  | succ n ih =>
    intro i S hi hR f P hp
    have hi4 : i < 4 := by omega
    have mb := mst_b (b := b) (M := fun i => mlA A i h) i
    refine vb_X5_mostAlike_5 hCl hV ⟨fun z => absurd z (nI_ge (b := 4) (by omega) (by omega)), fun _ => ⟨fun hz => ?_, fun hz => ?_⟩⟩
    · have hb : bt b i = true := by unfold bt; exact decide_eq_true hz
      refine ⟨vp_in_nI hi4 (by omega), ?_⟩
      rw [nI_clamp (by omega)]
      refine (x_mileAt (d := d) hCl hV w P hi4 ht hh).mI ?_
      rintro r2 S3 ⟨rfl, rfl⟩
      refine ⟨vp_in_nI hi4 (by omega), ?_⟩
      rintro S5 rfl
      refine x_alike_in (M := fun i => mlA A i h) hCl hV hi4 rfl (by omega) hb (mlA_not w hi4) (fun j hj => ?_) evup_at ?_ i 0 (by omega)
      · rw [evup_o (by omega)]; exact hp j hj
      · refine vb_X5_mostAlike_96 hCl hV ?_
        intro v1 hv
        have ev : v1 = nI (i + 1) := by rw [hv, iI_n, iI_1, iI_add, iI_n]; rfl
        rw [ev]
        have em : max (mst b (fun i => mlA A i h) i) (alk b (fun i => mlA A i h) i i) = mst b (fun i => mlA A i h) (i + 1) := by
          show _ = if bt b i = true then _ else _
          rw [if_pos hb]
        rw [em]
        refine ih (i + 1) _ (by omega) hR.plc.1 (f.tr hR.plc.2) P.plc (fun j hj => ?_)
        by_cases e : j = i
        · subst e; rw [evup_at, if_pos hb]
        · rw [evup_o e]; exact hp j (by omega)
    · have hb : ¬ bt b i = true := by unfold bt; rw [decide_eq_true_eq]; exact not_not_intro hz
      refine ⟨vp_in_nI hi4 (by omega), ?_⟩
      rw [nI_clamp (by omega)]
      rintro S7 rfl
      refine vb_X5_mostAlike_96 hCl hV ?_
      intro v1 hv
      have ev : v1 = nI (i + 1) := by rw [hv, iI_n, iI_1, iI_add, iI_n]; rfl
      rw [ev]
      have em : mst b (fun i => mlA A i h) i = mst b (fun i => mlA A i h) (i + 1) := by
        show _ = if bt b i = true then _ else _
        rw [if_neg hb]
      rw [em]
      refine ih (i + 1) _ (by omega) hR.plc.1 (f.tr hR.plc.2) P.plc (fun j hj => ?_)
      by_cases e : j = i
      · subst e; rw [evup_at, if_neg hb]
      · rw [evup_o e]; exact hp j (by omega)
theorem x_mostAlike (hCl : evCl G) (hV : (0, 0) ∈ evKs G) {A : Ab} (w : WfA A) {b l2 : Int32} {h : Int} (ht : l2 = iI h) (hh : 0 ≤ h ∧ h ≤ 999) (hR : RepC A S) (P : AllP A S) : evSp G yX5_mostAlike M_X5_mostAlike (d + 4) [.ref (evad G 0 0), .int b, .int l2] S (evQI fun r S' => r = nI (mst b (fun i => mlA A i h) 4) ∧ RepC A S' ∧ FrC S S' ∧ AllP A S') :=
  vm_X5_mostAlike (vb_X5_mostAlike_0 hCl hV (x_alike_loop (d := d) hCl hV w ht hh 4 0 S (by omega) hR FrC.rf P (fun j hj => by omega)))
theorem x_look_loop (hCl : evCl G) (hV : (0, 0) ∈ evKs G) {A : Ab} (w : WfA A) {b : Int32} {S0 : evS} :
    ∀ n (S : evS) (best : Int32) (least : Nat), n ≤ 100 → least ≤ 5 → RepC A S → FrC S0 S → AllP A S → bk_X5_look_28 G (d + 4) (evQI fun r S' => r = lkL (fun h => mst b (fun i => mlA A i h) 4) n best least ∧ RepC A S' ∧ FrC S0 S') 0 b best (nI least) (nI (100 - n)) S := by
  intro n
  induction n with
  | zero =>
    intro S best least _ _ hR f P
    exact vb_X5_look_28 hCl hV ⟨fun _ => ⟨rfl, hR, f⟩, fun z => absurd (by decide) z⟩
  | succ n ih =>
    intro S best least hn hle hR f P
    refine vb_X5_look_28 hCl hV ⟨fun z => absurd z (nI_nlt (a := 99) (by omega) (by omega)), fun _ => ?_⟩
    refine (x_mostAlike (d := d) hCl hV w (h := ((100 - (n + 1) : Nat) : Int)) (iI_n _) (by omega) hR P).mI ?_
    rintro r1 S2 ⟨rfl, h2, f2, P2⟩
    have mb := mst_b (b := b) (M := fun i => mlA A i ((100 - (n + 1) : Nat) : Int)) 4
    have nx : ∀ best' least', least' ≤ 5 → bk_X5_look_56 G (d + 4) (evQI fun r S' => r = lkL (fun h => mst b (fun i => mlA A i h) 4) n best' least' ∧ RepC A S' ∧ FrC S0 S') 0 b best' (nI least') (nI (100 - (n + 1))) S2 := by
      intro best' least' hl'
      refine vb_X5_look_56 hCl hV ?_
      intro v1 hv
      have ev : v1 = nI (100 - n) := by rw [hv, iI_n, iI_1, iI_add, iI_n]; congr 1; omega
      rw [ev]
      exact ih S2 best' least' (by omega) hl' h2 (f.tr f2) P2
    unfold lkL
    refine ⟨fun hz => ?_, fun hz => ?_⟩
    · rw [if_neg (by intro c; exact absurd hz (nI_ge c (by omega)))]
      exact nx best least hle
    · have hc : mst b (fun i => mlA A i ((100 - (n + 1) : Nat) : Int)) 4 < least := by
        rcases Nat.lt_or_ge (mst b (fun i => mlA A i ((100 - (n + 1) : Nat) : Int)) 4) least with c | c
        · exact c
        · exact absurd (nI_le c (by omega)) hz
      rw [if_pos hc]
      exact nx _ _ (by omega)
theorem x_look (hCl : evCl G) (hV : (0, 0) ∈ evKs G) {A : Ab} (h : RepC A S) (w : WfA A) : evSp G yX5_look M_X5_look (d + 6) [.ref (evad G 0 0)] S (xQ S (o_look A)) := by
  refine vm_X5_look (vb_X5_look_0 hCl hV ((x_drawAll (d := d) hCl hV w h).mV ?_))
  rintro S1 ⟨h1, f1, P1⟩
  refine (x_suspects (d := d) hCl hV w h1 P1).mI ?_
  rintro r2 S3 ⟨rfl, rfl⟩
  refine vm_J6_bitCount_0f7a4 (vb_J6_bitCount_0f7a4_0 hCl ?_)
  rintro v1 rfl v2 rfl v3 rfl v4 rfl v5 rfl
  obtain ⟨b, hb⟩ := whB_16 A
  have key := bc16 b
  rw [← hb] at key
  unfold o_look
  refine ⟨fun z => ?_, fun z => ?_⟩
  · rw [if_neg (key.mp z)]
    exact x_look_loop (d := d + 1) hCl hV w 100 _ (-9) 5 (by omega) (by omega) h1 f1 P1
  · rw [if_pos (by
      rcases Classical.em ((whB A 4 &&& (whB A 4 - 1)) = 0) with c | c
      · exact c
      · exact absurd (key.mpr c) z)]
    exact ⟨rfl, h1, f1⟩
end C7g
