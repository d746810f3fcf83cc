/-! slack and eased: what they answer; the class -/
abbrev stq (D : Nat → Int) (f l : Nat) : Prop := 0 < pNeed D f l ∧ pNeed D f l ≤ D 1
def hlD (D : Nat → Int) (h : Nat) : Nat → Int := upI D 3 (D 3 + h)
def slk (D : Nat → Int) : Nat → Int32
  | 0 => -9
  | h + 1 => if stq (hlD D h) (nF D) (nL D) then nI h else slk D h
def o_slack (A : Ab) (i : Int32) : Int32 × Ab := if badI i then (-1, A) else (slk (shN A i) 100, A)
def eaD (D : Nat → Int) (k s : Nat) : Nat → Int := if s = 0 then upI D (9 + (4 * k + 2)) (D (9 + (4 * k + 2)) - 1) else upI D (9 + (4 * k + 3)) (D (9 + (4 * k + 3)) + 1)
def csI (D : Nat → Int) (f l : Nat) : Int32 := iI (csm D f l l)
def eaS (D : Nat → Int) (k s : Nat) (st : Option Int32 × Int32) : Option Int32 × Int32 :=
  if stq (eaD D k s) (nF D) (nL D) then (match st.1 with
    | none => (some (csI (eaD D k s) (nF D) (nL D)), nI (2 * (k + 1) + s))
    | some l => if csI (eaD D k s) (nF D) (nL D) < l then (some (csI (eaD D k s) (nF D) (nL D)), nI (2 * (k + 1) + s)) else st) else st
def eaL (D : Nat → Int) : Nat → Option Int32 × Int32 → Option Int32 × Int32
  | 0, st => st
  | n + 1, st => eaL D n (eaS D (nL D - (n + 1)) 1 (eaS D (nL D - (n + 1)) 0 st))
def ea0 (D : Nat → Int) : Option Int32 × Int32 := (if stq D (nF D) (nL D) then some (csI D (nF D) (nL D)) else none, -9)
def o_eased (A : Ab) (i : Int32) : Int32 × Ab := if badI i then (-1, A) else ((eaL (shN A i) (nL (shN A i) - nF (shN A i)) (ea0 (shN A i))).2, A)
theorem WfS.hl {D : Nat → Int} (w : WfS D) {h : Nat} (hh : h ≤ 99) : WfP (hlD D h) (nF D) (nL D) := by
  obtain ⟨a1, a2, a3, a4, a5, a6, a7, a8, a9⟩ := w.p
  have w3 := w.2.2.1
  refine ⟨a1, a2, a3, a4, ?_, ?_, a7, a8, fun k hk => ?_⟩
  · show 0 ≤ D 3 + (h : Int); omega
  · show D 3 + (h : Int) ≤ 10100; omega
  · have e : ∀ j, hlD D h (9 + j) = D (9 + j) := fun j => by unfold hlD upI; rw [if_neg (by omega)]
    rw [e, e, e, e]
    exact a9 k hk
theorem eaD_o {D : Nat → Int} {k s j : Nat} (h1 : ¬ (s = 0 ∧ j = 9 + (4 * k + 2))) (h2 : ¬ (s ≠ 0 ∧ j = 9 + (4 * k + 3))) : eaD D k s j = D j := by
  unfold eaD
  by_cases hs : s = 0
  · rw [if_pos hs]; unfold upI; rw [if_neg (fun z => h1 ⟨hs, z⟩)]
  · rw [if_neg hs]; unfold upI; rw [if_neg (fun z => h2 ⟨hs, z⟩)]
theorem WfS.ea {D : Nat → Int} (w : WfS D) {k s : Nat} : WfP (eaD D k s) (nF D) (nL D) := by
  obtain ⟨a1, a2, a3, a4, a5, a6, a7, a8, a9⟩ := w.p
  have e : ∀ j, j < 9 → eaD D k s j = D j := fun j hj => eaD_o (by omega) (by omega)
  refine ⟨by rw [e 2 (by omega)]; exact a1, by rw [e 0 (by omega)]; exact a2, a3, a4, by rw [e 3 (by omega)]; exact a5, by rw [e 3 (by omega)]; exact a6, by rw [e 1 (by omega)]; exact a7, by rw [e 1 (by omega)]; exact a8, fun m hm => ?_⟩
  have b := w.2.2.2.2 m hm
  have e0 : eaD D k s (9 + 4 * m) = D (9 + 4 * m) := eaD_o (by omega) (by omega)
  have e1 : eaD D k s (9 + (4 * m + 1)) = D (9 + (4 * m + 1)) := eaD_o (by omega) (by omega)
  have e2 : eaD D k s (9 + (4 * m + 2)) = D (9 + (4 * m + 2)) ∨ eaD D k s (9 + (4 * m + 2)) = D (9 + (4 * m + 2)) - 1 := by
    by_cases z : s = 0 ∧ m = k
    · obtain ⟨rfl, rfl⟩ := z
      right; unfold eaD; rw [if_pos rfl]; unfold upI; rw [if_pos rfl]
    · left; exact eaD_o (by omega) (by omega)
  have e3 : eaD D k s (9 + (4 * m + 3)) = D (9 + (4 * m + 3)) ∨ eaD D k s (9 + (4 * m + 3)) = D (9 + (4 * m + 3)) + 1 := by
    by_cases z : s ≠ 0 ∧ m = k
    · obtain ⟨z, rfl⟩ := z
      right; unfold eaD; rw [if_neg z]; unfold upI; rw [if_pos rfl]
    · left; exact eaD_o (by omega) (by omega)
  rw [e0, e1]
  omega
theorem eaD_T {D : Nat → Int} (t : WfT D) {k s : Nat} : WfT (eaD D k s) := by
  intro n hn
  rw [eaD_o (by omega) (by omega)]
  exact t n hn
section C7f
variable {G : evG} {d : Nat} {S : evS}
theorem k_trial (hCl : evCl G) (hV : (0, 0) ∈ evKs G) : (3, 36) ∈ evKs G := hCl.1 0 0 5 3 hV rfl
theorem k_tplan (hCl : evCl G) (hV : (0, 0) ∈ evKs G) : (6, 4) ∈ evKs G := hCl.1 0 0 6 6 hV rfl
theorem RepC.trial {A : Ab} {S S' : evS} (h : RepC A S) (hb : evBut S S' (ofShip 36)) : RepC A S' ∧ FrC S S' :=
  ⟨h.same (fun a b c z => hb.1 a b c (by rintro ⟨z1, z2⟩; unfold RelC at z; omega)), FrC.but hb (by rintro a b ⟨z1, z2⟩; omega)⟩
theorem RepC.tup {A : Ab} {S : evS} (h : RepC A S) {a j : Nat} {v : Int32} (ha : a = 4 ∨ a = 5) : RepC A (evup S a 36 j v) ∧ FrC S (evup S a 36 j v) :=
  ⟨h.same (fun x b c z => evup_c (by rintro ⟨z1, z2, z3⟩; unfold RelC at z; omega)), FrC.up (by omega)⟩
theorem x_slack_loop (hCl : evCl G) (hV : (0, 0) ∈ evKs G) {A : Ab} {D : Nat → Int} (w : WfS D) {S0 : evS} :
    ∀ n (S : evS), n ≤ 100 → RepC A S → FrC S0 S → (∀ k, k < 33 → k ≠ 3 → shp S 36 k = iI (D k)) → bk_X5_slack_37 G (d + 4) (evQI fun r S' => r = slk D n ∧ RepC A S' ∧ FrC S0 S') 0 (iI (D 3)) (iI ((n : Int) - 1)) S := by
  intro n
  induction n with
  | zero =>
    intro S _ h f hs
    refine vb_X5_slack_37 hCl hV ⟨fun _ => ⟨rfl, h, f⟩, fun z => absurd ?_ z⟩
    decide
  | succ n ih =>
    intro S hn h f hs
    have e : iI (((n + 1 : Nat) : Int) - 1) = iI n := by congr 1; omega
    rw [e]
    refine vb_X5_slack_37 hCl hV ⟨fun z => absurd z ?_, fun _ => ?_⟩
    · rw [iI_0, iI_lt (rg_n (by omega)) (rg_of (A := 0) (by omega) (by omega))]; omega
    · refine (c_setTrait hCl (k_trial hCl hV) (j := 3) (by omega) rfl).mV ?_
      rintro S1 rfl
      obtain ⟨h1, f1⟩ := h.tup (a := 4) (j := 3) (v := iI (D 3) + iI n) (Or.inl rfl)
      have hsD : ShD (evup S 4 36 3 (iI (D 3) + iI n)) 36 (hlD D n) := by
        intro k hk
        by_cases h3 : k = 3
        · subst h3
          unfold shp
          rw [if_pos (by omega), evup_at, iI_add]
          rfl
        · rw [show hlD D n k = D k from by unfold hlD upI; rw [if_neg h3], ← hs k hk h3]
          unfold shp
          rw [evup_c (by rintro ⟨-, -, z⟩; exact h3 z), evup_c (by rintro ⟨z, -⟩; exact absurd z (by decide))]
      have wp := w.hl (h := n) (by omega)
      refine (c_draw (d := d) hCl (k_tplan hCl hV) (k_trial hCl hV) wp hsD).mV ?_
      rintro S2 ⟨b2, P2⟩
      obtain ⟨h2, f2⟩ := h1.plan b2
      refine (c_stands hCl (k_tplan hCl hV) P2 (need_b wp) w.2.1).mI ?_
      rintro r3 S4 ⟨rfl, rfl⟩
      unfold slk
      by_cases hst : stq (hlD D n) (nF D) (nL D)
      · rw [if_pos hst, if_pos hst]
        exact ⟨fun z => absurd z (by decide), fun _ => ⟨(iI_n n).symm, h2, (f.tr f1).tr f2⟩⟩
      · rw [if_neg hst, if_neg hst]
        refine ⟨fun _ => ?_, fun z => absurd rfl z⟩
        rintro v5 rfl
        rw [show iI (n : Int) + (-1) = iI ((n : Int) - 1) from by rw [show (-1 : Int32) = iI (-1) from rfl, iI_add]; rfl]
        refine ih _ (by omega) h2 ((f.tr f1).tr f2) (fun k hk h3 => ?_)
        rw [← hs k hk h3]
        unfold shp
        rw [b2.1 4 36 k (by rintro ⟨z, -⟩; omega), b2.1 5 36 _ (by rintro ⟨z, -⟩; omega), evup_c (by rintro ⟨-, -, z⟩; exact h3 z), evup_c (by rintro ⟨z, -⟩; exact absurd z (by decide))]
theorem x_slack (hCl : evCl G) (hV : (0, 0) ∈ evKs G) {A : Ab} (h : RepC A S) (w : WfA A) {i : Int32} : evSp G yX5_slack M_X5_slack (d + 5) [.ref (evad G 0 0), .int i] S (xQ S (o_slack A i)) := by
  rcases ship_cases i with hb | ⟨n, hn, rfl⟩
  · rw [show o_slack A i = (-1, A) from if_pos hb]
    refine vm_X5_slack (vb_X5_slack_0 hCl hV ((c_noShip1 hCl hb).mI ?_))
    rintro r S' ⟨rfl, rfl⟩
    exact ⟨fun z => absurd z (by decide), fun _ => ⟨rfl, h, FrC.rf⟩⟩
  · refine vm_X5_slack (vb_X5_slack_0 hCl hV ((c_noShip0 hCl hn).mI ?_))
    rintro r S' ⟨rfl, rfl⟩
    refine ⟨fun _ => ⟨vp_in_nI hn (by omega), ?_⟩, fun z => absurd rfl z⟩
    unfold o_slack
    rw [if_neg (nbad hn), pm_clamp hn]
    unfold shN
    rw [pm_clamp hn]
    refine (c_shipLike (d := d + 3) hCl (k_trial hCl hV) (k_ship hCl hV hn)).mV ?_
    rintro S4 ⟨b4, c4⟩
    obtain ⟨h4, f4⟩ := h.trial b4
    refine (c_trait hCl (k_trial hCl hV) (j := 3) (by omega) rfl).mI ?_
    rintro r5 S6 ⟨rfl, rfl⟩
    have hs : ∀ k, k < 33 → shp S6 36 k = iI (A.1 n k) := fun k hk => by rw [c4 k hk]; exact h.1.sh hn k hk
    have e3 : S6.1 4 36 3 = iI (A.1 n 3) := by have := hs 3 (by omega); unfold shp at this; rw [if_pos (by omega)] at this; exact this
    rw [e3]
    exact x_slack_loop (d := d) hCl hV (w.1 n hn) 100 S6 (by omega) h4 f4 (fun k hk _ => hs k hk)
theorem x_drawEased (hCl : evCl G) (hV : (0, 0) ∈ evKs G) {A : Ab} (h : RepC A S) (w : WfA A) {n k s : Nat} (hn : n < 4) (hk : k < 6) (hs : s ≤ 1) : evSp G yX5_drawEased M_X5_drawEased (d + 5) [.ref (evad G 0 0), .ref (evad G 3 n), .int (nI (k + 1)), .int (nI s)] S (evQV fun S' => RepC A S' ∧ FrC S S' ∧ PlnR S' 4 (eaD (A.1 n) k s) (nF (A.1 n)) (nL (A.1 n))) := by
  refine vm_X5_drawEased (vb_X5_drawEased_0 hCl hV (k_ship hCl hV hn) ((c_shipLike (d := d + 3) hCl (k_trial hCl hV) (k_ship hCl hV hn)).mV ?_))
  rintro S1 ⟨b1, c1⟩
  obtain ⟨h1, f1⟩ := h.trial b1
  have hsD : ∀ k, k < 33 → shp S1 36 k = iI (A.1 n k) := fun k hk => by rw [c1 k hk]; exact h.1.sh hn k hk
  have wp := (w.1 n hn).ea (k := k) (s := s)
  have fin : ∀ (j : Nat) (v : Int32), j < 24 → (∀ m, m < 33 → m ≠ 9 + j → eaD (A.1 n) k s m = A.1 n m) → v = iI (eaD (A.1 n) k s (9 + j)) → bk_X5_drawEased_58 G (d + 4) (evQV fun S' => RepC A S' ∧ FrC S S' ∧ PlnR S' 4 (eaD (A.1 n) k s) (nF (A.1 n)) (nL (A.1 n))) 0 (evup S1 5 36 j v) := by
    intro j v hj ho hv
    obtain ⟨h2, f2⟩ := h1.tup (a := 5) (j := j) (v := v) (Or.inr rfl)
    have hsE : ShD (evup S1 5 36 j v) 36 (eaD (A.1 n) k s) := by
      intro m hm
      by_cases e : m = 9 + j
      · subst e
        unfold shp
        rw [if_neg (by omega), show 9 + j - 9 = j by omega, evup_at, hv]
      · rw [ho m hm e, ← hsD m hm]
        unfold shp
        rw [evup_c (by rintro ⟨z, -⟩; exact absurd z (by decide))]
        by_cases h9 : m < 9
        · rw [if_pos h9, if_pos h9]
        · rw [if_neg h9, if_neg h9, evup_c (by rintro ⟨-, -, z⟩; omega)]
    refine vb_X5_drawEased_58 hCl hV ((c_draw (d := d) hCl (k_tplan hCl hV) (k_trial hCl hV) wp hsE).mV ?_)
    rintro S3 ⟨b3, P3⟩
    obtain ⟨h3, f3⟩ := h2.plan b3
    exact ⟨h3, (f1.tr f2).tr f3, P3⟩
  rintro v2 hv2
  have ev : v2 = nI k := by rw [hv2, iI_n, iI_1, iI_sub, iI_n]; congr 1; omega
  subst ev
  refine ⟨fun hz => ?_, fun hz => ?_⟩
  · have hs1 : s = 1 := by
      rcases Nat.lt_or_ge s 1 with z | z
      · exfalso; apply hz; rw [show s = 0 by omega]; rfl
      · omega
    subst hs1
    refine (c_ofLeg (d := d + 3) hCl (k_ship hCl hV hn) (k := k) (w := 3) (by omega) (by omega) rfl rfl).mI ?_
    rintro r3 S4 ⟨rfl, rfl⟩
    refine (c_setOfLeg (d := d + 3) hCl (k_trial hCl hV) (k := k) (w := 3) (by omega) (by omega) rfl rfl).mV ?_
    rintro S5 rfl
    refine fin (4 * k + 3) _ (by omega) (fun m hm hne => eaD_o (by omega) (by omega)) ?_
    rw [(h1.1.sh hn).l (by omega), iI_1, iI_add]
    unfold eaD; rw [if_neg (by omega)]; unfold upI; rw [if_pos rfl]
  · have hs0 : s = 0 := by
      rcases Nat.lt_or_ge s 1 with z | z
      · omega
      · exfalso; rw [show s = 1 by omega] at hz; revert hz; decide
    subst hs0
    refine (c_ofLeg (d := d + 3) hCl (k_ship hCl hV hn) (k := k) (w := 2) (by omega) (by omega) rfl rfl).mI ?_
    rintro r3 S4 ⟨rfl, rfl⟩
    refine (c_setOfLeg (d := d + 3) hCl (k_trial hCl hV) (k := k) (w := 2) (by omega) (by omega) rfl rfl).mV ?_
    rintro S5 rfl
    refine fin (4 * k + 2) _ (by omega) (fun m hm hne => eaD_o (by omega) (by omega)) ?_
    rw [(h1.1.sh hn).l (by omega), iI_1, iI_sub]
    unfold eaD; rw [if_pos rfl]; unfold upI; rw [if_pos rfl]
/-- the class's state of the loop: any, least, best -/
def EaC (st : Option Int32 × Int32) (l4 l5 l6 : Int32) : Prop := l6 = st.2 ∧ (st.1 = none → l4 = 1) ∧ ∀ c, st.1 = some c → l4 = 0 ∧ l5 = c
theorem x_eased_side (hCl : evCl G) (hV : (0, 0) ∈ evKs G) {A : Ab} (w : WfA A) {n k s : Nat} (hn : n < 4) (hk : k < 6) (hs : s ≤ 1) {S0 : evS} {q : Int32 → evS → Prop} {st : Option Int32 × Int32} {l4 l5 l6 : Int32} (hst : EaC st l4 l5 l6) (h : RepC A S) (f : FrC S0 S)
    (hq : ∀ m4 m5 m6 (S' : evS), EaC (eaS (A.1 n) k s st) m4 m5 m6 → RepC A S' → FrC S0 S' → bk_X5_eased_80 G (d + 5) (evQI q) 0 n m4 m5 m6 (nI (k + 1)) (nI (s + 1)) S') : bk_X5_eased_80 G (d + 5) (evQI q) 0 n l4 l5 l6 (nI (k + 1)) (nI s) S := by
  refine vb_X5_eased_80 hCl hV (k_ship hCl hV hn) ⟨fun z => absurd z (nI_nlt (a := 1) (by omega) (by omega)), fun _ => ?_⟩
  refine (x_drawEased (d := d) hCl hV h w hn hk hs).mV ?_
  rintro S2 ⟨h2, f2, P2⟩
  have wp := (w.1 n hn).ea (k := k) (s := s)
  have hd : 1 ≤ eaD (A.1 n) k s 1 ∧ eaD (A.1 n) k s 1 ≤ 60 := by rw [eaD_o (by omega) (by omega)]; exact (w.1 n hn).2.1
  have es : ∀ v : Int32, v = nI s + 1 → v = nI (s + 1) := by rintro v rfl; rw [iI_n, iI_1, iI_add, iI_n]; rfl
  have step : ∀ m4 m5 m6 (S' : evS), EaC (eaS (A.1 n) k s st) m4 m5 m6 → RepC A S' → FrC S0 S' → bk_X5_eased_145 G (d + 5) (evQI q) 0 n m4 m5 m6 (nI (k + 1)) (nI s) S' := by
    intro m4 m5 m6 S' a1 a2 a3
    refine vb_X5_eased_145 hCl hV (k_ship hCl hV hn) ?_
    intro v1 hv
    rw [es v1 hv]
    exact hq m4 m5 m6 S' a1 a2 a3
  refine (c_stands hCl (k_tplan hCl hV) P2 (need_b wp) hd).mI ?_
  rintro r3 S4 ⟨rfl, rfl⟩
  by_cases hq2 : stq (eaD (A.1 n) k s) (nF (A.1 n)) (nL (A.1 n))
  · rw [if_pos hq2]
    refine ⟨fun _ => ?_, fun z => absurd z (by decide)⟩
    refine (c_burntInAll (d := d + 2) hCl (k_tplan hCl hV) wp (eaD_T (w.1 n hn).2.2.2.1) P2 (fun k k1 k2 => stand_ho wp hq2.1 k1 k2)).mI ?_
    rintro r5 S6 ⟨rfl, rfl⟩
    have new : ∀ {st' : Option Int32 × Int32}, eaS (A.1 n) k s st = st' → st' = (some (csI (eaD (A.1 n) k s) (nF (A.1 n)) (nL (A.1 n))), nI (2 * (k + 1) + s)) → bk_X5_eased_129 G (d + 5) (evQI q) 0 n (nI (k + 1)) (nI s) (iI (csm (eaD (A.1 n) k s) (nF (A.1 n)) (nL (A.1 n)) (nL (A.1 n)))) S6 := by
      intro st' e1 e2
      refine vb_X5_eased_129 hCl hV (k_ship hCl hV hn) ?_
      intro v1 hv
      refine step _ _ _ _ ?_ h2 (f.tr f2)
      rw [e1, e2]
      refine ⟨?_, fun z => by simp at z, fun c hc => ⟨rfl, ?_⟩⟩
      · rw [hv, iI_n, iI_n, show (2 : Int32) = iI 2 from rfl, iI_mul, iI_add]
        show _ = nI (2 * (k + 1) + s)
        rw [iI_n]; congr 1
      · simp only [Option.some.injEq] at hc; exact hc
    have en : eaS (A.1 n) k s st = (match st.1 with
      | none => (some (csI (eaD (A.1 n) k s) (nF (A.1 n)) (nL (A.1 n))), nI (2 * (k + 1) + s))
      | some l => if csI (eaD (A.1 n) k s) (nF (A.1 n)) (nL (A.1 n)) < l then (some (csI (eaD (A.1 n) k s) (nF (A.1 n)) (nL (A.1 n))), nI (2 * (k + 1) + s)) else st) := by
      unfold eaS; rw [if_pos hq2]
    obtain ⟨t1, t2, t3⟩ := hst
    obtain ⟨so, sb⟩ := st
    cases so with
    | none =>
      have t2' := t2 rfl
      subst t2'
      exact ⟨fun _ => new en rfl, fun z => absurd z (by decide)⟩
    | some c =>
      obtain ⟨rfl, rfl⟩ := t3 c rfl
      refine ⟨fun z => absurd rfl z, fun _ => ⟨fun hle => ?_, fun hle => ?_⟩⟩
      · refine step _ _ _ _ ?_ h2 (f.tr f2)
        rw [en]
        show EaC (if csI (eaD (A.1 n) k s) (nF (A.1 n)) (nL (A.1 n)) < l5 then _ else _) _ _ _
        rw [if_neg (by intro z; have := Int32.lt_iff_toInt_lt.mp z; have := Int32.le_iff_toInt_le.mp hle; unfold csI at *; omega)]
        exact ⟨t1, t2, t3⟩
      · refine new en ?_
        show (if csI (eaD (A.1 n) k s) (nF (A.1 n)) (nL (A.1 n)) < l5 then _ else _) = _
        rw [if_pos (by
          rw [Int32.lt_iff_toInt_lt]
          rw [Int32.le_iff_toInt_le] at hle
          unfold csI
          omega)]
  · rw [if_neg hq2]
    refine ⟨fun z => absurd rfl z, fun _ => step _ _ _ _ ?_ h2 (f.tr f2)⟩
    have en : eaS (A.1 n) k s st = st := by unfold eaS; rw [if_neg hq2]
    rw [en]
    exact hst
theorem x_eased_loop (hCl : evCl G) (hV : (0, 0) ∈ evKs G) {A : Ab} (w : WfA A) {n : Nat} (hn : n < 4) {S0 : evS} :
    ∀ m (S : evS) (st : Option Int32 × Int32) (l4 l5 l6 : Int32), m ≤ nL (A.1 n) → RepC A S → FrC S0 S → EaC st l4 l5 l6 → bk_X5_eased_67 G (d + 5) (evQI fun r S' => r = (eaL (A.1 n) m st).2 ∧ RepC A S' ∧ FrC S0 S') 0 n l4 l5 l6 (nI (nL (A.1 n) - m + 1)) S := by
  intro m
  have w1 := (w.1 n hn).1
  have hl : nL (A.1 n) ≤ 6 := by unfold nL; omega
  have e0 : A.1 n 0 = (nL (A.1 n) : Int) := by unfold nL; omega
  induction m with
  | zero =>
    intro S st l4 l5 l6 _ h f hst
    refine vb_X5_eased_67 hCl hV (k_ship hCl hV hn) ((c_trait hCl (k_ship hCl hV hn) (j := 0) (by omega) rfl).mI ?_)
    rintro r1 S2 ⟨rfl, rfl⟩
    rw [(h.1.sh hn).t (by omega), e0, ← iI_n]
    refine ⟨fun _ => ⟨hst.1, h, f⟩, fun z => absurd (nI_lt (by omega) (by omega)) z⟩
  | succ m ih =>
    intro S st l4 l5 l6 hm h f hst
    refine vb_X5_eased_67 hCl hV (k_ship hCl hV hn) ((c_trait hCl (k_ship hCl hV hn) (j := 0) (by omega) rfl).mI ?_)
    rintro r1 S2 ⟨rfl, rfl⟩
    rw [(h.1.sh hn).t (by omega), e0, ← iI_n]
    refine ⟨fun z => absurd z (nI_nlt (by omega) (by omega)), fun _ => ?_⟩
    refine x_eased_side (d := d) hCl hV w hn (k := nL (A.1 n) - (m + 1)) (s := 0) (by omega) (by omega) hst h f ?_
    intro m4 m5 m6 S3 st3 h3 f3
    refine x_eased_side (d := d) hCl hV w hn (k := nL (A.1 n) - (m + 1)) (s := 1) (by omega) (by omega) st3 h3 f3 ?_
    intro p4 p5 p6 S4 st4 h4 f4
    refine vb_X5_eased_80 hCl hV (k_ship hCl hV hn) ⟨fun _ => ?_, fun z => absurd (nI_lt (a := 1) (b := 2) (by omega) (by omega)) z⟩
    intro v1 hv
    have ev : v1 = nI (nL (A.1 n) - m + 1) := by rw [hv, iI_n, iI_1, iI_add, iI_n]; congr 1; omega
    rw [ev]
    exact ih S4 _ p4 p5 p6 (by omega) h4 f4 st4
theorem x_eased (hCl : evCl G) (hV : (0, 0) ∈ evKs G) {A : Ab} (h : RepC A S) (w : WfA A) {i : Int32} : evSp G yX5_eased M_X5_eased (d + 6) [.ref (evad G 0 0), .int i] S (xQ S (o_eased A i)) := by
  rcases ship_cases i with hb | ⟨n, hn, rfl⟩
  · rw [show o_eased A i = (-1, A) from if_pos hb]
    refine vm_X5_eased (vb_X5_eased_0 hCl hV ((c_noShip1 hCl hb).mI ?_))
    rintro r S' ⟨rfl, rfl⟩
    exact ⟨fun z => absurd z (by decide), fun _ => ⟨rfl, h, FrC.rf⟩⟩
  · refine vm_X5_eased (vb_X5_eased_0 hCl hV ((c_noShip0 hCl hn).mI ?_))
    rintro r S' ⟨rfl, rfl⟩
    refine ⟨fun _ => ⟨vp_in_nI hn (by omega), ?_⟩, fun z => absurd rfl z⟩
    have wp := (w.1 n hn).p
    unfold o_eased
    rw [if_neg (nbad hn), pm_clamp hn]
    unfold shN
    rw [pm_clamp hn]
    refine (x_drawn (d := d) hCl hV hn h w).mR ?_
    rintro S4 ⟨h4, f4, P4⟩
    refine ⟨vp_in_nI hn (by omega), (c_stands hCl (k_plan hCl hV hn) P4 (need_b wp) (w.1 n hn).2.1).mI ?_⟩
    rintro r7 S8 ⟨rfl, rfl⟩
    have w1 := (w.1 n hn).1
    have e2 : A.1 n 2 = (nF (A.1 n) : Int) := by unfold nF; omega
    have hfl : nF (A.1 n) ≤ nL (A.1 n) := by unfold nF nL; omega
    have hl : nL (A.1 n) ≤ 6 := by unfold nL; omega
    have go : ∀ l4 l5 : Int32, EaC (ea0 (A.1 n)) l4 l5 (-9) → bk_X5_eased_52 G (d + 5) (evQI fun r S2 => r = (eaL (A.1 n) (nL (A.1 n) - nF (A.1 n)) (ea0 (A.1 n))).2 ∧ RepC A S2 ∧ FrC S' S2) 0 n l4 l5 S8 := by
      intro l4 l5 hst
      refine vb_X5_eased_52 hCl hV (k_ship hCl hV hn) ((c_trait hCl (k_ship hCl hV hn) (j := 2) (by omega) rfl).mI ?_)
      rintro r1 S2 ⟨rfl, rfl⟩
      rw [(h4.1.sh hn).t (by omega), e2]
      rintro v3 hv
      have ev : v3 = nI (nL (A.1 n) - (nL (A.1 n) - nF (A.1 n)) + 1) := by rw [hv, iI_1, iI_add, iI_n]; congr 1; omega
      rw [ev]
      exact x_eased_loop (d := d) hCl hV w hn _ _ _ l4 l5 (-9) (by omega) h4 f4 hst
    by_cases hs : stq (A.1 n) (nF (A.1 n)) (nL (A.1 n))
    · rw [if_pos hs]
      refine ⟨fun _ => ?_, fun z => absurd z (by decide)⟩
      refine vb_X5_eased_37 hCl hV (k_ship hCl hV hn) (k_plan hCl hV hn) ⟨fun _ => ?_, fun z => absurd rfl z⟩
      refine (c_burntInAll (d := d + 2) hCl (k_plan hCl hV hn) wp (w.1 n hn).2.2.2.1 P4 (fun k k1 k2 => stand_ho wp hs.1 k1 k2)).mI ?_
      rintro r8 S9 ⟨rfl, rfl⟩
      refine go _ _ ?_
      unfold ea0
      rw [if_pos hs]
      exact ⟨rfl, fun z => by simp at z, fun c hc => ⟨rfl, by simp only [Option.some.injEq] at hc; exact hc⟩⟩
    · rw [if_neg hs]
      refine ⟨fun z => absurd rfl z, fun _ => ?_⟩
      refine vb_X5_eased_37 hCl hV (k_ship hCl hV hn) (k_plan hCl hV hn) ⟨fun z => absurd z (by decide), fun _ => ?_⟩
      refine go _ _ ?_
      unfold ea0
      rw [if_neg hs]
      exact ⟨rfl, fun _ => rfl, fun c hc => by simp at hc⟩
end C7f
