/-! which and look of the reference -/
def rn (b : Int32) (M : Nat → Int32) (i : Nat) : Nat → Nat
  | 0 => 0
  | j + 1 => rn b M i j + (if bt b i = true ∧ bt b j = true ∧ M i = M j then 1 else 0)
def rms (b : Int32) (M : Nat → Int32) : Nat → Nat
  | 0 => 0
  | i + 1 => if rms b M i < rn b M i 4 then rn b M i 4 else rms b M i
theorem alike_bool : ∀ b0 b1 b2 b3 e01 e02 e03 e12 e13 e23 : Bool, (e01 && e12 → e02) → (e01 && e02 → e12) → (e02 && e12 → e01) → (e01 && e13 → e03) → (e01 && e03 → e13) → (e03 && e13 → e01) → (e02 && e23 → e03) → (e02 && e03 → e23) → (e03 && e23 → e02) → (e12 && e23 → e13) → (e12 && e13 → e23) → (e13 && e23 → e12) →
    (let a0 := 1
     let a1 := 1 + (if b0 && e01 then 1 else 0)
     let a2 := 1 + (if b0 && e02 then 1 else 0) + (if b1 && e12 then 1 else 0)
     let a3 := 1 + (if b0 && e03 then 1 else 0) + (if b1 && e13 then 1 else 0) + (if b2 && e23 then 1 else 0)
     let m0 := if b0 then Nat.max 0 a0 else 0
     let m1 := if b1 then Nat.max m0 a1 else m0
     let m2 := if b2 then Nat.max m1 a2 else m1
     let m3 := if b3 then Nat.max m2 a3 else m2
     let c (p q e : Bool) : Nat := if p && q && e then 1 else 0
     let r0 := 0 + c b0 b0 true + c b0 b1 e01 + c b0 b2 e02 + c b0 b3 e03
     let r1 := 0 + c b1 b0 e01 + c b1 b1 true + c b1 b2 e12 + c b1 b3 e13
     let r2 := 0 + c b2 b0 e02 + c b2 b1 e12 + c b2 b2 true + c b2 b3 e23
     let r3 := 0 + c b3 b0 e03 + c b3 b1 e13 + c b3 b2 e23 + c b3 b3 true
     let s0 := if 0 < r0 then r0 else 0
     let s1 := if s0 < r1 then r1 else s0
     let s2 := if s1 < r2 then r2 else s1
     let s3 := if s2 < r3 then r3 else s2
     m3 = s3) := by decide
theorem mst_rms (b : Int32) (M : Nat → Int32) : mst b M 4 = rms b M 4 := by
  have key := alike_bool (bt b 0) (bt b 1) (bt b 2) (bt b 3) (decide (M 0 = M 1)) (decide (M 0 = M 2)) (decide (M 0 = M 3)) (decide (M 1 = M 2)) (decide (M 1 = M 3)) (decide (M 2 = M 3))
  simp only [Bool.and_eq_true, decide_eq_true_eq] at key
  have k2 := key (fun z => z.1.trans z.2) (fun z => z.1.symm.trans z.2) (fun z => z.1.trans z.2.symm) (fun z => z.1.trans z.2) (fun z => z.1.symm.trans z.2) (fun z => z.1.trans z.2.symm) (fun z => z.1.trans z.2) (fun z => z.1.symm.trans z.2) (fun z => z.1.trans z.2.symm) (fun z => z.1.trans z.2) (fun z => z.1.symm.trans z.2) (fun z => z.1.trans z.2.symm)
  have s01 : (M 1 = M 0) = (M 0 = M 1) := propext eq_comm
  have s02 : (M 2 = M 0) = (M 0 = M 2) := propext eq_comm
  have s03 : (M 3 = M 0) = (M 0 = M 3) := propext eq_comm
  have s12 : (M 2 = M 1) = (M 1 = M 2) := propext eq_comm
  have s13 : (M 3 = M 1) = (M 1 = M 3) := propext eq_comm
  have s23 : (M 3 = M 2) = (M 2 = M 3) := propext eq_comm
  simp only [mst, rms, rn, alk, s01, s02, s03, s12, s13, s23]
  simp only [and_true, and_assoc] at k2 ⊢
  exact k2
section C8f
variable {G : evG} {d : Nat} {S : evS}
theorem or_0 (x : Int32) : x ||| 0 = x := by
  apply Int32.toBitVec_inj.mp
  simp
theorem two_n {n : Nat} : (2 : Int32) * nI n = nI (2 * n) := by rw [show (2 : Int32) = nI 2 from rfl, iI_n, iI_n, iI_n, iI_mul]; rfl
theorem m_which_in (hCl : evCl G) (hV : (30, 0) ∈ evKs G) {A : Ab} (w : WfA A) {i : Nat} (hi : i < 4) {l1 : Int32} {S0 : evS} {q : Int32 → evS → Prop} :
    ∀ n j (S : evS) (is : Bool), j + n = A.2.2.2.2.length → RepM A S → FrM S0 S → (∀ S' : evS, RepM A S' → FrM S0 S' → bk_X6_whichNow_67 G (d + 6) (evQI q) 0 l1 (nI i) (if (is && (A.2.2.2.2.drop j).all (fun p => decide (mlA A i p.1 = iI p.2))) = true then 1 else 0) S') → bk_X6_whichNow_14 G (d + 6) (evQI q) 0 l1 (nI i) (if is = true then 1 else 0) (nI j) S := by
  have hl := w.2.2.2.2.1
  intro n
  induction n with
  | zero =>
    intro j S is hj h f hq
    refine vb_X6_whichNow_14 hCl hV ⟨fun _ => ?_, fun z => absurd ?_ z⟩
    · have := hq S h f
      rw [List.drop_of_length_le (by omega)] at this
      simp only [List.all_nil, Bool.and_true] at this
      exact this
    · rw [h.2.2.2.2.1]; exact nI_le (by omega) (by omega)
  | succ n ih =>
    intro j S is hj h f hq
    have hjl : j < A.2.2.2.2.length := by omega
    refine vb_X6_whichNow_14 hCl hV ⟨fun z => absurd z ?_, fun _ => ⟨fun z => ?_, fun z => ?_⟩⟩
    · rw [h.2.2.2.2.1]; exact nI_ge (by omega) (by omega)
    · have e : is = false := by
        cases is
        · rfl
        · exact absurd z (by decide)
      subst e
      have := hq S h f
      simp only [Bool.false_and] at this
      exact this
    · have e : is = true := by
        cases is
        · exact absurd rfl z
        · rfl
      subst e
      rw [two_n]
      refine ⟨vp_in_nI (by omega) (by omega), ?_⟩
      rw [nI_clamp (by omega)]
      have hg : A.2.2.2.2[j]? = some A.2.2.2.2[j] := List.getElem?_eq_getElem hjl
      obtain ⟨g1, g2⟩ := h.2.2.2.2.2 j _ hg
      have hb := w.2.2.2.2.2 _ (List.getElem_mem hjl)
      refine (m_mile' (d := d) hCl hV h w hi g1 hb.1).mI ?_
      rintro r2 S3 ⟨rfl, h3, f3, b3⟩
      rw [show nI (2 * j) + 1 = nI (2 * j + 1) from add_n]
      refine ⟨vp_in_nI (by omega) (by omega), ?_⟩
      rw [nI_clamp (by omega), (h3.2.2.2.2.2 j _ hg).2]
      rw [List.drop_eq_getElem_cons hjl] at hq
      simp only [List.all_cons, Bool.true_and] at hq
      have nx : ∀ is' : Bool, is' = decide (mlA A i A.2.2.2.2[j].1 = iI A.2.2.2.2[j].2) → bk_X6_whichNow_60 G (d + 6) (evQI q) 0 l1 (nI i) (nI j) (if is' = true then 1 else 0) S3 := by
        intro is' e
        refine vb_X6_whichNow_60 hCl hV ?_
        intro v1 hv
        rw [inc_n hv]
        refine ih (j + 1) S3 is' (by omega) h3 (f.tr f3) ?_
        rw [e]
        exact hq
      refine ⟨fun ne => ?_, fun ee => ?_⟩
      · exact nx false (by rw [decide_eq_false ne])
      · exact nx true (by rw [decide_eq_true ee])
theorem m_which_loop (hCl : evCl G) (hV : (30, 0) ∈ evKs G) {A : Ab} (w : WfA A) {S0 : evS} :
    ∀ n i (S : evS), i + n = 4 → RepM A S → FrM S0 S → bk_X6_whichNow_4 G (d + 6) (evQI fun r S' => r = whB A 4 ∧ RepM A S' ∧ FrM S0 S') 0 (whB A i) (nI i) S := by
  intro n
  induction n with
  | zero =>
    intro i S hi h f
    obtain rfl : i = 4 := by omega
    exact vb_X6_whichNow_4 hCl hV ⟨fun _ => ⟨rfl, h, f⟩, fun z => absurd (by decide) z⟩
  | succ n ih =>
    intro i S hi h f
    have hi4 : i < 4 := by omega
    refine vb_X6_whichNow_4 hCl hV ⟨fun z => absurd z (nI_ge (b := 4) (by omega) (by omega)), fun _ => ?_⟩
    refine m_which_in (d := d) hCl hV w hi4 A.2.2.2.2.length 0 S true (by omega) h f (fun S' h' f' => ?_)
    simp only [List.drop_zero, Bool.true_and]
    have fin : ∀ s1 : Int32, whB A (i + 1) = whB A i ||| s1 → bk_X6_whichNow_79 G (d + 6) (evQI fun r S' => r = whB A 4 ∧ RepM A S' ∧ FrM S0 S') 0 (nI i) (whB A i) s1 S' := by
      intro s1 e
      refine vb_X6_whichNow_79 hCl hV ?_
      intro v1 hv1 v2 hv2
      rw [inc_n hv2, hv1, ← e]
      exact ih (i + 1) S' (by omega) h' f'
    by_cases e : agr A i = true
    · have e' : (A.2.2.2.2.all (fun p => decide (mlA A i p.1 = iI p.2))) = true := e
      rw [if_pos e']
      refine vb_X6_whichNow_67 hCl hV ⟨fun z => absurd z (by decide), fun _ => fin _ ?_⟩
      show (if agr A i = true then _ else _) = _
      rw [if_pos e]
    · have e' : ¬ (A.2.2.2.2.all (fun p => decide (mlA A i p.1 = iI p.2))) = true := e
      rw [if_neg e']
      refine vb_X6_whichNow_67 hCl hV ⟨fun _ => fin _ ?_, fun z => absurd rfl z⟩
      show (if agr A i = true then _ else _) = _
      rw [if_neg e, or_0]
theorem m_whichNow (hCl : evCl G) (hV : (30, 0) ∈ evKs G) {A : Ab} (h : RepM A S) (w : WfA A) : evSp G yX6_whichNow M_X6_whichNow (d + 7) [.ref (evad G 30 0)] S (evQI fun r S' => r = whB A 4 ∧ RepM A S' ∧ FrM S S') :=
  vm_X6_whichNow (vb_X6_whichNow_0 hCl hV (m_which_loop (d := d) hCl hV w 4 0 S (by omega) h FrM.rf))
theorem y_which (hCl : evCl G) (hV : (30, 0) ∈ evKs G) {A : Ab} (h : RepM A S) (w : WfA A) : evSp G yX6_which M_X6_which (d + 8) [.ref (evad G 30 0)] S (mQ S (o_which A)) :=
  vm_X6_which (vb_X6_which_0 hCl hV (m_whichNow (d := d) hCl hV h w))
theorem RepM.u55 {A : Ab} {S : evS} (h : RepM A S) {j : Nat} {v : Int32} : RepM A (evup S 55 0 j v) ∧ FrM S (evup S 55 0 j v) :=
  ⟨h.same (fun x c z => evup_c (by rintro ⟨z1, z2, z3⟩; unfold RelM at z; omega)), FrM.up (by omega)⟩
theorem rn_b {b : Int32} {M : Nat → Int32} {i : Nat} : ∀ j, rn b M i j ≤ j := by
  intro j
  induction j with
  | zero => unfold rn; omega
  | succ j ih => unfold rn; split <;> omega
theorem rms_b {b : Int32} {M : Nat → Int32} : ∀ i, rms b M i ≤ 4 := by
  intro i
  induction i with
  | zero => unfold rms; omega
  | succ i ih => unfold rms; have := rn_b (b := b) (M := M) (i := i) 4; split <;> omega
theorem bt2 : ∀ (b : Fin 16) (i j : Fin 4), ((((nI b.val) >>> (nI i.val &&& 31)) &&& ((nI b.val) >>> (nI j.val &&& 31))) &&& 1) = 1 ↔ bt (nI b.val) i.val = true ∧ bt (nI b.val) j.val = true := by decide
theorem m_alike_in (hCl : evCl G) (hV : (30, 0) ∈ evKs G) {b : Fin 16} {M : Nat → Int32} {q : Int32 → evS → Prop} {i m : Nat} (hi : i < 4) (hm : m ≤ 4) (hp : ∀ j, j < 4 → S.1 55 0 j = M j)
    (hq : bk_X6_alikeAt_34 G d (evQI q) 0 (nI b.val) (nI (if m < rn (nI b.val) M i 4 then rn (nI b.val) M i 4 else m)) (nI (i + 1)) S) :
    ∀ n j, j + n = 4 → bk_X6_alikeAt_46 G d (evQI q) 0 (nI b.val) (nI m) (nI i) (nI (rn (nI b.val) M i j)) (nI j) S := by
  intro n
  induction n with
  | zero =>
    intro j hj
    obtain rfl : j = 4 := by omega
    have rb := rn_b (b := nI b.val) (M := M) (i := i) 4
    have nx : ∀ s0 : Int32, s0 = nI (if m < rn (nI b.val) M i 4 then rn (nI b.val) M i 4 else m) → bk_X6_alikeAt_112 G d (evQI q) 0 (nI b.val) (nI i) s0 S := by
      rintro s0 rfl
      refine vb_X6_alikeAt_112 hCl hV ?_
      intro v1 hv
      rw [inc_n hv]
      exact hq
    refine vb_X6_alikeAt_46 hCl hV ⟨fun _ => ⟨fun z => nx _ ?_, fun z => nx _ ?_⟩, fun z => absurd (by decide) z⟩
    · rw [if_neg (by intro c; exact absurd z (nI_ge c (by omega)))]
    · rw [if_pos (by
        rcases Nat.lt_or_ge m (rn (nI b.val) M i 4) with c | c
        · exact c
        · exact absurd (nI_le c (by omega)) z)]
  | succ n ih =>
    intro j hj
    have hj4 : j < 4 := by omega
    have b2 := bt2 b ⟨i, hi⟩ ⟨j, hj4⟩
    have nx : ∀ s1 : Nat, rn (nI b.val) M i (j + 1) = rn (nI b.val) M i j + s1 → bk_X6_alikeAt_91 G d (evQI q) 0 (nI b.val) (nI m) (nI i) (nI j) (nI (rn (nI b.val) M i j)) (nI s1) S := by
      intro s1 e
      refine vb_X6_alikeAt_91 hCl hV ?_
      intro v1 hv1 v2 hv2
      rw [inc_n hv2, hv1, add_n, ← e]
      exact ih (j + 1) (by omega)
    have n0 : ¬ (bt (nI b.val) i = true ∧ bt (nI b.val) j = true ∧ M i = M j) → bk_X6_alikeAt_90 G d (evQI q) 0 (nI b.val) (nI m) (nI i) (nI j) (nI (rn (nI b.val) M i j)) S := by
      intro z
      refine vb_X6_alikeAt_90 hCl hV (nx 0 ?_)
      show rn (nI b.val) M i j + _ = _
      rw [if_neg z]
    refine vb_X6_alikeAt_46 hCl hV ⟨fun z => absurd z (nI_ge (b := 4) (by omega) (by omega)), fun _ => ⟨fun z => n0 (fun y => z (b2.mpr ⟨y.1, y.2.1⟩)), fun z => ⟨vp_in_nI hi (by omega), vp_in_nI hj4 (by omega), ?_⟩⟩⟩
    rw [nI_clamp (by omega), nI_clamp (by omega), hp i hi, hp j hj4]
    refine ⟨fun y => n0 (fun x => y x.2.2), fun y => nx 1 ?_⟩
    show rn (nI b.val) M i j + _ = _
    rw [if_pos ⟨(b2.mp z).1, (b2.mp z).2, y⟩]
theorem m_alike_out (hCl : evCl G) (hV : (30, 0) ∈ evKs G) {b : Fin 16} {M : Nat → Int32} {q : Int32 → evS → Prop} (hp : ∀ j, j < 4 → S.1 55 0 j = M j) (hq : q (nI (rms (nI b.val) M 4)) S) :
    ∀ n i, i + n = 4 → bk_X6_alikeAt_34 G d (evQI q) 0 (nI b.val) (nI (rms (nI b.val) M i)) (nI i) S := by
  intro n
  induction n with
  | zero =>
    intro i hi
    obtain rfl : i = 4 := by omega
    exact vb_X6_alikeAt_34 hCl hV ⟨fun _ => hq, fun z => absurd (by decide) z⟩
  | succ n ih =>
    intro i hi
    refine vb_X6_alikeAt_34 hCl hV ⟨fun z => absurd z (nI_ge (b := 4) (by omega) (by omega)), fun _ => ?_⟩
    exact m_alike_in hCl hV (by omega) (rms_b i) hp (ih (i + 1) (by omega)) 4 0 (by omega)
theorem m_alike_fill (hCl : evCl G) (hV : (30, 0) ∈ evKs G) {A : Ab} (w : WfA A) {b : Fin 16} {l2 : Int32} {z : Int} (ht : l2 = iI z) (hz : 0 ≤ z ∧ z ≤ 999) {S0 : evS} :
    ∀ n i (S : evS), i + n = 4 → RepM A S → FrM S0 S → (∀ j, j < i → S.1 55 0 j = mlA A j z) → bk_X6_alikeAt_5 G (d + 6) (evQI fun r S' => r = nI (mst (nI b.val) (fun i => mlA A i z) 4) ∧ RepM A S' ∧ FrM S0 S') 0 (nI b.val) l2 0 (nI i) S := by
  intro n
  induction n with
  | zero =>
    intro i S hi h f hp
    obtain rfl : i = 4 := by omega
    refine vb_X6_alikeAt_5 hCl hV ⟨fun _ => ?_, fun z => absurd (by decide) z⟩
    refine m_alike_out (M := fun i => mlA A i z) hCl hV hp ⟨?_, h, f⟩ 4 0 (by omega)
    rw [mst_rms]
  | succ n ih =>
    intro i S hi h f hp
    have hi4 : i < 4 := by omega
    refine vb_X6_alikeAt_5 hCl hV ⟨fun z => absurd z (nI_ge (b := 4) (by omega) (by omega)), fun _ => (m_mile' (d := d) hCl hV h w hi4 ht hz).mI ?_⟩
    rintro r1 S2 ⟨rfl, h2, f2, b2⟩
    refine ⟨vp_in_nI hi4 (by omega), ?_⟩
    rw [nI_clamp (by omega)]
    rintro S4 rfl v5 hv
    rw [inc_n hv]
    refine ih (i + 1) _ (by omega) h2.u55.1 ((f.tr f2).tr h2.u55.2) (fun j hj => ?_)
    by_cases e : j = i
    · subst e; rw [evup_at]
    · rw [evup_o e, b2.1 55 0 j (by unfold ofLays; omega)]; exact hp j (by omega)
theorem m_alikeAt (hCl : evCl G) (hV : (30, 0) ∈ evKs G) {A : Ab} (w : WfA A) {b : Fin 16} {l2 : Int32} {z : Int} (ht : l2 = iI z) (hz : 0 ≤ z ∧ z ≤ 999) (h : RepM A S) : evSp G yX6_alikeAt M_X6_alikeAt (d + 7) [.ref (evad G 30 0), .int (nI b.val), .int l2] S (evQI fun r S' => r = nI (mst (nI b.val) (fun i => mlA A i z) 4) ∧ RepM A S' ∧ FrM S S') :=
  vm_X6_alikeAt (vb_X6_alikeAt_0 hCl hV (m_alike_fill (d := d) hCl hV w ht hz 4 0 S (by omega) h FrM.rf (fun j hj => by omega)))
theorem y_look_loop (hCl : evCl G) (hV : (30, 0) ∈ evKs G) {A : Ab} (w : WfA A) {b : Fin 16} {S0 : evS} :
    ∀ n (S : evS) (best : Int32) (least : Nat), n ≤ 100 → least ≤ 5 → RepM A S → FrM S0 S → bk_X6_look_24 G (d + 7) (evQI fun r S' => r = lkL (fun h => mst (nI b.val) (fun i => mlA A i h) 4) n best least ∧ RepM A S' ∧ FrM S0 S') 0 (nI b.val) best (nI least) (nI (100 - n)) S := by
  intro n
  induction n with
  | zero =>
    intro S best least _ _ hR f
    exact vb_X6_look_24 hCl hV ⟨fun _ => ⟨rfl, hR, f⟩, fun z => absurd (by decide) z⟩
  | succ n ih =>
    intro S best least hn hle hR f
    refine vb_X6_look_24 hCl hV ⟨fun z => absurd z (nI_ge (b := 100) (by omega) (by omega)), fun _ => ?_⟩
    refine (m_alikeAt (d := d) hCl hV w (z := ((100 - (n + 1) : Nat) : Int)) (iI_n _) (by omega) hR).mI ?_
    rintro r1 S2 ⟨rfl, h2, f2⟩
    have mb := mst_b (b := nI b.val) (M := fun i => mlA A i ((100 - (n + 1) : Nat) : Int)) 4
    have nx : ∀ best' least', least' ≤ 5 → bk_X6_look_65 G (d + 7) (evQI fun r S' => r = lkL (fun h => mst (nI b.val) (fun i => mlA A i h) 4) n best' least' ∧ RepM A S' ∧ FrM S0 S') 0 (nI b.val) best' (nI (100 - (n + 1))) (nI least') S2 := by
      intro best' least' hl'
      refine vb_X6_look_65 hCl hV ?_
      intro v1 hv
      have ev : v1 = nI (100 - n) := by rw [inc_n hv]; congr 1; omega
      rw [ev]
      exact ih S2 best' least' (by omega) hl' h2 (f.tr f2)
    unfold lkL
    refine ⟨fun hz => ?_, fun hz => ?_⟩
    · rw [if_neg (by intro c; exact absurd hz (nI_ge c (by omega)))]
      exact vb_X6_look_52 hCl hV ⟨fun _ => nx best least hle, fun z => absurd hz z⟩
    · have hc : mst (nI b.val) (fun i => mlA A i ((100 - (n + 1) : Nat) : Int)) 4 < least := by
        rcases Nat.lt_or_ge (mst (nI b.val) (fun i => mlA A i ((100 - (n + 1) : Nat) : Int)) 4) least with c | c
        · exact c
        · exact absurd (nI_le c (by omega)) hz
      rw [if_pos hc]
      exact vb_X6_look_52 hCl hV ⟨fun z => absurd z hz, fun _ => nx _ _ (by omega)⟩
theorem y_look (hCl : evCl G) (hV : (30, 0) ∈ evKs G) {A : Ab} (h : RepM A S) (w : WfA A) : evSp G yX6_look M_X6_look (d + 8) [.ref (evad G 30 0)] S (mQ S (o_look A)) := by
  refine vm_X6_look (vb_X6_look_0 hCl hV ((m_whichNow (d := d) hCl hV h w).mI ?_))
  rintro r1 S2 ⟨rfl, h2, f2⟩
  unfold o_look
  obtain ⟨b, hb⟩ := whB_16 A
  refine ⟨fun z => ?_, fun z => ?_⟩
  · rw [if_neg z, hb]
    exact y_look_loop (d := d) hCl hV w 100 _ (-9) 5 (by omega) (by omega) h2 f2
  · rw [if_pos z]
    exact ⟨rfl, h2, f2⟩
end C8f
