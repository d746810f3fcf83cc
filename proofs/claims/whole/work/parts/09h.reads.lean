section C9h
variable {G : evG} {d : Nat} {S : evS}
theorem m_takesLeg (hCl : evCl G) (hV : (30, 0) ∈ evKs G) {A : Ab} (w : WfA A) {S0 : evS} {fa ta : Bool} {D v : Nat → Int} {g n p : Nat} {R : Rs} (h : MS A S0 S p fa ta D) (h11 : S.1 30 0 11 = nI p) (hD : InD D) (hp : p < lnA A) (hx : txA A p = 108) (hR : Runs (txA A) (lnA A) p 0 g v n fa ta D R) :
    evSp G yX6_takesLeg M_X6_takesLeg (d + 3) [.ref (evad G 30 0)] S (evQI fun r S' => (r = 0 ∨ r = 1) ∧ ItP A S0 R n p r S') := by
  have d0 : 0 ≤ D 0 ∧ D 0 ≤ 6 := ⟨hD.1.2.2.2.1, hD.1.2.2.2.2.1⟩
  have e0 : D 0 = (nL D : Int) := by unfold nL; omega
  have n6 : nL D ≤ 6 := by unfold nL; omega
  refine vm_X6_takesLeg (vb_X6_takesLeg_0 hCl hV ?_)
  rw [h.2.2.2.2.2.2 0 (by omega), h.2.2.1, e0, ← iI_n]
  rintro v1 rfl
  rw [show (6 : Int32) = nI 6 from rfl, nI_eqi (by omega) (by omega)]
  refine ⟨fun z => ?_, fun z => ⟨Or.inl rfl, Or.inl ⟨rfl, h.1, h.2.1, p, h11, run_b0 hR (by omega) (by omega) ?_⟩⟩⟩
  · have hR1 := run_b1 hR (by omega) (by omega) (Or.inl ⟨hx, by omega⟩)
    rw [hx] at hR1
    rintro S2 rfl
    rw [inc_n (n := p) rfl]
    have hI : InV 108 0 v D := ⟨by omega, by omega, fun z => by omega, fun j hj => by omega, fun j hj => by omega⟩
    have st : ∀ (k : Nat) (S' : evS) (p' : Nat) (X u : Nat → Int), k < 4 → p < p' → MS A S0 S' p' fa ta X → InV 108 k u D → Runs (txA A) (lnA A) p' 108 k u n fa ta D R → (∀ j, j < k → X (9 + (4 * nL D + j)) = u j) → (∀ (S2 : evS) (p2 : Nat) (x : Int), p < p2 → MS A S0 S2 p2 fa ta (upI X (9 + (4 * nL D + k)) x) → InV 108 (k + 1) (upI u k x) D → Runs (txA A) (lnA A) p2 108 (k + 1) (upI u k x) n fa ta D R → bk_X6_takesLeg_27 G (d + 2) (evQI fun r S' => (r = 0 ∨ r = 1) ∧ ItP A S0 R n p r S') 0 (nI (nL D)) (nI (k + 1)) S2) → bk_X6_takesLeg_27 G (d + 2) (evQI fun r S' => (r = 0 ∨ r = 1) ∧ ItP A S0 R n p r S') 0 (nI (nL D)) (nI k) S' := by
      intro k S' p' X u hk hpp M hIk hRk hXu nx
      have n84 : ∀ s1 s2 : Int32, s1 = iI (lstN 108 k u) → s2 = iI (mstN 108 k) → bk_X6_takesLeg_84 G (d + 2) (evQI fun r S' => (r = 0 ∨ r = 1) ∧ ItP A S0 R n p r S') 0 (nI (nL D)) (nI k) 0 s1 s2 S' := by
        intro s1 s2 a1 a2
        refine vb_X6_takesLeg_84 hCl hV hV (m_num (d := d) (p0 := p + 1) hCl hV w M hIk (by decide) (by show k < 4; exact hk) hRk (by omega) a1 a2 (fun S3 b1 b2 b3 => ?_) (fun S3 p2 x b0 b1 b2 b3 b4 => ?_))
        · exact ⟨fun z => absurd rfl z, fun _ => ⟨Or.inl rfl, Or.inl ⟨rfl, b1, b2, b3⟩⟩⟩
        · refine ⟨fun _ => (m_legPlace hCl).mI ?_, fun z => absurd z (by decide)⟩
          rintro r3 S4 ⟨rfl, rfl⟩
          refine ⟨vp_in_nI (by omega) (by omega), ?_⟩
          rw [nI_clamp (by omega)]
          rintro S6 rfl v7 hv
          rw [inc_n hv]
          exact nx _ p2 x (by omega) (b1.put (by omega) b2) b3 b4
      have n59 : ∀ s0 : Int32, s0 = iI (lstN 108 k u) → bk_X6_takesLeg_59 G (d + 2) (evQI fun r S' => (r = 0 ∨ r = 1) ∧ ItP A S0 R n p r S') 0 (nI (nL D)) (nI k) s0 S' := by
        intro s0 a1
        refine vb_X6_takesLeg_59 hCl hV ?_
        rw [show (0 : Int32) = nI 0 from rfl, show (1 : Int32) = nI 1 from rfl, nI_eqi (by omega) (by omega), nI_eqi (by omega) (by omega)]
        refine ⟨fun z => ⟨fun y => n84 _ _ a1 ?_, fun y => n84 _ _ a1 ?_⟩, fun z => n84 _ _ a1 ?_⟩
        · simp [mstN, z, y]; rfl
        · simp [mstN, y]; rfl
        · simp [mstN, z]; rfl
      refine vb_X6_takesLeg_27 hCl hV ⟨fun z => absurd z (nI_ge (b := 4) hk (by omega)), fun _ => ?_⟩
      rw [show (0 : Int32) = nI 0 from rfl, show (3 : Int32) = nI 3 from rfl, nI_eqi (by omega) (by omega), nI_eqi (by omega) (by omega)]
      refine ⟨fun z => ⟨fun y => n59 _ ?_, fun y => ?_⟩, fun z => n59 _ ?_⟩
      · simp [lstN, z, y]; rfl
      · subst y
        refine (m_legPlace (k := nL D) (w := 2) hCl).mI ?_
        rintro r5 S6 ⟨rfl, rfl⟩
        refine ⟨vp_in_nI (by omega) (by omega), ?_⟩
        rw [nI_clamp (by omega), M.2.2.2.2.2.2 _ (by omega), hXu 2 (by omega)]
        exact n59 _ rfl
      · simp [lstN, z]; rfl
    refine st 0 _ (p + 1) D v (by omega) (by omega) (h.pos (by omega)) hI hR1 (fun j hj => by omega) (fun S3 p3 x0 b0 b1 b2 b3 => ?_)
    refine st 1 S3 p3 _ _ (by omega) b0 b1 b2 b3 (fun j hj => ?_) (fun S4 p4 x1 c0 c1 c2 c3 => ?_)
    · obtain rfl : j = 0 := by omega
      rw [upI_at, upI_at]
    refine st 2 S4 p4 _ _ (by omega) c0 c1 c2 c3 (fun j hj => ?_) (fun S5 p5 x2 d0 d1 d2 d3 => ?_)
    · rcases (by omega : j = 0 ∨ j = 1) with rfl | rfl
      · rw [upI_o (by omega), upI_at, upI_o (by omega), upI_at]
      · rw [upI_at, upI_at]
    refine st 3 S5 p5 _ _ (by omega) d0 d1 d2 d3 (fun j hj => ?_) (fun S6 p6 x3 f0 f1 f2 f3 => ?_)
    · rcases (by omega : j = 0 ∨ j = 1 ∨ j = 2) with rfl | rfl | rfl
      · rw [upI_o (by omega), upI_o (by omega), upI_at, upI_o (by omega), upI_o (by omega), upI_at]
      · rw [upI_o (by omega), upI_at, upI_o (by omega), upI_at]
      · rw [upI_at, upI_at]
    refine vb_X6_takesLeg_27 hCl hV ⟨fun _ => ?_, fun z => absurd (by decide) z⟩
    rw [f1.2.2.2.2.2.2 0 (by omega), upI_o (by omega), upI_o (by omega), upI_o (by omega), upI_o (by omega), iI_1, iI_add]
    rintro S7 rfl
    refine (m_stop (d := d) (p0 := p) hCl hV w (f1.put (j := 0) (by omega) rfl) f2 hD (by decide) (by decide) f3 (by omega) ?_ (by simp) (by simp)).mI (fun r S' z => ⟨z.1, z.1, z.2⟩)
    unfold endD
    rw [if_pos rfl]
    have w0 : (upI (upI (upI (upI v 0 x0) 1 x1) 2 x2) 3 x3) 0 = x0 := by rw [upI_o (by omega), upI_o (by omega), upI_o (by omega), upI_at]
    have w1 : (upI (upI (upI (upI v 0 x0) 1 x1) 2 x2) 3 x3) 1 = x1 := by rw [upI_o (by omega), upI_o (by omega), upI_at]
    have w2 : (upI (upI (upI (upI v 0 x0) 1 x1) 2 x2) 3 x3) 2 = x2 := by rw [upI_o (by omega), upI_at]
    have w3 : (upI (upI (upI (upI v 0 x0) 1 x1) 2 x2) 3 x3) 3 = x3 := by rw [upI_at]
    rw [w0, w1, w2, w3]
  · rintro (y | y | y)
    · omega
    · omega
    · omega
theorem m_takesTable (hCl : evCl G) (hV : (30, 0) ∈ evKs G) {A : Ab} (w : WfA A) {S0 : evS} {fa ta : Bool} {D v : Nat → Int} {g n p : Nat} {R : Rs} (h : MS A S0 S p fa ta D) (h11 : S.1 30 0 11 = nI p) (hD : InD D) (hp : p < lnA A) (hx : txA A p = 102) (hR : Runs (txA A) (lnA A) p 0 g v n fa ta D R) :
    evSp G yX6_takesTable M_X6_takesTable (d + 3) [.ref (evad G 30 0)] S (evQI fun r S' => (r = 0 ∨ r = 1) ∧ ItP A S0 R n p r S') := by
  refine vm_X6_takesTable (vb_X6_takesTable_0 hCl hV ?_)
  rw [h.2.2.2.2.2.1]
  refine ⟨fun z => ?_, fun z => ⟨Or.inl rfl, Or.inl ⟨rfl, h.1, h.2.1, p, h11, run_b0 hR (by omega) (by omega) ?_⟩⟩⟩
  · have et : ta = false := by
      cases ta
      · rfl
      · exact absurd z (by decide)
    subst et
    have hR1 := run_b1 hR (by omega) (by omega) (Or.inr (Or.inr ⟨hx, rfl⟩))
    rw [hx] at hR1
    rintro S1 rfl S2 rfl
    rw [evup_30 (by omega), h.2.2.1, inc_n (n := p) rfl]
    have hI : InV 102 0 v D := ⟨by omega, by omega, fun z => by omega, fun j hj => by omega, fun j hj => by omega⟩
    have st : ∀ (k : Nat) (S' : evS) (p' : Nat) (X u : Nat → Int), k < 4 → p < p' → MS A S0 S' p' fa true X → InV 102 k u D → Runs (txA A) (lnA A) p' 102 k u n fa false D R → (∀ j, j < k → X (5 + j) = u j) → (∀ (S2 : evS) (p2 : Nat) (x : Int), p < p2 → MS A S0 S2 p2 fa true (upI X (5 + k) x) → InV 102 (k + 1) (upI u k x) D → Runs (txA A) (lnA A) p2 102 (k + 1) (upI u k x) n fa false D R → bk_X6_takesTable_26 G (d + 2) (evQI fun r S' => (r = 0 ∨ r = 1) ∧ ItP A S0 R n p r S') 0 (nI (k + 1)) S2) → bk_X6_takesTable_26 G (d + 2) (evQI fun r S' => (r = 0 ∨ r = 1) ∧ ItP A S0 R n p r S') 0 (nI k) S' := by
      intro k S' p' X u hk hpp M hIk hRk hXu nx
      have n73 : ∀ s0 : Int32, s0 = iI (lstN 102 k u) → bk_X6_takesTable_73 G (d + 2) (evQI fun r S' => (r = 0 ∨ r = 1) ∧ ItP A S0 R n p r S') 0 (nI k) s0 S' := by
        intro s0 a1
        refine vb_X6_takesTable_73 hCl hV (m_num (d := d) (p0 := p + 1) hCl hV w M hIk (by decide) (by show k < 4; exact hk) hRk (by omega) a1 rfl (fun S3 b1 b2 b3 => ?_) (fun S3 p2 x b0 b1 b2 b3 b4 => ?_))
        · exact ⟨fun z => absurd rfl z, fun _ => ⟨Or.inl rfl, Or.inl ⟨rfl, b1, b2, b3⟩⟩⟩
        · refine ⟨fun _ => ?_, fun z => absurd z (by decide)⟩
          rw [show (5 : Int32) = nI 5 from rfl, add_n]
          refine ⟨vp_in_nI (by omega) (by omega), ?_⟩
          rw [nI_clamp (by omega)]
          rintro S6 rfl v7 hv
          rw [inc_n hv]
          exact nx _ p2 x (by omega) (b1.put (by omega) b2) b3 b4
      have n49 : ∀ (s0 : Int32) (c : Int), s0 = iI c → (k = 0 → c = 0) → (∀ m, k = m + 1 → c = u m) → bk_X6_takesTable_49 G (d + 2) (evQI fun r S' => (r = 0 ∨ r = 1) ∧ ItP A S0 R n p r S') 0 (nI k) s0 S' := by
        intro s0 c a1 a2 a3
        refine vb_X6_takesTable_49 hCl hV ⟨fun z => ?_, fun z => n73 _ ?_⟩
        · have hk2 : 2 ≤ k := by
            rcases Nat.lt_or_ge k 2 with y | y
            · exact absurd z (nI_ge (b := 2) y (by omega))
            · exact y
          obtain ⟨m, rfl⟩ : ∃ m, k = m + 2 := ⟨k - 2, by omega⟩
          have e5 : (5 : Int32) + nI (m + 2) - 2 = nI (5 + m) := by
            rw [show (5 : Int32) = iI 5 from rfl, show (2 : Int32) = iI 2 from rfl, iI_n, iI_add, iI_sub, iI_n]; congr 1; omega
          rw [e5]
          refine ⟨vp_in_nI (by omega) (by omega), ?_⟩
          rw [nI_clamp (by omega), M.2.2.2.2.2.2 _ (by omega), hXu m (by omega), a1, show (2 : Int32) = iI 2 from rfl, iI_mul, iI_sub]
          refine n73 _ ?_
          rw [a3 (m + 1) rfl]
          congr 1
          simp [lstN]
          omega
        · rw [a1]
          rcases Nat.lt_or_ge k 2 with y | y
          · rcases (by omega : k = 0 ∨ k = 1) with rfl | rfl
            · rw [a2 rfl]; rfl
            · rw [a3 0 rfl]; rfl
          · exact absurd (nI_le (a := 2) y (by omega)) z
      refine vb_X6_takesTable_26 hCl hV ⟨fun z => absurd z (nI_ge (b := 4) hk (by omega)), fun _ => ?_⟩
      rw [show (0 : Int32) = nI 0 from rfl, nI_eqi (by omega) (by omega)]
      refine ⟨fun z => ?_, fun z => n49 _ 0 rfl (fun _ => rfl) (fun m e => by omega)⟩
      obtain ⟨m, rfl⟩ : ∃ m, k = m + 1 := ⟨k - 1, by omega⟩
      have e5 : (5 : Int32) + nI (m + 1) - 1 = nI (5 + m) := by
        rw [show (5 : Int32) = iI 5 from rfl, iI_1, iI_n, iI_add, iI_sub, iI_n]; congr 1; omega
      rw [e5]
      refine ⟨vp_in_nI (by omega) (by omega), ?_⟩
      rw [nI_clamp (by omega), M.2.2.2.2.2.2 _ (by omega), hXu m (by omega)]
      exact n49 _ _ rfl (fun e => by omega) (fun m' e => congrArg u (by omega))
    refine st 0 _ (p + 1) D v (by omega) (by omega) (h.tab.pos (by omega)) hI hR1 (fun j hj => by omega) (fun S3 p3 x0 b0 b1 b2 b3 => ?_)
    refine st 1 S3 p3 _ _ (by omega) b0 b1 b2 b3 (fun j hj => ?_) (fun S4 p4 x1 c0 c1 c2 c3 => ?_)
    · obtain rfl : j = 0 := by omega
      rw [upI_at, upI_at]
    refine st 2 S4 p4 _ _ (by omega) c0 c1 c2 c3 (fun j hj => ?_) (fun S5 p5 x2 d0 d1 d2 d3 => ?_)
    · rcases (by omega : j = 0 ∨ j = 1) with rfl | rfl
      · rw [upI_o (by omega), upI_at, upI_o (by omega), upI_at]
      · rw [upI_at, upI_at]
    refine st 3 S5 p5 _ _ (by omega) d0 d1 d2 d3 (fun j hj => ?_) (fun S6 p6 x3 f0 f1 f2 f3 => ?_)
    · rcases (by omega : j = 0 ∨ j = 1 ∨ j = 2) with rfl | rfl | rfl
      · rw [upI_o (by omega), upI_o (by omega), upI_at, upI_o (by omega), upI_o (by omega), upI_at]
      · rw [upI_o (by omega), upI_at, upI_o (by omega), upI_at]
      · rw [upI_at, upI_at]
    refine vb_X6_takesTable_26 hCl hV ⟨fun _ => ?_, fun z => absurd (by decide) z⟩
    refine (m_stop (d := d) (p0 := p) hCl hV w f1 f2 hD (by decide) (by decide) f3 (by omega) ?_ (by simp) (by simp)).mI (fun r S' z => ⟨z.1, z.1, z.2⟩)
    unfold endD
    rw [if_neg (by decide), if_neg (by decide)]
    have w0 : (upI (upI (upI (upI v 0 x0) 1 x1) 2 x2) 3 x3) 0 = x0 := by rw [upI_o (by omega), upI_o (by omega), upI_o (by omega), upI_at]
    have w1 : (upI (upI (upI (upI v 0 x0) 1 x1) 2 x2) 3 x3) 1 = x1 := by rw [upI_o (by omega), upI_o (by omega), upI_at]
    have w2 : (upI (upI (upI (upI v 0 x0) 1 x1) 2 x2) 3 x3) 2 = x2 := by rw [upI_o (by omega), upI_at]
    have w3 : (upI (upI (upI (upI v 0 x0) 1 x1) 2 x2) 3 x3) 3 = x3 := by rw [upI_at]
    rw [w0, w1, w2, w3]
  · rintro (y | y | y)
    · omega
    · omega
    · apply z; rw [y.2]; rfl
end C9h
