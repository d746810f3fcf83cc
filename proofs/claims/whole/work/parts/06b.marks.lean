/-! CONTRACTS OF THE REFERENCE: marksOne, marksAll -/
def czr (mk : Nat → Int) (last : Nat) : Nat → Nat
  | 0 => 0
  | n + 1 => czr mk last n + (if mk (last - (n + 1)) = 0 then 1 else 0)
theorem czr_le {mk : Nat → Int} {last : Nat} : ∀ n, czr mk last n ≤ n := by
  intro n
  induction n with
  | zero => exact Nat.le_refl 0
  | succ n ih => unfold czr; split <;> omega
theorem czr_mono {mk : Nat → Int} {last : Nat} : ∀ n m, m ≤ n → czr mk last m ≤ czr mk last n := by
  intro n
  induction n with
  | zero => intro m h; rw [Nat.le_zero.mp h]; exact Nat.le_refl _
  | succ n ih =>
    intro m h
    by_cases e : m = n + 1
    · rw [e]; exact Nat.le_refl _
    · have := ih m (by omega)
      conv => rhs; unfold czr
      omega
theorem czr_out {mk : Nat → Int} {last p : Nat} {v : Int} : ∀ n, n ≤ last → p < last - n → czr (upI mk p v) last n = czr mk last n := by
  intro n
  induction n with
  | zero => intro _ _; rfl
  | succ n ih =>
    intro h1 h2
    unfold czr
    rw [ih (by omega) (by omega), upI_o (by omega)]
theorem czr_up {mk : Nat → Int} {last p : Nat} {v : Int} (hp : p < last) (hz : mk p = 0) (hv : v ≠ 0) : ∀ n, n ≤ last → last - n ≤ p → czr (upI mk p v) last n + 1 = czr mk last n := by
  intro n
  induction n with
  | zero => intro _ h; omega
  | succ n ih =>
    intro h1 h2
    by_cases e : p = last - (n + 1)
    · unfold czr
      rw [czr_out n (by omega) (by omega), ← e, upI_at, if_neg hv, if_pos hz]
    · unfold czr
      rw [upI_o (by omega)]
      have := ih (by omega) (by omega)
      omega
def muM (mk : Nat → Int) (last b : Nat) : Nat := (last - b) + czr mk last (last - (b + 1))
theorem MlC.bm {S S' : evS} {first last : Nat} {far low high : Nat → Int} {P : Nat → Nat → Nat → Prop} (h : MlC S first last far low high) (hb : evBm S S' P) (hp : ∀ a b c, P a b c → a = 53 ∨ a = 54) : MlC S' first last far low high :=
  ⟨by rw [hb.1 30 0 16 (fun q => by have := hp _ _ _ q; omega)]; exact h.1, by rw [hb.1 30 0 17 (fun q => by have := hp _ _ _ q; omega)]; exact h.2.1, fun k hk => by rw [hb.1 49 0 k (fun q => by have := hp _ _ _ q; omega)]; exact h.2.2.1 k hk,
    fun k h1 h2 => ⟨by rw [hb.1 51 0 k (fun q => by have := hp _ _ _ q; omega)]; exact (h.2.2.2 k h1 h2).1, by rw [hb.1 52 0 k (fun q => by have := hp _ _ _ q; omega)]; exact (h.2.2.2 k h1 h2).2⟩⟩
theorem MlM.up {S : evS} {first last p : Nat} {mk hr : Nat → Int} (h : MlM S first last mk hr) {v z : Int} {w : Int32} {a : Int64} (hw : w = iI v) (ha : a = lI z) : MlM (evupL (evup S 53 0 p w) 54 0 p a) first last (upI mk p v) (upI hr p z) := by
  subst hw ha
  intro k h1 h2
  by_cases hk : k = p
  · subst hk
    rw [upI_at, upI_at, evupL_at]
    exact ⟨evup_at, fun _ => rfl⟩
  · rw [upI_o hk, upI_o hk, evupL_c (by rintro ⟨-, -, y⟩; exact hk y)]
    exact ⟨(evup_o hk).trans (h k h1 h2).1, (h k h1 h2).2⟩
def fnd (b w : Nat) : Int32 := if w = b then (-9) else nI w
section C6b
variable {G : evG} {d : Nat} {S : evS}
/-- what marksOne leaves -/
def m1Q (S : evS) (far low high hr : Nat → Int) (b e : Nat) (r : Int32) (S' : evS) : Prop :=
  (wrst far low high hr b e = b → r = 0 ∧ S' = S) ∧ (wrst far low high hr b e ≠ b → r = 1 ∧ ((mss far low high hr b e (wrst far low high hr b e) < 0 ∧ S' = evupL (evup S 53 0 (wrst far low high hr b e) 1) 54 0 (wrst far low high hr b e) (lI (low (wrst far low high hr b e)))) ∨ (¬ mss far low high hr b e (wrst far low high hr b e) < 0 ∧ S' = evupL (evup S 53 0 (wrst far low high hr b e) 2) 54 0 (wrst far low high hr b e) (lI (high (wrst far low high hr b e))))))
theorem m_marksOne_loop (hCl : evCl G) (hV : (30, 0) ∈ evKs G) {first last b e : Nat} {far low high hr : Nat → Int} (g : Geo first last far low high) (P : MlC S first last far low high) (hfb : first ≤ b) (hbe : b < e) (he : e ≤ last) (hb : -100 ≤ hr b ∧ hr b ≤ 10200) (hh : -100 ≤ hr e ∧ hr e ≤ 10200) (g1 : S.2 54 0 b = lI (hr b)) (g2 : S.2 54 0 e = lI (hr e)) :
    ∀ n w m, n < e - b → b ≤ w → w < e → (w = b ∧ m = 0 ∨ b < w ∧ m = iabs (mss far low high hr b e w) ∧ 0 < m) → wst far low high hr b e n w m = wrst far low high hr b e → bk_X6_marksOne_8 G (d + 1) (evQI (m1Q S far low high hr b e)) 0 (nI b) (nI e) (fnd b w) (nI (e - n)) S := by
  have h6 := g.2.1
  intro n
  induction n with
  | zero =>
    intro w m _ hw1 hw2 hwm hq
    have hq' : w = wrst far low high hr b e := hq
    refine vb_X6_marksOne_8 hCl hV ⟨fun _ => ⟨fun h9 => ?_, fun h9 => ?_⟩, fun h => absurd (nI_le (by omega) (by omega)) h⟩
    · have hwb : w ≠ b := fun z => h9 (by unfold fnd; rw [if_pos z])
      have ef : fnd b w = nI w := by unfold fnd; rw [if_neg hwb]
      rw [ef]
      have gw := g.2.2.2.2 w (by omega) (by omega)
      have fl := P.2.2.2 w (by omega) (by omega)
      have fb1 := far_be g (b := b) (e := e) (by omega) he
      have fb2 := far_be g (b := b) (e := w) hw1 (by omega)
      have ev := evn_b g (b := b) (e := e) (p := w) hw1 (by omega) he hb hh
      have l1 := lowM_b g (b := b) (e := e) (by omega) he (z := low w) (by omega)
      have vw : vp_in (nI w) 7 := vp_in_nI (by omega) (by omega)
      refine (m_evenTimes hCl hV (by omega) (by omega) (by omega) (P.2.2.1 b (by omega)) (P.2.2.1 e (by omega)) (P.2.2.1 w (by omega)) g1 g2 (rg_of (A := 594) (by omega) (by omega)) (rg_of (A := 594) (by omega) (by omega))).mL ?_
      rintro r1 S2 ⟨rfl, rfl⟩
      rw [nI_clamp (n := w) (by omega), nI_clamp (n := e) (by omega), nI_clamp (n := b) (by omega), fl.1, P.2.2.1 b (by omega), P.2.2.1 e (by omega), iI_sub, iI_64 (z := far e - far b) (rg_of (A := 594) (by omega) (by omega)), iI_64 (z := low w) (rg_of (A := 1100) (by omega) (by omega)), lI_mul, lI_le (rgl_of l1 (by omega)) (rgl_of ev (by omega))]
      have hms : mss far low high hr b e w < 0 ↔ evn far hr b e w < low w * (far e - far b) := by
        unfold mss
        split <;> omega
      refine ⟨vw, vp_in_nI (by omega) (by omega), vp_in_nI (by omega) (by omega), fun hz => ?_, fun hz => ?_⟩
      · refine vb_X6_marksOne_109 hCl hV ⟨fun _ => vb_X6_marksOne_126 hCl hV (hCl.1 30 0 22 53 hV rfl) ?_, fun h => absurd rfl h⟩
        rw [nI_clamp (n := w) (by omega)]
        refine ⟨vw, fun S3 e3 => ⟨fun _ => ⟨vw, vw, fun S5 e5 => ?_⟩, fun h => absurd rfl h⟩⟩
        refine ⟨fun z => absurd (hq'.trans z) hwb, fun _ => ⟨rfl, Or.inr ⟨?_, ?_⟩⟩⟩
        · rw [← hq', hms]; omega
        · rw [e5, e3, evup_ne (by rintro ⟨y, -⟩; cases y), fl.2, iI_64 (rg_of (A := 1100) (by omega) (by omega)), hq']
      · refine vb_X6_marksOne_109 hCl hV ⟨fun h => absurd h (by decide), fun _ => vb_X6_marksOne_126 hCl hV (hCl.1 30 0 22 53 hV rfl) ?_⟩
        rw [nI_clamp (n := w) (by omega)]
        refine ⟨vw, fun S3 e3 => ⟨fun h => absurd h (by decide), fun _ => ⟨vw, vw, fun S5 e5 => ?_⟩⟩⟩
        refine ⟨fun z => absurd (hq'.trans z) hwb, fun _ => ⟨rfl, Or.inl ⟨?_, ?_⟩⟩⟩
        · rw [← hq', hms]; omega
        · rw [e5, e3, evup_ne (by rintro ⟨y, -⟩; cases y), fl.1, iI_64 (rg_of (A := 1100) (by omega) (by omega)), hq']
    · have hwb : w = b := by
        by_cases z : w = b
        · exact z
        · exact absurd h9 (by unfold fnd; rw [if_neg z]; exact nI_n9 (by omega))
      exact ⟨fun _ => ⟨rfl, rfl⟩, fun z => absurd (hq'.symm.trans hwb) z⟩
  | succ n ih =>
    intro w m hn hw1 hw2 hwm hq
    have mb := mss_b g (b := b) (e := e) (p := e - (n + 1)) (by omega) (by omega) he (by omega) hb hh
    have hab : 0 ≤ iabs (mss far low high hr b e (e - (n + 1))) ∧ iabs (mss far low high hr b e (e - (n + 1))) ≤ 14000000 := by
      unfold iabs
      split <;> omega
    have next : ∀ w' m', b ≤ w' → w' < e → (w' = b ∧ m' = 0 ∨ b < w' ∧ m' = iabs (mss far low high hr b e w') ∧ 0 < m') → wst far low high hr b e n w' m' = wrst far low high hr b e → bk_X6_marksOne_56 G (d + 1) (evQI (m1Q S far low high hr b e)) 0 (nI b) (nI e) (nI (e - (n + 1))) (fnd b w') S := by
      intro w' m' a1 a2 a3 a4
      refine vb_X6_marksOne_56 hCl hV (fun v1 hv1 => ?_)
      rw [nI_1, show e - (n + 1) + 1 = e - n by omega] at hv1
      subst hv1
      exact ih w' m' (by omega) a1 a2 a3 a4
    have keep : ¬ m < iabs (mss far low high hr b e (e - (n + 1))) → bk_X6_marksOne_55 G (d + 1) (evQI (m1Q S far low high hr b e)) 0 (nI b) (nI e) (fnd b w) (nI (e - (n + 1))) S := by
      intro z
      refine vb_X6_marksOne_55 hCl hV (next w m hw1 hw2 hwm ?_)
      unfold wst at hq
      rw [if_neg z] at hq
      exact hq
    have take : m < iabs (mss far low high hr b e (e - (n + 1))) → 0 ≤ m → bk_X6_marksOne_50 G (d + 1) (evQI (m1Q S far low high hr b e)) 0 (nI b) (nI e) (nI (e - (n + 1))) S := by
      intro z z0
      refine vb_X6_marksOne_50 hCl hV ?_
      have hx := next (e - (n + 1)) _ (by omega) (by omega) (Or.inr ⟨by omega, rfl, by omega⟩) (by unfold wst at hq; rw [if_pos z] at hq; exact hq)
      unfold fnd at hx
      rw [if_neg (by omega)] at hx
      exact hx
    refine vb_X6_marksOne_8 hCl hV ⟨fun h => absurd h (nI_ge (by omega) (by omega)), fun _ => (m_missedTimes hCl hV g P (by omega) (by omega) he (by omega) hb hh g1 g2).mL ?_⟩
    rintro r6 S7 ⟨rfl, rfl⟩
    rw [lI_0, lI_le (rgl_of (A := 14000000) (by omega) (by omega)) (rgl_of (A := 0) (by omega) (by omega))]
    refine ⟨fun hz => keep ?_, fun hz => ⟨fun h9 => take ?_ ?_, fun h9 => ?_⟩⟩
    · rcases hwm with ⟨-, rfl⟩ | ⟨-, -, z⟩ <;> omega
    · rcases hwm with ⟨-, rfl⟩ | ⟨z, -⟩
      · omega
      · exact absurd h9 (by unfold fnd; rw [if_neg (by omega)]; exact nI_n9 (by omega))
    · rcases hwm with ⟨-, rfl⟩ | ⟨-, -, z⟩ <;> omega
    · rcases hwm with ⟨z, -⟩ | ⟨z, zm, z0⟩
      · exact absurd (by unfold fnd; rw [if_pos z]) h9
      · have ef : fnd b w = nI w := by unfold fnd; rw [if_neg (by omega)]
        have mb2 := mss_b g (b := b) (e := e) (p := w) (by omega) (by omega) he (by omega) hb hh
        rw [ef]
        refine (m_missedTimes hCl hV g P (by omega) (by omega) he (by omega) hb hh g1 g2).mL ?_
        rintro r8 S9 ⟨rfl, rfl⟩
        rw [← zm, lI_le (rgl_of (A := 14000000) (by omega) (by omega)) (rgl_of (A := 14000000) (by rw [zm]; unfold iabs; split <;> omega) (by omega)), ← ef]
        exact ⟨fun y => keep (by omega), fun y => take (by omega) (by omega)⟩
theorem m_marksOne (hCl : evCl G) (hV : (30, 0) ∈ evKs G) {first last b e : Nat} {far low high hr : Nat → Int} (g : Geo first last far low high) (P : MlC S first last far low high) (hfb : first ≤ b) (hbe : b < e) (he : e ≤ last) (hb : -100 ≤ hr b ∧ hr b ≤ 10200) (hh : -100 ≤ hr e ∧ hr e ≤ 10200) (g1 : S.2 54 0 b = lI (hr b)) (g2 : S.2 54 0 e = lI (hr e)) :
    evSp G yX6_marksOne M_X6_marksOne (d + 2) [.ref (evad G 30 0), .int (nI b), .int (nI e)] S (evQI (m1Q S far low high hr b e)) := by
  have h6 := g.2.1
  refine vm_X6_marksOne (vb_X6_marksOne_0 hCl hV (fun v1 hv1 => ?_))
  rw [nI_1] at hv1
  have h := m_marksOne_loop (d := d) hCl hV g P hfb hbe he hb hh g1 g2 (e - (b + 1)) b 0 (by omega) (Nat.le_refl b) hbe (Or.inl ⟨rfl, rfl⟩) rfl
  rw [show e - (e - (b + 1)) = b + 1 by omega] at h
  unfold fnd at h
  rw [if_pos rfl] at h
  subst hv1
  exact h
def ofMk : Nat → Nat → Nat → Prop := fun a _ _ => a = 53 ∨ a = 54
theorem m_marksAll_loop (hCl : evCl G) (hV : (30, 0) ∈ evKs G) {first last : Nat} {far low high : Nat → Int} (g : Geo first last far low high) (S0 : evS) {q : evS → Prop} :
    ∀ f b mk hr (S : evS), muM mk last b ≤ f → first ≤ b → b ≤ last → mk b ≠ 0 → Mok first last mk hr → MlC S first last far low high → MlM S first last mk hr → evBm S0 S ofMk →
      (∀ S' : evS, evBm S0 S' ofMk → MlC S' first last far low high → MlM S' first last (spl far low high last f b mk hr).1 (spl far low high last f b mk hr).2 → q S') → bk_X6_marksAll_5 G (d + 2) (evQV q) 0 (nI b) S := by
  have h6 := g.2.1
  intro f
  induction f with
  | zero =>
    intro b mk hr S hmu hfb hbl hmb hMo hC hM hB hq
    have hge : last ≤ b := by unfold muM at hmu; omega
    refine vb_X6_marksAll_5 hCl hV ⟨fun _ => hq S hB hC hM, fun h => absurd (by rw [hC.2.1]; exact nI_le hge (by omega)) h⟩
  | succ f ih =>
    intro b mk hr S hmu hfb hbl hmb hMo hC hM hB hq
    refine vb_X6_marksAll_5 hCl hV ⟨fun h => ?_, fun h => ?_⟩
    · rw [hC.2.1] at h
      have hge : ¬ b < last := fun z => absurd h (nI_ge z (by omega))
      have e : spl far low high last (f + 1) b mk hr = (mk, hr) := by unfold spl; rw [if_neg hge]
      rw [e] at hq
      exact hq S hB hC hM
    · have hlt : b < last := by
        rcases Nat.lt_or_ge b last with z | z
        · exact z
        · exact absurd (by rw [hC.2.1]; exact nI_le z (by omega)) h
      have ne := nxt_in (mk := mk) hlt
      have nm := nxt_mk (mk := mk) (last := last) (b := b) hMo.2.2.1
      have hbb := hMo.2.1 b hfb hbl hmb
      have hbe := hMo.2.1 (nxt mk last b) (by omega) ne.2 nm
      have wi := wrst_in (far := far) (low := low) (high := high) (hr := hr) (e := nxt mk last b) ne.1
      refine (m_markBehind hCl hV h6 hlt hfb hMo hM).mI ?_
      rintro r1 S2 ⟨rfl, rfl⟩
      refine (m_marksOne hCl hV g hC hfb ne.1 ne.2 hbb hbe ((hM b hfb hbl).2 hmb) ((hM _ (by omega) ne.2).2 nm)).mI ?_
      rintro r3 S4 hQ
      by_cases hw : wrst far low high hr b (nxt mk last b) = b
      · obtain ⟨rfl, rfl⟩ := hQ.1 hw
        refine ⟨fun h => absurd rfl h, fun _ => vb_X6_marksAll_30 hCl hV (ih (nxt mk last b) mk hr S4 ?_ (by omega) ne.2 nm hMo hC hM hB ?_)⟩
        · have := czr_mono (mk := mk) (last := last) (last - (b + 1)) (last - (nxt mk last b + 1)) (by omega)
          unfold muM at hmu ⊢
          omega
        · have e : spl far low high last (f + 1) b mk hr = spl far low high last f (nxt mk last b) mk hr := by
            conv => lhs; unfold spl
            rw [if_pos hlt, if_pos hw]
          rw [e] at hq
          exact hq
      · obtain ⟨rfl, hS⟩ := hQ.2 hw
        have gw := g.2.2.2.2 (wrst far low high hr b (nxt mk last b)) (by omega) (by omega)
        have un := nxt_un (mk := mk) hlt (k := wrst far low high hr b (nxt mk last b)) (by omega) wi.2
        have mu : ∀ v : Int, v ≠ 0 → muM (upI mk (wrst far low high hr b (nxt mk last b)) v) last b ≤ f := by
          intro v hv
          have := czr_up (mk := mk) (last := last) (p := wrst far low high hr b (nxt mk last b)) (v := v) (by omega) un hv (last - (b + 1)) (by omega) (by omega)
          unfold muM at hmu ⊢
          omega
        have hne' : ∀ v : Int, upI mk (wrst far low high hr b (nxt mk last b)) v b ≠ 0 := fun v => by rw [upI_o (fun z => hw z.symm)]; exact hmb
        refine ⟨fun _ => vb_X6_marksAll_30 hCl hV ?_, fun h => absurd h (by decide)⟩
        rcases hS with ⟨hz, rfl⟩ | ⟨hz, rfl⟩
        · have bB : ∀ w a, evBm S2 (evupL (evup S2 53 0 (wrst far low high hr b (nxt mk last b)) w) 54 0 (wrst far low high hr b (nxt mk last b)) a) ofMk := fun w a => (evBm.upw (Or.inl rfl)).tr (evBm.upLw (Or.inr rfl))
          refine ih b _ _ _ (mu 1 (by decide)) hfb hbl (hne' 1) (hMo.up (p := wrst far low high hr b (nxt mk last b)) (v := 1) (z := low (wrst far low high hr b (nxt mk last b))) (by omega) (by omega)) (hC.bm (bB _ _) (fun _ _ _ z => z)) (hM.up rfl rfl) (hB.tr (bB _ _)) ?_
          have e : spl far low high last (f + 1) b mk hr = spl far low high last f b (upI mk (wrst far low high hr b (nxt mk last b)) 1) (upI hr (wrst far low high hr b (nxt mk last b)) (low (wrst far low high hr b (nxt mk last b)))) := by
            conv => lhs; unfold spl
            rw [if_pos hlt, if_neg hw, if_pos hz]
          rw [e] at hq
          exact hq
        · have bB : ∀ w a, evBm S2 (evupL (evup S2 53 0 (wrst far low high hr b (nxt mk last b)) w) 54 0 (wrst far low high hr b (nxt mk last b)) a) ofMk := fun w a => (evBm.upw (Or.inl rfl)).tr (evBm.upLw (Or.inr rfl))
          refine ih b _ _ _ (mu 2 (by decide)) hfb hbl (hne' 2) (hMo.up (p := wrst far low high hr b (nxt mk last b)) (v := 2) (z := high (wrst far low high hr b (nxt mk last b))) (by omega) (by omega)) (hC.bm (bB _ _) (fun _ _ _ z => z)) (hM.up rfl rfl) (hB.tr (bB _ _)) ?_
          have e : spl far low high last (f + 1) b mk hr = spl far low high last f b (upI mk (wrst far low high hr b (nxt mk last b)) 2) (upI hr (wrst far low high hr b (nxt mk last b)) (high (wrst far low high hr b (nxt mk last b)))) := by
            conv => lhs; unfold spl
            rw [if_pos hlt, if_neg hw, if_neg hz]
          rw [e] at hq
          exact hq
theorem m_marksAll (hCl : evCl G) (hV : (30, 0) ∈ evKs G) {first last : Nat} {far low high mk hr : Nat → Int} (g : Geo first last far low high) (hMo : Mok first last mk hr) (hC : MlC S first last far low high) (hM : MlM S first last mk hr) :
    evSp G yX6_marksAll M_X6_marksAll (d + 3) [.ref (evad G 30 0)] S (evQV fun S' => evBm S S' ofMk ∧ MlC S' first last far low high ∧ MlM S' first last (spl far low high last 14 first mk hr).1 (spl far low high last 14 first mk hr).2) := by
  refine vm_X6_marksAll (vb_X6_marksAll_0 hCl hV (fun v1 hv1 => ?_))
  rw [hC.1] at hv1
  subst hv1
  refine m_marksAll_loop hCl hV g S 14 first mk hr S ?_ (Nat.le_refl _) g.1 hMo.2.2.2 hMo hC hM evBm.rf (fun S' a1 a2 a3 => ⟨a1, a2, a3⟩)
  have := czr_le (mk := mk) (last := last) (last - (first + 1))
  have := g.2.1
  unfold muM
  omega
end C6b
