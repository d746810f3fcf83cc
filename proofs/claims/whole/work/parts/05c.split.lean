/-! CONTRACTS: Plan.splitStretches -/
def spl (far low high : Nat → Int) (last : Nat) : Nat → Nat → (Nat → Int) → (Nat → Int) → (Nat → Int) × (Nat → Int)
  | 0, _, mj, hr => (mj, hr)
  | f + 1, b, mj, hr => if b < last then
      (if wrst far low high hr b (nxt mj last b) = b then spl far low high last f (nxt mj last b) mj hr
       else if mss far low high hr b (nxt mj last b) (wrst far low high hr b (nxt mj last b)) < 0 then spl far low high last f b (upI mj (wrst far low high hr b (nxt mj last b)) 1) (upI hr (wrst far low high hr b (nxt mj last b)) (low (wrst far low high hr b (nxt mj last b))))
       else spl far low high last f b (upI mj (wrst far low high hr b (nxt mj last b)) 2) (upI hr (wrst far low high hr b (nxt mj last b)) (high (wrst far low high hr b (nxt mj last b)))))
    else (mj, hr)
/-- marks are 0 .. 3, and hours at them in bounds -/
def Mok (first last : Nat) (mk hr : Nat → Int) : Prop := (∀ k, first ≤ k → k ≤ last → 0 ≤ mk k ∧ mk k ≤ 3) ∧ Hok first last mk hr ∧ mk last ≠ 0 ∧ mk first ≠ 0
theorem upI_at {f : Nat → Int} {k : Nat} {v : Int} : upI f k v k = v := by simp [upI]
theorem upI_o {f : Nat → Int} {k j : Nat} {v : Int} (h : j ≠ k) : upI f k v j = f j := by simp [upI, h]
theorem Mok.up {first last : Nat} {mk hr : Nat → Int} (h : Mok first last mk hr) {p : Nat} {v z : Int} (hv : 0 < v ∧ v ≤ 3) (hz : -100 ≤ z ∧ z ≤ 1100) : Mok first last (upI mk p v) (upI hr p z) := by
  refine ⟨fun k h1 h2 => ?_, fun k h1 h2 h3 => ?_, ?_, ?_⟩
  · by_cases hk : k = p
    · subst hk; rw [upI_at]; omega
    · rw [upI_o hk]; exact h.1 k h1 h2
  · by_cases hk : k = p
    · subst hk; rw [upI_at]; omega
    · rw [upI_o hk]; rw [upI_o hk] at h3; exact h.2.1 k h1 h2 h3
  · by_cases hk : last = p
    · subst hk; rw [upI_at]; omega
    · rw [upI_o hk]; exact h.2.2.1
  · by_cases hk : first = p
    · subst hk; rw [upI_at]; omega
    · rw [upI_o hk]; exact h.2.2.2
def ofMH (x : Nat) : Nat → Nat → Prop := fun a b => (a = 11 ∨ a = 12) ∧ b = x
theorem PlC.but {S S' : evS} {x first last : Nat} {far low high : Nat → Int} {P : Nat → Nat → Prop} (h : PlC S x first last far low high) (hb : evBut S S' P) (hp : ∀ a, P a x → a ≠ 6 ∧ a ≠ 7 ∧ a ≠ 9 ∧ a ≠ 10) : PlC S' x first last far low high :=
  ⟨by rw [hb.1 6 x 0 (fun q => (hp 6 q).1 rfl)]; exact h.1, by rw [hb.1 6 x 1 (fun q => (hp 6 q).1 rfl)]; exact h.2.1, fun k hk => by rw [hb.1 7 x k (fun q => (hp 7 q).2.1 rfl)]; exact h.2.2.1 k hk,
    fun k h1 h2 => ⟨by rw [hb.1 9 x k (fun q => (hp 9 q).2.2.1 rfl)]; exact (h.2.2.2 k h1 h2).1, by rw [hb.1 10 x k (fun q => (hp 10 q).2.2.2 rfl)]; exact (h.2.2.2 k h1 h2).2⟩⟩
theorem PlM.up {S : evS} {x first last p : Nat} {mk hr : Nat → Int} (h : PlM S x first last mk hr) {v z : Int} {w a : Int32} (hw : w = iI v) (ha : a = iI z) : PlM (evup (evup S 11 x p a) 12 x p w) x first last (upI mk p v) (upI hr p z) := by
  subst hw ha
  intro k h1 h2
  by_cases hk : k = p
  · subst hk
    rw [evup_at, upI_at, upI_at, evup_ne (by rintro ⟨y, -⟩; cases y), evup_at]
    exact ⟨fun _ _ => rfl, fun _ => rfl⟩
  · rw [upI_o hk, upI_o hk, evup_o hk, evup_ne (by rintro ⟨y, -⟩; cases y), evup_ne (by rintro ⟨y, -⟩; cases y), evup_o hk]
    exact h k h1 h2
section C5c
variable {G : evG} {d : Nat}
theorem c_split_loop (hCl : evCl G) {x first last : Nat} {far low high : Nat → Int} (hV : (6, x) ∈ evKs G) (g : Geo first last far low high) (S0 : evS) {q : evS → Prop} :
    ∀ f b mk hr (S : evS), f ≤ 14 → first ≤ b → b ≤ last → mk b ≠ 0 → Mok first last mk hr → PlC S x first last far low high → PlM S x first last mk hr → evBut S0 S (ofMH x) →
      (∀ S' : evS, evBut S0 S' (ofMH x) → PlC S' x first last far low high → PlM S' x first last (spl far low high last f b mk hr).1 (spl far low high last f b mk hr).2 → q S') → bk_X2_splitStretches_7 G (d + 2) (evQV q) x (nI b) (nI (14 - f)) S := by
  have h6 := g.2.1
  intro f
  induction f with
  | zero =>
    intro b mk hr S _ _ _ _ _ hC hM hB hq
    exact vb_X2_splitStretches_7 hCl hV ⟨fun _ => hq S hB hC hM, fun h => absurd (nI_le (a := 14) (by omega) (by omega)) h⟩
  | succ f ih =>
    intro b mk hr S hf hfb hbl hmb hMo hC hM hB hq
    refine vb_X2_splitStretches_7 hCl hV ⟨fun h => absurd h (nI_ge (b := 14) (by omega) (by omega)), fun _ => ⟨fun h => ?_, fun h => ?_⟩⟩
    · rw [hC.2.1] at h
      have hge : ¬ b < last := fun z => absurd h (nI_ge z (by omega))
      have e : spl far low high last (f + 1) b mk hr = (mk, hr) := by unfold spl; rw [if_neg hge]
      rw [e] at hq
      exact hq S hB hC hM
    · have hlt : b < last := by
        rcases Nat.lt_or_ge b last with z | z
        · exact z
        · exact absurd (by rw [hC.2.1]; exact nI_le z (by omega)) h
      have ne := nxt_in (mk := mk) hlt
      have nm := nxt_mk (mk := mk) (last := last) (b := b) hMo.2.2.1
      have hbb := hMo.2.1 b hfb hbl hmb
      have hbe := hMo.2.1 (nxt mk last b) (by omega) ne.2 nm
      have wi := wrst_in (far := far) (low := low) (high := high) (hr := hr) (e := nxt mk last b) ne.1
      refine (c_nextEnd hCl hV h6 hlt hfb hC.2.1 (fun k a1 a2 => (hM k (Nat.le_of_lt a1) (Nat.le_of_lt a2)).1 a1 a2) (fun k a1 a2 => rg_of (A := 3) (by have := hMo.1 k a1 a2; omega) (by omega))).mI ?_
      rintro r1 S2 ⟨rfl, rfl⟩
      refine (c_mostMissed hCl hV g hC hfb ne.1 ne.2 hbb hbe ((hM b hfb hbl).2 hmb) ((hM _ (by omega) ne.2).2 nm)).mI ?_
      rintro r3 S4 ⟨rfl, rfl⟩
      have next : ∀ b' mk' hr' (S' : evS), first ≤ b' → b' ≤ last → mk' b' ≠ 0 → Mok first last mk' hr' → PlC S' x first last far low high → PlM S' x first last mk' hr' → evBut S0 S' (ofMH x) →
          (∀ S' : evS, evBut S0 S' (ofMH x) → PlC S' x first last far low high → PlM S' x first last (spl far low high last f b' mk' hr').1 (spl far low high last f b' mk' hr').2 → q S') → bk_X2_splitStretches_104 G (d + 2) (evQV q) x (nI b') (nI (14 - (f + 1))) S' := by
        intro b' mk' hr' S' a1 a2 a3 a4 a5 a6 a7 a8
        refine vb_X2_splitStretches_104 hCl hV (fun v1 hv1 => ?_)
        rw [nI_1, show 14 - (f + 1) + 1 = 14 - f by omega] at hv1
        subst hv1
        exact ih b' mk' hr' S' (by omega) a1 a2 a3 a4 a5 a6 a7 a8
      refine ⟨fun hne => ?_, fun heq => ?_⟩
      · have hw : ¬ wrst far low high hr b (nxt mk last b) = b := fun z => hne (by rw [z])
        have vw : vp_in (nI (wrst far low high hr b (nxt mk last b))) 7 := vp_in_nI (by omega) (by omega)
        have mb := mss_b g (b := b) (e := nxt mk last b) (p := wrst far low high hr b (nxt mk last b)) wi.1 (by omega) ne.2 (by omega) hbb hbe
        have gw := g.2.2.2.2 (wrst far low high hr b (nxt mk last b)) (by omega) (by omega)
        have fl := hC.2.2.2 (wrst far low high hr b (nxt mk last b)) (by omega) (by omega)
        refine (c_missAt hCl hV g hC wi.1 (by omega) ne.2 (by omega) hbb hbe ((hM b hfb hbl).2 hmb) ((hM _ (by omega) ne.2).2 nm)).mI ?_
        rintro r5 S6 ⟨rfl, rfl⟩
        rw [iI_0, iI_le (rg_of (A := 0) (by omega) (by omega)) (rg_of mb (by omega)), nI_clamp (n := wrst far low high hr b (nxt mk last b)) (by omega)]
        have bup : ∀ a w, evBut S0 (evup (evup S6 11 x (wrst far low high hr b (nxt mk last b)) a) 12 x (wrst far low high hr b (nxt mk last b)) w) (ofMH x) := fun a w => hB.tr ⟨fun c1 c2 c3 z => by rw [evup_ne (fun y => z ⟨Or.inr y.1, y.2⟩), evup_ne (fun y => z ⟨Or.inl y.1, y.2⟩)], rfl⟩
        have cup : ∀ a w, PlC (evup (evup S6 11 x (wrst far low high hr b (nxt mk last b)) a) 12 x (wrst far low high hr b (nxt mk last b)) w) x first last far low high := fun a w => hC.but (P := ofMH x) ⟨fun c1 c2 c3 z => by rw [evup_ne (fun y => z ⟨Or.inr y.1, y.2⟩), evup_ne (fun y => z ⟨Or.inl y.1, y.2⟩)], rfl⟩ (by rintro a ⟨y | y, -⟩ <;> subst y <;> decide)
        have hne' : ∀ v : Int, upI mk (wrst far low high hr b (nxt mk last b)) v b ≠ 0 := fun v => by rw [upI_o (fun z => hw z.symm)]; exact hmb
        refine ⟨fun hz => ⟨vw, vw, fun S9 hS9 => ⟨vw, fun S11 hS11 => ?_⟩⟩, fun hz => ⟨vw, vw, fun S14 hS14 => ⟨vw, fun S16 hS16 => ?_⟩⟩⟩
        · subst hS11 hS9
          refine next b _ _ _ hfb hbl (hne' 2) (hMo.up (p := wrst far low high hr b (nxt mk last b)) (v := 2) (z := high (wrst far low high hr b (nxt mk last b))) (by omega) (by omega)) (cup _ _) (hM.up rfl fl.2) (bup _ _) ?_
          have e : spl far low high last (f + 1) b mk hr = spl far low high last f b (upI mk (wrst far low high hr b (nxt mk last b)) 2) (upI hr (wrst far low high hr b (nxt mk last b)) (high (wrst far low high hr b (nxt mk last b)))) := by
            conv => lhs; unfold spl
            rw [if_pos hlt, if_neg hw, if_neg (by omega)]
          rw [e] at hq
          exact hq
        · subst hS16 hS14
          refine next b _ _ _ hfb hbl (hne' 1) (hMo.up (p := wrst far low high hr b (nxt mk last b)) (v := 1) (z := low (wrst far low high hr b (nxt mk last b))) (by omega) (by omega)) (cup _ _) (hM.up rfl fl.1) (bup _ _) ?_
          have e : spl far low high last (f + 1) b mk hr = spl far low high last f b (upI mk (wrst far low high hr b (nxt mk last b)) 1) (upI hr (wrst far low high hr b (nxt mk last b)) (low (wrst far low high hr b (nxt mk last b)))) := by
            conv => lhs; unfold spl
            rw [if_pos hlt, if_neg hw, if_pos (by omega)]
          rw [e] at hq
          exact hq
      · have hw : wrst far low high hr b (nxt mk last b) = b := (nI_eq (by omega) (by omega)).mp heq
        refine next (nxt mk last b) mk hr S4 (by omega) ne.2 nm hMo hC hM hB ?_
        have e : spl far low high last (f + 1) b mk hr = spl far low high last f (nxt mk last b) mk hr := by
          conv => lhs; unfold spl
          rw [if_pos hlt, if_pos hw]
        rw [e] at hq
        exact hq
theorem c_split (hCl : evCl G) {x first last : Nat} {far low high mk hr : Nat → Int} {S : evS} (hV : (6, x) ∈ evKs G) (g : Geo first last far low high) (hMo : Mok first last mk hr) (hC : PlC S x first last far low high) (hM : PlM S x first last mk hr) :
    evSp G yX2_splitStretches M_X2_splitStretches (d + 3) [.ref (evad G 6 x)] S (evQV fun S' => evBut S S' (ofMH x) ∧ PlC S' x first last far low high ∧ PlM S' x first last (spl far low high last 14 first mk hr).1 (spl far low high last 14 first mk hr).2) := by
  refine vm_X2_splitStretches (vb_X2_splitStretches_0 hCl hV (fun v1 hv1 => ?_))
  rw [hC.1] at hv1
  subst hv1
  exact c_split_loop hCl hV g S 14 first mk hr S (by omega) (Nat.le_refl _) g.1 hMo.2.2.2 hMo hC hM evBut.rf (fun S' a1 a2 a3 => ⟨a1, a2, a3⟩)
end C5c
