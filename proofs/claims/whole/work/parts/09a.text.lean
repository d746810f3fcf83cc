/-! THE TEXT: how it tells a ship -/
abbrev fig (c : Nat) : Prop := 48 ≤ c ∧ c ≤ 57
def fgE (tx : Nat → Nat) (L : Nat) : Nat → Nat → Nat
  | 0, p => p
  | n + 1, p => if p < L ∧ fig (tx p) then fgE tx L n (p + 1) else p
def tkE (tx : Nat → Nat) (L p : Nat) : Nat := if fig (tx p) then fgE tx L (L - p) p else p + 1
def nuF (tx : Nat → Nat) : Nat → Nat → Int → Int
  | 0, _, a => a
  | n + 1, p, a => nuF tx n (p + 1) (min 1000 (a * 10 + tx p - 48))
def nuA (tx : Nat → Nat) (L p : Nat) : Int := if tx p = 48 ∧ p + 1 < tkE tx L p then 1000 else nuF tx (tkE tx L p - p) p 0
def lstN (it g : Nat) (v : Nat → Int) : Int := if it = 118 then 1 else if it = 108 then (if g = 3 then v 2 else if g = 0 then 1 else 0) else if g = 0 then 0 else if g = 1 then v 0 else v (g - 1) + v (g - 1) - v (g - 2)
def mstN (it g : Nat) : Int := if it = 118 then 60 else if it = 108 then (if g = 0 then 99 else if g = 1 then 9 else 999) else 999
def cnt (it : Nat) : Nat := if it = 118 then 1 else 4
def endD (it : Nat) (v D : Nat → Int) : Nat → Int :=
  if it = 108 then upI (upI (upI (upI (upI D (9 + (4 * nL D + 0)) (v 0)) (9 + (4 * nL D + 1)) (v 1)) (9 + (4 * nL D + 2)) (v 2)) (9 + (4 * nL D + 3)) (v 3)) 0 (D 0 + 1)
  else if it = 118 then upI D 1 (v 0)
  else upI (upI (upI (upI D 5 (v 0)) 6 (v 1)) 7 (v 2)) 8 (v 3)
abbrev mayB (c : Nat) (fa ta : Bool) (D : Nat → Int) : Prop := (c = 108 ∧ D 0 < 6) ∨ (c = 118 ∧ fa = false) ∨ (c = 102 ∧ ta = false)
abbrev Rs : Type := Nat ⊕ (Nat × (Nat → Int))
def runF (tx : Nat → Nat) (L : Nat) : Nat → Nat → Nat → Nat → (Nat → Int) → Nat → Bool → Bool → (Nat → Int) → Option Rs
  | 0, _, _, _, _, _, _, _, _ => none
  | f + 1, p, it, g, v, n, fa, ta, D =>
    if L ≤ p then (if it = 0 then some (.inr (n, D)) else some (.inl L))
    else if tx p = 32 then runF tx L f (p + 1) it g v n fa ta D
    else if it = 0 then (if mayB (tx p) fa ta D then runF tx L f (p + 1) (tx p) 0 v n fa ta D else some (.inl p))
    else if g < cnt it then (if fig (tx p) ∧ lstN it g v ≤ nuA tx L p ∧ nuA tx L p ≤ mstN it g then runF tx L f (tkE tx L p) it (g + 1) (upI v g (nuA tx L p)) n fa ta D else some (.inl p))
    else if tx p = 59 then runF tx L f (p + 1) 0 g v (n + 1) (fa || decide (it = 118)) (ta || decide (it = 102)) (endD it v D)
    else some (.inl p)
def Runs (tx : Nat → Nat) (L p it g : Nat) (v : Nat → Int) (n : Nat) (fa ta : Bool) (D : Nat → Int) (r : Rs) : Prop := ∃ f, runF tx L f p it g v n fa ta D = some r
section C9a
variable {tx : Nat → Nat} {L p it g n : Nat} {v D : Nat → Int} {fa ta : Bool} {r : Rs}
theorem run_z (h : Runs tx L p it g v n fa ta D r) : ∃ f, runF tx L (f + 1) p it g v n fa ta D = some r := by
  obtain ⟨f, h⟩ := h
  cases f with
  | zero => unfold runF at h; exact absurd h (by simp)
  | succ f => exact ⟨f, h⟩
theorem run_end (h : Runs tx L p it g v n fa ta D r) (hp : L ≤ p) : r = if it = 0 then .inr (n, D) else .inl L := by
  obtain ⟨f, h⟩ := run_z h
  unfold runF at h
  rw [if_pos hp] at h
  by_cases e : it = 0
  · rw [if_pos e] at h ⊢; exact (Option.some.inj h).symm
  · rw [if_neg e] at h ⊢; exact (Option.some.inj h).symm
theorem run_sp (h : Runs tx L p it g v n fa ta D r) (hp : ¬ L ≤ p) (hs : tx p = 32) : Runs tx L (p + 1) it g v n fa ta D r := by
  obtain ⟨f, h⟩ := run_z h
  unfold runF at h
  rw [if_neg hp, if_pos hs] at h
  exact ⟨f, h⟩
theorem run_b1 (h : Runs tx L p 0 g v n fa ta D r) (hp : ¬ L ≤ p) (hs : ¬ tx p = 32) (hm : mayB (tx p) fa ta D) : Runs tx L (p + 1) (tx p) 0 v n fa ta D r := by
  obtain ⟨f, h⟩ := run_z h
  unfold runF at h
  rw [if_neg hp, if_neg hs, if_pos rfl, if_pos hm] at h
  exact ⟨f, h⟩
theorem run_b0 (h : Runs tx L p 0 g v n fa ta D r) (hp : ¬ L ≤ p) (hs : ¬ tx p = 32) (hm : ¬ mayB (tx p) fa ta D) : r = .inl p := by
  obtain ⟨f, h⟩ := run_z h
  unfold runF at h
  rw [if_neg hp, if_neg hs, if_pos rfl, if_neg hm] at h
  exact (Option.some.inj h).symm
theorem run_n1 (h : Runs tx L p it g v n fa ta D r) (hp : ¬ L ≤ p) (hs : ¬ tx p = 32) (hi : ¬ it = 0) (hg : g < cnt it) (hm : fig (tx p) ∧ lstN it g v ≤ nuA tx L p ∧ nuA tx L p ≤ mstN it g) : Runs tx L (tkE tx L p) it (g + 1) (upI v g (nuA tx L p)) n fa ta D r := by
  obtain ⟨f, h⟩ := run_z h
  unfold runF at h
  rw [if_neg hp, if_neg hs, if_neg hi, if_pos hg, if_pos hm] at h
  exact ⟨f, h⟩
theorem run_n0 (h : Runs tx L p it g v n fa ta D r) (hp : ¬ L ≤ p) (hs : ¬ tx p = 32) (hi : ¬ it = 0) (hg : g < cnt it) (hm : ¬ (fig (tx p) ∧ lstN it g v ≤ nuA tx L p ∧ nuA tx L p ≤ mstN it g)) : r = .inl p := by
  obtain ⟨f, h⟩ := run_z h
  unfold runF at h
  rw [if_neg hp, if_neg hs, if_neg hi, if_pos hg, if_neg hm] at h
  exact (Option.some.inj h).symm
theorem run_e1 (h : Runs tx L p it g v n fa ta D r) (hp : ¬ L ≤ p) (hi : ¬ it = 0) (hg : ¬ g < cnt it) (hm : tx p = 59) : Runs tx L (p + 1) 0 g v (n + 1) (fa || decide (it = 118)) (ta || decide (it = 102)) (endD it v D) r := by
  obtain ⟨f, h⟩ := run_z h
  unfold runF at h
  rw [if_neg hp, if_neg (by omega), if_neg hi, if_neg hg, if_pos hm] at h
  exact ⟨f, h⟩
theorem run_e0 (h : Runs tx L p it g v n fa ta D r) (hp : ¬ L ≤ p) (hs : ¬ tx p = 32) (hi : ¬ it = 0) (hg : ¬ g < cnt it) (hm : ¬ tx p = 59) : r = .inl p := by
  obtain ⟨f, h⟩ := run_z h
  unfold runF at h
  rw [if_neg hp, if_neg hs, if_neg hi, if_neg hg, if_neg hm] at h
  exact (Option.some.inj h).symm
theorem fgE_b : ∀ k p, p ≤ fgE tx L k p ∧ fgE tx L k p ≤ p + k ∧ (p ≤ L → fgE tx L k p ≤ L) := by
  intro k
  induction k with
  | zero => intro p; unfold fgE; omega
  | succ k ih =>
    intro p
    unfold fgE
    split
    · rename_i h
      have := ih (p + 1)
      omega
    · omega
theorem tkE_b (hp : p < L) : p < tkE tx L p ∧ tkE tx L p ≤ L := by
  unfold tkE
  split
  · rename_i h
    have e : L - p = (L - p - 1) + 1 := by omega
    rw [e]
    unfold fgE
    rw [if_pos ⟨hp, h⟩]
    have := fgE_b (tx := tx) (L := L) (L - p - 1) (p + 1)
    omega
  · omega
theorem nuF_b : ∀ k p a, 0 ≤ a → a ≤ 1000 → (∀ q, p ≤ q → q < p + k → fig (tx q)) → 0 ≤ nuF tx k p a ∧ nuF tx k p a ≤ 1000 := by
  intro k
  induction k with
  | zero => intro p a h1 h2 _; unfold nuF; omega
  | succ k ih =>
    intro p a h1 h2 hf
    unfold nuF
    have := hf p (by omega) (by omega)
    exact ih (p + 1) _ (by omega) (by omega) (fun q q1 q2 => hf q (by omega) (by omega))
theorem fgE_f : ∀ k p q, p ≤ q → q < fgE tx L k p → fig (tx q) := by
  intro k
  induction k with
  | zero => intro p q h1 h2; unfold fgE at h2; omega
  | succ k ih =>
    intro p q h1 h2
    unfold fgE at h2
    split at h2
    · rename_i h
      by_cases e : q = p
      · rw [e]; exact h.2
      · exact ih (p + 1) q (by omega) h2
    · omega
theorem nuA_b (hf : fig (tx p)) : 0 ≤ nuA tx L p ∧ nuA tx L p ≤ 1000 := by
  unfold nuA
  split
  · omega
  · refine nuF_b _ _ _ (by omega) (by omega) (fun q q1 q2 => ?_)
    unfold tkE at q2
    rw [if_pos hf] at q2
    exact fgE_f (L := L) (L - p) p q q1 (by omega)
/-- what is so all along -/
def InD (D : Nat → Int) : Prop := (D 2 = 0 ∧ D 3 = 0 ∧ D 4 = 0 ∧ 0 ≤ D 0 ∧ D 0 ≤ 6 ∧ 1 ≤ D 1 ∧ D 1 ≤ 60 ∧ D 7 ≤ D 8) ∧ WfT D ∧ ∀ k, k < nL D → (1 ≤ D (9 + 4 * k) ∧ D (9 + 4 * k) ≤ 99) ∧ (0 ≤ D (9 + (4 * k + 1)) ∧ D (9 + (4 * k + 1)) ≤ 9) ∧ 0 ≤ D (9 + (4 * k + 2)) ∧ D (9 + (4 * k + 2)) ≤ D (9 + (4 * k + 3)) ∧ D (9 + (4 * k + 3)) ≤ 999
def InV (it g : Nat) (v D : Nat → Int) : Prop := (it = 0 ∨ it = 108 ∨ it = 118 ∨ it = 102) ∧ g ≤ 4 ∧ (it = 108 → D 0 < 6) ∧ (∀ j, j < g → ¬ it = 0 → lstN it j v ≤ v j ∧ v j ≤ mstN it j) ∧ (∀ j, j < g → -1000 ≤ v j ∧ v j ≤ 1000)
theorem lstN_up {w : Int} {j : Nat} (hj : j ≤ g) (hi : it = 108 ∨ it = 118 ∨ it = 102) : lstN it j (upI v g w) = lstN it j v := by
  rcases hi with rfl | rfl | rfl
  · by_cases e : j = 3
    · subst e
      simp [lstN]
      exact upI_o (by omega)
    · simp [lstN, e]
  · simp [lstN]
  · by_cases e0 : j = 0
    · simp [lstN, e0]
    · by_cases e1 : j = 1
      · subst e1
        simp [lstN]
        exact upI_o (by omega)
      · simp [lstN, e0, e1]
        rw [upI_o (by omega), upI_o (by omega)]
theorem cnt_le : cnt it ≤ 4 := by unfold cnt; split <;> omega
theorem InV.num {x : Int} (h : InV it g v D) (hi : ¬ it = 0) (hg : g < cnt it) (h1 : lstN it g v ≤ x) (h2 : x ≤ mstN it g) (h3 : -1000 ≤ x ∧ x ≤ 1000) : InV it (g + 1) (upI v g x) D := by
  obtain ⟨a1, a2, a3, a4, a5⟩ := h
  have hc := cnt_le (it := it)
  have hi3 : it = 108 ∨ it = 118 ∨ it = 102 := by omega
  refine ⟨a1, by omega, a3, fun j hj hne => ?_, fun j hj => ?_⟩
  · rw [lstN_up (by omega) hi3]
    by_cases e : j = g
    · subst e; rw [upI_at]; exact ⟨h1, h2⟩
    · rw [upI_o e]; exact a4 j (by omega) hne
  · by_cases e : j = g
    · subst e; rw [upI_at]; exact h3
    · rw [upI_o e]; exact a5 j (by omega)
theorem InD.fin (h : InD D) (hv : InV it g v D) (hi : ¬ it = 0) (hg : ¬ g < cnt it) : InD (endD it v D) := by
  obtain ⟨⟨b1, b2, b3, b4, b5, b6, b7, b8⟩, b9, b10⟩ := h
  obtain ⟨a1, a2, a3, a4, a5⟩ := hv
  unfold endD
  by_cases e1 : it = 108
  · subst e1
    rw [if_pos rfl]
    have hl := a3 rfl
    have hn6 : nL D < 6 := by unfold nL; omega
    have c4 : cnt 108 = 4 := rfl
    have v0 := a4 0 (by omega) (by decide)
    have v1 := a4 1 (by omega) (by decide)
    have v2 := a4 2 (by omega) (by decide)
    have v3 := a4 3 (by omega) (by decide)
    simp only [lstN, mstN] at v0 v1 v2 v3
    simp at v0 v1 v2 v3
    have lo : ∀ j, j ≠ 0 → j < 9 → (upI (upI (upI (upI (upI D (9 + (4 * nL D + 0)) (v 0)) (9 + (4 * nL D + 1)) (v 1)) (9 + (4 * nL D + 2)) (v 2)) (9 + (4 * nL D + 3)) (v 3)) 0 (D 0 + 1)) j = D j := fun j h0 h9 => by
      rw [upI_o h0, upI_o (by omega), upI_o (by omega), upI_o (by omega), upI_o (by omega)]
    have z0 : (upI (upI (upI (upI (upI D (9 + (4 * nL D + 0)) (v 0)) (9 + (4 * nL D + 1)) (v 1)) (9 + (4 * nL D + 2)) (v 2)) (9 + (4 * nL D + 3)) (v 3)) 0 (D 0 + 1)) 0 = D 0 + 1 := upI_at
    refine ⟨⟨by rw [lo 2 (by omega) (by omega)]; exact b1, by rw [lo 3 (by omega) (by omega)]; exact b2, by rw [lo 4 (by omega) (by omega)]; exact b3, by rw [z0]; omega, by rw [z0]; omega, by rw [lo 1 (by omega) (by omega)]; exact b6, by rw [lo 1 (by omega) (by omega)]; exact b7, by rw [lo 7 (by omega) (by omega), lo 8 (by omega) (by omega)]; exact b8⟩, fun m hm => by rw [lo _ (by omega) (by omega)]; exact b9 m hm, fun k hk => ?_⟩
    have hk' : k < nL D + 1 := by
      have hz := congrArg Int.toNat z0
      have hk2 : k < (D 0 + 1).toNat := by rw [← hz]; exact hk
      unfold nL
      omega
    by_cases ek : k = nL D
    · subst ek
      rw [show 9 + 4 * nL D = 9 + (4 * nL D + 0) from rfl]
      have r0 : (upI (upI (upI (upI (upI D (9 + (4 * nL D + 0)) (v 0)) (9 + (4 * nL D + 1)) (v 1)) (9 + (4 * nL D + 2)) (v 2)) (9 + (4 * nL D + 3)) (v 3)) 0 (D 0 + 1)) (9 + (4 * nL D + 0)) = v 0 := by rw [upI_o (by omega), upI_o (by omega), upI_o (by omega), upI_o (by omega), upI_at]
      have r1 : (upI (upI (upI (upI (upI D (9 + (4 * nL D + 0)) (v 0)) (9 + (4 * nL D + 1)) (v 1)) (9 + (4 * nL D + 2)) (v 2)) (9 + (4 * nL D + 3)) (v 3)) 0 (D 0 + 1)) (9 + (4 * nL D + 1)) = v 1 := by rw [upI_o (by omega), upI_o (by omega), upI_o (by omega), upI_at]
      have r2 : (upI (upI (upI (upI (upI D (9 + (4 * nL D + 0)) (v 0)) (9 + (4 * nL D + 1)) (v 1)) (9 + (4 * nL D + 2)) (v 2)) (9 + (4 * nL D + 3)) (v 3)) 0 (D 0 + 1)) (9 + (4 * nL D + 2)) = v 2 := by rw [upI_o (by omega), upI_o (by omega), upI_at]
      have r3 : (upI (upI (upI (upI (upI D (9 + (4 * nL D + 0)) (v 0)) (9 + (4 * nL D + 1)) (v 1)) (9 + (4 * nL D + 2)) (v 2)) (9 + (4 * nL D + 3)) (v 3)) 0 (D 0 + 1)) (9 + (4 * nL D + 3)) = v 3 := by rw [upI_o (by omega), upI_at]
      rw [r0, r1, r2, r3]
      omega
    · have o : ∀ w, w < 4 → (upI (upI (upI (upI (upI D (9 + (4 * nL D + 0)) (v 0)) (9 + (4 * nL D + 1)) (v 1)) (9 + (4 * nL D + 2)) (v 2)) (9 + (4 * nL D + 3)) (v 3)) 0 (D 0 + 1)) (9 + (4 * k + w)) = D (9 + (4 * k + w)) := fun w hw => by
        rw [upI_o (by omega), upI_o (by omega), upI_o (by omega), upI_o (by omega), upI_o (by omega)]
      have o0 := o 0 (by omega)
      rw [show 9 + (4 * k + 0) = 9 + 4 * k from rfl] at o0
      rw [o0, o 1 (by omega), o 2 (by omega), o 3 (by omega)]
      exact b10 k (by omega)
  · rw [if_neg e1]
    by_cases e2 : it = 118
    · subst e2
      rw [if_pos rfl]
      have c1 : cnt 118 = 1 := rfl
      have v0 := a4 0 (by omega) (by decide)
      simp only [lstN, mstN] at v0
      simp at v0
      have nl : nL (upI D 1 (v 0)) = nL D := by unfold nL; rw [upI_o (by omega)]
      refine ⟨⟨by rw [upI_o (by omega)]; exact b1, by rw [upI_o (by omega)]; exact b2, by rw [upI_o (by omega)]; exact b3, by rw [upI_o (by omega)]; exact b4, by rw [upI_o (by omega)]; exact b5, by rw [upI_at]; omega, by rw [upI_at]; omega, by rw [upI_o (by omega), upI_o (by omega)]; exact b8⟩, fun m hm => by rw [upI_o (by omega)]; exact b9 m hm, fun k hk => ?_⟩
      rw [nl] at hk
      rw [upI_o (by omega), upI_o (by omega), upI_o (by omega), upI_o (by omega)]
      exact b10 k hk
    · rw [if_neg e2]
      have e3 : it = 102 := by omega
      subst e3
      have c4 : cnt 102 = 4 := rfl
      have v0 := a4 0 (by omega) (by decide)
      have v1 := a4 1 (by omega) (by decide)
      have v2 := a4 2 (by omega) (by decide)
      have v3 := a4 3 (by omega) (by decide)
      simp only [lstN, mstN] at v0 v1 v2 v3
      simp at v0 v1 v2 v3
      have o : ∀ j, j < 5 ∨ 8 < j → (upI (upI (upI (upI D 5 (v 0)) 6 (v 1)) 7 (v 2)) 8 (v 3)) j = D j := fun j hj => by
        rw [upI_o (by omega), upI_o (by omega), upI_o (by omega), upI_o (by omega)]
      have t5 : (upI (upI (upI (upI D 5 (v 0)) 6 (v 1)) 7 (v 2)) 8 (v 3)) 5 = v 0 := by rw [upI_o (by omega), upI_o (by omega), upI_o (by omega), upI_at]
      have t6 : (upI (upI (upI (upI D 5 (v 0)) 6 (v 1)) 7 (v 2)) 8 (v 3)) 6 = v 1 := by rw [upI_o (by omega), upI_o (by omega), upI_at]
      have t7 : (upI (upI (upI (upI D 5 (v 0)) 6 (v 1)) 7 (v 2)) 8 (v 3)) 7 = v 2 := by rw [upI_o (by omega), upI_at]
      have t8 : (upI (upI (upI (upI D 5 (v 0)) 6 (v 1)) 7 (v 2)) 8 (v 3)) 8 = v 3 := upI_at
      have nl : nL (upI (upI (upI (upI D 5 (v 0)) 6 (v 1)) 7 (v 2)) 8 (v 3)) = nL D := by unfold nL; rw [o 0 (by omega)]
      refine ⟨⟨by rw [o 2 (by omega)]; exact b1, by rw [o 3 (by omega)]; exact b2, by rw [o 4 (by omega)]; exact b3, by rw [o 0 (by omega)]; exact b4, by rw [o 0 (by omega)]; exact b5, by rw [o 1 (by omega)]; exact b6, by rw [o 1 (by omega)]; exact b7, by rw [t7, t8]; omega⟩, fun m hm => ?_, fun k hk => ?_⟩
      · rcases (by omega : m = 0 ∨ m = 1 ∨ m = 2 ∨ m = 3) with rfl | rfl | rfl | rfl
        · rw [t5]; omega
        · rw [t6]; omega
        · rw [t7]; omega
        · rw [t8]; omega
      · rw [nl] at hk
        rw [o _ (by omega), o _ (by omega), o _ (by omega), o _ (by omega)]
        exact b10 k hk
theorem run_ex : ∀ f p it g v n fa ta D, p ≤ L → L < p + f → ∃ r, runF tx L f p it g v n fa ta D = some r := by
  intro f
  induction f with
  | zero => intro p it g v n fa ta D h0 h; omega
  | succ f ih =>
    intro p it g v n fa ta D h0 h
    unfold runF
    by_cases h1 : L ≤ p
    · rw [if_pos h1]
      split
      · exact ⟨_, rfl⟩
      · exact ⟨_, rfl⟩
    · rw [if_neg h1]
      have hb := tkE_b (tx := tx) (L := L) (p := p) (by omega)
      split
      · exact ih _ _ _ _ _ _ _ _ (by omega) (by omega)
      · split
        · split
          · exact ih _ _ _ _ _ _ _ _ (by omega) (by omega)
          · exact ⟨_, rfl⟩
        · split
          · split
            · exact ih _ _ _ _ _ _ _ _ (by omega) (by omega)
            · exact ⟨_, rfl⟩
          · split
            · exact ih _ _ _ _ _ _ _ _ (by omega) (by omega)
            · exact ⟨_, rfl⟩
theorem run_in : ∀ f p it g v n fa ta D r, p ≤ L → InD D → InV it g v D → n ≤ p → runF tx L f p it g v n fa ta D = some r → (∀ t, r = .inl t → t ≤ L) ∧ ∀ m E, r = .inr (m, E) → m ≤ L ∧ InD E := by
  intro f
  induction f with
  | zero => intro p it g v n fa ta D r _ _ _ _ h; unfold runF at h; exact absurd h (by simp)
  | succ f ih =>
    intro p it g v n fa ta D r h0 hD hV hn h
    have fl : ∀ t : Nat, t ≤ L → some (Sum.inl t : Rs) = some r → (∀ t, r = .inl t → t ≤ L) ∧ ∀ m E, r = .inr (m, E) → m ≤ L ∧ InD E := by
      intro t ht e
      have e' := Option.some.inj e
      subst e'
      exact ⟨fun t2 z => by have := Sum.inl.inj z; omega, fun m E z => by simp at z⟩
    unfold runF at h
    by_cases h1 : L ≤ p
    · rw [if_pos h1] at h
      split at h
      · have e' := Option.some.inj h
        subst e'
        refine ⟨fun t z => by simp at z, fun m E z => ?_⟩
        have z' := Sum.inr.inj z
        simp only [Prod.mk.injEq] at z'
        obtain ⟨rfl, rfl⟩ := z'
        exact ⟨by omega, hD⟩
      · exact fl L (Nat.le_refl _) h
    · rw [if_neg h1] at h
      have hb := tkE_b (tx := tx) (L := L) (p := p) (by omega)
      split at h
      · exact ih _ _ _ _ _ _ _ _ _ (by omega) hD hV (by omega) h
      · split at h
        · split at h
          · rename_i hm
            refine ih _ _ _ _ _ _ _ _ _ (by omega) hD ⟨by omega, by omega, fun z => ?_, fun j hj => by omega, fun j hj => by omega⟩ (by omega) h
            rcases hm with ⟨-, y⟩ | ⟨y, -⟩ | ⟨y, -⟩
            · exact y
            · omega
            · omega
          · exact fl p (by omega) h
        · rename_i hi
          split at h
          · rename_i hg
            split at h
            · rename_i hm
              have nb := nuA_b (L := L) hm.1
              exact ih _ _ _ _ _ _ _ _ _ (by omega) hD (hV.num hi hg hm.2.1 hm.2.2 (by omega)) (by omega) h
            · exact fl p (by omega) h
          · rename_i hg
            split at h
            · refine ih _ _ _ _ _ _ _ _ _ (by omega) (hD.fin hV hi hg) ⟨Or.inl rfl, hV.2.1, fun z => by omega, fun j hj z => absurd rfl z, hV.2.2.2.2⟩ (by omega) h
            · exact fl p (by omega) h
end C9a
