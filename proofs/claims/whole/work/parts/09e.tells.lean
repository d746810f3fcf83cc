def setS (F : Fl) (i : Nat) (E : Nat → Int) : Fl := fun a => if a = i then E else F a
def o_tells (A : Ab) (i : Int32) : Int32 × Ab := if badI i then (-1, A) else match prs A with
  | .inl t => (iI (-10 - (t : Int)), A)
  | .inr (n, E) => (nI n, setS A.1 i.toNatClampNeg E, pushP A.1 A.2.1, A.2.2.1, [], A.2.2.2.2)
section C9e
variable {G : evG} {d : Nat} {S : evS}
theorem RepC.stS {A : Ab} {S S' : evS} (h : RepC A S) {n : Nat} {E : Nat → Int} (hn : n < 4) (hb : evBut S S' (ofShip n)) (he : ∀ k, k < 33 → shp S' n k = iI (E k)) : RepC (setS A.1 n E, A.2) S' ∧ FrC S S' := by
  obtain ⟨h1, ⟨nx, h2, h3, h4, h5⟩, h6, ⟨h7, h8⟩, h9, h10⟩ := h
  have oth : ∀ a b c, a ≠ 4 → a ≠ 5 → S'.1 a b c = S.1 a b c := fun a b c y1 y2 => hb.1 a b c (by rintro ⟨z, -⟩; omega)
  have keep : ∀ f F, 1 ≤ f → FlC S f F → FlC S' f F := by
    intro f F hf hF i k hi hk
    rw [shp_but hb (by omega)]
    exact hF i k hi hk
  refine ⟨⟨fun i k hi hk => ?_, ⟨nx, h2, by rw [oth 16 _ _ (by decide) (by decide)]; exact h3, by rw [oth 16 _ _ (by decide) (by decide)]; exact h4, fun j Q hQ => keep _ _ (by omega) (h5 j Q hQ)⟩, fun m hm => ⟨fun z => by rw [oth 22 _ _ (by decide) (by decide)]; exact (h6 m hm).1 z, fun Q z => ⟨by rw [oth 22 _ _ (by decide) (by decide)]; exact ((h6 m hm).2 Q z).1, keep _ _ (by omega) ((h6 m hm).2 Q z).2⟩⟩, ⟨by rw [oth 18 _ _ (by decide) (by decide)]; exact h7, fun j t z => by rw [oth 19 _ _ (by decide) (by decide)]; exact h8 j t z⟩, by rw [oth 0 _ _ (by decide) (by decide)]; exact h9, fun j p z => by rw [oth 24 _ _ (by decide) (by decide), oth 25 _ _ (by decide) (by decide)]; exact h10 j p z⟩, FrC.but hb (by rintro a b ⟨z1, z2⟩; omega)⟩
  show shp S' (4 * 0 + i) k = iI (setS A.1 n E i k)
  rw [Nat.mul_zero, Nat.zero_add]
  unfold setS
  by_cases e : i = n
  · subst e; rw [if_pos rfl]; exact he k hk
  · rw [if_neg e, shp_but hb e]
    have := h1 i k hi hk
    rw [Nat.mul_zero, Nat.zero_add] at this
    exact this
theorem x_tells (hCl : evCl G) (hV : (0, 0) ∈ evKs G) {A : Ab} (h : RepC A S) (w : WfA A) {i : Int32} : evSp G yX5_tells M_X5_tells (d + 5) [.ref (evad G 0 0), .int i] S (xQ S (o_tells A i)) := by
  rcases ship_cases i with hb | ⟨n, hn, rfl⟩
  · rw [show o_tells A i = (-1, A) from if_pos hb]
    refine vm_X5_tells (vb_X5_tells_0 hCl hV ((c_noShip1 hCl hb).mI ?_))
    rintro r S' ⟨rfl, rfl⟩
    exact ⟨fun z => absurd z (by decide), fun _ => ⟨rfl, h, FrC.rf⟩⟩
  · refine vm_X5_tells (vb_X5_tells_0 hCl hV ((c_noShip0 hCl hn).mI ?_))
    rintro r S' ⟨rfl, rfl⟩
    refine ⟨fun _ => (c_tellShip (d := d) hCl hV w h).mI ?_, fun z => absurd rfl z⟩
    rintro r3 S4 ⟨rfl, h4, f4, k4⟩
    have hl := lnA_b w
    have pi := prs_i A
    unfold o_tells
    rw [if_neg (nbad hn), pm_clamp hn]
    cases hr : prs A with
    | inl t =>
      have tb := pi.1 t hr
      refine ⟨fun z => absurd z ?_, fun _ => ⟨rfl, h4, f4⟩⟩
      show ¬ 0 ≤ iI (-10 - (t : Int))
      rw [iI_0, iI_le (rg_of (A := 1) (by omega) (by omega)) (rg_of (A := 1000) (by omega) (by omega))]
      omega
    | inr p =>
      obtain ⟨m, E⟩ := p
      have mb := pi.2 m E hr
      refine ⟨fun _ => (c_rem0 (d := d + 1) hCl hV h4 w).mV ?_, fun z => absurd (nI_pos' (n := m) (by omega)) z⟩
      rintro S5 ⟨h5, f5, s5⟩
      refine ⟨vp_in_nI hn (by omega), (c_shipLike (d := d + 3) hCl (k_ship hCl hV hn) (k_trial hCl hV)).mV ?_⟩
      rintro S7 ⟨b7, c7⟩
      have h7 := h5.stS hn b7 (fun k hk => by rw [c7 k hk, s5 k]; exact k4 m E hr k hk)
      refine (x_empty hCl hV h7.1).mV ?_
      rintro S8 ⟨h8, f8⟩
      exact ⟨rfl, h8, ((f4.tr f5).tr h7.2).tr f8⟩
end C9e
