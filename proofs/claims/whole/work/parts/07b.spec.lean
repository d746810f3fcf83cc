/-! WHAT EACH CALL ANSWERS, AND THE STATE BEHIND IT -/
abbrev badI (i : Int32) : Prop := i < 0 ∨ 3 < i
abbrev ahead (D : Nat → Int) (p : Int32) : Prop := D 2 < p.toInt ∧ p.toInt ≤ D 0
abbrev legAh (D : Nat → Int) (k : Int32) : Prop := D 2 ≤ k.toInt ∧ k.toInt < D 0
abbrev shN (A : Ab) (i : Int32) : Nat → Int := A.1 i.toNatClampNeg
abbrev stN (D : Nat → Int) : Prop := 0 < pNeed D (nF D) (nL D) ∧ pNeed D (nF D) (nL D) ≤ D 1
def o_holds (A : Ab) (i h : Int32) : Int32 × Ab := if badI i ∨ h < 1 ∨ ¬ h ≤ 99 then (-1, A) else if 9999 < shN A i 3 + h.toInt then (-3, A) else (iI (shN A i 3 + h.toInt), updF A.1 i.toNatClampNeg 3 (shN A i 3 + h.toInt), pushP A.1 A.2.1, A.2.2)
def o_fastens (A : Ab) (i v : Int32) : Int32 × Ab := if badI i ∨ v < 1 ∨ ¬ v ≤ 60 then (-1, A) else if shN A i 1 = v.toInt then (-2, A) else (iI (shN A i 1), updF A.1 i.toNatClampNeg 1 v.toInt, pushP A.1 A.2.1, A.2.2)
def o_moves (A : Ab) (i p o c : Int32) : Int32 × Ab := if badI i ∨ ¬ ahead (shN A i) p ∨ o < 0 ∨ c < o ∨ ¬ c ≤ 999 then (-1, A)
  else if shN A i (9 + (4 * (p.toNatClampNeg - 1) + 2)) = o.toInt ∧ shN A i (9 + (4 * (p.toNatClampNeg - 1) + 3)) = c.toInt then (-2, A)
  else (1, updF (updF A.1 i.toNatClampNeg (9 + (4 * (p.toNatClampNeg - 1) + 2)) o.toInt) i.toNatClampNeg (9 + (4 * (p.toNatClampNeg - 1) + 3)) c.toInt, pushP A.1 A.2.1, A.2.2)
def o_undo (A : Ab) : Int32 × Ab := match A.2.1 with
  | [] => (-2, A)
  | Q :: P => (nI P.length, Q, P, A.2.2)
def o_ship (A : Ab) (i w : Int32) : Int32 × Ab := if badI i ∨ w < 0 ∨ ¬ w < 9 then (-1, A) else (iI (shN A i w.toNatClampNeg), A)
def o_leg (A : Ab) (i k w : Int32) : Int32 × Ab := if badI i ∨ w < 0 ∨ ¬ w < 4 ∨ k < 0 ∨ shN A i 0 ≤ k.toInt then (-1, A) else (iI (shN A i (9 + (4 * k.toNatClampNeg + w.toNatClampNeg))), A)
def o_plan (A : Ab) (i w : Int32) : Int32 × Ab := if badI i ∨ w < 0 ∨ ¬ w ≤ 1 then (-1, A) else if ¬ stN (shN A i) then (-9, A) else if w = 0 then (iI (pN (shN A i) (nF (shN A i)) (nL (shN A i))).2.2, A) else (iI (csm (shN A i) (nF (shN A i)) (nL (shN A i)) (nL (shN A i))), A)
def o_time (A : Ab) (i p t : Int32) : Int32 × Ab := if badI i ∨ t < 0 ∨ 1 < t ∨ ¬ ahead (shN A i) p then (-1000000, A) else if ¬ stN (shN A i) then (-2000000, A) else (iI (lowest (tU (shN A i) (nF (shN A i)) (nL (shN A i)) (p.toNatClampNeg - 1)) (miA (shN A i) (nF (shN A i)) (nL (shN A i)) (p.toNatClampNeg - 1)) t), A)
def o_speed (A : Ab) (i k t : Int32) : Int32 × Ab := if badI i ∨ t < 0 ∨ 1 < t ∨ ¬ legAh (shN A i) k then (-1000000, A) else if ¬ stN (shN A i) then (-2000000, A) else (iI (lowest (miA (shN A i) (nF (shN A i)) (nL (shN A i)) k.toNatClampNeg) (hoA (shN A i) (nF (shN A i)) (nL (shN A i)) k.toNatClampNeg) t), A)
def o_closed (A : Ab) (i p : Int32) : Int32 × Ab := if badI i ∨ ¬ ahead (shN A i) p then (-1, A) else if ¬ stN (shN A i) then (-9, A) else ((if p.toNatClampNeg < nL (shN A i) then iI (pM (shN A i) (nF (shN A i)) (nL (shN A i)) p.toNatClampNeg) else 0), A)
def o_cost (A : Ab) (i k : Int32) : Int32 × Ab := if badI i ∨ ¬ legAh (shN A i) k then (-1, A) else if ¬ stN (shN A i) then (-9, A) else (iI (cst (shN A i) (nF (shN A i)) (nL (shN A i)) k.toNatClampNeg), A)
def o_needs (A : Ab) (i : Int32) : Int32 × Ab := if badI i then (-1, A) else (iI (needS (shN A i) (nF (shN A i)) (nL (shN A i))), A)
def o_mile (A : Ab) (i h : Int32) : Int32 × Ab := if badI i ∨ h < 0 ∨ ¬ h ≤ 999 then (-1, A) else (iI (mileS (shN A i) (nF (shN A i)) (nL (shN A i)) h.toInt), A)
def o_sees (A : Ab) (h m : Int32) : Int32 × Ab := if h < 0 ∨ 999 < h ∨ m < 0 ∨ ¬ m ≤ 999 then (-1, A) else if 6 ≤ A.2.2.2.2.length then (-3, A) else (nI (A.2.2.2.2.length + 1), A.1, A.2.1, A.2.2.1, A.2.2.2.1, A.2.2.2.2 ++ [(h.toInt, m.toInt)])
def o_forget (A : Ab) : Int32 × Ab := (nI A.2.2.2.2.length, A.1, A.2.1, A.2.2.1, A.2.2.2.1, [])
def o_type (A : Ab) (t : Int32) : Int32 × Ab := if t < 0 ∨ ¬ t ≤ 255 then (-1, A) else if 150 ≤ A.2.2.2.1.length then (-3, A) else (nI (A.2.2.2.1.length + 1), A.1, A.2.1, A.2.2.1, A.2.2.2.1 ++ [t.toNatClampNeg], A.2.2.2.2)
def o_clear (A : Ab) : Int32 × Ab := (nI A.2.2.2.1.length, A.1, A.2.1, A.2.2.1, [], A.2.2.2.2)
def legsA (F : Fl) : Int32 := (((0 + iI (F 0 0)) + iI (F 1 0)) + iI (F 2 0)) + iI (F 3 0)
def o_keep (A : Ab) (m : Int32) : Int32 × Ab := if m < 0 ∨ ¬ m < 2 then (-1, A) else (legsA A.1, A.1, A.2.1, (fun k => if k = m.toNatClampNeg then some A.1 else A.2.2.1 k), A.2.2.2)
def o_back (A : Ab) (m : Int32) : Int32 × Ab := if m < 0 ∨ ¬ m < 2 then (-1, A) else match A.2.2.1 m.toNatClampNeg with
  | none => (-2, A)
  | some Q => (legsA Q, Q, [], A.2.2)
def o_count (A : Ab) (w : Int32) : Int32 × Ab := if w = 0 then (legsA A.1, A) else if w = 1 then (nI A.2.2.2.2.length, A) else if w = 2 then (nI A.2.2.2.1.length, A) else if w = 3 then (nI A.2.1.length, A) else (-1, A)
def o_sails (A : Ab) (i : Int32) : Int32 × Ab := if badI i then (-1, A) else if ¬ stN (shN A i) then (-2, A) else
  (iI (-((-tU (shN A i) (nF (shN A i)) (nL (shN A i)) (nF (shN A i))) / miA (shN A i) (nF (shN A i)) (nL (shN A i)) (nF (shN A i))) + shN A i (9 + (4 * nF (shN A i) + 1))),
   updF (updF (updF A.1 i.toNatClampNeg 2 (nF (shN A i) + 1)) i.toNatClampNeg 3 (-((-tU (shN A i) (nF (shN A i)) (nL (shN A i)) (nF (shN A i))) / miA (shN A i) (nF (shN A i)) (nL (shN A i)) (nF (shN A i))) + shN A i (9 + (4 * nF (shN A i) + 1)))) i.toNatClampNeg 4 (shN A i 4 + cst (shN A i) (nF (shN A i)) (nL (shN A i)) (nF (shN A i))), pushP A.1 A.2.1, A.2.2)
theorem self_i (x : Int32) : x = iI x.toInt := (Int32.ofInt_toInt x).symm
theorem rg_i (x : Int32) : rg x.toInt := ⟨by have := Int32.le_toInt x; omega, by have := Int32.toInt_lt x; omega⟩
theorem pm_clamp {n : Nat} (h : n < 4) : (nI n).toNatClampNeg = n := nI_clamp (by omega)
section C7b
variable {G : evG} {d : Nat} {S : evS}
/-- what a call of the class leaves -/
abbrev xQ (S : evS) (o : Int32 × Ab) : Option Value → evS → Prop := evQI fun r S' => r = o.1 ∧ RepC o.2 S' ∧ FrC S S'
theorem x_holds (hCl : evCl G) (hV : (0, 0) ∈ evKs G) {A : Ab} (h : RepC A S) (w : WfA A) {i t : Int32} : evSp G yX5_holds M_X5_holds (d + 4) [.ref (evad G 0 0), .int i, .int t] S (xQ S (o_holds A i t)) := by
  rcases ship_cases i with hb | ⟨n, hn, rfl⟩
  · have e : o_holds A i t = (-1, A) := if_pos (Or.inl hb)
    rw [e]
    refine vm_X5_holds (vb_X5_holds_0 hCl hV ((c_noShip1 hCl hb).mI ?_))
    rintro r S' ⟨rfl, rfl⟩
    exact ⟨fun _ => ⟨rfl, h, FrC.rf⟩, fun z => absurd z (by decide)⟩
  · refine vm_X5_holds (vb_X5_holds_0 hCl hV ((c_noShip0 hCl hn).mI ?_))
    rintro r S' ⟨rfl, rfl⟩
    refine ⟨fun z => absurd rfl z, fun _ => ⟨fun h1 => ?_, fun h1 => ⟨fun h2 => ?_, fun h2 => ?_⟩⟩⟩
    · rw [show o_holds A (nI n) t = (-1, A) from if_pos (Or.inr (Or.inl h1))]
      exact ⟨rfl, h, FrC.rf⟩
    · have hb : ¬ (badI (nI n) ∨ t < 1 ∨ ¬ t ≤ 99) := by
        rintro ((z | z) | z | z)
        · exact absurd z (nI_pos (by omega))
        · exact absurd z (nI_nlt (a := 3) (by omega) (by omega))
        · exact h1 z
        · exact z h2
      rw [pm_clamp hn]
      refine ⟨vp_in_nI hn (by omega), (c_trait hCl (k_ship hCl hV hn) (j := 3) (by omega) rfl).mI ?_⟩
      rintro r4 S5 ⟨rfl, rfl⟩ v6 h6
      have w3 := (w.1 n hn).2.2.1
      have t1 := Int32.le_iff_toInt_le.mp h2
      have t2 : ¬ t.toInt < 1 := fun z => h1 (Int32.lt_iff_toInt_lt.mpr z)
      have e99 : (99 : Int32).toInt = 99 := by decide
      rw [(h.1.sh hn).t (by omega), self_i t, iI_add] at h6
      subst h6
      rw [show (9999 : Int32) = iI 9999 from rfl, iI_le (rg_of (A := 20000) (by omega) (by omega)) (rg_of (A := 9999) (by omega) (by omega))]
      have eo : ∀ z, (9999 < A.1 n 3 + t.toInt ↔ z) → o_holds A (nI n) t = o_holds A (nI n) t := fun _ _ => rfl
      unfold o_holds
      rw [if_neg hb]
      unfold shN
      rw [pm_clamp hn]
      refine ⟨fun hz => ?_, fun hz => ?_⟩
      · rw [if_neg (by omega)]
        refine (c_rem (d := d) hCl hV h w).mV ?_
        rintro S7 ⟨h7, f7⟩
        refine (c_setTrait hCl (k_ship hCl hV hn) (j := 3) (by omega) rfl).mV ?_
        rintro S8 rfl
        exact ⟨rfl, h7.setT hn (by omega) rfl, f7.tr (FrC.up (by omega))⟩
      · rw [if_pos (by omega)]
        exact ⟨rfl, h, FrC.rf⟩
    · rw [show o_holds A (nI n) t = (-1, A) from if_pos (Or.inr (Or.inr h2))]
      exact ⟨rfl, h, FrC.rf⟩
end C7b
