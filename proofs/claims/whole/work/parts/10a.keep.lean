/-! WHAT HOLDS OF THE STATE HOLDS ON -/
theorem WfS.low {D D' : Nat → Int} (w : WfS D) (h0 : D' 0 = D 0) (h1 : 1 ≤ D' 1 ∧ D' 1 ≤ 60) (h2 : 0 ≤ D' 2 ∧ D' 2 ≤ D 0) (h3 : 0 ≤ D' 3 ∧ D' 3 ≤ 9999) (h5 : ∀ k, 5 ≤ k → D' k = D k) : WfS D' := by
  obtain ⟨a1, a2, a3, a4, a5⟩ := w
  have nl : nL D' = nL D := by unfold nL; rw [h0]
  refine ⟨by rw [h0]; omega, h1, by rw [h5 7 (by omega), h5 8 (by omega)]; omega, fun n hn => by rw [h5 _ (by omega)]; exact a4 n hn, fun k hk => ?_⟩
  rw [nl] at hk
  rw [h5 _ (by omega), h5 _ (by omega), h5 _ (by omega), h5 _ (by omega)]
  exact a5 k hk
theorem WfS.win {D : Nat → Int} (w : WfS D) {k : Nat} {o c : Int} (h : 0 ≤ o ∧ o ≤ c ∧ c ≤ 999) : WfS (upI (upI D (9 + (4 * k + 2)) o) (9 + (4 * k + 3)) c) := by
  obtain ⟨a1, a2, a3, a4, a5⟩ := w
  have lo : ∀ j, j < 9 → (upI (upI D (9 + (4 * k + 2)) o) (9 + (4 * k + 3)) c) j = D j := fun j hj => by rw [upI_o (by omega), upI_o (by omega)]
  have nl : nL (upI (upI D (9 + (4 * k + 2)) o) (9 + (4 * k + 3)) c) = nL D := by unfold nL; rw [lo 0 (by omega)]
  refine ⟨by rw [lo 0 (by omega), lo 2 (by omega)]; exact a1, by rw [lo 1 (by omega)]; exact a2, by rw [lo 3 (by omega), lo 7 (by omega), lo 8 (by omega)]; exact a3, fun n hn => by rw [lo _ (by omega)]; exact a4 n hn, fun m hm => ?_⟩
  rw [nl] at hm
  have b := a5 m hm
  by_cases e : m = k
  · subst e
    rw [upI_o (by omega), upI_o (by omega), upI_o (by omega), upI_o (by omega), upI_o (by omega), upI_at, upI_at]
    omega
  · rw [upI_o (by omega), upI_o (by omega), upI_o (by omega), upI_o (by omega), upI_o (by omega), upI_o (by omega), upI_o (by omega), upI_o (by omega)]
    exact b
theorem InD.s {D : Nat → Int} (h : InD D) : WfS D := by
  obtain ⟨⟨b1, b2, b3, b4, b5, b6, b7, b8⟩, b9, b10⟩ := h
  exact ⟨by omega, by omega, by omega, b9, b10⟩
theorem WfA.push {A : Ab} (w : WfA A) {F : Fl} (h : WfF F) {T : List Nat} {U : List (Int × Int)} (hT : T.length ≤ 150 ∧ ∀ t ∈ T, t < 256) (hU : U.length ≤ 6 ∧ ∀ p ∈ U, (0 ≤ p.1 ∧ p.1 ≤ 999) ∧ 0 ≤ p.2 ∧ p.2 ≤ 999) : WfA (F, pushP A.1 A.2.1, A.2.2.1, T, U) := by
  obtain ⟨w1, ⟨w2, w3⟩, w4, w5, w6⟩ := w
  refine ⟨h, ⟨?_, fun Q hQ => ?_⟩, w4, hT, hU⟩
  · show (pushP A.1 A.2.1).length ≤ 6
    unfold pushP
    rw [List.length_take]
    omega
  · have hQ' : Q ∈ A.1 :: A.2.1 := List.mem_of_mem_take (show Q ∈ (A.1 :: A.2.1).take 6 from hQ)
    rcases List.mem_cons.mp hQ' with rfl | z
    · exact w1
    · exact w3 Q z
theorem WfF.up {F : Fl} (h : WfF F) {n j : Nat} {z : Int} (hs : n < 4 → WfS (upI (F n) j z)) : WfF (updF F n j z) := by
  intro i hi
  by_cases e : i = n
  · subst e; rw [updF_i]; exact hs hi
  · rw [updF_o e]; exact h i hi
theorem cl4 {i : Int32} (h : ¬ badI i) : i.toNatClampNeg < 4 := by
  rcases ship_cases i with z | ⟨n, hn, rfl⟩
  · exact absurd z h
  · rw [pm_clamp hn]; exact hn
theorem w_holds {A : Ab} (w : WfA A) (i h : Int32) : WfA (o_holds A i h).2 := by
  unfold o_holds
  split
  · exact w
  · rename_i hb
    split
    · exact w
    · rename_i hc
      have c4 := cl4 (fun z => hb (Or.inl z))
      have ws := w.1 _ c4
      have t1 := t_lo (t := h) (a := 1) rfl ⟨by decide, by decide⟩ (fun z => hb (Or.inr (Or.inl z)))
      have w3 := ws.2.2.1
      unfold shN at *
      refine w.push (w.1.up (fun _ => ws.low (upI_o (by omega)) (by rw [upI_o (by omega)]; exact ws.2.1) (by rw [upI_o (by omega)]; exact ⟨ws.1.1, ws.1.2.1⟩) (by rw [upI_at]; omega) (fun k hk => upI_o (by omega)))) w.2.2.2.1 w.2.2.2.2
theorem w_fastens {A : Ab} (w : WfA A) (i h : Int32) : WfA (o_fastens A i h).2 := by
  unfold o_fastens
  split
  · exact w
  · rename_i hb
    split
    · exact w
    · have c4 := cl4 (fun z => hb (Or.inl z))
      have ws := w.1 _ c4
      have t1 := t_lo (t := h) (a := 1) rfl ⟨by decide, by decide⟩ (fun z => hb (Or.inr (Or.inl z)))
      have t2 := t_hi (t := h) (a := 60) rfl ⟨by decide, by decide⟩ (Classical.byContradiction fun z => hb (Or.inr (Or.inr z)))
      have w3 := ws.2.2.1
      refine w.push (w.1.up (fun _ => ws.low (upI_o (by omega)) (by rw [upI_at]; omega) (by rw [upI_o (by omega)]; exact ⟨ws.1.1, ws.1.2.1⟩) (by rw [upI_o (by omega)]; omega) (fun k hk => upI_o (by omega)))) w.2.2.2.1 w.2.2.2.2
theorem updF2 {F : Fl} {n j k : Nat} {y z : Int} (h : WfF F) (hs : n < 4 → WfS (upI (upI (F n) j y) k z)) : WfF (updF (updF F n j y) n k z) := by
  intro i hi
  by_cases e : i = n
  · subst e; rw [updF_i, updF_i]; exact hs hi
  · rw [updF_o e, updF_o e]; exact h i hi
theorem w_moves {A : Ab} (w : WfA A) (i p o c : Int32) : WfA (o_moves A i p o c).2 := by
  unfold o_moves
  split
  · exact w
  · rename_i hb
    split
    · exact w
    · have c4 := cl4 (fun z => hb (Or.inl z))
      have ws := w.1 _ c4
      have o1 := t_lo (t := o) (a := 0) rfl ⟨by decide, by decide⟩ (fun z => hb (Or.inr (Or.inr (Or.inl z))))
      have o2 : o.toInt ≤ c.toInt := by
        have : ¬ c < o := fun z => hb (Or.inr (Or.inr (Or.inr (Or.inl z))))
        rw [Int32.lt_iff_toInt_lt] at this
        omega
      have o3 := t_hi (t := c) (a := 999) rfl ⟨by decide, by decide⟩ (Classical.byContradiction fun z => hb (Or.inr (Or.inr (Or.inr (Or.inr z)))))
      exact w.push (updF2 w.1 (fun _ => ws.win ⟨o1, o2, o3⟩)) w.2.2.2.1 w.2.2.2.2
theorem stand_fl {D : Nat → Int} (w : WfS D) (hs : 0 < pNeed D (nF D) (nL D)) : nF D < nL D := by
  have w1 := w.1
  rcases Nat.lt_or_ge (nF D) (nL D) with z | z
  · exact z
  · exfalso
    have e : nF D = nL D := by unfold nF nL at *; omega
    unfold pNeed pN at hs
    rw [e] at hs
    have : (mea (farD D) (nL D) (pM D (nL D) (nL D)) (pH D (nL D) (nL D)) 7 (nL D) 0 1 0) = (0, 1, 0) := by unfold mea; rw [if_neg (by omega)]
    rw [this] at hs
    revert hs
    decide
theorem w_sails {A : Ab} (w : WfA A) (i : Int32) : WfA (o_sails A i).2 := by
  unfold o_sails
  split
  · exact w
  · rename_i hb
    split
    · exact w
    · rename_i hs
      have c4 := cl4 hb
      have ws := w.1 _ c4
      unfold shN at hs ⊢
      have hs' := (Classical.not_not.mp hs).1
      have fl := stand_fl ws hs'
      have sc := sail_c ws.p fl hs'
      have wk := ws.2.2.2.2 _ fl
      have w1 := ws.1
      have f2 : (nF (A.1 i.toNatClampNeg) : Int) = A.1 i.toNatClampNeg 2 := by unfold nF; omega
      have l2 : (nL (A.1 i.toNatClampNeg) : Int) = A.1 i.toNatClampNeg 0 := by unfold nL; omega
      refine w.push (fun a ha => ?_) w.2.2.2.1 w.2.2.2.2
      by_cases e : a = i.toNatClampNeg
      · subst e
        rw [updF_i, updF_i, updF_i]
        refine ws.low (by rw [upI_o (by omega), upI_o (by omega), upI_o (by omega)]) (by rw [upI_o (by omega), upI_o (by omega), upI_o (by omega)]; exact ws.2.1) (by rw [upI_o (by omega), upI_o (by omega), upI_at]; omega) (by rw [upI_o (by omega), upI_at]; omega) (fun k hk => by rw [upI_o (by omega), upI_o (by omega), upI_o (by omega)])
      · rw [updF_o e, updF_o e, updF_o e]; exact w.1 a ha
theorem w_undo {A : Ab} (w : WfA A) : WfA (o_undo A).2 := by
  obtain ⟨F, P, R⟩ := A
  cases P with
  | nil => exact w
  | cons Q P =>
    have hl : P.length + 1 ≤ 6 := w.2.1.1
    exact ⟨w.2.1.2 Q (List.mem_cons_self ..), ⟨by show P.length ≤ 6; omega, fun V hV => w.2.1.2 V (List.mem_cons_of_mem _ hV)⟩, w.2.2⟩
theorem w_tells {A : Ab} (w : WfA A) (i : Int32) : WfA (o_tells A i).2 := by
  unfold o_tells
  split
  · exact w
  · rename_i hb
    cases hr : prs A with
    | inl t => exact w
    | inr p =>
      obtain ⟨m, E⟩ := p
      have hE := ((prs_i A).2 m E hr).2.s
      refine w.push (fun a ha => ?_) ⟨by simp, fun t ht => by simp at ht⟩ w.2.2.2.2
      unfold setS
      split
      · exact hE
      · exact w.1 a ha
theorem w_keep {A : Ab} (w : WfA A) (m : Int32) : WfA (o_keep A m).2 := by
  unfold o_keep
  split
  · exact w
  · refine ⟨w.1, w.2.1, fun k Q hQ => ?_, w.2.2.2⟩
    simp only at hQ
    split at hQ
    · have := Option.some.inj hQ
      subst this
      exact w.1
    · exact w.2.2.1 k Q hQ
theorem w_back {A : Ab} (w : WfA A) (m : Int32) : WfA (o_back A m).2 := by
  unfold o_back
  split
  · exact w
  · cases hQ : A.2.2.1 m.toNatClampNeg with
    | none => exact w
    | some Q => exact ⟨w.2.2.1 _ Q hQ, ⟨by simp, fun V hV => by simp at hV⟩, w.2.2⟩
theorem w_type {A : Ab} (w : WfA A) (t : Int32) : WfA (o_type A t).2 := by
  unfold o_type
  split
  · exact w
  · rename_i hb
    split
    · exact w
    · rename_i hl
      have t0 := t_lo (t := t) (a := 0) rfl ⟨by decide, by decide⟩ (fun z => hb (Or.inl z))
      have t2 := t_hi (t := t) (a := 255) rfl ⟨by decide, by decide⟩ (Classical.byContradiction fun z => hb (Or.inr z))
      have tc := t_cl t0
      refine ⟨w.1, w.2.1, w.2.2.1, ⟨?_, fun u hu => ?_⟩, w.2.2.2.2⟩
      · show (A.2.2.2.1 ++ [t.toNatClampNeg]).length ≤ 150
        rw [List.length_append, List.length_singleton]
        omega
      · rcases List.mem_append.mp hu with z | z
        · exact w.2.2.2.1.2 u z
        · rw [List.mem_singleton] at z; omega
theorem w_sees {A : Ab} (w : WfA A) (t m : Int32) : WfA (o_sees A t m).2 := by
  unfold o_sees
  split
  · exact w
  · rename_i hb
    split
    · exact w
    · rename_i hl
      have t0 := t_lo (t := t) (a := 0) rfl ⟨by decide, by decide⟩ (fun z => hb (Or.inl z))
      have t2 : t.toInt ≤ 999 := by
        have : ¬ 999 < t := fun z => hb (Or.inr (Or.inl z))
        rw [show (999 : Int32) = iI 999 from rfl, i_lt ⟨by decide, by decide⟩] at this
        omega
      have m0 := t_lo (t := m) (a := 0) rfl ⟨by decide, by decide⟩ (fun z => hb (Or.inr (Or.inr (Or.inl z))))
      have m2 := t_hi (t := m) (a := 999) rfl ⟨by decide, by decide⟩ (Classical.byContradiction fun z => hb (Or.inr (Or.inr (Or.inr z))))
      refine ⟨w.1, w.2.1, w.2.2.1, w.2.2.2.1, ?_, fun u hu => ?_⟩
      · show (A.2.2.2.2 ++ [(t.toInt, m.toInt)]).length ≤ 6
        rw [List.length_append, List.length_singleton]
        omega
      · rcases List.mem_append.mp hu with z | z
        · exact w.2.2.2.2.2 u z
        · rw [List.mem_singleton] at z
          subst z
          exact ⟨⟨t0, t2⟩, m0, m2⟩
theorem w_clear {A : Ab} (w : WfA A) : WfA (o_clear A).2 := ⟨w.1, w.2.1, w.2.2.1, ⟨by simp [o_clear], fun t ht => by simp [o_clear] at ht⟩, w.2.2.2.2⟩
theorem w_forget {A : Ab} (w : WfA A) : WfA (o_forget A).2 := ⟨w.1, w.2.1, w.2.2.1, w.2.2.2.1, by simp [o_forget], fun t ht => by simp [o_forget] at ht⟩
theorem w_same {A : Ab} {o : Int32 × Ab} (w : WfA A) (h : o.2 = A) : WfA o.2 := by rw [h]; exact w
theorem s_ship {A : Ab} {i t : Int32} : (o_ship A i t).2 = A := by unfold o_ship; split <;> rfl
theorem s_leg {A : Ab} {i k t : Int32} : (o_leg A i k t).2 = A := by unfold o_leg; split <;> rfl
theorem s_plan {A : Ab} {i t : Int32} : (o_plan A i t).2 = A := by
  unfold o_plan; split
  · rfl
  · split
    · rfl
    · split <;> rfl
theorem s_time {A : Ab} {i p t : Int32} : (o_time A i p t).2 = A := by
  unfold o_time; split
  · rfl
  · split <;> rfl
theorem s_speed {A : Ab} {i p t : Int32} : (o_speed A i p t).2 = A := by
  unfold o_speed; split
  · rfl
  · split <;> rfl
theorem s_closed {A : Ab} {i p : Int32} : (o_closed A i p).2 = A := by
  unfold o_closed; split
  · rfl
  · split <;> rfl
theorem s_cost {A : Ab} {i p : Int32} : (o_cost A i p).2 = A := by
  unfold o_cost; split
  · rfl
  · split <;> rfl
theorem s_slack {A : Ab} {i : Int32} : (o_slack A i).2 = A := by unfold o_slack; split <;> rfl
theorem s_needs {A : Ab} {i : Int32} : (o_needs A i).2 = A := by unfold o_needs; split <;> rfl
theorem s_eased {A : Ab} {i : Int32} : (o_eased A i).2 = A := by unfold o_eased; split <;> rfl
theorem s_mile {A : Ab} {i h : Int32} : (o_mile A i h).2 = A := by unfold o_mile; split <;> rfl
theorem s_count {A : Ab} {t : Int32} : (o_count A t).2 = A := by
  unfold o_count; split
  · rfl
  · split
    · rfl
    · split
      · rfl
      · split <;> rfl
