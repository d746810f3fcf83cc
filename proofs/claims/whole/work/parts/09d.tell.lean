def rsI : Rs → Int32
  | .inl t => iI (-10 - (t : Int))
  | .inr (n, _) => nI n
def D0 (k : Nat) : Int := if k = 1 then 20 else if k = 5 then 1 else if k = 6 then 2 else if k = 7 then 4 else if k = 8 then 8 else 0
theorem evst61 : ∀ k, k < 33 → evst 61 k = iI (D0 k) := by
  have : ∀ k : Fin 33, evst 61 k.val = iI (D0 k.val) := by decide
  exact fun k hk => this ⟨k, hk⟩
theorem InD0 : InD D0 := by
  refine ⟨by decide, fun n hn => ?_, fun k hk => ?_⟩
  · rcases (by omega : n = 0 ∨ n = 1 ∨ n = 2 ∨ n = 3) with rfl | rfl | rfl | rfl <;> decide
  · exact absurd hk (by unfold nL D0; simp)
theorem tkE_1 {tx : Nat → Nat} {L p : Nat} (h : ¬ fig (tx p)) : tkE tx L p = p + 1 := by unfold tkE; rw [if_neg h]
section C9d
variable {G : evG} {d : Nat} {S : evS}
theorem c_takesToken (hCl : evCl G) (hV : (0, 0) ∈ evKs G) {A : Ab} (w : WfA A) {p it g n : Nat} {v D : Nat → Int} {fa ta : Bool} (h : TkC A S it g v n fa ta D) (hI : InV it g v D) (hD : InD D) (hp : p < lnA A) (hs : ¬ txA A p = 32) :
    evSp G yX4_takesToken M_X4_takesToken (d + 3) [.ref (evad G 18 0), .ref (evad G 3 36), .int (nI p)] S (evQI fun r S' => FrC S S' ∧ ((r = 0 ∧ RepC A S' ∧ ∀ R, Runs (txA A) (lnA A) p it g v n fa ta D R → R = .inl p) ∨ (r = 1 ∧ ∃ it' g' v' n' fa' ta' D', TkC A S' it' g' v' n' fa' ta' D' ∧ InV it' g' v' D' ∧ InD D' ∧ n' ≤ n + 1 ∧ ∀ R, Runs (txA A) (lnA A) p it g v n fa ta D R → Runs (txA A) (lnA A) (tkE (txA A) (lnA A) p) it' g' v' n' fa' ta' D' R))) := by
  obtain ⟨h1, h2, h3, h4, h5, h6, h7⟩ := id h
  have hl := lnA_b w
  have xb := txA_b w hp
  have i3 := hI.1
  have d0 : 0 ≤ D 0 ∧ D 0 ≤ 6 := ⟨hD.1.2.2.2.1, hD.1.2.2.2.2.1⟩
  refine vm_X4_takesToken (vb_X4_takesToken_0 hCl (k_text hCl hV) (k_trial hCl hV) ⟨vp_in_nI (by omega) (by omega), ?_⟩)
  rw [nI_clamp (by omega), h1.let hp, h2, show (0 : Int32) = nI 0 from rfl, nI_eqi (by omega) (by omega)]
  rintro v2 rfl
  refine ⟨fun hi => ?_, fun hi => ?_⟩
  · obtain ⟨h3, h3v⟩ := h3 hi
    have c4 := cnt_le (it := it)
    have g4 := hI.2.1
    refine vm_X4_numbersOfItem (vb_X4_numbersOfItem_0 hCl (k_text hCl hV) ?_)
    rw [h2, show (118 : Int32) = nI 118 from rfl, nI_eqi (by omega) (by omega), h3]
    have main : ∀ r3 : Int32, r3 = nI (cnt it) → ((r3 ≤ nI g → ((nI (txA A p) = 59 → (evSp G yX4_endItem M_X4_endItem (d + 2) [.ref (evad G 18 0), .ref (evad G 3 36)] S (evQV fun S5 => (fun r S' => FrC S S' ∧ ((r = 0 ∧ RepC A S' ∧ ∀ R, Runs (txA A) (lnA A) p it g v n fa ta D R → R = .inl p) ∨ (r = 1 ∧ ∃ it' g' v' n' fa' ta' D', TkC A S' it' g' v' n' fa' ta' D' ∧ InV it' g' v' D' ∧ InD D' ∧ n' ≤ n + 1 ∧ ∀ R, Runs (txA A) (lnA A) p it g v n fa ta D R → Runs (txA A) (lnA A) (tkE (txA A) (lnA A) p) it' g' v' n' fa' ta' D' R))) (1 : Int32) S5))) ∧ (¬ nI (txA A p) = 59 → (fun r S' => FrC S S' ∧ ((r = 0 ∧ RepC A S' ∧ ∀ R, Runs (txA A) (lnA A) p it g v n fa ta D R → R = .inl p) ∨ (r = 1 ∧ ∃ it' g' v' n' fa' ta' D', TkC A S' it' g' v' n' fa' ta' D' ∧ InV it' g' v' D' ∧ InD D' ∧ n' ≤ n + 1 ∧ ∀ R, Runs (txA A) (lnA A) p it g v n fa ta D R → Runs (txA A) (lnA A) (tkE (txA A) (lnA A) p) it' g' v' n' fa' ta' D' R))) (0 : Int32) S))) ∧ (¬ r3 ≤ nI g → (evSp G yX4_isFigure M_X4_isFigure (d + 2) [.int (nI (txA A p))] S (evQI fun r6 S7 => ((r6 = 0 → (fun r S' => FrC S S' ∧ ((r = 0 ∧ RepC A S' ∧ ∀ R, Runs (txA A) (lnA A) p it g v n fa ta D R → R = .inl p) ∨ (r = 1 ∧ ∃ it' g' v' n' fa' ta' D', TkC A S' it' g' v' n' fa' ta' D' ∧ InV it' g' v' D' ∧ InD D' ∧ n' ≤ n + 1 ∧ ∀ R, Runs (txA A) (lnA A) p it g v n fa ta D R → Runs (txA A) (lnA A) (tkE (txA A) (lnA A) p) it' g' v' n' fa' ta' D' R))) (0 : Int32) S7) ∧ (¬ r6 = 0 → (evSp G yX4_numberAt M_X4_numberAt (d + 2) [.ref (evad G 18 0), .int (nI p)] S7 (evQI fun r8 S9 => (evSp G yX4_takesNumber M_X4_takesNumber (d + 2) [.ref (evad G 18 0), .int r8] S9 (evQI fun r10 S11 => ((r10 = 0 → (fun r S' => FrC S S' ∧ ((r = 0 ∧ RepC A S' ∧ ∀ R, Runs (txA A) (lnA A) p it g v n fa ta D R → R = .inl p) ∨ (r = 1 ∧ ∃ it' g' v' n' fa' ta' D', TkC A S' it' g' v' n' fa' ta' D' ∧ InV it' g' v' D' ∧ InD D' ∧ n' ≤ n + 1 ∧ ∀ R, Runs (txA A) (lnA A) p it g v n fa ta D R → Runs (txA A) (lnA A) (tkE (txA A) (lnA A) p) it' g' v' n' fa' ta' D' R))) (0 : Int32) S11) ∧ (¬ r10 = 0 → (fun r S' => FrC S S' ∧ ((r = 0 ∧ RepC A S' ∧ ∀ R, Runs (txA A) (lnA A) p it g v n fa ta D R → R = .inl p) ∨ (r = 1 ∧ ∃ it' g' v' n' fa' ta' D', TkC A S' it' g' v' n' fa' ta' D' ∧ InV it' g' v' D' ∧ InD D' ∧ n' ≤ n + 1 ∧ ∀ R, Runs (txA A) (lnA A) p it g v n fa ta D R → Runs (txA A) (lnA A) (tkE (txA A) (lnA A) p) it' g' v' n' fa' ta' D' R))) (1 : Int32) S11)))))))))))) := by
      rintro r3 rfl
      refine ⟨fun z => ?_, fun z => ?_⟩
      · have hg : ¬ g < cnt it := fun y => absurd z (nI_ge y (by omega))
        rw [show (59 : Int32) = nI 59 from rfl, nI_eqi (by omega) (by omega)]
        refine ⟨fun y => ?_, fun y => ?_⟩
        · refine (c_endItem (d := d) hCl hV h hI d0 hi hg).mV ?_
          rintro S5 ⟨f5, T5⟩
          refine ⟨f5, Or.inr ⟨rfl, 0, g, v, n + 1, _, _, _, T5, ⟨Or.inl rfl, hI.2.1, fun z => by omega, fun j hj z => absurd rfl z, hI.2.2.2.2⟩, hD.fin hI hi hg, by omega, fun R hR => ?_⟩⟩
          rw [tkE_1 (by omega)]
          exact run_e1 hR (by omega) hi hg y
        · exact ⟨FrC.rf, Or.inl ⟨rfl, h1, fun R hR => run_e0 hR (by omega) hs hi hg y⟩⟩
      · have hg : g < cnt it := by
          rcases Nat.lt_or_ge g (cnt it) with y | y
          · exact y
          · exact absurd (nI_le y (by omega)) z
        refine (c_isFigure hCl xb).mI ?_
        rintro r6 S7 ⟨rfl, rfl⟩
        by_cases hf : fig (txA A p)
        · rw [if_pos hf]
          refine ⟨fun z => absurd z (by decide), fun _ => (c_numberAt (d := d) hCl hV w h1 hp hf).mI ?_⟩
          rintro r8 S9 ⟨rfl, rfl⟩
          have nb := nuA_b (L := lnA A) hf
          refine (c_takesNumber (d := d + 1) hCl hV h hI hi hg nb).mI ?_
          rintro r10 S11 ⟨f11, (⟨rfl, R11, no⟩ | ⟨rfl, yes, T11⟩)⟩
          · exact ⟨fun _ => ⟨f11, Or.inl ⟨rfl, R11, fun R hR => run_n0 hR (by omega) hs hi hg (fun z => no z.2)⟩⟩, fun z => absurd rfl z⟩
          · exact ⟨fun z => absurd z (by decide), fun _ => ⟨f11, Or.inr ⟨rfl, it, g + 1, _, n, fa, ta, D, T11, hI.num hi hg yes.1 yes.2 (by omega), hD, by omega, fun R hR => run_n1 hR (by omega) hs hi hg ⟨hf, yes⟩⟩⟩⟩
        · rw [if_neg hf]
          exact ⟨fun _ => ⟨FrC.rf, Or.inl ⟨rfl, h1, fun R hR => run_n0 hR (by omega) hs hi hg (fun z => hf z.1)⟩⟩, fun z => absurd rfl z⟩
    refine ⟨fun y => main 4 ?_, fun y => main 1 ?_⟩
    · unfold cnt; rw [if_neg y]; rfl
    · unfold cnt; rw [if_pos y]; rfl
  · subst hi
    refine (c_beginsItem (d := d + 1) hCl hV h d0 xb).mI ?_
    rintro r12 S13 ⟨f13, (⟨rfl, R13, no⟩ | ⟨rfl, yes, T13⟩)⟩
    · exact ⟨Or.inl rfl, f13, Or.inl ⟨rfl, R13, fun R hR => run_b0 hR (by omega) hs no⟩⟩
    · refine ⟨Or.inr rfl, f13, Or.inr ⟨rfl, txA A p, 0, v, n, fa, ta, D, T13, ⟨by omega, by omega, fun z => ?_, fun j hj => by omega, fun j hj => by omega⟩, hD, by omega, fun R hR => ?_⟩⟩
      · rcases yes with ⟨-, y⟩ | ⟨y, -⟩ | ⟨y, -⟩
        · exact y
        · omega
        · omega
      · rw [tkE_1 (by omega)]
        exact run_b1 hR (by omega) hs yes
theorem c_tell_loop (hCl : evCl G) (hV : (0, 0) ∈ evKs G) {A : Ab} (w : WfA A) {S0 : evS} {R : Rs} :
    ∀ m p rd it g v n fa ta D (S : evS), p + m = lnA A → rd ≤ p → n ≤ p → FrC S0 S → TkC A S it g v n fa ta D → InV it g v D → InD D → Runs (txA A) (lnA A) p it g v n fa ta D R → bk_X4_tellShip_28 G (d + 3) (evQI fun r S' => r = rsI R ∧ RepC A S' ∧ FrC S0 S' ∧ ∀ k E, R = .inr (k, E) → ShD S' 36 E) 0 36 (nI p) (nI rd) S := by
  have hl := lnA_b w
  intro m
  induction m using Nat.strongRecOn with
  | _ m ih =>
    intro p rd it g v n fa ta D S hpm hrd hn f h hI hD hR
    obtain ⟨h1, h2, h3, h4, h5, h6, h7⟩ := id h
    have i3 := hI.1
    have ex : lnA A ≤ p → bk_X4_tellShip_86 G (d + 3) (evQI fun r S' => r = rsI R ∧ RepC A S' ∧ FrC S0 S' ∧ ∀ k E, R = .inr (k, E) → ShD S' 36 E) 0 S := by
      intro hp
      have e := run_end hR hp
      refine vb_X4_tellShip_86 hCl (k_text hCl hV) ?_
      rw [h2, show (0 : Int32) = nI 0 from rfl, nI_eqi (by omega) (by omega)]
      refine ⟨fun z => ?_, fun z => ?_⟩
      · rw [if_neg z] at e
        subst e
        refine ⟨?_, h1, f, fun k E z => by simp at z⟩
        rw [h1.len, show (-10 : Int32) = iI (-10) from rfl, iI_n, iI_sub]
        rfl
      · rw [if_pos z] at e
        subst e
        refine ⟨h4, h1, f, fun k E z => ?_⟩
        have z' := Sum.inr.inj z
        simp only [Prod.mk.injEq] at z'
        obtain ⟨-, rfl⟩ := z'
        exact h7
    refine vb_X4_tellShip_28 hCl (k_text hCl hV) (k_trial hCl hV) ⟨fun z => ex ?_, fun _ => ⟨fun z => ex ?_, fun z => ?_⟩⟩
    · rcases Nat.lt_or_ge rd 150 with y | y
      · exact absurd z (nI_ge (b := 150) y (by omega))
      · omega
    · rw [h1.len] at z
      rcases Nat.lt_or_ge p (lnA A) with y | y
      · exact absurd z (nI_ge y (by omega))
      · exact y
    · have hp : p < lnA A := by
        rcases Nat.lt_or_ge p (lnA A) with y | y
        · exact y
        · exfalso; apply z; rw [h1.len]; exact nI_le y (by omega)
      have xb := txA_b w hp
      refine ⟨vp_in_nI (by omega) (by omega), ?_⟩
      rw [nI_clamp (by omega), h1.let hp, show (32 : Int32) = nI 32 from rfl, nI_eqi (by omega) (by omega)]
      refine ⟨fun hs => ?_, fun hs => ?_⟩
      · refine (c_takesToken (d := d) hCl hV w h hI hD hp hs).mI ?_
        rintro r2 S3 ⟨f3, (⟨rfl, R3, no⟩ | ⟨rfl, it', g', v', n', fa', ta', D', T3, I3, D3, n3, nx⟩)⟩
        · refine ⟨fun z => absurd rfl z, fun _ => ?_⟩
          have e := no R hR
          subst e
          refine ⟨?_, R3, f.tr f3, fun k E z => by simp at z⟩
          rw [show (-10 : Int32) = iI (-10) from rfl, iI_n, iI_sub]
          rfl
        · refine ⟨fun _ => (c_tokenEnd (d := d + 2) hCl hV w T3.1 hp).mI ?_, fun z => absurd z (by decide)⟩
          rintro r4 S5 ⟨rfl, rfl⟩
          have tb := tkE_b (tx := txA A) hp
          refine vb_X4_tellShip_80 hCl (k_text hCl hV) (k_trial hCl hV) ?_
          intro v1 hv
          rw [inc_n hv]
          exact ih (lnA A - tkE (txA A) (lnA A) p) (by omega) _ (rd + 1) it' g' v' n' fa' ta' D' _ (by omega) (by omega) (by omega) (f.tr f3) T3 I3 D3 (nx R hR)
      · intro v6 hv6
        rw [inc_n hv6]
        refine vb_X4_tellShip_80 hCl (k_text hCl hV) (k_trial hCl hV) ?_
        intro v1 hv
        rw [inc_n hv]
        exact ih (m - 1) (by omega) (p + 1) (rd + 1) it g v n fa ta D S (by omega) (by omega) (by omega) f h hI hD (run_sp hR (by omega) hs)
/-- what the text tells -/
def prs (A : Ab) : Rs := (runF (txA A) (lnA A) (lnA A + 1) 0 0 0 (fun _ => 0) 0 false false D0).getD (.inl 0)
theorem prs_r (A : Ab) : Runs (txA A) (lnA A) 0 0 0 (fun _ => 0) 0 false false D0 (prs A) := by
  obtain ⟨r, h⟩ := run_ex (tx := txA A) (L := lnA A) (lnA A + 1) 0 0 0 (fun _ => 0) 0 false false D0 (by omega) (by omega)
  refine ⟨lnA A + 1, ?_⟩
  unfold prs
  rw [h]
  rfl
theorem InV0 : InV 0 0 (fun _ => 0) D0 := ⟨Or.inl rfl, by omega, fun z => by omega, fun j hj => by omega, fun j hj => by omega⟩
theorem prs_i (A : Ab) : (∀ t, prs A = .inl t → t ≤ lnA A) ∧ ∀ m E, prs A = .inr (m, E) → m ≤ lnA A ∧ InD E := by
  obtain ⟨f, h⟩ := prs_r A
  exact run_in f 0 0 0 _ 0 false false D0 (prs A) (by omega) InD0 InV0 (by omega) h
theorem c_tellShip (hCl : evCl G) (hV : (0, 0) ∈ evKs G) {A : Ab} (w : WfA A) (h : RepC A S) : evSp G yX4_tellShip M_X4_tellShip (d + 4) [.ref (evad G 18 0), .ref (evad G 3 36)] S (evQI fun r S' => r = rsI (prs A) ∧ RepC A S' ∧ FrC S S' ∧ ∀ k E, prs A = .inr (k, E) → ShD S' 36 E) := by
  refine vm_X4_tellShip (vb_X4_tellShip_0 hCl (k_text hCl hV) (k_trial hCl hV) ((c_becomeNew (d := d + 2) hCl (k_trial hCl hV)).mV ?_))
  rintro S1 ⟨b1, c1⟩
  obtain ⟨h1, f1⟩ := h.trial b1
  rintro S2 rfl S3 rfl S4 rfl S5 rfl
  have t2 := h1.tk (kd := 18) (c := 2) (v := 0) (Or.inl ⟨rfl, by omega⟩)
  have t3 := t2.1.tk (kd := 18) (c := 5) (v := 0) (Or.inl ⟨rfl, by omega⟩)
  have t4 := t3.1.tk (kd := 18) (c := 6) (v := 0) (Or.inl ⟨rfl, by omega⟩)
  have t5 := t4.1.tk (kd := 18) (c := 7) (v := 0) (Or.inl ⟨rfl, by omega⟩)
  have hs : ShD S1 36 D0 := fun k hk => by rw [c1 k hk]; exact evst61 k hk
  refine c_tell_loop (d := d) hCl hV w (lnA A) 0 0 0 0 (fun _ => 0) 0 false false D0 _ (by omega) (by omega) (by omega) ((((f1.tr t2.2).tr t3.2).tr t4.2).tr t5.2) ⟨t5.1, ?_, fun z => absurd rfl z, ?_, ?_, ?_, (((hs.e18 (by decide)).e18 (by decide)).e18 (by decide)).e18 (by decide)⟩ InV0 InD0 (prs_r A)
  · rw [evup_18 (by omega), evup_18 (by omega), evup_18 (by omega), evup_at]; rfl
  · rw [evup_18 (by omega), evup_18 (by omega), evup_at]; rfl
  · rw [evup_18 (by omega), evup_at]; rfl
  · rw [evup_at]; rfl
end C9d
