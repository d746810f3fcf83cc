section C7d
variable {G : evG} {d : Nat} {S : evS}
theorem x_moves (hCl : evCl G) (hV : (0, 0) ∈ evKs G) {A : Ab} (h : RepC A S) (w : WfA A) {i p o c : Int32} : evSp G yX5_moves M_X5_moves (d + 4) [.ref (evad G 0 0), .int i, .int p, .int o, .int c] S (xQ S (o_moves A i p o c)) := by
  rcases ship_cases i with hb | ⟨n, hn, rfl⟩
  · rw [show o_moves A i p o c = (-1, A) from if_pos (Or.inl hb)]
    refine vm_X5_moves (vb_X5_moves_0 hCl hV ((c_noShip1 hCl hb).mI ?_))
    rintro r S' ⟨rfl, rfl⟩
    exact ⟨fun _ => ⟨rfl, h, FrC.rf⟩, fun z => absurd z (by decide)⟩
  · refine vm_X5_moves (vb_X5_moves_0 hCl hV ((c_noShip0 hCl hn).mI ?_))
    rintro r S' ⟨rfl, rfl⟩
    have es : shN A (nI n) = A.1 n := by unfold shN; rw [pm_clamp hn]
    refine ⟨fun z => absurd rfl z, fun _ => ?_⟩
    rw [pm_clamp hn]
    refine ⟨vp_in_nI hn (by omega), (x_port hCl (k_ship hCl hV hn) (h.1.sh hn) (w.1 n hn)).mI ?_⟩
    rintro r4 S5 ⟨rfl, rfl⟩
    by_cases ha : ahead (A.1 n) p
    · rw [if_pos ha]
      refine ⟨fun _ => ⟨fun h1 => ?_, fun h1 => ⟨fun h2 => ?_, fun h2 => ⟨fun h3 => ?_, fun h3 => ?_⟩⟩⟩, fun z => absurd z (by decide)⟩
      · rw [show o_moves A (nI n) p o c = (-1, A) from if_pos (Or.inr (Or.inr (Or.inl h1)))]
        exact ⟨rfl, h, FrC.rf⟩
      · rw [show o_moves A (nI n) p o c = (-1, A) from if_pos (Or.inr (Or.inr (Or.inr (Or.inl h2))))]
        exact ⟨rfl, h, FrC.rf⟩
      · refine ⟨vp_in_nI hn (by omega), ?_⟩
        obtain ⟨k, rfl, k1, k2, k6⟩ := ahead_k (w.1 n hn) ha
        have wl := (w.1 n hn).2.2.2.2 k k2
        rintro v7 rfl
        have ev : nI (k + 1) - 1 = nI k := by rw [iI_n, iI_1, iI_sub, iI_n]; congr 1; omega
        rw [ev]
        have eo : o_moves A (nI n) (nI (k + 1)) o c = if A.1 n (9 + (4 * k + 2)) = o.toInt ∧ A.1 n (9 + (4 * k + 3)) = c.toInt then (-2, A) else (1, updF (updF A.1 n (9 + (4 * k + 2)) o.toInt) n (9 + (4 * k + 3)) c.toInt, pushP A.1 A.2.1, A.2.2) := by
          unfold o_moves
          rw [if_neg (by
            rintro (z | z | z | z | z)
            · exact nbad hn z
            · rw [es] at z; exact z ha
            · exact h1 z
            · exact h2 z
            · exact z h3), es, pm_clamp hn, nI_clamp (by omega), Nat.add_sub_cancel]
        have fin : ¬ (A.1 n (9 + (4 * k + 2)) = o.toInt ∧ A.1 n (9 + (4 * k + 3)) = c.toInt) → bk_X5_moves_89 G (d + 3) (xQ S5 (o_moves A (nI n) (nI (k + 1)) o c)) 0 o c n (nI k) S5 := by
          intro hz
          rw [eo, if_neg hz]
          refine vb_X5_moves_89 hCl hV (k_ship hCl hV hn) ((c_rem (d := d) hCl hV h w).mV ?_)
          rintro S7 ⟨h7, f7⟩
          refine (c_setOfLeg (d := d + 2) hCl (k_ship hCl hV hn) (k := k) (w := 2) (by omega) (by omega) rfl rfl).mV ?_
          rintro S8 rfl
          refine (c_setOfLeg (d := d + 2) hCl (k_ship hCl hV hn) (k := k) (w := 3) (by omega) (by omega) rfl rfl).mV ?_
          rintro S9 rfl
          exact ⟨rfl, (h7.setL hn (by omega) (self_i o)).setL hn (by omega) (self_i c), (f7.tr (FrC.up (by omega))).tr (FrC.up (by omega))⟩
        refine (c_ofLeg (d := d + 2) hCl (k_ship hCl hV hn) (k := k) (w := 2) (by omega) (by omega) rfl rfl).mI ?_
        rintro r8 S9 ⟨rfl, rfl⟩
        rw [(h.1.sh hn).l (by omega), eq_i (rg_of (A := 999) (by omega) (by omega))]
        refine ⟨fun hz => fin (fun z => hz z.1), fun hz => ?_⟩
        refine (c_ofLeg (d := d + 2) hCl (k_ship hCl hV hn) (k := k) (w := 3) (by omega) (by omega) rfl rfl).mI ?_
        rintro r8 S9 ⟨rfl, rfl⟩
        rw [(h.1.sh hn).l (by omega), eq_i (rg_of (A := 999) (by omega) (by omega))]
        refine ⟨fun hy => fin (fun z => hy z.2), fun hy => ?_⟩
        rw [eo, if_pos ⟨hz, hy⟩]
        exact ⟨rfl, h, FrC.rf⟩
      · rw [show o_moves A (nI n) p o c = (-1, A) from if_pos (Or.inr (Or.inr (Or.inr (Or.inr h3))))]
        exact ⟨rfl, h, FrC.rf⟩
    · rw [if_neg ha]
      refine ⟨fun z => absurd rfl z, fun _ => ?_⟩
      rw [show o_moves A (nI n) p o c = (-1, A) from if_pos (Or.inr (Or.inl (by rw [es]; exact ha)))]
      exact ⟨rfl, h, FrC.rf⟩
theorem x_plan (hCl : evCl G) (hV : (0, 0) ∈ evKs G) {A : Ab} (h : RepC A S) (w : WfA A) {i t : Int32} : evSp G yX5_plan M_X5_plan (d + 6) [.ref (evad G 0 0), .int i, .int t] S (xQ S (o_plan A i t)) := by
  rcases ship_cases i with hb | ⟨n, hn, rfl⟩
  · rw [show o_plan A i t = (-1, A) from if_pos (Or.inl hb)]
    refine vm_X5_plan (vb_X5_plan_0 hCl hV ((c_noShip1 hCl hb).mI ?_))
    rintro r S' ⟨rfl, rfl⟩
    exact ⟨fun _ => ⟨rfl, h, FrC.rf⟩, fun z => absurd z (by decide)⟩
  · refine vm_X5_plan (vb_X5_plan_0 hCl hV ((c_noShip0 hCl hn).mI ?_))
    rintro r S' ⟨rfl, rfl⟩
    have es : shN A (nI n) = A.1 n := by unfold shN; rw [pm_clamp hn]
    refine ⟨fun z => absurd rfl z, fun _ => ⟨fun h1 => ?_, fun h1 => ⟨fun h2 => ?_, fun h2 => ?_⟩⟩⟩
    · rw [show o_plan A (nI n) t = (-1, A) from if_pos (Or.inr (Or.inl h1))]
      exact ⟨rfl, h, FrC.rf⟩
    · have wp := (w.1 n hn).p
      unfold o_plan
      rw [if_neg (by rintro (z | z | z); exact nbad hn z; exact h1 z; exact z h2), es, pm_clamp hn]
      refine (x_drawn (d := d) hCl hV hn h w).mR ?_
      rintro S3 ⟨h3, f3, P3⟩
      refine ⟨vp_in_nI hn (by omega), (c_stands hCl (k_plan hCl hV hn) P3 (need_b wp) (w.1 n hn).2.1).mI ?_⟩
      rintro r6 S7 ⟨rfl, rfl⟩
      by_cases hs : stN (A.1 n)
      · rw [if_pos hs, if_neg (not_not_intro hs)]
        refine ⟨fun _ => ⟨fun ht => ?_, fun ht => ?_⟩, fun z => absurd z (by decide)⟩
        · rw [if_neg ht]
          refine (c_burntInAll (d := d + 2) hCl (k_plan hCl hV hn) wp (w.1 n hn).2.2.2.1 P3 (fun k k1 k2 => stand_ho wp hs.1 k1 k2)).mI ?_
          rintro r8 S9 ⟨rfl, rfl⟩
          exact ⟨rfl, h3, f3⟩
        · rw [if_pos ht]
          refine (c_stretchCount hCl (k_plan hCl hV hn) P3).mI ?_
          rintro r8 S9 ⟨rfl, rfl⟩
          exact ⟨rfl, h3, f3⟩
      · rw [if_neg hs, if_pos hs]
        exact ⟨fun z => absurd rfl z, fun _ => ⟨rfl, h3, f3⟩⟩
    · rw [show o_plan A (nI n) t = (-1, A) from if_pos (Or.inr (Or.inr h2))]
      exact ⟨rfl, h, FrC.rf⟩
theorem x_time (hCl : evCl G) (hV : (0, 0) ∈ evKs G) {A : Ab} (h : RepC A S) (w : WfA A) {i p t : Int32} : evSp G yX5_time M_X5_time (d + 6) [.ref (evad G 0 0), .int i, .int p, .int t] S (xQ S (o_time A i p t)) := by
  rcases ship_cases i with hb | ⟨n, hn, rfl⟩
  · rw [show o_time A i p t = (-1000000, A) from if_pos (Or.inl hb)]
    refine vm_X5_time (vb_X5_time_0 hCl hV ((c_noShip1 hCl hb).mI ?_))
    rintro r S' ⟨rfl, rfl⟩
    exact ⟨fun _ => ⟨rfl, h, FrC.rf⟩, fun z => absurd z (by decide)⟩
  · refine vm_X5_time (vb_X5_time_0 hCl hV ((c_noShip0 hCl hn).mI ?_))
    rintro r S' ⟨rfl, rfl⟩
    have es : shN A (nI n) = A.1 n := by unfold shN; rw [pm_clamp hn]
    refine ⟨fun z => absurd rfl z, fun _ => ⟨fun h1 => ?_, fun h1 => ⟨fun h2 => ?_, fun h2 => ?_⟩⟩⟩
    · rw [show o_time A (nI n) p t = (-1000000, A) from if_pos (Or.inr (Or.inl h1))]
      exact ⟨rfl, h, FrC.rf⟩
    · rw [show o_time A (nI n) p t = (-1000000, A) from if_pos (Or.inr (Or.inr (Or.inl h2)))]
      exact ⟨rfl, h, FrC.rf⟩
    · have wp := (w.1 n hn).p
      rw [pm_clamp hn]
      refine ⟨vp_in_nI hn (by omega), (x_port hCl (k_ship hCl hV hn) (h.1.sh hn) (w.1 n hn)).mI ?_⟩
      rintro r4 S5 ⟨rfl, rfl⟩
      by_cases ha : ahead (A.1 n) p
      · rw [if_pos ha]
        refine ⟨fun _ => ?_, fun z => absurd z (by decide)⟩
        unfold o_time
        rw [if_neg (by rintro (z | z | z | z); exact nbad hn z; exact h1 z; exact h2 z; rw [es] at z; exact z ha), es]
        obtain ⟨k, rfl, k1, k2, k6⟩ := ahead_k (w.1 n hn) ha
        refine (x_drawn (d := d) hCl hV hn h w).mR ?_
        rintro S3 ⟨h3, f3, P3⟩
        refine ⟨vp_in_nI hn (by omega), (c_stands hCl (k_plan hCl hV hn) P3 (need_b wp) (w.1 n hn).2.1).mI ?_⟩
        rintro r6 S7 ⟨rfl, rfl⟩
        by_cases hs : stN (A.1 n)
        · rw [if_pos hs, if_neg (not_not_intro hs), nI_clamp (by omega), Nat.add_sub_cancel]
          refine ⟨fun _ => ?_, fun z => absurd z (by decide)⟩
          refine (c_hourUpper (d := d + 3) hCl (k_plan hCl hV hn) wp P3 k1 k2).mI ?_
          rintro r11 S11 ⟨rfl, rfl⟩
          refine (c_hourLower (d := d + 3) hCl (k_plan hCl hV hn) wp P3 k1 k2).mI ?_
          rintro r12 S12 ⟨rfl, rfl⟩
          have b := sBE wp k1 k2
          refine (c_partOf (d := d + 3) hCl (tU_b wp k1 k2) (by omega)).mI ?_
          rintro r13 S13 ⟨rfl, rfl⟩
          exact ⟨rfl, h3, f3⟩
        · rw [if_neg hs, if_pos hs]
          exact ⟨fun z => absurd rfl z, fun _ => ⟨rfl, h3, f3⟩⟩
      · rw [if_neg ha]
        refine ⟨fun z => absurd rfl z, fun _ => ?_⟩
        rw [show o_time A (nI n) p t = (-1000000, A) from if_pos (Or.inr (Or.inr (Or.inr (by rw [es]; exact ha))))]
        exact ⟨rfl, h, FrC.rf⟩
theorem x_speed (hCl : evCl G) (hV : (0, 0) ∈ evKs G) {A : Ab} (h : RepC A S) (w : WfA A) {i p t : Int32} : evSp G yX5_speed M_X5_speed (d + 6) [.ref (evad G 0 0), .int i, .int p, .int t] S (xQ S (o_speed A i p t)) := by
  rcases ship_cases i with hb | ⟨n, hn, rfl⟩
  · rw [show o_speed A i p t = (-1000000, A) from if_pos (Or.inl hb)]
    refine vm_X5_speed (vb_X5_speed_0 hCl hV ((c_noShip1 hCl hb).mI ?_))
    rintro r S' ⟨rfl, rfl⟩
    exact ⟨fun _ => ⟨rfl, h, FrC.rf⟩, fun z => absurd z (by decide)⟩
  · refine vm_X5_speed (vb_X5_speed_0 hCl hV ((c_noShip0 hCl hn).mI ?_))
    rintro r S' ⟨rfl, rfl⟩
    have es : shN A (nI n) = A.1 n := by unfold shN; rw [pm_clamp hn]
    refine ⟨fun z => absurd rfl z, fun _ => ⟨fun h1 => ?_, fun h1 => ⟨fun h2 => ?_, fun h2 => ?_⟩⟩⟩
    · rw [show o_speed A (nI n) p t = (-1000000, A) from if_pos (Or.inr (Or.inl h1))]
      exact ⟨rfl, h, FrC.rf⟩
    · rw [show o_speed A (nI n) p t = (-1000000, A) from if_pos (Or.inr (Or.inr (Or.inl h2)))]
      exact ⟨rfl, h, FrC.rf⟩
    · have wp := (w.1 n hn).p
      rw [pm_clamp hn]
      refine ⟨vp_in_nI hn (by omega), (x_legA hCl (k_ship hCl hV hn) (h.1.sh hn) (w.1 n hn)).mI ?_⟩
      rintro r4 S5 ⟨rfl, rfl⟩
      by_cases ha : legAh (A.1 n) p
      · rw [if_pos ha]
        refine ⟨fun _ => ?_, fun z => absurd z (by decide)⟩
        unfold o_speed
        rw [if_neg (by rintro (z | z | z | z); exact nbad hn z; exact h1 z; exact h2 z; rw [es] at z; exact z ha), es]
        obtain ⟨k, rfl, k1, k2, k6⟩ := legAh_k (w.1 n hn) ha
        refine (x_drawn (d := d) hCl hV hn h w).mR ?_
        rintro S3 ⟨h3, f3, P3⟩
        refine ⟨vp_in_nI hn (by omega), (c_stands hCl (k_plan hCl hV hn) P3 (need_b wp) (w.1 n hn).2.1).mI ?_⟩
        rintro r6 S7 ⟨rfl, rfl⟩
        by_cases hs : stN (A.1 n)
        · rw [if_pos hs, if_neg (not_not_intro hs), nI_clamp (by omega)]
          refine ⟨fun _ => ?_, fun z => absurd z (by decide)⟩
          refine (c_milesAround (d := d + 4) hCl (k_plan hCl hV hn) wp P3 k1 k2).mI ?_
          rintro r11 S11 ⟨rfl, rfl⟩
          refine (c_hoursAround (d := d + 4) hCl (k_plan hCl hV hn) wp P3 k1 k2).mI ?_
          rintro r12 S12 ⟨rfl, rfl⟩
          have b := sBE wp k1 k2
          have c := stand_ho wp hs.1 k1 k2
          refine (c_partOf (d := d + 3) hCl (by omega) (by omega)).mI ?_
          rintro r13 S13 ⟨rfl, rfl⟩
          exact ⟨rfl, h3, f3⟩
        · rw [if_neg hs, if_pos hs]
          exact ⟨fun z => absurd rfl z, fun _ => ⟨rfl, h3, f3⟩⟩
      · rw [if_neg ha]
        refine ⟨fun z => absurd rfl z, fun _ => ?_⟩
        rw [show o_speed A (nI n) p t = (-1000000, A) from if_pos (Or.inr (Or.inr (Or.inr (by rw [es]; exact ha))))]
        exact ⟨rfl, h, FrC.rf⟩
theorem x_closed (hCl : evCl G) (hV : (0, 0) ∈ evKs G) {A : Ab} (h : RepC A S) (w : WfA A) {i p : Int32} : evSp G yX5_closed M_X5_closed (d + 6) [.ref (evad G 0 0), .int i, .int p] S (xQ S (o_closed A i p)) := by
  rcases ship_cases i with hb | ⟨n, hn, rfl⟩
  · rw [show o_closed A i p = (-1, A) from if_pos (Or.inl hb)]
    refine vm_X5_closed (vb_X5_closed_0 hCl hV ((c_noShip1 hCl hb).mI ?_))
    rintro r S' ⟨rfl, rfl⟩
    exact ⟨fun _ => ⟨rfl, h, FrC.rf⟩, fun z => absurd z (by decide)⟩
  · refine vm_X5_closed (vb_X5_closed_0 hCl hV ((c_noShip0 hCl hn).mI ?_))
    rintro r S' ⟨rfl, rfl⟩
    have es : shN A (nI n) = A.1 n := by unfold shN; rw [pm_clamp hn]
    refine ⟨fun z => absurd rfl z, fun _ => ?_⟩
    have wp := (w.1 n hn).p
    rw [pm_clamp hn]
    refine ⟨vp_in_nI hn (by omega), (x_port hCl (k_ship hCl hV hn) (h.1.sh hn) (w.1 n hn)).mI ?_⟩
    rintro r4 S5 ⟨rfl, rfl⟩
    by_cases ha : ahead (A.1 n) p
    · rw [if_pos ha]
      refine ⟨fun _ => ?_, fun z => absurd z (by decide)⟩
      unfold o_closed
      rw [if_neg (by rintro (z | z); exact nbad hn z; rw [es] at z; exact z ha), es]
      obtain ⟨k, rfl, k1, k2, k6⟩ := ahead_k (w.1 n hn) ha
      refine (x_drawn (d := d) hCl hV hn h w).mR ?_
      rintro S3 ⟨h3, f3, P3⟩
      refine ⟨vp_in_nI hn (by omega), (c_stands hCl (k_plan hCl hV hn) P3 (need_b wp) (w.1 n hn).2.1).mI ?_⟩
      rintro r6 S7 ⟨rfl, rfl⟩
      by_cases hs : stN (A.1 n)
      · rw [if_pos hs, if_neg (not_not_intro hs), nI_clamp (by omega)]
        refine ⟨fun z => absurd z (by decide), fun _ => ?_⟩
        refine (c_meetingAt hCl (k_plan hCl hV hn) wp P3 (by omega) (by omega)).mI ?_
        rintro r11 S11 ⟨rfl, rfl⟩
        exact ⟨rfl, h3, f3⟩
      · rw [if_neg hs, if_pos hs]
        exact ⟨fun _ => ⟨rfl, h3, f3⟩, fun z => absurd rfl z⟩
    · rw [if_neg ha]
      refine ⟨fun z => absurd rfl z, fun _ => ?_⟩
      rw [show o_closed A (nI n) p = (-1, A) from if_pos (Or.inr (by rw [es]; exact ha))]
      exact ⟨rfl, h, FrC.rf⟩
theorem x_cost (hCl : evCl G) (hV : (0, 0) ∈ evKs G) {A : Ab} (h : RepC A S) (w : WfA A) {i p : Int32} : evSp G yX5_cost M_X5_cost (d + 6) [.ref (evad G 0 0), .int i, .int p] S (xQ S (o_cost A i p)) := by
  rcases ship_cases i with hb | ⟨n, hn, rfl⟩
  · rw [show o_cost A i p = (-1, A) from if_pos (Or.inl hb)]
    refine vm_X5_cost (vb_X5_cost_0 hCl hV ((c_noShip1 hCl hb).mI ?_))
    rintro r S' ⟨rfl, rfl⟩
    exact ⟨fun _ => ⟨rfl, h, FrC.rf⟩, fun z => absurd z (by decide)⟩
  · refine vm_X5_cost (vb_X5_cost_0 hCl hV ((c_noShip0 hCl hn).mI ?_))
    rintro r S' ⟨rfl, rfl⟩
    have es : shN A (nI n) = A.1 n := by unfold shN; rw [pm_clamp hn]
    refine ⟨fun z => absurd rfl z, fun _ => ?_⟩
    have wp := (w.1 n hn).p
    rw [pm_clamp hn]
    refine ⟨vp_in_nI hn (by omega), (x_legA hCl (k_ship hCl hV hn) (h.1.sh hn) (w.1 n hn)).mI ?_⟩
    rintro r4 S5 ⟨rfl, rfl⟩
    by_cases ha : legAh (A.1 n) p
    · rw [if_pos ha]
      refine ⟨fun _ => ?_, fun z => absurd z (by decide)⟩
      unfold o_cost
      rw [if_neg (by rintro (z | z); exact nbad hn z; rw [es] at z; exact z ha), es]
      obtain ⟨k, rfl, k1, k2, k6⟩ := legAh_k (w.1 n hn) ha
      refine (x_drawn (d := d) hCl hV hn h w).mR ?_
      rintro S3 ⟨h3, f3, P3⟩
      refine ⟨vp_in_nI hn (by omega), (c_stands hCl (k_plan hCl hV hn) P3 (need_b wp) (w.1 n hn).2.1).mI ?_⟩
      rintro r6 S7 ⟨rfl, rfl⟩
      by_cases hs : stN (A.1 n)
      · rw [if_pos hs, if_neg (not_not_intro hs), nI_clamp (by omega)]
        refine ⟨fun z => absurd z (by decide), fun _ => ?_⟩
        refine (c_burntOnLeg (d := d + 3) hCl (k_plan hCl hV hn) wp (w.1 n hn).2.2.2.1 P3 k1 k2 (stand_ho wp hs.1 k1 k2)).mI ?_
        rintro r11 S11 ⟨rfl, rfl⟩
        exact ⟨rfl, h3, f3⟩
      · rw [if_neg hs, if_pos hs]
        exact ⟨fun _ => ⟨rfl, h3, f3⟩, fun z => absurd rfl z⟩
    · rw [if_neg ha]
      refine ⟨fun z => absurd rfl z, fun _ => ?_⟩
      rw [show o_cost A (nI n) p = (-1, A) from if_pos (Or.inr (by rw [es]; exact ha))]
      exact ⟨rfl, h, FrC.rf⟩
theorem x_needs (hCl : evCl G) (hV : (0, 0) ∈ evKs G) {A : Ab} (h : RepC A S) (w : WfA A) {i : Int32} : evSp G yX5_needs M_X5_needs (d + 6) [.ref (evad G 0 0), .int i] S (xQ S (o_needs A i)) := by
  rcases ship_cases i with hb | ⟨n, hn, rfl⟩
  · rw [show o_needs A i = (-1, A) from if_pos hb]
    refine vm_X5_needs (vb_X5_needs_0 hCl hV ((c_noShip1 hCl hb).mI ?_))
    rintro r S' ⟨rfl, rfl⟩
    exact ⟨fun z => absurd z (by decide), fun _ => ⟨rfl, h, FrC.rf⟩⟩
  · refine vm_X5_needs (vb_X5_needs_0 hCl hV ((c_noShip0 hCl hn).mI ?_))
    rintro r S' ⟨rfl, rfl⟩
    have es : shN A (nI n) = A.1 n := by unfold shN; rw [pm_clamp hn]
    refine ⟨fun _ => ?_, fun z => absurd rfl z⟩
    have wp := (w.1 n hn).p
    unfold o_needs
    rw [if_neg (nbad hn), es, pm_clamp hn]
    refine (x_drawn (d := d) hCl hV hn h w).mR ?_
    rintro S3 ⟨h3, f3, P3⟩
    refine ⟨vp_in_nI hn (by omega), (c_neededSpeed hCl (k_plan hCl hV hn) P3).mI ?_⟩
    rintro r6 S7 ⟨rfl, rfl⟩
    have nb := need_b wp
    unfold needS
    rw [iI_0, iI_eq (rg_of (A := 594) (by omega) (by omega)) (rg_of (A := 594) (by omega) (by omega))]
    refine ⟨fun z => ?_, fun z => ?_⟩
    · rw [if_neg z]; exact ⟨rfl, h3, f3⟩
    · rw [if_pos z]; exact ⟨rfl, h3, f3⟩
theorem x_mile (hCl : evCl G) (hV : (0, 0) ∈ evKs G) {A : Ab} (h : RepC A S) (w : WfA A) {i t : Int32} : evSp G yX5_mile M_X5_mile (d + 6) [.ref (evad G 0 0), .int i, .int t] S (xQ S (o_mile A i t)) := by
  rcases ship_cases i with hb | ⟨n, hn, rfl⟩
  · rw [show o_mile A i t = (-1, A) from if_pos (Or.inl hb)]
    refine vm_X5_mile (vb_X5_mile_0 hCl hV ((c_noShip1 hCl hb).mI ?_))
    rintro r S' ⟨rfl, rfl⟩
    exact ⟨fun _ => ⟨rfl, h, FrC.rf⟩, fun z => absurd z (by decide)⟩
  · refine vm_X5_mile (vb_X5_mile_0 hCl hV ((c_noShip0 hCl hn).mI ?_))
    rintro r S' ⟨rfl, rfl⟩
    have es : shN A (nI n) = A.1 n := by unfold shN; rw [pm_clamp hn]
    refine ⟨fun z => absurd rfl z, fun _ => ⟨fun h1 => ?_, fun h1 => ⟨fun h2 => ?_, fun h2 => ?_⟩⟩⟩
    · rw [show o_mile A (nI n) t = (-1, A) from if_pos (Or.inr (Or.inl h1))]
      exact ⟨rfl, h, FrC.rf⟩
    · have wp := (w.1 n hn).p
      have t0 := t_lo (a := 0) rfl ⟨by decide, by decide⟩ h1
      have t9 := t_hi (a := 999) rfl ⟨by decide, by decide⟩ h2
      unfold o_mile
      rw [if_neg (by rintro (z | z | z); exact nbad hn z; exact h1 z; exact z h2), es, pm_clamp hn]
      refine (x_drawn (d := d) hCl hV hn h w).mR ?_
      rintro S3 ⟨h3, f3, P3⟩
      refine ⟨vp_in_nI hn (by omega), ?_⟩
      have key := c_mileAt (d := d + 2) (S := S3) hCl (k_plan hCl hV hn) wp P3 (h := t.toInt) ⟨t0, t9⟩
      rw [← self_i t] at key
      refine key.mI ?_
      rintro r6 S7 ⟨rfl, rfl⟩
      exact ⟨rfl, h3, f3⟩
    · rw [show o_mile A (nI n) t = (-1, A) from if_pos (Or.inr (Or.inr h2))]
      exact ⟨rfl, h, FrC.rf⟩
theorem x_sails (hCl : evCl G) (hV : (0, 0) ∈ evKs G) {A : Ab} (h : RepC A S) (w : WfA A) {i : Int32} : evSp G yX5_sails M_X5_sails (d + 6) [.ref (evad G 0 0), .int i] S (xQ S (o_sails A i)) := by
  rcases ship_cases i with hb | ⟨n, hn, rfl⟩
  · rw [show o_sails A i = (-1, A) from if_pos hb]
    refine vm_X5_sails (vb_X5_sails_0 hCl hV ((c_noShip1 hCl hb).mI ?_))
    rintro r S' ⟨rfl, rfl⟩
    exact ⟨fun z => absurd z (by decide), fun _ => ⟨rfl, h, FrC.rf⟩⟩
  · refine vm_X5_sails (vb_X5_sails_0 hCl hV ((c_noShip0 hCl hn).mI ?_))
    rintro r S' ⟨rfl, rfl⟩
    have es : shN A (nI n) = A.1 n := by unfold shN; rw [pm_clamp hn]
    refine ⟨fun _ => ⟨vp_in_nI hn (by omega), ?_⟩, fun z => absurd rfl z⟩
    have wp := (w.1 n hn).p
    unfold o_sails
    rw [if_neg (nbad hn), es, pm_clamp hn]
    refine (x_drawn (d := d) hCl hV hn h w).mR ?_
    rintro S3 ⟨h3, f3, P3⟩
    refine ⟨vp_in_nI hn (by omega), (c_stands hCl (k_plan hCl hV hn) P3 (need_b wp) (w.1 n hn).2.1).mI ?_⟩
    rintro r6 S7 ⟨rfl, rfl⟩
    by_cases hs : stN (A.1 n)
    · rw [if_pos hs, if_neg (not_not_intro hs)]
      refine ⟨fun _ => ?_, fun z => absurd z (by decide)⟩
      have w1 := (w.1 n hn).1
      have hfl : nF (A.1 n) < nL (A.1 n) := by
        rcases Nat.lt_or_ge (nF (A.1 n)) (nL (A.1 n)) with z | z
        · exact z
        · exfalso
          have e : nF (A.1 n) = nL (A.1 n) := by unfold nF nL at *; omega
          have h0 := hs.1
          unfold pNeed pN at h0
          rw [e] at h0
          have : (mea (farD (A.1 n)) (nL (A.1 n)) (pM (A.1 n) (nL (A.1 n)) (nL (A.1 n))) (pH (A.1 n) (nL (A.1 n)) (nL (A.1 n))) 7 (nL (A.1 n)) 0 1 0) = (0, 1, 0) := by unfold mea; rw [if_neg (by omega)]
          rw [this] at h0
          revert h0
          decide
      have e2 : A.1 n 2 = (nF (A.1 n) : Int) := by unfold nF; omega
      have l6 : nL (A.1 n) ≤ 6 := by unfold nL; omega
      refine (c_trait hCl (k_ship hCl hV hn) (j := 2) (by omega) rfl).mI ?_
      rintro r9 S10 ⟨rfl, rfl⟩
      rw [(h3.1.sh hn).t (by omega), e2]
      have ei : iI (nF (A.1 n) : Int) = nI (nF (A.1 n)) := (iI_n _).symm
      rw [ei]
      rintro v11 hv11
      have ev : v11 = nI (nF (A.1 n) + 1) := by rw [hv11, iI_n, iI_1, iI_add, iI_n]; congr 1
      subst ev
      refine (c_hourRoundedUp (d := d + 2) hCl (k_plan hCl hV hn) wp P3 (Nat.le_refl _) hfl).mI ?_
      rintro r12 S13 ⟨rfl, rfl⟩
      refine (c_ofLeg (d := d + 4) hCl (k_ship hCl hV hn) (k := nF (A.1 n)) (w := 1) (by omega) (by omega) rfl rfl).mI ?_
      rintro r14 S15 ⟨rfl, rfl⟩
      rw [(h3.1.sh hn).l (by omega), iI_add]
      rintro v16 rfl
      refine (c_trait hCl (k_ship hCl hV hn) (j := 4) (by omega) rfl).mI ?_
      rintro r17 S18 ⟨rfl, rfl⟩
      refine (c_burntOnLeg (d := d + 3) hCl (k_plan hCl hV hn) wp (w.1 n hn).2.2.2.1 P3 (Nat.le_refl _) hfl (stand_ho wp hs.1 (Nat.le_refl _) hfl)).mI ?_
      rintro r19 S20 ⟨rfl, rfl⟩
      rw [(h3.1.sh hn).t (by omega), iI_add]
      rintro v21 rfl
      refine (c_rem (d := d + 2) hCl hV h3 w).mV ?_
      rintro S22 ⟨h22, f22⟩
      refine (c_setTrait hCl (k_ship hCl hV hn) (j := 2) (by omega) rfl).mV ?_
      rintro S23 rfl
      refine (c_setTrait hCl (k_ship hCl hV hn) (j := 3) (by omega) rfl).mV ?_
      rintro S24 rfl
      refine (c_setTrait hCl (k_ship hCl hV hn) (j := 4) (by omega) rfl).mV ?_
      rintro S25 rfl
      refine ⟨rfl, ((h22.setT hn (by omega) ?_).setT hn (by omega) rfl).setT hn (by omega) rfl, (((f3.tr f22).tr (FrC.up (by omega))).tr (FrC.up (by omega))).tr (FrC.up (by omega))⟩
      rw [iI_n]; congr 1
    · rw [if_neg hs, if_pos hs]
      exact ⟨fun z => absurd rfl z, fun _ => ⟨rfl, h3, f3⟩⟩
end C7d
