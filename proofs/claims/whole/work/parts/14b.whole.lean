/-! THE LAW'S LOOP, AND ITS START -/
def tgL (j : Nat) : Nat := ([152, 175, 188, 211, 234, 267, 320, 353, 366, 399, 442, 475, 518, 561, 594, 627, 650, 673, 696, 729, 762, 775, 788, 801, 824, 847] : List Nat).getD j 870
theorem lt_5 {L n : Nat} (hL : L ≤ 2560) (hn : n ≤ 2570) (h : ¬ Int32.ofNat L - 5 < nI n) : n + 5 ≤ L := by
  have e1 : Int32.ofNat L = iI L := iI_n L
  have e2 : (5 : Int32) = iI 5 := rfl
  rw [e1, e2, iI_sub, iI_n, iI_lt (rg_of (A := 2600) ⟨by omega, by omega⟩ (by omega)) (rg_of (A := 2600) ⟨by omega, by omega⟩ (by omega))] at h
  omega
section ElLoop
variable {G : evG} {S : evS} {n : Nat}
theorem el_loop (hCl : evCl G) (hV0 : (0, 0) ∈ evKs G) (hV1 : (30, 0) ∈ evKs G) (hL : evL G ≤ 2560) : ∀ m n (A : Ab) (S : evS), 2570 ≤ n + m → n ≤ 2565 → RepC A S → RepM A S → WfA A → evAt G M_L (F_L G) 18 (lvL G n) [] S := by
  intro m
  induction m with
  | zero => intro n A S h1 h2; omega
  | succ m ih =>
    intro n A S h1 h2 hC hM w
    refine ea_iload_n dL_law_18 rfl 0 rfl rfl (ea_aload_n dL_law_19 rfl 3 rfl rfl (ea_slen dL_law_20 rfl (ea_iconst dL_law_21 rfl rfl (ea_isub dL_law_22 rfl (ea_icmp_gt dL_law_23 (tgt := 876) rfl rfl (fun _ => ?_) (fun hc => ?_))))))
    · exact ea_iconst dL_law_876 rfl rfl el_ret
    · have hn : n + 5 ≤ evL G := lt_5 hL (by omega) hc
      have k : ∀ (A' : Ab) (S' : evS), RepC A' S' → RepM A' S' → WfA A' → evAt G M_L (F_L G) 870 (lvL G n) [] S' := fun A' S' c1 c2 c3 => by
        refine ea_iinc (q := 0) dL_law_870 rfl (v := nI (n + 5)) (show nI n + nI 5 = nI (n + 5) from nI_add5 (by omega) (by omega)) (by decide) (lv' := lvL G (n + 5)) rfl rfl (ea_goto dL_law_873 (tgt := 18) rfl (ih (n + 5) A' S' (by omega) (by omega) c1 c2 c3))
      refine ea_aload_n dL_law_26 rfl 3 rfl rfl (ea_iload_n dL_law_27 rfl 0 rfl rfl (ea_sld (vp_in_nI (by omega) (by omega)) dL_law_28 (nI_clamp (by omega)) rfl (ea_bipush dL_law_29 rfl rfl (ea_iand dL_law_31 rfl ?_))))
      refine ea_table (n := 26) (tgd := 870) tgL dL_law_32 (by decide) (by decide +kernel) (by decide) (fun j hj _ => ?_) (fun _ => k A S hC hM w)
      match j, hj with
      | 0, _ => exact lc_type hCl hV0 hV1 hn hL hC hM w k
      | 1, _ => exact lc_clear hCl hV0 hV1 hn hL hC hM w k
      | 2, _ => exact lc_tells hCl hV0 hV1 hn hL hC hM w k
      | 3, _ => exact lc_sails hCl hV0 hV1 hn hL hC hM w k
      | 4, _ => exact lc_holds hCl hV0 hV1 hn hL hC hM w k
      | 5, _ => exact lc_moves hCl hV0 hV1 hn hL hC hM w k
      | 6, _ => exact lc_fastens hCl hV0 hV1 hn hL hC hM w k
      | 7, _ => exact lc_undo hCl hV0 hV1 hn hL hC hM w k
      | 8, _ => exact lc_ship hCl hV0 hV1 hn hL hC hM w k
      | 9, _ => exact lc_leg hCl hV0 hV1 hn hL hC hM w k
      | 10, _ => exact lc_plan hCl hV0 hV1 hn hL hC hM w k
      | 11, _ => exact lc_time hCl hV0 hV1 hn hL hC hM w k
      | 12, _ => exact lc_speed hCl hV0 hV1 hn hL hC hM w k
      | 13, _ => exact lc_closed hCl hV0 hV1 hn hL hC hM w k
      | 14, _ => exact lc_cost hCl hV0 hV1 hn hL hC hM w k
      | 15, _ => exact lc_slack hCl hV0 hV1 hn hL hC hM w k
      | 16, _ => exact lc_needs hCl hV0 hV1 hn hL hC hM w k
      | 17, _ => exact lc_eased hCl hV0 hV1 hn hL hC hM w k
      | 18, _ => exact lc_mile hCl hV0 hV1 hn hL hC hM w k
      | 19, _ => exact lc_sees hCl hV0 hV1 hn hL hC hM w k
      | 20, _ => exact lc_forget hCl hV0 hV1 hn hL hC hM w k
      | 21, _ => exact lc_which hCl hV0 hV1 hn hL hC hM w k
      | 22, _ => exact lc_look hCl hV0 hV1 hn hL hC hM w k
      | 23, _ => exact lc_keep hCl hV0 hV1 hn hL hC hM w k
      | 24, _ => exact lc_back hCl hV0 hV1 hn hL hC hM w k
      | 25, _ => exact lc_count hCl hV0 hV1 hn hL hC hM w k
      | j + 26, h => omega
end ElLoop
def kAll : List (Nat × Nat) := [] ++ kEv ++ kModel
theorem kEv_c : KCl kEv := KCl.b (by decide +kernel)
theorem kEv0_c : KCl ([] ++ kEv) := KCl.b (by decide +kernel)
theorem kModel_c : KCl kModel := KCl.b (by decide +kernel)
theorem kAll_c : KCl kAll := KCl.b (by decide +kernel)
theorem kAll_60 : ∀ a b, (a, b) ∈ kAll → a < 60 := fun a b h => (show ∀ q ∈ kAll, q.1 < 60 by decide +kernel) (a, b) h
theorem kEv_F : ∀ q ∈ kFleet 0, q ∈ kEv := by decide +kernel
theorem kEv_M : ∀ q ∈ ([] ++ kEv : List (Nat × Nat)), q ∉ kModel := dj_b (by decide +kernel)
theorem InE.mv {S S' : evS} (ha : ∀ a b, (a, b) ∈ kEv → S'.1 a b = S.1 a b) (h : InE S) : InE S' := by
  obtain ⟨h1, h2, h3, h4, h5⟩ := h
  have e16 := ha 16 0 (by decide +kernel)
  have e22 := ha 22 0 (by decide +kernel)
  have e18 := ha 18 0 (by decide +kernel)
  have e0 := ha 0 0 (by decide +kernel)
  exact ⟨h1.mv (by omega) (fun a b hab => ha a b (kEv_F _ hab)), ⟨by rw [e16]; exact h2.1, by rw [e16]; exact h2.2⟩, ⟨by rw [e22]; exact h3.1, by rw [e22]; exact h3.2⟩, by unfold InT at h4 ⊢; rw [e18]; exact h4, by rw [e0]; exact h5⟩
theorem InM.mv {S S' : evS} (ha : ∀ a b, (a, b) ∈ kModel → S'.1 a b = S.1 a b) (h : InM S) : InM S' := by
  obtain ⟨h1, h2, h3, h4, h5⟩ := h
  have e31 := ha 31 0 (by decide +kernel)
  have e35 := ha 35 0 (by decide +kernel)
  have e30 := ha 30 0 (by decide +kernel)
  exact ⟨fun i k hi hk => by rw [e31]; exact h1 i k hi hk, ⟨by rw [e35]; exact h2.1, by rw [e35]; exact h2.2⟩, by rw [e30]; exact h3, by rw [e30]; exact h4, by rw [e30]; exact h5⟩
theorem lw_ei {G : evG} {sz : Nat} (hL : evL G ≤ 2560) : eiAt G M_L room_1 [] sz (Zi G) 0 [(0, .ref (evad G 60 0))] [] 0 0 ([] ++ evwK (evca G) (fun _ _ => 0) (fun _ _ _ => 0, fun _ _ _ => 0) []) := by
  refine ei_make i_voyage kok_0 (by decide) (ev_in (by decide +kernel) rfl) (ev_in (by decide +kernel) rfl) (ev_in (by decide +kernel) rfl) rfl rfl rfl (by decide +kernel) (Or.inl (ev_in (by decide +kernel) rfl)) (ev_in (by decide +kernel) rfl) (ev_in (by decide +kernel) rfl) dL_law_0 dL_law_3 dL_law_4 (by decide) (by decide) (by decide) (by decide) KCl.nil kEv_c (fun q hq => absurd hq List.not_mem_nil) (fun S1 S' ha hI => hI.mv ha) (by decide +kernel) rfl (fun q1 ad1 S1 f1 e1 i1 => ?_)
  refine ei_astore_n dL_law_7 rfl (by decide) (lv' := [(1, .ref q1), (0, .ref (evad G 60 0))]) rfl rfl ?_
  refine ei_make i_model kok_30 (by decide) (ev_in (by decide +kernel) rfl) (ev_in (by decide +kernel) rfl) (ev_in (by decide +kernel) rfl) rfl rfl rfl (by decide +kernel) (Or.inl (ev_in (by decide +kernel) rfl)) (ev_in (by decide +kernel) rfl) (ev_in (by decide +kernel) rfl) dL_law_8 dL_law_11 dL_law_12 (by decide) (by decide) (by decide) (by decide) kEv0_c kModel_c kEv_M (fun S1 S' ha hI => hI.mv ha) (by decide +kernel) rfl (fun q2 ad2 S2 f2 e2 i2 => ?_)
  refine ei_astore_n dL_law_15 rfl (by decide) (lv' := [(2, .ref q2), (1, .ref q1), (0, .ref (evad G 60 0))]) rfl rfl ?_
  refine ei_iconst dL_law_16 rfl rfl ?_
  refine ei_istore_n dL_law_17 rfl (by decide) (lv' := [(3, .int 0), (2, .ref q2), (1, .ref q1), (0, .ref (evad G 60 0))]) rfl rfl ?_
  refine ei_grown (K := kAll) kAll_c kAll_60 ?_
  have a0 : ∀ a b, (a, b) ∈ kEv → (a, b) ∉ kModel := fun a b h => kEv_M (a, b) h
  have u0 : evad (eiG G ad2 kAll) 0 0 = q1 := (adR_lo (G := G) (by decide)).trans ((f2 0 0 (a0 0 0 (by decide +kernel))).1.trans e1)
  have u1 : evad (eiG G ad2 kAll) 30 0 = q2 := (adR_lo (G := G) (by decide)).trans e2
  have hC : RepC A0 S2 := A0_C (i1.mv (fun a b hab => (f2 a b (a0 a b hab)).2.1))
  have hM : RepM A0 S2 := A0_M i2
  have := el_loop (G := eiG G ad2 kAll) kAll_c (by show (0, 0) ∈ kAll; decide +kernel) (by show (30, 0) ∈ kAll; decide +kernel) hL 2570 0 A0 S2 (by omega) (by omega) hC hM A0_w
  rw [← u0, ← u1]
  exact this
/-- YOUR PART: from the entry, for every script of at most 2560 ints, the law comes to its end with true -/
theorem whole_start {p : Program} {e : Env} {s : State} {m : MethodId} {below : List Frame} {meth : Method} {c : Code} (l : Launch) (hflags : l.flags = flags0) {b L : Nat} {xs : Nat → Int32} (hL : L ≤ 2560) (C0 : lw_At p s m meth c b L xs) : W p l e room_1 s m #[Value.ref b] below meth c s.heap [] 0 0 (lw_Z below #[Value.ref b] s) (entryFrame m ([Value.ref b] : List Value).toArray 4) := by
  obtain ⟨hx, hcode, hret, hml, hown, hts, hX, hb, hlocks, hgv⟩ := C0
  obtain ⟨D, ca, ad0, e60, hKI, hRA⟩ := st_G l hL hts hX hgv
  have hl := lv_entry ([.ref b]) (n := 4) (show (lg_sl [Value.ref b]).length ≤ 4 from (by decide : 1 ≤ 4))
  rw [lg_entry_eq]
  have key := lw_ei (G := (l, D, ca, ad0, [], L, xs)) (sz := s.heap.size) hL p e s m #[Value.ref b] below meth c s.heap [] _ rfl ⟨hx, hcode, hml, hown, fun w h => hts w (List.mem_filter.mp h).1, hret, hlocks, (fun h => by cases h), hKI, hRA⟩ (va_P.mem.mpr (fun q hq => absurd hq List.not_mem_nil)) (va_D.mem.mpr ⟨by simp [evwK], fun q hq => absurd hq List.not_mem_nil⟩) va_S.rf (by rw [show evad (l, D, ca, ad0, [], L, xs) 60 0 = b from e60]; exact hl)
  intro T hT X
  obtain ⟨t, h1, h2⟩ := key T hT X
  exact ⟨t, h1, h2 (by rw [show evad (l, D, ca, ad0, [], L, xs) 60 0 = b from e60])⟩
