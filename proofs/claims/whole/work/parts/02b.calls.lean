section EvCalls
variable {G : evG} {M : evM} {F : evF} {pc : Nat} {lv lv' : List (Nat × Value)} {st : List Value} {S : evS} {d : Nat} {Q : Option Value → evS → Prop}
set_option maxHeartbeats 4000000 in
/-- arraycopy out of a table that nobody writes -/
theorem ev_copyt {p : Program} {l : Launch} {e : Env} {R : Room} {s : State} {m : MethodId} {args : Array Value} {below : List Frame} {meth : Method} {c : Code} {H : Heap} {locs : List Loc} {cells slots : Nat} {Qw : State → Prop} {cc : ByteArray} {pc : Nat} {ls : Array Slot} {rest : List Value} {D : va_G} {cl : List vw_C} {A : Nat → Prop} {a : Nat} {tys : List (ClassId × FieldType)} {ws : va_W}
    (hexec : p.tables.exec = Jvm.exec) (hb : c.code = cc) (hml : c.maxLocals = ls.size) {own : String} {index : Nat} (hown : s.vm.findClass own = some m.cls) (hlink : (Cond.methodLink own index arraycopyName).before args s = true) (hnat : (Cond.native arraycopyName).before args s = true) (hstat : (Cond.static arraycopyName).before args s = true) (hini : (Cond.initialized "java/lang/System").before args s = true)
    (hK : va_K D cl tys s) (hP : va_P D cl ws H) (hD : va_D A ws) (hS : va_S A s.heap H locs) {b0 n0 : Nat} {f : Nat → Int32} (hX : va_T .int b0 n0 (fun j => .int (f j)) A s s.heap) (q1 t1 : Nat) {c1 : ClassId} {n1 : Nat} {g : Nat → Int32} (ha1 : ws[q1]? = some (a, .inl (c1, n1, .inl g))) (ht1 : tys[t1]? = some (c1, .int))
    {sp dp n : Int32} (h1 : ¬ sp < 0) (h2 : ¬ dp < 0) (h3 : ¬ n < 0) (h4 : sp.toNatClampNeg + n.toNatClampNeg ≤ n0) (h5 : dp.toNatClampNeg + n.toNatClampNeg ≤ n1)
    (hframes : 1 ≤ R.frames) (hlocals : (rest.map fun v => v.category).sum + (nativeFrameWords "java/lang/System" "arraycopy" 5 + 11) ≤ R.locals) (hdg : decode cc pc = .ok (.invokestatic index, 3))
    (kk : ∀ (H1 : Heap) (locs1 : List Loc), va_P D cl (ws.set q1 (a, .inl (c1, n1, .inl (va_cpy f g sp.toNatClampNeg dp.toNatClampNeg n.toNatClampNeg)))) H1 → va_D A (ws.set q1 (a, .inl (c1, n1, .inl (va_cpy f g sp.toNatClampNeg dp.toNatClampNeg n.toNatClampNeg)))) → va_S A s.heap H1 locs1 → W p l e R s m args below meth c H1 locs1 cells slots Qw (F0 m (pc + 3) ls rest)) : W p l e R s m args below meth c H locs cells slots Qw (F0 m pc ls (.int n :: .int dp :: .ref a :: .int sp :: .ref b0 :: rest)) := by
  have nn : ∀ z : Int32, ¬ z < 0 → z.toInt = (z.toNatClampNeg : Int) := by
    intro z hz
    have hz0 : (0 : Int) ≤ z.toInt := by
      have := Int32.not_lt.mp hz
      simpa using Int32.le_iff_toInt_le.mp this
    show z.toInt = ((z.toInt.toNat : Nat) : Int)
    omega
  intro T hT X
  obtain ⟨scr, hs1, hs2, hs3, hs4, -, hs5, hs7⟩ := hX
  have hc0 : H[b0]? = some scr := by rw [hS.2.1 b0 (Array.getElem?_eq_some_iff.mp hs1).1 hs7]; exact hs1
  have hc1 : H[a]? = some (vp_cell c1 (n1, .inl g)) := hP q1 _ ha1
  obtain ⟨hs6, k0, hk0, cm0, hkk0⟩ := hs2
  obtain ⟨-, k1, hk1, cm1, hkk1⟩ := (hK.2 t1 _ ht1).1 n1 (fun j => .int (g j))
  obtain ⟨vm', X', step⟩ := X.arraycopy hexec hown hlink hnat hstat hini (src := b0) (dst := a) (cs := scr) (cd := vp_cell c1 (n1, .inl g)) (srcPos := sp) (destPos := dp) (n := n) (by rw [hT]; exact hc0) (by rw [hT]; exact hc1)
    hs6 (fun _ h => by cases h) hs3 (fun h => by cases h) hk0 hk1 hkk0 hkk1 (by simp [refKind]) h1 h2 h3
    (by rw [nn sp h1, nn n h3]; omega)
    (by rw [nn dp h2, nn n h3]; show ¬ _ > ((arrV c1 n1 (fun j => .int (g j))).slots.size : Int); rw [arrV_size]; omega)
    (fun vm₁ _ i hi => by
      have e : scr.slots.getD (sp.toNatClampNeg + i) .null = .int (f (sp.toNatClampNeg + i)) := by
        rw [Array.getD_eq_getD_getElem?, hs5 _ (by omega)]
        rfl
      refine ⟨?_, ?_⟩
      · rw [e]
        rfl
      · rw [e]
        exact trivial)
    (g := F0 m pc ls (.int n :: .int dp :: .ref a :: .int sp :: .ref b0 :: rest)) rfl (by rw [hml]) (rest := rest) rfl (by rw [hb]; exact hdg) hframes (by show 2 * 0 + _ + _ ≤ _; omega)
  have e1 : copied scr (vp_cell c1 (n1, .inl g)) sp dp n = vp_cell c1 (n1, .inl (va_cpy f g sp.toNatClampNeg dp.toNatClampNeg n.toNatClampNeg)) := va_copiedX (fun z => .int z) scr c1 f g hs5 h4
  rw [e1] at X' step
  have hl : a < H.size := (Array.getElem?_eq_some_iff.mp hc1).1
  have hheap : ((T.setVm vm').setCell a (vp_cell c1 (n1, .inl (va_cpy f g sp.toNatClampNeg dp.toNatClampNeg n.toNatClampNeg)))).heap = H.setIfInBounds a (vp_cell c1 (n1, .inl (va_cpy f g sp.toNatClampNeg dp.toNatClampNeg n.toNatClampNeg))) := by rw [← hT]; rfl
  have oq : ∀ q : Nat, q ≠ a → (H.setIfInBounds a (vp_cell c1 (n1, .inl (va_cpy f g sp.toNatClampNeg dp.toNatClampNeg n.toNatClampNeg))))[q]? = H[q]? := fun q hq => by simp [Array.getElem?_setIfInBounds, Ne.symm hq]
  obtain ⟨t, a1, b1⟩ := kk _ _ (hP.set hD ha1 (show (H.setIfInBounds a _)[a]? = some _ by simp [Array.getElem?_setIfInBounds, hl]) oq) (hD.set ha1) ⟨by simp; exact hS.1, fun q g1 g2 => by
      rw [oq q (fun e => g2 (by rw [e]; exact hD.2 q1 _ ha1))]
      exact hS.2.1 q g1 g2, fun q hq => by
      rcases List.mem_append.mp hq with h | h
      · exact hS.2.2 q h
      · obtain ⟨z, -, hz⟩ := List.mem_map.mp h
        rw [← hz]
        exact hD.2 q1 _ ha1⟩ _ hheap X'
  exact ⟨t, step t a1, b1⟩
def evAC (own : String) (idx : Nat) : Prop := Cond.methodLink own idx arraycopyName ∈ evtb
theorem ev_ac1 : Cond.native arraycopyName ∈ evtb := ev_in (by decide +kernel) rfl
theorem ev_ac2 : Cond.static arraycopyName ∈ evtb := ev_in (by decide +kernel) rfl
theorem ev_ac3 : Cond.initialized "java/lang/System" ∈ evtb := ev_in (by decide +kernel) rfl
theorem ea_copyt {idx kd x : Nat} {n : Int32} (hV : (kd, x) ∈ evKs G) (hT : evT kd = 1) (hn : ¬ n < 0) (hn1 : n.toNatClampNeg ≤ 9) (hn2 : n.toNatClampNeg ≤ evN kd) (hw : evAC M.1 idx) (hfr : 1 ≤ F.1.frames) (hlo : (st.map fun v => v.category).sum + (nativeFrameWords "java/lang/System" "arraycopy" 5 + 11) ≤ F.1.locals) (hd : decode M.2.1 pc = .ok (.invokestatic idx, 3)) {pc' : Nat} (hp : pc + 3 = pc')
    (k : evAt G M F pc' lv st (evcpy S kd x (va_cpy (evst 61) (S.1 kd x) 0 0 n.toNatClampNeg))) : evAt G M F pc lv (.int n :: .int 0 :: .ref (evad G kd x) :: .int 0 :: .ref (evad G 61 0) :: st) S := by
  subst hp
  intro p e s m args below meth c H locs ls C h1 h2 h3 h4 h5 hl
  obtain ⟨q0, h0⟩ := List.getElem?_of_mem hV
  have he := evw_at (S := S) h0
  have hc : ∀ S : evS, evc (evca G) (evad G) S kd x = .inl (evca G 0, evN kd, .inl (S.1 kd x)) := fun S => by simp only [evc, hT]
  rw [hc] at he
  have hD0 := h4
  refine ev_copyt C.1 C.2.1 (by rw [C.2.2.1]; exact hl.1.symm) C.2.2.2.1 (C.2.2.2.2.1 _ hw) (C.2.2.2.2.1 _ ev_ac1) (C.2.2.2.2.1 _ ev_ac2) (C.2.2.2.2.1 _ ev_ac3) h1.1 h3 h4 h5 h2.2.1.2 q0 0 he rfl (by decide) (by decide) hn (by simpa using hn1) (by simpa using hn2) hfr hlo hd (fun H locs h3 h4 h5 => ?_)
  have e1 : (evw G S).set q0 (evad G kd x, .inl (evca G 0, evN kd, .inl (va_cpy (evst 61) (S.1 kd x) (0 : Int32).toNatClampNeg (0 : Int32).toNatClampNeg n.toNatClampNeg))) = evw G (evcpy S kd x (va_cpy (evst 61) (S.1 kd x) 0 0 n.toNatClampNeg)) := by
    refine evw_set hD0 h0 ?_ (fun a b h => evc_up (evcpy_ne h) rfl)
    rw [hc, show (evcpy S kd x (va_cpy (evst 61) (S.1 kd x) 0 0 n.toNatClampNeg)).1 kd x = va_cpy (evst 61) (S.1 kd x) 0 0 n.toNatClampNeg from by funext j; simp [evcpy]]
    rfl
  rw [e1] at h3 h4
  exact (k p e s m args below meth c H locs ls C h1 h2 h3 h4 h5 hl)
theorem ea_copyi {idx kd x kd2 x2 : Nat} {n : Int32} (hV : (kd, x) ∈ evKs G) (hT : evT kd = 1) (hV2 : (kd2, x2) ∈ evKs G) (hT2 : evT kd2 = 1) (hn : ¬ n < 0) (hn1 : n.toNatClampNeg ≤ evN kd2) (hn2 : n.toNatClampNeg ≤ evN kd) (hw : evAC M.1 idx) (hfr : 1 ≤ F.1.frames) (hlo : (st.map fun v => v.category).sum + (nativeFrameWords "java/lang/System" "arraycopy" 5 + 11) ≤ F.1.locals) (hd : decode M.2.1 pc = .ok (.invokestatic idx, 3)) {pc' : Nat} (hp : pc + 3 = pc')
    (k : evAt G M F pc' lv st (evcpy S kd x (va_cpy (S.1 kd2 x2) (S.1 kd x) 0 0 n.toNatClampNeg))) : evAt G M F pc lv (.int n :: .int 0 :: .ref (evad G kd x) :: .int 0 :: .ref (evad G kd2 x2) :: st) S := by
  subst hp
  intro p e s m args below meth c H locs ls C h1 h2 h3 h4 h5 hl
  obtain ⟨q0, h0⟩ := List.getElem?_of_mem hV
  obtain ⟨q2, h02⟩ := List.getElem?_of_mem hV2
  have he := evw_at (S := S) h0
  have he2 := evw_at (S := S) h02
  have hc : ∀ S : evS, evc (evca G) (evad G) S kd x = .inl (evca G 0, evN kd, .inl (S.1 kd x)) := fun S => by simp only [evc, hT]
  have hc2 : evc (evca G) (evad G) S kd2 x2 = .inl (evca G 0, evN kd2, .inl (S.1 kd2 x2)) := by simp only [evc, hT2]
  rw [hc] at he
  rw [hc2] at he2
  have hD0 := h4
  refine va_copyi C.1 C.2.1 (by rw [C.2.2.1]; exact hl.1.symm) C.2.2.2.1 (C.2.2.2.2.1 _ hw) (C.2.2.2.2.1 _ ev_ac1) (C.2.2.2.2.1 _ ev_ac2) (C.2.2.2.2.1 _ ev_ac3) h1.1 h3 h4 h5 q2 q0 0 0 he2 he rfl rfl rfl (by decide) (by decide) hn (by simpa using hn1) (by simpa using hn2) (fun _ _ => rfl) hfr hlo hd (fun H locs h3 h4 h5 => ?_)
  have e1 : (evw G S).set q0 (evad G kd x, .inl (evca G 0, evN kd, .inl (va_cpy (S.1 kd2 x2) (S.1 kd x) (0 : Int32).toNatClampNeg (0 : Int32).toNatClampNeg n.toNatClampNeg))) = evw G (evcpy S kd x (va_cpy (S.1 kd2 x2) (S.1 kd x) 0 0 n.toNatClampNeg)) := by
    refine evw_set hD0 h0 ?_ (fun a b h => evc_up (evcpy_ne h) rfl)
    rw [hc, show (evcpy S kd x (va_cpy (S.1 kd2 x2) (S.1 kd x) 0 0 n.toNatClampNeg)).1 kd x = va_cpy (S.1 kd2 x2) (S.1 kd x) 0 0 n.toNatClampNeg from by funext j; simp [evcpy]]
    rfl
  rw [e1] at h3 h4
  exact (k p e s m args below meth c H locs ls C h1 h2 h3 h4 h5 hl)
-- calls
theorem ev_good : ∀ w ∈ evtb, goodWord w = true := fun _ h => (List.mem_filter.mp h).2
def evMO (y : MethodName) (M : evM) (n : Nat) : Prop := (y.cls ≠ "java/lang/invoke/MethodHandle" ∧ y.cls ≠ "java/lang/invoke/VarHandle" ∧ (parseMethodDescriptor y.desc).map (fun d => d.parameters.length) = some n) ∧ Cond.code y M.2.1 M.2.2.1 M.2.2.2 ∈ evtb ∧ Cond.initialized y.cls ∈ evtb
def evMV (y : MethodName) (M : evM) (n : Nat) : Prop := evMO y M n ∧ Cond.instanceMethod y ∈ evtb ∧ Cond.selects y.cls y y ∈ evtb
def evMS (y : MethodName) (M : evM) (n : Nat) : Prop := evMO y M n ∧ Cond.static y ∈ evtb
def evML (own : String) (idx : Nat) (y : MethodName) : Prop := Cond.methodLink own idx y ∈ evtb
theorem ev_gw {ws : List Cond} (h : ∀ w ∈ ws, w ∈ evtb) : GoodIn evtb ws := fun w hw => ⟨h w hw, good_of_word (ev_good w (h w hw))⟩
theorem ev_blind {as : List Value} : FrameBlind (evPr G as S) := fun a U g mk q => by
  obtain ⟨q1, q2, q3, q4, q5⟩ := q
  exact ⟨q1, q2, q3, ⟨va_K.moved (u := U) (U := U.calling g mk a) (Vm.Alike.refl U.vm) q4.1, va_Nw.same rfl rfl q4.2⟩, evRO.moved (u := U) (U := U.calling g mk a) (Vm.Alike.refl U.vm) q5⟩
theorem ev_after {p : Program} {e : Env} {s : State} {m : MethodId} {args : Array Value} {below : List Frame} {meth : Method} {c : Code} {H : Heap} {locs : List Loc} {ls : Array Slot} {a : Array Value} {st0 : List Value}
    (C : evCx M p s m args meth c) (h1 : evKK G s) (h2 : evRO G s s.heap) (h5 : va_S (evAA G) s.heap H locs) (hl : lv_has ls M.2.2.1 lv)
    (hr : va_Run p (evl G) e F.1 s m args below meth c H locs F.2.1 F.2.2.1 0 0 (F0 m pc ls st0) st (evPo G Q a) (evAA G))
    (k : ∀ o S', Q o S' → evAt G M F (pc + 3) lv (o.toList ++ st) S') : W p (evl G) e F.1 s m args below meth c H locs F.2.1 F.2.2.1 (F.2.2.2 below args s) (F0 m pc ls st0) := by
  intro T hT X
  obtain ⟨v, st₀, t, T', L, h0, X', hL, e1, e2, ⟨⟨r, S', hv, hp, hb, hd⟩, hz, hk⟩, st9⟩ := hr T hT X
  cases hv
  rw [h0] at hz hk
  obtain ⟨t2, a1, b1⟩ := k _ S' hp p e s m args below meth c T'.heap (locs ++ L) ls C h1 h2 (by rw [e1]; exact hb) hd
    ⟨Nat.le_trans h5.1 (by rw [e1]; exact hz), fun q g1 g2 => by rw [e1, hk q (Nat.lt_of_lt_of_le g1 h5.1) g2]; exact h5.2.1 q g1 g2, fun q hq => by
      rcases List.mem_append.mp hq with h | h
      · exact h5.2.2 q h
      · exact hL q h⟩ hl T' rfl X'
  exact ⟨t2, st9 t2 a1, b1⟩
theorem ea_cv {y : MethodName} {M' : evM} {idx n kd x : Nat} {As : List Value} {stk : List Value} (hy : evMV y M' n) (hw : evML M.1 idx y) (ok : evKOk kd) (hV : (kd, x) ∈ evKs G) (hcl : (evQ kd).1 = y.cls) (hn : As.length = n) (hd : decode M.2.1 pc = .ok (.invokevirtual idx, 3)) (hstk : stk = As.reverse ++ .ref (evad G kd x) :: st) (hcat : (st.map fun v => v.category).sum ≤ 8) (hR : d + 1 ≤ F.1.frames ∧ 8 + (M'.2.2.1 + 11) + 40 * d ≤ F.1.locals) (hf : F.2.1 ≤ F.1.cells ∧ F.2.2.1 ≤ F.1.slots)
    (hS : evSp G y M' d (.ref (evad G kd x) :: As) S Q) {pc' : Nat} (hp : pc + 3 = pc') (k : ∀ o S', Q o S' → evAt G M F pc' lv (o.toList ++ st) S') : evAt G M F pc lv stk S := by
  subst hp
  subst hstk
  intro p e s m args below meth c H locs ls C h1 h2 h3 h4 h5 hl
  obtain ⟨q0, h0⟩ := List.getElem?_of_mem hV
  obtain ⟨o1, o2, o3, o4, o5, o6⟩ := ok
  have he := evw_at (S := S) h0
  have hc : evc (evca G) (evad G) S kd x = .inr (evC kd, (List.range (evN kd)).map (evf (evad G) S kd x)) := by simp only [evc, o1]
  rw [hc] at he
  have hrecv := va_recv h1.1 h3 o2 he
  rw [hcl] at hrecv
  refine ev_after C h1 h2 h5 hl (va_runV (As := As) (rest := st) (C := y.cls) (b := evad G kd x) (bytes := M'.2.1) (maxL := M'.2.2.1) (ret := M'.2.2.2) (n := n) (Ts := evtb) ⟨C.1, C.2.1, C.2.2.1, C.2.2.2.1, C.2.2.2.2.1⟩ hS (cwV n C.2.2.2.2.1 (ev_gw ?_) rfl rfl rfl ⟨rfl, hy.1.1⟩ hR) ⟨ev_blind, hrecv, fun U hU hW => ⟨rfl, by rw [hU]; exact h3, h4, ⟨va_K.moved hW.alike h1.1, h1.2.warmF hW⟩, ?_⟩⟩ rfl hn hl.1 rfl (lv_room hcat) hd ⟨hf.1, hf.2⟩) k
  · intro w hw'
    unfold wsV at hw'
    simp only [List.mem_append, List.mem_cons, List.mem_nil_iff, or_false] at hw'
    rcases hw' with (rfl | rfl | rfl | rfl) | rfl | h
    · exact hw
    · exact hy.2.1
    · exact hy.2.2
    · exact hy.1.2.2
    · exact hy.1.2.1
    · exact h
  · rw [hU]
    exact (h2.moved hW.alike).kept (fun a g1 g2 => h5.2.1 a g1 g2)
theorem ea_cs {y : MethodName} {M' : evM} {idx n : Nat} {As : List Value} {stk : List Value} (hy : evMS y M' n) (hw : evML M.1 idx y) (hn : As.length = n) (hd : decode M.2.1 pc = .ok (.invokestatic idx, 3)) (hstk : stk = As.reverse ++ st) (hcat : (st.map fun v => v.category).sum ≤ 8) (hR : d + 1 ≤ F.1.frames ∧ 8 + (M'.2.2.1 + 11) + 40 * d ≤ F.1.locals) (hf : F.2.1 ≤ F.1.cells ∧ F.2.2.1 ≤ F.1.slots)
    (hS : evSp G y M' d As S Q) {pc' : Nat} (hp : pc + 3 = pc') (k : ∀ o S', Q o S' → evAt G M F pc' lv (o.toList ++ st) S') : evAt G M F pc lv stk S := by
  subst hp
  subst hstk
  intro p e s m args below meth c H locs ls C h1 h2 h3 h4 h5 hl
  refine ev_after C h1 h2 h5 hl (va_runS (As := As) (rest := st) (bytes := M'.2.1) (maxL := M'.2.2.1) (ret := M'.2.2.2) (n := n) (Ts := evtb) ⟨C.1, C.2.1, C.2.2.1, C.2.2.2.1, C.2.2.2.2.1⟩ hS (va_cwS n C.2.2.2.2.1 (ev_gw ?_) rfl rfl rfl hy.1.1 hR) ⟨ev_blind, fun U hU hW => ⟨rfl, by rw [hU]; exact h3, h4, ⟨va_K.moved hW.alike h1.1, h1.2.warmF hW⟩, ?_⟩⟩ rfl hn hl.1 rfl (lv_room hcat) hd ⟨hf.1, hf.2⟩) k
  · intro w hw'
    unfold va_wsS at hw'
    simp only [List.mem_append, List.mem_cons, List.mem_nil_iff, or_false] at hw'
    rcases hw' with (rfl | rfl | rfl) | rfl | h
    · exact hw
    · exact hy.2
    · exact hy.1.2.2
    · exact hy.1.2.1
    · exact h
  · rw [hU]
    exact (h2.moved hW.alike).kept (fun a g1 g2 => h5.2.1 a g1 g2)
theorem ea_topi {x : Int32} (k : ∀ v : Int32, v = x → evAt G M F pc lv (.int v :: st) S) : evAt G M F pc lv (.int x :: st) S := k x rfl
theorem ea_topl {x : Int64} (k : ∀ v : Int64, v = x → evAt G M F pc lv (.long v :: st) S) : evAt G M F pc lv (.long x :: st) S := k x rfl
theorem ea_tops (k : ∀ S' : evS, S' = S → evAt G M F pc lv st S') : evAt G M F pc lv st S := k S rfl
theorem ev_room {n d : Nat} (h : n ≤ 21) : d + 1 ≤ (evrm (d + 1)).frames ∧ 8 + (n + 11) + 40 * d ≤ (evrm (d + 1)).locals := by
  unfold evrm
  refine ⟨Nat.le_refl _, ?_⟩
  show 8 + (n + 11) + 40 * d ≤ 40 * (d + 1)
  omega
/-- what the keys refer to is there -/
def evCl (G : evG) : Prop := (∀ kd x k k2 : Nat, (kd, x) ∈ evKs G → evR kd k = some k2 → (k2, evX kd k x) ∈ evKs G) ∧ ∀ kd x i : Nat, (kd, x) ∈ evKs G → evT kd = 4 → i < evN kd → (evE kd, evEX kd x i) ∈ evKs G
theorem ev_cle {kd x n k2 x2 : Nat} {i : Int32} (h : evCl G) (hV : (kd, x) ∈ evKs G) (hT : evT kd = 4) (hn : evN kd = n) (hi : vp_in i n) {j : Nat} (hj : i.toNatClampNeg = j) (hk : evE kd = k2) (hx : evEX kd x j = x2) : (k2, x2) ∈ evKs G := by
  subst hk
  subst hx
  subst hj
  refine h.2 kd x _ hV hT ?_
  rw [hn]
  exact Nat.not_le.mp fun q => hi (Or.inr q)
theorem ea_cvi {y : MethodName} {M' : evM} {idx n kd x : Nat} {As : List Value} {stk : List Value} {q : Int32 → evS → Prop} (hy : evMV y M' n) (hw : evML M.1 idx y) (ok : evKOk kd) (hV : (kd, x) ∈ evKs G) (hcl : (evQ kd).1 = y.cls) (hn : As.length = n) (hd : decode M.2.1 pc = .ok (.invokevirtual idx, 3)) (hstk : stk = As.reverse ++ .ref (evad G kd x) :: st) (hcat : (st.map fun v => v.category).sum ≤ 8) (hR : d + 1 ≤ F.1.frames ∧ 8 + (M'.2.2.1 + 11) + 40 * d ≤ F.1.locals) (hf : F.2.1 ≤ F.1.cells ∧ F.2.2.1 ≤ F.1.slots)
    (hS : evSp G y M' d (.ref (evad G kd x) :: As) S (evQI q)) {pc' : Nat} (hp : pc + 3 = pc') (k : ∀ r S', q r S' → evAt G M F pc' lv (.int r :: st) S') : evAt G M F pc lv stk S :=
  ea_cv hy hw ok hV hcl hn hd hstk hcat hR hf hS hp (fun o S' h => by obtain ⟨r, rfl, h⟩ := h; exact k r S' h)
theorem ea_cvl {y : MethodName} {M' : evM} {idx n kd x : Nat} {As : List Value} {stk : List Value} {q : Int64 → evS → Prop} (hy : evMV y M' n) (hw : evML M.1 idx y) (ok : evKOk kd) (hV : (kd, x) ∈ evKs G) (hcl : (evQ kd).1 = y.cls) (hn : As.length = n) (hd : decode M.2.1 pc = .ok (.invokevirtual idx, 3)) (hstk : stk = As.reverse ++ .ref (evad G kd x) :: st) (hcat : (st.map fun v => v.category).sum ≤ 8) (hR : d + 1 ≤ F.1.frames ∧ 8 + (M'.2.2.1 + 11) + 40 * d ≤ F.1.locals) (hf : F.2.1 ≤ F.1.cells ∧ F.2.2.1 ≤ F.1.slots)
    (hS : evSp G y M' d (.ref (evad G kd x) :: As) S (evQL q)) {pc' : Nat} (hp : pc + 3 = pc') (k : ∀ r S', q r S' → evAt G M F pc' lv (.long r :: st) S') : evAt G M F pc lv stk S :=
  ea_cv hy hw ok hV hcl hn hd hstk hcat hR hf hS hp (fun o S' h => by obtain ⟨r, rfl, h⟩ := h; exact k r S' h)
theorem ea_cvv {y : MethodName} {M' : evM} {idx n kd x : Nat} {As : List Value} {stk : List Value} {q : evS → Prop} (hy : evMV y M' n) (hw : evML M.1 idx y) (ok : evKOk kd) (hV : (kd, x) ∈ evKs G) (hcl : (evQ kd).1 = y.cls) (hn : As.length = n) (hd : decode M.2.1 pc = .ok (.invokevirtual idx, 3)) (hstk : stk = As.reverse ++ .ref (evad G kd x) :: st) (hcat : (st.map fun v => v.category).sum ≤ 8) (hR : d + 1 ≤ F.1.frames ∧ 8 + (M'.2.2.1 + 11) + 40 * d ≤ F.1.locals) (hf : F.2.1 ≤ F.1.cells ∧ F.2.2.1 ≤ F.1.slots)
    (hS : evSp G y M' d (.ref (evad G kd x) :: As) S (evQV q)) {pc' : Nat} (hp : pc + 3 = pc') (k : ∀ S', q S' → evAt G M F pc' lv st S') : evAt G M F pc lv stk S :=
  ea_cv hy hw ok hV hcl hn hd hstk hcat hR hf hS hp (fun o S' h => by obtain ⟨rfl, h⟩ := h; exact k S' h)
theorem ea_cvr {y : MethodName} {M' : evM} {idx n kd x : Nat} {As : List Value} {stk : List Value} {q : evS → Prop} {a : Nat} (hy : evMV y M' n) (hw : evML M.1 idx y) (ok : evKOk kd) (hV : (kd, x) ∈ evKs G) (hcl : (evQ kd).1 = y.cls) (hn : As.length = n) (hd : decode M.2.1 pc = .ok (.invokevirtual idx, 3)) (hstk : stk = As.reverse ++ .ref (evad G kd x) :: st) (hcat : (st.map fun v => v.category).sum ≤ 8) (hR : d + 1 ≤ F.1.frames ∧ 8 + (M'.2.2.1 + 11) + 40 * d ≤ F.1.locals) (hf : F.2.1 ≤ F.1.cells ∧ F.2.2.1 ≤ F.1.slots)
    (hS : evSp G y M' d (.ref (evad G kd x) :: As) S (evQR a q)) {pc' : Nat} (hp : pc + 3 = pc') (k : ∀ S', q S' → evAt G M F pc' lv (.ref a :: st) S') : evAt G M F pc lv stk S :=
  ea_cv hy hw ok hV hcl hn hd hstk hcat hR hf hS hp (fun o S' h => by obtain ⟨rfl, h⟩ := h; exact k S' h)
theorem ea_csi {y : MethodName} {M' : evM} {idx n : Nat} {As : List Value} {stk : List Value} {q : Int32 → evS → Prop} (hy : evMS y M' n) (hw : evML M.1 idx y) (hn : As.length = n) (hd : decode M.2.1 pc = .ok (.invokestatic idx, 3)) (hstk : stk = As.reverse ++ st) (hcat : (st.map fun v => v.category).sum ≤ 8) (hR : d + 1 ≤ F.1.frames ∧ 8 + (M'.2.2.1 + 11) + 40 * d ≤ F.1.locals) (hf : F.2.1 ≤ F.1.cells ∧ F.2.2.1 ≤ F.1.slots)
    (hS : evSp G y M' d (As) S (evQI q)) {pc' : Nat} (hp : pc + 3 = pc') (k : ∀ r S', q r S' → evAt G M F pc' lv (.int r :: st) S') : evAt G M F pc lv stk S :=
  ea_cs hy hw hn hd hstk hcat hR hf hS hp (fun o S' h => by obtain ⟨r, rfl, h⟩ := h; exact k r S' h)
theorem ea_csl {y : MethodName} {M' : evM} {idx n : Nat} {As : List Value} {stk : List Value} {q : Int64 → evS → Prop} (hy : evMS y M' n) (hw : evML M.1 idx y) (hn : As.length = n) (hd : decode M.2.1 pc = .ok (.invokestatic idx, 3)) (hstk : stk = As.reverse ++ st) (hcat : (st.map fun v => v.category).sum ≤ 8) (hR : d + 1 ≤ F.1.frames ∧ 8 + (M'.2.2.1 + 11) + 40 * d ≤ F.1.locals) (hf : F.2.1 ≤ F.1.cells ∧ F.2.2.1 ≤ F.1.slots)
    (hS : evSp G y M' d (As) S (evQL q)) {pc' : Nat} (hp : pc + 3 = pc') (k : ∀ r S', q r S' → evAt G M F pc' lv (.long r :: st) S') : evAt G M F pc lv stk S :=
  ea_cs hy hw hn hd hstk hcat hR hf hS hp (fun o S' h => by obtain ⟨r, rfl, h⟩ := h; exact k r S' h)
theorem ea_csv {y : MethodName} {M' : evM} {idx n : Nat} {As : List Value} {stk : List Value} {q : evS → Prop} (hy : evMS y M' n) (hw : evML M.1 idx y) (hn : As.length = n) (hd : decode M.2.1 pc = .ok (.invokestatic idx, 3)) (hstk : stk = As.reverse ++ st) (hcat : (st.map fun v => v.category).sum ≤ 8) (hR : d + 1 ≤ F.1.frames ∧ 8 + (M'.2.2.1 + 11) + 40 * d ≤ F.1.locals) (hf : F.2.1 ≤ F.1.cells ∧ F.2.2.1 ≤ F.1.slots)
    (hS : evSp G y M' d (As) S (evQV q)) {pc' : Nat} (hp : pc + 3 = pc') (k : ∀ S', q S' → evAt G M F pc' lv st S') : evAt G M F pc lv stk S :=
  ea_cs hy hw hn hd hstk hcat hR hf hS hp (fun o S' h => by obtain ⟨rfl, h⟩ := h; exact k S' h)
theorem ea_csr {y : MethodName} {M' : evM} {idx n : Nat} {As : List Value} {stk : List Value} {q : evS → Prop} {a : Nat} (hy : evMS y M' n) (hw : evML M.1 idx y) (hn : As.length = n) (hd : decode M.2.1 pc = .ok (.invokestatic idx, 3)) (hstk : stk = As.reverse ++ st) (hcat : (st.map fun v => v.category).sum ≤ 8) (hR : d + 1 ≤ F.1.frames ∧ 8 + (M'.2.2.1 + 11) + 40 * d ≤ F.1.locals) (hf : F.2.1 ≤ F.1.cells ∧ F.2.2.1 ≤ F.1.slots)
    (hS : evSp G y M' d (As) S (evQR a q)) {pc' : Nat} (hp : pc + 3 = pc') (k : ∀ S', q S' → evAt G M F pc' lv (.ref a :: st) S') : evAt G M F pc lv stk S :=
  ea_cs hy hw hn hd hstk hcat hR hf hS hp (fun o S' h => by obtain ⟨rfl, h⟩ := h; exact k S' h)
end EvCalls
