/-! WORLDS BY KEYS. A cell's key: its kind and its number among its kind. What a cell refers to is fixed by its key; what changes are whole numbers alone: evS. -/
abbrev evS : Type := (Nat → Nat → Nat → Int32) × (Nat → Nat → Nat → Int64)
/-- a method: its class, bytes, locals, answer -/
abbrev evM : Type := String × ByteArray × Nat × Option FieldType
/-- launch, classes, array classes, addresses, the keys that are, the script -/
abbrev evG : Type := Launch × va_G × (Nat → ClassId) × (Nat → Nat → Nat) × List (Nat × Nat) × Nat × (Nat → Int32)
/-- room, cells, slots, where it ends -/
abbrev evF : Type := Room × Nat × Nat × (List Frame → Array Value → State → State → Prop)
abbrev evl (G : evG) : Launch := G.1
abbrev evD (G : evG) : va_G := G.2.1
abbrev evca (G : evG) : Nat → ClassId := G.2.2.1
abbrev evad (G : evG) : Nat → Nat → Nat := G.2.2.2.1
abbrev evKs (G : evG) : List (Nat × Nat) := G.2.2.2.2.1
abbrev evL (G : evG) : Nat := G.2.2.2.2.2.1
abbrev evxs (G : evG) : Nat → Int32 := G.2.2.2.2.2.2
def evf (ad : Nat → Nat → Nat) (S : evS) (kd x k : Nat) : Value := match evR kd k with
  | some kd' => .ref (ad kd' (evX kd k x))
  | none => .int (S.1 kd x k)
def evc (ca : Nat → ClassId) (ad : Nat → Nat → Nat) (S : evS) (kd x : Nat) : va_E := match evT kd with
  | 0 => .inr (evC kd, (List.range (evN kd)).map (evf ad S kd x))
  | 1 => .inl (ca 0, evN kd, .inl (S.1 kd x))
  | 2 => .inl (ca 1, evN kd, .inr (.inl (S.2 kd x)))
  | 3 => .inl (ca 2, evN kd, .inl (S.1 kd x))
  | _ => .inl (ca (evA kd), evN kd, .inr (.inr (.inr (.inr (fun i => some (ad (evE kd) (evEX kd x i)))))))
def evw (G : evG) (S : evS) : va_W := (evKs G).map fun q => (evad G q.1 q.2, evc (evca G) (evad G) S q.1 q.2)
def evtys (ca : Nat → ClassId) : List (ClassId × FieldType) := [(ca 0, .int), (ca 1, .long), (ca 2, .boolean), (ca 3, .object RX0), (ca 4, .object RX3), (ca 5, .object RX2)]
def evAA (G : evG) : Nat → Prop := fun q => ∃ r ∈ evKs G, evad G r.1 r.2 = q
def evNF : Cond := .fieldLinkNest RX5 92 RX0 "ships" "[LEvenVoyage$Ship;" RX5
def evKK (G : evG) (U : State) : Prop := va_K (evD G) vwCl (evtys (evca G)) U ∧ va_Nw evNF U
/-- the tables' words that are kept over a call -/
def evtb : List Cond := lw_tbl.filter goodWord
theorem ev_in {w : Cond} (h : w ∈ lw_tbl) (g : goodWord w = true) : w ∈ evtb := List.mem_filter.mpr ⟨h, g⟩
def evRO (G : evG) (U : State) (H : Heap) : Prop :=
  va_T .int (evad G 60 0) (evL G) (fun j => .int (evxs G j)) (evAA G) U H ∧
  (va_Z RX3 "AT_FIRST" "[I" (.ref (evad G 61 0)) (evAA G) U H ∧ va_T .int (evad G 61 0) 9 (fun j => .int (evst 61 j)) (evAA G) U H) ∧
  (va_Z RX4 "LEAST_OF_LEG" "[I" (.ref (evad G 62 0)) (evAA G) U H ∧ va_T .int (evad G 62 0) 4 (fun j => .int (evst 62 j)) (evAA G) U H) ∧
  (va_Z RX4 "MOST_OF_LEG" "[I" (.ref (evad G 63 0)) (evAA G) U H ∧ va_T .int (evad G 63 0) 4 (fun j => .int (evst 63 j)) (evAA G) U H)
theorem evRO.moved {G : evG} {u U : State} {H : Heap} (hvm : u.vm.Alike U.vm) (h : evRO G u H) : evRO G U H :=
  ⟨h.1.moved hvm, ⟨h.2.1.1.moved hvm, h.2.1.2.moved hvm⟩, ⟨h.2.2.1.1.moved hvm, h.2.2.1.2.moved hvm⟩, ⟨h.2.2.2.1.moved hvm, h.2.2.2.2.moved hvm⟩⟩
theorem evRO.kept {G : evG} {U : State} {H H1 : Heap} (h : evRO G U H) (hq : ∀ a : Nat, a < H.size → ¬ evAA G a → H1[a]? = H[a]?) : evRO G U H1 :=
  ⟨h.1.kept hq, ⟨h.2.1.1.kept hq, h.2.1.2.kept hq⟩, ⟨h.2.2.1.1.kept hq, h.2.2.1.2.kept hq⟩, ⟨h.2.2.2.1.kept hq, h.2.2.2.2.kept hq⟩⟩
def evCx (M : evM) (p : Program) (s : State) (m : MethodId) (args : Array Value) (meth : Method) (c : Code) : Prop :=
  p.tables.exec = Jvm.exec ∧ c.code = M.2.1 ∧ c.maxLocals = M.2.2.1 ∧ s.vm.findClass M.1 = some m.cls ∧ (∀ w ∈ evtb, w.before args s = true) ∧ meth.sig.returnType = M.2.2.2 ∧ meth.locks = false
/-- at a frame of method M, with the store S -/
def evAt (G : evG) (M : evM) (F : evF) (pc : Nat) (lv : List (Nat × Value)) (st : List Value) (S : evS) : Prop :=
  ∀ (p : Program) (e : Env) (s : State) (m : MethodId) (args : Array Value) (below : List Frame) (meth : Method) (c : Code) (H : Heap) (locs : List Loc) (ls : Array Slot),
    evCx M p s m args meth c → evKK G s → evRO G s s.heap → va_P (evD G) vwCl (evw G S) H → va_D (evAA G) (evw G S) → va_S (evAA G) s.heap H locs → lv_has ls M.2.2.1 lv →
    W p (evl G) e F.1 s m args below meth c H locs F.2.1 F.2.2.1 (F.2.2.2 below args s) (F0 m pc ls st)
def evrm (d : Nat) : Room := { frames := d, cells := 0, slots := 0, locals := 40 * d }
def evPo (G : evG) (Q : Option Value → evS → Prop) : Array Value → State → Outcome → State → Prop := fun _ st o t =>
  (∃ (r : Option Value) (S : evS), o = .returned r ∧ Q r S ∧ va_P (evD G) vwCl (evw G S) t.heap ∧ va_D (evAA G) (evw G S)) ∧ va_F (evAA G) st t
abbrev evFm (G : evG) (d : Nat) (Q : Option Value → evS → Prop) : evF := (evrm d, 0, 0, fun below args s => MQ below (evPo G Q) args s 0 0 (evAA G))
def evPr (G : evG) (as : List Value) (S : evS) : Array Value → State → Prop := va_Pc as (fun U => va_P (evD G) vwCl (evw G S) U.heap ∧ va_D (evAA G) (evw G S) ∧ evKK G U ∧ evRO G U U.heap)
/-- method y, called with as at store S, returns with Q -/
def evSp (G : evG) (y : MethodName) (M : evM) (d : Nat) (as : List Value) (S : evS) (Q : Option Value → evS → Prop) : Prop :=
  Met (evl G) y (.code y M.2.1 M.2.2.1 M.2.2.2 :: evtb) (evrm d) (evPr G as S) (evPo G Q) 0 0 (evAA G)
def evQI (q : Int32 → evS → Prop) : Option Value → evS → Prop := fun o S => ∃ r : Int32, o = some (.int r) ∧ q r S
def evQL (q : Int64 → evS → Prop) : Option Value → evS → Prop := fun o S => ∃ r : Int64, o = some (.long r) ∧ q r S
def evQV (q : evS → Prop) : Option Value → evS → Prop := fun o S => o = none ∧ q S
def evQR (a : Nat) (q : evS → Prop) : Option Value → evS → Prop := fun o S => o = some (.ref a) ∧ q S
def evup (S : evS) (kd x k : Nat) (v : Int32) : evS := (fun a b c => if a = kd ∧ b = x ∧ c = k then v else S.1 a b c, S.2)
def evupL (S : evS) (kd x k : Nat) (v : Int64) : evS := (S.1, fun a b c => if a = kd ∧ b = x ∧ c = k then v else S.2 a b c)
def evcpy (S : evS) (kd x : Nat) (g : Nat → Int32) : evS := (fun a b c => if a = kd ∧ b = x then g c else S.1 a b c, S.2)
def evKOk (kd : Nat) : Prop := evT kd = 0 ∧ vwCl[evC kd]? = some (evQ kd) ∧ (∀ w ∈ u_ws (evQ kd).1 (evQ kd).2.1 (evQ kd).2.2, w ∈ evtb) ∧ (∀ k, k < (evQ kd).2.2 → parseFieldDescriptor ((evQ kd).2.1 k).2.2.1 = some (evY kd k)) ∧ (∀ a, a < (evQ kd).2.2 → ∀ b, b < (evQ kd).2.2 → a ≠ b → ((evQ kd).2.1 a).2.1 ≠ ((evQ kd).2.1 b).2.1) ∧ evN kd = (evQ kd).2.2
def evFL (own : String) (idx kd k : Nat) : Prop := Cond.fieldLink own idx ((evQ kd).2.1 k).1 ((evQ kd).2.1 k).2.1 ((evQ kd).2.1 k).2.2.1 ∈ evtb
theorem evw_at {G : evG} {S : evS} {q0 kd x : Nat} (h : (evKs G)[q0]? = some (kd, x)) : (evw G S)[q0]? = some (evad G kd x, evc (evca G) (evad G) S kd x) := by
  simp [evw, h]
theorem evw_set {G : evG} {S S' : evS} {A : Nat → Prop} {q0 kd x : Nat} {e : va_E} (hD : va_D A (evw G S)) (h0 : (evKs G)[q0]? = some (kd, x)) (he : e = evc (evca G) (evad G) S' kd x) (hne : ∀ a b, ¬ (a = kd ∧ b = x) → evc (evca G) (evad G) S' a b = evc (evca G) (evad G) S a b) :
    (evw G S).set q0 (evad G kd x, e) = evw G S' := by
  subst he
  apply List.ext_getElem?
  intro i
  rw [List.getElem?_set]
  by_cases hi : q0 = i
  · subst hi
    have hlt : q0 < (evw G S).length := (List.getElem?_eq_some_iff.mp (evw_at (S := S) h0)).1
    rw [if_pos rfl, if_pos hlt, evw_at h0]
  · rw [if_neg hi]
    cases hk : (evKs G)[i]? with
    | none => simp [evw, hk]
    | some r =>
      obtain ⟨a, b⟩ := r
      rw [evw_at hk, evw_at hk]
      by_cases hab : a = kd ∧ b = x
      · obtain ⟨rfl, rfl⟩ := hab
        exact absurd (hD.1 q0 i _ _ (evw_at h0) (evw_at hk) rfl) hi
      · rw [hne a b hab]
theorem evc_up {ca : Nat → ClassId} {ad : Nat → Nat → Nat} {S S' : evS} {a b : Nat} (h1 : S'.1 a b = S.1 a b) (h2 : S'.2 a b = S.2 a b) : evc ca ad S' a b = evc ca ad S a b := by
  have hf : evf ad S' a b = evf ad S a b := by
    funext k
    unfold evf
    rw [h1]
  unfold evc
  rw [hf, h1, h2]
theorem evup_ne {S : evS} {kd x k a b : Nat} {v : Int32} (h : ¬ (a = kd ∧ b = x)) : (evup S kd x k v).1 a b = S.1 a b := by
  funext c
  simp only [evup]
  rw [if_neg (fun q => h ⟨q.1, q.2.1⟩)]
theorem evupL_ne {S : evS} {kd x k a b : Nat} {v : Int64} (h : ¬ (a = kd ∧ b = x)) : (evupL S kd x k v).2 a b = S.2 a b := by
  funext c
  simp only [evupL]
  rw [if_neg (fun q => h ⟨q.1, q.2.1⟩)]
theorem evcpy_ne {S : evS} {kd x a b : Nat} {g : Nat → Int32} (h : ¬ (a = kd ∧ b = x)) : (evcpy S kd x g).1 a b = S.1 a b := by
  funext c
  simp only [evcpy]
  rw [if_neg h]
theorem evmap_set {N k : Nat} {f g : Nat → Value} {v : Value} (hk : k < N) (hg : g k = v) (ho : ∀ j, j ≠ k → g j = f j) : ((List.range N).map f).set k v = (List.range N).map g := by
  apply List.ext_getElem?
  intro i
  rw [List.getElem?_set]
  by_cases hi : k = i
  · subst hi
    rw [if_pos rfl, if_pos (by simpa using hk)]
    simp [hk, hg]
  · rw [if_neg hi]
    simp only [List.getElem?_map]
    by_cases hl : i < N
    · simp [hl, ho i (Ne.symm hi)]
    · simp [hl]
theorem evSp.mono {G : evG} {y : MethodName} {M : evM} {d : Nat} {as : List Value} {S : evS} {Q Q' : Option Value → evS → Prop} (h : evSp G y M d as S Q) (hq : ∀ o S', Q o S' → Q' o S') : evSp G y M d as S Q' := by
  unfold evSp Met at h ⊢
  refine MetFree.mono h (fun _ _ h => h) (fun _ _ _ _ _ h => h) (fun _ _ _ _ _ h => ?_)
  obtain ⟨⟨⟨r, S1, e1, e2, e3⟩, e4⟩, e5⟩ := h
  exact ⟨⟨⟨r, S1, e1, hq _ _ e2, e3⟩, e4⟩, e5⟩
theorem ev_ofW {l : Launch} {y : MethodName} {ws ws' : List Cond} {rm : Room} {Pc : Array Value → State → Prop} {Qc : Array Value → State → Outcome → State → Prop} {mc ms : Nat} {free : Addr → Prop} {cc : ByteArray} {maxL : Nat} {ret : Option FieldType}
    (hy : plainFor y = true) (hw : ws = Cond.code y cc maxL ret :: ws')
    (body : ∀ p e s m args below meth c s₁, BodyLoose p l y (headSpec ws rm) cc maxL ret e s m args below meth c s₁ → c.maxLocals = maxL → Pc args s →
      W p l e (headSpec ws rm).room s m args below meth c s.heap [] 0 0 (MQ below Qc args s mc ms free) (entryFrame m args maxL)) : Met l y ws rm Pc Qc mc ms free := by
  refine MetFree.of_bodySF (code := cc) (maxLocals := maxL) (ret := ret) hy ?_ ?_
  · intro args s m h hn
    obtain ⟨meth, c, h1, h2, h3, h4, h5, h6, -, -⟩ := Cond.code_spec hn (atoms_spec (ws := ws) h _ (by rw [hw]; exact List.mem_cons_self))
    exact ⟨meth, c, h1, h2, h3, h4, h5, h6⟩
  · intro p e s m args below meth c s₁ B hml hP _
    have hh0 : s₁.heap = s.heap := by rw [B.state]; rfl
    obtain ⟨t, a1, o, b1, b2, b3⟩ := body p e s m args below meth c s₁ B hml hP s₁ hh0 (Stand.of_body B)
    exact ⟨t, o, a1, b1, b2, ⟨b3.1, b3.2⟩⟩
theorem evSp.of {G : evG} {y : MethodName} {M : evM} {d : Nat} {as : List Value} {S : evS} {Q : Option Value → evS → Prop} (hy : plainFor y = true) (ho : M.1 = y.cls) (hlen : (lg_sl as).length ≤ M.2.2.1) (h : evAt G M (evFm G d Q) 0 (lv_args 0 as) [] S) : evSp G y M d as S Q := by
  refine ev_ofW (cc := M.2.1) (maxL := M.2.2.1) (ret := M.2.2.2) hy rfl ?_
  intro p e s m args below meth c s₁ B hml hv
  obtain ⟨rfl, hP, hD, hK, hR⟩ := hv
  have hts := atoms_spec (ws := (.code y M.2.1 M.2.2.1 M.2.2.2 :: evtb)) B.pre
  rw [lg_entry_eq]
  exact h p e s m _ below meth c s.heap [] _ ⟨B.exec, B.bytes, hml, by rw [ho]; exact findClass_of_methodNamed B.named, fun w h => hts w (List.mem_cons_of_mem _ h), B.returns, B.notSynchronized⟩ hK hR hP hD va_S.rf (lv_entry as hlen)
section EvRows
variable {G : evG} {M : evM} {F : evF} {pc : Nat} {lv lv' : List (Nat × Value)} {st : List Value} {S : evS} {d : Nat} {Q : Option Value → evS → Prop}
theorem ea_loc (ks : List Nat) (h : lv_pick lv ks = lv') (k : evAt G M F pc lv' st S) : evAt G M F pc lv st S :=
  fun p e s m args below meth c H locs ls C h1 h2 h3 h4 h5 hl => k p e s m args below meth c H locs ls C h1 h2 h3 h4 h5 (lv_sub hl ks h)
theorem ea_sto {S' : evS} (h : S = S') (k : evAt G M F pc lv st S') : evAt G M F pc lv st S := h ▸ k
theorem ea_iconst {n : Int} {v : Int32} (hd : decode M.2.1 pc = .ok (.iconst n, 1)) (hv : Int32.ofInt n = v) {pc' : Nat} (hp : pc + 1 = pc') (k : evAt G M F pc' lv (.int v :: st) S) : evAt G M F pc lv (st) S := by
  subst hp
  exact fun p e s m args below meth c H locs ls C h1 h2 h3 h4 h5 hl => lv_iconst C.1 C.2.1 hd hv (k p e s m args below meth c H locs ls C h1 h2 h3 h4 h5 hl)
theorem ea_bipush {n : Int} {v : Int32} (hd : decode M.2.1 pc = .ok (.bipush n, 2)) (hv : (Int8.ofInt n).toInt32 = v) {pc' : Nat} (hp : pc + 2 = pc') (k : evAt G M F pc' lv (.int v :: st) S) : evAt G M F pc lv (st) S := by
  subst hp
  exact fun p e s m args below meth c H locs ls C h1 h2 h3 h4 h5 hl => lv_bipush C.1 C.2.1 hd hv (k p e s m args below meth c H locs ls C h1 h2 h3 h4 h5 hl)
theorem ea_sipush {n : Int} {v : Int32} (hd : decode M.2.1 pc = .ok (.sipush n, 3)) (hv : (Int16.ofInt n).toInt32 = v) {pc' : Nat} (hp : pc + 3 = pc') (k : evAt G M F pc' lv (.int v :: st) S) : evAt G M F pc lv (st) S := by
  subst hp
  exact fun p e s m args below meth c H locs ls C h1 h2 h3 h4 h5 hl => lv_sipush C.1 C.2.1 hd hv (k p e s m args below meth c H locs ls C h1 h2 h3 h4 h5 hl)
theorem ea_lconst {n : Fin 2} {v : Int64} (hd : decode M.2.1 pc = .ok (.lconst n, 1)) (hv : Int64.ofNat (n : Nat) = v) {pc' : Nat} (hp : pc + 1 = pc') (k : evAt G M F pc' lv (.long v :: st) S) : evAt G M F pc lv (st) S := by
  subst hp
  exact fun p e s m args below meth c H locs ls C h1 h2 h3 h4 h5 hl => lv_lconst C.1 C.2.1 hd hv (k p e s m args below meth c H locs ls C h1 h2 h3 h4 h5 hl)
theorem ea_ldc {n : Nat} {v : Int32} (hd : decode M.2.1 pc = .ok (.ldc n, 2)) (hw : Cond.constant M.1 n v ∈ evtb) {pc' : Nat} (hp : pc + 2 = pc') (k : evAt G M F pc' lv (.int v :: st) S) : evAt G M F pc lv (st) S := by
  subst hp
  exact fun p e s m args below meth c H locs ls C h1 h2 h3 h4 h5 hl => lv_ldc C.1 C.2.1 C.2.2.2.1 (C.2.2.2.2.1 _ hw) hd (k p e s m args below meth c H locs ls C h1 h2 h3 h4 h5 hl)
theorem ea_ldcw {n : Nat} {v : Int32} (hd : decode M.2.1 pc = .ok (.ldc_w n, 3)) (hw : Cond.constant M.1 n v ∈ evtb) {pc' : Nat} (hp : pc + 3 = pc') (k : evAt G M F pc' lv (.int v :: st) S) : evAt G M F pc lv (st) S := by
  subst hp
  exact fun p e s m args below meth c H locs ls C h1 h2 h3 h4 h5 hl => lv_ldcw C.1 C.2.1 C.2.2.2.1 (C.2.2.2.2.1 _ hw) hd (k p e s m args below meth c H locs ls C h1 h2 h3 h4 h5 hl)
theorem ea_ldc2 {n : Nat} {v : Int64} (hd : decode M.2.1 pc = .ok (.ldc2_w n, 3)) (hw : Cond.constantLong M.1 n v ∈ evtb) {pc' : Nat} (hp : pc + 3 = pc') (k : evAt G M F pc' lv (.long v :: st) S) : evAt G M F pc lv (st) S := by
  subst hp
  exact fun p e s m args below meth c H locs ls C h1 h2 h3 h4 h5 hl => lv_ldc2 C.1 C.2.1 C.2.2.2.1 (C.2.2.2.2.1 _ hw) hd (k p e s m args below meth c H locs ls C h1 h2 h3 h4 h5 hl)
theorem ea_iload_n {j : Fin 4} {i : Nat} {x : Int32} (hd : decode M.2.1 pc = .ok (.iload_n j, 1)) (hi : (j : Nat) = i) (q : Nat) (hq : lv[q]? = some (i, .int x)) {pc' : Nat} (hp : pc + 1 = pc') (k : evAt G M F pc' lv (.int x :: st) S) : evAt G M F pc lv (st) S := by
  subst hp
  exact fun p e s m args below meth c H locs ls C h1 h2 h3 h4 h5 hl => lv_iload_n C.1 C.2.1 hd hi (lv_at hl q hq) (k p e s m args below meth c H locs ls C h1 h2 h3 h4 h5 hl)
theorem ea_iload {i : Nat} {x : Int32} (hd : decode M.2.1 pc = .ok (.iload i, 2)) (q : Nat) (hq : lv[q]? = some (i, .int x)) {pc' : Nat} (hp : pc + 2 = pc') (k : evAt G M F pc' lv (.int x :: st) S) : evAt G M F pc lv (st) S := by
  subst hp
  exact fun p e s m args below meth c H locs ls C h1 h2 h3 h4 h5 hl => lv_iload C.1 C.2.1 hd (lv_at hl q hq) (k p e s m args below meth c H locs ls C h1 h2 h3 h4 h5 hl)
theorem ea_istore_n {j : Fin 4} {i : Nat} {x : Int32} (hd : decode M.2.1 pc = .ok (.istore_n j, 1)) (hi : (j : Nat) = i) (hn : i < M.2.2.1) (hv : (i, Value.int x) :: lv.filter (fun q => !(q.1 == i) && !(q.1 + 1 == i && q.2.category == 2)) = lv') {pc' : Nat} (hp : pc + 1 = pc') (k : evAt G M F pc' lv' st S) : evAt G M F pc lv (.int x :: st) S := by
  subst hp
  exact fun p e s m args below meth c H locs ls C h1 h2 h3 h4 h5 hl => lv_istore_n C.1 C.2.1 hd hi hl hn hv (fun ls hl => (k p e s m args below meth c H locs ls C h1 h2 h3 h4 h5 hl))
theorem ea_istore {i : Nat} {x : Int32} (hd : decode M.2.1 pc = .ok (.istore i, 2)) (hn : i < M.2.2.1) (hv : (i, Value.int x) :: lv.filter (fun q => !(q.1 == i) && !(q.1 + 1 == i && q.2.category == 2)) = lv') {pc' : Nat} (hp : pc + 2 = pc') (k : evAt G M F pc' lv' st S) : evAt G M F pc lv (.int x :: st) S := by
  subst hp
  exact fun p e s m args below meth c H locs ls C h1 h2 h3 h4 h5 hl => lv_istore C.1 C.2.1 hd hl hn hv (fun ls hl => (k p e s m args below meth c H locs ls C h1 h2 h3 h4 h5 hl))
theorem ea_lload_n {j : Fin 4} {i : Nat} {x : Int64} (hd : decode M.2.1 pc = .ok (.lload_n j, 1)) (hi : (j : Nat) = i) (q : Nat) (hq : lv[q]? = some (i, .long x)) {pc' : Nat} (hp : pc + 1 = pc') (k : evAt G M F pc' lv (.long x :: st) S) : evAt G M F pc lv (st) S := by
  subst hp
  exact fun p e s m args below meth c H locs ls C h1 h2 h3 h4 h5 hl => lv_lload_n C.1 C.2.1 hd hi (lv_at hl q hq) (k p e s m args below meth c H locs ls C h1 h2 h3 h4 h5 hl)
theorem ea_lload {i : Nat} {x : Int64} (hd : decode M.2.1 pc = .ok (.lload i, 2)) (q : Nat) (hq : lv[q]? = some (i, .long x)) {pc' : Nat} (hp : pc + 2 = pc') (k : evAt G M F pc' lv (.long x :: st) S) : evAt G M F pc lv (st) S := by
  subst hp
  exact fun p e s m args below meth c H locs ls C h1 h2 h3 h4 h5 hl => lv_lload C.1 C.2.1 hd (lv_at hl q hq) (k p e s m args below meth c H locs ls C h1 h2 h3 h4 h5 hl)
theorem ea_lstore_n {j : Fin 4} {i : Nat} {x : Int64} (hd : decode M.2.1 pc = .ok (.lstore_n j, 1)) (hi : (j : Nat) = i) (hn : i + 1 < M.2.2.1) (hv : (i, Value.long x) :: lv.filter (fun q => !(q.1 == i) && (!(q.1 == i + 1) && !(q.1 + 1 == i && q.2.category == 2))) = lv') {pc' : Nat} (hp : pc + 1 = pc') (k : evAt G M F pc' lv' st S) : evAt G M F pc lv (.long x :: st) S := by
  subst hp
  exact fun p e s m args below meth c H locs ls C h1 h2 h3 h4 h5 hl => lv_lstore_n C.1 C.2.1 hd hi hl hn hv (fun ls hl => (k p e s m args below meth c H locs ls C h1 h2 h3 h4 h5 hl))
theorem ea_lstore {i : Nat} {x : Int64} (hd : decode M.2.1 pc = .ok (.lstore i, 2)) (hn : i + 1 < M.2.2.1) (hv : (i, Value.long x) :: lv.filter (fun q => !(q.1 == i) && (!(q.1 == i + 1) && !(q.1 + 1 == i && q.2.category == 2))) = lv') {pc' : Nat} (hp : pc + 2 = pc') (k : evAt G M F pc' lv' st S) : evAt G M F pc lv (.long x :: st) S := by
  subst hp
  exact fun p e s m args below meth c H locs ls C h1 h2 h3 h4 h5 hl => lv_lstore C.1 C.2.1 hd hl hn hv (fun ls hl => (k p e s m args below meth c H locs ls C h1 h2 h3 h4 h5 hl))
theorem ea_aload_n {j : Fin 4} {i : Nat} {x : Nat} (hd : decode M.2.1 pc = .ok (.aload_n j, 1)) (hi : (j : Nat) = i) (q : Nat) (hq : lv[q]? = some (i, .ref x)) {pc' : Nat} (hp : pc + 1 = pc') (k : evAt G M F pc' lv (.ref x :: st) S) : evAt G M F pc lv (st) S := by
  subst hp
  exact fun p e s m args below meth c H locs ls C h1 h2 h3 h4 h5 hl => lv_aload_n C.1 C.2.1 hd hi (lv_at hl q hq) (k p e s m args below meth c H locs ls C h1 h2 h3 h4 h5 hl)
theorem ea_aload {i : Nat} {x : Nat} (hd : decode M.2.1 pc = .ok (.aload i, 2)) (q : Nat) (hq : lv[q]? = some (i, .ref x)) {pc' : Nat} (hp : pc + 2 = pc') (k : evAt G M F pc' lv (.ref x :: st) S) : evAt G M F pc lv (st) S := by
  subst hp
  exact fun p e s m args below meth c H locs ls C h1 h2 h3 h4 h5 hl => lv_aload C.1 C.2.1 hd (lv_at hl q hq) (k p e s m args below meth c H locs ls C h1 h2 h3 h4 h5 hl)
theorem ea_astore_n {j : Fin 4} {i : Nat} {x : Nat} (hd : decode M.2.1 pc = .ok (.astore_n j, 1)) (hi : (j : Nat) = i) (hn : i < M.2.2.1) (hv : (i, Value.ref x) :: lv.filter (fun q => !(q.1 == i) && !(q.1 + 1 == i && q.2.category == 2)) = lv') {pc' : Nat} (hp : pc + 1 = pc') (k : evAt G M F pc' lv' st S) : evAt G M F pc lv (.ref x :: st) S := by
  subst hp
  exact fun p e s m args below meth c H locs ls C h1 h2 h3 h4 h5 hl => lv_astore_n C.1 C.2.1 hd hi hl hn hv (fun ls hl => (k p e s m args below meth c H locs ls C h1 h2 h3 h4 h5 hl))
theorem ea_astore {i : Nat} {x : Nat} (hd : decode M.2.1 pc = .ok (.astore i, 2)) (hn : i < M.2.2.1) (hv : (i, Value.ref x) :: lv.filter (fun q => !(q.1 == i) && !(q.1 + 1 == i && q.2.category == 2)) = lv') {pc' : Nat} (hp : pc + 2 = pc') (k : evAt G M F pc' lv' st S) : evAt G M F pc lv (.ref x :: st) S := by
  subst hp
  exact fun p e s m args below meth c H locs ls C h1 h2 h3 h4 h5 hl => lv_astore C.1 C.2.1 hd hl hn hv (fun ls hl => (k p e s m args below meth c H locs ls C h1 h2 h3 h4 h5 hl))
theorem ea_iinc {i q : Nat} {n : Int} {x v : Int32} (hd : decode M.2.1 pc = .ok (.iinc i n, 3)) (hq : lv[q]? = some (i, .int x)) (hv : x + Int32.ofInt n = v) (hn : i < M.2.2.1) (hl' : (i, Value.int v) :: lv.filter (fun q => !(q.1 == i) && !(q.1 + 1 == i && q.2.category == 2)) = lv') {pc' : Nat} (hp : pc + 3 = pc') (k : evAt G M F pc' lv' st S) : evAt G M F pc lv st S := by
  subst hp
  exact fun p e s m args below meth c H locs ls C h1 h2 h3 h4 h5 hl => lv_iinc C.1 C.2.1 hd hl hq hv hn hl' (fun ls hl => (k p e s m args below meth c H locs ls C h1 h2 h3 h4 h5 hl))
theorem ea_iadd {x y : Int32} (hd : decode M.2.1 pc = .ok (.iadd, 1))  {pc' : Nat} (hp : pc + 1 = pc') (k : evAt G M F pc' lv (.int (x + y) :: st) S) : evAt G M F pc lv (.int y :: .int x :: st) S := by
  subst hp
  exact fun p e s m args below meth c H locs ls C h1 h2 h3 h4 h5 hl => lv_iadd C.1 C.2.1 hd (k p e s m args below meth c H locs ls C h1 h2 h3 h4 h5 hl)
theorem ea_isub {x y : Int32} (hd : decode M.2.1 pc = .ok (.isub, 1))  {pc' : Nat} (hp : pc + 1 = pc') (k : evAt G M F pc' lv (.int (x - y) :: st) S) : evAt G M F pc lv (.int y :: .int x :: st) S := by
  subst hp
  exact fun p e s m args below meth c H locs ls C h1 h2 h3 h4 h5 hl => lv_isub C.1 C.2.1 hd (k p e s m args below meth c H locs ls C h1 h2 h3 h4 h5 hl)
theorem ea_imul {x y : Int32} (hd : decode M.2.1 pc = .ok (.imul, 1))  {pc' : Nat} (hp : pc + 1 = pc') (k : evAt G M F pc' lv (.int (x * y) :: st) S) : evAt G M F pc lv (.int y :: .int x :: st) S := by
  subst hp
  exact fun p e s m args below meth c H locs ls C h1 h2 h3 h4 h5 hl => lv_imul C.1 C.2.1 hd (k p e s m args below meth c H locs ls C h1 h2 h3 h4 h5 hl)
theorem ea_iand {x y : Int32} (hd : decode M.2.1 pc = .ok (.iand, 1))  {pc' : Nat} (hp : pc + 1 = pc') (k : evAt G M F pc' lv (.int (x &&& y) :: st) S) : evAt G M F pc lv (.int y :: .int x :: st) S := by
  subst hp
  exact fun p e s m args below meth c H locs ls C h1 h2 h3 h4 h5 hl => lv_iand C.1 C.2.1 hd (k p e s m args below meth c H locs ls C h1 h2 h3 h4 h5 hl)
theorem ea_ior {x y : Int32} (hd : decode M.2.1 pc = .ok (.ior, 1))  {pc' : Nat} (hp : pc + 1 = pc') (k : evAt G M F pc' lv (.int (x ||| y) :: st) S) : evAt G M F pc lv (.int y :: .int x :: st) S := by
  subst hp
  exact fun p e s m args below meth c H locs ls C h1 h2 h3 h4 h5 hl => lv_ior C.1 C.2.1 hd (k p e s m args below meth c H locs ls C h1 h2 h3 h4 h5 hl)
theorem ea_ixor {x y : Int32} (hd : decode M.2.1 pc = .ok (.ixor, 1))  {pc' : Nat} (hp : pc + 1 = pc') (k : evAt G M F pc' lv (.int (x ^^^ y) :: st) S) : evAt G M F pc lv (.int y :: .int x :: st) S := by
  subst hp
  exact fun p e s m args below meth c H locs ls C h1 h2 h3 h4 h5 hl => lv_ixor C.1 C.2.1 hd (k p e s m args below meth c H locs ls C h1 h2 h3 h4 h5 hl)
theorem ea_ishl {x y : Int32} (hd : decode M.2.1 pc = .ok (.ishl, 1))  {pc' : Nat} (hp : pc + 1 = pc') (k : evAt G M F pc' lv (.int (x <<< (y &&& 31)) :: st) S) : evAt G M F pc lv (.int y :: .int x :: st) S := by
  subst hp
  exact fun p e s m args below meth c H locs ls C h1 h2 h3 h4 h5 hl => lv_ishl C.1 C.2.1 hd (k p e s m args below meth c H locs ls C h1 h2 h3 h4 h5 hl)
theorem ea_ishr {x y : Int32} (hd : decode M.2.1 pc = .ok (.ishr, 1))  {pc' : Nat} (hp : pc + 1 = pc') (k : evAt G M F pc' lv (.int (x >>> (y &&& 31)) :: st) S) : evAt G M F pc lv (.int y :: .int x :: st) S := by
  subst hp
  exact fun p e s m args below meth c H locs ls C h1 h2 h3 h4 h5 hl => lv_ishr C.1 C.2.1 hd (k p e s m args below meth c H locs ls C h1 h2 h3 h4 h5 hl)
theorem ea_iushr {x y : Int32} (hd : decode M.2.1 pc = .ok (.iushr, 1))  {pc' : Nat} (hp : pc + 1 = pc') (k : evAt G M F pc' lv (.int ((x.toUInt32 >>> (y.toUInt32 &&& Int32.toUInt32 31)).toInt32) :: st) S) : evAt G M F pc lv (.int y :: .int x :: st) S := by
  subst hp
  exact fun p e s m args below meth c H locs ls C h1 h2 h3 h4 h5 hl => lv_iushr C.1 C.2.1 hd rfl (k p e s m args below meth c H locs ls C h1 h2 h3 h4 h5 hl)
theorem ea_idiv {x y : Int32} (hd : decode M.2.1 pc = .ok (.idiv, 1)) (hne : ¬ y = 0) {pc' : Nat} (hp : pc + 1 = pc') (k : evAt G M F pc' lv (.int (x / y) :: st) S) : evAt G M F pc lv (.int y :: .int x :: st) S := by
  subst hp
  exact fun p e s m args below meth c H locs ls C h1 h2 h3 h4 h5 hl => lv_idiv C.1 C.2.1 hd hne (k p e s m args below meth c H locs ls C h1 h2 h3 h4 h5 hl)
theorem ea_irem {x y : Int32} (hd : decode M.2.1 pc = .ok (.irem, 1)) (hne : ¬ y = 0) {pc' : Nat} (hp : pc + 1 = pc') (k : evAt G M F pc' lv (.int (x - x / y * y) :: st) S) : evAt G M F pc lv (.int y :: .int x :: st) S := by
  subst hp
  exact fun p e s m args below meth c H locs ls C h1 h2 h3 h4 h5 hl => lv_irem C.1 C.2.1 hd hne (k p e s m args below meth c H locs ls C h1 h2 h3 h4 h5 hl)
theorem ea_ineg {x : Int32} (hd : decode M.2.1 pc = .ok (.ineg, 1))  {pc' : Nat} (hp : pc + 1 = pc') (k : evAt G M F pc' lv (.int (-x) :: st) S) : evAt G M F pc lv (.int x :: st) S := by
  subst hp
  exact fun p e s m args below meth c H locs ls C h1 h2 h3 h4 h5 hl => lv_ineg C.1 C.2.1 hd (k p e s m args below meth c H locs ls C h1 h2 h3 h4 h5 hl)
theorem ea_lneg {x : Int64} (hd : decode M.2.1 pc = .ok (.lneg, 1))  {pc' : Nat} (hp : pc + 1 = pc') (k : evAt G M F pc' lv (.long (-x) :: st) S) : evAt G M F pc lv (.long x :: st) S := by
  subst hp
  exact fun p e s m args below meth c H locs ls C h1 h2 h3 h4 h5 hl => lv_lneg C.1 C.2.1 hd (k p e s m args below meth c H locs ls C h1 h2 h3 h4 h5 hl)
theorem ea_ladd {x y : Int64} (hd : decode M.2.1 pc = .ok (.ladd, 1))  {pc' : Nat} (hp : pc + 1 = pc') (k : evAt G M F pc' lv (.long (x + y) :: st) S) : evAt G M F pc lv (.long y :: .long x :: st) S := by
  subst hp
  exact fun p e s m args below meth c H locs ls C h1 h2 h3 h4 h5 hl => lv_ladd C.1 C.2.1 hd (k p e s m args below meth c H locs ls C h1 h2 h3 h4 h5 hl)
theorem ea_lsub {x y : Int64} (hd : decode M.2.1 pc = .ok (.lsub, 1))  {pc' : Nat} (hp : pc + 1 = pc') (k : evAt G M F pc' lv (.long (x - y) :: st) S) : evAt G M F pc lv (.long y :: .long x :: st) S := by
  subst hp
  exact fun p e s m args below meth c H locs ls C h1 h2 h3 h4 h5 hl => lv_lsub C.1 C.2.1 hd (k p e s m args below meth c H locs ls C h1 h2 h3 h4 h5 hl)
theorem ea_lmul {x y : Int64} (hd : decode M.2.1 pc = .ok (.lmul, 1))  {pc' : Nat} (hp : pc + 1 = pc') (k : evAt G M F pc' lv (.long (x * y) :: st) S) : evAt G M F pc lv (.long y :: .long x :: st) S := by
  subst hp
  exact fun p e s m args below meth c H locs ls C h1 h2 h3 h4 h5 hl => lv_lmul C.1 C.2.1 hd (k p e s m args below meth c H locs ls C h1 h2 h3 h4 h5 hl)
theorem ea_ldiv {x y : Int64} (hd : decode M.2.1 pc = .ok (.ldiv, 1)) (hne : ¬ y = 0) {pc' : Nat} (hp : pc + 1 = pc') (k : evAt G M F pc' lv (.long (x / y) :: st) S) : evAt G M F pc lv (.long y :: .long x :: st) S := by
  subst hp
  exact fun p e s m args below meth c H locs ls C h1 h2 h3 h4 h5 hl => lv_ldiv C.1 C.2.1 hd hne (k p e s m args below meth c H locs ls C h1 h2 h3 h4 h5 hl)
theorem ea_lrem {x y : Int64} (hd : decode M.2.1 pc = .ok (.lrem, 1)) (hne : ¬ y = 0) {pc' : Nat} (hp : pc + 1 = pc') (k : evAt G M F pc' lv (.long (x - x / y * y) :: st) S) : evAt G M F pc lv (.long y :: .long x :: st) S := by
  subst hp
  exact fun p e s m args below meth c H locs ls C h1 h2 h3 h4 h5 hl => lv_lrem C.1 C.2.1 hd hne (k p e s m args below meth c H locs ls C h1 h2 h3 h4 h5 hl)
theorem ea_i2l {x : Int32} (hd : decode M.2.1 pc = .ok (.i2l, 1))  {pc' : Nat} (hp : pc + 1 = pc') (k : evAt G M F pc' lv (.long x.toInt64 :: st) S) : evAt G M F pc lv (.int x :: st) S := by
  subst hp
  exact fun p e s m args below meth c H locs ls C h1 h2 h3 h4 h5 hl => lv_i2l C.1 C.2.1 hd rfl (k p e s m args below meth c H locs ls C h1 h2 h3 h4 h5 hl)
theorem ea_l2i {x : Int64} (hd : decode M.2.1 pc = .ok (.l2i, 1))  {pc' : Nat} (hp : pc + 1 = pc') (k : evAt G M F pc' lv (.int x.toInt32 :: st) S) : evAt G M F pc lv (.long x :: st) S := by
  subst hp
  exact fun p e s m args below meth c H locs ls C h1 h2 h3 h4 h5 hl => lv_l2i C.1 C.2.1 hd rfl (k p e s m args below meth c H locs ls C h1 h2 h3 h4 h5 hl)
theorem ea_dup {v : Value} (hd : decode M.2.1 pc = .ok (.dup, 1)) (hv : v.category = 1) {pc' : Nat} (hp : pc + 1 = pc') (k : evAt G M F pc' lv (v :: v :: st) S) : evAt G M F pc lv (v :: st) S := by
  subst hp
  exact fun p e s m args below meth c H locs ls C h1 h2 h3 h4 h5 hl => lv_dup C.1 C.2.1 hd hv (k p e s m args below meth c H locs ls C h1 h2 h3 h4 h5 hl)
theorem ea_dup2 {v w : Value} (hd : decode M.2.1 pc = .ok (.dup2, 1)) (hv : v.category = 1) (hw : w.category = 1) {pc' : Nat} (hp : pc + 1 = pc') (k : evAt G M F pc' lv (v :: w :: v :: w :: st) S) : evAt G M F pc lv (v :: w :: st) S := by
  subst hp
  exact fun p e s m args below meth c H locs ls C h1 h2 h3 h4 h5 hl => lv_dup2_11 C.1 C.2.1 hd hv hw (k p e s m args below meth c H locs ls C h1 h2 h3 h4 h5 hl)
theorem ea_pop {v : Value} (hd : decode M.2.1 pc = .ok (.pop, 1)) (hv : v.category = 1) {pc' : Nat} (hp : pc + 1 = pc') (k : evAt G M F pc' lv (st) S) : evAt G M F pc lv (v :: st) S := by
  subst hp
  exact fun p e s m args below meth c H locs ls C h1 h2 h3 h4 h5 hl => lv_pop C.1 C.2.1 hd hv (k p e s m args below meth c H locs ls C h1 h2 h3 h4 h5 hl)
theorem ea_if_eq {x : Int32} {off : Int} {tgt : Nat} (hd : decode M.2.1 pc = .ok (.ifCond .eq off, 3)) (ht : (pc : Int) + off = (tgt : Int)) {pc' : Nat} (hp : pc + 3 = pc') (kt : x = 0 → evAt G M F tgt lv st S) (kf : ¬ x = 0 → evAt G M F pc' lv st S) : evAt G M F pc lv (.int x :: st) S := by
  subst hp
  exact fun p e s m args below meth c H locs ls C h1 h2 h3 h4 h5 hl => lv_if_eq C.1 C.2.1 hd ht (fun hc => (kt hc p e s m args below meth c H locs ls C h1 h2 h3 h4 h5 hl)) (fun hc => (kf hc p e s m args below meth c H locs ls C h1 h2 h3 h4 h5 hl))
theorem ea_icmp_eq {x y : Int32} {off : Int} {tgt : Nat} (hd : decode M.2.1 pc = .ok (.if_icmp .eq off, 3)) (ht : (pc : Int) + off = (tgt : Int)) {pc' : Nat} (hp : pc + 3 = pc') (kt : x = y → evAt G M F tgt lv st S) (kf : ¬ x = y → evAt G M F pc' lv st S) : evAt G M F pc lv (.int y :: .int x :: st) S := by
  subst hp
  exact fun p e s m args below meth c H locs ls C h1 h2 h3 h4 h5 hl => lv_icmp_eq C.1 C.2.1 hd ht (fun hc => (kt hc p e s m args below meth c H locs ls C h1 h2 h3 h4 h5 hl)) (fun hc => (kf hc p e s m args below meth c H locs ls C h1 h2 h3 h4 h5 hl))
theorem ea_if_ne {x : Int32} {off : Int} {tgt : Nat} (hd : decode M.2.1 pc = .ok (.ifCond .ne off, 3)) (ht : (pc : Int) + off = (tgt : Int)) {pc' : Nat} (hp : pc + 3 = pc') (kt : ¬ x = 0 → evAt G M F tgt lv st S) (kf : x = 0 → evAt G M F pc' lv st S) : evAt G M F pc lv (.int x :: st) S := by
  subst hp
  exact fun p e s m args below meth c H locs ls C h1 h2 h3 h4 h5 hl => lv_if_ne C.1 C.2.1 hd ht (fun hc => (kt hc p e s m args below meth c H locs ls C h1 h2 h3 h4 h5 hl)) (fun hc => (kf hc p e s m args below meth c H locs ls C h1 h2 h3 h4 h5 hl))
theorem ea_icmp_ne {x y : Int32} {off : Int} {tgt : Nat} (hd : decode M.2.1 pc = .ok (.if_icmp .ne off, 3)) (ht : (pc : Int) + off = (tgt : Int)) {pc' : Nat} (hp : pc + 3 = pc') (kt : ¬ x = y → evAt G M F tgt lv st S) (kf : x = y → evAt G M F pc' lv st S) : evAt G M F pc lv (.int y :: .int x :: st) S := by
  subst hp
  exact fun p e s m args below meth c H locs ls C h1 h2 h3 h4 h5 hl => lv_icmp_ne C.1 C.2.1 hd ht (fun hc => (kt hc p e s m args below meth c H locs ls C h1 h2 h3 h4 h5 hl)) (fun hc => (kf hc p e s m args below meth c H locs ls C h1 h2 h3 h4 h5 hl))
theorem ea_if_lt {x : Int32} {off : Int} {tgt : Nat} (hd : decode M.2.1 pc = .ok (.ifCond .lt off, 3)) (ht : (pc : Int) + off = (tgt : Int)) {pc' : Nat} (hp : pc + 3 = pc') (kt : x < 0 → evAt G M F tgt lv st S) (kf : ¬ x < 0 → evAt G M F pc' lv st S) : evAt G M F pc lv (.int x :: st) S := by
  subst hp
  exact fun p e s m args below meth c H locs ls C h1 h2 h3 h4 h5 hl => lv_if_lt C.1 C.2.1 hd ht (fun hc => (kt hc p e s m args below meth c H locs ls C h1 h2 h3 h4 h5 hl)) (fun hc => (kf hc p e s m args below meth c H locs ls C h1 h2 h3 h4 h5 hl))
theorem ea_icmp_lt {x y : Int32} {off : Int} {tgt : Nat} (hd : decode M.2.1 pc = .ok (.if_icmp .lt off, 3)) (ht : (pc : Int) + off = (tgt : Int)) {pc' : Nat} (hp : pc + 3 = pc') (kt : x < y → evAt G M F tgt lv st S) (kf : ¬ x < y → evAt G M F pc' lv st S) : evAt G M F pc lv (.int y :: .int x :: st) S := by
  subst hp
  exact fun p e s m args below meth c H locs ls C h1 h2 h3 h4 h5 hl => lv_icmp_lt C.1 C.2.1 hd ht (fun hc => (kt hc p e s m args below meth c H locs ls C h1 h2 h3 h4 h5 hl)) (fun hc => (kf hc p e s m args below meth c H locs ls C h1 h2 h3 h4 h5 hl))
theorem ea_if_ge {x : Int32} {off : Int} {tgt : Nat} (hd : decode M.2.1 pc = .ok (.ifCond .ge off, 3)) (ht : (pc : Int) + off = (tgt : Int)) {pc' : Nat} (hp : pc + 3 = pc') (kt : 0 ≤ x → evAt G M F tgt lv st S) (kf : ¬ 0 ≤ x → evAt G M F pc' lv st S) : evAt G M F pc lv (.int x :: st) S := by
  subst hp
  exact fun p e s m args below meth c H locs ls C h1 h2 h3 h4 h5 hl => lv_if_ge C.1 C.2.1 hd ht (fun hc => (kt hc p e s m args below meth c H locs ls C h1 h2 h3 h4 h5 hl)) (fun hc => (kf hc p e s m args below meth c H locs ls C h1 h2 h3 h4 h5 hl))
theorem ea_icmp_ge {x y : Int32} {off : Int} {tgt : Nat} (hd : decode M.2.1 pc = .ok (.if_icmp .ge off, 3)) (ht : (pc : Int) + off = (tgt : Int)) {pc' : Nat} (hp : pc + 3 = pc') (kt : y ≤ x → evAt G M F tgt lv st S) (kf : ¬ y ≤ x → evAt G M F pc' lv st S) : evAt G M F pc lv (.int y :: .int x :: st) S := by
  subst hp
  exact fun p e s m args below meth c H locs ls C h1 h2 h3 h4 h5 hl => lv_icmp_ge C.1 C.2.1 hd ht (fun hc => (kt hc p e s m args below meth c H locs ls C h1 h2 h3 h4 h5 hl)) (fun hc => (kf hc p e s m args below meth c H locs ls C h1 h2 h3 h4 h5 hl))
theorem ea_if_gt {x : Int32} {off : Int} {tgt : Nat} (hd : decode M.2.1 pc = .ok (.ifCond .gt off, 3)) (ht : (pc : Int) + off = (tgt : Int)) {pc' : Nat} (hp : pc + 3 = pc') (kt : 0 < x → evAt G M F tgt lv st S) (kf : ¬ 0 < x → evAt G M F pc' lv st S) : evAt G M F pc lv (.int x :: st) S := by
  subst hp
  exact fun p e s m args below meth c H locs ls C h1 h2 h3 h4 h5 hl => lv_if_gt C.1 C.2.1 hd ht (fun hc => (kt hc p e s m args below meth c H locs ls C h1 h2 h3 h4 h5 hl)) (fun hc => (kf hc p e s m args below meth c H locs ls C h1 h2 h3 h4 h5 hl))
theorem ea_icmp_gt {x y : Int32} {off : Int} {tgt : Nat} (hd : decode M.2.1 pc = .ok (.if_icmp .gt off, 3)) (ht : (pc : Int) + off = (tgt : Int)) {pc' : Nat} (hp : pc + 3 = pc') (kt : y < x → evAt G M F tgt lv st S) (kf : ¬ y < x → evAt G M F pc' lv st S) : evAt G M F pc lv (.int y :: .int x :: st) S := by
  subst hp
  exact fun p e s m args below meth c H locs ls C h1 h2 h3 h4 h5 hl => lv_icmp_gt C.1 C.2.1 hd ht (fun hc => (kt hc p e s m args below meth c H locs ls C h1 h2 h3 h4 h5 hl)) (fun hc => (kf hc p e s m args below meth c H locs ls C h1 h2 h3 h4 h5 hl))
theorem ea_if_le {x : Int32} {off : Int} {tgt : Nat} (hd : decode M.2.1 pc = .ok (.ifCond .le off, 3)) (ht : (pc : Int) + off = (tgt : Int)) {pc' : Nat} (hp : pc + 3 = pc') (kt : x ≤ 0 → evAt G M F tgt lv st S) (kf : ¬ x ≤ 0 → evAt G M F pc' lv st S) : evAt G M F pc lv (.int x :: st) S := by
  subst hp
  exact fun p e s m args below meth c H locs ls C h1 h2 h3 h4 h5 hl => lv_if_le C.1 C.2.1 hd ht (fun hc => (kt hc p e s m args below meth c H locs ls C h1 h2 h3 h4 h5 hl)) (fun hc => (kf hc p e s m args below meth c H locs ls C h1 h2 h3 h4 h5 hl))
theorem ea_icmp_le {x y : Int32} {off : Int} {tgt : Nat} (hd : decode M.2.1 pc = .ok (.if_icmp .le off, 3)) (ht : (pc : Int) + off = (tgt : Int)) {pc' : Nat} (hp : pc + 3 = pc') (kt : x ≤ y → evAt G M F tgt lv st S) (kf : ¬ x ≤ y → evAt G M F pc' lv st S) : evAt G M F pc lv (.int y :: .int x :: st) S := by
  subst hp
  exact fun p e s m args below meth c H locs ls C h1 h2 h3 h4 h5 hl => lv_icmp_le C.1 C.2.1 hd ht (fun hc => (kt hc p e s m args below meth c H locs ls C h1 h2 h3 h4 h5 hl)) (fun hc => (kf hc p e s m args below meth c H locs ls C h1 h2 h3 h4 h5 hl))
theorem ev_lc (x y : Int64) : (y < x ∧ lg_cmp x y = 1) ∨ (x = y ∧ lg_cmp x y = 0) ∨ (x < y ∧ lg_cmp x y = -1) := by
  unfold lg_cmp
  by_cases h : x > y
  · exact Or.inl ⟨h, if_pos h⟩
  · by_cases h2 : x = y
    · exact Or.inr (Or.inl ⟨h2, by rw [if_neg h, if_pos h2]⟩)
    · refine Or.inr (Or.inr ⟨?_, by rw [if_neg h, if_neg h2]⟩)
      have h3 : ¬ y.toInt < x.toInt := fun q => h (Int64.lt_iff_toInt_lt.mpr q)
      have h4 : ¬ x.toInt = y.toInt := fun q => h2 (Int64.toInt_inj.mp q)
      exact Int64.lt_iff_toInt_lt.mpr (by omega)
theorem ev_lirr {x y : Int64} (h : x < y) : ¬ y < x ∧ ¬ x = y ∧ x ≤ y ∧ ¬ y ≤ x := by
  have h1 := Int64.lt_iff_toInt_lt.mp h
  refine ⟨fun q => ?_, fun q => ?_, Int64.le_iff_toInt_le.mpr (by omega), fun q => ?_⟩
  · have := Int64.lt_iff_toInt_lt.mp q; omega
  · rw [q] at h1; omega
  · have := Int64.le_iff_toInt_le.mp q; omega
theorem ev_lc_eq (x y : Int64) : ((lg_cmp x y) = 0) ↔ (x = y) := by
  rcases ev_lc x y with ⟨h, e⟩ | ⟨h, e⟩ | ⟨h, e⟩
  · rw [e]; have := ev_lirr h; simp [this, h]; (try decide); (try exact fun q => this.2.1 q.symm)
  · rw [e]; subst h; simp; try decide
  · rw [e]; have := ev_lirr h; simp [this, h]; try decide
theorem ea_lcmp_eq {x y : Int64} {off : Int} {tgt : Nat} (hd : decode M.2.1 pc = .ok (.lcmp, 1)) {pc1 : Nat} (hp1 : pc + 1 = pc1) (hd2 : decode M.2.1 pc1 = .ok (.ifCond .eq off, 3)) (ht : (pc1 : Int) + off = (tgt : Int)) {pc' : Nat} (hp : pc1 + 3 = pc') (kt : x = y → evAt G M F tgt lv st S) (kf : ¬ x = y → evAt G M F pc' lv st S) : evAt G M F pc lv (.long y :: .long x :: st) S := by
  subst hp1
  subst hp
  exact fun p e s m args below meth c H locs ls C h1 h2 h3 h4 h5 hl => W.lcmp C.1 C.2.1 hd (lv_if_eq C.1 C.2.1 hd2 ht (fun hc => (kt ((ev_lc_eq x y).mp hc) p e s m args below meth c H locs ls C h1 h2 h3 h4 h5 hl)) (fun hc => (kf (fun q => hc ((ev_lc_eq x y).mpr q)) p e s m args below meth c H locs ls C h1 h2 h3 h4 h5 hl)))
theorem ev_lc_ne (x y : Int64) : (¬ (lg_cmp x y) = 0) ↔ (¬ x = y) := by
  rcases ev_lc x y with ⟨h, e⟩ | ⟨h, e⟩ | ⟨h, e⟩
  · rw [e]; have := ev_lirr h; simp [this, h]; (try decide); (try exact fun q => this.2.1 q.symm)
  · rw [e]; subst h; simp; try decide
  · rw [e]; have := ev_lirr h; simp [this, h]; try decide
theorem ea_lcmp_ne {x y : Int64} {off : Int} {tgt : Nat} (hd : decode M.2.1 pc = .ok (.lcmp, 1)) {pc1 : Nat} (hp1 : pc + 1 = pc1) (hd2 : decode M.2.1 pc1 = .ok (.ifCond .ne off, 3)) (ht : (pc1 : Int) + off = (tgt : Int)) {pc' : Nat} (hp : pc1 + 3 = pc') (kt : ¬ x = y → evAt G M F tgt lv st S) (kf : x = y → evAt G M F pc' lv st S) : evAt G M F pc lv (.long y :: .long x :: st) S := by
  subst hp1
  subst hp
  exact fun p e s m args below meth c H locs ls C h1 h2 h3 h4 h5 hl => W.lcmp C.1 C.2.1 hd (lv_if_ne C.1 C.2.1 hd2 ht (fun hc => (kt ((ev_lc_ne x y).mp hc) p e s m args below meth c H locs ls C h1 h2 h3 h4 h5 hl)) (fun hc => (kf (Classical.not_not.mp (fun q => (ev_lc_ne x y).mpr q hc)) p e s m args below meth c H locs ls C h1 h2 h3 h4 h5 hl)))
theorem ev_lc_lt (x y : Int64) : ((lg_cmp x y) < 0) ↔ (x < y) := by
  rcases ev_lc x y with ⟨h, e⟩ | ⟨h, e⟩ | ⟨h, e⟩
  · rw [e]; have := ev_lirr h; simp [this, h]; (try decide); (try exact fun q => this.2.1 q.symm)
  · rw [e]; subst h; simp; try decide
  · rw [e]; have := ev_lirr h; simp [this, h]; try decide
theorem ea_lcmp_lt {x y : Int64} {off : Int} {tgt : Nat} (hd : decode M.2.1 pc = .ok (.lcmp, 1)) {pc1 : Nat} (hp1 : pc + 1 = pc1) (hd2 : decode M.2.1 pc1 = .ok (.ifCond .lt off, 3)) (ht : (pc1 : Int) + off = (tgt : Int)) {pc' : Nat} (hp : pc1 + 3 = pc') (kt : x < y → evAt G M F tgt lv st S) (kf : ¬ x < y → evAt G M F pc' lv st S) : evAt G M F pc lv (.long y :: .long x :: st) S := by
  subst hp1
  subst hp
  exact fun p e s m args below meth c H locs ls C h1 h2 h3 h4 h5 hl => W.lcmp C.1 C.2.1 hd (lv_if_lt C.1 C.2.1 hd2 ht (fun hc => (kt ((ev_lc_lt x y).mp hc) p e s m args below meth c H locs ls C h1 h2 h3 h4 h5 hl)) (fun hc => (kf (fun q => hc ((ev_lc_lt x y).mpr q)) p e s m args below meth c H locs ls C h1 h2 h3 h4 h5 hl)))
theorem ev_lc_ge (x y : Int64) : (0 ≤ (lg_cmp x y)) ↔ (y ≤ x) := by
  rcases ev_lc x y with ⟨h, e⟩ | ⟨h, e⟩ | ⟨h, e⟩
  · rw [e]; have := ev_lirr h; simp [this, h]; (try decide); (try exact fun q => this.2.1 q.symm)
  · rw [e]; subst h; simp; try decide
  · rw [e]; have := ev_lirr h; simp [this, h]; try decide
theorem ea_lcmp_ge {x y : Int64} {off : Int} {tgt : Nat} (hd : decode M.2.1 pc = .ok (.lcmp, 1)) {pc1 : Nat} (hp1 : pc + 1 = pc1) (hd2 : decode M.2.1 pc1 = .ok (.ifCond .ge off, 3)) (ht : (pc1 : Int) + off = (tgt : Int)) {pc' : Nat} (hp : pc1 + 3 = pc') (kt : y ≤ x → evAt G M F tgt lv st S) (kf : ¬ y ≤ x → evAt G M F pc' lv st S) : evAt G M F pc lv (.long y :: .long x :: st) S := by
  subst hp1
  subst hp
  exact fun p e s m args below meth c H locs ls C h1 h2 h3 h4 h5 hl => W.lcmp C.1 C.2.1 hd (lv_if_ge C.1 C.2.1 hd2 ht (fun hc => (kt ((ev_lc_ge x y).mp hc) p e s m args below meth c H locs ls C h1 h2 h3 h4 h5 hl)) (fun hc => (kf (fun q => hc ((ev_lc_ge x y).mpr q)) p e s m args below meth c H locs ls C h1 h2 h3 h4 h5 hl)))
theorem ev_lc_gt (x y : Int64) : (0 < (lg_cmp x y)) ↔ (y < x) := by
  rcases ev_lc x y with ⟨h, e⟩ | ⟨h, e⟩ | ⟨h, e⟩
  · rw [e]; have := ev_lirr h; simp [this, h]; (try decide); (try exact fun q => this.2.1 q.symm)
  · rw [e]; subst h; simp; try decide
  · rw [e]; have := ev_lirr h; simp [this, h]; try decide
theorem ea_lcmp_gt {x y : Int64} {off : Int} {tgt : Nat} (hd : decode M.2.1 pc = .ok (.lcmp, 1)) {pc1 : Nat} (hp1 : pc + 1 = pc1) (hd2 : decode M.2.1 pc1 = .ok (.ifCond .gt off, 3)) (ht : (pc1 : Int) + off = (tgt : Int)) {pc' : Nat} (hp : pc1 + 3 = pc') (kt : y < x → evAt G M F tgt lv st S) (kf : ¬ y < x → evAt G M F pc' lv st S) : evAt G M F pc lv (.long y :: .long x :: st) S := by
  subst hp1
  subst hp
  exact fun p e s m args below meth c H locs ls C h1 h2 h3 h4 h5 hl => W.lcmp C.1 C.2.1 hd (lv_if_gt C.1 C.2.1 hd2 ht (fun hc => (kt ((ev_lc_gt x y).mp hc) p e s m args below meth c H locs ls C h1 h2 h3 h4 h5 hl)) (fun hc => (kf (fun q => hc ((ev_lc_gt x y).mpr q)) p e s m args below meth c H locs ls C h1 h2 h3 h4 h5 hl)))
theorem ev_lc_le (x y : Int64) : ((lg_cmp x y) ≤ 0) ↔ (x ≤ y) := by
  rcases ev_lc x y with ⟨h, e⟩ | ⟨h, e⟩ | ⟨h, e⟩
  · rw [e]; have := ev_lirr h; simp [this, h]; (try decide); (try exact fun q => this.2.1 q.symm)
  · rw [e]; subst h; simp; try decide
  · rw [e]; have := ev_lirr h; simp [this, h]; try decide
theorem ea_lcmp_le {x y : Int64} {off : Int} {tgt : Nat} (hd : decode M.2.1 pc = .ok (.lcmp, 1)) {pc1 : Nat} (hp1 : pc + 1 = pc1) (hd2 : decode M.2.1 pc1 = .ok (.ifCond .le off, 3)) (ht : (pc1 : Int) + off = (tgt : Int)) {pc' : Nat} (hp : pc1 + 3 = pc') (kt : x ≤ y → evAt G M F tgt lv st S) (kf : ¬ x ≤ y → evAt G M F pc' lv st S) : evAt G M F pc lv (.long y :: .long x :: st) S := by
  subst hp1
  subst hp
  exact fun p e s m args below meth c H locs ls C h1 h2 h3 h4 h5 hl => W.lcmp C.1 C.2.1 hd (lv_if_le C.1 C.2.1 hd2 ht (fun hc => (kt ((ev_lc_le x y).mp hc) p e s m args below meth c H locs ls C h1 h2 h3 h4 h5 hl)) (fun hc => (kf (fun q => hc ((ev_lc_le x y).mpr q)) p e s m args below meth c H locs ls C h1 h2 h3 h4 h5 hl)))
theorem ea_goto {off : Int} {tgt : Nat} (hd : decode M.2.1 pc = .ok (.goto off, 3)) (ht : (pc : Int) + off = (tgt : Int)) (k : evAt G M F tgt lv st S) : evAt G M F pc lv st S :=
  fun p e s m args below meth c H locs ls C h1 h2 h3 h4 h5 hl => lv_goto C.1 C.2.1 hd ht (k p e s m args below meth c H locs ls C h1 h2 h3 h4 h5 hl)
theorem ea_table {dflt lo hi : Int} {offs : Array Int} {len n tgd : Nat} {x : Int32} (tg : Nat → Nat) (hd : decode M.2.1 pc = .ok (.tableswitch dflt lo hi offs, len)) (hn : hi + 1 = lo + n) (hin : ∀ j, j < n → (offs[j]?).map (fun off => (pc : Int) + off) = some ((tg j : Nat) : Int)) (ht : (pc : Int) + dflt = (tgd : Int))
    (k : ∀ j : Nat, j < n → x.toInt = lo + j → evAt G M F (tg j) lv st S) (ko : (x.toInt < lo ∨ hi < x.toInt) → evAt G M F tgd lv st S) : evAt G M F pc lv (.int x :: st) S := by
  intro p e s m args below meth c H locs ls C h1 h2 h3 h4 h5 hl
  by_cases h : x.toInt < lo ∨ hi < x.toInt
  · exact lv_tableOut C.1 C.2.1 hd h ht (ko h p e s m args below meth c H locs ls C h1 h2 h3 h4 h5 hl)
  · have ha : ¬ x.toInt < lo := fun q => h (Or.inl q)
    have hb : ¬ hi < x.toInt := fun q => h (Or.inr q)
    have hj : (x.toInt - lo).toNat < n := by omega
    have h7 := hin _ hj
    cases ho : offs[(x.toInt - lo).toNat]? with
    | none => rw [ho] at h7; cases h7
    | some off =>
      rw [ho] at h7
      exact lv_tableIn C.1 C.2.1 hd ha hb ho (Option.some.inj h7) (k _ hj (by omega) p e s m args below meth c H locs ls C h1 h2 h3 h4 h5 hl)
theorem ea_iret {v : Int32} (hr : M.2.2.2 = some .int) (hd : decode M.2.1 pc = .ok (.ireturn, 1)) (hq : Q (some (.int v)) S) : evAt G M (evFm G d Q) pc lv [.int v] S :=
  fun p e s m args below meth c H locs ls C h1 h2 h3 h4 h5 hl => W.iret (v := v) C.1 C.2.1 (C.2.2.2.2.2.1.trans hr) (fun t ht _ => ⟨⟨_, S, rfl, hq, by rw [ht]; exact h3, h4⟩, h5.F ht⟩) h5.2.2 hd C.2.2.2.2.2.2
theorem ea_zret {v : Int32} (hr : M.2.2.2 = some .boolean) (hd : decode M.2.1 pc = .ok (.ireturn, 1)) (hv : v = 0 ∨ v = 1) (hq : Q (some (.int v)) S) : evAt G M (evFm G d Q) pc lv [.int v] S :=
  fun p e s m args below meth c H locs ls C h1 h2 h3 h4 h5 hl => W.zret (v := v) C.1 C.2.1 (C.2.2.2.2.2.1.trans hr) (by rcases hv with rfl | rfl <;> decide +kernel) (fun t ht _ => ⟨⟨_, S, rfl, hq, by rw [ht]; exact h3, h4⟩, h5.F ht⟩) h5.2.2 hd C.2.2.2.2.2.2
theorem ea_lret {v : Int64} (hr : M.2.2.2 = some .long) (hd : decode M.2.1 pc = .ok (.lreturn, 1)) (hq : Q (some (.long v)) S) : evAt G M (evFm G d Q) pc lv [.long v] S :=
  fun p e s m args below meth c H locs ls C h1 h2 h3 h4 h5 hl => W.lret (v := v) C.1 C.2.1 (C.2.2.2.2.2.1.trans hr) (fun t ht _ => ⟨⟨_, S, rfl, hq, by rw [ht]; exact h3, h4⟩, h5.F ht⟩) h5.2.2 hd C.2.2.2.2.2.2
theorem ea_vret (hr : M.2.2.2 = none) (hd : decode M.2.1 pc = .ok (.return_, 1)) (hq : Q none S) : evAt G M (evFm G d Q) pc lv [] S :=
  fun p e s m args below meth c H locs ls C h1 h2 h3 h4 h5 hl => W.vret C.1 C.2.1 (C.2.2.2.2.2.1.trans hr) (fun t ht _ => ⟨⟨_, S, rfl, hq, by rw [ht]; exact h3, h4⟩, h5.F ht⟩) h5.2.2 hd C.2.2.2.2.2.2
theorem ea_aret {a : Nat} {n : String} (hr : M.2.2.2 = some (.object n)) (hd : decode M.2.1 pc = .ok (.areturn, 1)) (hq : Q (some (.ref a)) S) : evAt G M (evFm G d Q) pc lv [.ref a] S :=
  fun p e s m args below meth c H locs ls C h1 h2 h3 h4 h5 hl => W.aret (v := .ref a) C.1 C.2.1 (C.2.2.2.2.2.1.trans hr) (Or.inl ⟨_, rfl⟩) (Or.inr ⟨_, rfl⟩) (fun t ht _ => ⟨⟨_, S, rfl, hq, by rw [ht]; exact h3, h4⟩, h5.F ht⟩) h5.2.2 hd C.2.2.2.2.2.2
-- the heap
theorem ea_geti {idx kd x kf : Nat} (ok : evKOk kd) (hV : (kd, x) ∈ evKs G) (hk : kf < evN kd) (hr : evR kd kf = none) (hw : evFL M.1 idx kd kf) (hd : decode M.2.1 pc = .ok (.getfield idx, 3)) {pc' : Nat} (hp : pc + 3 = pc')
    (k : evAt G M F pc' lv (.int (S.1 kd x kf) :: st) S) : evAt G M F pc lv (.ref (evad G kd x) :: st) S := by
  subst hp
  intro p e s m args below meth c H locs ls C h1 h2 h3 h4 h5 hl
  obtain ⟨q0, h0⟩ := List.getElem?_of_mem hV
  obtain ⟨o1, o2, o3, o4, o5, o6⟩ := ok
  have he := evw_at (S := S) h0
  have hc : evc (evca G) (evad G) S kd x = .inr (evC kd, (List.range (evN kd)).map (evf (evad G) S kd x)) := by simp only [evc, o1]
  rw [hc] at he
  exact va_get (D := evD G) (C := (evQ kd).1) (T := (evQ kd).2.1) (N := (evQ kd).2.2) C.1 C.2.1 C.2.2.2.2.1 o3 C.2.2.2.1 h1.1 h3 q0 he o2 kf (by rw [← o6]; exact hk) (C.2.2.2.2.1 _ hw) (fun _ h9 => h9) (v := .int (S.1 kd x kf)) (by simp [hk, evf, hr]) hd (k p e s m args below meth c H locs ls C h1 h2 h3 h4 h5 hl)
theorem ea_getr {idx kd x kf k2 : Nat} (ok : evKOk kd) (hV : (kd, x) ∈ evKs G) (hk : kf < evN kd) (hr : evR kd kf = some k2) (hw : evFL M.1 idx kd kf) {x2 : Nat} (hx : evX kd kf x = x2) (hd : decode M.2.1 pc = .ok (.getfield idx, 3)) {pc' : Nat} (hp : pc + 3 = pc')
    (k : evAt G M F pc' lv (.ref (evad G k2 x2) :: st) S) : evAt G M F pc lv (.ref (evad G kd x) :: st) S := by
  subst hp
  subst hx
  intro p e s m args below meth c H locs ls C h1 h2 h3 h4 h5 hl
  obtain ⟨q0, h0⟩ := List.getElem?_of_mem hV
  obtain ⟨o1, o2, o3, o4, o5, o6⟩ := ok
  have he := evw_at (S := S) h0
  have hc : evc (evca G) (evad G) S kd x = .inr (evC kd, (List.range (evN kd)).map (evf (evad G) S kd x)) := by simp only [evc, o1]
  rw [hc] at he
  exact va_get (D := evD G) (C := (evQ kd).1) (T := (evQ kd).2.1) (N := (evQ kd).2.2) C.1 C.2.1 C.2.2.2.2.1 o3 C.2.2.2.1 h1.1 h3 q0 he o2 kf (by rw [← o6]; exact hk) (C.2.2.2.2.1 _ hw) (fun _ h9 => h9) (v := .ref (evad G k2 (evX kd kf x))) (by simp [hk, evf, hr]) hd (k p e s m args below meth c H locs ls C h1 h2 h3 h4 h5 hl)
theorem ea_getrN {idx kd x kf k2 : Nat} {host : String} (ok : evKOk kd) (hV : (kd, x) ∈ evKs G) (hk : kf < evN kd) (hr : evR kd kf = some k2) (hw : Cond.fieldLinkNest M.1 idx ((evQ kd).2.1 kf).1 ((evQ kd).2.1 kf).2.1 ((evQ kd).2.1 kf).2.2.1 host = evNF) {x2 : Nat} (hx : evX kd kf x = x2) (hd : decode M.2.1 pc = .ok (.getfield idx, 3)) {pc' : Nat} (hp : pc + 3 = pc')
    (k : evAt G M F pc' lv (.ref (evad G k2 x2) :: st) S) : evAt G M F pc lv (.ref (evad G kd x) :: st) S := by
  subst hp
  subst hx
  intro p e s m args below meth c H locs ls C h1 h2 h3 h4 h5 hl
  obtain ⟨q0, h0⟩ := List.getElem?_of_mem hV
  obtain ⟨o1, o2, o3, o4, o5, o6⟩ := ok
  have he := evw_at (S := S) h0
  have hc : evc (evca G) (evad G) S kd x = .inr (evC kd, (List.range (evN kd)).map (evf (evad G) S kd x)) := by simp only [evc, o1]
  rw [hc] at he
  exact va_getN (D := evD G) (C := (evQ kd).1) (T := (evQ kd).2.1) (N := (evQ kd).2.2) C.1 C.2.1 C.2.2.2.2.1 o3 C.2.2.2.1 h1.1 h3 q0 he o2 kf (by rw [← o6]; exact hk) (by rw [hw]; exact va_Nw.use rfl h1.2) (fun _ h9 => h9) (v := .ref (evad G k2 (evX kd kf x))) (by simp [hk, evf, hr]) hd (k p e s m args below meth c H locs ls C h1 h2 h3 h4 h5 hl)
theorem ea_putf {idx kd x kf : Nat} {v : Int32} (ok : evKOk kd) (hV : (kd, x) ∈ evKs G) (hk : kf < evN kd) (hr : evR kd kf = none) (hw : evFL M.1 idx kd kf) (hfin : ((evQ kd).2.1 kf).2.2.2 = false) {ty : FieldType} (hty : evY kd kf = ty) (hn : narrow ty (.int v) = .int v) (hfit : fits ty (.int v) = true) (hd : decode M.2.1 pc = .ok (.putfield idx, 3)) {pc' : Nat} (hp : pc + 3 = pc')
    (k : evAt G M F pc' lv st (evup S kd x kf v)) : evAt G M F pc lv (.int v :: .ref (evad G kd x) :: st) S := by
  subst hp
  intro p e s m args below meth c H locs ls C h1 h2 h3 h4 h5 hl
  obtain ⟨q0, h0⟩ := List.getElem?_of_mem hV
  obtain ⟨o1, o2, o3, o4, o5, o6⟩ := ok
  have he := evw_at (S := S) h0
  have hc : ∀ S : evS, evc (evca G) (evad G) S kd x = .inr (evC kd, (List.range (evN kd)).map (evf (evad G) S kd x)) := fun S => by simp only [evc, o1]
  rw [hc] at he
  have hD0 := h4
  refine va_put (D := evD G) (C := (evQ kd).1) (T := (evQ kd).2.1) (N := (evQ kd).2.2) C.1 C.2.1 C.2.2.2.2.1 o3 (evY kd) o4 o5 C.2.2.2.1 h1.1 h3 h4 h5 q0 he o2 kf (by rw [← o6]; exact hk) (C.2.2.2.2.1 _ hw) (fun _ h9 => h9) hfin (ty := ty) (v := .int v) (by rw [← hty]; exact o4 kf (by rw [← o6]; exact hk)) hn hfit (by simpa using hk) hd (fun H locs h3 h4 h5 => ?_)
  have e1 : (evw G S).set q0 (evad G kd x, .inr (evC kd, ((List.range (evN kd)).map (evf (evad G) S kd x)).set kf (.int v))) = evw G (evup S kd x kf v) := by
    refine evw_set hD0 h0 ?_ (fun a b h => evc_up (evup_ne h) rfl)
    rw [hc, evmap_set (g := evf (evad G) (evup S kd x kf v) kd x) hk]
    · simp [evf, hr, evup]
    · intro j hj
      unfold evf
      cases evR kd j <;> simp [evup, hj]
  rw [e1] at h3 h4
  exact (k p e s m args below meth c H locs ls C h1 h2 h3 h4 h5 hl)
theorem ea_puti {idx kd x kf : Nat} {v : Int32} (ok : evKOk kd) (hV : (kd, x) ∈ evKs G) (hk : kf < evN kd) (hr : evR kd kf = none) (hw : evFL M.1 idx kd kf) (hfin : ((evQ kd).2.1 kf).2.2.2 = false) (hty : evY kd kf = .int) (hd : decode M.2.1 pc = .ok (.putfield idx, 3)) {pc' : Nat} (hp : pc + 3 = pc')
    (k : evAt G M F pc' lv st (evup S kd x kf v)) : evAt G M F pc lv (.int v :: .ref (evad G kd x) :: st) S := ea_putf ok hV hk hr hw hfin hty rfl rfl hd hp k
theorem ea_putz {idx kd x kf : Nat} {v : Int32} (ok : evKOk kd) (hV : (kd, x) ∈ evKs G) (hk : kf < evN kd) (hr : evR kd kf = none) (hw : evFL M.1 idx kd kf) (hfin : ((evQ kd).2.1 kf).2.2.2 = false) (hty : evY kd kf = .boolean) (hv : v = 0 ∨ v = 1) (hd : decode M.2.1 pc = .ok (.putfield idx, 3)) {pc' : Nat} (hp : pc + 3 = pc')
    (k : evAt G M F pc' lv st (evup S kd x kf v)) : evAt G M F pc lv (.int v :: .ref (evad G kd x) :: st) S := ea_putf ok hV hk hr hw hfin hty (by rcases hv with rfl | rfl <;> decide +kernel) (by rcases hv with rfl | rfl <;> decide +kernel) hd hp k
theorem ea_iald {kd x : Nat} {i : Int32} (hV : (kd, x) ∈ evKs G) (hT : evT kd = 1) (hin : vp_in i (evN kd)) (hd : decode M.2.1 pc = .ok (.iaload, 1)) {j : Nat} (hj : i.toNatClampNeg = j) {pc' : Nat} (hp : pc + 1 = pc')
    (k : evAt G M F pc' lv (.int (S.1 kd x j) :: st) S) : evAt G M F pc lv (.int i :: .ref (evad G kd x) :: st) S := by
  subst hp
  subst hj
  intro p e s m args below meth c H locs ls C h1 h2 h3 h4 h5 hl
  obtain ⟨q0, h0⟩ := List.getElem?_of_mem hV
  have he := evw_at (S := S) h0
  have hc : evc (evca G) (evad G) S kd x = .inl (evca G 0, evN kd, .inl (S.1 kd x)) := by simp only [evc, hT]
  rw [hc] at he
  exact va_iald C.1 C.2.1 h1.1 h3 q0 0 he rfl hin hd (k p e s m args below meth c H locs ls C h1 h2 h3 h4 h5 hl)
theorem ea_lald {kd x : Nat} {i : Int32} (hV : (kd, x) ∈ evKs G) (hT : evT kd = 2) (hin : vp_in i (evN kd)) (hd : decode M.2.1 pc = .ok (.laload, 1)) {j : Nat} (hj : i.toNatClampNeg = j) {pc' : Nat} (hp : pc + 1 = pc')
    (k : evAt G M F pc' lv (.long (S.2 kd x j) :: st) S) : evAt G M F pc lv (.int i :: .ref (evad G kd x) :: st) S := by
  subst hp
  subst hj
  intro p e s m args below meth c H locs ls C h1 h2 h3 h4 h5 hl
  obtain ⟨q0, h0⟩ := List.getElem?_of_mem hV
  have he := evw_at (S := S) h0
  have hc : evc (evca G) (evad G) S kd x = .inl (evca G 1, evN kd, .inr (.inl (S.2 kd x))) := by simp only [evc, hT]
  rw [hc] at he
  exact va_lald C.1 C.2.1 h1.1 h3 q0 1 he rfl hin hd (k p e s m args below meth c H locs ls C h1 h2 h3 h4 h5 hl)
theorem ea_zald {kd x : Nat} {i : Int32} (hV : (kd, x) ∈ evKs G) (hT : evT kd = 3) (hin : vp_in i (evN kd)) (hd : decode M.2.1 pc = .ok (.baload, 1)) {j : Nat} (hj : i.toNatClampNeg = j) {pc' : Nat} (hp : pc + 1 = pc')
    (k : evAt G M F pc' lv (.int (S.1 kd x j) :: st) S) : evAt G M F pc lv (.int i :: .ref (evad G kd x) :: st) S := by
  subst hp
  subst hj
  intro p e s m args below meth c H locs ls C h1 h2 h3 h4 h5 hl
  obtain ⟨q0, h0⟩ := List.getElem?_of_mem hV
  have he := evw_at (S := S) h0
  have hc : evc (evca G) (evad G) S kd x = .inl (evca G 2, evN kd, .inl (S.1 kd x)) := by simp only [evc, hT]
  rw [hc] at he
  exact va_zald C.1 C.2.1 h1.1 h3 q0 2 he rfl hin hd (k p e s m args below meth c H locs ls C h1 h2 h3 h4 h5 hl)
theorem ea_aald {kd x t0 : Nat} {i : Int32} {cn : String} (hV : (kd, x) ∈ evKs G) (hT : evT kd = 4) (ht : (evtys (evca G))[t0]? = some (evca G (evA kd), .object cn)) (hin : vp_in i (evN kd)) (hd : decode M.2.1 pc = .ok (.aaload, 1)) {j : Nat} (hj : i.toNatClampNeg = j) {x2 : Nat} (hx : evEX kd x j = x2) {k2 : Nat} (hk2 : evE kd = k2) {pc' : Nat} (hp : pc + 1 = pc')
    (k : evAt G M F pc' lv (.ref (evad G k2 x2) :: st) S) : evAt G M F pc lv (.int i :: .ref (evad G kd x) :: st) S := by
  subst hp
  subst hx
  subst hk2
  subst hj
  intro p e s m args below meth c H locs ls C h1 h2 h3 h4 h5 hl
  obtain ⟨q0, h0⟩ := List.getElem?_of_mem hV
  have he := evw_at (S := S) h0
  have hc : evc (evca G) (evad G) S kd x = .inl (evca G (evA kd), evN kd, .inr (.inr (.inr (.inr (fun i => some (evad G (evE kd) (evEX kd x i))))))) := by simp only [evc, hT]
  rw [hc] at he
  exact va_aldq C.1 C.2.1 h1.1 h3 q0 t0 he ht hin hd (k p e s m args below meth c H locs ls C h1 h2 h3 h4 h5 hl)
theorem ea_iast {kd x : Nat} {i v : Int32} (hV : (kd, x) ∈ evKs G) (hT : evT kd = 1) (hin : vp_in i (evN kd)) (hd : decode M.2.1 pc = .ok (.iastore, 1)) {j : Nat} (hj : i.toNatClampNeg = j) {pc' : Nat} (hp : pc + 1 = pc')
    (k : evAt G M F pc' lv st (evup S kd x j v)) : evAt G M F pc lv (.int v :: .int i :: .ref (evad G kd x) :: st) S := by
  subst hp
  subst hj
  intro p e s m args below meth c H locs ls C h1 h2 h3 h4 h5 hl
  obtain ⟨q0, h0⟩ := List.getElem?_of_mem hV
  have he := evw_at (S := S) h0
  have hc : ∀ S : evS, evc (evca G) (evad G) S kd x = .inl (evca G 0, evN kd, .inl (S.1 kd x)) := fun S => by simp only [evc, hT]
  rw [hc] at he
  have hD0 := h4
  refine va_iast C.1 C.2.1 h1.1 h3 h4 h5 q0 0 he rfl hin hd (fun H locs h3 h4 h5 => ?_)
  have e1 : (evw G S).set q0 (evad G kd x, .inl (evca G 0, evN kd, .inl (upd (S.1 kd x) i.toNatClampNeg v))) = evw G (evup S kd x i.toNatClampNeg v) := by
    refine evw_set hD0 h0 ?_ (fun a b h => evc_up (evup_ne h) rfl)
    rw [hc, show (evup S kd x i.toNatClampNeg v).1 kd x = upd (S.1 kd x) i.toNatClampNeg v from by funext j; simp [evup, upd]]
  rw [e1] at h3 h4
  exact (k p e s m args below meth c H locs ls C h1 h2 h3 h4 h5 hl)
theorem ea_last {kd x : Nat} {i : Int32} {v : Int64} (hV : (kd, x) ∈ evKs G) (hT : evT kd = 2) (hin : vp_in i (evN kd)) (hd : decode M.2.1 pc = .ok (.lastore, 1)) {j : Nat} (hj : i.toNatClampNeg = j) {pc' : Nat} (hp : pc + 1 = pc')
    (k : evAt G M F pc' lv st (evupL S kd x j v)) : evAt G M F pc lv (.long v :: .int i :: .ref (evad G kd x) :: st) S := by
  subst hp
  subst hj
  intro p e s m args below meth c H locs ls C h1 h2 h3 h4 h5 hl
  obtain ⟨q0, h0⟩ := List.getElem?_of_mem hV
  have he := evw_at (S := S) h0
  have hc : ∀ S : evS, evc (evca G) (evad G) S kd x = .inl (evca G 1, evN kd, .inr (.inl (S.2 kd x))) := fun S => by simp only [evc, hT]
  rw [hc] at he
  have hD0 := h4
  refine va_last C.1 C.2.1 h1.1 h3 h4 h5 q0 1 he rfl hin hd (fun H locs h3 h4 h5 => ?_)
  have e1 : (evw G S).set q0 (evad G kd x, .inl (evca G 1, evN kd, .inr (.inl (vp_updL (S.2 kd x) i.toNatClampNeg v)))) = evw G (evupL S kd x i.toNatClampNeg v) := by
    refine evw_set hD0 h0 ?_ (fun a b h => evc_up rfl (evupL_ne h))
    rw [hc, show (evupL S kd x i.toNatClampNeg v).2 kd x = vp_updL (S.2 kd x) i.toNatClampNeg v from by funext j; simp [evupL, vp_updL]]
  rw [e1] at h3 h4
  exact (k p e s m args below meth c H locs ls C h1 h2 h3 h4 h5 hl)
theorem ea_zast {kd x : Nat} {i v : Int32} (hV : (kd, x) ∈ evKs G) (hT : evT kd = 3) (hv : v = 0 ∨ v = 1) (hin : vp_in i (evN kd)) (hd : decode M.2.1 pc = .ok (.bastore, 1)) {j : Nat} (hj : i.toNatClampNeg = j) {pc' : Nat} (hp : pc + 1 = pc')
    (k : evAt G M F pc' lv st (evup S kd x j v)) : evAt G M F pc lv (.int v :: .int i :: .ref (evad G kd x) :: st) S := by
  subst hp
  subst hj
  intro p e s m args below meth c H locs ls C h1 h2 h3 h4 h5 hl
  obtain ⟨q0, h0⟩ := List.getElem?_of_mem hV
  have he := evw_at (S := S) h0
  have hc : ∀ S : evS, evc (evca G) (evad G) S kd x = .inl (evca G 2, evN kd, .inl (S.1 kd x)) := fun S => by simp only [evc, hT]
  rw [hc] at he
  have hD0 := h4
  have hv' : vp_nar .boolean v = v := by rcases hv with rfl | rfl <;> decide +kernel
  refine va_zast C.1 C.2.1 h1.1 h3 h4 h5 q0 2 he rfl hin hd (fun H locs h3 h4 h5 => ?_)
  rw [hv'] at h3 h4
  have e1 : (evw G S).set q0 (evad G kd x, .inl (evca G 2, evN kd, .inl (upd (S.1 kd x) i.toNatClampNeg v))) = evw G (evup S kd x i.toNatClampNeg v) := by
    refine evw_set hD0 h0 ?_ (fun a b h => evc_up (evup_ne h) rfl)
    rw [hc, show (evup S kd x i.toNatClampNeg v).1 kd x = upd (S.1 kd x) i.toNatClampNeg v from by funext j; simp [evup, upd]]
  rw [e1] at h3 h4
  exact (k p e s m args below meth c H locs ls C h1 h2 h3 h4 h5 hl)
theorem ea_alen {kd x : Nat} {v : Int32} (hV : (kd, x) ∈ evKs G) (hT : evT kd = 1) (hv : Int32.ofNat (evN kd) = v) (hd : decode M.2.1 pc = .ok (.arraylength, 1)) {pc' : Nat} (hp : pc + 1 = pc')
    (k : evAt G M F pc' lv (.int v :: st) S) : evAt G M F pc lv (.ref (evad G kd x) :: st) S := by
  subst hp
  intro p e s m args below meth c H locs ls C h1 h2 h3 h4 h5 hl
  obtain ⟨q0, h0⟩ := List.getElem?_of_mem hV
  have he := evw_at (S := S) h0
  have hc : evc (evca G) (evad G) S kd x = .inl (evca G 0, evN kd, .inl (S.1 kd x)) := by simp only [evc, hT]
  rw [hc] at he
  exact va_alen C.1 C.2.1 h1.1 h3 q0 0 he rfl hv hd (k p e s m args below meth c H locs ls C h1 h2 h3 h4 h5 hl)
-- what nobody writes
theorem ea_slen (hd : decode M.2.1 pc = .ok (.arraylength, 1)) {pc' : Nat} (hp : pc + 1 = pc') (k : evAt G M F pc' lv (.int (Int32.ofNat (evL G)) :: st) S) : evAt G M F pc lv (.ref (evad G 60 0) :: st) S := by
  subst hp
  intro p e s m args below meth c H locs ls C h1 h2 h3 h4 h5 hl
  obtain ⟨cell, g1, g2, g3, g4, g5, g6, g7⟩ := h2.1
  exact W.alen (n := Int32.ofNat (evL G)) C.1 C.2.1 (by rw [h5.2.1 _ (Array.getElem?_eq_some_iff.mp g1).1 g7]; exact g1) g2 g5 rfl rfl hd (k p e s m args below meth c H locs ls C h1 h2 h3 h4 h5 hl)
theorem ea_sld {i : Int32} (hin : vp_in i (evL G)) (hd : decode M.2.1 pc = .ok (.iaload, 1)) {j : Nat} (hj : i.toNatClampNeg = j) {pc' : Nat} (hp : pc + 1 = pc') (k : evAt G M F pc' lv (.int (evxs G j) :: st) S) : evAt G M F pc lv (.int i :: .ref (evad G 60 0) :: st) S := by
  subst hp
  subst hj
  exact fun p e s m args below meth c H locs ls C h1 h2 h3 h4 h5 hl => va_ti C.1 C.2.1 h2.1 h5 hin rfl hd (k p e s m args below meth c H locs ls C h1 h2 h3 h4 h5 hl)
theorem ea_tl62 {i : Int32} (hin : vp_in i 4) (hd : decode M.2.1 pc = .ok (.iaload, 1)) {j : Nat} (hj : i.toNatClampNeg = j) {pc' : Nat} (hp : pc + 1 = pc') (k : evAt G M F pc' lv (.int (evst 62 j) :: st) S) : evAt G M F pc lv (.int i :: .ref (evad G 62 0) :: st) S := by
  subst hp
  subst hj
  exact fun p e s m args below meth c H locs ls C h1 h2 h3 h4 h5 hl => va_ti C.1 C.2.1 h2.2.2.1.2 h5 hin rfl hd (k p e s m args below meth c H locs ls C h1 h2 h3 h4 h5 hl)
theorem ea_tl63 {i : Int32} (hin : vp_in i 4) (hd : decode M.2.1 pc = .ok (.iaload, 1)) {j : Nat} (hj : i.toNatClampNeg = j) {pc' : Nat} (hp : pc + 1 = pc') (k : evAt G M F pc' lv (.int (evst 63 j) :: st) S) : evAt G M F pc lv (.int i :: .ref (evad G 63 0) :: st) S := by
  subst hp
  subst hj
  exact fun p e s m args below meth c H locs ls C h1 h2 h3 h4 h5 hl => va_ti C.1 C.2.1 h2.2.2.2.2 h5 hin rfl hd (k p e s m args below meth c H locs ls C h1 h2 h3 h4 h5 hl)
theorem ea_gs61 {idx : Nat} (hw : Cond.fieldLink M.1 idx RX3 "AT_FIRST" "[I" ∈ evtb) (hd : decode M.2.1 pc = .ok (.getstatic idx, 3)) {pc' : Nat} (hp : pc + 3 = pc') (k : evAt G M F pc' lv (.ref (evad G 61 0) :: st) S) : evAt G M F pc lv st S := by
  subst hp
  exact fun p e s m args below meth c H locs ls C h1 h2 h3 h4 h5 hl => va_gets C.1 C.2.1 h2.2.1.1 h5 C.2.2.2.1 (C.2.2.2.2.1 _ hw) (fun _ h9 => h9) hd (k p e s m args below meth c H locs ls C h1 h2 h3 h4 h5 hl)
theorem ea_gs62 {idx : Nat} (hw : Cond.fieldLink M.1 idx RX4 "LEAST_OF_LEG" "[I" ∈ evtb) (hd : decode M.2.1 pc = .ok (.getstatic idx, 3)) {pc' : Nat} (hp : pc + 3 = pc') (k : evAt G M F pc' lv (.ref (evad G 62 0) :: st) S) : evAt G M F pc lv st S := by
  subst hp
  exact fun p e s m args below meth c H locs ls C h1 h2 h3 h4 h5 hl => va_gets C.1 C.2.1 h2.2.2.1.1 h5 C.2.2.2.1 (C.2.2.2.2.1 _ hw) (fun _ h9 => h9) hd (k p e s m args below meth c H locs ls C h1 h2 h3 h4 h5 hl)
theorem ea_gs63 {idx : Nat} (hw : Cond.fieldLink M.1 idx RX4 "MOST_OF_LEG" "[I" ∈ evtb) (hd : decode M.2.1 pc = .ok (.getstatic idx, 3)) {pc' : Nat} (hp : pc + 3 = pc') (k : evAt G M F pc' lv (.ref (evad G 63 0) :: st) S) : evAt G M F pc lv st S := by
  subst hp
  exact fun p e s m args below meth c H locs ls C h1 h2 h3 h4 h5 hl => va_gets C.1 C.2.1 h2.2.2.2.1 h5 C.2.2.2.1 (C.2.2.2.2.1 _ hw) (fun _ h9 => h9) hd (k p e s m args below meth c H locs ls C h1 h2 h3 h4 h5 hl)
end EvRows
