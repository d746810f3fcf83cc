/-! CONSTRUCTORS: the walk's judgement, and its rows -/
def evRA (G : evG) (A : Nat → Prop) (U : State) (H : Heap) : Prop :=
  va_T .int (evad G 60 0) (evL G) (fun j => .int (evxs G j)) A U H ∧
  (va_Z RX3 "AT_FIRST" "[I" (.ref (evad G 61 0)) A U H ∧ va_T .int (evad G 61 0) 9 (fun j => .int (evst 61 j)) A U H) ∧
  (va_Z RX4 "LEAST_OF_LEG" "[I" (.ref (evad G 62 0)) A U H ∧ va_T .int (evad G 62 0) 4 (fun j => .int (evst 62 j)) A U H) ∧
  (va_Z RX4 "MOST_OF_LEG" "[I" (.ref (evad G 63 0)) A U H ∧ va_T .int (evad G 63 0) 4 (fun j => .int (evst 63 j)) A U H)
theorem evRA.moved {G : evG} {A : Nat → Prop} {u U : State} {H : Heap} (hvm : u.vm.Alike U.vm) (h : evRA G A u H) : evRA G A U H :=
  ⟨h.1.moved hvm, ⟨h.2.1.1.moved hvm, h.2.1.2.moved hvm⟩, ⟨h.2.2.1.1.moved hvm, h.2.2.1.2.moved hvm⟩, ⟨h.2.2.2.1.moved hvm, h.2.2.2.2.moved hvm⟩⟩
theorem evRA.kept {G : evG} {A : Nat → Prop} {U : State} {H H1 : Heap} (h : evRA G A U H) (hq : ∀ a : Nat, a < H.size → ¬ A a → H1[a]? = H[a]?) : evRA G A U H1 :=
  ⟨h.1.kept hq, ⟨h.2.1.1.kept hq, h.2.1.2.kept hq⟩, ⟨h.2.2.1.1.kept hq, h.2.2.1.2.kept hq⟩, ⟨h.2.2.2.1.kept hq, h.2.2.2.2.kept hq⟩⟩
theorem evRA.narrow {G : evG} {A B : Nat → Prop} {U : State} {H : Heap} (h : evRA G A U H) (hAB : ∀ q, B q → A q) : evRA G B U H :=
  ⟨h.1.narrow hAB, ⟨h.2.1.1.narrow hAB, h.2.1.2.narrow hAB⟩, ⟨h.2.2.1.1.narrow hAB, h.2.2.1.2.narrow hAB⟩, ⟨h.2.2.2.1.narrow hAB, h.2.2.2.2.narrow hAB⟩⟩
def evKI (G : evG) (U : State) : Prop := evKK G U ∧ (va_AO RX3 U ∧ va_AO RX0 U ∧ va_AO RX2 U) ∧ va_Nw (.methodLinkNest RX5 33 yX4_init RX5) U ∧ va_Nw (.methodLinkNest RX5 47 yX2_init RX5) U
theorem evKI.warm {G : evG} {s U : State} (hW : s.WarmedH U.vm) (h : evKI G s) : evKI G U :=
  ⟨⟨va_K.moved hW.alike h.1.1, h.1.2.warmF hW⟩, ⟨h.2.1.1.moved hW.alike, h.2.1.2.1.moved hW.alike, h.2.1.2.2.moved hW.alike⟩, h.2.2.1.warmM hW, h.2.2.2.warmM hW⟩
theorem evKI.blind {G : evG} {U : State} {g : JFrame} {mk : MethodId} {a : Array Value} (h : evKI G U) : evKI G (U.calling g mk a) :=
  ⟨⟨va_K.moved (u := U) (U := U.calling g mk a) (Vm.Alike.refl U.vm) h.1.1, va_Nw.same rfl rfl h.1.2⟩, ⟨h.2.1.1.moved (Vm.Alike.refl U.vm), h.2.1.2.1.moved (Vm.Alike.refl U.vm), h.2.1.2.2.moved (Vm.Alike.refl U.vm)⟩, va_Nw.same rfl rfl h.2.2.1, va_Nw.same rfl rfl h.2.2.2⟩
def eiCx (G : evG) (M : evM) (w0 : va_W) (sz : Nat) (p : Program) (s : State) (m : MethodId) (args : Array Value) (meth : Method) (c : Code) : Prop :=
  p.tables.exec = Jvm.exec ∧ c.code = M.2.1 ∧ c.maxLocals = M.2.2.1 ∧ s.vm.findClass M.1 = some m.cls ∧ (∀ w ∈ evtb, w.before args s = true) ∧ meth.sig.returnType = M.2.2.2 ∧ meth.locks = false ∧ (M.2.2.2 = none → meth.name = "<init>") ∧ evKI G s ∧ evRA G (va_A w0 sz) s s.heap
def eiAt (G : evG) (M : evM) (R : Room) (w0 : va_W) (sz : Nat) (Z : List Frame → Array Value → State → State → Prop) (pc : Nat) (lv : List (Nat × Value)) (st : List Value) (cells slots : Nat) (w : va_W) : Prop :=
  ∀ (p : Program) (e : Env) (s : State) (m : MethodId) (args : Array Value) (below : List Frame) (meth : Method) (c : Code) (H : Heap) (locs : List Loc) (ls : Array Slot),
    s.heap.size = sz → eiCx G M w0 sz p s m args meth c → va_P (evD G) vwCl w H → va_D (va_A w0 sz) w → va_S (va_A w0 sz) s.heap H locs → lv_has ls M.2.2.1 lv →
    W p (evl G) e R s m args below meth c H locs cells slots (Z below args s) (F0 m pc ls st)
section EiRows
variable {G : evG} {M : evM} {R : Room} {w0 : va_W} {sz : Nat} {Z : List Frame → Array Value → State → State → Prop} {pc : Nat} {lv lv' : List (Nat × Value)} {st : List Value} {cells slots : Nat} {w : va_W}
theorem ei_conv {w' : va_W} (h : ∀ H, va_P (evD G) vwCl w H → va_P (evD G) vwCl w' H) (hd : va_D (va_A w0 sz) w → va_D (va_A w0 sz) w') (k : eiAt G M R w0 sz Z pc lv st cells slots w') : eiAt G M R w0 sz Z pc lv st cells slots w :=
  fun p e s m args below meth c H locs ls hz C h1 h2 h3 hl => k p e s m args below meth c H locs ls hz C (h H h1) (hd h2) h3 hl
theorem ei_iconst {n : Int} {v : Int32} (hd : decode M.2.1 pc = .ok (.iconst n, 1)) (hv : Int32.ofInt n = v) {pc' : Nat} (hp : pc + 1 = pc') (k : eiAt G M R w0 sz Z pc' lv (.int v :: st) cells slots w) : eiAt G M R w0 sz Z pc lv st cells slots w := by
  subst hp
  exact fun p e s m args below meth c H locs ls hz C h1 h2 h3 hl => lv_iconst C.1 C.2.1 hd hv (k p e s m args below meth c H locs ls hz C h1 h2 h3 hl)
theorem ei_bipush {n : Int} {v : Int32} (hd : decode M.2.1 pc = .ok (.bipush n, 2)) (hv : (Int8.ofInt n).toInt32 = v) {pc' : Nat} (hp : pc + 2 = pc') (k : eiAt G M R w0 sz Z pc' lv (.int v :: st) cells slots w) : eiAt G M R w0 sz Z pc lv st cells slots w := by
  subst hp
  exact fun p e s m args below meth c H locs ls hz C h1 h2 h3 hl => lv_bipush C.1 C.2.1 hd hv (k p e s m args below meth c H locs ls hz C h1 h2 h3 hl)
theorem ei_sipush {n : Int} {v : Int32} (hd : decode M.2.1 pc = .ok (.sipush n, 3)) (hv : (Int16.ofInt n).toInt32 = v) {pc' : Nat} (hp : pc + 3 = pc') (k : eiAt G M R w0 sz Z pc' lv (.int v :: st) cells slots w) : eiAt G M R w0 sz Z pc lv st cells slots w := by
  subst hp
  exact fun p e s m args below meth c H locs ls hz C h1 h2 h3 hl => lv_sipush C.1 C.2.1 hd hv (k p e s m args below meth c H locs ls hz C h1 h2 h3 hl)
theorem ei_aload_n {j : Fin 4} {i : Nat} {x : Nat} (hd : decode M.2.1 pc = .ok (.aload_n j, 1)) (hi : (j : Nat) = i) (q : Nat) (hq : lv[q]? = some (i, .ref x)) {pc' : Nat} (hp : pc + 1 = pc') (k : eiAt G M R w0 sz Z pc' lv (.ref x :: st) cells slots w) : eiAt G M R w0 sz Z pc lv st cells slots w := by
  subst hp
  exact fun p e s m args below meth c H locs ls hz C h1 h2 h3 hl => lv_aload_n C.1 C.2.1 hd hi (lv_at hl q hq) (k p e s m args below meth c H locs ls hz C h1 h2 h3 hl)
theorem ei_iload_n {j : Fin 4} {i : Nat} {x : Int32} (hd : decode M.2.1 pc = .ok (.iload_n j, 1)) (hi : (j : Nat) = i) (q : Nat) (hq : lv[q]? = some (i, .int x)) {pc' : Nat} (hp : pc + 1 = pc') (k : eiAt G M R w0 sz Z pc' lv (.int x :: st) cells slots w) : eiAt G M R w0 sz Z pc lv st cells slots w := by
  subst hp
  exact fun p e s m args below meth c H locs ls hz C h1 h2 h3 hl => lv_iload_n C.1 C.2.1 hd hi (lv_at hl q hq) (k p e s m args below meth c H locs ls hz C h1 h2 h3 hl)
theorem ei_istore_n {j : Fin 4} {i : Nat} {x : Int32} (hd : decode M.2.1 pc = .ok (.istore_n j, 1)) (hi : (j : Nat) = i) (hn : i < M.2.2.1) (hv : (i, Value.int x) :: lv.filter (fun q => !(q.1 == i) && !(q.1 + 1 == i && q.2.category == 2)) = lv') {pc' : Nat} (hp : pc + 1 = pc') (k : eiAt G M R w0 sz Z pc' lv' st cells slots w) : eiAt G M R w0 sz Z pc lv (.int x :: st) cells slots w := by
  subst hp
  exact fun p e s m args below meth c H locs ls hz C h1 h2 h3 hl => lv_istore_n C.1 C.2.1 hd hi hl hn hv (fun ls hl => (k p e s m args below meth c H locs ls hz C h1 h2 h3 hl))
theorem ei_astore_n {j : Fin 4} {i : Nat} {x : Nat} (hd : decode M.2.1 pc = .ok (.astore_n j, 1)) (hi : (j : Nat) = i) (hn : i < M.2.2.1) (hv : (i, Value.ref x) :: lv.filter (fun q => !(q.1 == i) && !(q.1 + 1 == i && q.2.category == 2)) = lv') {pc' : Nat} (hp : pc + 1 = pc') (k : eiAt G M R w0 sz Z pc' lv' st cells slots w) : eiAt G M R w0 sz Z pc lv (.ref x :: st) cells slots w := by
  subst hp
  exact fun p e s m args below meth c H locs ls hz C h1 h2 h3 hl => lv_astore_n C.1 C.2.1 hd hi hl hn hv (fun ls hl => (k p e s m args below meth c H locs ls hz C h1 h2 h3 hl))
theorem ei_iinc {i q : Nat} {n : Int} {x v : Int32} (hd : decode M.2.1 pc = .ok (.iinc i n, 3)) (hq : lv[q]? = some (i, .int x)) (hv : x + Int32.ofInt n = v) (hn : i < M.2.2.1) (hl' : (i, Value.int v) :: lv.filter (fun q => !(q.1 == i) && !(q.1 + 1 == i && q.2.category == 2)) = lv') {pc' : Nat} (hp : pc + 3 = pc') (k : eiAt G M R w0 sz Z pc' lv' st cells slots w) : eiAt G M R w0 sz Z pc lv st cells slots w := by
  subst hp
  exact fun p e s m args below meth c H locs ls hz C h1 h2 h3 hl => lv_iinc C.1 C.2.1 hd hl hq hv hn hl' (fun ls hl => (k p e s m args below meth c H locs ls hz C h1 h2 h3 hl))
theorem ei_imul {x y : Int32} (hd : decode M.2.1 pc = .ok (.imul, 1)) {pc' : Nat} (hp : pc + 1 = pc') (k : eiAt G M R w0 sz Z pc' lv (.int (x * y) :: st) cells slots w) : eiAt G M R w0 sz Z pc lv (.int y :: .int x :: st) cells slots w := by
  subst hp
  exact fun p e s m args below meth c H locs ls hz C h1 h2 h3 hl => lv_imul C.1 C.2.1 hd (k p e s m args below meth c H locs ls hz C h1 h2 h3 hl)
theorem ei_icmp_ge {x y : Int32} {off : Int} {tgt : Nat} (hd : decode M.2.1 pc = .ok (.if_icmp .ge off, 3)) (ht : (pc : Int) + off = (tgt : Int)) {pc' : Nat} (hp : pc + 3 = pc') (kt : y ≤ x → eiAt G M R w0 sz Z tgt lv st cells slots w) (kf : ¬ y ≤ x → eiAt G M R w0 sz Z pc' lv st cells slots w) : eiAt G M R w0 sz Z pc lv (.int y :: .int x :: st) cells slots w := by
  subst hp
  exact fun p e s m args below meth c H locs ls hz C h1 h2 h3 hl => lv_icmp_ge C.1 C.2.1 hd ht (fun hc => (kt hc p e s m args below meth c H locs ls hz C h1 h2 h3 hl)) (fun hc => (kf hc p e s m args below meth c H locs ls hz C h1 h2 h3 hl))
theorem ei_goto {off : Int} {tgt : Nat} (hd : decode M.2.1 pc = .ok (.goto off, 3)) (ht : (pc : Int) + off = (tgt : Int)) (k : eiAt G M R w0 sz Z tgt lv st cells slots w) : eiAt G M R w0 sz Z pc lv st cells slots w :=
  fun p e s m args below meth c H locs ls hz C h1 h2 h3 hl => lv_goto C.1 C.2.1 hd ht (k p e s m args below meth c H locs ls hz C h1 h2 h3 hl)
theorem ei_obj {idx h : Nat} (hw : Cond.methodLink M.1 idx objectInit ∈ evtb) (hd : decode M.2.1 pc = .ok (.invokespecial idx, 3)) (hf : 1 ≤ R.frames) (hlo : 20 ≤ R.locals) {pc' : Nat} (hp : pc + 3 = pc') (k : eiAt G M R w0 sz Z pc' lv [] cells slots w) : eiAt G M R w0 sz Z pc lv [.ref h] cells slots w := by
  subst hp
  intro p e s m args below meth c H locs ls hz C h1 h2 h3 hl
  refine W.objInit C.1 C.2.1 C.2.2.2.1 (C.2.2.2.2.1 _ hw) (C.2.2.2.2.1 _ (ev_in (by decide +kernel) rfl)) (C.2.2.2.2.1 _ (ev_in (by decide +kernel) rfl)) rfl (by rw [C.2.2.1]; exact hl.1) rfl hd hf (by show 2 * 0 + 0 + 12 ≤ _; omega) ?_
  exact W.eq (g2 := F0 m (pc + 3) ls []) rfl (k p e s m args below meth c H locs ls hz C h1 h2 h3 hl)
theorem ei_get {W1 : va_W} {kd h idx k0 : Nat} {fs : List Value} {v : Value} (ok : evKOk kd) (hw : evFL M.1 idx kd k0) (hk : k0 < (evQ kd).2.2) (hcl : ((evQ kd).2.1 k0).1 = ((evQ kd).2.1 k0).1) (hv : fs[k0]? = some v) (hd : decode M.2.1 pc = .ok (.getfield idx, 3)) {pc' : Nat} (hp : pc + 3 = pc') (k : eiAt G M R w0 sz Z pc' lv (v :: st) cells slots ((h, .inr (evC kd, fs)) :: W1)) : eiAt G M R w0 sz Z pc lv (.ref h :: st) cells slots ((h, .inr (evC kd, fs)) :: W1) := by
  subst hp
  intro p e s m args below meth c H locs ls hz C h1 h2 h3 hl
  obtain ⟨o1, o2, o3, o4, o5, o6⟩ := ok
  exact va_get (C := (evQ kd).1) (T := (evQ kd).2.1) (N := (evQ kd).2.2) C.1 C.2.1 C.2.2.2.2.1 o3 C.2.2.2.1 C.2.2.2.2.2.2.2.2.1.1.1 h1 0 rfl o2 k0 hk (C.2.2.2.2.1 _ hw) (fun _ h9 => h9) hv hd (k p e s m args below meth c H locs ls hz C h1 h2 h3 hl)
theorem ei_putF {W1 : va_W} {kd h idx k0 : Nat} {fs : List Value} {v : Value} (ok : evKOk kd) (hi : M.2.2.2 = none) (hw : evFL M.1 idx kd k0) (hk : k0 < (evQ kd).2.2) (hfin : ((evQ kd).2.1 k0).2.2.2 = true) (hdecl : ((evQ kd).2.1 k0).1 = M.1) (hn : narrow (evY kd k0) v = v) (hft : fits (evY kd k0) v = true) (hl0 : k0 < fs.length) (hd : decode M.2.1 pc = .ok (.putfield idx, 3)) {pc' : Nat} (hp : pc + 3 = pc') {fs' : List Value} (hfs : fs.set k0 v = fs') (k : eiAt G M R w0 sz Z pc' lv st cells slots ((h, .inr (evC kd, fs')) :: W1)) : eiAt G M R w0 sz Z pc lv (v :: .ref h :: st) cells slots ((h, .inr (evC kd, fs)) :: W1) := by
  subst hp
  subst hfs
  intro p e s m args below meth c H locs ls hz C h1 h2 h3 hl
  obtain ⟨o1, o2, o3, o4, o5, o6⟩ := ok
  exact va_putF (C := (evQ kd).1) (T := (evQ kd).2.1) (N := (evQ kd).2.2) C.1 C.2.1 C.2.2.2.2.1 o3 (evY kd) o4 o5 C.2.2.2.1 C.2.2.2.2.2.2.2.2.1.1.1 h1 h2 h3 0 rfl o2 k0 hk (C.2.2.2.2.1 _ hw) (fun _ h9 => h9) hfin (C.2.2.2.2.2.2.2.1 hi) hdecl (o4 k0 hk) hn hft hl0 hd (fun H1 locs1 g1 g2 g3 => k p e s m args below meth c H1 locs1 ls hz C g1 g2 g3 hl)
theorem ei_put {W1 : va_W} {kd h idx k0 : Nat} {fs : List Value} {v : Value} (ok : evKOk kd) (hw : evFL M.1 idx kd k0) (hk : k0 < (evQ kd).2.2) (hfin : ((evQ kd).2.1 k0).2.2.2 = false) (hn : narrow (evY kd k0) v = v) (hft : fits (evY kd k0) v = true) (hl0 : k0 < fs.length) (hd : decode M.2.1 pc = .ok (.putfield idx, 3)) {pc' : Nat} (hp : pc + 3 = pc') {fs' : List Value} (hfs : fs.set k0 v = fs') (k : eiAt G M R w0 sz Z pc' lv st cells slots ((h, .inr (evC kd, fs')) :: W1)) : eiAt G M R w0 sz Z pc lv (v :: .ref h :: st) cells slots ((h, .inr (evC kd, fs)) :: W1) := by
  subst hp
  subst hfs
  intro p e s m args below meth c H locs ls hz C h1 h2 h3 hl
  obtain ⟨o1, o2, o3, o4, o5, o6⟩ := ok
  exact va_put (C := (evQ kd).1) (T := (evQ kd).2.1) (N := (evQ kd).2.2) C.1 C.2.1 C.2.2.2.2.1 o3 (evY kd) o4 o5 C.2.2.2.1 C.2.2.2.2.2.2.2.2.1.1.1 h1 h2 h3 0 rfl o2 k0 hk (C.2.2.2.2.1 _ hw) (fun _ h9 => h9) hfin (o4 k0 hk) hn hft hl0 hd (fun H1 locs1 g1 g2 g3 => k p e s m args below meth c H1 locs1 ls hz C g1 g2 g3 hl)
/-- a new array of numbers, under a key -/
theorem ei_newa {W0 : va_W} {ad : evAd} {S : evS} {K : List (Nat × Nat)} {kd2 x2 N t0 : Nat} {n : Int32} {atype : ArrayType} {ty : FieldType} {a0 : vp_A} (hty : newarray.typeOf atype = ty) (harr : Cond.arrayClass (newarray.typeOf atype) ∈ evtb) (ht : (evtys (evca G))[t0]? = some (evca G t0, ty)) (hra : ∀ (U : State) (cA : ClassId), va_RA U cA ty → U.vm.findClass ("[" ++ ty.toString) = some cA) (ha : ∀ cA : ClassId, vp_cell cA a0 = arrV cA N (fun _ => defaultValue ty))
    (hcell : ∀ (ad' : evAd) (S' : evS), S'.1 kd2 x2 = (fun _ => 0) → S'.2 kd2 x2 = (fun _ => 0) → evc (evca G) ad' S' kd2 x2 = .inl (evca G t0, a0)) (hn : ¬ n < 0) (hN : n.toNatClampNeg = N) (hby : N * componentBytes ty ≤ 536870912) (hc1 : cells + 1 ≤ R.cells) (hc2 : slots + N ≤ R.slots) (hd : decode M.2.1 pc = .ok (.newarray atype, 2)) (cK : KCl K) (hx : (kd2, x2) ∉ K) {pc' : Nat} (hp : pc + 2 = pc')
    (k : ∀ (q : Nat) (ad' : evAd) (S' : evS), (∀ a b, ¬ (a = kd2 ∧ b = x2) → ad' a b = ad a b ∧ S'.1 a b = S.1 a b ∧ S'.2 a b = S.2 a b) → ad' kd2 x2 = q → S'.1 kd2 x2 = (fun _ => 0) → eiAt G M R w0 sz Z pc' lv (.ref q :: st) (cells + 1) (slots + N) (W0 ++ evwK (evca G) ad' S' (K ++ [(kd2, x2)]))) : eiAt G M R w0 sz Z pc lv (.int n :: st) cells slots (W0 ++ evwK (evca G) ad S K) := by
  subst hp
  intro p e s m args below meth c H locs ls hz C h1 h2 h3 hl
  have hK := C.2.2.2.2.2.2.2.2.1.1.1
  refine va_newa C.1 C.2.1 (C.2.2.2.2.1 _ harr) hty hK h1 h2 h3 (fun q hq => Or.inr (by rw [← hz]; exact hq)) ha hn hN hby hc1 hc2 hd (fun q cA H1 hK1 g1 g2 g3 => ?_)
  have e1 := hra s _ (hK.2 t0 _ ht).2
  have e2 := hra s cA (hK1.2 6 (cA, ty) (by show (evtys (evca G) ++ [(cA, ty)])[6]? = _; rfl)).2
  have e3 : cA = evca G t0 := Option.some.inj (e2.symm.trans e1)
  subst e3
  obtain ⟨ad', S', f1, f2, f3, f4, g1', g2'⟩ := ek_one (fun _ => 0) (fun _ => 0) cK hx g1 g2 (fun ad' S' _ z1 z2 z3 => by rw [hcell ad' S' z1 z2]; exact z3)
  exact k q ad' S' f1 f2 f3 p e s m args below meth c H1 locs ls hz C g1' g2' g3 hl
/-- a new array of references: it stands ahead of the keyed ones -/
theorem ei_newq {h0 : Nat × va_E} {X : va_W} {ad : evAd} {S : evS} {K : List (Nat × Nat)} {idx N t0 : Nat} {n : Int32} {C2 : String} (hw : Cond.classLink M.1 idx C2 ∈ evtb) (hao : ∀ U : State, evKI G U → va_AO C2 U) (ht : (evtys (evca G))[t0]? = some (evca G t0, .object C2)) (hn : ¬ n < 0) (hN : n.toNatClampNeg = N) (hby : N * 4 ≤ 536870912) (hc1 : cells + 1 ≤ R.cells) (hc2 : slots + N ≤ R.slots) (hd : decode M.2.1 pc = .ok (.anewarray idx, 3)) {pc' : Nat} (hp : pc + 3 = pc')
    (k : ∀ (q : Nat), eiAt G M R w0 sz Z pc' lv (.ref q :: st) (cells + 1) (slots + N) ((h0 :: (X ++ [(q, .inl (evca G t0, N, .inr (.inr (.inr (.inr (fun _ => none))))))])) ++ evwK (evca G) ad S K)) : eiAt G M R w0 sz Z pc lv (.int n :: st) cells slots ((h0 :: X) ++ evwK (evca G) ad S K) := by
  subst hp
  intro p e s m args below meth c H locs ls hz C h1 h2 h3 hl
  have hK := C.2.2.2.2.2.2.2.2.1.1.1
  refine va_newq C.1 C.2.1 C.2.2.2.1 (C.2.2.2.2.1 _ hw) (hao s C.2.2.2.2.2.2.2.2.1) hK h1 h2 h3 (fun q hq => Or.inr (by rw [← hz]; exact hq)) hn hN hby hc1 hc2 hd (fun q cA H1 hK1 g1 g2 g3 => ?_)
  have r1 : va_RA s (evca G t0) (.object C2) := (hK.2 t0 _ ht).2
  have r2 : va_RA s cA (.object C2) := (hK1.2 6 (cA, .object C2) (by show (evtys (evca G) ++ [(cA, .object C2)])[6]? = _; rfl)).2
  obtain ⟨_, _, -, -, -, e1⟩ := r1
  obtain ⟨_, _, -, -, -, e2⟩ := r2
  have e3 : cA = evca G t0 := Option.some.inj (e2.symm.trans e1)
  subst e3
  have g1' := va_P.comm g1
  have g2' := va_D.comm g2
  exact k q p e s m args below meth c H1 locs ls hz C g1' g2' g3 hl
end EiRows
