def eiRm (d mc ms : Nat) : Room := { frames := d, cells := mc, slots := ms, locals := 40 * d }
def eiPc (G : evG) (kd : Nat) (fs0 : List Value) (h sz : Nat) : Array Value → State → Prop := va_Pc [.ref h] (fun U => U.heap.size = sz ∧ va_P (evD G) vwCl [(h, .inr (evC kd, fs0))] U.heap ∧ evKI G U ∧ evRA G (va_A [(h, .inr (evC kd, fs0))] sz) U U.heap)
def eiQc (G : evG) (kd x : Nat) (K : List (Nat × Nat)) (fs0 : List Value) (Init : evS → Prop) (h sz : Nat) : Array Value → State → Outcome → State → Prop := va_Qv (fun u : evAd × evS => u.1 kd x = h ∧ Init u.2) (fun u t => va_P (evD G) vwCl (evwK (evca G) u.1 u.2 K) t.heap ∧ va_D (va_A [(h, .inr (evC kd, fs0))] sz) (evwK (evca G) u.1 u.2 K)) (va_A [(h, .inr (evC kd, fs0))] sz)
/-- constructor y makes the keyed world K, its own object (kd, x) among it -/
def eiM (G : evG) (y : MethodName) (M : evM) (d mc ms kd x : Nat) (K : List (Nat × Nat)) (fs0 : List Value) (Init : evS → Prop) : Prop :=
  ∀ h sz, Met (evl G) y (.code y M.2.1 M.2.2.1 M.2.2.2 :: evtb) (eiRm d mc ms) (eiPc G kd fs0 h sz) (eiQc G kd x K fs0 Init h sz) mc ms (va_A [(h, .inr (evC kd, fs0))] sz)
abbrev eiZ (G : evG) (kd x : Nat) (K : List (Nat × Nat)) (fs0 : List Value) (Init : evS → Prop) (h sz mc ms : Nat) : List Frame → Array Value → State → State → Prop := fun below args s => MQ below (eiQc G kd x K fs0 Init h sz) args s mc ms (va_A [(h, .inr (evC kd, fs0))] sz)
theorem eiM.of {G : evG} {y : MethodName} {M : evM} {d mc ms kd x : Nat} {K : List (Nat × Nat)} {fs0 : List Value} {Init : evS → Prop} (hy : plainName y.cls = true) (ho : M.1 = y.cls) (hi : y.name = "<init>") (hlen : 1 ≤ M.2.2.1) (k : ∀ h sz, eiAt G M (eiRm d mc ms) [(h, .inr (evC kd, fs0))] sz (eiZ G kd x K fs0 Init h sz mc ms) 0 [(0, .ref h)] [] 0 0 ([(h, .inr (evC kd, fs0))] ++ evwK (evca G) (fun _ _ => 0) (fun _ _ _ => 0, fun _ _ _ => 0) [])) : eiM G y M d mc ms kd x K fs0 Init := by
  intro h sz
  refine Met.ofW (cc := M.2.1) (maxL := M.2.2.1) (ret := M.2.2.2) hy rfl ?_
  intro p e s m args below meth c s₁ B hml hv
  obtain ⟨rfl, hsz, hP, hK, hR⟩ := hv
  have hts := atoms_spec (ws := (.code y M.2.1 M.2.2.1 M.2.2.2 :: evtb)) B.pre
  have hl := lv_entry ([.ref h]) (n := M.2.2.1) (show (lg_sl [Value.ref h]).length ≤ M.2.2.1 from hlen)
  rw [lg_entry_eq]
  have hD : va_D (va_A [(h, Sum.inr (evC kd, fs0))] sz) [(h, Sum.inr (evC kd, fs0))] := by
    rw [va_D.mem]
    refine ⟨by simp, fun q hq => Or.inl ⟨0, q.2, ?_⟩⟩
    rw [List.mem_singleton] at hq
    rw [hq]
    rfl
  exact k h sz p e s m _ below meth c s.heap [] _ hsz ⟨B.exec, B.bytes, hml, by rw [ho]; exact findClass_of_methodNamed B.named, fun w h => hts w (List.mem_cons_of_mem _ h), B.returns, B.notSynchronized, fun _ => by rw [(name_of_methodNamed B.named B.method).1]; exact hi, hK, hR⟩ (by simpa [evwK] using hP) (by simpa [evwK] using hD) va_S.rf hl
theorem va_P.perm {D : va_G} {cl : List vw_C} {w w' : va_W} {H : Heap} (p : w.Perm w') (h : va_P D cl w H) : va_P D cl w' H := by
  rw [va_P.mem] at h ⊢
  exact fun q hq => h q (p.mem_iff.mpr hq)
theorem va_D.perm {A : Nat → Prop} {w w' : va_W} (p : w.Perm w') (h : va_D A w) : va_D A w' := by
  rw [va_D.mem] at h ⊢
  exact ⟨(p.map Prod.fst).nodup_iff.mp h.1, fun q hq => h.2 q (p.mem_iff.mpr hq)⟩
section EiMake
variable {G : evG} {M : evM} {R : Room} {w0 : va_W} {sz : Nat} {Z : List Frame → Array Value → State → State → Prop} {pc : Nat} {lv lv' : List (Nat × Value)} {st : List Value} {cells slots : Nat} {w : va_W}
/-- how a constructor is linked -/
def eiL (own : String) (idx : Nat) (y : MethodName) : Prop := Cond.methodLink own idx y ∈ evtb ∨ (own = RX5 ∧ ((idx = 33 ∧ y = yX4_init) ∨ (idx = 47 ∧ y = yX2_init)))
theorem ei_make {W0 : va_W} {ad : evAd} {S : evS} {K K2 : List (Nat × Nat)} {kd2 x2 d2 mc2 ms2 i1 i2 : Nat} {y : MethodName} {M2 : evM} {fs2 : List Value} {Init : evS → Prop} (hM : eiM G y M2 d2 mc2 ms2 kd2 x2 K2 fs2 Init) (ok : evKOk kd2) (hfs : ∀ j, j < (evQ kd2).2.2 → defaultValue (evY kd2 j) = vp_V fs2 j)
    (hcl : Cond.classLink M.1 i1 (evQ kd2).1 ∈ evtb) (hinst : Cond.instantiable (evQ kd2).1 (evQ kd2).2.2 ∈ evtb) (hini : Cond.initialized (evQ kd2).1 ∈ evtb) (hyc : y.cls = (evQ kd2).1) (hyn : y.name = "<init>") (hret : M2.2.2.2 = none) (hyd : y.cls ≠ "java/lang/invoke/MethodHandle" ∧ y.cls ≠ "java/lang/invoke/VarHandle" ∧ (parseMethodDescriptor y.desc).map (fun d => d.parameters.length) = some 0) (hlk : eiL M.1 i2 y) (hcode : Cond.code y M2.2.1 M2.2.2.1 none ∈ evtb) (hinm : Cond.instanceMethod y ∈ evtb)
    (hd1 : decode M.2.1 pc = .ok (.new i1, 3)) (hd2 : decode M.2.1 (pc + 3) = .ok (.dup, 1)) (hd3 : decode M.2.1 (pc + 3 + 1) = .ok (.invokespecial i2, 3)) (hR : d2 + 1 ≤ R.frames ∧ 8 + (M2.2.2.1 + 11) + 40 * d2 ≤ R.locals) (hc1 : cells + 1 + mc2 ≤ R.cells) (hc2 : slots + (evQ kd2).2.2 + ms2 ≤ R.slots) (hcat : (st.map fun v => v.category).sum ≤ 7)
    (cK : KCl K) (cK2 : KCl K2) (dj : ∀ q ∈ K, q ∉ K2) (hInit : ∀ S1 S' : evS, (∀ a b, (a, b) ∈ K2 → S'.1 a b = S1.1 a b) → Init S1 → Init S') (h2in : (kd2, x2) ∈ K2) {pc' : Nat} (hp : pc + 7 = pc')
    (k : ∀ (q : Nat) (ad' : evAd) (S' : evS), (∀ a b, (a, b) ∉ K2 → ad' a b = ad a b ∧ S'.1 a b = S.1 a b ∧ S'.2 a b = S.2 a b) → ad' kd2 x2 = q → Init S' → eiAt G M R w0 sz Z pc' lv (.ref q :: st) (cells + 1 + mc2) (slots + (evQ kd2).2.2 + ms2) (W0 ++ evwK (evca G) ad' S' (K ++ K2))) : eiAt G M R w0 sz Z pc lv st cells slots (W0 ++ evwK (evca G) ad S K) := by
  subst hp
  intro p e s m args below meth c H locs ls hz C h1 h2 h3 hl
  obtain ⟨o1, o2, o3, o4, o5, o6⟩ := ok
  have hKI := C.2.2.2.2.2.2.2.2.1
  have hK := hKI.1.1
  have hRA := C.2.2.2.2.2.2.2.2.2
  have hts := C.2.2.2.2.1
  have hA : ∀ q, s.heap.size ≤ q → va_A w0 sz q := fun q hq => Or.inr (by rw [← hz]; exact hq)
  refine va_new (C := (evQ kd2).1) (T := (evQ kd2).2.1) (N := (evQ kd2).2.2) (fs := fs2) C.1 C.2.1 hts o3 (evY kd2) o4 C.2.2.2.1 (hts _ hcl) (hts _ hinst) (hts _ hini) hK h1 h2 h3 hA o2 hfs (by omega) (by omega) hd1 (fun q H1 g1 g2 g3 => ?_)
  refine lv_dup C.1 C.2.1 hd2 rfl ?_
  have hFc : ∀ z, va_A [(q, Sum.inr (evC kd2, fs2))] H1.size z → va_A w0 sz z := by
    rintro z (⟨kk, e2, hz2⟩ | hz2)
    · have hk0 : kk = 0 := by
        have := (List.getElem?_eq_some_iff.mp hz2).1
        simp at this
        exact this
      subst hk0
      have e3 : (q, Sum.inr (evC kd2, fs2)) = (z, e2) := Option.some.inj hz2
      have := (va_D.mem.mp g2).2 (q, Sum.inr (evC kd2, fs2)) (List.mem_append_right _ (List.mem_singleton.mpr rfl))
      rw [show z = q from (congrArg Prod.fst e3).symm]
      exact this
    · exact hA z (Nat.le_trans g3.1 hz2)
  have hPc : va_P (evD G) vwCl [(q, Sum.inr (evC kd2, fs2))] H1 := va_P.mem.mpr (fun r hr => va_P.mem.mp g1 r (List.mem_append_right _ hr))
  have hpre : PreS s H1 (eiPc G kd2 fs2 q H1.size) (.ref q :: []) := ⟨fun a U g mk z => by
      obtain ⟨z1, z2, z3, z4, z5⟩ := z
      exact ⟨z1, z2, z3, z4.blind, z5.moved (Vm.Alike.refl U.vm)⟩, fun U hU hW => ⟨rfl, by rw [hU], by rw [hU]; exact hPc, hKI.warm hW, by
      rw [hU]
      exact ((hRA.moved hW.alike).kept (fun a g5 g6 => g3.2.1 a g5 g6)).narrow hFc⟩⟩
  have hgood : GoodIn evtb (Cond.code y M2.2.1 M2.2.2.1 M2.2.2.2 :: evtb) := ev_gw (fun w hw => by
    rcases List.mem_cons.mp hw with rfl | z
    · rw [hret]; exact hcode
    · exact z)
  have hcat1 : ((Value.ref q :: st).map fun v => v.category).sum ≤ 8 := by
    simp only [List.map_cons, List.sum_cons]
    show 1 + _ ≤ 8
    omega
  have hrun : va_Run p (evl G) e R s m args below meth c H1 locs (cells + 1) (slots + (evQ kd2).2.2) mc2 ms2 (F0 m (pc + 3 + 1) ls (.ref q :: .ref q :: st)) (.ref q :: st) (eiQc G kd2 x2 K2 fs2 Init q H1.size (Value.ref q :: []).toArray) (va_A [(q, Sum.inr (evC kd2, fs2))] H1.size) := by
    rcases hlk with hlk | ⟨hown, hlk⟩
    · exact va_runI (As := []) (rest := .ref q :: st) (bytes := M2.2.1) (maxL := M2.2.2.1) (Ts := evtb) (nL := M.2.2.1) (n := 0) ⟨C.1, C.2.1, C.2.2.1, C.2.2.2.1, hts⟩ (hM q H1.size) (cwI 0 hts hgood (by rw [hret]) rfl rfl (by rw [hyc]; exact hts _ hini) (hts _ hlk) (hts _ hinm) hyn hyd hR) hpre rfl rfl hl.1 rfl (lv_room hcat1) hd3 ⟨hc1, hc2⟩
    · have hnest : va_Nw (.methodLinkNest M.1 i2 y RX5) s := by
        rw [hown]
        rcases hlk with ⟨rfl, rfl⟩ | ⟨rfl, rfl⟩
        · exact hKI.2.2.1
        · exact hKI.2.2.2
      exact va_runIN (As := []) (rest := .ref q :: st) (bytes := M2.2.1) (maxL := M2.2.2.1) (Ts := evtb) (nL := M.2.2.1) (n := 0) (host := RX5) ⟨C.1, C.2.1, C.2.2.1, C.2.2.2.1, hts⟩ (hM q H1.size) ⟨va_cnB 0 hts hgood (by rw [hret]) rfl rfl hnest (by rw [hyc]; exact hts _ hini) hyd hR, hyn, hts _ hinm⟩ hpre rfl rfl hl.1 rfl (lv_room hcat1) hd3 ⟨hc1, hc2⟩
  refine va_callv hrun g3 (fun z _ h => hFc z h) hFc (fun u t H2 locs2 ht hvm hw hB hz1 hk1 hS2 => ?_)
  obtain ⟨ad1, S1⟩ := u
  obtain ⟨hu1, hu2⟩ := hw
  obtain ⟨hP1, hD1⟩ := hB
  rw [ht] at hP1
  obtain ⟨j1, j2⟩ := ek_join g1 g2 hk1 hFc hP1 hD1
  obtain ⟨ad', S', f1, f2, j3, j4⟩ := ek_mg cK cK2 dj j1 j2
  exact k q ad' S' f1 (by rw [(f2 kd2 x2 h2in).1]; exact hu1) (hInit S1 S' (fun a b hab => (f2 a b hab).2.1) hu2) p e s m args below meth c H2 locs2 ls hz C j3 j4 hS2 hl
/-- an object into an array of references that stands second -/
theorem ei_astq {h0 : Nat × va_E} {X : va_W} {ad : evAd} {S : evS} {K : List (Nat × Nat)} {kd2 x2 qa N t0 : Nat} {f : Nat → Option Nat} {i : Nat} (ok : evKOk kd2) (hin : (kd2, x2) ∈ K) (ht : (evtys (evca G))[t0]? = some (evca G t0, .object (evQ kd2).1)) (hi : i < N) (hN : N < 1000) (hd : decode M.2.1 pc = .ok (.aastore, 1)) {pc' : Nat} (hp : pc + 1 = pc')
    (k : eiAt G M R w0 sz Z pc' lv st cells slots ((h0 :: (qa, .inl (evca G t0, N, .inr (.inr (.inr (.inr (va_up f i (some (ad kd2 x2)))))))) :: X) ++ evwK (evca G) ad S K)) : eiAt G M R w0 sz Z pc lv (.ref (ad kd2 x2) :: .int (nI i) :: .ref qa :: st) cells slots ((h0 :: (qa, .inl (evca G t0, N, .inr (.inr (.inr (.inr f))))) :: X) ++ evwK (evca G) ad S K) := by
  subst hp
  intro p e s m args below meth c H locs ls hz C h1 h2 h3 hl
  obtain ⟨o1, o2, o3, o4, o5, o6⟩ := ok
  have hK := C.2.2.2.2.2.2.2.2.1.1.1
  have hmem : (ad kd2 x2, evc (evca G) ad S kd2 x2) ∈ ((h0 :: (qa, Sum.inl (evca G t0, N, Sum.inr (Sum.inr (Sum.inr (Sum.inr f))))) :: X) ++ evwK (evca G) ad S K) := List.mem_append_right _ (List.mem_map.mpr ⟨(kd2, x2), hin, rfl⟩)
  obtain ⟨qk, hqk⟩ := List.getElem?_of_mem hmem
  have hc : evc (evca G) ad S kd2 x2 = .inr (evC kd2, (List.range (evN kd2)).map (evf ad S kd2 x2)) := by simp only [evc, o1]
  rw [hc] at hqk
  refine va_astq C.1 C.2.1 hK h1 h2 h3 1 t0 qk (evC kd2) rfl ht hqk o2 (vp_in_nI hi (by omega)) hd (fun H1 locs1 g1 g2 g3 => ?_)
  have ec : (nI i).toNatClampNeg = i := nI_clamp (by omega)
  rw [ec] at g1 g2
  exact k p e s m args below meth c H1 locs1 ls hz C g1 g2 g3 hl
/-- the object under its key -/
theorem ei_key {h kd x : Nat} {fs : List Value} {ad : evAd} {S : evS} {K : List (Nat × Nat)} (f1 : Nat → Int32) (hT : evT kd = 0) (cK : KCl K) (hx : (kd, x) ∉ K) (hfs : ∀ (ad' : evAd) (S' : evS), (∀ a b, ¬ (a = kd ∧ b = x) → ad' a b = ad a b) → S'.1 kd x = f1 → (List.range (evN kd)).map (evf ad' S' kd x) = fs)
    (k : ∀ (ad' : evAd) (S' : evS), (∀ a b, ¬ (a = kd ∧ b = x) → ad' a b = ad a b ∧ S'.1 a b = S.1 a b ∧ S'.2 a b = S.2 a b) → ad' kd x = h → S'.1 kd x = f1 → eiAt G M R w0 sz Z pc lv st cells slots ([] ++ evwK (evca G) ad' S' (K ++ [(kd, x)]))) : eiAt G M R w0 sz Z pc lv st cells slots ([(h, .inr (evC kd, fs))] ++ evwK (evca G) ad S K) := by
  intro p e s m args below meth c H locs ls hz C h1 h2 h3 hl
  have p1 : List.Perm ([(h, (Sum.inr (evC kd, fs) : va_E))] ++ evwK (evca G) ad S K) (([] ++ evwK (evca G) ad S K) ++ [(h, Sum.inr (evC kd, fs))]) := List.perm_append_comm
  obtain ⟨ad', S', a1, a2, a3, a4, a5, a6⟩ := ek_one f1 (fun _ => 0) cK hx (va_P.perm p1 h1) (va_D.perm p1 h2) (fun ad' S' z1 z2 z3 z4 => by
    have : evc (evca G) ad' S' kd x = .inr (evC kd, (List.range (evN kd)).map (evf ad' S' kd x)) := by simp only [evc, hT]
    rw [this, hfs ad' S' z1 z2]
    exact z4)
  exact k ad' S' a1 a2 a3 p e s m args below meth c H locs ls hz C a5 a6 h3 hl
/-- the array of references, filled, under its key -/
theorem ei_keyq {h0 : Nat × va_E} {X : va_W} {kd x qa t0 N : Nat} {f : Nat → Option Nat} {ad : evAd} {S : evS} {K : List (Nat × Nat)} (hT : evT kd = 4) (hA : evA kd = t0) (hN : evN kd = N) (cK : KCl K) (hx : (kd, x) ∉ K) (hne : ∀ i, i < N → ¬ (evE kd = kd)) (hf : ∀ i, i < N → f i = some (ad (evE kd) (evEX kd x i)))
    (k : ∀ (ad' : evAd) (S' : evS), (∀ a b, ¬ (a = kd ∧ b = x) → ad' a b = ad a b ∧ S'.1 a b = S.1 a b ∧ S'.2 a b = S.2 a b) → ad' kd x = qa → eiAt G M R w0 sz Z pc lv st cells slots ((h0 :: X) ++ evwK (evca G) ad' S' (K ++ [(kd, x)]))) : eiAt G M R w0 sz Z pc lv st cells slots ((h0 :: (qa, .inl (evca G t0, N, .inr (.inr (.inr (.inr f))))) :: X) ++ evwK (evca G) ad S K) := by
  subst hA
  subst hN
  intro p e s m args below meth c H locs ls hz C h1 h2 h3 hl
  have p1 : List.Perm ((h0 :: (qa, (Sum.inl (evca G (evA kd), evN kd, Sum.inr (Sum.inr (Sum.inr (Sum.inr f)))) : va_E)) :: X) ++ evwK (evca G) ad S K) (((h0 :: X) ++ evwK (evca G) ad S K) ++ [(qa, Sum.inl (evca G (evA kd), evN kd, Sum.inr (Sum.inr (Sum.inr (Sum.inr f)))))]) := by
    show List.Perm (h0 :: ((qa, (Sum.inl (evca G (evA kd), evN kd, Sum.inr (Sum.inr (Sum.inr (Sum.inr f)))) : va_E)) :: (X ++ evwK (evca G) ad S K))) (h0 :: ((X ++ evwK (evca G) ad S K) ++ [(qa, Sum.inl (evca G (evA kd), evN kd, Sum.inr (Sum.inr (Sum.inr (Sum.inr f)))))]))
    exact List.Perm.cons _ (List.perm_append_singleton _ _).symm
  obtain ⟨ad', S', a1, a2, a3, a4, a5, a6⟩ := ek_one (fun _ => 0) (fun _ => 0) cK hx (va_P.perm p1 h1) (va_D.perm p1 h2) (fun ad' S' z1 z2 z3 z4 => by
    have : evc (evca G) ad' S' kd x = .inl (evca G (evA kd), evN kd, .inr (.inr (.inr (.inr (fun i => some (ad' (evE kd) (evEX kd x i))))))) := by simp only [evc, hT]
    rw [this]
    show H[qa]? = some (vp_cell _ _)
    rw [show H[qa]? = some (vp_cell (evca G (evA kd)) (evN kd, .inr (.inr (.inr (.inr f))))) from z4, vp_cell_q, vp_cell_q]
    congr 1
    refine arrV_cong (fun j hj => ?_)
    rw [hf j hj, z1 _ _ (fun z => hne j hj z.1)])
  exact k ad' S' a1 a2 p e s m args below meth c H locs ls hz C a5 a6 h3 hl
theorem ei_ret {kd x : Nat} {K : List (Nat × Nat)} {fs0 : List Value} {Init : evS → Prop} {h mc ms : Nat} {ad : evAd} {S : evS} (hret : M.2.2.2 = none) (hd : decode M.2.1 pc = .ok (.return_, 1)) (ha : ad kd x = h) (hI : Init S) (hc : cells = mc) (hs : slots = ms) : eiAt G M R [(h, .inr (evC kd, fs0))] sz (eiZ G kd x K fs0 Init h sz mc ms) pc lv [] cells slots ([] ++ evwK (evca G) ad S K) := by
  subst hc
  subst hs
  intro p e s m args below meth c H locs ls hz C h1 h2 h3 hl
  exact W.vret C.1 C.2.1 (by rw [← hret]; exact C.2.2.2.2.2.1) (fun t ht hW => ⟨⟨(ad, S), rfl, ⟨ha, hI⟩, by rw [ht]; exact h1, h2⟩, h3.F ht⟩) h3.2.2 hd C.2.2.2.2.2.2.1
end EiMake
