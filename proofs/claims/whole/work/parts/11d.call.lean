/-! CONSTRUCTORS call methods -/
def adR (G : evG) (ad : evAd) : evAd := fun a b => if 60 ≤ a then evad G a b else ad a b
def eiG (G : evG) (ad : evAd) (K : List (Nat × Nat)) : evG := (evl G, evD G, evca G, adR G ad, K, evL G, evxs G)
theorem adR_lo {G : evG} {ad : evAd} {a b : Nat} (h : a < 60) : adR G ad a b = ad a b := if_neg (by omega)
theorem ek_R {D : va_G} {ca : Nat → ClassId} {ad ad' : evAd} {S : evS} {K : List (Nat × Nat)} {H : Heap} (cK : KCl K) (ha : ∀ a b, (a, b) ∈ K → ad' a b = ad a b) (h : va_P D vwCl (evwK ca ad S K) H) : va_P D vwCl (evwK ca ad' S K) H := by
  rw [va_P.mem] at h ⊢
  intro q hq
  obtain ⟨⟨kd, x⟩, hk, rfl⟩ := List.mem_map.mp hq
  have h0 := h _ (List.mem_map.mpr ⟨(kd, x), hk, rfl⟩)
  show va_at D vwCl (ad' kd x, evc ca ad' S kd x) H
  rw [ha kd x hk]
  exact evc_at (fun k k2 e => ha _ _ (cK.1 kd x k k2 hk e)) (fun e i hi => ha _ _ (cK.2 kd x i hk e hi)) rfl rfl h0
theorem ek_A {ca : Nat → ClassId} {ad ad' : evAd} {S S' : evS} {K : List (Nat × Nat)} (ha : ∀ a b, (a, b) ∈ K → ad' a b = ad a b) : (evwK ca ad' S' K).map Prod.fst = (evwK ca ad S K).map Prod.fst := by
  unfold evwK
  rw [List.map_map, List.map_map]
  apply List.map_congr_left
  intro q hq
  exact ha q.1 q.2 hq
section EiCall
variable {G : evG} {M : evM} {R : Room} {w0 : va_W} {sz : Nat} {Z : List Frame → Array Value → State → State → Prop} {pc : Nat} {lv lv' : List (Nat × Value)} {st : List Value} {cells slots : Nat}
theorem ei_after {W0 : va_W} {ad : evAd} {S : evS} {K : List (Nat × Nat)} {q : evS → Prop} {p : Program} {e : Env} {s : State} {m : MethodId} {args : Array Value} {below : List Frame} {meth : Method} {c : Code} {H : Heap} {locs : List Loc} {ls : Array Slot} {a : Array Value} {st0 : List Value} (cK : KCl K) (h60 : ∀ a b, (a, b) ∈ K → a < 60) (hz : s.heap.size = sz) (C : eiCx G M w0 sz p s m args meth c) (h1 : va_P (evD G) vwCl (W0 ++ evwK (evca G) ad S K) H) (h2 : va_D (va_A w0 sz) (W0 ++ evwK (evca G) ad S K)) (h3 : va_S (va_A w0 sz) s.heap H locs) (hl : lv_has ls M.2.2.1 lv)
    (hr : va_Run p (evl G) e R s m args below meth c H locs cells slots 0 0 (F0 m pc ls st0) st (evPo (eiG G ad K) (evQV q) a) (evAA (eiG G ad K)))
    (k : ∀ S', q S' → eiAt G M R w0 sz Z (pc + 3) lv st cells slots (W0 ++ evwK (evca G) ad S' K)) : W p (evl G) e R s m args below meth c H locs cells slots (Z below args s) (F0 m pc ls st0) := by
  have had : ∀ a b, (a, b) ∈ K → adR G ad a b = ad a b := fun a b h => adR_lo (h60 a b h)
  have hAA : ∀ z, evAA (eiG G ad K) z → ∃ kd x, (kd, x) ∈ K ∧ ad kd x = z := by
    rintro z ⟨⟨kd, x⟩, hk, rfl⟩
    exact ⟨kd, x, hk, (had kd x hk).symm⟩
  have hA0 : ∀ z, evAA (eiG G ad K) z → va_A w0 sz z := by
    intro z hz
    obtain ⟨kd, x, hk, rfl⟩ := hAA z hz
    exact (va_D.mem.mp h2).2 _ (List.mem_append_right _ (List.mem_map.mpr ⟨(kd, x), hk, rfl⟩))
  intro T hT X
  obtain ⟨v, st₀, t, T', L, h0, X', hL, e1, e2, ⟨⟨r, S', hv, ⟨hp0, hp⟩, hb, hd⟩, hz1, hk⟩, st9⟩ := hr T hT X
  cases hv
  subst hp0
  rw [h0] at hz1 hk
  have hb' : va_P (evD G) vwCl (evwK (evca G) ad S' K) t.heap := ek_R cK (fun a b h => (had a b h).symm) (show va_P (evD G) vwCl (evwK (evca G) (adR G ad) S' K) t.heap from hb)
  have n2 := (va_D.mem.mp h2)
  have hP2 : va_P (evD G) vwCl (W0 ++ evwK (evca G) ad S' K) T'.heap := by
    rw [va_P.mem]
    intro z hz
    rcases List.mem_append.mp hz with y | y
    · have y1 := va_P.mem.mp h1 z (List.mem_append_left _ y)
      refine y1.kept ?_
      rw [e1]
      refine hk z.1 y1.lt ?_
      intro hA
      obtain ⟨kd, x, hk1, e3⟩ := hAA _ hA
      have hn := n2.1
      rw [List.map_append, List.nodup_append] at hn
      exact hn.2.2 z.1 (List.mem_map_of_mem y) (ad kd x) (List.mem_map.mpr ⟨(ad kd x, evc (evca G) ad S kd x), List.mem_map.mpr ⟨(kd, x), hk1, rfl⟩, rfl⟩) e3.symm
    · rw [e1]
      exact va_P.mem.mp hb' z y
  have hD2 : va_D (va_A w0 sz) (W0 ++ evwK (evca G) ad S' K) := h2.addr (by rw [List.map_append, List.map_append, ek_A (S := S) (S' := S') (fun _ _ _ => rfl)])
  obtain ⟨t2, a1, b1⟩ := k S' hp p e s m args below meth c T'.heap (locs ++ L) ls hz C hP2 hD2
    ⟨Nat.le_trans h3.1 (by rw [e1]; exact hz1), fun z g1 g2 => by rw [e1, hk z (Nat.lt_of_lt_of_le g1 h3.1) (fun y => g2 (hA0 z y))]; exact h3.2.1 z g1 g2, fun z hz => by
      rcases List.mem_append.mp hz with h | h
      · exact h3.2.2 z h
      · exact hA0 _ (hL z h)⟩ hl T' rfl X'
  exact ⟨t2, st9 t2 a1, b1⟩
theorem ei_world {W0 : va_W} {ad : evAd} {S : evS} {K : List (Nat × Nat)} {s U : State} {H : Heap} {locs : List Loc} (cK : KCl K) (h60 : ∀ a b, (a, b) ∈ K → a < 60) (hKI : evKI G s) (hRA : evRA G (va_A w0 sz) s s.heap) (h1 : va_P (evD G) vwCl (W0 ++ evwK (evca G) ad S K) H) (h2 : va_D (va_A w0 sz) (W0 ++ evwK (evca G) ad S K)) (h3 : va_S (va_A w0 sz) s.heap H locs) (hU : U.heap = H) (hW : s.WarmedH U.vm) :
    va_P (evD (eiG G ad K)) vwCl (evw (eiG G ad K) S) U.heap ∧ va_D (evAA (eiG G ad K)) (evw (eiG G ad K) S) ∧ evKK (eiG G ad K) U ∧ evRO (eiG G ad K) U U.heap := by
  have had : ∀ a b, (a, b) ∈ K → adR G ad a b = ad a b := fun a b h => adR_lo (h60 a b h)
  have p1 : va_P (evD G) vwCl (evwK (evca G) ad S K) H := va_P.mem.mpr (fun z hz => va_P.mem.mp h1 z (List.mem_append_right _ hz))
  have d1 : va_D (va_A w0 sz) (evwK (evca G) ad S K) := by
    rw [va_D.mem] at h2 ⊢
    have hn := h2.1
    rw [List.map_append, List.nodup_append] at hn
    exact ⟨hn.2.1, fun z hz => h2.2 z (List.mem_append_right _ hz)⟩
  have d2 : va_D (va_A w0 sz) (evwK (evca G) (adR G ad) S K) := d1.addr (ek_A had)
  refine ⟨by rw [hU]; exact ek_R cK had p1, ?_, ⟨va_K.moved hW.alike hKI.1.1, hKI.1.2.warmF hW⟩, ?_⟩
  · rw [va_D.mem] at d2 ⊢
    refine ⟨d2.1, fun z hz => ?_⟩
    obtain ⟨⟨kd, x⟩, hk, rfl⟩ := List.mem_map.mp hz
    exact ⟨(kd, x), hk, rfl⟩
  · rw [hU]
    have r1 := ((hRA.moved hW.alike).kept (H1 := H) (fun a g1 g2 => h3.2.1 a g1 g2)).narrow (B := evAA (eiG G ad K)) (by
      rintro z ⟨⟨kd, x⟩, hk, rfl⟩
      show va_A w0 sz (adR G ad kd x)
      rw [had kd x hk]
      exact (va_D.mem.mp d1).2 _ (List.mem_map.mpr ⟨(kd, x), hk, rfl⟩))
    exact r1
theorem ei_cs {W0 : va_W} {ad : evAd} {S : evS} {K : List (Nat × Nat)} {q : evS → Prop} {y : MethodName} {M' : evM} {idx n d : Nat} {As : List Value} {stk : List Value} (hy : evMS y M' n) (hw : evML M.1 idx y) (hn : As.length = n) (hd : decode M.2.1 pc = .ok (.invokestatic idx, 3)) (hstk : stk = As.reverse ++ st) (hcat : (st.map fun v => v.category).sum ≤ 8) (hR : d + 1 ≤ R.frames ∧ 8 + (M'.2.2.1 + 11) + 40 * d ≤ R.locals) (hf : cells ≤ R.cells ∧ slots ≤ R.slots) (cK : KCl K) (h60 : ∀ a b, (a, b) ∈ K → a < 60)
    (hS : evSp (eiG G ad K) y M' d As S (evQV q)) {pc' : Nat} (hp : pc + 3 = pc') (k : ∀ S', q S' → eiAt G M R w0 sz Z pc' lv st cells slots (W0 ++ evwK (evca G) ad S' K)) : eiAt G M R w0 sz Z pc lv stk cells slots (W0 ++ evwK (evca G) ad S K) := by
  subst hp
  subst hstk
  intro p e s m args below meth c H locs ls hz C h1 h2 h3 hl
  have hKI := C.2.2.2.2.2.2.2.2.1
  have hRA := C.2.2.2.2.2.2.2.2.2
  refine ei_after cK h60 hz C h1 h2 h3 hl (va_runS (As := As) (rest := st) (bytes := M'.2.1) (maxL := M'.2.2.1) (ret := M'.2.2.2) (n := n) (Ts := evtb) (nL := M.2.2.1) ⟨C.1, C.2.1, C.2.2.1, C.2.2.2.1, C.2.2.2.2.1⟩ hS (va_cwS n C.2.2.2.2.1 (ev_gw ?_) rfl rfl rfl hy.1.1 hR) ⟨ev_blind, fun U hU hW => ⟨rfl, ei_world cK h60 hKI hRA h1 h2 h3 hU hW⟩⟩ rfl hn hl.1 rfl (lv_room hcat) hd ⟨hf.1, hf.2⟩) k
  intro w hw'
  unfold va_wsS at hw'
  simp only [List.mem_append, List.mem_cons, List.mem_nil_iff, or_false] at hw'
  rcases hw' with (rfl | rfl | rfl) | rfl | h
  · exact hw
  · exact hy.2
  · exact hy.1.2.2
  · exact hy.1.2.1
  · exact h
theorem ei_cv {W0 : va_W} {ad : evAd} {S : evS} {K : List (Nat × Nat)} {q : evS → Prop} {y : MethodName} {M' : evM} {idx n d kd x : Nat} {As : List Value} {stk : List Value} (hy : evMV y M' n) (hw : evML M.1 idx y) (ok : evKOk kd) (hV : (kd, x) ∈ K) (hcl : (evQ kd).1 = y.cls) (hn : As.length = n) (hd : decode M.2.1 pc = .ok (.invokevirtual idx, 3)) (hstk : stk = As.reverse ++ .ref (ad kd x) :: st) (hcat : (st.map fun v => v.category).sum ≤ 8) (hR : d + 1 ≤ R.frames ∧ 8 + (M'.2.2.1 + 11) + 40 * d ≤ R.locals) (hf : cells ≤ R.cells ∧ slots ≤ R.slots) (cK : KCl K) (h60 : ∀ a b, (a, b) ∈ K → a < 60)
    (hS : evSp (eiG G ad K) y M' d (.ref (evad (eiG G ad K) kd x) :: As) S (evQV q)) {pc' : Nat} (hp : pc + 3 = pc') (k : ∀ S', q S' → eiAt G M R w0 sz Z pc' lv st cells slots (W0 ++ evwK (evca G) ad S' K)) : eiAt G M R w0 sz Z pc lv stk cells slots (W0 ++ evwK (evca G) ad S K) := by
  subst hp
  subst hstk
  intro p e s m args below meth c H locs ls hz C h1 h2 h3 hl
  have hKI := C.2.2.2.2.2.2.2.2.1
  have hRA := C.2.2.2.2.2.2.2.2.2
  have ea : evad (eiG G ad K) kd x = ad kd x := adR_lo (h60 kd x hV)
  rw [ea] at hS
  obtain ⟨o1, o2, o3, o4, o5, o6⟩ := ok
  have hmem : (ad kd x, evc (evca G) ad S kd x) ∈ (W0 ++ evwK (evca G) ad S K) := List.mem_append_right _ (List.mem_map.mpr ⟨(kd, x), hV, rfl⟩)
  obtain ⟨qk, hqk⟩ := List.getElem?_of_mem hmem
  have hc : evc (evca G) ad S kd x = .inr (evC kd, (List.range (evN kd)).map (evf ad S kd x)) := by simp only [evc, o1]
  rw [hc] at hqk
  have hrecv := va_recv hKI.1.1 h1 o2 hqk
  rw [hcl] at hrecv
  refine ei_after cK h60 hz C h1 h2 h3 hl (va_runV (As := As) (rest := st) (C := y.cls) (b := ad kd x) (bytes := M'.2.1) (maxL := M'.2.2.1) (ret := M'.2.2.2) (n := n) (Ts := evtb) (nL := M.2.2.1) ⟨C.1, C.2.1, C.2.2.1, C.2.2.2.1, C.2.2.2.2.1⟩ hS (cwV n C.2.2.2.2.1 (ev_gw ?_) rfl rfl rfl ⟨rfl, hy.1.1⟩ hR) ⟨ev_blind, hrecv, fun U hU hW => ⟨rfl, ei_world cK h60 hKI hRA h1 h2 h3 hU hW⟩⟩ rfl hn hl.1 rfl (lv_room hcat) hd ⟨hf.1, hf.2⟩) k
  intro w hw'
  unfold wsV at hw'
  simp only [List.mem_append, List.mem_cons, List.mem_nil_iff, or_false] at hw'
  rcases hw' with (rfl | rfl | rfl | rfl) | rfl | h
  · exact hw
  · exact hy.2.1
  · exact hy.2.2
  · exact hy.1.2.2
  · exact hy.1.2.1
  · exact h
end EiCall
