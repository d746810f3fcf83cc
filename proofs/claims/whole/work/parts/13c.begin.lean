/-! AT THE BEGINNING: both hold the same empty state -/
def A0 : Ab := (fun _ => D0, [], fun _ => none, [], [])
theorem A0_w : WfA A0 := by
  have h : WfF (fun _ => D0) := fun i _ => InD.s InD0
  exact ⟨h, ⟨by simp [A0], fun Q hQ => absurd hQ (by simp [A0])⟩, fun m Q hQ => absurd hQ (by simp [A0]), ⟨by simp [A0], fun t ht => absurd ht (by simp [A0])⟩, by simp [A0], fun t ht => absurd ht (by simp [A0])⟩
theorem A0_C {S : evS} (h : InE S) : RepC A0 S := by
  obtain ⟨h1, h2, h3, h4, h5⟩ := h
  refine ⟨fun i k hi hk => h1 i hi k hk, ⟨0, by omega, h2.1, h2.2, fun j Q hQ => absurd hQ (by simp [A0])⟩, fun m hm => ⟨fun _ => ?_, fun Q hQ => absurd hQ (by simp [A0])⟩, ⟨h4, fun j t ht => absurd ht (by simp [A0])⟩, h5, fun j t ht => absurd ht (by simp [A0])⟩
  have : m = 0 ∨ m = 1 := by omega
  rcases this with rfl | rfl
  · exact h3.1
  · exact h3.2
theorem A0_M {S : evS} (h : InM S) : RepM A0 S := by
  obtain ⟨h1, h3, h2, h4, h5⟩ := h
  refine ⟨fun i k hi hk => by rw [Nat.zero_add]; exact h1 i k hi hk, ⟨h2, fun j Q hQ => absurd hQ (by simp [A0])⟩, fun m hm => ⟨fun _ => ?_, fun Q hQ => absurd hQ (by simp [A0])⟩, ⟨h4, fun j t ht => absurd ht (by simp [A0])⟩, h5, fun j t ht => absurd ht (by simp [A0])⟩
  have : m = 0 ∨ m = 1 := by omega
  rcases this with rfl | rfl
  · exact h3.1
  · exact h3.2
theorem RepM.fr {A : Ab} {S S' : evS} (h : RepM A S) (f : FrC S S') : RepM A S' := h.same (fun a c hr => f.1 a 0 c (by unfold RelM at hr; omega))
theorem RepC.fr {A : Ab} {S S' : evS} (h : RepC A S) (f : FrM S S') : RepC A S' := h.same (fun a b c hr => f a b c (by unfold RelC at hr; omega))
abbrev M_L : evM := (RL, code, 4, ret)
/-- where the law ends: if what is written lies behind what was there -/
def Zl (G : evG) : List Frame → Array Value → State → State → Prop := fun below args s t => (∀ z, evAA G z → s.heap.size ≤ z) → args = #[Value.ref (evad G 60 0)] → lw_Z below args s t
abbrev F_L (G : evG) : evF := (room_1, 206, 3363, Zl G)
abbrev lvL (G : evG) (n : Nat) : List (Nat × Value) := [(3, .int (nI n)), (2, .ref (evad G 30 0)), (1, .ref (evad G 0 0)), (0, .ref (evad G 60 0))]
section ElRows
variable {G : evG} {pc : Nat} {lv : List (Nat × Value)} {st : List Value} {S : evS} {n : Nat}
theorem el_ret : evAt G M_L (F_L G) 877 lv [.int 1] S := by
  intro p e s m args below meth c H locs ls C h1 h2 h3 h4 h5 hl
  by_cases hh : (∀ z, evAA G z → s.heap.size ≤ z) ∧ args = #[Value.ref (evad G 60 0)]
  · obtain ⟨hz, ha⟩ := hh
    have k : W p (evl G) e room_1 s m args below meth c H [] 600000 7302250 (lw_Z below args s) (F0 m 877 ls [.int 1]) := by
      subst ha
      exact lw_ret C.1 C.2.1 C.2.2.2.2.2.1 C.2.2.2.2.2.2 dL_law_877
    refine va_forget (fun q hq => hz _ (h5.2.2 q hq)) (W.widen (k := 600000) (n := 7302250) (by show 206 ≤ 600000; decide) (by show 3363 ≤ 7302250; decide) ?_)
    intro T hT X
    obtain ⟨t, a, b⟩ := k T hT X
    exact ⟨t, a, fun _ _ => b⟩
  · intro T hT X
    exact ⟨_, Steps.refl _, fun a b => absurd ⟨a, b⟩ hh⟩
theorem nI_add5 {n k : Nat} (hn : n < 2600) (hk : k < 6) : nI n + nI k = nI (n + k) := by
  unfold nI
  rw [Int32.ofNat_add]
theorem el_arg {k : Nat} {z : Int} (hz : Int32.ofInt z = nI k) (hk : k < 5) (h0 : decode code pc = .ok (.aload_n 0, 1)) (h1 : decode code (pc + 1) = .ok (.iload_n 3, 1)) (h2 : decode code (pc + 1 + 1) = .ok (.iconst z, 1)) (h3 : decode code (pc + 1 + 1 + 1) = .ok (.iadd, 1)) (h4 : decode code (pc + 1 + 1 + 1 + 1) = .ok (.iaload, 1)) (hn : n + 5 ≤ evL G) (hL : evL G ≤ 2560) {pc' : Nat} (hp : pc + 5 = pc') (K : evAt G M_L (F_L G) pc' (lvL G n) (.int (evxs G (n + k)) :: st) S) : evAt G M_L (F_L G) pc (lvL G n) st S := by
  subst hp
  refine ea_aload_n h0 rfl 3 rfl rfl (ea_iload_n h1 rfl 0 rfl rfl (ea_iconst h2 hz rfl (ea_iadd h3 rfl ?_)))
  rw [nI_add5 (by omega) (by omega)]
  exact ea_sld (vp_in_nI (by omega) (by omega)) h4 (nI_clamp (by omega)) rfl K
end ElRows
section EiEnd
variable {G : evG} {sz pc : Nat} {lv : List (Nat × Value)} {st : List Value} {cells slots : Nat}
abbrev Zi (G : evG) : List Frame → Array Value → State → State → Prop := fun below args s t => args = #[Value.ref (evad G 60 0)] → lw_Z below args s t
/-- from the growing world to the grown one -/
theorem ei_grown {ad : evAd} {S : evS} {K : List (Nat × Nat)} (cK : KCl K) (h60 : ∀ a b, (a, b) ∈ K → a < 60) (k : evAt (eiG G ad K) M_L (room_1, cells, slots, Zl (eiG G ad K)) pc lv st S) : eiAt G M_L room_1 [] sz (Zi G) pc lv st cells slots ([] ++ evwK (evca G) ad S K) := by
  intro p e s m args below meth c H locs ls hz C h1 h2 h3 hl
  have hA : ∀ z, va_A [] sz z → sz ≤ z := by
    rintro z (⟨k, e, h⟩ | h)
    · cases h
    · exact h
  refine va_forget (fun q hq => by rw [hz]; exact hA _ (h3.2.2 q hq)) ?_
  have hAA : ∀ z, evAA (eiG G ad K) z → va_A [] sz z := by
    rintro z ⟨⟨kd, x⟩, hk, rfl⟩
    show va_A [] sz (adR G ad kd x)
    rw [adR_lo (h60 kd x hk)]
    exact (va_D.mem.mp h2).2 _ (List.mem_append_right _ (List.mem_map.mpr ⟨(kd, x), hk, rfl⟩))
  have hKI := C.2.2.2.2.2.2.2.2.1
  have hRA := C.2.2.2.2.2.2.2.2.2
  have p1 : va_P (evD G) vwCl (evwK (evca G) ad S K) H := h1
  have d1 : va_D (va_A [] sz) (evwK (evca G) ad S K) := h2
  have had : ∀ a b, (a, b) ∈ K → adR G ad a b = ad a b := fun a b h => adR_lo (h60 a b h)
  have d2 : va_D (va_A [] sz) (evwK (evca G) (adR G ad) S K) := d1.addr (ek_A had)
  have d3 : va_D (evAA (eiG G ad K)) (evw (eiG G ad K) S) := by
    rw [va_D.mem] at d2 ⊢
    refine ⟨d2.1, fun z hz => ?_⟩
    obtain ⟨⟨kd, x⟩, hk, rfl⟩ := List.mem_map.mp hz
    exact ⟨(kd, x), hk, rfl⟩
  have k2 := k p e s m args below meth c H [] ls ⟨C.1, C.2.1, C.2.2.1, C.2.2.2.1, C.2.2.2.2.1, C.2.2.2.2.2.1, C.2.2.2.2.2.2.1⟩ hKI.1 (show evRA G (evAA (eiG G ad K)) s s.heap from hRA.narrow hAA) (ek_R cK had p1) d3 ⟨h3.1, fun q g1 g2 => h3.2.1 q g1 (fun z => absurd (hA q z) (by omega)), fun _ h => absurd h List.not_mem_nil⟩ hl
  intro T hT X
  obtain ⟨t, a, b⟩ := k2 T hT X
  exact ⟨t, a, fun ha => b (fun z hz' => by rw [hz]; exact hA z (hAA z hz')) ha⟩
end EiEnd
