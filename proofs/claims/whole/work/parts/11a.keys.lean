/-! KEYED WORLDS THAT GROW: what constructors make -/
abbrev evAd : Type := Nat → Nat → Nat
def evwK (ca : Nat → ClassId) (ad : evAd) (S : evS) (K : List (Nat × Nat)) : va_W := K.map fun q => (ad q.1 q.2, evc ca ad S q.1 q.2)
def KCl (K : List (Nat × Nat)) : Prop := (∀ kd x k k2 : Nat, (kd, x) ∈ K → evR kd k = some k2 → (k2, evX kd k x) ∈ K) ∧ ∀ kd x i : Nat, (kd, x) ∈ K → evT kd = 4 → i < evN kd → (evE kd, evEX kd x i) ∈ K
def Agr (K : List (Nat × Nat)) (ad ad' : evAd) (S S' : evS) : Prop := ∀ a b, (a, b) ∈ K → ad' a b = ad a b ∧ S'.1 a b = S.1 a b ∧ S'.2 a b = S.2 a b
theorem arrV_cong {cA : ClassId} {n : Nat} {f g : Nat → Value} (h : ∀ j, j < n → f j = g j) : arrV cA n f = arrV cA n g := by
  unfold arrV
  congr 1
  apply Array.ext
  · simp
  · intro i h1 h2
    simp at h1
    simp [h i h1]
theorem va_P.mem {D : va_G} {cl : List vw_C} {ws : va_W} {H : Heap} : va_P D cl ws H ↔ ∀ q ∈ ws, va_at D cl q H := by
  refine ⟨fun h q hq => ?_, fun h k q hk => h q (List.mem_of_getElem? hk)⟩
  obtain ⟨k, hk⟩ := List.getElem?_of_mem hq
  exact h k q hk
theorem va_D.mem {A : Nat → Prop} {ws : va_W} : va_D A ws ↔ (ws.map Prod.fst).Nodup ∧ ∀ q ∈ ws, A q.1 := by
  constructor
  · rintro ⟨h1, h2⟩
    refine ⟨?_, fun q hq => ?_⟩
    · unfold List.Nodup
      rw [List.pairwise_iff_getElem]
      intro i j hi hj hij e
      have hj' : j < ws.length := by simpa using hj
      have hi' : i < ws.length := by omega
      have := h1 i j _ _ (List.getElem?_eq_getElem hi') (List.getElem?_eq_getElem hj') (by simpa using e)
      omega
    · obtain ⟨k, hk⟩ := List.getElem?_of_mem hq
      exact h2 k q hk
  · rintro ⟨h1, h2⟩
    refine ⟨fun i j p q hi hj e => ?_, fun k q hk => h2 q (List.mem_of_getElem? hk)⟩
    unfold List.Nodup at h1
    rw [List.pairwise_iff_getElem] at h1
    obtain ⟨li, ei⟩ := List.getElem?_eq_some_iff.mp hi
    obtain ⟨lj, ej⟩ := List.getElem?_eq_some_iff.mp hj
    rcases Nat.lt_trichotomy i j with z | z | z
    · exact (h1 i j (by simpa using li) (by simpa using lj) z (by simp [ei, ej, e])).elim
    · exact z
    · exact (h1 j i (by simpa using lj) (by simpa using li) z (by simp [ei, ej, e])).elim
theorem evN9 {kd : Nat} (h0 : ¬ evT kd = 0) (h1 : ¬ evT kd = 1) (h2 : ¬ evT kd = 2) (h3 : ¬ evT kd = 3) (h4 : ¬ evT kd = 4) : evN kd = 0 := by
  unfold evN
  split
  all_goals first | rfl | (exfalso; first | exact h0 rfl | exact h1 rfl | exact h2 rfl | exact h3 rfl | exact h4 rfl)
theorem va_D.addr {A : Nat → Prop} {ws ws' : va_W} (h : va_D A ws) (e : ws'.map Prod.fst = ws.map Prod.fst) : va_D A ws' := by
  rw [va_D.mem] at h ⊢
  rw [e]
  refine ⟨h.1, fun q hq => ?_⟩
  have : q.1 ∈ ws.map Prod.fst := by rw [← e]; exact List.mem_map_of_mem hq
  obtain ⟨r, hr, e2⟩ := List.mem_map.mp this
  rw [← e2]
  exact h.2 r hr
theorem va_P.comm {D : va_G} {cl : List vw_C} {a b c : va_W} {H : Heap} (h : va_P D cl (a ++ b ++ c) H) : va_P D cl (a ++ c ++ b) H := by
  rw [va_P.mem] at h ⊢
  intro q hq
  apply h
  simp only [List.mem_append] at hq ⊢
  rcases hq with (z | z) | z
  · exact Or.inl (Or.inl z)
  · exact Or.inr z
  · exact Or.inl (Or.inr z)
theorem va_D.comm {A : Nat → Prop} {a b c : va_W} (h : va_D A (a ++ b ++ c)) : va_D A (a ++ c ++ b) := by
  rw [va_D.mem] at h ⊢
  refine ⟨?_, fun q hq => h.2 q ?_⟩
  · have p : List.Perm ((a ++ c ++ b).map Prod.fst) ((a ++ b ++ c).map Prod.fst) := by
      apply List.Perm.map
      rw [List.append_assoc, List.append_assoc]
      exact List.Perm.append_left a List.perm_append_comm
    exact p.nodup_iff.mpr h.1
  · simp only [List.mem_append] at hq ⊢
    rcases hq with (z | z) | z
    · exact Or.inl (Or.inl z)
    · exact Or.inr z
    · exact Or.inl (Or.inr z)
/-- a keyed cell, seen with other addresses and stores that agree -/
theorem evc_at {D : va_G} {ca : Nat → ClassId} {ad ad' : evAd} {S S' : evS} {kd x a : Nat} {H : Heap} (hr : ∀ k k2, evR kd k = some k2 → ad' k2 (evX kd k x) = ad k2 (evX kd k x)) (he : evT kd = 4 → ∀ i, i < evN kd → ad' (evE kd) (evEX kd x i) = ad (evE kd) (evEX kd x i)) (h1 : S'.1 kd x = S.1 kd x) (h2 : S'.2 kd x = S.2 kd x) (h : va_at D vwCl (a, evc ca ad S kd x) H) : va_at D vwCl (a, evc ca ad' S' kd x) H := by
  have hf : evf ad' S' kd x = evf ad S kd x := by
    funext k
    unfold evf
    cases hk : evR kd k with
    | none => rw [h1]
    | some k2 => simp only; rw [hr k k2 hk]
  revert h
  unfold evc
  rw [hf, h1, h2]
  split
  · exact id
  · exact id
  · exact id
  · exact id
  · intro h
    rename_i g0 g1 g2 g3
    show H[a]? = some (vp_cell _ _)
    rw [show H[a]? = some (vp_cell (ca (evA kd)) (evN kd, .inr (.inr (.inr (.inr (fun i => some (ad (evE kd) (evEX kd x i)))))))) from h]
    rw [vp_cell_q, vp_cell_q]
    congr 1
    refine arrV_cong (fun j hj => ?_)
    by_cases h4 : evT kd = 4
    · rw [he h4 j hj]
    · have := evN9 g0 g1 g2 g3 h4
      omega
/-- two closed worlds of keys that are apart are one -/
theorem ek_mg {D : va_G} {A : Nat → Prop} {ca : Nat → ClassId} {ad ad1 : evAd} {S S1 : evS} {K K1 : List (Nat × Nat)} {W0 : va_W} {H : Heap} (c : KCl K) (c1 : KCl K1) (dj : ∀ q ∈ K, q ∉ K1) (hP : va_P D vwCl ((W0 ++ evwK ca ad S K) ++ evwK ca ad1 S1 K1) H) (hD : va_D A ((W0 ++ evwK ca ad S K) ++ evwK ca ad1 S1 K1)) :
    ∃ (ad' : evAd) (S' : evS), (∀ a b, (a, b) ∉ K1 → ad' a b = ad a b ∧ S'.1 a b = S.1 a b ∧ S'.2 a b = S.2 a b) ∧ Agr K1 ad1 ad' S1 S' ∧ va_P D vwCl (W0 ++ evwK ca ad' S' (K ++ K1)) H ∧ va_D A (W0 ++ evwK ca ad' S' (K ++ K1)) := by
  refine ⟨fun a b => if (a, b) ∈ K1 then ad1 a b else ad a b, (fun a b => if (a, b) ∈ K1 then S1.1 a b else S.1 a b, fun a b => if (a, b) ∈ K1 then S1.2 a b else S.2 a b), fun a b h => ?_, fun a b h => ?_, ?_, ?_⟩
  · simp only [if_neg h, and_self]
  · simp only [if_pos h, and_self]
  · rw [va_P.mem] at hP ⊢
    intro q hq
    rcases List.mem_append.mp hq with z | z
    · exact hP q (List.mem_append_left _ (List.mem_append_left _ z))
    · obtain ⟨⟨kd, x⟩, hk, rfl⟩ := List.mem_map.mp z
      rcases List.mem_append.mp hk with y | y
      · have n1 := dj _ y
        have hq0 := hP (ad kd x, evc ca ad S kd x) (List.mem_append_left _ (List.mem_append_right _ (List.mem_map.mpr ⟨(kd, x), y, rfl⟩)))
        simp only [if_neg n1]
        refine evc_at (fun k k2 e => ?_) (fun e i hi => ?_) (by simp only [if_neg n1]) (by simp only [if_neg n1]) hq0
        · rw [if_neg (dj _ (c.1 kd x k k2 y e))]
        · rw [if_neg (dj _ (c.2 kd x i y e hi))]
      · have hq0 := hP (ad1 kd x, evc ca ad1 S1 kd x) (List.mem_append_right _ (List.mem_map.mpr ⟨(kd, x), y, rfl⟩))
        simp only [if_pos y]
        refine evc_at (fun k k2 e => ?_) (fun e i hi => ?_) (by simp only [if_pos y]) (by simp only [if_pos y]) hq0
        · rw [if_pos (c1.1 kd x k k2 y e)]
        · rw [if_pos (c1.2 kd x i y e hi)]
  · refine hD.addr ?_
    unfold evwK
    simp only [List.map_append, List.map_map, List.append_assoc]
    congr 1
    congr 1
    · apply List.map_congr_left
      intro q hq
      show (if (q.1, q.2) ∈ K1 then _ else _) = _
      rw [if_neg (dj q hq)]
      rfl
    · apply List.map_congr_left
      intro q hq
      show (if (q.1, q.2) ∈ K1 then _ else _) = _
      rw [if_pos hq]
      rfl
/-- behind a constructor: its world stands where its blank cell stood -/
theorem ek_join {D : va_G} {cl : List vw_C} {A0 : Nat → Prop} {ws w1 : va_W} {q : Nat} {e : va_E} {H H1 : Heap} (hP : va_P D cl (ws ++ [(q, e)]) H) (hD : va_D A0 (ws ++ [(q, e)])) (hk : ∀ z : Nat, z < H.size → ¬ va_A [(q, e)] H.size z → H1[z]? = H[z]?) (hF : ∀ z, va_A [(q, e)] H.size z → A0 z) (hP1 : va_P D cl w1 H1) (hD1 : va_D (va_A [(q, e)] H.size) w1) : va_P D cl (ws ++ w1) H1 ∧ va_D A0 (ws ++ w1) := by
  rw [va_P.mem] at hP hP1
  rw [va_D.mem] at hD hD1
  have ap : ∀ r ∈ ws, r.1 < H.size ∧ ¬ va_A [(q, e)] H.size r.1 := by
    intro r hr
    have h1 := hP r (List.mem_append_left _ hr)
    refine ⟨h1.lt, ?_⟩
    rintro (⟨k, e2, h⟩ | h)
    · have hk0 : k = 0 := by
        have := (List.getElem?_eq_some_iff.mp h).1
        simp at this
        exact this
      subst hk0
      have e3 : (q, e) = (r.1, e2) := Option.some.inj h
      have hn := hD.1
      rw [List.map_append, List.nodup_append] at hn
      exact hn.2.2 r.1 (List.mem_map_of_mem hr) q (by simp) (by rw [show q = r.1 from congrArg Prod.fst e3])
    · have := h1.lt
      omega
  refine ⟨?_, ?_⟩
  · rw [va_P.mem]
    intro r hr
    rcases List.mem_append.mp hr with z | z
    · exact (hP r (List.mem_append_left _ z)).kept (hk r.1 (ap r z).1 (ap r z).2)
    · exact hP1 r z
  · rw [va_D.mem]
    refine ⟨?_, fun r hr => ?_⟩
    · have hn := hD.1
      rw [List.map_append, List.nodup_append] at hn ⊢
      refine ⟨hn.1, hD1.1, fun a ha b hb e1 => ?_⟩
      obtain ⟨r, hr, rfl⟩ := List.mem_map.mp ha
      obtain ⟨u, hu, rfl⟩ := List.mem_map.mp hb
      exact (ap r hr).2 (by rw [e1]; exact hD1.2 u hu)
    · rcases List.mem_append.mp hr with z | z
      · exact hD.2 r (List.mem_append_left _ z)
      · exact hF _ (hD1.2 r z)
/-- one cell more -/
theorem ek_one {D : va_G} {A : Nat → Prop} {ca : Nat → ClassId} {ad : evAd} {S : evS} {K : List (Nat × Nat)} {W0 : va_W} {H : Heap} {kd x q : Nat} {e : va_E} (f1 : Nat → Int32) (f2 : Nat → Int64) (c : KCl K) (hx : (kd, x) ∉ K) (hP : va_P D vwCl ((W0 ++ evwK ca ad S K) ++ [(q, e)]) H) (hD : va_D A ((W0 ++ evwK ca ad S K) ++ [(q, e)]))
    (he : ∀ (ad' : evAd) (S' : evS), (∀ a b, ¬ (a = kd ∧ b = x) → ad' a b = ad a b) → S'.1 kd x = f1 → S'.2 kd x = f2 → va_at D vwCl (q, e) H → va_at D vwCl (q, evc ca ad' S' kd x) H) :
    ∃ (ad' : evAd) (S' : evS), (∀ a b, ¬ (a = kd ∧ b = x) → ad' a b = ad a b ∧ S'.1 a b = S.1 a b ∧ S'.2 a b = S.2 a b) ∧ ad' kd x = q ∧ S'.1 kd x = f1 ∧ S'.2 kd x = f2 ∧ va_P D vwCl (W0 ++ evwK ca ad' S' (K ++ [(kd, x)])) H ∧ va_D A (W0 ++ evwK ca ad' S' (K ++ [(kd, x)])) := by
  have ne : ∀ a b, (a, b) ∈ K → ¬ (a = kd ∧ b = x) := by
    rintro a b h ⟨rfl, rfl⟩
    exact hx h
  have p1 : ∀ a b, ¬ (a = kd ∧ b = x) → (if a = kd ∧ b = x then q else ad a b) = ad a b := fun a b h => if_neg h
  refine ⟨fun a b => if a = kd ∧ b = x then q else ad a b, (fun a b => if a = kd ∧ b = x then f1 else S.1 a b, fun a b => if a = kd ∧ b = x then f2 else S.2 a b), fun a b h => ?_, ?_, ?_, ?_, ?_, ?_⟩
  · simp only [if_neg h, and_self]
  · simp
  · simp
  · simp
  · rw [va_P.mem] at hP ⊢
    intro r hr
    rcases List.mem_append.mp hr with z | z
    · exact hP r (List.mem_append_left _ (List.mem_append_left _ z))
    · obtain ⟨⟨k2, x2⟩, hk, rfl⟩ := List.mem_map.mp z
      rcases List.mem_append.mp hk with y | y
      · have hq0 := hP (ad k2 x2, evc ca ad S k2 x2) (List.mem_append_left _ (List.mem_append_right _ (List.mem_map.mpr ⟨(k2, x2), y, rfl⟩)))
        simp only [if_neg (ne _ _ y)]
        refine evc_at (fun k k3 e => ?_) (fun e i hi => ?_) (by simp only [if_neg (ne _ _ y)]) (by simp only [if_neg (ne _ _ y)]) hq0
        · exact if_neg (ne _ _ (c.1 k2 x2 k k3 y e))
        · exact if_neg (ne _ _ (c.2 k2 x2 i y e hi))
      · rw [List.mem_singleton] at y
        obtain ⟨rfl, rfl⟩ := Prod.mk.inj y
        have hq0 := hP (q, e) (List.mem_append_right _ (List.mem_singleton.mpr rfl))
        have := he (fun a b => if a = k2 ∧ b = x2 then q else ad a b) (fun a b => if a = k2 ∧ b = x2 then f1 else S.1 a b, fun a b => if a = k2 ∧ b = x2 then f2 else S.2 a b) p1 (by simp) (by simp) hq0
        simp only [and_self, if_true]
        exact this
  · refine hD.addr ?_
    unfold evwK
    simp only [List.map_append, List.map_map, List.append_assoc]
    congr 1
    congr 1
    · apply List.map_congr_left
      intro r hr
      show (if r.1 = kd ∧ r.2 = x then q else ad r.1 r.2) = _
      rw [if_neg (ne r.1 r.2 hr)]
      rfl
    · simp
theorem KCl.app {K K1 : List (Nat × Nat)} (c : KCl K) (c1 : KCl K1) : KCl (K ++ K1) := by
  refine ⟨fun kd x k k2 h e => ?_, fun kd x i h e hi => ?_⟩
  · rcases List.mem_append.mp h with z | z
    · exact List.mem_append_left _ (c.1 kd x k k2 z e)
    · exact List.mem_append_right _ (c1.1 kd x k k2 z e)
  · rcases List.mem_append.mp h with z | z
    · exact List.mem_append_left _ (c.2 kd x i z e hi)
    · exact List.mem_append_right _ (c1.2 kd x i z e hi)
theorem KCl.nil : KCl [] := ⟨fun _ _ _ _ h _ => absurd h List.not_mem_nil, fun _ _ _ h _ _ => absurd h List.not_mem_nil⟩
theorem KCl.one {K : List (Nat × Nat)} {kd x : Nat} (c : KCl K) (h1 : ∀ k k2, evR kd k = some k2 → (k2, evX kd k x) ∈ K) (h2 : evT kd = 4 → ∀ i, i < evN kd → (evE kd, evEX kd x i) ∈ K) : KCl (K ++ [(kd, x)]) := by
  refine ⟨fun a b k k2 h e => ?_, fun a b i h e hi => ?_⟩
  · rcases List.mem_append.mp h with z | z
    · exact List.mem_append_left _ (c.1 a b k k2 z e)
    · rw [List.mem_singleton] at z
      obtain ⟨rfl, rfl⟩ := Prod.mk.inj z
      exact List.mem_append_left _ (h1 k k2 e)
  · rcases List.mem_append.mp h with z | z
    · exact List.mem_append_left _ (c.2 a b i z e hi)
    · rw [List.mem_singleton] at z
      obtain ⟨rfl, rfl⟩ := Prod.mk.inj z
      exact List.mem_append_left _ (h2 e i hi)
