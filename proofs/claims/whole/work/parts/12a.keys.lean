/-! CONSTRUCTORS: finite key lists by looking, arrays by kind -/
def kclB (K : List (Nat × Nat)) : Bool := K.all fun q => (List.range 25).all (fun k => match evR q.1 k with
  | none => true
  | some k2 => K.contains (k2, evX q.1 k q.2)) && (evT q.1 != 4 || (List.range (evN q.1)).all fun i => K.contains (evE q.1, evEX q.1 q.2 i))
theorem evR_25 {kd k k2 : Nat} (h : evR kd k = some k2) : k < 25 := by
  unfold evR at h
  split at h
  all_goals first | omega | (exact absurd h (by simp))
theorem KCl.b {K : List (Nat × Nat)} (h : kclB K = true) : KCl K := by
  unfold kclB at h
  rw [List.all_eq_true] at h
  refine ⟨fun kd x k k2 hm e => ?_, fun kd x i hm e hi => ?_⟩
  · have h1 := h (kd, x) hm
    rw [Bool.and_eq_true] at h1
    have h2 := List.all_eq_true.mp h1.1 k (List.mem_range.mpr (evR_25 e))
    simp only [e] at h2
    exact List.contains_iff_mem.mp h2
  · have h1 := h (kd, x) hm
    rw [Bool.and_eq_true, Bool.or_eq_true] at h1
    rcases h1.2 with h3 | h3
    · simp only [bne_iff_ne] at h3
      exact absurd e h3
    · exact List.contains_iff_mem.mp (List.all_eq_true.mp h3 i (List.mem_range.mpr hi))
theorem kcl_n {f : Nat → List (Nat × Nat)} (n : Nat) (h : ∀ x : Fin n, kclB (f x.1) = true) (x : Nat) (hx : x < n) : KCl (f x) := KCl.b (h ⟨x, hx⟩)
def djB (K K1 : List (Nat × Nat)) : Bool := K.all fun q => !K1.contains q
theorem dj_b {K K1 : List (Nat × Nat)} (h : djB K K1 = true) : ∀ q ∈ K, q ∉ K1 := by
  intro q hq hm
  have := List.all_eq_true.mp h q hq
  rw [List.contains_iff_mem.mpr hm] at this
  cases this
theorem dj_n {f g : Nat → List (Nat × Nat)} (n : Nat) (h : ∀ x : Fin n, djB (f x.1) (g x.1) = true) (x : Nat) (hx : x < n) : ∀ q ∈ f x, q ∉ g x := dj_b (h ⟨x, hx⟩)
section EiArr
variable {G : evG} {M : evM} {R : Room} {w0 : va_W} {sz : Nat} {Z : List Frame → Array Value → State → State → Prop} {pc : Nat} {lv lv' : List (Nat × Value)} {st : List Value} {cells slots : Nat} {w : va_W}
theorem ei_newI {W0 : va_W} {ad : evAd} {S : evS} {K : List (Nat × Nat)} (kd2 x2 : Nat) {N : Nat} {n : Int32} (hT : evT kd2 = 1) (hE : evN kd2 = N) (hn : ¬ n < 0 ∧ n.toNatClampNeg = N) (hby : N ≤ 9000) (hc1 : cells + 1 ≤ R.cells) (hc2 : slots + N ≤ R.slots) (hd : decode M.2.1 pc = .ok (.newarray .int, 2)) (cK : KCl K) (hx : (kd2, x2) ∉ K) {pc' : Nat} (hp : pc + 2 = pc')
    (k : ∀ (q : Nat) (ad' : evAd) (S' : evS), (∀ a b, ¬ (a = kd2 ∧ b = x2) → ad' a b = ad a b ∧ S'.1 a b = S.1 a b ∧ S'.2 a b = S.2 a b) → ad' kd2 x2 = q → S'.1 kd2 x2 = (fun _ => 0) → eiAt G M R w0 sz Z pc' lv (.ref q :: st) (cells + 1) (slots + N) (W0 ++ evwK (evca G) ad' S' (K ++ [(kd2, x2)]))) : eiAt G M R w0 sz Z pc lv (.int n :: st) cells slots (W0 ++ evwK (evca G) ad S K) :=
  ei_newa (t0 := 0) (ty := .int) (a0 := (N, .inl fun _ => 0)) rfl (ev_in (by decide +kernel) rfl) rfl (fun U cA h => h) (fun cA => vp_cell_i cA N _) (fun ad' S' h1 h2 => by simp only [evc, hT, hE, h1]) hn.1 hn.2 (by show N * 4 ≤ _; omega) hc1 hc2 hd cK hx hp k
theorem ei_newZ {W0 : va_W} {ad : evAd} {S : evS} {K : List (Nat × Nat)} (kd2 x2 : Nat) {N : Nat} {n : Int32} (hT : evT kd2 = 3) (hE : evN kd2 = N) (hn : ¬ n < 0 ∧ n.toNatClampNeg = N) (hby : N ≤ 9000) (hc1 : cells + 1 ≤ R.cells) (hc2 : slots + N ≤ R.slots) (hd : decode M.2.1 pc = .ok (.newarray .boolean, 2)) (cK : KCl K) (hx : (kd2, x2) ∉ K) {pc' : Nat} (hp : pc + 2 = pc')
    (k : ∀ (q : Nat) (ad' : evAd) (S' : evS), (∀ a b, ¬ (a = kd2 ∧ b = x2) → ad' a b = ad a b ∧ S'.1 a b = S.1 a b ∧ S'.2 a b = S.2 a b) → ad' kd2 x2 = q → S'.1 kd2 x2 = (fun _ => 0) → eiAt G M R w0 sz Z pc' lv (.ref q :: st) (cells + 1) (slots + N) (W0 ++ evwK (evca G) ad' S' (K ++ [(kd2, x2)]))) : eiAt G M R w0 sz Z pc lv (.int n :: st) cells slots (W0 ++ evwK (evca G) ad S K) :=
  ei_newa (t0 := 2) (ty := .boolean) (a0 := (N, .inl fun _ => 0)) rfl (ev_in (by decide +kernel) rfl) rfl (fun U cA h => h) (fun cA => vp_cell_i cA N _) (fun ad' S' h1 h2 => by simp only [evc, hT, hE, h1]) hn.1 hn.2 (by show N * 1 ≤ _; omega) hc1 hc2 hd cK hx hp k
theorem ei_newJ {W0 : va_W} {ad : evAd} {S : evS} {K : List (Nat × Nat)} (kd2 x2 : Nat) {N : Nat} {n : Int32} (hT : evT kd2 = 2) (hE : evN kd2 = N) (hn : ¬ n < 0 ∧ n.toNatClampNeg = N) (hby : N ≤ 9000) (hc1 : cells + 1 ≤ R.cells) (hc2 : slots + N ≤ R.slots) (hd : decode M.2.1 pc = .ok (.newarray .long, 2)) (cK : KCl K) (hx : (kd2, x2) ∉ K) {pc' : Nat} (hp : pc + 2 = pc')
    (k : ∀ (q : Nat) (ad' : evAd) (S' : evS), (∀ a b, ¬ (a = kd2 ∧ b = x2) → ad' a b = ad a b ∧ S'.1 a b = S.1 a b ∧ S'.2 a b = S.2 a b) → ad' kd2 x2 = q → S'.1 kd2 x2 = (fun _ => 0) → eiAt G M R w0 sz Z pc' lv (.ref q :: st) (cells + 1) (slots + N) (W0 ++ evwK (evca G) ad' S' (K ++ [(kd2, x2)]))) : eiAt G M R w0 sz Z pc lv (.int n :: st) cells slots (W0 ++ evwK (evca G) ad S K) :=
  ei_newa (t0 := 1) (ty := .long) (a0 := (N, .inr (.inl fun _ => 0))) rfl (ev_in (by decide +kernel) rfl) rfl (fun U cA h => h) (fun cA => vp_cell_l cA N _) (fun ad' S' h1 h2 => by simp only [evc, hT, hE, h2]) hn.1 hn.2 (by show N * 8 ≤ _; omega) hc1 hc2 hd cK hx hp k
theorem ei_pf {X Y : va_W} {kd h idx k0 : Nat} {fs : List Value} {v : Value} (ok : evKOk kd) (hi : M.2.2.2 = none) (hw : evFL M.1 idx kd k0) (hk : k0 < (evQ kd).2.2) (hfin : ((evQ kd).2.1 k0).2.2.2 = true) (hdecl : ((evQ kd).2.1 k0).1 = M.1) (hn : narrow (evY kd k0) v = v) (hft : fits (evY kd k0) v = true) (hl0 : k0 < fs.length) (hd : decode M.2.1 pc = .ok (.putfield idx, 3)) {pc' : Nat} (hp : pc + 3 = pc') {fs' : List Value} (hfs : fs.set k0 v = fs') (k : eiAt G M R w0 sz Z pc' lv st cells slots (((h, .inr (evC kd, fs')) :: X) ++ Y)) : eiAt G M R w0 sz Z pc lv (v :: .ref h :: st) cells slots (((h, .inr (evC kd, fs)) :: X) ++ Y) :=
  ei_putF ok hi hw hk hfin hdecl hn hft hl0 hd hp hfs k
theorem ei_pi {X Y : va_W} {kd h idx k0 : Nat} {fs : List Value} {v : Value} (ok : evKOk kd) (hw : evFL M.1 idx kd k0) (hk : k0 < (evQ kd).2.2) (hfin : ((evQ kd).2.1 k0).2.2.2 = false) (hn : narrow (evY kd k0) v = v) (hft : fits (evY kd k0) v = true) (hl0 : k0 < fs.length) (hd : decode M.2.1 pc = .ok (.putfield idx, 3)) {pc' : Nat} (hp : pc + 3 = pc') {fs' : List Value} (hfs : fs.set k0 v = fs') (k : eiAt G M R w0 sz Z pc' lv st cells slots (((h, .inr (evC kd, fs')) :: X) ++ Y)) : eiAt G M R w0 sz Z pc lv (v :: .ref h :: st) cells slots (((h, .inr (evC kd, fs)) :: X) ++ Y) :=
  ei_put ok hw hk hfin hn hft hl0 hd hp hfs k
theorem ei_gf {X Y : va_W} {kd h idx k0 : Nat} {fs : List Value} {v : Value} (ok : evKOk kd) (hw : evFL M.1 idx kd k0) (hk : k0 < (evQ kd).2.2) (hv : fs[k0]? = some v) (hd : decode M.2.1 pc = .ok (.getfield idx, 3)) {pc' : Nat} (hp : pc + 3 = pc') (k : eiAt G M R w0 sz Z pc' lv (v :: st) cells slots (((h, .inr (evC kd, fs)) :: X) ++ Y)) : eiAt G M R w0 sz Z pc lv (.ref h :: st) cells slots (((h, .inr (evC kd, fs)) :: X) ++ Y) :=
  ei_get ok hw hk rfl hv hd hp k
end EiArr
