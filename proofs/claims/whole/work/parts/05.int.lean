/-! NUMBERS: ints of the machine as whole numbers, and the plan's own words -/
def iI (z : Int) : Int32 := Int32.ofInt z
def lI (z : Int) : Int64 := Int64.ofInt z
def rg (z : Int) : Prop := -2147483648 ≤ z ∧ z ≤ 2147483647
def rgl (z : Int) : Prop := -9223372036854775808 ≤ z ∧ z ≤ 9223372036854775807
theorem iI_add (a b : Int) : iI a + iI b = iI (a + b) := (Int32.ofInt_add a b).symm
theorem iI_sub (a b : Int) : iI a - iI b = iI (a - b) := (Int32.ofInt_sub a b).symm
theorem iI_mul (a b : Int) : iI a * iI b = iI (a * b) := (Int32.ofInt_mul a b).symm
theorem iI_neg (a : Int) : -iI a = iI (-a) := (Int32.ofInt_neg a).symm
theorem iI_n (n : Nat) : nI n = iI n := Int32.ofInt_eq_ofNat.symm
theorem iI_0 : (0 : Int32) = iI 0 := rfl
theorem iI_1 : (1 : Int32) = iI 1 := rfl
theorem iI_toInt {z : Int} (h : rg z) : (iI z).toInt = z := Int32.toInt_ofInt_of_le (by have := h.1; omega) (by have := h.2; omega)
theorem iI_lt {a b : Int} (ha : rg a) (hb : rg b) : iI a < iI b ↔ a < b := by rw [Int32.lt_iff_toInt_lt, iI_toInt ha, iI_toInt hb]
theorem iI_le {a b : Int} (ha : rg a) (hb : rg b) : iI a ≤ iI b ↔ a ≤ b := by rw [Int32.le_iff_toInt_le, iI_toInt ha, iI_toInt hb]
theorem iI_eq {a b : Int} (ha : rg a) (hb : rg b) : iI a = iI b ↔ a = b := by rw [← Int32.toInt_inj, iI_toInt ha, iI_toInt hb]
theorem iI_cl {z : Int} (h : rg z) : (iI z).toNatClampNeg = z.toNat := Int32.toNatClampNeg_ofInt_of_le (by have := h.1; omega) (by have := h.2; omega)
theorem iI_div {a b : Int} (ha : rg a) (hb : rg b) : iI a / iI b = iI (a.tdiv b) := (Int32.ofInt_tdiv (a := a) (b := b) ha.1 ha.2 hb.1 hb.2).symm
theorem iI_64 {z : Int} (h : rg z) : (iI z).toInt64 = lI z := Int32.toInt64_ofInt h.1 h.2
theorem lI_32 (z : Int) : (lI z).toInt32 = iI z := Int64.toInt32_ofInt
theorem lI_add (a b : Int) : lI a + lI b = lI (a + b) := (Int64.ofInt_add a b).symm
theorem lI_sub (a b : Int) : lI a - lI b = lI (a - b) := (Int64.ofInt_sub a b).symm
theorem lI_mul (a b : Int) : lI a * lI b = lI (a * b) := (Int64.ofInt_mul a b).symm
theorem lI_neg (a : Int) : -lI a = lI (-a) := (Int64.ofInt_neg a).symm
theorem lI_toInt {z : Int} (h : rgl z) : (lI z).toInt = z := Int64.toInt_ofInt_of_le (by have := h.1; omega) (by have := h.2; omega)
theorem lI_lt {a b : Int} (ha : rgl a) (hb : rgl b) : lI a < lI b ↔ a < b := by rw [Int64.lt_iff_toInt_lt, lI_toInt ha, lI_toInt hb]
theorem lI_le {a b : Int} (ha : rgl a) (hb : rgl b) : lI a ≤ lI b ↔ a ≤ b := by rw [Int64.le_iff_toInt_le, lI_toInt ha, lI_toInt hb]
theorem lI_eq {a b : Int} (ha : rgl a) (hb : rgl b) : lI a = lI b ↔ a = b := by rw [← Int64.toInt_inj, lI_toInt ha, lI_toInt hb]
theorem lI_div {a b : Int} (ha : rgl a) (hb : rgl b) : lI a / lI b = lI (a.tdiv b) := (Int64.ofInt_tdiv (a := a) (b := b) ha.1 ha.2 hb.1 hb.2).symm
theorem rg_rgl {z : Int} (h : rg z) : rgl z := ⟨by have := h.1; omega, by have := h.2; omega⟩
theorem rg_of {z A : Int} (h : -A ≤ z ∧ z ≤ A) (hA : A ≤ 2147483647) : rg z := ⟨by omega, by omega⟩
theorem rgl_of {z A : Int} (h : -A ≤ z ∧ z ≤ A) (hA : A ≤ 9223372036854775807) : rgl z := ⟨by omega, by omega⟩
theorem rg_n {n : Nat} (h : n < 2147483648) : rg n := ⟨by omega, by omega⟩
theorem bmul {a b A B : Int} (h1 : -A ≤ a ∧ a ≤ A) (h2 : -B ≤ b ∧ b ≤ B) : -(A * B) ≤ a * b ∧ a * b ≤ A * B := by
  have hA : 0 ≤ A := by omega
  have hB : 0 ≤ B := by omega
  have ha : a.natAbs ≤ A.toNat := by omega
  have hb : b.natAbs ≤ B.toNat := by omega
  have h := Nat.mul_le_mul ha hb
  rw [← Int.natAbs_mul] at h
  have e : ((A.toNat * B.toNat : Nat) : Int) = A * B := by
    rw [Int.natCast_mul, Int.toNat_of_nonneg hA, Int.toNat_of_nonneg hB]
  omega
-- a plan's words: miles up to a port, LOW, HIGH, marks, hours
def evn (far hr : Nat → Int) (b e p : Nat) : Int := hr b * (far e - far b) + (hr e - hr b) * (far p - far b)
def mss (far low high hr : Nat → Int) (b e p : Nat) : Int :=
  if evn far hr b e p < low p * (far e - far b) then evn far hr b e p - low p * (far e - far b) else max 0 (evn far hr b e p - high p * (far e - far b))
def iabs (z : Int) : Int := if 0 ≤ z then z else -z
/-- the port of most missed among the last n ahead of e, w with m so far -/
def wst (far low high hr : Nat → Int) (b e : Nat) : Nat → Nat → Int → Nat
  | 0, w, _ => w
  | n + 1, w, m => if m < iabs (mss far low high hr b e (e - (n + 1))) then wst far low high hr b e n (e - (n + 1)) (iabs (mss far low high hr b e (e - (n + 1)))) else wst far low high hr b e n w m
def wrst (far low high hr : Nat → Int) (b e : Nat) : Nat := wst far low high hr b e (e - (b + 1)) b 0
/-- the first mark among the last n ports ahead of last, else last -/
def nxe (mk : Nat → Int) (last : Nat) : Nat → Nat
  | 0 => last
  | n + 1 => if mk (last - (n + 1)) = 0 then nxe mk last n else last - (n + 1)
def nxt (mk : Nat → Int) (last b : Nat) : Nat := nxe mk last (last - (b + 1))
def upI (f : Nat → Int) (k : Nat) (v : Int) : Nat → Int := fun j => if j = k then v else f j
def Geo (first last : Nat) (far low high : Nat → Int) : Prop := first ≤ last ∧ last ≤ 6 ∧ (∀ k, k < last → 1 ≤ far (k + 1) - far k ∧ far (k + 1) - far k ≤ 99) ∧ far 0 = 0 ∧ ∀ k, first < k → k ≤ last → -100 ≤ low k ∧ low k ≤ 1100 ∧ -100 ≤ high k ∧ high k ≤ 1100
def Hok (first last : Nat) (mk hr : Nat → Int) : Prop := ∀ k, first ≤ k → k ≤ last → mk k ≠ 0 → -100 ≤ hr k ∧ hr k ≤ 10200
theorem far_d {first last : Nat} {far low high : Nat → Int} (g : Geo first last far low high) : ∀ n b, b + n ≤ last → (n : Int) ≤ far (b + n) - far b ∧ far (b + n) - far b ≤ 99 * n := by
  intro n
  induction n with
  | zero => intro b _; simp
  | succ n ih =>
    intro b hb
    have h1 := ih b (by omega)
    have h2 := g.2.2.1 (b + n) (by omega)
    have e : b + (n + 1) = b + n + 1 := by omega
    rw [e]
    omega
theorem far_be {first last : Nat} {far low high : Nat → Int} (g : Geo first last far low high) {b e : Nat} (h : b ≤ e) (he : e ≤ last) : (e : Int) - b ≤ far e - far b ∧ far e - far b ≤ 594 := by
  have h1 := far_d g (e - b) b (by omega)
  have h2 := g.2.1
  rw [show b + (e - b) = e by omega] at h1
  omega
theorem far_0 {first last : Nat} {far low high : Nat → Int} (g : Geo first last far low high) {e : Nat} (he : e ≤ last) : 0 ≤ far e ∧ far e ≤ 594 := by
  have h1 := far_be g (Nat.zero_le e) he
  have h2 := g.2.2.2.1
  omega
theorem evn_b {first last : Nat} {far low high hr : Nat → Int} (g : Geo first last far low high) {b e p : Nat} (h1 : b ≤ p) (h2 : p ≤ e) (he : e ≤ last) (hb : -100 ≤ hr b ∧ hr b ≤ 10200) (hh : -100 ≤ hr e ∧ hr e ≤ 10200) : -13000000 ≤ evn far hr b e p ∧ evn far hr b e p ≤ 13000000 := by
  have f1 := far_be g (Nat.le_trans h1 h2) he
  have f2 := far_be g h1 (Nat.le_trans h2 he)
  have m1 := bmul (a := hr b) (b := far e - far b) (A := 10200) (B := 594) (by omega) (by omega)
  have m2 := bmul (a := hr e - hr b) (b := far p - far b) (A := 10300) (B := 594) (by omega) (by omega)
  unfold evn
  omega
theorem lowM_b {first last : Nat} {far low high : Nat → Int} (g : Geo first last far low high) {b e : Nat} (h1 : b ≤ e) (he : e ≤ last) {z : Int} (hz : -100 ≤ z ∧ z ≤ 1100) : -700000 ≤ z * (far e - far b) ∧ z * (far e - far b) ≤ 700000 := by
  have f1 := far_be g h1 he
  have m1 := bmul (a := z) (b := far e - far b) (A := 1100) (B := 594) (by omega) (by omega)
  omega
theorem mss_b {first last : Nat} {far low high hr : Nat → Int} (g : Geo first last far low high) {b e p : Nat} (h1 : b ≤ p) (h2 : p ≤ e) (he : e ≤ last) (hfp : first < p) (hb : -100 ≤ hr b ∧ hr b ≤ 10200) (hh : -100 ≤ hr e ∧ hr e ≤ 10200) : -14000000 ≤ mss far low high hr b e p ∧ mss far low high hr b e p ≤ 14000000 := by
  have e1 := evn_b g h1 h2 he hb hh
  have w := g.2.2.2.2 p hfp (Nat.le_trans h2 he)
  have l1 := lowM_b g (Nat.le_trans h1 h2) he (z := low p) (by omega)
  have l2 := lowM_b g (Nat.le_trans h1 h2) he (z := high p) (by omega)
  unfold mss
  split <;> omega
theorem nxe_in {mk : Nat → Int} {last : Nat} : ∀ n, n ≤ last → last - n ≤ nxe mk last n ∧ nxe mk last n ≤ last := by
  intro n
  induction n with
  | zero => intro _; unfold nxe; omega
  | succ n ih =>
    intro h
    have := ih (by omega)
    unfold nxe
    split <;> omega
theorem nxt_in {mk : Nat → Int} {last b : Nat} (h : b < last) : b < nxt mk last b ∧ nxt mk last b ≤ last := by
  have := nxe_in (mk := mk) (last := last) (last - (b + 1)) (by omega)
  unfold nxt
  omega
theorem nxe_mk {mk : Nat → Int} {last : Nat} (hl : mk last ≠ 0) : ∀ n, mk (nxe mk last n) ≠ 0 := by
  intro n
  induction n with
  | zero => exact hl
  | succ n ih =>
    unfold nxe
    split
    · exact ih
    · assumption
theorem nxt_mk {mk : Nat → Int} {last b : Nat} (hl : mk last ≠ 0) : mk (nxt mk last b) ≠ 0 := nxe_mk hl _
theorem wst_in {far low high hr : Nat → Int} {b e : Nat} : ∀ n w m, n < e - b → b ≤ w → w < e → b ≤ wst far low high hr b e n w m ∧ wst far low high hr b e n w m < e := by
  intro n
  induction n with
  | zero => intro w m _ h1 h2; exact ⟨h1, h2⟩
  | succ n ih =>
    intro w m h h1 h2
    unfold wst
    split
    · exact ih _ _ (by omega) (by omega) (by omega)
    · exact ih _ _ (by omega) h1 h2
theorem wrst_in {far low high hr : Nat → Int} {b e : Nat} (h : b < e) : b ≤ wrst far low high hr b e ∧ wrst far low high hr b e < e := wst_in _ _ _ (by omega) (Nat.le_refl b) h
