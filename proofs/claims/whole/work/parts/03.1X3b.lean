abbrev bk_X1_lose_0 (G : evG) (d : Nat) (Q : Option Value → evS → Prop) (x0 : Nat) (S : evS) : Prop := evAt G M_X1_lose (evFm G d Q) 0 [(0, .ref (evad G 16 x0))] [] S
set_option maxRecDepth 100000 in
set_option maxHeartbeats 4000000 in
theorem vb_X1_lose_0 {G : evG} {d : Nat} {q : evS → Prop} (hCl : evCl G) {x0 : Nat} {S : evS} (hVl0 : (16, x0) ∈ evKs G)
    (h : (∀ S1 : evS, S1 = evup S 16 x0 2 0 → q S1)) : bk_X1_lose_0 G d (evQV q) x0 S := by
  refine ea_aload_n (pc' := 1) (i := 0) dX1_lose_0 rfl 0 rfl rfl ?_
  refine ea_iconst (v := 0) (pc' := 2) dX1_lose_1 (by decide) rfl ?_
  refine ea_puti (kf := 2) (pc' := 5) kok_16 hVl0 (by decide) rfl fl_X1_19 rfl rfl dX1_lose_2 rfl ?_
  refine ea_tops (fun S1 hS1 => ?_)
  replace h := h S1 hS1
  exact ea_vret rfl dX1_lose_5 ⟨rfl, h⟩
theorem vm_X1_lose {G : evG} {d : Nat} {q : evS → Prop} {x0 : Nat} {S : evS} (h : bk_X1_lose_0 G d (evQV q) x0 S) : evSp G yX1_lose M_X1_lose d [.ref (evad G 16 x0)] S (evQV q) :=
  evSp.of (by decide +kernel) rfl (Nat.le_of_ble_eq_true rfl) h
