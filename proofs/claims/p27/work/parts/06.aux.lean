/-! more rows of mine: rows of an array of arrays -/
theorem inb_lt {i : Int32} {n : Nat} (h : inb i n = true) : i.toNatClampNeg < n := Nat.not_le.mp fun q => (of_decide_eq_true h : ¬ (i < 0 ∨ n ≤ i.toNatClampNeg)) (Or.inr q)
theorem znd2 {i j : Nat} (h : ¬ i = j) : va_nd [i, j] = true := by simp [va_nd, h]
theorem zmap2 {ws : va_W} {i j : Nat} {q r : Nat × va_E} (h1 : ws[i]? = some q) (h2 : ws[j]? = some r) : [i, j].map (fun i => ws[i]?) = [q, r].map some := by simp [h1, h2]
theorem zset_same {ws : va_W} {i : Nat} {q : Nat × va_E} (h : ws[i]? = some q) : ws.set i q = ws := by
  apply List.ext_getElem?
  intro k
  by_cases hk : k = i
  · subst hk
    rw [List.getElem?_set_self (List.getElem?_eq_some_iff.mp h).1, h]
  · rw [List.getElem?_set_ne (Ne.symm hk)]
theorem lt8 {P : Nat → Prop} (h0 : P 0) (h1 : P 1) (h2 : P 2) (h3 : P 3) (h4 : P 4) (h5 : P 5) (h6 : P 6) (h7 : P 7) {j : Nat} (h : j < 8) : P j := by
  rcases (show j = 0 ∨ j = 1 ∨ j = 2 ∨ j = 3 ∨ j = 4 ∨ j = 5 ∨ j = 6 ∨ j = 7 by omega) with rfl | rfl | rfl | rfl | rfl | rfl | rfl | rfl <;> assumption