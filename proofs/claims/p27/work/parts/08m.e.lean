/-! a game of the class, what always holds of it, and the row of the reference that tells it -/
def inS (mx c : Nat) : Prop := c / 10 ≤ c % 10 ∧ c % 10 ≤ mx
/-- how many tiles are in hands -/
def hT (H : Nat → Int32) : Nat := cn (fun c => decide (¬ H c = -1)) 0 100
/-- how many of the first m lie on train t -/
def cT (U : Nat → Int32) (t m : Nat) : Nat := cn (fun i => decide (U i = nI t)) 0 m
def Inv (g : GS) (mx np hs hb tn pa f e n : Nat) : Prop :=
  (g.1.1 0 = nI mx ∧ 3 ≤ mx ∧ mx ≤ 9) ∧
  (g.1.1 1 = nI np ∧ 2 ≤ np ∧ np ≤ 4) ∧
  (g.1.1 2 = nI hs ∧ 1 ≤ hs ∧ hs ≤ 12) ∧
  (g.1.1 3 = nI hb ∧ hb ≤ mx) ∧
  (g.1.1 5 = nI tn ∧ tn < np) ∧
  (g.1.1 6 = 0 ∨ g.1.1 6 = 1) ∧
  (g.1.1 7 = -1 ∨ ∃ u, u ≤ np ∧ g.1.1 7 = nI u) ∧
  (g.1.1 8 = 0 ∨ g.1.1 8 = 1) ∧
  (g.1.1 10 = nI pa ∧ pa ≤ np) ∧
  (∀ c, c < 100 → g.1.2 0 c = -1 ∨ ((∃ p, p < np ∧ g.1.2 0 c = nI p) ∧ inS mx c)) ∧
  (g.2.2.1.1 0 = nI f ∧ g.2.2.1.1 1 = nI e ∧ f ≤ e ∧ e ≤ 54) ∧
  (∀ i, i < e → ∃ c, c < 100 ∧ g.2.2.1.2 0 i = nI c ∧ inS mx c) ∧
  (g.2.2.2.1 0 = nI n) ∧
  (∀ i, i < n → (∃ c, c < 100 ∧ g.2.2.2.2 0 i = nI c ∧ inS mx c) ∧ ∃ u, u ≤ np ∧ g.2.2.2.2 1 i = nI u) ∧
  (gE np g) ∧
  (∀ t, t ≤ np → g.2.2.2.2 3 t = 0 ∨ g.2.2.2.2 3 t = 1) ∧
  (hT (g.1.2 0) + (e - f) + n ≤ 54)
theorem Inv.mx {g : GS} {mx np hs hb tn pa f e n : Nat} (h : Inv g mx np hs hb tn pa f e n) : g.1.1 0 = nI mx ∧ 3 ≤ mx ∧ mx ≤ 9 := h.1
theorem Inv.np {g : GS} {mx np hs hb tn pa f e n : Nat} (h : Inv g mx np hs hb tn pa f e n) : g.1.1 1 = nI np ∧ 2 ≤ np ∧ np ≤ 4 := h.2.1
theorem Inv.hs {g : GS} {mx np hs hb tn pa f e n : Nat} (h : Inv g mx np hs hb tn pa f e n) : g.1.1 2 = nI hs ∧ 1 ≤ hs ∧ hs ≤ 12 := h.2.2.1
theorem Inv.hb {g : GS} {mx np hs hb tn pa f e n : Nat} (h : Inv g mx np hs hb tn pa f e n) : g.1.1 3 = nI hb ∧ hb ≤ mx := h.2.2.2.1
theorem Inv.tn {g : GS} {mx np hs hb tn pa f e n : Nat} (h : Inv g mx np hs hb tn pa f e n) : g.1.1 5 = nI tn ∧ tn < np := h.2.2.2.2.1
theorem Inv.dr {g : GS} {mx np hs hb tn pa f e n : Nat} (h : Inv g mx np hs hb tn pa f e n) : g.1.1 6 = 0 ∨ g.1.1 6 = 1 := h.2.2.2.2.2.1
theorem Inv.un {g : GS} {mx np hs hb tn pa f e n : Nat} (h : Inv g mx np hs hb tn pa f e n) : g.1.1 7 = -1 ∨ ∃ u, u ≤ np ∧ g.1.1 7 = nI u := h.2.2.2.2.2.2.1
theorem Inv.ov {g : GS} {mx np hs hb tn pa f e n : Nat} (h : Inv g mx np hs hb tn pa f e n) : g.1.1 8 = 0 ∨ g.1.1 8 = 1 := h.2.2.2.2.2.2.2.1
theorem Inv.pa {g : GS} {mx np hs hb tn pa f e n : Nat} (h : Inv g mx np hs hb tn pa f e n) : g.1.1 10 = nI pa ∧ pa ≤ np := h.2.2.2.2.2.2.2.2.1
theorem Inv.H {g : GS} {mx np hs hb tn pa f e n : Nat} (h : Inv g mx np hs hb tn pa f e n) : ∀ c, c < 100 → g.1.2 0 c = -1 ∨ ((∃ p, p < np ∧ g.1.2 0 c = nI p) ∧ inS mx c) := h.2.2.2.2.2.2.2.2.2.1
theorem Inv.st {g : GS} {mx np hs hb tn pa f e n : Nat} (h : Inv g mx np hs hb tn pa f e n) : g.2.2.1.1 0 = nI f ∧ g.2.2.1.1 1 = nI e ∧ f ≤ e ∧ e ≤ 54 := h.2.2.2.2.2.2.2.2.2.2.1
theorem Inv.K {g : GS} {mx np hs hb tn pa f e n : Nat} (h : Inv g mx np hs hb tn pa f e n) : ∀ i, i < e → ∃ c, c < 100 ∧ g.2.2.1.2 0 i = nI c ∧ inS mx c := h.2.2.2.2.2.2.2.2.2.2.2.1
theorem Inv.n {g : GS} {mx np hs hb tn pa f e n : Nat} (h : Inv g mx np hs hb tn pa f e n) : g.2.2.2.1 0 = nI n := h.2.2.2.2.2.2.2.2.2.2.2.2.1
theorem Inv.T {g : GS} {mx np hs hb tn pa f e n : Nat} (h : Inv g mx np hs hb tn pa f e n) : ∀ i, i < n → (∃ c, c < 100 ∧ g.2.2.2.2 0 i = nI c ∧ inS mx c) ∧ ∃ u, u ≤ np ∧ g.2.2.2.2 1 i = nI u := h.2.2.2.2.2.2.2.2.2.2.2.2.2.1
theorem Inv.E {g : GS} {mx np hs hb tn pa f e n : Nat} (h : Inv g mx np hs hb tn pa f e n) : gE np g := h.2.2.2.2.2.2.2.2.2.2.2.2.2.2.1
theorem Inv.O {g : GS} {mx np hs hb tn pa f e n : Nat} (h : Inv g mx np hs hb tn pa f e n) : ∀ t, t ≤ np → g.2.2.2.2 3 t = 0 ∨ g.2.2.2.2 3 t = 1 := h.2.2.2.2.2.2.2.2.2.2.2.2.2.2.2.1
theorem Inv.cnt {g : GS} {mx np hs hb tn pa f e n : Nat} (h : Inv g mx np hs hb tn pa f e n) : hT (g.1.2 0) + (e - f) + n ≤ 54 := h.2.2.2.2.2.2.2.2.2.2.2.2.2.2.2.2
def gEq (g go : GS) : Prop :=
  (∀ k, k < 11 → g.1.1 k = go.1.1 k) ∧
  (g.2.1 = go.2.1) ∧
  (∀ c, c < 100 → g.1.2 0 c = go.1.2 0 c) ∧
  (∀ c, c < 4 → g.1.2 1 c = go.1.2 1 c) ∧
  (g.2.2.1.1 0 = go.2.2.1.1 0) ∧
  (g.2.2.1.1 1 = go.2.2.1.1 1) ∧
  (∀ c, c < 55 → g.2.2.1.2 0 c = go.2.2.1.2 0 c) ∧
  (g.2.2.2.1 0 = go.2.2.2.1 0) ∧
  (∀ c, c < 55 → g.2.2.2.2 0 c = go.2.2.2.2 0 c) ∧
  (∀ c, c < 55 → g.2.2.2.2 1 c = go.2.2.2.2 1 c) ∧
  (∀ c, c < 5 → g.2.2.2.2 2 c = go.2.2.2.2 2 c) ∧
  (∀ c, c < 5 → g.2.2.2.2 3 c = go.2.2.2.2 3 c)
theorem gEq.S {g go : GS} (h : gEq g go) : ∀ k, k < 11 → g.1.1 k = go.1.1 k := h.1
theorem gEq.fo {g go : GS} (h : gEq g go) : g.2.1 = go.2.1 := h.2.1
theorem gEq.H {g go : GS} (h : gEq g go) : ∀ c, c < 100 → g.1.2 0 c = go.1.2 0 c := h.2.2.1
theorem gEq.tot {g go : GS} (h : gEq g go) : ∀ c, c < 4 → g.1.2 1 c = go.1.2 1 c := h.2.2.2.1
theorem gEq.k0 {g go : GS} (h : gEq g go) : g.2.2.1.1 0 = go.2.2.1.1 0 := h.2.2.2.2.1
theorem gEq.k1 {g go : GS} (h : gEq g go) : g.2.2.1.1 1 = go.2.2.1.1 1 := h.2.2.2.2.2.1
theorem gEq.K {g go : GS} (h : gEq g go) : ∀ c, c < 55 → g.2.2.1.2 0 c = go.2.2.1.2 0 c := h.2.2.2.2.2.2.1
theorem gEq.n {g go : GS} (h : gEq g go) : g.2.2.2.1 0 = go.2.2.2.1 0 := h.2.2.2.2.2.2.2.1
theorem gEq.T {g go : GS} (h : gEq g go) : ∀ c, c < 55 → g.2.2.2.2 0 c = go.2.2.2.2 0 c := h.2.2.2.2.2.2.2.2.1
theorem gEq.U {g go : GS} (h : gEq g go) : ∀ c, c < 55 → g.2.2.2.2 1 c = go.2.2.2.2 1 c := h.2.2.2.2.2.2.2.2.2.1
theorem gEq.E {g go : GS} (h : gEq g go) : ∀ c, c < 5 → g.2.2.2.2 2 c = go.2.2.2.2 2 c := h.2.2.2.2.2.2.2.2.2.2.1
theorem gEq.O {g go : GS} (h : gEq g go) : ∀ c, c < 5 → g.2.2.2.2 3 c = go.2.2.2.2 3 c := h.2.2.2.2.2.2.2.2.2.2.2
theorem cT_le (U : Nat → Int32) (t m : Nat) : cT U t m ≤ m := cn_le _ _ _
theorem cn_snoc {P : Nat → Bool} : ∀ n k, cn P k (n + 1) = cn P k n + (if P (k + n) = true then 1 else 0)
  | 0, k => by
    show (if P k = true then 1 else 0) + 0 = 0 + (if P k = true then 1 else 0)
    omega
  | n + 1, k => by
    show (if P k = true then 1 else 0) + cn P (k + 1) (n + 1) = (if P k = true then 1 else 0) + cn P (k + 1) n + (if P (k + (n + 1)) = true then 1 else 0)
    rw [cn_snoc n (k + 1), show k + 1 + n = k + (n + 1) by omega]
    omega
theorem cT_succ (U : Nat → Int32) (t m : Nat) : cT U t (m + 1) = cT U t m + (if U m = nI t then 1 else 0) := by
  unfold cT
  rw [cn_snoc, Nat.zero_add]
  simp only [decide_eq_true_eq]
theorem cT_congr {U V : Nat → Int32} (t : Nat) {m : Nat} (h : ∀ i, i < m → U i = V i) : cT U t m = cT V t m := cn_congr m 0 (fun j _ hj => by rw [h j (by omega)])
theorem hT_congr {H L : Nat → Int32} (h : ∀ c, c < 100 → H c = L c) : hT H = hT L := cn_congr 100 0 (fun j _ hj => by rw [h j (by omega)])
theorem hcN_congr {H L : Nat → Int32} (p : Int32) (h : ∀ c, c < 100 → H c = L c) : hcN H p = hcN L p := cn_congr 100 0 (fun j _ hj => by rw [h j (by omega)])
theorem hpI_congr {H L : Nat → Int32} (p : Int32) (h : ∀ c, c < 100 → H c = L c) : hpI H p = hpI L p := sI_congr 100 0 (fun j _ hj => by rw [h j (by omega)])
theorem gEq.inv {g go : GS} {mx np hs hb tn pa f e n : Nat} (q : gEq g go) (h : Inv go mx np hs hb tn pa f e n) : Inv g mx np hs hb tn pa f e n := by
  have hn4 := h.np.2.2
  have he := h.st.2.2.2
  have hn54 : n ≤ 54 := by have := h.cnt; omega
  refine ⟨?_, ?_, ?_, ?_, ?_, ?_, ?_, ?_, ?_, ?_, ?_, ?_, ?_, ?_, ?_, ?_, ?_⟩
  · rw [q.S 0 (by omega)]; exact h.mx
  · rw [q.S 1 (by omega)]; exact h.np
  · rw [q.S 2 (by omega)]; exact h.hs
  · rw [q.S 3 (by omega)]; exact h.hb
  · rw [q.S 5 (by omega)]; exact h.tn
  · rw [q.S 6 (by omega)]; exact h.dr
  · rw [q.S 7 (by omega)]; exact h.un
  · rw [q.S 8 (by omega)]; exact h.ov
  · rw [q.S 10 (by omega)]; exact h.pa
  · intro c hc; rw [q.H c hc]; exact h.H c hc
  · rw [q.k0, q.k1]; exact h.st
  · intro i hi; rw [q.K i (by omega)]; exact h.K i hi
  · rw [q.n]; exact h.n
  · intro i hi; rw [q.T i (by omega), q.U i (by omega)]; exact h.T i hi
  · intro t ht; rw [q.E t (by omega)]; exact h.E t ht
  · intro t ht; rw [q.O t (by omega)]; exact h.O t ht
  · rw [hT_congr q.H]; exact h.cnt
theorem e_takeOver {g go : GS} (h6 : go.1.1 6 = 0 ∨ go.1.1 6 = 1) (h8 : go.1.1 8 = 0 ∨ go.1.1 8 = 1) : ∃ g', f_X1_takeOver g go = some g' ∧ gEq g' go := by
  have i6 : isb (go.1.1 6) = true := decide_eq_true h6
  have i8 : isb (go.1.1 8) = true := decide_eq_true h8
  unfold f_X1_takeOver f_X4_takeOver f_X6_takeOver
  rw [i6, i8, gd_T, gd_T, e_copy (by omega), bd1_S, e_copy (by omega), bd1_S, e_copy (by omega), bd1_S, bd1_S, e_copy (by omega), bd1_S, e_copy (by omega), bd1_S, e_copy (by omega), bd1_S, e_copy (by omega), bd1_S, bd1_S]
  refine ⟨_, rfl, ?_, rfl, fun c hc => cpy_lt hc, fun c hc => cpy_lt hc, rfl, rfl, fun c hc => cpy_lt hc, rfl, fun c hc => cpy_lt hc, fun c hc => cpy_lt hc, fun c hc => cpy_lt hc, fun c hc => cpy_lt hc⟩
  intro k hk
  rcases (show k = 0 ∨ k = 1 ∨ k = 2 ∨ k = 3 ∨ k = 4 ∨ k = 5 ∨ k = 6 ∨ k = 7 ∨ k = 8 ∨ k = 9 ∨ k = 10 by omega) with rfl | rfl | rfl | rfl | rfl | rfl | rfl | rfl | rfl | rfl | rfl <;> rfl
/-! both sides tell the same of a game -/
section R
variable {g : GS} {mx np hs hb tn pa f e n : Nat}
abbrev gpl (np : Nat) (g : GS) : Int32 := plN (g.1.1 8) (g.1.1 5) (g.1.1 7) np (g.1.2 0) (g.2.2.2.2 2) (g.2.2.2.2 3)
theorem c_obstacle (h : Inv g mx np hs hb tn pa f e n) {c t : Nat} (hc : c < 100) (ht : t ≤ np) : f_X1_obstacle g (nI c) (nI t) = some (gob np g c t) := e_obstacle h.np.1 h.np.2.2 hc ht (h.E t ht)
theorem c_playsNow (h : Inv g mx np hs hb tn pa f e n) : f_X1_playsNow g = some (gpl np g) := e_playsNow h.np.1 h.np.2.2 h.E
theorem c_size (h : Inv g mx np hs hb tn pa f e n) : f_X4_size g.2.2.1 = some (nI (e - f)) := by
  unfold f_X4_size
  rw [h.st.1, h.st.2.1, nI_sub h.st.2.2.1]
abbrev mdr (np : Nat) (g : GS) (f e : Nat) : Prop := g.1.1 8 = 0 ∧ g.1.1 6 = 0 ∧ f < e ∧ gpl np g = 0
abbrev mpa (np : Nat) (g : GS) (f e : Nat) : Prop := g.1.1 8 = 0 ∧ (g.1.1 6 = 1 ∨ f = e) ∧ gpl np g = 0
theorem c_mayDraw (h : Inv g mx np hs hb tn pa f e n) : f_X1_mayDraw g = some (if mdr np g f e then 1 else 0) := by
  have hfe := h.st.2.2
  unfold f_X1_mayDraw mdr
  rw [c_size h, bd1_S, c_playsNow h, bd1_S, ie_le0 (by omega)]
  by_cases h1 : g.1.1 8 = 0
  · by_cases h2 : g.1.1 6 = 0
    · by_cases h3 : e - f = 0
      · rw [if_pos h1, if_pos h2, if_pos h3, if_neg (fun q => by omega)]
      · rw [if_pos h1, if_pos h2, if_neg h3]
        by_cases h4 : gpl np g = 0
        · rw [if_pos h4, if_pos ⟨h1, h2, by omega, h4⟩]
        · rw [if_neg h4, if_neg (fun q => h4 q.2.2.2)]
    · rw [if_pos h1, if_neg h2, if_neg (fun q => h2 q.2.1)]
  · rw [if_neg h1, if_neg (fun q => h1 q.1)]
theorem c_mayPass (h : Inv g mx np hs hb tn pa f e n) : f_X1_mayPass g = some (if mpa np g f e then 1 else 0) := by
  have hfe := h.st.2.2
  unfold f_X1_mayPass f_X1_mayPass_J24 mpa
  rw [c_size h, bd1_S, c_playsNow h, bd1_S, ie_eq0 (by omega)]
  by_cases h1 : g.1.1 8 = 0
  · rw [if_pos h1]
    by_cases h2 : g.1.1 6 = 0
    · rw [if_pos h2]
      by_cases h3 : e - f = 0
      · rw [if_pos h3]
        by_cases h4 : gpl np g = 0
        · rw [if_pos h4, if_pos ⟨h1, Or.inr (by omega), h4⟩]
        · rw [if_neg h4, if_neg (fun q => h4 q.2.2)]
      · rw [if_neg h3, if_neg (fun q => q.2.1.elim (fun z => by rw [h2] at z; exact absurd z (by decide)) (fun z => h3 (by omega)))]
    · rw [if_neg h2]
      have h5 : g.1.1 6 = 1 := h.dr.resolve_left h2
      by_cases h4 : gpl np g = 0
      · rw [if_pos h4, if_pos ⟨h1, Or.inl h5, h4⟩]
      · rw [if_neg h4, if_neg (fun q => h4 q.2.2)]
  · rw [if_neg h1, if_neg (fun q => h1 q.1)]
end R
