/-! a game of the class, what always holds of it, and the row of the reference that tells it -/
def inS (mx c : Nat) : Prop := c / 10 ≤ c % 10 ∧ c % 10 ≤ mx
/-- how many tiles are in hands -/
def hT (H : Nat → Int32) : Nat := cn (fun c => decide (¬ H c = -1)) 0 100
/-- how many of the first m lie on train t -/
def cT (U : Nat → Int32) (t m : Nat) : Nat := cn (fun i => decide (U i = nI t)) 0 m
def Inv (g : GS) (mx np hs hb tn pa f e n : Nat) : Prop :=
  (g.1.1 0 = nI mx ∧ 3 ≤ mx ∧ mx ≤ 9) ∧
  (g.1.1 1 = nI np ∧ 2 ≤ np ∧ np ≤ 4) ∧
  (g.1.1 2 = nI hs ∧ 1 ≤ hs ∧ hs ≤ 12) ∧
  (g.1.1 3 = nI hb ∧ hb ≤ mx) ∧
  (g.1.1 5 = nI tn ∧ tn < np) ∧
  (g.1.1 6 = 0 ∨ g.1.1 6 = 1) ∧
  (g.1.1 7 = -1 ∨ ∃ u, u ≤ np ∧ g.1.1 7 = nI u) ∧
  (g.1.1 8 = 0 ∨ g.1.1 8 = 1) ∧
  (g.1.1 10 = nI pa ∧ pa ≤ np) ∧
  (∀ c, c < 100 → g.1.2 0 c = -1 ∨ ((∃ p, p < np ∧ g.1.2 0 c = nI p) ∧ inS mx c)) ∧
  (g.2.2.1.1 0 = nI f ∧ g.2.2.1.1 1 = nI e ∧ f ≤ e ∧ e ≤ 54) ∧
  (∀ i, i < e → ∃ c, c < 100 ∧ g.2.2.1.2 0 i = nI c ∧ inS mx c) ∧
  (g.2.2.2.1 0 = nI n) ∧
  (∀ i, i < n → (∃ c, c < 100 ∧ g.2.2.2.2 0 i = nI c ∧ inS mx c) ∧ ∃ u, u ≤ np ∧ g.2.2.2.2 1 i = nI u) ∧
  (gE np g) ∧
  (∀ t, t ≤ np → g.2.2.2.2 3 t = 0 ∨ g.2.2.2.2 3 t = 1) ∧
  (hT (g.1.2 0) + (e - f) + n ≤ 54)
theorem Inv.mx {g : GS} {mx np hs hb tn pa f e n : Nat} (h : Inv g mx np hs hb tn pa f e n) : g.1.1 0 = nI mx ∧ 3 ≤ mx ∧ mx ≤ 9 := h.1
theorem Inv.np {g : GS} {mx np hs hb tn pa f e n : Nat} (h : Inv g mx np hs hb tn pa f e n) : g.1.1 1 = nI np ∧ 2 ≤ np ∧ np ≤ 4 := h.2.1
theorem Inv.hs {g : GS} {mx np hs hb tn pa f e n : Nat} (h : Inv g mx np hs hb tn pa f e n) : g.1.1 2 = nI hs ∧ 1 ≤ hs ∧ hs ≤ 12 := h.2.2.1
theorem Inv.hb {g : GS} {mx np hs hb tn pa f e n : Nat} (h : Inv g mx np hs hb tn pa f e n) : g.1.1 3 = nI hb ∧ hb ≤ mx := h.2.2.2.1
theorem Inv.tn {g : GS} {mx np hs hb tn pa f e n : Nat} (h : Inv g mx np hs hb tn pa f e n) : g.1.1 5 = nI tn ∧ tn < np := h.2.2.2.2.1
theorem Inv.dr {g : GS} {mx np hs hb tn pa f e n : Nat} (h : Inv g mx np hs hb tn pa f e n) : g.1.1 6 = 0 ∨ g.1.1 6 = 1 := h.2.2.2.2.2.1
theorem Inv.un {g : GS} {mx np hs hb tn pa f e n : Nat} (h : Inv g mx np hs hb tn pa f e n) : g.1.1 7 = -1 ∨ ∃ u, u ≤ np ∧ g.1.1 7 = nI u := h.2.2.2.2.2.2.1
theorem Inv.ov {g : GS} {mx np hs hb tn pa f e n : Nat} (h : Inv g mx np hs hb tn pa f e n) : g.1.1 8 = 0 ∨ g.1.1 8 = 1 := h.2.2.2.2.2.2.2.1
theorem Inv.pa {g : GS} {mx np hs hb tn pa f e n : Nat} (h : Inv g mx np hs hb tn pa f e n) : g.1.1 10 = nI pa ∧ pa ≤ np := h.2.2.2.2.2.2.2.2.1
theorem Inv.H {g : GS} {mx np hs hb tn pa f e n : Nat} (h : Inv g mx np hs hb tn pa f e n) : ∀ c, c < 100 → g.1.2 0 c = -1 ∨ ((∃ p, p < np ∧ g.1.2 0 c = nI p) ∧ inS mx c) := h.2.2.2.2.2.2.2.2.2.1
theorem Inv.st {g : GS} {mx np hs hb tn pa f e n : Nat} (h : Inv g mx np hs hb tn pa f e n) : g.2.2.1.1 0 = nI f ∧ g.2.2.1.1 1 = nI e ∧ f ≤ e ∧ e ≤ 54 := h.2.2.2.2.2.2.2.2.2.2.1
theorem Inv.K {g : GS} {mx np hs hb tn pa f e n : Nat} (h : Inv g mx np hs hb tn pa f e n) : ∀ i, i < e → ∃ c, c < 100 ∧ g.2.2.1.2 0 i = nI c ∧ inS mx c := h.2.2.2.2.2.2.2.2.2.2.2.1
theorem Inv.n {g : GS} {mx np hs hb tn pa f e n : Nat} (h : Inv g mx np hs hb tn pa f e n) : g.2.2.2.1 0 = nI n := h.2.2.2.2.2.2.2.2.2.2.2.2.1
theorem Inv.T {g : GS} {mx np hs hb tn pa f e n : Nat} (h : Inv g mx np hs hb tn pa f e n) : ∀ i, i < n → (∃ c, c < 100 ∧ g.2.2.2.2 0 i = nI c ∧ inS mx c) ∧ ∃ u, u ≤ np ∧ g.2.2.2.2 1 i = nI u := h.2.2.2.2.2.2.2.2.2.2.2.2.2.1
theorem Inv.E {g : GS} {mx np hs hb tn pa f e n : Nat} (h : Inv g mx np hs hb tn pa f e n) : gE np g := h.2.2.2.2.2.2.2.2.2.2.2.2.2.2.1
theorem Inv.O {g : GS} {mx np hs hb tn pa f e n : Nat} (h : Inv g mx np hs hb tn pa f e n) : ∀ t, t ≤ np → g.2.2.2.2 3 t = 0 ∨ g.2.2.2.2 3 t = 1 := h.2.2.2.2.2.2.2.2.2.2.2.2.2.2.2.1
theorem Inv.cnt {g : GS} {mx np hs hb tn pa f e n : Nat} (h : Inv g mx np hs hb tn pa f e n) : hT (g.1.2 0) + (e - f) + n ≤ 54 := h.2.2.2.2.2.2.2.2.2.2.2.2.2.2.2.2
def Rel (g : GS) (d : Nat → Int32) (np f e n : Nat) : Prop :=
  (d 0 = g.1.1 0) ∧
  (d 1 = g.1.1 1) ∧
  (d 2 = g.1.1 2) ∧
  (d 3 = g.1.1 3) ∧
  (d 4 = g.1.1 5) ∧
  (d 5 = g.1.1 6) ∧
  (d 6 = g.1.1 7) ∧
  (d 7 = nI (e - f)) ∧
  (d 8 = g.1.1 8) ∧
  (d 9 = g.1.1 9) ∧
  (d 10 = g.1.1 10) ∧
  (d 11 = g.1.1 4) ∧
  (d 12 = nI f) ∧
  (∀ p, p < 4 → d (15 + p) = g.1.2 1 p) ∧
  (∀ c, c < 100 → d (19 + c) = g.1.2 0 c) ∧
  (∀ i, i < e → d (119 + i) = g.2.2.1.2 0 i) ∧
  (∀ t, t ≤ np → d (174 + 58 * t) = nI (cT (g.2.2.2.2 1) t n)) ∧
  (∀ t, t ≤ np → dE d t = g.2.2.2.2 2 t) ∧
  (∀ t, t ≤ np → dO d t = if t = np then 1 else g.2.2.2.2 3 t) ∧
  (∀ i, i < n → ∀ t, t ≤ np → g.2.2.2.2 1 i = nI t → d (174 + 58 * t + 3 + cT (g.2.2.2.2 1) t i) = g.2.2.2.2 0 i)
theorem Rel.d0 {g : GS} {d : Nat → Int32} {np f e n : Nat} (h : Rel g d np f e n) : d 0 = g.1.1 0 := h.1
theorem Rel.d1 {g : GS} {d : Nat → Int32} {np f e n : Nat} (h : Rel g d np f e n) : d 1 = g.1.1 1 := h.2.1
theorem Rel.d2 {g : GS} {d : Nat → Int32} {np f e n : Nat} (h : Rel g d np f e n) : d 2 = g.1.1 2 := h.2.2.1
theorem Rel.d3 {g : GS} {d : Nat → Int32} {np f e n : Nat} (h : Rel g d np f e n) : d 3 = g.1.1 3 := h.2.2.2.1
theorem Rel.d4 {g : GS} {d : Nat → Int32} {np f e n : Nat} (h : Rel g d np f e n) : d 4 = g.1.1 5 := h.2.2.2.2.1
theorem Rel.d5 {g : GS} {d : Nat → Int32} {np f e n : Nat} (h : Rel g d np f e n) : d 5 = g.1.1 6 := h.2.2.2.2.2.1
theorem Rel.d6 {g : GS} {d : Nat → Int32} {np f e n : Nat} (h : Rel g d np f e n) : d 6 = g.1.1 7 := h.2.2.2.2.2.2.1
theorem Rel.d7 {g : GS} {d : Nat → Int32} {np f e n : Nat} (h : Rel g d np f e n) : d 7 = nI (e - f) := h.2.2.2.2.2.2.2.1
theorem Rel.d8 {g : GS} {d : Nat → Int32} {np f e n : Nat} (h : Rel g d np f e n) : d 8 = g.1.1 8 := h.2.2.2.2.2.2.2.2.1
theorem Rel.d9 {g : GS} {d : Nat → Int32} {np f e n : Nat} (h : Rel g d np f e n) : d 9 = g.1.1 9 := h.2.2.2.2.2.2.2.2.2.1
theorem Rel.d10 {g : GS} {d : Nat → Int32} {np f e n : Nat} (h : Rel g d np f e n) : d 10 = g.1.1 10 := h.2.2.2.2.2.2.2.2.2.2.1
theorem Rel.d11 {g : GS} {d : Nat → Int32} {np f e n : Nat} (h : Rel g d np f e n) : d 11 = g.1.1 4 := h.2.2.2.2.2.2.2.2.2.2.2.1
theorem Rel.d12 {g : GS} {d : Nat → Int32} {np f e n : Nat} (h : Rel g d np f e n) : d 12 = nI f := h.2.2.2.2.2.2.2.2.2.2.2.2.1
theorem Rel.tot {g : GS} {d : Nat → Int32} {np f e n : Nat} (h : Rel g d np f e n) : ∀ p, p < 4 → d (15 + p) = g.1.2 1 p := h.2.2.2.2.2.2.2.2.2.2.2.2.2.1
theorem Rel.H {g : GS} {d : Nat → Int32} {np f e n : Nat} (h : Rel g d np f e n) : ∀ c, c < 100 → d (19 + c) = g.1.2 0 c := h.2.2.2.2.2.2.2.2.2.2.2.2.2.2.1
theorem Rel.K {g : GS} {d : Nat → Int32} {np f e n : Nat} (h : Rel g d np f e n) : ∀ i, i < e → d (119 + i) = g.2.2.1.2 0 i := h.2.2.2.2.2.2.2.2.2.2.2.2.2.2.2.1
theorem Rel.L {g : GS} {d : Nat → Int32} {np f e n : Nat} (h : Rel g d np f e n) : ∀ t, t ≤ np → d (174 + 58 * t) = nI (cT (g.2.2.2.2 1) t n) := h.2.2.2.2.2.2.2.2.2.2.2.2.2.2.2.2.1
theorem Rel.E {g : GS} {d : Nat → Int32} {np f e n : Nat} (h : Rel g d np f e n) : ∀ t, t ≤ np → dE d t = g.2.2.2.2 2 t := h.2.2.2.2.2.2.2.2.2.2.2.2.2.2.2.2.2.1
theorem Rel.O {g : GS} {d : Nat → Int32} {np f e n : Nat} (h : Rel g d np f e n) : ∀ t, t ≤ np → dO d t = if t = np then 1 else g.2.2.2.2 3 t := h.2.2.2.2.2.2.2.2.2.2.2.2.2.2.2.2.2.2.1
theorem Rel.T {g : GS} {d : Nat → Int32} {np f e n : Nat} (h : Rel g d np f e n) : ∀ i, i < n → ∀ t, t ≤ np → g.2.2.2.2 1 i = nI t → d (174 + 58 * t + 3 + cT (g.2.2.2.2 1) t i) = g.2.2.2.2 0 i := h.2.2.2.2.2.2.2.2.2.2.2.2.2.2.2.2.2.2.2
def gEq (g go : GS) : Prop :=
  (∀ k, k < 11 → g.1.1 k = go.1.1 k) ∧
  (g.2.1 = go.2.1) ∧
  (∀ c, c < 100 → g.1.2 0 c = go.1.2 0 c) ∧
  (∀ c, c < 4 → g.1.2 1 c = go.1.2 1 c) ∧
  (g.2.2.1.1 0 = go.2.2.1.1 0) ∧
  (g.2.2.1.1 1 = go.2.2.1.1 1) ∧
  (∀ c, c < 55 → g.2.2.1.2 0 c = go.2.2.1.2 0 c) ∧
  (g.2.2.2.1 0 = go.2.2.2.1 0) ∧
  (∀ c, c < 55 → g.2.2.2.2 0 c = go.2.2.2.2 0 c) ∧
  (∀ c, c < 55 → g.2.2.2.2 1 c = go.2.2.2.2 1 c) ∧
  (∀ c, c < 5 → g.2.2.2.2 2 c = go.2.2.2.2 2 c) ∧
  (∀ c, c < 5 → g.2.2.2.2 3 c = go.2.2.2.2 3 c)
theorem gEq.S {g go : GS} (h : gEq g go) : ∀ k, k < 11 → g.1.1 k = go.1.1 k := h.1
theorem gEq.fo {g go : GS} (h : gEq g go) : g.2.1 = go.2.1 := h.2.1
theorem gEq.H {g go : GS} (h : gEq g go) : ∀ c, c < 100 → g.1.2 0 c = go.1.2 0 c := h.2.2.1
theorem gEq.tot {g go : GS} (h : gEq g go) : ∀ c, c < 4 → g.1.2 1 c = go.1.2 1 c := h.2.2.2.1
theorem gEq.k0 {g go : GS} (h : gEq g go) : g.2.2.1.1 0 = go.2.2.1.1 0 := h.2.2.2.2.1
theorem gEq.k1 {g go : GS} (h : gEq g go) : g.2.2.1.1 1 = go.2.2.1.1 1 := h.2.2.2.2.2.1
theorem gEq.K {g go : GS} (h : gEq g go) : ∀ c, c < 55 → g.2.2.1.2 0 c = go.2.2.1.2 0 c := h.2.2.2.2.2.2.1
theorem gEq.n {g go : GS} (h : gEq g go) : g.2.2.2.1 0 = go.2.2.2.1 0 := h.2.2.2.2.2.2.2.1
theorem gEq.T {g go : GS} (h : gEq g go) : ∀ c, c < 55 → g.2.2.2.2 0 c = go.2.2.2.2 0 c := h.2.2.2.2.2.2.2.2.1
theorem gEq.U {g go : GS} (h : gEq g go) : ∀ c, c < 55 → g.2.2.2.2 1 c = go.2.2.2.2 1 c := h.2.2.2.2.2.2.2.2.2.1
theorem gEq.E {g go : GS} (h : gEq g go) : ∀ c, c < 5 → g.2.2.2.2 2 c = go.2.2.2.2 2 c := h.2.2.2.2.2.2.2.2.2.2.1
theorem gEq.O {g go : GS} (h : gEq g go) : ∀ c, c < 5 → g.2.2.2.2 3 c = go.2.2.2.2 3 c := h.2.2.2.2.2.2.2.2.2.2.2
theorem cT_le (U : Nat → Int32) (t m : Nat) : cT U t m ≤ m := cn_le _ _ _
theorem cn_snoc {P : Nat → Bool} : ∀ n k, cn P k (n + 1) = cn P k n + (if P (k + n) = true then 1 else 0)
  | 0, k => by
    show (if P k = true then 1 else 0) + 0 = 0 + (if P k = true then 1 else 0)
    omega
  | n + 1, k => by
    show (if P k = true then 1 else 0) + cn P (k + 1) (n + 1) = (if P k = true then 1 else 0) + cn P (k + 1) n + (if P (k + (n + 1)) = true then 1 else 0)
    rw [cn_snoc n (k + 1), show k + 1 + n = k + (n + 1) by omega]
    omega
theorem cT_succ (U : Nat → Int32) (t m : Nat) : cT U t (m + 1) = cT U t m + (if U m = nI t then 1 else 0) := by
  unfold cT
  rw [cn_snoc, Nat.zero_add]
  simp only [decide_eq_true_eq]
theorem cT_congr {U V : Nat → Int32} (t : Nat) {m : Nat} (h : ∀ i, i < m → U i = V i) : cT U t m = cT V t m := cn_congr m 0 (fun j _ hj => by rw [h j (by omega)])
theorem hT_congr {H L : Nat → Int32} (h : ∀ c, c < 100 → H c = L c) : hT H = hT L := cn_congr 100 0 (fun j _ hj => by rw [h j (by omega)])
theorem hcN_congr {H L : Nat → Int32} (p : Int32) (h : ∀ c, c < 100 → H c = L c) : hcN H p = hcN L p := cn_congr 100 0 (fun j _ hj => by rw [h j (by omega)])
theorem hpI_congr {H L : Nat → Int32} (p : Int32) (h : ∀ c, c < 100 → H c = L c) : hpI H p = hpI L p := sI_congr 100 0 (fun j _ hj => by rw [h j (by omega)])
theorem gEq.inv {g go : GS} {mx np hs hb tn pa f e n : Nat} (q : gEq g go) (h : Inv go mx np hs hb tn pa f e n) : Inv g mx np hs hb tn pa f e n := by
  have hn4 := h.np.2.2
  have he := h.st.2.2.2
  have hn54 : n ≤ 54 := by have := h.cnt; omega
  refine ⟨?_, ?_, ?_, ?_, ?_, ?_, ?_, ?_, ?_, ?_, ?_, ?_, ?_, ?_, ?_, ?_, ?_⟩
  · rw [q.S 0 (by omega)]; exact h.mx
  · rw [q.S 1 (by omega)]; exact h.np
  · rw [q.S 2 (by omega)]; exact h.hs
  · rw [q.S 3 (by omega)]; exact h.hb
  · rw [q.S 5 (by omega)]; exact h.tn
  · rw [q.S 6 (by omega)]; exact h.dr
  · rw [q.S 7 (by omega)]; exact h.un
  · rw [q.S 8 (by omega)]; exact h.ov
  · rw [q.S 10 (by omega)]; exact h.pa
  · intro c hc; rw [q.H c hc]; exact h.H c hc
  · rw [q.k0, q.k1]; exact h.st
  · intro i hi; rw [q.K i (by omega)]; exact h.K i hi
  · rw [q.n]; exact h.n
  · intro i hi; rw [q.T i (by omega), q.U i (by omega)]; exact h.T i hi
  · intro t ht; rw [q.E t (by omega)]; exact h.E t ht
  · intro t ht; rw [q.O t (by omega)]; exact h.O t ht
  · rw [hT_congr q.H]; exact h.cnt
theorem gEq.rel {g go : GS} {d : Nat → Int32} {np f e n : Nat} (q : gEq g go) (hn4 : np ≤ 4) (he : e ≤ 54) (hn : n ≤ 54) (h : Rel go d np f e n) : Rel g d np f e n := by
  refine ⟨?_, ?_, ?_, ?_, ?_, ?_, ?_, ?_, ?_, ?_, ?_, ?_, ?_, ?_, ?_, ?_, ?_, ?_, ?_, ?_⟩
  · rw [q.S 0 (by omega)]; exact h.d0
  · rw [q.S 1 (by omega)]; exact h.d1
  · rw [q.S 2 (by omega)]; exact h.d2
  · rw [q.S 3 (by omega)]; exact h.d3
  · rw [q.S 5 (by omega)]; exact h.d4
  · rw [q.S 6 (by omega)]; exact h.d5
  · rw [q.S 7 (by omega)]; exact h.d6
  · exact h.d7
  · rw [q.S 8 (by omega)]; exact h.d8
  · rw [q.S 9 (by omega)]; exact h.d9
  · rw [q.S 10 (by omega)]; exact h.d10
  · rw [q.S 4 (by omega)]; exact h.d11
  · exact h.d12
  · intro p hp; rw [q.tot p hp]; exact h.tot p hp
  · intro c hc; rw [q.H c hc]; exact h.H c hc
  · intro i hi; rw [q.K i (by omega)]; exact h.K i hi
  · intro t ht; rw [cT_congr t (fun i hi => q.U i (by omega))]; exact h.L t ht
  · intro t ht; rw [q.E t (by omega)]; exact h.E t ht
  · intro t ht; rw [q.O t (by omega)]; exact h.O t ht
  · intro i hi t ht hu
    rw [q.U i (by omega)] at hu
    rw [cT_congr t (fun j hj => q.U j (by omega)), q.T i (by omega)]
    exact h.T i hi t ht hu
theorem e_takeOver {g go : GS} (h6 : go.1.1 6 = 0 ∨ go.1.1 6 = 1) (h8 : go.1.1 8 = 0 ∨ go.1.1 8 = 1) : ∃ g', f_X1_takeOver g go = some g' ∧ gEq g' go := by
  have i6 : isb (go.1.1 6) = true := decide_eq_true h6
  have i8 : isb (go.1.1 8) = true := decide_eq_true h8
  unfold f_X1_takeOver f_X4_takeOver f_X6_takeOver
  rw [i6, i8, gd_T, gd_T, e_copy (by omega), bd1_S, e_copy (by omega), bd1_S, e_copy (by omega), bd1_S, bd1_S, e_copy (by omega), bd1_S, e_copy (by omega), bd1_S, e_copy (by omega), bd1_S, e_copy (by omega), bd1_S, bd1_S]
  refine ⟨_, rfl, ?_, rfl, fun c hc => cpy_lt hc, fun c hc => cpy_lt hc, rfl, rfl, fun c hc => cpy_lt hc, rfl, fun c hc => cpy_lt hc, fun c hc => cpy_lt hc, fun c hc => cpy_lt hc, fun c hc => cpy_lt hc⟩
  intro k hk
  rcases (show k = 0 ∨ k = 1 ∨ k = 2 ∨ k = 3 ∨ k = 4 ∨ k = 5 ∨ k = 6 ∨ k = 7 ∨ k = 8 ∨ k = 9 ∨ k = 10 by omega) with rfl | rfl | rfl | rfl | rfl | rfl | rfl | rfl | rfl | rfl | rfl <;> rfl
/-! both sides tell the same of a game -/
section R
variable {g : GS} {x : MS} {mx np hs hb tn pa f e n : Nat}
theorem Inv.xE (h : Inv g mx np hs hb tn pa f e n) (r : Rel g (dd x) np f e n) : xE np (dd x) := by
  refine ⟨fun t ht => ?_, fun t ht => ?_, ?_, ?_⟩
  · obtain ⟨y, hy, e1⟩ := h.E t ht
    exact ⟨y, hy, (r.E t ht).trans e1⟩
  · rw [r.O t ht]
    by_cases h1 : t = np
    · rw [if_pos h1]; exact Or.inr rfl
    · rw [if_neg h1]; exact h.O t ht
  · rw [r.O np (Nat.le_refl _), if_pos rfl]
  · rw [r.d8]; exact h.ov
theorem Rel.ob (r : Rel g (dd x) np f e n) {c t : Nat} (hc : c < 100) (ht : t ≤ np) : xob np (dd x) c t = gob np g c t := by
  have e1 : dE (dd x) t = g.2.2.2.2 2 t := r.E t ht
  have e2 : fit (dE (dd x)) c t = fit (g.2.2.2.2 2) c t := by unfold fit; rw [e1]
  have e3 : (nI t = g.1.1 5 ∨ t = np ∨ dO (dd x) t = 1) = (nI t = g.1.1 5 ∨ t = np ∨ g.2.2.2.2 3 t = 1) := by
    by_cases h1 : t = np
    · simp [h1]
    · rw [r.O t ht, if_neg h1]
  unfold xob gob obs
  rw [r.d8, r.d4, r.d6, show (fun c => dd x (19 + c)) c = g.1.2 0 c from r.H c hc, e2]
  simp only [e3]
theorem Rel.plO (r : Rel g (dd x) np f e n) {c : Nat} (hc : c < 100) : plO (dd x 8) (dd x 4) (dd x 6) np (fun c => dd x (19 + c)) (dE (dd x)) (dO (dd x)) c = plO (g.1.1 8) (g.1.1 5) (g.1.1 7) np (g.1.2 0) (g.2.2.2.2 2) (g.2.2.2.2 3) c :=
  sI_congr _ _ (fun t _ ht => by rw [show obs (dd x 8) (dd x 4) (dd x 6) np (fun c => dd x (19 + c)) (dE (dd x)) (dO (dd x)) c t = gob np g c t from r.ob hc (by omega)])
theorem Rel.plN (r : Rel g (dd x) np f e n) : plN (dd x 8) (dd x 4) (dd x 6) np (fun c => dd x (19 + c)) (dE (dd x)) (dO (dd x)) = plN (g.1.1 8) (g.1.1 5) (g.1.1 7) np (g.1.2 0) (g.2.2.2.2 2) (g.2.2.2.2 3) :=
  sI_congr _ _ (fun c _ hc => r.plO (by omega))
abbrev gpl (np : Nat) (g : GS) : Int32 := plN (g.1.1 8) (g.1.1 5) (g.1.1 7) np (g.1.2 0) (g.2.2.2.2 2) (g.2.2.2.2 3)
theorem c_obstacle (h : Inv g mx np hs hb tn pa f e n) {c t : Nat} (hc : c < 100) (ht : t ≤ np) : f_X1_obstacle g (nI c) (nI t) = some (gob np g c t) := e_obstacle h.np.1 h.np.2.2 hc ht (h.E t ht)
theorem m_refusal (h : Inv g mx np hs hb tn pa f e n) (r : Rel g (dd x) np f e n) {c t : Nat} (hc : c < 100) (ht : t ≤ np) : f_X8_refusal x (nI c) (nI t) = some (gob np g c t) := by
  rw [x_refusal h.np.2.2 (h.xE r) hc ht, r.ob hc ht]
theorem c_playsNow (h : Inv g mx np hs hb tn pa f e n) : f_X1_playsNow g = some (gpl np g) := e_playsNow h.np.1 h.np.2.2 h.E
theorem m_plays (h : Inv g mx np hs hb tn pa f e n) (r : Rel g (dd x) np f e n) : f_X8_plays x = some (gpl np g) := by
  rw [x_plays (r.d1.trans h.np.1) h.np.2.2 (h.xE r), r.plN]
theorem c_size (h : Inv g mx np hs hb tn pa f e n) : f_X4_size g.2.2.1 = some (nI (e - f)) := by
  unfold f_X4_size
  rw [h.st.1, h.st.2.1, nI_sub h.st.2.2.1]
abbrev mdr (np : Nat) (g : GS) (f e : Nat) : Prop := g.1.1 8 = 0 ∧ g.1.1 6 = 0 ∧ f < e ∧ gpl np g = 0
abbrev mpa (np : Nat) (g : GS) (f e : Nat) : Prop := g.1.1 8 = 0 ∧ (g.1.1 6 = 1 ∨ f = e) ∧ gpl np g = 0
theorem c_mayDraw (h : Inv g mx np hs hb tn pa f e n) : f_X1_mayDraw g = some (if mdr np g f e then 1 else 0) := by
  have hfe := h.st.2.2
  unfold f_X1_mayDraw mdr
  rw [c_size h, bd1_S, c_playsNow h, bd1_S, ie_le0 (by omega)]
  by_cases h1 : g.1.1 8 = 0
  · by_cases h2 : g.1.1 6 = 0
    · by_cases h3 : e - f = 0
      · rw [if_pos h1, if_pos h2, if_pos h3, if_neg (fun q => by omega)]
      · rw [if_pos h1, if_pos h2, if_neg h3]
        by_cases h4 : gpl np g = 0
        · rw [if_pos h4, if_pos ⟨h1, h2, by omega, h4⟩]
        · rw [if_neg h4, if_neg (fun q => h4 q.2.2.2)]
    · rw [if_pos h1, if_neg h2, if_neg (fun q => h2 q.2.1)]
  · rw [if_neg h1, if_neg (fun q => h1 q.1)]
theorem m_mayDraw (h : Inv g mx np hs hb tn pa f e n) (r : Rel g (dd x) np f e n) : f_X8_mayDraw x = some (if mdr np g f e then 1 else 0) := by
  have hfe := h.st.2.2
  unfold f_X8_mayDraw mdr
  rw [m_plays h r, bd1_S, gl_8, cl_8, gl_5, cl_5, gl_7, cl_7, show x.1.2 1 8 = g.1.1 8 from r.d8, show x.1.2 1 5 = g.1.1 6 from r.d5, show x.1.2 1 7 = nI (e - f) from r.d7, ie_le0 (by omega)]
  by_cases h1 : g.1.1 8 = 0
  · by_cases h2 : g.1.1 6 = 0
    · by_cases h3 : e - f = 0
      · rw [if_pos h1, if_pos h2, if_pos h3, if_neg (fun q => by omega)]
      · rw [if_pos h1, if_pos h2, if_neg h3]
        by_cases h4 : gpl np g = 0
        · rw [if_pos h4, if_pos ⟨h1, h2, by omega, h4⟩]
        · rw [if_neg h4, if_neg (fun q => h4 q.2.2.2)]
    · rw [if_pos h1, if_neg h2, if_neg (fun q => h2 q.2.1)]
  · rw [if_neg h1, if_neg (fun q => h1 q.1)]
theorem c_mayPass (h : Inv g mx np hs hb tn pa f e n) : f_X1_mayPass g = some (if mpa np g f e then 1 else 0) := by
  have hfe := h.st.2.2
  unfold f_X1_mayPass f_X1_mayPass_J24 mpa
  rw [c_size h, bd1_S, c_playsNow h, bd1_S, ie_eq0 (by omega)]
  by_cases h1 : g.1.1 8 = 0
  · rw [if_pos h1]
    by_cases h2 : g.1.1 6 = 0
    · rw [if_pos h2]
      by_cases h3 : e - f = 0
      · rw [if_pos h3]
        by_cases h4 : gpl np g = 0
        · rw [if_pos h4, if_pos ⟨h1, Or.inr (by omega), h4⟩]
        · rw [if_neg h4, if_neg (fun q => h4 q.2.2)]
      · rw [if_neg h3, if_neg (fun q => q.2.1.elim (fun z => by rw [h2] at z; exact absurd z (by decide)) (fun z => h3 (by omega)))]
    · rw [if_neg h2]
      have h5 : g.1.1 6 = 1 := h.dr.resolve_left h2
      by_cases h4 : gpl np g = 0
      · rw [if_pos h4, if_pos ⟨h1, Or.inl h5, h4⟩]
      · rw [if_neg h4, if_neg (fun q => h4 q.2.2)]
  · rw [if_neg h1, if_neg (fun q => h1 q.1)]
theorem m_mayPass (h : Inv g mx np hs hb tn pa f e n) (r : Rel g (dd x) np f e n) : f_X8_mayPass x = some (if mpa np g f e then 1 else 0) := by
  have hfe := h.st.2.2
  unfold f_X8_mayPass f_X8_mayPass_J30 mpa
  rw [m_plays h r, bd1_S, gl_8, cl_8, gl_5, cl_5, gl_7, cl_7, show x.1.2 1 8 = g.1.1 8 from r.d8, show x.1.2 1 5 = g.1.1 6 from r.d5, show x.1.2 1 7 = nI (e - f) from r.d7, ie_eq0 (by omega)]
  by_cases h1 : g.1.1 8 = 0
  · rw [if_pos h1]
    by_cases h2 : g.1.1 6 = 1
    · rw [if_pos h2]
      by_cases h4 : gpl np g = 0
      · rw [if_pos h4, if_pos ⟨h1, Or.inl h2, h4⟩]
      · rw [if_neg h4, if_neg (fun q => h4 q.2.2)]
    · rw [if_neg h2]
      by_cases h3 : e - f = 0
      · rw [if_pos h3]
        by_cases h4 : gpl np g = 0
        · rw [if_pos h4, if_pos ⟨h1, Or.inr (by omega), h4⟩]
        · rw [if_neg h4, if_neg (fun q => h4 q.2.2)]
      · rw [if_neg h3, if_neg (fun q => q.2.1.elim h2 (fun z => h3 (by omega)))]
  · rw [if_neg h1, if_neg (fun q => h1 q.1)]
end R
