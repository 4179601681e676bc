/-! the class's game and the law's table tell the same -/
/-- the tiles in a hand, in the class's order -/
def hL (H : Nat → Int32) (p : Nat) : List Nat := (List.range 100).filter (fun c => decide (H c = nI p))
/-- the tiles on a train -/
def trL (B U : Nat → Int32) (t : Nat) : Nat → List Nat
  | 0 => []
  | n + 1 => trL B U t n ++ (if U n = nI t then [(B n).toNatClampNeg] else [])
def skL (B : Nat → Int32) (f k : Nat) : List Nat := (List.range k).map (fun i => (B (f + i)).toNatClampNeg)
def RT (g : GS) (T : TT) (np hb f e n : Nat) : Prop :=
  (T.1 0 = g.1.1 0 ∧ T.1 1 = g.1.1 2 ∧ T.1 2 = g.1.1 3 ∧ T.1 3 = g.1.1 4 ∧ T.1 4 = g.1.1 5 ∧ T.1 5 = g.1.1 6 ∧ T.1 6 = g.1.1 7 ∧ T.1 7 = g.1.1 8 ∧ T.1 8 = g.1.1 9 ∧ T.1 9 = g.1.1 10) ∧
  ((tH T).length = np ∧ (tT T).length = np ∧ (tR T).length = np + 1 ∧ (tO T).length = np + 1) ∧
  (∀ p, p < np → (hnd T p).Perm (hL (g.1.2 0) p)) ∧
  (∀ p, p < np → (tT T).getD p 0 = g.1.2 1 p) ∧
  (∀ t, t ≤ np → trn T t = trL (g.2.2.2.2 0) (g.2.2.2.2 1) t n) ∧
  (∀ t, t ≤ np → g.2.2.2.2 2 t = nI (endT hb (trn T t))) ∧
  (∀ t, t ≤ np → (tO T).getD t 0 = if t = np ∨ g.2.2.2.2 3 t = 1 then 1 else 0) ∧
  tK T = skL (g.2.2.1.2 0) f (e - f) ∧ (tK T).Nodup ∧ ∀ x, x ∈ tK T → g.1.2 0 x = -1
theorem sI_snoc (e : Nat → Int32) : ∀ n k, sI e k (n + 1) = sI e k n + e (k + n)
  | 0, k => by
    show e k + 0 = 0 + e (k + 0)
    rw [i_addz, i_zadd, Nat.add_zero]
  | n + 1, k => by
    show e k + sI e (k + 1) (n + 1) = e k + sI e (k + 1) n + e (k + (n + 1))
    rw [sI_snoc e n (k + 1), show k + 1 + n = k + (n + 1) by omega, Int32.add_assoc]
theorem sI_filter (P : Nat → Bool) (F : Nat → Nat) : ∀ n, sI (fun c => if P c = true then nI (F c) else 0) 0 n = nI ((((List.range n).filter P).map F).sum)
  | 0 => rfl
  | n + 1 => by
    rw [sI_snoc, sI_filter P F n, List.range_succ, List.filter_append, List.map_append, List.sum_append, Nat.zero_add]
    by_cases h : P n = true
    · rw [if_pos h, List.filter_cons_of_pos h, nI_add]
      simp
    · rw [if_neg h, List.filter_cons_of_neg h, i_addz]
      simp
theorem cn_filter (P : Nat → Bool) : ∀ n, cn P 0 n = ((List.range n).filter P).length
  | 0 => rfl
  | n + 1 => by
    rw [cn_snoc, cn_filter P n, List.range_succ, List.filter_append, List.length_append, Nat.zero_add]
    by_cases h : P n = true
    · rw [if_pos h, List.filter_cons_of_pos h]; rfl
    · rw [if_neg h, List.filter_cons_of_neg h]; rfl
theorem hL_mem {H : Nat → Int32} {p c : Nat} : c ∈ hL H p ↔ c < 100 ∧ H c = nI p := by
  unfold hL
  rw [List.mem_filter, List.mem_range, decide_eq_true_eq]
theorem hL_len (H : Nat → Int32) (p : Nat) : (hL H p).length = hcN H (nI p) := (cn_filter _ 100).symm
theorem hL_nd (H : Nat → Int32) (p : Nat) : (hL H p).Nodup := List.nodup_range.filter _
theorem hL_sum (H : Nat → Int32) (p : Nat) (F : Nat → Nat) : sI (fun c => if H c = nI p then nI (F c) else 0) 0 100 = nI (((hL H p).map F).sum) := by
  have := sI_filter (fun c => decide (H c = nI p)) F 100
  simp only [decide_eq_true_eq] at this
  exact this
theorem hL_congr {H L : Nat → Int32} {p : Nat} (h : ∀ c, c < 100 → H c = L c) : hL H p = hL L p := by
  unfold hL
  refine List.filter_congr fun c hc => ?_
  rw [h c (List.mem_range.mp hc)]
theorem pm_sum {l m : List Nat} (h : l.Perm m) (F : Nat → Nat) : (l.map F).sum = (m.map F).sum := (h.map F).sum_nat
theorem trL_len (B U : Nat → Int32) (t : Nat) : ∀ n, (trL B U t n).length = cT U t n
  | 0 => rfl
  | n + 1 => by
    rw [cT_succ, ← trL_len B U t n]
    show (trL B U t n ++ _).length = _
    rw [List.length_append]
    split <;> rfl
theorem trL_mem {B U : Nat → Int32} {t x : Nat} : ∀ {n}, x ∈ trL B U t n → ∃ i, i < n ∧ x = (B i).toNatClampNeg
  | n + 1, h => by
    rcases List.mem_append.mp h with h | h
    · obtain ⟨i, hi, e⟩ := trL_mem h
      exact ⟨i, by omega, e⟩
    · split at h
      · exact ⟨n, by omega, List.mem_singleton.mp h⟩
      · cases h
theorem skL_len (B : Nat → Int32) (f k : Nat) : (skL B f k).length = k := by unfold skL; simp
theorem skL_get {B : Nat → Int32} {f k i : Nat} (h : i < k) : (skL B f k).getD i 0 = (B (f + i)).toNatClampNeg := by
  unfold skL
  simp [List.getD_eq_getElem?_getD, List.getElem?_map, List.getElem?_range h]
section RTB
variable {g : GS} {T : TT} {mx np hs hb tn pa f e n : Nat}
theorem RT.S (r : RT g T np hb f e n) : T.1 0 = g.1.1 0 ∧ T.1 1 = g.1.1 2 ∧ T.1 2 = g.1.1 3 ∧ T.1 3 = g.1.1 4 ∧ T.1 4 = g.1.1 5 ∧ T.1 5 = g.1.1 6 ∧ T.1 6 = g.1.1 7 ∧ T.1 7 = g.1.1 8 ∧ T.1 8 = g.1.1 9 ∧ T.1 9 = g.1.1 10 := r.1
theorem RT.L (r : RT g T np hb f e n) : (tH T).length = np ∧ (tT T).length = np ∧ (tR T).length = np + 1 ∧ (tO T).length = np + 1 := r.2.1
theorem RT.H (r : RT g T np hb f e n) : ∀ p, p < np → (hnd T p).Perm (hL (g.1.2 0) p) := r.2.2.1
theorem RT.tot (r : RT g T np hb f e n) : ∀ p, p < np → (tT T).getD p 0 = g.1.2 1 p := r.2.2.2.1
theorem RT.R (r : RT g T np hb f e n) : ∀ t, t ≤ np → trn T t = trL (g.2.2.2.2 0) (g.2.2.2.2 1) t n := r.2.2.2.2.1
theorem RT.E (r : RT g T np hb f e n) : ∀ t, t ≤ np → g.2.2.2.2 2 t = nI (endT hb (trn T t)) := r.2.2.2.2.2.1
theorem RT.O (r : RT g T np hb f e n) : ∀ t, t ≤ np → (tO T).getD t 0 = if t = np ∨ g.2.2.2.2 3 t = 1 then 1 else 0 := r.2.2.2.2.2.2.1
theorem RT.K (r : RT g T np hb f e n) : tK T = skL (g.2.2.1.2 0) f (e - f) := r.2.2.2.2.2.2.2.1
theorem RT.nd (r : RT g T np hb f e n) : (tK T).Nodup := r.2.2.2.2.2.2.2.2.1
theorem RT.fr (r : RT g T np hb f e n) : ∀ x, x ∈ tK T → g.1.2 0 x = -1 := r.2.2.2.2.2.2.2.2.2
theorem hT_hc (H : Nat → Int32) {p : Nat} (hp : p < 2 ^ 31) : hcN H (nI p) ≤ hT H := by
  refine cn_mono 100 0 fun j _ _ h => ?_
  rw [decide_eq_true_eq] at h ⊢
  intro z
  rw [h] at z
  exact nI_m1 hp z
theorem RT.tw (r : RT g T np hb f e n) (h : Inv g mx np hs hb tn pa f e n) : TW T mx np hs hb tn pa := by
  have hS := r.S
  have hL4 := r.L
  have hnp := h.np
  have hcnt := h.cnt
  refine ⟨?_, ?_, ?_, ?_, ?_, ?_, ?_, ?_, ⟨hL4.1, hL4.2.1, hL4.2.2.1, hL4.2.2.2, hnp.2⟩, ?_, ?_, ?_, ?_⟩
  · rw [hS.1]; exact h.mx
  · rw [hS.2.1]; exact h.hs
  · rw [hS.2.2.1]; exact h.hb
  · rw [hS.2.2.2.2.1]; exact h.tn
  · rw [hS.2.2.2.2.2.1]; exact h.dr
  · rw [hS.2.2.2.2.2.2.1]; exact h.un
  · rw [hS.2.2.2.2.2.2.2.1]; exact h.ov
  · rw [hS.2.2.2.2.2.2.2.2.2]; exact h.pa
  · intro p
    by_cases hp : p < np
    · have q := r.H p hp
      refine ⟨fun x hx => (hL_mem.mp (q.mem_iff.mp hx)).1, ?_⟩
      rw [q.length_eq, hL_len]
      have := hT_hc (g.1.2 0) (p := p) (by omega)
      omega
    · have e0 : hnd T p = [] := by
        show (tH T).getD p [] = []
        rw [List.getD_eq_getElem?_getD, List.getElem?_eq_none (by omega)]
        rfl
      rw [e0]
      exact ⟨fun x hx => (by cases hx), Nat.zero_le _⟩
  · intro p
    by_cases hp : p ≤ np
    · rw [r.R p hp]
      refine ⟨fun x hx => ?_, ?_⟩
      · obtain ⟨i, hi, rfl⟩ := trL_mem hx
        obtain ⟨⟨c, hc, e1, -⟩, -⟩ := h.T i hi
        rw [e1, nI_clamp (by omega)]
        exact hc
      · rw [trL_len]
        have := cT_le (g.2.2.2.2 1) p n
        omega
    · have e0 : trn T p = [] := by
        show (tR T).getD p [] = []
        rw [List.getD_eq_getElem?_getD, List.getElem?_eq_none (by omega)]
        rfl
      rw [e0]
      exact ⟨fun x hx => (by cases hx), Nat.zero_le _⟩
  · rw [r.K, skL_len]
    refine ⟨fun x hx => ?_, by omega⟩
    obtain ⟨i, hi, rfl⟩ := List.mem_map.mp hx
    have hi := List.mem_range.mp hi
    obtain ⟨c, hc, e1, -⟩ := h.K (f + i) (by omega)
    rw [e1, nI_clamp (by omega)]
    exact hc
  · intro p hp
    rw [r.O p hp]
    split
    · exact Or.inr rfl
    · exact Or.inl rfl
theorem RT.why (r : RT g T np hb f e n) (h : Inv g mx np hs hb tn pa f e n) {c t : Nat} (hc : c < 100) (ht : t ≤ np) : gob np g c t = whyT T hb tn c t := by
  have hS := r.S
  have hnp := h.np
  have htn := h.tn
  have hmem : c ∈ hnd T tn ↔ g.1.2 0 c = g.1.1 5 := by
    rw [(r.H tn htn.2).mem_iff, hL_mem, htn.1]
    exact ⟨fun q => q.2, fun q => ⟨hc, q⟩⟩
  have hE : endT hb (trn T t) < 10 := endT_lt (by have := h.hb.2; have := h.mx.2.2; omega) _ ((r.tw h).R t).1
  show obs _ _ _ _ _ _ _ _ _ = _
  unfold obs whyT fit
  rw [hS.2.2.2.2.2.2.2.1, hS.2.2.2.2.2.2.1]
  by_cases h1 : g.1.1 8 = 0
  · rw [if_pos h1, if_pos h1]
    by_cases h2 : g.1.2 0 c = g.1.1 5
    · rw [if_pos h2, if_pos (hmem.mpr h2)]
      have hfit : (if nI (c / 10) = g.2.2.2.2 2 t ∨ nI (c % 10) = g.2.2.2.2 2 t then (0 : Int32) else 5) = if c / 10 = endT hb (trn T t) ∨ c % 10 = endT hb (trn T t) then 0 else 5 := by
        rw [r.E t ht]
        simp only [eq_nI (show c / 10 < 2 ^ 31 by omega) (show endT hb (trn T t) < 2 ^ 31 by omega), eq_nI (show c % 10 < 2 ^ 31 by omega) (show endT hb (trn T t) < 2 ^ 31 by omega)]
      rw [hfit]
      rcases h.un with h3 | ⟨u, hu, h3⟩
      · rw [h3, if_pos (rfl : (-1 : Int32) = -1)]
        have htt : nI t = g.1.1 5 ↔ t = tn := by rw [htn.1]; exact nI_eq (by omega) (by omega)
        have q3 : ¬ ((0 : Int32) ≤ -1 ∧ ¬ (-1 : Int32) = nI t) := fun z => nle_m1 z.1
        by_cases h4 : t = tn ∨ t = np ∨ g.2.2.2.2 3 t = 1
        · have q4 : ¬ ((-1 : Int32) < 0 ∧ (tO T).getD t 0 = 0 ∧ ¬ t = tn) := by
            rintro ⟨-, z1, z2⟩
            rw [r.O t ht, if_pos (h4.resolve_left z2)] at z1
            exact absurd z1 (by decide)
          rw [if_pos (h4.imp htt.mpr id), if_neg q3, if_neg q4]
        · have q4 : (-1 : Int32) < 0 ∧ (tO T).getD t 0 = 0 ∧ ¬ t = tn := ⟨lt_m1', by rw [r.O t ht]; exact if_neg (fun z => h4 (Or.inr z)), fun z => h4 (Or.inl z)⟩
          rw [if_neg (fun z => h4 (Or.imp htt.mp id z)), if_neg q3, if_pos q4]
      · rw [h3, if_neg (nI_m1 (by omega))]
        have huu : nI u = nI t ↔ u = t := nI_eq (by omega) (by omega)
        by_cases h4 : u = t
        · have q3 : ¬ ((0 : Int32) ≤ nI u ∧ ¬ nI u = nI t) := fun z => z.2 (huu.mpr h4)
          have q4 : ¬ (nI u < 0 ∧ (tO T).getD t 0 = 0 ∧ ¬ t = tn) := fun z => nlt_nI (show u < 2 ^ 31 by omega) z.1
          rw [if_pos (huu.mpr h4), if_neg q3, if_neg q4]
        · rw [if_neg (fun z => h4 (huu.mp z)), if_pos ⟨by rw [i_0]; exact (nI_leI (by omega) (by omega)).mpr (Nat.zero_le _), fun z => h4 (huu.mp z)⟩]
    · rw [if_neg h2, if_neg (fun z => h2 (hmem.mp z))]
  · rw [if_neg h1, if_neg h1]
theorem RT.plo (r : RT g T np hb f e n) (h : Inv g mx np hs hb tn pa f e n) {c : Nat} (hc : c < 100) : plO (g.1.1 8) (g.1.1 5) (g.1.1 7) np (g.1.2 0) (g.2.2.2.2 2) (g.2.2.2.2 3) c = nI (plT T np hb tn c) := by
  unfold plO plT
  rw [← sI_cn]
  refine sI_congr _ _ fun j _ hj => ?_
  have := r.why h hc (t := j) (by omega)
  rw [show obs (g.1.1 8) (g.1.1 5) (g.1.1 7) np (g.1.2 0) (g.2.2.2.2 2) (g.2.2.2.2 3) c j = gob np g c j from rfl, this]
  simp only [decide_eq_true_eq]
theorem RT.pl (r : RT g T np hb f e n) (h : Inv g mx np hs hb tn pa f e n) : gpl np g = nI (plyT T np hb tn) := by
  have htn := h.tn
  show plN _ _ _ _ _ _ _ = nI (playsL T np hb tn (hnd T tn))
  unfold plN playsL
  rw [pm_sum (r.H tn htn.2), ← hL_sum]
  refine sI_congr _ _ fun c _ hc => ?_
  by_cases h1 : g.1.2 0 c = nI tn
  · rw [if_pos h1]; exact r.plo h (by omega)
  · rw [if_neg h1]; exact plO_no (by rw [htn.1]; exact h1)
theorem RT.mayD (r : RT g T np hb f e n) (h : Inv g mx np hs hb tn pa f e n) : mdr np g f e ↔ tDr T np hb tn := by
  have hS := r.S
  have hp : plyT T np hb tn < 2 ^ 31 := Nat.lt_trans (ply_lt (r.tw h)) (by decide)
  unfold mdr tDr
  rw [r.pl h, hS.2.2.2.2.2.2.2.1, hS.2.2.2.2.2.1, r.K, skL_len, i_0, eq_nI hp (by omega)]
  constructor
  · rintro ⟨a, b, c, d⟩; exact ⟨a, b, by omega, d⟩
  · rintro ⟨a, b, c, d⟩; exact ⟨a, b, by omega, d⟩
theorem RT.mayP (r : RT g T np hb f e n) (h : Inv g mx np hs hb tn pa f e n) : mpa np g f e ↔ tPa T np hb tn := by
  have hS := r.S
  have hst := h.st
  have hp : plyT T np hb tn < 2 ^ 31 := Nat.lt_trans (ply_lt (r.tw h)) (by decide)
  unfold mpa tPa
  rw [r.pl h, hS.2.2.2.2.2.2.2.1, hS.2.2.2.2.2.1, r.K, skL_len, i_0, eq_nI hp (by omega)]
  constructor
  · rintro ⟨a, b, d⟩; exact ⟨a, b.imp id (fun z => by omega), d⟩
  · rintro ⟨a, b, d⟩; exact ⟨a, b.imp id (fun z => by omega), d⟩
end RTB
