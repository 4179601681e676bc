/-! what the class's game tells, as functions of naturals -/
def fit (E : Nat → Int32) (c t : Nat) : Int32 := if nI (c / 10) = E t ∨ nI (c % 10) = E t then 0 else 5
def obs (ov tn un : Int32) (np : Nat) (H E O : Nat → Int32) (c t : Nat) : Int32 :=
  if ov = 0 then (if H c = tn then (if un = -1 then (if nI t = tn ∨ t = np ∨ O t = 1 then fit E c t else 4) else (if un = nI t then fit E c t else 3)) else 2) else 1
/-- how many trains of 0 .. np take the tile, how many such pairs there are -/
def plO (ov tn un : Int32) (np : Nat) (H E O : Nat → Int32) (c : Nat) : Int32 := sI (fun t => if obs ov tn un np H E O c t = 0 then 1 else 0) 0 (np + 1)
def plN (ov tn un : Int32) (np : Nat) (H E O : Nat → Int32) : Int32 := sI (fun c => plO ov tn un np H E O c) 0 100
def pipI (c : Nat) : Int32 := nI (c / 10 + c % 10)
def hpI (H : Nat → Int32) (p : Int32) : Int32 := sI (fun c => if H c = p then pipI c else 0) 0 100
def hcN (H : Nat → Int32) (p : Int32) : Nat := cn (fun c => decide (H c = p)) 0 100
theorem hcN_le (H : Nat → Int32) (p : Int32) : hcN H p ≤ 100 := cn_le _ _ _
section C
variable {g : GS} {np mx hb : Nat}
theorem e_holder {c : Nat} (hc : c < 100) : f_X1_holderOf g (nI c) = some (g.1.2 0 c) := by
  unfold f_X1_holderOf
  rw [if_neg (nI_lt0 (by omega)), i_100, ie_le (by omega) (by omega), if_neg (by omega), inb_t hc (by omega), gd_T, nI_clamp (by omega)]
theorem e_handCount (p : Int32) : f_X1_handCount g p = some (nI (hcN (g.1.2 0) p)) := by
  unfold f_X1_handCount hcN
  rw [← sI_cn]
  refine lp_sumF (N := 100) (by omega) (fun rec a => ?_) (fun rec a k hk => ?_)
  · unfold f_X1_handCount_B4
    rw [i_100, if_pos (Int32.le_refl _)]
  · unfold f_X1_handCount_B4
    rw [i_100, ie_le (by omega) (by omega), if_neg (by omega), e_holder hk, bd1_S]
    simp only [decide_eq_true_eq]
    split
    · rw [nI_1]
    · rw [nI_1, i_addz]
theorem e_handPips (p : Int32) : f_X1_handPips g p = some (hpI (g.1.2 0) p) := by
  unfold f_X1_handPips hpI
  refine lp_sumF (N := 100) (by omega) (fun rec a => ?_) (fun rec a k hk => ?_)
  · unfold f_X1_handPips_B4
    rw [i_100, if_pos (Int32.le_refl _)]
  · unfold f_X1_handPips_B4
    rw [i_100, ie_le (by omega) (by omega), if_neg (by omega), e_holder hk, bd1_S]
    split
    · rw [e_pips (by omega), bd1_S, nI_1]; rfl
    · rw [nI_1, i_addz]
theorem e_inSet (hm : g.1.1 0 = nI mx) (hmx : mx ≤ 9) {c : Nat} (hc : c < 100) : f_X1_isInSet g (nI c) = some (if c / 10 ≤ c % 10 ∧ c % 10 ≤ mx then 1 else 0) := by
  unfold f_X1_isInSet
  rw [if_neg (nI_lt0 (by omega)), i_100, ie_le (by omega) (by omega), if_neg (by omega), e_low (by omega), e_high (by omega), bd1_S, bd1_S, bd1_S, hm, ie_lt (by omega) (by omega), ie_lt (by omega) (by omega)]
  by_cases h1 : c % 10 < c / 10
  · rw [if_pos h1, if_neg (by omega)]
  · rw [if_neg h1]
    by_cases h2 : mx < c % 10
    · rw [if_pos h2, if_neg (by omega)]
    · rw [if_neg h2, if_pos (by omega)]
theorem e_inSetOut {v : Int32} (h : v < 0 ∨ 100 ≤ v) : f_X1_isInSet g v = some 0 := by
  unfold f_X1_isInSet
  by_cases h1 : v < 0
  · rw [if_pos h1]
  · rw [if_neg h1, if_pos (h.resolve_left h1)]
theorem e_free (hh : g.1.1 3 = nI hb) (hb9 : hb ≤ 9) {c : Nat} (hc : c < 100) : f_X1_isFree g (nI c) = some (if g.1.2 0 c = -1 ∧ ¬ (c = 11 * hb) then 1 else 0) := by
  unfold f_X1_isFree
  rw [e_holder hc, bd1_S, e_double (by omega), e_low (by omega), bd1_S, bd1_S, hh, ie_eq (by omega) (by omega)]
  by_cases h1 : g.1.2 0 c = -1
  · rw [if_pos h1]
    by_cases h2 : c / 10 = c % 10
    · rw [if_pos h2, if_neg (by decide)]
      by_cases h3 : c / 10 = hb
      · rw [if_pos h3, if_neg (fun h => h.2 (by omega))]
      · rw [if_neg h3, if_pos ⟨h1, by omega⟩]
    · rw [if_neg h2, if_pos rfl, if_pos ⟨h1, by omega⟩]
  · rw [if_neg h1, if_neg (fun h => h1 h.1)]
theorem e_endOf {t : Nat} (ht : t < 5) : f_X6_endOf g.2.2.2 (nI t) = some (g.2.2.2.2 2 t) := by
  unfold f_X6_endOf
  rw [e_look ht (by omega), bd1_S]
theorem e_isOpenT {t : Nat} (ht : t < 5) : f_X6_isOpen g.2.2.2 (nI t) = some (if g.2.2.2.2 3 t = 1 then 1 else 0) := by
  unfold f_X6_isOpen
  rw [e_look ht (by omega), bd1_S]
  split <;> rfl
theorem e_isOpen (hn : g.1.1 1 = nI np) (hn4 : np ≤ 4) {t : Nat} (ht : t ≤ np) : f_X1_isOpen g (nI t) = some (if t = np ∨ g.2.2.2.2 3 t = 1 then 1 else 0) := by
  unfold f_X1_isOpen
  rw [hn, ie_eq (by omega) (by omega), e_isOpenT (by omega), bd1_S]
  by_cases h1 : t = np
  · rw [if_pos h1, if_pos (Or.inl h1)]
  · rw [if_neg h1]
    by_cases h2 : g.2.2.2.2 3 t = 1
    · rw [if_pos h2, if_neg (by decide), if_pos (Or.inr h2)]
    · rw [if_neg h2, if_pos rfl, if_neg (by simp [h1, h2])]
theorem e_fit {c t : Nat} (hc : c < 100) (ht : t < 5) {x : Nat} (hx : x ≤ 9) (hE : g.2.2.2.2 2 t = nI x) : f_X1_obstacle_J67 g (nI c) (nI t) = some (fit (g.2.2.2.2 2) c t) := by
  unfold f_X1_obstacle_J67 fit
  rw [e_endOf ht, bd1_S, hE, e_has (by omega) (by omega), bd1_S]
  simp only [eq_nI (show c / 10 < 2 ^ 31 by omega) (show x < 2 ^ 31 by omega), eq_nI (show c % 10 < 2 ^ 31 by omega) (show x < 2 ^ 31 by omega)]
  by_cases h : c / 10 = x ∨ c % 10 = x
  · rw [if_pos h, if_neg (by decide), if_pos h]
  · rw [if_neg h, if_pos rfl, if_neg h]
theorem e_obstacle (hn : g.1.1 1 = nI np) (hn4 : np ≤ 4) {c t : Nat} (hc : c < 100) (ht : t ≤ np) (hE : ∃ x, x ≤ 9 ∧ g.2.2.2.2 2 t = nI x) : f_X1_obstacle g (nI c) (nI t) = some (obs (g.1.1 8) (g.1.1 5) (g.1.1 7) np (g.1.2 0) (g.2.2.2.2 2) (g.2.2.2.2 3) c t) := by
  obtain ⟨x, hx, hE⟩ := hE
  have e3 := e_fit (g := g) hc (by omega) hx hE
  unfold f_X1_obstacle f_X1_obstacle_J41 obs
  rw [e_holder hc, bd1_S, e_isOpen hn hn4 ht, bd1_S, e3]
  by_cases h1 : g.1.1 8 = 0
  · rw [if_pos h1, if_pos h1]
    by_cases h2 : g.1.2 0 c = g.1.1 5
    · rw [if_pos h2, if_pos h2]
      by_cases h3 : g.1.1 7 = -1
      · rw [if_pos h3, if_pos h3, if_pos h3]
        by_cases h4 : nI t = g.1.1 5
        · rw [if_pos h4, if_pos (Or.inl h4)]
        · rw [if_neg h4]
          by_cases h5 : t = np ∨ g.2.2.2.2 3 t = 1
          · rw [if_pos h5, if_neg (by decide), if_pos (Or.inr h5)]
          · rw [if_neg h5, if_pos rfl, if_neg (by simp only [not_or] at h5 ⊢; exact ⟨h4, h5⟩)]
      · rw [if_neg h3, if_neg h3, if_neg h3]
        by_cases h4 : g.1.1 7 = nI t
        · rw [if_pos h4, if_pos h4]
        · rw [if_neg h4, if_neg h4]
    · rw [if_neg h2, if_neg h2]
  · rw [if_neg h1, if_neg h1]
/-- where the ends are numbers -/
def gE (np : Nat) (g : GS) : Prop := ∀ t, t ≤ np → ∃ x, x ≤ 9 ∧ g.2.2.2.2 2 t = nI x
abbrev gob (np : Nat) (g : GS) (c t : Nat) : Int32 := obs (g.1.1 8) (g.1.1 5) (g.1.1 7) np (g.1.2 0) (g.2.2.2.2 2) (g.2.2.2.2 3) c t
theorem e_canPlay (hn : g.1.1 1 = nI np) (hn4 : np ≤ 4) (hE : gE np g) {c t : Nat} (hc : c < 100) (ht : t ≤ np) : f_X1_canPlay g (nI c) (nI t) = some (if gob np g c t = 0 then 1 else 0) := by
  unfold f_X1_canPlay
  rw [e_obstacle hn hn4 hc ht (hE t ht), bd1_S]
  split <;> rfl
theorem e_playsOf (hn : g.1.1 1 = nI np) (hn4 : np ≤ 4) (hE : gE np g) {c : Nat} (hc : c < 100) : f_X1_playsOf g (nI c) = some (plO (g.1.1 8) (g.1.1 5) (g.1.1 7) np (g.1.2 0) (g.2.2.2.2 2) (g.2.2.2.2 3) c) := by
  unfold f_X1_playsOf plO
  refine lp_sumF (N := np + 1) (by omega) (fun rec a => ?_) (fun rec a k hk => ?_)
  · unfold f_X1_playsOf_B4
    rw [hn, ie_lt (by omega) (by omega), if_pos (by omega)]
  · unfold f_X1_playsOf_B4
    rw [hn, ie_lt (by omega) (by omega), if_neg (by omega), e_obstacle hn hn4 hc (by omega) (hE k (by omega)), bd1_S]
    split
    · rw [nI_1]
    · rw [nI_1, i_addz]
theorem obs_no {ov tn un : Int32} {H E O : Nat → Int32} {c t : Nat} (h : ¬ H c = tn) : ¬ obs ov tn un np H E O c t = 0 := by
  unfold obs
  rw [if_neg h]
  split <;> decide
theorem sI_zero : ∀ n k, sI (fun _ => 0) k n = 0
  | 0, _ => rfl
  | n + 1, k => by
    show (0 : Int32) + sI _ (k + 1) n = 0
    rw [sI_zero n, i_addz]
theorem plO_no {ov tn un : Int32} {H E O : Nat → Int32} {c : Nat} (h : ¬ H c = tn) : plO ov tn un np H E O c = 0 := by
  unfold plO
  rw [sI_congr (f := fun _ => 0) _ _ (fun j _ _ => if_neg (obs_no h)), sI_zero]
theorem e_playsNow (hn : g.1.1 1 = nI np) (hn4 : np ≤ 4) (hE : gE np g) : f_X1_playsNow g = some (plN (g.1.1 8) (g.1.1 5) (g.1.1 7) np (g.1.2 0) (g.2.2.2.2 2) (g.2.2.2.2 3)) := by
  unfold f_X1_playsNow plN
  refine lp_sumF (N := 100) (by omega) (fun rec a => ?_) (fun rec a k hk => ?_)
  · unfold f_X1_playsNow_B4
    rw [i_100, if_pos (Int32.le_refl _)]
  · unfold f_X1_playsNow_B4
    rw [i_100, ie_le (by omega) (by omega), if_neg (by omega), e_holder hk, bd1_S]
    by_cases h : g.1.2 0 k = g.1.1 5
    · rw [if_pos h, e_playsOf hn hn4 hE hk, bd1_S, nI_1]
    · rw [if_neg h, plO_no h, i_addz, nI_1]
end C
