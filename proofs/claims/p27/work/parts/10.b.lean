/-! what the class tells is what the table tells -/
theorem FUEL_lt {k : Nat} (h : k < 2000000) : k < FUEL := h
def pipV (v : Int32) : Int32 := v / 10 + (v - v / 10 * 10)
theorem e_pipV (v : Int32) : f_X7_pipsOf v = some (pipV v) := rfl
theorem pipV_nI {c : Nat} (h : c < 2 ^ 31) : pipV (nI c) = nI (c / 10 + c % 10) := by
  have := e_pips h
  rw [e_pipV] at this
  exact Option.some.inj this
theorem cT_lt {U : Nat → Int32} {t i m : Nat} (hi : i < m) (h : U i = nI t) : cT U t i < cT U t m := by
  have h1 : cT U t (i + 1) = cT U t i + 1 := by rw [cT_succ, if_pos h]
  have h2 : ∀ k, cT U t (i + 1) ≤ cT U t (i + 1 + k) := by
    intro k
    induction k with
    | zero => exact Nat.le_refl _
    | succ k ih =>
      show cT U t (i + 1) ≤ cT U t (i + 1 + k + 1)
      have := cT_succ U t (i + 1 + k)
      omega
  have h3 := h2 (m - (i + 1))
  rw [show i + 1 + (m - (i + 1)) = m by omega] at h3
  omega
theorem trL_get {B U : Nat → Int32} {t i : Nat} (h : U i = nI t) : ∀ n, i < n → (trL B U t n).getD (cT U t i) 0 = (B i).toNatClampNeg
  | n + 1, hi => by
    show (trL B U t n ++ _).getD _ 0 = _
    by_cases hn : i = n
    · subst hn
      rw [if_pos h, ← trL_len B U t i]
      simp [List.getD_eq_getElem?_getD]
    · have := trL_get (B := B) h n (by omega)
      have hl : cT U t i < (trL B U t n).length := by rw [trL_len]; exact cT_lt (by omega) h
      rw [List.getD_eq_getElem?_getD, List.getElem?_append_left hl, ← List.getD_eq_getElem?_getD]
      exact this
section RTC
variable {g : GS} {T : TT} {mx np hs hb tn pa f e n : Nat}
theorem RT.state (r : RT g T np hb f e n) (h : Inv g mx np hs hb tn pa f e n) {w : Nat} (hw : w ≤ 12) : f_X1_stateNumber g (nI w) = some (toldT T np hb tn w) := by
  rcases (show w = 0 ∨ w = 1 ∨ w = 2 ∨ w = 3 ∨ w = 4 ∨ w = 5 ∨ w = 6 ∨ w = 7 ∨ w = 8 ∨ w = 9 ∨ w = 10 ∨ w = 11 ∨ w = 12 by omega) with rfl | rfl | rfl | rfl | rfl | rfl | rfl | rfl | rfl | rfl | rfl | rfl | rfl
  · unfold f_X1_stateNumber; rw [if_pos (show nI 0 = 0 from rfl)]; exact congrArg some r.S.1.symm
  · unfold f_X1_stateNumber; rw [if_neg (show ¬ nI 1 = 0 by decide), if_pos (show nI 1 = 1 from rfl)]; exact congrArg some h.np.1
  · unfold f_X1_stateNumber; rw [if_neg (show ¬ nI 2 = 0 by decide), if_neg (show ¬ nI 2 = 1 by decide), if_pos (show nI 2 = 2 from rfl)]; exact congrArg some r.S.2.1.symm
  · unfold f_X1_stateNumber; rw [if_neg (show ¬ nI 3 = 0 by decide), if_neg (show ¬ nI 3 = 1 by decide), if_neg (show ¬ nI 3 = 2 by decide), if_pos (show nI 3 = 3 from rfl)]; exact congrArg some r.S.2.2.1.symm
  · unfold f_X1_stateNumber; rw [if_neg (show ¬ nI 4 = 0 by decide), if_neg (show ¬ nI 4 = 1 by decide), if_neg (show ¬ nI 4 = 2 by decide), if_neg (show ¬ nI 4 = 3 by decide), if_pos (show nI 4 = 4 from rfl)]; exact congrArg some r.S.2.2.2.2.1.symm
  · unfold f_X1_stateNumber
    rw [if_neg (show ¬ nI 5 = 0 by decide), if_neg (show ¬ nI 5 = 1 by decide), if_neg (show ¬ nI 5 = 2 by decide), if_neg (show ¬ nI 5 = 3 by decide), if_neg (show ¬ nI 5 = 4 by decide), if_pos (show nI 5 = 5 from rfl)]
    show _ = some (T.1 5)
    rw [r.S.2.2.2.2.2.1]
    rcases h.dr with z | z
    · rw [z, if_pos rfl]
    · rw [z, if_neg (by decide)]
  · unfold f_X1_stateNumber; rw [if_neg (show ¬ nI 6 = 0 by decide), if_neg (show ¬ nI 6 = 1 by decide), if_neg (show ¬ nI 6 = 2 by decide), if_neg (show ¬ nI 6 = 3 by decide), if_neg (show ¬ nI 6 = 4 by decide), if_neg (show ¬ nI 6 = 5 by decide), if_pos (show nI 6 = 6 from rfl)]; exact congrArg some r.S.2.2.2.2.2.2.1.symm
  · unfold f_X1_stateNumber; rw [if_neg (show ¬ nI 7 = 0 by decide), if_neg (show ¬ nI 7 = 1 by decide), if_neg (show ¬ nI 7 = 2 by decide), if_neg (show ¬ nI 7 = 3 by decide), if_neg (show ¬ nI 7 = 4 by decide), if_neg (show ¬ nI 7 = 5 by decide), if_neg (show ¬ nI 7 = 6 by decide), if_pos (show nI 7 = 7 from rfl)]; rw [c_size h, bd1_S]; show some (nI (e - f)) = some (nI (tK T).length); rw [r.K, skL_len]
  · unfold f_X1_stateNumber
    rw [if_neg (show ¬ nI 8 = 0 by decide), if_neg (show ¬ nI 8 = 1 by decide), if_neg (show ¬ nI 8 = 2 by decide), if_neg (show ¬ nI 8 = 3 by decide), if_neg (show ¬ nI 8 = 4 by decide), if_neg (show ¬ nI 8 = 5 by decide), if_neg (show ¬ nI 8 = 6 by decide), if_neg (show ¬ nI 8 = 7 by decide), if_pos (show nI 8 = 8 from rfl)]
    show _ = some (T.1 7)
    rw [r.S.2.2.2.2.2.2.2.1]
    rcases h.ov with z | z
    · rw [z, if_pos rfl]
    · rw [z, if_neg (by decide)]
  · unfold f_X1_stateNumber; rw [if_neg (show ¬ nI 9 = 0 by decide), if_neg (show ¬ nI 9 = 1 by decide), if_neg (show ¬ nI 9 = 2 by decide), if_neg (show ¬ nI 9 = 3 by decide), if_neg (show ¬ nI 9 = 4 by decide), if_neg (show ¬ nI 9 = 5 by decide), if_neg (show ¬ nI 9 = 6 by decide), if_neg (show ¬ nI 9 = 7 by decide), if_neg (show ¬ nI 9 = 8 by decide), if_pos (show nI 9 = 9 from rfl)]; exact congrArg some r.S.2.2.2.2.2.2.2.2.1.symm
  · unfold f_X1_stateNumber; rw [if_neg (show ¬ nI 10 = 0 by decide), if_neg (show ¬ nI 10 = 1 by decide), if_neg (show ¬ nI 10 = 2 by decide), if_neg (show ¬ nI 10 = 3 by decide), if_neg (show ¬ nI 10 = 4 by decide), if_neg (show ¬ nI 10 = 5 by decide), if_neg (show ¬ nI 10 = 6 by decide), if_neg (show ¬ nI 10 = 7 by decide), if_neg (show ¬ nI 10 = 8 by decide), if_neg (show ¬ nI 10 = 9 by decide), if_pos (show nI 10 = 10 from rfl)]; rw [c_playsNow h, bd1_S, r.pl h]; rfl
  · unfold f_X1_stateNumber; rw [if_neg (show ¬ nI 11 = 0 by decide), if_neg (show ¬ nI 11 = 1 by decide), if_neg (show ¬ nI 11 = 2 by decide), if_neg (show ¬ nI 11 = 3 by decide), if_neg (show ¬ nI 11 = 4 by decide), if_neg (show ¬ nI 11 = 5 by decide), if_neg (show ¬ nI 11 = 6 by decide), if_neg (show ¬ nI 11 = 7 by decide), if_neg (show ¬ nI 11 = 8 by decide), if_neg (show ¬ nI 11 = 9 by decide), if_neg (show ¬ nI 11 = 10 by decide), if_pos (show nI 11 = 11 from rfl)]; exact congrArg some r.S.2.2.2.2.2.2.2.2.2.symm
  · unfold f_X1_stateNumber; rw [if_neg (show ¬ nI 12 = 0 by decide), if_neg (show ¬ nI 12 = 1 by decide), if_neg (show ¬ nI 12 = 2 by decide), if_neg (show ¬ nI 12 = 3 by decide), if_neg (show ¬ nI 12 = 4 by decide), if_neg (show ¬ nI 12 = 5 by decide), if_neg (show ¬ nI 12 = 6 by decide), if_neg (show ¬ nI 12 = 7 by decide), if_neg (show ¬ nI 12 = 8 by decide), if_neg (show ¬ nI 12 = 9 by decide), if_neg (show ¬ nI 12 = 10 by decide), if_neg (show ¬ nI 12 = 11 by decide)]; exact congrArg some r.S.2.2.2.1.symm
theorem RT.play (r : RT g T np hb f e n) (h : Inv g mx np hs hb tn pa f e n) {p : Nat} (hp : p < np) : f_X1_playableTiles g (nI p) = some (if p = tn then nI (pcT T np hb tn (hnd T p)) else 0) := by
  have hnp := h.np
  have htn := h.tn
  have e1 : f_X1_playableTiles g (nI p) = some (sI (fun c => if p = tn then (if g.1.2 0 c = nI p then nI (if plT T np hb tn c = 0 then 0 else 1) else 0) else 0) 0 100) := by
    unfold f_X1_playableTiles
    refine lp_sumF (N := 100) (by omega) (fun rec a => ?_) (fun rec a k hk => ?_)
    · unfold f_X1_playableTiles_B4
      rw [i_100, if_pos (Int32.le_refl _)]
    · unfold f_X1_playableTiles_B4
      have hcl : plT T np hb tn k ≤ np + 1 := cn_le _ _ _
      rw [i_100, ie_le (by omega) (by omega), if_neg (by omega), htn.1, ie_eq (by omega) (by omega)]
      by_cases h1 : p = tn
      · rw [if_pos h1, e_holder hk, bd1_S, if_pos h1]
        by_cases h2 : g.1.2 0 k = nI p
        · rw [if_pos h2, if_pos h2, e_playsOf hnp.1 hnp.2.2 h.E hk, bd1_S, r.plo h hk, ie_le0 (by omega)]
          by_cases h3 : plT T np hb tn k = 0
          · rw [if_pos h3, if_pos h3, nI_1]; exact congrArg (fun z => rec z _) (i_addz a).symm
          · rw [if_neg h3, if_neg h3, nI_1]; rfl
        · rw [if_neg h2, if_neg h2, nI_1, i_addz]
      · rw [if_neg h1, if_neg h1, nI_1, i_addz]
  rw [e1]
  by_cases h1 : p = tn
  · rw [if_pos h1]
    have : (fun c => if p = tn then (if g.1.2 0 c = nI p then nI (if plT T np hb tn c = 0 then 0 else 1) else 0) else 0) = fun c => if g.1.2 0 c = nI p then nI (if plT T np hb tn c = 0 then 0 else 1) else 0 := funext fun c => if_pos h1
    rw [this, hL_sum]
    unfold pcT
    rw [pm_sum (r.H p hp)]
  · rw [if_neg h1]
    have : (fun c => if p = tn then (if g.1.2 0 c = nI p then nI (if plT T np hb tn c = 0 then 0 else 1) else 0) else 0) = fun _ => 0 := funext fun c => if_neg h1
    rw [this, sI_zero]
theorem RT.hc (r : RT g T np hb f e n) {p : Nat} (hp : p < np) : hcN (g.1.2 0) (nI p) = (hnd T p).length := by rw [← hL_len, (r.H p hp).length_eq]
theorem RT.hpi (r : RT g T np hb f e n) {p : Nat} (hp : p < np) : hpI (g.1.2 0) (nI p) = nI (pipL (hnd T p)) := by
  unfold hpI pipL pipI
  rw [hL_sum, pm_sum (r.H p hp)]
theorem RT.player (r : RT g T np hb f e n) (h : Inv g mx np hs hb tn pa f e n) {p w : Nat} (hp : p < np) (hw : w ≤ 3) : f_X1_playerNumber g (nI p) (nI w) = some (ofPT T np hb tn p w) := by
  have hnp := h.np
  unfold f_X1_playerNumber
  rcases (show w = 0 ∨ w = 1 ∨ w = 2 ∨ w = 3 by omega) with rfl | rfl | rfl | rfl
  · rw [if_pos (show nI 0 = 0 from rfl), e_handCount, bd1_S, r.hc hp]; rfl
  · rw [if_neg (show ¬ nI 1 = 0 by decide), if_pos (show nI 1 = 1 from rfl), e_handPips, bd1_S, r.hpi hp]; rfl
  · rw [if_neg (show ¬ nI 2 = 0 by decide), if_neg (show ¬ nI 2 = 1 by decide), if_pos (show nI 2 = 2 from rfl), e_look (by omega) (by omega), bd1_S, ← r.tot p hp]; rfl
  · rw [if_neg (show ¬ nI 3 = 0 by decide), if_neg (show ¬ nI 3 = 1 by decide), if_neg (show ¬ nI 3 = 2 by decide), r.play h hp, bd1_S]; rfl
theorem c_countOf (h : Inv g mx np hs hb tn pa f e n) {t : Nat} : f_X6_countOf g.2.2.2 (nI t) = some (nI (cT (g.2.2.2.2 1) t n)) := by
  have hcnt := h.cnt
  unfold f_X6_countOf cT
  rw [← sI_cn]
  refine lp_sumF (N := n) (by omega) (fun rec a => ?_) (fun rec a k hk => ?_)
  · unfold f_X6_countOf_B4
    rw [h.n, if_pos (Int32.le_refl _)]
  · unfold f_X6_countOf_B4
    rw [h.n, ie_le (by omega) (by omega), if_neg (by omega), e_look (by omega) (by omega), bd1_S]
    simp only [decide_eq_true_eq]
    split
    · rw [nI_1]
    · rw [nI_1, i_addz]
theorem pips_sum (h : Inv g mx np hs hb tn pa f e n) {t : Nat} : ∀ m, m ≤ n → sI (fun k => if g.2.2.2.2 1 k = nI t then pipV (g.2.2.2.2 0 k) else 0) 0 m = nI (pipL (trL (g.2.2.2.2 0) (g.2.2.2.2 1) t m))
  | 0, _ => rfl
  | m + 1, hm => by
    rw [sI_snoc, pips_sum h m (by omega), Nat.zero_add]
    show _ = nI (pipL (trL _ _ t m ++ _))
    unfold pipL
    rw [List.map_append, List.sum_append]
    by_cases h1 : g.2.2.2.2 1 m = nI t
    · obtain ⟨⟨c, hc, e1, -⟩, -⟩ := h.T m (by omega)
      rw [if_pos h1, if_pos h1, e1, nI_clamp (by omega), pipV_nI (by omega), nI_add]
      simp
    · rw [if_neg h1, if_neg h1, i_addz]; simp
theorem c_pipsOn (h : Inv g mx np hs hb tn pa f e n) {t : Nat} : f_X6_pipsOn g.2.2.2 (nI t) = some (sI (fun k => if g.2.2.2.2 1 k = nI t then pipV (g.2.2.2.2 0 k) else 0) 0 n) := by
  have hcnt := h.cnt
  unfold f_X6_pipsOn
  refine lp_sumF (N := n) (by omega) (fun rec a => ?_) (fun rec a k hk => ?_)
  · unfold f_X6_pipsOn_B4
    rw [h.n, if_pos (Int32.le_refl _)]
  · unfold f_X6_pipsOn_B4
    rw [h.n, ie_le (by omega) (by omega), if_neg (by omega), e_look (by omega) (by omega), bd1_S]
    split
    · rw [e_look (by omega) (by omega), bd1_S, e_pipV, bd1_S, nI_1]
    · rw [nI_1, i_addz]
theorem c_tileAtNo (h : Inv g mx np hs hb tn pa f e n) {t : Nat} {k : Int32} (hk : k < 0 ∨ nI (cT (g.2.2.2.2 1) t n) ≤ k) : f_X6_tileAt g.2.2.2 (nI t) k = some (-1) := by
  have hcnt := h.cnt
  unfold f_X6_tileAt
  refine lr2 (fun (o : Option Int32) => o = some (-1)) (fun (m : Nat) (v3 v4 : Int32) => ∃ i, v4 = nI i ∧ i + m = n ∧ v3 = nI (cT (g.2.2.2.2 1) t i)) ?_ FUEL n 0 0 (FUEL_lt (by omega)) ⟨0, rfl, by omega, rfl⟩
  rintro rec m v3 v4 ⟨i, rfl, hi, rfl⟩ ih
  unfold f_X6_tileAt_B5
  have hle := cT_le (g.2.2.2.2 1) t i
  have hln := cT_le (g.2.2.2.2 1) t n
  rw [h.n, ie_le (by omega) (by omega)]
  by_cases h1 : n ≤ i
  · rw [if_pos h1]
  · rw [if_neg h1, e_look (by omega) (by omega), bd1_S]
    by_cases h2 : g.2.2.2.2 1 i = nI t
    · have hlt := cT_lt (m := n) (by omega) h2
      rw [if_pos h2, if_neg]
      · rw [nI_1, nI_1]
        exact ih (m - 1) _ _ (by omega) ⟨i + 1, rfl, by omega, by rw [cT_succ, if_pos h2]⟩
      · intro h4
        rw [← h4] at hk
        rcases hk with hk | hk
        · exact nI_lt0 (by omega) hk
        · have := (nI_leI (by omega) (by omega)).mp hk
          omega
    · rw [if_neg h2, nI_1]
      exact ih (m - 1) _ _ (by omega) ⟨i + 1, rfl, by omega, by rw [cT_succ, if_neg h2]; rfl⟩
theorem c_tileAt (h : Inv g mx np hs hb tn pa f e n) {t kk : Nat} (ht : t ≤ np) (hk : kk < cT (g.2.2.2.2 1) t n) : f_X6_tileAt g.2.2.2 (nI t) (nI kk) = some (nI ((trL (g.2.2.2.2 0) (g.2.2.2.2 1) t n).getD kk 0)) := by
  have hcnt := h.cnt
  have hnp := h.np
  unfold f_X6_tileAt
  refine lr2 (fun (o : Option Int32) => o = some (nI ((trL (g.2.2.2.2 0) (g.2.2.2.2 1) t n).getD kk 0))) (fun (m : Nat) (v3 v4 : Int32) => ∃ i, v4 = nI i ∧ i + m = n ∧ v3 = nI (cT (g.2.2.2.2 1) t i) ∧ cT (g.2.2.2.2 1) t i ≤ kk) ?_ FUEL n 0 0 (FUEL_lt (by omega)) ⟨0, rfl, by omega, rfl, Nat.zero_le _⟩
  rintro rec m v3 v4 ⟨i, rfl, hi, rfl, hik⟩ ih
  unfold f_X6_tileAt_B5
  have hle := cT_le (g.2.2.2.2 1) t i
  have hln := cT_le (g.2.2.2.2 1) t n
  rw [h.n, ie_le (by omega) (by omega)]
  by_cases h1 : n ≤ i
  · exfalso
    have : i = n := by omega
    subst this
    omega
  · rw [if_neg h1, e_look (by omega) (by omega), bd1_S]
    by_cases h2 : g.2.2.2.2 1 i = nI t
    · rw [if_pos h2, ie_eq (by omega) (by omega)]
      by_cases h3 : cT (g.2.2.2.2 1) t i = kk
      · rw [if_pos h3, e_look (by omega) (by omega), bd1_S]
        obtain ⟨⟨c, hc, hT, -⟩, -⟩ := h.T i (by omega)
        have := trL_get (B := g.2.2.2.2 0) h2 n (by omega)
        rw [h3, hT, nI_clamp (by omega)] at this
        rw [this, hT]
      · rw [if_neg h3, nI_1, nI_1]
        exact ih (m - 1) _ _ (by omega) ⟨i + 1, rfl, by omega, by rw [cT_succ, if_pos h2], by rw [cT_succ, if_pos h2]; omega⟩
    · rw [if_neg h2, nI_1]
      exact ih (m - 1) _ _ (by omega) ⟨i + 1, rfl, by omega, by rw [cT_succ, if_neg h2]; rfl, by rw [cT_succ, if_neg h2]; omega⟩
theorem RT.train (r : RT g T np hb f e n) (h : Inv g mx np hs hb tn pa f e n) {t w : Nat} (ht : t ≤ np) (hw : w ≤ 4) : f_X1_trainNumber g (nI t) (nI w) = some (ofTT T hb t w) := by
  have hnp := h.np
  have hcnt := h.cnt
  have hcT := cT_le (g.2.2.2.2 1) t n
  unfold f_X1_trainNumber
  rcases (show w = 0 ∨ w = 1 ∨ w = 2 ∨ w = 3 ∨ w = 4 by omega) with rfl | rfl | rfl | rfl | rfl
  · rw [if_pos (show nI 0 = 0 from rfl), c_countOf h, bd1_S]
    show _ = some (nI (trn T t).length)
    rw [r.R t ht, trL_len]
  · rw [if_neg (show ¬ nI 1 = 0 by decide), if_pos (show nI 1 = 1 from rfl), e_endOf (by omega), bd1_S, r.E t ht]; rfl
  · rw [if_neg (show ¬ nI 2 = 0 by decide), if_neg (show ¬ nI 2 = 1 by decide), if_pos (show nI 2 = 2 from rfl), e_isOpen hnp.1 hnp.2.2 ht, bd1_S]
    show _ = some ((tO T).getD t 0)
    rw [r.O t ht]
    by_cases z : t = np ∨ g.2.2.2.2 3 t = 1
    · rw [if_pos z, if_neg (by decide)]
    · rw [if_neg z, if_pos rfl]
  · rw [if_neg (show ¬ nI 3 = 0 by decide), if_neg (show ¬ nI 3 = 1 by decide), if_neg (show ¬ nI 3 = 2 by decide), if_pos (show nI 3 = 3 from rfl), c_countOf h, bd1_S]
    show _ = some (if (trn T t).length = 0 then -1 else nI ((trn T t).getD ((trn T t).length - 1) 0))
    rw [r.R t ht, trL_len]
    by_cases z : cT (g.2.2.2.2 1) t n = 0
    · rw [if_pos z, z, c_tileAtNo h (Or.inl (by decide)), bd1_S]
    · rw [if_neg z, i_1, nI_sub (by omega), c_tileAt h ht (by omega), bd1_S]
  · rw [if_neg (show ¬ nI 4 = 0 by decide), if_neg (show ¬ nI 4 = 1 by decide), if_neg (show ¬ nI 4 = 2 by decide), if_neg (show ¬ nI 4 = 3 by decide), c_pipsOn h, bd1_S, pips_sum h n (Nat.le_refl _)]
    show _ = some (nI (pipL (trn T t)))
    rw [r.R t ht]
end RTC
