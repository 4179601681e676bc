/-! what calls tell of hands and trains -/
def pipV (v : Int32) : Int32 := v / 10 + (v - v / 10 * 10)
theorem e_pipV (v : Int32) : f_X7_pipsOf v = some (pipV v) := rfl
theorem x_pipV (v : Int32) : f_X8_pipsOf v = some (pipV v) := rfl
section K
variable {g : GS} {x : MS} {mx np hs hb tn pa f e n : Nat}
/-- the k-th tile of a hand -/
theorem c_tileNo {p k : Int32} (hk : k < 0 ∨ nI (hcN (g.1.2 0) p) ≤ k) : f_X1_tileInHand g p k = some (-1) := by
  unfold f_X1_tileInHand
  refine lr2 (fun (o : Option Int32) => o = some (-1)) (fun (m : Nat) (v3 v4 : Int32) => ∃ i, v4 = nI i ∧ i + m = 100 ∧ v3 = nI (cn (fun c => decide (g.1.2 0 c = p)) 0 i)) ?_ FUEL 100 0 0 (FUEL_lt (by omega)) ⟨0, rfl, rfl, rfl⟩
  rintro rec m v3 v4 ⟨i, rfl, hi, rfl⟩ ih
  unfold f_X1_tileInHand_B5
  have hle := cn_le (fun c => decide (g.1.2 0 c = p)) i 0
  rw [i_100, ie_le (by omega) (by omega)]
  by_cases h1 : 100 ≤ i
  · rw [if_pos h1]
  · rw [if_neg h1, e_holder (by omega), bd1_S]
    have hsn : cn (fun c => decide (g.1.2 0 c = p)) 0 (i + 1) = _ := cn_snoc i 0
    rw [Nat.zero_add] at hsn
    by_cases h2 : g.1.2 0 i = p
    · rw [if_pos (decide_eq_true h2)] at hsn
      have hle2 : cn (fun c => decide (g.1.2 0 c = p)) 0 (i + 1) ≤ hcN (g.1.2 0) p := by
        unfold hcN
        have : ∀ j a, cn (fun c => decide (g.1.2 0 c = p)) 0 a ≤ cn (fun c => decide (g.1.2 0 c = p)) 0 (a + j) := by
          intro j
          induction j with
          | zero => intro a; exact Nat.le_refl _
          | succ j ihj => intro a; rw [show a + (j + 1) = a + j + 1 by omega, cn_snoc]; have := ihj a; omega
        have h3 := this (100 - (i + 1)) (i + 1)
        rw [show i + 1 + (100 - (i + 1)) = 100 by omega] at h3
        exact h3
      have h100 := hcN_le (g.1.2 0) p
      rw [if_pos h2, if_neg]
      · rw [nI_1, nI_1]
        exact ih (m - 1) _ _ (by omega) ⟨i + 1, rfl, by omega, by rw [hsn]⟩
      · intro h4
        rw [← h4] at hk
        rcases hk with hk | hk
        · exact nI_lt0 (by omega) hk
        · have := (nI_leI (by omega) (by omega)).mp hk
          omega
    · rw [if_neg (fun z => h2 (of_decide_eq_true z))] at hsn
      rw [if_neg h2, nI_1]
      exact ih (m - 1) _ _ (by omega) ⟨i + 1, rfl, by omega, by rw [hsn]; rfl⟩
theorem s_tile (r : Rel g (dd x) np f e n) {p : Int32} {kk : Nat} (hk : kk < hcN (g.1.2 0) p) : ∃ c, c < 100 ∧ f_X1_tileInHand g p (nI kk) = some (nI c) ∧ f_X8_tileOf x p (nI kk) = some (nI c) := by
  have h100 := hcN_le (g.1.2 0) p
  unfold f_X1_tileInHand f_X8_tileOf
  refine lk22 (B := f_X1_tileInHand_B5 g p (nI kk)) (B' := f_X8_tileOf_B5 x p) (fun (o : Option Int32) (o' : Option Int32) => ∃ c, c < 100 ∧ o = some (nI c) ∧ o' = some (nI c)) (fun (m : Nat) (v3 v4 w3 w4 : Int32) => ∃ i, v4 = nI i ∧ w4 = nI i ∧ i + m = 100 ∧ cn (fun c => decide (g.1.2 0 c = p)) 0 i ≤ kk ∧ v3 = nI (cn (fun c => decide (g.1.2 0 c = p)) 0 i) ∧ w3 = nI (kk - cn (fun c => decide (g.1.2 0 c = p)) 0 i)) ?_ FUEL 100 0 0 (nI kk) 0 (FUEL_lt (by omega)) ⟨0, rfl, rfl, rfl, Nat.zero_le _, rfl, rfl⟩
  rintro rec rec' m v3 v4 w3 w4 ⟨i, rfl, rfl, hi, hle, rfl, rfl⟩ ih
  unfold f_X1_tileInHand_B5 f_X8_tileOf_B5 f_X8_tileOf_J19
  by_cases h1 : 100 ≤ i
  · exfalso
    have : i = 100 := by omega
    subst this
    unfold hcN at hk
    omega
  · rw [i_100, ie_le (by omega) (by omega), if_neg h1, e_holder (by omega), bd1_S, x_isInHand _ (by omega), bd1_S, r.H i (by omega), bd1_S]
    have hsn : cn (fun c => decide (g.1.2 0 c = p)) 0 (i + 1) = _ := cn_snoc i 0
    rw [Nat.zero_add] at hsn
    by_cases h2 : g.1.2 0 i = p
    · rw [if_pos (decide_eq_true h2)] at hsn
      rw [if_pos h2, if_pos h2, if_neg (show ¬ (1 : Int32) = 0 by decide), if_neg (show ¬ (1 : Int32) = 0 by decide), ie_eq (by omega) (by omega), ie_le0 (by omega)]
      by_cases h3 : cn (fun c => decide (g.1.2 0 c = p)) 0 i = kk
      · rw [if_pos h3, if_pos (by omega)]
        exact ⟨i, by omega, rfl, rfl⟩
      · rw [if_neg h3, if_neg (by omega), nI_1, nI_1, i_1, nI_sub (by omega)]
        exact ih (m - 1) _ _ _ _ (by omega) ⟨i + 1, rfl, rfl, by omega, by omega, by rw [hsn], by rw [hsn, Nat.sub_sub]⟩
    · rw [if_neg (fun z => h2 (of_decide_eq_true z))] at hsn
      rw [if_neg h2, if_neg h2, if_pos rfl, if_pos rfl, nI_1, i_0, nI_sub (by omega)]
      exact ih (m - 1) _ _ _ _ (by omega) ⟨i + 1, rfl, rfl, by omega, by omega, by rw [hsn]; rfl, by rw [hsn]; rfl⟩
/-- how many tiles can be played -/
def pyE (np : Nat) (g : GS) (c : Nat) : Int32 := if cn (fun t => decide (gob np g c t = 0)) 0 (np + 1) = 0 then 0 else 1
theorem plO_cn (c : Nat) : plO (g.1.1 8) (g.1.1 5) (g.1.1 7) np (g.1.2 0) (g.2.2.2.2 2) (g.2.2.2.2 3) c = nI (cn (fun t => decide (gob np g c t = 0)) 0 (np + 1)) := by
  rw [← sI_cn]
  unfold plO
  exact sI_congr _ _ (fun t _ _ => by simp only [decide_eq_true_eq])
theorem s_playable (h : Inv g mx np hs hb tn pa f e n) (r : Rel g (dd x) np f e n) (p : Int32) : ∃ v, f_X1_playableTiles g p = some v ∧ f_X8_playable x p = some v := by
  have hnp := h.np
  have hcl : ∀ c, cn (fun t => decide (gob np g c t = 0)) 0 (np + 1) ≤ np + 1 := fun c => cn_le _ _ _
  refine ⟨sI (fun c => if p = g.1.1 5 then pyE np g c else 0) 0 100, ?_, ?_⟩
  · unfold f_X1_playableTiles
    refine lp_sumF (N := 100) (by omega) (fun rec a => ?_) (fun rec a k hk => ?_)
    · unfold f_X1_playableTiles_B4
      rw [i_100, if_pos (Int32.le_refl _)]
    · unfold f_X1_playableTiles_B4
      have := hcl k
      rw [i_100, ie_le (by omega) (by omega), if_neg (by omega)]
      by_cases h1 : p = g.1.1 5
      · rw [if_pos h1, e_holder hk, bd1_S, if_pos h1]
        by_cases h2 : g.1.2 0 k = p
        · rw [if_pos h2, e_playsOf hnp.1 hnp.2.2 h.E hk, bd1_S, plO_cn, ie_le0 (by omega)]
          unfold pyE
          by_cases h3 : cn (fun t => decide (gob np g k t = 0)) 0 (np + 1) = 0
          · rw [if_pos h3, if_pos h3, nI_1, i_addz]
          · rw [if_neg h3, if_neg h3, nI_1]
        · have h4 : cn (fun t => decide (gob np g k t = 0)) 0 (np + 1) = 0 := by
            rw [cn_congr (Q := fun _ => false) _ _ (fun t _ _ => decide_eq_false (obs_no (by rw [← h1]; exact h2)))]
            have : ∀ n k, cn (fun _ => false) k n = 0 := by
              intro n
              induction n with
              | zero => intro k; rfl
              | succ n ih => intro k; show (if false = true then 1 else 0) + cn (fun _ => false) (k + 1) n = 0; rw [ih]; rfl
            exact this _ _
          unfold pyE
          rw [if_neg h2, if_pos h4, nI_1, i_addz]
      · rw [if_neg h1, if_neg h1, nI_1, i_addz]
  · unfold f_X8_playable
    by_cases h1 : p = g.1.1 5
    · refine lp_sumF (N := 100) (by omega) (fun rec a => ?_) (fun rec a k hk => ?_)
      · unfold f_X8_playable_B4
        rw [i_100, if_pos (Int32.le_refl _)]
      · unfold f_X8_playable_B4
        rw [i_100, ie_le (by omega) (by omega), if_neg (by omega), gl_4, cl_4, show x.1.2 1 4 = g.1.1 5 from r.d4, if_pos h1, if_pos h1]
        refine lr2 (fun (o : Option Int32) => o = rec (a + pyE np g k) (nI (k + 1))) (fun (m : Nat) (v4 v5 : Int32) => ∃ u, v5 = nI u ∧ u + m = np + 1 ∧ v4 = if cn (fun t => decide (gob np g k t = 0)) 0 u = 0 then 0 else 1) ?_ FUEL (np + 1) 0 0 (FUEL_lt (by omega)) ⟨0, rfl, by omega, rfl⟩
        rintro rec2 m v4 v5 ⟨u, rfl, hu, rfl⟩ ih
        unfold f_X8_playable_B26
        rw [gl_1, cl_1, show x.1.2 1 1 = nI np from r.d1.trans hnp.1, ie_lt (by omega) (by omega)]
        by_cases h2 : np < u
        · have : u = np + 1 := by omega
          subst this
          rw [if_pos h2, nI_1]
          unfold pyE
          by_cases h3 : cn (fun t => decide (gob np g k t = 0)) 0 (np + 1) = 0
          · rw [if_pos h3, if_pos rfl]
          · rw [if_neg h3, if_neg (by decide)]
        · rw [if_neg h2, m_refusal h r hk (by omega), bd1_S, nI_1]
          have hsn : cn (fun t => decide (gob np g k t = 0)) 0 (u + 1) = _ := cn_snoc u 0
          rw [Nat.zero_add] at hsn
          by_cases h3 : gob np g k u = 0
          · rw [if_pos (decide_eq_true h3)] at hsn
            rw [if_pos h3]
            refine ih (m - 1) _ _ (by omega) ⟨u + 1, rfl, by omega, ?_⟩
            rw [hsn, if_neg (show ¬ cn (fun t => decide (gob np g k t = 0)) 0 u + 1 = 0 by omega)]
            split <;> decide
          · rw [if_neg (fun z => h3 (of_decide_eq_true z))] at hsn
            rw [if_neg h3]
            refine ih (m - 1) _ _ (by omega) ⟨u + 1, rfl, by omega, ?_⟩
            rw [hsn, Nat.add_zero]
            split <;> decide
    · rw [sI_congr (f := fun _ => 0) 100 0 (fun c _ _ => if_neg h1), sI_zero]
      show itr2 _ (FUEL - 1 + 1) 0 0 = _
      show f_X8_playable_B4 x p _ 0 0 = _
      unfold f_X8_playable_B4
      rw [if_neg (by decide), gl_4, cl_4, show x.1.2 1 4 = g.1.1 5 from r.d4, if_neg h1]
/-! trains -/
theorem c_countOf (h : Inv g mx np hs hb tn pa f e n) {t : Nat} : f_X6_countOf g.2.2.2 (nI t) = some (nI (cT (g.2.2.2.2 1) t n)) := by
  have hcnt := h.cnt
  unfold f_X6_countOf cT
  rw [← sI_cn]
  refine lp_sumF (N := n) (by omega) (fun rec a => ?_) (fun rec a k hk => ?_)
  · unfold f_X6_countOf_B4
    rw [h.n, if_pos (Int32.le_refl _)]
  · unfold f_X6_countOf_B4
    rw [h.n, ie_le (by omega) (by omega), if_neg (by omega), e_look (by omega) (by omega), bd1_S]
    simp only [decide_eq_true_eq]
    split
    · rw [nI_1]
    · rw [nI_1, i_addz]
theorem pips_sum (h : Inv g mx np hs hb tn pa f e n) (r : Rel g (dd x) np f e n) {t : Nat} (ht : t ≤ np) : ∀ m, m ≤ n → sI (fun k => if g.2.2.2.2 1 k = nI t then pipV (g.2.2.2.2 0 k) else 0) 0 m = sI (fun k => pipV (dd x (174 + 58 * t + (3 + k)))) 0 (cT (g.2.2.2.2 1) t m)
  | 0, _ => rfl
  | m + 1, hm => by
    rw [sI_snoc, pips_sum h r ht m (by omega), cT_succ, Nat.zero_add]
    by_cases h1 : g.2.2.2.2 1 m = nI t
    · rw [if_pos h1, if_pos h1, sI_snoc, Nat.zero_add]
      have := r.T m (by omega) t ht h1
      rw [show 174 + 58 * t + (3 + cT (g.2.2.2.2 1) t m) = 174 + 58 * t + 3 + cT (g.2.2.2.2 1) t m by omega, this]
    · rw [if_neg h1, if_neg h1, i_addz]; rfl
theorem c_pipsOn (h : Inv g mx np hs hb tn pa f e n) {t : Nat} : f_X6_pipsOn g.2.2.2 (nI t) = some (sI (fun k => if g.2.2.2.2 1 k = nI t then pipV (g.2.2.2.2 0 k) else 0) 0 n) := by
  have hcnt := h.cnt
  unfold f_X6_pipsOn
  refine lp_sumF (N := n) (by omega) (fun rec a => ?_) (fun rec a k hk => ?_)
  · unfold f_X6_pipsOn_B4
    rw [h.n, if_pos (Int32.le_refl _)]
  · unfold f_X6_pipsOn_B4
    rw [h.n, ie_le (by omega) (by omega), if_neg (by omega), e_look (by omega) (by omega), bd1_S]
    split
    · rw [e_look (by omega) (by omega), bd1_S, e_pipV, bd1_S, nI_1]
    · rw [nI_1, i_addz]
theorem c_tileAtNo (h : Inv g mx np hs hb tn pa f e n) {t : Nat} {k : Int32} (hk : k < 0 ∨ nI (cT (g.2.2.2.2 1) t n) ≤ k) : f_X6_tileAt g.2.2.2 (nI t) k = some (-1) := by
  have hcnt := h.cnt
  unfold f_X6_tileAt
  refine lr2 (fun (o : Option Int32) => o = some (-1)) (fun (m : Nat) (v3 v4 : Int32) => ∃ i, v4 = nI i ∧ i + m = n ∧ v3 = nI (cT (g.2.2.2.2 1) t i)) ?_ FUEL n 0 0 (FUEL_lt (by omega)) ⟨0, rfl, by omega, rfl⟩
  rintro rec m v3 v4 ⟨i, rfl, hi, rfl⟩ ih
  unfold f_X6_tileAt_B5
  have hle := cT_le (g.2.2.2.2 1) t i
  have hln := cT_le (g.2.2.2.2 1) t n
  rw [h.n, ie_le (by omega) (by omega)]
  by_cases h1 : n ≤ i
  · rw [if_pos h1]
  · rw [if_neg h1, e_look (by omega) (by omega), bd1_S]
    by_cases h2 : g.2.2.2.2 1 i = nI t
    · have hlt := cT_lt (m := n) (by omega) h2
      rw [if_pos h2, if_neg]
      · rw [nI_1, nI_1]
        exact ih (m - 1) _ _ (by omega) ⟨i + 1, rfl, by omega, by rw [cT_succ, if_pos h2]⟩
      · intro h4
        rw [← h4] at hk
        rcases hk with hk | hk
        · exact nI_lt0 (by omega) hk
        · have := (nI_leI (by omega) (by omega)).mp hk
          omega
    · rw [if_neg h2, nI_1]
      exact ih (m - 1) _ _ (by omega) ⟨i + 1, rfl, by omega, by rw [cT_succ, if_neg h2]; rfl⟩
theorem c_tileAt (h : Inv g mx np hs hb tn pa f e n) (r : Rel g (dd x) np f e n) {t kk : Nat} (ht : t ≤ np) (hk : kk < cT (g.2.2.2.2 1) t n) : ∃ c, c < 100 ∧ f_X6_tileAt g.2.2.2 (nI t) (nI kk) = some (nI c) ∧ dd x (174 + 58 * t + (3 + kk)) = nI c := by
  have hcnt := h.cnt
  have hnp := h.np
  unfold f_X6_tileAt
  refine lr2 (fun (o : Option Int32) => ∃ c, c < 100 ∧ o = some (nI c) ∧ dd x (174 + 58 * t + (3 + kk)) = nI c) (fun (m : Nat) (v3 v4 : Int32) => ∃ i, v4 = nI i ∧ i + m = n ∧ v3 = nI (cT (g.2.2.2.2 1) t i) ∧ cT (g.2.2.2.2 1) t i ≤ kk) ?_ FUEL n 0 0 (FUEL_lt (by omega)) ⟨0, rfl, by omega, rfl, Nat.zero_le _⟩
  rintro rec m v3 v4 ⟨i, rfl, hi, rfl, hik⟩ ih
  unfold f_X6_tileAt_B5
  have hle := cT_le (g.2.2.2.2 1) t i
  have hln := cT_le (g.2.2.2.2 1) t n
  rw [h.n, ie_le (by omega) (by omega)]
  by_cases h1 : n ≤ i
  · exfalso
    have : i = n := by omega
    subst this
    omega
  · rw [if_neg h1, e_look (by omega) (by omega), bd1_S]
    by_cases h2 : g.2.2.2.2 1 i = nI t
    · rw [if_pos h2, ie_eq (by omega) (by omega)]
      by_cases h3 : cT (g.2.2.2.2 1) t i = kk
      · rw [if_pos h3, e_look (by omega) (by omega), bd1_S]
        obtain ⟨⟨c, hc, hT, -⟩, -⟩ := h.T i (by omega)
        refine ⟨c, hc, by rw [hT], ?_⟩
        have := r.T i (by omega) t ht h2
        rw [h3] at this
        rw [show 174 + 58 * t + (3 + kk) = 174 + 58 * t + 3 + kk by omega, this, hT]
      · rw [if_neg h3, nI_1, nI_1]
        exact ih (m - 1) _ _ (by omega) ⟨i + 1, rfl, by omega, by rw [cT_succ, if_pos h2], by rw [cT_succ, if_pos h2]; omega⟩
    · rw [if_neg h2, nI_1]
      exact ih (m - 1) _ _ (by omega) ⟨i + 1, rfl, by omega, by rw [cT_succ, if_neg h2]; rfl, by rw [cT_succ, if_neg h2]; omega⟩
end K
