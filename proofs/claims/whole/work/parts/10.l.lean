/-! the numbers that calls tell, the digest, the mean -/
theorem nn_div (a : Int32) {b : Int32} (hb : ¬ b = 0) : nn64 (FP.ddiv (FP.i2d a) (FP.i2d b)) = true := by
  have h : Jvm.FP.Core.dIsNaN (FP.ddiv (FP.i2d a) (FP.i2d b)) = false := Jvm.FP.Core.ddiv_out (a := FP.i2d a) (b := FP.i2d b) ((Jvm.FP.Core.notNaN_iff _).mpr (Jvm.FP.Core.i2d_fin a).ne_nan) (Jvm.FP.Core.i2d_fin b) (fun z => Jvm.FP.Core.i2d_ne_zero hb ((Jvm.FP.Core.zero_bits2 _).mp z))
  have h2 : ¬ 9218868437227405312 < (FP.ddiv (FP.i2d a) (FP.i2d b)).toNat % 2 ^ 63 := fun z => by
    rw [(Jvm.FP.Core.isNaN_bits _).mpr z] at h
    exact absurd h (by decide)
  unfold nn64
  rw [decide_eq_true_eq, UInt64.le_iff_toNat_le, UInt64.toNat_and, show (0x7fffffffffffffff : UInt64).toNat = 2 ^ 63 - 1 by decide, show (0x7ff0000000000000 : UInt64).toNat = 9218868437227405312 by decide, Nat.and_two_pow_sub_one_eq_mod]
  omega
section L
variable {g : GS} {x : MS} {mx np hs hb tn pa f e n : Nat}
theorem x_toldD {w : Nat} (hw : w < 10) : f_X8_told x (nI w) = some (dd x w) := by
  unfold f_X8_told
  rw [if_neg (show ¬ nI w = 10 from fun z => by have := (nI_eq (b := 10) (by omega) (by omega)).mp z; omega), if_neg (show ¬ nI w = 11 from fun z => by have := (nI_eq (b := 11) (by omega) (by omega)).mp z; omega), if_neg (show ¬ nI w = 12 from fun z => by have := (nI_eq (b := 12) (by omega) (by omega)).mp z; omega), inb_t (by omega) (by omega), gd_T, nI_clamp (by omega)]
theorem s_state (h : Inv g mx np hs hb tn pa f e n) (r : Rel g (dd x) np f e n) {w : Nat} (hw : w ≤ 12) : ∃ v, f_X1_stateNumber g (nI w) = some v ∧ f_X8_told x (nI w) = some v := by
  rcases (show w = 0 ∨ w = 1 ∨ w = 2 ∨ w = 3 ∨ w = 4 ∨ w = 5 ∨ w = 6 ∨ w = 7 ∨ w = 8 ∨ w = 9 ∨ w = 10 ∨ w = 11 ∨ w = 12 by omega) with rfl | rfl | rfl | rfl | rfl | rfl | rfl | rfl | rfl | rfl | rfl | rfl | rfl
  · exact ⟨g.1.1 0, by unfold f_X1_stateNumber; rw [if_pos (show nI 0 = 0 from rfl)], by rw [x_toldD (by omega), r.d0]⟩
  · exact ⟨g.1.1 1, by unfold f_X1_stateNumber; rw [if_neg (show ¬ nI 1 = 0 by decide), if_pos (show nI 1 = 1 from rfl)], by rw [x_toldD (by omega), r.d1]⟩
  · exact ⟨g.1.1 2, by unfold f_X1_stateNumber; rw [if_neg (show ¬ nI 2 = 0 by decide), if_neg (show ¬ nI 2 = 1 by decide), if_pos (show nI 2 = 2 from rfl)], by rw [x_toldD (by omega), r.d2]⟩
  · exact ⟨g.1.1 3, by unfold f_X1_stateNumber; rw [if_neg (show ¬ nI 3 = 0 by decide), if_neg (show ¬ nI 3 = 1 by decide), if_neg (show ¬ nI 3 = 2 by decide), if_pos (show nI 3 = 3 from rfl)], by rw [x_toldD (by omega), r.d3]⟩
  · exact ⟨g.1.1 5, by unfold f_X1_stateNumber; rw [if_neg (show ¬ nI 4 = 0 by decide), if_neg (show ¬ nI 4 = 1 by decide), if_neg (show ¬ nI 4 = 2 by decide), if_neg (show ¬ nI 4 = 3 by decide), if_pos (show nI 4 = 4 from rfl)], by rw [x_toldD (by omega), r.d4]⟩
  · refine ⟨g.1.1 6, ?_, by rw [x_toldD (by omega), r.d5]⟩
    unfold f_X1_stateNumber
    rw [if_neg (show ¬ nI 5 = 0 by decide), if_neg (show ¬ nI 5 = 1 by decide), if_neg (show ¬ nI 5 = 2 by decide), if_neg (show ¬ nI 5 = 3 by decide), if_neg (show ¬ nI 5 = 4 by decide), if_pos (show nI 5 = 5 from rfl)]
    rcases h.dr with z | z
    · rw [z, if_pos rfl]
    · rw [z, if_neg (by decide)]
  · exact ⟨g.1.1 7, by unfold f_X1_stateNumber; rw [if_neg (show ¬ nI 6 = 0 by decide), if_neg (show ¬ nI 6 = 1 by decide), if_neg (show ¬ nI 6 = 2 by decide), if_neg (show ¬ nI 6 = 3 by decide), if_neg (show ¬ nI 6 = 4 by decide), if_neg (show ¬ nI 6 = 5 by decide), if_pos (show nI 6 = 6 from rfl)], by rw [x_toldD (by omega), r.d6]⟩
  · exact ⟨nI (e - f), by unfold f_X1_stateNumber; rw [if_neg (show ¬ nI 7 = 0 by decide), if_neg (show ¬ nI 7 = 1 by decide), if_neg (show ¬ nI 7 = 2 by decide), if_neg (show ¬ nI 7 = 3 by decide), if_neg (show ¬ nI 7 = 4 by decide), if_neg (show ¬ nI 7 = 5 by decide), if_neg (show ¬ nI 7 = 6 by decide), if_pos (show nI 7 = 7 from rfl)]; rw [c_size h, bd1_S], by rw [x_toldD (by omega), r.d7]⟩
  · refine ⟨g.1.1 8, ?_, by rw [x_toldD (by omega), r.d8]⟩
    unfold f_X1_stateNumber
    rw [if_neg (show ¬ nI 8 = 0 by decide), if_neg (show ¬ nI 8 = 1 by decide), if_neg (show ¬ nI 8 = 2 by decide), if_neg (show ¬ nI 8 = 3 by decide), if_neg (show ¬ nI 8 = 4 by decide), if_neg (show ¬ nI 8 = 5 by decide), if_neg (show ¬ nI 8 = 6 by decide), if_neg (show ¬ nI 8 = 7 by decide), if_pos (show nI 8 = 8 from rfl)]
    rcases h.ov with z | z
    · rw [z, if_pos rfl]
    · rw [z, if_neg (by decide)]
  · exact ⟨g.1.1 9, by unfold f_X1_stateNumber; rw [if_neg (show ¬ nI 9 = 0 by decide), if_neg (show ¬ nI 9 = 1 by decide), if_neg (show ¬ nI 9 = 2 by decide), if_neg (show ¬ nI 9 = 3 by decide), if_neg (show ¬ nI 9 = 4 by decide), if_neg (show ¬ nI 9 = 5 by decide), if_neg (show ¬ nI 9 = 6 by decide), if_neg (show ¬ nI 9 = 7 by decide), if_neg (show ¬ nI 9 = 8 by decide), if_pos (show nI 9 = 9 from rfl)], by rw [x_toldD (by omega), r.d9]⟩
  · exact ⟨gpl np g, by unfold f_X1_stateNumber; rw [if_neg (show ¬ nI 10 = 0 by decide), if_neg (show ¬ nI 10 = 1 by decide), if_neg (show ¬ nI 10 = 2 by decide), if_neg (show ¬ nI 10 = 3 by decide), if_neg (show ¬ nI 10 = 4 by decide), if_neg (show ¬ nI 10 = 5 by decide), if_neg (show ¬ nI 10 = 6 by decide), if_neg (show ¬ nI 10 = 7 by decide), if_neg (show ¬ nI 10 = 8 by decide), if_neg (show ¬ nI 10 = 9 by decide), if_pos (show nI 10 = 10 from rfl)]; rw [c_playsNow h, bd1_S], by unfold f_X8_told; rw [if_pos (show nI 10 = 10 from rfl), m_plays h r, bd1_S]⟩
  · exact ⟨g.1.1 10, by unfold f_X1_stateNumber; rw [if_neg (show ¬ nI 11 = 0 by decide), if_neg (show ¬ nI 11 = 1 by decide), if_neg (show ¬ nI 11 = 2 by decide), if_neg (show ¬ nI 11 = 3 by decide), if_neg (show ¬ nI 11 = 4 by decide), if_neg (show ¬ nI 11 = 5 by decide), if_neg (show ¬ nI 11 = 6 by decide), if_neg (show ¬ nI 11 = 7 by decide), if_neg (show ¬ nI 11 = 8 by decide), if_neg (show ¬ nI 11 = 9 by decide), if_neg (show ¬ nI 11 = 10 by decide), if_pos (show nI 11 = 11 from rfl)], by unfold f_X8_told; rw [if_neg (show ¬ nI 11 = 10 by decide), if_pos (show nI 11 = 11 from rfl), gl_10, cl_10]; exact congrArg some r.d10⟩
  · exact ⟨g.1.1 4, by unfold f_X1_stateNumber; rw [if_neg (show ¬ nI 12 = 0 by decide), if_neg (show ¬ nI 12 = 1 by decide), if_neg (show ¬ nI 12 = 2 by decide), if_neg (show ¬ nI 12 = 3 by decide), if_neg (show ¬ nI 12 = 4 by decide), if_neg (show ¬ nI 12 = 5 by decide), if_neg (show ¬ nI 12 = 6 by decide), if_neg (show ¬ nI 12 = 7 by decide), if_neg (show ¬ nI 12 = 8 by decide), if_neg (show ¬ nI 12 = 9 by decide), if_neg (show ¬ nI 12 = 10 by decide), if_neg (show ¬ nI 12 = 11 by decide)], by unfold f_X8_told; rw [if_neg (show ¬ nI 12 = 10 by decide), if_neg (show ¬ nI 12 = 11 by decide), if_pos (show nI 12 = 12 from rfl), gl_11, cl_11]; exact congrArg some r.d11⟩
theorem s_player (h : Inv g mx np hs hb tn pa f e n) (r : Rel g (dd x) np f e n) {p w : Nat} (hp : p < np) (hw : w ≤ 3) : ∃ v, f_X1_playerNumber g (nI p) (nI w) = some v ∧ f_X8_toldPlayer x (nI p) (nI w) = some v := by
  have hnp := h.np
  unfold f_X1_playerNumber f_X8_toldPlayer
  rcases (show w = 0 ∨ w = 1 ∨ w = 2 ∨ w = 3 by omega) with rfl | rfl | rfl | rfl
  · rw [if_pos (show nI 0 = 0 from rfl), if_pos (show nI 0 = 0 from rfl), e_handCount, bd1_S, x_hand, bd1_S, hcN_congr (nI p) r.H]
    exact ⟨_, rfl, rfl⟩
  · rw [if_neg (show ¬ nI 1 = 0 by decide), if_neg (show ¬ nI 1 = 0 by decide), if_pos (show nI 1 = 1 from rfl), if_pos (show nI 1 = 1 from rfl), e_handPips, bd1_S, x_pips, bd1_S, hpI_congr (nI p) r.H]
    exact ⟨_, rfl, rfl⟩
  · rw [if_neg (show ¬ nI 2 = 0 by decide), if_neg (show ¬ nI 2 = 0 by decide), if_neg (show ¬ nI 2 = 1 by decide), if_neg (show ¬ nI 2 = 1 by decide), if_pos (show nI 2 = 2 from rfl), if_pos (show nI 2 = 2 from rfl), e_look (by omega) (by omega), bd1_S, i_15, nI_add, inb_t (by omega) (by omega), gd_T, nI_clamp (by omega), show x.1.2 1 (15 + p) = g.1.2 1 p from r.tot p (by omega)]
    exact ⟨_, rfl, rfl⟩
  · obtain ⟨v, e1, e2⟩ := s_playable h r (nI p)
    rw [if_neg (show ¬ nI 3 = 0 by decide), if_neg (show ¬ nI 3 = 0 by decide), if_neg (show ¬ nI 3 = 1 by decide), if_neg (show ¬ nI 3 = 1 by decide), if_neg (show ¬ nI 3 = 2 by decide), if_neg (show ¬ nI 3 = 2 by decide), e1, e2, bd1_S]
    exact ⟨_, rfl, rfl⟩
theorem m_toldTrain (h : Inv g mx np hs hb tn pa f e n) (r : Rel g (dd x) np f e n) {t : Nat} (ht : t ≤ np) (w : Nat) (hw : w ≤ 4) : f_X8_toldTrain x (nI t) (nI w) = if w < 3 then some (dd x (174 + 58 * t + w)) else if w = 3 then (if cT (g.2.2.2.2 1) t n = 0 then some (-1) else some (dd x (174 + 58 * t + (3 + (cT (g.2.2.2.2 1) t n - 1))))) else some (sI (fun k => pipV (dd x (174 + 58 * t + (3 + k)))) 0 (cT (g.2.2.2.2 1) t n)) := by
  have hnp := h.np
  have hcnt := h.cnt
  have hcT := cT_le (g.2.2.2.2 1) t n
  unfold f_X8_toldTrain
  rw [i_0, x_ofTrain (by omega) (by omega), bd1_S, show dd x (174 + 58 * t + 0) = nI (cT (g.2.2.2.2 1) t n) from r.L t ht, i_3, ie_le (by omega) (by omega), ie_eq (by omega) (by omega), ie_eq (by omega) (by omega)]
  by_cases h1 : w < 3
  · rw [if_pos h1, if_neg (by omega), x_ofTrain (by omega) (by omega), bd1_S]
  · rw [if_neg h1, if_pos (by omega)]
    by_cases h2 : w = 3
    · rw [if_pos h2, if_pos h2]
      by_cases h3 : cT (g.2.2.2.2 1) t n = 0
      · rw [if_pos h3, if_pos h3]
      · rw [if_neg h3, if_neg h3, nI_add, i_1, nI_sub (by omega), x_ofTrain (by omega) (by omega), bd1_S, show 3 + cT (g.2.2.2.2 1) t n - 1 = 3 + (cT (g.2.2.2.2 1) t n - 1) by omega]
    · rw [if_neg h2, if_neg h2]
      refine lp_sumF (N := cT (g.2.2.2.2 1) t n) (by omega) (fun rec a => ?_) (fun rec a k hk => ?_)
      · unfold f_X8_toldTrain_B49
        rw [if_pos (Int32.le_refl _)]
      · unfold f_X8_toldTrain_B49
        rw [ie_le (by omega) (by omega), if_neg (by omega), i_3, nI_add, x_ofTrain (by omega) (by omega), bd1_S, x_pipV, bd1_S, nI_1]
theorem s_train (h : Inv g mx np hs hb tn pa f e n) (r : Rel g (dd x) np f e n) {t w : Nat} (ht : t ≤ np) (hw : w ≤ 4) : ∃ v, f_X1_trainNumber g (nI t) (nI w) = some v ∧ f_X8_toldTrain x (nI t) (nI w) = some v := by
  have hnp := h.np
  have hcnt := h.cnt
  have hcT := cT_le (g.2.2.2.2 1) t n
  rw [m_toldTrain h r ht w hw]
  unfold f_X1_trainNumber
  rcases (show w = 0 ∨ w = 1 ∨ w = 2 ∨ w = 3 ∨ w = 4 by omega) with rfl | rfl | rfl | rfl | rfl
  · rw [if_pos (show nI 0 = 0 from rfl), c_countOf h, bd1_S, if_pos (by omega), show dd x (174 + 58 * t + 0) = nI (cT (g.2.2.2.2 1) t n) from r.L t ht]
    exact ⟨_, rfl, rfl⟩
  · rw [if_neg (show ¬ nI 1 = 0 by decide), if_pos (show nI 1 = 1 from rfl), e_endOf (by omega), bd1_S, if_pos (by omega), show dd x (174 + 58 * t + 1) = g.2.2.2.2 2 t from r.E t ht]
    exact ⟨_, rfl, rfl⟩
  · rw [if_neg (show ¬ nI 2 = 0 by decide), if_neg (show ¬ nI 2 = 1 by decide), if_pos (show nI 2 = 2 from rfl), e_isOpen hnp.1 hnp.2.2 ht, bd1_S, if_pos (show 2 < 3 by omega), show dd x (174 + 58 * t + 2) = _ from r.O t ht]
    by_cases z : t = np
    · rw [if_pos (Or.inl z), if_pos z, if_neg (by decide)]
      exact ⟨_, rfl, rfl⟩
    · rw [if_neg z]
      rcases h.O t ht with z2 | z2
      · rw [z2, show (if t = np ∨ (0 : Int32) = 1 then (1 : Int32) else 0) = 0 from if_neg (fun q => q.elim z (fun q => absurd q (by decide))), if_pos rfl]
        exact ⟨_, rfl, rfl⟩
      · rw [z2, if_pos (Or.inr rfl), if_neg (by decide)]
        exact ⟨_, rfl, rfl⟩
  · rw [if_neg (show ¬ nI 3 = 0 by decide), if_neg (show ¬ nI 3 = 1 by decide), if_neg (show ¬ nI 3 = 2 by decide), if_pos (show nI 3 = 3 from rfl), c_countOf h, bd1_S, if_neg (by omega), if_pos rfl]
    by_cases z : cT (g.2.2.2.2 1) t n = 0
    · rw [if_pos z, z, c_tileAtNo h (Or.inl (by decide)), bd1_S]
      exact ⟨_, rfl, rfl⟩
    · obtain ⟨c, hc, e1, e2⟩ := c_tileAt h r ht (kk := cT (g.2.2.2.2 1) t n - 1) (by omega)
      rw [if_neg z, i_1, nI_sub (by omega), e1, e2, bd1_S]
      exact ⟨_, rfl, rfl⟩
  · rw [if_neg (show ¬ nI 4 = 0 by decide), if_neg (show ¬ nI 4 = 1 by decide), if_neg (show ¬ nI 4 = 2 by decide), if_neg (show ¬ nI 4 = 3 by decide), c_pipsOn h, bd1_S, if_neg (by omega), if_neg (by omega), pips_sum h r ht n (Nat.le_refl _)]
    exact ⟨_, rfl, rfl⟩
theorem s_lightest (h : Inv g mx np hs hb tn pa f e n) (r : Rel g (dd x) np f e n) (h3 : Nat → Int32) (h173 : f_X8_copy 464 1464 (x.1.2 3) (x.1.2 1) 464 = some h3) : ∃ v, f_X1_lightestHand g = some v ∧ itr2 (f_X8_winner_B31 x) FUEL 0 1 = some (v, ((sa x.1 1 h3), x.2)) := by
  have hnp := h.np
  unfold f_X1_lightestHand
  refine lk22 (B := f_X1_lightestHand_B4 g) (B' := f_X8_winner_B31 x) (fun (o : Option Int32) (o' : Option (Int32 × MS)) => ∃ v, o = some v ∧ o' = some (v, ((sa x.1 1 h3), x.2))) (fun (m : Nat) (v1 v2 w1 w2 : Int32) => ∃ p, v2 = nI p ∧ w2 = nI p ∧ w1 = v1 ∧ p + m = np) ?_ FUEL (np - 1) 0 1 0 1 (FUEL_lt (by omega)) ⟨1, rfl, rfl, rfl, by omega⟩
  rintro rec rec' m v1 v2 w1 w2 ⟨p, rfl, rfl, rfl, hm⟩ ih
  unfold f_X1_lightestHand_B4 f_X8_winner_B31
  rw [hnp.1, ie_le (by omega) (by omega), gl_1, cl_1, show x.1.2 1 1 = nI np from r.d1.trans hnp.1, ie_le (by omega) (by omega), e_handPips, bd1_S, e_handPips, bd1_S, x_pips, bd1_S, x_pips, bd1_S, hpI_congr (nI p) r.H, hpI_congr w1 r.H, h173, bd1_S]
  by_cases h1 : np ≤ p
  · rw [if_pos h1, if_pos h1]
    exact ⟨_, rfl, rfl⟩
  · rw [if_neg h1, if_neg h1, nI_1]
    by_cases h2 : hpI (g.1.2 0) w1 ≤ hpI (g.1.2 0) (nI p)
    · rw [if_pos h2, if_pos h2]
      exact ih (m - 1) _ _ _ _ (by omega) ⟨p + 1, rfl, rfl, rfl, by omega⟩
    · rw [if_neg h2, if_neg h2]
      exact ih (m - 1) _ _ _ _ (by omega) ⟨p + 1, rfl, rfl, rfl, by omega⟩
end L
section L2
variable {s7 : HS} {x : MS} {mx np hs hb tn pa f e n : Nat}
theorem s_mean (h : Inv s7.2.1 mx np hs hb tn pa f e n) (r : Rel s7.2.1 (dd x) np f e n) : ∃ v, f_X7_meanPips s7 = some v ∧ f_X8_meanPips x = some (v, ((ss x.1 0 0), x.2)) := by
  have hnp := h.np
  have r' : Rel s7.2.1 (dd ((ss x.1 0 0), x.2)) np f e n := r
  unfold f_X7_meanPips f_X8_meanPips
  refine lk33 (B := f_X7_meanPips_B6 s7) (B' := f_X8_meanPips_B11 x) (fun (o : Option UInt64) (o' : Option (UInt64 × MS)) => ∃ v, o = some v ∧ o' = some (v, ((ss x.1 0 0), x.2))) (fun (m : Nat) (v1 v2 v3 w1 w2 w3 : Int32) => ∃ p, v3 = nI p ∧ w3 = nI p ∧ w1 = v1 ∧ w2 = v2 ∧ p + m = np) ?_ FUEL np 0 0 0 0 0 0 (FUEL_lt (by omega)) ⟨0, rfl, rfl, rfl, rfl, by omega⟩
  rintro rec rec' m v1 v2 v3 w1 w2 w3 ⟨p, rfl, rfl, rfl, rfl, hm⟩ ih
  unfold f_X7_meanPips_B6 f_X8_meanPips_B11
  rw [hnp.1, ie_le (by omega) (by omega), gl_1, cl_1, show x.1.2 1 1 = nI np from r.d1.trans hnp.1, ie_le (by omega) (by omega), e_handPips, bd1_S, e_handCount, bd1_S, x_pips, bd1_S, x_hand, bd1_S, hpI_congr (nI p) r'.H, hcN_congr (nI p) r'.H]
  by_cases h1 : np ≤ p
  · rw [if_pos h1, if_pos h1]
    by_cases h2 : w2 = 0
    · rw [if_pos h2, if_pos h2]
      exact ⟨_, rfl, rfl⟩
    · rw [if_neg h2, if_neg h2, nn_div _ h2, gd_T, gd_T]
      exact ⟨_, rfl, rfl⟩
  · rw [if_neg h1, if_neg h1, nI_1]
    exact ih (m - 1) _ _ _ _ _ _ (by omega) ⟨p + 1, rfl, rfl, rfl, rfl, by omega⟩
theorem s_checksum (h : Inv s7.2.1 mx np hs hb tn pa f e n) (r : Rel s7.2.1 (dd x) np f e n) : ∃ v, f_X7_checksum s7 = some v ∧ f_X8_checksum x = some (v, ((ss x.1 0 0), x.2)) := by
  have hnp := h.np
  have r' : Rel s7.2.1 (dd ((ss x.1 0 0), x.2)) np f e n := r
  have hd1 : x.1.2 1 1 = nI np := r.d1.trans hnp.1
  let Post : Option Int64 → Option (Int64 × MS) → Prop := fun o o' => ∃ v, o = some v ∧ o' = some (v, ((ss x.1 0 0), x.2))
  -- the trains
  have trains : ∀ v : Int64, Post (itr2 (f_X7_checksum_B125 s7) FUEL v 0) (itr2 (f_X8_checksum_B124 x) FUEL v 0) := by
    intro v
    refine lk22 (B := f_X7_checksum_B125 s7) (B' := f_X8_checksum_B124 x) Post (fun (m : Nat) (v1 : Int64) (v2 : Int32) (w1 : Int64) (w2 : Int32) => ∃ t, v2 = nI t ∧ w2 = nI t ∧ w1 = v1 ∧ t + m = np + 1) ?_ FUEL (np + 1) v 0 v 0 (FUEL_lt (by omega)) ⟨0, rfl, rfl, rfl, by omega⟩
    rintro rec rec' m v1 v2 w1 w2 ⟨t, rfl, rfl, rfl, hm⟩ ih
    unfold f_X7_checksum_B125 f_X8_checksum_B124
    rw [hnp.1, ie_lt (by omega) (by omega), gl_1, cl_1, hd1, ie_lt (by omega) (by omega)]
    by_cases h1 : np < t
    · rw [if_pos h1, if_pos h1]
      exact ⟨_, rfl, rfl⟩
    · rw [if_neg h1, if_neg h1]
      refine lk22 (B := f_X7_checksum_B139 s7 rec (nI t)) (B' := f_X8_checksum_B137 x rec' (nI t)) Post (fun (m : Nat) (v1 : Int64) (v2 : Int32) (w1 : Int64) (w2 : Int32) => ∃ u, v2 = nI u ∧ w2 = nI u ∧ w1 = v1 ∧ u + m = 5) ?_ FUEL 5 w1 0 w1 0 (FUEL_lt (by omega)) ⟨0, rfl, rfl, rfl, by omega⟩
      rintro rec2 rec2' m2 v1 v2 w1 w2 ⟨u, rfl, rfl, rfl, hm2⟩ ih2
      unfold f_X7_checksum_B139 f_X8_checksum_B137
      rw [i_5, ie_le (by omega) (by omega), ie_le (by omega) (by omega)]
      by_cases h2 : 5 ≤ u
      · rw [if_pos h2, if_pos h2, nI_1]
        exact ih (m - 1) _ _ _ _ (by omega) ⟨t + 1, rfl, rfl, rfl, by omega⟩
      · obtain ⟨v, e1, e2⟩ := s_train h r' (t := t) (w := u) (by omega) (by omega)
        rw [if_neg h2, if_neg h2, e1, e2, bd1_S, bd1_S, nmd_S, nmd_S, nI_1]
        exact ih2 (m2 - 1) _ _ _ _ (by omega) ⟨u + 1, rfl, rfl, rfl, by omega⟩
  -- the players
  have players : ∀ v : Int64, Post (itr2 (f_X7_checksum_B34 s7) FUEL v 0) (itr2 (f_X8_checksum_B36 x) FUEL v 0) := by
    intro v
    refine lk22 (B := f_X7_checksum_B34 s7) (B' := f_X8_checksum_B36 x) Post (fun (m : Nat) (v1 : Int64) (v2 : Int32) (w1 : Int64) (w2 : Int32) => ∃ t, v2 = nI t ∧ w2 = nI t ∧ w1 = v1 ∧ t + m = np) ?_ FUEL np v 0 v 0 (FUEL_lt (by omega)) ⟨0, rfl, rfl, rfl, by omega⟩
    rintro rec rec' m v1 v2 w1 w2 ⟨t, rfl, rfl, rfl, hm⟩ ih
    unfold f_X7_checksum_B34 f_X8_checksum_B36
    rw [hnp.1, ie_le (by omega) (by omega), gl_1, cl_1, hd1, ie_le (by omega) (by omega)]
    by_cases h1 : np ≤ t
    · rw [if_pos h1, if_pos h1]
      exact trains _
    · rw [if_neg h1, if_neg h1]
      have codes : ∀ v : Int64, Post (itr2 (f_X7_checksum_B81 s7 rec (nI t)) FUEL v 0) (itr2 (f_X8_checksum_B79 x rec' (nI t)) FUEL v 0) := by
        intro v
        refine lk22 (B := f_X7_checksum_B81 s7 rec (nI t)) (B' := f_X8_checksum_B79 x rec' (nI t)) Post (fun (m : Nat) (v1 : Int64) (v2 : Int32) (w1 : Int64) (w2 : Int32) => ∃ u, v2 = nI u ∧ w2 = nI u ∧ w1 = v1 ∧ u + m = 100) ?_ FUEL 100 v 0 v 0 (FUEL_lt (by omega)) ⟨0, rfl, rfl, rfl, by omega⟩
        rintro rec2 rec2' m2 v1 v2 w1 w2 ⟨u, rfl, rfl, rfl, hm2⟩ ih2
        unfold f_X7_checksum_B81 f_X8_checksum_B79
        rw [i_100, ie_le (by omega) (by omega), ie_le (by omega) (by omega)]
        by_cases h2 : 100 ≤ u
        · rw [if_pos h2, if_pos h2, nI_1]
          exact ih (m - 1) _ _ _ _ (by omega) ⟨t + 1, rfl, rfl, rfl, by omega⟩
        · rw [if_neg h2, if_neg h2, e_holder (by omega), bd1_S, x_isInHand _ (by omega), bd1_S, r'.H u (by omega), nI_1]
          by_cases h3 : s7.2.1.1.2 0 u = nI t
          · rw [if_pos h3, if_pos h3, if_neg (by decide), nmd_S, nmd_S]
            exact ih2 (m2 - 1) _ _ _ _ (by omega) ⟨u + 1, rfl, rfl, rfl, by omega⟩
          · rw [if_neg h3, if_neg h3, if_pos rfl]
            exact ih2 (m2 - 1) _ _ _ _ (by omega) ⟨u + 1, rfl, rfl, rfl, by omega⟩
      refine lk22 (B := f_X7_checksum_B48 s7 rec (nI t)) (B' := f_X8_checksum_B49 x rec' (nI t)) Post (fun (m : Nat) (v1 : Int64) (v2 : Int32) (w1 : Int64) (w2 : Int32) => ∃ u, v2 = nI u ∧ w2 = nI u ∧ w1 = v1 ∧ u + m = 4) ?_ FUEL 4 w1 0 w1 0 (FUEL_lt (by omega)) ⟨0, rfl, rfl, rfl, by omega⟩
      rintro rec2 rec2' m2 v1 v2 w1 w2 ⟨u, rfl, rfl, rfl, hm2⟩ ih2
      unfold f_X7_checksum_B48 f_X8_checksum_B49
      rw [i_4, ie_le (by omega) (by omega), ie_le (by omega) (by omega)]
      by_cases h2 : 4 ≤ u
      · rw [if_pos h2, if_pos h2]
        exact codes _
      · obtain ⟨v, e1, e2⟩ := s_player h r' (p := t) (w := u) (by omega) (by omega)
        rw [if_neg h2, if_neg h2, e1, e2, bd1_S, bd1_S, nmd_S, nmd_S, nI_1]
        exact ih2 (m2 - 1) _ _ _ _ (by omega) ⟨u + 1, rfl, rfl, rfl, by omega⟩
  unfold f_X7_checksum f_X8_checksum
  refine lk22 (B := f_X7_checksum_B4 s7) (B' := f_X8_checksum_B9 x) Post (fun (m : Nat) (v1 : Int64) (v2 : Int32) (w1 : Int64) (w2 : Int32) => ∃ u, v2 = nI u ∧ w2 = nI u ∧ w1 = v1 ∧ u + m = 13) ?_ FUEL 13 0 0 0 0 (FUEL_lt (by omega)) ⟨0, rfl, rfl, rfl, by omega⟩
  rintro rec2 rec2' m2 v1 v2 w1 w2 ⟨u, rfl, rfl, rfl, hm2⟩ ih2
  unfold f_X7_checksum_B4 f_X8_checksum_B9
  rw [i_13, ie_le (by omega) (by omega), ie_le (by omega) (by omega)]
  by_cases h2 : 13 ≤ u
  · rw [if_pos h2, if_pos h2]
    exact players _
  · obtain ⟨v, e1, e2⟩ := s_state h r' (w := u) (by omega)
    rw [if_neg h2, if_neg h2, e1, e2, bd1_S, bd1_S, nmd_S, nmd_S, nI_1]
    exact ih2 (m2 - 1) _ _ _ _ (by omega) ⟨u + 1, rfl, rfl, rfl, by omega⟩
end L2
