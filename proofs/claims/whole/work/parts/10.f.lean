/-! steps of a game: the turn, the end of a round, a pass, a draw -/
/-- a model whose row alone has changed, and the codes of its rank not -/
def Fr (x x' : MS) : Prop := x'.1.1 = x.1.1 ∧ (∀ i, i ≠ 1 → x'.1.2 i = x.1.2 i) ∧ ∀ k, k = 13 ∨ k = 14 ∨ 464 ≤ k → dd x' k = dd x k
theorem Fr.rf {x : MS} : Fr x x := ⟨rfl, fun _ _ => rfl, fun _ _ => rfl⟩
theorem Fr.tr {x y z : MS} (h : Fr x y) (k : Fr y z) : Fr x z := ⟨k.1.trans h.1, fun i hi => (k.2.1 i hi).trans (h.2.1 i hi), fun i hi => (k.2.2 i hi).trans (h.2.2 i hi)⟩
theorem Fr.upd {x : MS} {w : Nat → Int32} (h : ∀ k, k = 13 ∨ k = 14 ∨ 464 ≤ k → w k = dd x k) : Fr x ((sa x.1 1 w), x.2) := ⟨rfl, fun i hi => upA_n hi, h⟩
theorem FUEL_lt {k : Nat} (h : k < 2000000) : k < FUEL := h
theorem c_endRound {g : GS} {np : Nat} (h1 : g.1.1 1 = nI np) (hn4 : np ≤ 4) : ∃ g', f_X1_endRound g = some g' ∧ g'.1.1 = upd (upd g.1.1 8 1) 9 (g.1.1 9 + 1) ∧ (∀ j, j ≠ 1 → g'.1.2 j = g.1.2 j) ∧ g'.2 = g.2 ∧ ∀ p, p < 4 → g'.1.2 1 p = g.1.2 1 p + (if p < np then hpI (g.1.2 0) (nI p) else 0) := by
  unfold f_X1_endRound
  refine lr2 (fun (o : Option GS) => ∃ g' : GS, o = some g' ∧ g'.1.1 = upd (upd g.1.1 8 1) 9 (g.1.1 9 + 1) ∧ (∀ j, j ≠ 1 → g'.1.2 j = g.1.2 j) ∧ g'.2 = g.2 ∧ ∀ p, p < 4 → g'.1.2 1 p = g.1.2 1 p + (if p < np then hpI (g.1.2 0) (nI p) else 0)) (fun (m : Nat) (i : Int32) (gg : GS) => ∃ k, i = nI k ∧ k + m = np ∧ gg.1.1 = upd (upd g.1.1 8 1) 9 (g.1.1 9 + 1) ∧ (∀ j, j ≠ 1 → gg.1.2 j = g.1.2 j) ∧ gg.2 = g.2 ∧ ∀ p, p < 4 → gg.1.2 1 p = g.1.2 1 p + (if p < k then hpI (g.1.2 0) (nI p) else 0)) ?_ FUEL np 0 _ (FUEL_lt (by omega)) ⟨0, rfl, by omega, rfl, fun _ _ => rfl, rfl, fun p hp => by rw [if_neg (by omega), i_addz]⟩
  rintro rec m i gg ⟨k, rfl, hk, hS, hA, h2, hT⟩ ih
  unfold f_X1_endRound_B17
  have e1 : gg.1.1 1 = nI np := by rw [hS]; exact h1
  rw [e1, ie_le (by omega) (by omega)]
  by_cases hkk : np ≤ k
  · rw [if_pos hkk]
    have : k = np := by omega
    subst this
    exact ⟨gg, rfl, hS, hA, h2, hT⟩
  · rw [if_neg hkk, e_look (by omega) (by omega), bd1_S, e_handPips, bd1_S, e_put (by omega) (by omega), bd1_S, nI_1]
    refine ih (m - 1) _ _ (by omega) ⟨k + 1, rfl, by omega, hS, fun j hj => ?_, h2, fun p hp => ?_⟩
    · show upA gg.1.2 1 _ j = _
      rw [upA_n hj]; exact hA j hj
    · show upd (gg.1.2 1) k _ p = _
      by_cases hpk : p = k
      · subst hpk
        rw [upd_s, if_pos (by omega), hT p hp, if_neg (by omega), i_addz, hA 0 (by omega)]
      · rw [upd_n hpk, hT p hp]
        by_cases h3 : p < k
        · rw [if_pos h3, if_pos (by omega)]
        · rw [if_neg h3, if_neg (by omega)]
theorem m_endRound {x : MS} {np : Nat} (h1 : dd x 1 = nI np) (hn4 : np ≤ 4) : ∃ x', f_X8_endRound x = some x' ∧ Fr x x' ∧ ∀ k, dd x' k = if k = 8 then 1 else if k = 9 then dd x 9 + 1 else if 15 ≤ k ∧ k < 15 + np then dd x k + hpI (fun c => dd x (19 + c)) (nI (k - 15)) else dd x k := by
  unfold f_X8_endRound
  rw [gl_8, cl_8, nmd_S, gl_9, gl_9, cl_9, nmd_S, upd_n (by omega)]
  refine lr2 (fun (o : Option MS) => ∃ x' : MS, o = some x' ∧ Fr x x' ∧ ∀ k, dd x' k = if k = 8 then 1 else if k = 9 then dd x 9 + 1 else if 15 ≤ k ∧ k < 15 + np then dd x k + hpI (fun c => dd x (19 + c)) (nI (k - 15)) else dd x k) (fun (m : Nat) (i : Int32) (y : MS) => ∃ q, i = nI q ∧ q + m = np ∧ Fr x y ∧ ∀ k, dd y k = if k = 8 then 1 else if k = 9 then dd x 9 + 1 else if 15 ≤ k ∧ k < 15 + q then dd x k + hpI (fun c => dd x (19 + c)) (nI (k - 15)) else dd x k) ?_ FUEL np 0 _ (FUEL_lt (by omega)) ⟨0, rfl, by omega, Fr.upd (fun k hk => by rw [upd_n (by omega), upd_n (by omega)]), fun k => ?_⟩
  · rintro rec m i y ⟨q, rfl, hq, hF, hD⟩ ih
    unfold f_X8_endRound_B21
    have e1 : y.1.2 1 1 = nI np := by
      rw [show y.1.2 1 1 = _ from hD 1, if_neg (by omega), if_neg (by omega), if_neg (by omega)]; exact h1
    rw [gl_1, cl_1, e1, ie_le (by omega) (by omega)]
    by_cases hkk : np ≤ q
    · rw [if_pos hkk]
      have : q = np := by omega
      subst this
      exact ⟨y, rfl, hF, hD⟩
    · rw [if_neg hkk, i_15, nI_add, inb_t (by omega) (by omega), gd_T, x_pips, bd1_S, gd_T, nI_clamp (by omega), nmd_S, nI_1]
      have hH : hpI (fun c => dd y (19 + c)) (nI q) = hpI (fun c => dd x (19 + c)) (nI q) := hpI_congr _ (fun c hc => by
        rw [hD, if_neg (by omega), if_neg (by omega), if_neg (by omega)])
      refine ih (m - 1) _ _ (by omega) ⟨q + 1, rfl, by omega, hF.tr (Fr.upd (fun k hk => upd_n (by omega))), fun k => ?_⟩
      show upd (y.1.2 1) (15 + q) _ k = _
      by_cases hk : k = 15 + q
      · subst hk
        rw [upd_s, if_neg (by omega), if_neg (by omega), if_pos (by omega), show y.1.2 1 (15 + q) = _ from hD (15 + q), if_neg (by omega), if_neg (by omega), if_neg (by omega), show 15 + q - 15 = q by omega]
        rw [hH]
      · rw [upd_n hk, show y.1.2 1 k = _ from hD k]
        by_cases h8 : k = 8
        · rw [if_pos h8, if_pos h8]
        · rw [if_neg h8, if_neg h8]
          by_cases h9 : k = 9
          · rw [if_pos h9, if_pos h9]
          · rw [if_neg h9, if_neg h9]
            by_cases h3 : 15 ≤ k ∧ k < 15 + q
            · rw [if_pos h3, if_pos (by omega)]
            · rw [if_neg h3, if_neg (by omega)]
  · show upd (upd (x.1.2 1) 8 1) 9 _ k = _
    by_cases h9 : k = 9
    · subst h9
      rw [upd_s, if_neg (by omega), if_pos rfl]
    · rw [upd_n h9]
      by_cases h8 : k = 8
      · subst h8
        rw [upd_s, if_pos rfl]
      · rw [upd_n h8, if_neg h8, if_neg h9, if_neg (by omega)]
section S
variable {g : GS} {x : MS} {mx np hs hb tn pa f e n : Nat}
/-- a new row that has changed at scalars alone -/
theorem Rel.sc {g' : GS} {d d' : Nat → Int32} (r : Rel g d np f e n) (hd : ∀ k, 15 ≤ k → d' k = d k) (hA : g'.1.2 = g.1.2) (hK : g'.2.2.1 = g.2.2.1) (hT : g'.2.2.2 = g.2.2.2) (h0 : d' 0 = g'.1.1 0) (h1 : d' 1 = g'.1.1 1) (h2 : d' 2 = g'.1.1 2) (h3 : d' 3 = g'.1.1 3) (h4 : d' 4 = g'.1.1 5) (h5 : d' 5 = g'.1.1 6) (h6 : d' 6 = g'.1.1 7) (h7 : d' 7 = d 7) (h8 : d' 8 = g'.1.1 8) (h9 : d' 9 = g'.1.1 9) (h10 : d' 10 = g'.1.1 10) (h11 : d' 11 = g'.1.1 4) (h12 : d' 12 = d 12) : Rel g' d' np f e n := by
  refine ⟨h0, h1, h2, h3, h4, h5, h6, h7.trans r.d7, h8, h9, h10, h11, h12.trans r.d12, ?_, ?_, ?_, ?_, ?_, ?_, ?_⟩
  · intro p hp; rw [hd _ (by omega), hA]; exact r.tot p hp
  · intro c hc; rw [hd _ (by omega), hA]; exact r.H c hc
  · intro i hi; rw [hd _ (by omega), hK]; exact r.K i hi
  · intro t ht; rw [hd _ (by omega), hT]; exact r.L t ht
  · intro t ht; show d' _ = _; rw [hd _ (by omega), hT]; exact r.E t ht
  · intro t ht; show d' _ = _; rw [hd _ (by omega), hT]; exact r.O t ht
  · intro i hi t ht hu
    rw [hT] at hu ⊢
    rw [hd _ (by omega)]
    exact r.T i hi t ht hu
theorem s_nextTurn (h : Inv g mx np hs hb tn pa f e n) (r : Rel g (dd x) np f e n) : ∃ g' x' tn', f_X1_nextTurn g = some g' ∧ f_X8_nextTurn x = some x' ∧ Inv g' mx np hs hb tn' pa f e n ∧ Rel g' (dd x') np f e n ∧ Fr x x' ∧ g'.2 = g.2 ∧ g'.1.1 8 = g.1.1 8 ∧ g'.1.2 = g.1.2 := by
  have hnp := h.np
  have htn := h.tn
  have hd4 : x.1.2 1 4 = nI tn := r.d4.trans h.tn.1
  have hd1 : x.1.2 1 1 = nI np := r.d1.trans h.np.1
  obtain ⟨v, hv, ev⟩ : ∃ v, v < np ∧ v = (tn + 1) % np := ⟨_, Nat.mod_lt _ (by omega), rfl⟩
  have e1 : f_X1_nextTurn g = some (((ss (ss g.1 5 (nI v)) 6 0), (g.2.1), g.2.2.1, g.2.2.2)) := by
    unfold f_X1_nextTurn
    rw [h.np.1, h.tn.1, nI_1, ie_le (by omega) (by omega)]
    by_cases hq : np ≤ tn + 1
    · rw [if_pos hq]
      have : v = 0 := by rw [ev, show tn + 1 = np by omega, Nat.mod_self]
      rw [this]; rfl
    · rw [if_neg hq]
      have : v = tn + 1 := by rw [ev, Nat.mod_eq_of_lt (by omega)]
      rw [this]
  have hz : nz (nI np) = true := decide_eq_true (nI_ne0 (by omega) (by omega))
  have e2 : f_X8_nextTurn x = some (((sa x.1 1 (upd (upd (x.1.2 1) 4 (nI v)) 5 0)), x.2)) := by
    unfold f_X8_nextTurn
    rw [gl_4, gl_1, gl_4, cl_4, cl_1, hd1, hd4, hz, gd_T, nmd_S, gl_5, cl_5, nmd_S, nI_1, nI_div (by omega) (by omega), nI_mul, nI_dm (by omega) (by omega), ← ev]
  refine ⟨_, _, v, e1, e2, ?_, ?_, Fr.upd (fun k hk => by rw [upd_n (by omega), upd_n (by omega)]), rfl, rfl, rfl⟩
  · exact ⟨h.mx, h.np, h.hs, h.hb, ⟨rfl, hv⟩, Or.inl rfl, h.un, h.ov, h.pa, h.H, h.st, h.K, h.n, h.T, h.E, h.O, h.cnt⟩
  · refine r.sc (fun k hk => ?_) rfl rfl rfl ?_ ?_ ?_ ?_ ?_ ?_ ?_ ?_ ?_ ?_ ?_ ?_ ?_
    · show upd (upd (x.1.2 1) 4 (nI v)) 5 0 k = _
      rw [upd_n (by omega), upd_n (by omega)]
    · exact r.d0
    · exact r.d1
    · exact r.d2
    · exact r.d3
    · rfl
    · rfl
    · exact r.d6
    · rfl
    · exact r.d8
    · exact r.d9
    · exact r.d10
    · exact r.d11
    · rfl
theorem s_endRound (h : Inv g mx np hs hb tn pa f e n) (r : Rel g (dd x) np f e n) : ∃ g' x', f_X1_endRound g = some g' ∧ f_X8_endRound x = some x' ∧ Inv g' mx np hs hb tn pa f e n ∧ Rel g' (dd x') np f e n ∧ Fr x x' ∧ g'.2 = g.2 ∧ g'.1.1 8 = 1 := by
  have hnp := h.np
  obtain ⟨g', e1, hS, hA, h2, hT⟩ := c_endRound (g := g) h.np.1 hnp.2.2
  obtain ⟨x', e2, hF, hD⟩ := m_endRound (x := x) (r.d1.trans h.np.1) hnp.2.2
  have hD2 : ∀ k, 19 ≤ k → dd x' k = dd x k := fun k hk => by rw [hD, if_neg (by omega), if_neg (by omega), if_neg (by omega)]
  have hH := hA 0 (by omega)
  have sc : ∀ k, ¬ k = 8 → ¬ k = 9 → g'.1.1 k = g.1.1 k := fun k h8 h9 => by rw [hS, upd_n h9, upd_n h8]
  have g8 : g'.1.1 8 = 1 := by rw [hS]; rfl
  have dsc : ∀ k, k < 15 → ¬ k = 8 → ¬ k = 9 → dd x' k = dd x k := fun k hk h8 h9 => by rw [hD, if_neg h8, if_neg h9, if_neg (by omega)]
  refine ⟨g', x', e1, e2, ?_, ?_, hF, h2, g8⟩
  · refine ⟨?_, ?_, ?_, ?_, ?_, ?_, ?_, Or.inr g8, ?_, ?_, ?_, ?_, ?_, ?_, ?_, ?_, ?_⟩
    · rw [sc 0 (by omega) (by omega)]; exact h.mx
    · rw [sc 1 (by omega) (by omega)]; exact h.np
    · rw [sc 2 (by omega) (by omega)]; exact h.hs
    · rw [sc 3 (by omega) (by omega)]; exact h.hb
    · rw [sc 5 (by omega) (by omega)]; exact h.tn
    · rw [sc 6 (by omega) (by omega)]; exact h.dr
    · rw [sc 7 (by omega) (by omega)]; exact h.un
    · rw [sc 10 (by omega) (by omega)]; exact h.pa
    · rw [hH]; exact h.H
    · rw [h2]; exact h.st
    · rw [h2]; exact h.K
    · rw [h2]; exact h.n
    · rw [h2]; exact h.T
    · unfold gE; rw [h2]; exact h.E
    · rw [h2]; exact h.O
    · rw [hH]; exact h.cnt
  · refine ⟨?_, ?_, ?_, ?_, ?_, ?_, ?_, ?_, ?_, ?_, ?_, ?_, ?_, ?_, ?_, ?_, ?_, ?_, ?_, ?_⟩
    · rw [dsc 0 (by omega) (by omega) (by omega), sc 0 (by omega) (by omega)]; exact r.d0
    · rw [dsc 1 (by omega) (by omega) (by omega), sc 1 (by omega) (by omega)]; exact r.d1
    · rw [dsc 2 (by omega) (by omega) (by omega), sc 2 (by omega) (by omega)]; exact r.d2
    · rw [dsc 3 (by omega) (by omega) (by omega), sc 3 (by omega) (by omega)]; exact r.d3
    · rw [dsc 4 (by omega) (by omega) (by omega), sc 5 (by omega) (by omega)]; exact r.d4
    · rw [dsc 5 (by omega) (by omega) (by omega), sc 6 (by omega) (by omega)]; exact r.d5
    · rw [dsc 6 (by omega) (by omega) (by omega), sc 7 (by omega) (by omega)]; exact r.d6
    · rw [dsc 7 (by omega) (by omega) (by omega)]; exact r.d7
    · rw [hD, if_pos rfl, g8]
    · rw [hD, if_neg (by omega), if_pos rfl, hS, upd_s, r.d9]
    · rw [dsc 10 (by omega) (by omega) (by omega), sc 10 (by omega) (by omega)]; exact r.d10
    · rw [dsc 11 (by omega) (by omega) (by omega), sc 4 (by omega) (by omega)]; exact r.d11
    · rw [dsc 12 (by omega) (by omega) (by omega)]; exact r.d12
    · intro p hp
      rw [hT p hp, hD, if_neg (by omega), if_neg (by omega), r.tot p hp]
      have e3 : hpI (fun c => dd x (19 + c)) (nI (15 + p - 15)) = hpI (g.1.2 0) (nI p) := by
        rw [show 15 + p - 15 = p by omega]
        exact hpI_congr _ r.H
      by_cases hpn : p < np
      · rw [if_pos (by omega), if_pos hpn, e3]
      · rw [if_neg (by omega), if_neg hpn, i_addz]
    · intro c hc; rw [hD2 _ (by omega), hH]; exact r.H c hc
    · intro i hi; rw [hD2 _ (by omega), h2]; exact r.K i hi
    · intro t ht; rw [hD2 _ (by omega), h2]; exact r.L t ht
    · intro t ht; show dd x' _ = _; rw [hD2 _ (by omega), h2]; exact r.E t ht
    · intro t ht; show dd x' _ = _; rw [hD2 _ (by omega), h2]; exact r.O t ht
    · intro i hi t ht hu
      rw [h2] at hu ⊢
      rw [hD2 _ (by omega)]
      exact r.T i hi t ht hu
end S
