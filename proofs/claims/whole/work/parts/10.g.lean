/-! a draw, a pass, a tile laid -/
theorem cn_le1 {P Q : Nat → Bool} (c : Nat) : ∀ (n k : Nat), (∀ j, j ≠ c → P j = Q j) → cn P k n ≤ cn Q k n + (if k ≤ c ∧ c < k + n then 1 else 0)
  | 0, k, _ => Nat.zero_le _
  | n + 1, k, H => by
    show (if P k = true then 1 else 0) + cn P (k + 1) n ≤ (if Q k = true then 1 else 0) + cn Q (k + 1) n + _
    have ih := cn_le1 c n (k + 1) H
    by_cases hk : k = c
    · subst hk
      rw [if_pos (show k ≤ k ∧ k < k + (n + 1) by omega)]
      rw [if_neg (show ¬ (k + 1 ≤ k ∧ k < k + 1 + n) by omega)] at ih
      split <;> split <;> omega
    · rw [H k hk]
      by_cases h2 : k ≤ c ∧ c < k + (n + 1)
      · rw [if_pos h2]
        rw [if_pos (show k + 1 ≤ c ∧ c < k + 1 + n by omega)] at ih
        omega
      · rw [if_neg h2]
        rw [if_neg (show ¬ (k + 1 ≤ c ∧ c < k + 1 + n) by omega)] at ih
        omega
theorem hT_up (H : Nat → Int32) (c : Nat) (v : Int32) : hT (upd H c v) ≤ hT H + 1 := by
  have := cn_le1 (P := fun j => decide (¬ upd H c v j = -1)) (Q := fun j => decide (¬ H j = -1)) c 100 0 (fun j hj => by rw [upd_n hj])
  unfold hT
  split at this <;> omega
theorem hT_down (H : Nat → Int32) {c : Nat} (hc : c < 100) (h : ¬ H c = -1) : hT H = hT (upd H c (-1)) + 1 :=
  cn_set (P := fun j => decide (¬ H j = -1)) (Q := fun j => decide (¬ upd H c (-1) j = -1)) c (decide_eq_true h) (by rw [upd_s]; decide) 100 0 (Nat.zero_le _) (by omega) (fun j hj => by rw [upd_n hj])
theorem cT_lt {U : Nat → Int32} {t i m : Nat} (hi : i < m) (h : U i = nI t) : cT U t i < cT U t m := by
  have h1 : cT U t (i + 1) = cT U t i + 1 := by rw [cT_succ, if_pos h]
  have h2 : ∀ k, cT U t (i + 1) ≤ cT U t (i + 1 + k) := by
    intro k
    induction k with
    | zero => exact Nat.le_refl _
    | succ k ih =>
      show cT U t (i + 1) ≤ cT U t (i + 1 + k + 1)
      have := cT_succ U t (i + 1 + k)
      omega
  have h3 := h2 (m - (i + 1))
  rw [show i + 1 + (m - (i + 1)) = m by omega] at h3
  omega
section G
variable {g : GS} {x : MS} {mx np hs hb tn pa f e n : Nat}
theorem s_draw (h : Inv g mx np hs hb tn pa f e n) (r : Rel g (dd x) np f e n) (hf : f < e) : ∃ c g' x', c < 100 ∧ f_X1_drawTile g = some (nI c, g') ∧ f_X8_drawNow x = some (nI c, x') ∧ Inv g' mx np hs hb tn 0 (f + 1) e n ∧ Rel g' (dd x') np (f + 1) e n ∧ Fr x x' ∧ g'.2.1 = g.2.1 ∧ g'.1.1 8 = g.1.1 8 ∧ hT (g'.1.2 0) ≤ hT (g.1.2 0) + 1 := by
  have hst := h.st
  have hnp := h.np
  obtain ⟨c, hc, hK, hin⟩ := h.K f hf
  have hd12 : x.1.2 1 12 = nI f := r.d12
  have hdf : x.1.2 1 (119 + f) = nI c := (r.K f hf).trans hK
  have hd7 : x.1.2 1 7 = nI (e - f) := r.d7
  have e1 : f_X1_drawTile g = some (nI c, ((sa (ss (ss g.1 6 1) 10 0) 0 (upd (g.1.2 0) c (g.1.1 5))), (g.2.1), ss g.2.2.1 0 (nI (f + 1)), g.2.2.2)) := by
    unfold f_X1_drawTile f_X4_takeFirst
    rw [hst.1, hst.2.1, ie_lt (by omega) (by omega), if_pos hf, e_look (by omega) (by omega), bd1_S, bd2_S, hK, e_put hc (by omega), bd1_S, nI_1]
  have e2 : f_X8_drawNow x = some (nI c, ((sa x.1 1 (upd (upd (upd (upd (upd (x.1.2 1) (19 + c) (x.1.2 1 4)) 12 (nI (f + 1))) 7 (nI (e - (f + 1)))) 5 1) 10 0)), x.2)) := by
    unfold f_X8_drawNow
    simp only [gl_12, cl_12, gl_4, cl_4, gl_7, cl_7, gl_5, cl_5, gl_10, cl_10, nmd_S]
    rw [hd12, i_119, nI_add, inb_t (by omega) (by omega), gd_T, nI_clamp (by omega), hdf, i_19, nI_add, inb_t (by omega) (by omega), gd_T, nI_clamp (by omega), upd_n (show ¬ 12 = 19 + c by omega), hd12, nI_1, upd_n (show ¬ 7 = 12 by omega), upd_n (show ¬ 7 = 19 + c by omega), hd7]
    rw [show nI (e - f) - 1 = nI (e - (f + 1)) by rw [show (1 : Int32) = nI 1 from rfl, nI_sub (by omega), show e - f - 1 = e - (f + 1) by omega]]
  have hup := hT_up (g.1.2 0) c (g.1.1 5)
  refine ⟨c, _, _, hc, e1, e2, ?_, ?_, Fr.upd (fun k hk => by rw [upd_n (by omega), upd_n (by omega), upd_n (by omega), upd_n (by omega), upd_n (by omega)]), rfl, rfl, hup⟩
  · refine ⟨h.mx, h.np, h.hs, h.hb, h.tn, Or.inr rfl, h.un, h.ov, ⟨rfl, by omega⟩, ?_, ⟨rfl, hst.2.1, by omega, hst.2.2.2⟩, h.K, h.n, h.T, h.E, h.O, ?_⟩
    · intro j hj
      show upd (g.1.2 0) c (g.1.1 5) j = -1 ∨ (∃ p, p < np ∧ upd (g.1.2 0) c (g.1.1 5) j = nI p) ∧ inS mx j
      by_cases hjc : j = c
      · subst hjc
        rw [upd_s]
        exact Or.inr ⟨⟨tn, h.tn.2, h.tn.1⟩, hin⟩
      · rw [upd_n hjc]; exact h.H j hj
    · have := h.cnt
      show hT (upd (g.1.2 0) c (g.1.1 5)) + (e - (f + 1)) + n ≤ 54
      omega
  · have up : ∀ k, ¬ k = 19 + c → ¬ k = 12 → ¬ k = 7 → ¬ k = 5 → ¬ k = 10 → upd (upd (upd (upd (upd (x.1.2 1) (19 + c) (x.1.2 1 4)) 12 (nI (f + 1))) 7 (nI (e - (f + 1)))) 5 1) 10 0 k = dd x k := fun k a1 a2 a3 a4 a5 => by
      rw [upd_n a5, upd_n a4, upd_n a3, upd_n a2, upd_n a1]
    refine ⟨?_, ?_, ?_, ?_, ?_, ?_, ?_, ?_, ?_, ?_, ?_, ?_, ?_, ?_, ?_, ?_, ?_, ?_, ?_, ?_⟩
    · exact (up 0 (by omega) (by omega) (by omega) (by omega) (by omega)).trans r.d0
    · exact (up 1 (by omega) (by omega) (by omega) (by omega) (by omega)).trans r.d1
    · exact (up 2 (by omega) (by omega) (by omega) (by omega) (by omega)).trans r.d2
    · exact (up 3 (by omega) (by omega) (by omega) (by omega) (by omega)).trans r.d3
    · exact (up 4 (by omega) (by omega) (by omega) (by omega) (by omega)).trans r.d4
    · rfl
    · exact (up 6 (by omega) (by omega) (by omega) (by omega) (by omega)).trans r.d6
    · rfl
    · exact (up 8 (by omega) (by omega) (by omega) (by omega) (by omega)).trans r.d8
    · exact (up 9 (by omega) (by omega) (by omega) (by omega) (by omega)).trans r.d9
    · rfl
    · exact (up 11 (by omega) (by omega) (by omega) (by omega) (by omega)).trans r.d11
    · rfl
    · intro p hp; exact (up _ (by omega) (by omega) (by omega) (by omega) (by omega)).trans (r.tot p hp)
    · intro j hj
      show upd (upd (upd (upd (upd (x.1.2 1) (19 + c) (x.1.2 1 4)) 12 (nI (f + 1))) 7 (nI (e - (f + 1)))) 5 1) 10 0 (19 + j) = upd (g.1.2 0) c (g.1.1 5) j
      by_cases hjc : j = c
      · subst hjc
        rw [upd_n (by omega), upd_n (by omega), upd_n (by omega), upd_n (by omega), upd_s, upd_s]
        exact r.d4
      · rw [up _ (by omega) (by omega) (by omega) (by omega) (by omega), upd_n hjc]
        exact r.H j hj
    · intro i hi; exact (up _ (by omega) (by omega) (by omega) (by omega) (by omega)).trans (r.K i hi)
    · intro t ht; exact (up _ (by omega) (by omega) (by omega) (by omega) (by omega)).trans (r.L t ht)
    · intro t ht; exact (up _ (by omega) (by omega) (by omega) (by omega) (by omega)).trans (r.E t ht)
    · intro t ht; exact (up _ (by omega) (by omega) (by omega) (by omega) (by omega)).trans (r.O t ht)
    · intro i hi t ht hu; exact (up _ (by omega) (by omega) (by omega) (by omega) (by omega)).trans (r.T i hi t ht hu)
theorem e_setOpen {t : SA} {k : Nat} (hk : k < 5) : f_X6_setOpen t (nI k) 1 = some (sa t 3 (upd (t.2 3) k 1)) ∧ f_X6_setOpen t (nI k) 0 = some (sa t 3 (upd (t.2 3) k 0)) := by
  constructor
  · unfold f_X6_setOpen f_X6_setOpen_J14
    rw [if_neg (by decide), e_put hk (by omega), bd1_S]
  · unfold f_X6_setOpen f_X6_setOpen_J14
    rw [if_pos rfl, e_put hk (by omega), bd1_S]
theorem s_pass (h : Inv g mx np hs hb tn pa f e n) (r : Rel g (dd x) np f e n) (hp : pa < np) (hov : g.1.1 8 = 0) : ∃ g' x' tn', f_X1_passTurn g = some g' ∧ f_X8_passNow x = some x' ∧ Inv g' mx np hs hb tn' (pa + 1) f e n ∧ Rel g' (dd x') np f e n ∧ Fr x x' ∧ g'.2.1 = g.2.1 ∧ (g'.1.1 8 = 0 → pa + 1 < np) ∧ hT (g'.1.2 0) = hT (g.1.2 0) := by
  have hnp := h.np
  have htn := h.tn
  have hd4 : x.1.2 1 4 = nI tn := r.d4.trans h.tn.1
  have hd10 : x.1.2 1 10 = nI pa := r.d10.trans h.pa.1
  have hd1 : x.1.2 1 1 = nI np := r.d1.trans h.np.1
  let g1 : GS := ((ss g.1 10 (nI (pa + 1))), (g.2.1), g.2.2.1, sa g.2.2.2 3 (upd (g.2.2.2.2 3) tn 1))
  let w : Nat → Int32 := upd (upd (x.1.2 1) (174 + 58 * tn + 2) 1) 10 (nI (pa + 1))
  have i1 : Inv g1 mx np hs hb tn (pa + 1) f e n := by
    refine ⟨h.mx, h.np, h.hs, h.hb, h.tn, h.dr, h.un, h.ov, ⟨rfl, by omega⟩, h.H, h.st, h.K, h.n, h.T, h.E, ?_, h.cnt⟩
    intro t ht
    show upd (g.2.2.2.2 3) tn 1 t = 0 ∨ upd (g.2.2.2.2 3) tn 1 t = 1
    by_cases hq : t = tn
    · rw [hq, upd_s]; exact Or.inr rfl
    · rw [upd_n hq]; exact h.O t ht
  have up : ∀ k, ¬ k = 174 + 58 * tn + 2 → ¬ k = 10 → w k = dd x k := fun k a1 a2 => by
    show upd (upd (x.1.2 1) (174 + 58 * tn + 2) 1) 10 (nI (pa + 1)) k = _
    rw [upd_n a2, upd_n a1]
  have r1 : Rel g1 (dd ((sa x.1 1 w), x.2)) np f e n := by
    refine ⟨?_, ?_, ?_, ?_, ?_, ?_, ?_, ?_, ?_, ?_, ?_, ?_, ?_, ?_, ?_, ?_, ?_, ?_, ?_, ?_⟩
    · exact (up 0 (by omega) (by omega)).trans r.d0
    · exact (up 1 (by omega) (by omega)).trans r.d1
    · exact (up 2 (by omega) (by omega)).trans r.d2
    · exact (up 3 (by omega) (by omega)).trans r.d3
    · exact (up 4 (by omega) (by omega)).trans r.d4
    · exact (up 5 (by omega) (by omega)).trans r.d5
    · exact (up 6 (by omega) (by omega)).trans r.d6
    · exact (up 7 (by omega) (by omega)).trans r.d7
    · exact (up 8 (by omega) (by omega)).trans r.d8
    · exact (up 9 (by omega) (by omega)).trans r.d9
    · rfl
    · exact (up 11 (by omega) (by omega)).trans r.d11
    · exact (up 12 (by omega) (by omega)).trans r.d12
    · intro p hp; exact (up _ (by omega) (by omega)).trans (r.tot p hp)
    · intro j hj; exact (up _ (by omega) (by omega)).trans (r.H j hj)
    · intro i hi; exact (up _ (by have := h.st.2.2.2; omega) (by omega)).trans (r.K i hi)
    · intro t ht; exact (up _ (by omega) (by omega)).trans (r.L t ht)
    · intro t ht; exact (up _ (by omega) (by omega)).trans (r.E t ht)
    · intro t ht
      show w (174 + 58 * t + 2) = if t = np then 1 else upd (g.2.2.2.2 3) tn 1 t
      by_cases hq : t = tn
      · subst hq
        rw [upd_s, if_neg (by omega)]
        show upd (upd (x.1.2 1) (174 + 58 * t + 2) 1) 10 (nI (pa + 1)) (174 + 58 * t + 2) = 1
        rw [upd_n (by omega), upd_s]
      · rw [upd_n hq]
        exact (up _ (by omega) (by omega)).trans (r.O t ht)
    · intro i hi t ht hu
      have := cT_le (g.2.2.2.2 1) t i
      have := h.cnt
      exact (up (174 + 58 * t + 3 + cT (g.2.2.2.2 1) t i) (by omega) (by omega)).trans (r.T i hi t ht hu)
  have fr1 : Fr x ((sa x.1 1 w), x.2) := Fr.upd (fun k hk => up k (by omega) (by omega))
  have hdw10 : w 10 = nI (pa + 1) := rfl
  have hdw1 : w 1 = nI np := (up 1 (by omega) (by omega)).trans hd1
  have e1 : f_X1_passTurn g = if pa + 1 < np then (bd1 (f_X1_nextTurn g1) fun (g41 : GS) => some g41) else (bd1 (f_X1_endRound g1) fun (g34 : GS) => some g34) := by
    unfold f_X1_passTurn
    rw [htn.1, (e_setOpen (t := g.2.2.2) (k := tn) (by omega)).1, bd1_S, h.pa.1, hnp.1, nI_1, ie_lt (by omega) (by omega)]
  have e2 : f_X8_passNow x = if w 10 = w 1 then (bd1 (f_X8_endRound ((sa x.1 1 w), x.2)) fun (x45 : MS) => some x45) else (bd1 (f_X8_nextTurn ((sa x.1 1 w), x.2)) fun (x52 : MS) => some x52) := by
    unfold f_X8_passNow f_X8_trainAt
    simp only [gl_4, cl_4, gl_10, cl_10, gl_1, cl_1, nmd_S]
    rw [hd4, bd1_S, i_174, i_58, nI_mul, nI_add, i_2, nI_add, inb_t (by omega) (by omega), gd_T, nI_clamp (by omega), upd_n (show ¬ 10 = 174 + 58 * tn + 2 by omega), hd10, nI_1]
  rw [e1, e2]
  by_cases hq : pa + 1 < np
  · rw [if_pos hq, if_neg (by rw [hdw10, hdw1, nI_eq (by omega) (by omega)]; omega)]
    obtain ⟨g', x', tn', a1, a2, a3, a4, a5, a6, a7, a8⟩ := s_nextTurn i1 r1
    rw [a1, a2, bd1_S, bd1_S]
    exact ⟨g', x', tn', rfl, rfl, a3, a4, fr1.tr a5, (show g'.2.1 = g1.2.1 from congrArg Prod.fst a6), fun _ => hq, by rw [a8]⟩
  · rw [if_neg hq, if_pos (by rw [hdw10, hdw1, show pa + 1 = np by omega])]
    obtain ⟨g', x', a1, a2, a3, a4, a5, a6, a7⟩ := s_endRound i1 r1
    rw [a1, a2, bd1_S, bd1_S]
    obtain ⟨g9, b1, b2, b3, b4, b5⟩ := c_endRound (g := g1) i1.np.1 i1.np.2.2
    rw [a1] at b1
    cases b1
    exact ⟨g', x', tn, rfl, rfl, a3, a4, fr1.tr a5, (show g'.2.1 = g1.2.1 from congrArg Prod.fst a6), fun z => by rw [a7] at z; exact absurd z (by decide), by rw [b3 0 (by omega)]⟩
end G
