/-! the class's reader over a known text: numbers, signs, the head, hub and seed -/
section RS1
variable {b : Nat → Int32} {N p n w : Nat} {l r : List Nat} {tk : SA} {rd : RS}
theorem r_isNum (c : CT tk b N p) (h : TA b N p (decL n ++ r)) (hr : ndR r) (hn : n ≤ 9999) : f_X5_isNumber tk = some 1 := by
  obtain ⟨h1, h2, h3⟩ := h.num hr hn
  have := decL_pos n
  rw [e_isNumber c, h1, h2, if_pos (by omega)]
theorem r_notNum (c : CT tk b N p) {x : Nat} (h : TA b N p (x :: r)) (hs : isSp (nI x) = false) (hd : isDg (nI x) = false) : f_X5_isNumber tk = some 0 := by
  have h1 := h.sp0 hs
  have h2 : en isDg b N p = p := en_stop h.le (by rw [h.hd.1]; exact hd)
  rw [e_isNumber c, h1, h2, if_neg (Nat.lt_irrefl _)]
theorem r_num (c : CT rd.2.1 b N p) (hN : N ≤ 500) (h : TA b N p (decL n ++ r)) (hr : ndR r) {lo hi : Nat} (hlo : lo ≤ n) (hhi : n ≤ hi) (h9 : hi ≤ 9999) : ∃ tk', f_X3_takeNumber rd (nI lo) (nI hi) = some (1, ((ss rd.1 0 (nI n)), tk', rd.2.2)) ∧ CT tk' b N (p + (decL n).length) ∧ tk'.2 = rd.2.1.2 ∧ tk'.1 0 = rd.2.1.1 0 := by
  obtain ⟨h1, h2, h3⟩ := h.num hr (by omega)
  have hpos := decL_pos n
  have hv : rd.2.1.1 5 = nI n := by
    have := c.2.2.2.2.2
    rw [h1, h2, show p + (decL n).length - p = (decL n).length by omega, h3] at this
    exact this (by omega)
  have hed : ed b N (sp b N p) = p + (decL n).length := by
    rw [h1]
    unfold ed
    rw [h2, if_pos (by omega)]
  obtain ⟨tk', a1, a2, a3, a4⟩ := r_adv c hN h.le hed h.drop.le
  refine ⟨tk', ?_, a2, a3, a4⟩
  unfold f_X3_takeNumber
  rw [r_isNum c h hr (by omega), bd1_S, if_neg (by decide), hv, ie_lt (by omega) (by omega), if_neg (by omega), ie_le (by omega) (by omega), if_pos hhi, a1, bd1_S]
/-- a sign is neither blank nor letter nor digit -/
def sgn (x : Nat) : Prop := isSp (nI x) = false ∧ isDg (nI x) = false ∧ isLt (nI x) = false ∧ x < 128
theorem r_isSign (c : CT tk b N p) (hN : N ≤ 500) {x y : Nat} (h : TA b N p (x :: r)) (hx : isSp (nI x) = false) (hxl : x < 128) (hy : sgn y) : f_X5_isSign tk (nI y) = some (if x = y then 1 else 0) := by
  rw [e_isSign c h.le hN hy.2.1 hy.2.2.1, h.sp0 hx, h.hd.1]
  have := h.hd.2
  have hy4 := hy.2.2.2
  by_cases hz : x = y
  · rw [if_pos hz, if_pos ⟨this, by rw [hz]⟩]
  · rw [if_neg hz, if_neg (fun z => hz ((nI_eq (by omega) (by omega)).mp z.2))]
theorem r_signEd (h : TA b N p (n :: r)) (hx : sgn n) : kd b N (sp b N p) = 3 ∧ ed b N (sp b N p) = p + 1 := by
  have h1 := h.sp0 hx.1
  have h2 : en isDg b N p = p := en_stop h.le (by rw [h.hd.1]; exact hx.2.1)
  have h3 : en isLt b N p = p := en_stop h.le (by rw [h.hd.1]; exact hx.2.2.1)
  have := h.hd.2
  rw [h1]
  unfold kd ed
  rw [h2, h3, if_neg (Nat.lt_irrefl _), if_neg (Nat.lt_irrefl _), if_pos this, if_neg (Nat.lt_irrefl _), if_neg (Nat.lt_irrefl _), if_pos this]
  exact ⟨rfl, rfl⟩
theorem r_sadv (c : CT tk b N p) (hN : N ≤ 500) (h : TA b N p (n :: r)) (hx : sgn n) : ∃ tk', f_X5_advance tk = some tk' ∧ CT tk' b N (p + 1) ∧ tk'.2 = tk.2 ∧ tk'.1 0 = tk.1 0 := r_adv c hN h.le (r_signEd h hx).2 h.hd.2
theorem r_sign (c : CT rd.2.1 b N p) (hN : N ≤ 500) (h : TA b N p (n :: r)) (hx : sgn n) : ∃ tk', f_X3_takeSign rd (nI n) = some (1, (rd.1, tk', rd.2.2)) ∧ CT tk' b N (p + 1) ∧ tk'.2 = rd.2.1.2 ∧ tk'.1 0 = rd.2.1.1 0 := by
  obtain ⟨tk', a1, a2, a3, a4⟩ := r_sadv c hN h hx
  refine ⟨tk', ?_, a2, a3, a4⟩
  unfold f_X3_takeSign
  rw [r_isSign c hN h hx.1 hx.2.2.2 hx, if_pos rfl, bd1_S, if_neg (by decide), a1, bd1_S]
theorem sgn_59 : sgn 59 := by unfold sgn; decide
theorem sgn_45 : sgn 45 := by unfold sgn; decide
theorem sgn_43 : sgn 43 := by unfold sgn; decide
theorem sgn_42 : sgn 42 := by unfold sgn; decide
theorem sgn_47 : sgn 47 := by unfold sgn; decide
theorem sgn_40 : sgn 40 := by unfold sgn; decide
theorem sgn_41 : sgn 41 := by unfold sgn; decide
theorem nd_c {x : Nat} (h : isDg (nI x) = false) : ndR (x :: r) := Or.inr h
theorem nl_c {x : Nat} (h : isLt (nI x) = false) : nlR (x :: r) := Or.inr h
/-- blank, then a number -/
theorem r_bnum (c : CT rd.2.1 b N p) (hN : N ≤ 500) (h : TA b N p (32 :: (decL n ++ r))) (hr : ndR r) {lo hi : Nat} (hlo : lo ≤ n) (hhi : n ≤ hi) (h9 : hi ≤ 9999) : ∃ tk', f_X3_takeNumber rd (nI lo) (nI hi) = some (1, ((ss rd.1 0 (nI n)), tk', rd.2.2)) ∧ CT tk' b N (p + 1 + (decL n).length) ∧ TA b N (p + 1 + (decL n).length) r ∧ tk'.2 = rd.2.1.2 ∧ tk'.1 0 = rd.2.1.1 0 := by
  obtain ⟨tk', a1, a2, a3, a4⟩ := r_num (c.sk h) hN h.tl hr hlo hhi h9
  exact ⟨tk', a1, a2, h.tl.drop, a3, a4⟩
/-- the text goes on at p, what is read lies in g, the buffer's bytes are b -/
theorem r_head {a1 a2 a3 : Nat} (c : CT rd.2.1 b N p) (hN : N ≤ 500) (h : TA b N p (TXT.getD 0 [] ++ (32 :: (decL a1 ++ (32 :: (decL a2 ++ (32 :: (decL a3 ++ (59 :: r))))))))) (h1 : 3 ≤ a1 ∧ a1 ≤ 9) (h2 : 2 ≤ a2 ∧ a2 ≤ 4) (h3 : 1 ≤ a3 ∧ a3 ≤ 12) :
    ∃ tk' q, f_X3_readHead rd = some (1, ((ss (ss (ss rd.1 0 (nI a1)) 0 (nI a2)) 0 (nI a3)), tk', ((ss (ss (ss (ss (ss rd.2.2.1 0 (nI a1)) 3 (nI a1)) 4 1) 1 (nI a2)) 2 (nI a3)), rd.2.2.2.1, rd.2.2.2.2.1, rd.2.2.2.2.2))) ∧ CT tk' b N q ∧ TA b N q r ∧ tk'.2 = rd.2.1.2 ∧ tk'.1 0 = rd.2.1.1 0 := by
  have nb : ∀ l : List Nat, ndR (32 :: l) := fun l => nd_c (by decide)
  obtain ⟨t1, e1, c1, s1, z1⟩ := r_wadv c hN (w := 0) (by omega) h (nl_c (by decide))
  have hd1 := h.drop
  rw [txt_wl 0 (by omega)] at hd1
  obtain ⟨t2, e2, c2, d2, s2, z2⟩ := r_bnum (rd := (rd.1, t1, rd.2.2)) c1 hN hd1 (nb _) h1.1 h1.2 (by omega)
  obtain ⟨t3, e3, c3, d3, s3, z3⟩ := r_bnum (rd := ((ss rd.1 0 (nI a1)), t2, ((ss (ss (ss rd.2.2.1 0 (nI a1)) 3 (nI a1)) 4 1), rd.2.2.2.1, rd.2.2.2.2.1, rd.2.2.2.2.2))) c2 hN d2 (nb _) h2.1 h2.2 (by omega)
  obtain ⟨t4, e4, c4, d4, s4, z4⟩ := r_bnum (rd := ((ss (ss rd.1 0 (nI a1)) 0 (nI a2)), t3, ((ss (ss (ss (ss rd.2.2.1 0 (nI a1)) 3 (nI a1)) 4 1) 1 (nI a2)), rd.2.2.2.1, rd.2.2.2.2.1, rd.2.2.2.2.2))) c3 hN d3 (nd_c (by decide)) h3.1 h3.2 (by omega)
  obtain ⟨t5, e5, c5, s5, z5⟩ := r_sign (rd := ((ss (ss (ss rd.1 0 (nI a1)) 0 (nI a2)) 0 (nI a3)), t4, ((ss (ss (ss (ss (ss rd.2.2.1 0 (nI a1)) 3 (nI a1)) 4 1) 1 (nI a2)) 2 (nI a3)), rd.2.2.2.1, rd.2.2.2.2.1, rd.2.2.2.2.2))) c4 hN d4 sgn_59
  have f2 : f_X3_takeNumber (rd.1, t1, rd.2.2) 3 9 = _ := e2
  have f3 : f_X3_takeNumber _ 2 4 = _ := e3
  have f4 : f_X3_takeNumber _ 1 12 = _ := e4
  have f5 : f_X3_takeSign _ 59 = _ := e5
  refine ⟨t5, _, ?_, c5, d4.tl, (((s5.trans s4).trans s3).trans s2).trans s1, (((z5.trans z4).trans z3).trans z2).trans z1⟩
  unfold f_X3_readHead
  rw [r_word c hN (w := 0) (by omega) h (nl_c (by decide)) (v := 0) (by omega), if_pos rfl, bd1_S, if_neg (by decide), e1, bd1_S, f2, bd2_S, if_neg (by decide)]
  show bd2 (f_X3_takeNumber ((ss rd.1 0 (nI a1)), t2, ((ss (ss (ss rd.2.2.1 0 (nI a1)) 3 (nI a1)) 4 1), rd.2.2.2.1, rd.2.2.2.2.1, rd.2.2.2.2.2)) 2 4) _ = _
  rw [f3, bd2_S, if_neg (by decide)]
  show bd2 (f_X3_takeNumber ((ss (ss rd.1 0 (nI a1)) 0 (nI a2)), t3, ((ss (ss (ss (ss rd.2.2.1 0 (nI a1)) 3 (nI a1)) 4 1) 1 (nI a2)), rd.2.2.2.1, rd.2.2.2.2.1, rd.2.2.2.2.2)) 1 12) _ = _
  rw [f4, bd2_S, if_neg (by decide)]
  show bd2 (f_X3_takeSign ((ss (ss (ss rd.1 0 (nI a1)) 0 (nI a2)) 0 (nI a3)), t4, ((ss (ss (ss (ss (ss rd.2.2.1 0 (nI a1)) 3 (nI a1)) 4 1) 1 (nI a2)) 2 (nI a3)), rd.2.2.2.1, rd.2.2.2.2.1, rd.2.2.2.2.2)) 59) _ = _
  rw [f5, bd2_S, show isb 1 = true from rfl, gd_T]
end RS1
