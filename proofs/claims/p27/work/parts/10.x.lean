/-! the loop over the statements of a known text -/
section RX
variable {b : Nat → Int32} {N p q w : Nat} {r : List Nat} {rd rd1 : RS}
theorem r_kind (c : CT rd.2.1 b N p) (hw : w < 10) (h : TA b N p (TXT.getD w [] ++ r)) (hr : nlR r) : ¬ rd.2.1.1 2 = 0 := by
  obtain ⟨h1, h2⟩ := h.word hw hr
  rw [c.2.2.2.1, h2, (WM_kd h1 hw).1]
  decide
theorem r_step {k : Nat} (hN : N ≤ 500) (hk0 : ¬ rd.2.1.1 2 = 0) (hs : f_X3_readStatement rd = some (1, rd1)) (c1 : CT rd1.2.1 b N q) (t1 : TA b N q (59 :: r)) (hk : k < 400) :
    ∃ tk', (∀ f, itr3 f_X3_read_B65 (f + 1) 1 (nI k) rd = itr3 f_X3_read_B65 f 1 (nI (k + 1)) (rd1.1, tk', rd1.2.2)) ∧ (∀ f, itr3 g_X3_read_B65 (f + 1) 1 (nI k) rd = itr3 g_X3_read_B65 f 1 (nI (k + 1)) (rd1.1, tk', rd1.2.2)) ∧ CT tk' b N (q + 1) ∧ TA b N (q + 1) r ∧ tk'.2 = rd1.2.1.2 ∧ tk'.1 0 = rd1.2.1.1 0 := by
  obtain ⟨tk', a1, a2, a3, a4⟩ := r_sign c1 hN t1 sgn_59
  have a1 : f_X3_takeSign rd1 59 = _ := a1
  refine ⟨tk', fun f => ?_, fun f => ?_, a2, t1.tl, a3, a4⟩
  · show f_X3_read_B65 _ 1 (nI k) rd = _
    unfold f_X3_read_B65
    rw [if_neg (by decide), if_neg hk0, i_500, ie_le (by omega) (by omega), if_neg (by omega), hs, bd2_S, if_neg (by decide), a1, bd2_S, if_neg (by decide), nI_1]
  · show g_X3_read_B65 _ 1 (nI k) rd = _
    unfold g_X3_read_B65
    rw [if_neg (by decide), if_neg hk0, i_500, ie_le (by omega) (by omega), if_neg (by omega), hs, bd2_S, if_neg (by decide), a1, bd2_S, if_neg (by decide), nI_1]
theorem r_kindE (c : CT rd.2.1 b N p) (h : TA b N p []) : rd.2.1.1 2 = 0 := by
  have hp : p = N := h.1
  subst hp
  rw [c.2.2.2.1, h.spN]
  unfold kd
  rw [en_N, en_N, if_neg (Nat.lt_irrefl _), if_neg (Nat.lt_irrefl _), if_neg (Nat.lt_irrefl _)]
  rfl
/-- no rank was told: the game is read -/
theorem r_endF {v : Int32} {f : Nat} (hf : 0 < f) (c : CT rd.2.1 b N p) (h : TA b N p []) (h3 : rd.1.1 3 = 0) : itr3 f_X3_read_B65 f 1 v rd = some ((rd.1.1 6), (rd.1, (ss rd.2.1 0 0), rd.2.2)) := by
  obtain ⟨f, rfl⟩ : ∃ g, f = g + 1 := ⟨f - 1, by omega⟩
  show f_X3_read_B65 _ 1 v rd = _
  unfold f_X3_read_B65 f_X3_read_J114
  rw [if_neg (by decide), if_pos (r_kindE c h), if_neg (by decide), if_pos h3]
/-- a rank was told: a formula follows -/
theorem r_endG {v : Int32} {f : Nat} (hf : 0 < f) (c : CT rd.2.1 b N p) (h : TA b N p []) (h3 : ¬ rd.1.1 3 = 0) : itr3 g_X3_read_B65 f 1 v rd = some rd := by
  obtain ⟨f, rfl⟩ : ∃ g, f = g + 1 := ⟨f - 1, by omega⟩
  show g_X3_read_B65 _ 1 v rd = _
  unfold g_X3_read_B65 g_X3_read_J114
  rw [if_neg (by decide), if_pos (r_kindE c h), if_neg (by decide), if_neg h3]
/-- a text is begun -/
theorem r_begin {tk : SA} (hb : tk.2 0 = b) (hN : N ≤ 500) : ∃ tk', f_X5_begin tk (nI N) = some tk' ∧ CT tk' b N 0 ∧ tk'.2 = tk.2 ∧ tk'.1 0 = tk.1 0 := by
  obtain ⟨tk', a1, a2, a3, a4⟩ := e_advance (tk := ss (ss tk 1 (nI N)) 4 0) (b := b) (N := N) (p := 0) hb rfl rfl (Nat.zero_le _) hN
  refine ⟨tk', ?_, a2, a3, a4⟩
  have e1 : (if (500 : Int32) < nI N then 500 else nI N) = nI N := by
    rw [i_500, ie_lt (by omega) (by omega), if_neg (by omega)]
  have e2 : (if 0 < nI N then nI N else 0) = nI N := by
    rw [i_0, ie_lt (by omega) (by omega)]
    split
    · rfl
    · rw [show N = 0 by omega]
  unfold f_X5_begin
  rw [e1, e2, nmd_S, a1, bd1_S]
theorem ta_0 {tx : List Nat} (hb : ∀ k, k < tx.length → b k = nI (tx.getD k 0)) : TA b tx.length 0 tx := ⟨Nat.zero_add _, fun i hi => by rw [Nat.zero_add]; exact hb i hi⟩
end RX
