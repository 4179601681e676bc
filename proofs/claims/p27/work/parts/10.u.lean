/-! the class's reader over the text of a node: what follows, leaves, the loops' steps -/
def RQ (b : Nat → Int32) (N : Nat) (rd rd' : RS) (q : Nat) (r : List Nat) (cnt : Nat) (l : List (Nat × Nat)) : Prop :=
  CT rd'.2.1 b N q ∧ TA b N q r ∧ rd'.1.1 5 = nI (cnt + l.length) ∧ (∀ i, i < cnt → rd'.1.2 0 i = rd.1.2 0 i) ∧ stpF (rd'.1.2 0) cnt l ∧ rd'.2.2 = rd.2.2 ∧ (∀ k, ¬ k = 0 → ¬ k = 5 → rd'.1.1 k = rd.1.1 k) ∧ rd'.2.1.2 = rd.2.1.2 ∧ rd'.2.1.1 0 = rd.2.1.1 0
def nx1 (r : List Nat) (x : Nat) : Prop := sgn x ∧ ((∃ t, r = x :: t) ∨ ∃ t, r = 32 :: x :: t)
theorem nx1.nd {r : List Nat} {x : Nat} (h : nx1 r x) : ndR r := by
  obtain ⟨h1, ⟨t, rfl⟩ | ⟨t, rfl⟩⟩ := h
  · exact nd_c h1.2.1
  · exact nd_c (by decide)
theorem nx1.nl {r : List Nat} {x : Nat} (h : nx1 r x) : nlR r := by
  obtain ⟨h1, ⟨t, rfl⟩ | ⟨t, rfl⟩⟩ := h
  · exact nl_c h1.2.2.1
  · exact nl_c (by decide)
section RU
variable {b : Nat → Int32} {N p q n x cnt : Nat} {r : List Nat} {tk : SA} {rd rd1 rd2 : RS} {l m : List (Nat × Nat)}
theorem stpF.app {S : Nat → Int32} {k : Nat} (h1 : stpF S k l) (h2 : stpF S (k + l.length) m) : stpF S k (l ++ m) := by
  intro i hi
  rw [List.length_append] at hi
  by_cases h : i < l.length
  · rw [h1 i h, List.getD_eq_getElem?_getD, List.getD_eq_getElem?_getD, List.getElem?_append_left h]
  · have := h2 (i - l.length) (by omega)
    rw [show k + l.length + (i - l.length) = k + i by omega] at this
    rw [this, List.getD_eq_getElem?_getD, List.getD_eq_getElem?_getD, List.getElem?_append_right (by omega)]
theorem RQ.tr {q2 : Nat} {r2 : List Nat} (a : RQ b N rd rd1 q r cnt l) (c : RQ b N rd1 rd2 q2 r2 (cnt + l.length) m) : RQ b N rd rd2 q2 r2 cnt (l ++ m) := by
  obtain ⟨a1, a2, a3, a4, a5, a6, a7, a8, a9⟩ := a
  obtain ⟨c1, c2, c3, c4, c5, c6, c7, c8, c9⟩ := c
  refine ⟨c1, c2, by rw [c3, List.length_append, Nat.add_assoc], fun i hi => (c4 i (by omega)).trans (a4 i hi), stpF.app (fun i hi => ?_) c5, c6.trans a6, fun k h0 h5 => (c7 k h0 h5).trans (a7 k h0 h5), c8.trans a8, c9.trans a9⟩
  rw [c4 _ (by omega)]
  exact a5 i hi
theorem nx1.is (c : CT tk b N q) (hN : N ≤ 500) (h : TA b N q r) (hx : nx1 r x) {y : Nat} (hy : sgn y) : f_X5_isSign tk (nI y) = some (if x = y then 1 else 0) := by
  obtain ⟨h1, ⟨t, rfl⟩ | ⟨t, rfl⟩⟩ := hx
  · exact r_isSign c hN h h1.1 h1.2.2.2 hy
  · exact r_isSign (c.sk h) hN h.tl h1.1 h1.2.2.2 hy
theorem nx1.adv (c : CT tk b N q) (hN : N ≤ 500) (h : TA b N q r) (hx : nx1 r x) : ∃ tk' q' t, f_X5_advance tk = some tk' ∧ CT tk' b N q' ∧ TA b N q' t ∧ (r = x :: t ∨ r = 32 :: x :: t) ∧ tk'.2 = tk.2 ∧ tk'.1 0 = tk.1 0 := by
  obtain ⟨h1, ⟨t, rfl⟩ | ⟨t, rfl⟩⟩ := hx
  · obtain ⟨tk', a1, a2, a3, a4⟩ := r_sadv c hN h h1
    exact ⟨tk', _, t, a1, a2, h.tl, Or.inl rfl, a3, a4⟩
  · obtain ⟨tk', a1, a2, a3, a4⟩ := r_sadv (c.sk h) hN h.tl h1
    exact ⟨tk', _, t, a1, a2, h.tl.tl, Or.inr rfl, a3, a4⟩
theorem e_addStep {v : Int32} (h : rd.1.1 5 = nI cnt) (hc : cnt < 500) : f_X3_addStep rd v = some ((sa (ss rd.1 5 (nI (cnt + 1))) 0 (upd (rd.1.2 0) cnt v)), rd.2.1, rd.2.2) := by
  unfold f_X3_addStep
  rw [h, i_500, ie_le (by omega) (by omega), if_neg (by omega), e_put hc (by omega), bd1_S, nI_1]
theorem RQ.add {s : Nat × Nat} (a : RQ b N rd rd1 q r cnt l) (hc : cnt + l.length < 500) : ∃ rd2, f_X3_addStep rd1 (enc s) = some rd2 ∧ RQ b N rd rd2 q r cnt (l ++ [s]) := by
  obtain ⟨a1, a2, a3, a4, a5, a6, a7, a8, a9⟩ := a
  refine ⟨_, e_addStep a3 hc, a1, a2, ?_, fun i hi => ?_, stpF.app (fun i hi => ?_) (fun i hi => ?_), a6, fun k h0 h5 => ?_, a8, a9⟩
  · show nI (cnt + l.length + 1) = _
    rw [List.length_append, Nat.add_assoc]; rfl
  · show upd (rd1.1.2 0) (cnt + l.length) (enc s) i = _
    rw [upd_n (by omega)]; exact a4 i hi
  · show upd (rd1.1.2 0) (cnt + l.length) (enc s) (cnt + i) = _
    rw [upd_n (by omega)]; exact a5 i hi
  · have : i = 0 := by have : i < 1 := hi; omega
    subst this
    exact upd_s
  · show upd rd1.1.1 5 _ k = _
    rw [upd_n h5]; exact a7 k h0 h5
/-- a leaf as a factor -/
theorem F_leaf {SN : RS → Int32 → Option (Int32 × RS)} {dp : Int32} {s : Nat × Nat} (hs : okL s) (c : CT rd.2.1 b N p) (hN : N ≤ 500) (h : TA b N p (leafX s ++ r)) (hx : nx1 r x) (h5 : rd.1.1 5 = nI cnt) (hc : cnt < 490) : ∃ rd' q, f_X3_readFactor SN rd dp = some (1, rd') ∧ RQ b N rd rd' q r cnt [s] := by
  obtain ⟨s1, s2⟩ := s
  rcases hs with ⟨hs1, hs2⟩ | ⟨hs1, hs2⟩
  · have hs1 : s1 = 0 := hs1
    have hs2 : s2 ≤ 9999 := hs2
    subst hs1
    have h : TA b N p (decL s2 ++ r) := h
    obtain ⟨d0, hd0, e0⟩ := decL_at s2 hs2 0 (decL_pos s2)
    obtain ⟨t, et⟩ : ∃ t, decL s2 = (48 + d0) :: t := by
      cases hz : decL s2 with
      | nil => have := decL_pos s2; rw [hz] at this; exact absurd this (Nat.lt_irrefl _)
      | cons y t => rw [hz] at e0; have : y = 48 + d0 := e0; rw [this]; exact ⟨t, rfl⟩
    have h' := h
    rw [et] at h'
    have g40 : f_X5_isSign rd.2.1 40 = some (if 48 + d0 = 40 then 1 else 0) := r_isSign c hN h' (dgs_dg d0 hd0).2 (by omega) sgn_40
    obtain ⟨tk', a1, a2, a3, a4⟩ := r_num c hN h hx.nd (Nat.zero_le _) hs2 (Nat.le_refl _)
    have a1 : f_X3_takeNumber rd 0 9999 = _ := a1
    have q0 : RQ b N rd ((ss rd.1 0 (nI s2)), tk', rd.2.2) (p + (decL s2).length) r cnt [] := ⟨a2, h.drop, h5, fun _ _ => rfl, fun i hi => absurd hi (Nat.not_lt_zero _), rfl, fun k h0 _ => upd_n h0, a3, a4⟩
    obtain ⟨rd2, b1, b2⟩ := q0.add (s := (0, s2)) (by show cnt + 0 < 500; omega)
    refine ⟨rd2, _, ?_, b2⟩
    unfold f_X3_readFactor
    rw [g40, if_neg (by omega), bd1_S, if_pos rfl, r_isNum c h hx.nd hs2, bd1_S, if_neg (by decide), a1, bd2_S, if_neg (by decide)]
    show bd1 (f_X3_addStep ((ss rd.1 0 (nI s2)), tk', rd.2.2) (enc (0, s2))) _ = _
    rw [b1, bd1_S]
  · have hs1 : s1 = 1 := hs1
    have hs2 : s2 ≤ 4 := hs2
    subst hs1
    have h : TA b N p (TXT.getD (5 + s2) [] ++ r) := h
    have hw := fun v (hv : v < 10) => r_word c hN (w := 5 + s2) (by omega) h hx.nl hv
    obtain ⟨h1, h2⟩ := h.word (by omega) hx.nl
    have hwl := wl_le (5 + s2) (by omega)
    have hch := h1.2.1 0 (by omega)
    rw [Nat.add_zero] at hch
    have hcs := wc_sp (5 + s2) (by omega) 0 (by omega)
    have hcl := wc_lt (5 + s2) (by omega) 0 (by omega)
    have g40 : f_X5_isSign rd.2.1 40 = some 0 := by
      rw [e_isSign c h.le hN (by decide) (by decide), h2, if_neg]
      rintro ⟨-, z⟩
      rw [hch] at z
      rw [z] at hcl
      exact absurd hcl (by decide)
    have gn : f_X5_isNumber rd.2.1 = some 0 := by
      have : en isDg b N p = p := en_stop h.le (by rw [hch]; exact hcs.2)
      rw [e_isNumber c, h2, this, if_neg (Nat.lt_irrefl _)]
    obtain ⟨tk', a1, a2, a3, a4⟩ := r_wadv c hN (w := 5 + s2) (by omega) h hx.nl
    have hd := h.drop
    rw [txt_wl _ (by omega)] at hd
    have q0 : RQ b N rd (rd.1, tk', rd.2.2) (p + wl (5 + s2)) r cnt [] := ⟨a2, hd, h5, fun _ _ => rfl, fun i hi => absurd hi (Nat.not_lt_zero _), rfl, fun k _ _ => rfl, a3, a4⟩
    obtain ⟨rd2, b1, b2⟩ := q0.add (s := (1, s2)) (by show cnt + 0 < 500; omega)
    have gv : f_X3_variableHere rd = some (enc (1, s2)) := by
      unfold f_X3_variableHere
      rw [hw 5 (by omega), hw 6 (by omega), hw 7 (by omega), hw 8 (by omega), hw 9 (by omega), bd1_S, bd1_S, bd1_S, bd1_S, bd1_S]
      rcases (show s2 = 0 ∨ s2 = 1 ∨ s2 = 2 ∨ s2 = 3 ∨ s2 = 4 by omega) with rfl | rfl | rfl | rfl | rfl <;> rfl
    have ge : ¬ enc (1, s2) = 0 := by
      rcases (show s2 = 0 ∨ s2 = 1 ∨ s2 = 2 ∨ s2 = 3 ∨ s2 = 4 by omega) with rfl | rfl | rfl | rfl | rfl <;> decide
    refine ⟨rd2, _, ?_, b2⟩
    unfold f_X3_readFactor
    rw [g40, bd1_S, if_pos rfl, gn, bd1_S, if_pos rfl, gv, bd1_S, if_neg ge, a1, bd1_S, b1, bd1_S]
/-- the loop of a term ends, or goes on -/
theorem T_stop {SN : RS → Int32 → Option (Int32 × RS)} {dp v : Int32} {f : Nat} (hf : 0 < f) (c : CT rd.2.1 b N q) (hN : N ≤ 500) (h : TA b N q r) (hx : nx1 r x) (h1 : ¬ x = 42) (h2 : ¬ x = 47) : itr3 (f_X3_readTerm_B8 dp SN) f 1 v rd = some (1, rd) := by
  obtain ⟨f, rfl⟩ : ∃ g, f = g + 1 := ⟨f - 1, by omega⟩
  have g1 : f_X5_isSign rd.2.1 42 = some (if x = 42 then 1 else 0) := hx.is c hN h sgn_42
  have g2 : f_X5_isSign rd.2.1 47 = some (if x = 47 then 1 else 0) := hx.is c hN h sgn_47
  show f_X3_readTerm_B8 dp SN _ 1 v rd = _
  unfold f_X3_readTerm_B8
  rw [if_neg (by decide), g1, if_neg h1, bd1_S, if_pos rfl, g2, if_neg h2, bd1_S, if_pos rfl, show isb 1 = true from rfl, gd_T]
theorem S_stop {SN : RS → Int32 → Option (Int32 × RS)} {dp v : Int32} {f : Nat} (hf : 0 < f) (c : CT rd.2.1 b N q) (hN : N ≤ 500) (h : TA b N q r) (hx : nx1 r x) (h1 : ¬ x = 43) (h2 : ¬ x = 45) : itr3 (f_X3_readSum_B8 dp SN) f 1 v rd = some (1, rd) := by
  obtain ⟨f, rfl⟩ : ∃ g, f = g + 1 := ⟨f - 1, by omega⟩
  have g1 : f_X5_isSign rd.2.1 43 = some (if x = 43 then 1 else 0) := hx.is c hN h sgn_43
  have g2 : f_X5_isSign rd.2.1 45 = some (if x = 45 then 1 else 0) := hx.is c hN h sgn_45
  show f_X3_readSum_B8 dp SN _ 1 v rd = _
  unfold f_X3_readSum_B8
  rw [if_neg (by decide), g1, if_neg h1, bd1_S, if_pos rfl, g2, if_neg h2, bd1_S, if_pos rfl, show isb 1 = true from rfl, gd_T]
theorem T_go {SN : RS → Int32 → Option (Int32 × RS)} {dp : Int32} {f k : Nat} (c : CT rd.2.1 b N q) (hN : N ≤ 500) (h : TA b N q r) (hx : nx1 r x) (hx2 : x = 42 ∨ x = 47) (hk : k < 400) : itr3 (f_X3_readTerm_B8 dp SN) (f + 1) 1 (nI k) rd = (bd1 (f_X5_advance rd.2.1) fun (tk68 : SA) => bd2 (f_X3_readFactor SN (rd.1, tk68, rd.2.2) dp) fun (r73 : Int32) (rd73 : RS) => bd1 (f_X3_addStep rd73 (enc (if x = 42 then 4 else 5, 0))) fun (rd80 : RS) => itr3 (f_X3_readTerm_B8 dp SN) f r73 (nI (k + 1)) rd80) := by
  have g1 : f_X5_isSign rd.2.1 42 = some (if x = 42 then 1 else 0) := hx.is c hN h sgn_42
  have g2 : f_X5_isSign rd.2.1 47 = some (if x = 47 then 1 else 0) := hx.is c hN h sgn_47
  show f_X3_readTerm_B8 dp SN _ 1 (nI k) rd = _
  unfold f_X3_readTerm_B8 f_X3_readTerm_J36 f_X3_readTerm_J62
  rw [if_neg (by decide), g1, i_500, ie_le (by omega) (by omega), if_neg (show ¬ 500 ≤ k by omega), nI_1]
  rcases hx2 with rfl | rfl
  · rw [if_pos rfl, bd1_S, if_neg (by decide), bd1_S, if_neg (by decide)]
    rfl
  · rw [if_neg (by decide), bd1_S, if_pos rfl, g2, if_pos rfl, bd1_S, if_neg (by decide), bd1_S, if_pos rfl]
    rfl
theorem S_go {SN : RS → Int32 → Option (Int32 × RS)} {dp : Int32} {f k : Nat} (c : CT rd.2.1 b N q) (hN : N ≤ 500) (h : TA b N q r) (hx : nx1 r x) (hx2 : x = 43 ∨ x = 45) (hk : k < 400) : itr3 (f_X3_readSum_B8 dp SN) (f + 1) 1 (nI k) rd = (bd1 (f_X5_advance rd.2.1) fun (tk68 : SA) => bd2 (f_X3_readTerm SN (rd.1, tk68, rd.2.2) dp) fun (r73 : Int32) (rd73 : RS) => bd1 (f_X3_addStep rd73 (enc (if x = 43 then 2 else 3, 0))) fun (rd80 : RS) => itr3 (f_X3_readSum_B8 dp SN) f r73 (nI (k + 1)) rd80) := by
  have g1 : f_X5_isSign rd.2.1 43 = some (if x = 43 then 1 else 0) := hx.is c hN h sgn_43
  have g2 : f_X5_isSign rd.2.1 45 = some (if x = 45 then 1 else 0) := hx.is c hN h sgn_45
  show f_X3_readSum_B8 dp SN _ 1 (nI k) rd = _
  unfold f_X3_readSum_B8 f_X3_readSum_J36 f_X3_readSum_J62
  rw [if_neg (by decide), g1, i_500, ie_le (by omega) (by omega), if_neg (show ¬ 500 ≤ k by omega), nI_1]
  rcases hx2 with rfl | rfl
  · rw [if_pos rfl, bd1_S, if_neg (by decide), bd1_S, if_neg (by decide)]
    rfl
  · rw [if_neg (by decide), bd1_S, if_pos rfl, g2, if_pos rfl, bd1_S, if_neg (by decide), bd1_S, if_pos rfl]
    rfl
end RU
