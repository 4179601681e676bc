/-! the class's reader over a known text: hub, seed, give -/
section RS2
variable {b : Nat → Int32} {N p n w mx np hs hb : Nat} {l r : List Nat} {tk : SA} {rd : RS}
theorem ie_01 {α : Type} {p : Prop} [Decidable p] {x y : α} : (if (if p then (1 : Int32) else 0) = 0 then x else y) = if p then y else x := by
  by_cases h : p
  · rw [if_pos h, if_pos h, if_neg (by decide)]
  · rw [if_neg h, if_neg h, if_pos rfl]
theorem r_hub {hv : Nat} (c : CT rd.2.1 b N p) (hN : N ≤ 500) (h : TA b N p (TXT.getD 1 [] ++ (32 :: (decL hv ++ (59 :: r))))) (h1 : rd.1.1 1 = 0) (h4 : rd.1.1 4 = 0) (hm : rd.2.2.1.1 0 = nI mx) (hm9 : mx ≤ 9) (hh : hv ≤ mx) :
    ∃ tk' q, f_X3_readStatement rd = some (1, ((ss (ss rd.1 1 1) 0 (nI hv)), tk', ((ss rd.2.2.1 3 (nI hv)), rd.2.2.2.1, rd.2.2.2.2.1, rd.2.2.2.2.2))) ∧ CT tk' b N q ∧ TA b N q (59 :: r) ∧ tk'.2 = rd.2.1.2 ∧ tk'.1 0 = rd.2.1.1 0 := by
  obtain ⟨t1, e1, c1, s1, z1⟩ := r_wadv c hN (w := 1) (by omega) h (nl_c (by decide))
  have hd1 := h.drop
  rw [txt_wl 1 (by omega)] at hd1
  obtain ⟨t2, e2, c2, d2, s2, z2⟩ := r_bnum (rd := ((ss rd.1 1 1), t1, rd.2.2)) c1 hN hd1 (nd_c (by decide)) (Nat.zero_le _) hh (by omega)
  refine ⟨t2, _, ?_, c2, d2, s2.trans s1, z2.trans z1⟩
  rw [← hm] at e2
  have e3 : f_X3_takeNumber ((ss rd.1 1 1), t1, rd.2.2) 0 (rd.2.2.1.1 0) = _ := e2
  unfold f_X3_readStatement f_X3_readHub
  rw [r_word c hN (w := 1) (by omega) h (nl_c (by decide)) (v := 1) (by omega), if_pos rfl, bd1_S, if_neg (by decide), h1, if_pos rfl, h4, if_pos rfl, e1, bd1_S]
  rw [e3, bd2_S, if_neg (by decide), bd2_S]
  rfl
theorem r_seed {sv : Nat} (c : CT rd.2.1 b N p) (hN : N ≤ 500) (h : TA b N p (TXT.getD 2 [] ++ (32 :: (decL sv ++ (59 :: r))))) (h2 : rd.1.1 2 = 0) (hh : sv ≤ 9999) :
    ∃ tk' q, f_X3_readStatement rd = some (1, ((ss (ss rd.1 2 1) 0 (nI sv)), tk', ((ss rd.2.2.1 4 (nI sv)), rd.2.2.2.1, rd.2.2.2.2.1, rd.2.2.2.2.2))) ∧ CT tk' b N q ∧ TA b N q (59 :: r) ∧ tk'.2 = rd.2.1.2 ∧ tk'.1 0 = rd.2.1.1 0 := by
  obtain ⟨t1, e1, c1, s1, z1⟩ := r_wadv c hN (w := 2) (by omega) h (nl_c (by decide))
  have hd1 := h.drop
  rw [txt_wl 2 (by omega)] at hd1
  obtain ⟨t2, e2, c2, d2, s2, z2⟩ := r_bnum (rd := ((ss rd.1 2 1), t1, rd.2.2)) c1 hN hd1 (nd_c (by decide)) (Nat.zero_le _) hh (Nat.le_refl _)
  refine ⟨t2, _, ?_, c2, d2, s2.trans s1, z2.trans z1⟩
  have e3 : f_X3_takeNumber ((ss rd.1 2 1), t1, rd.2.2) 0 9999 = _ := e2
  unfold f_X3_readStatement f_X3_readStatement_J31 f_X3_readSeed
  rw [r_word c hN (w := 2) (by omega) h (nl_c (by decide)) (v := 1) (by omega), if_neg (by decide), bd1_S, if_pos rfl, r_word c hN (w := 2) (by omega) h (nl_c (by decide)) (v := 2) (by omega), if_pos rfl, bd1_S, if_neg (by decide), h2, if_pos rfl, e1, bd1_S]
  rw [e3, bd2_S, if_neg (by decide), bd2_S]
  rfl
theorem min_nI {a c : Nat} (ha : a < 2 ^ 31) (hc : c < 2 ^ 31) : (if nI c < nI a then nI c else nI a) = nI (min a c) ∧ (if nI a < nI c then nI c else nI a) = nI (max a c) := by
  rw [ie_lt hc ha, ie_lt ha hc]
  constructor
  · split
    · rw [Nat.min_eq_right (by omega)]
    · rw [Nat.min_eq_left (by omega)]
  · split
    · rw [Nat.max_eq_right (by omega)]
    · rw [Nat.max_eq_left (by omega)]
/-- a tile of a give statement -/
theorem r_tile {a c1 pl k : Nat} (c : CT rd.2.1 b N p) (hN : N ≤ 500) (h : TA b N p (32 :: (decL a ++ (45 :: (decL c1 ++ (59 :: r)))))) (hm : rd.2.2.1.1 0 = nI mx) (hm9 : mx ≤ 9) (hh : rd.2.2.1.1 2 = nI hs) (hs12 : hs ≤ 12) (hhb : rd.2.2.1.1 3 = nI hb) (hb9 : hb ≤ 9) (ha : a ≤ mx) (hc : c1 ≤ mx) (hk : k = 10 * min a c1 + max a c1) (hH : rd.2.2.1.2 0 k = -1) (hkb : ¬ k = 11 * hb) (hcnt : hcN (rd.2.2.1.2 0) (nI pl) < hs) :
    ∃ tk' q, f_X3_readTile rd (nI pl) = some (1, ((ss (ss rd.1 0 (nI a)) 0 (nI c1)), tk', ((sa rd.2.2.1 0 (upd (rd.2.2.1.2 0) k (nI pl))), rd.2.2.2.1, rd.2.2.2.2.1, rd.2.2.2.2.2))) ∧ CT tk' b N q ∧ TA b N q (59 :: r) ∧ tk'.2 = rd.2.1.2 ∧ tk'.1 0 = rd.2.1.1 0 := by
  obtain ⟨t1, e1, c1', d1, s1, z1⟩ := r_bnum c hN h (nd_c (by decide)) (Nat.zero_le _) ha (by omega)
  obtain ⟨t2, e2, c2, s2, z2⟩ := r_sign (rd := ((ss rd.1 0 (nI a)), t1, rd.2.2)) c1' hN d1 sgn_45
  obtain ⟨t3, e3, c3, s3, z3⟩ := r_num (rd := ((ss rd.1 0 (nI a)), t2, rd.2.2)) c2 hN d1.tl (nd_c (by decide)) (Nat.zero_le _) hc (by omega)
  rw [← hm] at e1 e3
  have f1 : f_X3_takeNumber rd 0 (rd.2.2.1.1 0) = _ := e1
  have f2 : f_X3_takeSign ((ss rd.1 0 (nI a)), t1, rd.2.2) 45 = _ := e2
  have f3 : f_X3_takeNumber ((ss rd.1 0 (nI a)), t2, rd.2.2) 0 (rd.2.2.1.1 0) = _ := e3
  have hk100 : k < 100 := by rw [hk]; omega
  have hle := hcN_le (rd.2.2.1.2 0) (nI pl)
  refine ⟨t3, _, ?_, c3, d1.tl.drop, (s3.trans s2).trans s1, (z3.trans z2).trans z1⟩
  unfold f_X3_readTile
  rw [f1, bd2_S, if_neg (by decide), f2, bd2_S, if_neg (by decide)]
  show bd2 (f_X3_takeNumber ((ss rd.1 0 (nI a)), t2, rd.2.2) 0 (rd.2.2.1.1 0)) _ = _
  rw [f3, bd2_S, if_neg (by decide)]
  show nmd ((10 * (if nI c1 < nI a then nI c1 else nI a)) + (if nI a < nI c1 then nI c1 else nI a)) _ = _
  rw [(min_nI (a := a) (c := c1) (by omega) (by omega)).1, (min_nI (a := a) (c := c1) (by omega) (by omega)).2, i_10, nI_mul, nI_add, ← hk, nmd_S]
  have eF := e_free (g := rd.2.2) (c := k) hhb hb9 hk100
  have eC := e_handCount (g := rd.2.2) (nI pl)
  show bd1 (f_X1_isFree rd.2.2 (nI k)) _ = _
  rw [eF, if_pos ⟨hH, hkb⟩, bd1_S, if_neg (by decide)]
  show bd1 (f_X1_handCount rd.2.2 (nI pl)) _ = _
  rw [eC, bd1_S]
  show (if nI (hcN (rd.2.2.1.2 0) (nI pl)) < rd.2.2.1.1 2 then _ else _) = _
  rw [hh, ie_lt (by omega) (by omega), if_pos hcnt]
  show bd1 (f_X7_put 100 (rd.2.2.1.2 0) (nI k) (nI pl)) _ = _
  rw [e_put hk100 (by omega), bd1_S]
theorem r_give {a c1 pl k : Nat} (c : CT rd.2.1 b N p) (hN : N ≤ 500) (h : TA b N p (TXT.getD 3 [] ++ (32 :: (decL pl ++ (32 :: (decL a ++ (45 :: (decL c1 ++ (59 :: r))))))))) (hm : rd.2.2.1.1 0 = nI mx) (hm9 : mx ≤ 9) (hn : rd.2.2.1.1 1 = nI np) (hn4 : np ≤ 4) (hpl : pl < np) (hh : rd.2.2.1.1 2 = nI hs) (hs12 : hs ≤ 12) (hhb : rd.2.2.1.1 3 = nI hb) (hb9 : hb ≤ 9) (ha : a ≤ mx) (hc : c1 ≤ mx) (hk : k = 10 * min a c1 + max a c1) (hH : rd.2.2.1.2 0 k = -1) (hkb : ¬ k = 11 * hb) (hcnt : hcN (rd.2.2.1.2 0) (nI pl) < hs) :
    ∃ tk' q, f_X3_readStatement rd = some (1, ((ss (ss (ss (ss rd.1 4 1) 0 (nI pl)) 0 (nI a)) 0 (nI c1)), tk', ((sa rd.2.2.1 0 (upd (rd.2.2.1.2 0) k (nI pl))), rd.2.2.2.1, rd.2.2.2.2.1, rd.2.2.2.2.2))) ∧ CT tk' b N q ∧ TA b N q (59 :: r) ∧ tk'.2 = rd.2.1.2 ∧ tk'.1 0 = rd.2.1.1 0 := by
  obtain ⟨t1, e1, c1', s1, z1⟩ := r_wadv c hN (w := 3) (by omega) h (nl_c (by decide))
  have hd1 := h.drop
  rw [txt_wl 3 (by omega)] at hd1
  obtain ⟨t2, e2, c2, d2, s2, z2⟩ := r_bnum (rd := ((ss rd.1 4 1), t1, rd.2.2)) c1' hN hd1 (nd_c (by decide)) (Nat.zero_le _) (show pl ≤ np - 1 by omega) (by omega)
  have en : nI (np - 1) = rd.2.2.1.1 1 - 1 := by rw [hn, show (1 : Int32) = nI 1 from rfl, nI_sub (by omega)]
  rw [en] at e2
  have f2 : f_X3_takeNumber ((ss rd.1 4 1), t1, rd.2.2) 0 (rd.2.2.1.1 1 - 1) = _ := e2
  obtain ⟨t3, q, e3, c3, d3, s3, z3⟩ := r_tile (rd := ((ss (ss rd.1 4 1) 0 (nI pl)), t2, rd.2.2)) (pl := pl) (k := k) c2 hN d2 hm hm9 hh hs12 hhb hb9 ha hc hk hH hkb hcnt
  refine ⟨t3, q, ?_, c3, d3, (s3.trans s2).trans s1, (z3.trans z2).trans z1⟩
  have hw : ∀ v, v < 10 → f_X5_isWord rd.2.1 v = some (if v = 3 then 1 else 0) := fun v hv => r_word c hN (w := 3) (by omega) h (nl_c (by decide)) hv
  unfold f_X3_readStatement f_X3_readStatement_J31 f_X3_readStatement_J55 f_X3_readGive
  rw [hw 1 (by omega), if_neg (by decide), bd1_S, if_pos rfl, hw 2 (by omega), if_neg (by decide), bd1_S, if_pos rfl, hw 3 (by omega), if_pos rfl, bd1_S, if_neg (by decide), e1, bd1_S, f2, bd2_S, if_neg (by decide)]
  show bd2 (bd2 (f_X3_readTile ((ss (ss rd.1 4 1) 0 (nI pl)), t2, rd.2.2) (nI pl)) _) _ = _
  rw [e3, bd2_S]
  show bd2 (f_X3_readGive_B44 _ (itr3 _ (FUEL - 1)) 1 0 _) _ = _
  unfold f_X3_readGive_B44
  rw [if_neg (by decide)]
  show bd2 (bd1 (f_X5_isNumber t3) _) _ = _
  rw [r_notNum c3 d3 (by decide) (by decide), bd1_S, if_pos rfl, show isb 1 = true from rfl, gd_T, bd2_S]
  rfl
end RS2
