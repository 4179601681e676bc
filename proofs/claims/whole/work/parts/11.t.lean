/-! what each call answers on both sides: rows, rounds foretold -/
section O
variable {s : HS} {x : MS} {ps : PS}
/-- the rows of a hand, on both sides -/
theorem s_explore (hS : Sim s x ps) {np p : Nat} (h1 : ∃ mx hs hb tn pa f e n, Inv s.2.1 mx np hs hb tn pa f e n ∧ Rel s.2.1 (dd x) np f e n) (hp : p < np) (hc : hcN (s.2.1.1.2 0) (nI p) ≤ 12) : ∃ S' n tl st mk F E x', f_X7_exploreRows s (nI p) = some (1, (s.1, s.2.1, s.2.2.1, s.2.2.2.1, s.2.2.2.2.1, S')) ∧ BF S' n tl st mk F E F 0 ∧ f_X8_layRows (x0 x) (nI p) = some (1, x') ∧ (∀ k, ¬ k = 12 → x'.1.1 k = (x0 x).1.1 k) ∧ (∀ i, ¬ i = 4 → ¬ i = 5 → ¬ i = 6 → x'.1.2 i = x.1.2 i) ∧ (∀ i, i < n → x'.1.2 4 i = nI (tl i) ∧ tl i < 100) ∧ RA tl n (fun _ => 1) 1 (x'.1.2 5) 0 10 ∧ RA tl n (pp tl) 18 (x'.1.2 6) 0 10 ∧ f_X8_ofTrain x' (nI p) 1 = some (nI st) ∧ f_X8_ofTrain (x0 x) (nI p) 1 = some (nI st) ∧ Sim (s.1, s.2.1, s.2.2.1, s.2.2.2.1, s.2.2.2.2.1, S') x' ps := by
  obtain ⟨mx, hs, hb, tn, pa, f, e, n0, h, r⟩ := h1
  have hnp := h.np
  obtain ⟨st, hst, hE⟩ := h.E p (by omega)
  obtain ⟨tl, hT⟩ := TL.ex (s.2.1.1.2 0) (nI p)
  obtain ⟨S', F, mk, E, e1, e2⟩ := e_explore (g := s.2.1) hS.2.2.2 (show p < 5 by omega) hE (by omega) hT hc
  have hT' : TL (fun c => dd (x0 x) (19 + c)) (nI p) (hcN (s.2.1.1.2 0) (nI p)) tl := by
    obtain ⟨t1, t2⟩ := hT
    refine ⟨hcN_congr (nI p) r.H, fun i hi => ?_⟩
    obtain ⟨a, b, c⟩ := t2 i hi
    refine ⟨a, (r.H (tl i) a).trans b, ?_⟩
    have e9 := cn_congr (P := fun c => decide (dd x (19 + c) = nI p)) (Q := fun c => decide (s.2.1.1.2 0 c = nI p)) (tl i) 0 (fun j _ hj => by rw [r.H j (by omega)])
    exact Eq.trans e9 c
  obtain ⟨x', f1, f2, f3, f4, f5, f6, f7⟩ := x_layRows hT' hc
  have hEd : dd x (174 + 58 * p + 1) = nI st := (r.E p (by omega)).trans hE
  refine ⟨S', _, tl, st, mk, F, E, x', ?_, e2, f1, f2, fun i a b c => (f3 i a b c).trans rfl, f5, f6, f7, ?_, ?_, ?_⟩
  · unfold f_X7_exploreRows
    rw [e_handCount, bd1_S, i_12, ie_le (by omega) (by omega), if_pos hc, e1, bd1_S]
  · rw [i_1, x_ofTrain (by omega) (by omega)]
    show some (x'.1.2 1 (174 + 58 * p + 1)) = _
    rw [f3 1 (by omega) (by omega) (by omega)]
    exact congrArg some hEd
  · rw [i_1, x_ofTrain (by omega) (by omega)]
    exact congrArg some hEd
  · obtain ⟨g, hh, ri, -⟩ := hS.mv (x' := x') (fun k hk => (f2 k (by omega)).trans (upd_n (by omega))) (fun i hi => (f3 i (by omega) (by omega) (by omega)).trans rfl)
    exact ⟨g, hh, ri, e2.rw⟩
/-- hands that are too large -/
theorem s_exploreN (hS : Sim s x ps) {np p : Nat} (h1 : ∃ mx hs hb tn pa f e n, Inv s.2.1 mx np hs hb tn pa f e n ∧ Rel s.2.1 (dd x) np f e n) (hp : p < np) (hc : ¬ hcN (s.2.1.1.2 0) (nI p) ≤ 12) : ∃ x', f_X7_exploreRows s (nI p) = some (0, s) ∧ f_X8_layRows (x0 x) (nI p) = some (0, x') ∧ x'.1.1 0 = 0 ∧ (∀ i, x'.1.2 i = x.1.2 i) ∧ Sim s x' ps := by
  obtain ⟨mx, hs, hb, tn, pa, f, e, n0, h, r⟩ := h1
  have hle := hcN_le (s.2.1.1.2 0) (nI p)
  refine ⟨((ss (x0 x).1 12 (nI (hcN (s.2.1.1.2 0) (nI p)))), x.2), ?_, ?_, rfl, fun _ => rfl, ?_⟩
  · unfold f_X7_exploreRows
    rw [e_handCount, bd1_S, i_12, ie_le (by omega) (by omega), if_neg hc]
  · unfold f_X8_layRows
    rw [x_hand, bd1_S, show hcN (fun c => dd (x0 x) (19 + c)) (nI p) = hcN (s.2.1.1.2 0) (nI p) from hcN_congr (nI p) r.H, i_12, ie_le (by omega) (by omega), if_neg hc]
  · refine hS.mv (fun k hk => ?_) (fun _ _ => rfl)
    show upd (upd x.1.1 0 0) 12 _ k = _
    rw [upd_n (by omega), upd_n (by omega)]
theorem vl_in {tl : Nat → Nat} {n c st : Nat} {w : Nat → Nat} {a : Nat → Int32} (h : RA tl n w c a 0 10) (hst : st < 10) (hc : c ≤ 18) : a st = nI (vl a 0 st) ∧ vl a 0 st ≤ 216 := by
  obtain ⟨⟨h1, h2⟩, -⟩ := h 0 st (Nat.pow_pos (by omega)) hst (by omega)
  have : c * (12 - pc 0) ≤ 18 * 12 := Nat.mul_le_mul hc (by omega)
  rw [show 10 * 0 + st = st by omega] at h1
  exact ⟨h1, by omega⟩
theorem o_longest (hS : Sim s x ps) (p : Int32) : (∃ r s' x', f_X7_longest s p = some (r, s') ∧ f_X8_longest x p = some (r, x') ∧ x'.1.1 0 = 0 ∧ Sim s' x' ps) ∨ TH [(IO, 1)] (t_X7_longest s p) (f_X8_longest x p) s ps := by
  obtain ⟨mx, np, hs, hb, tn, pa, f, e, n, h, r, hal, q, hq, hFR⟩ := hS.1
  have hnp := h.np
  have hd1 : dd x 1 = nI np := r.d1.trans hnp.1
  rcases rng p np (by omega) with ⟨k, k1, rfl⟩ | hp
  · obtain ⟨c1, c2⟩ := c_pl (s := s) hnp.1 hnp.2.2 k1
    by_cases hc : hcN (s.2.1.1.2 0) (nI k) ≤ 12
    · obtain ⟨S', n', tl, st, mk, F, E, x', a1, a2, a3, a4, a5, a6, a7, a8, a9, a10, a11⟩ := s_explore hS ⟨mx, hs, hb, tn, pa, f, e, n, h, r⟩ k1 hc
      have hst := a2.s.2
      obtain ⟨b1, b2⟩ := vl_in a7 hst (by omega)
      refine Or.inl ⟨nI (vl (x'.1.2 5) 0 st), _, x', ?_, ?_, (a4 0 (by omega)).trans rfl, a11⟩
      · unfold f_X7_longest
        rw [c1, bd1_S, a1, bd2_S, if_neg (show ¬ (1 : Int32) = 0 by decide)]
        show bd1 (f_X2_longestLength S') _ = _
        rw [e_longest a2 a7.d1, bd1_S]
      · unfold f_X8_longest
        rw [x_noPl hd1 hnp.2 k1, bd2_S, if_pos rfl, a3, bd2_S, if_neg (show ¬ (1 : Int32) = 0 by decide), a9, bd1_S, inb_t (by omega) (by omega), gd_T, nI_clamp (by omega), b1]
    · obtain ⟨x', a1, a2, a3, a4, a5⟩ := s_exploreN hS ⟨mx, hs, hb, tn, pa, f, e, n, h, r⟩ k1 hc
      refine Or.inl ⟨-2, s, x', ?_, ?_, a3, a5⟩
      · unfold f_X7_longest
        rw [c1, bd1_S, a1, bd2_S, if_pos rfl]
      · unfold f_X8_longest
        rw [x_noPl hd1 hnp.2 k1, bd2_S, if_pos rfl, a2, bd2_S, if_pos rfl]
  · refine Or.inr (TH.mk1 hS (.head _) ?_ (r := 0) ?_)
    · unfold t_X7_longest
      rw [c_plT hnp.1 hp, th_S]
    · unfold f_X8_longest
      rw [x_noPlT hd1 hnp.2 hp, bd2_S, if_neg (show ¬ (1 : Int32) = 0 by decide)]
theorem o_heaviest (hS : Sim s x ps) (p : Int32) : (∃ r s' x', f_X7_heaviest s p = some (r, s') ∧ f_X8_heaviest x p = some (r, x') ∧ x'.1.1 0 = 0 ∧ Sim s' x' ps) ∨ TH [(IO, 1)] (t_X7_heaviest s p) (f_X8_heaviest x p) s ps := by
  obtain ⟨mx, np, hs, hb, tn, pa, f, e, n, h, r, hal, q, hq, hFR⟩ := hS.1
  have hnp := h.np
  have hd1 : dd x 1 = nI np := r.d1.trans hnp.1
  rcases rng p np (by omega) with ⟨k, k1, rfl⟩ | hp
  · obtain ⟨c1, c2⟩ := c_pl (s := s) hnp.1 hnp.2.2 k1
    by_cases hc : hcN (s.2.1.1.2 0) (nI k) ≤ 12
    · obtain ⟨S', n', tl, st, mk, F, E, x', a1, a2, a3, a4, a5, a6, a7, a8, a9, a10, a11⟩ := s_explore hS ⟨mx, hs, hb, tn, pa, f, e, n, h, r⟩ k1 hc
      have hst := a2.s.2
      obtain ⟨b1, b2⟩ := vl_in a8 hst (by omega)
      refine Or.inl ⟨nI (vl (x'.1.2 6) 0 st), _, x', ?_, ?_, (a4 0 (by omega)).trans rfl, a11⟩
      · unfold f_X7_heaviest
        rw [c1, bd1_S, a1, bd2_S, if_neg (show ¬ (1 : Int32) = 0 by decide)]
        show bd1 (f_X2_mostPips S') _ = _
        rw [e_mostPips a2 a8.d1, bd1_S]
      · unfold f_X8_heaviest
        rw [x_noPl hd1 hnp.2 k1, bd2_S, if_pos rfl, a3, bd2_S, if_neg (show ¬ (1 : Int32) = 0 by decide), a9, bd1_S, inb_t (by omega) (by omega), gd_T, nI_clamp (by omega), b1]
    · obtain ⟨x', a1, a2, a3, a4, a5⟩ := s_exploreN hS ⟨mx, hs, hb, tn, pa, f, e, n, h, r⟩ k1 hc
      refine Or.inl ⟨-2, s, x', ?_, ?_, a3, a5⟩
      · unfold f_X7_heaviest
        rw [c1, bd1_S, a1, bd2_S, if_pos rfl]
      · unfold f_X8_heaviest
        rw [x_noPl hd1 hnp.2 k1, bd2_S, if_pos rfl, a2, bd2_S, if_pos rfl]
  · refine Or.inr (TH.mk1 hS (.head _) ?_ (r := 0) ?_)
    · unfold t_X7_heaviest
      rw [c_plT hnp.1 hp, th_S]
    · unfold f_X8_heaviest
      rw [x_noPlT hd1 hnp.2 hp, bd2_S, if_neg (show ¬ (1 : Int32) = 0 by decide)]
/-- a throw behind which the class's rows have changed -/
def TH2 (L : List (String × Int32)) (t : Option (String × HS)) (o : Option (Int32 × MS)) (ps : PS) : Prop := ∃ E s' c r x', (E, c) ∈ L ∧ t = some (E, s') ∧ o = some (r, x') ∧ x'.1.1 0 = c ∧ Sim s' x' ps
theorem o_longestTile (hS : Sim s x ps) (p w : Int32) : (∃ r s' x', f_X7_longestTile s p w = some (r, s') ∧ f_X8_longestTile x p w = some (r, x') ∧ x'.1.1 0 = 0 ∧ Sim s' x' ps) ∨ TH2 [(IO, 1), (NE, 2)] (t_X7_longestTile s p w) (f_X8_longestTile x p w) ps := by
  obtain ⟨mx, np, hs, hb, tn, pa, f, e, n, h, r, hal, q, hq, hFR⟩ := hS.1
  have hnp := h.np
  have hd1 : dd x 1 = nI np := r.d1.trans hnp.1
  rcases rng p np (by omega) with ⟨k, k1, rfl⟩ | hp
  · obtain ⟨c1, c2⟩ := c_pl (s := s) hnp.1 hnp.2.2 k1
    by_cases hc : hcN (s.2.1.1.2 0) (nI k) ≤ 12
    · obtain ⟨S', n', tl, st, mk, F, E, x', a1, a2, a3, a4, a5, a6, a7, a8, a9, a10, a11⟩ := s_explore hS ⟨mx, hs, hb, tn, pa, f, e, n, h, r⟩ k1 hc
      have hst := a2.s.2
      obtain ⟨b1, b2⟩ := vl_in a7 hst (by omega)
      have hl12 : vl (x'.1.2 5) 0 st ≤ 12 := by
        have h1 := a2.len a7.d1
        have h2 := pc_le (mk (F - 1))
        rw [h1.1] at h2; omega
      rcases rng w (vl (x'.1.2 5) 0 st) (by omega) with ⟨j, j1, rfl⟩ | hw
      · obtain ⟨T, hp', t1, t2, t3, t4, t5, t6⟩ := e_findHopeful a2 a7.d1
        obtain ⟨t, u1, u2, u3⟩ := s_tiles a2 a7.d1 a7 a6 t2 t3 t4 t5 t6 j1 hl12 j 0 FUEL FUEL 0 st (-1) (by omega) (by show j + 1 < 2000000; omega) (by show j < 2000000; omega) ⟨rfl, rfl⟩ (by omega)
        refine Or.inl ⟨nI t, (s.1, s.2.1, s.2.2.1, s.2.2.2.1, s.2.2.2.2.1, T), x', ?_, ?_, (a4 0 (by omega)).trans rfl, ⟨a11.1, a11.2.1, a11.2.2.1, RW.hope a2 t2 t3 t4 t6⟩⟩
        · unfold f_X7_longestTile
          rw [c1, bd1_S, a1, bd2_S, if_neg (show ¬ (1 : Int32) = 0 by decide)]
          show bd2 (f_X2_tileOfFirstLongest S' (nI j)) _ = _
          unfold f_X2_tileOfFirstLongest
          rw [e_longest a2 a7.d1, bd1_S, if_neg (nI_lt0 (by omega)), ie_lt (by omega) (by omega), if_pos j1, t1, bd1_S, show T.1 1 = nI st by rw [t2]; exact a2.s.1]
          have u2' : itr4 (f_X2_tileOfFirstLongest_B35 (nI j) (nI (vl (x'.1.2 5) 0 st)) T) FUEL 0 (nI st) (-1) 0 = some (nI t, T) := u2
          rw [u2', bd2_S]
          unfold f_X7_longestTile_J25
          rw [ie_m1 (by omega)]
        · unfold f_X8_longestTile f_X8_longestTile_J59
          have u3' : itr3 (f_X8_longestTile_B71 (nI j) x') FUEL (nI st) 0 0 = some (nI t, x') := u3
          rw [x_noPl hd1 hnp.2 k1, bd2_S, if_pos rfl, a10, bd1_S, a3, bd2_S, if_neg (show ¬ (1 : Int32) = 0 by decide), inb_t (by omega) (by omega), gd_T, nI_clamp (by omega), b1, x_inY (by omega) j1, bd1_S, if_neg (show ¬ (1 : Int32) = 0 by decide), x_fail0 ((a4 0 (by omega)).trans rfl), bd2_S, if_pos rfl, u3']
      · refine Or.inr ⟨NE, (s.1, s.2.1, s.2.2.1, s.2.2.2.1, s.2.2.2.2.1, S'), 2, 0, ((ss x'.1 0 2), x'.2), .tail _ (.head _), ?_, ?_, rfl, a11.t0 2⟩
        · unfold t_X7_longestTile
          rw [c2, Option.map_none, th_N, c1, bd1_S, a1, bd2_S, if_neg (show ¬ (1 : Int32) = 0 by decide)]
          show bd2 (f_X2_tileOfFirstLongest S' w) _ = _
          unfold f_X2_tileOfFirstLongest
          rw [e_longest a2 a7.d1, bd1_S]
          have e9 : (if w < 0 then some ((-1 : Int32), S') else if w < nI (vl (x'.1.2 5) 0 st) then (bd1 (f_X2_findHopeful S' (nI (vl (x'.1.2 5) 0 st))) fun (rs18 : SA) => itr4 (f_X2_tileOfFirstLongest_B35 w (nI (vl (x'.1.2 5) 0 st)) rs18) FUEL 0 (rs18.1 1) (-1) 0) else some (-1, S')) = some (-1, S') := by
            by_cases h0 : w < 0
            · rw [if_pos h0]
            · rw [if_neg h0, if_neg (Int32.not_lt.mpr (hw.resolve_left h0))]
          rw [e9, bd2_S]
          unfold t_X7_longestTile_J25
          rw [if_pos rfl]; rfl
        · unfold f_X8_longestTile f_X8_longestTile_J59
          rw [x_noPl hd1 hnp.2 k1, bd2_S, if_pos rfl, a10, bd1_S, a3, bd2_S, if_neg (show ¬ (1 : Int32) = 0 by decide), inb_t (by omega) (by omega), gd_T, nI_clamp (by omega), b1, x_inN (by omega) hw, bd1_S, if_pos rfl, x_fail1 ((a4 0 (by omega)).trans rfl) (by decide), bd2_S, if_neg (show ¬ (1 : Int32) = 0 by decide)]
    · obtain ⟨x', a1, a2, a3, a4, a5⟩ := s_exploreN hS ⟨mx, hs, hb, tn, pa, f, e, n, h, r⟩ k1 hc
      obtain ⟨st, hst, hE⟩ := h.E k (by omega)
      have hEd : f_X8_ofTrain (x0 x) (nI k) 1 = some (nI st) := by
        rw [i_1, x_ofTrain (by omega) (by omega)]
        exact congrArg some ((r.E k (by omega)).trans hE)
      refine Or.inr ⟨NE, s, 2, 0, ((ss x'.1 0 2), x'.2), .tail _ (.head _), ?_, ?_, rfl, a5.t0 2⟩
      · unfold t_X7_longestTile t_X7_longestTile_J25
        rw [c2, Option.map_none, th_N, c1, bd1_S, a1, bd2_S, if_pos rfl, if_pos rfl]; rfl
      · unfold f_X8_longestTile f_X8_longestTile_J59
        rw [x_noPl hd1 hnp.2 k1, bd2_S, if_pos rfl, hEd, bd1_S, a2, bd2_S, if_pos rfl, x_fail1 a3 (by decide), bd2_S, if_neg (show ¬ (1 : Int32) = 0 by decide)]
  · refine Or.inr ⟨IO, s, 1, 0, xT x 1, .head _, ?_, ?_, rfl, hS.xT 1⟩
    · unfold t_X7_longestTile
      rw [c_plT hnp.1 hp]; rfl
    · unfold f_X8_longestTile
      rw [x_noPlT hd1 hnp.2 hp, bd2_S, if_neg (show ¬ (1 : Int32) = 0 by decide)]
/-- a round foretold -/
theorem s_foretold (hS : Sim s x ps) : ∃ j g8 g17 h116 x23 q f, f_X1_takeOver s.2.2.1 s.2.1 = some g8 ∧ g8.2.1 = s.2.1.2.1 ∧ pget ps g8.2.1 = some q ∧ f_X1_playOn q.2.2.1 g8.2.1 g8 q.2.2.2 1000000 = some (nI j, g17, f) ∧ f.2 0 = q.2.2.2.2 0 ∧ f_X8_copy 1464 464 (x.1.2 1) (x.1.2 3) 464 = some h116 ∧ f_X8_goOn ((sa (ss x.1 0 0) 3 h116), x.2) 2147483647 = some (nI j, x23) ∧ x23.1.1 = (x0 x).1.1 ∧ (∀ i, ¬ i = 1 → ¬ i = 3 → x23.1.2 i = x.1.2 i) ∧
    (∃ mx np hs hb tn pa f e n, Inv g17 mx np hs hb tn pa f e n ∧ Rel g17 (dd x23) np f e n) ∧ ∃ h3, f_X8_copy 464 1464 (x23.1.2 3) (x23.1.2 1) 464 = some h3 ∧ ∀ k, h3 k = dd x k := by
  obtain ⟨mx, np, hs, hb, tn, pa, f, e, n, h, r, hal, q, hq, hFR⟩ := hS.1
  have hcnt := h.cnt
  obtain ⟨g8, t1, t2⟩ := e_takeOver (g := s.2.2.1) (go := s.2.1) h.dr h.ov
  obtain ⟨h116, c1, c2, c3⟩ := x_copy (n0 := 1464) (n1 := 464) (N := 464) (x.1.2 1) (x.1.2 3) (by omega) (by omega) (by omega) (by omega) (by omega)
  have h8 : Inv g8 mx np hs hb tn pa f e n := t2.inv h
  have r8 : Rel g8 (dd ((sa (ss x.1 0 0) 3 h116), x.2)) np f e n := t2.rel h.np.2.2 h.st.2.2.2 (by omega) r
  have hfo := t2.fo
  obtain ⟨j, g17, F', x23, tn', pa', f', n', a1, a2, a3, a4, a5, a6, a7, a8, a9⟩ := s_playOn h8 r8 (show FR g8.2.1 q.2.2.1 q.2.2.2 (dd ((sa (ss x.1 0 0) 3 h116), x.2)) by rw [hfo]; exact hFR) (fun z => hal (by rw [← t2.S 8 (by omega)]; exact z)) (P := 1000000) (Q := 2147483647) (by omega) (by omega) (Or.inr ⟨by omega, by omega⟩)
  obtain ⟨h3, d1, d2, d3⟩ := x_copy (n0 := 464) (n1 := 1464) (N := 464) (x23.1.2 3) (x23.1.2 1) (by omega) (by omega) (by omega) (by omega) (by omega)
  have x3 : x23.1.2 3 = h116 := (a7.2.1 3 (by omega)).trans rfl
  refine ⟨j, g8, g17, h116, x23, q, F', t1, hfo, by rw [hfo]; exact hq, a1, a6, c1, a2, a7.1, fun i i1 i3 => (a7.2.1 i i1).trans (upA_n i3), ⟨mx, np, hs, hb, tn', pa', f', e, n', a3, a4⟩, h3, d1, fun k => ?_⟩
  by_cases hk : k < 464
  · rw [d2 k hk, x3, c2 k hk]
  · rw [d3 k (by omega)]
    exact (a7.2.2 k (by omega)).trans rfl
theorem Sim.back {x23 : MS} {h3 : Nat → Int32} (hS : Sim s x ps) (h1 : x23.1.1 = (x0 x).1.1) (h2 : ∀ i, ¬ i = 1 → ¬ i = 3 → x23.1.2 i = x.1.2 i) (h4 : ∀ k, h3 k = dd x k) (g17 : GS) : Sim (s.1, s.2.1, g17, s.2.2.2) ((sa x23.1 1 h3), x23.2) ps := by
  obtain ⟨g, hh, ri, rw⟩ := hS.mv (x' := ((sa x23.1 1 h3), x23.2)) (fun k hk => by
    show x23.1.1 k = _
    rw [h1]; exact upd_n (by omega)) (fun i hi => by
    show upA x23.1.2 1 h3 i = _
    by_cases z : i = 1
    · rw [z, upA_s]; exact funext h4
    · rw [upA_n z]; exact h2 i z (by omega))
  exact ⟨g, hh, ri, rw⟩
theorem o_winner (hS : Sim s x ps) : ∃ r s' ps' x', f_X7_winner s ps = some (r, s', ps') ∧ f_X8_winner x = some (r, x') ∧ x'.1.1 0 = 0 ∧ Sim s' x' ps' ∧ ∃ fo f, ps' = pput ps fo f := by
  obtain ⟨j, g8, g17, h116, x23, q, f, a1, a2, a3, a4, a5, a6, a7, a8, a9, ⟨mx, np, hs, hb, tn, pa, f0, e, n, b1, b2⟩, h3, c1, c2⟩ := s_foretold hS
  obtain ⟨v, d1, d2⟩ := s_lightest b1 b2 h3 c1
  refine ⟨v, (s.1, s.2.1, g17, s.2.2.2.1, s.2.2.2.2.1, s.2.2.2.2.2), pput ps g8.2.1 f, _, ?_, ?_, ?_, (hS.back a8 a9 c2 g17).put a3 a5, g8.2.1, f, rfl⟩
  · unfold f_X7_winner
    rw [a1, bd1_S, a3, bd1_S, a4, bd3_S, nmd_S, d1, bd1_S]
  · unfold f_X8_winner
    rw [a6, bd1_S, a7, bd2_S, d2]
  · show x23.1.1 0 = 0
    rw [a8]; rfl
theorem o_steps (hS : Sim s x ps) : ∃ r s' ps' x', f_X7_stepsToEnd s ps = some (r, s', ps') ∧ f_X8_stepsToEnd x = some (r, x') ∧ x'.1.1 0 = 0 ∧ Sim s' x' ps' ∧ ∃ fo f, ps' = pput ps fo f := by
  obtain ⟨j, g8, g17, h116, x23, q, f, a1, a2, a3, a4, a5, a6, a7, a8, a9, -, h3, c1, c2⟩ := s_foretold hS
  refine ⟨nI j, (s.1, s.2.1, g17, s.2.2.2.1, s.2.2.2.2.1, s.2.2.2.2.2), pput ps g8.2.1 f, ((sa x23.1 1 h3), x23.2), ?_, ?_, ?_, (hS.back a8 a9 c2 g17).put a3 a5, g8.2.1, f, rfl⟩
  · unfold f_X7_stepsToEnd
    rw [a1, bd1_S, a3, bd1_S, a4, bd3_S, nmd_S]
  · unfold f_X8_stepsToEnd
    rw [a6, bd1_S, a7, bd2_S, c1, bd1_S]
  · show x23.1.1 0 = 0
    rw [a8]; rfl
end O
