/-! what each call answers on both sides: calls that tell -/
def TH (L : List (String × Int32)) (t : Option String) (o : Option (Int32 × MS)) (s : HS) (ps : PS) : Prop := ∃ E c r x', (E, c) ∈ L ∧ t = some E ∧ o = some (r, x') ∧ x'.1.1 0 = c ∧ Sim s x' ps
def AN (a : Option Int32) (o : Option (Int32 × MS)) (s : HS) (ps : PS) : Prop := ∃ r x', a = some r ∧ o = some (r, x') ∧ x'.1.1 0 = 0 ∧ Sim s x' ps
section O
variable {s : HS} {x : MS} {ps : PS}
theorem TH.mk1 {E : String} {c r : Int32} {L : List (String × Int32)} {t : Option String} {o : Option (Int32 × MS)} (hS : Sim s x ps) (hm : (E, c) ∈ L) (ht : t = some E) (ho : o = some (r, xT x c)) : TH L t o s ps := ⟨E, c, r, _, hm, ht, ho, rfl, hS.xT c⟩
theorem o_errorOffset (hS : Sim s x ps) : AN (f_X7_errorOffset s) (f_X8_errorOffset x) s ps := by
  refine ⟨x.1.1 6, x0 x, ?_, rfl, rfl, hS.t0 0⟩
  show some (s.2.2.2.2.1.1.1 7) = _
  rw [hS.2.2.1.2.2.2.1]
theorem o_state (hS : Sim s x ps) (w : Int32) : AN (f_X7_state s w) (f_X8_state x w) s ps ∨ TH [(IA, 1)] (t_X7_state s w) (f_X8_state x w) s ps := by
  obtain ⟨mx, np, hs, hb, tn, pa, f, e, n, h, r, hal, q, hq, hFR⟩ := hS.1
  have r0 : Rel s.2.1 (dd (x0 x)) np f e n := r
  rcases rng w 13 (by omega) with ⟨k, k1, rfl⟩ | hw
  · obtain ⟨v, v1, v2⟩ := s_state h r0 (w := k) (by omega)
    refine Or.inl ⟨v, x0 x, ?_, ?_, rfl, hS.t0 0⟩
    · unfold f_X7_state
      rw [i_13, (c_wh k1 (by omega)).1, bd1_S, v1, bd1_S]
    · unfold f_X8_state f_X8_state_J21
      rw [show f_X8_in (nI k) 0 12 = some 1 from (x_in (b := 0) (c := 12) (by omega) (by omega) (by omega)).trans (by rw [if_pos ⟨Nat.zero_le _, by omega⟩]), bd1_S, if_neg (show ¬ (1 : Int32) = 0 by decide), show f_X8_fails ((ss x.1 0 0), x.2) 0 1 = some (0, x0 x) from x_fail0 (x := x0 x) rfl, bd2_S, if_pos rfl, v2, bd1_S]
  · refine Or.inr (TH.mk1 hS (.head _) ?_ (r := 0) ?_)
    · unfold t_X7_state
      rw [i_13, c_whT hw, th_S]
    · unfold f_X8_state f_X8_state_J21
      rw [show f_X8_in w 0 12 = some 0 from x_inOut (n := 12) (by omega) hw (by omega), bd1_S, if_pos rfl, show f_X8_fails ((ss x.1 0 0), x.2) 1 1 = some (1, xT x 1) from x_fail1 (x := x0 x) rfl (by decide), bd2_S, if_neg (show ¬ (1 : Int32) = 0 by decide)]
theorem o_player (hS : Sim s x ps) (p w : Int32) : AN (f_X7_player s p w) (f_X8_player x p w) s ps ∨ TH [(IO, 1), (IA, 2)] (t_X7_player s p w) (f_X8_player x p w) s ps := by
  obtain ⟨mx, np, hs, hb, tn, pa, f, e, n, h, r, hal, q, hq, hFR⟩ := hS.1
  have r0 : Rel s.2.1 (dd (x0 x)) np f e n := r
  have hnp := h.np
  have hd1 : dd x 1 = nI np := r.d1.trans hnp.1
  rcases rng p np (by omega) with ⟨k, k1, rfl⟩ | hp
  · obtain ⟨c1, c2⟩ := c_pl (s := s) hnp.1 hnp.2.2 k1
    rcases rng w 4 (by omega) with ⟨j, j1, rfl⟩ | hw
    · obtain ⟨v, v1, v2⟩ := s_player h r0 (p := k) (w := j) k1 (by omega)
      refine Or.inl ⟨v, x0 x, ?_, ?_, rfl, hS.t0 0⟩
      · unfold f_X7_player
        rw [c1, bd1_S, i_4, (c_wh j1 (by omega)).1, bd1_S, v1, bd1_S]
      · unfold f_X8_player f_X8_player_J28
        rw [x_noPl hd1 hnp.2 k1, bd2_S, if_pos rfl, show f_X8_in (nI j) 0 3 = some 1 from (x_in (b := 0) (c := 3) (by omega) (by omega) (by omega)).trans (by rw [if_pos ⟨Nat.zero_le _, by omega⟩]), bd1_S, if_neg (show ¬ (1 : Int32) = 0 by decide), x_fail0 rfl, bd2_S, if_pos rfl, v2, bd1_S]
    · refine Or.inr (TH.mk1 hS (.tail _ (.head _)) ?_ (r := 0) ?_)
      · unfold t_X7_player
        rw [c2, th_N, c1, bd1_S, i_4, c_whT hw, th_S]
      · unfold f_X8_player f_X8_player_J28
        rw [x_noPl hd1 hnp.2 k1, bd2_S, if_pos rfl, show f_X8_in w 0 3 = some 0 from x_inOut (n := 3) (by omega) hw (by omega), bd1_S, if_pos rfl, x_fail1 rfl (by decide), bd2_S, if_neg (show ¬ (1 : Int32) = 0 by decide)]
  · refine Or.inr (TH.mk1 hS (.head _) ?_ (r := 0) ?_)
    · unfold t_X7_player
      rw [c_plT hnp.1 hp, th_S]
    · unfold f_X8_player
      rw [x_noPlT hd1 hnp.2 hp, bd2_S, if_neg (show ¬ (1 : Int32) = 0 by decide)]
theorem x_inN {v : Int32} {n : Nat} (hn : n < 2 ^ 31) (h : v < 0 ∨ nI n ≤ v) : f_X8_in v 0 (nI n - 1) = some 0 := by
  by_cases h0 : n = 0
  · subst h0
    unfold f_X8_in
    by_cases hv : v < 0
    · rw [if_pos hv]
    · rw [if_neg hv, if_pos]
      rcases h with h | h
      · exact absurd h hv
      · rw [show nI 0 - 1 = (-1 : Int32) by decide]
        exact Int32.lt_of_lt_of_le (show (-1 : Int32) < nI 0 by decide) h
  · rw [show nI n - 1 = nI (n - 1) from nI_sub (b := 1) (by omega)]
    exact x_inOut (by omega) (by rw [show n - 1 + 1 = n by omega]; exact h) (by omega)
theorem x_inY {k n : Nat} (hn : n < 2 ^ 31) (h : k < n) : f_X8_in (nI k) 0 (nI n - 1) = some 1 := by
  rw [show nI n - 1 = nI (n - 1) from nI_sub (b := 1) (by omega)]
  exact (x_in (b := 0) (by omega) (by omega) (by omega)).trans (by rw [if_pos ⟨Nat.zero_le _, by omega⟩])
theorem o_tile (hS : Sim s x ps) (p w : Int32) : AN (f_X7_tile s p w) (f_X8_tile x p w) s ps ∨ TH [(IO, 1), (NE, 2)] (t_X7_tile s p w) (f_X8_tile x p w) s ps := by
  obtain ⟨mx, np, hs, hb, tn, pa, f, e, n, h, r, hal, q, hq, hFR⟩ := hS.1
  have r0 : Rel s.2.1 (dd (x0 x)) np f e n := r
  have hnp := h.np
  have hd1 : dd x 1 = nI np := r.d1.trans hnp.1
  rcases rng p np (by omega) with ⟨k, k1, rfl⟩ | hp
  · obtain ⟨c1, c2⟩ := c_pl (s := s) hnp.1 hnp.2.2 k1
    have hle := hcN_le (s.2.1.1.2 0) (nI k)
    have eh : f_X8_hand (x0 x) (nI k) = some (nI (hcN (s.2.1.1.2 0) (nI k))) := by rw [x_hand, hcN_congr (nI k) r0.H]
    rcases rng w (hcN (s.2.1.1.2 0) (nI k)) (by omega) with ⟨j, j1, rfl⟩ | hw
    · obtain ⟨c, hc, v1, v2⟩ := s_tile (p := nI k) r0 j1
      refine Or.inl ⟨nI c, x0 x, ?_, ?_, rfl, hS.t0 0⟩
      · unfold f_X7_tile
        rw [c1, bd1_S, v1, bd1_S, ie_m1 (by omega)]
      · unfold f_X8_tile f_X8_tile_J34
        rw [x_noPl hd1 hnp.2 k1, bd2_S, if_pos rfl, eh, bd1_S, x_inY (by omega) j1, bd1_S, if_neg (show ¬ (1 : Int32) = 0 by decide), x_fail0 rfl, bd2_S, if_pos rfl, v2, bd1_S]
    · refine Or.inr (TH.mk1 hS (.tail _ (.head _)) ?_ (r := 0) ?_)
      · unfold t_X7_tile
        rw [c2, th_N, c1, bd1_S, c_tileNo hw, bd1_S, if_pos rfl]; rfl
      · unfold f_X8_tile f_X8_tile_J34
        rw [x_noPl hd1 hnp.2 k1, bd2_S, if_pos rfl, eh, bd1_S, x_inN (by omega) hw, bd1_S, if_pos rfl, x_fail1 rfl (by decide), bd2_S, if_neg (show ¬ (1 : Int32) = 0 by decide)]
  · refine Or.inr (TH.mk1 hS (.head _) ?_ (r := 0) ?_)
    · unfold t_X7_tile
      rw [c_plT hnp.1 hp, th_S]
    · unfold f_X8_tile
      rw [x_noPlT hd1 hnp.2 hp, bd2_S, if_neg (show ¬ (1 : Int32) = 0 by decide)]
theorem o_train (hS : Sim s x ps) (p w : Int32) : AN (f_X7_train s p w) (f_X8_train x p w) s ps ∨ TH [(IO, 1), (IA, 2)] (t_X7_train s p w) (f_X8_train x p w) s ps := by
  obtain ⟨mx, np, hs, hb, tn, pa, f, e, n, h, r, hal, q, hq, hFR⟩ := hS.1
  have r0 : Rel s.2.1 (dd (x0 x)) np f e n := r
  have hnp := h.np
  have hd1 : dd x 1 = nI np := r.d1.trans hnp.1
  rcases rng p (np + 1) (by omega) with ⟨k, k1, rfl⟩ | hp
  · obtain ⟨c1, c2⟩ := c_tr (s := s) hnp.1 hnp.2.2 (show k ≤ np by omega)
    rcases rng w 5 (by omega) with ⟨j, j1, rfl⟩ | hw
    · obtain ⟨v, v1, v2⟩ := s_train h r0 (t := k) (w := j) (by omega) (by omega)
      refine Or.inl ⟨v, x0 x, ?_, ?_, rfl, hS.t0 0⟩
      · unfold f_X7_train
        rw [c1, bd1_S, i_5, (c_wh j1 (by omega)).1, bd1_S, v1, bd1_S]
      · unfold f_X8_train f_X8_train_J28
        rw [x_noTr hd1 hnp.2 (by omega), bd2_S, if_pos rfl, show f_X8_in (nI j) 0 4 = some 1 from (x_in (b := 0) (c := 4) (by omega) (by omega) (by omega)).trans (by rw [if_pos ⟨Nat.zero_le _, by omega⟩]), bd1_S, if_neg (show ¬ (1 : Int32) = 0 by decide), x_fail0 rfl, bd2_S, if_pos rfl, v2, bd1_S]
    · refine Or.inr (TH.mk1 hS (.tail _ (.head _)) ?_ (r := 0) ?_)
      · unfold t_X7_train
        rw [c2, th_N, c1, bd1_S, i_5, c_whT hw, th_S]
      · unfold f_X8_train f_X8_train_J28
        rw [x_noTr hd1 hnp.2 (by omega), bd2_S, if_pos rfl, show f_X8_in w 0 4 = some 0 from x_inOut (n := 4) (by omega) hw (by omega), bd1_S, if_pos rfl, x_fail1 rfl (by decide), bd2_S, if_neg (show ¬ (1 : Int32) = 0 by decide)]
  · refine Or.inr (TH.mk1 hS (.head _) ?_ (r := 0) ?_)
    · unfold t_X7_train
      rw [c_trT hnp.1 hnp.2.2 hp, th_S]
    · unfold f_X8_train
      rw [x_noTrT hd1 hnp.2 hp, bd2_S, if_neg (show ¬ (1 : Int32) = 0 by decide)]
theorem o_laid (hS : Sim s x ps) (p w : Int32) : AN (f_X7_laid s p w) (f_X8_laid x p w) s ps ∨ TH [(IO, 1), (NE, 2)] (t_X7_laid s p w) (f_X8_laid x p w) s ps := by
  obtain ⟨mx, np, hs, hb, tn, pa, f, e, n, h, r, hal, q, hq, hFR⟩ := hS.1
  have r0 : Rel s.2.1 (dd (x0 x)) np f e n := r
  have hnp := h.np
  have hcnt := h.cnt
  have hd1 : dd x 1 = nI np := r.d1.trans hnp.1
  rcases rng p (np + 1) (by omega) with ⟨k, k1, rfl⟩ | hp
  · obtain ⟨c1, c2⟩ := c_tr (s := s) hnp.1 hnp.2.2 (show k ≤ np by omega)
    have hle := cT_le (s.2.1.2.2.2.2 1) k n
    have eh : f_X8_ofTrain (x0 x) (nI k) 0 = some (nI (cT (s.2.1.2.2.2.2 1) k n)) := by
      rw [i_0, x_ofTrain (by omega) (by omega), show dd (x0 x) (174 + 58 * k + 0) = nI (cT (s.2.1.2.2.2.2 1) k n) from r0.L k (by omega)]
    rcases rng w (cT (s.2.1.2.2.2.2 1) k n) (by omega) with ⟨j, j1, rfl⟩ | hw
    · obtain ⟨c, hc, v1, v2⟩ := c_tileAt h r0 (t := k) (by omega) j1
      refine Or.inl ⟨nI c, x0 x, ?_, ?_, rfl, hS.t0 0⟩
      · unfold f_X7_laid
        rw [c1, bd1_S, v1, bd1_S, ie_m1 (by omega)]
      · unfold f_X8_laid f_X8_laid_J35
        rw [x_noTr hd1 hnp.2 (by omega), bd2_S, if_pos rfl, eh, bd1_S, x_inY (by omega) j1, bd1_S, if_neg (show ¬ (1 : Int32) = 0 by decide), x_fail0 rfl, bd2_S, if_pos rfl, i_3, nI_add, x_ofTrain (by omega) (by omega), v2, bd1_S]
    · refine Or.inr (TH.mk1 hS (.tail _ (.head _)) ?_ (r := 0) ?_)
      · unfold t_X7_laid
        rw [c2, th_N, c1, bd1_S, c_tileAtNo h hw, bd1_S, if_pos rfl]; rfl
      · unfold f_X8_laid f_X8_laid_J35
        rw [x_noTr hd1 hnp.2 (by omega), bd2_S, if_pos rfl, eh, bd1_S, x_inN (by omega) hw, bd1_S, if_pos rfl, x_fail1 rfl (by decide), bd2_S, if_neg (show ¬ (1 : Int32) = 0 by decide)]
  · refine Or.inr (TH.mk1 hS (.head _) ?_ (r := 0) ?_)
    · unfold t_X7_laid
      rw [c_trT hnp.1 hnp.2.2 hp, th_S]
    · unfold f_X8_laid
      rw [x_noTrT hd1 hnp.2 hp, bd2_S, if_neg (show ¬ (1 : Int32) = 0 by decide)]
theorem o_why (hS : Sim s x ps) (c t : Int32) : AN (f_X7_why s c t) (f_X8_why x c t) s ps ∨ TH [(IO, 1), (IA, 2)] (t_X7_why s c t) (f_X8_why x c t) s ps := by
  obtain ⟨mx, np, hs, hb, tn, pa, f, e, n, h, r, hal, q, hq, hFR⟩ := hS.1
  have r0 : Rel s.2.1 (dd (x0 x)) np f e n := r
  have hnp := h.np
  have hd1 : dd x 1 = nI np := r.d1.trans hnp.1
  have hd0 : dd x 0 = nI mx := r.d0.trans h.mx.1
  rcases rng t (np + 1) (by omega) with ⟨k, k1, rfl⟩ | hp
  · obtain ⟨c1, c2⟩ := c_tr (s := s) hnp.1 hnp.2.2 (show k ≤ np by omega)
    rcases noT.or mx c with ⟨j, j1, rfl, j3⟩ | hw
    · obtain ⟨d1, d2⟩ := c_ti (s := s) h.mx.1 h.mx.2.2 j1 j3
      refine Or.inl ⟨gob np s.2.1 j k, x0 x, ?_, ?_, rfl, hS.t0 0⟩
      · unfold f_X7_why
        rw [c1, bd1_S, d1, bd1_S, c_obstacle h j1 (by omega), bd1_S]
      · unfold f_X8_why
        rw [x_noTi hd0 h.mx.2.2 hd1 hnp.2 j1 j3 (by omega), bd2_S, if_pos rfl, m_refusal h r0 j1 (by omega), bd1_S]
    · refine Or.inr (TH.mk1 hS (.tail _ (.head _)) ?_ (r := 0) ?_)
      · unfold t_X7_why
        rw [c2, th_N, c1, bd1_S, c_tiT h.mx.1 h.mx.2.2 hw, th_S]
      · unfold f_X8_why
        rw [x_noTiT2 hd0 h.mx.2.2 hd1 hnp.2 (by omega) hw, bd2_S, if_neg (show ¬ (1 : Int32) = 0 by decide)]
  · refine Or.inr (TH.mk1 hS (.head _) ?_ (r := 0) ?_)
    · unfold t_X7_why
      rw [c_trT hnp.1 hnp.2.2 hp, th_S]
    · unfold f_X8_why
      rw [x_noTiT1 hd1 hnp.2 hp, bd2_S, if_neg (show ¬ (1 : Int32) = 0 by decide)]
theorem Sim.put {fo : Option Nat} {q : Nat × Nat × Nat × SA} {f : SA} (h : Sim s x ps) (hq : pget ps fo = some q) (hf : f.2 0 = q.2.2.2.2 0) : Sim s x (pput ps fo f) := by
  obtain ⟨g, ⟨u, u1, u2, u3, u4⟩, ri, rw⟩ := h
  exact ⟨g.put hq hf, ⟨u, u1, u2, u3, u4.mono (fun _ _ z => z.put hq hf)⟩, ri, rw⟩
theorem o_best (hS : Sim s x ps) : ∃ r ps' x', f_X7_best s ps = some (r, ps') ∧ f_X8_best x = some (r, x') ∧ x'.1.1 0 = 0 ∧ Sim s x' ps' ∧ ∃ f, ps' = pput ps s.2.1.2.1 f := by
  obtain ⟨mx, np, hs, hb, tn, pa, f, e, n, h, r, hal, q, hq, hFR⟩ := hS.1
  have r0 : Rel s.2.1 (dd (x0 x)) np f e n := r
  obtain ⟨b, F', x', a1, a2, a3, a4, a5⟩ := s_best h r0 (show FR s.2.1.2.1 q.2.2.1 q.2.2.2 (dd (x0 x)) from hFR)
  refine ⟨b, pput ps s.2.1.2.1 F', x', ?_, ?_, by rw [a4]; rfl, (hS.mv (fun k hk => by rw [a4]; exact upd_n (by omega)) (fun i _ => by rw [a4])).put hq a3, F', rfl⟩
  · unfold f_X7_best
    rw [hq, bd1_S, a1, bd2_S, nmd_S]
  · unfold f_X8_best
    rw [a2, bd2_S]
theorem o_rank (hS : Sim s x ps) (c t : Int32) : (∃ r ps' x', f_X7_rank s ps c t = some (r, ps') ∧ f_X8_rank x c t = some (r, x') ∧ x'.1.1 0 = 0 ∧ Sim s x' ps' ∧ ∃ f, ps' = pput ps s.2.1.2.1 f) ∨ TH [(IO, 1), (IA, 2), (NE, 3)] (t_X7_rank s ps c t) (f_X8_rank x c t) s ps := by
  obtain ⟨mx, np, hs, hb, tn, pa, f, e, n, h, r, hal, q, hq, hFR⟩ := hS.1
  have r0 : Rel s.2.1 (dd (x0 x)) np f e n := r
  have hnp := h.np
  have hd1 : dd x 1 = nI np := r.d1.trans hnp.1
  have hd0 : dd x 0 = nI mx := r.d0.trans h.mx.1
  rcases rng t (np + 1) (by omega) with ⟨k, k1, rfl⟩ | hp
  · obtain ⟨c1, c2⟩ := c_tr (s := s) hnp.1 hnp.2.2 (show k ≤ np by omega)
    rcases noT.or mx c with ⟨j, j1, rfl, j3⟩ | hw
    · obtain ⟨d1, d2⟩ := c_ti (s := s) h.mx.1 h.mx.2.2 j1 j3
      have ec := e_canPlay hnp.1 hnp.2.2 h.E j1 (show k ≤ np by omega)
      by_cases hob : gob np s.2.1 j k = 0
      · obtain ⟨rr, F', x', a1, a2, a3, a4⟩ := s_rank h r0 (show FR s.2.1.2.1 q.2.2.1 q.2.2.2 (dd (x0 x)) from hFR) (c := j) (t := k) j1 (by omega)
        refine Or.inl ⟨rr, pput ps s.2.1.2.1 F', x', ?_, ?_, by rw [a4]; rfl, (hS.mv (fun k hk => by rw [a4]; exact upd_n (by omega)) (fun i _ => by rw [a4])).put hq a3, F', rfl⟩
        · unfold f_X7_rank
          rw [c1, bd1_S, d1, bd1_S, ec, bd1_S, if_pos hob, if_neg (show ¬ (1 : Int32) = 0 by decide), hq, bd1_S, a1, bd2_S, nmd_S]
        · unfold f_X8_rank f_X8_rank_J29
          rw [x_noTi hd0 h.mx.2.2 hd1 hnp.2 j1 j3 (by omega), bd2_S, if_pos rfl, m_refusal h r0 j1 (by omega), bd1_S, if_pos hob, x_fail0 rfl, bd2_S, if_pos rfl, a2, bd2_S]
      · refine Or.inr (TH.mk1 hS (.tail _ (.tail _ (.head _))) ?_ (r := 0) ?_)
        · unfold t_X7_rank
          rw [c2, th_N, c1, bd1_S, d2, th_N, d1, bd1_S, ec, bd1_S, if_neg hob, if_pos rfl]; rfl
        · unfold f_X8_rank f_X8_rank_J29
          rw [x_noTi hd0 h.mx.2.2 hd1 hnp.2 j1 j3 (by omega), bd2_S, if_pos rfl, m_refusal h r0 j1 (by omega), bd1_S, if_neg hob, x_fail1 rfl (by decide), bd2_S, if_neg (show ¬ (1 : Int32) = 0 by decide)]
    · refine Or.inr (TH.mk1 hS (.tail _ (.head _)) ?_ (r := 0) ?_)
      · unfold t_X7_rank
        rw [c2, th_N, c1, bd1_S, c_tiT h.mx.1 h.mx.2.2 hw, th_S]
      · unfold f_X8_rank
        rw [x_noTiT2 hd0 h.mx.2.2 hd1 hnp.2 (by omega) hw, bd2_S, if_neg (show ¬ (1 : Int32) = 0 by decide)]
  · refine Or.inr (TH.mk1 hS (.head _) ?_ (r := 0) ?_)
    · unfold t_X7_rank
      rw [c_trT hnp.1 hnp.2.2 hp, th_S]
    · unfold f_X8_rank
      rw [x_noTiT1 hd1 hnp.2 hp, bd2_S, if_neg (show ¬ (1 : Int32) = 0 by decide)]
theorem o_mean (hS : Sim s x ps) : ∃ v x', f_X7_meanPips s = some v ∧ f_X8_meanPips x = some (v, x') ∧ x'.1.1 0 = 0 ∧ Sim s x' ps := by
  obtain ⟨mx, np, hs, hb, tn, pa, f, e, n, h, r, hal, q, hq, hFR⟩ := hS.1
  obtain ⟨v, a1, a2⟩ := s_mean h r
  exact ⟨v, _, a1, a2, rfl, hS.t0 0⟩
theorem o_checksum (hS : Sim s x ps) : ∃ v x', f_X7_checksum s = some v ∧ f_X8_checksum x = some (v, x') ∧ x'.1.1 0 = 0 ∧ Sim s x' ps := by
  obtain ⟨mx, np, hs, hb, tn, pa, f, e, n, h, r, hal, q, hq, hFR⟩ := hS.1
  obtain ⟨v, a1, a2⟩ := s_checksum h r
  exact ⟨v, _, a1, a2, rfl, hS.t0 0⟩
end O
