/-! what each call answers on both sides: changes -/
section O
variable {s : HS} {x : MS} {ps : PS}
theorem Sim.rem (hS : Sim s x ps) : ∃ s' x', f_X7_remember s = some s' ∧ f_X8_remember x = some x' ∧ Sim s' x' ps ∧ s'.2.1 = s.2.1 ∧ s'.2.2.1 = s.2.2.1 ∧ s'.2.2.2.2 = s.2.2.2.2 ∧ x'.1.1 0 = x.1.1 0 ∧ x'.1.2 1 = x.1.2 1 := by
  obtain ⟨g, ⟨u, u1, u2, u3, u4⟩, ⟨⟨st, a1, a2, a3⟩, b1, b2, b3, b4⟩, rw⟩ := hS
  obtain ⟨s', x', u', c1, c2, c3, c4, c5, c6, c7, c8, c9, c10, c11, c12, c13, c14⟩ := s_remember g u1 u2 u3 u4
  refine ⟨s', x', c1, c2, ⟨?_, ⟨u', c3, c4, c5, c6⟩, ?_, ?_⟩, c9, c10, c11, c12 0 (by omega), c13 1 (by omega)⟩
  · show GR ps s'.2.1 (x'.1.2 1)
    rw [c9, c13 1 (by omega)]; exact g
  · rw [show s'.2.2.2.2.1 = s.2.2.2.2.1 by rw [c11]]
    exact ⟨⟨st, a1, a2, (c12 1 (by omega)).trans a3⟩, by rw [c13 0 (by omega)]; exact b1, by rw [c13 0 (by omega)]; exact b2, b3.trans (c12 6 (by omega)).symm, b4⟩
  · rw [show s'.2.2.2.2.2 = s.2.2.2.2.2 by rw [c11]]; exact rw
theorem Sim.stp {g' : GS} {x' : MS} {ps' : PS} (hS : Sim s x ps) (hp : ∀ g d, GR ps g d → GR ps' g d) (hg : GR ps' g' (dd x')) (h1 : x'.1.1 = x.1.1) (h2 : ∀ i, ¬ i = 1 → x'.1.2 i = x.1.2 i) : Sim (s.1, g', s.2.2) x' ps' := by
  obtain ⟨g, ⟨u, u1, u2, u3, u4⟩, ⟨⟨st, a1, a2, a3⟩, b1, b2, b3, b4⟩, rw⟩ := hS
  refine ⟨hg, ⟨u, u1, u2, by rw [h1]; exact u3, fun i hi => ?_⟩, ⟨⟨st, a1, a2, by rw [h1]; exact a3⟩, by rw [h2 0 (by omega)]; exact b1, by rw [h2 0 (by omega)]; exact b2, by rw [h1]; exact b3, b4⟩, rw⟩
  rw [h2 (10 + i) (by omega)]
  exact hp _ _ (u4 i hi)
theorem GR.fr {g g' : GS} {x' : MS} {mx np hs hb tn pa f e n : Nat} {q : Nat × Nat × Nat × SA} (h : Inv g' mx np hs hb tn pa f e n) (r : Rel g' (dd x') np f e n) (hal : g'.1.1 8 = 0 → pa < np) (hq : pget ps g.2.1 = some q) (hFR : FR g.2.1 q.2.2.1 q.2.2.2 (dd x)) (hfo : g'.2.1 = g.2.1) (hF : Fr x x') : GR ps g' (dd x') := ⟨mx, np, hs, hb, tn, pa, f, e, n, h, r, hal, q, by rw [hfo]; exact hq, by rw [hfo]; exact hFR.mv rfl hF.2.2⟩
theorem c_al {v : Int32} : f_X7_checkAllowed 1 = some () ∧ t_X7_checkAllowed 1 = none ∧ t_X7_checkAllowed 0 = some IS ∧ f_X7_checkAllowed v = f_X7_checkAllowed v := ⟨rfl, rfl, rfl, rfl⟩
theorem o_play (hS : Sim s x ps) (c t : Int32) : (∃ r s' x', f_X7_play s c t = some (r, s') ∧ f_X8_play x c t = some (r, x') ∧ x'.1.1 0 = 0 ∧ Sim s' x' ps) ∨ TH [(IO, 1), (IA, 2), (IS, 3)] (t_X7_play s c t) (f_X8_play x c t) s ps := by
  obtain ⟨mx, np, hs, hb, tn, pa, f, e, n, h, r, hal, q, hq, hFR⟩ := hS.1
  have r0 : Rel s.2.1 (dd (x0 x)) np f e n := r
  have hnp := h.np
  have hd1 : dd x 1 = nI np := r.d1.trans hnp.1
  have hd0 : dd x 0 = nI mx := r.d0.trans h.mx.1
  rcases rng t (np + 1) (by omega) with ⟨k, k1, rfl⟩ | hp
  · obtain ⟨c1, c2⟩ := c_tr (s := s) hnp.1 hnp.2.2 (show k ≤ np by omega)
    rcases noT.or mx c with ⟨j, j1, rfl, j3⟩ | hw
    · obtain ⟨d1, d2⟩ := c_ti (s := s) h.mx.1 h.mx.2.2 j1 j3
      have ec := e_canPlay hnp.1 hnp.2.2 h.E j1 (show k ≤ np by omega)
      by_cases hob : gob np s.2.1 j k = 0
      · obtain ⟨sR, xR, e1, e2, e3, e4, e5, e6, e7, e8⟩ := (hS.t0 0).rem
        have rR : Rel s.2.1 (dd xR) np f e n := by
          show Rel s.2.1 (xR.1.2 1) np f e n
          rw [e8]; exact r
        have hFRR : FR s.2.1.2.1 q.2.2.1 q.2.2.2 (dd xR) := by
          show FR _ _ _ (xR.1.2 1)
          rw [e8]; exact hFR
        obtain ⟨g', x', tn', a1, a2, a3, a4, a5, a6, a7⟩ := s_lay h rR j1 (show k ≤ np by omega) hob
        obtain ⟨y, y9, hE⟩ := a3.E k (by omega)
        refine Or.inl ⟨nI y, (sR.1, g', sR.2.2), x', ?_, ?_, ?_, e3.stp (fun _ _ z => z) (GR.fr (g := s.2.1) a3 a4 (fun _ => by omega) hq hFRR a6 a5) a5.1 a5.2.1⟩
        · unfold f_X7_play
          rw [c1, bd1_S, d1, bd1_S, ec, bd1_S, if_pos hob, c_al (v := 0).1, bd1_S, e1, bd1_S, e4, a1, bd1_S, e_endOf (g := g') (by omega), bd1_S, hE]
        · unfold f_X8_play f_X8_play_J29
          rw [x_noTi hd0 h.mx.2.2 hd1 hnp.2 j1 j3 (by omega), bd2_S, if_pos rfl, m_refusal h r0 j1 (by omega), bd1_S, if_pos hob, x_fail0 rfl, bd2_S, if_pos rfl, e2, bd1_S, a2, bd1_S, i_1, x_ofTrain (by omega) (by omega), bd1_S, show dd x' (174 + 58 * k + 1) = nI y from (a4.E k (by omega)).trans hE]
        · rw [a5.1, e7]; rfl
      · refine Or.inr (TH.mk1 hS (.tail _ (.tail _ (.head _))) ?_ (r := 0) ?_)
        · unfold t_X7_play
          rw [c2, th_N, c1, bd1_S, d2, th_N, d1, bd1_S, ec, bd1_S, if_neg hob, c_al (v := 0).2.2.1, th_S]
        · unfold f_X8_play f_X8_play_J29
          rw [x_noTi hd0 h.mx.2.2 hd1 hnp.2 j1 j3 (by omega), bd2_S, if_pos rfl, m_refusal h r0 j1 (by omega), bd1_S, if_neg hob, x_fail1 rfl (by decide), bd2_S, if_neg (show ¬ (1 : Int32) = 0 by decide)]
    · refine Or.inr (TH.mk1 hS (.tail _ (.head _)) ?_ (r := 0) ?_)
      · unfold t_X7_play
        rw [c2, th_N, c1, bd1_S, c_tiT h.mx.1 h.mx.2.2 hw, th_S]
      · unfold f_X8_play
        rw [x_noTiT2 hd0 h.mx.2.2 hd1 hnp.2 (by omega) hw, bd2_S, if_neg (show ¬ (1 : Int32) = 0 by decide)]
  · refine Or.inr (TH.mk1 hS (.head _) ?_ (r := 0) ?_)
    · unfold t_X7_play
      rw [c_trT hnp.1 hnp.2.2 hp, th_S]
    · unfold f_X8_play
      rw [x_noTiT1 hd1 hnp.2 hp, bd2_S, if_neg (show ¬ (1 : Int32) = 0 by decide)]
theorem o_draw (hS : Sim s x ps) : (∃ r s' x', f_X7_draw s = some (r, s') ∧ f_X8_draw x = some (r, x') ∧ x'.1.1 0 = 0 ∧ Sim s' x' ps) ∨ TH [(IS, 1)] (t_X7_draw s) (f_X8_draw x) s ps := by
  obtain ⟨mx, np, hs, hb, tn, pa, f, e, n, h, r, hal, q, hq, hFR⟩ := hS.1
  have r0 : Rel s.2.1 (dd (x0 x)) np f e n := r
  have hnp := h.np
  have ec := c_mayDraw h
  have em : f_X8_mayDraw (x0 x) = some (if mdr np s.2.1 f e then 1 else 0) := m_mayDraw h r0
  by_cases hm : mdr np s.2.1 f e
  · rw [if_pos hm] at ec em
    obtain ⟨sR, xR, e1, e2, e3, e4, e5, e6, e7, e8⟩ := (hS.t0 0).rem
    have rR : Rel s.2.1 (dd xR) np f e n := by
      show Rel s.2.1 (xR.1.2 1) np f e n
      rw [e8]; exact r
    have hFRR : FR s.2.1.2.1 q.2.2.1 q.2.2.2 (dd xR) := by
      show FR _ _ _ (xR.1.2 1)
      rw [e8]; exact hFR
    obtain ⟨c, g', x', a0, a1, a2, a3, a4, a5, a6, a7, a8⟩ := s_draw h rR hm.2.2.1
    refine Or.inl ⟨nI c, (sR.1, g', sR.2.2), x', ?_, ?_, ?_, e3.stp (fun _ _ z => z) (GR.fr (g := s.2.1) a3 a4 (fun _ => by omega) hq hFRR a6 a5) a5.1 a5.2.1⟩
    · unfold f_X7_draw
      rw [ec, bd1_S, c_al (v := 0).1, bd1_S, e1, bd1_S, e4, a1, bd2_S]
    · unfold f_X8_draw f_X8_draw_J18
      rw [em, bd1_S, if_neg (show ¬ (1 : Int32) = 0 by decide), x_fail0 rfl, bd2_S, if_pos rfl, e2, bd1_S, a2, bd2_S]
    · rw [a5.1, e7]; rfl
  · rw [if_neg hm] at ec em
    refine Or.inr (TH.mk1 hS (.head _) ?_ (r := 0) ?_)
    · unfold t_X7_draw
      rw [ec, bd1_S, c_al (v := 0).2.2.1, th_S]
    · unfold f_X8_draw f_X8_draw_J18
      rw [em, bd1_S, if_pos rfl, x_fail1 rfl (by decide), bd2_S, if_neg (show ¬ (1 : Int32) = 0 by decide)]
theorem o_pass (hS : Sim s x ps) : (∃ r s' x', f_X7_pass s = some (r, s') ∧ f_X8_pass x = some (r, x') ∧ x'.1.1 0 = 0 ∧ Sim s' x' ps) ∨ TH [(IS, 1)] (t_X7_pass s) (f_X8_pass x) s ps := by
  obtain ⟨mx, np, hs, hb, tn, pa, f, e, n, h, r, hal, q, hq, hFR⟩ := hS.1
  have r0 : Rel s.2.1 (dd (x0 x)) np f e n := r
  have hnp := h.np
  have ec := c_mayPass h
  have em : f_X8_mayPass (x0 x) = some (if mpa np s.2.1 f e then 1 else 0) := m_mayPass h r0
  by_cases hm : mpa np s.2.1 f e
  · rw [if_pos hm] at ec em
    obtain ⟨sR, xR, e1, e2, e3, e4, e5, e6, e7, e8⟩ := (hS.t0 0).rem
    have rR : Rel s.2.1 (dd xR) np f e n := by
      show Rel s.2.1 (xR.1.2 1) np f e n
      rw [e8]; exact r
    have hFRR : FR s.2.1.2.1 q.2.2.1 q.2.2.2 (dd xR) := by
      show FR _ _ _ (xR.1.2 1)
      rw [e8]; exact hFR
    obtain ⟨g', x', tn', a1, a2, a3, a4, a5, a6, a7, a8⟩ := s_pass h rR (hal hm.1) hm.1
    refine Or.inl ⟨g'.1.1 5, (sR.1, g', sR.2.2), x', ?_, ?_, ?_, e3.stp (fun _ _ z => z) (GR.fr (g := s.2.1) a3 a4 a7 hq hFRR a6 a5) a5.1 a5.2.1⟩
    · unfold f_X7_pass
      rw [ec, bd1_S, c_al (v := 0).1, bd1_S, e1, bd1_S, e4, a1, bd1_S]
    · unfold f_X8_pass f_X8_pass_J18
      rw [em, bd1_S, if_neg (show ¬ (1 : Int32) = 0 by decide), x_fail0 rfl, bd2_S, if_pos rfl, e2, bd1_S, a2, bd1_S, gl_4, cl_4, show x'.1.2 1 4 = g'.1.1 5 from a4.d4]
    · rw [a5.1, e7]; rfl
  · rw [if_neg hm] at ec em
    refine Or.inr (TH.mk1 hS (.head _) ?_ (r := 0) ?_)
    · unfold t_X7_pass
      rw [ec, bd1_S, c_al (v := 0).2.2.1, th_S]
    · unfold f_X8_pass f_X8_pass_J18
      rw [em, bd1_S, if_pos rfl, x_fail1 rfl (by decide), bd2_S, if_neg (show ¬ (1 : Int32) = 0 by decide)]
theorem o_auto (hS : Sim s x ps) (w : Int32) : (∃ r s' ps' x', f_X7_auto s ps w = some (r, s', ps') ∧ f_X8_auto x w = some (r, x') ∧ x'.1.1 0 = 0 ∧ Sim s' x' ps' ∧ ∃ fo f, ps' = pput ps fo f) ∨ TH [(IA, 1)] (t_X7_auto s ps w) (f_X8_auto x w) s ps := by
  obtain ⟨mx, np, hs, hb, tn, pa, f, e, n, h, r, hal, q, hq, hFR⟩ := hS.1
  have hnp := h.np
  have bad : (w < 1 ∨ nI 201 ≤ w) → (∃ r s' ps' x', f_X7_auto s ps w = some (r, s', ps') ∧ f_X8_auto x w = some (r, x') ∧ x'.1.1 0 = 0 ∧ Sim s' x' ps' ∧ ∃ fo f, ps' = pput ps fo f) ∨ TH [(IA, 1)] (t_X7_auto s ps w) (f_X8_auto x w) s ps := fun hw => by
    have h1 : w < 1 ∨ (¬ w < 1 ∧ (200 : Int32) < w) := by
      by_cases z : w < 1
      · exact Or.inl z
      · refine Or.inr ⟨z, ?_⟩
        have := hw.resolve_left z
        rw [Int32.le_iff_toInt_le, nI_toInt (by omega)] at this
        rw [Int32.lt_iff_toInt_lt, show (200 : Int32).toInt = 200 by decide]
        omega
    refine Or.inr (TH.mk1 hS (.head _) ?_ (r := 0) ?_)
    · unfold t_X7_auto
      rcases h1 with z | ⟨z, y⟩
      · rw [if_pos z]; rfl
      · rw [if_neg z, if_neg (Int32.not_le.mpr y)]; rfl
    · have e1 : f_X8_in w 1 200 = some 0 := by
        unfold f_X8_in
        rcases h1 with z | ⟨z, y⟩
        · rw [if_pos z]
        · rw [if_neg z, if_pos y]
      unfold f_X8_auto f_X8_auto_J22
      rw [e1, bd1_S, if_pos rfl, x_fail1 rfl (by decide), bd2_S, if_neg (show ¬ (1 : Int32) = 0 by decide)]
  rcases rng w 201 (by omega) with ⟨k, k1, rfl⟩ | hw
  · by_cases k0 : k = 0
    · subst k0
      exact bad (Or.inl (by decide))
    · obtain ⟨sR, xR, e1, e2, e3, e4, e5, e6, e7, e8⟩ := (hS.t0 0).rem
      have rR : Rel s.2.1 (dd xR) np f e n := by
        show Rel s.2.1 (xR.1.2 1) np f e n
        rw [e8]; exact r
      have hFRR : FR s.2.1.2.1 q.2.2.1 q.2.2.2 (dd xR) := by
        show FR _ _ _ (xR.1.2 1)
        rw [e8]; exact hFR
      obtain ⟨j, g', F', x', tn', pa', f', n', a1, a2, a3, a4, a5, a6, a7, a8, a9⟩ := s_playOn h rR hFRR hal (P := k) (Q := k) (by omega) (by omega) (Or.inl rfl)
      have gr : GR ps g' (dd x') := GR.fr (g := s.2.1) a3 a4 a8 hq hFRR a5 a7
      refine Or.inl ⟨nI j, (sR.1, g', sR.2.2), pput ps s.2.1.2.1 F', x', ?_, ?_, ?_, e3.stp (fun _ _ z => z.put hq a6) (gr.put hq a6) a7.1 a7.2.1, s.2.1.2.1, F', rfl⟩
      · unfold f_X7_auto
        rw [ie_lt1 (by omega), if_neg k0, i_200, ie_le (by omega) (by omega), if_pos (by omega), e1, bd1_S, e4, hq, bd1_S, a1, bd3_S, nmd_S]
      · unfold f_X8_auto f_X8_auto_J22
        rw [show f_X8_in (nI k) 1 200 = some 1 from (x_in (b := 1) (c := 200) (by omega) (by omega) (by omega)).trans (by rw [if_pos ⟨by omega, by omega⟩]), bd1_S, if_neg (show ¬ (1 : Int32) = 0 by decide), x_fail0 rfl, bd2_S, if_pos rfl, e2, bd1_S, a2, bd2_S]
      · rw [a7.1, e7]; rfl
  · refine bad ?_
    rcases hw with hw | hw
    · exact Or.inl (Int32.lt_trans hw (by decide))
    · exact Or.inr hw
theorem o_undo (hS : Sim s x ps) : ∃ r s' x', f_X7_undo s = some (r, s') ∧ f_X8_undo x = some (r, x') ∧ x'.1.1 0 = 0 ∧ Sim s' x' ps := by
  obtain ⟨g, ⟨u, u1, u2, u3, u4⟩, ⟨⟨st, a1, a2, a3⟩, b1, b2, b3, b4⟩, rw⟩ := hS
  obtain ⟨r, s', x', u', c1, c2, c3, c4, c5, c6, c7, c8, c9, c10, c11, c12⟩ := s_undo u1 u2 u3 u4 g
  have e8 : s'.2.2.2.2 = s.2.2.2.2 := by rw [c8]
  refine ⟨r, s', x', c1, c2, c9, c7, ⟨u', c3, c4, c5, c6⟩, ?_, ?_⟩
  · rw [show s'.2.2.2.2.1 = s.2.2.2.2.1 by rw [e8]]
    exact ⟨⟨st, a1, a2, (c10 1 (by omega) (by omega)).trans a3⟩, by rw [c11 0 (by omega)]; exact b1, by rw [c11 0 (by omega)]; exact b2, b3.trans (c10 6 (by omega) (by omega)).symm, b4⟩
  · rw [show s'.2.2.2.2.2 = s.2.2.2.2.2 by rw [e8]]; exact rw
theorem x_clear {x : MS} {hb sd : Nat} : ∃ w, itr2 (f_X8_deal__B74 (nI hb) (nI sd)) FUEL 0 x = (bd1 (f_X8_deal 1464 (upd (upd w 3 (nI hb)) 11 (nI sd))) fun (h0115 : Nat → Int32) => gd (inb 7 1464) <| some ((h0115 7), ((sa x.1 1 h0115), x.2))) ∧ ∀ k, w k = if 19 ≤ k ∧ k < 119 then -1 else dd x k := by
  have key := lr2 (B := f_X8_deal__B74 (nI hb) (nI sd)) (fun (o : Option (Int32 × MS)) => ∃ w, o = (bd1 (f_X8_deal 1464 (upd (upd w 3 (nI hb)) 11 (nI sd))) fun (h0115 : Nat → Int32) => gd (inb 7 1464) <| some ((h0115 7), ((sa x.1 1 h0115), x.2))) ∧ ∀ k, w k = if 19 ≤ k ∧ k < 119 then -1 else dd x k) (fun (m : Nat) (v : Int32) (y : MS) => ∃ i, v = nI i ∧ i + m = 100 ∧ y.1.1 = x.1.1 ∧ (∀ i, ¬ i = 1 → y.1.2 i = x.1.2 i) ∧ y.2 = x.2 ∧ ∀ k, dd y k = if 19 ≤ k ∧ k < 19 + i then -1 else dd x k) ?_ FUEL 100 0 x (FUEL_lt (by omega)) ⟨0, rfl, by omega, rfl, fun _ _ => rfl, rfl, fun k => by rw [if_neg (by omega)]⟩
  · exact key
  · rintro rec m v y ⟨i, rfl, hm, y1, y2, y3, yd⟩ ih
    unfold f_X8_deal__B74
    rw [i_100, ie_le (by omega) (by omega)]
    by_cases hi : 100 ≤ i
    · rw [if_pos hi, gl_3, cl_3, nmd_S, gl_11, cl_11, nmd_S, cl_7]
      refine ⟨dd y, ?_, fun k => ?_⟩
      · have e : ∀ h : Nat → Int32, (((sa y.1 1 h), y.2) : MS) = ((sa x.1 1 h), x.2) := fun h => by
          have e2 : upA y.1.2 1 h = upA x.1.2 1 h := by
            funext j
            by_cases z : j = 1
            · rw [z, upA_s, upA_s]
            · rw [upA_n z, upA_n z, y2 j z]
          show ((y.1.1, upA y.1.2 1 h), y.2) = ((x.1.1, upA x.1.2 1 h), x.2)
          rw [y1, e2, y3]
        simp only [e]
      · rw [yd k]
        by_cases z : 19 ≤ k ∧ k < 119
        · rw [if_pos z, if_pos (show 19 ≤ k ∧ k < 19 + i by omega)]
        · rw [if_neg z, if_neg (show ¬ (19 ≤ k ∧ k < 19 + i) by omega)]
    · rw [if_neg hi, i_19, nI_add, inb_t (by omega) (by omega), gd_T, nI_clamp (by omega), nmd_S, nI_1]
      refine ih (m - 1) _ _ (by omega) ⟨i + 1, rfl, by omega, y1, fun j hj => (upA_n hj).trans (y2 j hj), y3, fun k => ?_⟩
      show upd (y.1.2 1) (19 + i) (-1) k = _
      by_cases hk : k = 19 + i
      · rw [hk, upd_s, if_pos (by omega)]
      · rw [upd_n hk, show y.1.2 1 k = _ from yd k]
        by_cases z : 19 ≤ k ∧ k < 19 + i
        · rw [if_pos z, if_pos (by omega)]
        · rw [if_neg z, if_neg (show ¬ (19 ≤ k ∧ k < 19 + (i + 1)) by omega)]
theorem o_deal (hS : Sim s x ps) (v w : Int32) : (∃ r s' x', f_X7_deal s v w = some (r, s') ∧ f_X8_deal_ x v w = some (r, x') ∧ x'.1.1 0 = 0 ∧ Sim s' x' ps) ∨ TH [(IA, 1), (IS, 2)] (t_X7_deal s v w) (f_X8_deal_ x v w) s ps := by
  obtain ⟨mx, np, hs, hb, tn, pa, f, e, n, h, r, hal, q, hq, hFR⟩ := hS.1
  have hnp := h.np
  have hmx := h.mx
  have hd0 : dd x 0 = nI mx := r.d0.trans hmx.1
  have hd8 : dd x 8 = s.2.1.1.1 8 := r.d8
  -- out of range
  have bad : (t_X7_deal s v w = some IA) → (f_X8_deal_ x v w = f_X8_deal__J36 x v w 1) → (∃ r s' x', f_X7_deal s v w = some (r, s') ∧ f_X8_deal_ x v w = some (r, x') ∧ x'.1.1 0 = 0 ∧ Sim s' x' ps) ∨ TH [(IA, 1), (IS, 2)] (t_X7_deal s v w) (f_X8_deal_ x v w) s ps := fun h1 h2 => by
    refine Or.inr (TH.mk1 hS (.head _) h1 (r := 0) ?_)
    rw [h2]
    unfold f_X8_deal__J36
    rw [x_fail1 rfl (by decide), bd2_S, if_neg (show ¬ (1 : Int32) = 0 by decide)]
  rcases rng v (mx + 1) (by omega) with ⟨b, b1, rfl⟩ | hv
  · have i1 : f_X8_in (nI b) 0 (nI mx) = some 1 := (x_in (b := 0) (by omega) (by omega) (by omega)).trans (by rw [if_pos ⟨Nat.zero_le _, by omega⟩])
    rcases rng w 10000 (by omega) with ⟨sd, sd1, rfl⟩ | hw
    · have i2 : f_X8_in (nI sd) 0 9999 = some 1 := (x_in (b := 0) (c := 9999) (by omega) (by omega) (by omega)).trans (by rw [if_pos ⟨Nat.zero_le _, by omega⟩])
      have eM : f_X8_deal_ x (nI b) (nI sd) = f_X8_deal__J36 x (nI b) (nI sd) 0 := by
        unfold f_X8_deal_
        rw [gl_0, cl_0, show x.1.2 1 0 = nI mx from hd0, i1, bd1_S, if_neg (show ¬ (1 : Int32) = 0 by decide), i2, bd1_S, if_neg (show ¬ (1 : Int32) = 0 by decide)]
      by_cases hov : s.2.1.1.1 8 = 0
      · refine Or.inr (TH.mk1 hS (.tail _ (.head _)) ?_ (r := 0) ?_)
        · unfold t_X7_deal
          rw [if_neg (nI_lt0 (by omega)), hmx.1, ie_lt (by omega) (by omega), if_neg (by omega), if_neg (nI_lt0 (by omega)), i_9999, ie_le (by omega) (by omega), if_pos (by omega), hov, c_al (v := 0).2.2.1, th_S]
        · rw [eM]
          unfold f_X8_deal__J36 f_X8_deal__J59
          rw [x_fail0 rfl, bd2_S, if_pos rfl, gl_8, cl_8, show x.1.2 1 8 = s.2.1.1.1 8 from hd8, if_pos hov, x_fail1 rfl (by decide), bd2_S, if_neg (show ¬ (1 : Int32) = 0 by decide)]
      · have hov1 : s.2.1.1.1 8 = 1 := h.ov.resolve_left hov
        obtain ⟨sR, xR, e1, e2, e3, e4, e5, e6, e7, e8⟩ := (hS.t0 0).rem
        have rR : Rel s.2.1 (dd xR) np f e n := by
          show Rel s.2.1 (xR.1.2 1) np f e n
          rw [e8]; exact r
        obtain ⟨H, k1, k2⟩ := e_clearHands ((ss (ss s.2.1.1 3 (nI b)) 4 (nI sd)), s.2.1.2.1, s.2.1.2.2.1, s.2.1.2.2.2)
        obtain ⟨wr, m1, m2⟩ := x_clear (x := xR) (hb := b) (sd := sd)
        have m3 : ∀ k, ¬ k = 3 → ¬ k = 11 → k < 19 ∨ 119 ≤ k → upd (upd wr 3 (nI b)) 11 (nI sd) k = dd xR k := fun k a1 a2 a3 => by
          rw [upd_n a2, upd_n a1, m2 k, if_neg (by omega)]
        have pd : PD ((sa ((ss (ss s.2.1.1 3 (nI b)) 4 (nI sd)), s.2.1.2.1, s.2.1.2.2.1, s.2.1.2.2.2).1 0 H), s.2.1.2.1, s.2.1.2.2.1, s.2.1.2.2.2) (upd (upd wr 3 (nI b)) 11 (nI sd)) mx np hs b := by
          refine ⟨hmx, hnp, h.hs, ⟨rfl, by omega⟩, (m3 0 (by omega) (by omega) (by omega)).trans (rR.d0.trans hmx.1), (m3 1 (by omega) (by omega) (by omega)).trans (rR.d1.trans hnp.1), (m3 2 (by omega) (by omega) (by omega)).trans (rR.d2.trans h.hs.1), (upd_n (by omega)).trans upd_s, upd_s, (m3 9 (by omega) (by omega) (by omega)).trans rR.d9, fun p hp => (m3 _ (by omega) (by omega) (by omega)).trans (rR.tot p hp), fun c hc => Or.inl (k2 c hc), fun c hc => ?_⟩
          rw [upd_n (by omega), upd_n (by omega), m2, if_pos (by omega)]
          exact (k2 c hc).symm
        obtain ⟨g', d', f', e', D1, D2, D3, D4, D5, D6, D7⟩ := s_dealRound pd
        have hFR' : FR s.2.1.2.1 q.2.2.1 q.2.2.2 d' := by
          have h0 : FR s.2.1.2.1 q.2.2.1 q.2.2.2 (dd xR) := by
            show FR _ _ _ (xR.1.2 1)
            rw [e8]; exact hFR
          exact h0.mv rfl (fun k hk => (D6 k hk).trans (m3 k (by omega) (by omega) (by omega)))
        have gr : GR ps g' d' := ⟨mx, np, hs, b, 0, 0, f', e', 0, D3, D4, fun _ => by omega, q, by rw [D5]; exact hq, by rw [D5]; exact hFR'⟩
        refine Or.inl ⟨nI (e' - f'), (sR.1, g', sR.2.2), ((sa xR.1 1 d'), xR.2), ?_, ?_, e7, e3.stp (fun _ _ z => z) gr rfl (fun i hi => upA_n hi)⟩
        · unfold f_X7_deal
          rw [if_neg (nI_lt0 (by omega)), hmx.1, ie_lt (by omega) (by omega), if_neg (by omega), if_neg (nI_lt0 (by omega)), i_9999, ie_le (by omega) (by omega), if_pos (by omega), hov1, c_al (v := 0).1, bd1_S, e1, bd1_S, e4, k1, bd1_S]
          rw [D1, bd1_S, c_size D3, bd1_S]
        · rw [eM]
          unfold f_X8_deal__J36 f_X8_deal__J59
          rw [x_fail0 rfl, bd2_S, if_pos rfl, gl_8, cl_8, show x.1.2 1 8 = s.2.1.1.1 8 from hd8, if_neg hov, x_fail0 rfl, bd2_S, if_pos rfl, e2, bd1_S, m1, D2, bd1_S, gl_7, D4.d7]
    · refine bad ?_ ?_
      · unfold t_X7_deal
        rw [if_neg (nI_lt0 (by omega)), hmx.1, ie_lt (by omega) (by omega), if_neg (by omega)]
        by_cases h0 : w < 0
        · rw [if_pos h0]; rfl
        · rw [if_neg h0, if_neg]
          · rfl
          · have := hw.resolve_left h0
            rw [Int32.le_iff_toInt_le, nI_toInt (by omega)] at this
            rw [Int32.le_iff_toInt_le, show (9999 : Int32).toInt = 9999 by decide]
            omega
      · unfold f_X8_deal_
        rw [gl_0, cl_0, show x.1.2 1 0 = nI mx from hd0, i1, bd1_S, if_neg (show ¬ (1 : Int32) = 0 by decide), show f_X8_in w 0 9999 = some 0 from x_inOut (n := 9999) (by omega) hw (by omega), bd1_S, if_pos rfl]
  · refine bad ?_ ?_
    · unfold t_X7_deal
      by_cases h0 : v < 0
      · rw [if_pos h0]; rfl
      · rw [if_neg h0, hmx.1, if_pos]
        · rfl
        · have := hv.resolve_left h0
          rw [Int32.le_iff_toInt_le, nI_toInt (by omega)] at this
          rw [Int32.lt_iff_toInt_lt, nI_toInt (by omega)]
          omega
    · unfold f_X8_deal_
      rw [gl_0, cl_0, show x.1.2 1 0 = nI mx from hd0, x_inOut (by omega) hv (by omega), bd1_S, if_pos rfl]
theorem o_load (hS : Sim s x ps) (w : Int32) :
    (∃ r s' x', f_X7_load s w = some (r, s') ∧ f_X8_load x w = some (r, x') ∧ Sim s' x' ps ∧ x'.1.1 0 = 0) ∨
    (∃ (rd1 : RS) (cnt : Nat) (r : Int32) (x' : MS) (s' : Nat → HS), ¬ w < 0 ∧ w ≤ s.2.2.2.2.1.2.1.1 0 ∧ g_X3_read s.2.2.2.2.1 w = some rd1 ∧ hFn rd1 = nI cnt ∧ cnt < 500 ∧ (∀ fa, v_X7_load s rd1 fa = some (r, s' fa)) ∧ f_X8_load x w = some (r, x') ∧ x'.1.1 0 = 0 ∧ ∀ fa p1 p2, (∀ z ∈ ps, ¬ z.1 = fa) → Sim (s' fa) x' (ps ++ [(fa, p1, p2, cnt, hFs rd1)])) ∨
    TH [(IA, 1)] (t_X7_load s w) (f_X8_load x w) s ps := by
  obtain ⟨⟨st, a1, a2, a3⟩, -⟩ := hS.2.2.1
  rcases rng w (st + 1) (by omega) with ⟨k, k1, rfl⟩ | hw
  · rcases s_load hS ⟨st, a2, a3, a1, show k ≤ st by omega⟩ with z | ⟨rd1, cnt, r, x', s', b1, b2, b3, b4, b5, b6, b7⟩
    · exact Or.inl z
    · exact Or.inr (Or.inl ⟨rd1, cnt, r, x', s', nI_lt0 (by omega), by rw [a2]; exact (nI_leI (by omega) (by omega)).mpr (by omega), b1, b2, b3, b4, b5, b6, b7⟩)
  · refine Or.inr (Or.inr (TH.mk1 hS (.head _) ?_ (r := 0) ?_))
    · unfold t_X7_load
      by_cases h0 : w < 0
      · rw [if_pos h0]; rfl
      · rw [if_neg h0, a2, if_neg]
        · rfl
        · have := hw.resolve_left h0
          rw [Int32.le_iff_toInt_le, nI_toInt (by omega)] at this ⊢
          omega
    · unfold f_X8_load f_X8_load_J23
      rw [a3, x_inOut (by omega) hw (by omega), bd1_S, if_pos rfl, x_fail1 rfl (by decide), bd2_S, if_neg (show ¬ (1 : Int32) = 0 by decide)]
end O
