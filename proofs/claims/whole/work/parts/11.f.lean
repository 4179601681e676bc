/-! factors, terms, sums -/
theorem enc1_ne : ∀ i, i < 5 → ¬ enc (1, i) = 0 := by decide
section P
variable {rd : RS} {x : MS} {b : Nat → Int32} {N p : Nat} {SN : RS → Int32 → Option (Int32 × RS)} {SM : MS → Option MS} {cnt h dp : Nat}
/-- the place moves on over a token of both -/
theorem FS.adv {y : MS} {tk : SA} {t : Nat} (f : FS rd x b N p cnt h dp) (w : W3 x y t) (hC : CT tk b N t) (ht : t ≤ N) (hp : p ≤ t) : FS (rd.1, tk, rd.2.2) y b N t cnt h dp := ⟨w.lx f.1 hC ht, f.2.1.w3 w, f.2.2.1, by rw [w.2.2.1]; exact f.2.2.2.1, by have := f.2.2.2.2.1; omega, (w.2.1 9 (by omega)).trans f.2.2.2.2.2⟩
theorem FS.cf {rd' : RS} {x' : MS} {p' : Nat} (f : FS rd x b N p cnt h dp) (c : CF rd rd') (l : LF x x') (hL : LX rd'.2.1 x' b N p') (hO : OK rd' x') (hp : p ≤ p') : FS rd' x' b N p' cnt h dp := ⟨hL, hO, (c.1 5 (by omega) (by omega) (by omega)).trans f.2.2.1, by rw [c.2.1, l.2.1]; exact f.2.2.2.1, by have := f.2.2.2.2.1; omega, (l.1 9 (by omega) (by omega) (by omega) (by omega)).trans f.2.2.2.2.2⟩
theorem cg_tk {tk : SA} (h2 : tk.2 = rd.2.1.2) (h0 : tk.1 0 = rd.2.1.1 0) : CG rd (rd.1, tk, rd.2.2) := ⟨fun _ _ => rfl, h2, h0, rfl⟩
theorem p_factor (f : FS rd x b N p cnt h dp) (hN : N ≤ 500) (hdp : dp ≤ 4) (hh : h ≤ 2 * dp + 2) (hS : dp < 4 → ∀ rd1 y p1 cnt1 h1, h1 ≤ 2 * dp + 2 → FS rd1 y b N p1 cnt1 h1 (dp + 1) → FP rd1 y b N p1 cnt1 h1 (dp + 1) (SN rd1 (nI (dp + 1))) (SM y)) (hD : ∀ y : MS, ¬ y.1.1 4 = 0 → SM y = some y) : FP rd x b N p cnt h dp (f_X3_readFactor SN rd (nI dp)) (f_X8_factor SM x) := by
  have hp := f.1.2.1
  have hs : sp b N p ≤ N := en_le hp
  have hps : p ≤ sp b N p := en_ge
  have hcp := f.2.2.2.2.1
  obtain ⟨y, a1, a2, a3⟩ := f.1.ah hN
  have fy := f.w3 a2
  have y4 : y.1.1 4 = 0 := fy.2.1.2.2.1
  have y9 : y.1.1 9 = nI dp := fy.2.2.2.2.2
  obtain ⟨tk', t1, t2, t3, t4⟩ := LX_ed f.1 hN
  obtain ⟨g1, g2⟩ := f.1.sign hN sg_40.1 sg_40.2.1 sg_40.2.2
  unfold f_X3_readFactor f_X8_factor
  rw [x_good f.2.1.2.2.1, bd1_S, if_neg (show ¬ (1 : Int32) = 0 by decide), a1, bd2_S, g1, bd1_S]
  by_cases h40 : bt b N (sp b N p) = 40
  · obtain ⟨hed, hsN⟩ := g2 h40
    rw [hed] at t2
    rw [if_pos h40, if_pos h40, if_neg (show ¬ (1 : Int32) = 0 by decide), y9, i_4, ie_lt (by omega) (by omega), ie_eq (by omega) (by omega)]
    by_cases hd4 : dp < 4
    · rw [if_pos hd4, if_neg (by omega), t1, bd1_S, nI_1]
      unfold f_X8_factor_J37
      rw [a2.1, y9, nI_1, nI_1]
      have w1 : W3 x ((ss y.1 3 (nI (sp b N p + 1))), y.2) (sp b N p + 1) := a2.mv
      have f1 := f.adv w1 t2 (by omega) (by omega)
      obtain ⟨r, rd', x', c1, c2, c3, c4, c5⟩ := hS hd4 (rd.1, tk', rd.2.2) ((ss (ss y.1 3 (nI (sp b N p + 1))) 9 (nI (dp + 1))), y.2) (sp b N p + 1) cnt h hh ⟨by
        obtain ⟨d1, d2, q, d3, d4⟩ := f1.1
        exact ⟨d1, d2, q, d3, d4⟩, f1.2.1, f1.2.2.1, f1.2.2.2.1, f1.2.2.2.2.1, rfl⟩
      have lg1 : LG x ((ss (ss y.1 3 (nI (sp b N p + 1))) 9 (nI (dp + 1))), y.2) := ⟨fun k b1 b2 b3 b4 b5 => (upd_n b5).trans (w1.2.1 k b1), fun i hi => by
        show y.1.2 i = _
        rw [a2.2.2.1], a2.2.2.2, fun k _ _ => by
        show y.1.2 2 k = _
        rw [a2.2.2.1]⟩
      rw [c1, c2, bd2_S, bd1_S]
      rcases c5 with ⟨rfl, p2, cnt2, f2, hp2, hc2⟩ | ⟨rfl, er⟩
      · obtain ⟨r3, rd3, x3, e1, e2, e3, e4, e5⟩ := p_sign (c := 41) f2.1 f2.2.1 hN sg_41.1 sg_41.2.1 sg_41.2.2
        rw [if_neg (show ¬ (1 : Int32) = 0 by decide), e1, bd2_S, e2, bd1_S]
        have lg3 : LG x' ((ss x3.1 9 (x3.1.1 9 - 1)), x3.2) := e4.lg.tr ⟨fun k _ _ _ _ b5 => upd_n b5, fun _ _ => rfl, rfl, fun _ _ _ => rfl⟩
        rcases e5 with ⟨rfl, p3, e6, e7, e8⟩ | ⟨rfl, er⟩
        · rw [if_neg (show ¬ (1 : Int32) = 0 by decide)]
          have f3 := f2.cf e3 e4 e6 e7 (by omega)
          refine ⟨1, rd3, _, rfl, rfl, ((cg_tk t3 t4).tr c3).tr e3.cg, (lg1.tr c4).tr lg3, Or.inl ⟨rfl, p3, cnt2, ⟨?_, f3.2.1, f3.2.2.1, f3.2.2.2.1, f3.2.2.2.2.1, ?_⟩, by omega, by omega⟩⟩
          · obtain ⟨d1, d2, q, d3, d4⟩ := f3.1
            exact ⟨d1, d2, q, d3, d4⟩
          · show x3.1.1 9 - 1 = nI dp
            rw [f3.2.2.2.2.2]
            exact nI_sub (b := 1) (by omega)
        · rw [if_pos rfl]
          refine ⟨0, rd3, _, rfl, rfl, ((cg_tk t3 t4).tr c3).tr e3.cg, (lg1.tr c4).tr lg3, Or.inr ⟨rfl, ?_⟩⟩
          obtain ⟨d1, d2, d3⟩ := er
          exact ⟨d1, d2, d3⟩
      · rw [if_pos rfl, x_expectB er.bad, bd1_S]
        refine ⟨0, rd', _, rfl, rfl, (cg_tk t3 t4).tr c3, (lg1.tr c4).tr ⟨fun k _ _ _ _ b5 => upd_n b5, fun _ _ => rfl, rfl, fun _ _ _ => rfl⟩, Or.inr ⟨rfl, ?_⟩⟩
        obtain ⟨d1, d2, d3⟩ := er
        exact ⟨d1, d2, d3⟩
    · rw [if_neg hd4, if_pos (by omega), fail_e, bd2_S, show isb 0 = true from rfl, gd_T, x_report y4, bd1_S]
      unfold f_X8_factor_J37
      have bad : ∀ z : MS, z.1.1 4 = -6 → ¬ z.1.1 4 = 0 := fun z hz => by rw [hz]; decide
      rw [hD _ (bad _ rfl), bd1_S, x_expectB (bad _ rfl), bd1_S]
      refine ⟨0, _, _, rfl, rfl, fail_f.cg, a2.lf.lg.tr ⟨fun k b1 b2 b3 b4 b5 => ?_, fun _ _ => rfl, rfl, fun _ _ _ => rfl⟩, Or.inr ⟨rfl, -6, nI (sp b N p), by decide, rfl, f.1.1.2.2.1, rfl, a2.1⟩⟩
      show upd (upd (upd (upd (upd y.1.1 4 _) 5 _) 3 _) 9 _) 9 _ k = _
      rw [upd_n b5, upd_n b5, upd_n b1, upd_n b3, upd_n b2]
  · rw [if_neg h40, if_neg h40, if_pos rfl, e_isNumber f.1.1, bd1_S, x_isDigit, bd1_S]
    simp only [bt_dg hs]
    by_cases hd : sp b N p < en isDg b N (sp b N p)
    · rw [if_pos hd, if_neg (show ¬ (1 : Int32) = 0 by decide), if_neg (show ¬ (1 : Int32) = 0 by decide)]
      obtain ⟨r, r2, rd', x', c1, c2, c3, c4, c5⟩ := p_num (lo := 0) (hi := 9999) a3 fy.2.1 hN (by omega) (by omega)
      have c1' : f_X3_takeNumber rd 0 9999 = some (r, rd') := c1
      have c2' : f_X8_number y 0 9999 = some (r2, x') := c2
      unfold f_X8_factor_J155 f_X8_factor_J172 f_X8_factor_J183
      rw [c1', bd2_S, if_neg (show ¬ (0 : Int32) ≤ -1 by decide), c2', bd2_S, if_neg (show ¬ (0 : Int32) ≤ -1 by decide)]
      rcases c5 with ⟨v, p2, rfl, rfl, v1, v2, v3, v4, v5, v6, v7⟩ | ⟨rfl, er⟩
      · have f2 := fy.cf c3 c4 v5 v6 (by omega)
        obtain ⟨rd3, x3, e1, e2, e3, e4, e5⟩ := p_push (s := (0, v)) f2.1 f2.2.1 f2.2.2.1 f2.2.2.2.1 f2.2.2.2.2.2 (by omega) hN (by omega) (show (0 : Nat) < 2 by omega) (fun _ => v2) (fun z => absurd (show (0 : Nat) = 1 from z) (by omega))
        have e1' : f_X3_addStep rd' (rd'.1.1 0) = some rd3 := by rw [v3]; exact e1
        have e2' : (bd1 (f_X8_emit x' 0) fun (x183 : MS) => bd1 (f_X8_emit x183 (nI v)) fun (x188 : MS) => some (x188)) = some x3 := e2
        rw [if_neg (show ¬ (1 : Int32) = 0 by decide), e1', bd1_S, e2']
        exact ⟨1, rd3, x3, rfl, rfl, c3.cg.tr e3, (a2.lf.lg.tr c4.lg).tr e4, Or.inl ⟨rfl, p2, cnt + 1, e5, v7, by omega⟩⟩
      · rw [if_pos rfl, x_emitB er.bad, bd1_S, x_emitB er.bad, bd1_S]
        exact ⟨0, rd', x', rfl, rfl, c3.cg, a2.lf.lg.tr c4.lg, Or.inr ⟨rfl, er⟩⟩
    · rw [if_neg hd, if_pos rfl, if_pos rfl]
      show FP rd x b N p cnt h dp _ (cas y)
      rcases p_var a3 hN y4 with ⟨i, z, hi, k1, k2, k3, k4⟩ | ⟨z, k1, k2, k3⟩
      · have hwl := wl_le (5 + i) (by omega)
        obtain ⟨-, hed⟩ := WM_kd k3 (by omega)
        rw [hed] at t2
        have wz := a2.tr k4
        have f2 := f.adv wz t2 k3.1 (by omega)
        obtain ⟨rd3, x3, e1, e2, e3, e4, e5⟩ := p_push (s := (1, i)) f2.1 f2.2.1 f2.2.2.1 f2.2.2.2.1 f2.2.2.2.2.2 (by omega) hN (by omega) (show (1 : Nat) < 2 by omega) (fun z => absurd (show (1 : Nat) = 0 from z) (by omega)) (fun _ => by show i ≤ 4; omega)
        have e2' : (bd1 (f_X8_emit z 1) fun (x183 : MS) => bd1 (f_X8_emit x183 (nI i)) fun (x188 : MS) => some (x188)) = some x3 := e2
        have h0i : (0 : Int32) ≤ nI i := (nI_leI (a := 0) (by omega) (by omega)).mpr (Nat.zero_le _)
        unfold f_X8_factor_J155 f_X8_factor_J172 f_X8_factor_J183 at k2
        rw [if_pos h0i, if_pos h0i, e2'] at k2
        rw [k1, bd1_S, if_neg (enc1_ne i hi), t1, bd1_S, e1, bd1_S, k2]
        exact ⟨1, rd3, x3, rfl, rfl, (cg_tk t3 t4).tr e3, wz.lf.lg.tr e4, Or.inl ⟨rfl, sp b N p + wl (5 + i), cnt + 1, e5, by omega, by omega⟩⟩
      · have wz := a2.tr k3
        have hMz : MT z b N (sp b N p) := by
          obtain ⟨-, -, q, hM, -⟩ := f.1
          exact ⟨(wz.2.1 2 (by omega)).trans hM.1, by rw [wz.2.2.1]; exact hM.2.1, wz.1, hs⟩
        obtain ⟨r2, x', m1, m2, m3, m4⟩ := x_number (lo := 0) (hi := 9999) hMz hN ((wz.2.1 4 (by omega)).trans f.2.1.2.2.1) (by omega) (by omega)
        have hsp : sp b N (sp b N p) = sp b N p := en_idem hp
        rw [hsp] at m3 m4
        have m1' : f_X8_number z 0 9999 = some (r2, x') := m1
        unfold f_X8_factor_J155 f_X8_factor_J172 f_X8_factor_J183 at k2
        rw [if_neg (show ¬ (0 : Int32) ≤ -1 by decide), m1', bd2_S, if_neg (show ¬ (0 : Int32) ≤ -1 by decide)] at k2
        rcases m4 with m | m | m
        · exact absurd m.1 hd
        · exact absurd m.1 hd
        · have bad : ¬ x'.1.1 4 = 0 := by rw [m.2.2.1]; decide
          rw [x_emitB bad, bd1_S, x_emitB bad, bd1_S] at k2
          rw [k1, bd1_S, if_pos rfl, fail_e, bd2_S, show isb 0 = true from rfl, gd_T, k2]
          exact ⟨0, _, x', rfl, rfl, fail_f.cg, wz.lf.lg.tr m2.lg, Or.inr ⟨rfl, -2, nI (sp b N p), by decide, rfl, f.1.1.2.2.1, m.2.2.1, m.2.2.2⟩⟩
theorem p_term (f : FS rd x b N p cnt h dp) (hN : N ≤ 500) (hdp : dp ≤ 4) (hh : h ≤ 2 * dp + 1) (hS : dp < 4 → ∀ rd1 y p1 cnt1 h1, h1 ≤ 2 * dp + 2 → FS rd1 y b N p1 cnt1 h1 (dp + 1) → FP rd1 y b N p1 cnt1 h1 (dp + 1) (SN rd1 (nI (dp + 1))) (SM y)) (hD : ∀ y : MS, ¬ y.1.1 4 = 0 → SM y = some y) : FP rd x b N p cnt h dp (f_X3_readTerm SN rd (nI dp)) (f_X8_term SM x) := by
  obtain ⟨r, rd1, x1, c1, c2, c3, c4, c5⟩ := p_factor f hN hdp (by omega) hS hD
  unfold f_X3_readTerm f_X8_term
  rw [c1, c2, bd2_S, bd1_S]
  have go : ∀ m (v2 v3 : Int32) (rd' : RS) (x' : MS), m < FUEL → (CG rd rd' ∧ LG x x' ∧ ((v2 = 1 ∧ ∃ more p' cnt', v3 = nI more ∧ FS rd' x' b N p' cnt' (h + 1) dp ∧ p < p' ∧ cnt' + p ≤ cnt + p' ∧ more ≤ p' ∧ p' + m = N) ∨ (v2 = 0 ∧ ER rd' x'))) → FP rd x b N p cnt h dp (itr3 (f_X3_readTerm_B8 (nI dp) SN) FUEL v2 v3 rd') (itr1 (f_X8_term_B4 SM) FUEL x') := fun m v2 v3 rd' x' hm hi => by
    refine lk31 (B := f_X3_readTerm_B8 (nI dp) SN) (B' := f_X8_term_B4 SM) (FP rd x b N p cnt h dp) (fun (m : Nat) (v2 v3 : Int32) (rd' : RS) (x' : MS) => CG rd rd' ∧ LG x x' ∧ ((v2 = 1 ∧ ∃ more p' cnt', v3 = nI more ∧ FS rd' x' b N p' cnt' (h + 1) dp ∧ p < p' ∧ cnt' + p ≤ cnt + p' ∧ more ≤ p' ∧ p' + m = N) ∨ (v2 = 0 ∧ ER rd' x'))) ?_ FUEL m v2 v3 rd' x' hm hi
    clear hm hi m v2 v3 rd' x' c1 c2 c3 c4 c5
    rintro rec rec' m v2 v3 rd' x' ⟨i1, i2, ⟨rfl, more, p', cnt', rfl, f', hp', hc', hmo, hm⟩ | ⟨rfl, er⟩⟩ ih
    · have hs : sp b N p' ≤ N := en_le f'.1.2.1
      have hps : p' ≤ sp b N p' := en_ge
      have hcp := f'.2.2.2.2.1
      obtain ⟨y, a1, a2, a3⟩ := f'.1.ah hN
      have fy := f'.w3 a2
      have y4 : y.1.1 4 = 0 := fy.2.1.2.2.1
      obtain ⟨y2, b1, b2, b3⟩ := a3.ah hN
      have w2 := a2.tr b2
      obtain ⟨y3, d1, d2, d3⟩ := b3.ah hN
      have w3 := w2.tr d2
      obtain ⟨tk', t1, t2, t3, t4⟩ := LX_ed f'.1 hN
      obtain ⟨g1, g2⟩ := f'.1.sign hN sg_42.1 sg_42.2.1 sg_42.2.2
      obtain ⟨k1, k2⟩ := f'.1.sign hN sg_47.1 sg_47.2.1 sg_47.2.2
      have body : ∀ (z : MS) (j : Nat), W3 x' z (sp b N p') → sp b N p' < N → ed b N (sp b N p') = sp b N p' + 1 → 2 ≤ j → j ≤ 5 → FP rd x b N p cnt h dp (f_X3_readTerm_J62 (nI dp) SN rec (nI more) rd' (enc (j, 0))) (bd1 (f_X8_factor SM ((ss z.1 3 (z.1.1 3 + 1)), z.2)) fun (x55 : MS) => f_X8_term_J68 rec' x55 (nI j)) := fun z j wz hsN hed j2 j5 => by
        rw [hed] at t2
        unfold f_X3_readTerm_J62 f_X8_term_J68
        simp only [nI_1]
        rw [t1, bd1_S, wz.1, nI_1]
        have w1 : W3 x' ((ss z.1 3 (nI (sp b N p' + 1))), z.2) (sp b N p' + 1) := wz.mv
        have f1 := f'.adv w1 t2 (by omega) (by omega)
        obtain ⟨r, rd3, x3, e1, e2, e3, e4, e5⟩ := p_factor f1 hN hdp (by omega) hS hD
        rw [e1, e2, bd2_S, bd1_S]
        rcases e5 with ⟨rfl, p2, cnt2, f2, q1, q2⟩ | ⟨rfl, er⟩
        · obtain ⟨rd4, x4, o1, o2, o3, o4, o5⟩ := p_op f2 (by omega) hN j2 j5
          have := o5.1.2.1
          rw [o1, o2, bd1_S, bd1_S]
          exact ih (N - p2) _ _ _ _ (by omega) ⟨i1.tr (((cg_tk t3 t4).tr e3).tr o3), i2.tr ((w1.lf.lg.tr e4).tr o4), Or.inl ⟨rfl, more + 1, p2, cnt2 + 1, rfl, o5, by omega, by omega, by omega, by omega⟩⟩
        · obtain ⟨rd4, o1, o2, o3⟩ := e_addStepA (rd := rd3) (v := enc (j, 0))
          rw [o1, bd1_S, x_emitB er.bad, bd1_S]
          obtain ⟨u1, u2, u3, u4, u5, u6, u7⟩ := er
          exact ih (m - 1) _ _ _ _ (by omega) ⟨i1.tr (((cg_tk t3 t4).tr e3).tr ⟨fun k hk => o2 k (by omega), by rw [o3], by rw [o3], by rw [o3]⟩), i2.tr (w1.lf.lg.tr e4), Or.inr ⟨rfl, u1, u2, u3, (o2 6 (by omega)).trans u4, (o2 7 (by omega)).trans u5, u6, u7⟩⟩
      unfold f_X3_readTerm_B8 f_X8_term_B4
      rw [if_neg (show ¬ (1 : Int32) = 0 by decide), g1, bd1_S, k1, bd1_S, x_good f'.2.1.2.2.1, bd1_S, if_neg (show ¬ (1 : Int32) = 0 by decide), a1, bd2_S]
      by_cases hA : bt b N (sp b N p') = 42
      · obtain ⟨hed, hsN⟩ := g2 hA
        unfold f_X3_readTerm_J36 f_X8_term_J29 f_X8_term_J43
        rw [if_pos hA, if_pos hA, if_neg (show ¬ (1 : Int32) = 0 by decide), i_500, ie_le (by omega) (by omega), if_neg (by omega), g1, bd1_S, if_pos hA, if_neg (show ¬ (1 : Int32) = 0 by decide), b1, bd2_S, if_pos hA]
        exact body y2 4 w2 hsN hed (by omega) (by omega)
      · rw [if_neg hA, if_pos rfl, if_neg hA, b1, bd2_S]
        by_cases hB : bt b N (sp b N p') = 47
        · obtain ⟨hed, hsN⟩ := k2 hB
          unfold f_X3_readTerm_J36 f_X8_term_J29 f_X8_term_J43
          rw [if_pos hB, if_pos hB, if_neg (show ¬ (1 : Int32) = 0 by decide), i_500, ie_le (by omega) (by omega), if_neg (by omega), g1, bd1_S, if_neg hA, if_pos rfl, d1, bd2_S, if_neg hA]
          exact body y3 5 w3 hsN hed (by omega) (by omega)
        · rw [if_neg hB, if_pos rfl, if_neg hB, show isb 1 = true from rfl, gd_T]
          exact ⟨1, rd', y2, rfl, rfl, i1, i2.tr w2.lf.lg, Or.inl ⟨rfl, p', cnt', f'.w3 w2, hp', hc'⟩⟩
    · unfold f_X3_readTerm_B8 f_X8_term_B4
      rw [if_pos rfl, show isb 0 = true from rfl, gd_T, x_bad er.bad, bd1_S, if_pos rfl]
      exact ⟨0, rd', x', rfl, rfl, i1, i2, Or.inr ⟨rfl, er⟩⟩
  rcases c5 with ⟨rfl, p1, cnt1, f1, q1, q2⟩ | ⟨rfl, er⟩
  · have := f1.1.2.1
    exact go (N - p1) 1 0 rd1 x1 (FUEL_lt (by omega)) ⟨c3, c4, Or.inl ⟨rfl, 0, p1, cnt1, rfl, f1, q1, q2, by omega, by omega⟩⟩
  · exact go 0 0 0 rd1 x1 (FUEL_lt (by omega)) ⟨c3, c4, Or.inr ⟨rfl, er⟩⟩
theorem p_sum (f : FS rd x b N p cnt h dp) (hN : N ≤ 500) (hdp : dp ≤ 4) (hh : h ≤ 2 * dp + 0) (hS : dp < 4 → ∀ rd1 y p1 cnt1 h1, h1 ≤ 2 * dp + 2 → FS rd1 y b N p1 cnt1 h1 (dp + 1) → FP rd1 y b N p1 cnt1 h1 (dp + 1) (SN rd1 (nI (dp + 1))) (SM y)) (hD : ∀ y : MS, ¬ y.1.1 4 = 0 → SM y = some y) : FP rd x b N p cnt h dp (f_X3_readSum SN rd (nI dp)) (f_X8_readSum SM x) := by
  obtain ⟨r, rd1, x1, c1, c2, c3, c4, c5⟩ := p_term f hN hdp (by omega) hS hD
  unfold f_X3_readSum f_X8_readSum
  rw [c1, c2, bd2_S, bd1_S]
  have go : ∀ m (v2 v3 : Int32) (rd' : RS) (x' : MS), m < FUEL → (CG rd rd' ∧ LG x x' ∧ ((v2 = 1 ∧ ∃ more p' cnt', v3 = nI more ∧ FS rd' x' b N p' cnt' (h + 1) dp ∧ p < p' ∧ cnt' + p ≤ cnt + p' ∧ more ≤ p' ∧ p' + m = N) ∨ (v2 = 0 ∧ ER rd' x'))) → FP rd x b N p cnt h dp (itr3 (f_X3_readSum_B8 (nI dp) SN) FUEL v2 v3 rd') (itr1 (f_X8_readSum_B4 SM) FUEL x') := fun m v2 v3 rd' x' hm hi => by
    refine lk31 (B := f_X3_readSum_B8 (nI dp) SN) (B' := f_X8_readSum_B4 SM) (FP rd x b N p cnt h dp) (fun (m : Nat) (v2 v3 : Int32) (rd' : RS) (x' : MS) => CG rd rd' ∧ LG x x' ∧ ((v2 = 1 ∧ ∃ more p' cnt', v3 = nI more ∧ FS rd' x' b N p' cnt' (h + 1) dp ∧ p < p' ∧ cnt' + p ≤ cnt + p' ∧ more ≤ p' ∧ p' + m = N) ∨ (v2 = 0 ∧ ER rd' x'))) ?_ FUEL m v2 v3 rd' x' hm hi
    clear hm hi m v2 v3 rd' x' c1 c2 c3 c4 c5
    rintro rec rec' m v2 v3 rd' x' ⟨i1, i2, ⟨rfl, more, p', cnt', rfl, f', hp', hc', hmo, hm⟩ | ⟨rfl, er⟩⟩ ih
    · have hs : sp b N p' ≤ N := en_le f'.1.2.1
      have hps : p' ≤ sp b N p' := en_ge
      have hcp := f'.2.2.2.2.1
      obtain ⟨y, a1, a2, a3⟩ := f'.1.ah hN
      have fy := f'.w3 a2
      have y4 : y.1.1 4 = 0 := fy.2.1.2.2.1
      obtain ⟨y2, b1, b2, b3⟩ := a3.ah hN
      have w2 := a2.tr b2
      obtain ⟨y3, d1, d2, d3⟩ := b3.ah hN
      have w3 := w2.tr d2
      obtain ⟨tk', t1, t2, t3, t4⟩ := LX_ed f'.1 hN
      obtain ⟨g1, g2⟩ := f'.1.sign hN sg_43.1 sg_43.2.1 sg_43.2.2
      obtain ⟨k1, k2⟩ := f'.1.sign hN sg_45.1 sg_45.2.1 sg_45.2.2
      have body : ∀ (z : MS) (j : Nat), W3 x' z (sp b N p') → sp b N p' < N → ed b N (sp b N p') = sp b N p' + 1 → 2 ≤ j → j ≤ 5 → FP rd x b N p cnt h dp (f_X3_readSum_J62 (nI dp) SN rec (nI more) rd' (enc (j, 0))) (bd1 (f_X8_term SM ((ss z.1 3 (z.1.1 3 + 1)), z.2)) fun (x55 : MS) => f_X8_readSum_J68 rec' x55 (nI j)) := fun z j wz hsN hed j2 j5 => by
        rw [hed] at t2
        unfold f_X3_readSum_J62 f_X8_readSum_J68
        simp only [nI_1]
        rw [t1, bd1_S, wz.1, nI_1]
        have w1 : W3 x' ((ss z.1 3 (nI (sp b N p' + 1))), z.2) (sp b N p' + 1) := wz.mv
        have f1 := f'.adv w1 t2 (by omega) (by omega)
        obtain ⟨r, rd3, x3, e1, e2, e3, e4, e5⟩ := p_term f1 hN hdp (by omega) hS hD
        rw [e1, e2, bd2_S, bd1_S]
        rcases e5 with ⟨rfl, p2, cnt2, f2, q1, q2⟩ | ⟨rfl, er⟩
        · obtain ⟨rd4, x4, o1, o2, o3, o4, o5⟩ := p_op f2 (by omega) hN j2 j5
          have := o5.1.2.1
          rw [o1, o2, bd1_S, bd1_S]
          exact ih (N - p2) _ _ _ _ (by omega) ⟨i1.tr (((cg_tk t3 t4).tr e3).tr o3), i2.tr ((w1.lf.lg.tr e4).tr o4), Or.inl ⟨rfl, more + 1, p2, cnt2 + 1, rfl, o5, by omega, by omega, by omega, by omega⟩⟩
        · obtain ⟨rd4, o1, o2, o3⟩ := e_addStepA (rd := rd3) (v := enc (j, 0))
          rw [o1, bd1_S, x_emitB er.bad, bd1_S]
          obtain ⟨u1, u2, u3, u4, u5, u6, u7⟩ := er
          exact ih (m - 1) _ _ _ _ (by omega) ⟨i1.tr (((cg_tk t3 t4).tr e3).tr ⟨fun k hk => o2 k (by omega), by rw [o3], by rw [o3], by rw [o3]⟩), i2.tr (w1.lf.lg.tr e4), Or.inr ⟨rfl, u1, u2, u3, (o2 6 (by omega)).trans u4, (o2 7 (by omega)).trans u5, u6, u7⟩⟩
      unfold f_X3_readSum_B8 f_X8_readSum_B4
      rw [if_neg (show ¬ (1 : Int32) = 0 by decide), g1, bd1_S, k1, bd1_S, x_good f'.2.1.2.2.1, bd1_S, if_neg (show ¬ (1 : Int32) = 0 by decide), a1, bd2_S]
      by_cases hA : bt b N (sp b N p') = 43
      · obtain ⟨hed, hsN⟩ := g2 hA
        unfold f_X3_readSum_J36 f_X8_readSum_J29 f_X8_readSum_J43
        rw [if_pos hA, if_pos hA, if_neg (show ¬ (1 : Int32) = 0 by decide), i_500, ie_le (by omega) (by omega), if_neg (by omega), g1, bd1_S, if_pos hA, if_neg (show ¬ (1 : Int32) = 0 by decide), b1, bd2_S, if_pos hA]
        exact body y2 2 w2 hsN hed (by omega) (by omega)
      · rw [if_neg hA, if_pos rfl, if_neg hA, b1, bd2_S]
        by_cases hB : bt b N (sp b N p') = 45
        · obtain ⟨hed, hsN⟩ := k2 hB
          unfold f_X3_readSum_J36 f_X8_readSum_J29 f_X8_readSum_J43
          rw [if_pos hB, if_pos hB, if_neg (show ¬ (1 : Int32) = 0 by decide), i_500, ie_le (by omega) (by omega), if_neg (by omega), g1, bd1_S, if_neg hA, if_pos rfl, d1, bd2_S, if_neg hA]
          exact body y3 3 w3 hsN hed (by omega) (by omega)
        · rw [if_neg hB, if_pos rfl, if_neg hB, show isb 1 = true from rfl, gd_T]
          exact ⟨1, rd', y2, rfl, rfl, i1, i2.tr w2.lf.lg, Or.inl ⟨rfl, p', cnt', f'.w3 w2, hp', hc'⟩⟩
    · unfold f_X3_readSum_B8 f_X8_readSum_B4
      rw [if_pos rfl, show isb 0 = true from rfl, gd_T, x_bad er.bad, bd1_S, if_pos rfl]
      exact ⟨0, rd', x', rfl, rfl, i1, i2, Or.inr ⟨rfl, er⟩⟩
  rcases c5 with ⟨rfl, p1, cnt1, f1, q1, q2⟩ | ⟨rfl, er⟩
  · have := f1.1.2.1
    exact go (N - p1) 1 0 rd1 x1 (FUEL_lt (by omega)) ⟨c3, c4, Or.inl ⟨rfl, 0, p1, cnt1, rfl, f1, q1, q2, by omega, by omega⟩⟩
  · exact go 0 0 0 rd1 x1 (FUEL_lt (by omega)) ⟨c3, c4, Or.inr ⟨rfl, er⟩⟩
theorem sumM_bad : ∀ n, 1 ≤ n → ∀ y : MS, ¬ y.1.1 4 = 0 → sumM n y = some y
  | 0, h, _, _ => by omega
  | n + 1, _, y, hy => x_readSumB (SM := sumM n) hy
theorem p_sumN {b : Nat → Int32} {N : Nat} (hN : N ≤ 500) : ∀ n dp, dp ≤ 4 → 6 ≤ n + dp → ∀ rd x p cnt h, h ≤ 2 * dp → FS rd x b N p cnt h dp → FP rd x b N p cnt h dp (sumN n rd (nI dp)) (sumM n x)
  | 0, dp, h1, h2, _, _, _, _, _, _, _ => by omega
  | n + 1, dp, h1, h2, rd, x, p, cnt, h, h3, f => p_sum (SN := sumN n) (SM := sumM n) f hN h1 (by omega) (fun h4 rd1 y p1 cnt1 h5 h6 f1 => p_sumN hN n (dp + 1) (by omega) (by omega) rd1 y p1 cnt1 h5 (by omega) f1) (fun y hy => sumM_bad n (by omega) y hy)
end P
