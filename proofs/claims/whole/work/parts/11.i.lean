/-! a text of statements -/
section P
variable {rd : RS} {x : MS} {b : Nat → Int32} {N p mx np hs hb hf sf rf gf cnt h : Nat}
theorem sp_bad {z : MS} (f : PR rd x b N p mx np hs hb hf sf rf gf cnt h) (z4 : z.1.1 4 = -2) (z5 : z.1.1 5 = nI (sp b N p)) (hM : MG x z) : SP rd x b N p mx np hs (f_X3_readStatement_J109 rd) (f_X8_statement_J145 z) := by
  rw [e_109 f]
  exact ⟨0, _, z, rfl, rfl, fail_f.cg.gg, hM, Or.inr ⟨rfl, -2, nI (sp b N p), by decide, rfl, rfl, z4, z5⟩⟩
theorem p_stmt (f : PR rd x b N p mx np hs hb hf sf rf gf cnt h) (hN : N ≤ 500) : SP rd x b N p mx np hs (f_X3_readStatement rd) (f_X8_statement x) := by
  obtain ⟨y, a1, a2, a3⟩ := f.lx.ah hN
  have fy := f.w3 a2
  have y4 := fy.ok.2.2.1
  have hp := f.lx.2.1
  have hsf := f.c2.2
  have hrf := f.c3.2
  have hhf := f.c1.2
  have hgf := f.c4.2
  have t : ∀ {α : Type} {a c : α}, (if (1 : Int32) = 0 then a else c) = c := fun {α a c} => if_neg (by decide)
  have u : ∀ {α : Type} {a c : α}, (if (0 : Int32) = 0 then a else c) = a := fun {α a c} => if_pos rfl
  have w1e := e_isWord f.lx.1 hp hN (w := 1) (by omega)
  have w2e := e_isWord f.lx.1 hp hN (w := 2) (by omega)
  have w3e := e_isWord f.lx.1 hp hN (w := 3) (by omega)
  have w4e := e_isWord f.lx.1 hp hN (w := 4) (by omega)
  -- what the class says where no statement can stand
  have c55 : ¬ WM b N (sp b N p) 3 → (¬ WM b N (sp b N p) 4 ∨ rf = 1) → f_X3_readStatement_J55 rd = f_X3_readStatement_J109 rd := fun n3 n4 => by
    unfold f_X3_readStatement_J55
    rw [w3e, bd1_S, if_neg n3, u, w4e, bd1_S, f.c3.1, ie_eq0 (by omega)]
    rcases n4 with n4 | n4
    · rw [if_neg n4, u]
    · rw [if_neg (show ¬ rf = 0 by omega)]
      split <;> rfl
  have c31 : (¬ WM b N (sp b N p) 2 ∨ sf = 1) → f_X3_readStatement_J31 rd = f_X3_readStatement_J55 rd := fun n2 => by
    unfold f_X3_readStatement_J31
    rw [w2e, bd1_S, f.c2.1, ie_eq0 (by omega)]
    rcases n2 with n2 | n2
    · rw [if_neg n2, u]
    · rw [if_neg (show ¬ sf = 0 by omega)]
      split <;> rfl
  obtain ⟨y1, b1, b2⟩ := a3.word hN y4 (w := 1) (by omega)
  unfold f_X8_statement f_X3_readStatement
  rw [a1, bd2_S, b1, bd2_S, w1e, bd1_S, a2.1, f.c1.1, f.c4.1, ie_eq0 (by omega), ie_eq0 (by omega)]
  by_cases W1 : WM b N (sp b N p) 1
  · rw [if_pos W1] at b2
    have k1 := a2.tr b2
    have n2 := wd_ex (by omega) (by omega) (show ¬ 1 = 2 by omega) W1
    have n3 := wd_ex (by omega) (by omega) (show ¬ 1 = 3 by omega) W1
    have n4 := wd_ex (by omega) (by omega) (show ¬ 1 = 4 by omega) W1
    have h10 : y1.1.1 10 = nI (hf + 2 * sf + 4 * rf) := (k1.2.1 10 (by omega)).trans f.m10
    have h11 : y1.1.1 11 = nI gf := (k1.2.1 11 (by omega)).trans f.m11
    rw [if_pos W1, t, t]
    by_cases zf : hf = 0
    · subst zf
      have e1 : f_X8_once y1 0 (nI (sp b N p)) = some ((ss y1.1 10 (nI (0 + 2 * sf + 4 * rf + 2 ^ 0))), y1.2) := x_onceG (i := 0) h10 (by omega) (by omega) (by omega)
      rw [if_pos rfl, e1, bd1_S, show ((ss y1.1 10 (nI (0 + 2 * sf + 4 * rf + 2 ^ 0))), y1.2).1.1 11 = nI gf from h11, ie_eq0 (by omega)]
      by_cases zg : gf = 0
      · subst zg
        rw [if_pos rfl, if_pos rfl]
        exact p_hub f hN W1 k1
      · rw [if_neg zg, if_neg zg, c31 (Or.inl n2), c55 n3 (Or.inl n4), x_report (show ((ss y1.1 10 (nI (0 + 2 * sf + 4 * rf + 2 ^ 0))), y1.2).1.1 4 = 0 from (k1.2.1 4 (by omega)).trans f.ok.2.2.1), bd1_S, x_39B (by show ¬ (-2 : Int32) = 0; decide)]
        refine sp_bad f rfl rfl (k1.lf.lg.mg.tr ⟨fun k hk => ?_, fun i hi => upA_n hi, rfl⟩)
        show upd (upd (upd y1.1.1 10 _) 4 _) 5 _ k = _
        rw [upd_n (by omega), upd_n (by omega), upd_n (by omega)]
    · obtain ⟨z, e1, e2, e3, e4, e5⟩ := x_onceB (i := 0) (off := nI (sp b N p)) h10 (by omega) (by omega) (by omega) ((k1.2.1 4 (by omega)).trans f.ok.2.2.1)
      have e1' : f_X8_once y1 0 (nI (sp b N p)) = some z := e1
      have bad : ¬ z.1.1 4 = 0 := by rw [e2]; decide
      rw [if_neg zf, c31 (Or.inl n2), c55 n3 (Or.inl n4), e1', bd1_S, x_reportB bad, bd1_S]
      have e6 : (if z.1.1 11 = 0 then f_X8_statement_J39 z else f_X8_statement_J39 z) = f_X8_statement_J145 ((sa z.1 2 (upd (z.1.2 2) 3 0)), z.2) := by
        rw [x_39B bad]; split <;> rfl
      rw [e6]
      exact sp_bad f e2 e3 ((k1.lf.lg.mg.tr e4).tr ⟨fun _ _ => rfl, fun i hi => upA_n hi, rfl⟩)
  · rw [if_neg W1] at b2
    rw [if_neg W1, u, u]
    have k1 := a2.tr b2
    obtain ⟨y2, d1, d2⟩ := (k1.lxs f.lx).word hN ((k1.2.1 4 (by omega)).trans f.ok.2.2.1) (w := 2) (by omega)
    rw [d1, bd2_S]
    by_cases W2 : WM b N (sp b N p) 2
    · rw [if_pos W2] at d2
      have k2 := k1.tr d2
      have n3 := wd_ex (by omega) (by omega) (show ¬ 2 = 3 by omega) W2
      have n4 := wd_ex (by omega) (by omega) (show ¬ 2 = 4 by omega) W2
      have h10 : y2.1.1 10 = nI (hf + 2 * sf + 4 * rf) := (k2.2.1 10 (by omega)).trans f.m10
      rw [if_pos W2, t]
      by_cases zf : sf = 0
      · subst zf
        have e1 : f_X8_once y2 1 (nI (sp b N p)) = some ((ss y2.1 10 (nI (hf + 2 * 0 + 4 * rf + 2 ^ 1))), y2.2) := x_onceG (i := 1) h10 (by omega) (by omega) (by omega)
        unfold f_X3_readStatement_J31
        rw [w2e, bd1_S, if_pos W2, t, f.c2.1, if_pos (show nI 0 = 0 from rfl), e1, bd1_S]
        exact p_seed f hN W2 k2
      · obtain ⟨z, e1, e2, e3, e4, e5⟩ := x_onceB (i := 1) (off := nI (sp b N p)) h10 (by omega) (by omega) (by omega) ((k2.2.1 4 (by omega)).trans f.ok.2.2.1)
        have e1' : f_X8_once y2 1 (nI (sp b N p)) = some z := e1
        have bad : ¬ z.1.1 4 = 0 := by rw [e2]; decide
        rw [c31 (Or.inr (by omega)), c55 n3 (Or.inl n4), e1', bd1_S, x_numberB bad, bd2_S, gl_11, cl_11, nmd_S]
        exact sp_bad f e2 e3 ((k2.lf.lg.mg.tr e4).tr ⟨fun _ _ => rfl, fun i hi => upA_n hi, rfl⟩)
    · rw [if_neg W2] at d2
      have k2 := k1.tr d2
      rw [if_neg W2, u, c31 (Or.inl W2)]
      obtain ⟨y3, g1, g2⟩ := (k2.lxs f.lx).word hN ((k2.2.1 4 (by omega)).trans f.ok.2.2.1) (w := 3) (by omega)
      rw [g1, bd2_S]
      by_cases W3' : WM b N (sp b N p) 3
      · rw [if_pos W3'] at g2
        have k3 := k2.tr g2
        unfold f_X3_readStatement_J55
        rw [w3e, bd1_S, if_pos W3', t, t]
        exact p_give f hN W3' k3
      · rw [if_neg W3'] at g2
        have k3 := k2.tr g2
        rw [if_neg W3', u]
        obtain ⟨y4', m1, m2⟩ := (k3.lxs f.lx).word hN ((k3.2.1 4 (by omega)).trans f.ok.2.2.1) (w := 4) (by omega)
        rw [m1, bd2_S]
        by_cases W4 : WM b N (sp b N p) 4
        · rw [if_pos W4] at m2
          have k4 := k3.tr m2
          have h10 : y4'.1.1 10 = nI (hf + 2 * sf + 4 * rf) := (k4.2.1 10 (by omega)).trans f.m10
          rw [if_pos W4, t]
          by_cases zf : rf = 0
          · subst zf
            have e1 : f_X8_once y4' 2 (nI (sp b N p)) = some ((ss y4'.1 10 (nI (hf + 2 * sf + 4 * 0 + 2 ^ 2))), y4'.2) := x_onceG (i := 2) h10 (by omega) (by omega) (by omega)
            unfold f_X3_readStatement_J55
            rw [w3e, bd1_S, if_neg W3', u, w4e, bd1_S, if_pos W4, t, f.c3.1, if_pos (show nI 0 = 0 from rfl), e1, bd1_S, gl_13, cl_13, nmd_S]
            exact p_rank f hN W4 k4
          · obtain ⟨z, e1, e2, e3, e4, e5⟩ := x_onceB (i := 2) (off := nI (sp b N p)) h10 (by omega) (by omega) (by omega) ((k4.2.1 4 (by omega)).trans f.ok.2.2.1)
            have e1' : f_X8_once y4' 2 (nI (sp b N p)) = some z := e1
            have bad : ¬ z.1.1 4 = 0 := by rw [e2]; decide
            rw [c55 W3' (Or.inr (by omega)), e1', bd1_S, gl_13, cl_13, nmd_S, sumM_bad 8 (by omega) _ (show ¬ ((sa z.1 2 (upd (z.1.2 2) 13 1)), z.2).1.1 4 = 0 from bad), bd1_S]
            exact sp_bad f e2 e3 ((k4.lf.lg.mg.tr e4).tr ⟨fun _ _ => rfl, fun i hi => upA_n hi, rfl⟩)
        · rw [if_neg W4] at m2
          have k4 := k3.tr m2
          rw [if_neg W4, u, c55 W3' (Or.inl W4), x_report ((k4.2.1 4 (by omega)).trans f.ok.2.2.1), bd1_S]
          refine sp_bad f rfl rfl (k4.lf.lg.mg.tr ⟨fun k hk => ?_, fun _ _ => rfl, rfl⟩)
          show upd (upd y4'.1.1 4 _) 5 _ k = _
          rw [upd_n (by omega), upd_n (by omega)]
/-! statement by statement -/
def BJ {α : Type} (J : Int32 → RS → Option α) (rec : Int32 → Int32 → RS → Option α) (v2 v3 : Int32) (rd : RS) : Option α :=
  if v2 = 0 then (J v2 rd) else (if (rd.2.1.1 2) = 0 then (J v2 rd) else (if (500 : Int32) ≤ v3 then (J v2 rd) else (bd2 (f_X3_readStatement rd) fun (r87 : Int32) (rd87 : RS) => if r87 = 0 then (rec 0 (v3 + 1) rd87) else (bd2 (f_X3_takeSign rd87 59) fun (r96 : Int32) (rd96 : RS) => if r96 = 0 then (rec 0 (v3 + 1) rd96) else (rec 1 (v3 + 1) rd96)))))
theorem BJ_eq {α : Type} {J : Int32 → RS → Option α} {rec : Int32 → Int32 → RS → Option α} {v2 v3 : Int32} {rd : RS} : BJ J rec v2 v3 rd = if v2 = 0 then (J v2 rd) else (if (rd.2.1.1 2) = 0 then (J v2 rd) else (if (500 : Int32) ≤ v3 then (J v2 rd) else (bd2 (f_X3_readStatement rd) fun (r87 : Int32) (rd87 : RS) => if r87 = 0 then (rec 0 (v3 + 1) rd87) else (bd2 (f_X3_takeSign rd87 59) fun (r96 : Int32) (rd96 : RS) => if r96 = 0 then (rec 0 (v3 + 1) rd96) else (rec 1 (v3 + 1) rd96))))) := rfl
theorem BM_eq {rec : MS → Option (Int32 × MS)} {x : MS} : f_X8_load_B132 rec x = bd1 (f_X8_isGood x) fun (r133 : Int32) => if r133 = 0 then (f_X8_load_J154 x) else (bd2 (f_X8_ahead x) fun (r140 : Int32) (x140 : MS) => if r140 = (-1) then (f_X8_load_J154 x140) else (bd1 (f_X8_statement x140) fun (x148 : MS) => rec x148)) := rfl
def BY (b : Nat → Int32) : Prop := ∀ k, k < 500 → ∃ v, v < 256 ∧ b k = nI v
theorem bj_0 {α : Type} (J : Int32 → RS → Option α) (f : Nat) (v3 : Int32) (rd : RS) : itr3 (BJ J) (f + 1) 0 v3 rd = J 0 rd := by
  show BJ J (itr3 (BJ J) f) 0 v3 rd = _
  rw [BJ_eq, if_pos rfl]
theorem bm_0 (f : Nat) (hg : ¬ x.1.1 4 = 0) : itr1 f_X8_load_B132 (f + 1) x = f_X8_load_J154 x := by
  show f_X8_load_B132 (itr1 f_X8_load_B132 f) x = _
  rw [BM_eq, x_bad hg, bd1_S, if_pos rfl]
theorem p_text (hN : N ≤ 500) (hB : BY b) : ∀ m f1 f2 more p (rd : RS) (x : MS), m + 1 < f1 → m + 1 < f2 → p + m = N → more ≤ p → PX rd x b N p mx np hs → ∃ v rd' x', (∀ (α : Type) (J : Int32 → RS → Option α), itr3 (BJ J) f1 1 (nI more) rd = J v rd') ∧ itr1 f_X8_load_B132 f2 x = f_X8_load_J154 x' ∧ GG rd rd' ∧ MG x x' ∧ ((v = 1 ∧ ∃ p', PX rd' x' b N p' mx np hs) ∨ (v = 0 ∧ ER rd' x')) := by
  intro m
  induction m using Nat.strongRecOn with
  | ind m ih =>
    intro f1 f2 more p rd x hf1 hf2 hpm hmo hX
    obtain ⟨hb, hf, sf, rf, gf, cnt, h, f⟩ := hX
    obtain ⟨f1, rfl⟩ : ∃ k, f1 = k + 1 := ⟨f1 - 1, by omega⟩
    obtain ⟨f2, rfl⟩ : ∃ k, f2 = k + 1 := ⟨f2 - 1, by omega⟩
    have hp := f.lx.2.1
    have hs' : sp b N p ≤ N := en_le hp
    have hps : p ≤ sp b N p := en_ge
    obtain ⟨y, a1, a2, a3⟩ := f.lx.ah hN
    have fy := f.w3 a2
    have eM : itr1 f_X8_load_B132 (f2 + 1) x = if bt b N (sp b N p) = -1 then f_X8_load_J154 y else (bd1 (f_X8_statement y) fun (x148 : MS) => itr1 f_X8_load_B132 f2 x148) := by
      show f_X8_load_B132 (itr1 f_X8_load_B132 f2) x = _
      rw [BM_eq, x_good f.ok.2.2.1, bd1_S, if_neg (show ¬ (1 : Int32) = 0 by decide), a1, bd2_S]
    have hk : rd.2.1.1 2 = nI (kd b N (sp b N p)) := f.lx.1.2.2.2.1
    have hk31 : kd b N (sp b N p) < 2 ^ 31 := by unfold kd; split; omega; split; omega; split <;> omega
    by_cases hend : sp b N p < N
    · have hbt : ¬ bt b N (sp b N p) = -1 := by
        rw [show bt b N (sp b N p) = b (sp b N p) from if_pos hend]
        obtain ⟨v, hv, e⟩ := hB (sp b N p) (by omega)
        rw [e]
        exact nI_m1 (by omega)
      have hk0 : ¬ rd.2.1.1 2 = 0 := by
        rw [hk]
        intro z
        have z2 := (nI_eq (b := 0) hk31 (by omega)).mp z
        unfold kd at z2
        split at z2
        · omega
        · split at z2
          · omega
          · first
              | (rw [if_pos hend] at z2; omega)
              | omega
      rw [if_neg hbt] at eM
      obtain ⟨r, rd1, x1, c1, c2, c3, c4, c5⟩ := p_stmt fy hN
      have eC : ∀ (α : Type) (J : Int32 → RS → Option α), itr3 (BJ J) (f1 + 1) 1 (nI more) rd = (if r = 0 then (itr3 (BJ J) f1 0 (nI (more + 1)) rd1) else (bd2 (f_X3_takeSign rd1 59) fun (r96 : Int32) (rd96 : RS) => if r96 = 0 then (itr3 (BJ J) f1 0 (nI (more + 1)) rd96) else (itr3 (BJ J) f1 1 (nI (more + 1)) rd96))) := fun α J => by
        show BJ J (itr3 (BJ J) f1) 1 (nI more) rd = _
        rw [BJ_eq, if_neg (show ¬ (1 : Int32) = 0 by decide), if_neg hk0, i_500, ie_le (by omega) (by omega), if_neg (by omega), c1, bd2_S, nI_1]
      obtain ⟨f1, rfl⟩ : ∃ k, f1 = k + 1 := ⟨f1 - 1, by omega⟩
      obtain ⟨f2, rfl⟩ : ∃ k, f2 = k + 1 := ⟨f2 - 1, by omega⟩
      unfold f_X8_statement_J145 at c2
      rcases c5 with ⟨rfl, p1, hp1, hb1, hf', sf', rf', gf', cnt', h', g1⟩ | ⟨rfl, er⟩
      · obtain ⟨r3, rd3, x3, s1, s2, s3, s4, s5⟩ := p_sign (c := 59) g1.lx g1.ok hN sg_59.1 sg_59.2.1 sg_59.2.2
        rw [s2, bd1_S] at c2
        rw [c2, bd1_S] at eM
        rcases s5 with ⟨rfl, p3, w1, w2, w3⟩ | ⟨rfl, er⟩
        · have g3 := g1.cf s3 s4 w1 w2 (by omega)
          have hp3 := w1.2.1
          obtain ⟨v, rd', x', i1, i2, i3, i4, i5⟩ := ih (N - p3) (by omega) (f1 + 1) (f2 + 1) (more + 1) p3 rd3 x3 (by omega) (by omega) (by omega) (by omega) ⟨hb1, hf', sf', rf', gf', cnt', h', g3⟩
          refine ⟨v, rd', x', fun α J => ?_, eM.trans i2, (c3.tr s3.cg.gg).tr i3, ((a2.lf.lg.mg.tr c4).tr s4.lg.mg).tr i4, i5⟩
          rw [eC α J, if_neg (show ¬ (1 : Int32) = 0 by decide), s1, bd2_S, if_neg (show ¬ (1 : Int32) = 0 by decide)]
          exact i1 α J
        · rw [bm_0 f2 er.bad] at eM
          refine ⟨0, rd3, x3, fun α J => ?_, eM, c3.tr s3.cg.gg, (a2.lf.lg.mg.tr c4).tr s4.lg.mg, Or.inr ⟨rfl, er⟩⟩
          rw [eC α J, if_neg (show ¬ (1 : Int32) = 0 by decide), s1, bd2_S, if_pos rfl]
          exact bj_0 J f1 _ _
      · rw [x_expectB er.bad, bd1_S] at c2
        rw [c2, bd1_S, bm_0 f2 er.bad] at eM
        refine ⟨0, rd1, x1, fun α J => ?_, eM, c3, a2.lf.lg.mg.tr c4, Or.inr ⟨rfl, er⟩⟩
        rw [eC α J, if_pos rfl]
        exact bj_0 J f1 _ _
    · have hsN : sp b N p = N := by omega
      have hk0 : rd.2.1.1 2 = 0 := by
        rw [hk, hsN]
        unfold kd
        rw [en_N, en_N, if_neg (by omega), if_neg (by omega), if_neg (by omega)]
        rfl
      rw [if_pos (show bt b N (sp b N p) = -1 from if_neg hend)] at eM
      refine ⟨1, rd, y, fun α J => ?_, eM, GG.rf, a2.lf.lg.mg, Or.inl ⟨rfl, p, hb, hf, sf, rf, gf, cnt, h, fy⟩⟩
      show BJ J (itr3 (BJ J) f1) 1 (nI more) rd = _
      rw [BJ_eq, if_neg (show ¬ (1 : Int32) = 0 by decide), if_pos hk0]
end P
