/-! statements, and the text of statements -/
theorem once_b : ∀ v, v < 8 → ∀ i, i < 3 → ((((nI v >>> (nI i &&& 31)) &&& 1 = 1) ↔ v / 2 ^ i % 2 = 1) ∧ (nI v ||| ((1 : Int32) <<< (nI i &&& 31))) = nI (if v / 2 ^ i % 2 = 1 then v else v + 2 ^ i)) := by decide +kernel
theorem wd_ne : ∀ w, w < 10 → ∀ v, v < 10 → ¬ w = v → wl w = wl v → ¬ ∀ k, k < wl w → wc w k = wc v k := by decide +kernel
theorem wd_ex {b : Nat → Int32} {N s w v : Nat} (hw : w < 10) (hv : v < 10) (hne : ¬ w = v) (h1 : WM b N s w) : ¬ WM b N s v := fun h2 => by
  have e1 := WM_en h1 hw
  have e2 := WM_en h2 hv
  exact wd_ne w hw v hv hne (by omega) (fun k hk => (h1.2.1 k hk).symm.trans (h2.2.1 k (by omega)))
theorem PD.cg {g : GS} {d d' : Nat → Int32} {mx np hs hb : Nat} (r : PD g d mx np hs hb) (hd : ∀ k, k < 119 → ¬ k = 13 → ¬ k = 14 → d' k = d k) : PD g d' mx np hs hb := ⟨r.mx, r.np, r.hs, r.hb, (hd _ (by omega) (by omega) (by omega)).trans r.d0, (hd _ (by omega) (by omega) (by omega)).trans r.d1, (hd _ (by omega) (by omega) (by omega)).trans r.d2, (hd _ (by omega) (by omega) (by omega)).trans r.d3, (hd _ (by omega) (by omega) (by omega)).trans r.sd, (hd _ (by omega) (by omega) (by omega)).trans r.d9, fun q hq => (hd _ (by omega) (by omega) (by omega)).trans (r.tot q hq), r.H, fun c hc => (hd _ (by omega) (by omega) (by omega)).trans (r.dH c hc)⟩
section P
variable {rd : RS} {x : MS} {b : Nat → Int32} {N p mx np hs hb hf sf rf gf cnt h : Nat}
theorem LX.of {tk : SA} {x' : MS} (l : LX tk x b N p) (h2 : x'.1.1 2 = x.1.1 2) (h3 : x'.1.1 3 = x.1.1 3) (hb : x'.1.2 0 = x.1.2 0) : LX tk x' b N p := by
  obtain ⟨a1, a2, q, a3, a4⟩ := l
  exact ⟨a1, a2, q, ⟨h2.trans a3.1, hb.trans a3.2.1, h3.trans a3.2.2.1, a3.2.2.2⟩, a4⟩
/-- a word is passed by both -/
theorem PR.wd {y : MS} {w : Nat} (f : PR rd x b N p mx np hs hb hf sf rf gf cnt h) (hN : N ≤ 500) (hw : w < 10) (hW : WM b N (sp b N p) w) (k : W3 x y (sp b N p + wl w)) : ∃ tk', f_X5_advance rd.2.1 = some tk' ∧ PR (rd.1, tk', rd.2.2) y b N (sp b N p + wl w) mx np hs hb hf sf rf gf cnt h ∧ p < sp b N p + wl w ∧ tk'.2 = rd.2.1.2 ∧ tk'.1 0 = rd.2.1.1 0 := by
  have hwl := wl_le w hw
  have hps : p ≤ sp b N p := en_ge
  obtain ⟨tk', t1, t2, t3, t4⟩ := LX_ed f.lx hN
  rw [(WM_kd hW hw).2] at t2
  exact ⟨tk', t1, f.adv k t2 hW.1 (by omega) t3 t4, by omega, t3, t4⟩
theorem x_onceG {v i : Nat} {off : Int32} (h10 : x.1.1 10 = nI v) (hv : v < 8) (hi : i < 3) (hb : ¬ v / 2 ^ i % 2 = 1) : f_X8_once x (nI i) off = some ((ss x.1 10 (nI (v + 2 ^ i))), x.2) := by
  obtain ⟨a1, a2⟩ := once_b v hv i hi
  unfold f_X8_once f_X8_once_J19
  rw [h10, if_neg (fun z => hb (a1.mp z)), nmd_S, a2, if_neg hb]
theorem x_onceB {v i : Nat} {off : Int32} (h10 : x.1.1 10 = nI v) (hv : v < 8) (hi : i < 3) (hb : v / 2 ^ i % 2 = 1) (hg : x.1.1 4 = 0) : ∃ x', f_X8_once x (nI i) off = some x' ∧ x'.1.1 4 = -2 ∧ x'.1.1 5 = off ∧ MG x x' ∧ x'.1.1 11 = x.1.1 11 := by
  obtain ⟨a1, a2⟩ := once_b v hv i hi
  unfold f_X8_once f_X8_once_J19
  rw [h10, if_pos (a1.mpr hb), x_report hg, bd1_S, nmd_S]
  refine ⟨_, rfl, rfl, rfl, ⟨fun k hk => ?_, fun _ _ => rfl, rfl⟩, rfl⟩
  show upd (upd (upd x.1.1 4 _) 5 _) 10 _ k = _
  rw [upd_n (by omega), upd_n (by omega), upd_n (by omega)]
theorem x_39B {z : MS} (hg : ¬ z.1.1 4 = 0) : f_X8_statement_J39 z = f_X8_statement_J145 ((sa z.1 2 (upd (z.1.2 2) 3 0)), z.2) := by
  unfold f_X8_statement_J39
  rw [gl_0, x_numberB hg, bd2_S, gl_3, cl_3, nmd_S]
/-- a statement of both, up to its end -/
def SP (rd : RS) (x : MS) (b : Nat → Int32) (N p mx np hs : Nat) (o : Option (Int32 × RS)) (o' : Option MS) : Prop := ∃ r rd' x', o = some (r, rd') ∧ o' = f_X8_statement_J145 x' ∧ GG rd rd' ∧ MG x x' ∧ ((r = 1 ∧ ∃ p', p < p' ∧ PX rd' x' b N p' mx np hs) ∨ (r = 0 ∧ ER rd' x'))
theorem e_109 (f : PR rd x b N p mx np hs hb hf sf rf gf cnt h) : f_X3_readStatement_J109 rd = some (0, ((ss (ss rd.1 6 (-2)) 7 (nI (sp b N p))), rd.2.1, rd.2.2)) := by
  unfold f_X3_readStatement_J109
  rw [fail_e, bd2_S, show isb 0 = true from rfl, gd_T, f.lx.1.2.2.1]
theorem p_hub {y : MS} (f : PR rd x b N p mx np hs hb 0 sf rf 0 cnt h) (hN : N ≤ 500) (hW : WM b N (sp b N p) 1) (k : W3 x y (sp b N p + wl 1)) : SP rd x b N p mx np hs (bd2 (f_X3_readHub rd) fun (r27 : Int32) (rd27 : RS) => gd (isb r27) <| some (r27, rd27)) (f_X8_statement_J39 ((ss y.1 10 (nI (0 + 2 * sf + 4 * rf + 2 ^ 0))), y.2)) := by
  obtain ⟨tk', t1, f1, t2, t3, t4⟩ := f.wd hN (by omega) hW k
  have hmx := f1.pd.mx
  have hL : LX ((ss rd.1 1 1), tk', rd.2.2).2.1 ((ss y.1 10 (nI (0 + 2 * sf + 4 * rf + 2 ^ 0))), y.2) b N (sp b N p + wl 1) := f1.lx.of rfl rfl rfl
  have hO : OK ((ss rd.1 1 1), tk', rd.2.2) ((ss y.1 10 (nI (0 + 2 * sf + 4 * rf + 2 ^ 0))), y.2) := f1.ok
  obtain ⟨r, r2, rd1, x1, a1, a2, a3, a4, a5⟩ := p_num (lo := 0) (hi := mx) hL hO hN (by omega) (by omega)
  have a1' : f_X3_takeNumber ((ss rd.1 1 1), tk', rd.2.2) 0 (rd.2.2.1.1 0) = some (r, rd1) := by rw [f.pd.mx.1]; exact a1
  have a2' : f_X8_number ((ss y.1 10 (nI (0 + 2 * sf + 4 * rf + 2 ^ 0))), y.2) 0 (y.1.2 2 0) = some (r2, x1) := by
    rw [show y.1.2 2 0 = nI mx from f1.pd.d0]; exact a2
  unfold f_X3_readHub f_X8_statement_J39
  rw [gl_0, cl_0, t1, bd1_S, a1', bd2_S, a2', bd2_S, gl_3, cl_3, nmd_S]
  have g1 : GG rd rd1 := ⟨fun j _ => by rw [a3.2.2.2.2], by rw [a3.2.2.2.2], by rw [a3.2.2.2.2], a3.2.2.1.trans t3, a3.2.2.2.1.trans t4⟩
  have m0 : MG y ((ss y.1 10 (nI (0 + 2 * sf + 4 * rf + 2 ^ 0))), y.2) := ⟨fun j hj => upd_n (by omega), fun _ _ => rfl, rfl⟩
  have m1 : MG x x1 := (k.lf.lg.mg.tr m0).tr a4.lg.mg
  have m2 : MG x1 ((sa x1.1 2 (upd (x1.1.2 2) 3 r2)), x1.2) := ⟨fun _ _ => rfl, fun i hi => upA_n hi, rfl⟩
  rcases a5 with ⟨v, p1, rfl, rfl, -, v2, v3, v4, v5, v6, v7⟩ | ⟨rfl, er⟩
  · rw [if_neg (show ¬ (1 : Int32) = 0 by decide), bd2_S, show isb 1 = true from rfl, gd_T, v3]
    refine ⟨1, _, _, rfl, rfl, g1.tr ⟨fun j hj => upd_n (by omega), rfl, rfl, rfl, rfl⟩, m1.tr m2, Or.inl ⟨rfl, p1, by omega, v, 1, sf, rf, 0, cnt, h, ?_⟩⟩
    have hpd := f1.pd
    have lo : ∀ k, ¬ k = 3 → upd (x1.1.2 2) 3 (nI v) k = y.1.2 2 k := fun k hk => (upd_n hk).trans (by rw [a4.2.1])
    have hsf := f1.c2.2
    have hrf := f1.c3.2
    have hH : ∀ c, c < 100 → rd1.2.2.1.2 0 c = -1 := fun c hc => by rw [a3.2.2.2.2]; exact f1.emp rfl c hc
    refine ⟨v5.of rfl rfl rfl, v6, ?_, ⟨(a3.1 1 (by omega) (by omega) (by omega)).trans rfl, by omega⟩, ⟨(a3.1 2 (by omega) (by omega) (by omega)).trans f1.c2.1, hsf⟩, ⟨(a3.1 3 (by omega) (by omega) (by omega)).trans f1.c3.1, hrf⟩, ⟨(a3.1 4 (by omega) (by omega) (by omega)).trans f1.c4.1, by omega⟩, ?_, (a4.1 11 (by omega) (by omega) (by omega) (by omega)).trans f1.m11, fun _ => hH, ?_, (a3.1 5 (by omega) (by omega) (by omega)).trans f1.c5, ?_, ?_, f1.r0, f1.r1, (lo 13 (by omega)).trans f1.m13, (a4.1 9 (by omega) (by omega) (by omega) (by omega)).trans f1.m9, by show rd1.2.2.2.1 = none; rw [a3.2.2.2.2]; exact f1.fo⟩
    · show PD ((ss rd1.2.2.1 3 (nI v)), rd1.2.2.2.1, rd1.2.2.2.2.1, rd1.2.2.2.2.2) (upd (x1.1.2 2) 3 (nI v)) mx np hs v
      rw [a3.2.2.2.2]
      exact ⟨hpd.mx, hpd.np, hpd.hs, ⟨rfl, v2⟩, (lo 0 (by omega)).trans hpd.d0, (lo 1 (by omega)).trans hpd.d1, (lo 2 (by omega)).trans hpd.d2, upd_s, (lo 11 (by omega)).trans hpd.sd, (lo 9 (by omega)).trans hpd.d9, fun q hq => (lo _ (by omega)).trans (hpd.tot q hq), fun c hc => Or.inl (f1.emp rfl c hc), fun c hc => (lo _ (by omega)).trans (hpd.dH c hc)⟩
    · refine (a4.1 10 (by omega) (by omega) (by omega) (by omega)).trans ?_
      show nI (0 + 2 * sf + 4 * rf + 2 ^ 0) = nI (1 + 2 * sf + 4 * rf)
      rw [show 0 + 2 * sf + 4 * rf + 2 ^ 0 = 1 + 2 * sf + 4 * rf by omega]
    · intro q hq
      show hcN (rd1.2.2.1.2 0) (nI q) ≤ hs
      rw [a3.2.2.2.2]; exact f1.hc q hq
    · show PF (rd1.1.2 0) cnt (upd (x1.1.2 2) 3 (nI v)) h
      rw [a3.2.1]
      exact f1.pf.lo (lo 14 (by omega)) (fun k hk => lo k (by omega))
    · have := f1.cp; omega
  · rw [if_pos rfl, bd2_S, show isb 0 = true from rfl, gd_T]
    refine ⟨0, _, _, rfl, rfl, g1, m1.tr m2, Or.inr ⟨rfl, ?_⟩⟩
    obtain ⟨d1, d2, d3⟩ := er
    exact ⟨d1, d2, d3⟩
theorem p_seed {y : MS} (f : PR rd x b N p mx np hs hb hf 0 rf gf cnt h) (hN : N ≤ 500) (hW : WM b N (sp b N p) 2) (k : W3 x y (sp b N p + wl 2)) : SP rd x b N p mx np hs (bd2 (f_X3_readSeed rd) fun (r51 : Int32) (rd51 : RS) => gd (isb r51) <| some (r51, rd51)) (bd2 (f_X8_number ((ss y.1 10 (nI (hf + 2 * 0 + 4 * rf + 2 ^ 1))), y.2) 0 9999) fun (r85 : Int32) (x85 : MS) => gd (inb 11 1464) <| nmd (upd (x85.1.2 2) (11 : Int32).toNatClampNeg r85) fun (w88 : Nat → Int32) => f_X8_statement_J145 ((sa x85.1 2 w88), x85.2)) := by
  obtain ⟨tk', t1, f1, t2, t3, t4⟩ := f.wd hN (by omega) hW k
  have hL : LX ((ss rd.1 2 1), tk', rd.2.2).2.1 ((ss y.1 10 (nI (hf + 2 * 0 + 4 * rf + 2 ^ 1))), y.2) b N (sp b N p + wl 2) := f1.lx.of rfl rfl rfl
  have hO : OK ((ss rd.1 2 1), tk', rd.2.2) ((ss y.1 10 (nI (hf + 2 * 0 + 4 * rf + 2 ^ 1))), y.2) := f1.ok
  obtain ⟨r, r2, rd1, x1, a1, a2, a3, a4, a5⟩ := p_num (lo := 0) (hi := 9999) hL hO hN (by omega) (by omega)
  have a1' : f_X3_takeNumber ((ss rd.1 2 1), tk', rd.2.2) 0 9999 = some (r, rd1) := a1
  have a2' : f_X8_number ((ss y.1 10 (nI (hf + 2 * 0 + 4 * rf + 2 ^ 1))), y.2) 0 9999 = some (r2, x1) := a2
  unfold f_X3_readSeed
  rw [t1, bd1_S, a1', bd2_S, a2', bd2_S, gl_11, cl_11, nmd_S]
  have g1 : GG rd rd1 := ⟨fun j _ => by rw [a3.2.2.2.2], by rw [a3.2.2.2.2], by rw [a3.2.2.2.2], a3.2.2.1.trans t3, a3.2.2.2.1.trans t4⟩
  have m0 : MG y ((ss y.1 10 (nI (hf + 2 * 0 + 4 * rf + 2 ^ 1))), y.2) := ⟨fun j hj => upd_n (by omega), fun _ _ => rfl, rfl⟩
  have m1 : MG x x1 := (k.lf.lg.mg.tr m0).tr a4.lg.mg
  have m2 : MG x1 ((sa x1.1 2 (upd (x1.1.2 2) 11 r2)), x1.2) := ⟨fun _ _ => rfl, fun i hi => upA_n hi, rfl⟩
  rcases a5 with ⟨v, p1, rfl, rfl, -, v2, v3, v4, v5, v6, v7⟩ | ⟨rfl, er⟩
  · rw [if_neg (show ¬ (1 : Int32) = 0 by decide), bd2_S, show isb 1 = true from rfl, gd_T, v3]
    refine ⟨1, _, _, rfl, rfl, g1.tr ⟨fun j hj => upd_n (by omega), rfl, rfl, rfl, rfl⟩, m1.tr m2, Or.inl ⟨rfl, p1, by omega, hb, hf, 1, rf, gf, cnt, h, ?_⟩⟩
    have hpd := f1.pd
    have lo : ∀ k, ¬ k = 11 → upd (x1.1.2 2) 11 (nI v) k = y.1.2 2 k := fun k hk => (upd_n hk).trans (by rw [a4.2.1])
    have hhf := f1.c1.2
    have hrf := f1.c3.2
    refine ⟨v5.of rfl rfl rfl, v6, ?_, ⟨(a3.1 1 (by omega) (by omega) (by omega)).trans f1.c1.1, hhf⟩, ⟨(a3.1 2 (by omega) (by omega) (by omega)).trans rfl, by omega⟩, ⟨(a3.1 3 (by omega) (by omega) (by omega)).trans f1.c3.1, hrf⟩, ⟨(a3.1 4 (by omega) (by omega) (by omega)).trans f1.c4.1, f1.c4.2⟩, ?_, (a4.1 11 (by omega) (by omega) (by omega) (by omega)).trans f1.m11, ?_, ?_, (a3.1 5 (by omega) (by omega) (by omega)).trans f1.c5, ?_, ?_, f1.r0, f1.r1, (lo 13 (by omega)).trans f1.m13, (a4.1 9 (by omega) (by omega) (by omega) (by omega)).trans f1.m9, by show rd1.2.2.2.1 = none; rw [a3.2.2.2.2]; exact f1.fo⟩
    · show PD ((ss rd1.2.2.1 4 (nI v)), rd1.2.2.2.1, rd1.2.2.2.2.1, rd1.2.2.2.2.2) (upd (x1.1.2 2) 11 (nI v)) mx np hs hb
      rw [a3.2.2.2.2]
      exact ⟨hpd.mx, hpd.np, hpd.hs, hpd.hb, (lo 0 (by omega)).trans hpd.d0, (lo 1 (by omega)).trans hpd.d1, (lo 2 (by omega)).trans hpd.d2, (lo 3 (by omega)).trans hpd.d3, upd_s, (lo 9 (by omega)).trans hpd.d9, fun q hq => (lo _ (by omega)).trans (hpd.tot q hq), hpd.H, fun c hc => (lo _ (by omega)).trans (hpd.dH c hc)⟩
    · refine (a4.1 10 (by omega) (by omega) (by omega) (by omega)).trans ?_
      show nI (hf + 2 * 0 + 4 * rf + 2 ^ 1) = nI (hf + 2 * 1 + 4 * rf)
      rw [show hf + 2 * 0 + 4 * rf + 2 ^ 1 = hf + 2 * 1 + 4 * rf by omega]
    · intro hz c hc
      show rd1.2.2.1.2 0 c = -1
      rw [a3.2.2.2.2]; exact f1.emp hz c hc
    · intro q hq
      show hcN (rd1.2.2.1.2 0) (nI q) ≤ hs
      rw [a3.2.2.2.2]; exact f1.hc q hq
    · show PF (rd1.1.2 0) cnt (upd (x1.1.2 2) 11 (nI v)) h
      rw [a3.2.1]
      exact f1.pf.lo (lo 14 (by omega)) (fun k hk => lo k (by omega))
    · have := f1.cp; omega
  · rw [if_pos rfl, bd2_S, show isb 0 = true from rfl, gd_T]
    refine ⟨0, _, _, rfl, rfl, g1, m1.tr m2, Or.inr ⟨rfl, ?_⟩⟩
    obtain ⟨d1, d2, d3⟩ := er
    exact ⟨d1, d2, d3⟩
theorem p_give {y : MS} (f : PR rd x b N p mx np hs hb hf sf rf gf cnt h) (hN : N ≤ 500) (hW : WM b N (sp b N p) 3) (k : W3 x y (sp b N p + wl 3)) : SP rd x b N p mx np hs (bd2 (f_X3_readGive rd) fun (r68 : Int32) (rd68 : RS) => gd (isb r68) <| some (r68, rd68)) (bd1 (f_X8_readGive y) fun (x102 : MS) => f_X8_statement_J145 x102) := by
  obtain ⟨tk', t1, f1, t2, t3, t4⟩ := f.wd hN (by omega) hW k
  have hnp := f1.pd.np
  have hL : LX ((ss rd.1 4 1), tk', rd.2.2).2.1 y b N (sp b N p + wl 3) := f1.lx
  have hO : OK ((ss rd.1 4 1), tk', rd.2.2) y := f1.ok
  obtain ⟨r, r2, rd1, x1, a1, a2, a3, a4, a5⟩ := p_num (lo := 0) (hi := np - 1) hL hO hN (by omega) (by omega)
  have e1 : nI np - 1 = nI (np - 1) := nI_sub (b := 1) (by omega)
  have a1' : f_X3_takeNumber ((ss rd.1 4 1), tk', rd.2.2) 0 (rd.2.2.1.1 1 - 1) = some (r, rd1) := by rw [f.pd.np.1, e1]; exact a1
  have a2' : f_X8_number y 0 (y.1.2 2 1 - 1) = some (r2, x1) := by rw [f1.pd.d1, e1]; exact a2
  unfold f_X3_readGive f_X8_readGive
  rw [gl_1, cl_1, t1, bd1_S, a1', bd2_S, a2', bd2_S]
  have g1 : GG rd rd1 := ⟨fun j _ => by rw [a3.2.2.2.2], by rw [a3.2.2.2.2], by rw [a3.2.2.2.2], a3.2.2.1.trans t3, a3.2.2.2.1.trans t4⟩
  have m1 : MG x ((ss x1.1 11 1), x1.2) := (k.lf.lg.mg.tr a4.lg.mg).tr ⟨fun j hj => upd_n (by omega), fun _ _ => rfl, rfl⟩
  rcases a5 with ⟨v, p1, rfl, rfl, -, v2, v3, v4, v5, v6, v7⟩ | ⟨rfl, er⟩
  · have f2 : PR ((ss rd.1 4 1), tk', rd.2.2) ((ss y.1 11 1), y.2) b N (sp b N p + wl 3) mx np hs hb hf sf rf 1 cnt h := ⟨f1.lx.of rfl rfl rfl, f1.ok, f1.pd, f1.c1, f1.c2, f1.c3, ⟨rfl, by omega⟩, f1.m10, rfl, fun z => absurd z (by omega), f1.hc, f1.c5, f1.pf, f1.cp, f1.r0, f1.r1, f1.m13, f1.m9, f1.fo⟩
    have f3 : PR rd1 ((ss x1.1 11 1), x1.2) b N p1 mx np hs hb hf sf rf 1 cnt h := f2.cf a3 ⟨fun j j1 j2 j3 j4 => by
      show upd x1.1.1 11 1 j = upd y.1.1 11 1 j
      by_cases z : j = 11
      · rw [z, upd_s, upd_s]
      · rw [upd_n z, upd_n z]; exact a4.1 j j1 j2 j3 j4, a4.2.1, a4.2.2⟩ (v5.of rfl rfl rfl) v6 (by omega)
    have hp1 := f3.lx.2.1
    obtain ⟨r3, rd3, x3, c1, c2, c3, c4, c5⟩ := p_tiles (pl := v) (rd0 := rd1) (by omega) v3 hN (N - p1) FUEL FUEL 0 p1 rd1 _ (FUEL_lt (by omega)) (FUEL_lt (by omega)) (by omega) (by omega) f3
    have c1' : (bd2 (f_X3_readTile rd1 (rd1.1.1 0)) fun (r38 : Int32) (rd38 : RS) => itr3 (f_X3_readGive_B44 rd1) FUEL r38 0 rd38) = some (r3, rd3) := by rw [v3]; exact c1
    rw [if_neg (show ¬ (1 : Int32) = 0 by decide), c1', bd2_S, c2, bd1_S]
    rcases c5 with ⟨rfl, p3, e2, e3⟩ | ⟨rfl, er⟩
    · rw [show isb 1 = true from rfl, gd_T]
      exact ⟨1, rd3, x3, rfl, rfl, g1.tr c3, m1.tr c4, Or.inl ⟨rfl, p3, by omega, hb, hf, sf, rf, 1, cnt, h, e3⟩⟩
    · rw [show isb 0 = true from rfl, gd_T]
      exact ⟨0, rd3, x3, rfl, rfl, g1.tr c3, m1.tr c4, Or.inr ⟨rfl, er⟩⟩
  · have hbad : ¬ ((ss x1.1 11 1), x1.2).1.1 4 = 0 := er.bad
    have e2 : itr1 (f_X8_readGive_B19 r2) FUEL ((ss x1.1 11 1), x1.2) = some ((ss x1.1 11 1), x1.2) := by
      show f_X8_readGive_B19 r2 _ ((ss x1.1 11 1), x1.2) = _
      unfold f_X8_readGive_B19
      rw [x_tileB hbad, bd1_S, x_bad hbad, bd1_S, if_pos rfl]
    rw [if_pos rfl, bd2_S, show isb 0 = true from rfl, gd_T, e2, bd1_S]
    refine ⟨0, _, _, rfl, rfl, g1, m1, Or.inr ⟨rfl, ?_⟩⟩
    obtain ⟨d1, d2, d3⟩ := er
    exact ⟨d1, d2, d3⟩
theorem p_rank {y : MS} (f : PR rd x b N p mx np hs hb hf sf 0 gf cnt h) (hN : N ≤ 500) (hW : WM b N (sp b N p) 4) (k : W3 x y (sp b N p + wl 4)) : SP rd x b N p mx np hs (bd1 (f_X5_advance rd.2.1) fun (tk100 : SA) => bd2 (sumN 8 ((ss rd.1 3 1), tk100, rd.2.2) 0) fun (r105 : Int32) (rd105 : RS) => gd (isb r105) <| some (r105, rd105)) (bd1 (sumM 8 ((sa (ss y.1 10 (nI (hf + 2 * sf + 4 * 0 + 2 ^ 2))) 2 (upd (y.1.2 2) 13 1)), y.2)) fun (x132 : MS) => f_X8_statement_J145 x132) := by
  obtain ⟨tk', t1, f1, t2, t3, t4⟩ := f.wd hN (by omega) hW k
  obtain ⟨hc0, hh0⟩ := f1.r0 rfl
  subst hc0
  subst hh0
  have fs : FS ((ss rd.1 3 1), tk', rd.2.2) ((sa (ss y.1 10 (nI (hf + 2 * sf + 4 * 0 + 2 ^ 2))) 2 (upd (y.1.2 2) 13 1)), y.2) b N (sp b N p + wl 4) 0 0 0 := ⟨f1.lx.of rfl rfl rfl, f1.ok, f1.c5, f1.pf.lo (show upd (y.1.2 2) 13 1 14 = y.1.2 2 14 from upd_n (by omega)) (fun k hk => show upd (y.1.2 2) 13 1 k = y.1.2 2 k from upd_n (by omega)), f1.cp, f1.m9⟩
  obtain ⟨r, rd1, x1, a1, a2, a3, a4, a5⟩ := p_sumN hN 8 0 (by omega) (by omega) _ _ _ _ _ (by omega) fs
  have a1' : sumN 8 ((ss rd.1 3 1), tk', rd.2.2) 0 = some (r, rd1) := a1
  rw [t1, bd1_S, a1', bd2_S, a2, bd1_S]
  have g1 : GG rd rd1 := ⟨fun j _ => by rw [a3.2.2.2], by rw [a3.2.2.2], by rw [a3.2.2.2], a3.2.1.trans t3, a3.2.2.1.trans t4⟩
  have m0 : MG y ((sa (ss y.1 10 (nI (hf + 2 * sf + 4 * 0 + 2 ^ 2))) 2 (upd (y.1.2 2) 13 1)), y.2) := ⟨fun j hj => upd_n (by omega), fun i hi => upA_n hi, rfl⟩
  have m1 : MG x x1 := (k.lf.lg.mg.tr m0).tr a4.mg
  rcases a5 with ⟨rfl, p1, cnt1, fs1, q1, q2⟩ | ⟨rfl, er⟩
  · rw [show isb 1 = true from rfl, gd_T]
    refine ⟨1, rd1, x1, rfl, rfl, g1, m1, Or.inl ⟨rfl, p1, by omega, hb, hf, sf, 1, gf, cnt1, 1, ?_⟩⟩
    obtain ⟨b1, b2, b3, b4, b5, b6⟩ := fs1
    have hpd := f1.pd
    refine ⟨b1, b2, ?_, ⟨(a3.1 1 (by omega)).trans f1.c1.1, f1.c1.2⟩, ⟨(a3.1 2 (by omega)).trans f1.c2.1, f1.c2.2⟩, ⟨(a3.1 3 (by omega)).trans rfl, by omega⟩, ⟨(a3.1 4 (by omega)).trans f1.c4.1, f1.c4.2⟩, ?_, (a4.1 11 (by omega) (by omega) (by omega) (by omega) (by omega)).trans f1.m11, ?_, ?_, b3, b4, b5, fun z => absurd z (by omega), fun _ => rfl, (a4.2.2.2 13 (by omega) (by omega)).trans rfl, b6, ?_⟩
    · rw [a3.2.2.2]
      exact hpd.cg (fun j j1 j2 j3 => (a4.2.2.2 j j3 (by omega)).trans (upd_n j2))
    · refine (a4.1 10 (by omega) (by omega) (by omega) (by omega) (by omega)).trans ?_
      show nI (hf + 2 * sf + 4 * 0 + 2 ^ 2) = nI (hf + 2 * sf + 4 * 1)
      rw [show hf + 2 * sf + 4 * 0 + 2 ^ 2 = hf + 2 * sf + 4 * 1 by omega]
    · intro hz c hc
      rw [a3.2.2.2]; exact f1.emp hz c hc
    · intro q hq
      rw [a3.2.2.2]; exact f1.hc q hq
    · rw [a3.2.2.2]; exact f1.fo
  · rw [show isb 0 = true from rfl, gd_T]
    exact ⟨0, rd1, x1, rfl, rfl, g1, m1, Or.inr ⟨rfl, er⟩⟩
end P
