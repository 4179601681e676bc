/-! statements on both sides -/
def PR (rd : RS) (x : MS) (b : Nat → Int32) (N p mx np hs hb hf sf rf gf cnt ht : Nat) : Prop :=
  (LX rd.2.1 x b N p) ∧
  (OK rd x) ∧
  (PD rd.2.2 (x.1.2 2) mx np hs hb) ∧
  (rd.1.1 1 = nI hf ∧ hf ≤ 1) ∧
  (rd.1.1 2 = nI sf ∧ sf ≤ 1) ∧
  (rd.1.1 3 = nI rf ∧ rf ≤ 1) ∧
  (rd.1.1 4 = nI gf ∧ gf ≤ 1) ∧
  (x.1.1 10 = nI (hf + 2 * sf + 4 * rf)) ∧
  (x.1.1 11 = nI gf) ∧
  (gf = 0 → ∀ c, c < 100 → rd.2.2.1.2 0 c = -1) ∧
  (∀ q, q < np → hcN (rd.2.2.1.2 0) (nI q) ≤ hs) ∧
  (rd.1.1 5 = nI cnt) ∧
  (PF (rd.1.2 0) cnt (x.1.2 2) ht) ∧
  (cnt + 4 ≤ p) ∧
  (rf = 0 → cnt = 0 ∧ ht = 0) ∧
  (rf = 1 → ht = 1) ∧
  (x.1.2 2 13 = nI rf) ∧
  (x.1.1 9 = 0) ∧
  (rd.2.2.2.1 = none)
theorem PR.lx {rd : RS} {x : MS} {b : Nat → Int32} {N p mx np hs hb hf sf rf gf cnt ht : Nat} (h : PR rd x b N p mx np hs hb hf sf rf gf cnt ht) : LX rd.2.1 x b N p := h.1
theorem PR.ok {rd : RS} {x : MS} {b : Nat → Int32} {N p mx np hs hb hf sf rf gf cnt ht : Nat} (h : PR rd x b N p mx np hs hb hf sf rf gf cnt ht) : OK rd x := h.2.1
theorem PR.pd {rd : RS} {x : MS} {b : Nat → Int32} {N p mx np hs hb hf sf rf gf cnt ht : Nat} (h : PR rd x b N p mx np hs hb hf sf rf gf cnt ht) : PD rd.2.2 (x.1.2 2) mx np hs hb := h.2.2.1
theorem PR.c1 {rd : RS} {x : MS} {b : Nat → Int32} {N p mx np hs hb hf sf rf gf cnt ht : Nat} (h : PR rd x b N p mx np hs hb hf sf rf gf cnt ht) : rd.1.1 1 = nI hf ∧ hf ≤ 1 := h.2.2.2.1
theorem PR.c2 {rd : RS} {x : MS} {b : Nat → Int32} {N p mx np hs hb hf sf rf gf cnt ht : Nat} (h : PR rd x b N p mx np hs hb hf sf rf gf cnt ht) : rd.1.1 2 = nI sf ∧ sf ≤ 1 := h.2.2.2.2.1
theorem PR.c3 {rd : RS} {x : MS} {b : Nat → Int32} {N p mx np hs hb hf sf rf gf cnt ht : Nat} (h : PR rd x b N p mx np hs hb hf sf rf gf cnt ht) : rd.1.1 3 = nI rf ∧ rf ≤ 1 := h.2.2.2.2.2.1
theorem PR.c4 {rd : RS} {x : MS} {b : Nat → Int32} {N p mx np hs hb hf sf rf gf cnt ht : Nat} (h : PR rd x b N p mx np hs hb hf sf rf gf cnt ht) : rd.1.1 4 = nI gf ∧ gf ≤ 1 := h.2.2.2.2.2.2.1
theorem PR.m10 {rd : RS} {x : MS} {b : Nat → Int32} {N p mx np hs hb hf sf rf gf cnt ht : Nat} (h : PR rd x b N p mx np hs hb hf sf rf gf cnt ht) : x.1.1 10 = nI (hf + 2 * sf + 4 * rf) := h.2.2.2.2.2.2.2.1
theorem PR.m11 {rd : RS} {x : MS} {b : Nat → Int32} {N p mx np hs hb hf sf rf gf cnt ht : Nat} (h : PR rd x b N p mx np hs hb hf sf rf gf cnt ht) : x.1.1 11 = nI gf := h.2.2.2.2.2.2.2.2.1
theorem PR.emp {rd : RS} {x : MS} {b : Nat → Int32} {N p mx np hs hb hf sf rf gf cnt ht : Nat} (h : PR rd x b N p mx np hs hb hf sf rf gf cnt ht) : gf = 0 → ∀ c, c < 100 → rd.2.2.1.2 0 c = -1 := h.2.2.2.2.2.2.2.2.2.1
theorem PR.hc {rd : RS} {x : MS} {b : Nat → Int32} {N p mx np hs hb hf sf rf gf cnt ht : Nat} (h : PR rd x b N p mx np hs hb hf sf rf gf cnt ht) : ∀ q, q < np → hcN (rd.2.2.1.2 0) (nI q) ≤ hs := h.2.2.2.2.2.2.2.2.2.2.1
theorem PR.c5 {rd : RS} {x : MS} {b : Nat → Int32} {N p mx np hs hb hf sf rf gf cnt ht : Nat} (h : PR rd x b N p mx np hs hb hf sf rf gf cnt ht) : rd.1.1 5 = nI cnt := h.2.2.2.2.2.2.2.2.2.2.2.1
theorem PR.pf {rd : RS} {x : MS} {b : Nat → Int32} {N p mx np hs hb hf sf rf gf cnt ht : Nat} (h : PR rd x b N p mx np hs hb hf sf rf gf cnt ht) : PF (rd.1.2 0) cnt (x.1.2 2) ht := h.2.2.2.2.2.2.2.2.2.2.2.2.1
theorem PR.cp {rd : RS} {x : MS} {b : Nat → Int32} {N p mx np hs hb hf sf rf gf cnt ht : Nat} (h : PR rd x b N p mx np hs hb hf sf rf gf cnt ht) : cnt + 4 ≤ p := h.2.2.2.2.2.2.2.2.2.2.2.2.2.1
theorem PR.r0 {rd : RS} {x : MS} {b : Nat → Int32} {N p mx np hs hb hf sf rf gf cnt ht : Nat} (h : PR rd x b N p mx np hs hb hf sf rf gf cnt ht) : rf = 0 → cnt = 0 ∧ ht = 0 := h.2.2.2.2.2.2.2.2.2.2.2.2.2.2.1
theorem PR.r1 {rd : RS} {x : MS} {b : Nat → Int32} {N p mx np hs hb hf sf rf gf cnt ht : Nat} (h : PR rd x b N p mx np hs hb hf sf rf gf cnt ht) : rf = 1 → ht = 1 := h.2.2.2.2.2.2.2.2.2.2.2.2.2.2.2.1
theorem PR.m13 {rd : RS} {x : MS} {b : Nat → Int32} {N p mx np hs hb hf sf rf gf cnt ht : Nat} (h : PR rd x b N p mx np hs hb hf sf rf gf cnt ht) : x.1.2 2 13 = nI rf := h.2.2.2.2.2.2.2.2.2.2.2.2.2.2.2.2.1
theorem PR.m9 {rd : RS} {x : MS} {b : Nat → Int32} {N p mx np hs hb hf sf rf gf cnt ht : Nat} (h : PR rd x b N p mx np hs hb hf sf rf gf cnt ht) : x.1.1 9 = 0 := h.2.2.2.2.2.2.2.2.2.2.2.2.2.2.2.2.2.1
theorem PR.fo {rd : RS} {x : MS} {b : Nat → Int32} {N p mx np hs hb hf sf rf gf cnt ht : Nat} (h : PR rd x b N p mx np hs hb hf sf rf gf cnt ht) : rd.2.2.2.1 = none := h.2.2.2.2.2.2.2.2.2.2.2.2.2.2.2.2.2.2
def PX (rd : RS) (x : MS) (b : Nat → Int32) (N p mx np hs : Nat) : Prop := ∃ hb hf sf rf gf cnt h, PR rd x b N p mx np hs hb hf sf rf gf cnt h
/-- what statements leave alone -/
def GG (rd rd' : RS) : Prop := (∀ k, 5 ≤ k → rd'.2.2.1.1 k = rd.2.2.1.1 k) ∧ rd'.2.2.1.2 1 = rd.2.2.1.2 1 ∧ rd'.2.2.2 = rd.2.2.2 ∧ rd'.2.1.2 = rd.2.1.2 ∧ rd'.2.1.1 0 = rd.2.1.1 0
theorem GG.rf {rd : RS} : GG rd rd := ⟨fun _ _ => rfl, rfl, rfl, rfl, rfl⟩
theorem GG.tr {x y z : RS} (h : GG x y) (k : GG y z) : GG x z := ⟨fun i a => (k.1 i a).trans (h.1 i a), k.2.1.trans h.2.1, k.2.2.1.trans h.2.2.1, k.2.2.2.1.trans h.2.2.2.1, k.2.2.2.2.trans h.2.2.2.2⟩
theorem CG.gg {rd rd' : RS} (h : CG rd rd') : GG rd rd' := ⟨fun k _ => by rw [h.2.2.2], by rw [h.2.2.2], by rw [h.2.2.2], h.2.1, h.2.2.1⟩
def MG (x x' : MS) : Prop := (∀ k, k < 3 ∨ k = 6 ∨ k = 7 ∨ k = 12 → x'.1.1 k = x.1.1 k) ∧ (∀ i, ¬ i = 2 → x'.1.2 i = x.1.2 i) ∧ x'.2 = x.2
theorem MG.rf {x : MS} : MG x x := ⟨fun _ _ => rfl, fun _ _ => rfl, rfl⟩
theorem MG.tr {x y z : MS} (h : MG x y) (k : MG y z) : MG x z := ⟨fun i a => (k.1 i a).trans (h.1 i a), fun i a => (k.2.1 i a).trans (h.2.1 i a), k.2.2.trans h.2.2⟩
theorem LG.mg {x x' : MS} (h : LG x x') : MG x x' := ⟨fun k hk => h.1 k (by omega) (by omega) (by omega) (by omega) (by omega), h.2.1, h.2.2.1⟩
section P
variable {rd : RS} {x : MS} {b : Nat → Int32} {N p mx np hs hb hf sf rf gf cnt h : Nat}
theorem PR.cf {rd' : RS} {x' : MS} {p' : Nat} (f : PR rd x b N p mx np hs hb hf sf rf gf cnt h) (c : CF rd rd') (l : LF x x') (hL : LX rd'.2.1 x' b N p') (hO : OK rd' x') (hp : p ≤ p') : PR rd' x' b N p' mx np hs hb hf sf rf gf cnt h := by
  have hcp := f.cp
  refine ⟨hL, hO, by rw [c.2.2.2.2, l.2.1]; exact f.pd, by rw [c.1 1 (by omega) (by omega) (by omega)]; exact f.c1, by rw [c.1 2 (by omega) (by omega) (by omega)]; exact f.c2, by rw [c.1 3 (by omega) (by omega) (by omega)]; exact f.c3, by rw [c.1 4 (by omega) (by omega) (by omega)]; exact f.c4, (l.1 10 (by omega) (by omega) (by omega) (by omega)).trans f.m10, (l.1 11 (by omega) (by omega) (by omega) (by omega)).trans f.m11, by rw [c.2.2.2.2]; exact f.emp, by rw [c.2.2.2.2]; exact f.hc, (c.1 5 (by omega) (by omega) (by omega)).trans f.c5, by rw [c.2.1, l.2.1]; exact f.pf, by omega, f.r0, f.r1, by rw [l.2.1]; exact f.m13, (l.1 9 (by omega) (by omega) (by omega) (by omega)).trans f.m9, by rw [c.2.2.2.2]; exact f.fo⟩
theorem PR.w3 {y : MS} (f : PR rd x b N p mx np hs hb hf sf rf gf cnt h) (w : W3 x y (sp b N p)) : PR rd y b N p mx np hs hb hf sf rf gf cnt h := f.cf CF.rf w.lf (w.lxs f.lx) (f.ok.w3 w) (Nat.le_refl _)
theorem PR.adv {y : MS} {tk : SA} {t : Nat} (f : PR rd x b N p mx np hs hb hf sf rf gf cnt h) (w : W3 x y t) (hC : CT tk b N t) (ht : t ≤ N) (hp : p ≤ t) (h2 : tk.2 = rd.2.1.2) (h0 : tk.1 0 = rd.2.1.1 0) : PR (rd.1, tk, rd.2.2) y b N t mx np hs hb hf sf rf gf cnt h := f.cf ⟨fun _ _ _ _ => rfl, rfl, h2, h0, rfl⟩ w.lf (w.lx f.lx hC ht) (f.ok.w3 w) hp
theorem hcN_put {H : Nat → Int32} {c pl q : Nat} (hc : c < 100) (hH : H c = -1) (hp : pl < 2 ^ 31) (hq : q < 2 ^ 31) : hcN (upd H c (nI pl)) (nI q) = hcN H (nI q) + if q = pl then 1 else 0 := by
  by_cases h1 : q = pl
  · subst h1
    rw [if_pos rfl]
    exact cn_set (P := fun j => decide (upd H c (nI q) j = nI q)) (Q := fun j => decide (H j = nI q)) c (by rw [upd_s]; exact decide_eq_true rfl) (decide_eq_false (by rw [hH]; exact fun z => nI_m1 hq z.symm)) 100 0 (Nat.zero_le _) (by omega) (fun j hj => by rw [upd_n hj])
  · rw [if_neg h1, Nat.add_zero]
    show cn (fun j => decide (upd H c (nI pl) j = nI q)) 0 100 = cn (fun j => decide (H j = nI q)) 0 100
    refine cn_congr _ _ (fun j _ _ => ?_)
    by_cases hj : j = c
    · rw [hj, upd_s, hH]
      rw [decide_eq_false (fun z => h1 ((nI_eq hp hq).mp z).symm), decide_eq_false (fun z => nI_m1 hq z.symm)]
    · rw [upd_n hj]
theorem PD.put {g : GS} {d : Nat → Int32} {c pl : Nat} (r : PD g d mx np hs hb) (hp : pl < np) (hc : c < 100) (hin : inS mx c) (hcb : ¬ c = 11 * hb) : PD ((sa g.1 0 (upd (g.1.2 0) c (nI pl))), g.2.1, g.2.2.1, g.2.2.2) (upd d (19 + c) (nI pl)) mx np hs hb := by
  have lo : ∀ k, k < 19 ∨ 119 ≤ k → upd d (19 + c) (nI pl) k = d k := fun k hk => upd_n (by omega)
  refine ⟨r.mx, r.np, r.hs, r.hb, (lo _ (by omega)).trans r.d0, (lo _ (by omega)).trans r.d1, (lo _ (by omega)).trans r.d2, (lo _ (by omega)).trans r.d3, (lo _ (by omega)).trans r.sd, (lo _ (by omega)).trans r.d9, fun q hq => (lo _ (by omega)).trans (r.tot q hq), fun j hj => ?_, fun j hj => ?_⟩
  · show upd (g.1.2 0) c (nI pl) j = -1 ∨ (∃ p, p < np ∧ upd (g.1.2 0) c (nI pl) j = nI p) ∧ inS mx j ∧ ¬ j = 11 * hb
    by_cases z : j = c
    · rw [z, upd_s]; exact Or.inr ⟨⟨pl, hp, rfl⟩, hin, hcb⟩
    · rw [upd_n z]; exact r.H j hj
  · show upd d (19 + c) (nI pl) (19 + j) = upd (g.1.2 0) c (nI pl) j
    by_cases z : j = c
    · rw [z, upd_s, upd_s]
    · rw [upd_n z, upd_n (by omega)]; exact r.dH j hj
theorem PF.lo {S d d' : Nat → Int32} (hp : PF S cnt d h) (h14 : d' 14 = d 14) (hd : ∀ k, 464 ≤ k → d' k = d k) : PF S cnt d' h := hp.cg (fun _ _ => rfl) h14 hd
theorem x_codeOf {a c : Nat} (ha : a ≤ 9) (hc : c ≤ 9) : f_X8_codeOf (nI a) (nI c) = some (nI (10 * min a c + max a c)) := by
  unfold f_X8_codeOf f_X8_min
  rw [ie_le (by omega) (by omega)]
  by_cases z : c ≤ a
  · rw [if_pos z, bd1_S, bd1_S, i_10, nI_mul, nI_add, nI_add, nI_sub (by omega), show 10 * c + a + c - c = 10 * min a c + max a c by omega]
  · rw [if_neg z, bd1_S, bd1_S, i_10, nI_mul, nI_add, nI_add, nI_sub (by omega), show 10 * a + a + c - a = 10 * min a c + max a c by omega]
/-- a tile given -/
def TP (rd : RS) (x : MS) (b : Nat → Int32) (N p mx np hs hb hf sf rf gf cnt h : Nat) (o : Option (Int32 × RS)) (o' : Option MS) : Prop := ∃ r rd' x', o = some (r, rd') ∧ o' = some x' ∧ GG rd rd' ∧ MG x x' ∧ ((r = 1 ∧ ∃ p', p < p' ∧ PR rd' x' b N p' mx np hs hb hf sf rf gf cnt h) ∨ (r = 0 ∧ ER rd' x'))
theorem x_tileEnd {r8 c : Int32} {y z : MS} (hg : ¬ z.1.1 4 = 0) (pl : Int32) : f_X8_readTile_J86 pl y c z = some z := by
  unfold f_X8_readTile_J86 f_X8_readTile_J117
  rw [x_bad hg, bd1_S, if_pos rfl, bd1_S, if_pos rfl]
theorem p_tile {pl : Nat} (f : PR rd x b N p mx np hs hb hf sf rf 1 cnt h) (hN : N ≤ 500) (hpl : pl < np) : TP rd x b N p mx np hs hb hf sf rf 1 cnt h (f_X3_readTile rd (nI pl)) (f_X8_readTile x (nI pl)) := by
  have hpd := f.pd
  have hmx := hpd.mx
  have hhb := hpd.hb
  have hhs := hpd.hs
  have hnp := hpd.np
  obtain ⟨r, r2, rd1, x1, a1, a2, a3, a4, a5⟩ := p_num (lo := 0) (hi := mx) f.lx f.ok hN (by omega) (by omega)
  have a1' : f_X3_takeNumber rd 0 (rd.2.2.1.1 0) = some (r, rd1) := by rw [hmx.1]; exact a1
  have a2' : f_X8_number x 0 (x.1.2 2 0) = some (r2, x1) := by rw [hpd.d0]; exact a2
  unfold f_X3_readTile f_X8_readTile
  simp only [gl_0, cl_0]
  rw [a1', a2', bd2_S, bd2_S]
  rcases a5 with ⟨v, p1, rfl, rfl, -, v2, v3, v4, v5, v6, v7⟩ | ⟨rfl, er⟩
  · have f1 := f.cf a3 a4 v5 v6 (by omega)
    obtain ⟨s, rd2, x2, b1, b2, b3, b4, b5⟩ := p_sign (c := 45) f1.lx f1.ok hN sg_45.1 sg_45.2.1 sg_45.2.2
    rw [if_neg (show ¬ (1 : Int32) = 0 by decide), b1, b2, bd2_S, bd1_S]
    rcases b5 with ⟨rfl, p2, w1, w2, w3⟩ | ⟨rfl, er⟩
    · have f2 := f1.cf b3 b4 w1 w2 (by omega)
      obtain ⟨s3, r3, rd3, x3, c1, c2, c3, c4, c5⟩ := p_num (lo := 0) (hi := mx) f2.lx f2.ok hN (by omega) (by omega)
      have c1' : f_X3_takeNumber rd2 0 (rd2.2.2.1.1 0) = some (s3, rd3) := by rw [f2.pd.mx.1]; exact c1
      have c2' : f_X8_number x2 0 (x2.1.2 2 0) = some (r3, x3) := by rw [f2.pd.d0]; exact c2
      rw [if_neg (show ¬ (1 : Int32) = 0 by decide), c1', c2', bd2_S, bd2_S]
      have gg3 : GG rd rd3 := ((a3.cg.tr b3.cg).tr c3.cg).gg
      have mg3 : MG x x3 := ((a4.lg.tr b4.lg).tr c4.lg).mg
      rcases c5 with ⟨u, p3, rfl, rfl, -, u2, u3, u4, u5, u6, u7⟩ | ⟨rfl, er⟩
      · have f3 := f2.cf c3 c4 u5 u6 (by omega)
        obtain ⟨c, ec⟩ : ∃ c, c = 10 * min v u + max v u := ⟨_, rfl⟩
        have hc : c < 100 := by omega
        have hin : inS mx c := by
          have h1 : c / 10 = min v u := by omega
          have h2 : c % 10 = max v u := by omega
          unfold inS
          rw [h1, h2]; omega
        have ecl : (10 * (if rd3.1.1 0 < rd1.1.1 0 then rd3.1.1 0 else rd1.1.1 0)) + (if rd1.1.1 0 < rd3.1.1 0 then rd3.1.1 0 else rd1.1.1 0) = nI c := by
          rw [u3, v3, ie_lt (by omega) (by omega), ie_lt (by omega) (by omega)]
          by_cases z : u < v
          · rw [if_pos z, if_neg (by omega), i_10, nI_mul, nI_add, ec, show 10 * u + v = 10 * min v u + max v u by omega]
          · rw [if_neg z]
            by_cases z2 : v < u
            · rw [if_pos z2, i_10, nI_mul, nI_add, ec, show 10 * v + u = 10 * min v u + max v u by omega]
            · rw [if_neg z2, i_10, nI_mul, nI_add, ec, show 10 * v + v = 10 * min v u + max v u by omega]
        have g3 : x3.1.1 4 = 0 := f3.ok.2.2.1
        have off : rd.2.1.1 3 = nI (sp b N p) := f.lx.1.2.2.1
        have h8 : x1.1.1 8 = nI (sp b N p) := v4
        rw [if_neg (show ¬ (1 : Int32) = 0 by decide), ecl, nmd_S, e_free f3.pd.hb.1 (by omega) hc, bd1_S, x_codeOf (by omega) (by omega), bd1_S, ← ec, x_good g3, bd1_S, if_neg (show ¬ (1 : Int32) = 0 by decide), i_19, nI_add, inb_t (by omega) (by omega), gd_T, nI_clamp (by omega), f3.pd.dH c hc, gl_3, cl_3, f3.pd.d3, show (11 : Int32) * nI hb = nI (11 * hb) from nI_mul 11 hb, ie_eq (by omega) (by omega), off]
        -- repeated
        have rep : TP rd x b N p mx np hs hb hf sf rf 1 cnt h (bd2 (f_X3_fail rd3 (-4) (nI (sp b N p))) fun (r94 : Int32) (rd94 : RS) => gd (isb r94) <| some (r94, rd94)) (f_X8_readTile_J79 (nI pl) x1 x3 (nI c)) := by
          unfold f_X8_readTile_J79
          rw [fail_e, bd2_S, show isb 0 = true from rfl, gd_T, x_report g3, bd1_S, x_tileEnd (r8 := 0) (by show ¬ (-4 : Int32) = 0; decide)]
          exact ⟨0, _, _, rfl, rfl, gg3.tr fail_f.cg.gg, mg3.tr ⟨fun k hk => by
            show upd (upd x3.1.1 4 _) 5 _ k = _
            rw [upd_n (by omega), upd_n (by omega)], fun _ _ => rfl, rfl⟩, Or.inr ⟨rfl, -4, nI (sp b N p), by decide, rfl, rfl, rfl, h8⟩⟩
        by_cases hfree : rd3.2.2.1.2 0 c = -1
        · rw [if_pos hfree]
          by_cases hhub : c = 11 * hb
          · rw [if_neg (show ¬ (rd3.2.2.1.2 0 c = -1 ∧ ¬ c = 11 * hb) from fun z => z.2 hhub), if_pos rfl, if_pos hhub]
            exact rep
          · rw [if_pos (show (rd3.2.2.1.2 0 c = -1 ∧ ¬ c = 11 * hb) from ⟨hfree, hhub⟩), if_neg (show ¬ (1 : Int32) = 0 by decide), if_neg hhub, e_handCount, bd1_S, f3.pd.hs.1]
            unfold f_X8_readTile_J86
            have hle := hcN_le (rd3.2.2.1.2 0) (nI pl)
            have hhc := f3.hc pl hpl
            rw [x_good g3, bd1_S, if_neg (show ¬ (1 : Int32) = 0 by decide), x_handOf (by omega) (by omega), bd1_S, gl_2, cl_2, f3.pd.d2, hcN_congr (nI pl) f3.pd.dH, ie_lt (by omega) (by omega), ie_eq (by omega) (by omega)]
            by_cases hfull : hcN (rd3.2.2.1.2 0) (nI pl) < hs
            · unfold f_X8_readTile_J117
              rw [if_pos hfull, if_neg (by omega), e_put hc (by omega), bd1_S, x_good g3, bd1_S, if_neg (show ¬ (1 : Int32) = 0 by decide), i_19, nI_add, inb_t (by omega) (by omega), gd_T, nI_clamp (by omega), nmd_S]
              refine ⟨1, _, _, rfl, rfl, gg3.tr ⟨fun _ _ => rfl, rfl, rfl, rfl, rfl⟩, mg3.tr ⟨fun _ _ => rfl, fun i hi => upA_n hi, rfl⟩, Or.inl ⟨rfl, p3, by omega, ?_⟩⟩
              refine ⟨?_, f3.ok, f3.pd.put hpl hc hin hhub, f3.c1, f3.c2, f3.c3, f3.c4, f3.m10, f3.m11, fun z => absurd z (by omega), fun q hq => ?_, f3.c5, f3.pf.lo (upd_n (by omega)) (fun k hk => upd_n (by omega)), f3.cp, f3.r0, f3.r1, (upd_n (by omega)).trans f3.m13, f3.m9, f3.fo⟩
              · obtain ⟨k1, k2, q, k3, k4⟩ := f3.lx
                exact ⟨k1, k2, q, ⟨k3.1, k3.2.1, k3.2.2⟩, k4⟩
              · show hcN (upd (rd3.2.2.1.2 0) c (nI pl)) (nI q) ≤ hs
                rw [hcN_put hc hfree (by omega) (by omega)]
                have := f3.hc q hq
                by_cases z : q = pl
                · rw [if_pos z, z]; omega
                · rw [if_neg z]; omega
            · have he : hcN (rd3.2.2.1.2 0) (nI pl) = hs := by omega
              unfold f_X8_readTile_J117
              rw [if_neg hfull, if_pos he, fail_e, bd2_S, show isb 0 = true from rfl, gd_T, x_report g3, bd1_S, x_bad (x := ((ss (ss x3.1 4 (-5)) 5 (x1.1.1 8)), x3.2)) (show ¬ (-5 : Int32) = 0 by decide), bd1_S, if_pos rfl]
              exact ⟨0, _, _, rfl, rfl, gg3.tr fail_f.cg.gg, mg3.tr ⟨fun k hk => by
                show upd (upd x3.1.1 4 _) 5 _ k = _
                rw [upd_n (by omega), upd_n (by omega)], fun _ _ => rfl, rfl⟩, Or.inr ⟨rfl, -5, nI (sp b N p), by decide, rfl, rfl, rfl, h8⟩⟩
        · rw [if_neg hfree, if_neg (show ¬ (rd3.2.2.1.2 0 c = -1 ∧ ¬ c = 11 * hb) from fun z => hfree z.1), if_pos rfl]
          exact rep
      · have e9 : ∀ v2, ∃ c, f_X8_codeOf v2 r3 = some c := fun v2 => by
          unfold f_X8_codeOf f_X8_min
          split <;> exact ⟨_, rfl⟩
        obtain ⟨cc, hcc⟩ := e9 (nI v)
        rw [if_pos rfl, hcc, bd1_S, x_bad er.bad, bd1_S, if_pos rfl, x_tileEnd (r8 := 0) er.bad]
        exact ⟨0, rd3, x3, rfl, rfl, gg3, mg3, Or.inr ⟨rfl, er⟩⟩
    · have e9 : ∀ v2, ∃ c, f_X8_codeOf v2 0 = some c := fun v2 => by
        unfold f_X8_codeOf f_X8_min
        split <;> exact ⟨_, rfl⟩
      obtain ⟨cc, hcc⟩ := e9 (nI v)
      rw [if_pos rfl, x_numberB er.bad, bd2_S, hcc, bd1_S, x_bad er.bad, bd1_S, if_pos rfl, x_tileEnd (r8 := 0) er.bad]
      exact ⟨0, rd2, x2, rfl, rfl, (a3.cg.tr b3.cg).gg, (a4.lg.tr b4.lg).mg, Or.inr ⟨rfl, er⟩⟩
  · have e9 : ∀ v2, ∃ c, f_X8_codeOf v2 0 = some c := fun v2 => by
      unfold f_X8_codeOf f_X8_min
      split <;> exact ⟨_, rfl⟩
    obtain ⟨cc, hcc⟩ := e9 r2
    rw [if_pos rfl, x_expectB er.bad, bd1_S, x_numberB er.bad, bd2_S, hcc, bd1_S, x_bad er.bad, bd1_S, if_pos rfl, x_tileEnd (r8 := 0) er.bad]
    exact ⟨0, rd1, x1, rfl, rfl, a3.cg.gg, a4.lg.mg, Or.inr ⟨rfl, er⟩⟩
theorem x_tileB {v : Int32} (hg : ¬ x.1.1 4 = 0) : f_X8_readTile x v = some x := by
  obtain ⟨cc, hcc⟩ : ∃ c, f_X8_codeOf 0 0 = some c := by
    unfold f_X8_codeOf f_X8_min
    split <;> exact ⟨_, rfl⟩
  unfold f_X8_readTile
  rw [gl_0, x_numberB hg, bd2_S, x_expectB hg, bd1_S, gl_0, x_numberB hg, bd2_S, hcc, bd1_S, x_bad hg, bd1_S, if_pos rfl, x_tileEnd (r8 := 0) hg]
/-- tiles given, one after another -/
theorem p_tiles {pl : Nat} {rd0 : RS} (hpl : pl < np) (h0 : rd0.1.1 0 = nI pl) (hN : N ≤ 500) : ∀ m f1 f2 more p (rd : RS) (x : MS), m < f1 → m < f2 → p + m = N → more ≤ p → PR rd x b N p mx np hs hb hf sf rf 1 cnt h → TP rd x b N p mx np hs hb hf sf rf 1 cnt h (bd2 (f_X3_readTile rd (nI pl)) fun (r38 : Int32) (rd38 : RS) => itr3 (f_X3_readGive_B44 rd0) f1 r38 (nI more) rd38) (itr1 (f_X8_readGive_B19 (nI pl)) f2 x) := by
  intro m
  induction m using Nat.strongRecOn with
  | ind m ih =>
    intro f1 f2 more p rd x hf1 hf2 hpm hmo f
    obtain ⟨f1, rfl⟩ : ∃ k, f1 = k + 1 := ⟨f1 - 1, by omega⟩
    obtain ⟨f2, rfl⟩ : ∃ k, f2 = k + 1 := ⟨f2 - 1, by omega⟩
    obtain ⟨r, rd1, x1, a1, a2, a3, a4, a5⟩ := p_tile f hN hpl
    have ih2 : ∀ more p' (rd : RS) (x : MS), N - p' < m → p' ≤ N → more ≤ p' → PR rd x b N p' mx np hs hb hf sf rf 1 cnt h → TP rd x b N p' mx np hs hb hf sf rf 1 cnt h (bd2 (f_X3_readTile rd (nI pl)) fun (r38 : Int32) (rd38 : RS) => itr3 (f_X3_readGive_B44 rd0) f1 r38 (nI more) rd38) (itr1 (f_X8_readGive_B19 (nI pl)) f2 x) := fun more p' rd x h1 h2 h3 g => ih (N - p') h1 f1 f2 more p' rd x (by omega) (by omega) (by omega) h3 g
    show TP _ _ _ _ _ _ _ _ _ _ _ _ _ _ _ (bd2 (f_X3_readTile rd (nI pl)) fun (r38 : Int32) (rd38 : RS) => f_X3_readGive_B44 rd0 (itr3 (f_X3_readGive_B44 rd0) f1) r38 (nI more) rd38) (f_X8_readGive_B19 (nI pl) (itr1 (f_X8_readGive_B19 (nI pl)) f2) x)
    generalize itr3 (f_X3_readGive_B44 rd0) f1 = R1 at ih2 ⊢
    generalize itr1 (f_X8_readGive_B19 (nI pl)) f2 = R2 at ih2 ⊢
    unfold f_X8_readGive_B19
    rw [a1, a2, bd2_S, bd1_S]
    unfold f_X3_readGive_B44
    rcases a5 with ⟨rfl, p1, hp1, g1⟩ | ⟨rfl, er⟩
    · have hp1N := g1.lx.2.1
      have hs1 : sp b N p1 ≤ N := en_le hp1N
      have hps1 : p1 ≤ sp b N p1 := en_ge
      obtain ⟨y, b1, b2, b3⟩ := g1.lx.ah hN
      rw [if_neg (show ¬ (1 : Int32) = 0 by decide), e_isNumber g1.lx.1, bd1_S, x_good g1.ok.2.2.1, bd1_S, if_neg (show ¬ (1 : Int32) = 0 by decide), b1, bd2_S, x_isDigit, bd1_S]
      simp only [bt_dg hs1]
      by_cases hd : sp b N p1 < en isDg b N (sp b N p1)
      · have hle : en isDg b N (sp b N p1) ≤ N := en_le hs1
        rw [if_pos hd, if_neg (show ¬ (1 : Int32) = 0 by decide), if_neg (show ¬ (1 : Int32) = 0 by decide), i_500, ie_le (by omega) (by omega), if_neg (by omega), h0, nI_1]
        obtain ⟨r2, rd2, x2, c1, c2, c3, c4, c5⟩ := ih2 (more + 1) p1 rd1 y (by omega) (by omega) (by omega) (g1.w3 b2)
        rw [c1, c2]
        refine ⟨r2, rd2, x2, rfl, rfl, a3.tr c3, (a4.tr b2.lf.lg.mg).tr c4, ?_⟩
        rcases c5 with ⟨e1, p2, e2, e3⟩ | c5
        · exact Or.inl ⟨e1, p2, by omega, e3⟩
        · exact Or.inr c5
      · rw [if_neg hd, if_pos rfl, if_pos rfl, show isb 1 = true from rfl, gd_T]
        exact ⟨1, rd1, y, rfl, rfl, a3, a4.tr b2.lf.lg.mg, Or.inl ⟨rfl, p1, hp1, g1.w3 b2⟩⟩
    · rw [if_pos rfl, show isb 0 = true from rfl, gd_T, x_bad er.bad, bd1_S, if_pos rfl]
      exact ⟨0, rd1, x1, rfl, rfl, a3, a4, Or.inr ⟨rfl, er⟩⟩
end P
