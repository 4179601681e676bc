/-! both objects tell the same; a text is loaded -/
/-- the rows of the last search -/
def RW (S : SA) : Prop := ∃ F, F ≤ 4096 ∧ S.1 2 = nI F ∧ (∀ k, k < F → ∃ m, m < 4096 ∧ S.2 1 k = nI m) ∧ ∀ m, m < 4096 → (∀ k, k < F → ¬ S.2 1 k = nI m) → S.2 2 m = 0 ∧ S.2 3 m = 0
/-- the reader between texts -/
def RI (rd : RS) (x : MS) : Prop := (∃ st, st ≤ 500 ∧ rd.2.1.1 0 = nI st ∧ x.1.1 1 = nI st) ∧ rd.2.1.2 0 = x.1.2 0 ∧ BY (x.1.2 0) ∧ rd.1.1 7 = x.1.1 6 ∧ (rd.2.2.1.1 6 = 0 ∧ rd.2.2.1.1 8 = 0 ∧ rd.2.2.1.1 9 = 0) ∧ ∀ p, p < 4 → rd.2.2.1.2 1 p = 0
def Sim (s : HS) (x : MS) (ps : PS) : Prop := GR ps s.2.1 (dd x) ∧ (∃ u, u ≤ 8 ∧ s.1.1 1 = nI u ∧ x.1.1 7 = nI u ∧ HR ps s.2.2.2.1 x.1.2 (s.1.1 0) u) ∧ RI s.2.2.2.2.1 x ∧ RW s.2.2.2.2.2
def CR {α : Type} (J : Int32 → RS → Option α) (rd : RS) (p0 : Int32) : Option α :=
  bd1 (f_X1_clearHands rd.2.2) fun (g4 : GS) => bd1 (f_X5_begin rd.2.1 p0) fun (tk55 : SA) => bd2 (f_X3_readHead ((ss (ss (ss (ss (ss (ss (ss rd.1 1 0) 2 0) 3 0) 5 0) 4 0) 6 0) 7 (-1)), tk55, (g4.1, none, g4.2.2.1, g4.2.2.2))) fun (r59 : Int32) (rd59 : RS) => itr3 (BJ J) FUEL r59 0 rd59
theorem CR_f (rd : RS) (p0 : Int32) : f_X3_read rd p0 = CR f_X3_read_J114 rd p0 := rfl
theorem CR_g (rd : RS) (p0 : Int32) : g_X3_read rd p0 = CR g_X3_read_J114 rd p0 := rfl
/-- the model as a text begins -/
def X0 (x : MS) (N : Nat) : MS := ((ss (ss (ss (ss (ss (ss (ss (ss (ss x.1 0 0) 1 0) 2 (nI N)) 3 0) 4 0) 5 (-1)) 9 0) 10 0) 11 0), x.2)
theorem PD.gq {g g' : GS} {d : Nat → Int32} {mx np hs hb : Nat} (q : gEq g' g) (r : PD g d mx np hs hb) : PD g' d mx np hs hb := ⟨by rw [q.S 0 (by omega)]; exact r.mx, by rw [q.S 1 (by omega)]; exact r.np, by rw [q.S 2 (by omega)]; exact r.hs, by rw [q.S 3 (by omega)]; exact r.hb, r.d0, r.d1, r.d2, r.d3, by rw [q.S 4 (by omega)]; exact r.sd, by rw [q.S 9 (by omega)]; exact r.d9, fun p hp => by rw [q.tot p hp]; exact r.tot p hp, fun c hc => by rw [q.H c hc]; exact r.H c hc, fun c hc => by rw [q.H c hc]; exact r.dH c hc⟩
section P
variable {rd : RS} {x : MS} {N st : Nat}
theorem m_load (hst : x.1.1 1 = nI st) (h5 : st ≤ 500) (hN : N ≤ st) : f_X8_load x (nI N) = (bd2 (f_X8_takeWord (X0 x N) 0) fun (r75 : Int32) (x75 : MS) => if r75 = 0 then (bd1 (f_X8_report x75 (-2) (x75.1.1 3)) fun (x88 : MS) => f_X8_load_J91 x88) else (f_X8_load_J91 x75)) := by
  unfold f_X8_load f_X8_load_J23
  rw [hst, show f_X8_in (nI N) 0 (nI st) = some 1 from (x_in (b := 0) (by omega) (by omega) (by omega)).trans (by rw [if_pos ⟨Nat.zero_le _, hN⟩]), bd1_S, if_neg (show ¬ (1 : Int32) = 0 by decide)]
  have e : f_X8_fails ((ss x.1 0 0), x.2) 0 1 = some (0, ((ss x.1 0 0), x.2)) := by
    unfold f_X8_fails f_X8_fails_J16
    rw [if_pos rfl]
    exact if_pos rfl
  rw [e, bd2_S, if_pos rfl]
  rfl
theorem e_clearHands (g : GS) : ∃ H, f_X1_clearHands g = some ((sa g.1 0 H), g.2.1, g.2.2.1, g.2.2.2) ∧ ∀ c, c < 100 → H c = -1 := by
  obtain ⟨H, e1, e2⟩ := e_fill (n := 100) (h0 := g.1.2 0) (v := -1) (by omega)
  unfold f_X1_clearHands
  rw [e1, bd1_S]
  exact ⟨H, rfl, e2⟩
/-- what reading leaves of a reader -/
def RF (rd rd' : RS) : Prop := (∀ k, 5 ≤ k → rd'.2.2.1.1 k = rd.2.2.1.1 k) ∧ rd'.2.2.1.2 1 = rd.2.2.1.2 1 ∧ rd'.2.1.2 = rd.2.1.2 ∧ rd'.2.1.1 0 = rd.2.1.1 0
theorem s_read (hR : RI rd x) (hN : N ≤ 500) : ∃ v rd' x', (∀ (α : Type) (J : Int32 → RS → Option α), CR J rd (nI N) = J v rd') ∧ (bd2 (f_X8_takeWord (X0 x N) 0) fun (r75 : Int32) (x75 : MS) => if r75 = 0 then (bd1 (f_X8_report x75 (-2) (x75.1.1 3)) fun (x88 : MS) => f_X8_load_J91 x88) else (f_X8_load_J91 x75)) = f_X8_load_J154 x' ∧ RF rd rd' ∧ MG (X0 x N) x' ∧ ((v = 1 ∧ ∃ mx np hs p', PX rd' x' (x.1.2 0) N p' mx np hs) ∨ (v = 0 ∧ ER rd' x')) := by
  obtain ⟨-, hb, hB, -, ⟨h6, h8, h9⟩, hT⟩ := hR
  obtain ⟨H, c1, c2⟩ := e_clearHands rd.2.2
  obtain ⟨tk, t1, t2, t3, t4⟩ := e_begin (tk := rd.2.1) hb hN
  have eC : ∀ (α : Type) (J : Int32 → RS → Option α), CR J rd (nI N) = bd2 (f_X3_readHead ((ss (ss (ss (ss (ss (ss (ss rd.1 1 0) 2 0) 3 0) 5 0) 4 0) 6 0) 7 (-1)), tk, ((sa rd.2.2.1 0 H), none, rd.2.2.2.2.1, rd.2.2.2.2.2))) fun (r59 : Int32) (rd59 : RS) => itr3 (BJ J) FUEL r59 0 rd59 := fun α J => by
    unfold CR
    rw [c1, bd1_S, t1, bd1_S]
  obtain ⟨r, rd1, x1, a1, a2, a3, a4, a5⟩ := p_head (rd := ((ss (ss (ss (ss (ss (ss (ss rd.1 1 0) 2 0) 3 0) 5 0) 4 0) 6 0) 7 (-1)), tk, ((sa rd.2.2.1 0 H), none, rd.2.2.2.2.1, rd.2.2.2.2.2))) (x := X0 x N) (b := x.1.2 0) (N := N) ⟨t2, Nat.zero_le _, 0, ⟨rfl, rfl, rfl, Nat.zero_le _⟩, rfl⟩ ⟨rfl, rfl, rfl, rfl⟩ hN rfl rfl rfl rfl rfl rfl rfl rfl c2 hT h9 rfl
  have f1 : RF rd rd1 := ⟨a3.1, a3.2.1, a3.2.2.2.1.trans t3, a3.2.2.2.2.trans t4⟩
  rcases a5 with ⟨rfl, mx, np, hs, p1, hX⟩ | ⟨rfl, er⟩
  · have hp1 : p1 ≤ N := by
      obtain ⟨_, _, _, _, _, _, _, f⟩ := hX
      exact f.lx.2.1
    obtain ⟨v, rd2, x2, b1, b2, b3, b4, b5⟩ := p_text hN hB (N - p1) FUEL FUEL 0 p1 rd1 x1 (by show N - p1 + 1 < 2000000; omega) (by show N - p1 + 1 < 2000000; omega) (by omega) (by omega) hX
    refine ⟨v, rd2, x2, fun α J => ?_, a2.trans b2, ⟨fun k hk => (b3.1 k hk).trans (f1.1 k hk), b3.2.1.trans f1.2.1, b3.2.2.2.1.trans f1.2.2.1, b3.2.2.2.2.trans f1.2.2.2⟩, a4.tr b4, ?_⟩
    · rw [eC α J, a1, bd2_S]
      exact b1 α J
    · rcases b5 with ⟨e1, p2, e2⟩ | b5
      · exact Or.inl ⟨e1, mx, np, hs, p2, e2⟩
      · exact Or.inr b5
  · refine ⟨0, rd1, x1, fun α J => ?_, a2.trans (bm_0 1999999 er.bad), f1, a4, Or.inr ⟨rfl, er⟩⟩
    rw [eC α J, a1, bd2_S]
    exact bj_0 J 1999999 _ _
end P
section L
variable {s : HS} {x : MS} {ps : PS} {N : Nat}
/-- a text that is fine: what both do then -/
theorem s_loaded {rd1 : RS} {x1 : MS} {mx np hs hb hf sf rf gf cnt h p : Nat} (hS : Sim s x ps) (hx : MG (X0 x N) x1) (f : PR rd1 x1 (x.1.2 0) N p mx np hs hb hf sf rf gf cnt h) (rdF : RS) (fo : Option Nat) (hG : rdF.2.2 = (rd1.2.2.1, fo, rd1.2.2.2.2.1, rd1.2.2.2.2.2)) (h6 : rd1.2.2.1.1 6 = 0) (h8 : rd1.2.2.1.1 8 = 0) :
    ∃ r s2 s' x' d', (bd1 (f_X7_remember (s.1, s.2.1, s.2.2.1, s.2.2.2.1, rdF, s.2.2.2.2.2)) fun (s742 : HS) => bd1 (f_X1_takeOver s742.2.1 s742.2.2.2.2.1.2.2) fun (g56 : GS) => bd1 (f_X1_dealRound g56) fun (g63 : GS) => bd1 (f_X4_size g63.2.2.1) fun (r73 : Int32) => some (r73, (s742.1, g63, s742.2.2.1, s742.2.2.2.1, s742.2.2.2.2.1, s742.2.2.2.2.2))) = some (r, s') ∧ f_X8_load_J154 x1 = some (r, x') ∧
      s'.2.2 = (s2 : GS × (Nat → GS) × RS × SA) ∧ s2.2.2.1 = rdF ∧ s2.2.2.2 = s.2.2.2.2.2 ∧ s'.2.1.2.1 = fo ∧ Fq (x1.1.2 2) d' ∧ (∀ k, k < 1464 → dd x' k = d' k) ∧
      (∃ mx np hs hb f e, Inv s'.2.1 mx np hs hb 0 0 f e 0 ∧ Rel s'.2.1 (dd x') np f e 0) ∧
      (∃ u, u ≤ 8 ∧ s'.1.1 1 = nI u ∧ x'.1.1 7 = nI u ∧ HR ps s'.2.2.2.1 x'.1.2 (s'.1.1 0) u) ∧ x'.1.1 1 = 0 ∧ x'.1.1 6 = x1.1.1 5 ∧ x'.1.2 0 = x.1.2 0 ∧ x'.1.1 0 = 0 := by
  obtain ⟨hG0, ⟨u, hu, hs1, hx1, hH⟩, hRI, hRW⟩ := hS
  have hpd := f.pd
  have hpd' : PD rdF.2.2 (x1.1.2 2) mx np hs hb := by
    rw [hG]; exact ⟨hpd.mx, hpd.np, hpd.hs, hpd.hb, hpd.d0, hpd.d1, hpd.d2, hpd.d3, hpd.sd, hpd.d9, hpd.tot, hpd.H, hpd.dH⟩
  have hg4 : ((ss x1.1 6 (x1.1.1 5)), x1.2).1.1 4 = 0 := f.ok.2.2.1
  have k6 : rdF.2.2.1.1 6 = 0 ∨ rdF.2.2.1.1 6 = 1 := Or.inl (by rw [hG]; exact h6)
  have k8 : rdF.2.2.1.1 8 = 0 ∨ rdF.2.2.1.1 8 = 1 := Or.inl (by rw [hG]; exact h8)
  -- the reference's row is dealt first
  obtain ⟨g9, t1, t2⟩ := e_takeOver (g := s.2.1) (go := rdF.2.2) k6 k8
  obtain ⟨g', d', f', e', D1, D2, D3, D4, D5, D6, D7⟩ := s_dealRound (hpd'.gq t2)
  -- and all is remembered
  obtain ⟨sR, xR, u', q1, q2, q3, q4, q5, q6, q7, q8, q9, q10, q11, q12, q13, q14⟩ := s_remember (s := (s.1, s.2.1, s.2.2.1, s.2.2.2.1, rdF, s.2.2.2.2.2)) (x := ((sa (ss x1.1 6 (x1.1.1 5)) 2 d'), x1.2)) (ps := ps) (u := u)
    (by
      show GR ps s.2.1 (x1.1.2 1)
      rw [hx.2.1 1 (by omega)]; exact hG0)
    hu hs1 ((hx.1 7 (by omega)).trans hx1)
    (fun i hi => by
      show GR ps (s.2.2.2.1 _) (upA x1.1.2 2 d' (10 + i))
      rw [upA_n (by omega), hx.2.1 (10 + i) (by omega)]; exact hH i hi)
  obtain ⟨h1, w1, w2, -⟩ := x_copy (n0 := 1464) (n1 := 1464) (N := 1464) (xR.1.2 2) (xR.1.2 1) (by omega) (by omega) (by omega) (by omega) (by omega)
  have w3 : xR.1.2 2 = d' := q13 2 (by omega)
  have hnp := D3.np
  have hcnt := D3.cnt
  have rel : Rel g' h1 np f' e' 0 := D4.cg hnp.2.2 D3.st.2.2.2 (by omega) (fun k hk => by rw [w2 k hk, w3])
  refine ⟨nI (e' - f'), sR.2.2, (sR.1, g', sR.2.2), ((sa xR.1 1 h1), xR.2), d', ?_, ?_, rfl, ?_, ?_, ?_, D6, fun k hk => ?_, ⟨mx, np, hs, hb, f', e', D3, rel⟩, ⟨u', q3, q4, q5, fun i hi => ?_⟩, ?_, ?_, ?_, (q12 0 (by omega)).trans (hx.1 0 (by omega))⟩
  · rw [q1, bd1_S, q9, q11]
    show bd1 (f_X1_takeOver s.2.1 rdF.2.2) _ = _
    rw [t1, bd1_S, D1, bd1_S, c_size D3, bd1_S]
    have e9 : sR.2.2.2.2 = (rdF, s.2.2.2.2.2) := q11
    show some (nI (e' - f'), (sR.1, g', sR.2.2.1, sR.2.2.2.1, rdF, s.2.2.2.2.2)) = some (nI (e' - f'), (sR.1, g', sR.2.2.1, sR.2.2.2.1, sR.2.2.2.2))
    rw [e9]
  · unfold f_X8_load_J154
    rw [x_good hg4, bd1_S, if_neg (show ¬ (1 : Int32) = 0 by decide), D2, bd1_S]
    show bd1 (f_X8_remember ((sa (ss x1.1 6 (x1.1.1 5)) 2 d'), x1.2)) _ = _
    rw [q2, bd1_S, i_1464, w1, bd1_S, gl_7, cl_7, rel.d7]
  · show sR.2.2.2.2.1 = rdF
    rw [q11]
  · show sR.2.2.2.2.2 = s.2.2.2.2.2
    rw [q11]
  · show g'.2.1 = fo
    rw [D5, t2.fo, hG]
  · show h1 k = d' k
    rw [w2 k hk, w3]
  · show GR ps (sR.2.2.2.1 _) (upA xR.1.2 1 h1 (10 + i))
    rw [upA_n (by omega)]
    exact q6 i hi
  · exact (q12 1 (by omega)).trans (hx.1 1 (by omega))
  · exact q12 6 (by omega)
  · show upA xR.1.2 1 h1 0 = _
    rw [upA_n (by omega), q13 0 (by omega)]
    exact hx.2.1 0 (by omega)
theorem s_load (hS : Sim s x ps) (hN : ∃ st, s.2.2.2.2.1.2.1.1 0 = nI st ∧ x.1.1 1 = nI st ∧ st ≤ 500 ∧ N ≤ st) :
    (∃ r s' x', f_X7_load s (nI N) = some (r, s') ∧ f_X8_load x (nI N) = some (r, x') ∧ Sim s' x' ps ∧ x'.1.1 0 = 0) ∨
    (∃ (rd1 : RS) (cnt : Nat) (r : Int32) (x' : MS) (s' : Nat → HS), g_X3_read s.2.2.2.2.1 (nI N) = some rd1 ∧ hFn rd1 = nI cnt ∧ cnt < 500 ∧ (∀ fa, v_X7_load s rd1 fa = some (r, s' fa)) ∧ f_X8_load x (nI N) = some (r, x') ∧ x'.1.1 0 = 0 ∧ ∀ fa p1 p2, (∀ z ∈ ps, ¬ z.1 = fa) → Sim (s' fa) x' (ps ++ [(fa, p1, p2, cnt, hFs rd1)])) := by
  obtain ⟨st, n1, n2, n3, n4⟩ := hN
  obtain ⟨hG0, hHist, hRI, hRW⟩ := hS
  have hS : Sim s x ps := ⟨hG0, hHist, hRI, hRW⟩
  obtain ⟨v, rd1, x1, a1, a2, a3, a4, a5⟩ := s_read hRI (N := N) (by omega)
  have eM : f_X8_load x (nI N) = f_X8_load_J154 x1 := (m_load n2 n3 n4).trans a2
  have eC : ∀ (k : Int32 → RS → Option (Int32 × HS)), f_X7_load s (nI N) = (bd2 (f_X3_read_J114 v rd1) fun (r31 : Int32) (rd31 : RS) => if r31 = 0 then (bd1 (f_X7_remember (s.1, s.2.1, s.2.2.1, s.2.2.2.1, rd31, s.2.2.2.2.2)) fun (s742 : HS) => bd1 (f_X1_takeOver s742.2.1 s742.2.2.2.2.1.2.2) fun (g56 : GS) => bd1 (f_X1_dealRound g56) fun (g63 : GS) => bd1 (f_X4_size g63.2.2.1) fun (r73 : Int32) => some (r73, (s742.1, g63, s742.2.2.1, s742.2.2.2.1, s742.2.2.2.2.1, s742.2.2.2.2.2))) else (some (r31, (s.1, s.2.1, s.2.2.1, s.2.2.2.1, rd31, s.2.2.2.2.2)))) := fun _ => by
    unfold f_X7_load
    rw [if_neg (nI_lt0 (by omega)), n1, ie_le (by omega) (by omega), if_pos n4, CR_f, a1]
  obtain ⟨r1, r2, r3, r4, ⟨r5, r6, r7⟩, r8⟩ := hRI
  have g6 : rd1.2.2.1.1 6 = 0 := (a3.1 6 (by omega)).trans r5
  have g8 : rd1.2.2.1.1 8 = 0 := (a3.1 8 (by omega)).trans r6
  have g9 : rd1.2.2.1.1 9 = 0 := (a3.1 9 (by omega)).trans r7
  have gT : ∀ p, p < 4 → rd1.2.2.1.2 1 p = 0 := fun p hp => by rw [a3.2.1]; exact r8 p hp
  have gb : rd1.2.1.2 0 = x.1.2 0 := by rw [a3.2.2.1]; exact r2
  rcases a5 with ⟨rfl, mx, np, hs, p, hb, hf, sf, rf, gf, cnt, h, f⟩ | ⟨rfl, er⟩
  · have hrf := f.c3
    by_cases zr : rf = 0
    · -- no expression
      refine Or.inl ?_
      obtain ⟨r, s2, s', x', d', b1, b2, b3, b4, b5, b6, b7, b8, ⟨mx', np', hs', hb', f', e', b9, b10⟩, b11, b12, b13, b14, b15⟩ := s_loaded hS a4 f (rd1.1, (ss rd1.2.1 0 0), rd1.2.2) none (by
        show rd1.2.2 = _
        rw [← f.fo]) g6 g8
      have e1 : f_X3_read_J114 1 rd1 = some (0, (rd1.1, (ss rd1.2.1 0 0), rd1.2.2)) := by
        unfold f_X3_read_J114
        rw [if_neg (show ¬ (1 : Int32) = 0 by decide), hrf.1, zr, if_pos (show nI 0 = 0 from rfl), f.ok.1]
      refine ⟨r, s', x', ?_, eM.trans b2, ⟨⟨mx', np', hs', hb', 0, 0, f', e', 0, b9, b10, fun _ => by have := b9.np; omega, (0, 0, 0, (fun _ => 0), fun _ _ => 0), by rw [b6]; rfl, Or.inl ⟨b6, ?_⟩⟩, b11, ?_, ?_⟩, b15⟩
      · rw [eC (fun _ _ => none), e1, bd2_S, if_pos rfl]
        exact b1
      · rw [b8 13 (by omega), b7 13 (by omega), f.m13, zr]; rfl
      · show RI s'.2.2.2.2.1 x'
        rw [b3, b4]
        exact ⟨⟨0, by omega, rfl, b12⟩, by rw [b14]; exact gb, by rw [b14]; exact r3, by rw [b13, f.ok.2.2.2]; exact f.ok.2.1, ⟨g6, g8, g9⟩, gT⟩
      · show RW s'.2.2.2.2.2
        rw [b3, b5]; exact hRW
    · have hrf1 : rf = 1 := by omega
      refine Or.inr ?_
      have hcnt : cnt < 500 := by
        have := f.cp
        have := f.lx.2.1
        omega
      have all := Classical.axiomOfChoice (fun fa : Nat => s_loaded hS a4 f (hF rd1 fa) (some fa) rfl g6 g8)
      obtain ⟨R, all⟩ := all
      have all2 := Classical.axiomOfChoice all
      obtain ⟨S2, all2⟩ := all2
      have all3 := Classical.axiomOfChoice all2
      obtain ⟨S', all3⟩ := all3
      obtain ⟨x', d', b1, b2, b3⟩ := all3 0
      have hh := f.r1 hrf1
      subst hh
      have hclamp : (rd1.1.1 5).toNatClampNeg = cnt := by rw [f.c5, nI_clamp (by omega)]
      refine ⟨rd1, cnt, R 0, x', S', ?_, f.c5, hcnt, fun fa => ?_, eM.trans b2, ?_, fun fa p1 p2 hfa => ?_⟩
      · rw [CR_g, a1]
        unfold g_X3_read_J114
        rw [if_neg (show ¬ (1 : Int32) = 0 by decide), hrf.1, hrf1, if_neg (show ¬ nI 1 = 0 by decide)]
      · obtain ⟨x2, d2, c1, c2, c3⟩ := all3 fa
        unfold v_X7_load
        rw [if_pos f.ok.1]
        have : R fa = R 0 := by
          rw [b2] at c2
          exact (congrArg Prod.fst (Option.some.inj c2)).symm
        rw [← this]
        exact c1
      · obtain ⟨-, -, -, -, -, -, -, -, -, -, -, b15⟩ := b3
        exact b15
      · obtain ⟨x2, d2, c1, c2, c3, c4, c5, c6, c7, c8, ⟨mx', np', hs', hb', f', e', c9, c10⟩, ⟨u, k1, k2, k3, k4⟩, c12, c13, c14, c15⟩ := all3 fa
        have ex : x2 = x' := by
          rw [b2] at c2
          exact (congrArg Prod.snd (Option.some.inj c2)).symm
        subst ex
        have fm : FM ((hFs rd1).2 0) cnt (dd x2) := by
          refine ((f.pf.fm hcnt).mv (S' := (hFs rd1).2 0) (d' := d2) (fun k hk => ?_) c7).cg (fun _ _ => rfl) c8
          show va_cpy (rd1.1.2 0) (fun _ => 0) 0 0 (rd1.1.1 5).toNatClampNeg k = _
          rw [hclamp, cpy_lt hk]
        refine ⟨⟨mx', np', hs', hb', 0, 0, f', e', 0, c9, c10, fun _ => by have := c9.np; omega, (p1, p2, cnt, hFs rd1), by rw [c6]; exact pget_new hfa, Or.inr ⟨⟨fa, c6⟩, ?_, fm⟩⟩, ⟨u, k1, k2, k3, k4.mono (fun _ _ z => z.app)⟩, ?_, ?_⟩
        · rw [c8 13 (by omega), c7 13 (by omega), f.m13, hrf1]; rfl
        · show RI (S' fa).2.2.2.2.1 x2
          rw [c3, c4]
          exact ⟨⟨0, by omega, rfl, c12⟩, by rw [c14]; exact gb, by rw [c14]; exact r3, by rw [c13, f.ok.2.2.2]; exact f.ok.2.1, ⟨g6, g8, g9⟩, gT⟩
        · show RW (S' fa).2.2.2.2.2
          rw [c3, c5]; exact hRW
  · refine Or.inl ?_
    obtain ⟨code, off, e0, e1, e2, e3, e4⟩ := er
    have e5 : f_X3_read_J114 0 rd1 = some (code, (rd1.1, (ss rd1.2.1 0 0), rd1.2.2)) := by
      unfold f_X3_read_J114
      rw [if_pos rfl, e1]
    refine ⟨code, (s.1, s.2.1, s.2.2.1, s.2.2.2.1, (rd1.1, (ss rd1.2.1 0 0), rd1.2.2), s.2.2.2.2.2), ((ss x1.1 6 (x1.1.1 5)), x1.2), ?_, ?_, ⟨?_, ?_, ?_, hRW⟩, ?_⟩
    · rw [eC (fun _ _ => none), e5, bd2_S, if_neg e0]
    · rw [eM]
      unfold f_X8_load_J154
      rw [x_bad (show ¬ ((ss x1.1 6 (x1.1.1 5)), x1.2).1.1 4 = 0 from (by show ¬ x1.1.1 4 = 0; rw [e3]; exact e0)), bd1_S, if_pos rfl, e3]
    · show GR ps s.2.1 (x1.1.2 1)
      rw [a4.2.1 1 (by omega)]; exact hG0
    · obtain ⟨u, hu, hs1, hx1, hH⟩ := hHist
      refine ⟨u, hu, hs1, (a4.1 7 (by omega)).trans hx1, fun i hi => ?_⟩
      show GR ps _ (x1.1.2 (10 + i))
      rw [a4.2.1 (10 + i) (by omega)]; exact hH i hi
    · have z0 : x1.1.2 0 = x.1.2 0 := a4.2.1 0 (by omega)
      refine ⟨⟨0, by omega, rfl, a4.1 1 (by omega)⟩, gb.trans z0.symm, ?_, ?_, ⟨g6, g8, g9⟩, gT⟩
      · show BY (x1.1.2 0)
        rw [z0]; exact r3
      · show rd1.1.1 7 = x1.1.1 5
        rw [e2, e4]
    · exact a4.1 0 (by omega)
end L
