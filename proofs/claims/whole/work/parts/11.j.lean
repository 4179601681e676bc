/-! a whole text is read -/
def lay (r1 r2 r3 : Int32) (k : Nat) : Int32 := if 19 ≤ k ∧ k < 119 then -1 else if k = 11 then 1 else if k = 3 then r1 else if k = 2 then r3 else if k = 1 then r2 else if k = 0 then r1 else 0
theorem x_lay46 (w : Nat → Int32) : ∃ L, itr2 (f_X8_layGame_B46 1464) FUEL 0 w = some L ∧ ∀ k, L k = if 19 ≤ k ∧ k < 119 then -1 else w k := by
  refine lr2 (B := f_X8_layGame_B46 1464) (fun (o : Option (Nat → Int32)) => ∃ L, o = some L ∧ ∀ k, L k = if 19 ≤ k ∧ k < 119 then -1 else w k) (fun (m : Nat) (v : Int32) (a : Nat → Int32) => ∃ i, v = nI i ∧ i + m = 100 ∧ ∀ k, a k = if 19 ≤ k ∧ k < 19 + i then -1 else w k) ?_ FUEL 100 0 w (FUEL_lt (by omega)) ⟨0, rfl, by omega, fun k => by rw [if_neg (by omega)]⟩
  rintro rec m v c ⟨i, rfl, hm, hc⟩ ih
  unfold f_X8_layGame_B46
  rw [i_100, ie_le (by omega) (by omega)]
  by_cases hi : 100 ≤ i
  · rw [if_pos hi]
    refine ⟨c, rfl, fun k => ?_⟩
    rw [hc k]
    by_cases z : 19 ≤ k ∧ k < 119
    · rw [if_pos z, if_pos (show 19 ≤ k ∧ k < 19 + i by omega)]
    · rw [if_neg z, if_neg (show ¬ (19 ≤ k ∧ k < 19 + i) by omega)]
  · rw [if_neg hi, i_19, nI_add, inb_t (by omega) (by omega), gd_T, nI_clamp (by omega), nmd_S, nI_1]
    refine ih (m - 1) _ _ (by omega) ⟨i + 1, rfl, by omega, fun k => ?_⟩
    by_cases hk2 : k = 19 + i
    · rw [hk2, upd_s, if_pos (by omega)]
    · rw [upd_n hk2, hc k]
      by_cases z : 19 ≤ k ∧ k < 19 + i
      · rw [if_pos z, if_pos (by omega)]
      · rw [if_neg z, if_neg (show ¬ (19 ≤ k ∧ k < 19 + (i + 1)) by omega)]
theorem x_lay3 (h : Nat → Int32) (r1 r2 r3 : Int32) {M : Nat} (hM : M = 1464) : ∃ a, itr2 (f_X8_layGame_B3 1464 r1 r2 r3) FUEL 0 h = itr2 (f_X8_layGame_B46 1464) FUEL 0 (upd (upd (upd (upd (upd a 0 r1) 1 r2) 2 r3) 3 r1) 11 1) ∧ ∀ k, k < M → a k = 0 := by
  refine lr2 (B := f_X8_layGame_B3 1464 r1 r2 r3) (fun (o : Option (Nat → Int32)) => ∃ a, o = itr2 (f_X8_layGame_B46 1464) FUEL 0 (upd (upd (upd (upd (upd a 0 r1) 1 r2) 2 r3) 3 r1) 11 1) ∧ ∀ k, k < M → a k = 0) (fun (m : Nat) (v : Int32) (a : Nat → Int32) => ∃ j, v = nI j ∧ j + m = M ∧ ∀ k, k < j → a k = 0) ?_ FUEL M 0 h (FUEL_lt (by omega)) ⟨0, rfl, Nat.zero_add M, fun k hk => absurd hk (Nat.not_lt_zero _)⟩
  rintro rec m v a ⟨j, rfl, hm, ha⟩ ih
  unfold f_X8_layGame_B3
  rw [i_1464, ie_le (by omega) (by omega)]
  by_cases hj : 1464 ≤ j
  · rw [if_pos hj, gl_0, cl_0, nmd_S, gl_1, cl_1, nmd_S, gl_2, cl_2, nmd_S, gl_3, cl_3, nmd_S, gl_11, cl_11, nmd_S]
    exact ⟨a, rfl, fun k hk => ha k (by omega)⟩
  · rw [if_neg hj, inb_t (by omega) (by omega), gd_T, nI_clamp (by omega), nmd_S, nI_1]
    refine ih (m - 1) _ _ (by omega) ⟨j + 1, rfl, by omega, fun k hk => ?_⟩
    by_cases hkj : k = j
    · rw [hkj, upd_s]
    · rw [upd_n hkj]; exact ha k (by omega)
theorem x_lay (h : Nat → Int32) (r1 r2 r3 : Int32) : ∃ L, f_X8_layGame 1464 h r1 r2 r3 = some L ∧ ∀ k, k < 1464 → L k = lay r1 r2 r3 k := by
  obtain ⟨M, hM⟩ : ∃ M, M = 1464 := ⟨_, rfl⟩
  obtain ⟨a, e1, e2⟩ := x_lay3 h r1 r2 r3 hM
  obtain ⟨L, e3, e4⟩ := x_lay46 (upd (upd (upd (upd (upd a 0 r1) 1 r2) 2 r3) 3 r1) 11 1)
  unfold f_X8_layGame
  refine ⟨L, e1.trans e3, fun k hk => ?_⟩
  rw [e4 k]
  unfold lay
  by_cases z : 19 ≤ k ∧ k < 119
  · rw [if_pos z, if_pos z]
  · rw [if_neg z, if_neg z]
    by_cases z11 : k = 11
    · rw [if_pos z11, z11, upd_s]
    · rw [if_neg z11, upd_n z11]
      by_cases z3 : k = 3
      · rw [if_pos z3, z3, upd_s]
      · rw [if_neg z3, upd_n z3]
        by_cases z2 : k = 2
        · rw [if_pos z2, z2, upd_s]
        · rw [if_neg z2, upd_n z2]
          by_cases z1 : k = 1
          · rw [if_pos z1, z1, upd_s]
          · rw [if_neg z1, upd_n z1]
            by_cases z0 : k = 0
            · rw [if_pos z0, z0, upd_s]
            · rw [if_neg z0, upd_n z0]
              exact e2 k (by omega)
theorem hcN_m1 {H : Nat → Int32} (h : ∀ c, c < 100 → H c = -1) {q : Nat} (hq : q < 2 ^ 31) : hcN H (nI q) = 0 := by
  have h1 : hcN H (nI q) = cn (fun _ => false) 0 100 := cn_congr 100 0 (fun j _ hj => decide_eq_false (by rw [h j (by omega)]; exact fun z => nI_m1 hq z.symm))
  rw [h1]
  decide
theorem e_begin {tk : SA} {b : Nat → Int32} {N : Nat} (hb : tk.2 0 = b) (hN : N ≤ 500) : ∃ tk', f_X5_begin tk (nI N) = some tk' ∧ CT tk' b N 0 ∧ tk'.2 = tk.2 ∧ tk'.1 0 = tk.1 0 := by
  have e1 : (if (0 : Int32) < (if (500 : Int32) < nI N then 500 else nI N) then (if (500 : Int32) < nI N then 500 else nI N) else 0) = nI N := by
    rw [i_500, ie_lt (by omega) (by omega), if_neg (show ¬ 500 < N by omega)]
    by_cases z : N = 0
    · rw [z]; rfl
    · exact if_pos ((nI_ltI (a := 0) (by omega) (by omega)).mpr (by omega))
  unfold f_X5_begin
  rw [e1, nmd_S]
  obtain ⟨tk', t1, t2, t3, t4⟩ := e_advance (tk := ss (ss tk 1 (nI N)) 4 0) (p := 0) (b := b) hb rfl rfl (by omega) hN
  rw [t1, bd1_S]
  exact ⟨tk', rfl, t2, t3, t4⟩
section P
variable {rd : RS} {x : MS} {b : Nat → Int32} {N p : Nat}
theorem p_head (hL : LX rd.2.1 x b N 0) (hO : OK rd x) (hN : N ≤ 500) (c1 : rd.1.1 1 = 0) (c2 : rd.1.1 2 = 0) (c3 : rd.1.1 3 = 0) (c4 : rd.1.1 4 = 0) (c5 : rd.1.1 5 = 0) (x9 : x.1.1 9 = 0) (x10 : x.1.1 10 = 0) (x11 : x.1.1 11 = 0) (hH : ∀ c, c < 100 → rd.2.2.1.2 0 c = -1) (hT : ∀ q, q < 4 → rd.2.2.1.2 1 q = 0) (hR : rd.2.2.1.1 9 = 0) (hfo : rd.2.2.2.1 = none) :
    ∃ r rd' x', f_X3_readHead rd = some (r, rd') ∧ (bd2 (f_X8_takeWord x 0) fun (r75 : Int32) (x75 : MS) => if r75 = 0 then (bd1 (f_X8_report x75 (-2) (x75.1.1 3)) fun (x88 : MS) => f_X8_load_J91 x88) else (f_X8_load_J91 x75)) = itr1 f_X8_load_B132 FUEL x' ∧ GG rd rd' ∧ MG x x' ∧ ((r = 1 ∧ ∃ mx np hs p', PX rd' x' b N p' mx np hs) ∨ (r = 0 ∧ ER rd' x')) := by
  have hs : sp b N 0 ≤ N := en_le (Nat.zero_le _)
  obtain ⟨y, a1, a2⟩ := hL.word hN hO.2.2.1 (w := 0) (by omega)
  -- the reference after an error
  have deadE : ∀ (z : MS) (L : Nat → Int32), ¬ z.1.1 4 = 0 → (bd1 (f_X8_expect ((sa z.1 2 L), z.2) 59) fun (x129 : MS) => itr1 f_X8_load_B132 FUEL x129) = itr1 f_X8_load_B132 FUEL ((sa z.1 2 L), z.2) := fun z L hz => by
    rw [x_expectB (x := ((sa z.1 2 L), z.2)) hz, bd1_S]
  have mgL : ∀ (z : MS) (L : Nat → Int32), MG z ((sa z.1 2 L), z.2) := fun z L => ⟨fun _ _ => rfl, fun i hi => upA_n hi, rfl⟩
  have erL : ∀ (w : RS) (z : MS) (L : Nat → Int32), ER w z → ER w ((sa z.1 2 L), z.2) := fun w z L e => by
    obtain ⟨d1, d2, d3⟩ := e
    exact ⟨d1, d2, d3⟩
  unfold f_X3_readHead
  rw [a1, bd2_S, e_isWord hL.1 (by omega) hN (by omega), bd1_S]
  by_cases W : WM b N (sp b N 0) 0
  · rw [if_pos W] at a2
    obtain ⟨tk', t1, t2, t3, t4⟩ := LX_ed hL hN
    rw [(WM_kd W (by omega)).2] at t2
    rw [if_pos W, if_neg (show ¬ (1 : Int32) = 0 by decide), if_neg (show ¬ (1 : Int32) = 0 by decide), t1, bd1_S]
    unfold f_X8_load_J91
    have hL1 : LX (rd.1, tk', rd.2.2).2.1 y b N (sp b N 0 + wl 0) := a2.lx hL t2 W.1
    have hO1 : OK (rd.1, tk', rd.2.2) y := hO.w3 a2
    have hw : wl 0 = 6 := by decide
    obtain ⟨r1, q1, rd1, x1, m1, m2, m3, m4, m5⟩ := p_num (lo := 3) (hi := 9) hL1 hO1 hN (by omega) (by omega)
    have m1' : f_X3_takeNumber (rd.1, tk', rd.2.2) 3 9 = some (r1, rd1) := m1
    have m2' : f_X8_number y 3 9 = some (q1, x1) := m2
    rw [m1', bd2_S, m2', bd2_S]
    have g1 : GG rd rd1 := ⟨fun j _ => by rw [m3.2.2.2.2], by rw [m3.2.2.2.2], by rw [m3.2.2.2.2], m3.2.2.1.trans t3, m3.2.2.2.1.trans t4⟩
    have mg1 : MG x x1 := a2.lf.lg.mg.tr m4.lg.mg
    rcases m5 with ⟨v1, p1, rfl, rfl, v1a, v1b, e3, -, hL2, hO2, hp1⟩ | ⟨rfl, er⟩
    · rw [if_neg (show ¬ (1 : Int32) = 0 by decide), e3]
      obtain ⟨r2, q2, rd2, x2, n1, n2, n3, n4, n5⟩ := p_num (rd := (rd1.1, rd1.2.1, ((ss (ss (ss rd1.2.2.1 0 (nI v1)) 3 (nI v1)) 4 1), (rd1.2.2.2.1), rd1.2.2.2.2.1, rd1.2.2.2.2.2))) (x := x1) (lo := 2) (hi := 4) hL2 hO2 hN (by omega) (by omega)
      have n1' : f_X3_takeNumber (rd1.1, rd1.2.1, ((ss (ss (ss rd1.2.2.1 0 (nI v1)) 3 (nI v1)) 4 1), (rd1.2.2.2.1), rd1.2.2.2.2.1, rd1.2.2.2.2.2)) 2 4 = some (r2, rd2) := n1
      have n2' : f_X8_number x1 2 4 = some (q2, x2) := n2
      rw [n1', bd2_S, n2', bd2_S]
      have g2 : GG rd rd2 := g1.tr ⟨fun j hj => by
        rw [n3.2.2.2.2]
        show upd (upd (upd rd1.2.2.1.1 0 _) 3 _) 4 _ j = _
        rw [upd_n (by omega), upd_n (by omega), upd_n (by omega)], by rw [n3.2.2.2.2], by rw [n3.2.2.2.2], n3.2.2.1, n3.2.2.2.1⟩
      have mg2 := mg1.tr n4.lg.mg
      rcases n5 with ⟨v2, p2, rfl, rfl, v2a, v2b, e4, -, hL3, hO3, hp2⟩ | ⟨rfl, er⟩
      · rw [if_neg (show ¬ (1 : Int32) = 0 by decide), e4]
        obtain ⟨r3, q3, rd3, x3, o1, o2, o3, o4, o5⟩ := p_num (rd := (rd2.1, rd2.2.1, ((ss rd2.2.2.1 1 (nI v2)), (rd2.2.2.2.1), rd2.2.2.2.2.1, rd2.2.2.2.2.2))) (x := x2) (lo := 1) (hi := 12) hL3 hO3 hN (by omega) (by omega)
        have o1' : f_X3_takeNumber (rd2.1, rd2.2.1, ((ss rd2.2.2.1 1 (nI v2)), (rd2.2.2.2.1), rd2.2.2.2.2.1, rd2.2.2.2.2.2)) 1 12 = some (r3, rd3) := o1
        have o2' : f_X8_number x2 1 12 = some (q3, x3) := o2
        obtain ⟨L, l1, l2⟩ := x_lay (x3.1.2 2) (nI v1) (nI v2) q3
        rw [o1', bd2_S, o2', bd2_S, l1, bd1_S]
        have g3 : GG rd rd3 := g2.tr ⟨fun j hj => by
          rw [o3.2.2.2.2]
          show upd rd2.2.2.1.1 1 _ j = _
          rw [upd_n (by omega)], by rw [o3.2.2.2.2], by rw [o3.2.2.2.2], o3.2.2.1, o3.2.2.2.1⟩
        have mg3 := (mg2.tr o4.lg.mg).tr (mgL x3 L)
        rcases o5 with ⟨v3, p3, rfl, rfl, v3a, v3b, e5, -, hL4, hO4, hp3⟩ | ⟨rfl, er⟩
        · rw [if_neg (show ¬ (1 : Int32) = 0 by decide), e5]
          have hL4' : LX rd3.2.1 ((sa x3.1 2 L), x3.2) b N p3 := hL4.of rfl rfl rfl
          obtain ⟨r4, rd4, x4, s1, s2, s3, s4, s5⟩ := p_sign (rd := (rd3.1, rd3.2.1, ((ss rd3.2.2.1 2 (nI v3)), (rd3.2.2.2.1), rd3.2.2.2.2.1, rd3.2.2.2.2.2))) (x := ((sa x3.1 2 L), x3.2)) (c := 59) hL4' hO4 hN sg_59.1 sg_59.2.1 sg_59.2.2
          have s1' : f_X3_takeSign (rd3.1, rd3.2.1, ((ss rd3.2.2.1 2 (nI v3)), (rd3.2.2.2.1), rd3.2.2.2.2.1, rd3.2.2.2.2.2)) 59 = some (r4, rd4) := s1
          rw [s1', bd2_S, s2, bd1_S]
          have g4 : GG rd rd4 := g3.tr ⟨fun j hj => by
            rw [s3.2.2.2.2]
            show upd rd3.2.2.1.1 2 _ j = _
            rw [upd_n (by omega)], by rw [s3.2.2.2.2], by rw [s3.2.2.2.2], s3.2.2.1, s3.2.2.2.1⟩
          have mg4 := mg3.tr s4.lg.mg
          rcases s5 with ⟨rfl, p4, hL5, hO5, hp4⟩ | ⟨rfl, er⟩
          · rw [show isb 1 = true from rfl, gd_T]
            -- the game of the class
            have G0 : rd1.2.2 = rd.2.2 := m3.2.2.2.2
            have G4 : rd4.2.2 = ((ss (ss (ss (ss (ss rd.2.2.1 0 (nI v1)) 3 (nI v1)) 4 1) 1 (nI v2)) 2 (nI v3)), rd.2.2.2.1, rd.2.2.2.2.1, rd.2.2.2.2.2) := by
              rw [s3.2.2.2.2, o3.2.2.2.2, n3.2.2.2.2, G0]
            have X4 : x4.1.2 2 = L := by rw [s4.2.1]; rfl
            have K1 : ∀ k, k = 1 ∨ k = 2 ∨ k = 3 ∨ k = 4 ∨ k = 5 → rd4.1.1 k = rd.1.1 k := fun k hk => (s3.1 k (by omega) (by omega) (by omega)).trans ((o3.1 k (by omega) (by omega) (by omega)).trans ((n3.1 k (by omega) (by omega) (by omega)).trans (m3.1 k (by omega) (by omega) (by omega))))
            have K2 : ∀ k, k = 9 ∨ k = 10 ∨ k = 11 → x4.1.1 k = x.1.1 k := fun k hk => (s4.1 k (by omega) (by omega) (by omega) (by omega)).trans ((o4.1 k (by omega) (by omega) (by omega) (by omega)).trans ((n4.1 k (by omega) (by omega) (by omega) (by omega)).trans ((m4.1 k (by omega) (by omega) (by omega) (by omega)).trans (a2.2.1 k (by omega)))))
            have lv : ∀ k, 3 < k → k < 19 → ¬ k = 11 → L k = 0 := fun k k1 k2 k3 => by
              rw [l2 k (by omega)]
              unfold lay
              rw [if_neg (by omega), if_neg k3, if_neg (by omega), if_neg (by omega), if_neg (by omega), if_neg (by omega)]
            refine ⟨1, rd4, x4, rfl, rfl, g4, mg4, Or.inl ⟨rfl, v1, v2, v3, p4, v1, 0, 0, 0, 0, 0, 0, ?_⟩⟩
            refine ⟨hL5, hO5, ?_, ⟨(K1 1 (by omega)).trans c1, by omega⟩, ⟨(K1 2 (by omega)).trans c2, by omega⟩, ⟨(K1 3 (by omega)).trans c3, by omega⟩, ⟨(K1 4 (by omega)).trans c4, by omega⟩, (K2 10 (by omega)).trans x10, (K2 11 (by omega)).trans x11, ?_, ?_, (K1 5 (by omega)).trans c5, ?_, by omega, fun _ => ⟨rfl, rfl⟩, fun z => absurd z (by omega), ?_, (K2 9 (by omega)).trans x9, ?_⟩
            · rw [G4, X4]
              refine ⟨⟨rfl, v1a, v1b⟩, ⟨rfl, v2a, v2b⟩, ⟨rfl, v3a, v3b⟩, ⟨rfl, Nat.le_refl _⟩, l2 0 (by omega), l2 1 (by omega), l2 2 (by omega), l2 3 (by omega), l2 11 (by omega), ?_, fun q hq => ?_, fun c hc => Or.inl (hH c hc), fun c hc => ?_⟩
              · rw [lv 9 (by omega) (by omega) (by omega)]; exact hR.symm
              · rw [lv _ (by omega) (by omega) (by omega)]; exact (hT q hq).symm
              · rw [l2 _ (by omega)]
                unfold lay
                rw [if_pos (by omega)]; exact (hH c hc).symm
            · intro _ c hc
              rw [G4]; exact hH c hc
            · intro q hq
              rw [G4]
              show hcN (rd.2.2.1.2 0) (nI q) ≤ v3
              rw [hcN_m1 hH (by omega)]; omega
            · rw [X4]; exact PF.zero (lv 14 (by omega) (by omega) (by omega))
            · rw [X4]; exact lv 13 (by omega) (by omega) (by omega)
            · rw [G4]; exact hfo
          · rw [show isb 0 = true from rfl, gd_T]
            exact ⟨0, rd4, x4, rfl, rfl, g4, mg4, Or.inr ⟨rfl, er⟩⟩
        · rw [if_pos rfl, deadE x3 L er.bad]
          exact ⟨0, rd3, _, rfl, rfl, g3, mg3, Or.inr ⟨rfl, erL _ _ _ er⟩⟩
      · obtain ⟨L, l1, l2⟩ := x_lay (x2.1.2 2) (nI v1) q2 0
        rw [if_pos rfl, x_numberB er.bad, bd2_S, l1, bd1_S, deadE x2 L er.bad]
        exact ⟨0, rd2, _, rfl, rfl, g2, mg2.tr (mgL x2 L), Or.inr ⟨rfl, erL _ _ _ er⟩⟩
    · obtain ⟨L, l1, l2⟩ := x_lay (x1.1.2 2) q1 0 0
      rw [if_pos rfl, x_numberB er.bad, bd2_S, x_numberB er.bad, bd2_S, l1, bd1_S, deadE x1 L er.bad]
      exact ⟨0, rd1, _, rfl, rfl, g1, mg1.tr (mgL x1 L), Or.inr ⟨rfl, erL _ _ _ er⟩⟩
  · rw [if_neg W] at a2
    rw [if_neg W, if_pos rfl, if_pos rfl, x_report ((a2.2.1 4 (by omega)).trans hO.2.2.1), bd1_S, fail_e, bd2_S, show isb 0 = true from rfl, gd_T, a2.1]
    unfold f_X8_load_J91
    have bad : ¬ ((ss (ss y.1 4 (-2)) 5 (nI (sp b N 0))), y.2).1.1 4 = 0 := by show ¬ (-2 : Int32) = 0; decide
    obtain ⟨L, l1, l2⟩ := x_lay (y.1.2 2) 0 0 0
    rw [x_numberB bad, bd2_S, x_numberB bad, bd2_S, x_numberB bad, bd2_S]
    rw [show ((ss (ss y.1 4 (-2)) 5 (nI (sp b N 0))), y.2).1.2 2 = y.1.2 2 from rfl, l1, bd1_S, deadE _ L bad]
    have mb : MG y ((ss (ss y.1 4 (-2)) 5 (nI (sp b N 0))), y.2) := ⟨fun k hk => by
      show upd (upd y.1.1 4 _) 5 _ k = _
      rw [upd_n (by omega), upd_n (by omega)], fun _ _ => rfl, rfl⟩
    exact ⟨0, _, _, rfl, rfl, fail_f.cg.gg, (a2.lf.lg.mg.tr mb).tr (mgL _ L), Or.inr ⟨rfl, erL _ _ _ ⟨-2, nI (sp b N 0), by decide, rfl, hL.1.2.2.1, rfl, rfl⟩⟩⟩
end P
