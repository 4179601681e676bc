/-! a tile laid -/
section H
variable {g : GS} {x : MS} {mx np hs hb tn pa f e n : Nat}
theorem obs_0 {ov tn2 un : Int32} {H E O : Nat → Int32} {c t : Nat} (h : obs ov tn2 un np H E O c t = 0) : ov = 0 ∧ H c = tn2 ∧ (nI (c / 10) = E t ∨ nI (c % 10) = E t) := by
  unfold obs at h
  by_cases h1 : ov = 0
  · rw [if_pos h1] at h
    by_cases h2 : H c = tn2
    · rw [if_pos h2] at h
      refine ⟨h1, h2, ?_⟩
      have key : fit E c t = 0 → nI (c / 10) = E t ∨ nI (c % 10) = E t := by
        intro hf
        unfold fit at hf
        by_cases h5 : nI (c / 10) = E t ∨ nI (c % 10) = E t
        · exact h5
        · rw [if_neg h5] at hf; exact absurd hf (by decide)
      by_cases h3 : un = -1
      · rw [if_pos h3] at h
        by_cases h4 : nI t = tn2 ∨ t = np ∨ O t = 1
        · rw [if_pos h4] at h; exact key h
        · rw [if_neg h4] at h; exact absurd h (by decide)
      · rw [if_neg h3] at h
        by_cases h4 : un = nI t
        · rw [if_pos h4] at h; exact key h
        · rw [if_neg h4] at h; exact absurd h (by decide)
    · rw [if_neg h2] at h; exact absurd h (by decide)
  · rw [if_neg h1] at h; exact absurd h (by decide)
theorem s_layCore (h : Inv g mx np hs hb tn pa f e n) (r : Rel g (dd x) np f e n) {c t oth : Nat} (hc : c < 100) (ht : t ≤ np) (hin : inS mx c) (hHc : ¬ g.1.2 0 c = -1) (hoth : oth ≤ 9) {un : Int32} (hun : un = -1 ∨ ∃ u, u ≤ np ∧ un = nI u) (trk : SA) (t0 : trk.1 0 = nI (n + 1)) (tT : trk.2 0 = upd (g.2.2.2.2 0) n (nI c)) (tU : trk.2 1 = upd (g.2.2.2.2 1) n (nI t)) (tE : trk.2 2 = upd (g.2.2.2.2 2) t (nI oth)) (tO : ∀ u, trk.2 3 u = if u = t ∧ t = tn then 0 else g.2.2.2.2 3 u) (w : Nat → Int32)
    (w6 : w 6 = un) (w10 : w 10 = 0) (wc : w (19 + c) = -1) (wL : w (174 + 58 * t) = nI (cT (g.2.2.2.2 1) t n + 1)) (wE : w (174 + 58 * t + 1) = nI oth) (wO : t = tn → w (174 + 58 * t + 2) = 0) (wT : w (174 + 58 * t + 3 + cT (g.2.2.2.2 1) t n) = nI c)
    (wr : ∀ k, ¬ k = 6 → ¬ k = 10 → ¬ k = 19 + c → ¬ k = 174 + 58 * t → ¬ k = 174 + 58 * t + 1 → (¬ k = 174 + 58 * t + 2 ∨ ¬ t = tn) → ¬ k = 174 + 58 * t + 3 + cT (g.2.2.2.2 1) t n → w k = dd x k) : Inv ((ss (ss (sa g.1 0 (upd (g.1.2 0) c (-1))) 7 un) 10 0), g.2.1, g.2.2.1, trk) mx np hs hb tn 0 f e (n + 1) ∧ Rel ((ss (ss (sa g.1 0 (upd (g.1.2 0) c (-1))) 7 un) 10 0), g.2.1, g.2.2.1, trk) w np f e (n + 1) := by
  have hcnt := h.cnt
  have hdn := hT_down (g.1.2 0) hc hHc
  have hnp := h.np
  have htn := h.tn
  have hcT := cT_le (g.2.2.2.2 1) t n
  have he := h.st.2.2
  have hU : ∀ i, i < n → upd (g.2.2.2.2 1) n (nI t) i = g.2.2.2.2 1 i := fun i hi => upd_n (by omega)
  refine ⟨⟨h.mx, h.np, h.hs, h.hb, h.tn, h.dr, hun, h.ov, ⟨rfl, by omega⟩, ?_, h.st, h.K, t0, ?_, ?_, ?_, ?_⟩, ?_⟩
  · intro j hj
    show upd (g.1.2 0) c (-1) j = -1 ∨ (∃ p, p < np ∧ upd (g.1.2 0) c (-1) j = nI p) ∧ inS mx j
    by_cases hjc : j = c
    · rw [hjc, upd_s]; exact Or.inl rfl
    · rw [upd_n hjc]; exact h.H j hj
  · intro i hi
    show (∃ c, c < 100 ∧ trk.2 0 i = nI c ∧ inS mx c) ∧ ∃ u, u ≤ np ∧ trk.2 1 i = nI u
    rw [tT, tU]
    by_cases hin2 : i = n
    · rw [hin2, upd_s, upd_s]; exact ⟨⟨c, hc, rfl, hin⟩, ⟨t, ht, rfl⟩⟩
    · rw [upd_n hin2, upd_n hin2]; exact h.T i (by omega)
  · intro u hu
    show ∃ y, y ≤ 9 ∧ trk.2 2 u = nI y
    rw [tE]
    by_cases hq : u = t
    · rw [hq, upd_s]; exact ⟨oth, hoth, rfl⟩
    · rw [upd_n hq]; exact h.E u hu
  · intro u hu
    show trk.2 3 u = 0 ∨ trk.2 3 u = 1
    rw [tO]
    by_cases hq : u = t ∧ t = tn
    · rw [if_pos hq]; exact Or.inl rfl
    · rw [if_neg hq]; exact h.O u hu
  · show hT (upd (g.1.2 0) c (-1)) + (e - f) + (n + 1) ≤ 54
    omega
  · refine ⟨?_, ?_, ?_, ?_, ?_, ?_, ?_, ?_, ?_, ?_, ?_, ?_, ?_, ?_, ?_, ?_, ?_, ?_, ?_, ?_⟩
    · exact (wr 0 (by omega) (by omega) (by omega) (by omega) (by omega) (by omega) (by omega)).trans r.d0
    · exact (wr 1 (by omega) (by omega) (by omega) (by omega) (by omega) (by omega) (by omega)).trans r.d1
    · exact (wr 2 (by omega) (by omega) (by omega) (by omega) (by omega) (by omega) (by omega)).trans r.d2
    · exact (wr 3 (by omega) (by omega) (by omega) (by omega) (by omega) (by omega) (by omega)).trans r.d3
    · exact (wr 4 (by omega) (by omega) (by omega) (by omega) (by omega) (by omega) (by omega)).trans r.d4
    · exact (wr 5 (by omega) (by omega) (by omega) (by omega) (by omega) (by omega) (by omega)).trans r.d5
    · exact w6
    · exact (wr 7 (by omega) (by omega) (by omega) (by omega) (by omega) (by omega) (by omega)).trans r.d7
    · exact (wr 8 (by omega) (by omega) (by omega) (by omega) (by omega) (by omega) (by omega)).trans r.d8
    · exact (wr 9 (by omega) (by omega) (by omega) (by omega) (by omega) (by omega) (by omega)).trans r.d9
    · exact w10
    · exact (wr 11 (by omega) (by omega) (by omega) (by omega) (by omega) (by omega) (by omega)).trans r.d11
    · exact (wr 12 (by omega) (by omega) (by omega) (by omega) (by omega) (by omega) (by omega)).trans r.d12
    · intro p hp; exact (wr (15 + p) (by omega) (by omega) (by omega) (by omega) (by omega) (by omega) (by omega)).trans (r.tot p hp)
    · intro j hj
      show w (19 + j) = upd (g.1.2 0) c (-1) j
      by_cases hjc : j = c
      · rw [hjc, upd_s]; exact wc
      · rw [upd_n hjc]; exact (wr (19 + j) (by omega) (by omega) (by omega) (by omega) (by omega) (by omega) (by omega)).trans (r.H j hj)
    · intro i hi; exact (wr (119 + i) (by omega) (by omega) (by omega) (by omega) (by omega) (by omega) (by omega)).trans (r.K i hi)
    · intro u hu
      show w (174 + 58 * u) = nI (cT (trk.2 1) u (n + 1))
      rw [cT_succ, tU, upd_s, cT_congr u hU]
      by_cases hq : u = t
      · rw [hq, if_pos rfl]; exact wL
      · rw [if_neg (fun z => hq ((nI_eq (by omega) (by omega)).mp z).symm)]
        exact (wr (174 + 58 * u) (by omega) (by omega) (by omega) (by omega) (by omega) (by omega) (by omega)).trans (r.L u hu)
    · intro u hu
      show w (174 + 58 * u + 1) = trk.2 2 u
      rw [tE]
      by_cases hq : u = t
      · rw [hq, upd_s]; exact wE
      · rw [upd_n hq]; exact (wr (174 + 58 * u + 1) (by omega) (by omega) (by omega) (by omega) (by omega) (by omega) (by omega)).trans (r.E u hu)
    · intro u hu
      show w (174 + 58 * u + 2) = if u = np then 1 else trk.2 3 u
      rw [tO]
      by_cases hq : u = t ∧ t = tn
      · rw [if_pos hq, if_neg (by omega), hq.1]; exact wO hq.2
      · rw [if_neg hq]; exact (wr (174 + 58 * u + 2) (by omega) (by omega) (by omega) (by omega) (by omega) (by omega) (by omega)).trans (r.O u hu)
    · intro i hi u hu hiu
      have hiu : trk.2 1 i = nI u := hiu
      show w (174 + 58 * u + 3 + cT (trk.2 1) u i) = trk.2 0 i
      have hci := cT_le (g.2.2.2.2 1) u i
      rw [tU] at hiu ⊢
      rw [tT, cT_congr u (fun j hj => hU j (by omega))]
      by_cases hin2 : i = n
      · subst hin2
        rw [upd_s] at hiu ⊢
        have : t = u := (nI_eq (by omega) (by omega)).mp hiu
        subst this
        exact wT
      · rw [upd_n hin2] at hiu ⊢
        have hci2 : u = t → cT (g.2.2.2.2 1) u i < cT (g.2.2.2.2 1) t n := fun z => by
          subst z; exact cT_lt (by omega) hiu
        by_cases hq : u = t
        · have := hci2 hq
          subst hq
          exact (wr (174 + 58 * u + 3 + cT (g.2.2.2.2 1) u i) (by omega) (by omega) (by omega) (by omega) (by omega) (by omega) (by omega)).trans (r.T i (by omega) u hu hiu)
        · exact (wr (174 + 58 * u + 3 + cT (g.2.2.2.2 1) u i) (by omega) (by omega) (by omega) (by omega) (by omega) (by omega) (by omega)).trans (r.T i (by omega) u hu hiu)
/-- behind a tile laid: who has no tile any more, a double, the turn -/
theorem s_layTail {g1 : GS} {w : Nat → Int32} {y z : MS} (i1 : Inv g1 mx np hs hb tn 0 f e n) (r1 : Rel g1 w np f e n) (hw : dd y = w) (hz : dd z = upd w 5 0) (hzF : Fr y z) {c : Nat} (hc : c < 100) : ∃ g' x' tn', (bd1 (f_X1_handCount g1 (nI tn)) fun (r61 : Int32) => if r61 = 0 then (bd1 (f_X1_endRound g1) fun (g68 : GS) => some (g68)) else (bd1 (f_X7_isDouble (nI c)) fun (r75 : Int32) => if r75 = 0 then (bd1 (f_X1_nextTurn g1) fun (g90 : GS) => some (g90)) else (some (((ss g1.1 6 0), (g1.2.1), g1.2.2.1, g1.2.2.2))))) = some g' ∧
    (bd1 (f_X8_hand y (nI tn)) fun (r136 : Int32) => if r136 = 0 then (bd1 (f_X8_endRound y) fun (x143 : MS) => some (x143)) else (bd1 (f_X8_isDouble (nI c)) fun (r150 : Int32) => if r150 = 0 then (bd1 (f_X8_nextTurn y) fun (x167 : MS) => some (x167)) else (some z))) = some x' ∧ Inv g' mx np hs hb tn' 0 f e n ∧ Rel g' (dd x') np f e n ∧ Fr y x' ∧ g'.2.1 = g1.2.1 ∧ hT (g'.1.2 0) = hT (g1.1.2 0) ∧ g'.2 = g1.2 := by
  subst hw
  rw [e_handCount, bd1_S, x_hand, bd1_S, hcN_congr (nI tn) r1.H, e_double (by omega), x_isDouble (by omega), bd1_S, bd1_S]
  have hle := hcN_le (g1.1.2 0) (nI tn)
  rw [ie_eq0 (by omega), ie_eq0 (by omega)]
  by_cases h1 : hcN (g1.1.2 0) (nI tn) = 0
  · rw [if_pos h1, if_pos h1]
    obtain ⟨g', x', a1, a2, a3, a4, a5, a6, a7⟩ := s_endRound i1 r1
    obtain ⟨g9, b1, b2, b3, b4, b5⟩ := c_endRound (g := g1) i1.np.1 i1.np.2.2
    rw [a1] at b1
    cases b1
    rw [a1, a2, bd1_S, bd1_S]
    exact ⟨g', x', tn, rfl, rfl, a3, a4, a5, congrArg Prod.fst a6, by rw [b3 0 (by omega)], a6⟩
  · rw [if_neg h1, if_neg h1]
    by_cases h2 : c / 10 = c % 10
    · rw [if_pos h2, if_neg (by decide), if_neg (by decide)]
      refine ⟨_, z, tn, rfl, rfl, ?_, ?_, hzF, rfl, rfl, rfl⟩
      · exact ⟨i1.mx, i1.np, i1.hs, i1.hb, i1.tn, Or.inl rfl, i1.un, i1.ov, i1.pa, i1.H, i1.st, i1.K, i1.n, i1.T, i1.E, i1.O, i1.cnt⟩
      · rw [hz]
        exact r1.sc (fun k hk => upd_n (by omega)) rfl rfl rfl r1.d0 r1.d1 r1.d2 r1.d3 r1.d4 rfl r1.d6 rfl r1.d8 r1.d9 r1.d10 r1.d11 rfl
    · rw [if_neg h2, if_pos rfl, if_pos rfl]
      obtain ⟨g', x', tn', a1, a2, a3, a4, a5, a6, a7, a8⟩ := s_nextTurn i1 r1
      rw [a1, a2, bd1_S, bd1_S]
      exact ⟨g', x', tn', rfl, rfl, a3, a4, a5, congrArg Prod.fst a6, by rw [a8], a6⟩
theorem s_lay (h : Inv g mx np hs hb tn pa f e n) (r : Rel g (dd x) np f e n) {c t : Nat} (hc : c < 100) (ht : t ≤ np) (hob : gob np g c t = 0) : ∃ g' x' tn', f_X1_layTile g (nI c) (nI t) = some g' ∧ f_X8_playNow x (nI c) (nI t) = some x' ∧ Inv g' mx np hs hb tn' 0 f e (n + 1) ∧ Rel g' (dd x') np f e (n + 1) ∧ Fr x x' ∧ g'.2.1 = g.2.1 ∧ hT (g'.1.2 0) + 1 = hT (g.1.2 0) := by
  obtain ⟨hov, hHt, hfit⟩ := obs_0 hob
  obtain ⟨y, hy, hE⟩ := h.E t ht
  have hnp := h.np
  have htn := h.tn
  have hmx := h.mx
  have hcnt := h.cnt
  have hHc : ¬ g.1.2 0 c = -1 := by rw [hHt, htn.1]; exact nI_m1 (by omega)
  have hin : inS mx c := ((h.H c hc).resolve_left hHc).2
  have hdn := hT_down (g.1.2 0) hc hHc
  have hcT := cT_le (g.2.2.2.2 1) t n
  have hy2 : c / 10 = y ∨ c % 10 = y := by
    rw [hE, nI_eq (by omega) (by omega), nI_eq (by omega) (by omega)] at hfit
    exact hfit
  obtain ⟨oth, eo⟩ : ∃ o, o = if c / 10 = y then c % 10 else c / 10 := ⟨_, rfl⟩
  have hin1 := hin.1
  have hin2 := hin.2
  have hoth : oth ≤ 9 := by rw [eo]; split <;> omega
  have hsub : c / 10 + c % 10 - y = oth ∧ y ≤ c / 10 + c % 10 := by rw [eo]; split <;> omega
  obtain ⟨un, eu⟩ : ∃ u : Int32, u = if c / 10 = c % 10 then nI t else -1 := ⟨_, rfl⟩
  have hun : un = -1 ∨ ∃ u, u ≤ np ∧ un = nI u := by
    rw [eu]; split
    · exact Or.inr ⟨t, ht, rfl⟩
    · exact Or.inl rfl
  have eE : ∀ T1 U1 : Nat → Int32, f_X6_endOf (sa (sa (ss g.2.2.2 0 (nI (n + 1))) 0 T1) 1 U1) (nI t) = some (nI y) := fun T1 U1 => by
    unfold f_X6_endOf
    rw [e_look (by omega) (by omega), bd1_S]
    exact congrArg some hE
  have eL : f_X6_lay g.2.2.2 (nI c) (nI t) = some (sa (sa (sa (ss g.2.2.2 0 (nI (n + 1))) 0 (upd (g.2.2.2.2 0) n (nI c))) 1 (upd (g.2.2.2.2 1) n (nI t))) 2 (upd (g.2.2.2.2 2) t (nI oth))) := by
    unfold f_X6_lay
    rw [h.n, i_55, ie_le (by omega) (by omega), if_neg (by omega), e_put (by omega) (by omega), bd1_S, e_put (by omega) (by omega), bd1_S, e_pips (by omega), bd1_S, nI_1, eE, bd1_S, e_put (by omega) (by omega), bd1_S, nI_sub hsub.2, hsub.1]
  have eJ : ∀ gg : GS, f_X1_layTile_J35 (nI c) (nI t) gg = f_X1_layTile_J48 (nI c) gg un := fun gg => by
    unfold f_X1_layTile_J35
    rw [e_double (by omega), bd1_S, eu]
    by_cases h2 : c / 10 = c % 10
    · rw [if_pos h2, if_pos h2, if_neg (by decide)]
    · rw [if_neg h2, if_neg h2, if_pos rfl]
  have eJ8 : ∀ (z : MS) (wz : Nat → Int32), (bd1 (f_X8_isDouble (nI c)) fun (r117 : Int32) => if r117 = 0 then (f_X8_playNow_J128 (nI c) z wz (-1)) else (f_X8_playNow_J128 (nI c) z wz (nI t))) = f_X8_playNow_J128 (nI c) z wz un := fun z wz => by
    rw [x_isDouble (by omega), bd1_S, eu]
    by_cases h2 : c / 10 = c % 10
    · rw [if_pos h2, if_pos h2, if_neg (by decide)]
    · rw [if_neg h2, if_neg h2, if_pos rfl]
  -- the reference's row, up to the openness
  let T := 174 + 58 * t
  let w0 : Nat → Int32 := upd (upd (upd (upd (x.1.2 1) (19 + c) (-1)) (T + 3 + cT (g.2.2.2.2 1) t n) (nI c)) T (nI (cT (g.2.2.2.2 1) t n + 1))) (T + 1) (nI oth)
  have hd4 : x.1.2 1 4 = nI tn := r.d4.trans htn.1
  have hdL : x.1.2 1 (174 + 58 * t) = nI (cT (g.2.2.2.2 1) t n) := r.L t ht
  have hdE : x.1.2 1 (174 + 58 * t + 1) = nI y := (r.E t ht).trans hE
  have w04 : w0 4 = nI tn := by
    show upd (upd (upd (upd (x.1.2 1) (19 + c) (-1)) (174 + 58 * t + 3 + cT (g.2.2.2.2 1) t n) (nI c)) (174 + 58 * t) (nI (cT (g.2.2.2.2 1) t n + 1))) (174 + 58 * t + 1) (nI oth) 4 = _
    rw [upd_n (by omega), upd_n (by omega), upd_n (by omega), upd_n (by omega), hd4]
  have eM : f_X8_playNow x (nI c) (nI t) = if t = tn then f_X8_playNow_J102 (nI c) (nI t) ((sa x.1 1 (upd w0 (T + 2) 0)), x.2) else f_X8_playNow_J102 (nI c) (nI t) ((sa x.1 1 w0), x.2) := by
    have e82 : ∀ v : Nat, f_X8_playNow_J82 x (nI c) (nI t) (nI (174 + 58 * t)) (upd (upd (upd (x.1.2 1) (19 + c) (-1)) (174 + 58 * t + 3 + cT (g.2.2.2.2 1) t n) (nI c)) (174 + 58 * t) (nI (cT (g.2.2.2.2 1) t n + 1))) (nI v) = if nI t = upd (upd (upd (upd (x.1.2 1) (19 + c) (-1)) (174 + 58 * t + 3 + cT (g.2.2.2.2 1) t n) (nI c)) (174 + 58 * t) (nI (cT (g.2.2.2.2 1) t n + 1))) (174 + 58 * t + 1) (nI v) 4 then f_X8_playNow_J102 (nI c) (nI t) ((sa x.1 1 (upd (upd (upd (upd (upd (x.1.2 1) (19 + c) (-1)) (174 + 58 * t + 3 + cT (g.2.2.2.2 1) t n) (nI c)) (174 + 58 * t) (nI (cT (g.2.2.2.2 1) t n + 1))) (174 + 58 * t + 1) (nI v)) (174 + 58 * t + 2) 0)), x.2) else f_X8_playNow_J102 (nI c) (nI t) ((sa x.1 1 (upd (upd (upd (upd (x.1.2 1) (19 + c) (-1)) (174 + 58 * t + 3 + cT (g.2.2.2.2 1) t n) (nI c)) (174 + 58 * t) (nI (cT (g.2.2.2.2 1) t n + 1))) (174 + 58 * t + 1) (nI v))), x.2) := fun v => by
      unfold f_X8_playNow_J82
      simp only [gl_4, cl_4, nmd_S]
      rw [nI_1, inb_t (by omega) (by omega), gd_T, nI_clamp (by omega), i_2, nI_add, inb_t (by omega) (by omega), gd_T, nI_clamp (by omega)]
    unfold f_X8_playNow f_X8_trainAt
    simp only [nmd_S]
    rw [bd1_S, i_174, i_58, nI_mul, nI_add, nI_1, inb_t (by omega) (by omega), gd_T, nI_clamp (by omega), hdE, i_19, nI_add, inb_t (by omega) (by omega), gd_T, i_addz, inb_t (by omega) (by omega), gd_T, nI_clamp (show 174 + 58 * t < 2 ^ 31 by omega), nI_clamp (show 19 + c < 2 ^ 31 by omega), upd_n (show ¬ 174 + 58 * t = 19 + c by omega), hdL, i_3, nI_add, nI_add, inb_t (by omega) (by omega), gd_T, gd_T, gd_T, nI_clamp (by omega), upd_n (show ¬ 174 + 58 * t = 174 + 58 * t + 3 + cT (g.2.2.2.2 1) t n by omega), upd_n (show ¬ 174 + 58 * t = 19 + c by omega), hdL, nI_1, nI_hi (by omega), i_10, nI_div (by omega) (by omega), ie_eq (by omega) (by omega), e82, e82]
    have key : ∀ v : Nat, v = oth → (if nI t = upd (upd (upd (upd (x.1.2 1) (19 + c) (-1)) (174 + 58 * t + 3 + cT (g.2.2.2.2 1) t n) (nI c)) (174 + 58 * t) (nI (cT (g.2.2.2.2 1) t n + 1))) (174 + 58 * t + 1) (nI v) 4 then f_X8_playNow_J102 (nI c) (nI t) ((sa x.1 1 (upd (upd (upd (upd (upd (x.1.2 1) (19 + c) (-1)) (174 + 58 * t + 3 + cT (g.2.2.2.2 1) t n) (nI c)) (174 + 58 * t) (nI (cT (g.2.2.2.2 1) t n + 1))) (174 + 58 * t + 1) (nI v)) (174 + 58 * t + 2) 0)), x.2) else f_X8_playNow_J102 (nI c) (nI t) ((sa x.1 1 (upd (upd (upd (upd (x.1.2 1) (19 + c) (-1)) (174 + 58 * t + 3 + cT (g.2.2.2.2 1) t n) (nI c)) (174 + 58 * t) (nI (cT (g.2.2.2.2 1) t n + 1))) (174 + 58 * t + 1) (nI v))), x.2)) = if t = tn then f_X8_playNow_J102 (nI c) (nI t) ((sa x.1 1 (upd w0 (T + 2) 0)), x.2) else f_X8_playNow_J102 (nI c) (nI t) ((sa x.1 1 w0), x.2) := fun v hv => by
      subst hv
      by_cases h2 : t = tn
      · rw [if_pos h2, if_pos (show nI t = w0 4 by rw [w04, h2])]
      · rw [if_neg h2, if_neg (show ¬ nI t = w0 4 by rw [w04, nI_eq (by omega) (by omega)]; exact h2)]
    by_cases h1 : c / 10 = y
    · rw [if_pos h1]; exact key _ (by rw [eo, if_pos h1])
    · rw [if_neg h1]; exact key _ (by rw [eo, if_neg h1])
  -- what lies behind, with the openness told or not
  have fin : ∀ (trk : SA) (wa : Nat → Int32), trk.1 0 = nI (n + 1) → trk.2 0 = upd (g.2.2.2.2 0) n (nI c) → trk.2 1 = upd (g.2.2.2.2 1) n (nI t) → trk.2 2 = upd (g.2.2.2.2 2) t (nI oth) → (∀ u, trk.2 3 u = if u = t ∧ t = tn then 0 else g.2.2.2.2 3 u) → (t = tn → wa (174 + 58 * t + 2) = 0) → (∀ k, (¬ k = 174 + 58 * t + 2 ∨ ¬ t = tn) → wa k = w0 k) →
      ∃ g' x' tn', f_X1_layTile_J48 (nI c) ((sa g.1 0 (upd (g.1.2 0) c (-1))), (g.2.1), g.2.2.1, trk) un = some g' ∧ f_X8_playNow_J102 (nI c) (nI t) ((sa x.1 1 wa), x.2) = some x' ∧ Inv g' mx np hs hb tn' 0 f e (n + 1) ∧ Rel g' (dd x') np f e (n + 1) ∧ Fr x x' ∧ g'.2.1 = g.2.1 ∧ hT (g'.1.2 0) + 1 = hT (g.1.2 0) := by
    intro trk wa t0 tT tU tE tO waO war
    have w0r : ∀ k, ¬ k = 19 + c → ¬ k = 174 + 58 * t → ¬ k = 174 + 58 * t + 1 → ¬ k = 174 + 58 * t + 3 + cT (g.2.2.2.2 1) t n → w0 k = dd x k := fun k a1 a2 a3 a4 => by
      show upd (upd (upd (upd (x.1.2 1) (19 + c) (-1)) (174 + 58 * t + 3 + cT (g.2.2.2.2 1) t n) (nI c)) (174 + 58 * t) (nI (cT (g.2.2.2.2 1) t n + 1))) (174 + 58 * t + 1) (nI oth) k = _
      rw [upd_n a3, upd_n a2, upd_n a4, upd_n a1]
    have wr : ∀ k, ¬ k = 6 → ¬ k = 10 → ¬ k = 19 + c → ¬ k = 174 + 58 * t → ¬ k = 174 + 58 * t + 1 → (¬ k = 174 + 58 * t + 2 ∨ ¬ t = tn) → ¬ k = 174 + 58 * t + 3 + cT (g.2.2.2.2 1) t n → upd (upd wa 10 0) 6 un k = dd x k := fun k a1 a2 a3 a4 a5 a6 a7 => by
      rw [upd_n a1, upd_n a2, war k a6, w0r k a3 a4 a5 a7]
    obtain ⟨i1, r1⟩ := s_layCore h r hc ht hin hHc hoth hun trk t0 tT tU tE tO (upd (upd wa 10 0) 6 un) upd_s (by rw [upd_n (by omega), upd_s])
      (by
        rw [upd_n (by omega), upd_n (by omega), war _ (Or.inl (by omega))]
        show upd (upd (upd (upd (x.1.2 1) (19 + c) (-1)) (174 + 58 * t + 3 + cT (g.2.2.2.2 1) t n) (nI c)) (174 + 58 * t) (nI (cT (g.2.2.2.2 1) t n + 1))) (174 + 58 * t + 1) (nI oth) (19 + c) = _
        rw [upd_n (by omega), upd_n (by omega), upd_n (by omega), upd_s])
      (by
        rw [upd_n (by omega), upd_n (by omega), war _ (Or.inl (by omega))]
        show upd (upd (upd (upd (x.1.2 1) (19 + c) (-1)) (174 + 58 * t + 3 + cT (g.2.2.2.2 1) t n) (nI c)) (174 + 58 * t) (nI (cT (g.2.2.2.2 1) t n + 1))) (174 + 58 * t + 1) (nI oth) (174 + 58 * t) = _
        rw [upd_n (by omega), upd_s])
      (by
        rw [upd_n (by omega), upd_n (by omega), war _ (Or.inl (by omega))]
        exact upd_s)
      (fun z => by
        rw [upd_n (by omega), upd_n (by omega)]
        exact waO z)
      (by
        rw [upd_n (by omega), upd_n (by omega), war _ (Or.inl (by omega))]
        show upd (upd (upd (upd (x.1.2 1) (19 + c) (-1)) (174 + 58 * t + 3 + cT (g.2.2.2.2 1) t n) (nI c)) (174 + 58 * t) (nI (cT (g.2.2.2.2 1) t n + 1))) (174 + 58 * t + 1) (nI oth) (174 + 58 * t + 3 + cT (g.2.2.2.2 1) t n) = _
        rw [upd_n (by omega), upd_n (by omega), upd_s])
      wr
    have w4 : upd (upd wa 10 0) 6 un 4 = nI tn := (wr 4 (by omega) (by omega) (by omega) (by omega) (by omega) (Or.inl (by omega)) (by omega)).trans hd4
    have hFr : Fr x ((sa (sa x.1 1 wa) 1 (upd (upd wa 10 0) 6 un)), x.2) := ⟨rfl, fun i hi => by
      show upA (upA x.1.2 1 wa) 1 _ i = _
      rw [upA_n hi, upA_n hi], fun k hk => wr k (by omega) (by omega) (by omega) (by omega) (by omega) (Or.inl (by omega)) (by omega)⟩
    have hFz : Fr ((sa (sa x.1 1 wa) 1 (upd (upd wa 10 0) 6 un)), x.2) ((sa (sa x.1 1 wa) 1 (upd (upd (upd wa 10 0) 6 un) 5 0)), x.2) := ⟨rfl, fun i hi => by
      show upA (upA x.1.2 1 wa) 1 _ i = upA (upA x.1.2 1 wa) 1 _ i
      simp only [upA_n hi], fun k hk => upd_n (by omega)⟩
    obtain ⟨g', x', tn', a1, a2, a3, a4, a5, a6, a7, a8⟩ := s_layTail (y := ((sa (sa x.1 1 wa) 1 (upd (upd wa 10 0) 6 un)), x.2)) (z := ((sa (sa x.1 1 wa) 1 (upd (upd (upd wa 10 0) 6 un) 5 0)), x.2)) i1 r1 rfl rfl hFz hc
    refine ⟨g', x', tn', ?_, ?_, a3, a4, hFr.tr a5, a6, ?_⟩
    · rw [← a1]
      unfold f_X1_layTile_J48
      rw [show ((sa g.1 0 (upd (g.1.2 0) c (-1))), (g.2.1), g.2.2.1, trk).1.1 5 = nI tn from htn.1]
    · rw [← a2]
      unfold f_X8_playNow_J102
      simp only [gl_10, cl_10, nmd_S]
      rw [eJ8]
      unfold f_X8_playNow_J128
      simp only [gl_6, cl_6, gl_4, cl_4, gl_5, cl_5, nmd_S]
      rw [show upd (upd (((sa x.1 1 wa), x.2).1.2 1) 10 0) 6 un 4 = nI tn from w4]
      rfl
    · rw [a7, hdn]
      rfl
  have e1 : f_X1_layTile g (nI c) (nI t) = if t = tn then f_X1_layTile_J48 (nI c) ((sa g.1 0 (upd (g.1.2 0) c (-1))), (g.2.1), g.2.2.1, sa (sa (sa (sa (ss g.2.2.2 0 (nI (n + 1))) 0 (upd (g.2.2.2.2 0) n (nI c))) 1 (upd (g.2.2.2.2 1) n (nI t))) 2 (upd (g.2.2.2.2 2) t (nI oth))) 3 (upd (g.2.2.2.2 3) t 0)) un else f_X1_layTile_J48 (nI c) ((sa g.1 0 (upd (g.1.2 0) c (-1))), (g.2.1), g.2.2.1, sa (sa (sa (ss g.2.2.2 0 (nI (n + 1))) 0 (upd (g.2.2.2.2 0) n (nI c))) 1 (upd (g.2.2.2.2 1) n (nI t))) 2 (upd (g.2.2.2.2 2) t (nI oth))) un := by
    unfold f_X1_layTile
    rw [e_put hc (by omega), bd1_S, eL, bd1_S, htn.1, (e_setOpen (k := t) (by omega)).2, bd1_S, eJ, eJ, ie_eq (by omega) (by omega)]
    rfl
  rw [e1, eM]
  by_cases h2 : t = tn
  · rw [if_pos h2, if_pos h2]
    refine fin _ _ rfl rfl rfl rfl (fun u => ?_) (fun _ => upd_s) (fun k hk => upd_n (hk.resolve_right (fun z => z h2)))
    show upd (g.2.2.2.2 3) t 0 u = _
    by_cases hu : u = t
    · rw [hu, upd_s, if_pos ⟨rfl, h2⟩]
    · rw [upd_n hu, if_neg (fun z => hu z.1)]
  · rw [if_neg h2, if_neg h2]
    exact fin _ _ rfl rfl rfl rfl (fun u => by rw [if_neg (fun z => h2 z.2)]; rfl) (fun z => absurd z h2) (fun k hk => rfl)
end H
