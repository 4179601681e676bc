/-! a tile laid -/
section RTL
variable {g : GS} {T : TT} {mx np hs hb tn pa f e n : Nat}
theorem obs_0 {ov tn2 un : Int32} {H E O : Nat → Int32} {c t : Nat} (h : obs ov tn2 un np H E O c t = 0) : ov = 0 ∧ H c = tn2 ∧ (nI (c / 10) = E t ∨ nI (c % 10) = E t) := by
  unfold obs at h
  by_cases h1 : ov = 0
  · rw [if_pos h1] at h
    by_cases h2 : H c = tn2
    · rw [if_pos h2] at h
      refine ⟨h1, h2, ?_⟩
      have key : fit E c t = 0 → nI (c / 10) = E t ∨ nI (c % 10) = E t := by
        intro hf
        unfold fit at hf
        by_cases h5 : nI (c / 10) = E t ∨ nI (c % 10) = E t
        · exact h5
        · rw [if_neg h5] at hf; exact absurd hf (by decide)
      by_cases h3 : un = -1
      · rw [if_pos h3] at h
        by_cases h4 : nI t = tn2 ∨ t = np ∨ O t = 1
        · rw [if_pos h4] at h; exact key h
        · rw [if_neg h4] at h; exact absurd h (by decide)
      · rw [if_neg h3] at h
        by_cases h4 : un = nI t
        · rw [if_pos h4] at h; exact key h
        · rw [if_neg h4] at h; exact absurd h (by decide)
    · rw [if_neg h2] at h; exact absurd h (by decide)
  · rw [if_neg h1] at h; exact absurd h (by decide)
theorem trL_congr {B U B' U' : Nat → Int32} {t : Nat} : ∀ {n}, (∀ i, i < n → B i = B' i ∧ U i = U' i) → trL B U t n = trL B' U' t n
  | 0, _ => rfl
  | n + 1, h => by
    show trL B U t n ++ _ = trL B' U' t n ++ _
    rw [trL_congr fun i hi => h i (by omega), (h n (by omega)).1, (h n (by omega)).2]
theorem pa_S (T : TT) (tn x k : Nat) : (playA T tn x k).1 = upd (upd T.1 9 0) 6 (if x % 11 = 0 then nI k else -1) := by
  unfold playA
  dsimp only
  split <;> rfl
theorem pa_H (T : TT) (tn x k : Nat) : tH (playA T tn x k) = (tH T).set tn ((hnd T tn).filter (fun y => decide (¬ y = x))) := playA_H T tn x k
theorem pa_T (T : TT) (tn x k : Nat) : tT (playA T tn x k) = tT T := by
  unfold playA
  dsimp only
  split <;> rfl
theorem pa_R (T : TT) (tn x k : Nat) : tR (playA T tn x k) = (tR T).set k (trn T k ++ [x]) := by
  unfold playA
  dsimp only
  split <;> rfl
theorem pa_O (T : TT) (tn x k : Nat) : tO (playA T tn x k) = if k = tn then (tO T).set k 0 else tO T := by
  unfold playA
  dsimp only
  split <;> rfl
theorem pa_K (T : TT) (tn x k : Nat) : tK (playA T tn x k) = tK T := by
  unfold playA
  dsimp only
  split <;> rfl
theorem RT.layCore (r : RT g T np hb f e n) (h : Inv g mx np hs hb tn pa f e n) {c t oth : Nat} (hc : c < 100) (ht : t ≤ np) (hin : inS mx c) (hHc : g.1.2 0 c = nI tn) (hoth : oth ≤ 9) (heo : endT hb (trn T t ++ [c]) = oth) {un : Int32} (hun : un = if c % 11 = 0 then nI t else -1) (trk : SA) (t0 : trk.1 0 = nI (n + 1)) (tT1 : trk.2 0 = upd (g.2.2.2.2 0) n (nI c)) (tU : trk.2 1 = upd (g.2.2.2.2 1) n (nI t)) (tE : trk.2 2 = upd (g.2.2.2.2 2) t (nI oth)) (tO1 : ∀ u, trk.2 3 u = if u = t ∧ t = tn then 0 else g.2.2.2.2 3 u) :
    Inv ((ss (ss (sa g.1 0 (upd (g.1.2 0) c (-1))) 7 un) 10 0), g.2.1, g.2.2.1, trk) mx np hs hb tn 0 f e (n + 1) ∧ RT ((ss (ss (sa g.1 0 (upd (g.1.2 0) c (-1))) 7 un) 10 0), g.2.1, g.2.2.1, trk) (playA T tn c t) np hb f e (n + 1) := by
  have hcnt := h.cnt
  have hnp := h.np
  have htn := h.tn
  have hR := r.S
  have hHn : ¬ g.1.2 0 c = -1 := by rw [hHc]; exact nI_m1 (by omega)
  have hdn := hT_down (g.1.2 0) hc hHn
  have he := h.st.2.2
  have hU : ∀ i, i < n → upd (g.2.2.2.2 1) n (nI t) i = g.2.2.2.2 1 i := fun i hi => upd_n (by omega)
  have hB : ∀ i, i < n → upd (g.2.2.2.2 0) n (nI c) i = g.2.2.2.2 0 i := fun i hi => upd_n (by omega)
  have htrn : ∀ u, u ≤ np → trn (playA T tn c t) u = trL (trk.2 0) (trk.2 1) u (n + 1) := fun u hu => by
    show (tR (playA T tn c t)).getD u [] = trL (trk.2 0) (trk.2 1) u n ++ (if trk.2 1 n = nI u then [(trk.2 0 n).toNatClampNeg] else [])
    rw [pa_R, hnd_set (by rw [r.L.2.2.1]; omega), tU, tT1, upd_s, upd_s, nI_clamp (by omega), trL_congr (B' := g.2.2.2.2 0) (U' := g.2.2.2.2 1) fun i hi => ⟨hB i hi, hU i hi⟩, ← r.R u hu]
    by_cases hq : u = t
    · rw [if_pos hq, hq, if_pos rfl]
    · rw [if_neg hq, if_neg (fun z => hq ((nI_eq (by omega) (by omega)).mp z).symm), List.append_nil]
  refine ⟨⟨h.mx, h.np, h.hs, h.hb, h.tn, h.dr, ?_, h.ov, ⟨rfl, by omega⟩, ?_, h.st, h.K, t0, ?_, ?_, ?_, ?_⟩, ?_⟩
  · show un = -1 ∨ ∃ u, u ≤ np ∧ un = nI u
    rw [hun]
    split
    · exact Or.inr ⟨t, ht, rfl⟩
    · exact Or.inl rfl
  · intro j hj
    show upd (g.1.2 0) c (-1) j = -1 ∨ (∃ p, p < np ∧ upd (g.1.2 0) c (-1) j = nI p) ∧ inS mx j
    by_cases hjc : j = c
    · rw [hjc, upd_s]; exact Or.inl rfl
    · rw [upd_n hjc]; exact h.H j hj
  · intro i hi
    show (∃ c, c < 100 ∧ trk.2 0 i = nI c ∧ inS mx c) ∧ ∃ u, u ≤ np ∧ trk.2 1 i = nI u
    rw [tT1, tU]
    by_cases hin2 : i = n
    · rw [hin2, upd_s, upd_s]; exact ⟨⟨c, hc, rfl, hin⟩, ⟨t, ht, rfl⟩⟩
    · rw [upd_n hin2, upd_n hin2]; exact h.T i (by omega)
  · intro u hu
    show ∃ y, y ≤ 9 ∧ trk.2 2 u = nI y
    rw [tE]
    by_cases hq : u = t
    · rw [hq, upd_s]; exact ⟨oth, hoth, rfl⟩
    · rw [upd_n hq]; exact h.E u hu
  · intro u hu
    show trk.2 3 u = 0 ∨ trk.2 3 u = 1
    rw [tO1]
    by_cases hq : u = t ∧ t = tn
    · rw [if_pos hq]; exact Or.inl rfl
    · rw [if_neg hq]; exact h.O u hu
  · show hT (upd (g.1.2 0) c (-1)) + (e - f) + (n + 1) ≤ 54
    omega
  · have hSp := pa_S T tn c t
    refine ⟨?_, ⟨?_, ?_, ?_, ?_⟩, ?_, ?_, htrn, ?_, ?_, ?_, ?_, ?_⟩
    · rw [hSp]
      exact ⟨hR.1, hR.2.1, hR.2.2.1, hR.2.2.2.1, hR.2.2.2.2.1, hR.2.2.2.2.2.1, hun.symm, hR.2.2.2.2.2.2.2.1, hR.2.2.2.2.2.2.2.2.1, rfl⟩
    · rw [pa_H, List.length_set]; exact r.L.1
    · rw [pa_T]; exact r.L.2.1
    · rw [pa_R, List.length_set]; exact r.L.2.2.1
    · rw [pa_O]
      split
      · rw [List.length_set]; exact r.L.2.2.2
      · exact r.L.2.2.2
    · intro p hp
      show ((tH (playA T tn c t)).getD p []).Perm (hL (upd (g.1.2 0) c (-1)) p)
      rw [pa_H, hnd_set (by rw [r.L.1]; exact htn.2)]
      have hmem : ∀ x, x ∈ hL (upd (g.1.2 0) c (-1)) p ↔ x ∈ hL (g.1.2 0) p ∧ ¬ x = c := fun x => by
        rw [hL_mem, hL_mem]
        by_cases hxc : x = c
        · rw [hxc, upd_s]
          exact ⟨fun z => absurd z.2.symm (nI_m1 (by omega)), fun z => absurd rfl z.2⟩
        · rw [upd_n hxc]
          exact ⟨fun z => ⟨z, hxc⟩, fun z => z.1⟩
      by_cases hpt : p = tn
      · subst hpt
        rw [if_pos rfl]
        have q := r.H p hp
        refine pm_ext ((q.nodup_iff.mpr (hL_nd _ _)).filter _) (hL_nd _ _) fun x => ?_
        rw [List.mem_filter, decide_eq_true_eq, q.mem_iff, hmem]
      · rw [if_neg hpt]
        refine (r.H p hp).trans (pm_ext (hL_nd _ _) (hL_nd _ _) fun x => ?_)
        rw [hmem]
        refine ⟨fun z => ⟨z, fun y => hpt ?_⟩, fun z => z.1⟩
        have := (hL_mem.mp z).2
        rw [y, hHc] at this
        exact ((nI_eq (by omega) (by omega)).mp this).symm
    · rw [pa_T]; exact r.tot
    · intro u hu
      show trk.2 2 u = nI (endT hb ((tR (playA T tn c t)).getD u []))
      rw [pa_R, hnd_set (by rw [r.L.2.2.1]; omega), tE]
      by_cases hq : u = t
      · rw [if_pos hq, hq, upd_s, heo]
      · rw [if_neg hq, upd_n hq]; exact r.E u hu
    · intro u hu
      show (tO (playA T tn c t)).getD u 0 = if u = np ∨ trk.2 3 u = 1 then 1 else 0
      rw [pa_O]
      have hv := tO1 u
      by_cases h2 : t = tn
      · rw [if_pos h2, int_set (by rw [r.L.2.2.2]; omega)]
        by_cases hq : u = t
        · rw [if_pos ⟨hq, h2⟩] at hv
          have hno : ¬ (u = np ∨ trk.2 3 u = 1) := by
            rw [hv]
            rintro (z | z)
            · omega
            · exact absurd z (by decide)
          rw [if_pos hq, if_neg hno]
        · rw [if_neg (fun z => hq z.1)] at hv
          rw [if_neg hq, hv]; exact r.O u hu
      · rw [if_neg (fun z => h2 z.2)] at hv
        rw [if_neg h2, hv]; exact r.O u hu
    · rw [pa_K]; exact r.K
    · rw [pa_K]; exact r.nd
    · rw [pa_K]
      intro x hx
      show upd (g.1.2 0) c (-1) x = -1
      by_cases hxc : x = c
      · rw [hxc, upd_s]
      · rw [upd_n hxc]; exact r.fr x hx
theorem dbl_11 {c : Nat} (hc : c < 100) : c / 10 = c % 10 ↔ c % 11 = 0 := by omega
theorem RT.lay (r : RT g T np hb f e n) (h : Inv g mx np hs hb tn pa f e n) {c t : Nat} (hc : c < 100) (ht : t ≤ np) (hob : gob np g c t = 0) : ∃ g' tn', f_X1_layTile g (nI c) (nI t) = some g' ∧ Inv g' mx np hs hb tn' 0 f e (n + 1) ∧ RT g' (playT T np tn c t) np hb f e (n + 1) ∧ g'.2.1 = g.2.1 ∧ hT (g'.1.2 0) + 1 = hT (g.1.2 0) ∧ g'.2.2.2.2 2 t = nI (endT hb (trn T t ++ [c])) := by
  obtain ⟨hov, hHt, hfit⟩ := obs_0 hob
  have hw := r.tw h
  have hnp := h.np
  have htn := h.tn
  have hmx := h.mx
  have hhb := h.hb
  have hcnt := h.cnt
  have hHc : g.1.2 0 c = nI tn := by rw [hHt, htn.1]
  have hHn : ¬ g.1.2 0 c = -1 := by rw [hHc]; exact nI_m1 (by omega)
  have hin : inS mx c := ((h.H c hc).resolve_left hHn).2
  have hdn := hT_down (g.1.2 0) hc hHn
  obtain ⟨y, ey⟩ : ∃ y, y = endT hb (trn T t) := ⟨_, rfl⟩
  have hy : y < 10 := by rw [ey]; exact endT_lt (by omega) _ (hw.R t).1
  have hE : g.2.2.2.2 2 t = nI y := by rw [ey]; exact r.E t ht
  have hy2 : c / 10 = y ∨ c % 10 = y := by
    rw [hE, nI_eq (by omega) (by omega), nI_eq (by omega) (by omega)] at hfit
    exact hfit
  obtain ⟨oth, eo⟩ : ∃ o, o = if c / 10 = y then c % 10 else c / 10 := ⟨_, rfl⟩
  have heo : endT hb (trn T t ++ [c]) = oth := by rw [endT_snoc, ← ey, eo]
  have hin1 := hin.1
  have hin2 := hin.2
  have hoth : oth ≤ 9 := by rw [eo]; split <;> omega
  have hsub : c / 10 + c % 10 - y = oth ∧ y ≤ c / 10 + c % 10 := by rw [eo]; split <;> omega
  obtain ⟨un, eu⟩ : ∃ u : Int32, u = if c % 11 = 0 then nI t else -1 := ⟨_, rfl⟩
  have eE : ∀ T1 U1 : Nat → Int32, f_X6_endOf (sa (sa (ss g.2.2.2 0 (nI (n + 1))) 0 T1) 1 U1) (nI t) = some (nI y) := fun T1 U1 => by
    unfold f_X6_endOf
    rw [e_look (by omega) (by omega), bd1_S]
    exact congrArg some hE
  have eL : f_X6_lay g.2.2.2 (nI c) (nI t) = some (sa (sa (sa (ss g.2.2.2 0 (nI (n + 1))) 0 (upd (g.2.2.2.2 0) n (nI c))) 1 (upd (g.2.2.2.2 1) n (nI t))) 2 (upd (g.2.2.2.2 2) t (nI oth))) := by
    unfold f_X6_lay
    rw [h.n, i_55, ie_le (by omega) (by omega), if_neg (by omega), e_put (by omega) (by omega), bd1_S, e_put (by omega) (by omega), bd1_S, e_pips (by omega), bd1_S, nI_1, eE, bd1_S, e_put (by omega) (by omega), bd1_S, nI_sub hsub.2, hsub.1]
  have eJ : ∀ gg : GS, f_X1_layTile_J35 (nI c) (nI t) gg = f_X1_layTile_J48 (nI c) gg un := fun gg => by
    unfold f_X1_layTile_J35
    rw [e_double (by omega), bd1_S, eu]
    by_cases h2 : c / 10 = c % 10
    · rw [if_pos h2, if_pos ((dbl_11 hc).mp h2), if_neg (by decide)]
    · rw [if_neg h2, if_neg (fun z => h2 ((dbl_11 hc).mpr z)), if_pos rfl]
  have fin : ∀ (trk : SA), trk.1 0 = nI (n + 1) → trk.2 0 = upd (g.2.2.2.2 0) n (nI c) → trk.2 1 = upd (g.2.2.2.2 1) n (nI t) → trk.2 2 = upd (g.2.2.2.2 2) t (nI oth) → (∀ u, trk.2 3 u = if u = t ∧ t = tn then 0 else g.2.2.2.2 3 u) →
      ∃ g' tn', f_X1_layTile_J48 (nI c) ((sa g.1 0 (upd (g.1.2 0) c (-1))), (g.2.1), g.2.2.1, trk) un = some g' ∧ Inv g' mx np hs hb tn' 0 f e (n + 1) ∧ RT g' (playT T np tn c t) np hb f e (n + 1) ∧ g'.2.1 = g.2.1 ∧ hT (g'.1.2 0) + 1 = hT (g.1.2 0) ∧ g'.2.2.2.2 2 t = nI (endT hb (trn T t ++ [c])) := by
    intro trk t0 tT1 tU tE tO1
    obtain ⟨i1, r1⟩ := r.layCore h hc ht hin hHc hoth heo eu trk t0 tT1 tU tE tO1
    have hd1 : hT (upd (g.1.2 0) c (-1)) + 1 = hT (g.1.2 0) := hdn.symm
    have hE1 : trk.2 2 t = nI (endT hb (trn T t ++ [c])) := by rw [tE, upd_s, heo]
    have hlen : hcN (upd (g.1.2 0) c (-1)) (nI tn) = ((hnd T tn).filter (fun y => decide (¬ y = c))).length := by
      have := r1.hc (p := tn) htn.2
      rw [show hnd (playA T tn c t) tn = (hnd T tn).filter (fun y => decide (¬ y = c)) by
        show (tH (playA T tn c t)).getD tn [] = _
        rw [pa_H, hnd_set (by rw [r.L.1]; exact htn.2), if_pos rfl]] at this
      exact this
    have hl55 : hcN (upd (g.1.2 0) c (-1)) (nI tn) ≤ 100 := hcN_le _ _
    have e48 : f_X1_layTile_J48 (nI c) ((sa g.1 0 (upd (g.1.2 0) c (-1))), (g.2.1), g.2.2.1, trk) un = (bd1 (f_X1_handCount ((ss (ss (sa g.1 0 (upd (g.1.2 0) c (-1))) 7 un) 10 0), g.2.1, g.2.2.1, trk) (nI tn)) fun (r61 : Int32) => if r61 = 0 then (bd1 (f_X1_endRound ((ss (ss (sa g.1 0 (upd (g.1.2 0) c (-1))) 7 un) 10 0), g.2.1, g.2.2.1, trk)) fun (g68 : GS) => some (g68)) else (bd1 (f_X7_isDouble (nI c)) fun (r75 : Int32) => if r75 = 0 then (bd1 (f_X1_nextTurn ((ss (ss (sa g.1 0 (upd (g.1.2 0) c (-1))) 7 un) 10 0), g.2.1, g.2.2.1, trk)) fun (g90 : GS) => some (g90)) else (some (((ss (ss (ss (sa g.1 0 (upd (g.1.2 0) c (-1))) 7 un) 10 0) 6 0), g.2.1, g.2.2.1, trk))))) := by
      unfold f_X1_layTile_J48
      rw [show ((sa g.1 0 (upd (g.1.2 0) c (-1))), (g.2.1), g.2.2.1, trk).1.1 5 = nI tn from htn.1]
    rw [e48]
    generalize hg1 : (((ss (ss (sa g.1 0 (upd (g.1.2 0) c (-1))) 7 un) 10 0), g.2.1, g.2.2.1, trk) : GS) = g1 at i1 r1
    have q0 : g1.1.2 0 = upd (g.1.2 0) c (-1) := by rw [← hg1]; rfl
    have q1 : g1.2.1 = g.2.1 := by rw [← hg1]
    have q2 : g1.2.2.2.2 2 t = nI (endT hb (trn T t ++ [c])) := by rw [← hg1]; exact hE1
    have q3 : (((ss (ss (ss (sa g.1 0 (upd (g.1.2 0) c (-1))) 7 un) 10 0) 6 0), g.2.1, g.2.2.1, trk) : GS) = ((ss g1.1 6 0), g1.2) := by rw [← hg1]
    rw [e_handCount, bd1_S, e_double (by omega), bd1_S, q0, hlen, ie_eq0 (by omega), q3]
    unfold playT
    by_cases h1 : ((hnd T tn).filter (fun y => decide (¬ y = c))).length = 0
    · rw [if_pos h1, if_pos h1]
      obtain ⟨g', a1, a3, a4, a6, a7, a8⟩ := r1.ends i1
      rw [a1, bd1_S]
      exact ⟨g', tn, rfl, a3, a4, (congrArg Prod.fst a6).trans q1, by rw [a8, q0]; exact hd1, by rw [a6]; exact q2⟩
    · rw [if_neg h1, if_neg h1]
      by_cases h2 : c / 10 = c % 10
      · rw [if_pos h2, if_neg (by decide), if_pos ((dbl_11 hc).mp h2)]
        refine ⟨_, tn, rfl, ?_, ?_, q1, by show hT (g1.1.2 0) + 1 = _; rw [q0]; exact hd1, q2⟩
        · exact ⟨i1.mx, i1.np, i1.hs, i1.hb, i1.tn, Or.inl rfl, i1.un, i1.ov, i1.pa, i1.H, i1.st, i1.K, i1.n, i1.T, i1.E, i1.O, i1.cnt⟩
        · have hS := r1.S
          exact r1.sc rfl rfl rfl ⟨hS.1, hS.2.1, hS.2.2.1, hS.2.2.2.1, hS.2.2.2.2.1, rfl, hS.2.2.2.2.2.2.1, hS.2.2.2.2.2.2.2.1, hS.2.2.2.2.2.2.2.2.1, hS.2.2.2.2.2.2.2.2.2⟩
      · rw [if_neg h2, if_pos rfl, if_neg (fun z => h2 ((dbl_11 hc).mpr z))]
        obtain ⟨g', tn', a1, a3, a4, a6, a7, a8⟩ := r1.next i1
        rw [a1, bd1_S]
        exact ⟨g', tn', rfl, a3, a4, (congrArg Prod.fst a6).trans q1, by rw [a8, q0]; exact hd1, by rw [a6]; exact q2⟩
  have e1 : f_X1_layTile g (nI c) (nI t) = if t = tn then f_X1_layTile_J48 (nI c) ((sa g.1 0 (upd (g.1.2 0) c (-1))), (g.2.1), g.2.2.1, sa (sa (sa (sa (ss g.2.2.2 0 (nI (n + 1))) 0 (upd (g.2.2.2.2 0) n (nI c))) 1 (upd (g.2.2.2.2 1) n (nI t))) 2 (upd (g.2.2.2.2 2) t (nI oth))) 3 (upd (g.2.2.2.2 3) t 0)) un else f_X1_layTile_J48 (nI c) ((sa g.1 0 (upd (g.1.2 0) c (-1))), (g.2.1), g.2.2.1, sa (sa (sa (ss g.2.2.2 0 (nI (n + 1))) 0 (upd (g.2.2.2.2 0) n (nI c))) 1 (upd (g.2.2.2.2 1) n (nI t))) 2 (upd (g.2.2.2.2 2) t (nI oth))) un := by
    unfold f_X1_layTile
    rw [e_put hc (by omega), bd1_S, eL, bd1_S, htn.1, (e_setOpen (k := t) (by omega)).2, bd1_S, eJ, eJ, ie_eq (by omega) (by omega)]
    rfl
  rw [e1]
  by_cases h2 : t = tn
  · rw [if_pos h2]
    refine fin _ rfl rfl rfl rfl (fun u => ?_)
    show upd (g.2.2.2.2 3) t 0 u = _
    by_cases hu : u = t
    · rw [hu, upd_s, if_pos ⟨rfl, h2⟩]
    · rw [upd_n hu, if_neg (fun z => hu z.1)]
  · rw [if_neg h2]
    exact fin _ rfl rfl rfl rfl (fun u => by rw [if_neg (fun z => h2 z.2)]; rfl)
end RTL
