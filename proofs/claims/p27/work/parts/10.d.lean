/-! what changes do to the class's game and to the table: the turn, the end, a draw, a pass -/
theorem cn_le1 {P Q : Nat → Bool} (c : Nat) : ∀ (n k : Nat), (∀ j, j ≠ c → P j = Q j) → cn P k n ≤ cn Q k n + (if k ≤ c ∧ c < k + n then 1 else 0)
  | 0, k, _ => Nat.zero_le _
  | n + 1, k, H => by
    show (if P k = true then 1 else 0) + cn P (k + 1) n ≤ (if Q k = true then 1 else 0) + cn Q (k + 1) n + _
    have ih := cn_le1 c n (k + 1) H
    by_cases hk : k = c
    · subst hk
      rw [if_pos (show k ≤ k ∧ k < k + (n + 1) by omega)]
      rw [if_neg (show ¬ (k + 1 ≤ k ∧ k < k + 1 + n) by omega)] at ih
      split <;> split <;> omega
    · rw [H k hk]
      by_cases h2 : k ≤ c ∧ c < k + (n + 1)
      · rw [if_pos h2]
        rw [if_pos (show k + 1 ≤ c ∧ c < k + 1 + n by omega)] at ih
        omega
      · rw [if_neg h2]
        rw [if_neg (show ¬ (k + 1 ≤ c ∧ c < k + 1 + n) by omega)] at ih
        omega
theorem hT_up (H : Nat → Int32) (c : Nat) (v : Int32) : hT (upd H c v) ≤ hT H + 1 := by
  have := cn_le1 (P := fun j => decide (¬ upd H c v j = -1)) (Q := fun j => decide (¬ H j = -1)) c 100 0 (fun j hj => by rw [upd_n hj])
  unfold hT
  split at this <;> omega
theorem hT_down (H : Nat → Int32) {c : Nat} (hc : c < 100) (h : ¬ H c = -1) : hT H = hT (upd H c (-1)) + 1 :=
  cn_set (P := fun j => decide (¬ H j = -1)) (Q := fun j => decide (¬ upd H c (-1) j = -1)) c (decide_eq_true h) (by rw [upd_s]; decide) 100 0 (Nat.zero_le _) (by omega) (fun j hj => by rw [upd_n hj])
theorem c_endRound {g : GS} {np : Nat} (h1 : g.1.1 1 = nI np) (hn4 : np ≤ 4) : ∃ g', f_X1_endRound g = some g' ∧ g'.1.1 = upd (upd g.1.1 8 1) 9 (g.1.1 9 + 1) ∧ (∀ j, j ≠ 1 → g'.1.2 j = g.1.2 j) ∧ g'.2 = g.2 ∧ ∀ p, p < 4 → g'.1.2 1 p = g.1.2 1 p + (if p < np then hpI (g.1.2 0) (nI p) else 0) := by
  unfold f_X1_endRound
  refine lr2 (fun (o : Option GS) => ∃ g' : GS, o = some g' ∧ g'.1.1 = upd (upd g.1.1 8 1) 9 (g.1.1 9 + 1) ∧ (∀ j, j ≠ 1 → g'.1.2 j = g.1.2 j) ∧ g'.2 = g.2 ∧ ∀ p, p < 4 → g'.1.2 1 p = g.1.2 1 p + (if p < np then hpI (g.1.2 0) (nI p) else 0)) (fun (m : Nat) (i : Int32) (gg : GS) => ∃ k, i = nI k ∧ k + m = np ∧ gg.1.1 = upd (upd g.1.1 8 1) 9 (g.1.1 9 + 1) ∧ (∀ j, j ≠ 1 → gg.1.2 j = g.1.2 j) ∧ gg.2 = g.2 ∧ ∀ p, p < 4 → gg.1.2 1 p = g.1.2 1 p + (if p < k then hpI (g.1.2 0) (nI p) else 0)) ?_ FUEL np 0 _ (FUEL_lt (by omega)) ⟨0, rfl, by omega, rfl, fun _ _ => rfl, rfl, fun p hp => by rw [if_neg (by omega), i_addz]⟩
  rintro rec m i gg ⟨k, rfl, hk, hS, hA, h2, hT⟩ ih
  unfold f_X1_endRound_B17
  have e1 : gg.1.1 1 = nI np := by rw [hS]; exact h1
  rw [e1, ie_le (by omega) (by omega)]
  by_cases hkk : np ≤ k
  · rw [if_pos hkk]
    have : k = np := by omega
    subst this
    exact ⟨gg, rfl, hS, hA, h2, hT⟩
  · rw [if_neg hkk, e_look (by omega) (by omega), bd1_S, e_handPips, bd1_S, e_put (by omega) (by omega), bd1_S, nI_1]
    refine ih (m - 1) _ _ (by omega) ⟨k + 1, rfl, by omega, hS, fun j hj => ?_, h2, fun p hp => ?_⟩
    · show upA gg.1.2 1 _ j = _
      rw [upA_n hj]; exact hA j hj
    · show upd (gg.1.2 1) k _ p = _
      by_cases hpk : p = k
      · subst hpk
        rw [upd_s, if_pos (by omega), hT p hp, if_neg (by omega), i_addz, hA 0 (by omega)]
      · rw [upd_n hpk, hT p hp]
        by_cases h3 : p < k
        · rw [if_pos h3, if_pos (by omega)]
        · rw [if_neg h3, if_neg (by omega)]
theorem e_setOpen {t : SA} {k : Nat} (hk : k < 5) : f_X6_setOpen t (nI k) 1 = some (sa t 3 (upd (t.2 3) k 1)) ∧ f_X6_setOpen t (nI k) 0 = some (sa t 3 (upd (t.2 3) k 0)) := by
  constructor
  · unfold f_X6_setOpen f_X6_setOpen_J14
    rw [if_neg (by decide), e_put hk (by omega), bd1_S]
  · unfold f_X6_setOpen f_X6_setOpen_J14
    rw [if_pos rfl, e_put hk (by omega), bd1_S]
theorem pm_ext {l m : List Nat} (h1 : l.Nodup) (h2 : m.Nodup) (h : ∀ x, x ∈ l ↔ x ∈ m) : l.Perm m := by
  rw [List.perm_iff_count]
  intro x
  rw [h1.count, h2.count]
  by_cases hx : x ∈ l
  · rw [if_pos hx, if_pos ((h x).mp hx)]
  · rw [if_neg hx, if_neg (fun z => hx ((h x).mpr z))]
theorem hnd_set {L : List (List Nat)} {p q : Nat} {l : List Nat} (hp : p < L.length) : (L.set p l).getD q [] = if q = p then l else L.getD q [] := by
  rw [List.getD_eq_getElem?_getD, List.getElem?_set]
  by_cases h : p = q
  · rw [if_pos h, if_pos hp, if_pos h.symm]; rfl
  · rw [if_neg h, if_neg (fun z => h z.symm), List.getD_eq_getElem?_getD]
theorem int_set {L : List Int32} {p q : Nat} {l : Int32} (hp : p < L.length) : (L.set p l).getD q 0 = if q = p then l else L.getD q 0 := by
  rw [List.getD_eq_getElem?_getD, List.getElem?_set]
  by_cases h : p = q
  · rw [if_pos h, if_pos hp, if_pos h.symm]; rfl
  · rw [if_neg h, if_neg (fun z => h z.symm), List.getD_eq_getElem?_getD]
theorem skL_cons (B : Nat → Int32) (f k : Nat) : skL B f (k + 1) = (B f).toNatClampNeg :: skL B (f + 1) k := by
  unfold skL
  rw [List.range_succ_eq_map, List.map_cons, List.map_map]
  congr 1
  refine List.map_congr_left fun i _ => ?_
  show (B (f + (i + 1))).toNatClampNeg = _
  rw [show f + (i + 1) = f + 1 + i by omega]
section RTE
variable {g : GS} {T : TT} {mx np hs hb tn pa f e n : Nat}
theorem RT.sc {g' : GS} {T' : TT} (r : RT g T np hb f e n) (hT : T'.2 = T.2) (hA : g'.1.2 = g.1.2) (h2 : g'.2.2 = g.2.2)
    (hS : T'.1 0 = g'.1.1 0 ∧ T'.1 1 = g'.1.1 2 ∧ T'.1 2 = g'.1.1 3 ∧ T'.1 3 = g'.1.1 4 ∧ T'.1 4 = g'.1.1 5 ∧ T'.1 5 = g'.1.1 6 ∧ T'.1 6 = g'.1.1 7 ∧ T'.1 7 = g'.1.1 8 ∧ T'.1 8 = g'.1.1 9 ∧ T'.1 9 = g'.1.1 10) : RT g' T' np hb f e n := by
  obtain ⟨S', R'⟩ := T'
  obtain ⟨S, R⟩ := T
  subst hT
  obtain ⟨⟨s1, s2⟩, fo, q⟩ := g'
  obtain ⟨⟨s1', s2'⟩, fo', q'⟩ := g
  subst hA h2
  exact ⟨hS, r.2⟩
theorem RT.next (r : RT g T np hb f e n) (h : Inv g mx np hs hb tn pa f e n) : ∃ g' tn', f_X1_nextTurn g = some g' ∧ Inv g' mx np hs hb tn' pa f e n ∧ RT g' (nextT T np tn) np hb f e n ∧ g'.2 = g.2 ∧ g'.1.1 8 = g.1.1 8 ∧ g'.1.2 = g.1.2 := by
  have hnp := h.np
  have htn := h.tn
  have hS := r.S
  obtain ⟨v, hv, ev⟩ : ∃ v, v < np ∧ v = if tn + 1 = np then 0 else tn + 1 := ⟨_, by split <;> omega, rfl⟩
  have e1 : f_X1_nextTurn g = some (((ss (ss g.1 5 (nI v)) 6 0), (g.2.1), g.2.2.1, g.2.2.2)) := by
    unfold f_X1_nextTurn
    rw [h.np.1, h.tn.1, nI_1, ie_le (by omega) (by omega), ev]
    by_cases hq : np ≤ tn + 1
    · rw [if_pos hq, if_pos (by omega)]; rfl
    · rw [if_neg hq, if_neg (by omega)]
  have ev2 : (if tn + 1 = np then (0 : Int32) else nI (tn + 1)) = nI v := by
    rw [ev]; split <;> rfl
  refine ⟨_, v, e1, ?_, ?_, rfl, rfl, rfl⟩
  · exact ⟨h.mx, h.np, h.hs, h.hb, ⟨rfl, hv⟩, Or.inl rfl, h.un, h.ov, h.pa, h.H, h.st, h.K, h.n, h.T, h.E, h.O, h.cnt⟩
  · refine r.sc rfl rfl rfl ⟨hS.1, hS.2.1, hS.2.2.1, hS.2.2.2.1, ?_, rfl, hS.2.2.2.2.2.2.1, hS.2.2.2.2.2.2.2.1, hS.2.2.2.2.2.2.2.2.1, hS.2.2.2.2.2.2.2.2.2⟩
    exact ev2
theorem totL_at {p : Nat} (hp : p < np) : (totL T np np).getD p 0 = (tT T).getD p 0 + nI (pipL (hnd T p)) := by
  unfold totL
  simp [List.getD_eq_getElem?_getD, List.getElem?_map, List.getElem?_range hp, hp]
theorem RT.ends (r : RT g T np hb f e n) (h : Inv g mx np hs hb tn pa f e n) : ∃ g', f_X1_endRound g = some g' ∧ Inv g' mx np hs hb tn pa f e n ∧ RT g' (endsT T np) np hb f e n ∧ g'.2 = g.2 ∧ g'.1.1 8 = 1 ∧ g'.1.2 0 = g.1.2 0 := by
  have hnp := h.np
  have hR := r.S
  obtain ⟨g', e1, hS, hA, h2, hT⟩ := c_endRound (g := g) h.np.1 hnp.2.2
  have hH := hA 0 (by omega)
  have sc : ∀ k, ¬ k = 8 → ¬ k = 9 → g'.1.1 k = g.1.1 k := fun k h8 h9 => by rw [hS, upd_n h9, upd_n h8]
  have g8 : g'.1.1 8 = 1 := by rw [hS]; rfl
  have g9 : g'.1.1 9 = g.1.1 9 + 1 := by rw [hS]; rfl
  refine ⟨g', e1, ?_, ?_, h2, g8, hH⟩
  · refine ⟨?_, ?_, ?_, ?_, ?_, ?_, ?_, Or.inr g8, ?_, ?_, ?_, ?_, ?_, ?_, ?_, ?_, ?_⟩
    · rw [sc 0 (by omega) (by omega)]; exact h.mx
    · rw [sc 1 (by omega) (by omega)]; exact h.np
    · rw [sc 2 (by omega) (by omega)]; exact h.hs
    · rw [sc 3 (by omega) (by omega)]; exact h.hb
    · rw [sc 5 (by omega) (by omega)]; exact h.tn
    · rw [sc 6 (by omega) (by omega)]; exact h.dr
    · rw [sc 7 (by omega) (by omega)]; exact h.un
    · rw [sc 10 (by omega) (by omega)]; exact h.pa
    · rw [hH]; exact h.H
    · rw [h2]; exact h.st
    · rw [h2]; exact h.K
    · rw [h2]; exact h.n
    · rw [h2]; exact h.T
    · unfold gE; rw [h2]; exact h.E
    · rw [h2]; exact h.O
    · rw [hH]; exact h.cnt
  · refine ⟨⟨?_, ?_, ?_, ?_, ?_, ?_, ?_, ?_, ?_, ?_⟩, ⟨r.L.1, ?_, r.L.2.2⟩, ?_, ?_, ?_, ?_, ?_, ?_, r.nd, ?_⟩
    · rw [sc 0 (by omega) (by omega)]; exact hR.1
    · rw [sc 2 (by omega) (by omega)]; exact hR.2.1
    · rw [sc 3 (by omega) (by omega)]; exact hR.2.2.1
    · rw [sc 4 (by omega) (by omega)]; exact hR.2.2.2.1
    · rw [sc 5 (by omega) (by omega)]; exact hR.2.2.2.2.1
    · rw [sc 6 (by omega) (by omega)]; exact hR.2.2.2.2.2.1
    · rw [sc 7 (by omega) (by omega)]; exact hR.2.2.2.2.2.2.1
    · rw [g8]; rfl
    · rw [g9]; show T.1 8 + 1 = _; rw [hR.2.2.2.2.2.2.2.2.1]
    · rw [sc 10 (by omega) (by omega)]; exact hR.2.2.2.2.2.2.2.2.2
    · show (totL T np np).length = np
      unfold totL; simp
    · intro p hp; rw [hH]; exact r.H p hp
    · intro p hp
      show (totL T np np).getD p 0 = _
      rw [totL_at hp, hT p (by omega), if_pos hp, r.hpi hp, r.tot p hp]
    · intro t ht; rw [h2]; exact r.R t ht
    · intro t ht; rw [h2]; exact r.E t ht
    · intro t ht; rw [h2]; exact r.O t ht
    · rw [h2]; exact r.K
    · intro x hx; rw [hH]; exact r.fr x hx
theorem RT.draw (r : RT g T np hb f e n) (h : Inv g mx np hs hb tn pa f e n) (hf : f < e) : ∃ g', f_X1_drawTile g = some (nI ((tK T).getD 0 0), g') ∧ Inv g' mx np hs hb tn 0 (f + 1) e n ∧ RT g' (drawT T tn) np hb (f + 1) e n ∧ g'.2.1 = g.2.1 ∧ g'.1.1 8 = g.1.1 8 ∧ hT (g'.1.2 0) ≤ hT (g.1.2 0) + 1 := by
  have hst := h.st
  have hnp := h.np
  have htn := h.tn
  have hR := r.S
  have hKl := r.K
  obtain ⟨c, hc, hK, hin⟩ := h.K f hf
  have hc0 : (tK T).getD 0 0 = c := by rw [hKl, skL_get (by omega), Nat.add_zero, hK, nI_clamp (by omega)]
  have hcons0 : tK T = c :: skL (g.2.2.1.2 0) (f + 1) (e - (f + 1)) := by
    rw [hKl, show e - f = e - (f + 1) + 1 by omega, skL_cons, hK, nI_clamp (by omega)]
  have htl : (tK T).tail = skL (g.2.2.1.2 0) (f + 1) (e - (f + 1)) := by rw [hcons0]; rfl
  have hcons : tK T = c :: (tK T).tail := by rw [htl]; exact hcons0
  have hnK := r.nd
  rw [hcons] at hnK
  have hnd2 := List.nodup_cons.mp hnK
  have hcH : g.1.2 0 c = -1 := r.fr c (by rw [hcons]; exact List.mem_cons_self ..)
  have e1 : f_X1_drawTile g = some (nI c, ((sa (ss (ss g.1 6 1) 10 0) 0 (upd (g.1.2 0) c (g.1.1 5))), (g.2.1), ss g.2.2.1 0 (nI (f + 1)), g.2.2.2)) := by
    unfold f_X1_drawTile f_X4_takeFirst
    rw [hst.1, hst.2.1, ie_lt (by omega) (by omega), if_pos hf, e_look (by omega) (by omega), bd1_S, bd2_S, hK, e_put hc (by omega), bd1_S, nI_1]
  have hup := hT_up (g.1.2 0) c (g.1.1 5)
  rw [hc0]
  refine ⟨_, e1, ?_, ?_, rfl, rfl, hup⟩
  · refine ⟨h.mx, h.np, h.hs, h.hb, h.tn, Or.inr rfl, h.un, h.ov, ⟨rfl, by omega⟩, ?_, ⟨rfl, hst.2.1, by omega, hst.2.2.2⟩, h.K, h.n, h.T, h.E, h.O, ?_⟩
    · intro j hj
      show upd (g.1.2 0) c (g.1.1 5) j = -1 ∨ (∃ p, p < np ∧ upd (g.1.2 0) c (g.1.1 5) j = nI p) ∧ inS mx j
      by_cases hjc : j = c
      · subst hjc
        rw [upd_s]
        exact Or.inr ⟨⟨tn, h.tn.2, h.tn.1⟩, hin⟩
      · rw [upd_n hjc]; exact h.H j hj
    · have := h.cnt
      show hT (upd (g.1.2 0) c (g.1.1 5)) + (e - (f + 1)) + n ≤ 54
      omega
  · refine ⟨⟨hR.1, hR.2.1, hR.2.2.1, hR.2.2.2.1, hR.2.2.2.2.1, rfl, hR.2.2.2.2.2.2.1, hR.2.2.2.2.2.2.2.1, hR.2.2.2.2.2.2.2.2.1, rfl⟩, ⟨?_, r.L.2⟩, ?_, r.tot, r.R, r.E, r.O, htl, hnd2.2, ?_⟩
    · show ((tH T).set tn _).length = np
      rw [List.length_set]; exact r.L.1
    · intro p hp
      show (((tH T).set tn (hnd T tn ++ [(tK T).getD 0 0])).getD p []).Perm (hL (upd (g.1.2 0) c (g.1.1 5)) p)
      rw [hnd_set (by rw [r.L.1]; exact htn.2), hc0, htn.1]
      by_cases hpt : p = tn
      · subst hpt
        rw [if_pos rfl]
        have q := r.H p hp
        have hno : c ∉ hnd T p := fun z => by
          have := (hL_mem.mp (q.mem_iff.mp z)).2
          rw [hcH] at this
          exact nI_m1 (by omega) this.symm
        refine pm_ext ?_ (hL_nd _ _) fun x => ?_
        · refine List.nodup_append.mpr ⟨q.nodup_iff.mpr (hL_nd _ _), List.nodup_cons.mpr ⟨by simp, List.nodup_nil⟩, fun a ha b hb z => ?_⟩
          rw [List.mem_singleton.mp hb] at z
          exact hno (z ▸ ha)
        · rw [List.mem_append, List.mem_singleton, q.mem_iff, hL_mem, hL_mem]
          by_cases hxc : x = c
          · subst hxc
            rw [upd_s]
            exact ⟨fun _ => ⟨hc, rfl⟩, fun _ => Or.inr rfl⟩
          · rw [upd_n hxc]
            exact ⟨fun z => z.elim id (fun y => absurd y hxc), Or.inl⟩
      · rw [if_neg hpt]
        refine (r.H p hp).trans (pm_ext (hL_nd _ _) (hL_nd _ _) fun x => ?_)
        rw [hL_mem, hL_mem]
        by_cases hxc : x = c
        · subst hxc
          rw [upd_s, hcH]
          refine ⟨fun z => absurd z.2.symm (nI_m1 (by omega)), fun z => absurd ((nI_eq (by omega) (by omega)).mp z.2).symm hpt⟩
        · rw [upd_n hxc]
    · intro x hx
      show upd (g.1.2 0) c (g.1.1 5) x = -1
      have hxc : ¬ x = c := fun z => hnd2.1 (z ▸ hx)
      rw [upd_n hxc]
      exact r.fr x (by rw [hcons]; exact List.mem_cons_of_mem _ hx)
theorem RT.pass (r : RT g T np hb f e n) (h : Inv g mx np hs hb tn pa f e n) (hp : pa < np) : ∃ g' tn', f_X1_passTurn g = some g' ∧ Inv g' mx np hs hb tn' (pa + 1) f e n ∧ RT g' (passT T np tn pa) np hb f e n ∧ g'.2.1 = g.2.1 ∧ (g'.1.1 8 = 0 → pa + 1 < np) ∧ hT (g'.1.2 0) = hT (g.1.2 0) := by
  have hnp := h.np
  have htn := h.tn
  have hR := r.S
  let g1 : GS := ((ss g.1 10 (nI (pa + 1))), (g.2.1), g.2.2.1, sa g.2.2.2 3 (upd (g.2.2.2.2 3) tn 1))
  have i1 : Inv g1 mx np hs hb tn (pa + 1) f e n := by
    refine ⟨h.mx, h.np, h.hs, h.hb, h.tn, h.dr, h.un, h.ov, ⟨rfl, by omega⟩, h.H, h.st, h.K, h.n, h.T, h.E, ?_, h.cnt⟩
    intro t ht
    show upd (g.2.2.2.2 3) tn 1 t = 0 ∨ upd (g.2.2.2.2 3) tn 1 t = 1
    by_cases hq : t = tn
    · rw [hq, upd_s]; exact Or.inr rfl
    · rw [upd_n hq]; exact h.O t ht
  have r1 : RT g1 (passA T tn pa) np hb f e n := by
    refine ⟨⟨hR.1, hR.2.1, hR.2.2.1, hR.2.2.2.1, hR.2.2.2.2.1, hR.2.2.2.2.2.1, hR.2.2.2.2.2.2.1, hR.2.2.2.2.2.2.2.1, hR.2.2.2.2.2.2.2.2.1, rfl⟩, ⟨r.L.1, r.L.2.1, r.L.2.2.1, ?_⟩, r.H, r.tot, r.R, r.E, ?_, r.K, r.nd, r.fr⟩
    · show ((tO T).set tn 1).length = np + 1
      rw [List.length_set]; exact r.L.2.2.2
    · intro t ht
      show ((tO T).set tn 1).getD t 0 = if t = np ∨ upd (g.2.2.2.2 3) tn 1 t = 1 then 1 else 0
      rw [int_set (by rw [r.L.2.2.2]; omega)]
      by_cases hq : t = tn
      · rw [if_pos hq, hq, upd_s, if_pos (Or.inr rfl)]
      · rw [if_neg hq, upd_n hq]; exact r.O t ht
  have e1 : f_X1_passTurn g = if pa + 1 < np then (bd1 (f_X1_nextTurn g1) fun (g41 : GS) => some g41) else (bd1 (f_X1_endRound g1) fun (g34 : GS) => some g34) := by
    unfold f_X1_passTurn
    rw [htn.1, (e_setOpen (t := g.2.2.2) (k := tn) (by omega)).1, bd1_S, h.pa.1, hnp.1, nI_1, ie_lt (by omega) (by omega)]
  rw [e1]
  unfold passT
  by_cases hq : pa + 1 < np
  · rw [if_pos hq, if_neg (by omega)]
    obtain ⟨g', tn', a1, a3, a4, a6, a7, a8⟩ := r1.next i1
    rw [a1, bd1_S]
    exact ⟨g', tn', rfl, a3, a4, (show g'.2.1 = g1.2.1 from congrArg Prod.fst a6), fun _ => hq, by rw [a8]⟩
  · rw [if_neg hq, if_pos (by omega)]
    obtain ⟨g', a1, a3, a4, a6, a7, a8⟩ := r1.ends i1
    rw [a1, bd1_S]
    exact ⟨g', tn, rfl, a3, a4, (show g'.2.1 = g1.2.1 from congrArg Prod.fst a6), fun z => by rw [a7] at z; exact absurd z (by decide), by rw [a8]⟩
end RTE
