/-! ranks, the best play, steps by rank -/
def FR (fo : Option Nat) (fn : Nat) (f : SA) (d : Nat → Int32) : Prop := (fo = none ∧ d 13 = 0) ∨ ((∃ a, fo = some a) ∧ d 13 = 1 ∧ FM (f.2 0) fn d)
theorem FM.mv {S S' : Nat → Int32} {fn : Nat} {d d' : Nat → Int32} (h : FM S fn d) (hS : ∀ k, k < fn → S' k = S k) (hd : ∀ k, k = 13 ∨ k = 14 ∨ 464 ≤ k → d' k = d k) : FM S' fn d' := by
  obtain ⟨st, a1, a2, a3, a4, a5⟩ := h
  refine ⟨st, a1, a2, a3, by rw [hd 14 (by omega)]; exact a4, fun k hk => ?_⟩
  rw [hS k hk, hd _ (by omega), hd _ (by omega)]
  exact a5 k hk
theorem FR.mv {fo : Option Nat} {fn : Nat} {f f' : SA} {d d' : Nat → Int32} (h : FR fo fn f d) (hf : f'.2 0 = f.2 0) (hd : ∀ k, k = 13 ∨ k = 14 ∨ 464 ≤ k → d' k = d k) : FR fo fn f' d' := by
  rcases h with ⟨h1, h2⟩ | ⟨h1, h2, h3⟩
  · exact Or.inl ⟨h1, by rw [hd 13 (by omega)]; exact h2⟩
  · exact Or.inr ⟨h1, by rw [hd 13 (by omega)]; exact h2, h3.mv (fun k _ => by rw [hf]) hd⟩
section J
variable {g : GS} {x : MS} {mx np hs hb tn pa f e n fn : Nat} {F : SA}
theorem Rel.of_eq {d d' : Nat → Int32} (r : Rel g d np f e n) (h : d' = d) : Rel g d' np f e n := by rw [h]; exact r
theorem b01_ite {p : Prop} [Decidable p] : b01 (if p then 1 else 0) = if p then 1 else 0 := by
  unfold b01
  by_cases h : p
  · rw [if_pos h]; rfl
  · rw [if_neg h]; rfl
theorem s_rank (h : Inv g mx np hs hb tn pa f e n) (r : Rel g (dd x) np f e n) (hFR : FR g.2.1 fn F (dd x)) {c t : Nat} (hc : c < 100) (ht : t ≤ np) : ∃ rr F' x', f_X1_rankOf fn g.2.1 g F (nI c) (nI t) = some (rr, F') ∧ f_X8_rankOf x (nI c) (nI t) = some (rr, x') ∧ F'.2 0 = F.2 0 ∧ x'.1 = x.1 := by
  have hnp := h.np
  have htn := h.tn
  unfold f_X1_rankOf f_X8_rankOf
  rw [gd_t (decide_eq_true rfl), gl_13, cl_13, x_pipsOf (by omega), bd1_S]
  rcases hFR with ⟨h1, h2⟩ | ⟨⟨a, h1⟩, h2, h3⟩
  · rw [h1, show x.1.2 1 13 = 0 from h2, if_pos rfl]
    show ∃ rr F' x', (bd1 (f_X7_pipsOf (nI c)) fun (r10 : Int32) => some (r10, F)) = some (rr, F') ∧ _
    rw [e_pips (by omega), bd1_S]
    exact ⟨_, F, x, rfl, rfl, rfl, rfl⟩
  · rw [h1, show x.1.2 1 13 = 1 from h2, if_neg (by decide), gd_t (show inb 0 1000 = true by decide), nmd_S]
    show ∃ rr F' x', (bd1 (f_X1_handCount g (g.1.1 5)) fun (r19 : Int32) => bd1 (f_X7_pipsOf (nI c)) fun (r28 : Int32) => bd1 (f_X7_isDouble (nI c)) fun (r32 : Int32) => if nI t = (g.1.1 5) then (f_X1_rankOf_J48 fn g F (nI t) r19 r28 r32 1) else (f_X1_rankOf_J48 fn g F (nI t) r19 r28 r32 0)) = some (rr, F') ∧ _
    rw [e_handCount, bd1_S, e_pips (by omega), bd1_S, e_double (by omega), bd1_S, htn.1]
    obtain ⟨rr, F', x', a1, a2, a3, a4⟩ := s_value (S := F) (x := (x.1, vp_updL x.2 (0 : Int32).toNatClampNeg 0)) (fn := fn) (p0 := nI (c / 10 + c % 10)) (p1 := if c / 10 = c % 10 then 1 else 0) (p2 := if nI t = nI tn then 1 else 0) (p3 := if nI t = nI np then 1 else 0) (p4 := nI (hcN (g.1.2 0) (nI tn)) - 1) (c := c) (t := t) h3 (fun i hi => by
      have hd4 : x.1.2 1 4 = nI tn := r.d4.trans htn.1
      have hd1 : x.1.2 1 1 = nI np := r.d1.trans hnp.1
      rcases (show i = 0 ∨ i = 1 ∨ i = 2 ∨ i = 3 ∨ i = 4 by omega) with rfl | rfl | rfl | rfl | rfl
      · show f_X8_fact _ _ _ _ = some (nI (c / 10 + c % 10))
        unfold f_X8_fact
        rw [if_pos (show nI 0 = 0 from rfl), x_pipsOf (by omega), bd1_S]; rfl
      · show f_X8_fact _ _ _ _ = some (b01 (if c / 10 = c % 10 then 1 else 0))
        unfold f_X8_fact
        rw [if_neg (show ¬ nI 1 = 0 by decide), if_pos (show nI 1 = 1 from rfl), x_isDouble (by omega), bd1_S, b01_ite]
        by_cases z : c / 10 = c % 10
        · rw [if_pos z, if_neg (by decide)]
        · rw [if_neg z, if_pos rfl]
      · show f_X8_fact _ _ _ _ = some (b01 (if nI t = nI tn then 1 else 0))
        unfold f_X8_fact
        rw [if_neg (show ¬ nI 2 = 0 by decide), if_neg (show ¬ nI 2 = 1 by decide), if_pos (show nI 2 = 2 from rfl), gl_4, cl_4, show (x.1, vp_updL x.2 (0 : Int32).toNatClampNeg 0).1.2 1 4 = nI tn from hd4, b01_ite]
        split <;> rfl
      · show f_X8_fact _ _ _ _ = some (b01 (if nI t = nI np then 1 else 0))
        unfold f_X8_fact
        rw [if_neg (show ¬ nI 3 = 0 by decide), if_neg (show ¬ nI 3 = 1 by decide), if_neg (show ¬ nI 3 = 2 by decide), if_pos (show nI 3 = 3 from rfl), gl_1, cl_1, show (x.1, vp_updL x.2 (0 : Int32).toNatClampNeg 0).1.2 1 1 = nI np from hd1, b01_ite]
        split <;> rfl
      · show f_X8_fact _ _ _ _ = some (nI (hcN (g.1.2 0) (nI tn)) - 1)
        unfold f_X8_fact
        rw [if_neg (show ¬ nI 4 = 0 by decide), if_neg (show ¬ nI 4 = 1 by decide), if_neg (show ¬ nI 4 = 2 by decide), if_neg (show ¬ nI 4 = 3 by decide), gl_4, cl_4, show (x.1, vp_updL x.2 (0 : Int32).toNatClampNeg 0).1.2 1 4 = nI tn from hd4, x_hand, bd1_S]
        rw [show hcN (fun c => dd (x.1, vp_updL x.2 (0 : Int32).toNatClampNeg 0) (19 + c)) (nI tn) = hcN (g.1.2 0) (nI tn) from hcN_congr _ r.H])
    refine ⟨rr, F', x', ?_, a2, a3, a4⟩
    have e61 : ∀ s48 : Int32, f_X1_rankOf_J48 fn g F (nI t) (nI (hcN (g.1.2 0) (nI tn))) (nI (c / 10 + c % 10)) (if c / 10 = c % 10 then 1 else 0) s48 = f_X1_rankOf_J61 fn F (nI (hcN (g.1.2 0) (nI tn))) (nI (c / 10 + c % 10)) (if c / 10 = c % 10 then 1 else 0) s48 (if nI t = nI np then 1 else 0) := fun s48 => by
      unfold f_X1_rankOf_J48
      rw [hnp.1]
      by_cases z : nI t = nI np
      · rw [if_pos z, if_pos z]
      · rw [if_neg z, if_neg z]
    have e48 : (if nI t = nI tn then (f_X1_rankOf_J48 fn g F (nI t) (nI (hcN (g.1.2 0) (nI tn))) (nI (c / 10 + c % 10)) (if c / 10 = c % 10 then 1 else 0) 1) else (f_X1_rankOf_J48 fn g F (nI t) (nI (hcN (g.1.2 0) (nI tn))) (nI (c / 10 + c % 10)) (if c / 10 = c % 10 then 1 else 0) 0)) = f_X1_rankOf_J61 fn F (nI (hcN (g.1.2 0) (nI tn))) (nI (c / 10 + c % 10)) (if c / 10 = c % 10 then 1 else 0) (if nI t = nI tn then 1 else 0) (if nI t = nI np then 1 else 0) := by
      by_cases z : nI t = nI tn
      · rw [if_pos z, if_pos z, e61]
      · rw [if_neg z, if_neg z, e61]
    rw [e48]
    unfold f_X1_rankOf_J61
    rw [a1, bd2_S]
/-- what the best play is: none, or one that can be made -/
def BI (np : Nat) (g : GS) (k u : Nat) (b : Int32) : Prop := (b = -1 ∧ (∀ c t, c < k → t ≤ np → ¬ gob np g c t = 0) ∧ ∀ t, t < u → t ≤ np → ¬ gob np g k t = 0) ∨ ∃ c t, c < 100 ∧ t ≤ np ∧ b = nI (10 * c + t) ∧ gob np g c t = 0
theorem s_best (h : Inv g mx np hs hb tn pa f e n) (r : Rel g (dd x) np f e n) (hFR : FR g.2.1 fn F (dd x)) : ∃ b F' x', f_X1_bestPlay fn g.2.1 g F = some (b, F') ∧ f_X8_bestPlay x = some (b, x') ∧ F'.2 0 = F.2 0 ∧ x'.1 = x.1 ∧ BI np g 100 0 b := by
  have hnp := h.np
  unfold f_X1_bestPlay f_X8_bestPlay
  let Post : Option (Int32 × SA) → Option (Int32 × MS) → Prop := fun o o' => ∃ b F' x', o = some (b, F') ∧ o' = some (b, x') ∧ F'.2 0 = F.2 0 ∧ x'.1 = x.1 ∧ BI np g 100 0 b
  refine lk44 (B := f_X1_bestPlay_B6 fn g.2.1 g) (B' := f_X8_bestPlay_B6) Post
    (fun (m : Nat) (v1 v2 v3 : Int32) (G : SA) (w1 w2 w3 : Int32) (y : MS) => ∃ k, v3 = nI k ∧ k + m = 100 ∧ w1 = v1 ∧ w2 = v2 ∧ w3 = v3 ∧ G.2 0 = F.2 0 ∧ y.1 = x.1 ∧ BI np g k 0 v1) ?_ FUEL 100 _ _ _ _ _ _ _ _ (FUEL_lt (by omega)) ⟨0, rfl, rfl, rfl, rfl, rfl, rfl, rfl, Or.inl ⟨rfl, fun c t hc => absurd hc (Nat.not_lt_zero _), fun t ht => absurd ht (Nat.not_lt_zero _)⟩⟩
  rintro rec rec' m v1 v2 v3 G w1 w2 w3 y ⟨k, rfl, hk, rfl, rfl, rfl, hG, hy, hB⟩ ih
  have hdy : dd y = dd x := by show y.1.2 1 = x.1.2 1; rw [hy]
  have ry : Rel g (dd y) np f e n := r.of_eq hdy
  unfold f_X1_bestPlay_B6 f_X8_bestPlay_B6
  rw [i_100, ie_le (by omega) (by omega), ie_le (by omega) (by omega)]
  by_cases hend : 100 ≤ k
  · have : k = 100 := by omega
    subst this
    rw [if_pos (Nat.le_refl _), if_pos (Nat.le_refl _)]
    exact ⟨_, G, y, rfl, rfl, hG, hy, hB⟩
  · rw [if_neg hend, if_neg hend, e_holder (by omega), bd1_S]
    by_cases hh : g.1.2 0 k = g.1.1 5
    · rw [if_pos hh]
      refine lk44 (B := f_X1_bestPlay_B30 fn g.2.1 g rec (nI k)) (B' := f_X8_bestPlay_B15 rec' (nI k)) Post
        (fun (m : Nat) (v1 v2 v3 : Int32) (G : SA) (w1 w2 w3 : Int32) (y : MS) => ∃ u, v3 = nI u ∧ u + m = np + 1 ∧ w1 = v1 ∧ w2 = v2 ∧ w3 = v3 ∧ G.2 0 = F.2 0 ∧ y.1 = x.1 ∧ BI np g k u v1) ?_ FUEL (np + 1) _ _ _ _ _ _ _ _ (FUEL_lt (by omega)) ⟨0, rfl, by omega, rfl, rfl, rfl, hG, hy, hB⟩
      rintro rec2 rec2' m2 v1 v2 v3 G w1 w2 w3 y ⟨u, rfl, hu, rfl, rfl, rfl, hG, hy, hB⟩ ih2
      have hdy : dd y = dd x := by show y.1.2 1 = x.1.2 1; rw [hy]
      have ry : Rel g (dd y) np f e n := r.of_eq hdy
      unfold f_X1_bestPlay_B30 f_X8_bestPlay_B15
      rw [hnp.1, ie_lt (by omega) (by omega), gl_1, cl_1, show y.1.2 1 1 = nI np from ry.d1.trans hnp.1, ie_lt (by omega) (by omega)]
      by_cases hend2 : np < u
      · rw [if_pos hend2, if_pos hend2, nI_1]
        refine ih (m - 1) _ _ _ _ _ _ _ _ (by omega) ⟨k + 1, rfl, by omega, rfl, rfl, rfl, hG, hy, ?_⟩
        rcases hB with ⟨b1, b2, b3⟩ | hB
        · refine Or.inl ⟨b1, fun c t hc ht => ?_, fun t ht => absurd ht (Nat.not_lt_zero _)⟩
          by_cases z : c = k
          · rw [z]; exact b3 t (by omega) ht
          · exact b2 c t (by omega) ht
        · exact Or.inr hB
      · rw [if_neg hend2, if_neg hend2, c_obstacle h (by omega) (by omega), bd1_S, m_refusal h ry (by omega) (by omega), bd1_S]
        by_cases hob : gob np g k u = 0
        · rw [if_pos hob, if_pos hob]
          obtain ⟨rr, F', x', a1, a2, a3, a4⟩ := s_rank h ry (hFR.mv hG (fun j _ => by rw [hdy])) (c := k) (t := u) (by omega) (by omega)
          rw [a1, a2, bd2_S, bd2_S]
          have take : Post (f_X1_bestPlay_J69 (nI k) rec2 (nI u) rr F') (f_X8_bestPlay_J62 (nI k) rec2' (nI u) rr x') := by
            unfold f_X1_bestPlay_J69 f_X8_bestPlay_J62
            rw [i_10, nI_mul, nI_add, nI_1]
            exact ih2 (m2 - 1) _ _ _ _ _ _ _ _ (by omega) ⟨u + 1, rfl, by omega, rfl, rfl, rfl, a3.trans hG, a4.trans hy, Or.inr ⟨k, u, by omega, by omega, rfl, hob⟩⟩
          by_cases hb1 : w1 = -1
          · rw [if_pos hb1, if_pos hb1]; exact take
          · rw [if_neg hb1, if_neg hb1]
            by_cases hr : rr ≤ w2
            · rw [if_pos hr, if_neg (Int32.not_lt.mpr hr), nI_1]
              exact ih2 (m2 - 1) _ _ _ _ _ _ _ _ (by omega) ⟨u + 1, rfl, by omega, rfl, rfl, rfl, a3.trans hG, a4.trans hy, hB.elim (fun z => absurd z.1 hb1) Or.inr⟩
            · rw [if_neg hr, if_pos (Int32.not_le.mp hr)]; exact take
        · rw [if_neg hob, if_neg hob, nI_1]
          refine ih2 (m2 - 1) _ _ _ _ _ _ _ _ (by omega) ⟨u + 1, rfl, by omega, rfl, rfl, rfl, hG, hy, ?_⟩
          rcases hB with ⟨b1, b2, b3⟩ | hB
          · refine Or.inl ⟨b1, b2, fun t ht ht2 => ?_⟩
            by_cases z : t = u
            · rw [z]; exact hob
            · exact b3 t (by omega) ht2
          · exact Or.inr hB
    · rw [if_neg hh, nI_1]
      have hno : ∀ t, ¬ gob np g k t = 0 := fun t => obs_no hh
      refine lr4 (B := f_X8_bestPlay_B15 rec' (nI k)) (fun o' => Post (rec w1 w2 (nI (k + 1)) G) o') (fun (m : Nat) (a1 a2 a3 : Int32) (z : MS) => ∃ u, a3 = nI u ∧ u + m = np + 1 ∧ a1 = w1 ∧ a2 = w2 ∧ z = y) ?_ FUEL (np + 1) _ _ _ _ (FUEL_lt (by omega)) ⟨0, rfl, by omega, rfl, rfl, rfl⟩
      rintro rec2 m2 a1 a2 a3 z ⟨u, rfl, hu, rfl, rfl, rfl⟩ ih2
      unfold f_X8_bestPlay_B15
      rw [gl_1, cl_1, show z.1.2 1 1 = nI np from ry.d1.trans hnp.1, ie_lt (by omega) (by omega)]
      by_cases hend2 : np < u
      · rw [if_pos hend2, nI_1]
        refine ih (m - 1) _ _ _ _ _ _ _ _ (by omega) ⟨k + 1, rfl, by omega, rfl, rfl, rfl, hG, hy, ?_⟩
        rcases hB with ⟨b1, b2, b3⟩ | hB
        · refine Or.inl ⟨b1, fun c t hc ht => ?_, fun t ht => absurd ht (Nat.not_lt_zero _)⟩
          by_cases z : c = k
          · rw [z]; exact hno t
          · exact b2 c t (by omega) ht
        · exact Or.inr hB
      · rw [if_neg hend2, m_refusal h ry (by omega) (by omega), bd1_S, if_neg (hno u), nI_1]
        exact ih2 (m2 - 1) _ _ _ _ (by omega) ⟨u + 1, rfl, by omega, rfl, rfl, rfl⟩
theorem gpl_zero (h : ∀ c t, c < 100 → t ≤ np → ¬ gob np g c t = 0) : gpl np g = 0 := by
  unfold gpl plN
  rw [sI_congr (f := fun _ => 0) 100 0 (fun c _ hc => ?_), sI_zero]
  show plO _ _ _ _ _ _ _ _ = 0
  unfold plO
  rw [sI_congr (f := fun _ => 0) (np + 1) 0 (fun t _ ht => ?_), sI_zero]
  exact if_neg (h c t (by omega) (by omega))
def mu (np pa f e : Nat) (g : GS) : Nat := (2 * (e - f) + hT (g.1.2 0)) * 5 + (np - pa)
theorem s_step (h : Inv g mx np hs hb tn pa f e n) (r : Rel g (dd x) np f e n) (hFR : FR g.2.1 fn F (dd x)) (hov : g.1.1 8 = 0) (hpa : pa < np) : ∃ g' F' x' tn' pa' f' n', f_X1_makeStep fn g.2.1 g F = some (g', F') ∧ f_X8_stepByRank x = some x' ∧ Inv g' mx np hs hb tn' pa' f' e n' ∧ Rel g' (dd x') np f' e n' ∧ g'.2.1 = g.2.1 ∧ F'.2 0 = F.2 0 ∧ Fr x x' ∧ (g'.1.1 8 = 0 → pa' < np) ∧ mu np pa' f' e g' < mu np pa f e g := by
  have hnp := h.np
  have hst := h.st
  obtain ⟨b, F1, x1, a1, a2, a3, a4, a5⟩ := s_best h r hFR
  have hdx : dd x1 = dd x := by show x1.1.2 1 = x.1.2 1; rw [a4]
  have r1 : Rel g (dd x1) np f e n := r.of_eq hdx
  have fr1 : Fr x x1 := ⟨by rw [a4], fun i _ => by rw [a4], fun k _ => by rw [hdx]⟩
  unfold f_X1_makeStep f_X8_stepByRank
  rw [a1, a2, bd2_S, bd2_S]
  rcases a5 with ⟨b1, b2, b3⟩ | ⟨c, t, hc, ht, b1, b2⟩
  · have hgp : gpl np g = 0 := gpl_zero b2
    have hpass : ∃ g' F' x' tn' pa' f' n', f_X1_makeStep_J50 g F1 = some (g', F') ∧ (bd1 (f_X8_passNow x1) fun (x41 : MS) => some x41) = some x' ∧ Inv g' mx np hs hb tn' pa' f' e n' ∧ Rel g' (dd x') np f' e n' ∧ g'.2.1 = g.2.1 ∧ F'.2 0 = F.2 0 ∧ Fr x x' ∧ (g'.1.1 8 = 0 → pa' < np) ∧ mu np pa' f' e g' < mu np pa f e g := by
      obtain ⟨g', x', tn', c1, c2, c3, c4, c5, c6, c7, c8⟩ := s_pass h r1 hpa hov
      unfold f_X1_makeStep_J50
      rw [c1, c2, bd1_S, bd1_S]
      exact ⟨g', F1, x', tn', pa + 1, f, n, rfl, rfl, c3, c4, c6, a3, fr1.tr c5, c7, by unfold mu; rw [c8]; omega⟩
    rw [if_pos b1, if_pos b1, m_mayDraw h r1, bd1_S, c_size h, bd1_S, ie_le0 (by omega)]
    by_cases h6 : g.1.1 6 = 0
    · rw [if_pos h6]
      by_cases hfe : e - f = 0
      · rw [if_pos hfe, show (if mdr np g f e then (1 : Int32) else 0) = 0 from if_neg (fun z => by have := z.2.2.1; omega), if_pos rfl]
        exact hpass
      · rw [if_neg hfe, show (if mdr np g f e then (1 : Int32) else 0) = 1 from if_pos ⟨hov, h6, by omega, hgp⟩, if_neg (by decide)]
        obtain ⟨c, g', x', hc, c1, c2, c3, c4, c5, c6, c7, c8⟩ := s_draw h r1 (by omega)
        rw [c1, c2, bd2_S, bd2_S]
        exact ⟨g', F1, x', tn, 0, f + 1, n, rfl, rfl, c3, c4, c6, a3, fr1.tr c5, fun _ => by omega, by unfold mu; omega⟩
    · rw [if_neg h6, show (if mdr np g f e then (1 : Int32) else 0) = 0 from if_neg (fun z => h6 z.2.1), if_pos rfl]
      exact hpass
  · obtain ⟨g', x', tn', c1, c2, c3, c4, c5, c6, c7⟩ := s_lay h r1 hc ht b2
    rw [b1, ie_m1 (by omega), ie_m1 (by omega), nI_hi (by omega), i_10, nI_div (by omega) (by omega), show (10 * c + t) / 10 = c by omega, show (10 * c + t) % 10 = t by omega, c1, c2, bd1_S, bd1_S]
    exact ⟨g', F1, x', tn', 0, f, n + 1, rfl, rfl, c3, c4, c6, a3, fr1.tr c5, fun _ => by omega, by unfold mu; omega⟩
theorem s_playOn (h : Inv g mx np hs hb tn pa f e n) (r : Rel g (dd x) np f e n) (hFR : FR g.2.1 fn F (dd x)) (hal : g.1.1 8 = 0 → pa < np) {P Q : Nat} (hP : P < 2 ^ 31) (hQ : Q < 2 ^ 31) (hPQ : P = Q ∨ (1000 ≤ P ∧ 1000 ≤ Q)) : ∃ j g' F' x' tn' pa' f' n', f_X1_playOn fn g.2.1 g F (nI P) = some (nI j, g', F') ∧ f_X8_goOn x (nI Q) = some (nI j, x') ∧ Inv g' mx np hs hb tn' pa' f' e n' ∧ Rel g' (dd x') np f' e n' ∧ g'.2.1 = g.2.1 ∧ F'.2 0 = F.2 0 ∧ Fr x x' ∧ (g'.1.1 8 = 0 → pa' < np) ∧ j < 1000 := by
  have hcnt := h.cnt
  have hst := h.st
  have hmu : mu np pa f e g < 1000 := by unfold mu; have := h.np; omega
  unfold f_X1_playOn f_X8_goOn
  refine lk32 (B := f_X1_playOn_B2 fn g.2.1 (nI P)) (B' := f_X8_goOn_B2 (nI Q)) (fun o o' => ∃ j g' F' x' tn' pa' f' n', o = some (nI j, g', F') ∧ o' = some (nI j, x') ∧ Inv g' mx np hs hb tn' pa' f' e n' ∧ Rel g' (dd x') np f' e n' ∧ g'.2.1 = g.2.1 ∧ F'.2 0 = F.2 0 ∧ Fr x x' ∧ (g'.1.1 8 = 0 → pa' < np) ∧ j < 1000)
    (fun (m : Nat) (v : Int32) (gg : GS) (G : SA) (w : Int32) (y : MS) => ∃ j tn' pa' f' n', v = nI j ∧ w = nI j ∧ Inv gg mx np hs hb tn' pa' f' e n' ∧ Rel gg (dd y) np f' e n' ∧ gg.2.1 = g.2.1 ∧ G.2 0 = F.2 0 ∧ Fr x y ∧ (gg.1.1 8 = 0 → pa' < np) ∧ mu np pa' f' e gg ≤ m ∧ j + m < 1000) ?_ FUEL (mu np pa f e g) 0 g F 0 x (FUEL_lt (by omega)) ⟨0, tn, pa, f, n, rfl, rfl, h, r, rfl, rfl, Fr.rf, hal, Nat.le_refl _, by omega⟩
  rintro rec rec' m v gg G w y ⟨j, tn', pa', f', n', rfl, rfl, h', r', hfo, hG, hFr, hal', hmu', hj⟩ ih
  unfold f_X1_playOn_B2 f_X8_goOn_B2
  rw [ie_le (by omega) (by omega), ie_le (by omega) (by omega), gl_8, cl_8, show y.1.2 1 8 = gg.1.1 8 from r'.d8]
  have stop : ∃ j2 g' F' x' tn' pa' f' n', some (nI j, gg, G) = some (nI j2, g', F') ∧ some (nI j, y) = some (nI j2, x') ∧ Inv g' mx np hs hb tn' pa' f' e n' ∧ Rel g' (dd x') np f' e n' ∧ g'.2.1 = g.2.1 ∧ F'.2 0 = F.2 0 ∧ Fr x x' ∧ (g'.1.1 8 = 0 → pa' < np) ∧ j2 < 1000 := ⟨j, gg, G, y, tn', pa', f', n', rfl, rfl, h', r', hfo, hG, hFr, hal', by omega⟩
  by_cases hPj : P ≤ j
  · have hQj : Q ≤ j := by omega
    rw [if_pos hPj, if_pos hQj]
    exact stop
  · have hQj : ¬ Q ≤ j := by omega
    rw [if_neg hPj, if_neg hQj]
    by_cases hov : gg.1.1 8 = 0
    · rw [if_pos hov, if_pos hov]
      obtain ⟨g', F', x', tn2, pa2, f2, n2, c1, c2, c3, c4, c5, c6, c7, c8, c9⟩ := s_step h' r' (hfo ▸ hFR.mv hG hFr.2.2) hov (hal' hov)
      rw [hfo] at c1
      rw [c1, c2, bd2_S, bd1_S, nI_1]
      exact ih (m - 1) _ _ _ _ _ (by omega) ⟨j + 1, tn2, pa2, f2, n2, rfl, rfl, c3, c4, c5.trans hfo, c6.trans hG, hFr.tr c7, c8, by omega, by omega⟩
    · rw [if_neg hov, if_neg hov]
      exact stop
end J
