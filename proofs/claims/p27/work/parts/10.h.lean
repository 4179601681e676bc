/-! the class's best play and its steps are the table's -/
theorem FRT.mv {fo : Option Nat} {fn : Nat} {S S' : Nat → Int32} {M : Option TM} (h : FRT fo fn S M) (e : S' = S) : FRT fo fn S' M := by rw [e]; exact h
theorem FRT.ok {fo : Option Nat} {fn : Nat} {S : Nat → Int32} {T : TT} (h : FRT fo fn S (tM T)) : okM T := by
  intro m hm
  rcases h with ⟨-, h2⟩ | ⟨a, m2, -, h2, -, h4, -⟩
  · rw [h2] at hm; cases hm
  · rw [h2] at hm; cases hm; exact h4
theorem endsT_M (T : TT) (np : Nat) : tM (endsT T np) = tM T := rfl
theorem plyA_M (T : TT) (tn x k : Nat) : tM (playA T tn x k) = tM T := by
  unfold playA
  dsimp only
  split <;> rfl
theorem playT_M (T : TT) (np tn x k : Nat) : tM (playT T np tn x k) = tM T := by
  unfold playT
  split
  · exact plyA_M T tn x k
  · split
    · exact plyA_M T tn x k
    · exact plyA_M T tn x k
theorem passT_M (T : TT) (np tn pa : Nat) : tM (passT T np tn pa) = tM T := by
  unfold passT
  split <;> rfl
theorem stepT_M (T : TT) (np hb tn pa : Nat) : tM (stepT T np hb tn pa) = tM T := by
  unfold stepT
  split
  · exact playT_M T np tn _ _
  · split
    · rfl
    · exact passT_M T np tn pa
section RTH
variable {g : GS} {T : TT} {mx np hs hb tn pa f e n fn : Nat} {F : SA}
def cS (T : TT) (np hb tn k u v : Nat) : Prop := whyT T hb tn (v / 10) (v % 10) = 0 ∧ v % 10 ≤ np ∧ v < 10 * k + u
theorem RT.best (r : RT g T np hb f e n) (h : Inv g mx np hs hb tn pa f e n) (hF : FRT g.2.1 fn (F.2 0) (tM T)) : ∃ F', f_X1_bestPlay fn g.2.1 g F = some (encO (bestT T np hb tn), F') ∧ F'.2 0 = F.2 0 := by
  have hnp := h.np
  have htn := h.tn
  have w := r.tw h
  have hM := hF.ok
  have hbI := best_isB w hM
  have hm1 : (-1 : Int32) = encO none := rfl
  have encN : ∀ v : Nat, v < 2000 → ¬ encO (some v) = -1 := fun v hv => nI_m1 (by omega)
  -- a tile that is in no hand of the one on turn
  have skip : ∀ (k : Nat), k < 100 → ¬ g.1.2 0 k = g.1.1 5 → ∀ t, ¬ whyT T hb tn k t = 0 := by
    intro k hk hh t hy
    have := (why_mem hy).1
    rw [(r.H tn htn.2).mem_iff, hL_mem, ← htn.1] at this
    exact hh this.2
  unfold f_X1_bestPlay
  let Post : Option (Int32 × SA) → Prop := fun o => ∃ F', o = some (encO (bestT T np hb tn), F') ∧ F'.2 0 = F.2 0
  refine lr4 (B := f_X1_bestPlay_B6 fn g.2.1 g) Post
    (fun (m : Nat) (v1 v2 v3 : Int32) (G : SA) => ∃ k b, v3 = nI k ∧ k + m = 100 ∧ v1 = encO b ∧ G.2 0 = F.2 0 ∧ isB (rkI T np tn) (cS T np hb tn k 0) b ∧ (∀ v, b = some v → v2 = rankT T np tn (v / 10) (v % 10) ∧ v < 10 * k)) ?_ FUEL 100 _ _ _ _ (FUEL_lt (by omega)) ⟨0, none, rfl, rfl, rfl, rfl, fun v hv => by have := hv.2.2; omega, fun v hv => by cases hv⟩
  rintro rec m v1 v2 v3 G ⟨k, b, rfl, hk, rfl, hG, hB, hv⟩ ih
  unfold f_X1_bestPlay_B6
  rw [i_100, ie_le (by omega) (by omega)]
  by_cases hend : 100 ≤ k
  · have : k = 100 := by omega
    subst this
    rw [if_pos (Nat.le_refl _)]
    refine ⟨G, ?_, hG⟩
    have e : b = bestT T np hb tn := isB_uniq (hB.cg fun v => by
      unfold bS cS
      constructor
      · rintro ⟨a1, a2, a3⟩; exact ⟨a1, a3, by omega⟩
      · rintro ⟨a1, a2, a3⟩; exact ⟨a1, by omega, a2⟩) hbI
    rw [e]
  · rw [if_neg hend, e_holder (by omega), bd1_S]
    by_cases hh : g.1.2 0 k = g.1.1 5
    · rw [if_pos hh]
      refine lr4 (B := f_X1_bestPlay_B30 fn g.2.1 g rec (nI k)) Post
        (fun (m : Nat) (v1 v2 v3 : Int32) (G : SA) => ∃ u b, v3 = nI u ∧ u + m = np + 1 ∧ v1 = encO b ∧ G.2 0 = F.2 0 ∧ isB (rkI T np tn) (cS T np hb tn k u) b ∧ (∀ v, b = some v → v2 = rankT T np tn (v / 10) (v % 10) ∧ v < 10 * k + u)) ?_ FUEL (np + 1) _ _ _ _ (FUEL_lt (by omega)) ⟨0, b, rfl, by omega, rfl, hG, hB, hv⟩
      clear hB hv hG
      rintro rec2 m2 v1 v2 v3 G ⟨u, b, rfl, hu, rfl, hG, hB, hv⟩ ih2
      unfold f_X1_bestPlay_B30
      rw [hnp.1, ie_lt (by omega) (by omega)]
      by_cases hend2 : np < u
      · rw [if_pos hend2, nI_1]
        refine ih (m - 1) _ _ _ _ (by omega) ⟨k + 1, b, rfl, by omega, rfl, hG, hB.cg fun v => ?_, fun v hb2 => ⟨(hv v hb2).1, by have := (hv v hb2).2; omega⟩⟩
        unfold cS
        constructor
        · rintro ⟨a1, a2, a3⟩; exact ⟨a1, a2, by omega⟩
        · rintro ⟨a1, a2, a3⟩; exact ⟨a1, a2, by omega⟩
      · rw [if_neg hend2, c_obstacle h (by omega) (by omega), bd1_S, r.why h (by omega) (by omega)]
        obtain ⟨e1, e2⟩ := enc_dm (x := k) (t := u) (by omega)
        by_cases hob : whyT T hb tn k u = 0
        · rw [if_pos hob]
          obtain ⟨F', a1, a3⟩ := r.rank h (F := G) (hF.mv hG) (c := k) (t := u) (by omega) (by omega)
          rw [a1, bd2_S]
          have he : ∀ v, cS T np hb tn k (u + 1) v ↔ cS T np hb tn k u v ∨ v = 10 * k + u := by
            intro v
            unfold cS
            constructor
            · rintro ⟨b1, b2, b3⟩
              by_cases hz : v = 10 * k + u
              · exact Or.inr hz
              · exact Or.inl ⟨b1, b2, by omega⟩
            · rintro (⟨b1, b2, b3⟩ | rfl)
              · exact ⟨b1, b2, by omega⟩
              · rw [e1, e2]; exact ⟨hob, by omega, by omega⟩
          have hrk : rkI T np tn (10 * k + u) = (rankT T np tn k u).toInt := by unfold rkI; rw [e1, e2]
          have take : (∀ v, b = some v → rkI T np tn v < rkI T np tn (10 * k + u)) → Post (f_X1_bestPlay_J69 (nI k) rec2 (nI u) (rankT T np tn k u) F') := by
            intro hb3
            unfold f_X1_bestPlay_J69
            rw [i_10, nI_mul, nI_add, nI_1]
            exact ih2 (m2 - 1) _ _ _ _ (by omega) ⟨u + 1, some (10 * k + u), rfl, by omega, rfl, a3.trans hG, hB.take he fun v hb2 => Or.inl (hb3 v hb2), fun v hb2 => by cases hb2; rw [e1, e2]; exact ⟨rfl, by omega⟩⟩
          cases b with
          | none =>
            rw [if_pos (show encO none = -1 from rfl)]
            exact take fun v hb2 => by cases hb2
          | some v =>
            obtain ⟨q1, q2⟩ := hv v rfl
            rw [if_neg (encN v (by omega))]
            have hrv : rkI T np tn v = v2.toInt := by rw [q1]; rfl
            by_cases hr : rankT T np tn k u ≤ v2
            · rw [if_pos hr, nI_1]
              have := Int32.le_iff_toInt_le.mp hr
              refine ih2 (m2 - 1) _ _ _ _ (by omega) ⟨u + 1, some v, rfl, by omega, rfl, a3.trans hG, hB.keep he ?_, fun v' hb2 => by cases hb2; exact ⟨q1, by omega⟩⟩
              rw [hrk, hrv]
              omega
            · rw [if_neg hr]
              have := Int32.lt_iff_toInt_lt.mp (Int32.not_le.mp hr)
              exact take fun v' hb2 => by cases hb2; rw [hrk, hrv]; omega
        · rw [if_neg hob, nI_1]
          refine ih2 (m2 - 1) _ _ _ _ (by omega) ⟨u + 1, b, rfl, by omega, rfl, hG, hB.cg fun v => ?_, fun v hb2 => ⟨(hv v hb2).1, by have := (hv v hb2).2; omega⟩⟩
          unfold cS
          constructor
          · rintro ⟨b1, b2, b3⟩
            refine ⟨b1, b2, ?_⟩
            by_cases hz : v = 10 * k + u
            · rw [hz, e1, e2] at b1; exact absurd b1 hob
            · omega
          · rintro ⟨b1, b2, b3⟩; exact ⟨b1, b2, by omega⟩
    · rw [if_neg hh, nI_1]
      refine ih (m - 1) _ _ _ _ (by omega) ⟨k + 1, b, rfl, by omega, rfl, hG, hB.cg fun v => ?_, fun v hb2 => ⟨(hv v hb2).1, by have := (hv v hb2).2; omega⟩⟩
      unfold cS
      constructor
      · rintro ⟨b1, b2, b3⟩
        refine ⟨b1, b2, ?_⟩
        by_cases hz : v / 10 = k
        · rw [hz] at b1; exact absurd b1 (skip k (by omega) hh _)
        · omega
      · rintro ⟨b1, b2, b3⟩; exact ⟨b1, b2, by omega⟩
theorem RT.step (r : RT g T np hb f e n) (h : Inv g mx np hs hb tn pa f e n) (hF : FRT g.2.1 fn (F.2 0) (tM T)) (hov : g.1.1 8 = 0) (hpa : pa < np) : ∃ g' F' tn' pa' f' n', f_X1_makeStep fn g.2.1 g F = some (g', F') ∧ Inv g' mx np hs hb tn' pa' f' e n' ∧ RT g' (stepT T np hb tn pa) np hb f' e n' ∧ g'.2.1 = g.2.1 ∧ F'.2 0 = F.2 0 ∧ (g'.1.1 8 = 0 → pa' < np) := by
  have hnp := h.np
  have hst := h.st
  have w := r.tw h
  have hM := hF.ok
  have hbI := best_isB w hM
  have hD := r.mayD h
  obtain ⟨F1, a1, a3⟩ := r.best h hF
  unfold f_X1_makeStep
  rw [a1, bd2_S]
  cases hbe : bestT T np hb tn with
  | none =>
    have hgp : gpl np g = 0 := by rw [r.pl h, best_none w hM hbe]; rfl
    rw [if_pos (show encO none = -1 from rfl)]
    have eS : stepT T np hb tn pa = if tDr T np hb tn then drawT T tn else passT T np tn pa := by rw [stepT, hbe]
    rw [eS]
    have hpass : ¬ mdr np g f e → ∃ g' F' tn' pa' f' n', f_X1_makeStep_J50 g F1 = some (g', F') ∧ Inv g' mx np hs hb tn' pa' f' e n' ∧ RT g' (if tDr T np hb tn then drawT T tn else passT T np tn pa) np hb f' e n' ∧ g'.2.1 = g.2.1 ∧ F'.2 0 = F.2 0 ∧ (g'.1.1 8 = 0 → pa' < np) := by
      intro hno
      obtain ⟨g', tn', c1, c3, c4, c6, c7, c8⟩ := r.pass h hpa
      unfold f_X1_makeStep_J50
      rw [c1, bd1_S, if_neg (fun z => hno (hD.mpr z))]
      exact ⟨g', F1, tn', pa + 1, f, n, rfl, c3, c4, c6, a3, c7⟩
    rw [c_size h, bd1_S, ie_le0 (by omega)]
    by_cases h6 : g.1.1 6 = 0
    · rw [if_pos h6]
      by_cases hfe : e - f = 0
      · rw [if_pos hfe]
        exact hpass fun z => by have := z.2.2.1; omega
      · rw [if_neg hfe, if_pos (hD.mp ⟨hov, h6, by omega, hgp⟩)]
        obtain ⟨g', c1, c3, c4, c6, c7, c8⟩ := r.draw h (by omega)
        rw [c1, bd2_S]
        exact ⟨g', F1, tn, 0, f + 1, n, rfl, c3, c4, c6, a3, fun _ => by omega⟩
    · rw [if_neg h6]
      exact hpass fun z => h6 z.2.1
  | some v =>
    rw [hbe] at hbI
    obtain ⟨⟨y1, y2, y3⟩, -⟩ := hbI
    have eS : stepT T np hb tn pa = playT T np tn (v / 10) (v % 10) := by rw [stepT, hbe]
    obtain ⟨g', tn', c1, c3, c4, c6, c7, c8⟩ := r.lay h y2 y3 (by rw [r.why h y2 y3]; exact y1)
    rw [eS, if_neg (show ¬ encO (some v) = -1 from nI_m1 (by omega))]
    show ∃ g' F' tn' pa' f' n', (bd1 (f_X1_layTile g (nI v / 10) (nI v - nI v / 10 * 10)) fun (g19 : GS) => some (g19, F1)) = some (g', F') ∧ _
    rw [nI_hi (by omega), i_10, nI_div (by omega) (by omega), c1, bd1_S]
    exact ⟨g', F1, tn', 0, f, n + 1, rfl, c3, c4, c6, a3, fun _ => by omega⟩
end RTH
/-- the table's steps one behind another -/
noncomputable def chT (np hb : Nat) (T : TT) : Nat → TT
  | 0 => T
  | i + 1 => stepT (chT np hb T i) np hb ((chT np hb T i).1 4).toNatClampNeg ((chT np hb T i).1 9).toNatClampNeg
theorem chT_M (np hb : Nat) (T : TT) : ∀ i, tM (chT np hb T i) = tM T
  | 0 => rfl
  | i + 1 => (stepT_M _ np hb _ _).trans (chT_M np hb T i)
section RTI
variable {g : GS} {T : TT} {mx np hs hb tn pa f e n fn : Nat} {F : SA}
/-- where i steps have led -/
def At (g : GS) (F : SA) (T : TT) (fn mx np hs hb e i : Nat) (gg : GS) (G : SA) : Prop := ∃ tn pa f n, Inv gg mx np hs hb tn pa f e n ∧ RT gg (chT np hb T i) np hb f e n ∧ gg.2.1 = g.2.1 ∧ G.2 0 = F.2 0 ∧ (gg.1.1 8 = 0 → pa < np)
theorem At.next {i : Nat} {gg : GS} {G : SA} (a : At g F T fn mx np hs hb e i gg G) (hF : FRT g.2.1 fn (F.2 0) (tM T)) (hov : gg.1.1 8 = 0) : ∃ g' G', f_X1_makeStep fn g.2.1 gg G = some (g', G') ∧ At g F T fn mx np hs hb e (i + 1) g' G' := by
  obtain ⟨tn, pa, f, n, a1, a2, a3, a4, a5⟩ := a
  have hF' : FRT gg.2.1 fn (G.2 0) (tM (chT np hb T i)) := by rw [a3, a4, chT_M]; exact hF
  obtain ⟨g', F', tn', pa', f', n', c1, c2, c3, c4, c5, c6⟩ := a2.step a1 hF' hov (a5 hov)
  rw [a3] at c1
  have hS := a2.S
  have e4 : ((chT np hb T i).1 4).toNatClampNeg = tn := by rw [hS.2.2.2.2.1, a1.tn.1, nI_clamp (by have := a1.tn; have := a1.np; omega)]
  have e9 : ((chT np hb T i).1 9).toNatClampNeg = pa := by rw [hS.2.2.2.2.2.2.2.2.2, a1.pa.1, nI_clamp (by have := a1.pa; have := a1.np; omega)]
  refine ⟨g', F', c1, tn', pa', f', n', c2, ?_, c4.trans a3, c5.trans a4, c6⟩
  show RT g' (stepT (chT np hb T i) np hb ((chT np hb T i).1 4).toNatClampNeg ((chT np hb T i).1 9).toNatClampNeg) np hb f' e n'
  rw [e4, e9]
  exact c3
theorem RT.playOn (r : RT g T np hb f e n) (h : Inv g mx np hs hb tn pa f e n) (hF : FRT g.2.1 fn (F.2 0) (tM T)) (hal : g.1.1 8 = 0 → pa < np) {N : Nat} (hN : N ≤ 200) : ∃ j g' F', f_X1_playOn fn g.2.1 g F (nI N) = some (nI j, g', F') ∧ At g F T fn mx np hs hb e j g' F' ∧ j ≤ N ∧ (∀ i, i < j → (chT np hb T i).1 7 = 0) ∧ (j = N ∨ ¬ (chT np hb T j).1 7 = 0) := by
  unfold f_X1_playOn
  refine lr3 (B := f_X1_playOn_B2 fn g.2.1 (nI N)) (fun o => ∃ j g' F', o = some (nI j, g', F') ∧ At g F T fn mx np hs hb e j g' F' ∧ j ≤ N ∧ (∀ i, i < j → (chT np hb T i).1 7 = 0) ∧ (j = N ∨ ¬ (chT np hb T j).1 7 = 0))
    (fun (m : Nat) (v : Int32) (gg : GS) (G : SA) => ∃ j, v = nI j ∧ j + m = N ∧ At g F T fn mx np hs hb e j gg G ∧ ∀ i, i < j → (chT np hb T i).1 7 = 0) ?_ FUEL N 0 g F (FUEL_lt (by omega)) ⟨0, rfl, by omega, ⟨tn, pa, f, n, h, r, rfl, rfl, hal⟩, fun i hi => absurd hi (Nat.not_lt_zero _)⟩
  rintro rec m v gg G ⟨j, rfl, hj, hA, hall⟩ ih
  have h7 : (chT np hb T j).1 7 = gg.1.1 8 := by
    obtain ⟨tn, pa, f, n, a1, a2, -⟩ := hA
    exact a2.S.2.2.2.2.2.2.2.1
  unfold f_X1_playOn_B2
  rw [ie_le (by omega) (by omega)]
  by_cases hPj : N ≤ j
  · rw [if_pos hPj]
    exact ⟨j, gg, G, rfl, hA, by omega, hall, Or.inl (by omega)⟩
  · rw [if_neg hPj]
    by_cases hov : gg.1.1 8 = 0
    · rw [if_pos hov]
      obtain ⟨g', G', c1, c2⟩ := hA.next hF hov
      rw [c1, bd2_S, nI_1]
      refine ih (m - 1) _ _ _ (by omega) ⟨j + 1, rfl, by omega, c2, fun i hi => ?_⟩
      by_cases hz : i = j
      · rw [hz, h7]; exact hov
      · exact hall i (by omega)
    · rw [if_neg hov]
      exact ⟨j, gg, G, rfl, hA, by omega, hall, Or.inr (by rw [h7]; exact hov)⟩
end RTI
