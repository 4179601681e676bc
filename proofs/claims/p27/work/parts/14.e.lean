/-! the six kinds of step: a tile that is tried, drawing, passing -/
section LGE
variable {c : Nat → ClassId} {K : (Nat → Nat) × (Nat → Nat)} {h h' : HW} {ah : Nat → Nat} {ag : Nat → Nat → Nat} {ar : Nat → Nat} {ps ps' : PS} {s s' : HS} {A Ap : Nat → Nat} {T T' : TT} {qr qb : Nat} {AB : Nat → Nat → Nat} {B B' : Nat → TT} {mx np m M d dn k mc ms mc0 ms0 : Nat} {sd : Int32} {rec : HW → Nat → Nat → Int32 → Int32 → Int32 → Prop}
theorem l_268 (x : LG c K h ah ag ar ps s A T qr qb (shA Ap AB) (shB T B) (min dn 9) 1 sd) (hS : SM ps s T B mx np (min dn 8)) (hdn : dn ≤ k) (hc : mc0 + 1624 ≤ mc) (hs9 : ms0 + 112470 ≤ ms) (hrec : RECT c K ah ag ar A qr qb mx np rec k mc0 ms0) : w_L_law_J268 c K (ah 0) qr (A 0) qb rec (nI dn) (nI k) (Ap 0) h mc ms := by
  obtain ⟨hs, hb, tn, pa, f, e, n, G⟩ := hS.1
  have w := G.2.1.tw G.1
  have hnp := w.np
  have hmx := w.mx
  unfold w_L_law_J268
  refine l_gI (k := 0) x (by omega) ?_
  rw [hmx.1]
  intro x276 e276
  rw [nI_1] at e276
  subst e276
  refine l_bel (k := mx + 1) x (by omega) (by omega) fun h1 x1 => ?_
  generalize ha : mixN (nxt sd) % (mx + 1) = a
  have ha2 : a < mx + 1 := by rw [← ha]; exact Nat.mod_lt _ (by omega)
  intro x282 e282
  rw [show (10 : Int32) = nI 10 from rfl, nI_mul] at e282
  subst e282
  refine l_gI (k := 0) x1 (by omega) ?_
  rw [hmx.1]
  intro x291 e291
  rw [nI_1] at e291
  subst e291
  refine l_bel (k := mx + 1) x1 (by omega) (by omega) fun h2 x2 => ?_
  generalize hb' : mixN (nxt (nxt sd)) % (mx + 1) = b
  have hb2 : b < mx + 1 := by rw [← hb']; exact Nat.mod_lt _ (by omega)
  intro x295 e295
  rw [nI_add] at e295
  subst e295
  generalize hcd : a * 10 + b = cd
  have hcd1 : cd / 10 = a := by omega
  have hcd2 : cd % 10 = b := by omega
  have hcd3 : cd < 100 := by omega
  refine l_lenR x2 ?_
  rw [hnp.2.2.1]
  refine l_bel (k := 9) x2 (by omega) (by omega) fun h3 x3 => ?_
  have J : ∀ o : Nat, o ≤ 1 → w_L_law_J321 c K (ah 0) (A 0) qb rec (nI dn) (nI k) (Ap 0) (nI cd) h3 mc ms (nI o) (nI (np + 1)) qr := by
    intro o ho
    unfold w_L_law_J321
    intro x321 e321
    rw [nI_add] at e321
    subst e321
    refine l_bel (k := np + 1 + o) x3 (by omega) (by omega) fun h4 x4 => ?_
    generalize hw0 : mixN (nxt (nxt (nxt (nxt sd)))) % (np + 1 + o) = wt
    have hwt : wt < np + 1 + o := by rw [← hw0]; exact Nat.mod_lt _ (by omega)
    intro x331 e331 x336 e336
    rw [nI_lo (by omega), hcd1] at e331
    rw [nI_hi (by omega), hcd2] at e336
    subst e331 e336
    -- refused
    have no : ∀ st : Int32, (st = 0 ∧ b < a ∨ st = 1 ∧ a ≤ b) → (wt ≤ np → a ≤ b → ¬ whyT T hb tn cd wt = 0) → w_L_law_J379 c K (ah 0) (A 0) qb rec (nI dn) (nI k) (Ap 0) (nI cd) (nI wt) st h4 mc ms := by
      intro st hst hno
      have fin : w_L_law_J797 c K (ah 0) (A 0) qb rec (nI dn) (nI k) (Ap 0) h4 (mc - 1) (ms - 6) 1 0 := l_797n x4 hS hnp.2.2.2.2.2 (by omega) (by omega) (by omega) hrec
      unfold w_L_law_J379 w_L_law_J380
      refine l_lenR x4 ?_
      rw [hnp.2.2.1]
      refine br_eq (by omega) (by omega) (fun z => ?_) (fun z => ?_)
      · unfold w_L_law_J410
        refine ⟨1, 6, mc - 1, ms - 6, by omega, by omega, Or.inr (Or.inl ⟨ah, ag, ar, ps, s, G.play1 (by omega) (by omega), rfl, x4.ca, Nat.le_refl _, Nat.le_refl _, fun _ => ?_, fun z => absurd rfl z⟩)⟩
        unfold w_L_law_J439
        exact ⟨fun _ => fin, fun z => absurd rfl z⟩
      · rcases hst with ⟨rfl, hlt⟩ | ⟨rfl, hle⟩
        · refine ⟨fun _ => ?_, fun z => absurd rfl z⟩
          unfold w_L_law_J410
          refine ⟨1, 6, mc - 1, ms - 6, by omega, by omega, Or.inr (Or.inr (Or.inl ⟨ah, ag, ar, ps, s, G.play2 (by omega) hcd3 (by unfold inS; omega), rfl, x4.ca, Nat.le_refl _, Nat.le_refl _, fun _ => ?_, fun z => absurd rfl z⟩))⟩
          unfold w_L_law_J439
          exact ⟨fun _ => fin, fun z => absurd rfl z⟩
        · refine ⟨fun z => absurd z (by decide), fun _ => ?_⟩
          unfold w_L_law_J410
          refine ⟨1, 6, mc - 1, ms - 6, by omega, by omega, Or.inr (Or.inr (Or.inr ⟨ah, ag, ar, ps, s, G.play3 (by omega) hcd3 (by unfold inS; omega) (hno (by omega) hle), rfl, x4.ca, Nat.le_refl _, Nat.le_refl _, fun _ => ?_, fun z => absurd rfl z⟩))⟩
          unfold w_L_law_J439
          exact ⟨fun _ => fin, fun z => absurd rfl z⟩
    have J5 : ∀ st : Int32, (st = 0 ∧ b < a ∨ st = 1 ∧ a ≤ b) → w_L_law_J345 c K (ah 0) (A 0) qb rec (nI dn) (nI k) (Ap 0) (nI cd) (nI wt) h4 mc ms st := by
      intro st hst
      unfold w_L_law_J345
      refine l_lenR x4 ?_
      rw [hnp.2.2.1]
      refine br_le (by omega) (by omega) (fun z => no st hst fun z2 => by omega) (fun z => ?_)
      rcases hst with ⟨rfl, hlt⟩ | ⟨rfl, hle⟩
      · exact ⟨fun _ => no 0 (Or.inl ⟨rfl, hlt⟩) fun _ z2 => by omega, fun z => absurd rfl z⟩
      · refine ⟨fun z => absurd z (by decide), fun _ => ⟨x4.rc, l_why x4 w hcd3 (by omega) ⟨fun hy => ?_, fun hy => no 1 (Or.inr ⟨rfl, hle⟩) fun _ _ => hy⟩⟩⟩
        -- played
        obtain ⟨s1, e1, e2⟩ := hS.play G hcd3 (t := wt) (by omega) hy
        unfold w_L_law_J380
        refine l_lenR x4 ?_
        rw [hnp.2.2.1]
        refine br_eq (by omega) (by omega) (fun z => by omega) (fun _ => ⟨fun z => absurd z (by decide), fun _ => ?_⟩)
        unfold w_L_law_J410
        refine ⟨0, 0, mc, ms, by omega, by omega, Or.inl ⟨ah, ag, ar, ps, s, _, s1, e1, rfl, x4.ca, fun h5 q5 => ⟨fun z => absurd z (by decide), fun _ => ?_⟩⟩⟩
        have x5 := x4.cls (fun _ => rfl) q5
        refine ⟨x5.rc, 60, 3600, mc - 60, ms - 3600, by omega, by omega, l_play x5 w hcd3 (by omega) (Nat.le_refl _) (Nat.le_refl _) fun h6 x6 => ?_⟩
        unfold w_L_law_J439
        exact ⟨fun _ => l_797y x6 e2 hnp.2.2.2.2.2 hdn (by omega) (by omega) hrec, fun z => absurd rfl z⟩
    refine br_lt (by omega) (by omega) (fun z => J5 0 (Or.inl ⟨rfl, z⟩)) (fun z => J5 1 (Or.inr ⟨rfl, z⟩))
  exact br_eq0 (by omega) (fun _ => J 1 (Nat.le_refl _)) (fun _ => J 0 (by omega))
theorem l_451 (x : LG c K h ah ag ar ps s A T qr qb (shA Ap AB) (shB T B) (min dn 9) 1 sd) (hS : SM ps s T B mx np (min dn 8)) (hdn : dn ≤ k) (hc : mc0 + 1624 ≤ mc) (hs9 : ms0 + 112470 ≤ ms) (hrec : RECT c K ah ag ar A qr qb mx np rec k mc0 ms0) : w_L_law_J451 c K (ah 0) (A 0) qb rec (nI dn) (nI k) (Ap 0) h mc ms := by
  obtain ⟨hs, hb, tn, pa, f, e, n, G⟩ := hS.1
  have w := G.2.1.tw G.1
  have hnp := w.np
  unfold w_L_law_J451
  refine ⟨x.rc, l_mayDraw x w ?_⟩
  by_cases hd : tDr T np hb tn
  · rw [if_pos hd]
    obtain ⟨s1, e1, e2⟩ := hS.draw G hd
    refine ⟨0, 0, mc, ms, by omega, by omega, Or.inl ⟨ah, ag, ar, ps, s, _, s1, e1, rfl, x.ca, fun h5 q5 => ⟨fun z => absurd z (by decide), fun _ => ?_⟩⟩⟩
    have x5 := x.cls (fun _ => rfl) q5
    refine ⟨x5.rc, 60, 3600, mc - 60, ms - 3600, by omega, by omega, l_draw x5 w hd.2.2.1 (Nat.le_refl _) (Nat.le_refl _) fun h6 x6 => ?_⟩
    unfold w_L_law_J477
    exact ⟨fun _ => l_797y x6 e2 hnp.2.2.2.2.2 hdn (by omega) (by omega) hrec, fun z => absurd rfl z⟩
  · rw [if_neg hd]
    refine ⟨1, 6, mc - 1, ms - 6, by omega, by omega, Or.inr ⟨ah, ag, ar, ps, s, G.draw1 hd, rfl, x.ca, Nat.le_refl _, Nat.le_refl _, fun _ => ?_, fun z => absurd rfl z⟩⟩
    unfold w_L_law_J477
    exact ⟨fun _ => l_797n x hS hnp.2.2.2.2.2 (by omega) (by omega) (by omega) hrec, fun z => absurd rfl z⟩
theorem l_489 (x : LG c K h ah ag ar ps s A T qr qb (shA Ap AB) (shB T B) (min dn 9) 1 sd) (hS : SM ps s T B mx np (min dn 8)) (hdn : dn ≤ k) (hc : mc0 + 1624 ≤ mc) (hs9 : ms0 + 112470 ≤ ms) (hrec : RECT c K ah ag ar A qr qb mx np rec k mc0 ms0) : w_L_law_J489 c K (ah 0) (A 0) qb rec (nI dn) (nI k) (Ap 0) h mc ms := by
  obtain ⟨hs, hb, tn, pa, f, e, n, G⟩ := hS.1
  have w := G.2.1.tw G.1
  have hnp := w.np
  unfold w_L_law_J489
  refine ⟨x.rc, l_mayPass x w ?_⟩
  by_cases hd : tPa T np hb tn
  · rw [if_pos hd]
    obtain ⟨s1, e1, e2⟩ := hS.pass G hd
    refine ⟨0, 0, mc, ms, by omega, by omega, Or.inl ⟨ah, ag, ar, ps, s, _, s1, e1, rfl, x.ca, fun h5 q5 => ⟨fun z => absurd z (by decide), fun _ => ?_⟩⟩⟩
    have x5 := x.cls (fun _ => rfl) q5
    refine ⟨x5.rc, l_pass x5 w fun h6 x6 => ?_⟩
    unfold w_L_law_J515
    exact ⟨fun _ => l_797y x6 e2 hnp.2.2.2.2.2 hdn (by omega) (by omega) hrec, fun z => absurd rfl z⟩
  · rw [if_neg hd]
    refine ⟨1, 6, mc - 1, ms - 6, by omega, by omega, Or.inr ⟨ah, ag, ar, ps, s, G.pass1 hd, rfl, x.ca, Nat.le_refl _, Nat.le_refl _, fun _ => ?_, fun z => absurd rfl z⟩⟩
    unfold w_L_law_J515
    exact ⟨fun _ => l_797n x hS hnp.2.2.2.2.2 (by omega) (by omega) (by omega) hrec, fun z => absurd rfl z⟩
theorem l_682 (x : LG c K h ah ag ar ps s A T qr qb (shA Ap AB) (shB T B) (min dn 9) 1 sd) (hS : SM ps s T B mx np (min dn 8)) (hdn : dn ≤ k) (hc : mc0 + 1624 ≤ mc) (hs9 : ms0 + 112470 ≤ ms) (hrec : RECT c K ah ag ar A qr qb mx np rec k mc0 ms0) : w_L_law_J682 c K (ah 0) qr (A 0) qb rec (nI dn) (nI k) (Ap 0) h mc ms := by
  obtain ⟨hs, hb, tn, pa, f, e, n, G⟩ := hS.1
  have w := G.2.1.tw G.1
  have hnp := w.np
  unfold w_L_law_J682
  refine l_bel (k := 20) x (by omega) (by omega) fun h1 x1 => ?_
  generalize hN : mixN (nxt sd) % 20 = N
  intro x690 e690
  rw [show (1 : Int32) = nI 1 from rfl, nI_add] at e690
  subst e690
  obtain ⟨j, s1, ps1, e1, e2, e3, e4, e5, e6⟩ := hS.auto G (N := 1 + N) (by omega) (by omega)
  refine ⟨0, 0, mc, ms, by omega, by omega, Or.inl ⟨ah, ag, ar, ps, s, _, s1, ps1, e1, rfl, x1.ca, fun h5 q5 => ?_⟩⟩
  have x5 := x1.cls e6 q5
  refine ⟨x5.rc, 1200, 72000, mc - 1200, ms - 72000, by omega, by omega, l_goesOn (q := (0, 0, 0, z0)) x5 G (by omega) (by omega) (by omega) e3 e4 e5 fun h6 x6 => ?_⟩
  unfold w_L_law_J714
  exact ⟨fun _ => l_797y x6 e2 hnp.2.2.2.2.2 hdn (by omega) (by omega) hrec, fun z => absurd rfl z⟩
theorem l_718 (x : LG c K h ah ag ar ps s A T qr qb (shA Ap AB) (shB T B) (min dn 9) 1 sd) (hS : SM ps s T B mx np (min dn 8)) (hdn : dn ≤ k) (hc : mc0 + 1624 ≤ mc) (hs9 : ms0 + 112470 ≤ ms) (hrec : RECT c K ah ag ar A qr qb mx np rec k mc0 ms0) : w_L_law_J718 c K (ah 0) (A 0) qb rec (nI dn) (nI k) (Ap 0) h mc ms := by
  obtain ⟨hs, hb, tn, pa, f, e, n, G⟩ := hS.1
  have w := G.2.1.tw G.1
  have hnp := w.np
  unfold w_L_law_J718
  refine ⟨x.rc, l_best x w fun h1 x1 ok => ?_⟩
  obtain ⟨ps1, b1, b2, b3⟩ := G.best
  obtain ⟨z9, -, h9⟩ := G.2.2.2
  have hbw := best_isB w h9.ok
  cases hbt : bestT T np hb tn with
  | none =>
    rw [hbt] at b1
    refine ⟨fun _ => ?_, fun z => absurd (by decide) z⟩
    unfold w_L_law_J735
    refine ⟨fun _ => ⟨x1.ca.recv, ah, ag, ar, ps, s, _, ps1, b1, rfl, x1.ca, fun h2 q2 => ⟨fun _ => ?_, fun z => absurd rfl z⟩⟩, fun z => absurd rfl z⟩
    have x2 := x1.cls b3 q2
    exact l_797n x2 (hS.pm b2) hnp.2.2.2.2.2 (by omega) (by omega) (by omega) hrec
  | some v =>
    obtain ⟨o1, o2⟩ := ok v hbt
    rw [hbt] at hbw
    have hy : whyT T hb tn (v / 10) (v % 10) = 0 := hbw.1.1
    have hv : v < 2 ^ 31 := by omega
    refine ⟨fun z => absurd z (nI_lt0 hv), fun _ => ?_⟩
    unfold w_L_law_J735
    refine ⟨fun z => absurd z (by decide), fun _ => ?_⟩
    show ∀ x747 : Int32, x747 = nI v / 10 → ∀ x752 : Int32, x752 = nI v - nI v / 10 * 10 → _
    intro x747 e747 x752 e752
    rw [nI_lo hv] at e747
    rw [nI_hi hv] at e752
    subst e747 e752
    obtain ⟨s1, e1, e2⟩ := hS.play G o1 o2 hy
    refine ⟨0, 0, mc, ms, by omega, by omega, Or.inl ⟨ah, ag, ar, ps, s, _, s1, e1, rfl, x1.ca, fun h5 q5 => ?_⟩⟩
    have x5 := x1.cls (fun _ => rfl) q5
    show ∀ x762 : Int32, x762 = nI v / 10 → ∀ x767 : Int32, x767 = nI v - nI v / 10 * 10 → _
    intro x762 e762 x767 e767
    rw [nI_lo hv] at e762
    rw [nI_hi hv] at e767
    subst e762 e767
    refine ⟨x5.rc, 60, 3600, mc - 60, ms - 3600, by omega, by omega, l_play x5 w o1 o2 (Nat.le_refl _) (Nat.le_refl _) fun h6 x6 => ?_⟩
    exact ⟨fun _ => l_797y x6 e2 hnp.2.2.2.2.2 hdn (by omega) (by omega) hrec, fun z => absurd rfl z⟩
end LGE
