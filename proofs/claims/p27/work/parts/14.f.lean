/-! a new round is dealt; the loop of the changes -/
section LGF
variable {c : Nat → ClassId} {K : (Nat → Nat) × (Nat → Nat)} {h h' : HW} {ah : Nat → Nat} {ag : Nat → Nat → Nat} {ar : Nat → Nat} {ps ps' : PS} {s s' : HS} {A Ap : Nat → Nat} {T T' : TT} {qr qb : Nat} {AB : Nat → Nat → Nat} {B B' : Nat → TT} {mx np m M d dn k mc ms mc0 ms0 : Nat} {sd : Int32} {rec : HW → Nat → Nat → Int32 → Int32 → Int32 → Prop}
theorem l_clr {p : Nat} {P : HW → Nat → Nat → Prop} (x : LG c K h ah ag ar ps s A T qr qb AB B M d sd) (hk : p < (tH T).length) (hc : 1 ≤ mc) (hp : ∀ h', LG c K h' ah ag ar ps s A (sH T ((tH T).set p [])) qr qb AB B M d sd → P h' (mc - 1) ms) : gR h (A 0) 10 10 (fun g => nwI h (c 0) 0 mc ms (fun q h1 mB zB => stA h1 (c 0) (c 2) g (nI p) q (fun h2 => P h2 mB zB))) := by
  obtain ⟨Own, fv, lab, bf, fb, x⟩ := x
  refine t_g10 x.1.2.1 ?_
  refine a_nwI (n := 0) (by omega) hc (Nat.zero_le _) fun q h1 hq hw e1 => ?_
  have x1 := x.ext e1
  have r1 : RowW c h1 q [] := ⟨_, hw, fun i hi => absurd hi (Nat.not_lt_zero _)⟩
  exact t_stH (p := p) x1.1.2.1 hk (r1.at fun z => x.1.2.2.1 _ z hq) fun h2 t2 f2 d2 => hp h2 ⟨Own, fv, lab, bf, fb, x1.tab t2 f2 d2⟩
theorem l_lenH {P : Int32 → Prop} (x : LG c K h ah ag ar ps s A T qr qb AB B M d sd) (hp : P (nI (tH T).length)) : gR h (A 0) 10 10 (fun g => lenA h (c 2) g P) := by
  obtain ⟨Own, fv, lab, bf, fb, x⟩ := x
  exact t_g10 x.1.2.1 (t_lenH x.1.2.1 hp)
theorem l_527 (x : LG c K h ah ag ar ps s A T qr qb (shA Ap AB) (shB T B) (min dn 9) 1 sd) (hS : SM ps s T B mx np (min dn 8)) (hm6 : mx ≤ 6) (hdn : dn ≤ k) (hc : mc0 + 1624 ≤ mc) (hs9 : ms0 + 112470 ≤ ms) (hrec : RECT c K ah ag ar A qr qb mx np rec k mc0 ms0) : w_L_law_J527 c K (ah 0) qr (A 0) qb rec (nI dn) (nI k) (Ap 0) h mc ms := by
  obtain ⟨hs, hb, tn, pa, f, e, n, G⟩ := hS.1
  have w := G.2.1.tw G.1
  have hnp := w.np
  have hmx := w.mx
  unfold w_L_law_J527
  refine l_gI (k := 0) x (by omega) ?_
  rw [hmx.1]
  intro x535 e535
  rw [show (2 : Int32) = nI 2 from rfl, nI_add] at e535
  subst e535
  refine l_bel (k := mx + 2) x (by omega) (by omega) fun h1 x1 => ?_
  generalize hhub : mixN (nxt sd) % (mx + 2) = hub
  have hhub2 : hub < mx + 2 := by rw [← hhub]; exact Nat.mod_lt _ (by omega)
  refine l_bel (k := 10000) x1 (by omega) (by omega) fun h2 x2 => ?_
  generalize hseed : mixN (nxt (nxt sd)) % 10000 = seed
  have hseed2 : seed ≤ 9999 := by omega
  have fin : w_L_law_J797 c K (ah 0) (A 0) qb rec (nI dn) (nI k) (Ap 0) h2 (mc - 1) (ms - 6) 1 0 := l_797n x2 hS hnp.2.2.2.2.2 (by omega) (by omega) (by omega) hrec
  refine l_gI (k := 0) x2 (by omega) ?_
  rw [hmx.1]
  refine br_lt (by omega) (by omega) (fun hlt => ?_) (fun hle => ?_)
  · unfold w_L_law_J573 w_L_law_J574
    refine ⟨fun _ => ?_, fun z => absurd rfl z⟩
    unfold w_L_law_J631
    refine ⟨1, 6, mc - 1, ms - 6, by omega, by omega, Or.inr (Or.inl ⟨ah, ag, ar, ps, s, G.deal1 hlt (by omega), rfl, x2.ca, Nat.le_refl _, Nat.le_refl _, fun _ => ?_, fun z => absurd rfl z⟩)⟩
    refine l_gI (k := 0) x2 (by omega) ?_
    rw [hmx.1]
    refine br_le (by omega) (by omega) (fun z => by omega) (fun _ => ?_)
    unfold w_L_law_J670
    exact ⟨fun _ => fin, fun z => absurd rfl z⟩
  · refine l_gI (k := 7) x2 (by omega) ⟨fun h7 => ?_, fun h7 => ?_⟩
    · unfold w_L_law_J573 w_L_law_J574
      refine ⟨fun _ => ?_, fun z => absurd rfl z⟩
      unfold w_L_law_J631
      refine ⟨1, 6, mc - 1, ms - 6, by omega, by omega, Or.inr (Or.inr ⟨ah, ag, ar, ps, s, G.deal2 hle hseed2 h7, rfl, x2.ca, Nat.le_refl _, Nat.le_refl _, fun _ => ?_, fun z => absurd rfl z⟩)⟩
      refine l_gI (k := 0) x2 (by omega) ?_
      rw [hmx.1]
      refine br_le (by omega) (by omega) (fun _ => ?_) (fun z => by omega)
      unfold w_L_law_J670
      exact ⟨fun _ => fin, fun z => absurd rfl z⟩
    · have h71 : T.1 7 = 1 := w.ov.resolve_left h7
      unfold w_L_law_J574
      refine ⟨fun z => absurd z (by decide), fun _ => ?_⟩
      refine l_pV (k := 2) x2 (by omega) fun h3 x3 => ?_
      refine l_pV (k := 3) x3 (by omega) fun h4 x4 => ?_
      refine cpL4 (fun i (h9 : HW) (m9 s9 : Nat) (v18 : Int32) => LG c K h9 ah ag ar ps s A (sH (sS (sS T 2 (nI hub)) 3 (nI seed)) (emL i (tH T))) qr qb (shA Ap AB) (shB T B) (min dn 9) 1 (nxt (nxt sd)) ∧ mc ≤ m9 + i ∧ s9 = ms ∧ v18 = nI i) np ?_ ?_ 0 (Nat.zero_le _) _ _ _ _ ⟨by rw [emL_0]; exact x4, by omega, rfl, rfl⟩
      · rintro rec9 h9 m9 s9 v18 ⟨x9, hm9, rfl, rfl⟩
        rw [emL_all hnp.1] at x9
        have x9 : LG c K h9 ah ag ar ps s A (clrT T np hub seed) qr qb (shA Ap AB) (shB T B) (min dn 9) 1 (nxt (nxt sd)) := x9
        unfold w_L_law_B598
        refine l_lenH x9 ?_
        rw [show (tH (clrT T np hub seed)).length = np from List.length_replicate]
        refine br_le (a := np) (b := np) (by omega) (by omega) (fun _ => ?_) (fun z => by omega)
        refine ⟨x9.rc, 160, 8000, m9 - 160, s9 - 8000, by omega, by omega, l_deals (mx := mx) (hs := hs) (hb := hub) (np := np) x9 hmx.1 hm6 w.hs.1 w.hs.2.2 rfl (by omega) List.length_replicate hnp.2.2.2.2.2 hnp.2.2.1 hnp.2.2.2.1 (fun q => ?_) (Nat.le_refl _) (Nat.le_refl _) fun h5 x5 => ?_⟩
        · show (∀ x ∈ (List.replicate np ([] : List Nat)).getD q [], x < 100) ∧ ((List.replicate np ([] : List Nat)).getD q []).length ≤ 55
          rw [rep_nil]
          exact ⟨fun y hy => (by cases hy), Nat.zero_le _⟩
        · obtain ⟨s1, e1, e2⟩ := hS.deal G h71 (hub := hub) (seed := seed) (by omega) hseed2
          unfold w_L_law_J631
          refine ⟨0, 0, m9 - 160, s9 - 8000, by omega, by omega, Or.inl ⟨ah, ag, ar, ps, s, _, s1, e1, rfl, x5.ca, fun h6 q6 => ⟨fun z => absurd z (by decide), fun _ => ?_⟩⟩⟩
          have x6 := x5.cls (fun _ => rfl) q6
          refine l_lenK x6 ?_
          unfold w_L_law_J670
          exact ⟨fun _ => l_797y x6 e2 hnp.2.2.2.2.2 hdn (by omega) (by omega) hrec, fun z => absurd rfl z⟩
      · rintro rec9 i h9 m9 s9 v18 hi ⟨x9, hm9, rfl, rfl⟩ hrec9
        unfold w_L_law_B598
        refine l_lenH x9 ?_
        rw [show (tH (sH (sS (sS T 2 (nI hub)) 3 (nI seed)) (emL i (tH T)))).length = np from (emL_len i _).trans hnp.1]
        refine br_le (a := np) (b := i) (by omega) (by omega) (fun z => by omega) (fun _ => ?_)
        refine l_clr (p := i) x9 (by rw [show tH (sH (sS (sS T 2 (nI hub)) 3 (nI seed)) (emL i (tH T))) = emL i (tH T) from rfl, emL_len]; omega) (by omega) fun h5 x5 => ?_
        intro x620 e620
        rw [nI_1] at e620
        subst e620
        have x5 : LG c K h5 ah ag ar ps s A (sH (sS (sS T 2 (nI hub)) 3 (nI seed)) ((emL i (tH T)).set i [])) qr qb (shA Ap AB) (shB T B) (min dn 9) 1 (nxt (nxt sd)) := x5
        rw [emL_s] at x5
        exact hrec9 _ _ _ _ ⟨x5, by omega, rfl, rfl⟩
end LGF
