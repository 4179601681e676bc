/-! the changes are undone; refused calls; the loop of the changes -/
section LGG
variable {c : Nat → ClassId} {K : (Nat → Nat) × (Nat → Nat)} {h h' : HW} {ah : Nat → Nat} {ag : Nat → Nat → Nat} {ar : Nat → Nat} {ps ps' : PS} {s s' : HS} {A Ap : Nat → Nat} {T T' : TT} {qr qb : Nat} {AB : Nat → Nat → Nat} {B B' : Nat → TT} {mx np m M d dn k mc ms mcL msL : Nat} {sd : Int32} {rec4 : HW → Nat → Nat → Int32 → Int32 → Prop} {v2 : Nat}
theorem l_lRb {j : Nat} {P : Nat → Prop} (x : LG c K h ah ag ar ps s A T qr qb AB B M 0 sd) (hj : j < M) (h9 : M ≤ 9) (hp : P (AB j 0)) : lR h (c 6) qb (nI j) P := by
  obtain ⟨Own, fv, lab, bf, fb, x⟩ := x
  exact i_lR x.2.2.2.1.2 (by omega) (by omega) (x.2.2.2.2.1.1 j hj) hp
/-- where an object's walk ends: the next one's begins -/
abbrev REC4 (c : Nat → ClassId) (K : (Nat → Nat) × (Nat → Nat)) (rec4 : HW → Nat → Nat → Int32 → Int32 → Prop) (v2 mc ms : Nat) : Prop := ∀ (h' : HW) (m9 s9 : Nat), KC c K h' (fun _ => False) → mc ≤ m9 → ms ≤ s9 → rec4 h' m9 s9 1 (nI (v2 + 1))
theorem l_915 {B9 : Nat → TT} {T9 : TT} {m9 : Nat} (x : LG c K h ah ag ar ps s A T qr qb AB B M d sd) (hS : SM ps s T9 B9 mx np m9) (hc : mcL + 8 ≤ mc) (hs9 : msL + 48 ≤ ms) (hrec : REC4 c K rec4 v2 mcL msL) : w_L_law_J915 c K rec4 (nI v2) (ah 0) h 1 mc ms := by
  obtain ⟨hs, hb, tn, pa, f, e, n, G⟩ := hS.1
  have ca := x.ca
  unfold w_L_law_J915
  refine ⟨fun z => absurd z (by decide), fun _ => ?_⟩
  refine ⟨1, 6, mc - 1, ms - 6, by omega, by omega, Or.inr (Or.inl ⟨ah, ag, ar, ps, s, load1 hS.2.2.2, rfl, ca, Nat.le_refl _, Nat.le_refl _, fun _ => ?_, fun z => absurd rfl z⟩)⟩
  refine ⟨1, 6, mc - 2, ms - 12, by omega, by omega, Or.inr (Or.inl ⟨ah, ag, ar, ps, s, G.why1, rfl, ca, Nat.le_refl _, Nat.le_refl _, fun _ => ?_, fun z => absurd rfl z⟩)⟩
  refine ⟨1, 6, mc - 3, ms - 18, by omega, by omega, Or.inr (Or.inr ⟨ah, ag, ar, ps, s, G.why2, rfl, ca, Nat.le_refl _, Nat.le_refl _, fun _ => ?_, fun z => absurd rfl z⟩)⟩
  refine ⟨1, 6, mc - 4, ms - 24, by omega, by omega, Or.inr (Or.inr (Or.inl ⟨ah, ag, ar, ps, s, G.rank1, rfl, ca, Nat.le_refl _, Nat.le_refl _, fun _ => ?_, fun z => absurd rfl z⟩))⟩
  refine ⟨1, 6, mc - 5, ms - 30, by omega, by omega, Or.inr ⟨ah, ag, ar, ps, s, G.longest1, rfl, ca, Nat.le_refl _, Nat.le_refl _, fun _ => ?_, fun z => absurd rfl z⟩⟩
  refine ⟨1, 6, mc - 6, ms - 36, by omega, by omega, Or.inr ⟨ah, ag, ar, ps, s, G.heaviest1, rfl, ca, Nat.le_refl _, Nat.le_refl _, fun _ => ?_, fun z => absurd rfl z⟩⟩
  refine ⟨1, 6, mc - 7, ms - 42, by omega, by omega, Or.inr (Or.inl ⟨ah, ag, ar, ps, s, G.laid1, rfl, ca, Nat.le_refl _, Nat.le_refl _, fun _ => ?_, fun z => absurd rfl z⟩)⟩
  refine ⟨1, 6, mc - 8, ms - 48, by omega, by omega, Or.inr (Or.inl ⟨ah, ag, ar, ps, s, G.longestT1, rfl, ca, Nat.le_refl _, Nat.le_refl _, fun _ => ?_, fun z => absurd rfl z⟩)⟩
  unfold w_L_law_J1011
  intro x1012 e1012
  rw [nI_1] at e1012
  subst e1012
  exact hrec h _ _ x.kc (by omega) (by omega)
set_option maxRecDepth 100000 in
theorem l_863 (x : LG c K h ah ag ar ps s A T qr qb AB B (min dn 9) 0 sd) (hS : SM ps s T B mx np (min dn 8)) (hn4 : np ≤ 4) (hdn : dn < 1000) (hc : mcL + 3320 ≤ mc) (hs9 : msL + 323728 ≤ ms) (hrec : REC4 c K rec4 v2 mcL msL) : w_L_law_J863 c K rec4 (nI v2) (ah 0) qb h 1 (nI dn) mc ms := by
  unfold w_L_law_J863
  refine cpL5 (fun j (h9 : HW) (m9 s9 : Nat) (v1 v9 : Int32) => v1 = 1 ∧ v9 = nI j ∧ (∃ (ps9 : PS) (s9' : HS) (T9 : TT), LG c K h9 ah ag ar ps9 s9' A T qr qb AB B (min dn 9) 0 sd ∧ SM ps9 s9' T9 (fun i => B (i + j)) mx np (min dn 8 - j)) ∧ mcL + 8 + 414 * (8 - j) ≤ m9 ∧ msL + 48 + 40460 * (8 - j) ≤ s9) (min dn 8) ?_ ?_ 0 (Nat.zero_le _) _ _ _ _ _ ⟨rfl, rfl, ⟨ps, s, T, x, hS⟩, by omega, by omega⟩
  · rintro rec9 h9 m9 s9 v1 v9 ⟨rfl, rfl, ⟨ps9, s9', T9, x9, hS9⟩, hm9, hs10⟩
    unfold w_L_law_B866
    refine br_le (a := 8) (by omega) (by omega) (fun _ => l_915 x9 hS9 (by omega) (by omega) hrec) (fun z => ?_)
    exact br_le (by omega) (by omega) (fun _ => l_915 x9 hS9 (by omega) (by omega) hrec) (fun z => by omega)
  · rintro rec9 j h9 m9 s9 v1 v9 hj ⟨rfl, rfl, ⟨ps9, s9', T9, x9, hS9⟩, hm9, hs10⟩ hrec9
    unfold w_L_law_B866
    refine br_le (a := 8) (by omega) (by omega) (fun z => by omega) (fun _ => ?_)
    refine br_le (by omega) (by omega) (fun z => by omega) (fun _ => ⟨fun z => absurd z (by decide), fun _ => ⟨x9.ca.recv, ?_⟩⟩)
    obtain ⟨v, s1, e1, e2, e3⟩ := hS9.undo (by omega)
    refine ⟨ah, ag, ar, ps9, s9', _, s1, e1, rfl, x9.ca, fun h5 q5 => ⟨fun z => absurd z (nI_lt0 (by omega)), fun _ => ?_⟩⟩
    have x5 := x9.cls (fun _ => rfl) q5
    have e3 : SM ps9 s1 (B (0 + j)) (fun i => B (i + 1 + j)) mx np (min dn 8 - j - 1) := e3
    rw [Nat.zero_add, show (fun i => B (i + 1 + j)) = fun i => B (i + (j + 1)) from funext fun i => by rw [Nat.add_assoc, Nat.add_comm 1 j]] at e3
    refine l_lRb x5 (by omega) (by omega) ?_
    refine ⟨101 * np + 10, 10100 * np + 60, m9 - (101 * np + 10), s9 - (10100 * np + 60), by omega, by omega, l_agreesB x5 (by omega) e3 (Nat.le_refl _) (Nat.le_refl _) fun h6 ps6 x6 hS6 => ⟨fun z => absurd z (by decide), fun _ => ?_⟩⟩
    unfold w_L_law_J908
    intro x909 e909
    rw [nI_1] at e909
    subst e909
    refine hrec9 _ _ _ _ _ ⟨rfl, rfl, ⟨ps6, s1, B j, x6, ?_⟩, by omega, by omega⟩
    rw [show min dn 8 - (j + 1) = min dn 8 - j - 1 by omega]
    exact hS6
/-- the loop of the changes -/
theorem l_207 (x : LG c K h ah ag ar ps s A T qr qb AB B 0 0 sd) (hS : SM ps s T B mx np 0) (hm6 : mx ≤ 6) (hc : mcL + 3320 + 1640 * 22 ≤ mc) (hs9 : msL + 323728 + 112530 * 22 ≤ ms) (hrec : REC4 c K rec4 v2 mcL msL) : ∃ n : Nat, itP6 (w_L_law_B207 c K rec4 (nI v2) (ah 0) qr (A 0) qb) n h mc ms 1 0 0 := by
  refine cpL6 (fun i (h9 : HW) (m9 s9 : Nat) (v1 v8 v9 : Int32) => v1 = 1 ∧ v9 = nI i ∧ (∃ (ps9 : PS) (s9' : HS) (T9 : TT) (AB9 : Nat → Nat → Nat) (B9 : Nat → TT) (dn : Nat) (sd9 : Int32), dn ≤ i ∧ v8 = nI dn ∧ LG c K h9 ah ag ar ps9 s9' A T9 qr qb AB9 B9 (min dn 9) 0 sd9 ∧ SM ps9 s9' T9 B9 mx np (min dn 8)) ∧ mcL + 3320 + 1640 * (22 - i) ≤ m9 ∧ msL + 323728 + 112530 * (22 - i) ≤ s9) 22 ?_ ?_ 0 (Nat.zero_le _) _ _ _ _ _ _ ⟨rfl, rfl, ⟨ps, s, T, AB, B, 0, sd, Nat.le_refl _, rfl, x, hS⟩, by omega, by omega⟩
  · rintro rec9 h9 m9 s9 v1 v8 v9 ⟨rfl, rfl, ⟨ps9, s9', T9, AB9, B9, dn, sd9, hdn, rfl, x9, hS9⟩, hm9, hs10⟩
    obtain ⟨hs, hb, tn, pa, f, e, n, G⟩ := hS9.1
    have hnp := (G.2.1.tw G.1).np
    unfold w_L_law_B207
    exact br_le (a := 22) (b := 22) (by omega) (by omega) (fun _ => l_863 x9 hS9 hnp.2.2.2.2.2 (by omega) (by omega) (by omega) hrec) (fun z => by omega)
  · rintro rec9 i h9 m9 s9 v1 v8 v9 hi ⟨rfl, rfl, ⟨ps9, s9', T9, AB9, B9, dn, sd9, hdn, rfl, x9, hS9⟩, hm9, hs10⟩ hrec9
    obtain ⟨hs, hb, tn, pa, f, e, n, G⟩ := hS9.1
    have w := G.2.1.tw G.1
    unfold w_L_law_B207
    refine br_le (a := 22) (b := i) (by omega) (by omega) (fun z => by omega) (fun _ => ⟨fun z => absurd z (by decide), fun _ => ⟨x9.rc, 16, 60, m9 - 16, s9 - 60, by omega, by omega, l_copy x9 w (Nat.le_refl _) (Nat.le_refl _) fun h1 Ap x1 => ⟨Ap 0, rfl, ?_⟩⟩⟩)
    have R : RECT c K ah ag ar A qr qb mx np rec9 i (mcL + 3320 + 1640 * (22 - (i + 1))) (msL + 323728 + 112530 * (22 - (i + 1))) := fun h' ps' s' T' AB' B' dn' sd' m8 s8 g1 g2 g3 g4 g5 => hrec9 _ _ _ _ _ _ ⟨rfl, rfl, ⟨ps', s', T', AB', B', dn', sd', g1, rfl, g2, g3⟩, g4, g5⟩
    refine l_bel (k := 8) x1 (by omega) (by omega) fun h2 x2 => ?_
    generalize mixN (nxt sd9) % 8 = o
    have hcx : mcL + 3320 + 1640 * (22 - (i + 1)) + 1624 ≤ m9 - 16 := by omega
    have hsx : msL + 323728 + 112530 * (22 - (i + 1)) + 112470 ≤ s9 - 60 := by omega
    refine ⟨fun _ => l_268 x2 hS9 hdn hcx hsx R, fun _ => ⟨fun _ => l_451 x2 hS9 hdn hcx hsx R, fun _ => ⟨fun _ => l_489 x2 hS9 hdn hcx hsx R, fun _ => ⟨fun _ => l_527 x2 hS9 hm6 hdn hcx hsx R, fun _ => ⟨fun _ => l_682 x2 hS9 hdn hcx hsx R, fun _ => l_718 x2 hS9 hdn hcx hsx R⟩⟩⟩⟩⟩
end LGG
