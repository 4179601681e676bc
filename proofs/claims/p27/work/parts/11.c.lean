/-! a game loaded that has no rank -/
section RL0
variable {ps : PS} {s : HS} {T T0 : TT} {B : Nat → TT} {mx np hs hb mx0 np0 N st : Nat} {rd' : RS}
theorem load_0 (hG : GT ps s.2.1 T0 mx0 np0) (hu : ∃ u, s.1.1 1 = nI u ∧ u ≤ 8) (hst : s.2.2.2.2.1.2.1.1 0 = nI st) (hN : N ≤ st) (h500 : st ≤ 500) (hr : f_X3_read s.2.2.2.2.1 (nI N) = some (0, (rd'.1, (ss rd'.2.1 0 0), rd'.2.2))) (d6 : rd'.2.2.1.1 6 = 0) (d8 : rd'.2.2.1.1 8 = 0) (hfo : rd'.2.2.2.1 = none) (hP : ∀ g', gEq g' rd'.2.2 → PT g' T mx np hs hb) (hM : tM T = none) :
    ∃ s', f_X7_load s (nI N) = some (nI (tK (dealT T mx hs hb np)).length, s') ∧ SM ps s' (dealT T mx hs hb np) B mx np 0 := by
  obtain ⟨u, hu1, hu8⟩ := hu
  obtain ⟨s1, e1, e2, e3, e4, e5⟩ := SM.rem0 (ps := ps) (s := (s.1, s.2.1, s.2.2.1, s.2.2.2.1, ((rd'.1, (ss rd'.2.1 0 0), rd'.2.2) : RS), s.2.2.2.2.2)) (T := T0) (B := B) (mx := mx0) (np := np0) (m := 0) hG ⟨u, hu1, hu8, Nat.zero_le _⟩ (fun j hj => absurd hj (Nat.not_lt_zero _))
  have e3' : s1.2.2.2.2.1 = (rd'.1, (ss rd'.2.1 0 0), rd'.2.2) := by rw [e3]
  have e3g : s1.2.2.2.2.1.2.2 = rd'.2.2 := by rw [e3']
  obtain ⟨g', t1, t2⟩ := e_takeOver (g := s1.2.1) (go := s1.2.2.2.2.1.2.2) (by rw [e3g]; exact Or.inl d6) (by rw [e3g]; exact Or.inl d8)
  rw [e3g] at t2
  obtain ⟨g2, f', e', d1, d2, d3, d4, d5⟩ := (hP g' t2).deal
  unfold f_X7_load
  rw [if_neg (nI_lt0 (by omega)), hst, ie_le (by omega) (by omega), if_pos hN, hr, bd2_S, if_pos rfl, e1, bd1_S, t1, bd1_S, d1, bd1_S, c_size d2, bd1_S]
  refine ⟨_, by rw [d3.K, skL_len], ⟨hs, hb, 0, 0, f', e', 0, d2, d3, fun _ => by have := d2.np; omega, _, by rw [d4, t2.fo, hfo]; rfl, Or.inl ⟨by rw [d4, t2.fo, hfo], hM⟩⟩, ?_, fun j hj => absurd hj (Nat.not_lt_zero _), ?_⟩
  · obtain ⟨v, v1, v2, v3⟩ := e4
    exact ⟨v, v1, v2, Nat.zero_le _⟩
  · show s1.2.2.2.2.1.2.1.1 0 = 0
    rw [e3']; rfl
end RL0
