/-! a game loaded that has a rank -/
section RL1
variable {ps : PS} {s : HS} {T T0 : TT} {B : Nat → TT} {mx np hs hb mx0 np0 : Nat} {rd' : RS} {m : TM}
theorem load_1 (hG : GT ps s.2.1 T0 mx0 np0) (hu : ∃ u, s.1.1 1 = nI u ∧ u ≤ 8) (f6 : rd'.1.1 6 = 0) (d6 : rd'.2.2.1.1 6 = 0) (d8 : rd'.2.2.1.1 8 = 0) (hP : ∀ g', gEq g' rd'.2.2 → PT g' T mx np hs hb) (hM : tM T = some m) (hm2 : m.1 ≤ 2) (hok : okN m.1 m.2) (h5 : rd'.1.1 5 = nI (pst m.1 m.2).length) (hst : stpF (rd'.1.2 0) 0 (pst m.1 m.2)) :
    ∃ (r : Int32) (s7r : Nat → HS), r = nI (tK (dealT T mx hs hb np)).length ∧ (∀ fa, v_X7_load s rd' fa = some (r, s7r fa)) ∧ ∀ (fa p1 p2 : Nat), (∀ z ∈ ps, ¬ z.1 = fa) → SM (ps ++ [(fa, p1, p2, (hFn rd').toNatClampNeg, hFs rd')]) (s7r fa) (dealT T mx hs hb np) B mx np 0 := by
  have hl := pst_len m.1 m.2
  have h8 : 2 ^ (m.1 + 1) ≤ 2 ^ 3 := Nat.pow_le_pow_right (by omega) (by omega)
  have h8 : 2 ^ (m.1 + 1) ≤ 8 := h8
  have key : ∀ fa, ∃ s', v_X7_load s rd' fa = some (nI (tK (dealT T mx hs hb np)).length, s') ∧ ∀ (p1 p2 : Nat), (∀ z ∈ ps, ¬ z.1 = fa) → SM (ps ++ [(fa, p1, p2, (hFn rd').toNatClampNeg, hFs rd')]) s' (dealT T mx hs hb np) B mx np 0 := by
    intro fa
    obtain ⟨u, hu1, hu8⟩ := hu
    obtain ⟨s1, e1, e2, e3, e4, e5⟩ := SM.rem0 (ps := ps) (s := (s.1, s.2.1, s.2.2.1, s.2.2.2.1, (hF rd' fa), s.2.2.2.2.2)) (T := T0) (B := B) (mx := mx0) (np := np0) (m := 0) hG ⟨u, hu1, hu8, Nat.zero_le _⟩ (fun j hj => absurd hj (Nat.not_lt_zero _))
    have e3' : s1.2.2.2.2.1 = hF rd' fa := by rw [e3]
    obtain ⟨g', t1, t2⟩ := e_takeOver (g := s1.2.1) (go := s1.2.2.2.2.1.2.2) (by rw [e3']; exact Or.inl d6) (by rw [e3']; exact Or.inl d8)
    rw [e3'] at t2
    have t3 : gEq (g'.1, rd'.2.2.2.1, g'.2.2) rd'.2.2 := ⟨t2.S, rfl, t2.H, t2.tot, t2.k0, t2.k1, t2.K, t2.n, t2.T, t2.U, t2.E, t2.O⟩
    have P0 := hP _ t3
    have P1 : PT g' T mx np hs hb := P0
    obtain ⟨g2, f', e', d1, d2, d3, d4, d5⟩ := P1.deal
    refine ⟨(s1.1, g2, s1.2.2.1, s1.2.2.2.1, s1.2.2.2.2.1, s1.2.2.2.2.2), ?_, fun p1 p2 hfr => ⟨⟨hs, hb, 0, 0, f', e', 0, d2, d3, fun _ => by have := d2.np; omega, (p1, p2, (hFn rd').toNatClampNeg, hFs rd'), ?_, Or.inr ⟨fa, m, ?_, hM, hm2, hok, ?_, fun i hi => ?_⟩⟩, ?_, fun j hj => absurd hj (Nat.not_lt_zero _), ?_⟩⟩
    · unfold v_X7_load
      rw [if_pos f6, e1, bd1_S, t1, bd1_S, d1, bd1_S, c_size d2, bd1_S, d3.K, skL_len]
    · show pget _ g2.2.1 = _
      rw [d4, t2.fo]
      exact pget_new hfr
    · show g2.2.1 = some fa
      rw [d4, t2.fo]; rfl
    · show (hFn rd').toNatClampNeg = _
      unfold hFn
      rw [h5, nI_clamp (by omega)]
    · refine Eq.trans ?_ (hst i hi)
      show va_cpy (rd'.1.2 0) (fun _ => 0) 0 0 (rd'.1.1 5).toNatClampNeg (0 + i) = _
      exact cpy_lt (by rw [h5, nI_clamp (by omega)]; omega)
    · obtain ⟨v, v1, v2, v3⟩ := e4
      exact ⟨v, v1, v2, Nat.zero_le _⟩
    · show s1.2.2.2.2.1.2.1.1 0 = 0
      rw [e3']; rfl
  refine ⟨_, fun fa => (key fa).choose, rfl, fun fa => (key fa).choose_spec.1, fun fa p1 p2 hfr => (key fa).choose_spec.2 p1 p2 hfr⟩
end RL1
