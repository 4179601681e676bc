/-! what both hold when they are new -/
def xI (xd : Nat → Int32) : MS := ((sL [0, 0, 0, 0, 0, 0, -1, 0, 0, 0, 0, 0, 0], aL [fun _ => 0, xd]), fun _ => 0)
theorem s_init : ∃ hf gd xl xd, f_J7_fill_53178 100 (fun _ => 0) (-1) = some hf ∧ f_X1_dealRound (g0 hf) = some gd ∧ f_X8_layGame 1464 (fun _ => 0) 3 2 1 = some xl ∧ f_X8_deal 1464 xl = some xd ∧ Sim (h0 hf gd) (xI xd) [] := by
  obtain ⟨hf, a1, a2⟩ := e_fill (n := 100) (h0 := fun _ => 0) (v := -1) (by omega)
  obtain ⟨xl, b1, b2⟩ := x_lay (fun _ => 0) 3 2 1
  have pd : PD (g0 hf) xl 3 2 1 3 := by
    refine ⟨⟨rfl, by omega⟩, ⟨rfl, by omega⟩, ⟨rfl, by omega⟩, ⟨rfl, by omega⟩, (b2 0 (by omega)).trans rfl, (b2 1 (by omega)).trans rfl, (b2 2 (by omega)).trans rfl, (b2 3 (by omega)).trans rfl, (b2 11 (by omega)).trans rfl, (b2 9 (by omega)).trans rfl, fun p hp => ?_, fun c hc => Or.inl (a2 c hc), fun c hc => ?_⟩
    · rw [b2 _ (by omega)]
      rcases (show p = 0 ∨ p = 1 ∨ p = 2 ∨ p = 3 by omega) with rfl | rfl | rfl | rfl <;> rfl
    · rw [b2 _ (by omega)]
      show lay 3 2 1 (19 + c) = hf c
      rw [a2 c hc]
      unfold lay
      rw [if_pos (by omega)]
  obtain ⟨gd, xd, f, e, c1, c2, c3, c4, c5, c6, c7⟩ := s_dealRound pd
  refine ⟨hf, gd, xl, xd, a1, c1, b1, c2, ⟨3, 2, 1, 3, 0, 0, f, e, 0, c3, c4, fun _ => by omega, (0, 0, 0, z0), ?_, ?_⟩, ⟨0, by omega, rfl, rfl, fun i hi => absurd hi (Nat.not_lt_zero _)⟩, ⟨⟨0, by omega, rfl, rfl⟩, rfl, fun k _ => ⟨0, by omega, rfl⟩, rfl, ⟨rfl, rfl, rfl⟩, fun p hp => ?_⟩, ⟨0, by omega, rfl, fun k hk => absurd hk (Nat.not_lt_zero _), fun m _ _ => ⟨rfl, rfl⟩⟩⟩
  · rw [show (h0 hf gd).2.1.2.1 = none from c5]
    rfl
  · refine Or.inl ⟨c5, ?_⟩
    show xd 13 = 0
    rw [c6 13 (Or.inl rfl), b2 13 (by omega)]
    rfl
  · rcases (show p = 0 ∨ p = 1 ∨ p = 2 ∨ p = 3 by omega) with rfl | rfl | rfl | rfl <;> rfl
