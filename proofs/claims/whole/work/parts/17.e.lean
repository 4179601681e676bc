theorem arr_game {s : State} (h : va_AO "HubTrains$Game" s) : ∃ cA, ArrOfT s cA (.object "HubTrains$Game") ∧ va_RA s cA (.object "HubTrains$Game") := by
  obtain ⟨comp, cA, kA, h1, h2, h3, h4, h5⟩ := Cond.arrayOver_spec (va_AO.use (A := #[]) h)
  exact ⟨cA, fun n z => ⟨fun k h => (by cases h), kA, h3, comp, h4⟩, kA, comp, h3, h4, h1, h5⟩
