theorem cls_known {s : State} {args : Array Value} (hts : ∀ w ∈ lw_tbl, w.before args s = true) : ∃ G : va_G, ∀ (k : Nat) (q : vw_C), vwCl[k]? = some q → u_Kn s q.1 q.2.1 q.2.2 (G.1 k) (G.2 k) := by
  obtain ⟨c0, i0, h0⟩ := u_known (C := RX0) (T := TX0) (N := 2) (n := 2) hts tin_wsX00 (hts (.instantiable RX0 2) (tin_c [.instantiable RX0 2] [(3, 50)] rfl _ (List.mem_singleton.mpr rfl)))
  obtain ⟨c1, i1, h1⟩ := u_known (C := RX1) (T := TX1) (N := 16) (n := 16) hts tin_wsX10 (hts (.instantiable RX1 16) (tin_c [.instantiable RX1 16] [(0, 34)] rfl _ (List.mem_singleton.mpr rfl)))
  obtain ⟨c2, i2, h2⟩ := u_known (C := RX2) (T := TX2) (N := 7) (n := 7) hts tin_wsX20 (hts (.instantiable RX2 7) (tin_c [.instantiable RX2 7] [(0, 226)] rfl _ (List.mem_singleton.mpr rfl)))
  obtain ⟨c3, i3, h3⟩ := u_known (C := RX3) (T := TX3) (N := 11) (n := 11) hts tin_wsX30 (hts (.instantiable RX3 11) (tin_c [.instantiable RX3 11] [(0, 148)] rfl _ (List.mem_singleton.mpr rfl)))
  obtain ⟨c4, i4, h4⟩ := u_known (C := RX4) (T := TX4) (N := 3) (n := 3) hts tin_wsX40 (hts (.instantiable RX4 3) (tin_c [.instantiable RX4 3] [(0, 40)] rfl _ (List.mem_singleton.mpr rfl)))
  obtain ⟨c5, i5, h5⟩ := u_known (C := RX5) (T := TX5) (N := 7) (n := 7) hts tin_wsX50 (hts (.instantiable RX5 7) (tin_c [.instantiable RX5 7] [(0, 154)] rfl _ (List.mem_singleton.mpr rfl)))
  obtain ⟨c6, i6, h6⟩ := u_known (C := RX6) (T := TX6) (N := 5) (n := 5) hts tin_wsX60 (hts (.instantiable RX6 5) (tin_c [.instantiable RX6 5] [(0, 57)] rfl _ (List.mem_singleton.mpr rfl)))
  obtain ⟨c7, i7, h7⟩ := u_known (C := RX7) (T := TX7) (N := 7) (n := 7) hts tin_wsX70 (hts (.instantiable RX7 7) (tin_c [.instantiable RX7 7] [(0, 26)] rfl _ (List.mem_singleton.mpr rfl)))
  obtain ⟨c8, i8, h8⟩ := u_known (C := RX8) (T := TX8) (N := 22) (n := 22) hts tin_wsX80 (hts (.instantiable RX8 22) (tin_c [.instantiable RX8 22] [(4, 105)] rfl _ (List.mem_singleton.mpr rfl)))
  refine ⟨(fun k => ([c0, c1, c2, c3, c4, c5, c6, c7, c8] : List ClassId).getD k c0, fun k => ([i0, i1, i2, i3, i4, i5, i6, i7, i8] : List (Nat → Nat)).getD k i0), ?_⟩
  intro k q hq
  match k, hq with
  | 0, hq => cases hq; exact h0
  | 1, hq => cases hq; exact h1
  | 2, hq => cases hq; exact h2
  | 3, hq => cases hq; exact h3
  | 4, hq => cases hq; exact h4
  | 5, hq => cases hq; exact h5
  | 6, hq => cases hq; exact h6
  | 7, hq => cases hq; exact h7
  | 8, hq => cases hq; exact h8
  | k + 9, hq => simp [vwCl] at hq
