theorem cls_known {s : State} {args : Array Value} (hts : ∀ w ∈ lw_tb2, w.before args s = true) : ∃ G : va_G, ∀ (k : Nat) (q : vw_C), vwCl[k]? = some q → u_Kn s q.1 q.2.1 q.2.2 (G.1 k) (G.2 k) := by
  obtain ⟨c0, i0, h0⟩ := u_known (C := RX0) (T := TX0) (N := 2) (n := 2) hts tin_wsX00 (hts (.instantiable RX0 2) (tin_c [.instantiable RX0 2] [(3, 138)] rfl _ (List.mem_singleton.mpr rfl)))
  obtain ⟨c1, i1, h1⟩ := u_known (C := RX1) (T := TX1) (N := 16) (n := 16) hts tin_wsX10 (hts (.instantiable RX1 16) (tin_c [.instantiable RX1 16] [(0, 40)] rfl _ (List.mem_singleton.mpr rfl)))
  obtain ⟨c2, i2, h2⟩ := u_known (C := RX2) (T := TX2) (N := 7) (n := 7) hts tin_wsX20 (hts (.instantiable RX2 7) (tin_c [.instantiable RX2 7] [(0, 232)] rfl _ (List.mem_singleton.mpr rfl)))
  obtain ⟨c3, i3, h3⟩ := u_known (C := RX3) (T := TX3) (N := 11) (n := 11) hts tin_wsX30 (hts (.instantiable RX3 11) (tin_c [.instantiable RX3 11] [(0, 154)] rfl _ (List.mem_singleton.mpr rfl)))
  obtain ⟨c4, i4, h4⟩ := u_known (C := RX4) (T := TX4) (N := 3) (n := 3) hts tin_wsX40 (hts (.instantiable RX4 3) (tin_c [.instantiable RX4 3] [(0, 46)] rfl _ (List.mem_singleton.mpr rfl)))
  obtain ⟨c5, i5, h5⟩ := u_known (C := RX5) (T := TX5) (N := 7) (n := 7) hts tin_wsX50 (hts (.instantiable RX5 7) (tin_c [.instantiable RX5 7] [(0, 160)] rfl _ (List.mem_singleton.mpr rfl)))
  obtain ⟨c6, i6, h6⟩ := u_known (C := RX6) (T := TX6) (N := 5) (n := 5) hts tin_wsX60 (hts (.instantiable RX6 5) (tin_c [.instantiable RX6 5] [(0, 63)] rfl _ (List.mem_singleton.mpr rfl)))
  obtain ⟨c7, i7, h7⟩ := u_known (C := RX7) (T := TX7) (N := 7) (n := 7) hts tin_wsX70 (hts (.instantiable RX7 7) (tin_c [.instantiable RX7 7] [(0, 32)] rfl _ (List.mem_singleton.mpr rfl)))
  obtain ⟨c8, i8, h8⟩ := u_known (C := RX8) (T := TX8) (N := 4) (n := 4) hts tin_wsX80 (hts (.instantiable RX8 4) (tin_c [.instantiable RX8 4] [(5, 17)] rfl _ (List.mem_singleton.mpr rfl)))
  obtain ⟨c9, i9, h9⟩ := u_known (C := RX9) (T := TX9) (N := 1) (n := 1) hts tin_wsX90 (hts (.instantiable RX9 1) (tin_c [.instantiable RX9 1] [(1, 196)] rfl _ (List.mem_singleton.mpr rfl)))
  obtain ⟨c10, i10, h10⟩ := u_known (C := RX10) (T := TX10) (N := 17) (n := 17) hts tin_wsX100 (hts (.instantiable RX10 17) (tin_c [.instantiable RX10 17] [(1, 211)] rfl _ (List.mem_singleton.mpr rfl)))
  obtain ⟨c11, i11, h11⟩ := u_known (C := RJ0) (T := TJ0) (N := 2) (n := 4) hts (fun w h => tin_wsJ00 w (uws_le (N := 2) (M := 4) (by decide) w h)) (hts (.instantiable RJ0 4) (tin_c [.instantiable RJ0 4] [(5, 194)] rfl _ (List.mem_singleton.mpr rfl)))
  obtain ⟨c12, i12, h12⟩ := u_known (C := RJ4) (T := TJ4) (N := 4) (n := 4) hts tin_wsJ40 (hts (.instantiable RJ4 4) (tin_c [.instantiable RJ4 4] [(5, 43)] rfl _ (List.mem_singleton.mpr rfl)))
  refine ⟨(fun k => ([c0, c1, c2, c3, c4, c5, c6, c7, c8, c9, c10, c11, c12] : List ClassId).getD k c0, fun k => ([i0, i1, i2, i3, i4, i5, i6, i7, i8, i9, i10, i11, i12] : List (Nat → Nat)).getD k i0), ?_⟩
  intro k q hq
  match k, hq with
  | 0, hq => cases hq; exact h0
  | 1, hq => cases hq; exact h1
  | 2, hq => cases hq; exact h2
  | 3, hq => cases hq; exact h3
  | 4, hq => cases hq; exact h4
  | 5, hq => cases hq; exact h5
  | 6, hq => cases hq; exact h6
  | 7, hq => cases hq; exact h7
  | 8, hq => cases hq; exact h8
  | 9, hq => cases hq; exact h9
  | 10, hq => cases hq; exact h10
  | 11, hq => cases hq; exact h11
  | 12, hq => cases hq; exact h12
  | k + 13, hq => simp [vwCl] at hq
