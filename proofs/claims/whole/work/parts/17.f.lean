theorem k_of {s : State} {args : Array Value} (hts : ∀ w ∈ lw_tbl, w.before args s = true) : ∃ (G : va_G) (c : Nat → ClassId), va_K G vwCl (TY c) s := by
  obtain ⟨G, hG⟩ := cls_known hts
  obtain ⟨a0, b0, d0⟩ := arr_prim (hts (.arrayClass .int) (by decide +kernel))
  obtain ⟨a1, b1, d1⟩ := arr_prim (hts (.arrayClass .long) (by decide +kernel))
  obtain ⟨a2, b2, d2⟩ := arr_aoa (xa_all hts).2
  obtain ⟨a3, b3, d3⟩ := arr_game (xa_of hts)
  refine ⟨G, fun k => ([a0, a1, a2, a3] : List ClassId).getD k a0, hG, fun k q hq => ?_⟩
  match k, hq with
  | 0, hq => cases hq; exact ⟨b0, d0⟩
  | 1, hq => cases hq; exact ⟨b1, d1⟩
  | 2, hq => cases hq; exact ⟨b2, d2⟩
  | 3, hq => cases hq; exact ⟨b3, d3⟩
  | k + 4, hq => simp [TY] at hq
