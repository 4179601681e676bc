/-! a text read to its end -/
section RE
variable {mx np hs hb N q k f d : Nat} {rd rd' : RS} {sd : Int32} {Hs : List (List Nat)} {G : (Nat → Nat → Int32) × Option Nat × SA × SA} {S : SA} {b : Nat → Int32} {nd : NT d}
theorem r_fin0 (hfk : f + k = FUEL) (hk : k ≤ 30) (R : RI b N q rd' [] mx np hs hb sd Hs G S) (h : f_X3_read rd (nI N) = itr3 f_X3_read_B65 f 1 (nI k) rd') : f_X3_read rd (nI N) = some (0, (rd'.1, (ss rd'.2.1 0 0), rd'.2.2)) := by
  have hf : 0 < f := by have hfk : f + k = 2000000 := hfk; omega
  rw [h, r_endF hf R.1 R.2.1 R.2.2.1.1, R.2.2.1.2.2]
theorem r_fin1 (hN : N ≤ 500) (hd : d ≤ 2) (ok : okN d nd) (hfk : f + k = FUEL) (hk : k ≤ 30) (R : RI b N q rd' (TXT.getD 4 [] ++ (32 :: (ntx d nd 0 ++ (32 :: 59 :: [])))) mx np hs hb sd Hs G S) (h : g_X3_read rd (nI N) = itr3 g_X3_read_B65 f 1 (nI k) rd') : ∃ rd2, g_X3_read rd (nI N) = some rd2 ∧ rd2.2.2 = rd'.2.2 ∧ rd2.1.1 6 = 0 ∧ rd2.1.1 5 = nI (pst d nd).length ∧ stpF (rd2.1.2 0) 0 (pst d nd) := by
  obtain ⟨c, t, ⟨f3, f5, f6⟩, -⟩ := R
  obtain ⟨q1, rd1, e1, Q⟩ := r_rank (cnt := 0) hd ok c hN t f3 f5 (by omega)
  obtain ⟨tk', -, b2, b3, b4, -⟩ := r_step hN (r_kind c (w := 4) (by omega) t (nl_c (by decide))) e1 (Q.1.sk Q.2.1) Q.2.1.tl (k := k) (by omega)
  have hf : ∃ g, f = g + 1 ∧ 0 < g := ⟨f - 1, by have hfk : f + k = 2000000 := hfk; omega, by have hfk : f + k = 2000000 := hfk; omega⟩
  obtain ⟨g, rfl, hg⟩ := hf
  have h3 : rd1.1.1 3 = 1 := Q.2.2.2.2.2.2.1 3 (by omega) (by omega)
  have h6 : rd1.1.1 6 = 0 := (Q.2.2.2.2.2.2.1 6 (by omega) (by omega)).trans f6
  refine ⟨(rd1.1, tk', rd1.2.2), ?_, Q.2.2.2.2.2.1, h6, ?_, Q.2.2.2.2.1⟩
  · rw [h, b2]
    exact r_endG hg b3 b4 (by show ¬ rd1.1.1 3 = 0; rw [h3]; decide)
  · show rd1.1.1 5 = _
    rw [Q.2.2.1, Nat.zero_add]
end RE
