/-! what was read is what a deal starts from -/
section RB
variable {mx np hs hb : Nat} {b : Nat → Int32} {N q : Nat}
theorem PT.of_RI {rd : RS} {r : List Nat} {sd : Int32} {Hs : List (List Nat)} {G : (Nat → Nat → Int32) × Option Nat × SA × SA} {S : SA} {g' : GS} {T : TT} (R : RI b N q rd r mx np hs hb sd Hs G S) (e : gEq g' rd.2.2) (hm : 3 ≤ mx ∧ mx ≤ 9) (hn : 2 ≤ np ∧ np ≤ 4) (hs12 : 1 ≤ hs ∧ hs ≤ 12) (hb9 : hb ≤ mx)
    (h9 : G.1 0 9 = 0) (ht : ∀ p, p < 4 → G.1 1 p = 0) (hT : T.1 0 = nI mx ∧ T.1 1 = nI hs ∧ T.1 2 = nI hb ∧ T.1 3 = sd ∧ T.1 8 = 0) (hH : tH T = Hs) (hL : (tT T).length = np ∧ ∀ p, p < np → (tT T).getD p 0 = 0) : PT g' T mx np hs hb := by
  obtain ⟨c, t, f, ⟨g0, g1, g2, g3, g4⟩, ⟨hh1, hh2, hh3⟩, e1, e2, e3, e4, e5⟩ := R
  refine ⟨⟨(e.S 0 (by omega)).trans g0, hm⟩, ⟨(e.S 1 (by omega)).trans g1, hn⟩, ⟨(e.S 2 (by omega)).trans g2, hs12⟩, ⟨(e.S 3 (by omega)).trans g3, hb9⟩, ⟨hT.1, hT.2.1, hT.2.2.1, ?_, ?_⟩, ⟨by rw [hH]; exact hh1, hL.1⟩, fun p hp => ?_, fun p hp => ?_, fun k hk => ?_⟩
  · rw [hT.2.2.2.1, e.S 4 (by omega), g4]
  · rw [hT.2.2.2.2, e.S 9 (by omega), e5 9 (by omega), h9]
  · rw [hL_congr e.H]
    show ((tH T).getD p []).Perm _
    rw [hH]; exact hh2 p hp
  · rw [hL.2 p hp, e.tot p (by omega), e4, ht p (by omega)]
  · rw [e.H k hk]; exact hh3 k hk
end RB
