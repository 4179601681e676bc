/-! what the reference tells, as functions of naturals: d is a row of its numbers -/
section D
variable {x : MS} {np mx hb : Nat}
abbrev dd (x : MS) : Nat → Int32 := x.1.2 1
theorem lit_clamp {k : Nat} (h : k < 2 ^ 31) : (Int32.ofNat k).toNatClampNeg = k := nI_clamp h
theorem x_in {a b c : Nat} (ha : a < 2 ^ 31) (hb : b < 2 ^ 31) (hc : c < 2 ^ 31) : f_X8_in (nI a) (nI b) (nI c) = some (if b ≤ a ∧ a ≤ c then 1 else 0) := by
  unfold f_X8_in
  rw [ie_lt ha hb, ie_lt hc ha]
  by_cases h1 : a < b
  · rw [if_pos h1, if_neg (by omega)]
  · rw [if_neg h1]
    by_cases h2 : c < a
    · rw [if_pos h2, if_neg (by omega)]
    · rw [if_neg h2, if_pos (by omega)]
theorem x_isTile {n0 : Nat} {h0 : Nat → Int32} (hn : 0 < n0) (hn2 : n0 < 2 ^ 31) (hm : h0 0 = nI mx) (hmx : mx ≤ 9) {c : Nat} (hc : c < 100) : f_X8_isTile n0 h0 (nI c) = some (if c / 10 ≤ c % 10 ∧ c % 10 ≤ mx then 1 else 0) := by
  unfold f_X8_isTile
  rw [i_0, i_99, x_in (by omega) (by omega) (by omega), bd1_S, if_pos (show 0 ≤ c ∧ c ≤ 99 by omega), if_neg (by decide), nI_hi (by omega), i_10, nI_div (by omega) (by omega), inb_t hn hn2, gd_T, nI_clamp (by omega), hm, ie_lt (by omega) (by omega), ie_lt (by omega) (by omega)]
  by_cases h1 : c % 10 < c / 10
  · rw [if_pos h1, if_neg (by omega)]
  · rw [if_neg h1]
    by_cases h2 : mx < c % 10
    · rw [if_pos h2, if_neg (by omega)]
    · rw [if_neg h2, if_pos (by omega)]
theorem x_isTileOut {n0 : Nat} {h0 : Nat → Int32} {v : Int32} (h : v < 0 ∨ 100 ≤ v) : f_X8_isTile n0 h0 v = some 0 := by
  unfold f_X8_isTile f_X8_in
  have h2 : (if v < 0 then some (0 : Int32) else if 99 < v then some 0 else some 1) = some 0 := by
    rcases h with h | h
    · rw [if_pos h]
    · by_cases h3 : v < 0
      · rw [if_pos h3]
      · rw [if_neg h3, if_pos (Int32.lt_of_lt_of_le (by decide) h)]
  rw [h2, bd1_S, if_pos rfl]
theorem x_pipsOf {c : Nat} (h : c < 2 ^ 31) : f_X8_pipsOf (nI c) = some (pipI c) := by
  unfold f_X8_pipsOf pipI
  rw [nI_hi h, i_10, nI_div h (by omega), nI_add]
theorem x_isDouble {c : Nat} (h : c < 2 ^ 31) : f_X8_isDouble (nI c) = some (if c / 10 = c % 10 then 1 else 0) := by
  unfold f_X8_isDouble
  rw [nI_hi h, i_10, nI_div h (by omega), ie_eq (by omega) (by omega)]
  split <;> rfl
theorem x_handOf {n0 : Nat} {h0 : Nat → Int32} (hn : 119 ≤ n0) (hn2 : n0 < 2 ^ 31) (p : Int32) : f_X8_handOf n0 h0 p = some (nI (hcN (fun c => h0 (19 + c)) p)) := by
  unfold f_X8_handOf hcN
  rw [← sI_cn]
  refine lp_sumF (N := 100) (by omega) (fun rec a => ?_) (fun rec a k hk => ?_)
  · unfold f_X8_handOf_B4
    rw [i_100, if_pos (Int32.le_refl _)]
  · unfold f_X8_handOf_B4
    rw [i_100, ie_le (by omega) (by omega), if_neg (by omega), i_19, nI_add, inb_t (by omega) hn2, gd_T, nI_clamp (by omega)]
    simp only [decide_eq_true_eq]
    split <;> rw [nI_1]
theorem x_hand (p : Int32) : f_X8_hand x p = some (nI (hcN (fun c => dd x (19 + c)) p)) := by
  unfold f_X8_hand
  rw [x_handOf (by omega) (by omega), bd1_S]
theorem x_isInHand (p : Int32) {c : Nat} (hc : c < 100) : f_X8_isInHand x p (nI c) = some (if dd x (19 + c) = p then 1 else 0) := by
  unfold f_X8_isInHand
  rw [i_19, nI_add, inb_t (by omega) (by omega), gd_T, nI_clamp (by omega)]
  split <;> rfl
theorem x_pips (p : Int32) : f_X8_pips x p = some (hpI (fun c => dd x (19 + c)) p) := by
  unfold f_X8_pips hpI
  refine lp_sumF (N := 100) (by omega) (fun rec a => ?_) (fun rec a k hk => ?_)
  · unfold f_X8_pips_B4
    rw [i_100, if_pos (Int32.le_refl _)]
  · unfold f_X8_pips_B4
    rw [i_100, ie_le (by omega) (by omega), if_neg (by omega), x_isInHand p hk, bd1_S]
    by_cases h : dd x (19 + k) = p
    · rw [if_pos h, if_neg (by decide), x_pipsOf (by omega), bd1_S, if_pos h, nI_1]
    · rw [if_neg h, if_pos rfl, if_neg h, nI_1]
theorem x_ofTrain {t w : Nat} (ht : t ≤ 4) (hw : w < 58) : f_X8_ofTrain x (nI t) (nI w) = some (dd x (174 + 58 * t + w)) := by
  unfold f_X8_ofTrain f_X8_trainAt
  rw [bd1_S, i_174, i_58, nI_mul, nI_add, nI_add, inb_t (by omega) (by omega), gd_T, nI_clamp (by omega)]
theorem x_fits {c y : Nat} (hc : c < 2 ^ 31) (hy : y < 2 ^ 31) : f_X8_fits (nI c) (nI y) = some (if c / 10 = y ∨ c % 10 = y then 1 else 0) := by
  unfold f_X8_fits
  rw [nI_hi hc, i_10, nI_div hc (by omega), ie_eq (by omega) hy, ie_eq (by omega) hy]
  by_cases h1 : c / 10 = y
  · rw [if_pos h1, if_pos (Or.inl h1)]
  · rw [if_neg h1]
    by_cases h2 : c % 10 = y
    · rw [if_pos h2, if_pos (Or.inr h2)]
    · rw [if_neg h2, if_neg (by simp [h1, h2])]
/-- the ends and the openness that a row tells -/
abbrev dE (d : Nat → Int32) : Nat → Int32 := fun t => d (174 + 58 * t + 1)
abbrev dO (d : Nat → Int32) : Nat → Int32 := fun t => d (174 + 58 * t + 2)
def xE (np : Nat) (d : Nat → Int32) : Prop := (∀ t, t ≤ np → ∃ y, y ≤ 9 ∧ dE d t = nI y) ∧ (∀ t, t ≤ np → dO d t = 0 ∨ dO d t = 1) ∧ dO d np = 1 ∧ (d 8 = 0 ∨ d 8 = 1)
abbrev xob (np : Nat) (d : Nat → Int32) (c t : Nat) : Int32 := obs (d 8) (d 4) (d 6) np (fun c => d (19 + c)) (dE d) (dO d) c t
theorem x_refusal (hn4 : np ≤ 4) (hE : xE np (dd x)) {c t : Nat} (hc : c < 100) (ht : t ≤ np) : f_X8_refusal x (nI c) (nI t) = some (xob np (dd x) c t) := by
  obtain ⟨⟨y, hy, hE1⟩, hO, hOn, hov⟩ := And.intro (hE.1 t ht) hE.2
  have e3 : f_X8_refusal_J85 x (nI c) (nI t) = some (fit (dE (dd x)) c t) := by
    unfold f_X8_refusal_J85 fit
    rw [i_1, x_ofTrain (by omega) (by omega), bd1_S, hE1, show dd x (174 + 58 * t + 1) = nI y from hE1, x_fits (by omega) (by omega), bd1_S]
    simp only [eq_nI (show c / 10 < 2 ^ 31 by omega) (show y < 2 ^ 31 by omega), eq_nI (show c % 10 < 2 ^ 31 by omega) (show y < 2 ^ 31 by omega)]
    by_cases h : c / 10 = y ∨ c % 10 = y
    · rw [if_pos h, if_neg (by decide), if_pos h]
    · rw [if_neg h, if_pos rfl, if_neg h]
  unfold f_X8_refusal f_X8_refusal_J53 xob obs
  simp only [i_8, i_6, i_4, i_2, inb_t (show 8 < 1464 by omega) (show 1464 < 2 ^ 31 by omega), inb_t (show 6 < 1464 by omega) (show 1464 < 2 ^ 31 by omega), inb_t (show 4 < 1464 by omega) (show 1464 < 2 ^ 31 by omega), gd_T, nI_clamp (show 8 < 2 ^ 31 by omega), nI_clamp (show 6 < 2 ^ 31 by omega), nI_clamp (show 4 < 2 ^ 31 by omega)]
  rw [x_isInHand _ hc, bd1_S, x_ofTrain (by omega) (by omega), bd1_S, e3]
  show (if dd x 8 = 1 then _ else _) = _
  rcases hov with h1 | h1
  · rw [h1, if_neg (by decide), if_pos rfl]
    by_cases h2 : dd x (19 + c) = dd x 4
    · rw [if_pos h2, if_neg (by decide), if_pos h2]
      by_cases h3 : dd x 6 = -1
      · rw [if_pos h3, if_pos h3, if_pos h3]
        by_cases h4 : nI t = dd x 4
        · rw [if_pos h4, if_pos (Or.inl h4)]
        · rw [if_neg h4]
          rcases hO t ht with h5 | h5
          · rw [show dd x (174 + 58 * t + 2) = 0 from h5, if_pos rfl, if_neg]
            rintro (h6 | h6 | h6)
            · exact h4 h6
            · rw [h6, hOn] at h5; exact absurd h5 (by decide)
            · rw [h5] at h6; exact absurd h6 (by decide)
          · rw [show dd x (174 + 58 * t + 2) = 1 from h5, if_neg (by decide), if_pos (Or.inr (Or.inr h5))]
      · rw [if_neg h3, if_neg h3, if_neg h3]
        by_cases h4 : dd x 6 = nI t
        · rw [if_pos h4, if_pos h4]
        · rw [if_neg h4, if_neg h4]
    · rw [if_neg h2, if_pos rfl, if_neg h2]
  · rw [h1, if_pos rfl, if_neg (by decide)]
theorem sI_snoc {e : Nat → Int32} : ∀ n k, sI e k (n + 1) = sI e k n + e (k + n)
  | 0, k => by
    show e k + 0 = 0 + e k
    rw [i_addz, i_zadd]
  | n + 1, k => by
    show e k + sI e (k + 1) (n + 1) = e k + sI e (k + 1) n + e (k + (n + 1))
    rw [sI_snoc n (k + 1), Int32.add_assoc, show k + 1 + n = k + (n + 1) by omega]
theorem x_plays (hn : dd x 1 = nI np) (hn4 : np ≤ 4) (hE : xE np (dd x)) : f_X8_plays x = some (plN (dd x 8) (dd x 4) (dd x 6) np (fun c => dd x (19 + c)) (dE (dd x)) (dO (dd x))) := by
  unfold f_X8_plays plN
  refine lp_sumF (N := 100) (by omega) (fun rec a => ?_) (fun rec a k hk => ?_)
  · unfold f_X8_plays_B4
    rw [i_100, if_pos (Int32.le_refl _)]
  · unfold f_X8_plays_B4
    rw [i_100, ie_le (by omega) (by omega), if_neg (by omega)]
    refine (lp_sumC (N := np + 1) (e := fun t => if xob np (dd x) k t = 0 then 1 else 0) (fun a => rec a (nI k + 1)) (by omega) (fun rec2 a => ?_) (fun rec2 a t ht => ?_) a).trans ?_
    · unfold f_X8_plays_B12
      rw [gl_1, cl_1, show x.1.2 1 1 = nI np from hn, ie_lt (by omega) (by omega), if_pos (by omega)]
    · unfold f_X8_plays_B12
      rw [gl_1, cl_1, show x.1.2 1 1 = nI np from hn, ie_lt (by omega) (by omega), if_neg (by omega), x_refusal hn4 hE hk (by omega), bd1_S]
      split <;> rw [nI_1]
    · rw [nI_1]
      rfl
end D
