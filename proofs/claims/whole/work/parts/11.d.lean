/-! the reference reads the text -/
/-- what the reading of a token leaves alone -/
def LF (x x' : MS) : Prop := (∀ k, ¬ k = 3 → ¬ k = 4 → ¬ k = 5 → ¬ k = 8 → x'.1.1 k = x.1.1 k) ∧ x'.1.2 = x.1.2 ∧ x'.2 = x.2
theorem LF.rf {x : MS} : LF x x := ⟨fun _ _ _ _ _ => rfl, rfl, rfl⟩
theorem LF.tr {x y z : MS} (h : LF x y) (k : LF y z) : LF x z := ⟨fun i a b c d => (k.1 i a b c d).trans (h.1 i a b c d), k.2.1.trans h.2.1, k.2.2.trans h.2.2⟩
def bt (b : Nat → Int32) (N k : Nat) : Int32 := if k < N then b k else -1
def MT (x : MS) (b : Nat → Int32) (N q : Nat) : Prop := x.1.1 2 = nI N ∧ x.1.2 0 = b ∧ x.1.1 3 = nI q ∧ q ≤ N
theorem LF.mt {x x' : MS} {b : Nat → Int32} {N q q' : Nat} (h : LF x x') (m : MT x b N q) (h3 : x'.1.1 3 = nI q') (hq : q' ≤ N) : MT x' b N q' := ⟨(h.1 2 (by omega) (by omega) (by omega) (by omega)).trans m.1, by rw [h.2.1]; exact m.2.1, h3, hq⟩
section T
variable {x : MS} {b : Nat → Int32} {N q : Nat}
theorem x_byteAt {k : Nat} (h1 : x.1.1 2 = nI N) (h2 : x.1.2 0 = b) (hN : N ≤ 500) (hk : k < 2 ^ 30) : f_X8_byteAt x (nI k) = some (bt b N k) := by
  unfold f_X8_byteAt bt
  rw [h1, ie_le (by omega) (by omega)]
  by_cases h : N ≤ k
  · rw [if_pos h, if_neg (by omega)]
  · rw [if_neg h, if_pos (by omega), inb_t (by omega) (by omega), gd_T, nI_clamp (by omega), h2]
theorem x_ahead (h : MT x b N q) (hN : N ≤ 500) : ∃ x', f_X8_ahead x = some (bt b N (sp b N q), x') ∧ x'.1.1 3 = nI (sp b N q) ∧ (∀ k, ¬ k = 3 → x'.1.1 k = x.1.1 k) ∧ x'.1.2 = x.1.2 ∧ x'.2 = x.2 := by
  obtain ⟨h1, h2, h3, hq⟩ := h
  unfold f_X8_ahead
  refine lr1 (B := f_X8_ahead_B0) (fun (o : Option (Int32 × MS)) => ∃ x', o = some (bt b N (sp b N q), x') ∧ x'.1.1 3 = nI (sp b N q) ∧ (∀ k, ¬ k = 3 → x'.1.1 k = x.1.1 k) ∧ x'.1.2 = x.1.2 ∧ x'.2 = x.2) (fun (m : Nat) (y : MS) => ∃ j, q ≤ j ∧ j + m = N ∧ y.1.1 3 = nI j ∧ (∀ k, ¬ k = 3 → y.1.1 k = x.1.1 k) ∧ y.1.2 = x.1.2 ∧ y.2 = x.2 ∧ ∀ k, q ≤ k → k < j → isSp (b k) = true) ?_ FUEL (N - q) x (FUEL_lt (by omega)) ⟨q, Nat.le_refl _, by omega, h3, fun _ _ => rfl, rfl, rfl, fun k a1 a2 => by omega⟩
  rintro rec m y ⟨j, hj, hm, e3, er, e2, es, hall⟩ ih
  unfold f_X8_ahead_B0
  have eb : f_X8_byteAt y (y.1.1 3) = some (bt b N j) := by
    rw [e3]; exact x_byteAt ((er 2 (by omega)).trans h1) (by rw [e2]; exact h2) hN (by omega)
  rw [eb, bd1_S, bd1_S]
  by_cases hjN : j < N
  · rw [show bt b N j = b j from if_pos hjN]
    by_cases hc : b j = 32
    · rw [if_pos hc, e3, nI_1]
      refine ih (m - 1) _ (by omega) ⟨j + 1, by omega, by omega, rfl, fun k hk => (upd_n hk).trans (er k hk), e2, es, fun k a1 a2 => ?_⟩
      by_cases hk : k = j
      · rw [hk]; exact decide_eq_true hc
      · exact hall k a1 (by omega)
    · have hen : sp b N q = j := en_eq hj (by omega) hall (Or.inr (decide_eq_false hc))
      rw [if_neg hc, hen]
      refine ⟨y, ?_, e3, er, e2, es⟩
      rw [show bt b N j = b j from if_pos hjN]
  · have hen : sp b N q = j := en_eq hj (by omega) hall (Or.inl (by omega))
    rw [show bt b N j = -1 from if_neg hjN, if_neg (show ¬ (-1 : Int32) = 32 by decide), hen]
    refine ⟨y, ?_, e3, er, e2, es⟩
    rw [show bt b N j = -1 from if_neg hjN]
theorem x_good (h : x.1.1 4 = 0) : f_X8_isGood x = some 1 := by unfold f_X8_isGood; rw [if_pos h]
theorem x_bad (h : ¬ x.1.1 4 = 0) : f_X8_isGood x = some 0 := by unfold f_X8_isGood; rw [if_neg h]
theorem x_report {c o : Int32} (h : x.1.1 4 = 0) : f_X8_report x c o = some ((ss (ss x.1 4 c) 5 o), x.2) := by unfold f_X8_report; rw [if_pos h]
theorem x_reportB {c o : Int32} (h : ¬ x.1.1 4 = 0) : f_X8_report x c o = some x := by unfold f_X8_report; rw [if_neg h]
theorem x_isDigit {v : Int32} : f_X8_isDigit v = some (if isDg v = true then 1 else 0) := by
  unfold f_X8_isDigit f_X8_in isDg
  by_cases h1 : v < 48
  · rw [if_pos h1, bd1_S, show isb 0 = true from rfl, gd_T, if_neg (by simp [h1])]
  · rw [if_neg h1]
    by_cases h2 : (57 : Int32) < v
    · rw [if_pos h2, bd1_S, show isb 0 = true from rfl, gd_T, if_neg (by simp [h2])]
    · rw [if_neg h2, bd1_S, show isb 1 = true from rfl, gd_T, if_pos (by simp [h1, h2])]
theorem x_inLt {v : Int32} : f_X8_in v 97 122 = some (if isLt v = true then 1 else 0) := by
  unfold f_X8_in isLt
  by_cases h1 : v < 97
  · rw [if_pos h1, if_neg (by simp [h1])]
  · rw [if_neg h1]
    by_cases h2 : (122 : Int32) < v
    · rw [if_pos h2, if_neg (by simp [h2])]
    · rw [if_neg h2, if_pos (by simp [h1, h2])]
theorem bt_dg {k : Nat} (hk : k ≤ N) : (isDg (bt b N k) = true) = (k < en isDg b N k) := by
  unfold bt
  by_cases h : k < N
  · rw [if_pos h]
    exact propext ⟨fun z => en_pos h z, fun z => en_all (Nat.le_refl _) z⟩
  · rw [if_neg h]
    refine propext ⟨fun z => absurd z (by decide), fun z => ?_⟩
    rw [show k = N by omega, en_N] at z
    omega
/-- a sign -/
theorem x_expect {c : Int32} (h : MT x b N q) (hN : N ≤ 500) (hg : x.1.1 4 = 0) (hc : ¬ c = -1) : ∃ x', f_X8_expect x c = some x' ∧ LF x x' ∧ ((sp b N q < N ∧ b (sp b N q) = c ∧ x'.1.1 3 = nI (sp b N q + 1) ∧ x'.1.1 4 = 0 ∧ x'.1.1 5 = x.1.1 5) ∨ (¬ (sp b N q < N ∧ b (sp b N q) = c) ∧ x'.1.1 4 = -2 ∧ x'.1.1 5 = nI (sp b N q))) := by
  obtain ⟨y, e1, e2, e3, e4, e5⟩ := x_ahead h hN
  have hs : sp b N q ≤ N := en_le h.2.2.2
  unfold f_X8_expect
  rw [x_good hg, bd1_S, if_neg (show ¬ (1 : Int32) = 0 by decide), e1, bd2_S]
  by_cases h1 : bt b N (sp b N q) = c
  · have hlt : sp b N q < N := by
      unfold bt at h1
      by_cases z : sp b N q < N
      · exact z
      · rw [if_neg z] at h1; exact absurd h1.symm hc
    rw [if_pos h1, e2, nI_1]
    refine ⟨_, rfl, ⟨fun k a _ _ _ => (upd_n a).trans (e3 k a), e4, e5⟩, Or.inl ⟨hlt, ?_, rfl, (e3 4 (by omega)).trans hg, e3 5 (by omega)⟩⟩
    rw [← h1]; exact (if_pos hlt).symm
  · rw [if_neg h1, x_report ((e3 4 (by omega)).trans hg), bd1_S, e2]
    refine ⟨_, rfl, ⟨fun k a1 a2 a3 _ => ?_, e4, e5⟩, Or.inr ⟨fun z => h1 ((if_pos z.1).trans z.2), rfl, rfl⟩⟩
    show upd (upd y.1.1 4 _) 5 _ k = _
    rw [upd_n a3, upd_n a2]; exact e3 k a1
theorem x_expectB {c : Int32} (hg : ¬ x.1.1 4 = 0) : f_X8_expect x c = some x := by
  unfold f_X8_expect
  rw [x_bad hg, bd1_S, if_pos rfl]

/-- a word -/
theorem x_takeWord {w : Nat} (h : MT x b N q) (hN : N ≤ 500) (hg : x.1.1 4 = 0) (hw : w < 10) : ∃ x', f_X8_takeWord x w = some (if WM b N (sp b N q) w then 1 else 0, x') ∧ x'.1.1 3 = nI (if WM b N (sp b N q) w then sp b N q + wl w else sp b N q) ∧ (∀ k, ¬ k = 3 → x'.1.1 k = x.1.1 k) ∧ x'.1.2 = x.1.2 ∧ x'.2 = x.2 := by
  obtain ⟨y, e1, e2, e3, e4, e5⟩ := x_ahead h hN
  have hs : sp b N q ≤ N := en_le h.2.2.2
  have hwl := wl_le w hw
  have y2 : y.1.1 2 = nI N := (e3 2 (by omega)).trans h.1
  have yb : y.1.2 0 = b := by rw [e4]; exact h.2.1
  unfold f_X8_takeWord
  rw [x_good hg, bd1_S, if_neg (show ¬ (1 : Int32) = 0 by decide), e1, bd2_S]
  refine lr1 (B := f_X8_takeWord_B16 w y) (fun (o : Option (Int32 × MS)) => ∃ x', o = some (if WM b N (sp b N q) w then 1 else 0, x') ∧ x'.1.1 3 = nI (if WM b N (sp b N q) w then sp b N q + wl w else sp b N q) ∧ (∀ k, ¬ k = 3 → x'.1.1 k = x.1.1 k) ∧ x'.1.2 = x.1.2 ∧ x'.2 = x.2) (fun (m : Nat) (v : Int32) => ∃ j, v = nI j ∧ j + m = wl w ∧ sp b N q + j ≤ N ∧ ∀ k, k < j → b (sp b N q + k) = wc w k) ?_ FUEL (wl w) 0 (FUEL_lt (by omega)) ⟨0, rfl, by omega, by omega, fun k hk => absurd hk (Nat.not_lt_zero _)⟩
  rintro rec m v ⟨j, rfl, hm, hjN, hall⟩ ih
  have no : ¬ WM b N (sp b N q) w → ∃ x', some ((0 : Int32), y) = some (if WM b N (sp b N q) w then 1 else 0, x') ∧ x'.1.1 3 = nI (if WM b N (sp b N q) w then sp b N q + wl w else sp b N q) ∧ (∀ k, ¬ k = 3 → x'.1.1 k = x.1.1 k) ∧ x'.1.2 = x.1.2 ∧ x'.2 = x.2 := fun z => by
    rw [if_neg z, if_neg z]
    exact ⟨y, rfl, e2, e3, e4, e5⟩
  unfold f_X8_takeWord_B16 f_X8_takeWord_J48
  rw [show decide (w < 10) = true from decide_eq_true hw, gd_T, gd_T, show slen w = nI (wl w) from rfl, ie_le (by omega) (by omega), ie_lt (by omega) (by omega), e2, nI_add, x_byteAt y2 yb hN (by omega), bd1_S, bd1_S, x_inLt, bd1_S]
  by_cases hj : wl w ≤ j
  · have : j = wl w := by omega
    subst this
    rw [if_pos hj, if_neg (by omega)]
    by_cases hl : isLt (bt b N (sp b N q + wl w)) = true
    · rw [if_pos hl, if_neg (show ¬ (1 : Int32) = 0 by decide)]
      refine no (fun z => ?_)
      rcases z.2.2 with z1 | z1
      · rw [show bt b N (sp b N q + wl w) = -1 from if_neg (by omega)] at hl
        exact absurd hl (by decide)
      · by_cases z2 : sp b N q + wl w < N
        · rw [show bt b N (sp b N q + wl w) = _ from if_pos z2, z1] at hl
          exact absurd hl (by decide)
        · rw [show bt b N (sp b N q + wl w) = -1 from if_neg z2] at hl
          exact absurd hl (by decide)
    · have hW : WM b N (sp b N q) w := by
        refine ⟨hjN, hall, ?_⟩
        by_cases z2 : sp b N q + wl w < N
        · rw [show bt b N (sp b N q + wl w) = _ from if_pos z2] at hl
          exact Or.inr (Bool.eq_false_iff.mpr hl)
        · exact Or.inl (by omega)
      rw [if_neg hl, if_pos rfl, if_pos hW, if_pos hW]
      exact ⟨_, rfl, rfl, fun k hk => (upd_n hk).trans (e3 k hk), e4, e5⟩
  · rw [if_neg hj, scg_t w hw j (by omega), gd_T]
    by_cases hc : bt b N (sp b N q + j) = wc w j
    · have hlt : sp b N q + j < N := by
        unfold bt at hc
        by_cases z : sp b N q + j < N
        · exact z
        · rw [if_neg z] at hc
          have := wc_lt w hw j (by omega)
          rw [← hc] at this
          exact absurd this (by decide)
      rw [if_pos (show bt b N (sp b N q + j) = schr w (nI j) from hc), nI_1]
      refine ih (m - 1) _ (by omega) ⟨j + 1, rfl, by omega, by omega, fun k hk => ?_⟩
      by_cases hkj : k = j
      · rw [hkj, ← hc]; exact (if_pos hlt).symm
      · exact hall k (by omega)
    · rw [if_neg (show ¬ bt b N (sp b N q + j) = schr w (nI j) from hc), if_pos (by omega)]
      refine no (fun z => hc ?_)
      have h1 := z.1
      rw [show bt b N (sp b N q + j) = _ from if_pos (show sp b N q + j < N by omega)]
      exact z.2.1 j (by omega)
theorem x_takeWordB {w : Nat} (hg : ¬ x.1.1 4 = 0) : f_X8_takeWord x w = some (0, x) := by
  unfold f_X8_takeWord
  rw [x_bad hg, bd1_S, if_pos rfl]
/-- a number -/
theorem x_number {lo hi : Nat} (h : MT x b N q) (hN : N ≤ 500) (hg : x.1.1 4 = 0) (hlo : lo < 2 ^ 30) (hhi : hi < 2 ^ 30) : ∃ r x', f_X8_number x (nI lo) (nI hi) = some (r, x') ∧ LF x x' ∧ x'.1.1 3 = nI (en isDg b N (sp b N q)) ∧
    ((sp b N q < en isDg b N (sp b N q) ∧ lo ≤ vF stM b (sp b N q) (en isDg b N (sp b N q) - sp b N q) ∧ vF stM b (sp b N q) (en isDg b N (sp b N q) - sp b N q) ≤ hi ∧ r = nI (vF stM b (sp b N q) (en isDg b N (sp b N q) - sp b N q)) ∧ x'.1.1 4 = 0 ∧ x'.1.1 5 = x.1.1 5 ∧ x'.1.1 8 = nI (sp b N q)) ∨
     (sp b N q < en isDg b N (sp b N q) ∧ ¬ (lo ≤ vF stM b (sp b N q) (en isDg b N (sp b N q) - sp b N q) ∧ vF stM b (sp b N q) (en isDg b N (sp b N q) - sp b N q) ≤ hi) ∧ r = 0 ∧ x'.1.1 4 = -3 ∧ x'.1.1 5 = nI (sp b N q)) ∨
     (¬ sp b N q < en isDg b N (sp b N q) ∧ r = 0 ∧ x'.1.1 4 = -2 ∧ x'.1.1 5 = nI (sp b N q))) := by
  obtain ⟨y, e1, e2, e3, e4, e5⟩ := x_ahead h hN
  have hs : sp b N q ≤ N := en_le h.2.2.2
  have hge : sp b N q ≤ en isDg b N (sp b N q) := en_ge
  have hle : en isDg b N (sp b N q) ≤ N := en_le hs
  have y2 : y.1.1 2 = nI N := (e3 2 (by omega)).trans h.1
  have yb : y.1.2 0 = b := by rw [e4]; exact h.2.1
  have y4 : y.1.1 4 = 0 := (e3 4 (by omega)).trans hg
  unfold f_X8_number
  rw [x_good hg, bd1_S, if_neg (show ¬ (1 : Int32) = 0 by decide), e1, bd2_S, x_isDigit, bd1_S]
  simp only [bt_dg hs]
  by_cases hd : sp b N q < en isDg b N (sp b N q)
  · rw [if_pos hd, if_neg (show ¬ (1 : Int32) = 0 by decide)]
    refine lr2 (B := f_X8_number_B41 (nI lo) (nI hi)) (fun (o : Option (Int32 × MS)) => ∃ r x', o = some (r, x') ∧ LF x x' ∧ x'.1.1 3 = nI (en isDg b N (sp b N q)) ∧
    ((sp b N q < en isDg b N (sp b N q) ∧ lo ≤ vF stM b (sp b N q) (en isDg b N (sp b N q) - sp b N q) ∧ vF stM b (sp b N q) (en isDg b N (sp b N q) - sp b N q) ≤ hi ∧ r = nI (vF stM b (sp b N q) (en isDg b N (sp b N q) - sp b N q)) ∧ x'.1.1 4 = 0 ∧ x'.1.1 5 = x.1.1 5 ∧ x'.1.1 8 = nI (sp b N q)) ∨
     (sp b N q < en isDg b N (sp b N q) ∧ ¬ (lo ≤ vF stM b (sp b N q) (en isDg b N (sp b N q) - sp b N q) ∧ vF stM b (sp b N q) (en isDg b N (sp b N q) - sp b N q) ≤ hi) ∧ r = 0 ∧ x'.1.1 4 = -3 ∧ x'.1.1 5 = nI (sp b N q)) ∨
     (¬ sp b N q < en isDg b N (sp b N q) ∧ r = 0 ∧ x'.1.1 4 = -2 ∧ x'.1.1 5 = nI (sp b N q)))) (fun (m : Nat) (v : Int32) (a : MS) => ∃ j, v = nI (vF stM b (sp b N q) (j - sp b N q)) ∧ sp b N q ≤ j ∧ j + m = N ∧ a.1.1 3 = nI j ∧ (∀ k, ¬ k = 3 → ¬ k = 8 → a.1.1 k = x.1.1 k) ∧ a.1.1 8 = nI (sp b N q) ∧ a.1.2 = x.1.2 ∧ a.2 = x.2 ∧ ∀ k, sp b N q ≤ k → k < j → isDg (b k) = true) ?_ FUEL (N - sp b N q) _ _ (FUEL_lt (by omega)) ⟨sp b N q, by rw [Nat.sub_self]; rfl, Nat.le_refl _, by omega, ?_, fun k a1 a2 => (upd_n a2).trans (e3 k a1), ?_, e4, e5, fun k a1 a2 => by omega⟩
    · rintro rec m v a ⟨j, rfl, hj, hm, a3, ar, a8, a2, as, hall⟩ ih
      have hv := vF_both b (sp b N q) (j - sp b N q) (fun k a1 a2 => hall k a1 (by omega))
      have ab : f_X8_byteAt a (a.1.1 3) = some (bt b N j) := by
        rw [a3]; exact x_byteAt ((ar 2 (by omega) (by omega)).trans h.1) (by rw [a2]; exact h.2.1) hN (by omega)
      have a4 : a.1.1 4 = 0 := (ar 4 (by omega) (by omega)).trans hg
      unfold f_X8_number_B41 f_X8_number_J109
      rw [ab, bd1_S, bd1_S, x_isDigit, bd1_S]
      by_cases hdj : isDg (bt b N j) = true
      · have hjN : j < N := by
          unfold bt at hdj
          by_cases z : j < N
          · exact z
          · rw [if_neg z] at hdj; exact absurd hdj (by decide)
        rw [show bt b N j = b j from if_pos hjN] at hdj ⊢
        obtain ⟨d, hd10, hbj⟩ := dg_of hdj
        have hstp : vF stM b (sp b N q) (j + 1 - sp b N q) = min 100000000 (10 * vF stM b (sp b N q) (j - sp b N q) + d) := by
          rw [show j + 1 - sp b N q = (j - sp b N q) + 1 by omega]
          show stM _ _ = _
          unfold stM
          rw [show sp b N q + (j - sp b N q) = j by omega, hbj, nI_clamp (by omega), show 48 + d - 48 = d by omega]
        have hmin : f_X8_min 100000000 (10 * nI (vF stM b (sp b N q) (j - sp b N q)) + b j - 48) = some (nI (vF stM b (sp b N q) (j + 1 - sp b N q))) := by
          unfold f_X8_min
          rw [hbj, i_10, nI_mul, nI_add, show (48 : Int32) = nI 48 from rfl, nI_sub (by omega), show 10 * vF stM b (sp b N q) (j - sp b N q) + (48 + d) - 48 = 10 * vF stM b (sp b N q) (j - sp b N q) + d by omega, hstp, show (100000000 : Int32) = nI 100000000 from rfl]
          first
            | rw [ie_lt (by omega) (by omega)]
              split
              · rw [show min 100000000 (10 * vF stM b (sp b N q) (j - sp b N q) + d) = 100000000 by omega]
              · rw [show min 100000000 (10 * vF stM b (sp b N q) (j - sp b N q) + d) = 10 * vF stM b (sp b N q) (j - sp b N q) + d by omega]
            | rw [ie_le (by omega) (by omega)]
              split
              · rw [show min 100000000 (10 * vF stM b (sp b N q) (j - sp b N q) + d) = 10 * vF stM b (sp b N q) (j - sp b N q) + d by omega]
              · rw [show min 100000000 (10 * vF stM b (sp b N q) (j - sp b N q) + d) = 100000000 by omega]
        rw [if_pos hdj, if_neg (show ¬ (1 : Int32) = 0 by decide), hmin, bd1_S, a3, nI_1]
        refine ih (m - 1) _ _ (by omega) ⟨j + 1, rfl, by omega, by omega, rfl, fun k b1 b2 => (upd_n b1).trans (ar k b1 b2), a8, a2, as, fun k b1 b2 => ?_⟩
        by_cases hk : k = j
        · rw [hk]; exact hdj
        · exact hall k b1 (by omega)
      · have hen : en isDg b N (sp b N q) = j := by
          refine en_eq hj (by omega) hall ?_
          unfold bt at hdj
          by_cases z : j < N
          · rw [if_pos z] at hdj; exact Or.inr (Bool.eq_false_iff.mpr hdj)
          · exact Or.inl (by omega)
        rw [if_neg hdj, if_pos rfl, x_in (by omega) (by omega) (by omega), bd1_S, hen]
        by_cases hr : lo ≤ vF stM b (sp b N q) (j - sp b N q) ∧ vF stM b (sp b N q) (j - sp b N q) ≤ hi
        · rw [if_pos hr, if_neg (show ¬ (1 : Int32) = 0 by decide), x_good a4, bd1_S, if_neg (show ¬ (1 : Int32) = 0 by decide)]
          exact ⟨_, a, rfl, ⟨fun k b1 _ _ b4 => ar k b1 b4, a2, as⟩, a3, Or.inl ⟨by omega, hr.1, hr.2, rfl, a4, ar 5 (by omega) (by omega), a8⟩⟩
        · rw [if_neg hr, if_pos rfl, x_report a4, bd1_S, x_bad (x := ((ss (ss a.1 4 (-3)) 5 (a.1.1 8)), a.2)) (show ¬ (-3 : Int32) = 0 by decide), bd1_S, if_pos rfl]
          refine ⟨_, _, rfl, ⟨fun k b1 b2 b3 b4 => ?_, a2, as⟩, a3, Or.inr (Or.inl ⟨by omega, hr, rfl, rfl, a8⟩)⟩
          show upd (upd a.1.1 4 _) 5 _ k = _
          rw [upd_n b3, upd_n b2]; exact ar k b1 b4
    · exact e2
    · show upd y.1.1 8 (y.1.1 3) 8 = _
      rw [upd_s]; exact e2
  · rw [if_neg hd, if_pos rfl, x_report y4, bd1_S, e2]
    refine ⟨_, _, rfl, ⟨fun k a1 a2 a3 _ => ?_, e4, e5⟩, ?_, Or.inr (Or.inr ⟨hd, rfl, rfl, rfl⟩)⟩
    · show upd (upd y.1.1 4 _) 5 _ k = _
      rw [upd_n a3, upd_n a2]; exact e3 k a1
    · show y.1.1 3 = _
      rw [e2, show en isDg b N (sp b N q) = sp b N q by omega]
theorem x_numberB {lo hi : Int32} (hg : ¬ x.1.1 4 = 0) : f_X8_number x lo hi = some (0, x) := by
  unfold f_X8_number
  rw [x_bad hg, bd1_S, if_pos rfl]
end T
/-! both sides at one token -/
/-- the same place of the same text -/
def LX (tk : SA) (x : MS) (b : Nat → Int32) (N p : Nat) : Prop := CT tk b N p ∧ p ≤ N ∧ ∃ q, MT x b N q ∧ sp b N q = sp b N p
/-- the first error told by both sides -/
def ER (rd : RS) (x : MS) : Prop := ∃ code off : Int32, ¬ code = 0 ∧ rd.1.1 6 = code ∧ rd.1.1 7 = off ∧ x.1.1 4 = code ∧ x.1.1 5 = off
theorem ER.bad {rd : RS} {x : MS} (h : ER rd x) : ¬ x.1.1 4 = 0 := by
  obtain ⟨c, o, h0, h1, h2, h3, h4⟩ := h
  rw [h3]; exact h0
/-- what the class's reading of a token leaves alone -/
def CF (rd rd' : RS) : Prop := (∀ k, ¬ k = 0 → ¬ k = 6 → ¬ k = 7 → rd'.1.1 k = rd.1.1 k) ∧ rd'.1.2 = rd.1.2 ∧ rd'.2.1.2 = rd.2.1.2 ∧ rd'.2.1.1 0 = rd.2.1.1 0 ∧ rd'.2.2 = rd.2.2
theorem CF.rf {rd : RS} : CF rd rd := ⟨fun _ _ _ _ => rfl, rfl, rfl, rfl, rfl⟩
theorem CF.tr {x y z : RS} (h : CF x y) (k : CF y z) : CF x z := ⟨fun i a b c => (k.1 i a b c).trans (h.1 i a b c), k.2.1.trans h.2.1, k.2.2.1.trans h.2.2.1, k.2.2.2.1.trans h.2.2.2.1, k.2.2.2.2.trans h.2.2.2.2⟩
/-- no error yet -/
def OK (rd : RS) (x : MS) : Prop := rd.1.1 6 = 0 ∧ rd.1.1 7 = -1 ∧ x.1.1 4 = 0 ∧ x.1.1 5 = -1
section P
variable {rd : RS} {x : MS} {b : Nat → Int32} {N p : Nat}
theorem fail_e {c o : Int32} : f_X3_fail rd c o = some (0, ((ss (ss rd.1 6 c) 7 o), rd.2.1, rd.2.2)) := rfl
theorem fail_f {c o : Int32} : CF rd ((ss (ss rd.1 6 c) 7 o), rd.2.1, rd.2.2) := ⟨fun k _ a2 a3 => by show upd (upd rd.1.1 6 c) 7 o k = _; rw [upd_n a3, upd_n a2], rfl, rfl, rfl, rfl⟩
theorem p_num {lo hi : Nat} (h : LX rd.2.1 x b N p) (ok : OK rd x) (hN : N ≤ 500) (hlo : lo ≤ 9999) (hhi : hi ≤ 9999) : ∃ r r2 rd' x', f_X3_takeNumber rd (nI lo) (nI hi) = some (r, rd') ∧ f_X8_number x (nI lo) (nI hi) = some (r2, x') ∧ CF rd rd' ∧ LF x x' ∧
    ((∃ v p', r = 1 ∧ r2 = nI v ∧ lo ≤ v ∧ v ≤ hi ∧ rd'.1.1 0 = nI v ∧ x'.1.1 8 = nI (sp b N p) ∧ LX rd'.2.1 x' b N p' ∧ OK rd' x' ∧ p < p') ∨ (r = 0 ∧ ER rd' x')) := by
  obtain ⟨hC, hp, q, hM, hq⟩ := h
  obtain ⟨k6, k7, k4, k5⟩ := ok
  have hs : sp b N p ≤ N := en_le hp
  have hps : p ≤ sp b N p := en_ge
  have hle : en isDg b N (sp b N p) ≤ N := en_le hs
  obtain ⟨r2, x', m1, m2, m3, m4⟩ := x_number (lo := lo) (hi := hi) hM hN k4 (by omega) (by omega)
  rw [hq] at m3 m4
  unfold f_X3_takeNumber f_X3_takeNumber_J51
  rw [e_isNumber hC, bd1_S]
  by_cases hd : sp b N p < en isDg b N (sp b N p)
  · have hv := vF_both b (sp b N p) (en isDg b N (sp b N p) - sp b N p) (fun k a1 a2 => en_all (P := isDg) (b := b) (N := N) a1 (by omega))
    obtain ⟨hr1, hr2⟩ := vF_inR b (sp b N p) (en isDg b N (sp b N p) - sp b N p) (fun k a1 a2 => en_all (P := isDg) (b := b) (N := N) a1 (by omega)) (lo := lo) (hi := hi) hhi
    have h5 := hC.2.2.2.2.2 hd
    rw [if_pos hd, if_neg (show ¬ (1 : Int32) = 0 by decide), h5, ie_lt (by omega) (by omega), ie_le (by omega) (by omega)]
    have bad : ¬ (lo ≤ vF stC b (sp b N p) (en isDg b N (sp b N p) - sp b N p) ∧ vF stC b (sp b N p) (en isDg b N (sp b N p) - sp b N p) ≤ hi) → ∃ r r2' rd' x'', (bd2 (f_X3_fail ((ss rd.1 0 (nI (vF stC b (sp b N p) (en isDg b N (sp b N p) - sp b N p)))), rd.2.1, rd.2.2) (-3) (rd.2.1.1 3)) fun (r61 : Int32) (rd61 : RS) => gd (isb r61) <| some (r61, rd61)) = some (r, rd') ∧ f_X8_number x (nI lo) (nI hi) = some (r2', x'') ∧ CF rd rd' ∧ LF x x'' ∧
    ((∃ v p', r = 1 ∧ r2' = nI v ∧ lo ≤ v ∧ v ≤ hi ∧ rd'.1.1 0 = nI v ∧ x''.1.1 8 = nI (sp b N p) ∧ LX rd'.2.1 x'' b N p' ∧ OK rd' x'' ∧ p < p') ∨ (r = 0 ∧ ER rd' x'')) := fun z => by
      rw [fail_e, bd2_S, show isb 0 = true from rfl, gd_T]
      refine ⟨0, r2, _, x', rfl, m1, ⟨fun k a1 a2 a3 => ?_, rfl, rfl, rfl, rfl⟩, m2, Or.inr ⟨rfl, ?_⟩⟩
      · show upd (upd (upd rd.1.1 0 _) 6 _) 7 _ k = _
        rw [upd_n a3, upd_n a2, upd_n a1]
      · rcases m4 with c | c | c
        · exact absurd (hr1.mpr ⟨c.2.1, c.2.2.1⟩) z
        · exact ⟨-3, nI (sp b N p), by decide, rfl, hC.2.2.1, c.2.2.2.1, c.2.2.2.2⟩
        · exact absurd hd c.1
    by_cases h1 : vF stC b (sp b N p) (en isDg b N (sp b N p) - sp b N p) < lo
    · rw [if_pos h1]
      exact bad (fun z => by omega)
    · rw [if_neg h1]
      by_cases h2 : vF stC b (sp b N p) (en isDg b N (sp b N p) - sp b N p) ≤ hi
      · have hin := hr1.mp ⟨by omega, h2⟩
        have heq := hr2 hin.2
        obtain ⟨tk', t1, t2, t3, t4⟩ := e_advance (tk := rd.2.1) hC.2.1 hC.1 hC.2.2.2.2.1 (ed_le hs) hN
        have hed : ed b N (sp b N p) = en isDg b N (sp b N p) := by unfold ed; rw [if_pos hd]
        rw [hed] at t2
        rw [if_pos h2, t1, bd1_S]
        refine ⟨1, r2, _, x', rfl, m1, ⟨fun k a1 a2 a3 => upd_n a1, rfl, t3, t4, rfl⟩, m2, Or.inl ⟨vF stM b (sp b N p) (en isDg b N (sp b N p) - sp b N p), en isDg b N (sp b N p), rfl, ?_⟩⟩
        rcases m4 with c | c | c
        · refine ⟨c.2.2.2.1, hin.1, hin.2, ?_, c.2.2.2.2.2.2, ⟨t2, hle, en isDg b N (sp b N p), m2.mt hM m3 hle, rfl⟩, ⟨k6, k7, c.2.2.2.2.1, c.2.2.2.2.2.1.trans k5⟩, by omega⟩
          show nI (vF stC b (sp b N p) (en isDg b N (sp b N p) - sp b N p)) = _
          rw [heq]
        · exact absurd hin c.2.1
        · exact absurd hd c.1
      · rw [if_neg h2]
        exact bad (fun z => h2 z.2)
  · rw [if_neg hd, if_pos rfl, fail_e, bd2_S, show isb 0 = true from rfl, gd_T]
    refine ⟨0, r2, _, x', rfl, m1, fail_f, m2, Or.inr ⟨rfl, ?_⟩⟩
    rcases m4 with c | c | c
    · exact absurd c.1 hd
    · exact absurd c.1 hd
    · exact ⟨-2, nI (sp b N p), by decide, rfl, hC.2.2.1, c.2.2.1, c.2.2.2⟩
theorem LX_ed (h : LX rd.2.1 x b N p) (hN : N ≤ 500) : ∃ tk', f_X5_advance rd.2.1 = some tk' ∧ CT tk' b N (ed b N (sp b N p)) ∧ tk'.2 = rd.2.1.2 ∧ tk'.1 0 = rd.2.1.1 0 := e_advance h.1.2.1 h.1.1 h.1.2.2.2.2.1 (ed_le (en_le h.2.1)) hN
theorem p_sign {c : Int32} (h : LX rd.2.1 x b N p) (ok : OK rd x) (hN : N ≤ 500) (hc1 : isDg c = false) (hc2 : isLt c = false) (hc : ¬ c = -1) : ∃ r rd' x', f_X3_takeSign rd c = some (r, rd') ∧ f_X8_expect x c = some x' ∧ CF rd rd' ∧ LF x x' ∧
    ((r = 1 ∧ ∃ p', LX rd'.2.1 x' b N p' ∧ OK rd' x' ∧ p < p') ∨ (r = 0 ∧ ER rd' x')) := by
  obtain ⟨hC, hp, q, hM, hq⟩ := h
  have hL : LX rd.2.1 x b N p := ⟨hC, hp, q, hM, hq⟩
  obtain ⟨k6, k7, k4, k5⟩ := ok
  have hs : sp b N p ≤ N := en_le hp
  have hps : p ≤ sp b N p := en_ge
  obtain ⟨x', m1, m2, m3⟩ := x_expect (c := c) hM hN k4 hc
  rw [hq] at m3
  unfold f_X3_takeSign
  rw [e_isSign hC hp hN hc1 hc2, bd1_S]
  by_cases hd : sp b N p < N ∧ b (sp b N p) = c
  · have n1 : ¬ sp b N p < en isDg b N (sp b N p) := fun z => by
      have := en_all (P := isDg) (b := b) (N := N) (Nat.le_refl (sp b N p)) z
      rw [hd.2, hc1] at this; exact absurd this (by decide)
    have n2 : ¬ sp b N p < en isLt b N (sp b N p) := fun z => by
      have := en_all (P := isLt) (b := b) (N := N) (Nat.le_refl (sp b N p)) z
      rw [hd.2, hc2] at this; exact absurd this (by decide)
    have hed : ed b N (sp b N p) = sp b N p + 1 := by unfold ed; rw [if_neg n1, if_neg n2, if_pos hd.1]
    obtain ⟨tk', t1, t2, t3, t4⟩ := LX_ed hL hN
    rw [hed] at t2
    rw [if_pos hd, if_neg (show ¬ (1 : Int32) = 0 by decide), t1, bd1_S]
    rcases m3 with m | m
    · exact ⟨1, _, x', rfl, m1, ⟨fun _ _ _ _ => rfl, rfl, t3, t4, rfl⟩, m2, Or.inl ⟨rfl, sp b N p + 1, ⟨t2, by omega, sp b N p + 1, m2.mt hM m.2.2.1 (by omega), rfl⟩, ⟨k6, k7, m.2.2.2.1, m.2.2.2.2.trans k5⟩, by omega⟩⟩
    · exact absurd hd m.1
  · rw [if_neg hd, if_pos rfl, fail_e, bd2_S, show isb 0 = true from rfl, gd_T]
    rcases m3 with m | m
    · exact absurd ⟨m.1, m.2.1⟩ hd
    · exact ⟨0, _, x', rfl, m1, fail_f, m2, Or.inr ⟨rfl, -2, nI (sp b N p), by decide, rfl, hC.2.2.1, m.2.1, m.2.2⟩⟩
end P
