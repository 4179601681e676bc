/-! tokens of a known text -/
def TA (b : Nat → Int32) (N p : Nat) (r : List Nat) : Prop := p + r.length = N ∧ ∀ i, i < r.length → b (p + i) = nI (r.getD i 0)
def nlR (r : List Nat) : Prop := r = [] ∨ isLt (nI (r.getD 0 0)) = false
def ndR (r : List Nat) : Prop := r = [] ∨ isDg (nI (r.getD 0 0)) = false
section TX
variable {b : Nat → Int32} {N p n w : Nat} {l r : List Nat} {tk : SA} {rd : RS}
theorem TA.le (h : TA b N p r) : p ≤ N := by have := h.1; omega
theorem TA.drop (h : TA b N p (l ++ r)) : TA b N (p + l.length) r := by
  obtain ⟨h1, h2⟩ := h
  rw [List.length_append] at h1
  refine ⟨by omega, fun i hi => ?_⟩
  have := h2 (l.length + i) (by rw [List.length_append]; omega)
  rw [Nat.add_assoc, this, List.getD_eq_getElem?_getD, List.getElem?_append_right (by omega), ← List.getD_eq_getElem?_getD, show l.length + i - l.length = i by omega]
theorem TA.at (h : TA b N p (l ++ r)) {i : Nat} (hi : i < l.length) : b (p + i) = nI (l.getD i 0) := by
  have := h.2 i (by rw [List.length_append]; omega)
  rw [this, List.getD_eq_getElem?_getD, List.getElem?_append_left hi, ← List.getD_eq_getElem?_getD]
theorem TA.hd {x : Nat} (h : TA b N p (x :: r)) : b p = nI x ∧ p < N := by
  have := h.1
  rw [List.length_cons] at this
  exact ⟨h.2 0 (Nat.zero_lt_succ _), by omega⟩
theorem TA.tl {x : Nat} (h : TA b N p (x :: r)) : TA b N (p + 1) r := TA.drop (l := [x]) h
theorem TA.sp1 (h : TA b N p (32 :: r)) : sp b N p = sp b N (p + 1) := by
  have h1 := h.hd
  have hle : sp b N (p + 1) ≤ N := en_le (by omega)
  have hge : p + 1 ≤ sp b N (p + 1) := en_ge
  refine en_eq (by omega) hle (fun k h2 h3 => ?_) ?_
  · by_cases hk : k = p
    · rw [hk, h1.1]; decide
    · exact en_all (q := p + 1) (by omega) h3
  · by_cases hz : sp b N (p + 1) = N
    · exact Or.inl hz
    · exact Or.inr (en_end (q := p + 1) (by omega) (Nat.lt_of_le_of_ne hle hz))
theorem TA.sp0 {x : Nat} (h : TA b N p (x :: r)) (hx : isSp (nI x) = false) : sp b N p = p := en_stop h.le (by rw [h.hd.1]; exact hx)
theorem TA.spN (h : TA b N p []) : sp b N p = p := by
  have : p = N := h.1
  subst this
  exact en_N
theorem CT.sk (c : CT tk b N p) (h : TA b N p (32 :: r)) : CT tk b N (p + 1) := by
  unfold CT at c ⊢
  rw [← h.sp1]
  exact c
theorem txt_wl : ∀ w, w < 10 → (TXT.getD w []).length = wl w := by decide
theorem txt_wc : ∀ w, w < 10 → ∀ k, k < wl w → nI ((TXT.getD w []).getD k 0) = wc w k := by decide
theorem wc_sp : ∀ w, w < 10 → ∀ k, k < wl w → isSp (wc w k) = false ∧ isDg (wc w k) = false := by decide
theorem wd_ne : ∀ w, w < 10 → ∀ v, v < 10 → ¬ w = v → ¬ wl w = wl v ∨ ∃ k, k < wl w ∧ ¬ wc w k = wc v k := by decide
theorem nl_end (h : TA b N p (l ++ r)) (hr : nlR r) : p + l.length = N ∨ isLt (b (p + l.length)) = false := by
  have h2 := h.drop
  rcases hr with hr | hr
  · subst hr; exact Or.inl h2.1
  · cases r with
    | nil => exact Or.inl h2.1
    | cons x r => rw [h2.hd.1]; exact Or.inr hr
theorem nd_end (h : TA b N p (l ++ r)) (hr : ndR r) : p + l.length = N ∨ isDg (b (p + l.length)) = false := by
  have h2 := h.drop
  rcases hr with hr | hr
  · subst hr; exact Or.inl h2.1
  · cases r with
    | nil => exact Or.inl h2.1
    | cons x r => rw [h2.hd.1]; exact Or.inr hr
theorem TA.word (hw : w < 10) (h : TA b N p (TXT.getD w [] ++ r)) (hr : nlR r) : WM b N p w ∧ sp b N p = p := by
  have hl := txt_wl w hw
  have h1 := wl_le w hw
  have hd := h.drop
  have hle := hd.le
  rw [hl] at hle
  have hb : ∀ k, k < wl w → b (p + k) = wc w k := fun k hk => by rw [h.at (by omega), txt_wc w hw k hk]
  refine ⟨⟨hle, hb, ?_⟩, en_stop h.le ?_⟩
  · have := nl_end h hr
    rw [hl] at this
    exact this
  · have := hb 0 (by omega)
    rw [Nat.add_zero] at this
    rw [this]
    exact (wc_sp w hw 0 (by omega)).1
theorem WM_uniq {v : Nat} (hw : w < 10) (hv : v < 10) (h1 : WM b N p w) (h2 : WM b N p v) : w = v := by
  refine Classical.byContradiction fun hne => ?_
  have e1 := WM_en h1 hw
  have e2 := WM_en h2 hv
  have hl : wl w = wl v := by omega
  rcases wd_ne w hw v hv hne with z | ⟨k, hk, z⟩
  · exact z hl
  · exact z ((h1.2.1 k hk).symm.trans (h2.2.1 k (by omega)))
/-- which word stands here -/
theorem r_word (c : CT tk b N p) (hN : N ≤ 500) (hw : w < 10) (h : TA b N p (TXT.getD w [] ++ r)) (hr : nlR r) {v : Nat} (hv : v < 10) : f_X5_isWord tk v = some (if v = w then 1 else 0) := by
  obtain ⟨h1, h2⟩ := h.word hw hr
  rw [e_isWord c h.le hN hv, h2]
  by_cases hz : v = w
  · rw [if_pos hz, if_pos (by rw [hz]; exact h1)]
  · rw [if_neg hz, if_neg (fun z => hz (WM_uniq hv hw z h1))]
theorem r_adv (c : CT tk b N p) (hN : N ≤ 500) (hp : p ≤ N) {q : Nat} (hq : ed b N (sp b N p) = q) (hqN : q ≤ N) : ∃ tk', f_X5_advance tk = some tk' ∧ CT tk' b N q ∧ tk'.2 = tk.2 ∧ tk'.1 0 = tk.1 0 := e_advance c.2.1 c.1 (by rw [← hq]; exact c.2.2.2.2.1) hqN hN
theorem r_wadv (c : CT tk b N p) (hN : N ≤ 500) (hw : w < 10) (h : TA b N p (TXT.getD w [] ++ r)) (hr : nlR r) : ∃ tk', f_X5_advance tk = some tk' ∧ CT tk' b N (p + wl w) ∧ tk'.2 = tk.2 ∧ tk'.1 0 = tk.1 0 := by
  obtain ⟨h1, h2⟩ := h.word hw hr
  exact r_adv c hN h.le (by rw [h2]; exact (WM_kd h1 hw).2) h1.1
/-! numbers -/
theorem dgs_dg : ∀ d, d < 10 → isDg (nI (48 + d)) = true ∧ isSp (nI (48 + d)) = false := by decide
theorem decL_at (n : Nat) (hn : n ≤ 9999) : ∀ i, i < (decL n).length → ∃ d, d < 10 ∧ (decL n).getD i 0 = 48 + d := by
  intro i hi
  unfold decL at hi ⊢
  split at hi
  · rw [if_pos (by assumption)]
    have : i = 0 := by simp at hi; omega
    subst this
    exact ⟨n, by omega, rfl⟩
  · rw [if_neg (by assumption)]
    split at hi
    · rw [if_pos (by assumption)]
      simp at hi
      rcases (show i = 0 ∨ i = 1 by omega) with rfl | rfl
      · exact ⟨n / 10, by omega, rfl⟩
      · exact ⟨n % 10, by omega, rfl⟩
    · rw [if_neg (by assumption)]
      split at hi
      · rw [if_pos (by assumption)]
        simp at hi
        rcases (show i = 0 ∨ i = 1 ∨ i = 2 by omega) with rfl | rfl | rfl
        · exact ⟨n / 100, by omega, rfl⟩
        · exact ⟨n / 10 % 10, by omega, rfl⟩
        · exact ⟨n % 10, by omega, rfl⟩
      · rw [if_neg (by assumption)]
        simp at hi
        rcases (show i = 0 ∨ i = 1 ∨ i = 2 ∨ i = 3 by omega) with rfl | rfl | rfl | rfl
        · exact ⟨n / 1000, by omega, rfl⟩
        · exact ⟨n / 100 % 10, by omega, rfl⟩
        · exact ⟨n / 10 % 10, by omega, rfl⟩
        · exact ⟨n % 10, by omega, rfl⟩
theorem stC_d {v d : Nat} (hv : v < 1000000) (hd : d < 10) : stC v (nI (48 + d)) = 10 * v + d := by
  unfold stC
  rw [if_pos hv, nI_clamp (by omega), show 48 + d - 48 = d by omega]
theorem decL_vF (n : Nat) (hn : n ≤ 9999) (hb : ∀ i, i < (decL n).length → b (p + i) = nI ((decL n).getD i 0)) : vF stC b p (decL n).length = n := by
  unfold decL at hb ⊢
  split
  · rename_i h1
    rw [if_pos h1] at hb
    have e0 : b (p + 0) = nI (48 + n) := hb 0 (by simp)
    show stC 0 (b (p + 0)) = n
    rw [e0, stC_d (by omega) h1]; omega
  · rename_i h1
    rw [if_neg h1] at hb
    split
    · rename_i h2
      rw [if_pos h2] at hb
      have e0 : b (p + 0) = nI (48 + n / 10) := hb 0 (by simp)
      have e1 : b (p + 1) = nI (48 + n % 10) := hb 1 (by simp)
      show stC (stC 0 (b (p + 0))) (b (p + 1)) = n
      have f0 : stC 0 (b (p + 0)) = n / 10 := by rw [e0, stC_d (by omega) (by omega)]; omega
      have f1 : stC (n / 10) (b (p + 1)) = n := by rw [e1, stC_d (by omega) (by omega)]; omega
      rw [f0, f1]
    · rename_i h2
      rw [if_neg h2] at hb
      split
      · rename_i h3
        rw [if_pos h3] at hb
        have e0 : b (p + 0) = nI (48 + n / 100) := hb 0 (by simp)
        have e1 : b (p + 1) = nI (48 + n / 10 % 10) := hb 1 (by simp)
        have e2 : b (p + 2) = nI (48 + n % 10) := hb 2 (by simp)
        show stC (stC (stC 0 (b (p + 0))) (b (p + 1))) (b (p + 2)) = n
        have f0 : stC 0 (b (p + 0)) = n / 100 := by rw [e0, stC_d (by omega) (by omega)]; omega
        have f1 : stC (n / 100) (b (p + 1)) = n / 10 := by rw [e1, stC_d (by omega) (by omega)]; omega
        have f2 : stC (n / 10) (b (p + 2)) = n := by rw [e2, stC_d (by omega) (by omega)]; omega
        rw [f0, f1, f2]
      · rename_i h3
        rw [if_neg h3] at hb
        have e0 : b (p + 0) = nI (48 + n / 1000) := hb 0 (by simp)
        have e1 : b (p + 1) = nI (48 + n / 100 % 10) := hb 1 (by simp)
        have e2 : b (p + 2) = nI (48 + n / 10 % 10) := hb 2 (by simp)
        have e3 : b (p + 3) = nI (48 + n % 10) := hb 3 (by simp)
        show stC (stC (stC (stC 0 (b (p + 0))) (b (p + 1))) (b (p + 2))) (b (p + 3)) = n
        have f0 : stC 0 (b (p + 0)) = n / 1000 := by rw [e0, stC_d (by omega) (by omega)]; omega
        have f1 : stC (n / 1000) (b (p + 1)) = n / 100 := by rw [e1, stC_d (by omega) (by omega)]; omega
        have f2 : stC (n / 100) (b (p + 2)) = n / 10 := by rw [e2, stC_d (by omega) (by omega)]; omega
        have f3 : stC (n / 10) (b (p + 3)) = n := by rw [e3, stC_d (by omega) (by omega)]; omega
        rw [f0, f1, f2, f3]
theorem decL_pos (n : Nat) : 0 < (decL n).length := by
  unfold decL
  split
  · simp
  · split
    · simp
    · split <;> simp
theorem TA.num (h : TA b N p (decL n ++ r)) (hr : ndR r) (hn : n ≤ 9999) : sp b N p = p ∧ en isDg b N p = p + (decL n).length ∧ vF stC b p (decL n).length = n := by
  have hpos := decL_pos n
  have hat : ∀ i, i < (decL n).length → ∃ d, d < 10 ∧ b (p + i) = nI (48 + d) := fun i hi => by
    obtain ⟨d, hd, e⟩ := decL_at n hn i hi
    exact ⟨d, hd, by rw [h.at hi, e]⟩
  obtain ⟨d0, hd0, e0⟩ := hat 0 hpos
  refine ⟨en_stop h.le (by rw [Nat.add_zero] at e0; rw [e0]; exact (dgs_dg d0 hd0).2), en_eq (by omega) h.drop.le (fun k h1 h2 => ?_) (nd_end h hr), decL_vF n hn fun i hi => h.at hi⟩
  obtain ⟨i, rfl⟩ : ∃ i, k = p + i := ⟨k - p, by omega⟩
  obtain ⟨d, hd, e⟩ := hat i (by omega)
  rw [e]; exact (dgs_dg d hd).1
end TX
