/-! tokens -/
section T
variable {tk : SA} {b : Nat → Int32} {N p s : Nat}
/-- what a token is read to: behind the spaces -/
def CAk (tk : SA) (b : Nat → Int32) (N s : Nat) (tk' : SA) : Prop := tk'.1 1 = nI N ∧ tk'.2 = tk.2 ∧ tk'.1 0 = tk.1 0 ∧ tk'.1 3 = nI s ∧ tk'.1 2 = nI (kd b N s) ∧ tk'.1 4 = nI (ed b N s) ∧ (s < en isDg b N s → tk'.1 5 = nI (vF stC b s (en isDg b N s - s)))
theorem a_sign (hb : tk.2 0 = b) (h1 : tk.1 1 = nI N) (h3 : tk.1 3 = nI s) (hs : s ≤ N) (hN : N ≤ 500) (hd : ¬ s < en isDg b N s) (e : Nat) (h4 : tk.1 4 = nI e) (he : e = en isLt b N s) : ∃ tk', f_X5_advance_J257 (nI N) tk = some tk' ∧ CAk tk b N s tk' := by
  have hge : s ≤ en isLt b N s := en_ge
  have hle : en isLt b N s ≤ N := en_le hs
  unfold f_X5_advance_J257 f_X5_advance_J288
  simp only [h3, h4]
  rw [ie_le (by omega) (by omega), ie_le (by omega) (by omega)]
  by_cases hl : e ≤ s
  · rw [if_pos hl]
    have hl2 : ¬ s < en isLt b N s := by omega
    by_cases hsN : N ≤ s
    · rw [if_pos hsN, if_pos ((nI_leI (by omega) (by omega)).mpr hsN)]
      refine ⟨_, rfl, h1, rfl, rfl, h3, ?_, ?_, fun z => absurd z hd⟩
      · unfold kd; rw [if_neg hd, if_neg hl2, if_neg (by omega)]; rfl
      · unfold ed; rw [if_neg hd, if_neg hl2, if_neg (by omega)]; rfl
    · rw [if_neg hsN, if_neg (fun z => hsN ((nI_leI (by omega) (by omega)).mp z)), nI_1]
      refine ⟨_, rfl, h1, rfl, rfl, h3, ?_, ?_, fun z => absurd z hd⟩
      · unfold kd; rw [if_neg hd, if_neg hl2, if_pos (by omega)]; rfl
      · unfold ed; rw [if_neg hd, if_neg hl2, if_pos (by omega)]; rfl
  · rw [if_neg hl]
    have hl2 : s < en isLt b N s := by omega
    refine ⟨_, rfl, h1, rfl, rfl, h3, ?_, ?_, fun z => absurd z hd⟩
    · unfold kd; rw [if_neg hd, if_pos hl2]; rfl
    · unfold ed; rw [if_neg hd, if_pos hl2]; show tk.1 4 = _; rw [h4, he]
theorem a_word (hb : tk.2 0 = b) (h1 : tk.1 1 = nI N) (h3 : tk.1 3 = nI s) (hs : s ≤ N) (hN : N ≤ 500) (hd : ¬ s < en isDg b N s) (h4 : tk.1 4 = nI s) : ∃ tk', itr1 (f_X5_advance_B201 (nI N)) FUEL tk = some tk' ∧ CAk tk b N s tk' := by
  refine lr1 (B := f_X5_advance_B201 (nI N)) (fun (o : Option SA) => ∃ tk', o = some tk' ∧ CAk tk b N s tk') (fun (m : Nat) (a : SA) => ∃ j, s ≤ j ∧ j + m = N ∧ a.1 4 = nI j ∧ a.2 = tk.2 ∧ (∀ k, ¬ k = 4 → a.1 k = tk.1 k) ∧ ∀ k, s ≤ k → k < j → isLt (b k) = true) ?_ FUEL (N - s) tk (FUEL_lt (by omega)) ⟨s, Nat.le_refl _, by omega, h4, rfl, fun _ _ => rfl, fun k a1 a2 => by omega⟩
  rintro rec m a ⟨j, hj, hm, e4, e2, er, hall⟩ ih
  have fin : j = N ∨ isLt (b j) = false → ∃ tk', f_X5_advance_J257 (nI N) a = some tk' ∧ CAk tk b N s tk' := fun z => by
    obtain ⟨tk', c1, c2⟩ := a_sign (tk := a) (b := b) (by rw [e2]; exact hb) ((er 1 (by omega)).trans h1) ((er 3 (by omega)).trans h3) hs hN hd j e4 (en_eq hj (by omega) hall z).symm
    exact ⟨tk', c1, c2.1, c2.2.1.trans e2, c2.2.2.1.trans (er 0 (by omega)), c2.2.2.2⟩
  unfold f_X5_advance_B201
  rw [e4, if_neg (nI_lt0 (by omega)), ie_le (by omega) (by omega)]
  by_cases hjN : N ≤ j
  · rw [if_pos hjN]
    exact fin (Or.inl (by omega))
  · rw [if_neg hjN, inb_t (by omega) (by omega), gd_T, gd_T, nI_clamp (by omega), e2, hb]
    by_cases c1 : b j < 97
    · rw [if_pos c1]
      exact fin (Or.inr (decide_eq_false (fun z => z.1 c1)))
    · rw [if_neg c1]
      by_cases c2 : (122 : Int32) < b j
      · rw [if_pos c2]
        exact fin (Or.inr (decide_eq_false (fun z => z.2 c2)))
      · rw [if_neg c2, nI_1]
        refine ih (m - 1) _ (by omega) ⟨j + 1, by omega, by omega, rfl, e2, fun k hk => (upd_n hk).trans (er k hk), fun k a1 a2 => ?_⟩
        by_cases hk : k = j
        · rw [hk]; exact decide_eq_true ⟨c1, c2⟩
        · exact hall k a1 (by omega)
theorem a_num (hb : tk.2 0 = b) (h1 : tk.1 1 = nI N) (h3 : tk.1 3 = nI s) (hs : s ≤ N) (hN : N ≤ 500) : ∃ tk', f_X5_advance_J75 (nI N) tk = some tk' ∧ CAk tk b N s tk' := by
  unfold f_X5_advance_J75
  rw [h3]
  refine lr1 (B := f_X5_advance_B88 (nI N)) (fun (o : Option SA) => ∃ tk', o = some tk' ∧ CAk tk b N s tk') (fun (m : Nat) (a : SA) => ∃ j, s ≤ j ∧ j + m = N ∧ a.1 4 = nI j ∧ a.1 5 = nI (vF stC b s (j - s)) ∧ a.2 = tk.2 ∧ (∀ k, ¬ k = 4 → ¬ k = 5 → a.1 k = tk.1 k) ∧ ∀ k, s ≤ k → k < j → isDg (b k) = true) ?_ FUEL (N - s) _ (FUEL_lt (by omega)) ⟨s, Nat.le_refl _, by omega, rfl, by rw [Nat.sub_self]; rfl, rfl, fun k a1 a2 => by show upd (upd tk.1 4 _) 5 _ k = _; rw [upd_n a2, upd_n a1], fun k a1 a2 => by omega⟩
  rintro rec m a ⟨j, hj, hm, e4, e5, e2, er, hall⟩ ih
  have hv := vF_both b s (j - s) (fun k a1 a2 => hall k a1 (by omega))
  have fin : j = N ∨ isDg (b j) = false → ∃ tk', f_X5_advance_J184 (nI N) a = some tk' ∧ CAk tk b N s tk' := fun z => by
    have hen : en isDg b N s = j := en_eq hj (by omega) hall z
    unfold f_X5_advance_J184
    rw [e4, er 3 (by omega) (by omega), h3, ie_le (by omega) (by omega)]
    by_cases hjs : j ≤ s
    · rw [if_pos hjs]
      have : j = s := by omega
      subst this
      obtain ⟨tk', c1, c2⟩ := a_word (tk := a) (b := b) (by rw [e2]; exact hb) ((er 1 (by omega) (by omega)).trans h1) ((er 3 (by omega) (by omega)).trans h3) hs hN (by omega) e4
      exact ⟨tk', c1, c2.1, c2.2.1.trans e2, c2.2.2.1.trans (er 0 (by omega) (by omega)), c2.2.2.2⟩
    · rw [if_neg hjs]
      have hd : s < en isDg b N s := by omega
      refine ⟨_, rfl, (er 1 (by omega) (by omega)).trans h1, e2, er 0 (by omega) (by omega), (er 3 (by omega) (by omega)).trans h3, ?_, ?_, fun _ => ?_⟩
      · unfold kd; rw [if_pos hd]; rfl
      · unfold ed; rw [if_pos hd, hen]; exact e4
      · rw [hen]; exact e5
  unfold f_X5_advance_B88 f_X5_advance_J168
  rw [e4, if_neg (nI_lt0 (by omega)), ie_le (by omega) (by omega)]
  by_cases hjN : N ≤ j
  · rw [if_pos hjN]
    exact fin (Or.inl (by omega))
  · rw [if_neg hjN, inb_t (by omega) (by omega), gd_T, gd_T, gd_T, nI_clamp (by omega), e2, hb]
    by_cases c1 : b j < 48
    · rw [if_pos c1]
      exact fin (Or.inr (decide_eq_false (fun z => z.1 c1)))
    · rw [if_neg c1]
      by_cases c2 : (57 : Int32) < b j
      · rw [if_pos c2]
        exact fin (Or.inr (decide_eq_false (fun z => z.2 c2)))
      · have hdg : isDg (b j) = true := decide_eq_true ⟨c1, c2⟩
        obtain ⟨d, hd, hbj⟩ := dg_of hdg
        have hstp : vF stC b s (j + 1 - s) = if vF stC b s (j - s) < 1000000 then 10 * vF stC b s (j - s) + d else vF stC b s (j - s) := by
          rw [show j + 1 - s = (j - s) + 1 by omega]
          show stC _ _ = _
          unfold stC
          rw [show s + (j - s) = j by omega, hbj, nI_clamp (by omega), show 48 + d - 48 = d by omega]
        have go : ∀ v : Int32, v = nI (vF stC b s (j + 1 - s)) → ∃ tk', rec (ss (ss a 5 v) 4 (nI j + 1)) = some tk' ∧ CAk tk b N s tk' := fun v hv2 => by
          rw [nI_1]
          refine ih (m - 1) _ (by omega) ⟨j + 1, by omega, by omega, rfl, hv2, e2, fun k a1 a2 => ?_, fun k a1 a2 => ?_⟩
          · show upd (upd a.1 5 _) 4 _ k = _
            rw [upd_n a1, upd_n a2]; exact er k a1 a2
          · by_cases hk : k = j
            · rw [hk]; exact hdg
            · exact hall k a1 (by omega)
        rw [if_neg c2, e5, show (1000000 : Int32) = nI 1000000 from rfl, ie_le (by omega) (by omega)]
        by_cases c3 : 1000000 ≤ vF stC b s (j - s)
        · rw [if_pos c3]
          exact go _ (by rw [hstp, if_neg (by omega)])
        · rw [if_neg c3]
          refine go _ ?_
          rw [hstp, if_pos (by omega), hbj, i_10, nI_mul, nI_add, show (48 : Int32) = nI 48 from rfl, nI_sub (by omega), show 10 * vF stC b s (j - s) + (48 + d) - 48 = 10 * vF stC b s (j - s) + d by omega]
theorem e_advance (hb : tk.2 0 = b) (h1 : tk.1 1 = nI N) (h4 : tk.1 4 = nI p) (hp : p ≤ N) (hN : N ≤ 500) : ∃ tk', f_X5_advance tk = some tk' ∧ CT tk' b N p ∧ tk'.2 = tk.2 ∧ tk'.1 0 = tk.1 0 := by
  have e1 : f_X5_advance tk = f_X5_advance_J24 tk (nI N) := by
    unfold f_X5_advance
    rw [h1, i_500, ie_le (by omega) (by omega)]
    by_cases h : 500 ≤ N
    · rw [if_pos h, show N = 500 by omega]
    · rw [if_neg h]
  rw [e1]
  unfold f_X5_advance_J24
  rw [h4]
  refine lr1 (B := f_X5_advance_B33 (nI N)) (fun (o : Option SA) => ∃ tk', o = some tk' ∧ CT tk' b N p ∧ tk'.2 = tk.2 ∧ tk'.1 0 = tk.1 0) (fun (m : Nat) (a : SA) => ∃ j, p ≤ j ∧ j + m = N ∧ a.1 3 = nI j ∧ a.2 = tk.2 ∧ a.1 1 = nI N ∧ a.1 0 = tk.1 0 ∧ ∀ k, p ≤ k → k < j → isSp (b k) = true) ?_ FUEL (N - p) _ (FUEL_lt (by omega)) ⟨p, Nat.le_refl _, by omega, rfl, rfl, h1, rfl, fun k a1 a2 => by omega⟩
  rintro rec m a ⟨j, hj, hm, e3, e2, e1, e0, hall⟩ ih
  have fin : j = N ∨ isSp (b j) = false → ∃ tk', f_X5_advance_J75 (nI N) a = some tk' ∧ CT tk' b N p ∧ tk'.2 = tk.2 ∧ tk'.1 0 = tk.1 0 := fun z => by
    have hen : sp b N p = j := en_eq hj (by omega) hall z
    obtain ⟨tk', c1, c2, c3, c4, c5, c6, c7, c8⟩ := a_num (tk := a) (b := b) (by rw [e2]; exact hb) e1 e3 (by omega) hN
    refine ⟨tk', c1, ⟨c2, by rw [c3, e2]; exact hb, by rw [hen]; exact c5, by rw [hen]; exact c6, by rw [hen]; exact c7, by rw [hen]; exact c8⟩, c3.trans e2, c4.trans e0⟩
  unfold f_X5_advance_B33
  rw [e3, if_neg (nI_lt0 (by omega)), ie_le (by omega) (by omega)]
  by_cases hjN : N ≤ j
  · rw [if_pos hjN]
    exact fin (Or.inl (by omega))
  · rw [if_neg hjN, inb_t (by omega) (by omega), gd_T, nI_clamp (by omega), e2, hb]
    by_cases c1 : b j = 32
    · rw [if_pos c1, nI_1]
      refine ih (m - 1) _ (by omega) ⟨j + 1, by omega, by omega, rfl, e2, e1, e0, fun k a1 a2 => ?_⟩
      by_cases hk : k = j
      · rw [hk]; exact decide_eq_true c1
      · exact hall k a1 (by omega)
    · rw [if_neg c1]
      exact fin (Or.inr (decide_eq_false c1))
theorem e_isNumber (h : CT tk b N p) : f_X5_isNumber tk = some (if sp b N p < en isDg b N (sp b N p) then 1 else 0) := by
  unfold f_X5_isNumber
  rw [h.2.2.2.1]
  unfold kd
  by_cases h1 : sp b N p < en isDg b N (sp b N p)
  · rw [if_pos h1, if_pos (show nI 1 = 1 from rfl), if_pos h1]
  · rw [if_neg h1, if_neg h1]
    split
    · rw [if_neg (by decide)]
    · split
      · rw [if_neg (by decide)]
      · rw [if_neg (by decide)]
theorem e_isSign {c : Int32} (h : CT tk b N p) (hp : p ≤ N) (hN : N ≤ 500) (hc1 : isDg c = false) (hc2 : isLt c = false) : f_X5_isSign tk c = some (if sp b N p < N ∧ b (sp b N p) = c then 1 else 0) := by
  have hs : sp b N p ≤ N := en_le hp
  have hd : en isDg b N (sp b N p) ≤ N := en_le hs
  have hl : en isLt b N (sp b N p) ≤ N := en_le hs
  unfold f_X5_isSign
  rw [h.2.2.2.1, h.2.2.1, h.2.1, if_neg (nI_lt0 (by omega)), i_500, ie_le (by omega) (by omega)]
  unfold kd
  by_cases h1 : sp b N p < en isDg b N (sp b N p)
  · rw [if_pos h1, if_neg (show ¬ nI 1 = 3 by decide), if_neg]
    rintro ⟨-, q⟩
    have := en_all (P := isDg) (b := b) (N := N) (Nat.le_refl (sp b N p)) h1
    rw [q, hc1] at this; exact absurd this (by decide)
  · rw [if_neg h1]
    by_cases h2 : sp b N p < en isLt b N (sp b N p)
    · rw [if_pos h2, if_neg (show ¬ nI 2 = 3 by decide), if_neg]
      rintro ⟨-, q⟩
      have := en_all (P := isLt) (b := b) (N := N) (Nat.le_refl (sp b N p)) h2
      rw [q, hc2] at this; exact absurd this (by decide)
    · rw [if_neg h2]
      by_cases h3 : sp b N p < N
      · rw [if_pos h3, if_pos (show nI 3 = 3 from rfl), if_neg (by omega), inb_t (by omega) (by omega), gd_T, nI_clamp (by omega)]
        by_cases h4 : b (sp b N p) = c
        · rw [if_pos h4, if_pos ⟨h3, h4⟩]
        · rw [if_neg h4, if_neg (fun z => h4 z.2)]
      · rw [if_neg h3, if_neg (show ¬ nI 0 = 3 by decide), if_neg (fun z => h3 z.1)]
end T
/-! words -/
def wl (w : Nat) : Nat := LENS.getD w 0
def wc (w k : Nat) : Int32 := schr w (nI k)
theorem wl_le : ∀ w, w < 10 → 1 ≤ wl w ∧ wl w ≤ 10 := by decide
theorem wc_lt : ∀ w, w < 10 → ∀ k, k < wl w → isLt (wc w k) = true := by decide
theorem scg_t : ∀ w, w < 10 → ∀ k, k < wl w → scg w (nI k) = true := by decide
/-- a word stands at s -/
abbrev WM (b : Nat → Int32) (N s w : Nat) : Prop := s + wl w ≤ N ∧ (∀ k, k < wl w → b (s + k) = wc w k) ∧ (s + wl w = N ∨ isLt (b (s + wl w)) = false)
theorem WM_en {b : Nat → Int32} {N s w : Nat} (h : WM b N s w) (hw : w < 10) : en isLt b N s = s + wl w := by
  refine en_eq (by omega) h.1 (fun k h1 h2 => ?_) h.2.2
  obtain ⟨j, rfl⟩ : ∃ j, k = s + j := ⟨k - s, by omega⟩
  rw [h.2.1 j (by omega)]
  exact wc_lt w hw j (by omega)
theorem WM_kd {b : Nat → Int32} {N s w : Nat} (h : WM b N s w) (hw : w < 10) : kd b N s = 2 ∧ ed b N s = s + wl w := by
  have h1 := wl_le w hw
  have h2 := WM_en h hw
  have h3 : ¬ s < en isDg b N s := fun z => by
    have a1 := en_all (P := isDg) (b := b) (N := N) (Nat.le_refl s) z
    have a2 := h.2.1 0 (by omega)
    rw [Nat.add_zero] at a2
    have a3 := wc_lt w hw 0 (by omega)
    rw [← a2, dg_lt a1] at a3
    exact absurd a3 (by decide)
  unfold kd ed
  rw [if_neg h3, if_neg h3, h2, if_pos (by omega), if_pos (by omega)]
  exact ⟨rfl, rfl⟩

theorem e_isWord {tk : SA} {b : Nat → Int32} {N p w : Nat} (h : CT tk b N p) (hp : p ≤ N) (hN : N ≤ 500) (hw : w < 10) : f_X5_isWord tk w = some (if WM b N (sp b N p) w then 1 else 0) := by
  have hs : sp b N p ≤ N := en_le hp
  have hl : en isLt b N (sp b N p) ≤ N := en_le hs
  have hge : sp b N p ≤ en isLt b N (sp b N p) := en_ge
  have hwl := wl_le w hw
  unfold f_X5_isWord
  rw [h.2.2.2.1, h.2.2.1, h.2.2.2.2.1, show decide (w < 22) = true from decide_eq_true (by omega), gd_T]
  by_cases hk : kd b N (sp b N p) = 2
  · rw [hk, if_pos (show nI 2 = 2 from rfl)]
    have hd : ¬ sp b N p < en isDg b N (sp b N p) := fun z => by unfold kd at hk; rw [if_pos z] at hk; omega
    have hlt : sp b N p < en isLt b N (sp b N p) := by
      unfold kd at hk
      rw [if_neg hd] at hk
      by_cases z : sp b N p < en isLt b N (sp b N p)
      · exact z
      · rw [if_neg z] at hk; split at hk <;> omega
    have he : ed b N (sp b N p) = en isLt b N (sp b N p) := by unfold ed; rw [if_neg hd, if_pos hlt]
    rw [he, nI_sub hge, show slen w = nI (wl w) from rfl, ie_eq (by omega) (by omega)]
    by_cases hlen : en isLt b N (sp b N p) - sp b N p = wl w
    · rw [if_pos hlen]
      have key : itr2 (f_X5_isWord_B30 tk w) FUEL 1 0 = some (if ∀ k, k < wl w → b (sp b N p + k) = wc w k then 1 else 0) := by
        refine lr2 (B := f_X5_isWord_B30 tk w) (fun (o : Option Int32) => o = some (if ∀ k, k < wl w → b (sp b N p + k) = wc w k then 1 else 0)) (fun (m : Nat) (v2 v3 : Int32) => ∃ j, v3 = nI j ∧ j + m = wl w ∧ v2 = if ∀ k, k < j → b (sp b N p + k) = wc w k then 1 else 0) ?_ FUEL (wl w) 1 0 (FUEL_lt (by omega)) ⟨0, rfl, by omega, ?_⟩
        · rintro rec m v2 v3 ⟨j, rfl, hm, rfl⟩ ih
          unfold f_X5_isWord_B30
          rw [show decide (w < 22) = true from decide_eq_true (by omega), gd_T, show slen w = nI (wl w) from rfl, ie_le (by omega) (by omega)]
          by_cases hj : wl w ≤ j
          · have : j = wl w := by omega
            subst this
            rw [if_pos hj]
            have : isb (if ∀ k, k < wl w → b (sp b N p + k) = wc w k then (1 : Int32) else 0) = true := by split <;> decide
            rw [this, gd_T]
          · rw [if_neg hj, h.2.2.1, nI_add, if_neg (nI_lt0 (by omega)), i_500, ie_le (by omega) (by omega), if_neg (show ¬ 500 ≤ sp b N p + j by omega), inb_t (by omega) (by omega), gd_T, scg_t w hw j (by omega), gd_T, nI_clamp (by omega), h.2.1, nI_1]
            by_cases hsm : ∀ k, k < j → b (sp b N p + k) = wc w k
            · rw [if_pos hsm, if_neg (show ¬ (1 : Int32) = 0 by decide)]
              by_cases hc : b (sp b N p + j) = wc w j
              · rw [if_pos (show b (sp b N p + j) = schr w (nI j) from hc)]
                refine ih (m - 1) _ _ (by omega) ⟨j + 1, rfl, by omega, ?_⟩
                rw [if_pos]
                intro k hk
                by_cases hkj : k = j
                · rw [hkj]; exact hc
                · exact hsm k (by omega)
              · rw [if_neg (show ¬ b (sp b N p + j) = schr w (nI j) from hc)]
                refine ih (m - 1) _ _ (by omega) ⟨j + 1, rfl, by omega, ?_⟩
                rw [if_neg (fun z => hc (z j (by omega)))]
            · rw [if_neg hsm, if_pos rfl]
              refine ih (m - 1) _ _ (by omega) ⟨j + 1, rfl, by omega, ?_⟩
              rw [if_neg (fun z => hsm (fun k hk => z k (by omega)))]
        · rw [if_pos (fun k hk => absurd hk (Nat.not_lt_zero _))]
      rw [key]
      by_cases hm : ∀ k, k < wl w → b (sp b N p + k) = wc w k
      · rw [if_pos hm, if_pos]
        refine ⟨by omega, hm, ?_⟩
        rw [show sp b N p + wl w = en isLt b N (sp b N p) by omega]
        by_cases z : en isLt b N (sp b N p) = N
        · exact Or.inl z
        · exact Or.inr (en_end hs (by omega))
      · rw [if_neg hm, if_neg (fun z => hm z.2.1)]
    · rw [if_neg hlen, if_neg (fun z => hlen (by rw [WM_en z hw]; omega))]
  · rw [if_neg, if_neg (fun z => hk (WM_kd z hw).1)]
    intro z
    have h9 : kd b N (sp b N p) < 2 ^ 31 := by unfold kd; split; omega; split; omega; split <;> omega
    exact hk ((nI_eq (b := 2) h9 (by omega)).mp z)

