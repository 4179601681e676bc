/-! the first of the longest rows, tile by tile; what both check -/
section B
variable {S : SA} {n : Nat} {tl : Nat → Nat} {st : Nat} {mk : Nat → Nat} {F : Nat} {E : Nat → Nat}
theorem s_tiles {S' : SA} {hp : Nat → Nat} {x : MS} {k : Nat} (h : BF S n tl st mk F E F 0) (hA : D1 tl n (fun _ => 1) (vl (x.1.2 5))) (hR : RA tl n (fun _ => 1) 1 (x.1.2 5) 0 10) (ht : ∀ i, i < n → x.1.2 4 i = nI (tl i) ∧ tl i < 100)
    (s1 : S'.1 = S.1) (s2 : ∀ i, ¬ i = 3 → S'.2 i = S.2 i) (s3 : ∀ m, m < 4096 → S'.2 3 m = nI (hp m) ∧ hp m < 1024) (s4 : ∀ j, j < F → HC E (vl (x.1.2 5)) (vl (x.1.2 5) 0 st) hp (mk j)) (s5 : ∀ m, m < 4096 → (∀ j, j < F → ¬ mk j = m) → hp m = 0) (hk : k < vl (x.1.2 5) 0 st) (hl12 : vl (x.1.2 5) 0 st ≤ 12) :
    ∀ d j f1 f2 m e v5, j + d = k → d + 1 < f1 → d < f2 → Rw tl n st j m e → vl (x.1.2 5) m e + j = vl (x.1.2 5) 0 st → ∃ t, t < 100 ∧ itr4 (f_X2_tileOfFirstLongest_B35 (nI k) (nI (vl (x.1.2 5) 0 st)) S') f1 (nI m) (nI e) v5 (nI j) = some (nI t, S') ∧ itr3 (f_X8_longestTile_B71 (nI k) x) f2 (nI e) (nI m) (nI j) = some (nI t, x) := by
  have hn := h.n.2
  have h12 := p12 hn
  have htl : ∀ i, i < n → tl i < 100 := fun i hi => (h.tl i hi).2
  intro d
  induction d with
  | zero =>
    intro j f1 f2 m e v5 hj hf1 hf2 hr hl
    obtain ⟨f1, rfl⟩ : ∃ q, f1 = q + 1 + 1 := ⟨f1 - 2, by omega⟩
    obtain ⟨f2, rfl⟩ : ∃ q, f2 = q + 1 := ⟨f2 - 1, by omega⟩
    have hjk : j = k := by omega
    subst hjk
    obtain ⟨i, i1, i2, i3, i4, i5, i6⟩ := s_next h hA hR ht s1 s2 s3 s4 s5 hr hl hk
    obtain ⟨m1, m2, m3⟩ := Rw.lt hn h.s.2 htl j m e hr
    have hti := h.tl i i1
    have htx := ht i i1
    have hsum := oth_sum i3
    have hor := or_lt m1 i1
    refine ⟨tl i, hti.2, ?_, ?_⟩
    · show f_X2_tileOfFirstLongest_B35 (nI j) (nI (vl (x.1.2 5) 0 st)) S' (itr4 (f_X2_tileOfFirstLongest_B35 (nI j) (nI (vl (x.1.2 5) 0 st)) S') (f1 + 1)) (nI m) (nI e) v5 (nI j) = _
      have e1 : ∀ rec : Int32 → Int32 → Int32 → Int32 → Option (Int32 × SA), f_X2_tileOfFirstLongest_B35 (nI j) (nI (vl (x.1.2 5) 0 st)) S' rec (nI m) (nI e) v5 (nI j) = rec (nI (m ||| 2 ^ i)) (nI (oth (tl i) e)) (nI (tl i)) (nI (j + 1)) := fun rec => by
        unfold f_X2_tileOfFirstLongest_B35
        rw [ie_lt (by omega) (by omega), if_neg (by omega), ie_le (by omega) (by omega), if_neg (by omega), i5, bd1_S, s2 0 (by omega), e_look (by omega) (by omega), bd1_S, hti.1, shl_k i (by omega), nI_or (by omega) (pw_lt (by omega)), nmd_S, e_pips (by omega), bd1_S, nI_sub (by omega), show tl i / 10 + tl i % 10 - e = oth (tl i) e by omega, nI_1]
      rw [e1]
      show f_X2_tileOfFirstLongest_B35 (nI j) (nI (vl (x.1.2 5) 0 st)) S' (itr4 (f_X2_tileOfFirstLongest_B35 (nI j) (nI (vl (x.1.2 5) 0 st)) S') f1) (nI (m ||| 2 ^ i)) (nI (oth (tl i) e)) (nI (tl i)) (nI (j + 1)) = _
      unfold f_X2_tileOfFirstLongest_B35
      rw [ie_lt (by omega) (by omega), if_pos (by omega)]
    · show f_X8_longestTile_B71 (nI j) x (itr3 (f_X8_longestTile_B71 (nI j) x) f2) (nI e) (nI m) (nI j) = _
      unfold f_X8_longestTile_B71
      rw [if_pos (Int32.le_refl _), i6, bd1_S, inb_t (by omega) (by omega), gd_T, nI_clamp (by omega), htx.1]
  | succ d ih =>
    intro j f1 f2 m e v5 hj hf1 hf2 hr hl
    obtain ⟨f1, rfl⟩ : ∃ q, f1 = q + 1 := ⟨f1 - 1, by omega⟩
    obtain ⟨f2, rfl⟩ : ∃ q, f2 = q + 1 := ⟨f2 - 1, by omega⟩
    obtain ⟨i, i1, i2, i3, i4, i5, i6⟩ := s_next h hA hR ht s1 s2 s3 s4 s5 hr hl (by omega)
    obtain ⟨m1, m2, m3⟩ := Rw.lt hn h.s.2 htl j m e hr
    have hti := h.tl i i1
    have htx := ht i i1
    have hsum := oth_sum i3
    have hor := or_lt m1 i1
    obtain ⟨t, t1, t2, t3⟩ := ih (j + 1) f1 f2 (m ||| 2 ^ i) (oth (tl i) e) (nI (tl i)) (by omega) (by omega) (by omega) ⟨m, e, i, hr, i1, i2, i3, rfl, rfl⟩ (by omega)
    refine ⟨t, t1, ?_, ?_⟩
    · rw [← t2]
      show f_X2_tileOfFirstLongest_B35 (nI k) (nI (vl (x.1.2 5) 0 st)) S' (itr4 (f_X2_tileOfFirstLongest_B35 (nI k) (nI (vl (x.1.2 5) 0 st)) S') f1) (nI m) (nI e) v5 (nI j) = _
      generalize itr4 (f_X2_tileOfFirstLongest_B35 (nI k) (nI (vl (x.1.2 5) 0 st)) S') f1 = R
      unfold f_X2_tileOfFirstLongest_B35
      rw [ie_lt (by omega) (by omega), if_neg (by omega), ie_le (by omega) (by omega), if_neg (by omega), i5, bd1_S, s2 0 (by omega), e_look (by omega) (by omega), bd1_S, hti.1, shl_k i (by omega), nI_or (by omega) (pw_lt (by omega)), nmd_S, e_pips (by omega), bd1_S, nI_sub (by omega), show tl i / 10 + tl i % 10 - e = oth (tl i) e by omega, nI_1]
    · rw [← t3]
      show f_X8_longestTile_B71 (nI k) x (itr3 (f_X8_longestTile_B71 (nI k) x) f2) (nI e) (nI m) (nI j) = _
      generalize itr3 (f_X8_longestTile_B71 (nI k) x) f2 = R
      unfold f_X8_longestTile_B71
      rw [ie_le (by omega) (by omega), if_neg (by omega), i6, bd1_S, inb_t (by omega) (by omega), gd_T, nI_clamp (by omega), htx.1, x_other htx.2 m2, bd1_S, shl_k i (by omega), nI_or (by omega) (pw_lt (by omega)), nmd_S, nI_1]
theorem BF.rw (h : BF S n tl st mk F E F 0) : RW S := by
  have h12 := p12 h.n.2
  refine ⟨F, h.F.2, h.F.1, fun k hk => ⟨mk k, by have := (h.mk k hk).2; omega, (h.mk k hk).1⟩, fun m hm hno => ⟨?_, h.H m hm⟩⟩
  rw [(h.E m hm).1]
  rcases Classical.em (E m = 0) with z | z
  · rw [z]; rfl
  · obtain ⟨j, j1, j2⟩ := h.fnd m hm z
    exact absurd (by rw [(h.mk j j1).1, j2]) (hno j j1)
theorem RW.hope {S' : SA} {hp : Nat → Nat} (h : BF S n tl st mk F E F 0) (s1 : S'.1 = S.1) (s2 : ∀ i, ¬ i = 3 → S'.2 i = S.2 i) (s3 : ∀ m, m < 4096 → S'.2 3 m = nI (hp m) ∧ hp m < 1024) (s5 : ∀ m, m < 4096 → (∀ j, j < F → ¬ mk j = m) → hp m = 0) : RW S' := by
  obtain ⟨F', f1, f2, f3, f4⟩ := h.rw
  have eF : F' = F := by
    have := f2.symm.trans h.F.1
    exact (nI_eq (by omega) (by have := h.F.2; omega)).mp this
  subst eF
  refine ⟨F', f1, by rw [s1]; exact f2, fun k hk => by rw [s2 1 (by omega)]; exact f3 k hk, fun m hm hno => ?_⟩
  rw [s2 1 (by omega)] at hno
  refine ⟨by rw [s2 2 (by omega)]; exact (f4 m hm hno).1, ?_⟩
  rw [(s3 m hm).1, s5 m hm (fun j hj z => hno j hj (by rw [(h.mk j hj).1, z]))]
  rfl
end B
/-! numbers in a range, and out of it -/
theorem rng (v : Int32) (n : Nat) (hn : n < 2 ^ 31) : (∃ k, k < n ∧ v = nI k) ∨ (v < 0 ∨ nI n ≤ v) := by
  by_cases h1 : v < 0
  · exact Or.inr (Or.inl h1)
  · by_cases h2 : nI n ≤ v
    · exact Or.inr (Or.inr h2)
    · refine Or.inl ⟨v.toInt.toNat, ?_, ?_⟩
      · rw [Int32.lt_iff_toInt_lt] at h1
        rw [Int32.le_iff_toInt_le, nI_toInt hn] at h2
        have : (0 : Int32).toInt = 0 := by decide
        omega
      · rw [Int32.lt_iff_toInt_lt] at h1
        rw [Int32.le_iff_toInt_le, nI_toInt hn] at h2
        have : (0 : Int32).toInt = 0 := by decide
        apply Int32.toInt_inj.mp
        rw [nI_toInt (by omega)]
        omega
theorem x_inOut {v : Int32} {n : Nat} (hn : n < 2 ^ 31) (h : v < 0 ∨ nI (n + 1) ≤ v) (hn1 : n + 1 < 2 ^ 31) : f_X8_in v 0 (nI n) = some 0 := by
  unfold f_X8_in
  rcases h with h | h
  · rw [if_pos h]
  · by_cases h0 : v < 0
    · rw [if_pos h0]
    · rw [if_neg h0, if_pos]
      rw [Int32.le_iff_toInt_le, nI_toInt hn1] at h
      rw [Int32.lt_iff_toInt_lt, nI_toInt hn]
      omega
/-- what matters of a model -/
theorem Sim.mv {s : HS} {x x' : MS} {ps : PS} (h : Sim s x ps) (hk : ∀ k, k = 1 ∨ k = 6 ∨ k = 7 → x'.1.1 k = x.1.1 k) (hA : ∀ i, i = 0 ∨ i = 1 ∨ 10 ≤ i → x'.1.2 i = x.1.2 i) : Sim s x' ps := by
  obtain ⟨g, ⟨u, u1, u2, u3, u4⟩, ⟨⟨st, a1, a2, a3⟩, b1, b2, b3, b4⟩, r⟩ := h
  refine ⟨?_, ⟨u, u1, u2, (hk 7 (by omega)).trans u3, fun i hi => ?_⟩, ⟨⟨st, a1, a2, (hk 1 (by omega)).trans a3⟩, by rw [hA 0 (by omega)]; exact b1, by rw [hA 0 (by omega)]; exact b2, b3.trans (hk 6 (by omega)).symm, b4⟩, r⟩
  · show GR ps s.2.1 (x'.1.2 1)
    rw [hA 1 (by omega)]; exact g
  · rw [hA (10 + i) (by omega)]; exact u4 i hi
theorem Sim.t0 {s : HS} {x : MS} {ps : PS} (h : Sim s x ps) (v : Int32) : Sim s ((ss x.1 0 v), x.2) ps := h.mv (fun k hk => upd_n (by omega)) (fun _ _ => rfl)
/-- the reference without a throw, as a call begins -/
abbrev x0 (x : MS) : MS := ((ss x.1 0 0), x.2)
abbrev xT (x : MS) (c : Int32) : MS := ((ss (x0 x).1 0 c), (x0 x).2)
theorem Sim.xT {s : HS} {x : MS} {ps : PS} (h : Sim s x ps) (c : Int32) : Sim s (xT x c) ps := (h.t0 0).t0 c
theorem x_fail0 {x : MS} {c : Int32} (h : x.1.1 0 = 0) : f_X8_fails x 0 c = some (0, x) := by
  unfold f_X8_fails f_X8_fails_J16
  rw [if_pos rfl, if_pos h]
theorem x_fail1 {x : MS} {c : Int32} (h : x.1.1 0 = 0) (hc : ¬ c = 0) : f_X8_fails x 1 c = some (1, ((ss x.1 0 c), x.2)) := by
  unfold f_X8_fails f_X8_fails_J16
  rw [if_neg (show ¬ (1 : Int32) = 0 by decide), if_pos h]
  exact if_neg hc
section C
variable {s : HS} {x : MS} {ps : PS} {np : Nat}
theorem x_noPl (h1 : dd x 1 = nI np) (hn : 2 ≤ np ∧ np ≤ 4) {p : Nat} (hp : p < np) : f_X8_noPlayer (x0 x) (nI p) = some (0, x0 x) := by
  unfold f_X8_noPlayer f_X8_noPlayer_J22
  rw [gl_1, cl_1, show (x0 x).1.2 1 1 = nI np from h1, show nI np - 1 = nI (np - 1) from nI_sub (b := 1) (by omega), show f_X8_in (nI p) 0 (nI (np - 1)) = some 1 from (x_in (b := 0) (by omega) (by omega) (by omega)).trans (by rw [if_pos ⟨Nat.zero_le _, by omega⟩]), bd1_S, if_neg (show ¬ (1 : Int32) = 0 by decide), x_fail0 rfl, bd2_S]
  rfl
theorem x_noPlT (h1 : dd x 1 = nI np) (hn : 2 ≤ np ∧ np ≤ 4) {p : Int32} (hp : p < 0 ∨ nI np ≤ p) : f_X8_noPlayer (x0 x) p = some (1, xT x 1) := by
  unfold f_X8_noPlayer f_X8_noPlayer_J22
  rw [gl_1, cl_1, show (x0 x).1.2 1 1 = nI np from h1, show nI np - 1 = nI (np - 1) from nI_sub (b := 1) (by omega), x_inOut (by omega) (by rw [show np - 1 + 1 = np by omega]; exact hp) (by omega), bd1_S, if_pos rfl, x_fail1 rfl (by decide), bd2_S]
  rfl
theorem x_noTr (h1 : dd x 1 = nI np) (hn : 2 ≤ np ∧ np ≤ 4) {p : Nat} (hp : p ≤ np) : f_X8_noTrain (x0 x) (nI p) = some (0, x0 x) := by
  unfold f_X8_noTrain f_X8_noTrain_J20
  rw [gl_1, cl_1, show (x0 x).1.2 1 1 = nI np from h1, show f_X8_in (nI p) 0 (nI np) = some 1 from (x_in (b := 0) (by omega) (by omega) (by omega)).trans (by rw [if_pos ⟨Nat.zero_le _, by omega⟩]), bd1_S, if_neg (show ¬ (1 : Int32) = 0 by decide), x_fail0 rfl, bd2_S]
  rfl
theorem x_noTrT (h1 : dd x 1 = nI np) (hn : 2 ≤ np ∧ np ≤ 4) {p : Int32} (hp : p < 0 ∨ nI (np + 1) ≤ p) : f_X8_noTrain (x0 x) p = some (1, xT x 1) := by
  unfold f_X8_noTrain f_X8_noTrain_J20
  rw [gl_1, cl_1, show (x0 x).1.2 1 1 = nI np from h1, x_inOut (by omega) hp (by omega), bd1_S, if_pos rfl, x_fail1 rfl (by decide), bd2_S]
  rfl
theorem x_noTi {mx : Nat} (h0 : dd x 0 = nI mx) (hm : mx ≤ 9) (h1 : dd x 1 = nI np) (hn : 2 ≤ np ∧ np ≤ 4) {c t : Nat} (hc : c < 100) (hin : inS mx c) (ht : t ≤ np) : f_X8_noTileOn (x0 x) (nI c) (nI t) = some (0, x0 x) := by
  unfold f_X8_noTileOn f_X8_noTileOn_J25
  rw [x_noTr h1 hn ht, bd2_S, if_pos rfl, x_isTile (mx := mx) (by omega) (by omega) h0 hm hc, if_pos (show c / 10 ≤ c % 10 ∧ c % 10 ≤ mx from hin), bd1_S, if_neg (show ¬ (1 : Int32) = 0 by decide), x_fail0 rfl, bd2_S, if_pos rfl]
theorem x_noTiT1 (h1 : dd x 1 = nI np) (hn : 2 ≤ np ∧ np ≤ 4) {c t : Int32} (ht : t < 0 ∨ nI (np + 1) ≤ t) : f_X8_noTileOn (x0 x) c t = some (1, xT x 1) := by
  unfold f_X8_noTileOn
  rw [x_noTrT h1 hn ht, bd2_S, if_neg (show ¬ (1 : Int32) = 0 by decide)]
/-- not a tile of the set -/
def noT (mx : Nat) (c : Int32) : Prop := (c < 0 ∨ 100 ≤ c) ∨ ∃ k, k < 100 ∧ c = nI k ∧ ¬ inS mx k
theorem noT.or (mx : Nat) (c : Int32) : (∃ k, k < 100 ∧ c = nI k ∧ inS mx k) ∨ noT mx c := by
  rcases rng c 100 (by omega) with ⟨k, k1, k2⟩ | h
  · rcases Classical.em (inS mx k) with z | z
    · exact Or.inl ⟨k, k1, k2, z⟩
    · exact Or.inr (Or.inr ⟨k, k1, k2, z⟩)
  · exact Or.inr (Or.inl h)
theorem x_noTiT2 {mx : Nat} (h0 : dd x 0 = nI mx) (hm : mx ≤ 9) (h1 : dd x 1 = nI np) (hn : 2 ≤ np ∧ np ≤ 4) {c : Int32} {t : Nat} (ht : t ≤ np) (hc : noT mx c) : f_X8_noTileOn (x0 x) c (nI t) = some (1, xT x 2) := by
  have e1 : f_X8_isTile 1464 ((x0 x).1.2 1) c = some 0 := by
    rcases hc with h | ⟨k, k1, rfl, k3⟩
    · exact x_isTileOut h
    · rw [x_isTile (mx := mx) (by omega) (by omega) h0 hm k1, if_neg (show ¬ (k / 10 ≤ k % 10 ∧ k % 10 ≤ mx) from k3)]
  unfold f_X8_noTileOn f_X8_noTileOn_J25
  rw [x_noTr h1 hn ht, bd2_S, if_pos rfl, e1, bd1_S, if_pos rfl, x_fail1 rfl (by decide), bd2_S, if_neg (show ¬ (1 : Int32) = 0 by decide)]
def IO : String := "java/lang/IndexOutOfBoundsException"
def IA : String := "java/lang/IllegalArgumentException"
def IS : String := "java/lang/IllegalStateException"
def NE : String := "java/util/NoSuchElementException"
theorem c_pl (h1 : s.2.1.1.1 1 = nI np) (hn : np ≤ 4) {p : Nat} (hp : p < np) : f_X7_checkPlayer s (nI p) = some () ∧ t_X7_checkPlayer s (nI p) = none := by
  unfold f_X7_checkPlayer t_X7_checkPlayer
  rw [if_neg (nI_lt0 (by omega)), if_neg (nI_lt0 (by omega)), h1, ie_lt (by omega) (by omega), ie_lt (by omega) (by omega), if_pos hp, if_pos hp]
  exact ⟨rfl, rfl⟩
theorem c_plT (h1 : s.2.1.1.1 1 = nI np) {p : Int32} (hp : p < 0 ∨ nI np ≤ p) : t_X7_checkPlayer s p = some IO := by
  unfold t_X7_checkPlayer
  rcases hp with h | h
  · rw [if_pos h]; rfl
  · by_cases h0 : p < 0
    · rw [if_pos h0]; rfl
    · rw [if_neg h0, h1, if_neg (Int32.not_lt.mpr h)]; rfl
theorem c_tr (h1 : s.2.1.1.1 1 = nI np) (hn : np ≤ 4) {p : Nat} (hp : p ≤ np) : f_X7_checkTrain s (nI p) = some () ∧ t_X7_checkTrain s (nI p) = none := by
  unfold f_X7_checkTrain t_X7_checkTrain
  rw [if_neg (nI_lt0 (by omega)), if_neg (nI_lt0 (by omega)), h1, ie_le (by omega) (by omega), ie_le (by omega) (by omega), if_pos hp, if_pos hp]
  exact ⟨rfl, rfl⟩
theorem c_trT (h1 : s.2.1.1.1 1 = nI np) (hn : np ≤ 4) {p : Int32} (hp : p < 0 ∨ nI (np + 1) ≤ p) : t_X7_checkTrain s p = some IO := by
  unfold t_X7_checkTrain
  rcases hp with h | h
  · rw [if_pos h]; rfl
  · by_cases h0 : p < 0
    · rw [if_pos h0]; rfl
    · rw [if_neg h0, h1, if_neg]
      · rfl
      · rw [Int32.le_iff_toInt_le, nI_toInt (by omega)] at h ⊢
        omega
theorem c_ti {mx c : Nat} (h0 : s.2.1.1.1 0 = nI mx) (hm : mx ≤ 9) (hc : c < 100) (hin : inS mx c) : f_X7_checkTile s (nI c) = some () ∧ t_X7_checkTile s (nI c) = none := by
  unfold f_X7_checkTile t_X7_checkTile
  rw [e_inSet h0 hm hc, if_pos (show c / 10 ≤ c % 10 ∧ c % 10 ≤ mx from hin), bd1_S, bd1_S]
  exact ⟨rfl, rfl⟩
theorem c_tiT {mx : Nat} {c : Int32} (h0 : s.2.1.1.1 0 = nI mx) (hm : mx ≤ 9) (hc : noT mx c) : t_X7_checkTile s c = some IA := by
  unfold t_X7_checkTile
  rcases hc with h | ⟨k, k1, rfl, k3⟩
  · rw [e_inSetOut h, bd1_S]; rfl
  · rw [e_inSet h0 hm k1, if_neg (show ¬ (k / 10 ≤ k % 10 ∧ k % 10 ≤ mx) from k3), bd1_S]; rfl
theorem c_wh {w n : Nat} (hw : w < n) (hn : n < 100) : f_X7_checkWhat (nI w) (nI n) = some () ∧ t_X7_checkWhat (nI w) (nI n) = none := by
  unfold f_X7_checkWhat t_X7_checkWhat
  rw [if_neg (nI_lt0 (by omega)), if_neg (nI_lt0 (by omega)), ie_lt (by omega) (by omega), ie_lt (by omega) (by omega), if_pos hw, if_pos hw]
  exact ⟨rfl, rfl⟩
theorem c_whT {w : Int32} {n : Nat} (hw : w < 0 ∨ nI n ≤ w) : t_X7_checkWhat w (nI n) = some IA := by
  unfold t_X7_checkWhat
  rcases hw with h | h
  · rw [if_pos h]; rfl
  · by_cases h0 : w < 0
    · rw [if_pos h0]; rfl
    · rw [if_neg h0, if_neg (Int32.not_lt.mpr h)]; rfl
theorem th_N {α : Type} {k : Option α} : th none k = k := rfl
theorem th_S {α : Type} {E : α} {k : Option α} : th (some E) k = some E := rfl
end C
