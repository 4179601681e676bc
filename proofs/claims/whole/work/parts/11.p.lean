/-! the reference's rows of numbers -/
def vl (a : Nat → Int32) (m e : Nat) : Nat := (a (10 * m + e)).toNatClampNeg
/-- a number that stands -/
def NV (c : Nat) (a : Nat → Int32) (m e : Nat) : Prop := a (10 * m + e) = nI (vl a m e) ∧ vl a m e ≤ c * (12 - pc m)
theorem NV.of {c m e v : Nat} {a : Nat → Int32} (h : a (10 * m + e) = nI v) (hv : v ≤ c * (12 - pc m)) (hc : c ≤ 18) : NV c a m e ∧ vl a m e = v := by
  have h1 : c * (12 - pc m) ≤ 18 * 12 := Nat.mul_le_mul hc (by omega)
  have h2 : vl a m e = v := by unfold vl; rw [h, nI_clamp (by omega)]
  exact ⟨⟨by rw [h2]; exact h, by rw [h2]; exact hv⟩, h2⟩
/-- what is laid is right, of the first k tiles -/
def RK (tl : Nat → Nat) (w : Nat → Nat) (a : Nat → Int32) (m e k v : Nat) : Prop := (∀ j, j < k → m.testBit j = false → fitN (tl j) e → vl a (m ||| 2 ^ j) (oth (tl j) e) + w j ≤ v) ∧ (v = 0 ∨ ∃ j, j < k ∧ m.testBit j = false ∧ fitN (tl j) e ∧ v = vl a (m ||| 2 ^ j) (oth (tl j) e) + w j)
theorem RK.next {tl w : Nat → Nat} {a : Nat → Int32} {m e k v : Nat} (h : RK tl w a m e k v) (hs : m.testBit k = true ∨ ¬ fitN (tl k) e) : RK tl w a m e (k + 1) v := by
  refine ⟨fun j hj hb hf => ?_, h.2.imp id (fun ⟨j, j1, j2, j3, j4⟩ => ⟨j, by omega, j2, j3, j4⟩)⟩
  by_cases z : j = k
  · subst z
    rcases hs with hs | hs
    · rw [hs] at hb; exact absurd hb (by decide)
    · exact absurd hf hs
  · exact h.1 j (by omega) hb hf
theorem RK.take {tl w : Nat → Nat} {a : Nat → Int32} {m e k v : Nat} (h : RK tl w a m e k v) (hb : m.testBit k = false) (hf : fitN (tl k) e) : RK tl w a m e (k + 1) (if v < vl a (m ||| 2 ^ k) (oth (tl k) e) + w k then vl a (m ||| 2 ^ k) (oth (tl k) e) + w k else v) := by
  by_cases hc : v < vl a (m ||| 2 ^ k) (oth (tl k) e) + w k
  · rw [if_pos hc]
    refine ⟨fun j hj hb hf => ?_, Or.inr ⟨k, by omega, hb, hf, rfl⟩⟩
    by_cases z : j = k
    · rw [z]; exact Nat.le_refl _
    · have := h.1 j (by omega) hb hf; omega
  · rw [if_neg hc]
    refine ⟨fun j hj hb hf => ?_, h.2.imp id (fun ⟨j, j1, j2, j3, j4⟩ => ⟨j, by omega, j2, j3, j4⟩)⟩
    by_cases z : j = k
    · rw [z]; omega
    · exact h.1 j (by omega) hb hf
theorem RK.cg {tl w : Nat → Nat} {a a' : Nat → Int32} {m e k v : Nat} (h : RK tl w a m e k v) (he : ∀ j, j < k → m.testBit j = false → fitN (tl j) e → vl a' (m ||| 2 ^ j) (oth (tl j) e) = vl a (m ||| 2 ^ j) (oth (tl j) e)) : RK tl w a' m e k v :=
  ⟨fun j hj hb hf => by rw [he j hj hb hf]; exact h.1 j hj hb hf, h.2.imp id (fun ⟨j, j1, j2, j3, j4⟩ => ⟨j, j1, j2, j3, by rw [he j j1 j2 j3]; exact j4⟩)⟩
theorem x_other {t e : Nat} (ht : t < 100) (he : e < 10) : f_X8_other (nI t) (nI e) = some (nI (oth t e)) := by
  unfold f_X8_other oth
  rw [nI_hi (by omega), i_10, nI_div (by omega) (by omega), ie_eq (by omega) (by omega)]
  split <;> rfl
/-- what laying rows leaves alone -/
def LW (x x' : MS) : Prop := x'.1.1 = x.1.1 ∧ (∀ i, ¬ i = 5 → ¬ i = 6 → x'.1.2 i = x.1.2 i) ∧ x'.2 = x.2
theorem LW.rf {x : MS} : LW x x := ⟨rfl, fun _ _ _ => rfl, rfl⟩
theorem LW.tr {x y z : MS} (h : LW x y) (k : LW y z) : LW x z := ⟨k.1.trans h.1, fun i a b => (k.2.1 i a b).trans (h.2.1 i a b), k.2.2.trans h.2.2⟩
section M
variable {x : MS} {n : Nat} {tl : Nat → Nat}
theorem x_layRow {m e : Nat} (hn : n ≤ 12) (hx : x.1.1 12 = nI n) (ht : ∀ i, i < n → x.1.2 4 i = nI (tl i) ∧ tl i < 100) (hm : m < 2 ^ n) (he : e < 10) (h5 : ∀ j, j < n → m.testBit j = false → fitN (tl j) e → NV 1 (x.1.2 5) (m ||| 2 ^ j) (oth (tl j) e)) (h6 : ∀ j, j < n → m.testBit j = false → fitN (tl j) e → NV 18 (x.1.2 6) (m ||| 2 ^ j) (oth (tl j) e)) :
    ∃ x', f_X8_layRow x (nI m) (nI e) = some x' ∧ LW x x' ∧ (∀ j, ¬ j = 10 * m + e → x'.1.2 5 j = x.1.2 5 j) ∧ (∀ j, ¬ j = 10 * m + e → x'.1.2 6 j = x.1.2 6 j) ∧ (∃ v, v ≤ 1 * (12 - pc m) ∧ x'.1.2 5 (10 * m + e) = nI v ∧ RK tl (fun _ => 1) (x.1.2 5) m e n v) ∧ ∃ v, v ≤ 18 * (12 - pc m) ∧ x'.1.2 6 (10 * m + e) = nI v ∧ RK tl (pp tl) (x.1.2 6) m e n v := by
  have h12 := p12 hn
  have hpc := pc_le m
  have hI : 10 * m + e < 40960 := by omega
  have eI : (10 * nI m) + nI e = nI (10 * m + e) := by rw [i_10, nI_mul, nI_add]
  unfold f_X8_layRow
  rw [eI, inb_t hI (by omega), gd_T, nI_clamp (by omega), nmd_S, gd_T, nmd_S]
  refine lr2 (B := f_X8_layRow_B24 (nI m) (nI e)) (fun (o : Option MS) => ∃ x', o = some x' ∧ LW x x' ∧ (∀ j, ¬ j = 10 * m + e → x'.1.2 5 j = x.1.2 5 j) ∧ (∀ j, ¬ j = 10 * m + e → x'.1.2 6 j = x.1.2 6 j) ∧ (∃ v, v ≤ 1 * (12 - pc m) ∧ x'.1.2 5 (10 * m + e) = nI v ∧ RK tl (fun _ => 1) (x.1.2 5) m e n v) ∧ ∃ v, v ≤ 18 * (12 - pc m) ∧ x'.1.2 6 (10 * m + e) = nI v ∧ RK tl (pp tl) (x.1.2 6) m e n v) (fun (i : Nat) (v : Int32) (y : MS) => ∃ k, v = nI k ∧ k + i = n ∧ LW x y ∧ (∀ j, ¬ j = 10 * m + e → y.1.2 5 j = x.1.2 5 j) ∧ (∀ j, ¬ j = 10 * m + e → y.1.2 6 j = x.1.2 6 j) ∧ (∃ v, v ≤ 1 * (12 - pc m) ∧ y.1.2 5 (10 * m + e) = nI v ∧ RK tl (fun _ => 1) (x.1.2 5) m e k v) ∧ ∃ v, v ≤ 18 * (12 - pc m) ∧ y.1.2 6 (10 * m + e) = nI v ∧ RK tl (pp tl) (x.1.2 6) m e k v) ?_ FUEL n 0 _ (FUEL_lt (by omega)) ⟨0, rfl, by omega, ⟨rfl, fun i i5 i6 => ?_, rfl⟩, fun j hj => upd_n hj, fun j hj => upd_n hj, ⟨0, by omega, upd_s, fun j hj => absurd hj (Nat.not_lt_zero _), Or.inl rfl⟩, ⟨0, by omega, upd_s, fun j hj => absurd hj (Nat.not_lt_zero _), Or.inl rfl⟩⟩
  · rintro rec i v y ⟨k, rfl, hk, hL, y5, y6, ⟨v5, b5, c5, r5⟩, v6, b6, c6, r6⟩ ih
    unfold f_X8_layRow_B24
    rw [show y.1.1 12 = nI n by rw [hL.1]; exact hx, ie_le (by omega) (by omega)]
    by_cases hkn : n ≤ k
    · have : k = n := by omega
      subst this
      rw [if_pos hkn]
      exact ⟨y, rfl, hL, y5, y6, ⟨v5, b5, c5, r5⟩, v6, b6, c6, r6⟩
    · have htk := ht k (by omega)
      have y4 : y.1.2 4 k = nI (tl k) := by rw [hL.2.1 4 (by omega) (by omega)]; exact htk.1
      simp only [eI, nI_1]
      rw [if_neg hkn, shr_1 (by omega) (by omega), inb_t (show k < 12 by omega) (by omega), gd_T, nI_clamp (by omega), y4, x_fits (by omega) (by omega), bd1_S]
      have skip : (m.testBit k = true ∨ ¬ fitN (tl k) e) → ∃ x', rec (nI (k + 1)) y = some x' ∧ LW x x' ∧ (∀ j, ¬ j = 10 * m + e → x'.1.2 5 j = x.1.2 5 j) ∧ (∀ j, ¬ j = 10 * m + e → x'.1.2 6 j = x.1.2 6 j) ∧ (∃ v, v ≤ 1 * (12 - pc m) ∧ x'.1.2 5 (10 * m + e) = nI v ∧ RK tl (fun _ => 1) (x.1.2 5) m e n v) ∧ ∃ v, v ≤ 18 * (12 - pc m) ∧ x'.1.2 6 (10 * m + e) = nI v ∧ RK tl (pp tl) (x.1.2 6) m e n v := fun z => ih (i - 1) _ _ (by omega) ⟨k + 1, rfl, by omega, hL, y5, y6, ⟨v5, b5, c5, r5.next z⟩, v6, b6, c6, r6.next z⟩
      by_cases hb : m.testBit k = true
      · rw [if_pos hb, if_pos rfl]
        exact skip (Or.inl hb)
      · rw [if_neg hb, if_neg (show ¬ (0 : Int32) = 1 by decide)]
        by_cases hf : tl k / 10 = e ∨ tl k % 10 = e
        · have hb' := Bool.eq_false_iff.mpr hb
          have hor := or_lt hm (show k < n by omega)
          have hpo := pc_add (show k < 12 by omega) hb'
          have hgt := or_gt hb'
          have hpl := pc_le (m ||| 2 ^ k)
          rw [hpo] at hpl
          have hoe := oth_le (e := e) htk.2
          have n5 := h5 k (by omega) hb' hf
          have n6 := h6 k (by omega) hb' hf
          rw [NV, hpo] at n5 n6
          have pk : pp tl k = tl k / 10 + tl k % 10 := by unfold pp; rw [if_pos htk.2]
          have ppl := pp_le tl k
          rw [if_pos hf, if_neg (show ¬ (1 : Int32) = 0 by decide), gd_T, x_other htk.2 he, bd1_S, shl_k k (by omega), nI_or (by omega) (pw_lt (by omega)), i_10, nI_mul, nI_add, nmd_S, inb_t hI (by omega), inb_t (show 10 * (m ||| 2 ^ k) + oth (tl k) e < 40960 by omega) (by omega), gd_T, gd_T, gd_T, nI_clamp (show 10 * m + e < 2 ^ 31 by omega), nI_clamp (show 10 * (m ||| 2 ^ k) + oth (tl k) e < 2 ^ 31 by omega), c5, y5 _ (by omega), n5.1, nI_1, nmd_S, gd_T, gd_T, gd_T, x_pipsOf (by omega), bd1_S, c6, y6 _ (by omega), n6.1, gd_T, nmd_S, ie_lt (by omega) (by omega)]
          rw [show nI (vl (x.1.2 6) (m ||| 2 ^ k) (oth (tl k) e)) + pipI (tl k) = nI (vl (x.1.2 6) (m ||| 2 ^ k) (oth (tl k) e) + pp tl k) by rw [pk]; exact nI_add _ _, ie_lt (by omega) (by omega)]
          refine ih (i - 1) _ _ (by omega) ⟨k + 1, rfl, by omega, hL.tr ⟨rfl, fun q q5 q6 => ?_, rfl⟩, fun j hj => ?_, fun j hj => ?_, ⟨_, ?_, ?_, r5.take hb' hf⟩, _, ?_, ?_, r6.take hb' hf⟩
          · show upA (upA y.1.2 5 _) 6 _ q = _
            rw [upA_n q6, upA_n q5]
          · show upd (y.1.2 5) (10 * m + e) _ j = _
            rw [upd_n hj]; exact y5 j hj
          · show upd (y.1.2 6) (10 * m + e) _ j = _
            rw [upd_n hj]; exact y6 j hj
          · split <;> omega
          · show upd (y.1.2 5) (10 * m + e) _ (10 * m + e) = _
            rw [upd_s]
            split <;> rfl
          · split <;> omega
          · show upd (y.1.2 6) (10 * m + e) _ (10 * m + e) = _
            rw [upd_s]
            split <;> rfl
        · rw [if_neg hf, if_pos rfl]
          exact skip (Or.inr hf)
  · show upA (upA x.1.2 5 _) 6 _ i = _
    rw [upA_n i6, upA_n i5]
/-- all is right from the set s on -/
def RA (tl : Nat → Nat) (n : Nat) (w : Nat → Nat) (c : Nat) (a : Nat → Int32) (s e0 : Nat) : Prop := ∀ m e, m < 2 ^ n → e < 10 → (s < m ∨ (m = s ∧ e < e0)) → NV c a m e ∧ RK tl w a m e n (vl a m e)
theorem RA.step {w : Nat → Nat} {c s e : Nat} {a a' : Nat → Int32} (hc : c ≤ 18) (h : RA tl n w c a s e) (hs : s < 2 ^ n) (he : e < 10) (htl : ∀ i, i < n → tl i < 100) (ha : ∀ j, ¬ j = 10 * s + e → a' j = a j) {v : Nat} (hv : v ≤ c * (12 - pc s)) (hav : a' (10 * s + e) = nI v) (hR : RK tl w a s e n v) : RA tl n w c a' s (e + 1) := by
  have same : ∀ m e', e' < 10 → ¬ (m = s ∧ e' = e) → vl a' m e' = vl a m e' := fun m e' h1 h2 => by
    unfold vl
    rw [ha _ (by omega)]
  have up : ∀ m j, m.testBit j = false → m < m ||| 2 ^ j := fun m j hb => or_gt hb
  intro m e' hm he' hq
  by_cases z : m = s ∧ e' = e
  · obtain ⟨z1, z2⟩ := z
    subst z1
    subst z2
    obtain ⟨h1, h2⟩ := NV.of hav hv hc
    refine ⟨h1, ?_⟩
    rw [h2]
    refine hR.cg (fun j hj hb hf => same _ _ (oth_le (htl j hj)) ?_)
    have := up m j hb
    omega
  · obtain ⟨h1, h2⟩ := h m e' hm he' (by omega)
    have hs2 := same m e' he' z
    refine ⟨⟨?_, by rw [hs2]; exact h1.2⟩, ?_⟩
    · rw [ha _ (by omega), hs2]; exact h1.1
    · rw [hs2]
      refine h2.cg (fun j hj hb hf => same _ _ (oth_le (htl j hj)) ?_)
      have := up m j hb
      omega
theorem x_laySet {s : Nat} (hn : n ≤ 12) (hx : x.1.1 12 = nI n) (ht : ∀ i, i < n → x.1.2 4 i = nI (tl i) ∧ tl i < 100) (hs : s < 2 ^ n) (h5 : RA tl n (fun _ => 1) 1 (x.1.2 5) s 0) (h6 : RA tl n (pp tl) 18 (x.1.2 6) s 0) (rec : Int32 → MS → Option (Int32 × MS)) : ∃ x', itr2 (f_X8_layRows_B71 rec (nI s)) FUEL 0 x = rec (nI s + (-1)) x' ∧ LW x x' ∧ RA tl n (fun _ => 1) 1 (x'.1.2 5) s 10 ∧ RA tl n (pp tl) 18 (x'.1.2 6) s 10 := by
  have htl : ∀ i, i < n → tl i < 100 := fun i hi => (ht i hi).2
  refine lr2 (B := f_X8_layRows_B71 rec (nI s)) (fun (o : Option (Int32 × MS)) => ∃ x', o = rec (nI s + (-1)) x' ∧ LW x x' ∧ RA tl n (fun _ => 1) 1 (x'.1.2 5) s 10 ∧ RA tl n (pp tl) 18 (x'.1.2 6) s 10) (fun (i : Nat) (v : Int32) (y : MS) => ∃ e, v = nI e ∧ e + i = 10 ∧ LW x y ∧ RA tl n (fun _ => 1) 1 (y.1.2 5) s e ∧ RA tl n (pp tl) 18 (y.1.2 6) s e) ?_ FUEL 10 0 x (FUEL_lt (by omega)) ⟨0, rfl, by omega, LW.rf, h5, h6⟩
  rintro r i v y ⟨e, rfl, he, hL, a5, a6⟩ ih
  unfold f_X8_layRows_B71
  rw [i_10, ie_le (by omega) (by omega)]
  by_cases h10 : 10 ≤ e
  · have : e = 10 := by omega
    subst this
    rw [if_pos h10]
    exact ⟨y, rfl, hL, a5, a6⟩
  · obtain ⟨x', c1, c2, c3, c4, ⟨v5, d1, d2, d3⟩, v6, d4, d5, d6⟩ := x_layRow (x := y) (tl := tl) (m := s) (e := e) hn (by rw [hL.1]; exact hx) (fun i hi => by rw [hL.2.1 4 (by omega) (by omega)]; exact ht i hi) hs (by omega)
      (fun j hj hb hf => (a5 _ _ (or_lt hs hj) (oth_le (htl j hj)) (Or.inl (or_gt hb))).1)
      (fun j hj hb hf => (a6 _ _ (or_lt hs hj) (oth_le (htl j hj)) (Or.inl (or_gt hb))).1)
    rw [if_neg h10, c1, bd1_S, nI_1]
    exact ih (i - 1) _ _ (by omega) ⟨e + 1, rfl, by omega, hL.tr c2, a5.step (by omega) hs (by omega) htl c3 d1 d2 d3, a6.step (by omega) hs (by omega) htl c4 d4 d5 d6⟩
theorem RA.dn {w : Nat → Nat} {c s : Nat} {a : Nat → Int32} (h : RA tl n w c a (s + 1) 10) : RA tl n w c a s 0 := fun m e hm he hq => h m e hm he (by omega)
theorem x_laySets (hn : n ≤ 12) (hx : x.1.1 12 = nI n) (ht : ∀ i, i < n → x.1.2 4 i = nI (tl i) ∧ tl i < 100) : ∃ x', itr2 f_X8_layRows_B64 FUEL (nI (2 ^ n - 1)) x = some (1, x') ∧ LW x x' ∧ RA tl n (fun _ => 1) 1 (x'.1.2 5) 0 10 ∧ RA tl n (pp tl) 18 (x'.1.2 6) 0 10 := by
  have h12 := p12 hn
  have hpos : 0 < 2 ^ n := Nat.pow_pos (by omega)
  refine lr2 (B := f_X8_layRows_B64) (fun (o : Option (Int32 × MS)) => ∃ x', o = some (1, x') ∧ LW x x' ∧ RA tl n (fun _ => 1) 1 (x'.1.2 5) 0 10 ∧ RA tl n (pp tl) 18 (x'.1.2 6) 0 10) (fun (i : Nat) (v : Int32) (y : MS) => LW x y ∧ ((∃ s, v = nI s ∧ i = s + 1 ∧ s < 2 ^ n ∧ RA tl n (fun _ => 1) 1 (y.1.2 5) s 0 ∧ RA tl n (pp tl) 18 (y.1.2 6) s 0) ∨ (v = -1 ∧ RA tl n (fun _ => 1) 1 (y.1.2 5) 0 10 ∧ RA tl n (pp tl) 18 (y.1.2 6) 0 10))) ?_ FUEL (2 ^ n) _ x (FUEL_lt (by omega)) ⟨LW.rf, Or.inl ⟨2 ^ n - 1, rfl, by omega, by omega, fun m e hm he hq => by omega, fun m e hm he hq => by omega⟩⟩
  rintro rec i v y ⟨hL, ⟨s, rfl, rfl, hs, a5, a6⟩ | ⟨rfl, a5, a6⟩⟩ ih
  · obtain ⟨x', c1, c2, c3, c4⟩ := x_laySet (x := y) (tl := tl) hn (by rw [hL.1]; exact hx) (fun i hi => by rw [hL.2.1 4 (by omega) (by omega)]; exact ht i hi) hs a5 a6 rec
    unfold f_X8_layRows_B64
    rw [if_neg (nI_lt0 (by omega)), c1]
    by_cases hs0 : s = 0
    · subst hs0
      exact ih 0 _ _ (by omega) ⟨hL.tr c2, Or.inr ⟨by decide, c3, c4⟩⟩
    · obtain ⟨t, rfl⟩ : ∃ t, s = t + 1 := ⟨s - 1, by omega⟩
      rw [show nI (t + 1) + (-1) = nI t from nI_am1 (by omega)]
      exact ih (t + 1) _ _ (by omega) ⟨hL.tr c2, Or.inl ⟨t, rfl, rfl, by omega, c3.dn, c4.dn⟩⟩
  · unfold f_X8_layRows_B64
    rw [if_pos (by decide)]
    exact ⟨y, rfl, hL, a5, a6⟩
theorem x_layRows {p : Int32} (hT : TL (fun c => dd x (19 + c)) p n tl) (hn : n ≤ 12) : ∃ x', f_X8_layRows x p = some (1, x') ∧ (∀ k, ¬ k = 12 → x'.1.1 k = x.1.1 k) ∧ (∀ i, ¬ i = 4 → ¬ i = 5 → ¬ i = 6 → x'.1.2 i = x.1.2 i) ∧ x'.2 = x.2 ∧ (∀ i, i < n → x'.1.2 4 i = nI (tl i) ∧ tl i < 100) ∧ RA tl n (fun _ => 1) 1 (x'.1.2 5) 0 10 ∧ RA tl n (pp tl) 18 (x'.1.2 6) 0 10 := by
  obtain ⟨hT1, hT2⟩ := hT
  have hn2 : cn (fun c => decide (dd x (19 + c) = p)) 0 100 = n := hT1
  have h12 := p12 hn
  unfold f_X8_layRows
  rw [x_hand, bd1_S, hT1, i_12, ie_le (by omega) (by omega), if_pos hn]
  refine lr3 (B := f_X8_layRows_B24 p) (fun (o : Option (Int32 × MS)) => ∃ x', o = some (1, x') ∧ (∀ k, ¬ k = 12 → x'.1.1 k = x.1.1 k) ∧ (∀ i, ¬ i = 4 → ¬ i = 5 → ¬ i = 6 → x'.1.2 i = x.1.2 i) ∧ x'.2 = x.2 ∧ (∀ i, i < n → x'.1.2 4 i = nI (tl i) ∧ tl i < 100) ∧ RA tl n (fun _ => 1) 1 (x'.1.2 5) 0 10 ∧ RA tl n (pp tl) 18 (x'.1.2 6) 0 10) (fun (j : Nat) (v2 v3 : Int32) (y : MS) => ∃ c, v3 = nI c ∧ c + j = 100 ∧ v2 = nI (cn (fun c => decide (dd x (19 + c) = p)) 0 c) ∧ y.1.1 12 = nI n ∧ (∀ k, ¬ k = 12 → y.1.1 k = x.1.1 k) ∧ (∀ i, ¬ i = 4 → y.1.2 i = x.1.2 i) ∧ y.2 = x.2 ∧ ∀ c', c' < c → dd x (19 + c') = p → y.1.2 4 (cn (fun c => decide (dd x (19 + c) = p)) 0 c') = nI c') ?_ FUEL 100 0 0 _ (FUEL_lt (by omega)) ⟨0, rfl, by omega, rfl, rfl, fun k hk => upd_n hk, fun _ _ => rfl, rfl, fun c' hc => absurd hc (Nat.not_lt_zero _)⟩
  rintro rec j v2 v3 y ⟨c, rfl, hj, rfl, y12, yS, yA, y2, yt⟩ ih
  have hmon := cn_mon (P := fun c => decide (dd x (19 + c) = p)) c (100 - c)
  rw [show c + (100 - c) = 100 by omega] at hmon
  unfold f_X8_layRows_B24
  rw [i_100, ie_le (by omega) (by omega)]
  by_cases h100 : 100 ≤ c
  · have hc : c = 100 := by omega
    subst hc
    rw [if_pos h100, hn2, shl_k n (by omega), show nI (2 ^ n) - 1 = nI (2 ^ n - 1) from nI_sub (b := 1) (Nat.pow_pos (by omega)), nmd_S]
    obtain ⟨x', c1, c2, c3, c4⟩ := x_laySets (x := y) (tl := tl) hn y12 (fun i hi => by
      obtain ⟨t1, t2, t3⟩ := hT2 i hi
      have t3' : cn (fun c => decide (dd x (19 + c) = p)) 0 (tl i) = i := t3
      have := yt (tl i) t1 t2
      rw [t3'] at this
      exact ⟨this, t1⟩)
    exact ⟨x', c1, fun k hk => by rw [c2.1]; exact yS k hk, fun i i4 i5 i6 => (c2.2.1 i i5 i6).trans (yA i i4), c2.2.2.trans y2, fun i hi => by
      obtain ⟨t1, t2, t3⟩ := hT2 i hi
      have t3' : cn (fun c => decide (dd x (19 + c) = p)) 0 (tl i) = i := t3
      have := yt (tl i) t1 t2
      rw [t3'] at this
      rw [c2.2.1 4 (by omega) (by omega)]
      exact ⟨this, t1⟩, c3, c4⟩
  · have hsn : cn (fun c => decide (dd x (19 + c) = p)) 0 (c + 1) = _ := cn_snoc c 0
    rw [Nat.zero_add] at hsn
    have eh : f_X8_isInHand y p (nI c) = some (if dd x (19 + c) = p then 1 else 0) := by
      rw [x_isInHand p (by omega)]
      show some (if y.1.2 1 (19 + c) = p then _ else _) = _
      rw [yA 1 (by omega)]
    rw [if_neg h100, eh, bd1_S, nI_1]
    by_cases hh : dd x (19 + c) = p
    · have hlt := cn_lt (P := fun c => decide (dd x (19 + c) = p)) (decide_eq_true hh) (show c < 100 by omega)
      rw [if_pos (decide_eq_true hh)] at hsn
      rw [if_pos hh, if_neg (show ¬ (1 : Int32) = 0 by decide), inb_t (by omega) (by omega), gd_T, nI_clamp (by omega), nmd_S, nI_1]
      refine ih (j - 1) _ _ _ (by omega) ⟨c + 1, rfl, by omega, by rw [hsn], y12, yS, fun i hi => ?_, y2, fun c' hc' hp' => ?_⟩
      · show upA y.1.2 4 _ i = _
        rw [upA_n hi]; exact yA i hi
      · show upd (y.1.2 4) _ (nI c) _ = _
        by_cases z : c' = c
        · rw [z, upd_s]
        · have := cn_lt (P := fun c => decide (dd x (19 + c) = p)) (decide_eq_true hp') (show c' < c by omega)
          rw [upd_n (by omega)]
          exact yt c' (by omega) hp'
    · rw [if_neg (fun z => hh (of_decide_eq_true z))] at hsn
      rw [if_neg hh, if_pos rfl]
      refine ih (j - 1) _ _ _ (by omega) ⟨c + 1, rfl, by omega, by rw [hsn, Nat.add_zero], y12, yS, yA, y2, fun c' hc' hp' => ?_⟩
      by_cases z : c' = c
      · rw [z] at hp'; exact absurd hp' hh
      · exact yt c' (by omega) hp'
theorem RA.d1 {w : Nat → Nat} {c : Nat} {a : Nat → Int32} (h : RA tl n w c a 0 10) : D1 tl n w (vl a) := fun m hm e he => by
  obtain ⟨-, h2⟩ := h m e hm he (by omega)
  exact h2
end M
