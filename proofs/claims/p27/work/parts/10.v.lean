/-! the class reads the text of a node into its steps -/
section RV
variable {b : Nat → Int32} {N : Nat}
def CLT (b : Nat → Int32) (N d : Nat) : Prop := ∀ (nd : NT d) (n dp p x cnt : Nat) (r : List Nat) (rd : RS), okN d nd → d ≤ n → dp + d ≤ 4 → CT rd.2.1 b N p → TA b N p (ntx d nd 2 ++ r) → nx1 r x → rd.1.1 5 = nI cnt → cnt + 2 ^ (d + 1) ≤ 400 →
  ∃ (f k q : Nat) (rd' : RS), f + k = FUEL ∧ k ≤ d ∧ f_X3_readTerm (sumN n) rd (nI dp) = itr3 (f_X3_readTerm_B8 (nI dp) (sumN n)) f 1 (nI k) rd' ∧ RQ b N rd rd' q r cnt (pst d nd)
def CLF (b : Nat → Int32) (N d : Nat) : Prop := ∀ (nd : NT d) (n dp p x cnt : Nat) (r : List Nat) (rd : RS), okN d nd → d ≤ n → dp + d ≤ 4 → CT rd.2.1 b N p → TA b N p (ntx d nd 3 ++ r) → nx1 r x → rd.1.1 5 = nI cnt → cnt + 2 ^ (d + 1) ≤ 400 →
  ∃ (q : Nat) (rd' : RS), f_X3_readFactor (sumN n) rd (nI dp) = some (1, rd') ∧ RQ b N rd rd' q r cnt (pst d nd)
def CLS (b : Nat → Int32) (N d : Nat) : Prop := ∀ (nd : NT d) (lv n dp p x cnt : Nat) (r : List Nat) (rd : RS), lv ≤ 1 → okN d nd → d ≤ n + 1 → dp + d ≤ 5 → CT rd.2.1 b N p → TA b N p (ntx d nd lv ++ r) → nx1 r x → ¬ x = 42 → ¬ x = 47 → rd.1.1 5 = nI cnt → cnt + 2 ^ (d + 1) ≤ 400 →
  ∃ (f k q : Nat) (rd' : RS), f + k = FUEL ∧ k ≤ d ∧ f_X3_readSum (sumN n) rd (nI dp) = itr3 (f_X3_readSum_B8 (nI dp) (sumN n)) f 1 (nI k) rd' ∧ RQ b N rd rd' q r cnt (pst d nd)
/-- a factor alone is a term -/
theorem T_of_F {SN : RS → Int32 → Option (Int32 × RS)} {dp : Int32} {rd rd' : RS} (h : f_X3_readFactor SN rd dp = some (1, rd')) : f_X3_readTerm SN rd dp = itr3 (f_X3_readTerm_B8 dp SN) FUEL 1 (nI 0) rd' := by
  unfold f_X3_readTerm
  rw [h, bd2_S]
  rfl
/-- a term alone is a sum -/
theorem S_of_T {SN : RS → Int32 → Option (Int32 × RS)} {dp v : Int32} {f q x : Nat} {r : List Nat} {rd rd' : RS} (h : f_X3_readTerm SN rd dp = itr3 (f_X3_readTerm_B8 dp SN) f 1 v rd') (hf : 0 < f) (c : CT rd'.2.1 b N q) (hN : N ≤ 500) (ht : TA b N q r) (hx : nx1 r x) (h1 : ¬ x = 42) (h2 : ¬ x = 47) : f_X3_readTerm SN rd dp = some (1, rd') ∧ f_X3_readSum SN rd dp = itr3 (f_X3_readSum_B8 dp SN) FUEL 1 (nI 0) rd' := by
  rw [T_stop hf c hN ht hx h1 h2] at h
  refine ⟨h, ?_⟩
  unfold f_X3_readSum
  rw [h, bd2_S]
  rfl
theorem ntx_leaf {d : Nat} {nd : NT (d + 1)} {lv : Nat} (h : nd.1.1 < 2) : ntx (d + 1) nd lv = leafX nd.1 := if_pos h
theorem ntx_in {d : Nat} {nd : NT (d + 1)} {lv o : Nat} (h : ¬ nd.1.1 < 2) (ho : o = if nd.1.1 < 4 then 1 else 2) (hl : ¬ o < lv) : ntx (d + 1) nd lv = ntx d nd.2.1 o ++ opX nd.1.1 ++ ntx d nd.2.2 (o + 1) := by
  subst ho
  show (if nd.1.1 < 2 then _ else if (if nd.1.1 < 4 then 1 else 2) < lv then _ else _) = _
  rw [if_neg h, if_neg hl]
theorem ntx_par {d : Nat} {nd : NT (d + 1)} {lv o : Nat} (h : ¬ nd.1.1 < 2) (ho : o = if nd.1.1 < 4 then 1 else 2) (hl : o < lv) : ntx (d + 1) nd lv = ([40] ++ (ntx d nd.2.1 o ++ opX nd.1.1 ++ ntx d nd.2.2 (o + 1))) ++ [41] := by
  subst ho
  show (if nd.1.1 < 2 then _ else if (if nd.1.1 < 4 then 1 else 2) < lv then _ else _) = _
  rw [if_neg h, if_pos hl]
theorem FUEL_s {f k d : Nat} (h : f + k = FUEL) (hk : k ≤ d) (hd : d ≤ 10) : ∃ g, f = g + 1 ∧ 0 < g ∧ g + (k + 1) = FUEL := by
  have h : f + k = 2000000 := h
  exact ⟨f - 1, by omega, by omega, by show f - 1 + (k + 1) = 2000000; omega⟩
/-- a product, not in parentheses -/
theorem P_mul {d : Nat} (hd : d ≤ 2) (hT : CLT b N d) (hF : CLF b N d) (hN : N ≤ 500) {nd : NT (d + 1)} {n dp p x cnt : Nat} {r : List Nat} {rd : RS} (h4 : nd.1.1 = 4 ∨ nd.1.1 = 5) (o3 : okN d nd.2.1) (o4 : okN d nd.2.2) (hn : d ≤ n) (hdp : dp + d ≤ 4) (c : CT rd.2.1 b N p) (h : TA b N p (ntx d nd.2.1 2 ++ (opX nd.1.1 ++ (ntx d nd.2.2 3 ++ r)))) (hx : nx1 r x) (h5 : rd.1.1 5 = nI cnt) (hc : cnt + 2 ^ (d + 2) ≤ 400) :
    ∃ (f k q : Nat) (rd' : RS), f + k = FUEL ∧ k ≤ d + 1 ∧ f_X3_readTerm (sumN n) rd (nI dp) = itr3 (f_X3_readTerm_B8 (nI dp) (sumN n)) f 1 (nI k) rd' ∧ RQ b N rd rd' q r cnt (pst d nd.2.1 ++ (pst d nd.2.2 ++ [(nd.1.1, 0)])) := by
  have hp2 : 2 ^ (d + 2) = 2 * 2 ^ (d + 1) := by rw [Nat.pow_succ]; omega
  have hl1 := pst_len d nd.2.1
  have hl2 := pst_len d nd.2.2
  obtain ⟨y, hy, hxy⟩ : ∃ y, nx1 (opX nd.1.1 ++ (ntx d nd.2.2 3 ++ r)) y ∧ ((y = 42 ∧ nd.1.1 = 4) ∨ (y = 47 ∧ nd.1.1 = 5)) := by
    rcases h4 with h4 | h4
    · rw [h4]; exact ⟨42, ⟨sgn_42, Or.inl ⟨_, rfl⟩⟩, Or.inl ⟨rfl, rfl⟩⟩
    · rw [h4]; exact ⟨47, ⟨sgn_47, Or.inl ⟨_, rfl⟩⟩, Or.inr ⟨rfl, rfl⟩⟩
  obtain ⟨f, k, q1, rd1, e1, e2, e3, Q1⟩ := hT nd.2.1 n dp p y cnt _ rd o3 hn hdp c h hy h5 (by omega)
  obtain ⟨g, rfl, hg0, hg⟩ := FUEL_s e1 e2 (by omega)
  obtain ⟨tk', q2, t, a1, a2, a3, a4, a5, a6⟩ := hy.adv Q1.1 hN Q1.2.1
  -- the right side, its blank taken
  obtain ⟨q3, c3, t3⟩ : ∃ q3, CT tk' b N q3 ∧ TA b N q3 (ntx d nd.2.2 3 ++ r) := by
    rcases hxy with ⟨hy1, hk4⟩ | ⟨hy1, hk5⟩
    · rw [hk4] at a4
      have ht : t = 32 :: (ntx d nd.2.2 3 ++ r) := by
        rcases a4 with a4 | a4
        · exact ((List.cons.inj a4).2).symm
        · exact absurd (List.cons.inj a4).1 (by decide)
      rw [ht] at a3
      exact ⟨_, a2.sk a3, a3.tl⟩
    · rw [hk5] at a4
      have ht : t = ntx d nd.2.2 3 ++ r := by
        rcases a4 with a4 | a4
        · exact ((List.cons.inj a4).2).symm
        · exact absurd (List.cons.inj a4).1 (by decide)
      rw [ht] at a3
      exact ⟨_, a2, a3⟩
  have Q1' : RQ b N rd (rd1.1, tk', rd1.2.2) q3 (ntx d nd.2.2 3 ++ r) cnt (pst d nd.2.1) := ⟨c3, t3, Q1.2.2.1, Q1.2.2.2.1, Q1.2.2.2.2.1, Q1.2.2.2.2.2.1, Q1.2.2.2.2.2.2.1, a5.trans Q1.2.2.2.2.2.2.2.1, a6.trans Q1.2.2.2.2.2.2.2.2⟩
  obtain ⟨q4, rd2, b1, Q2⟩ := hF nd.2.2 n dp q3 x (cnt + (pst d nd.2.1).length) r (rd1.1, tk', rd1.2.2) o4 hn hdp c3 t3 hx Q1.2.2.1 (by omega)
  have Q3 := Q1'.tr Q2
  obtain ⟨rd3, d1, Q4⟩ := Q3.add (s := (nd.1.1, 0)) (by rw [List.length_append]; omega)
  refine ⟨g, k + 1, q4, rd3, hg, by omega, ?_, by rw [← List.append_assoc]; exact Q4⟩
  rw [e3, T_go Q1.1 hN Q1.2.1 hy (hxy.imp (fun z => z.1) (fun z => z.1)) (by omega), a1, bd1_S, b1, bd2_S]
  have eo : (if y = 42 then 4 else 5 : Nat) = nd.1.1 := by
    rcases hxy with ⟨z1, z2⟩ | ⟨z1, z2⟩
    · rw [z1, z2]; rfl
    · rw [z1, z2]; rfl
  rw [eo, d1, bd1_S]
/-- a sum, not in parentheses -/
theorem P_add {d : Nat} (hd : d ≤ 2) (hT : CLT b N d) (hS : CLS b N d) (hN : N ≤ 500) {nd : NT (d + 1)} {n dp p x cnt : Nat} {r : List Nat} {rd : RS} (h4 : nd.1.1 = 2 ∨ nd.1.1 = 3) (o3 : okN d nd.2.1) (o4 : okN d nd.2.2) (hn : d ≤ n) (hdp : dp + d ≤ 4) (c : CT rd.2.1 b N p) (h : TA b N p (ntx d nd.2.1 1 ++ (opX nd.1.1 ++ (ntx d nd.2.2 2 ++ r)))) (hx : nx1 r x) (hx1 : ¬ x = 42) (hx2 : ¬ x = 47) (h5 : rd.1.1 5 = nI cnt) (hc : cnt + 2 ^ (d + 2) ≤ 400) :
    ∃ (f k q : Nat) (rd' : RS), f + k = FUEL ∧ k ≤ d + 1 ∧ f_X3_readSum (sumN n) rd (nI dp) = itr3 (f_X3_readSum_B8 (nI dp) (sumN n)) f 1 (nI k) rd' ∧ RQ b N rd rd' q r cnt (pst d nd.2.1 ++ (pst d nd.2.2 ++ [(nd.1.1, 0)])) := by
  have hp2 : 2 ^ (d + 2) = 2 * 2 ^ (d + 1) := by rw [Nat.pow_succ]; omega
  have hl1 := pst_len d nd.2.1
  have hl2 := pst_len d nd.2.2
  obtain ⟨y, hy, hxy⟩ : ∃ y, nx1 (opX nd.1.1 ++ (ntx d nd.2.2 2 ++ r)) y ∧ ((y = 43 ∧ nd.1.1 = 2) ∨ (y = 45 ∧ nd.1.1 = 3)) := by
    rcases h4 with h4 | h4
    · rw [h4]; exact ⟨43, ⟨sgn_43, Or.inl ⟨_, rfl⟩⟩, Or.inl ⟨rfl, rfl⟩⟩
    · rw [h4]; exact ⟨45, ⟨sgn_45, Or.inr ⟨_, rfl⟩⟩, Or.inr ⟨rfl, rfl⟩⟩
  obtain ⟨f, k, q1, rd1, e1, e2, e3, Q1⟩ := hS nd.2.1 1 n dp p y cnt _ rd (Nat.le_refl _) o3 (by omega) (by omega) c h hy (by omega) (by omega) h5 (by omega)
  obtain ⟨g, rfl, hg0, hg⟩ := FUEL_s e1 e2 (by omega)
  obtain ⟨tk', q2, t, a1, a2, a3, a4, a5, a6⟩ := hy.adv Q1.1 hN Q1.2.1
  obtain ⟨q3, c3, t3⟩ : ∃ q3, CT tk' b N q3 ∧ TA b N q3 (ntx d nd.2.2 2 ++ r) := by
    rcases hxy with ⟨hy1, hk4⟩ | ⟨hy1, hk5⟩
    · rw [hk4] at a4
      have ht : t = ntx d nd.2.2 2 ++ r := by
        rcases a4 with a4 | a4
        · exact ((List.cons.inj a4).2).symm
        · exact absurd (List.cons.inj a4).1 (by decide)
      rw [ht] at a3
      exact ⟨_, a2, a3⟩
    · rw [hk5] at a4
      have ht : t = 32 :: (ntx d nd.2.2 2 ++ r) := by
        rcases a4 with a4 | a4
        · exact absurd (List.cons.inj a4).1 (by rw [hy1]; decide)
        · exact ((List.cons.inj (List.cons.inj a4).2).2).symm
      rw [ht] at a3
      exact ⟨_, a2.sk a3, a3.tl⟩
  have Q1' : RQ b N rd (rd1.1, tk', rd1.2.2) q3 (ntx d nd.2.2 2 ++ r) cnt (pst d nd.2.1) := ⟨c3, t3, Q1.2.2.1, Q1.2.2.2.1, Q1.2.2.2.2.1, Q1.2.2.2.2.2.1, Q1.2.2.2.2.2.2.1, a5.trans Q1.2.2.2.2.2.2.2.1, a6.trans Q1.2.2.2.2.2.2.2.2⟩
  obtain ⟨f2, k2, q4, rd2, g1, g2, b1, Q2⟩ := hT nd.2.2 n dp q3 x (cnt + (pst d nd.2.1).length) r (rd1.1, tk', rd1.2.2) o4 hn hdp c3 t3 hx Q1.2.2.1 (by omega)
  have hf2 : 0 < f2 := by have g1 : f2 + k2 = 2000000 := g1; omega
  have b2 := (S_of_T b1 hf2 Q2.1 hN Q2.2.1 hx hx1 hx2).1
  have Q3 := Q1'.tr Q2
  obtain ⟨rd3, d1, Q4⟩ := Q3.add (s := (nd.1.1, 0)) (by rw [List.length_append]; omega)
  refine ⟨g, k + 1, q4, rd3, hg, by omega, ?_, by rw [← List.append_assoc]; exact Q4⟩
  rw [e3, S_go Q1.1 hN Q1.2.1 hy (hxy.imp (fun z => z.1) (fun z => z.1)) (by omega), a1, bd1_S, b2, bd2_S]
  have eo : (if y = 43 then 2 else 3 : Nat) = nd.1.1 := by
    rcases hxy with ⟨z1, z2⟩ | ⟨z1, z2⟩
    · rw [z1, z2]; rfl
    · rw [z1, z2]; rfl
  rw [eo, d1, bd1_S]
end RV
