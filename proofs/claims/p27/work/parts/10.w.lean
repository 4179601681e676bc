/-! every node is read into its steps -/
section RW
variable {b : Nat → Int32} {N : Nat}
theorem P_all (hN : N ≤ 500) : ∀ d, d ≤ 3 → CLT b N d ∧ CLF b N d ∧ CLS b N d
  | 0, _ => by
    have hF : CLF b N 0 := by
      intro nd n dp p x cnt r rd ok _ _ c h hx h5 hc
      obtain ⟨rd', q, e, Q⟩ := F_leaf (SN := sumN n) (dp := nI dp) (s := nd) ok c hN h hx h5 (by omega)
      exact ⟨q, rd', e, Q⟩
    have hT : CLT b N 0 := by
      intro nd n dp p x cnt r rd ok hn hd c h hx h5 hc
      obtain ⟨q, rd', e, Q⟩ := hF nd n dp p x cnt r rd ok hn hd c h hx h5 hc
      exact ⟨FUEL, 0, q, rd', rfl, Nat.le_refl _, T_of_F e, Q⟩
    refine ⟨hT, hF, ?_⟩
    intro nd lv n dp p x cnt r rd _ ok _ _ c h hx h1 h2 h5 hc
    obtain ⟨rd', q, e, Q⟩ := F_leaf (SN := sumN n) (dp := nI dp) (s := nd) ok c hN h hx h5 (by omega)
    exact ⟨FUEL, 0, q, rd', rfl, Nat.le_refl _, (S_of_T (T_of_F e) (by show 0 < 2000000; omega) Q.1 hN Q.2.1 hx h1 h2).2, Q⟩
  | d + 1, hd => by
    obtain ⟨hT, hF, hS⟩ := P_all hN d (by omega)
    -- a leaf, as a factor
    have leaf : ∀ (nd : NT (d + 1)) (SN : RS → Int32 → Option (Int32 × RS)) (dp : Int32) (p x cnt : Nat) (r : List Nat) (rd : RS), okL nd.1 → CT rd.2.1 b N p → TA b N p (leafX nd.1 ++ r) → nx1 r x → rd.1.1 5 = nI cnt → cnt < 490 → ∃ (q : Nat) (rd' : RS), f_X3_readFactor SN rd dp = some (1, rd') ∧ RQ b N rd rd' q r cnt (pst (d + 1) nd) := by
      intro nd SN dp p x cnt r rd ok c h hx h5 hc
      obtain ⟨rd', q, e, Q⟩ := F_leaf (SN := SN) (dp := dp) (s := nd.1) ok c hN h hx h5 hc
      have e2 : pst (d + 1) nd = [nd.1] := if_pos (by rcases ok with z | z <;> omega)
      rw [e2]
      exact ⟨q, rd', e, Q⟩
    -- a term without parentheses
    have term : ∀ (nd : NT (d + 1)) (lv n dp p x cnt : Nat) (r : List Nat) (rd : RS), lv ≤ 2 → okN (d + 1) nd → ¬ (nd.1.1 = 2 ∨ nd.1.1 = 3) → d ≤ n → dp + d ≤ 4 → CT rd.2.1 b N p → TA b N p (ntx (d + 1) nd lv ++ r) → nx1 r x → rd.1.1 5 = nI cnt → cnt + 2 ^ (d + 2) ≤ 400 →
        ∃ (f k q : Nat) (rd' : RS), f + k = FUEL ∧ k ≤ d + 1 ∧ f_X3_readTerm (sumN n) rd (nI dp) = itr3 (f_X3_readTerm_B8 (nI dp) (sumN n)) f 1 (nI k) rd' ∧ RQ b N rd rd' q r cnt (pst (d + 1) nd) := by
      intro nd lv n dp p x cnt r rd hlv ok hk hn hdp c h hx h5 hc
      rcases ok with ok | ⟨o1, o2, o3, o4⟩
      · have z : nd.1.1 < 2 := by rcases ok with z | z <;> omega
        rw [ntx_leaf z] at h
        obtain ⟨q, rd', e, Q⟩ := leaf nd (sumN n) (nI dp) p x cnt r rd ok c h hx h5 (Nat.lt_of_le_of_lt (Nat.le_trans (Nat.le_add_right _ _) hc) (by omega))
        exact ⟨FUEL, 0, q, rd', rfl, Nat.zero_le _, T_of_F e, Q⟩
      · have z : ¬ nd.1.1 < 2 := by omega
        rw [ntx_in (o := 2) z (by rw [if_neg (by omega)]) (by omega), List.append_assoc, List.append_assoc] at h
        have e2 : pst (d + 1) nd = pst d nd.2.1 ++ (pst d nd.2.2 ++ [(nd.1.1, 0)]) := if_neg z
        rw [e2]
        exact P_mul (by omega) hT hF hN (by omega) o3 o4 hn hdp c h hx h5 hc
    -- a sum
    have sum : CLS b N (d + 1) := by
      intro nd lv n dp p x cnt r rd hlv ok hn hdp c h hx h1 h2 h5 hc
      by_cases hk : nd.1.1 = 2 ∨ nd.1.1 = 3
      · rcases ok with ok | ⟨o1, o2, o3, o4⟩
        · exfalso; rcases ok with z | z <;> omega
        · have z : ¬ nd.1.1 < 2 := by omega
          rw [ntx_in (o := 1) z (by rw [if_pos (by omega)]) (by omega), List.append_assoc, List.append_assoc] at h
          have e2 : pst (d + 1) nd = pst d nd.2.1 ++ (pst d nd.2.2 ++ [(nd.1.1, 0)]) := if_neg z
          rw [e2]
          exact P_add (by omega) hT hS hN hk o3 o4 (by omega) (by omega) c h hx h1 h2 h5 hc
      · obtain ⟨f, k, q, rd', e1, e3, e4, Q⟩ := term nd lv n dp p x cnt r rd (by omega) ok hk (by omega) (by omega) c h hx h5 hc
        have hf : 0 < f := by have e1 : f + k = 2000000 := e1; omega
        exact ⟨FUEL, 0, q, rd', rfl, Nat.zero_le _, (S_of_T e4 hf Q.1 hN Q.2.1 hx h1 h2).2, Q⟩
    -- a factor
    have par : ∀ (nd : NT (d + 1)) (lv o n dp p x cnt : Nat) (r : List Nat) (rd : RS), okN (d + 1) nd → ¬ nd.1.1 < 2 → (o = if nd.1.1 < 4 then 1 else 2) → o < lv → d + 1 ≤ n → dp + (d + 1) ≤ 4 → CT rd.2.1 b N p → TA b N p (ntx (d + 1) nd lv ++ r) → nx1 r x → rd.1.1 5 = nI cnt → cnt + 2 ^ (d + 2) ≤ 400 →
        ∃ (q : Nat) (rd' : RS), f_X3_readFactor (sumN n) rd (nI dp) = some (1, rd') ∧ RQ b N rd rd' q r cnt (pst (d + 1) nd) := by
      intro nd lv o n dp p x cnt r rd ok z ho hol hn hdp c h hx h5 hc
      obtain ⟨n, rfl⟩ : ∃ m, n = m + 1 := ⟨n - 1, by omega⟩
      rw [ntx_par z ho hol, ← ntx_in (lv := 0) z ho (Nat.not_lt_zero _)] at h
      have h : TA b N p (40 :: (ntx (d + 1) nd 0 ++ (41 :: r))) := by
        have e : ([40] ++ ntx (d + 1) nd 0) ++ [41] ++ r = 40 :: (ntx (d + 1) nd 0 ++ (41 :: r)) := by simp
        rw [← e]; exact h
      obtain ⟨tk', a1, a2, a3, a4⟩ := r_sadv c hN h sgn_40
      obtain ⟨f, k, q, rd1, e1, e2, e3, Q⟩ := sum nd 0 n (dp + 1) (p + 1) 41 cnt (41 :: r) (rd.1, tk', rd.2.2) (by omega) ok (by omega) (by omega) a2 h.tl ⟨sgn_41, Or.inl ⟨_, rfl⟩⟩ (by decide) (by decide) h5 hc
      have hf : 0 < f := by have e1 : f + k = 2000000 := e1; omega
      rw [S_stop hf Q.1 hN Q.2.1 (x := 41) ⟨sgn_41, Or.inl ⟨_, rfl⟩⟩ (by decide) (by decide)] at e3
      obtain ⟨t2, b1, b2, b3, b4⟩ := r_sign Q.1 hN Q.2.1 sgn_41
      have b1 : f_X3_takeSign rd1 41 = _ := b1
      have g40 : f_X5_isSign rd.2.1 40 = some (if (40 : Nat) = 40 then 1 else 0) := r_isSign c hN h (by decide) (by decide) sgn_40
      refine ⟨q + 1, (rd1.1, t2, rd1.2.2), ?_, b2, Q.2.1.tl, Q.2.2.1, Q.2.2.2.1, Q.2.2.2.2.1, Q.2.2.2.2.2.1, Q.2.2.2.2.2.2.1, (b3.trans Q.2.2.2.2.2.2.2.1).trans a3, (b4.trans Q.2.2.2.2.2.2.2.2).trans a4⟩
      unfold f_X3_readFactor
      rw [g40, if_pos rfl, bd1_S, if_neg (by decide), i_4, ie_lt (by omega) (by omega), if_pos (by omega), a1, bd1_S, nI_1]
      show bd2 (f_X3_readSum (sumN n) (rd.1, tk', rd.2.2) (nI (dp + 1))) _ = _
      rw [e3, bd2_S, if_neg (by decide), b1, bd2_S, if_neg (by decide)]
    have fac : CLF b N (d + 1) := by
      intro nd n dp p x cnt r rd ok hn hdp c h hx h5 hc
      rcases ok with ok' | ok'
      · have z : nd.1.1 < 2 := by rcases ok' with z | z <;> omega
        rw [ntx_leaf z] at h
        exact leaf nd (sumN n) (nI dp) p x cnt r rd ok' c h hx h5 (Nat.lt_of_le_of_lt (Nat.le_trans (Nat.le_add_right _ _) hc) (by omega))
      · exact par nd 3 _ n dp p x cnt r rd (Or.inr ok') (by omega) rfl (by split <;> omega) hn hdp c h hx h5 hc
    refine ⟨?_, fac, sum⟩
    intro nd n dp p x cnt r rd ok hn hdp c h hx h5 hc
    by_cases hk : nd.1.1 = 2 ∨ nd.1.1 = 3
    · obtain ⟨q, rd', e, Q⟩ := par nd 2 1 n dp p x cnt r rd ok (by omega) (by rw [if_pos (by omega)]) (by omega) hn hdp c h hx h5 hc
      exact ⟨FUEL, 0, q, rd', rfl, Nat.zero_le _, T_of_F e, Q⟩
    · exact term nd 2 n dp p x cnt r rd (Nat.le_refl _) ok hk (by omega) (by omega) c h hx h5 hc
/-- a rank statement -/
theorem r_rank {d p cnt : Nat} {nd : NT d} {r : List Nat} {rd : RS} (hd : d ≤ 2) (ok : okN d nd) (c : CT rd.2.1 b N p) (hN : N ≤ 500) (h : TA b N p (TXT.getD 4 [] ++ (32 :: (ntx d nd 0 ++ (32 :: 59 :: r))))) (h3 : rd.1.1 3 = 0) (h5 : rd.1.1 5 = nI cnt) (hc : cnt ≤ 300) :
    ∃ (q : Nat) (rd' : RS), f_X3_readStatement rd = some (1, rd') ∧ RQ b N ((ss rd.1 3 1), rd.2.1, rd.2.2) rd' q (32 :: 59 :: r) cnt (pst d nd) := by
  obtain ⟨t1, e1, c1, s1, z1⟩ := r_wadv c hN (w := 4) (by omega) h (nl_c (by decide))
  have hd1 := h.drop
  rw [txt_wl 4 (by omega)] at hd1
  have h8 : 2 ^ (d + 1) ≤ 2 ^ 3 := Nat.pow_le_pow_right (by omega) (by omega)
  have h8 : 2 ^ (d + 1) ≤ 8 := h8
  obtain ⟨f, k, q, rd1, f1, f2, f3, Q⟩ := (P_all hN d (by omega)).2.2 nd 0 7 0 _ 59 cnt (32 :: 59 :: r) ((ss rd.1 3 1), t1, rd.2.2) (by omega) ok (by omega) (by omega) (c1.sk hd1) hd1.tl ⟨sgn_59, Or.inr ⟨_, rfl⟩⟩ (by decide) (by decide) h5 (by omega)
  have hf : 0 < f := by have f1 : f + k = 2000000 := f1; omega
  rw [S_stop hf Q.1 hN Q.2.1 (x := 59) ⟨sgn_59, Or.inr ⟨_, rfl⟩⟩ (by decide) (by decide)] at f3
  have f3 : sumN 8 ((ss rd.1 3 1), t1, rd.2.2) 0 = _ := f3
  have hw : ∀ v, v < 10 → f_X5_isWord rd.2.1 v = some (if v = 4 then 1 else 0) := fun v hv => r_word c hN (w := 4) (by omega) h (nl_c (by decide)) hv
  refine ⟨q, rd1, ?_, Q.1, Q.2.1, Q.2.2.1, Q.2.2.2.1, Q.2.2.2.2.1, Q.2.2.2.2.2.1, Q.2.2.2.2.2.2.1, Q.2.2.2.2.2.2.2.1.trans s1, Q.2.2.2.2.2.2.2.2.trans z1⟩
  unfold f_X3_readStatement f_X3_readStatement_J31 f_X3_readStatement_J55
  rw [hw 1 (by omega), if_neg (by decide), bd1_S, if_pos rfl, hw 2 (by omega), if_neg (by decide), bd1_S, if_pos rfl, hw 3 (by omega), if_neg (by decide), bd1_S, if_pos rfl, hw 4 (by omega), if_pos rfl, bd1_S, if_neg (by decide), h3, if_pos rfl, e1, bd1_S, f3, bd2_S, show isb 1 = true from rfl, gd_T]
end RW
