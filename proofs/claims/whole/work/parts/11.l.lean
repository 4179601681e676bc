/-! append -/
def byM (w s : Int32) : Int32 := (w >>> (s &&& 31)) &&& 255
theorem and_255 (v : Int32) : ∃ a, a < 256 ∧ v &&& 255 = nI a := by
  refine ⟨v.toBitVec.toNat % 256, Nat.mod_lt _ (by omega), ?_⟩
  have h : v.toBitVec &&& 255#32 = BitVec.ofNat 32 (v.toBitVec.toNat % 256) := by
    apply BitVec.eq_of_toNat_eq
    rw [BitVec.toNat_and, show (255#32).toNat = 2 ^ 8 - 1 by decide, Nat.and_two_pow_sub_one_eq_mod, BitVec.toNat_ofNat, Nat.mod_eq_of_lt (show v.toBitVec.toNat % 256 < 2 ^ 32 by omega)]
  exact Int32.toBitVec_inj.mp h
theorem by_bits (v : BitVec 32) (n : Nat) (h : n ≤ 24) : (v >>> n) &&& 255#32 = v.sshiftRight n &&& 255#32 := by
  apply BitVec.eq_of_getLsbD_eq
  intro i hi
  rw [BitVec.getLsbD_and, BitVec.getLsbD_and, BitVec.getLsbD_ushiftRight, BitVec.getLsbD_sshiftRight]
  by_cases h8 : i < 8
  · rw [if_pos (show n + i < 32 by omega)]
    simp [show ¬ 32 ≤ i by omega]
  · have : (255#32).getLsbD i = false := by
      have : ∀ i, i < 32 → ¬ i < 8 → (255#32).getLsbD i = false := by decide
      exact this i hi h8
    rw [this, Bool.and_false, Bool.and_false]
theorem by_24 (w : Int32) : (w.toUInt32 >>> ((24 : Int32).toUInt32 &&& Int32.toUInt32 31)).toInt32 &&& 255 = byM w 24 := by
  unfold byM
  rw [show ((24 : Int32).toUInt32 &&& Int32.toUInt32 31) = 24 by decide, show ((24 : Int32) &&& 31) = 24 by decide]
  apply Int32.toBitVec_inj.mp
  rw [Int32.toBitVec_and, Int32.toBitVec_and, Int32.toBitVec_shiftRight]
  exact by_bits w.toBitVec 24 (by omega)
theorem by_16 (w : Int32) : (w.toUInt32 >>> ((16 : Int32).toUInt32 &&& Int32.toUInt32 31)).toInt32 &&& 255 = byM w 16 := by
  unfold byM
  rw [show ((16 : Int32).toUInt32 &&& Int32.toUInt32 31) = 16 by decide, show ((16 : Int32) &&& 31) = 16 by decide]
  apply Int32.toBitVec_inj.mp
  rw [Int32.toBitVec_and, Int32.toBitVec_and, Int32.toBitVec_shiftRight]
  exact by_bits w.toBitVec 16 (by omega)
theorem by_8 (w : Int32) : (w.toUInt32 >>> ((8 : Int32).toUInt32 &&& Int32.toUInt32 31)).toInt32 &&& 255 = byM w 8 := by
  unfold byM
  rw [show ((8 : Int32).toUInt32 &&& Int32.toUInt32 31) = 8 by decide, show ((8 : Int32) &&& 31) = 8 by decide]
  apply Int32.toBitVec_inj.mp
  rw [Int32.toBitVec_and, Int32.toBitVec_and, Int32.toBitVec_shiftRight]
  exact by_bits w.toBitVec 8 (by omega)
theorem by_0 (w : Int32) : (w.toUInt32 >>> ((0 : Int32).toUInt32 &&& Int32.toUInt32 31)).toInt32 &&& 255 = byM w 0 := by
  unfold byM
  rw [show ((0 : Int32).toUInt32 &&& Int32.toUInt32 31) = 0 by decide, show ((0 : Int32) &&& 31) = 0 by decide]
  apply Int32.toBitVec_inj.mp
  rw [Int32.toBitVec_and, Int32.toBitVec_and, Int32.toBitVec_shiftRight]
  exact by_bits w.toBitVec 0 (by omega)
/-- a word's bytes behind st -/
def W4 (b : Nat → Int32) (w : Int32) (st : Nat) : Nat → Int32 := upd (upd (upd (upd b st (byM w 24)) (st + 1) (byM w 16)) (st + 2) (byM w 8)) (st + 3) (byM w 0)
theorem BY.upd {b : Nat → Int32} (h : BY b) (k : Nat) (w s : Int32) : BY (upd b k (byM w s)) := fun j hj => by
  by_cases z : j = k
  · obtain ⟨a, ha, e⟩ := and_255 (w >>> (s &&& 31))
    rw [z, upd_s]
    exact ⟨a, ha, e⟩
  · rw [upd_n z]; exact h j hj
theorem BY.w4 {b : Nat → Int32} (h : BY b) (w : Int32) (st : Nat) : BY (W4 b w st) := (((h.upd _ _ _).upd _ _ _).upd _ _ _).upd _ _ _
theorem e_storeStep {tk : SA} {w : Int32} {st : Nat} {rec : Int32 → SA → Option SA} {v : Int32} (h : tk.1 0 = nI st) (hs : st < 500) (hv : ¬ v < 0) : f_X5_store_B3 w rec v tk = rec (v + (-8)) (sa (ss tk 0 (nI (st + 1))) 0 (upd (tk.2 0) st ((w.toUInt32 >>> ((v : Int32).toUInt32 &&& Int32.toUInt32 31)).toInt32 &&& 255))) := by
  unfold f_X5_store_B3
  rw [if_neg hv, h, i_500, ie_le (by omega) (by omega), if_neg (by omega), e_put (by omega) (by omega), bd1_S, nI_1]
theorem e_store {tk : SA} {w : Int32} {st : Nat} (h : tk.1 0 = nI st) (hs : st + 4 ≤ 500) : ∃ tk', f_X5_store tk w = some tk' ∧ tk'.1 0 = nI (st + 4) ∧ tk'.2 0 = W4 (tk.2 0) w st ∧ ∀ k, ¬ k = 0 → tk'.1 k = tk.1 k := by
  unfold f_X5_store
  show ∃ tk', f_X5_store_B3 w (itr2 (f_X5_store_B3 w) 1999999) 24 tk = some tk' ∧ _
  rw [e_storeStep h (by omega) (by decide), by_24, show (24 : Int32) + (-8) = 16 by decide]
  show ∃ tk', f_X5_store_B3 w (itr2 (f_X5_store_B3 w) 1999998) 16 (sa (ss tk 0 (nI (st + 1))) 0 (upd (tk.2 0) st (byM w 24))) = some tk' ∧ _
  rw [e_storeStep (st := st + 1) rfl (by omega) (by decide), by_16, show (16 : Int32) + (-8) = 8 by decide]
  show ∃ tk', f_X5_store_B3 w (itr2 (f_X5_store_B3 w) 1999997) 8 _ = some tk' ∧ _
  rw [e_storeStep (st := st + 1 + 1) rfl (by omega) (by decide), by_8, show (8 : Int32) + (-8) = 0 by decide]
  show ∃ tk', f_X5_store_B3 w (itr2 (f_X5_store_B3 w) 1999996) 0 _ = some tk' ∧ _
  rw [e_storeStep (st := st + 1 + 1 + 1) rfl (by omega) (by decide), by_0, show (0 : Int32) + (-8) = -8 by decide]
  show ∃ tk', f_X5_store_B3 w (itr2 (f_X5_store_B3 w) 1999995) (-8) _ = some tk' ∧ _
  unfold f_X5_store_B3
  rw [if_pos (by decide)]
  refine ⟨_, rfl, rfl, rfl, fun k hk => ?_⟩
  show upd (upd (upd (upd tk.1 0 _) 0 _) 0 _) 0 _ k = _
  rw [upd_n hk, upd_n hk, upd_n hk, upd_n hk]
/-- the word that the k-th byte is of -/
def sel (p0 p1 p2 p3 p4 : Int32) (k : Nat) : Int32 := if 4 ≤ k then (if 8 ≤ k then (if 12 ≤ k then (if 16 ≤ k then p4 else p3) else p2) else p1) else p0
def shf (k : Nat) : Int32 := if k % 4 = 0 then 24 else if k % 4 = 1 then 16 else if k % 4 = 2 then 8 else 0
theorem shf_e : ∀ k, k < 20 → (24 - (8 * (nI k - nI k / 4 * 4)) : Int32) = shf k := by decide +kernel
theorem x_appStep {x : MS} {p0 p1 p2 p3 p4 : Int32} {rec : Int32 → MS → Option (Int32 × MS)} {k st : Nat} (h : x.1.1 1 = nI st) (hs : st < 500) (hk : k < 20) : f_X8_append_B23 p0 p1 p2 p3 p4 rec (nI k) x = rec (nI (k + 1)) ((sa (ss x.1 1 (nI (st + 1))) 0 (upd (x.1.2 0) st (byM (sel p0 p1 p2 p3 p4 k) (shf k)))), x.2) := by
  have eJ : ∀ w : Int32, f_X8_append_J76 rec (nI k) x w = rec (nI (k + 1)) ((sa (ss x.1 1 (nI (st + 1))) 0 (upd (x.1.2 0) st (byM w (shf k)))), x.2) := fun w => by
    unfold f_X8_append_J76
    rw [h, inb_t hs (by omega), gd_T, nI_clamp (by omega), nmd_S, nI_1, nI_1, shf_e k hk]
    rfl
  unfold f_X8_append_B23
  rw [i_20, ie_le (by omega) (by omega), if_neg (by omega), eJ, eJ, eJ, eJ, eJ, i_4, i_8, i_12, i_16, ie_le (by omega) (by omega), ie_le (by omega) (by omega), ie_le (by omega) (by omega), ie_le (by omega) (by omega)]
  unfold sel
  by_cases h4 : 4 ≤ k
  · rw [if_pos h4, if_pos h4]
    by_cases h8 : 8 ≤ k
    · rw [if_pos h8, if_pos h8]
      by_cases h12 : 12 ≤ k
      · rw [if_pos h12, if_pos h12]
        by_cases h16 : 16 ≤ k
        · rw [if_pos h16, if_pos h16]
        · rw [if_neg h16, if_neg h16]
      · rw [if_neg h12, if_neg h12]
    · rw [if_neg h8, if_neg h8]
  · rw [if_neg h4, if_neg h4]
/-- four bytes -/
theorem x_app4 {p0 p1 p2 p3 p4 : Int32} (w : Int32) {j : Nat} (hj : j < 5) (hw : sel p0 p1 p2 p3 p4 (4 * j) = w ∧ sel p0 p1 p2 p3 p4 (4 * j + 1) = w ∧ sel p0 p1 p2 p3 p4 (4 * j + 2) = w ∧ sel p0 p1 p2 p3 p4 (4 * j + 3) = w) {x : MS} {st : Nat} (h : x.1.1 1 = nI st) (hs : st + 4 ≤ 500) (f : Nat) : ∃ x', itr2 (f_X8_append_B23 p0 p1 p2 p3 p4) (f + 4) (nI (4 * j)) x = itr2 (f_X8_append_B23 p0 p1 p2 p3 p4) f (nI (4 * (j + 1))) x' ∧ x'.1.1 1 = nI (st + 4) ∧ x'.1.2 0 = W4 (x.1.2 0) w st ∧ (∀ k, ¬ k = 1 → x'.1.1 k = x.1.1 k) ∧ (∀ i, ¬ i = 0 → x'.1.2 i = x.1.2 i) ∧ x'.2 = x.2 := by
  show ∃ x', f_X8_append_B23 p0 p1 p2 p3 p4 (itr2 (f_X8_append_B23 p0 p1 p2 p3 p4) (f + 3)) (nI (4 * j)) x = _ ∧ _
  rw [x_appStep h (by omega) (by omega)]
  show ∃ x', f_X8_append_B23 p0 p1 p2 p3 p4 (itr2 (f_X8_append_B23 p0 p1 p2 p3 p4) (f + 2)) (nI (4 * j + 1)) _ = _ ∧ _
  rw [x_appStep (st := st + 1) rfl (by omega) (by omega)]
  show ∃ x', f_X8_append_B23 p0 p1 p2 p3 p4 (itr2 (f_X8_append_B23 p0 p1 p2 p3 p4) (f + 1)) (nI (4 * j + 1 + 1)) _ = _ ∧ _
  rw [x_appStep (st := st + 1 + 1) rfl (by omega) (by omega)]
  show ∃ x', f_X8_append_B23 p0 p1 p2 p3 p4 (itr2 (f_X8_append_B23 p0 p1 p2 p3 p4) f) (nI (4 * j + 1 + 1 + 1)) _ = _ ∧ _
  rw [x_appStep (st := st + 1 + 1 + 1) rfl (by omega) (by omega)]
  obtain ⟨w0, w1, w2, w3⟩ := hw
  have s0 : shf (4 * j) = 24 := by unfold shf; rw [if_pos (by omega)]
  have s1 : shf (4 * j + 1) = 16 := by unfold shf; rw [if_neg (by omega), if_pos (by omega)]
  have s2 : shf (4 * j + 1 + 1) = 8 := by unfold shf; rw [if_neg (by omega), if_neg (by omega), if_pos (by omega)]
  have s3 : shf (4 * j + 1 + 1 + 1) = 0 := by unfold shf; rw [if_neg (by omega), if_neg (by omega), if_neg (by omega)]
  rw [s0, s1, s2, s3, w0, w1, show sel p0 p1 p2 p3 p4 (4 * j + 1 + 1) = w from w2, show sel p0 p1 p2 p3 p4 (4 * j + 1 + 1 + 1) = w from w3]
  refine ⟨_, rfl, rfl, rfl, fun k hk => ?_, fun i hi => ?_, rfl⟩
  · show upd (upd (upd (upd x.1.1 1 _) 1 _) 1 _) 1 _ k = _
    rw [upd_n hk, upd_n hk, upd_n hk, upd_n hk]
  · show upA (upA (upA (upA x.1.2 0 _) 0 _) 0 _) 0 _ i = _
    rw [upA_n hi, upA_n hi, upA_n hi, upA_n hi]
theorem s_append {s : HS} {x : MS} {ps : PS} (hS : Sim s x ps) (p0 p1 p2 p3 p4 : Int32) : ∃ r s' x', f_X7_append s p0 p1 p2 p3 p4 = some (r, s') ∧ f_X8_append x p0 p1 p2 p3 p4 = some (r, x') ∧ Sim s' x' ps ∧ x'.1.1 0 = 0 := by
  obtain ⟨hG0, ⟨u, hu, hs1, hx1, hH⟩, ⟨⟨st, r1, r2, r3⟩, rb, rB, rE, rG, rT⟩, hRW⟩ := hS
  unfold f_X7_append f_X8_append
  rw [r2, r3, i_20, nI_add, i_500, ie_le (by omega) (by omega), ie_le (by omega) (by omega)]
  by_cases hf : st + 20 ≤ 500
  · rw [if_pos hf, if_pos hf]
    obtain ⟨t0, a1, a2, a3, a4⟩ := e_store (tk := s.2.2.2.2.1.2.1) (w := p0) r2 (by omega)
    obtain ⟨t1, b1, b2, b3, b4⟩ := e_store (tk := t0) (w := p1) a2 (by omega)
    obtain ⟨t2, c1, c2, c3, c4⟩ := e_store (tk := t1) (w := p2) b2 (by omega)
    obtain ⟨t3, d1, d2, d3, d4⟩ := e_store (tk := t2) (w := p3) c2 (by omega)
    obtain ⟨t4, e1, e2, e3, e4⟩ := e_store (tk := t3) (w := p4) d2 (by omega)
    rw [a1, bd1_S, b1, bd1_S, c1, bd1_S, d1, bd1_S, e1, bd1_S, e2]
    obtain ⟨x0, f1, f2, f3, f4, f5, f6⟩ := x_app4 (p0 := p0) (p1 := p1) (p2 := p2) (p3 := p3) (p4 := p4) p0 (j := 0) (by omega) ⟨rfl, rfl, rfl, rfl⟩ (x := ((ss x.1 0 0), x.2)) (st := st) r3 (by omega) 1999996
    obtain ⟨x1, g1, g2, g3, g4, g5, g6⟩ := x_app4 (p0 := p0) (p1 := p1) (p2 := p2) (p3 := p3) (p4 := p4) p1 (j := 1) (by omega) ⟨rfl, rfl, rfl, rfl⟩ (x := x0) f2 (by omega) 1999992
    obtain ⟨x2, h1, h2, h3, h4, h5, h6⟩ := x_app4 (p0 := p0) (p1 := p1) (p2 := p2) (p3 := p3) (p4 := p4) p2 (j := 2) (by omega) ⟨rfl, rfl, rfl, rfl⟩ (x := x1) g2 (by omega) 1999988
    obtain ⟨x3, i1, i2, i3, i4, i5, i6⟩ := x_app4 (p0 := p0) (p1 := p1) (p2 := p2) (p3 := p3) (p4 := p4) p3 (j := 3) (by omega) ⟨rfl, rfl, rfl, rfl⟩ (x := x2) h2 (by omega) 1999984
    obtain ⟨x4, j1, j2, j3, j4, j5, j6⟩ := x_app4 (p0 := p0) (p1 := p1) (p2 := p2) (p3 := p3) (p4 := p4) p4 (j := 4) (by omega) ⟨rfl, rfl, rfl, rfl⟩ (x := x3) i2 (by omega) 1999980
    have eM : itr2 (f_X8_append_B23 p0 p1 p2 p3 p4) FUEL 0 ((ss x.1 0 0), x.2) = some (nI (st + 4 + 4 + 4 + 4 + 4), x4) := by
      refine f1.trans (g1.trans (h1.trans (i1.trans (j1.trans ?_))))
      show f_X8_append_B23 p0 p1 p2 p3 p4 (itr2 (f_X8_append_B23 p0 p1 p2 p3 p4) 1999979) (nI (4 * (4 + 1))) x4 = _
      unfold f_X8_append_B23
      rw [i_20, ie_le (by omega) (by omega), if_pos (by omega), j2]
    rw [eM]
    have kS : ∀ k, ¬ k = 1 → ¬ k = 0 → x4.1.1 k = x.1.1 k := fun k k1 k0 => (j4 k k1).trans ((i4 k k1).trans ((h4 k k1).trans ((g4 k k1).trans ((f4 k k1).trans (upd_n k0)))))
    have kA : ∀ i, ¬ i = 0 → x4.1.2 i = x.1.2 i := fun i hi => (j5 i hi).trans ((i5 i hi).trans ((h5 i hi).trans ((g5 i hi).trans (f5 i hi))))
    refine ⟨_, _, _, rfl, rfl, ⟨?_, ⟨u, hu, hs1, (kS 7 (by omega) (by omega)).trans hx1, fun i hi => ?_⟩, ⟨⟨st + 4 + 4 + 4 + 4 + 4, by omega, e2, j2⟩, ?_, ?_, rE.trans (kS 6 (by omega) (by omega)).symm, rG, rT⟩, hRW⟩, (j4 0 (by omega)).trans ((i4 0 (by omega)).trans ((h4 0 (by omega)).trans ((g4 0 (by omega)).trans ((f4 0 (by omega)).trans rfl))))⟩
    · show GR ps s.2.1 (x4.1.2 1)
      rw [kA 1 (by omega)]; exact hG0
    · show GR ps (s.2.2.2.1 _) (x4.1.2 (10 + i))
      rw [kA _ (by omega)]; exact hH i hi
    · show t4.2 0 = x4.1.2 0
      rw [e3, d3, c3, b3, a3, j3, i3, h3, g3, f3, rb]
    · rw [j3, i3, h3, g3, f3]
      exact ((((rB.w4 _ _).w4 _ _).w4 _ _).w4 _ _).w4 _ _
  · rw [if_neg hf, if_neg hf]
    exact ⟨_, _, _, rfl, rfl, ⟨hG0, ⟨u, hu, hs1, hx1, hH⟩, ⟨⟨st, r1, r2, r3⟩, rb, rB, rE, rG, rT⟩, hRW⟩, rfl⟩
