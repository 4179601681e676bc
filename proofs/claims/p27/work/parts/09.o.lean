/-! append -/
def byM (w s : Int32) : Int32 := (w >>> (s &&& 31)) &&& 255
theorem and_255 (v : Int32) : ∃ a, a < 256 ∧ v &&& 255 = nI a := by
  refine ⟨v.toBitVec.toNat % 256, Nat.mod_lt _ (by omega), ?_⟩
  have h : v.toBitVec &&& 255#32 = BitVec.ofNat 32 (v.toBitVec.toNat % 256) := by
    apply BitVec.eq_of_toNat_eq
    rw [BitVec.toNat_and, show (255#32).toNat = 2 ^ 8 - 1 by decide, Nat.and_two_pow_sub_one_eq_mod, BitVec.toNat_ofNat, Nat.mod_eq_of_lt (show v.toBitVec.toNat % 256 < 2 ^ 32 by omega)]
  exact Int32.toBitVec_inj.mp h
theorem by_bits (v : BitVec 32) (n : Nat) (h : n ≤ 24) : (v >>> n) &&& 255#32 = v.sshiftRight n &&& 255#32 := by
  apply BitVec.eq_of_getLsbD_eq
  intro i hi
  rw [BitVec.getLsbD_and, BitVec.getLsbD_and, BitVec.getLsbD_ushiftRight, BitVec.getLsbD_sshiftRight]
  by_cases h8 : i < 8
  · rw [if_pos (show n + i < 32 by omega)]
    simp [show ¬ 32 ≤ i by omega]
  · have : (255#32).getLsbD i = false := by
      have : ∀ i, i < 32 → ¬ i < 8 → (255#32).getLsbD i = false := by decide
      exact this i hi h8
    rw [this, Bool.and_false, Bool.and_false]
theorem by_24 (w : Int32) : (w.toUInt32 >>> ((24 : Int32).toUInt32 &&& Int32.toUInt32 31)).toInt32 &&& 255 = byM w 24 := by
  unfold byM
  rw [show ((24 : Int32).toUInt32 &&& Int32.toUInt32 31) = 24 by decide, show ((24 : Int32) &&& 31) = 24 by decide]
  apply Int32.toBitVec_inj.mp
  rw [Int32.toBitVec_and, Int32.toBitVec_and, Int32.toBitVec_shiftRight]
  exact by_bits w.toBitVec 24 (by omega)
theorem by_16 (w : Int32) : (w.toUInt32 >>> ((16 : Int32).toUInt32 &&& Int32.toUInt32 31)).toInt32 &&& 255 = byM w 16 := by
  unfold byM
  rw [show ((16 : Int32).toUInt32 &&& Int32.toUInt32 31) = 16 by decide, show ((16 : Int32) &&& 31) = 16 by decide]
  apply Int32.toBitVec_inj.mp
  rw [Int32.toBitVec_and, Int32.toBitVec_and, Int32.toBitVec_shiftRight]
  exact by_bits w.toBitVec 16 (by omega)
theorem by_8 (w : Int32) : (w.toUInt32 >>> ((8 : Int32).toUInt32 &&& Int32.toUInt32 31)).toInt32 &&& 255 = byM w 8 := by
  unfold byM
  rw [show ((8 : Int32).toUInt32 &&& Int32.toUInt32 31) = 8 by decide, show ((8 : Int32) &&& 31) = 8 by decide]
  apply Int32.toBitVec_inj.mp
  rw [Int32.toBitVec_and, Int32.toBitVec_and, Int32.toBitVec_shiftRight]
  exact by_bits w.toBitVec 8 (by omega)
theorem by_0 (w : Int32) : (w.toUInt32 >>> ((0 : Int32).toUInt32 &&& Int32.toUInt32 31)).toInt32 &&& 255 = byM w 0 := by
  unfold byM
  rw [show ((0 : Int32).toUInt32 &&& Int32.toUInt32 31) = 0 by decide, show ((0 : Int32) &&& 31) = 0 by decide]
  apply Int32.toBitVec_inj.mp
  rw [Int32.toBitVec_and, Int32.toBitVec_and, Int32.toBitVec_shiftRight]
  exact by_bits w.toBitVec 0 (by omega)
/-- a word's bytes behind st -/
def W4 (b : Nat → Int32) (w : Int32) (st : Nat) : Nat → Int32 := upd (upd (upd (upd b st (byM w 24)) (st + 1) (byM w 16)) (st + 2) (byM w 8)) (st + 3) (byM w 0)
theorem e_storeStep {tk : SA} {w : Int32} {st : Nat} {rec : Int32 → SA → Option SA} {v : Int32} (h : tk.1 0 = nI st) (hs : st < 500) (hv : ¬ v < 0) : f_X5_store_B3 w rec v tk = rec (v + (-8)) (sa (ss tk 0 (nI (st + 1))) 0 (upd (tk.2 0) st ((w.toUInt32 >>> ((v : Int32).toUInt32 &&& Int32.toUInt32 31)).toInt32 &&& 255))) := by
  unfold f_X5_store_B3
  rw [if_neg hv, h, i_500, ie_le (by omega) (by omega), if_neg (by omega), e_put (by omega) (by omega), bd1_S, nI_1]
theorem e_store {tk : SA} {w : Int32} {st : Nat} (h : tk.1 0 = nI st) (hs : st + 4 ≤ 500) : ∃ tk', f_X5_store tk w = some tk' ∧ tk'.1 0 = nI (st + 4) ∧ tk'.2 0 = W4 (tk.2 0) w st ∧ (∀ k, ¬ k = 0 → tk'.1 k = tk.1 k) ∧ ∀ k, ¬ k = 0 → tk'.2 k = tk.2 k := by
  unfold f_X5_store
  show ∃ tk', f_X5_store_B3 w (itr2 (f_X5_store_B3 w) 1999999) 24 tk = some tk' ∧ _
  rw [e_storeStep h (by omega) (by decide), by_24, show (24 : Int32) + (-8) = 16 by decide]
  show ∃ tk', f_X5_store_B3 w (itr2 (f_X5_store_B3 w) 1999998) 16 (sa (ss tk 0 (nI (st + 1))) 0 (upd (tk.2 0) st (byM w 24))) = some tk' ∧ _
  rw [e_storeStep (st := st + 1) rfl (by omega) (by decide), by_16, show (16 : Int32) + (-8) = 8 by decide]
  show ∃ tk', f_X5_store_B3 w (itr2 (f_X5_store_B3 w) 1999997) 8 _ = some tk' ∧ _
  rw [e_storeStep (st := st + 1 + 1) rfl (by omega) (by decide), by_8, show (8 : Int32) + (-8) = 0 by decide]
  show ∃ tk', f_X5_store_B3 w (itr2 (f_X5_store_B3 w) 1999996) 0 _ = some tk' ∧ _
  rw [e_storeStep (st := st + 1 + 1 + 1) rfl (by omega) (by decide), by_0, show (0 : Int32) + (-8) = -8 by decide]
  show ∃ tk', f_X5_store_B3 w (itr2 (f_X5_store_B3 w) 1999995) (-8) _ = some tk' ∧ _
  unfold f_X5_store_B3
  rw [if_pos (by decide)]
  refine ⟨_, rfl, rfl, rfl, fun k hk => ?_, fun k hk => ?_⟩
  · show upd (upd (upd (upd tk.1 0 _) 0 _) 0 _) 0 _ k = _
    rw [upd_n hk, upd_n hk, upd_n hk, upd_n hk]
  · show upA (upA (upA (upA tk.2 0 _) 0 _) 0 _) 0 _ k = _
    rw [upA_n hk, upA_n hk, upA_n hk, upA_n hk]/-! four characters in a word, and what the class stores of it -/
def wdx (tx : List Nat) (p : Nat) : Nat := tx.getD p 0 * 16777216 + tx.getD (p + 1) 0 * 65536 + tx.getD (p + 2) 0 * 256 + tx.getD (p + 3) 0
theorem getD_lt {tx : List Nat} (h : ∀ x ∈ tx, x < 128) (p : Nat) : tx.getD p 0 < 128 := by
  rcases Nat.lt_or_ge p tx.length with hp | hp
  · exact h _ (getD_mem hp)
  · rw [List.getD_eq_getElem?_getD, List.getElem?_eq_none hp]; exact (by decide : 0 < 128)
theorem getD_ge {tx : List Nat} {p : Nat} (h : tx.length ≤ p) : tx.getD p 0 = 0 := by
  rw [List.getD_eq_getElem?_getD, List.getElem?_eq_none h]; rfl
theorem byM_w {n : Nat} (hn : n < 2 ^ 31) : byM (nI n) 24 = nI (n / 16777216 % 256) ∧ byM (nI n) 16 = nI (n / 65536 % 256) ∧ byM (nI n) 8 = nI (n / 256 % 256) ∧ byM (nI n) 0 = nI (n % 256) := by
  unfold byM
  refine ⟨?_, ?_, ?_, ?_⟩
  · rw [pk_shrN hn ((24 : Int32) &&& 31) 24 (by decide), pk_andN (by omega) 8 (by decide)]
  · rw [pk_shrN hn ((16 : Int32) &&& 31) 16 (by decide), pk_andN (by omega) 8 (by decide)]
  · rw [pk_shrN hn ((8 : Int32) &&& 31) 8 (by decide), pk_andN (by omega) 8 (by decide)]
  · rw [pk_shrN hn ((0 : Int32) &&& 31) 0 (by decide), pk_andN (by omega) 8 (by decide), Nat.pow_zero, Nat.div_one]
theorem wdx_by {tx : List Nat} (h : ∀ x ∈ tx, x < 128) (p : Nat) : wdx tx p < 2 ^ 31 ∧ byM (nI (wdx tx p)) 24 = nI (tx.getD p 0) ∧ byM (nI (wdx tx p)) 16 = nI (tx.getD (p + 1) 0) ∧ byM (nI (wdx tx p)) 8 = nI (tx.getD (p + 2) 0) ∧ byM (nI (wdx tx p)) 0 = nI (tx.getD (p + 3) 0) := by
  have h0 := getD_lt h p
  have h1 := getD_lt h (p + 1)
  have h2 := getD_lt h (p + 2)
  have h3 := getD_lt h (p + 3)
  unfold wdx
  generalize tx.getD p 0 = a at *
  generalize tx.getD (p + 1) 0 = b at *
  generalize tx.getD (p + 2) 0 = c at *
  generalize tx.getD (p + 3) 0 = d at *
  have hlt : a * 16777216 + b * 65536 + c * 256 + d < 2 ^ 31 := by omega
  obtain ⟨y1, y2, y3, y4⟩ := byM_w hlt
  refine ⟨hlt, ?_, ?_, ?_, ?_⟩
  · rw [y1]; congr 1; omega
  · rw [y2]; congr 1; omega
  · rw [y3]; congr 1; omega
  · rw [y4]; congr 1; omega
abbrev tkO (s : HS) : SA := s.2.2.2.2.1.2.1
abbrev tkP (s : HS) (tk : SA) : HS := (s.1, s.2.1, s.2.2.1, s.2.2.2.1, (s.2.2.2.2.1.1, tk, s.2.2.2.2.1.2.2), s.2.2.2.2.2)
/-- what is stored of a text -/
def TkG (s0 s : HS) (st : Nat) (tx : List Nat) : Prop := ∃ tk : SA, s = tkP s0 tk ∧ tk.1 0 = nI st ∧ (∀ k, k < st → tk.2 0 k = nI (tx.getD k 0)) ∧ (∀ k, ¬ k = 0 → tk.1 k = (tkO s0).1 k) ∧ ∀ k, ¬ k = 0 → tk.2 k = (tkO s0).2 k
theorem store_w {tk : SA} {st : Nat} {tx : List Nat} (hx : ∀ x ∈ tx, x < 128) (h : tk.1 0 = nI st) (hs : st + 4 ≤ 500) (hb : ∀ k, k < st → tk.2 0 k = nI (tx.getD k 0)) : ∃ tk', f_X5_store tk (nI (wdx tx st)) = some tk' ∧ tk'.1 0 = nI (st + 4) ∧ (∀ k, k < st + 4 → tk'.2 0 k = nI (tx.getD k 0)) ∧ (∀ k, ¬ k = 0 → tk'.1 k = tk.1 k) ∧ ∀ k, ¬ k = 0 → tk'.2 k = tk.2 k := by
  obtain ⟨tk', e1, e2, e3, e4, e5⟩ := e_store (w := nI (wdx tx st)) h hs
  refine ⟨tk', e1, e2, fun k hk => ?_, e4, e5⟩
  obtain ⟨-, y1, y2, y3, y4⟩ := wdx_by hx st
  rw [e3]
  unfold W4
  rw [y1, y2, y3, y4]
  rcases (show k = st + 3 ∨ k = st + 2 ∨ k = st + 1 ∨ k = st ∨ k < st by omega) with rfl | rfl | rfl | rfl | z
  · rw [upd_s]
  · rw [upd_n (by omega), upd_s]
  · rw [upd_n (by omega), upd_n (by omega), upd_s]
  · rw [upd_n (by omega), upd_n (by omega), upd_n (by omega), upd_s]
  · rw [upd_n (by omega), upd_n (by omega), upd_n (by omega), upd_n (by omega)]; exact hb k z
theorem c_append {s0 s : HS} {st : Nat} {tx : List Nat} (hx : ∀ x ∈ tx, x < 128) (h : TkG s0 s st tx) (hs : st + 20 ≤ 500) : ∃ r s', f_X7_append s (nI (wdx tx st)) (nI (wdx tx (st + 4))) (nI (wdx tx (st + 8))) (nI (wdx tx (st + 12))) (nI (wdx tx (st + 16))) = some (r, s') ∧ TkG s0 s' (st + 20) tx := by
  obtain ⟨tk, rfl, h1, h2, h3, h4⟩ := h
  obtain ⟨a, a1, a2, a3, a4, a5⟩ := store_w hx h1 (by omega) h2
  obtain ⟨b, b1, b2, b3, b4, b5⟩ := store_w hx a2 (by omega) a3
  obtain ⟨d, d1, d2, d3, d4, d5⟩ := store_w hx b2 (by omega) b3
  obtain ⟨e, e1, e2, e3, e4, e5⟩ := store_w hx d2 (by omega) d3
  obtain ⟨f, f1, f2, f3, f4, f5⟩ := store_w hx e2 (by omega) e3
  unfold f_X7_append
  dsimp only
  rw [show (tk.1 0) + 20 = nI (st + 20) by rw [h1, show (20 : Int32) = nI 20 from rfl, nI_add], if_pos (show nI (st + 20) ≤ 500 from (nI_leI (b := 500) (by omega) (by omega)).mpr hs), a1, bd1_S, b1, bd1_S, d1, bd1_S, e1, bd1_S, f1, bd1_S]
  exact ⟨_, _, rfl, f, rfl, f2, f3, fun k hk => by rw [f4 k hk, e4 k hk, d4 k hk, b4 k hk, a4 k hk, h3 k hk], fun k hk => by rw [f5 k hk, e5 k hk, d5 k hk, b5 k hk, a5 k hk, h4 k hk]⟩
theorem TkG.more {s0 s : HS} {st : Nat} {tx more : List Nat} (h : TkG s0 s st tx) (hs : st ≤ tx.length) : TkG s0 s st (tx ++ more) := by
  obtain ⟨tk, h0, h1, h2, h3⟩ := h
  refine ⟨tk, h0, h1, fun k hk => ?_, h3⟩
  rw [h2 k hk, getD_app_l (by omega)]
/-! a character into its word -/
theorem or_nI (a b : Nat) : nI a ||| nI b = nI (a ||| b) := by
  apply Int32.toBitVec_inj.mp
  show BitVec.ofNat 32 a ||| BitVec.ofNat 32 b = BitVec.ofNat 32 (a ||| b)
  rw [BitVec.ofNat_or]
theorem or_add {a b : Nat} (i : Nat) (hb : b < 2 ^ i) : (2 ^ i * a) ||| b = 2 ^ i * a + b := (Nat.two_pow_add_eq_or_of_lt hb a).symm
theorem wdx_put {tx : List Nat} {p m ch : Nat} (h : ∀ x ∈ tx, x < 128) (hl : tx.length = p + m) (hm : m < 4) (hc : ch < 128) : nI (wdx tx p) ||| (nI ch <<< (((24 : Int32) - 8 * nI m) &&& 31)) = nI (wdx (tx ++ [ch]) p) := by
  have g : ∀ i, i < m → (tx ++ [ch]).getD (p + i) 0 = tx.getD (p + i) 0 := fun i hi => getD_app_l (by omega)
  have gm : (tx ++ [ch]).getD (p + m) 0 = ch := by rw [getD_app_r (by omega), show p + m - tx.length = 0 by omega]; rfl
  have gz : ∀ i, m < i → (tx ++ [ch]).getD (p + i) 0 = 0 := fun i hi => getD_ge (by rw [List.length_append]; show tx.length + 1 ≤ _; omega)
  have gy : ∀ i, m ≤ i → tx.getD (p + i) 0 = 0 := fun i hi => getD_ge (by omega)
  have l0 := getD_lt h p
  have l1 := getD_lt h (p + 1)
  have l2 := getD_lt h (p + 2)
  unfold wdx
  rcases (show m = 0 ∨ m = 1 ∨ m = 2 ∨ m = 3 by omega) with rfl | rfl | rfl | rfl
  · have q0 : tx.getD p 0 = 0 := gy 0 (by omega)
    have p0 : (tx ++ [ch]).getD p 0 = ch := gm
    rw [q0, gy 1 (by omega), gy 2 (by omega), gy 3 (by omega), p0, gz 1 (by omega), gz 2 (by omega), gz 3 (by omega)]
    rw [pk_shlN (((24 : Int32) - 8 * nI 0) &&& 31) 24 (by decide) (by omega), or_nI]
    congr 1
    show 0 ||| (ch * 2 ^ 24) = _
    rw [Nat.zero_or]
    omega
  · have p0 : (tx ++ [ch]).getD p 0 = tx.getD p 0 := g 0 (by omega)
    rw [gy 1 (by omega), gy 2 (by omega), gy 3 (by omega), p0, gm, gz 2 (by omega), gz 3 (by omega)]
    rw [pk_shlN (((24 : Int32) - 8 * nI 1) &&& 31) 16 (by decide) (by omega), or_nI]
    congr 1
    have := or_add (a := tx.getD p 0) (b := ch * 2 ^ 16) 24 (by omega)
    rw [show tx.getD p 0 * 16777216 + 0 * 65536 + 0 * 256 + 0 = 2 ^ 24 * tx.getD p 0 by omega, this]
    omega
  · have p0 : (tx ++ [ch]).getD p 0 = tx.getD p 0 := g 0 (by omega)
    rw [gy 2 (by omega), gy 3 (by omega), p0, g 1 (by omega), gm, gz 3 (by omega)]
    rw [pk_shlN (((24 : Int32) - 8 * nI 2) &&& 31) 8 (by decide) (by omega), or_nI]
    congr 1
    have := or_add (a := tx.getD p 0 * 256 + tx.getD (p + 1) 0) (b := ch * 2 ^ 8) 16 (by omega)
    rw [show tx.getD p 0 * 16777216 + tx.getD (p + 1) 0 * 65536 + 0 * 256 + 0 = 2 ^ 16 * (tx.getD p 0 * 256 + tx.getD (p + 1) 0) by omega, this]
    omega
  · have p0 : (tx ++ [ch]).getD p 0 = tx.getD p 0 := g 0 (by omega)
    rw [gy 3 (by omega), p0, g 1 (by omega), g 2 (by omega), gm]
    rw [pk_shlN (((24 : Int32) - 8 * nI 3) &&& 31) 0 (by decide) (by omega), or_nI]
    congr 1
    have := or_add (a := tx.getD p 0 * 65536 + tx.getD (p + 1) 0 * 256 + tx.getD (p + 2) 0) (b := ch * 2 ^ 0) 8 (by omega)
    rw [show tx.getD p 0 * 16777216 + tx.getD (p + 1) 0 * 65536 + tx.getD (p + 2) 0 * 256 + 0 = 2 ^ 8 * (tx.getD p 0 * 65536 + tx.getD (p + 1) 0 * 256 + tx.getD (p + 2) 0) by omega, this]
    omega
theorem wdx_same {tx : List Nat} {p ch : Nat} (h : p + 4 ≤ tx.length ∨ tx.length + 1 ≤ p) : wdx (tx ++ [ch]) p = wdx tx p := by
  have g : ∀ i, i < 4 → (tx ++ [ch]).getD (p + i) 0 = tx.getD (p + i) 0 := fun i hi => by
    rcases h with h | h
    · exact getD_app_l (by omega)
    · rw [getD_ge (by rw [List.length_append]; show tx.length + 1 ≤ _; omega), getD_ge (by omega)]
  unfold wdx
  rw [show (tx ++ [ch]).getD p 0 = tx.getD p 0 from g 0 (by omega), g 1 (by omega), g 2 (by omega), g 3 (by omega)]
theorem wdx_0 {tx : List Nat} {p : Nat} (h : tx.length ≤ p) : wdx tx p = 0 := by
  unfold wdx
  rw [getD_ge h, getD_ge (by omega), getD_ge (by omega), getD_ge (by omega)]
