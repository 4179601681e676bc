/-! a deal: the deck and how it is mixed -/
theorem cn_add {P Q R : Nat → Bool} : ∀ n k, (∀ j, P j = true → R j = true ∧ Q j = false) → (∀ j, Q j = true → R j = true) → cn P k n + cn Q k n ≤ cn R k n
  | 0, _, _, _ => Nat.le_refl _
  | n + 1, k, h1, h2 => by
    show (if P k = true then 1 else 0) + cn P (k + 1) n + ((if Q k = true then 1 else 0) + cn Q (k + 1) n) ≤ (if R k = true then 1 else 0) + cn R (k + 1) n
    have ih := cn_add (P := P) (Q := Q) (R := R) n (k + 1) h1 h2
    by_cases hp : P k = true
    · obtain ⟨a, b⟩ := h1 k hp
      rw [if_pos hp, if_pos a, b, if_neg (by decide)]
      omega
    · rw [if_neg hp]
      by_cases hq : Q k = true
      · rw [if_pos hq, if_pos (h2 k hq)]; omega
      · rw [if_neg hq]
        split <;> omega
theorem set_54 : ∀ mx, mx ≤ 9 → ∀ hb, hb ≤ mx → cn (fun c => decide ((c / 10 ≤ c % 10 ∧ c % 10 ≤ mx) ∧ ¬ c = 11 * hb)) 0 100 ≤ 54 := by decide +kernel
theorem and_15 (v : Int32) : ∃ a, a < 32768 ∧ v &&& 32767 = nI a := by
  refine ⟨v.toBitVec.toNat % 32768, Nat.mod_lt _ (by omega), ?_⟩
  have h : v.toBitVec &&& 32767#32 = BitVec.ofNat 32 (v.toBitVec.toNat % 32768) := by
    apply BitVec.eq_of_toNat_eq
    rw [BitVec.toNat_and, show (32767#32).toNat = 2 ^ 15 - 1 by decide, Nat.and_two_pow_sub_one_eq_mod, BitVec.toNat_ofNat, Nat.mod_eq_of_lt (show v.toBitVec.toNat % 32768 < 2 ^ 32 by omega)]
  exact Int32.toBitVec_inj.mp h
def fr (mx hb : Nat) (H : Nat → Int32) (c : Nat) : Bool := decide ((c / 10 ≤ c % 10 ∧ c % 10 ≤ mx) ∧ H c = -1 ∧ ¬ c = 11 * hb)
theorem e_mixN (x : Int32) : (x >>> ((16 : Int32) &&& 31)) &&& 32767 = nI (mixN x % 32768) := by
  rw [show ((16 : Int32) &&& 31) = 16 by decide]
  apply Int32.toBitVec_inj.mp
  rw [Int32.toBitVec_and, Int32.toBitVec_shiftRight]
  show x.toBitVec.sshiftRight 16 &&& 32767#32 = BitVec.ofNat 32 (x.toBitVec.toNat / 65536 % 32768)
  have e1 : x.toBitVec.sshiftRight 16 &&& 32767#32 = (x.toBitVec >>> (16 : Nat)) &&& 32767#32 := by
    apply BitVec.eq_of_getLsbD_eq
    intro i hi
    rw [BitVec.getLsbD_and, BitVec.getLsbD_and, BitVec.getLsbD_ushiftRight, BitVec.getLsbD_sshiftRight]
    by_cases h : i < 15
    · rw [if_pos (show 16 + i < 32 by omega)]
      simp [show ¬ 32 ≤ i by omega]
    · have : (32767#32).getLsbD i = false := by
        have : ∀ i, i < 32 → ¬ i < 15 → (32767#32).getLsbD i = false := by decide
        exact this i hi h
      rw [this, Bool.and_false, Bool.and_false]
  rw [e1]
  apply BitVec.eq_of_toNat_eq
  rw [BitVec.toNat_and, BitVec.toNat_ushiftRight, show (32767#32).toNat = 2 ^ 15 - 1 by decide, Nat.and_two_pow_sub_one_eq_mod, BitVec.toNat_ofNat, Nat.shiftRight_eq_div_pow]
  rw [Nat.mod_eq_of_lt (show x.toBitVec.toNat / 65536 % 32768 < 2 ^ 32 by omega)]
/-- the deck, in order -/
def fl (mx hb : Nat) (H : Nat → Int32) (n : Nat) : List Nat := (List.range n).filter (fr mx hb H)
theorem fl_s (mx hb : Nat) (H : Nat → Int32) (n : Nat) : fl mx hb H (n + 1) = if fr mx hb H n = true then fl mx hb H n ++ [n] else fl mx hb H n := by
  unfold fl
  rw [List.range_succ, List.filter_append]
  by_cases h : fr mx hb H n = true
  · rw [if_pos h, List.filter_cons_of_pos h]; rfl
  · rw [if_neg h, List.filter_cons_of_neg h]; exact List.append_nil _
theorem fl_skip {mx hb : Nat} {H : Nat → Int32} {m : Nat} : ∀ n, (∀ c, m ≤ c → c < m + n → fr mx hb H c = false) → fl mx hb H (m + n) = fl mx hb H m
  | 0, _ => rfl
  | n + 1, h => by
    rw [show m + (n + 1) = m + n + 1 by omega, fl_s, h (m + n) (by omega) (by omega), if_neg (by decide)]
    exact fl_skip n fun c h1 h2 => h c h1 (by omega)
theorem fl_mem {mx hb : Nat} {H : Nat → Int32} {n x : Nat} : x ∈ fl mx hb H n ↔ x < n ∧ (inS mx x ∧ H x = -1 ∧ ¬ x = 11 * hb) := by
  unfold fl fr inS
  rw [List.mem_filter, List.mem_range, decide_eq_true_eq]
theorem fl_nd (mx hb : Nat) (H : Nat → Int32) (n : Nat) : (fl mx hb H n).Nodup := List.nodup_range.filter _
theorem fl_len (mx hb : Nat) (H : Nat → Int32) (n : Nat) : (fl mx hb H n).length = cn (fr mx hb H) 0 n := (cn_filter _ n).symm
theorem dk_row {mx hb : Nat} {H : Nat → Int32} {Hs : List (List Nat)} (hin : ∀ x, x < 100 → (inH Hs x ↔ ¬ H x = -1)) {a : Nat} (ha : a ≤ 9) (hm : mx ≤ 9) {l : List Nat} (hl : l = fl mx hb H (10 * a + a)) : ∀ n, a + n ≤ mx + 1 → dkR Hs hb a n l = fl mx hb H (10 * a + (a + n))
  | 0, _ => hl
  | n + 1, hn => by
    have ih := dk_row hin ha hm hl n (by omega)
    have hx := hin (10 * a + (a + n)) (by omega)
    have e : 10 * a + (a + (n + 1)) = 10 * a + (a + n) + 1 := by omega
    rw [e, fl_s]
    by_cases h : (a = hb ∧ a + n = hb) ∨ inH Hs (10 * a + (a + n))
    · rw [dkR_pos h, ih, if_neg]
      unfold fr
      rw [decide_eq_true_eq]
      rintro ⟨-, h2, h3⟩
      rcases h with h | h
      · exact h3 (by omega)
      · exact hx.mp h h2
    · rw [dkR_neg h, ih, if_pos]
      unfold fr
      rw [decide_eq_true_eq]
      refine ⟨by omega, ?_, fun z => h (Or.inl (by omega))⟩
      exact Classical.byContradiction fun z => h (Or.inr (hx.mpr z))
theorem dk_all {mx hb : Nat} {H : Nat → Int32} {Hs : List (List Nat)} (hin : ∀ x, x < 100 → (inH Hs x ↔ ¬ H x = -1)) (hm : mx ≤ 9) : ∀ n, n ≤ mx + 1 → dkT Hs hb mx n = fl mx hb H (10 * n)
  | 0, _ => rfl
  | n + 1, hn => by
    rw [dkT_s, dk_all hin hm n (by omega)]
    have no : ∀ c, (¬ c / 10 ≤ c % 10 ∨ ¬ c % 10 ≤ mx) → fr mx hb H c = false := fun c hc => decide_eq_false fun z => by omega
    have e1 : fl mx hb H (10 * n) = fl mx hb H (10 * n + n) := (fl_skip n fun c h1 h2 => no c (Or.inl (by omega))).symm
    rw [dk_row hin (by omega) hm e1 (mx + 1 - n) (by omega)]
    have e2 := fl_skip (mx := mx) (hb := hb) (H := H) (m := 10 * n + (n + (mx + 1 - n))) (10 - (mx + 1)) fun c h1 h2 => no c (Or.inr (by omega))
    rw [← e2]
    congr 1
    omega
theorem dk_eq {mx hb : Nat} {H : Nat → Int32} {Hs : List (List Nat)} (hin : ∀ x, x < 100 → (inH Hs x ↔ ¬ H x = -1)) (hm : mx ≤ 9) : dkT Hs hb mx (mx + 1) = fl mx hb H 100 := by
  rw [dk_all hin hm (mx + 1) (Nat.le_refl _)]
  have := fl_skip (mx := mx) (hb := hb) (H := H) (m := 10 * (mx + 1)) (100 - 10 * (mx + 1)) fun c h1 h2 => decide_eq_false fun z => by omega
  rw [← this]
  congr 1
  omega
/-- an array holds a list -/
def AL (B : Nat → Int32) (l : List Nat) : Prop := ∀ i, i < l.length → B i = nI (l.getD i 0)
theorem nat_set {L : List Nat} {p q : Nat} {l : Nat} (hp : p < L.length) : (L.set p l).getD q 0 = if q = p then l else L.getD q 0 := by
  rw [List.getD_eq_getElem?_getD, List.getElem?_set]
  by_cases h : p = q
  · rw [if_pos h, if_pos hp, if_pos h.symm]; rfl
  · rw [if_neg h, if_neg (fun z => h z.symm), List.getD_eq_getElem?_getD]
theorem swp_get {l : List Nat} {i j k : Nat} (hi : i < l.length) (hj : j < l.length) : (swp l i j).getD k 0 = l.getD (if k = j then i else if k = i then j else k) 0 := by
  unfold swp
  rw [nat_set (by rw [List.length_set]; exact hj), nat_set hi]
  by_cases h1 : k = j
  · rw [if_pos h1, if_pos h1]
  · rw [if_neg h1, if_neg h1]
    by_cases h2 : k = i
    · rw [if_pos h2, if_pos h2]
    · rw [if_neg h2, if_neg h2]
/-- no two places alike -/
def ND (l : List Nat) : Prop := ∀ i j, i < l.length → j < l.length → l.getD i 0 = l.getD j 0 → i = j
theorem ND.swp {l : List Nat} {i j : Nat} (h : ND l) (hi : i < l.length) (hj : j < l.length) : ND (swp l i j) := by
  intro a b ha hb e
  rw [swp_len] at ha hb
  rw [swp_get hi hj, swp_get hi hj] at e
  have := h _ _ (by split; exact hi; split; exact hj; exact ha) (by split; exact hi; split; exact hj; exact hb) e
  split at this <;> split at this <;> (try split at this) <;> (try split at this) <;> omega
theorem AL.swp {B : Nat → Int32} {l : List Nat} {i j : Nat} (h : AL B l) (hi : i < l.length) (hj : j < l.length) : AL (upd (upd B i (B j)) j (B i)) (swp l i j) := by
  intro k hk
  rw [swp_len] at hk
  rw [swp_get hi hj]
  by_cases h1 : k = j
  · rw [if_pos h1, h1, upd_s, h i hi]
  · rw [if_neg h1, upd_n h1]
    by_cases h2 : k = i
    · rw [if_pos h2, h2, upd_s, h j hj]
    · rw [if_neg h2, upd_n h2, h k hk]
theorem swp_in {l : List Nat} {i j : Nat} {P : Nat → Prop} (h : ∀ k, k < l.length → P (l.getD k 0)) (hi : i < l.length) (hj : j < l.length) : ∀ k, k < (swp l i j).length → P ((swp l i j).getD k 0) := by
  intro k hk
  rw [swp_len] at hk
  rw [swp_get hi hj]
  exact h _ (by split; exact hi; split; exact hj; exact hk)
theorem e_mix {K : SA} {l : List Nat} {s : Int32} {P : Nat → Prop} (h1 : K.1 1 = nI l.length) (hl : l.length ≤ 54) (hA : AL (K.2 0) l) (hN : ND l) (hP : ∀ k, k < l.length → P (l.getD k 0)) : ∃ K', f_X4_mix K s = some ((shf (l.length - 1) l s).2, K') ∧ K'.1 = K.1 ∧ AL (K'.2 0) (shf (l.length - 1) l s).1 ∧ (shf (l.length - 1) l s).1.length = l.length ∧ ND (shf (l.length - 1) l s).1 ∧ ∀ k, k < l.length → P ((shf (l.length - 1) l s).1.getD k 0) := by
  unfold f_X4_mix
  rw [h1]
  by_cases he : l.length = 0
  · rw [he]
    refine ⟨K, ?_, rfl, hA, he, hN, fun k hk => absurd hk (Nat.not_lt_zero _)⟩
    show f_X4_mix_B9 _ _ _ _ = _
    unfold f_X4_mix_B9
    exact if_pos (by decide)
  · rw [show nI l.length - 1 = nI (l.length - 1) from nI_sub (b := 1) (by omega)]
    refine lr3 (B := f_X4_mix_B9) (fun o => ∃ K', o = some ((shf (l.length - 1) l s).2, K') ∧ K'.1 = K.1 ∧ AL (K'.2 0) (shf (l.length - 1) l s).1 ∧ (shf (l.length - 1) l s).1.length = l.length ∧ ND (shf (l.length - 1) l s).1 ∧ ∀ k, k < l.length → P ((shf (l.length - 1) l s).1.getD k 0))
      (fun (m : Nat) (v2 v3 : Int32) (K1 : SA) => ∃ l1, v3 = nI m ∧ m < l.length ∧ l1.length = l.length ∧ K1.1 = K.1 ∧ AL (K1.2 0) l1 ∧ ND l1 ∧ (∀ k, k < l.length → P (l1.getD k 0)) ∧ shf m l1 v2 = shf (l.length - 1) l s) ?_ FUEL (l.length - 1) _ _ _ (FUEL_lt (by omega)) ⟨l, rfl, by omega, rfl, rfl, hA, hN, hP, rfl⟩
    rintro rec m v2 v3 K1 ⟨l1, rfl, hk, hl1, hK1, hA1, hN1, hP1, hs⟩ ih
    unfold f_X4_mix_B9
    rw [ie_lt1 (by omega)]
    by_cases hm : m = 0
    · subst hm
      rw [if_pos rfl]
      have e : shf (l.length - 1) l s = (l1, v2) := hs.symm
      rw [e]
      exact ⟨K1, rfl, hK1, hA1, hl1, hN1, hP1⟩
    · obtain ⟨k, rfl⟩ : ∃ k, m = k + 1 := ⟨m - 1, by omega⟩
      have hx : v2 * 1103515245 + 12345 = nxt v2 := by unfold nxt; rw [Int32.mul_comm]
      have hz : nz (nI (k + 1 + 1)) = true := decide_eq_true (nI_ne0 (by omega) (by omega))
      have hmx := mixN_lt (nxt v2)
      have hj : plc (nxt v2) (k + 1) < k + 1 + 1 := Nat.mod_lt _ (by omega)
      have hs2 : shf k (swp l1 (k + 1) (plc (nxt v2) (k + 1))) (nxt v2) = shf (l.length - 1) l s := hs
      rw [if_neg (by omega), hx, nmd_S, nI_1, hz, gd_T, e_mixN, nI_div2 (by omega) (by omega), nI_mul, nI_dm (by omega) (by omega), nmd_S]
      show ∃ K', (bd1 (f_X7_look 55 (K1.2 0) (nI (k + 1))) fun (r42 : Int32) => bd1 (f_X7_look 55 (K1.2 0) (nI (plc (nxt v2) (k + 1)))) fun (r58 : Int32) => bd1 (f_X7_put 55 (K1.2 0) (nI (k + 1)) r58) fun (h061 : Nat → Int32) => bd1 (f_X7_put 55 h061 (nI (plc (nxt v2) (k + 1))) r42) fun (h072 : Nat → Int32) => rec (nxt v2) (nI (k + 1) + (-1)) (sa K1 0 h072)) = some (_, K') ∧ _
      generalize plc (nxt v2) (k + 1) = j at hj hs2 ⊢
      rw [e_look (by omega) (by omega), bd1_S, e_look (by omega) (by omega), bd1_S, e_put (by omega) (by omega), bd1_S, e_put (by omega) (by omega), bd1_S, show nI (k + 1) + -1 = nI k from nI_am1 (by omega)]
      exact ih k _ _ _ (by omega) ⟨swp l1 (k + 1) j, rfl, by omega, by rw [swp_len]; exact hl1, hK1, hA1.swp (by omega) (by omega), hN1.swp (by omega) (by omega), fun q hq => swp_in (fun q hq => hP1 q (by omega)) (by omega) (by omega) q (by rw [swp_len]; omega), hs2⟩
