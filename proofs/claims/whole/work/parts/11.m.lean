/-! rows of tiles: bits, and what rows there are -/
theorem nI_bv (a : Nat) : (nI a).toBitVec = BitVec.ofNat 32 a := rfl
theorem nI_and {a b : Nat} (ha : a < 2 ^ 32) (hb : b < 2 ^ 32) : nI a &&& nI b = nI (a &&& b) := by
  apply Int32.toBitVec_inj.mp
  rw [Int32.toBitVec_and, nI_bv, nI_bv, nI_bv]
  apply BitVec.eq_of_toNat_eq
  rw [BitVec.toNat_and, BitVec.toNat_ofNat, BitVec.toNat_ofNat, BitVec.toNat_ofNat, Nat.mod_eq_of_lt ha, Nat.mod_eq_of_lt hb, Nat.mod_eq_of_lt (Nat.lt_of_le_of_lt Nat.and_le_left ha)]
theorem nI_or {a b : Nat} (ha : a < 2 ^ 32) (hb : b < 2 ^ 32) : nI a ||| nI b = nI (a ||| b) := by
  apply Int32.toBitVec_inj.mp
  rw [Int32.toBitVec_or, nI_bv, nI_bv, nI_bv]
  apply BitVec.eq_of_toNat_eq
  rw [BitVec.toNat_or, BitVec.toNat_ofNat, BitVec.toNat_ofNat, BitVec.toNat_ofNat, Nat.mod_eq_of_lt ha, Nat.mod_eq_of_lt hb, Nat.mod_eq_of_lt (Nat.or_lt_two_pow ha hb)]
theorem shl_k : ∀ i, i < 13 → (1 : Int32) <<< (nI i &&& 31) = nI (2 ^ i) := by decide +kernel
theorem shr_k (v : Int32) {k : Nat} (hk : k < 12) : (v >>> (nI k &&& 31)).toBitVec = v.toBitVec.sshiftRight k := by
  rcases (show k = 0 ∨ k = 1 ∨ k = 2 ∨ k = 3 ∨ k = 4 ∨ k = 5 ∨ k = 6 ∨ k = 7 ∨ k = 8 ∨ k = 9 ∨ k = 10 ∨ k = 11 by omega) with rfl | rfl | rfl | rfl | rfl | rfl | rfl | rfl | rfl | rfl | rfl | rfl <;> rfl
theorem shr_1 {m k : Nat} (hm : m < 2 ^ 31) (hk : k < 12) : ((nI m >>> (nI k &&& 31)) &&& 1) = if m.testBit k = true then 1 else 0 := by
  apply Int32.toBitVec_inj.mp
  rw [Int32.toBitVec_and, shr_k _ hk, nI_bv]
  have h : ((BitVec.ofNat 32 m).sshiftRight k &&& 1#32) = if m.testBit k = true then 1#32 else 0#32 := by
    apply BitVec.eq_of_getLsbD_eq
    intro i hi
    rw [BitVec.getLsbD_and, BitVec.getLsbD_sshiftRight]
    by_cases h0 : i = 0
    · subst h0
      rw [if_pos (show k + 0 < 32 by omega)]
      rw [Nat.add_zero, BitVec.getLsbD_ofNat]
      cases hb : m.testBit k with
      | true => simp [show k < 32 by omega]
      | false => simp
    · have h1 : (1#32).getLsbD i = false := by
        have : ∀ i, i < 32 → ¬ i = 0 → (1#32).getLsbD i = false := by decide
        exact this i hi h0
      rw [h1, Bool.and_false]
      cases hb : m.testBit k with
      | true => simp [h1]
      | false => simp
  rw [show (1 : Int32).toBitVec = 1#32 from rfl, h]
  split <;> rfl
/-- the tile's fit, and its other side -/
def fitN (t e : Nat) : Prop := t / 10 = e ∨ t % 10 = e
def oth (t e : Nat) : Nat := if t / 10 = e then t % 10 else t / 10
theorem oth_le {t e : Nat} (h : t < 100) : oth t e < 10 := by unfold oth; split <;> omega
theorem oth_fit {t e : Nat} (h : fitN t e) : fitN t (oth t e) ∧ oth t (oth t e) = e := by
  unfold fitN oth at *
  by_cases h1 : t / 10 = e
  · rw [if_pos h1]
    refine ⟨Or.inr rfl, ?_⟩
    by_cases h2 : t / 10 = t % 10
    · rw [if_pos h2]; omega
    · rw [if_neg h2]; exact h1
  · rw [if_neg h1, if_pos rfl]
    exact ⟨Or.inl rfl, h.resolve_left h1⟩
theorem oth_sum {t e : Nat} (h : fitN t e) : t / 10 + t % 10 = oth t e + e := by
  unfold fitN oth at *
  split <;> omega
def acr (t E : Nat) : Nat := (if E.testBit (t / 10) = true then 2 ^ (t % 10) else 0) ||| (if E.testBit (t % 10) = true then 2 ^ (t / 10) else 0)
theorem tb_ite (c : Prop) [Decidable c] (i e : Nat) : (if c then 2 ^ i else 0).testBit e = decide (c ∧ i = e) := by
  by_cases h : c
  · rw [if_pos h, Nat.testBit_two_pow]
    simp [h]
  · rw [if_neg h, Nat.zero_testBit]
    simp [h]
theorem acr_tb {t E e : Nat} : (acr t E).testBit e = true ↔ ∃ f, E.testBit f = true ∧ fitN t f ∧ oth t f = e := by
  unfold acr
  rw [Nat.testBit_or, tb_ite, tb_ite, Bool.or_eq_true, decide_eq_true_eq, decide_eq_true_eq]
  constructor
  · rintro (⟨h1, h2⟩ | ⟨h1, h2⟩)
    · exact ⟨t / 10, h1, Or.inl rfl, by unfold oth; rw [if_pos rfl]; exact h2⟩
    · refine ⟨t % 10, h1, Or.inr rfl, ?_⟩
      unfold oth
      by_cases z : t / 10 = t % 10
      · rw [if_pos z]; omega
      · rw [if_neg z]; exact h2
  · rintro ⟨f, h1, h2, h3⟩
    unfold oth at h3
    by_cases z : t / 10 = f
    · rw [if_pos z] at h3
      exact Or.inl ⟨by rw [z]; exact h1, h3⟩
    · rw [if_neg z] at h3
      exact Or.inr ⟨by rw [h2.resolve_left z]; exact h1, h3⟩
theorem acr_lt {t E : Nat} (h : t < 100) : acr t E < 1024 := by
  have h1 : ∀ c : Prop, ∀ [Decidable c], ∀ i, i < 10 → (if c then 2 ^ i else 0) < 2 ^ 10 := fun c _ i hi => by
    split
    · exact Nat.pow_lt_pow_right (by omega) hi
    · omega
  exact Nat.or_lt_two_pow (h1 _ _ (by omega)) (h1 _ _ (by omega))
theorem tb_ne {a : Nat} (h : ¬ a = 0) : ∃ e, a.testBit e = true := Nat.exists_testBit_of_ne_zero h
theorem tb_ex {a e : Nat} (h : a.testBit e = true) : ¬ a = 0 := fun z => by rw [z, Nat.zero_testBit] at h; exact absurd h (by decide)
theorem tb_le {a e : Nat} (ha : a < 1024) (h : a.testBit e = true) : e < 10 := by
  rcases Nat.lt_or_ge e 10 with z | z
  · exact z
  · have : a < 2 ^ e := Nat.lt_of_lt_of_le (show a < 2 ^ 10 from ha) (Nat.pow_le_pow_right (by omega) z)
    rw [Nat.testBit_lt_two_pow this] at h
    exact absurd h (by decide)
theorem tb_add {m i j : Nat} : (m ||| 2 ^ i).testBit j = (m.testBit j || decide (i = j)) := by
  rw [Nat.testBit_or, Nat.testBit_two_pow]
theorem or_lt {m i n : Nat} (hm : m < 2 ^ n) (hi : i < n) : m ||| 2 ^ i < 2 ^ n := Nat.or_lt_two_pow hm (Nat.pow_lt_pow_right (by omega) hi)
theorem or_gt {m i : Nat} (h : m.testBit i = false) : m < m ||| 2 ^ i := by
  have h1 : m ≤ m ||| 2 ^ i := Nat.left_le_or
  rcases (show m = m ||| 2 ^ i ∨ m < m ||| 2 ^ i by omega) with z | z
  · have : (m ||| 2 ^ i).testBit i = true := by rw [tb_add]; simp
    rw [← z, h] at this
    exact absurd this (by decide)
  · exact z
theorem p12 {n : Nat} (h : n ≤ 12) : 2 ^ n ≤ 4096 := Nat.pow_le_pow_right (show 0 < 2 by omega) h
/-- how many tiles, and their pips -/
def pc (m : Nat) : Nat := cn (fun i => m.testBit i) 0 12
def pw (tl : Nat → Nat) (n m : Nat) : Nat := (List.range n).foldr (fun i a => (if m.testBit i = true then tl i / 10 + tl i % 10 else 0) + a) 0
theorem pc_add {m i : Nat} (hi : i < 12) (h : m.testBit i = false) : pc (m ||| 2 ^ i) = pc m + 1 :=
  cn_set (P := fun j => (m ||| 2 ^ i).testBit j) (Q := fun j => m.testBit j) i (by simp only [tb_add]; simp) h 12 0 (Nat.zero_le _) (by omega) (fun j hj => by
    simp only [tb_add]
    rw [decide_eq_false (fun z => hj z.symm), Bool.or_false])
theorem pc_le (m : Nat) : pc m ≤ 12 := cn_le _ _ _
theorem pc_0 : pc 0 = 0 := by decide
theorem bc_64 : ∀ a, a < 64 → ∀ c, c < 64 → f_J6_bitCount_0f7a4 (nI (64 * a + c)) = some (nI (pc (64 * a + c))) := by decide +kernel
theorem bc_all (m : Nat) (h : m < 4096) : f_J6_bitCount_0f7a4 (nI m) = some (nI (pc m)) := by
  have := bc_64 (m / 64) (by omega) (m % 64) (by omega)
  rw [show 64 * (m / 64) + m % 64 = m by omega] at this
  exact this
/-! what rows there are: of l tiles, the set m, with the end e -/
section R
variable (tl : Nat → Nat) (n st : Nat)
def Rw : Nat → Nat → Nat → Prop
  | 0, m, e => m = 0 ∧ e = st
  | l + 1, m, e => ∃ m0 e0 i, Rw l m0 e0 ∧ i < n ∧ m0.testBit i = false ∧ fitN (tl i) e0 ∧ m = m0 ||| 2 ^ i ∧ e = oth (tl i) e0
variable {tl n st}
theorem Rw.lt (hn : n ≤ 12) (hst : st < 10) (htl : ∀ i, i < n → tl i < 100) : ∀ l m e, Rw tl n st l m e → m < 2 ^ n ∧ e < 10 ∧ pc m = l
  | 0, m, e, h => by
    rw [h.1, h.2]
    exact ⟨Nat.pow_pos (by omega), hst, pc_0⟩
  | l + 1, m, e, h => by
    obtain ⟨m0, e0, i, h, hi, hb, hf, rfl, rfl⟩ := h
    obtain ⟨h1, h2, h3⟩ := Rw.lt hn hst htl l m0 e0 h
    exact ⟨or_lt h1 hi, oth_le (htl i hi), by rw [pc_add (by omega) hb, h3]⟩
/-- what the reference's rows of numbers say -/
def D1 (tl : Nat → Nat) (n : Nat) (w : Nat → Nat) (A : Nat → Nat → Nat) : Prop := ∀ m, m < 2 ^ n → ∀ e, e < 10 → (∀ k, k < n → m.testBit k = false → fitN (tl k) e → A (m ||| 2 ^ k) (oth (tl k) e) + w k ≤ A m e) ∧ (A m e = 0 ∨ ∃ k, k < n ∧ m.testBit k = false ∧ fitN (tl k) e ∧ A m e = A (m ||| 2 ^ k) (oth (tl k) e) + w k)
/-- the weight of a set -/
def pW (w : Nat → Nat) : Nat → Nat → Nat
  | 0, _ => 0
  | k + 1, m => pW w k m + if m.testBit k = true then w k else 0
theorem pW_cg (w : Nat → Nat) {m m' : Nat} : ∀ k, (∀ j, j < k → m.testBit j = m'.testBit j) → pW w k m = pW w k m'
  | 0, _ => rfl
  | k + 1, h => by
    show pW w k m + _ = pW w k m' + _
    rw [pW_cg w k (fun j hj => h j (by omega)), h k (by omega)]
theorem pW_add (w : Nat → Nat) {m i : Nat} (hb : m.testBit i = false) : ∀ k, i < k → pW w k (m ||| 2 ^ i) = pW w k m + w i
  | 0, h => by omega
  | k + 1, h => by
    show pW w k (m ||| 2 ^ i) + (if (m ||| 2 ^ i).testBit k = true then w k else 0) = pW w k m + (if m.testBit k = true then w k else 0) + w i
    by_cases hk : i = k
    · subst hk
      have e1 : pW w i (m ||| 2 ^ i) = pW w i m := pW_cg w i (fun j hj => by rw [tb_add, decide_eq_false (by omega), Bool.or_false])
      rw [e1, tb_add, hb]
      simp
    · rw [pW_add w hb k (by omega), tb_add, decide_eq_false hk, Bool.or_false]
      omega
theorem pW_0 (w : Nat → Nat) : ∀ k, pW w k 0 = 0
  | 0 => rfl
  | k + 1 => by
    show pW w k 0 + _ = 0
    rw [pW_0 w k, Nat.zero_testBit]; rfl
theorem pW_1 : ∀ k m, pW (fun _ => 1) k m = cn (fun i => m.testBit i) 0 k
  | 0, _ => rfl
  | k + 1, m => by
    rw [cn_snoc]
    show pW _ k m + _ = _
    rw [pW_1 k m, Nat.zero_add]
theorem pW_le (w : Nat → Nat) {c : Nat} (hw : ∀ k, w k ≤ c) : ∀ k m, pW w k m ≤ c * k
  | 0, _ => Nat.zero_le _
  | k + 1, m => by
    show pW w k m + _ ≤ c * (k + 1)
    have h1 := pW_le w hw k m
    have h2 := hw k
    rw [Nat.mul_add, Nat.mul_one]
    split <;> omega
/-- no row weighs more than what the reference says -/
theorem Rw.ub {w : Nat → Nat} {A : Nat → Nat → Nat} (hn : n ≤ 12) (hst : st < 10) (htl : ∀ i, i < n → tl i < 100) (hA : D1 tl n w A) : ∀ l m e, Rw tl n st l m e → pW w n m + A m e ≤ A 0 st
  | 0, m, e, h => by
    rw [h.1, h.2, pW_0]; omega
  | l + 1, m, e, h => by
    obtain ⟨m0, e0, i, h, hi, hb, hf, rfl, rfl⟩ := h
    obtain ⟨h1, h2, h3⟩ := Rw.lt hn hst htl l m0 e0 h
    have ih := Rw.ub hn hst htl hA l m0 e0 h
    have h4 := (hA m0 h1 e0 h2).1 i hi hb hf
    rw [pW_add w hb n hi]
    omega
/-- and one weighs as much -/
theorem Rw.ex {w : Nat → Nat} {A : Nat → Nat → Nat} (hn : n ≤ 12) (hst : st < 10) (htl : ∀ i, i < n → tl i < 100) (hA : D1 tl n w A) : ∀ f l m e, pc m + f = 12 → Rw tl n st l m e → ∃ l' m' e', Rw tl n st l' m' e' ∧ pW w n m' = pW w n m + A m e
  | 0, l, m, e, hf, h => by
    obtain ⟨h1, h2, h3⟩ := Rw.lt hn hst htl l m e h
    rcases (hA m h1 e h2).2 with z | ⟨k, k1, k2, k3, k4⟩
    · exact ⟨l, m, e, h, by omega⟩
    · have := pc_add (show k < 12 by omega) k2
      have := pc_le (m ||| 2 ^ k)
      omega
  | f + 1, l, m, e, hf, h => by
    obtain ⟨h1, h2, h3⟩ := Rw.lt hn hst htl l m e h
    rcases (hA m h1 e h2).2 with z | ⟨k, k1, k2, k3, k4⟩
    · exact ⟨l, m, e, h, by omega⟩
    · obtain ⟨l', m', e', g1, g2⟩ := Rw.ex hn hst htl hA f (l + 1) (m ||| 2 ^ k) (oth (tl k) e) (by rw [pc_add (by omega) k2]; omega) ⟨m, e, k, h, k1, k2, k3, rfl, rfl⟩
      exact ⟨l', m', e', g1, by rw [g2, pW_add w k2 n k1, k4]; omega⟩
end R
