/-! the class's search -/
theorem cn_false : ∀ n k, cn (fun _ => false) k n = 0
  | 0, _ => rfl
  | n + 1, k => by
    show (if false = true then 1 else 0) + cn (fun _ => false) (k + 1) n = 0
    rw [cn_false n]; rfl
theorem cn_mon {P : Nat → Bool} (a j : Nat) : cn P 0 a ≤ cn P 0 (a + j) := by
  induction j with
  | zero => exact Nat.le_refl _
  | succ j ih => rw [show a + (j + 1) = a + j + 1 by omega, cn_snoc]; omega
theorem cn_lt {P : Nat → Bool} {c a : Nat} (h : P c = true) (hc : c < a) : cn P 0 c < cn P 0 a := by
  have h1 : cn P 0 (c + 1) = _ := cn_snoc c 0
  rw [Nat.zero_add, if_pos h] at h1
  have h2 := cn_mon (P := P) (c + 1) (a - (c + 1))
  rw [show c + 1 + (a - (c + 1)) = a by omega] at h2
  omega
theorem cn_sur {P : Nat → Bool} : ∀ a i, i < cn P 0 a → ∃ c, c < a ∧ P c = true ∧ cn P 0 c = i
  | 0, i, h => absurd (show i < 0 from h) (Nat.not_lt_zero _)
  | a + 1, i, h => by
    have h1 : cn P 0 (a + 1) = _ := cn_snoc a 0
    rw [Nat.zero_add] at h1
    by_cases hi : i < cn P 0 a
    · obtain ⟨c, c1, c2, c3⟩ := cn_sur a i hi
      exact ⟨c, by omega, c2, c3⟩
    · by_cases hp : P a = true
      · rw [if_pos hp] at h1
        exact ⟨a, by omega, hp, by omega⟩
      · rw [if_neg hp] at h1; omega
theorem and_pow {E i : Nat} : (E &&& 2 ^ i = 0) ↔ E.testBit i = false := by
  constructor
  · intro h
    have h1 : (E &&& 2 ^ i).testBit i = E.testBit i := by rw [Nat.testBit_and, Nat.testBit_two_pow]; simp
    rw [h, Nat.zero_testBit] at h1
    exact h1.symm
  · intro h
    apply Nat.eq_of_testBit_eq
    intro j
    rw [Nat.testBit_and, Nat.testBit_two_pow, Nat.zero_testBit]
    by_cases hj : i = j
    · rw [← hj, h]; rfl
    · rw [decide_eq_false hj, Bool.and_false]
theorem pw_lt {i : Nat} (h : i < 13) : 2 ^ i < 2 ^ 32 := Nat.pow_lt_pow_right (by omega) (by omega)
theorem ie_and {α : Type} {E i : Nat} (hE : E < 2 ^ 31) (hi : i < 13) {x y : α} : (if (nI E &&& ((1 : Int32) <<< (nI i &&& 31))) = 0 then x else y) = if E.testBit i = true then y else x := by
  have h2 := pw_lt hi
  have h3 : E &&& 2 ^ i < 2 ^ 31 := Nat.lt_of_le_of_lt Nat.and_le_left hE
  rw [shl_k i hi, nI_and (by omega) h2]
  by_cases h : E.testBit i = true
  · rw [if_pos h, if_neg]
    intro z
    have z2 := (nI_eq (b := 0) h3 (by omega)).mp z
    rw [and_pow.mp z2] at h
    exact absurd h (by decide)
  · rw [if_neg h, if_pos]
    rw [and_pow.mpr (Bool.eq_false_iff.mpr h)]; rfl
theorem e_across {t E : Nat} (ht : t < 100) (hE : E < 1024) : f_X2_acrossTile (nI t) (nI E) = some (nI (acr t E)) := by
  have eJ : ∀ v, v < 2 ^ 31 → f_X2_acrossTile_J22 (nI t) (nI E) (nI v) = some (nI (v ||| if E.testBit (t % 10) = true then 2 ^ (t / 10) else 0)) := fun v hv => by
    unfold f_X2_acrossTile_J22
    rw [e_high (by omega), bd1_S, ie_and (by omega) (by omega), e_low (by omega), bd1_S, nmd_S, shl_k _ (by omega), nI_or (by omega) (pw_lt (by omega))]
    by_cases h : E.testBit (t % 10) = true
    · rw [if_pos h, if_pos h]
    · rw [if_neg h, if_neg h, Nat.or_zero]
  unfold f_X2_acrossTile
  rw [e_low (by omega), bd1_S, ie_and (by omega) (by omega), e_high (by omega), bd1_S, nmd_S, shl_k _ (by omega), show (0 : Int32) ||| nI (2 ^ (t % 10)) = nI (0 ||| 2 ^ (t % 10)) from nI_or (a := 0) (by omega) (pw_lt (by omega)), Nat.zero_or]
  have h2 := Nat.pow_le_pow_right (n := 2) (by omega) (show t % 10 ≤ 9 by omega)
  unfold acr
  by_cases h : E.testBit (t / 10) = true
  · rw [if_pos h, if_pos h, eJ _ (by omega)]
  · rw [if_neg h, if_neg h]
    exact eJ 0 (by omega)
theorem e_forget {S : SA} (h : RW S) : ∃ S', f_X2_forget S = some S' ∧ S'.1 0 = 0 ∧ S'.1 2 = 0 ∧ ∀ m, m < 4096 → S'.2 2 m = 0 ∧ S'.2 3 m = 0 := by
  obtain ⟨F, f1, f2, f3, f4⟩ := h
  unfold f_X2_forget
  refine lr2 (B := f_X2_forget_B2) (fun (o : Option SA) => ∃ S', o = some S' ∧ S'.1 0 = 0 ∧ S'.1 2 = 0 ∧ ∀ m, m < 4096 → S'.2 2 m = 0 ∧ S'.2 3 m = 0) (fun (j : Nat) (v : Int32) (a : SA) => ∃ k, v = nI k ∧ k + j = F ∧ a.1 2 = nI F ∧ a.2 1 = S.2 1 ∧ ∀ m, m < 4096 → (∀ i, k ≤ i → i < F → ¬ S.2 1 i = nI m) → a.2 2 m = 0 ∧ a.2 3 m = 0) ?_ FUEL F 0 S (FUEL_lt (by omega)) ⟨0, rfl, by omega, f2, rfl, fun m hm hi => f4 m hm (fun k hk => hi k (Nat.zero_le _) hk)⟩
  rintro rec j v a ⟨k, rfl, hk, a2, a1, hz⟩ ih
  unfold f_X2_forget_B2
  rw [a2, ie_le (by omega) (by omega)]
  by_cases hF : F ≤ k
  · rw [if_pos hF]
    refine ⟨_, rfl, rfl, rfl, fun m hm => hz m hm (fun i i1 i2 => by omega)⟩
  · obtain ⟨m0, m1, m2⟩ := f3 k (by omega)
    rw [if_neg hF, i_4096, ie_le (by omega) (by omega), if_neg (by omega), e_look (by omega) (by omega), bd1_S, a1, m2, e_put m1 (by omega), bd1_S, bd1_S, e_put m1 (by omega), bd1_S, nI_1]
    refine ih (j - 1) _ _ (by omega) ⟨k + 1, rfl, by omega, a2, a1, fun m hm hi => ?_⟩
    show upd (a.2 2) m0 0 m = 0 ∧ upd (a.2 3) m0 0 m = 0
    by_cases z : m = m0
    · rw [z, upd_s, upd_s]; exact ⟨rfl, rfl⟩
    · rw [upd_n z, upd_n z]
      refine hz m hm (fun i i1 i2 => ?_)
      by_cases hik : i = k
      · rw [hik, m2]
        exact fun y => z ((nI_eq (by omega) (by omega)).mp y).symm
      · exact hi i (by omega) i2
def BF (S : SA) (n : Nat) (tl : Nat → Nat) (st : Nat) (mk : Nat → Nat) (F : Nat) (E : Nat → Nat) (k i : Nat) : Prop :=
  (S.1 0 = nI n ∧ n ≤ 12) ∧
  (S.1 1 = nI st ∧ st < 10) ∧
  (S.1 2 = nI F ∧ F ≤ 4096) ∧
  (∀ j, j < n → S.2 0 j = nI (tl j) ∧ tl j < 100) ∧
  (∀ j, j < F → S.2 1 j = nI (mk j) ∧ mk j < 2 ^ n) ∧
  (∀ m, m < 4096 → S.2 2 m = nI (E m) ∧ E m < 1024) ∧
  (∀ m, m < 4096 → S.2 3 m = 0) ∧
  (∀ m, m < 4096 → ∀ e, (E m).testBit e = true → ∃ l, Rw tl n st l m e) ∧
  (∀ m, m < 4096 → ¬ E m = 0 → ∃ j, j < F ∧ mk j = m) ∧
  (∀ j, j < F → ¬ E (mk j) = 0) ∧
  (cn (fun m => decide (¬ E m = 0)) 0 4096 = F) ∧
  (∀ j, j < k → ∀ e t, (E (mk j)).testBit e = true → t < n → (mk j).testBit t = false → fitN (tl t) e → (E (mk j ||| 2 ^ t)).testBit (oth (tl t) e) = true) ∧
  (k < F → ∀ e t, (E (mk k)).testBit e = true → t < i → (mk k).testBit t = false → fitN (tl t) e → (E (mk k ||| 2 ^ t)).testBit (oth (tl t) e) = true) ∧
  (∀ j v, j ≤ v → v < F → pc (mk j) ≤ pc (mk v)) ∧
  (k < F → ∀ j, j < F → pc (mk j) ≤ pc (mk k) + 1) ∧
  ((E 0).testBit st = true)
theorem BF.n {S : SA} {n : Nat} {tl : Nat → Nat} {st : Nat} {mk : Nat → Nat} {F : Nat} {E : Nat → Nat} {k i : Nat} (h : BF S n tl st mk F E k i) : S.1 0 = nI n ∧ n ≤ 12 := h.1
theorem BF.s {S : SA} {n : Nat} {tl : Nat → Nat} {st : Nat} {mk : Nat → Nat} {F : Nat} {E : Nat → Nat} {k i : Nat} (h : BF S n tl st mk F E k i) : S.1 1 = nI st ∧ st < 10 := h.2.1
theorem BF.F {S : SA} {n : Nat} {tl : Nat → Nat} {st : Nat} {mk : Nat → Nat} {F : Nat} {E : Nat → Nat} {k i : Nat} (h : BF S n tl st mk F E k i) : S.1 2 = nI F ∧ F ≤ 4096 := h.2.2.1
theorem BF.tl {S : SA} {n : Nat} {tl : Nat → Nat} {st : Nat} {mk : Nat → Nat} {F : Nat} {E : Nat → Nat} {k i : Nat} (h : BF S n tl st mk F E k i) : ∀ j, j < n → S.2 0 j = nI (tl j) ∧ tl j < 100 := h.2.2.2.1
theorem BF.mk {S : SA} {n : Nat} {tl : Nat → Nat} {st : Nat} {mk : Nat → Nat} {F : Nat} {E : Nat → Nat} {k i : Nat} (h : BF S n tl st mk F E k i) : ∀ j, j < F → S.2 1 j = nI (mk j) ∧ mk j < 2 ^ n := h.2.2.2.2.1
theorem BF.E {S : SA} {n : Nat} {tl : Nat → Nat} {st : Nat} {mk : Nat → Nat} {F : Nat} {E : Nat → Nat} {k i : Nat} (h : BF S n tl st mk F E k i) : ∀ m, m < 4096 → S.2 2 m = nI (E m) ∧ E m < 1024 := h.2.2.2.2.2.1
theorem BF.H {S : SA} {n : Nat} {tl : Nat → Nat} {st : Nat} {mk : Nat → Nat} {F : Nat} {E : Nat → Nat} {k i : Nat} (h : BF S n tl st mk F E k i) : ∀ m, m < 4096 → S.2 3 m = 0 := h.2.2.2.2.2.2.1
theorem BF.snd {S : SA} {n : Nat} {tl : Nat → Nat} {st : Nat} {mk : Nat → Nat} {F : Nat} {E : Nat → Nat} {k i : Nat} (h : BF S n tl st mk F E k i) : ∀ m, m < 4096 → ∀ e, (E m).testBit e = true → ∃ l, Rw tl n st l m e := h.2.2.2.2.2.2.2.1
theorem BF.fnd {S : SA} {n : Nat} {tl : Nat → Nat} {st : Nat} {mk : Nat → Nat} {F : Nat} {E : Nat → Nat} {k i : Nat} (h : BF S n tl st mk F E k i) : ∀ m, m < 4096 → ¬ E m = 0 → ∃ j, j < F ∧ mk j = m := h.2.2.2.2.2.2.2.2.1
theorem BF.fnd2 {S : SA} {n : Nat} {tl : Nat → Nat} {st : Nat} {mk : Nat → Nat} {F : Nat} {E : Nat → Nat} {k i : Nat} (h : BF S n tl st mk F E k i) : ∀ j, j < F → ¬ E (mk j) = 0 := h.2.2.2.2.2.2.2.2.2.1
theorem BF.cnt {S : SA} {n : Nat} {tl : Nat → Nat} {st : Nat} {mk : Nat → Nat} {F : Nat} {E : Nat → Nat} {k i : Nat} (h : BF S n tl st mk F E k i) : cn (fun m => decide (¬ E m = 0)) 0 4096 = F := h.2.2.2.2.2.2.2.2.2.2.1
theorem BF.done {S : SA} {n : Nat} {tl : Nat → Nat} {st : Nat} {mk : Nat → Nat} {F : Nat} {E : Nat → Nat} {k i : Nat} (h : BF S n tl st mk F E k i) : ∀ j, j < k → ∀ e t, (E (mk j)).testBit e = true → t < n → (mk j).testBit t = false → fitN (tl t) e → (E (mk j ||| 2 ^ t)).testBit (oth (tl t) e) = true := h.2.2.2.2.2.2.2.2.2.2.2.1
theorem BF.doneI {S : SA} {n : Nat} {tl : Nat → Nat} {st : Nat} {mk : Nat → Nat} {F : Nat} {E : Nat → Nat} {k i : Nat} (h : BF S n tl st mk F E k i) : k < F → ∀ e t, (E (mk k)).testBit e = true → t < i → (mk k).testBit t = false → fitN (tl t) e → (E (mk k ||| 2 ^ t)).testBit (oth (tl t) e) = true := h.2.2.2.2.2.2.2.2.2.2.2.2.1
theorem BF.ord {S : SA} {n : Nat} {tl : Nat → Nat} {st : Nat} {mk : Nat → Nat} {F : Nat} {E : Nat → Nat} {k i : Nat} (h : BF S n tl st mk F E k i) : ∀ j v, j ≤ v → v < F → pc (mk j) ≤ pc (mk v) := h.2.2.2.2.2.2.2.2.2.2.2.2.2.1
theorem BF.nxt {S : SA} {n : Nat} {tl : Nat → Nat} {st : Nat} {mk : Nat → Nat} {F : Nat} {E : Nat → Nat} {k i : Nat} (h : BF S n tl st mk F E k i) : k < F → ∀ j, j < F → pc (mk j) ≤ pc (mk k) + 1 := h.2.2.2.2.2.2.2.2.2.2.2.2.2.2.1
theorem BF.st {S : SA} {n : Nat} {tl : Nat → Nat} {st : Nat} {mk : Nat → Nat} {F : Nat} {E : Nat → Nat} {k i : Nat} (h : BF S n tl st mk F E k i) : (E 0).testBit st = true := h.2.2.2.2.2.2.2.2.2.2.2.2.2.2.2
section B
variable {S : SA} {n : Nat} {tl : Nat → Nat} {st : Nat} {mk : Nat → Nat} {F : Nat} {E : Nat → Nat} {k i : Nat}
theorem cnt_lt {E : Nat → Nat} {F m : Nat} (hc : cn (fun m => decide (¬ E m = 0)) 0 4096 = F) (hm : m < 4096) (h0 : E m = 0) (v : Nat) (hv : ¬ v = 0) : cn (fun j => decide (¬ (if j = m then v else E j) = 0)) 0 4096 = F + 1 := by
  rw [← hc]
  exact cn_set (P := fun j => decide (¬ (if j = m then v else E j) = 0)) (Q := fun j => decide (¬ E j = 0)) m (decide_eq_true (by rw [if_pos rfl]; exact hv)) (decide_eq_false (by simp [h0])) 4096 0 (Nat.zero_le _) (by omega) (fun j hj => by simp only [if_neg hj])
/-- one set more is reached -/
theorem e_reach {m ne : Nat} (hn : n ≤ 12) (hF : S.1 2 = nI F ∧ F ≤ 4096) (hE : ∀ m, m < 4096 → S.2 2 m = nI (E m) ∧ E m < 1024) (hc : cn (fun m => decide (¬ E m = 0)) 0 4096 = F) (hm : m < 4096) (hne : ne < 1024) (hne0 : ¬ ne = 0) : ∃ S' F' mk', f_X2_reach S (nI m) (nI ne) = some S' ∧ S'.1 0 = S.1 0 ∧ S'.1 1 = S.1 1 ∧ S'.1 2 = nI F' ∧ F' ≤ 4096 ∧ S'.2 0 = S.2 0 ∧ S'.2 3 = S.2 3 ∧ (∀ v, v < 4096 → S'.2 2 v = nI (if v = m then E m ||| ne else E v)) ∧ (∀ j, j < F → S'.2 1 j = S.2 1 j) ∧
    ((E m = 0 ∧ F' = F + 1 ∧ S'.2 1 F = nI m ∧ mk' = (fun j => if j = F then m else mk j)) ∨ (¬ E m = 0 ∧ F' = F ∧ mk' = mk)) := by
  have hEm := hE m hm
  have hor : E m ||| ne < 2 ^ 10 := Nat.or_lt_two_pow hEm.2 hne
  have eJ : ∀ T : SA, T.2 2 = S.2 2 → f_X2_reach_J45 (nI m) (nI ne) (nI (E m)) T = some (sa T 2 (upd (S.2 2) m (nI (E m ||| ne)))) := fun T hT => by
    unfold f_X2_reach_J45
    rw [hT, e_put hm (by omega), bd1_S, nI_or (by omega) (by omega)]
  have e2 : ∀ v, v < 4096 → upd (S.2 2) m (nI (E m ||| ne)) v = nI (if v = m then E m ||| ne else E v) := fun v hv => by
    by_cases z : v = m
    · rw [z, upd_s, if_pos rfl]
    · rw [upd_n z, if_neg z]; exact (hE v hv).1
  unfold f_X2_reach
  rw [e_look hm (by omega), bd1_S, hEm.1, ie_eq0 (by omega), hF.1]
  by_cases h0 : E m = 0
  · have hle := cn_le (fun j => decide (¬ (if j = m then 1 else E j) = 0)) 4096 0
    rw [cnt_lt hc hm h0 1 (by omega)] at hle
    rw [if_pos h0, i_4096, ie_le (by omega) (by omega), if_neg (by omega), e_put (by omega) (by omega), bd1_S, nI_1, eJ (sa (ss S 2 (nI (F + 1))) 1 (upd (S.2 1) F (nI m))) rfl]
    refine ⟨_, F + 1, _, rfl, rfl, rfl, rfl, by omega, rfl, rfl, e2, fun j hj => ?_, Or.inl ⟨h0, rfl, ?_, rfl⟩⟩
    · show upd (S.2 1) F (nI m) j = _
      rw [upd_n (by omega)]
    · show upd (S.2 1) F (nI m) F = _
      rw [upd_s]
  · rw [if_neg h0, eJ _ rfl]
    exact ⟨_, F, _, rfl, rfl, rfl, hF.1, hF.2, rfl, rfl, e2, fun _ _ => rfl, Or.inr ⟨h0, rfl, rfl⟩⟩
theorem BF.step (h : BF S n tl st mk F E k i) (hk : k < F) (hi : i < n) : (∃ S' F' mk' E', (bd1 (f_X2_reach S (nI (mk k) ||| nI (2 ^ i)) (nI (acr (tl i) (E (mk k))))) fun (rs52 : SA) => some rs52) = some S' ∧ BF S' n tl st mk' F' E' k (i + 1) ∧ mk' k = mk k ∧ k < F') ∨ ((mk k).testBit i = true ∨ acr (tl i) (E (mk k)) = 0) := by
  have hn := h.n
  have hmk := h.mk k hk
  have h12 := p12 hn.2
  have hti := h.tl i hi
  by_cases hb : (mk k).testBit i = true
  · exact Or.inr (Or.inl hb)
  by_cases h0 : acr (tl i) (E (mk k)) = 0
  · exact Or.inr (Or.inr h0)
  refine Or.inl ?_
  have hb' := Bool.eq_false_iff.mpr hb
  obtain ⟨m, em⟩ : ∃ m, m = mk k ||| 2 ^ i := ⟨_, rfl⟩
  obtain ⟨ne, en⟩ : ∃ ne, ne = acr (tl i) (E (mk k)) := ⟨_, rfl⟩
  have hm2 : m < 2 ^ n := by rw [em]; exact or_lt hmk.2 hi
  have hm : m < 4096 := by omega
  have hpc : pc m = pc (mk k) + 1 := by rw [em]; exact pc_add (by omega) hb'
  have hmne : ¬ mk k = m := fun z => by rw [← z] at hpc; omega
  obtain ⟨S', F', mk', r1, r2, r3, r4, r5, r6, r7, r8, r9, r10⟩ := e_reach (mk := mk) hn.2 h.F h.E h.cnt hm (show ne < 1024 by rw [en]; exact acr_lt hti.2) (by rw [en]; exact h0)
  have hmkJ : ∀ j, j < F → mk' j = mk j := fun j hj => by
    rcases r10 with ⟨-, -, -, z⟩ | ⟨-, -, z⟩
    · rw [z]; exact if_neg (by omega)
    · rw [z]
  have hF' : F ≤ F' := by rcases r10 with ⟨-, z, -⟩ | ⟨-, z, -⟩ <;> omega
  have hE1 : ∀ v, ¬ v = m → (if v = m then E m ||| ne else E v) = E v := fun v hv => if_neg hv
  have mono : ∀ v e, (E v).testBit e = true → (if v = m then E m ||| ne else E v).testBit e = true := fun v e he => by
    by_cases z : v = m
    · rw [if_pos z, Nat.testBit_or, ← z, he, Bool.true_or]
    · rw [if_neg z]; exact he
  have hnot : ∀ j, j ≤ k → ¬ mk j = m := fun j hj z => by
    have := h.ord j k hj hk
    rw [z, hpc] at this; omega
  refine ⟨S', F', mk', fun v => if v = m then E m ||| ne else E v, ?_, ?_, hmkJ k hk, by omega⟩
  · rw [nI_or (by omega) (pw_lt (by omega)), ← em, ← en, r1, bd1_S]
  · refine ⟨⟨r2.trans hn.1, hn.2⟩, ⟨r3.trans h.s.1, h.s.2⟩, ⟨r4, r5⟩, fun j hj => by rw [r6]; exact h.tl j hj, fun j hj => ?_, fun v hv => ⟨r8 v hv, ?_⟩, fun v hv => by rw [r7]; exact h.H v hv, fun v hv e he => ?_, fun v hv he => ?_, fun j hj => ?_, ?_, fun j hj e t he ht hbt hf => ?_, fun _ e t he ht hbt hf => ?_, fun j v hjv hv => ?_, fun _ j hj => ?_, mono 0 st h.st⟩
    · by_cases z : j < F
      · rw [r9 j z, hmkJ j z]; exact h.mk j z
      · rcases r10 with ⟨-, q1, q2, q3⟩ | ⟨-, q1, -⟩
        · have : j = F := by omega
          rw [this, q2, q3]
          show nI m = nI (if F = F then m else mk F) ∧ (if F = F then m else mk F) < 2 ^ n
          rw [if_pos rfl]; exact ⟨rfl, hm2⟩
        · omega
    · show (if v = m then E m ||| ne else E v) < 1024
      split
      · exact Nat.or_lt_two_pow (n := 10) (h.E m hm).2 (by rw [en]; exact acr_lt hti.2)
      · exact (h.E v hv).2
    · by_cases z : v = m
      · have he2 : (E m ||| ne).testBit e = true := by
          have he3 : (if v = m then E m ||| ne else E v).testBit e = true := he
          rw [if_pos z] at he3; exact he3
        rw [Nat.testBit_or, Bool.or_eq_true] at he2
        rcases he2 with he2 | he2
        · rw [z]; exact h.snd m hm e he2
        · rw [en] at he2
          obtain ⟨f, f1, f2, f3⟩ := acr_tb.mp he2
          obtain ⟨l, hl⟩ := h.snd (mk k) (by omega) f f1
          exact ⟨l + 1, mk k, f, i, hl, hi, hb', f2, z.trans em, f3.symm⟩
      · have he3 : (if v = m then E m ||| ne else E v).testBit e = true := he
        rw [if_neg z] at he3
        exact h.snd v hv e he3
    · by_cases z : v = m
      · rcases r10 with ⟨-, q1, -, q3⟩ | ⟨q0, q1, q3⟩
        · refine ⟨F, by omega, ?_⟩
          rw [q3, z]; exact if_pos rfl
        · obtain ⟨j, j1, j2⟩ := h.fnd m hm q0
          exact ⟨j, by omega, by rw [hmkJ j j1, j2, z]⟩
      · have he3 : ¬ (if v = m then E m ||| ne else E v) = 0 := he
        rw [if_neg z] at he3
        obtain ⟨j, j1, j2⟩ := h.fnd v hv he3
        exact ⟨j, by omega, by rw [hmkJ j j1, j2]⟩
    · show ¬ (if mk' j = m then E m ||| ne else E (mk' j)) = 0
      by_cases z : mk' j = m
      · rw [if_pos z]
        obtain ⟨e, he⟩ := tb_ne (show ¬ ne = 0 by rw [en]; exact h0)
        exact tb_ex (e := e) (by rw [Nat.testBit_or, he, Bool.or_true])
      · rw [if_neg z]
        by_cases y : j < F
        · rw [hmkJ j y]; exact h.fnd2 j y
        · rcases r10 with ⟨-, q1, -, q3⟩ | ⟨-, q1, -⟩
          · exfalso; apply z
            rw [q3]; exact if_pos (by omega)
          · omega
    · have hne : ¬ (E m ||| ne) = 0 := by
        obtain ⟨e, he⟩ := tb_ne (show ¬ ne = 0 by rw [en]; exact h0)
        exact tb_ex (e := e) (by rw [Nat.testBit_or, he, Bool.or_true])
      rcases r10 with ⟨q0, q1, -, -⟩ | ⟨q0, q1, -⟩
      · rw [q1]; exact cnt_lt h.cnt hm q0 _ hne
      · rw [q1, ← h.cnt]
        refine cn_congr _ _ (fun j _ _ => ?_)
        show decide (¬ (if j = m then E m ||| ne else E j) = 0) = decide (¬ E j = 0)
        by_cases z : j = m
        · rw [z, if_pos rfl, decide_eq_true hne, decide_eq_true q0]
        · rw [if_neg z]
    · rw [hmkJ j (by omega)] at he hbt ⊢
      have he2 : (if mk j = m then E m ||| ne else E (mk j)).testBit e = true := he
      rw [if_neg (hnot j (by omega))] at he2
      exact mono _ _ (h.done j hj e t he2 ht hbt hf)
    · rw [hmkJ k hk] at he hbt ⊢
      have he2 : (if mk k = m then E m ||| ne else E (mk k)).testBit e = true := he
      rw [if_neg hmne] at he2
      by_cases z : t = i
      · subst z
        show (if mk k ||| 2 ^ t = m then E m ||| ne else E (mk k ||| 2 ^ t)).testBit _ = true
        rw [if_pos em.symm, Nat.testBit_or, show ne.testBit (oth (tl t) e) = true by rw [en]; exact acr_tb.mpr ⟨e, he2, hf, rfl⟩, Bool.or_true]
      · exact mono _ _ (h.doneI hk e t he2 (by omega) hbt hf)
    · by_cases z : v < F
      · rw [hmkJ j (by omega), hmkJ v z]; exact h.ord j v hjv z
      · rcases r10 with ⟨-, q1, -, q3⟩ | ⟨-, q1, -⟩
        · have e1 : mk' v = m := by rw [q3]; exact if_pos (by omega)
          rw [e1, hpc]
          by_cases y : j < F
          · rw [hmkJ j y]; exact h.nxt hk j y
          · have e2 : mk' j = m := by rw [q3]; exact if_pos (by omega)
            rw [e2, hpc]; exact Nat.le_refl _
        · omega
    · rw [hmkJ k hk]
      by_cases y : j < F
      · rw [hmkJ j y]; exact h.nxt hk j y
      · rcases r10 with ⟨-, q1, -, q3⟩ | ⟨-, q1, -⟩
        · have e2 : mk' j = m := by rw [q3]; exact if_pos (by omega)
          rw [e2, hpc]; exact Nat.le_refl _
        · omega
theorem BF.skip (h : BF S n tl st mk F E k i) (hk : k < F) (hs : (mk k).testBit i = true ∨ acr (tl i) (E (mk k)) = 0) : BF S n tl st mk F E k (i + 1) := by
  refine ⟨h.n, h.s, h.F, h.tl, h.mk, h.E, h.H, h.snd, h.fnd, h.fnd2, h.cnt, h.done, fun _ e t he ht hbt hf => ?_, h.ord, h.nxt, h.st⟩
  by_cases z : t = i
  · subst z
    rcases hs with hs | hs
    · rw [hs] at hbt; exact absurd hbt (by decide)
    · have := acr_tb.mpr ⟨e, he, hf, rfl⟩
      rw [hs, Nat.zero_testBit] at this
      exact absurd this (by decide)
  · exact h.doneI hk e t he (by omega) hbt hf
theorem BF.next (h : BF S n tl st mk F E k n) (hk : k < F) : BF S n tl st mk F E (k + 1) 0 := by
  refine ⟨h.n, h.s, h.F, h.tl, h.mk, h.E, h.H, h.snd, h.fnd, h.fnd2, h.cnt, fun j hj e t he ht hbt hf => ?_, fun _ e t _ ht => absurd ht (Nat.not_lt_zero _), h.ord, fun hk1 j hj => ?_, h.st⟩
  · by_cases z : j = k
    · subst z; exact h.doneI hk e t he ht hbt hf
    · exact h.done j (by omega) e t he ht hbt hf
  · have h1 := h.nxt hk j hj
    have h2 := h.ord k (k + 1) (by omega) hk1
    omega
theorem e_extend {m0 : Nat} (h : BF S n tl st mk F E k 0) (hk : k < F) (hm : mk k = m0) : ∃ S' F' mk' E', f_X2_extend S (nI m0) = some S' ∧ BF S' n tl st mk' F' E' (k + 1) 0 ∧ k < F' := by
  have hn := h.n
  unfold f_X2_extend
  refine lr2 (B := f_X2_extend_B2 (nI m0)) (fun (o : Option SA) => ∃ S' F' mk' E', o = some S' ∧ BF S' n tl st mk' F' E' (k + 1) 0 ∧ k < F') (fun (j : Nat) (v : Int32) (a : SA) => ∃ i F mk E, v = nI i ∧ i + j = n ∧ BF a n tl st mk F E k i ∧ k < F ∧ mk k = m0) ?_ FUEL n 0 S (FUEL_lt (by omega)) ⟨0, F, mk, E, rfl, by omega, h, hk, hm⟩
  rintro rec j v a ⟨i, F, mk, E, rfl, hj, h, hk, hm⟩ ih
  have hmk := h.mk k hk
  have h12 := p12 hn.2
  unfold f_X2_extend_B2
  rw [h.n.1, ie_le (by omega) (by omega)]
  by_cases hi : n ≤ i
  · have : i = n := by omega
    subst this
    rw [if_pos hi]
    exact ⟨a, F, mk, E, rfl, h.next hk, hk⟩
  · have hti := h.tl i (by omega)
    have hEm := h.E m0 (by omega)
    rw [if_neg hi, nmd_S, e_look (by omega) (by omega), bd1_S, e_look (by omega) (by omega), bd1_S, hti.1, hEm.1, e_across hti.2 hEm.2, bd1_S, ie_and (by omega) (by omega), nI_1, shl_k i (by omega), ie_eq0 (by have := acr_lt (E := E m0) hti.2; omega)]
    rcases h.step hk (by omega) with ⟨S', F', mk', E', s1, s2, s3, s4⟩ | hs
    · rw [hm] at s1
      by_cases hb : m0.testBit i = true
      · rw [if_pos hb]
        exact ih (j - 1) _ _ (by omega) ⟨i + 1, F, mk, E, rfl, by omega, h.skip hk (Or.inl (by rw [hm]; exact hb)), hk, hm⟩
      · rw [if_neg hb]
        by_cases h0 : acr (tl i) (E m0) = 0
        · rw [if_pos h0]
          exact ih (j - 1) _ _ (by omega) ⟨i + 1, F, mk, E, rfl, by omega, h.skip hk (Or.inr (by rw [hm]; exact h0)), hk, hm⟩
        · have s1' : f_X2_reach a (nI m0 ||| nI (2 ^ i)) (nI (acr (tl i) (E m0))) = some S' := by
            cases hr : f_X2_reach a (nI m0 ||| nI (2 ^ i)) (nI (acr (tl i) (E m0))) with
            | none => rw [hr] at s1; exact absurd s1 (by intro y; cases y)
            | some w => rw [hr] at s1; exact s1
          rw [if_neg h0, s1', bd1_S]
          exact ih (j - 1) _ _ (by omega) ⟨i + 1, F', mk', E', rfl, by omega, s2, s4, s3.trans hm⟩
    · have hs' : m0.testBit i = true ∨ acr (tl i) (E m0) = 0 := by rw [← hm]; exact hs
      have go := ih (j - 1) (nI (i + 1)) a (by omega) ⟨i + 1, F, mk, E, rfl, by omega, h.skip hk hs, hk, hm⟩
      by_cases hb : m0.testBit i = true
      · rw [if_pos hb]; exact go
      · rw [if_neg hb, if_pos (hs'.resolve_left hb)]; exact go
end B
