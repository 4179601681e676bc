/-! what the class's search finds -/
section B
variable {S : SA} {n : Nat} {tl : Nat → Nat} {st : Nat} {mk : Nat → Nat} {F : Nat} {E : Nat → Nat} {k i : Nat}
theorem e_rows (h : BF S n tl st mk F E k 0) (hk : k ≤ F) : ∃ S' F' mk' E', itr2 f_X2_explore_B83 FUEL (nI k) S = some S' ∧ BF S' n tl st mk' F' E' F' 0 := by
  have hF := h.F
  refine lr2 (B := f_X2_explore_B83) (fun (o : Option SA) => ∃ S' F' mk' E', o = some S' ∧ BF S' n tl st mk' F' E' F' 0) (fun (j : Nat) (v : Int32) (a : SA) => ∃ k F mk E, v = nI k ∧ k + j = 4096 ∧ BF a n tl st mk F E k 0 ∧ k ≤ F) ?_ FUEL (4096 - k) _ _ (FUEL_lt (by omega)) ⟨k, F, mk, E, rfl, by omega, h, hk⟩
  rintro rec j v a ⟨k, F, mk, E, rfl, hj, h, hk⟩ ih
  have hF := h.F
  unfold f_X2_explore_B83
  rw [hF.1, ie_le (by omega) (by omega)]
  by_cases hkF : F ≤ k
  · have : k = F := by omega
    subst this
    rw [if_pos hkF]
    exact ⟨a, k, mk, E, rfl, h⟩
  · have hmk := h.mk k (by omega)
    obtain ⟨S', F', mk', E', s1, s2, s3⟩ := e_extend h (by omega) rfl
    rw [if_neg hkF, i_4096, ie_le (by omega) (by omega), if_neg (by omega), e_look (by omega) (by omega), bd1_S, hmk.1, s1, bd1_S, nI_1]
    exact ih (j - 1) _ _ (by omega) ⟨k + 1, F', mk', E', rfl, by omega, s2, s3⟩
/-- the hand's tiles in their order -/
def TL (H : Nat → Int32) (p : Int32) (n : Nat) (tl : Nat → Nat) : Prop := hcN H p = n ∧ ∀ i, i < n → tl i < 100 ∧ H (tl i) = p ∧ cn (fun c => decide (H c = p)) 0 (tl i) = i
theorem TL.ex (H : Nat → Int32) (p : Int32) : ∃ tl, TL H p (hcN H p) tl := by
  have h : ∀ i, ∃ c, i < hcN H p → c < 100 ∧ H c = p ∧ cn (fun c => decide (H c = p)) 0 c = i := fun i => by
    by_cases hi : i < hcN H p
    · obtain ⟨c, c1, c2, c3⟩ := cn_sur (P := fun c => decide (H c = p)) 100 i hi
      exact ⟨c, fun _ => ⟨c1, of_decide_eq_true c2, c3⟩⟩
    · exact ⟨0, fun z => absurd z hi⟩
  obtain ⟨tl, ht⟩ := Classical.axiomOfChoice h
  exact ⟨tl, rfl, fun i hi => ht i hi⟩
theorem e_start {g : GS} {p : Nat} (hp : p < 5) (hE : g.2.2.2.2 2 p = nI st) (hst : st < 10) (hn : n ≤ 12) {a : SA} (a0 : a.1 0 = nI n) (a2 : a.1 2 = 0) (az : ∀ m, m < 4096 → a.2 2 m = 0 ∧ a.2 3 m = 0) (at' : ∀ i, i < n → a.2 0 i = nI (tl i) ∧ tl i < 100) : ∃ S' F' mk' E', f_X2_explore_J58 g (nI p) a = some S' ∧ BF S' n tl st mk' F' E' F' 0 := by
  have h12 := p12 hn
  have h2s := Nat.pow_lt_pow_right (a := 2) (by omega) hst
  have hpos : 0 < 2 ^ st := Nat.pow_pos (by omega)
  unfold f_X2_explore_J58
  rw [e_endOf (g := g) hp, bd1_S, hE, shl_k st (by omega)]
  have c0 : cn (fun m => decide (¬ (fun _ => 0 : Nat → Nat) m = 0)) 0 4096 = 0 := by
    rw [cn_congr (Q := fun _ => false) 4096 0 (fun j _ _ => by simp), cn_false]
  obtain ⟨S', F', mk', r1, r2, r3, r4, r5, r6, r7, r8, r9, r10⟩ := e_reach (S := ss a 1 (nI st)) (E := fun _ => 0) (F := 0) (n := n) (mk := fun _ => 0) (m := 0) (ne := 2 ^ st) hn ⟨a2, by omega⟩ (fun m hm => ⟨(az m hm).1, by omega⟩) c0 (by omega) h2s (by omega)
  have r1' : f_X2_reach (ss a 1 (nI st)) 0 (nI (2 ^ st)) = some S' := r1
  rw [r1', bd1_S]
  rcases r10 with ⟨-, q1, q2, q3⟩ | ⟨q0, -⟩
  · have q1' : F' = 1 := q1
    subst q1'
    have hE' : ∀ v, (if v = 0 then (0 ||| 2 ^ st : Nat) else 0) = if v = 0 then 2 ^ st else 0 := fun v => by rw [Nat.zero_or]
    refine e_rows (k := 0) (F := 1) (mk := mk') (E := fun v => if v = 0 then 2 ^ st else 0) ⟨⟨r2.trans a0, hn⟩, ⟨r3.trans rfl, hst⟩, ⟨r4, by omega⟩, fun j hj => by rw [r6]; exact at' j hj, fun j hj => ?_, fun m hm => ⟨(r8 m hm).trans (congrArg nI (hE' m)), ?_⟩, fun m hm => by rw [r7]; exact (az m hm).2, fun m hm e he => ?_, fun m hm he => ?_, fun j hj => ?_, ?_, fun j hj => absurd hj (Nat.not_lt_zero _), fun _ e t _ ht => absurd ht (Nat.not_lt_zero _), fun j v hj hv => ?_, fun _ j hj => ?_, ?_⟩ (by omega)
    · have : j = 0 := by omega
      subst this
      have e1 : mk' 0 = 0 := by rw [q3]; rfl
      rw [e1]
      exact ⟨q2, Nat.pow_pos (by omega)⟩
    · show (if m = 0 then 2 ^ st else 0) < 1024
      split
      · exact h2s
      · omega
    · have he2 : (if m = 0 then 2 ^ st else 0).testBit e = true := he
      by_cases z : m = 0
      · rw [if_pos z, Nat.testBit_two_pow, decide_eq_true_eq] at he2
        exact ⟨0, z, he2.symm⟩
      · rw [if_neg z, Nat.zero_testBit] at he2
        exact absurd he2 (by decide)
    · have he2 : ¬ (if m = 0 then 2 ^ st else 0) = 0 := he
      by_cases z : m = 0
      · exact ⟨0, by omega, by rw [z, q3]; rfl⟩
      · rw [if_neg z] at he2
        exact absurd rfl he2
    · have : j = 0 := by omega
      subst this
      have e1 : mk' 0 = 0 := by rw [q3]; rfl
      show ¬ (if mk' 0 = 0 then 2 ^ st else 0) = 0
      rw [if_pos e1]; omega
    · have := cnt_lt (E := fun _ => 0) (F := 0) (m := 0) c0 (by omega) rfl (2 ^ st) (by omega)
      exact this
    · have h1 : j = 0 := by omega
      have h2 : v = 0 := by omega
      rw [h1, h2]; exact Nat.le_refl _
    · have h1 : j = 0 := by omega
      rw [h1]; omega
    · show (if (0 : Nat) = 0 then 2 ^ st else 0).testBit st = true
      rw [if_pos rfl, Nat.testBit_two_pow]
      simp
  · exact absurd rfl q0
theorem e_explore {g : GS} {p : Nat} (hS : RW S) (hp : p < 5) (hE : g.2.2.2.2 2 p = nI st) (hst : st < 10) (hT : TL (g.1.2 0) (nI p) n tl) (hn : n ≤ 12) : ∃ S' F' mk' E', f_X2_explore S g (nI p) = some S' ∧ BF S' n tl st mk' F' E' F' 0 := by
  obtain ⟨S0, f1, f2, f3, f4⟩ := e_forget hS
  obtain ⟨hT1, hT2⟩ := hT
  unfold f_X2_explore
  rw [f1, bd1_S]
  refine lr2 (B := f_X2_explore_B6 g (nI p)) (fun (o : Option SA) => ∃ S' F' mk' E', o = some S' ∧ BF S' n tl st mk' F' E' F' 0) (fun (j : Nat) (v : Int32) (a : SA) => ∃ c, v = nI c ∧ c + j = 100 ∧ a.1 0 = nI (cn (fun c => decide (g.1.2 0 c = nI p)) 0 c) ∧ a.1 2 = 0 ∧ (∀ m, m < 4096 → a.2 2 m = 0 ∧ a.2 3 m = 0) ∧ ∀ c', c' < c → g.1.2 0 c' = nI p → a.2 0 (cn (fun c => decide (g.1.2 0 c = nI p)) 0 c') = nI c') ?_ FUEL 100 0 S0 (FUEL_lt (by omega)) ⟨0, rfl, by omega, f2, f3, f4, fun c' hc => absurd hc (Nat.not_lt_zero _)⟩
  rintro rec j v a ⟨c, rfl, hj, a0, a2, az, at'⟩ ih
  have hmon := cn_mon (P := fun c => decide (g.1.2 0 c = nI p)) c (100 - c)
  rw [show c + (100 - c) = 100 by omega] at hmon
  have hn2 : cn (fun c => decide (g.1.2 0 c = nI p)) 0 100 = n := hT1
  unfold f_X2_explore_B6
  rw [i_100, ie_le (by omega) (by omega), a0, i_12, ie_le (by omega) (by omega)]
  have fin : (∀ c', c ≤ c' → c' < 100 → ¬ g.1.2 0 c' = nI p) → ∃ S' F' mk' E', f_X2_explore_J58 g (nI p) a = some S' ∧ BF S' n tl st mk' F' E' F' 0 := fun hno => by
    have hz : cn (fun c => decide (g.1.2 0 c = nI p)) 0 c = n := by
      rcases (show cn (fun c => decide (g.1.2 0 c = nI p)) 0 c = n ∨ cn (fun c => decide (g.1.2 0 c = nI p)) 0 c < n by omega) with z | z
      · exact z
      · obtain ⟨t1, t2, t3⟩ := hT2 _ z
        exfalso
        by_cases y : tl (cn (fun c => decide (g.1.2 0 c = nI p)) 0 c) < c
        · have := cn_lt (P := fun c => decide (g.1.2 0 c = nI p)) (decide_eq_true t2) y
          omega
        · exact hno _ (by omega) t1 t2
    refine e_start hp hE hst hn (by rw [a0, hz]) a2 az (fun i hi => ?_)
    obtain ⟨t1, t2, t3⟩ := hT2 i hi
    refine ⟨?_, t1⟩
    have h1 := at' (tl i) (by
      rcases Nat.lt_or_ge (tl i) c with y | y
      · exact y
      · exact absurd t2 (hno _ y t1)) t2
    rw [t3] at h1
    exact h1
  by_cases h100 : 100 ≤ c
  · rw [if_pos h100]
    exact fin (fun c' h1 h2 => by omega)
  · rw [if_neg h100]
    by_cases h12 : 12 ≤ cn (fun c => decide (g.1.2 0 c = nI p)) 0 c
    · rw [if_pos h12]
      refine fin (fun c' h1 h2 h3 => ?_)
      have b1 := cn_lt (P := fun c => decide (g.1.2 0 c = nI p)) (decide_eq_true h3) h2
      have b2 := cn_mon (P := fun c => decide (g.1.2 0 c = nI p)) c (c' - c)
      rw [show c + (c' - c) = c' by omega] at b2
      omega
    · have hsn : cn (fun c => decide (g.1.2 0 c = nI p)) 0 (c + 1) = _ := cn_snoc c 0
      rw [Nat.zero_add] at hsn
      rw [if_neg h12, e_holder (by omega), bd1_S, nI_1]
      by_cases hh : g.1.2 0 c = nI p
      · rw [if_pos (decide_eq_true hh)] at hsn
        rw [if_pos hh, e_put (by omega) (by omega), bd1_S, nI_1]
        refine ih (j - 1) _ _ (by omega) ⟨c + 1, rfl, by omega, ?_, a2, az, fun c' hc' hp' => ?_⟩
        · show nI _ = _
          rw [hsn]
        · show upd (a.2 0) (cn (fun c => decide (g.1.2 0 c = nI p)) 0 c) (nI c) _ = _
          by_cases z : c' = c
          · rw [z, upd_s]
          · have := cn_lt (P := fun c => decide (g.1.2 0 c = nI p)) (decide_eq_true hp') (show c' < c by omega)
            rw [upd_n (by omega)]
            exact at' c' (by omega) hp'
      · rw [if_neg (fun z => hh (of_decide_eq_true z))] at hsn
        rw [if_neg hh]
        refine ih (j - 1) _ _ (by omega) ⟨c + 1, rfl, by omega, by rw [a0, hsn, Nat.add_zero], a2, az, fun c' hc' hp' => ?_⟩
        by_cases z : c' = c
        · rw [z] at hp'; exact absurd hp' hh
        · exact at' c' (by omega) hp'
/-- every row has been reached -/
theorem BF.all (h : BF S n tl st mk F E F 0) : ∀ l m e, Rw tl n st l m e → (E m).testBit e = true
  | 0, m, e, r => by
    rw [r.1, r.2]; exact h.st
  | l + 1, m, e, r => by
    obtain ⟨m0, e0, i, r0, hi, hb, hf, rfl, rfl⟩ := r
    have ih := BF.all h l m0 e0 r0
    have hlt := Rw.lt h.n.2 h.s.2 (fun i hi => (h.tl i hi).2) l m0 e0 r0
    have h12 := p12 h.n.2
    obtain ⟨j, j1, j2⟩ := h.fnd m0 (by omega) (tb_ex ih)
    have := h.done j j1 e0 i (by rw [j2]; exact ih) hi (by rw [j2]; exact hb) hf
    rw [j2] at this
    exact this
theorem BF.pos (h : BF S n tl st mk F E F 0) : 0 < F := by
  obtain ⟨j, j1, -⟩ := h.fnd 0 (by omega) (tb_ex h.st)
  omega
theorem pW1_pc {m : Nat} (hn : n ≤ 12) (hm : m < 2 ^ n) : pW (fun _ => 1) n m = pc m := by
  have h1 : ∀ j, cn (fun i => m.testBit i) 0 (n + j) = cn (fun i => m.testBit i) 0 n := fun j => by
    induction j with
    | zero => rfl
    | succ j ih =>
      rw [show n + (j + 1) = n + j + 1 by omega, cn_snoc, ih, Nat.zero_add, Nat.testBit_lt_two_pow (Nat.lt_of_lt_of_le hm (Nat.pow_le_pow_right (by omega) (by omega))), if_neg (by decide)]
      omega
  rw [pW_1]
  have h2 := h1 (12 - n)
  rw [show n + (12 - n) = 12 by omega] at h2
  exact h2.symm
theorem BF.len (h : BF S n tl st mk F E F 0) {A : Nat → Nat → Nat} (hA : D1 tl n (fun _ => 1) A) : pc (mk (F - 1)) = A 0 st ∧ ∀ j, j < F → pc (mk j) ≤ A 0 st := by
  have hn := h.n.2
  have htl : ∀ i, i < n → tl i < 100 := fun i hi => (h.tl i hi).2
  have hpos := h.pos
  have h12 := p12 hn
  have ub : ∀ j, j < F → pc (mk j) ≤ A 0 st := fun j hj => by
    have hmk := h.mk j hj
    obtain ⟨e, he⟩ := tb_ne (h.fnd2 j hj)
    obtain ⟨l, hl⟩ := h.snd (mk j) (by omega) e he
    have h1 := Rw.ub hn h.s.2 htl hA l _ _ hl
    rw [pW1_pc hn hmk.2] at h1
    omega
  refine ⟨?_, ub⟩
  have h1 := ub (F - 1) (by omega)
  obtain ⟨l', m', e', r1, r2⟩ := Rw.ex hn h.s.2 htl hA 12 0 0 st (by rw [pc_0]) ⟨rfl, rfl⟩
  rw [pW_0, Nat.zero_add] at r2
  have hlt := Rw.lt hn h.s.2 htl l' m' e' r1
  rw [pW1_pc hn hlt.1] at r2
  obtain ⟨j, j1, j2⟩ := h.fnd m' (by omega) (tb_ex (h.all l' m' e' r1))
  have h2 := h.ord j (F - 1) (by omega) (by omega)
  rw [j2, r2] at h2
  omega
theorem e_longest (h : BF S n tl st mk F E F 0) {A : Nat → Nat → Nat} (hA : D1 tl n (fun _ => 1) A) : f_X2_longestLength S = some (nI (A 0 st)) := by
  have hF := h.F
  have hpos := h.pos
  have hmk := h.mk (F - 1) (by omega)
  have h12 := p12 h.n.2
  unfold f_X2_longestLength
  rw [hF.1, show nI F - 1 = nI (F - 1) from nI_sub (b := 1) (by omega), e_look (by omega) (by omega), bd1_S, hmk.1, bc_all _ (by omega), bd1_S, (h.len hA).1]
/-- pips of a tile -/
def pp (tl : Nat → Nat) (i : Nat) : Nat := if tl i < 100 then tl i / 10 + tl i % 10 else 0
theorem pp_le (tl : Nat → Nat) (i : Nat) : pp tl i ≤ 18 := by unfold pp; split <;> omega
theorem e_pipsOfMask (h : BF S n tl st mk F E F 0) {m : Nat} (hm : m < 4096) : f_X2_pipsOfMask S (nI m) = some (nI (pW (pp tl) n m)) := by
  have hn := h.n
  unfold f_X2_pipsOfMask
  refine lr2 (B := f_X2_pipsOfMask_B4 S (nI m)) (fun (o : Option Int32) => o = some (nI (pW (pp tl) n m))) (fun (j : Nat) (v2 v3 : Int32) => ∃ i, v3 = nI i ∧ i + j = n ∧ v2 = nI (pW (pp tl) i m)) ?_ FUEL n 0 0 (FUEL_lt (by omega)) ⟨0, rfl, by omega, rfl⟩
  rintro rec j v2 v3 ⟨i, rfl, hj, rfl⟩ ih
  unfold f_X2_pipsOfMask_B4
  rw [hn.1, ie_le (by omega) (by omega)]
  by_cases hi : n ≤ i
  · rw [if_pos hi, show i = n by omega]
  · have ht := h.tl i (by omega)
    rw [if_neg hi, ie_and (by omega) (by omega), nI_1, e_look (by omega) (by omega), bd1_S, ht.1, e_pips (by omega), bd1_S, nI_add]
    have hs : pW (pp tl) (i + 1) m = pW (pp tl) i m + if m.testBit i = true then pp tl i else 0 := rfl
    by_cases hb : m.testBit i = true
    · rw [if_pos hb] at hs ⊢
      refine ih (j - 1) _ _ (by omega) ⟨i + 1, rfl, by omega, ?_⟩
      rw [hs]
      unfold pp
      rw [if_pos ht.2]
    · rw [if_neg hb] at hs ⊢
      exact ih (j - 1) _ _ (by omega) ⟨i + 1, rfl, by omega, by rw [hs, Nat.add_zero]⟩
theorem e_mostPips (h : BF S n tl st mk F E F 0) {A : Nat → Nat → Nat} (hA : D1 tl n (pp tl) A) : f_X2_mostPips S = some (nI (A 0 st)) := by
  have hn := h.n.2
  have htl : ∀ i, i < n → tl i < 100 := fun i hi => (h.tl i hi).2
  have hF := h.F
  have hpos := h.pos
  have h12 := p12 hn
  have hle : ∀ m, pW (pp tl) n m ≤ 18 * n := fun m => pW_le _ (pp_le tl) n m
  unfold f_X2_mostPips
  refine lr2 (B := f_X2_mostPips_B4 S) (fun (o : Option Int32) => o = some (nI (A 0 st))) (fun (j : Nat) (v1 v2 : Int32) => ∃ k v, v2 = nI k ∧ k + j = F ∧ v1 = nI v ∧ v ≤ 18 * n ∧ (∀ i, i < k → pW (pp tl) n (mk i) ≤ v) ∧ (v = 0 ∨ ∃ i, i < k ∧ v = pW (pp tl) n (mk i))) ?_ FUEL F 0 0 (FUEL_lt (by omega)) ⟨0, 0, rfl, by omega, rfl, by omega, fun i hi => absurd hi (Nat.not_lt_zero _), Or.inl rfl⟩
  rintro rec j v1 v2 ⟨k, v, rfl, hj, rfl, hv, hmax, hat⟩ ih
  unfold f_X2_mostPips_B4
  rw [hF.1, ie_le (by omega) (by omega)]
  by_cases hk : F ≤ k
  · have : k = F := by omega
    subst this
    rw [if_pos hk]
    have hu : v ≤ A 0 st := by
      rcases hat with z | ⟨i, i1, i2⟩
      · omega
      · have hmk := h.mk i i1
        obtain ⟨e, he⟩ := tb_ne (h.fnd2 i i1)
        obtain ⟨l, hl⟩ := h.snd (mk i) (by omega) e he
        have h1 := Rw.ub hn h.s.2 htl hA l _ _ hl
        omega
    obtain ⟨l', m', e', r1, r2⟩ := Rw.ex hn h.s.2 htl hA 12 0 0 st (by rw [pc_0]) ⟨rfl, rfl⟩
    rw [pW_0, Nat.zero_add] at r2
    have hlt := Rw.lt hn h.s.2 htl l' m' e' r1
    obtain ⟨i, i1, i2⟩ := h.fnd m' (by omega) (tb_ex (h.all l' m' e' r1))
    have h2 := hmax i i1
    rw [i2, r2] at h2
    rw [show v = A 0 st by omega]
  · have hmk := h.mk k (by omega)
    have hlk := hle (mk k)
    rw [if_neg hk, e_look (by omega) (by omega), bd1_S, hmk.1, e_pipsOfMask h (by omega), bd1_S, ie_lt (by omega) (by omega), nmd_S, nI_1]
    by_cases hc : v < pW (pp tl) n (mk k)
    · rw [if_pos hc]
      refine ih (j - 1) _ _ (by omega) ⟨k + 1, _, rfl, by omega, rfl, hlk, fun i hi => ?_, Or.inr ⟨k, by omega, rfl⟩⟩
      by_cases z : i = k
      · rw [z]; exact Nat.le_refl _
      · have := hmax i (by omega); omega
    · rw [if_neg hc]
      refine ih (j - 1) _ _ (by omega) ⟨k + 1, v, rfl, by omega, rfl, hv, fun i hi => ?_, hat.imp id (fun ⟨i, i1, i2⟩ => ⟨i, by omega, i2⟩)⟩
      by_cases z : i = k
      · rw [z]; omega
      · exact hmax i (by omega)
end B
