/-! formulas: steps behind their operands, and the reference's codes -/
theorem lk33 {A0 A1 A2 R A0' A1' A2' R' : Type} {B : (A0 → A1 → A2 → Option R) → A0 → A1 → A2 → Option R} {B' : (A0' → A1' → A2' → Option R') → A0' → A1' → A2' → Option R'} (Post : Option R → Option R' → Prop) (Inv : Nat → A0 → A1 → A2 → A0' → A1' → A2' → Prop)
    (h : ∀ rec rec' n a0 a1 a2 b0 b1 b2, Inv n a0 a1 a2 b0 b1 b2 → (∀ m c0 c1 c2 d0 d1 d2, m < n → Inv m c0 c1 c2 d0 d1 d2 → Post (rec c0 c1 c2) (rec' d0 d1 d2)) → Post (B rec a0 a1 a2) (B' rec' b0 b1 b2)) : ∀ f n a0 a1 a2 b0 b1 b2, n < f → Inv n a0 a1 a2 b0 b1 b2 → Post (itr3 B f a0 a1 a2) (itr3 B' f b0 b1 b2)
  | 0, n, a0, a1, a2, b0, b1, b2, h1, _ => by omega
  | f + 1, n, a0, a1, a2, b0, b1, b2, _, h2 => h _ _ n a0 a1 a2 b0 b1 b2 h2 (fun m c0 c1 c2 d0 d1 d2 hm hi => lk33 Post Inv h f m c0 c1 c2 d0 d1 d2 (by omega) hi)
theorem lk44 {A0 A1 A2 A3 R A0' A1' A2' A3' R' : Type} {B : (A0 → A1 → A2 → A3 → Option R) → A0 → A1 → A2 → A3 → Option R} {B' : (A0' → A1' → A2' → A3' → Option R') → A0' → A1' → A2' → A3' → Option R'} (Post : Option R → Option R' → Prop) (Inv : Nat → A0 → A1 → A2 → A3 → A0' → A1' → A2' → A3' → Prop)
    (h : ∀ rec rec' n a0 a1 a2 a3 b0 b1 b2 b3, Inv n a0 a1 a2 a3 b0 b1 b2 b3 → (∀ m c0 c1 c2 c3 d0 d1 d2 d3, m < n → Inv m c0 c1 c2 c3 d0 d1 d2 d3 → Post (rec c0 c1 c2 c3) (rec' d0 d1 d2 d3)) → Post (B rec a0 a1 a2 a3) (B' rec' b0 b1 b2 b3)) : ∀ f n a0 a1 a2 a3 b0 b1 b2 b3, n < f → Inv n a0 a1 a2 a3 b0 b1 b2 b3 → Post (itr4 B f a0 a1 a2 a3) (itr4 B' f b0 b1 b2 b3)
  | 0, n, a0, a1, a2, a3, b0, b1, b2, b3, h1, _ => by omega
  | f + 1, n, a0, a1, a2, a3, b0, b1, b2, b3, _, h2 => h _ _ n a0 a1 a2 a3 b0 b1 b2 b3 h2 (fun m c0 c1 c2 c3 d0 d1 d2 d3 hm hi => lk44 Post Inv h f m c0 c1 c2 c3 d0 d1 d2 d3 (by omega) hi)
theorem lk32 {A0 A1 A2 R A0' A1' R' : Type} {B : (A0 → A1 → A2 → Option R) → A0 → A1 → A2 → Option R} {B' : (A0' → A1' → Option R') → A0' → A1' → Option R'} (Post : Option R → Option R' → Prop) (Inv : Nat → A0 → A1 → A2 → A0' → A1' → Prop)
    (h : ∀ rec rec' n a0 a1 a2 b0 b1, Inv n a0 a1 a2 b0 b1 → (∀ m c0 c1 c2 d0 d1, m < n → Inv m c0 c1 c2 d0 d1 → Post (rec c0 c1 c2) (rec' d0 d1)) → Post (B rec a0 a1 a2) (B' rec' b0 b1)) : ∀ f n a0 a1 a2 b0 b1, n < f → Inv n a0 a1 a2 b0 b1 → Post (itr3 B f a0 a1 a2) (itr2 B' f b0 b1)
  | 0, n, a0, a1, a2, b0, b1, h1, _ => by omega
  | f + 1, n, a0, a1, a2, b0, b1, _, h2 => h _ _ n a0 a1 a2 b0 b1 h2 (fun m c0 c1 c2 d0 d1 hm hi => lk32 Post Inv h f m c0 c1 c2 d0 d1 (by omega) hi)
theorem lk22 {A0 A1 R A0' A1' R' : Type} {B : (A0 → A1 → Option R) → A0 → A1 → Option R} {B' : (A0' → A1' → Option R') → A0' → A1' → Option R'} (Post : Option R → Option R' → Prop) (Inv : Nat → A0 → A1 → A0' → A1' → Prop)
    (h : ∀ rec rec' n a0 a1 b0 b1, Inv n a0 a1 b0 b1 → (∀ m c0 c1 d0 d1, m < n → Inv m c0 c1 d0 d1 → Post (rec c0 c1) (rec' d0 d1)) → Post (B rec a0 a1) (B' rec' b0 b1)) : ∀ f n a0 a1 b0 b1, n < f → Inv n a0 a1 b0 b1 → Post (itr2 B f a0 a1) (itr2 B' f b0 b1)
  | 0, n, a0, a1, b0, b1, h1, _ => by omega
  | f + 1, n, a0, a1, b0, b1, _, h2 => h _ _ n a0 a1 b0 b1 h2 (fun m c0 c1 d0 d1 hm hi => lk22 Post Inv h f m c0 c1 d0 d1 (by omega) hi)
/-- a step: 0 and its number, 1 and its word, 2 to 5 an operation -/
def enc (s : Nat × Nat) : Int32 := if s.1 = 0 then nI s.2 else if s.1 = 1 then (if s.2 = 0 then -1 else if s.2 = 1 then -2 else if s.2 = 2 then -3 else if s.2 = 3 then -4 else -5) else (if s.1 = 2 then -6 else if s.1 = 3 then -7 else if s.1 = 4 then -8 else -9)
def mo (st : Nat → Nat × Nat) : Nat → Nat
  | 0 => 0
  | k + 1 => mo st k + (if (st k).1 < 2 then 2 else 1)
def hg (st : Nat → Nat × Nat) : Nat → Nat
  | 0 => 0
  | k + 1 => if (st k).1 < 2 then hg st k + 1 else hg st k - 1
theorem mo_le (st : Nat → Nat × Nat) {k n : Nat} (h : k ≤ n) : mo st k ≤ mo st n := by
  obtain ⟨j, rfl⟩ : ∃ j, n = k + j := ⟨n - k, by omega⟩
  induction j with
  | zero => exact Nat.le_refl _
  | succ j ih =>
    show mo st k ≤ mo st (k + j) + _
    have := ih (by omega)
    omega
/-- the steps S, fn of them, are told by the codes of the row d -/
def FM (S : Nat → Int32) (fn : Nat) (d : Nat → Int32) : Prop := ∃ st : Nat → Nat × Nat, fn < 500 ∧ hg st fn = 1 ∧ mo st fn ≤ 1000 ∧ d 14 = nI (mo st fn) ∧ ∀ k, k < fn → S k = enc (st k) ∧ (st k).1 ≤ 5 ∧ ((st k).1 = 0 → (st k).2 ≤ 9999) ∧ ((st k).1 = 1 → (st k).2 ≤ 4) ∧ ((st k).1 < 2 → hg st k < 16) ∧ (2 ≤ (st k).1 → 2 ≤ hg st k) ∧ d (464 + mo st k) = nI (st k).1 ∧ ((st k).1 < 2 → d (464 + mo st k + 1) = nI (st k).2)
def b01 (p : Int32) : Int32 := if p = 0 then 0 else 1
def valC (p0 p1 p2 p3 p4 : Int32) (s : Nat × Nat) : Int32 := if s.1 = 0 then nI s.2 else if s.2 = 0 then p0 else if s.2 = 1 then b01 p1 else if s.2 = 2 then b01 p2 else if s.2 = 3 then b01 p3 else p4
theorem nI_neg {k : Nat} (h : k < 2 ^ 31) (j : Int) (hj : j < 0) (v : Int32) (hv : v.toInt = j) : ¬ nI k = v := fun e => by
  have h1 := congrArg Int32.toInt e
  rw [nI_toInt h, hv] at h1
  omega
theorem e_operand {s : Nat × Nat} (h1 : s.1 < 2) (h0 : s.1 = 0 → s.2 ≤ 9999) (p0 p1 p2 p3 p4 : Int32) : f_X0_operand (enc s) p0 p1 p2 p3 p4 = some (valC p0 p1 p2 p3 p4 s) := by
  unfold f_X0_operand enc valC b01
  by_cases a0 : s.1 = 0
  · have := h0 a0
    rw [if_pos a0, if_pos a0, if_neg (nI_neg (by omega) (-5) (by omega) _ (by decide)), if_neg (nI_neg (by omega) (-4) (by omega) _ (by decide)), if_neg (nI_neg (by omega) (-3) (by omega) _ (by decide)), if_neg (nI_neg (by omega) (-2) (by omega) _ (by decide)), if_neg (nI_neg (by omega) (-1) (by omega) _ (by decide))]
  · have a1 : s.1 = 1 := by omega
    rw [if_neg a0, if_pos a1, if_neg a0]
    by_cases b0 : s.2 = 0
    · rw [if_pos b0, if_pos b0]; rfl
    · rw [if_neg b0, if_neg b0]
      by_cases b1 : s.2 = 1
      · rw [if_pos b1, if_pos b1, if_neg (by decide), if_neg (by decide), if_neg (by decide), if_pos rfl]
        split <;> rfl
      · rw [if_neg b1, if_neg b1]
        by_cases b2 : s.2 = 2
        · rw [if_pos b2, if_pos b2, if_neg (by decide), if_neg (by decide), if_pos rfl]
          split <;> rfl
        · rw [if_neg b2, if_neg b2]
          by_cases b3 : s.2 = 3
          · rw [if_pos b3, if_pos b3, if_neg (by decide), if_pos rfl]
            split <;> rfl
          · rw [if_neg b3, if_neg b3, if_pos rfl]
def clC (v : Int64) : Int64 := if (if v < 1000000 then v else 1000000) < (-1000000) then (-1000000) else (if v < 1000000 then v else 1000000)
theorem clC_lim (v : Int64) : f_X8_limited v = some (clC v) := by
  unfold f_X8_limited clC
  have h1 := lg_cmp_le v 1000000
  have h2 := lg_cmp_ge v (-1000000)
  by_cases a : v < 1000000
  · rw [if_pos a, if_pos (h1.mpr (Int64.le_of_lt a))]
    by_cases b : v < -1000000
    · rw [if_pos b, if_neg (fun z => absurd (h2.mp z) (Int64.not_le.mpr b))]
    · rw [if_neg b, if_pos (h2.mpr (Int64.not_lt.mp b))]
  · rw [if_neg a, if_neg (show ¬ (1000000 : Int64) < -1000000 by decide)]
    by_cases b : v = 1000000
    · subst b; rfl
    · rw [if_neg (fun z => b (Int64.le_antisymm (h1.mp z) (Int64.not_lt.mp a)))]
theorem clC_rt (v : Int64) : (clC v).toInt32.toInt64 = clC v := by
  apply Int64.toInt_inj.mp
  rw [Int32.toInt_toInt64, Int64.toInt_toInt32]
  have h1 : (1000000 : Int64).toInt = 1000000 := by decide
  have h2 : (-1000000 : Int64).toInt = -1000000 := by decide
  have h : -1000000 ≤ (clC v).toInt ∧ (clC v).toInt ≤ 1000000 := by
    unfold clC
    by_cases a : v < 1000000
    · rw [if_pos a]
      by_cases b : v < -1000000
      · rw [if_pos b]; omega
      · rw [if_neg b]
        have a1 := Int64.lt_iff_toInt_lt.mp a
        have b1 := Int64.le_iff_toInt_le.mp (Int64.not_lt.mp b)
        omega
    · rw [if_neg a, if_neg (show ¬ (1000000 : Int64) < -1000000 by decide)]; omega
  exact Int.bmod_eq_of_le (by omega) (by omega)
/-- an operation on both sides -/
theorem e_oper {j : Nat} (h2 : 2 ≤ j) (h5 : j ≤ 5) (a b : Int32) : ∃ w : Int32, f_X0_result (enc (j, 0)) a.toInt64 b.toInt64 = some w ∧ f_X8_operate (nI j) a.toInt64 b.toInt64 = some w.toInt64 := by
  have hJ : ∀ v : Int64, f_X0_result_J67 v = some (clC v).toInt32 := fun v => rfl
  have hL : ∀ v : Int64, f_X8_operate_J47 v = some (clC v) := fun v => by
    unfold f_X8_operate_J47
    rw [clC_lim, bd1_S]
  rcases (show j = 2 ∨ j = 3 ∨ j = 4 ∨ j = 5 by omega) with rfl | rfl | rfl | rfl
  · refine ⟨(clC (a.toInt64 + b.toInt64)).toInt32, ?_, ?_⟩
    · show f_X0_result (-6) _ _ = _
      unfold f_X0_result
      rw [if_neg (by decide), if_neg (by decide), if_pos rfl, hJ]
    · show f_X8_operate 2 _ _ = _
      unfold f_X8_operate
      rw [if_neg (by decide), if_pos rfl, hL, clC_rt]
  · refine ⟨(clC (a.toInt64 - b.toInt64)).toInt32, ?_, ?_⟩
    · show f_X0_result (-7) _ _ = _
      unfold f_X0_result
      rw [if_neg (by decide), if_pos rfl, hJ]
    · show f_X8_operate 3 _ _ = _
      unfold f_X8_operate
      rw [if_neg (by decide), if_neg (by decide), if_pos rfl, hL, clC_rt]
  · refine ⟨(clC (a.toInt64 * b.toInt64)).toInt32, ?_, ?_⟩
    · show f_X0_result (-8) _ _ = _
      unfold f_X0_result
      rw [if_pos rfl, hJ]
    · show f_X8_operate 4 _ _ = _
      unfold f_X8_operate
      rw [if_neg (by decide), if_neg (by decide), if_neg (by decide), hL, clC_rt]
  · by_cases hb : b.toInt64 = 0
    · refine ⟨0, ?_, ?_⟩
      · show f_X0_result (-9) _ _ = _
        unfold f_X0_result f_X0_result_J65
        rw [if_neg (by decide), if_neg (by decide), if_neg (by decide), if_pos ((lg_cmp_eq _ _).mpr hb)]
        rfl
      · show f_X8_operate 5 _ _ = _
        unfold f_X8_operate
        rw [if_pos rfl, if_pos ((lg_cmp_eq _ _).mpr hb)]
        rfl
    · have hz : nzl b.toInt64 = true := decide_eq_true hb
      refine ⟨(clC (a.toInt64 / b.toInt64)).toInt32, ?_, ?_⟩
      · show f_X0_result (-9) _ _ = _
        unfold f_X0_result f_X0_result_J65
        rw [if_neg (by decide), if_neg (by decide), if_neg (by decide), if_neg (fun z => hb ((lg_cmp_eq _ _).mp z)), hz, gd_T, hJ]
      · show f_X8_operate 5 _ _ = _
        unfold f_X8_operate
        rw [if_pos rfl, if_neg (fun z => hb ((lg_cmp_eq _ _).mp z)), hz, gd_T, clC_lim, bd1_S, clC_rt]
theorem enc_op {s : Nat × Nat} (h : 2 ≤ s.1) : enc s = enc (s.1, 0) := by
  unfold enc
  rw [if_neg (by omega), if_neg (by omega), if_neg (show ¬ s.1 = 0 by omega), if_neg (show ¬ s.1 = 1 by omega)]
theorem enc_lt {s : Nat × Nat} (h : s.1 < 2) (h0 : s.1 = 0 → s.2 ≤ 9999) : (-6 : Int32) < enc s := by
  unfold enc
  by_cases a0 : s.1 = 0
  · have := h0 a0
    rw [if_pos a0, Int32.lt_iff_toInt_lt, nI_toInt (by omega), show (-6 : Int32).toInt = -6 by decide]
    omega
  · rw [if_neg a0, if_pos (by omega)]
    split
    · decide
    · split
      · decide
      · split
        · decide
        · split <;> decide
theorem enc_nlt {s : Nat × Nat} (h : 2 ≤ s.1) : ¬ (-6 : Int32) < enc s := by
  unfold enc
  rw [if_neg (by omega), if_neg (by omega)]
  split
  · decide
  · split
    · decide
    · split <;> decide
/-- the values on both sides -/
theorem s_value {S : SA} {x : MS} {fn : Nat} {p0 p1 p2 p3 p4 : Int32} {c t : Nat} (hF : FM (S.2 0) fn (dd x))
    (hv : ∀ i, i ≤ 4 → f_X8_fact x (nI i) (nI c) (nI t) = some (valC p0 p1 p2 p3 p4 (1, i))) : ∃ r S' x', f_X0_value fn S p0 p1 p2 p3 p4 = some (r, S') ∧ itr3 (f_X8_rankOf_B27 (nI c) (nI t)) FUEL 0 0 x = some (r, x') ∧ S'.2 0 = S.2 0 ∧ x'.1 = x.1 := by
  obtain ⟨st, hfn, hh, hm, hd, hS⟩ := hF
  unfold f_X0_value
  have key := lk33 (B := f_X0_value_B6 fn p0 p1 p2 p3 p4) (B' := f_X8_rankOf_B27 (nI c) (nI t)) (fun (o : Option (Int32 × SA)) (o' : Option (Int32 × MS)) => ∃ r S' x', o = some (r, S') ∧ o' = some (r, x') ∧ S'.2 0 = S.2 0 ∧ x'.1 = x.1)
    (fun (m : Nat) (v6 v7 : Int32) (F : SA) (v3 v4 : Int32) (y : MS) => ∃ k, k + m = fn ∧ v6 = nI (hg st k) ∧ v7 = nI k ∧ v3 = nI (hg st k) ∧ v4 = nI (mo st k) ∧ hg st k ≤ 16 ∧ F.2 0 = S.2 0 ∧ y.1 = x.1 ∧ ∀ j, j < hg st k → y.2 j = (F.2 1 j).toInt64)
    ?_ FUEL fn 0 0 S 0 0 x (FUEL_lt (by omega)) ⟨0, by omega, rfl, rfl, rfl, rfl, Nat.zero_le _, rfl, rfl, fun j hj => absurd hj (Nat.not_lt_zero _)⟩
  · exact key
  · rintro rec rec' m v6 v7 F v3 v4 y ⟨k, hk, rfl, rfl, rfl, rfl, h16, hF0, hy, hst⟩ ih
    unfold f_X0_value_B6 f_X8_rankOf_B27
    have hd14 : y.1.2 1 14 = nI (mo st fn) := by rw [hy]; exact hd
    have hmk := mo_le st (show k ≤ fn by omega)
    rw [gl_14, cl_14, ie_le (by omega) (by omega), hd14, ie_le (by omega) (by omega)]
    by_cases hend : fn ≤ k
    · have : k = fn := by omega
      subst this
      rw [if_pos (Nat.le_refl _), if_pos (Nat.le_refl _), i_0, e_look (by omega) (by omega), bd1_S, inb_t (by omega) (by omega), gd_T, nI_clamp (by omega)]
      refine ⟨_, F, y, rfl, ?_, hF0, hy⟩
      rw [hst 0 (by omega), Int32.toInt32_toInt64]
    · obtain ⟨e1, e2, e3, e4, e5, e6, e7, e8⟩ := hS k (by omega)
      have hmk1 := mo_le st (show k + 1 ≤ fn by omega)
      have hm1 : mo st (k + 1) = mo st k + (if (st k).1 < 2 then 2 else 1) := rfl
      have hg1 : hg st (k + 1) = if (st k).1 < 2 then hg st k + 1 else hg st k - 1 := rfl
      have hdk : y.1.2 1 (464 + mo st k) = nI (st k).1 := by rw [hy]; exact e7
      have hlt : mo st k < mo st fn := by
        by_cases z : (st k).1 < 2
        · rw [if_pos z] at hm1; omega
        · rw [if_neg z] at hm1; omega
      rw [if_neg hend, if_neg (by omega), inb_t (by omega) (by omega), gd_T, nI_clamp (by omega), nmd_S, hF0, e1, i_464, nI_add, inb_t (by omega) (by omega), gd_T, nI_clamp (by omega), nmd_S, hdk]
      by_cases z : (st k).1 < 2
      · rw [if_pos z] at hm1 hg1
        have hdk1 : y.1.2 1 (464 + (mo st k + 1)) = nI (st k).2 := by rw [hy, show 464 + (mo st k + 1) = 464 + mo st k + 1 by omega]; exact e8 z
        have h16k := e5 z
        rw [if_pos (enc_lt z e3), e_operand z e3, bd1_S, e_put (by omega) (by omega), bd1_S, nI_1, nI_1, i_1, ie_lt (by omega) (by omega), if_neg (by omega), ie_eq0 (by omega)]
        have step : ∀ v : Int32, v = valC p0 p1 p2 p3 p4 (st k) → ∃ r S' x', rec (nI (hg st k + 1)) (nI (k + 1)) (sa F 1 (upd (F.2 1) (hg st k) (valC p0 p1 p2 p3 p4 (st k)))) = some (r, S') ∧ f_X8_rankOf_J104 rec' (nI (hg st k)) (nI (mo st k)) y v.toInt64 = some (r, x') ∧ S'.2 0 = S.2 0 ∧ x'.1 = x.1 := by
          intro v hv
          unfold f_X8_rankOf_J104
          rw [inb_t (by omega) (by omega), gd_T, nI_clamp (by omega), nmd_S, nI_1, nI_1, nI_1]
          refine ih (m - 1) _ _ _ _ _ _ (by omega) ⟨k + 1, by omega, by rw [hg1], rfl, by rw [hg1], by rw [hm1], by rw [hg1]; omega, hF0, hy, fun j hj => ?_⟩
          rw [hg1] at hj
          show vp_updL y.2 (hg st k) v.toInt64 j = (upd (F.2 1) (hg st k) (valC p0 p1 p2 p3 p4 (st k)) j).toInt64
          unfold vp_updL
          by_cases hjk : j = hg st k
          · rw [if_pos hjk, hjk, upd_s, hv]
          · rw [if_neg hjk, upd_n hjk]; exact hst j (by omega)
        by_cases z0 : (st k).1 = 0
        · rw [if_pos z0, nI_add, nI_add, inb_t (by omega) (by omega), gd_T, nI_clamp (by omega), hdk1]
          refine step _ ?_
          unfold valC
          rw [if_pos z0]
        · rw [if_neg z0, nI_add, nI_add, inb_t (by omega) (by omega), gd_T, nI_clamp (by omega), hdk1]
          have hfact : f_X8_fact y (nI (st k).2) (nI c) (nI t) = some (valC p0 p1 p2 p3 p4 (st k)) := by
            have h9 := hv (st k).2 (e4 (by omega))
            have h10 : f_X8_fact y (nI (st k).2) (nI c) (nI t) = f_X8_fact x (nI (st k).2) (nI c) (nI t) := by
              unfold f_X8_fact f_X8_hand
              rw [hy]
            rw [h10, h9]
            unfold valC
            rw [if_neg (show ¬ (1 : Nat) = 0 by omega), if_neg z0]
          rw [hfact, bd1_S]
          exact step _ rfl
      · rw [if_neg z] at hm1 hg1
        have h2k := e6 (by omega)
        obtain ⟨w, w1, w2⟩ := e_oper (show 2 ≤ (st k).1 by omega) e2 (F.2 1 (hg st k - 2)) (F.2 1 (hg st k - 1))
        have hp1 : nI (hg st k) + -1 = nI (hg st k - 1) := nI_am1 (by omega)
        have hp2 : nI (hg st k - 1) - 1 = nI (hg st k - 2) := by
          rw [show (1 : Int32) = nI 1 from rfl, nI_sub (by omega), show hg st k - 1 - 1 = hg st k - 2 by omega]
        rw [if_neg (enc_nlt (by omega)), hp1, hp2, e_look (by omega) (by omega), bd1_S, e_look (by omega) (by omega), bd1_S, enc_op (by omega), w1, bd1_S, e_put (by omega) (by omega), bd1_S, nI_1, i_1, ie_lt (by omega) (by omega), if_pos (by omega), inb_t (by omega) (by omega), gd_T, inb_t (by omega) (by omega), gd_T, nI_clamp (show hg st k - 2 < 2 ^ 31 by omega), nI_clamp (show hg st k - 1 < 2 ^ 31 by omega), hst _ (by omega), hst _ (by omega), w2, bd1_S, gd_T, nmd_S, nI_add]
        refine ih (m - 1) _ _ _ _ _ _ (by omega) ⟨k + 1, by omega, by rw [hg1], rfl, by rw [hg1], by rw [hm1], by rw [hg1]; omega, hF0, hy, fun j hj => ?_⟩
        rw [hg1] at hj
        show vp_updL y.2 (hg st k - 2) w.toInt64 j = (upd (F.2 1) (hg st k - 2) w j).toInt64
        unfold vp_updL
        by_cases hjk : j = hg st k - 2
        · rw [if_pos hjk, hjk, upd_s]
        · rw [if_neg hjk, upd_n hjk]; exact hst j (by omega)
