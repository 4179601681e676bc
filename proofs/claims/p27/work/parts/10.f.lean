/-! formulas: steps behind their operands, and nodes -/
def enc (s : Nat × Nat) : Int32 := if s.1 = 0 then nI s.2 else if s.1 = 1 then (if s.2 = 0 then -1 else if s.2 = 1 then -2 else if s.2 = 2 then -3 else if s.2 = 3 then -4 else -5) else (if s.1 = 2 then -6 else if s.1 = 3 then -7 else if s.1 = 4 then -8 else -9)
def b0i (p : Int32) : Int32 := if p = 0 then 0 else 1
def valC (p0 p1 p2 p3 p4 : Int32) (s : Nat × Nat) : Int32 := if s.1 = 0 then nI s.2 else if s.2 = 0 then p0 else if s.2 = 1 then b0i p1 else if s.2 = 2 then b0i p2 else if s.2 = 3 then b0i p3 else p4
theorem nI_neg {k : Nat} (h : k < 2 ^ 31) (j : Int) (hj : j < 0) (v : Int32) (hv : v.toInt = j) : ¬ nI k = v := fun e => by
  have h1 := congrArg Int32.toInt e
  rw [nI_toInt h, hv] at h1
  omega
theorem e_operand {s : Nat × Nat} (h1 : s.1 < 2) (h0 : s.1 = 0 → s.2 ≤ 9999) (p0 p1 p2 p3 p4 : Int32) : f_X0_operand (enc s) p0 p1 p2 p3 p4 = some (valC p0 p1 p2 p3 p4 s) := by
  unfold f_X0_operand enc valC b0i
  by_cases a0 : s.1 = 0
  · have := h0 a0
    rw [if_pos a0, if_pos a0, if_neg (nI_neg (by omega) (-5) (by omega) _ (by decide)), if_neg (nI_neg (by omega) (-4) (by omega) _ (by decide)), if_neg (nI_neg (by omega) (-3) (by omega) _ (by decide)), if_neg (nI_neg (by omega) (-2) (by omega) _ (by decide)), if_neg (nI_neg (by omega) (-1) (by omega) _ (by decide))]
  · have a1 : s.1 = 1 := by omega
    rw [if_neg a0, if_pos a1, if_neg a0]
    by_cases b0 : s.2 = 0
    · rw [if_pos b0, if_pos b0]; rfl
    · rw [if_neg b0, if_neg b0]
      by_cases b1 : s.2 = 1
      · rw [if_pos b1, if_pos b1, if_neg (by decide), if_neg (by decide), if_neg (by decide), if_pos rfl]
        split <;> rfl
      · rw [if_neg b1, if_neg b1]
        by_cases b2 : s.2 = 2
        · rw [if_pos b2, if_pos b2, if_neg (by decide), if_neg (by decide), if_pos rfl]
          split <;> rfl
        · rw [if_neg b2, if_neg b2]
          by_cases b3 : s.2 = 3
          · rw [if_pos b3, if_pos b3, if_neg (by decide), if_pos rfl]
            split <;> rfl
          · rw [if_neg b3, if_neg b3, if_pos rfl]
theorem cl6_rt (v : Int64) : (cl6 v).toInt32.toInt64 = cl6 v := by
  apply Int64.toInt_inj.mp
  rw [Int32.toInt_toInt64, Int64.toInt_toInt32]
  have h1 : (1000000 : Int64).toInt = 1000000 := by decide
  have h2 : (-1000000 : Int64).toInt = -1000000 := by decide
  have h : -1000000 ≤ (cl6 v).toInt ∧ (cl6 v).toInt ≤ 1000000 := by
    unfold cl6
    by_cases a : v < 1000000
    · rw [if_pos a]
      by_cases b : v < -1000000
      · rw [if_pos b]; omega
      · rw [if_neg b]
        have a1 := Int64.lt_iff_toInt_lt.mp a
        have b1 := Int64.le_iff_toInt_le.mp (Int64.not_lt.mp b)
        omega
    · rw [if_neg a, if_neg (show ¬ (1000000 : Int64) < -1000000 by decide)]; omega
  exact Int.bmod_eq_of_le (by omega) (by omega)
theorem e_oper {j : Nat} (h2 : 2 ≤ j) (h5 : j ≤ 5) (a b : Int64) : f_X0_result (enc (j, 0)) a b = some (cl6 (nvOp j a b)).toInt32 := by
  have hJ : ∀ v : Int64, f_X0_result_J67 v = some (cl6 v).toInt32 := fun v => rfl
  rcases (show j = 2 ∨ j = 3 ∨ j = 4 ∨ j = 5 by omega) with rfl | rfl | rfl | rfl
  · show f_X0_result (-6) _ _ = _
    unfold f_X0_result
    rw [if_neg (by decide), if_neg (by decide), if_pos rfl, hJ]; rfl
  · show f_X0_result (-7) _ _ = _
    unfold f_X0_result
    rw [if_neg (by decide), if_pos rfl, hJ]; rfl
  · show f_X0_result (-8) _ _ = _
    unfold f_X0_result
    rw [if_pos rfl, hJ]; rfl
  · show f_X0_result (-9) _ _ = _
    unfold f_X0_result f_X0_result_J65
    have e : nvOp 5 a b = if b = 0 then 0 else a / b := rfl
    rw [e]
    by_cases hb : b = 0
    · rw [if_neg (by decide), if_neg (by decide), if_neg (by decide), if_pos ((lg_cmp_eq _ _).mpr hb), hJ, if_pos hb]
    · have hz : nzl b = true := decide_eq_true hb
      rw [if_neg (by decide), if_neg (by decide), if_neg (by decide), if_neg (fun z => hb ((lg_cmp_eq _ _).mp z)), hz, gd_T, hJ, if_neg hb]
theorem enc_op {s : Nat × Nat} (h : 2 ≤ s.1) : enc s = enc (s.1, 0) := by
  unfold enc
  rw [if_neg (by omega), if_neg (by omega), if_neg (show ¬ s.1 = 0 by omega), if_neg (show ¬ s.1 = 1 by omega)]
theorem enc_lt {s : Nat × Nat} (h : s.1 < 2) (h0 : s.1 = 0 → s.2 ≤ 9999) : (-6 : Int32) < enc s := by
  unfold enc
  by_cases a0 : s.1 = 0
  · have := h0 a0
    rw [if_pos a0, Int32.lt_iff_toInt_lt, nI_toInt (by omega), show (-6 : Int32).toInt = -6 by decide]
    omega
  · rw [if_neg a0, if_pos (by omega)]
    split
    · decide
    · split
      · decide
      · split
        · decide
        · split <;> decide
theorem enc_nlt {s : Nat × Nat} (h : 2 ≤ s.1) : ¬ (-6 : Int32) < enc s := by
  unfold enc
  rw [if_neg (by omega), if_neg (by omega)]
  split
  · decide
  · split
    · decide
    · split <;> decide
def okL (q : Nat × Nat) : Prop := (q.1 = 0 ∧ q.2 ≤ 9999) ∨ (q.1 = 1 ∧ q.2 ≤ 4)
def okN : (d : Nat) → NT d → Prop
  | 0, q => okL q
  | d + 1, nd => okL nd.1 ∨ (2 ≤ nd.1.1 ∧ nd.1.1 ≤ 5 ∧ okN d nd.2.1 ∧ okN d nd.2.2)
/-- the steps -/
def pst : (d : Nat) → NT d → List (Nat × Nat)
  | 0, q => [q]
  | d + 1, nd => if nd.1.1 < 2 then [nd.1] else pst d nd.2.1 ++ (pst d nd.2.2 ++ [(nd.1.1, 0)])
theorem NodeAt.ok {h : HW} {Own : Nat → Prop} : ∀ {d a : Nat} {nd : NT d}, NodeAt h Own d a nd → okN d nd
  | 0, _, _, r => r.2.2
  | d + 1, _, _, r => by
    rcases r with r | ⟨r1, r2, _, _, _, _, _, r5, r6⟩
    · exact Or.inl r.2.2
    · exact Or.inr ⟨r1, r2, NodeAt.ok r5, NodeAt.ok r6⟩
theorem pst_len : ∀ (d : Nat) (nd : NT d), (pst d nd).length + 1 ≤ 2 ^ (d + 1)
  | 0, _ => Nat.le_refl _
  | d + 1, nd => by
    have h1 := pst_len d nd.2.1
    have h2 := pst_len d nd.2.2
    have h3 : 2 ^ (d + 1 + 1) = 2 * 2 ^ (d + 1) := by rw [Nat.pow_succ]; omega
    show (if nd.1.1 < 2 then [nd.1] else pst d nd.2.1 ++ (pst d nd.2.2 ++ [(nd.1.1, 0)])).length + 1 ≤ _
    have h4 : 1 ≤ 2 ^ (d + 1) := Nat.two_pow_pos _
    split
    · show 1 + 1 ≤ _; omega
    · rw [List.length_append, List.length_append]
      show _ + (_ + 1) + 1 ≤ _
      omega
def stpF (S : Nat → Int32) (k : Nat) (l : List (Nat × Nat)) : Prop := ∀ i, i < l.length → S (k + i) = enc (l.getD i (0, 0))
theorem stpF.left {S : Nat → Int32} {k : Nat} {l m : List (Nat × Nat)} (h : stpF S k (l ++ m)) : stpF S k l := fun i hi => by
  rw [h i (by rw [List.length_append]; omega), List.getD_eq_getElem?_getD, List.getElem?_append_left hi, ← List.getD_eq_getElem?_getD]
theorem stpF.right {S : Nat → Int32} {k : Nat} {l m : List (Nat × Nat)} (h : stpF S k (l ++ m)) : stpF S (k + l.length) m := fun i hi => by
  have := h (l.length + i) (by rw [List.length_append]; omega)
  rw [Nat.add_assoc, this, List.getD_eq_getElem?_getD, List.getElem?_append_right (by omega), ← List.getD_eq_getElem?_getD, show l.length + i - l.length = i by omega]
section VR
variable {fn : Nat} {p0 p1 p2 p3 p4 : Int32} {v : Nat → Int64}
theorem leaf_run {q : Nat × Nat} (hq : okL q) (hv : ∀ i, i < 5 → (valC p0 p1 p2 p3 p4 (1, i)).toInt64 = v i) : (valC p0 p1 p2 p3 p4 q).toInt64 = lval q v := by
  obtain ⟨q1, q2⟩ := q
  rcases hq with ⟨h1, h2⟩ | ⟨h1, h2⟩
  · have h1 : q1 = 0 := h1
    subst h1
    rfl
  · have h1 : q1 = 1 := h1
    subst h1
    have h2 : q2 ≤ 4 := h2
    have := hv q2 (by omega)
    rw [this]; rfl
theorem leaf_step {q : Nat × Nat} (hq : okL q) {k top f : Nat} {F : SA} (hs : F.2 0 k = enc q) (hk : k < fn) (hfn : fn < 500) (ht : top < 16) :
    itr3 (f_X0_value_B6 fn p0 p1 p2 p3 p4) (f + 1) (nI top) (nI k) F = itr3 (f_X0_value_B6 fn p0 p1 p2 p3 p4) f (nI (top + 1)) (nI (k + 1)) (sa F 1 (upd (F.2 1) top (valC p0 p1 p2 p3 p4 q))) := by
  have z : q.1 < 2 := by rcases hq with z | z <;> omega
  have z0 : q.1 = 0 → q.2 ≤ 9999 := fun y => by rcases hq with z | z <;> omega
  show f_X0_value_B6 fn p0 p1 p2 p3 p4 _ (nI top) (nI k) F = _
  unfold f_X0_value_B6
  rw [ie_le (by omega) (by omega), if_neg (by omega), inb_t hk (by omega), gd_T, nI_clamp (by omega), nmd_S, hs, if_pos (enc_lt z z0), e_operand z z0, bd1_S, e_put ht (by omega), bd1_S, nI_1, nI_1]
theorem val_run (hv : ∀ i, i < 5 → (valC p0 p1 p2 p3 p4 (1, i)).toInt64 = v i) (hfn : fn < 500) : ∀ (d : Nat) (nd : NT d) (k top : Nat) (F : SA), okN d nd → stpF (F.2 0) k (pst d nd) → k + (pst d nd).length ≤ fn → top + d + 1 ≤ 16 →
    ∃ (F' : SA) (w : Int32), F'.2 0 = F.2 0 ∧ F'.2 1 top = w ∧ w.toInt64 = nval d nd v ∧ (∀ j, j < top → F'.2 1 j = F.2 1 j) ∧ ∀ f, itr3 (f_X0_value_B6 fn p0 p1 p2 p3 p4) (f + (pst d nd).length) (nI top) (nI k) F = itr3 (f_X0_value_B6 fn p0 p1 p2 p3 p4) f (nI (top + 1)) (nI (k + (pst d nd).length)) F' := by
  have leaf : ∀ (q : Nat × Nat) (k top : Nat) (F : SA), okL q → stpF (F.2 0) k [q] → k + 1 ≤ fn → top + 1 ≤ 16 →
      ∃ (F' : SA) (w : Int32), F'.2 0 = F.2 0 ∧ F'.2 1 top = w ∧ w.toInt64 = lval q v ∧ (∀ j, j < top → F'.2 1 j = F.2 1 j) ∧ ∀ f, itr3 (f_X0_value_B6 fn p0 p1 p2 p3 p4) (f + 1) (nI top) (nI k) F = itr3 (f_X0_value_B6 fn p0 p1 p2 p3 p4) f (nI (top + 1)) (nI (k + 1)) F' := by
    intro q k top F hq hs hk ht
    refine ⟨sa F 1 (upd (F.2 1) top (valC p0 p1 p2 p3 p4 q)), valC p0 p1 p2 p3 p4 q, rfl, upd_s, leaf_run hq hv, fun j hj => ?_, fun f => leaf_step hq (hs 0 (Nat.lt_succ_self _)) hk hfn (by omega)⟩
    show upd (F.2 1) top _ j = _
    exact upd_n (by omega)
  intro d
  induction d with
  | zero =>
    intro nd k top F ok hs hk ht
    exact leaf nd k top F ok hs hk ht
  | succ d ih =>
    intro nd k top F ok hs hk ht
    rcases ok with ok | ⟨o1, o2, o3, o4⟩
    · have z : nd.1.1 < 2 := by rcases ok with z | z <;> omega
      have e : pst (d + 1) nd = [nd.1] := if_pos z
      have e2 : nval (d + 1) nd v = lval nd.1 v := if_pos z
      rw [e] at hs hk ⊢
      rw [e2]
      exact leaf nd.1 k top F ok hs hk (by omega)
    · have z : ¬ nd.1.1 < 2 := by omega
      have e : pst (d + 1) nd = pst d nd.2.1 ++ (pst d nd.2.2 ++ [(nd.1.1, 0)]) := if_neg z
      have e2 : nval (d + 1) nd v = cl6 (nvOp nd.1.1 (nval d nd.2.1 v) (nval d nd.2.2 v)) := if_neg z
      rw [e] at hs hk ⊢
      rw [e2]
      rw [List.length_append, List.length_append] at hk ⊢
      have hk : k + ((pst d nd.2.1).length + ((pst d nd.2.2).length + 1)) ≤ fn := hk
      show ∃ (F' : SA) (w : Int32), F'.2 0 = F.2 0 ∧ F'.2 1 top = w ∧ w.toInt64 = _ ∧ (∀ j, j < top → F'.2 1 j = F.2 1 j) ∧ ∀ f, itr3 (f_X0_value_B6 fn p0 p1 p2 p3 p4) (f + ((pst d nd.2.1).length + ((pst d nd.2.2).length + 1))) (nI top) (nI k) F = itr3 (f_X0_value_B6 fn p0 p1 p2 p3 p4) f (nI (top + 1)) (nI (k + ((pst d nd.2.1).length + ((pst d nd.2.2).length + 1)))) F'
      obtain ⟨F1, w1, a1, a2, a3, a4, a5⟩ := ih nd.2.1 k top F o3 hs.left (by omega) (by omega)
      have hs2 : stpF (F1.2 0) (k + (pst d nd.2.1).length) (pst d nd.2.2 ++ [(nd.1.1, 0)]) := by rw [a1]; exact hs.right
      obtain ⟨F2, w2, b1, b2, b3, b4, b5⟩ := ih nd.2.2 (k + (pst d nd.2.1).length) (top + 1) F1 o4 hs2.left (by omega) (by omega)
      have hs3 : F2.2 0 (k + (pst d nd.2.1).length + (pst d nd.2.2).length) = enc (nd.1.1, 0) := by
        rw [b1]
        exact hs2.right 0 (Nat.lt_succ_self _)
      refine ⟨sa F2 1 (upd (F2.2 1) top (cl6 (nvOp nd.1.1 (nval d nd.2.1 v) (nval d nd.2.2 v))).toInt32), _, b1.trans a1, upd_s, cl6_rt _, fun j hj => ?_, fun f => ?_⟩
      · show upd (F2.2 1) top _ j = _
        rw [upd_n (by omega), b4 j (by omega), a4 j hj]
      · have hnl : ¬ (-6 : Int32) < enc (nd.1.1, 0) := enc_nlt (s := (nd.1.1, 0)) o1
        rw [show f + ((pst d nd.2.1).length + ((pst d nd.2.2).length + 1)) = f + 1 + (pst d nd.2.2).length + (pst d nd.2.1).length by omega, a5, b5]
        show f_X0_value_B6 fn p0 p1 p2 p3 p4 _ (nI (top + 1 + 1)) (nI (k + (pst d nd.2.1).length + (pst d nd.2.2).length)) F2 = _
        unfold f_X0_value_B6
        have hp1 : nI (top + 1 + 1) + -1 = nI (top + 1) := nI_am1 (by omega)
        have hp2 : nI (top + 1) - 1 = nI top := by rw [show (1 : Int32) = nI 1 from rfl, nI_sub (by omega), show top + 1 - 1 = top by omega]
        rw [ie_le (by omega) (by omega), if_neg (by omega), inb_t (by omega) (by omega), gd_T, nI_clamp (by omega), nmd_S, hs3, if_neg hnl, hp1, hp2, e_look (by omega) (by omega), bd1_S, e_look (by omega) (by omega), bd1_S, b2, b3, b4 top (by omega), a2, a3, e_oper o1 o2, bd1_S, e_put (by omega) (by omega), bd1_S, nI_1]
        rw [show k + (pst d nd.2.1).length + (pst d nd.2.2).length + 1 = k + ((pst d nd.2.1).length + ((pst d nd.2.2).length + 1)) by omega]
theorem val_all (hv : ∀ i, i < 5 → (valC p0 p1 p2 p3 p4 (1, i)).toInt64 = v i) {d : Nat} {nd : NT d} {F : SA} (hd : d ≤ 2) (ok : okN d nd) (hfn : fn = (pst d nd).length) (hs : stpF (F.2 0) 0 (pst d nd)) : ∃ F', f_X0_value fn F p0 p1 p2 p3 p4 = some ((nval d nd v).toInt32, F') ∧ F'.2 0 = F.2 0 := by
  have hl := pst_len d nd
  have h8 : 2 ^ (d + 1) ≤ 2 ^ 3 := Nat.pow_le_pow_right (by omega) (by omega)
  have h8 : 2 ^ (d + 1) ≤ 8 := h8
  obtain ⟨F', w, a1, a2, a3, a4, a5⟩ := val_run (fn := fn) (p0 := p0) (p1 := p1) (p2 := p2) (p3 := p3) (p4 := p4) hv (by omega) d nd 0 0 F ok hs (by omega) (by omega)
  refine ⟨F', ?_, a1⟩
  unfold f_X0_value
  have e := a5 (FUEL - (pst d nd).length - 1 + 1)
  rw [show FUEL - (pst d nd).length - 1 + 1 + (pst d nd).length = FUEL by show 2000000 - _ - 1 + 1 + _ = 2000000; omega] at e
  rw [show itr3 (f_X0_value_B6 fn p0 p1 p2 p3 p4) FUEL 0 0 F = itr3 (f_X0_value_B6 fn p0 p1 p2 p3 p4) FUEL (nI 0) (nI 0) F from rfl, e]
  show f_X0_value_B6 fn p0 p1 p2 p3 p4 _ _ _ _ = _
  unfold f_X0_value_B6
  rw [ie_le (by omega) (by omega), if_pos (by omega), i_0, e_look (by omega) (by omega), bd1_S, a2, ← a3, Int32.toInt32_toInt64]
end VR
def FRT (fo : Option Nat) (fn : Nat) (S : Nat → Int32) (M : Option TM) : Prop := (fo = none ∧ M = none) ∨ ∃ (a : Nat) (m : TM), fo = some a ∧ M = some m ∧ m.1 ≤ 2 ∧ okN m.1 m.2 ∧ fn = (pst m.1 m.2).length ∧ stpF S 0 (pst m.1 m.2)
section RTF
variable {g : GS} {T : TT} {mx np hs hb tn pa f e n fn : Nat} {F : SA}
theorem b0i_ite {p : Prop} [Decidable p] : b0i (if p then 1 else 0) = if p then 1 else 0 := by
  unfold b0i
  by_cases h : p
  · rw [if_pos h]; rfl
  · rw [if_neg h]; rfl
theorem RT.rank (r : RT g T np hb f e n) (h : Inv g mx np hs hb tn pa f e n) (hF : FRT g.2.1 fn (F.2 0) (tM T)) {c t : Nat} (hc : c < 100) (ht : t ≤ np) : ∃ F', f_X1_rankOf fn g.2.1 g F (nI c) (nI t) = some (rankT T np tn c t, F') ∧ F'.2 0 = F.2 0 := by
  have hnp := h.np
  have htn := h.tn
  unfold f_X1_rankOf rankT
  rw [gd_t (decide_eq_true rfl)]
  rcases hF with ⟨h1, h2⟩ | ⟨a, m, h1, h2, h3, h4, h5, h6⟩
  · rw [h1, h2]
    show ∃ F', (bd1 (f_X7_pipsOf (nI c)) fun (r10 : Int32) => some (r10, F)) = some (_, F') ∧ _
    rw [e_pips (by omega), bd1_S]
    exact ⟨F, rfl, rfl⟩
  · rw [h1, h2]
    show ∃ F', (bd1 (f_X1_handCount g (g.1.1 5)) fun (r19 : Int32) => bd1 (f_X7_pipsOf (nI c)) fun (r28 : Int32) => bd1 (f_X7_isDouble (nI c)) fun (r32 : Int32) => if nI t = (g.1.1 5) then (f_X1_rankOf_J48 fn g F (nI t) r19 r28 r32 1) else (f_X1_rankOf_J48 fn g F (nI t) r19 r28 r32 0)) = some ((nval m.1 m.2 (rvar T np tn c t)).toInt32, F') ∧ _
    rw [e_handCount, bd1_S, e_pips (by omega), bd1_S, e_double (by omega), bd1_S, htn.1]
    obtain ⟨F', a1, a2⟩ := val_all (fn := fn) (F := F) (v := rvar T np tn c t) (p0 := nI (c / 10 + c % 10)) (p1 := if c / 10 = c % 10 then 1 else 0) (p2 := if nI t = nI tn then 1 else 0) (p3 := if nI t = nI np then 1 else 0) (p4 := nI (hcN (g.1.2 0) (nI tn)) - 1) (fun i hi => by
      rcases (show i = 0 ∨ i = 1 ∨ i = 2 ∨ i = 3 ∨ i = 4 by omega) with rfl | rfl | rfl | rfl | rfl
      · rfl
      · show (b0i (if c / 10 = c % 10 then 1 else 0)).toInt64 = b64 (c % 11 = 0)
        rw [b0i_ite]
        unfold b64
        by_cases z : c / 10 = c % 10
        · rw [if_pos z, if_pos ((dbl_11 hc).mp z)]; rfl
        · rw [if_neg z, if_neg (fun y => z ((dbl_11 hc).mpr y))]; rfl
      · show (b0i (if nI t = nI tn then 1 else 0)).toInt64 = b64 (t = tn)
        rw [b0i_ite, ie_eq (by omega) (by omega)]
        unfold b64
        split <;> rfl
      · show (b0i (if nI t = nI np then 1 else 0)).toInt64 = b64 (t = np)
        rw [b0i_ite, ie_eq (by omega) (by omega)]
        unfold b64
        split <;> rfl
      · show (nI (hcN (g.1.2 0) (nI tn)) - 1).toInt64 = (nI (hnd T tn).length - 1).toInt64
        rw [r.hc htn.2]) h3 h4 h5 h6
    refine ⟨F', ?_, a2⟩
    have e61 : ∀ s48 : Int32, f_X1_rankOf_J48 fn g F (nI t) (nI (hcN (g.1.2 0) (nI tn))) (nI (c / 10 + c % 10)) (if c / 10 = c % 10 then 1 else 0) s48 = f_X1_rankOf_J61 fn F (nI (hcN (g.1.2 0) (nI tn))) (nI (c / 10 + c % 10)) (if c / 10 = c % 10 then 1 else 0) s48 (if nI t = nI np then 1 else 0) := fun s48 => by
      unfold f_X1_rankOf_J48
      rw [hnp.1]
      by_cases z : nI t = nI np
      · rw [if_pos z, if_pos z]
      · rw [if_neg z, if_neg z]
    have e48 : (if nI t = nI tn then (f_X1_rankOf_J48 fn g F (nI t) (nI (hcN (g.1.2 0) (nI tn))) (nI (c / 10 + c % 10)) (if c / 10 = c % 10 then 1 else 0) 1) else (f_X1_rankOf_J48 fn g F (nI t) (nI (hcN (g.1.2 0) (nI tn))) (nI (c / 10 + c % 10)) (if c / 10 = c % 10 then 1 else 0) 0)) = f_X1_rankOf_J61 fn F (nI (hcN (g.1.2 0) (nI tn))) (nI (c / 10 + c % 10)) (if c / 10 = c % 10 then 1 else 0) (if nI t = nI tn then 1 else 0) (if nI t = nI np then 1 else 0) := by
      by_cases z : nI t = nI tn
      · rw [if_pos z, if_pos z, e61]
      · rw [if_neg z, if_neg z, e61]
    rw [e48]
    unfold f_X1_rankOf_J61
    rw [a1, bd2_S]
end RTF
