/-! the pool of formulas, games of the class with their tables, what is remembered -/
theorem pget_put {a b : Nat} {f : SA} : ∀ ps : PS, pget (pput ps (some a) f) (some b) = (pget ps (some b)).map (fun q => if b = a then (q.1, q.2.1, q.2.2.1, f) else q)
  | [] => rfl
  | z :: ps => by
    have ih := pget_put (a := a) (b := b) (f := f) ps
    show (((if z.1 == a then (z.1, z.2.1, z.2.2.1, z.2.2.2.1, f) else z) :: pput ps (some a) f).find? (fun q => q.1 == b)).map (fun q => q.2) = (((z :: ps).find? (fun q => q.1 == b)).map (fun q => q.2)).map (fun q => if b = a then (q.1, q.2.1, q.2.2.1, f) else q)
    have h1 : (if z.1 == a then (z.1, z.2.1, z.2.2.1, z.2.2.2.1, f) else z).1 = z.1 := by split <;> rfl
    rw [List.find?_cons, List.find?_cons, h1]
    by_cases h2 : z.1 = b
    · rw [show (z.1 == b) = true from beq_iff_eq.mpr h2]
      show some (if z.1 == a then (z.1, z.2.1, z.2.2.1, z.2.2.2.1, f) else z).2 = some (if b = a then (z.2.1, z.2.2.1, z.2.2.2.1, f) else z.2)
      by_cases h3 : b = a
      · rw [if_pos (beq_iff_eq.mpr (h2.trans h3)), if_pos h3]
      · rw [if_neg (fun q => h3 (h2.symm.trans (beq_iff_eq.mp q))), if_neg h3]
    · rw [show (z.1 == b) = false from beq_eq_false_iff_ne.mpr h2]
      exact ih
theorem pget_app {b : Nat} {q : Nat × Nat × Nat × SA} {ps qs : PS} (h : pget ps (some b) = some q) : pget (ps ++ qs) (some b) = some q := by
  unfold pget at h ⊢
  simp only at h ⊢
  rw [List.find?_append]
  cases hh : ps.find? (fun q => q.1 == b) with
  | none => rw [hh] at h; exact absurd h (by simp)
  | some z => rw [hh] at h; exact h
theorem pget_new {a p1 p2 n : Nat} {f : SA} {ps : PS} (h : ∀ z ∈ ps, ¬ z.1 = a) : pget (ps ++ [(a, p1, p2, n, f)]) (some a) = some (p1, p2, n, f) := by
  unfold pget
  simp only
  rw [List.find?_append, List.find?_eq_none.mpr (fun z hz => by simpa using h z hz)]
  simp
def sl (v : Int32) : Nat := v.toBitVec.toNat % 8
theorem sl_lt (v : Int32) : sl v < 8 := Nat.mod_lt _ (by omega)
theorem and_7 (v : Int32) : v &&& 7 = nI (sl v) := by
  have h : v.toBitVec &&& 7#32 = BitVec.ofNat 32 (v.toBitVec.toNat % 8) := by
    apply BitVec.eq_of_toNat_eq
    rw [BitVec.toNat_and, show (7#32).toNat = 2 ^ 3 - 1 by decide, Nat.and_two_pow_sub_one_eq_mod, BitVec.toNat_ofNat, Nat.mod_eq_of_lt (show v.toBitVec.toNat % 8 < 2 ^ 32 by omega)]
  exact Int32.toBitVec_inj.mp h
theorem sl_add (v : Int32) : sl (v + 1) = (sl v + 1) % 8 := by
  unfold sl
  rw [Int32.toBitVec_add, BitVec.toNat_add, show (1 : Int32).toBitVec.toNat = 1 by decide]
  omega
theorem sl_sub (v : Int32) : sl (v - 1) = (sl v + 7) % 8 := by
  unfold sl
  rw [Int32.toBitVec_sub, BitVec.toNat_sub, show (1 : Int32).toBitVec.toNat = 1 by decide]
  omega
theorem upG_s {f : Nat → GS} {k : Nat} {x : GS} : upG f k x k = x := if_pos rfl
theorem upG_n {f : Nat → GS} {k j : Nat} {x : GS} (h : ¬ j = k) : upG f k x j = f j := if_neg h
theorem RT.cg {g g' : GS} {T : TT} {mx np hs hb tn pa f e n : Nat} (r : RT g T np hb f e n) (h : Inv g mx np hs hb tn pa f e n) (q : gEq g' g) : RT g' T np hb f e n := by
  have hS := r.S
  have hn4 := h.np.2.2
  have he := h.st.2.2
  have hcnt := h.cnt
  refine ⟨⟨?_, ?_, ?_, ?_, ?_, ?_, ?_, ?_, ?_, ?_⟩, r.L, ?_, ?_, ?_, ?_, ?_, ?_, r.nd, ?_⟩
  · rw [q.S 0 (by omega)]; exact hS.1
  · rw [q.S 2 (by omega)]; exact hS.2.1
  · rw [q.S 3 (by omega)]; exact hS.2.2.1
  · rw [q.S 4 (by omega)]; exact hS.2.2.2.1
  · rw [q.S 5 (by omega)]; exact hS.2.2.2.2.1
  · rw [q.S 6 (by omega)]; exact hS.2.2.2.2.2.1
  · rw [q.S 7 (by omega)]; exact hS.2.2.2.2.2.2.1
  · rw [q.S 8 (by omega)]; exact hS.2.2.2.2.2.2.2.1
  · rw [q.S 9 (by omega)]; exact hS.2.2.2.2.2.2.2.2.1
  · rw [q.S 10 (by omega)]; exact hS.2.2.2.2.2.2.2.2.2
  · intro p hp; rw [hL_congr q.H]; exact r.H p hp
  · intro p hp; rw [q.tot p (by omega)]; exact r.tot p hp
  · intro t ht
    rw [r.R t ht]
    exact trL_congr fun i hi => ⟨(q.T i (by omega)).symm, (q.U i (by omega)).symm⟩
  · intro t ht; rw [q.E t (by omega)]; exact r.E t ht
  · intro t ht; rw [q.O t (by omega)]; exact r.O t ht
  · rw [r.K]
    unfold skL
    refine List.map_congr_left fun i hi => ?_
    have := List.mem_range.mp hi
    rw [q.K (f + i) (by omega)]
  · intro x hx
    rw [q.H x ((r.tw h).K.1 x hx)]; exact r.fr x hx
/-- a game of the class and its table -/
def GE (ps : PS) (g : GS) (T : TT) (mx np hs hb tn pa f e n : Nat) : Prop := Inv g mx np hs hb tn pa f e n ∧ RT g T np hb f e n ∧ (g.1.1 8 = 0 → pa < np) ∧ ∃ q, pget ps g.2.1 = some q ∧ FRT g.2.1 q.2.2.1 (q.2.2.2.2 0) (tM T)
def GT (ps : PS) (g : GS) (T : TT) (mx np : Nat) : Prop := ∃ hs hb tn pa f e n, GE ps g T mx np hs hb tn pa f e n
theorem GT.cg {ps : PS} {g g' : GS} {T : TT} {mx np : Nat} (h : GT ps g T mx np) (q : gEq g' g) : GT ps g' T mx np := by
  obtain ⟨hs, hb, tn, pa, f, e, n, h1, h2, h3, z, h4, h5⟩ := h
  exact ⟨hs, hb, tn, pa, f, e, n, q.inv h1, h2.cg h1 q, fun z => h3 (by rw [← q.S 8 (by omega)]; exact z), z, by rw [q.fo]; exact h4, by rw [q.fo]; exact h5⟩
/-- what the pool knew it still knows -/
def PM (ps ps' : PS) : Prop := ∀ (fo : Option Nat) (q : Nat × Nat × Nat × SA), pget ps fo = some q → ∃ q', pget ps' fo = some q' ∧ q'.2.2.1 = q.2.2.1 ∧ q'.2.2.2.2 0 = q.2.2.2.2 0
theorem PM.rf {ps : PS} : PM ps ps := fun fo q h => ⟨q, h, rfl, rfl⟩
theorem PM.tr {p1 p2 p3 : PS} (a : PM p1 p2) (b : PM p2 p3) : PM p1 p3 := fun fo q h => by
  obtain ⟨q1, h1, h2, h3⟩ := a fo q h
  obtain ⟨q2, k1, k2, k3⟩ := b fo q1 h1
  exact ⟨q2, k1, k2.trans h2, k3.trans h3⟩
theorem PM.put {ps : PS} {fo : Option Nat} {q : Nat × Nat × Nat × SA} {f : SA} (hq : pget ps fo = some q) (hf : f.2 0 = q.2.2.2.2 0) : PM ps (pput ps fo f) := by
  intro fo2 z hz
  cases fo with
  | none => exact ⟨z, hz, rfl, rfl⟩
  | some a =>
    cases fo2 with
    | none => exact ⟨z, hz, rfl, rfl⟩
    | some b =>
      refine ⟨_, by rw [pget_put, hz]; rfl, ?_⟩
      by_cases hb : b = a
      · subst hb
        have ez : z = q := Option.some.inj (hz.symm.trans hq)
        show (if b = b then (z.1, z.2.1, z.2.2.1, f) else z).2.2.1 = z.2.2.1 ∧ (if b = b then (z.1, z.2.1, z.2.2.1, f) else z).2.2.2.2 0 = z.2.2.2.2 0
        rw [if_pos rfl]
        exact ⟨rfl, by rw [ez]; exact hf⟩
      · show (if b = a then (z.1, z.2.1, z.2.2.1, f) else z).2.2.1 = z.2.2.1 ∧ (if b = a then (z.1, z.2.1, z.2.2.1, f) else z).2.2.2.2 0 = z.2.2.2.2 0
        rw [if_neg hb]
        exact ⟨rfl, rfl⟩
theorem wP_nil (c : Nat → ClassId) : wP c [] = [] := rfl
theorem pput_ad {c : Nat → ClassId} {fo : Option Nat} {f : SA} : ∀ ps : PS, (wP c (pput ps fo f)).map Prod.fst = (wP c ps).map Prod.fst
  | [] => by cases fo <;> rfl
  | z :: ps => by
    cases fo with
    | none => rfl
    | some a =>
      have ih := pput_ad (c := c) (fo := some a) (f := f) ps
      show (wP c ((if z.1 == a then (z.1, z.2.1, z.2.2.1, z.2.2.2.1, f) else z) :: pput ps (some a) f)).map Prod.fst = _
      rw [wP_cons, wP_cons, List.map_append, List.map_append, ih]
      congr 1
      split <;> rfl
theorem PM.app {ps qs : PS} : PM ps (ps ++ qs) := by
  intro fo q h
  cases fo with
  | none => exact ⟨q, h, rfl, rfl⟩
  | some b => exact ⟨q, pget_app h, rfl, rfl⟩
theorem GE.pm {ps ps' : PS} {g : GS} {T : TT} {mx np hs hb tn pa f e n : Nat} (h : GE ps g T mx np hs hb tn pa f e n) (m : PM ps ps') : GE ps' g T mx np hs hb tn pa f e n := by
  obtain ⟨h1, h2, h3, z, h4, h5⟩ := h
  obtain ⟨q', k1, k2, k3⟩ := m _ _ h4
  exact ⟨h1, h2, h3, q', k1, by rw [k2, k3]; exact h5⟩
theorem GT.pm {ps ps' : PS} {g : GS} {T : TT} {mx np : Nat} (h : GT ps g T mx np) (m : PM ps ps') : GT ps' g T mx np := by
  obtain ⟨hs, hb, tn, pa, f, e, n, h⟩ := h
  exact ⟨hs, hb, tn, pa, f, e, n, h.pm m⟩
/-- the class's state: its game, and m games before it -/
def SM (ps : PS) (s : HS) (T : TT) (B : Nat → TT) (mx np m : Nat) : Prop := GT ps s.2.1 T mx np ∧ (∃ u, s.1.1 1 = nI u ∧ u ≤ 8 ∧ m ≤ u) ∧ (∀ j, j < m → GT ps (s.2.2.2.1 ((sl (s.1.1 0) + 8 - j) % 8)) (B j) mx np) ∧ s.2.2.2.2.1.2.1.1 0 = 0
def shB (T : TT) (B : Nat → TT) : Nat → TT := fun j => if j = 0 then T else B (j - 1)
theorem SM.pm {ps ps' : PS} {s : HS} {T : TT} {B : Nat → TT} {mx np m : Nat} (h : SM ps s T B mx np m) (p : PM ps ps') : SM ps' s T B mx np m := ⟨h.1.pm p, h.2.1, fun j hj => (h.2.2.1 j hj).pm p, h.2.2.2⟩
section SMS
variable {ps : PS} {s : HS} {T : TT} {B : Nat → TT} {mx np m : Nat}
/-- what is remembered, whatever follows -/
theorem SM.rem0 (hG : GT ps s.2.1 T mx np) (hu : ∃ u, s.1.1 1 = nI u ∧ u ≤ 8 ∧ m ≤ u) (hH : ∀ j, j < m → GT ps (s.2.2.2.1 ((sl (s.1.1 0) + 8 - j) % 8)) (B j) mx np) : ∃ s1, f_X7_remember s = some s1 ∧ s1.2.1 = s.2.1 ∧ s1.2.2.2.2 = s.2.2.2.2 ∧ (∃ u, s1.1.1 1 = nI u ∧ u ≤ 8 ∧ min (m + 1) 8 ≤ u) ∧ (∀ j, j < min (m + 1) 8 → GT ps (s1.2.2.2.1 ((sl (s1.1.1 0) + 8 - j) % 8)) (shB T B j) mx np) := by
  obtain ⟨u, hs, hu8, hmu⟩ := hu
  obtain ⟨hs', hb, tn, pa, f, e, n, i1, i2, i3, z, i4, i5⟩ := hG
  have hg : GT ps s.2.1 T mx np := ⟨hs', hb, tn, pa, f, e, n, i1, i2, i3, z, i4, i5⟩
  have hL := sl_lt (s.1.1 0 + 1)
  have hL0 := sl_lt (s.1.1 0)
  have hadd := sl_add (s.1.1 0)
  obtain ⟨g', e1, q1⟩ := e_takeOver (g := s.2.2.2.1 (sl (s.1.1 0 + 1))) (go := s.2.1) i1.dr i1.ov
  have eC : f_X7_remember s = some ((ss (ss s.1 0 (s.1.1 0 + 1)) 1 (nI (min (u + 1) 8))), s.2.1, s.2.2.1, upG s.2.2.2.1 (sl (s.1.1 0 + 1)) g', s.2.2.2.2.1, s.2.2.2.2.2) := by
    unfold f_X7_remember
    rw [and_7, inb_t hL (by omega), gd_T, nI_clamp (by omega), nmd_S]
    show bd1 (f_X1_takeOver (s.2.2.2.1 (sl (s.1.1 0 + 1))) s.2.1) _ = _
    rw [e1, bd1_S, nmd_S]
    unfold f_X7_remember_J35
    show nmd (if 8 < s.1.1 1 + 1 then 8 else s.1.1 1 + 1) _ = _
    rw [hs, nI_1, i_8, ie_lt (by omega) (by omega), nmd_S]
    have : (if 8 < u + 1 then nI 8 else nI (u + 1)) = nI (min (u + 1) 8) := by
      split
      · rw [show min (u + 1) 8 = 8 by omega]
      · rw [show min (u + 1) 8 = u + 1 by omega]
    rw [this]
  refine ⟨_, eC, rfl, rfl, ⟨min (u + 1) 8, rfl, by omega, by omega⟩, fun j hj => ?_⟩
  show GT ps (upG s.2.2.2.1 (sl (s.1.1 0 + 1)) g' ((sl (s.1.1 0 + 1) + 8 - j) % 8)) (shB T B j) mx np
  unfold shB
  by_cases h0 : j = 0
  · subst h0
    rw [if_pos rfl, show (sl (s.1.1 0 + 1) + 8 - 0) % 8 = sl (s.1.1 0 + 1) by omega, upG_s]
    exact hg.cg q1
  · rw [if_neg h0, upG_n (by omega), show (sl (s.1.1 0 + 1) + 8 - j) % 8 = (sl (s.1.1 0) + 8 - (j - 1)) % 8 by omega]
    exact hH (j - 1) (by omega)
theorem SM.rem (h : SM ps s T B mx np m) : ∃ s1, f_X7_remember s = some s1 ∧ s1.2.1 = s.2.1 ∧ ∀ ps' g' T', PM ps ps' → GT ps' g' T' mx np → SM ps' (s1.1, g', s1.2.2.1, s1.2.2.2.1, s1.2.2.2.2.1, s1.2.2.2.2.2) T' (shB T B) mx np (min (m + 1) 8) := by
  obtain ⟨h1, h2, h3, h4⟩ := h
  obtain ⟨s1, e1, e2, e3, e4, e5⟩ := SM.rem0 h1 h2 h3
  refine ⟨s1, e1, e2, fun ps' g' T' hp hg => ⟨hg, e4, fun j hj => (e5 j hj).pm hp, ?_⟩⟩
  show s1.2.2.2.2.1.2.1.1 0 = 0
  rw [e3]; exact h4
theorem SM.undo (h : SM ps s T B mx np m) (hm : 0 < m) : ∃ v s', f_X7_undo s = some (nI v, s') ∧ v < 8 ∧ SM ps s' (B 0) (fun j => B (j + 1)) mx np (m - 1) := by
  obtain ⟨hG, ⟨u, hs, hu8, hmu⟩, hH, h4⟩ := h
  have hL0 := sl_lt (s.1.1 0)
  have hsub := sl_sub (s.1.1 0)
  have h1 := hH 0 hm
  rw [show (sl (s.1.1 0) + 8 - 0) % 8 = sl (s.1.1 0) by omega] at h1
  obtain ⟨hs', hb, tn, pa, f, e, n, i1, i2, i3, z, i4, i5⟩ := h1
  have h1 : GT ps (s.2.2.2.1 (sl (s.1.1 0))) (B 0) mx np := ⟨hs', hb, tn, pa, f, e, n, i1, i2, i3, z, i4, i5⟩
  obtain ⟨g', e1, q1⟩ := e_takeOver (g := s.2.1) (go := s.2.2.2.1 (sl (s.1.1 0))) i1.dr i1.ov
  have e9 : s.1.1 1 - 1 = nI (u - 1) := by rw [hs, show (1 : Int32) = nI 1 from rfl, nI_sub (by omega)]
  unfold f_X7_undo
  rw [hs, ie_eq0 (by omega), if_neg (by omega), and_7, inb_t hL0 (by omega), gd_T, nI_clamp (by omega), nmd_S, e1, bd1_S, nmd_S]
  refine ⟨u - 1, ((ss (ss s.1 0 (s.1.1 0 - 1)) 1 (nI (u - 1))), g', s.2.2), ?_, by omega, h1.cg q1, ⟨u - 1, rfl, by omega, by omega⟩, fun j hj => ?_, h4⟩
  · show some (s.1.1 1 - 1, ((ss (ss s.1 0 (s.1.1 0 - 1)) 1 (s.1.1 1 - 1)), g', s.2.2)) = _
    rw [e9]
  · show GT ps (s.2.2.2.1 ((sl (s.1.1 0 - 1) + 8 - j) % 8)) (B (j + 1)) mx np
    rw [show (sl (s.1.1 0 - 1) + 8 - j) % 8 = (sl (s.1.1 0) + 8 - (j + 1)) % 8 by omega]
    exact hH (j + 1) (by omega)
end SMS
