/-! the pool of formulas, copies of games, what is remembered -/
theorem pget_put {a b : Nat} {f : SA} : ∀ ps : PS, pget (pput ps (some a) f) (some b) = (pget ps (some b)).map (fun q => if b = a then (q.1, q.2.1, q.2.2.1, f) else q)
  | [] => rfl
  | z :: ps => by
    have ih := pget_put (a := a) (b := b) (f := f) ps
    show (((if z.1 == a then (z.1, z.2.1, z.2.2.1, z.2.2.2.1, f) else z) :: pput ps (some a) f).find? (fun q => q.1 == b)).map (fun q => q.2) = (((z :: ps).find? (fun q => q.1 == b)).map (fun q => q.2)).map (fun q => if b = a then (q.1, q.2.1, q.2.2.1, f) else q)
    have h1 : (if z.1 == a then (z.1, z.2.1, z.2.2.1, z.2.2.2.1, f) else z).1 = z.1 := by split <;> rfl
    rw [List.find?_cons, List.find?_cons, h1]
    by_cases h2 : z.1 = b
    · rw [show (z.1 == b) = true from beq_iff_eq.mpr h2]
      show some (if z.1 == a then (z.1, z.2.1, z.2.2.1, z.2.2.2.1, f) else z).2 = some (if b = a then (z.2.1, z.2.2.1, z.2.2.2.1, f) else z.2)
      by_cases h3 : b = a
      · rw [if_pos (beq_iff_eq.mpr (h2.trans h3)), if_pos h3]
      · rw [if_neg (fun q => h3 (h2.symm.trans (beq_iff_eq.mp q))), if_neg h3]
    · rw [show (z.1 == b) = false from beq_eq_false_iff_ne.mpr h2]
      exact ih
theorem pget_app {b : Nat} {q : Nat × Nat × Nat × SA} {ps qs : PS} (h : pget ps (some b) = some q) : pget (ps ++ qs) (some b) = some q := by
  unfold pget at h ⊢
  simp only at h ⊢
  rw [List.find?_append]
  cases hh : ps.find? (fun q => q.1 == b) with
  | none => rw [hh] at h; exact absurd h (by simp)
  | some z => rw [hh] at h; exact h
theorem pget_new {a p1 p2 n : Nat} {f : SA} {ps : PS} (h : ∀ z ∈ ps, ¬ z.1 = a) : pget (ps ++ [(a, p1, p2, n, f)]) (some a) = some (p1, p2, n, f) := by
  unfold pget
  simp only
  rw [List.find?_append, List.find?_eq_none.mpr (fun z hz => by simpa using h z hz)]
  simp
theorem FM.cg {S S' : Nat → Int32} {fn : Nat} {d d' : Nat → Int32} (h : FM S fn d) (hS : ∀ k, k < fn → S' k = S k) (hd : ∀ k, k < 1464 → d' k = d k) : FM S' fn d' := by
  obtain ⟨st, hfn, hh, hm, hd14, hst⟩ := h
  refine ⟨st, hfn, hh, hm, (hd 14 (by omega)).trans hd14, fun k hk => ?_⟩
  obtain ⟨e1, e2, e3, e4, e5, e6, e7, e8⟩ := hst k hk
  have hmk1 := mo_le st (show k + 1 ≤ fn by omega)
  have hm1 : mo st (k + 1) = mo st k + (if (st k).1 < 2 then 2 else 1) := rfl
  refine ⟨(hS k hk).trans e1, e2, e3, e4, e5, e6, (hd _ ?_).trans e7, fun z => (hd _ ?_).trans (e8 z)⟩
  · split at hm1 <;> omega
  · rw [if_pos z] at hm1; omega
theorem FR.cg {fo : Option Nat} {fn : Nat} {f f' : SA} {d d' : Nat → Int32} (h : FR fo fn f d) (hf : f'.2 0 = f.2 0) (hd : ∀ k, k < 1464 → d' k = d k) : FR fo fn f' d' := by
  rcases h with ⟨h1, h2⟩ | ⟨h1, h2, h3⟩
  · exact Or.inl ⟨h1, (hd 13 (by omega)).trans h2⟩
  · exact Or.inr ⟨h1, (hd 13 (by omega)).trans h2, h3.cg (fun k _ => by rw [hf]) hd⟩
theorem Rel.cg {g : GS} {d d' : Nat → Int32} {np f e n : Nat} (h : Rel g d np f e n) (hn4 : np ≤ 4) (he : e ≤ 54) (hn : n ≤ 54) (hd : ∀ k, k < 1464 → d' k = d k) : Rel g d' np f e n := by
  have hc : ∀ t m, cT (g.2.2.2.2 1) t m ≤ m := fun t m => cT_le _ _ _
  refine ⟨(hd _ (by omega)).trans h.d0, (hd _ (by omega)).trans h.d1, (hd _ (by omega)).trans h.d2, (hd _ (by omega)).trans h.d3, (hd _ (by omega)).trans h.d4, (hd _ (by omega)).trans h.d5, (hd _ (by omega)).trans h.d6, (hd _ (by omega)).trans h.d7, (hd _ (by omega)).trans h.d8, (hd _ (by omega)).trans h.d9, (hd _ (by omega)).trans h.d10, (hd _ (by omega)).trans h.d11, (hd _ (by omega)).trans h.d12, fun p hp => (hd _ (by omega)).trans (h.tot p hp), fun c hc => (hd _ (by omega)).trans (h.H c hc), fun i hi => (hd _ (by omega)).trans (h.K i hi), fun t ht => (hd _ (by omega)).trans (h.L t ht), fun t ht => (hd _ (by omega)).trans (h.E t ht), fun t ht => (hd _ (by omega)).trans (h.O t ht), fun i hi t ht hu => (hd _ ?_).trans (h.T i hi t ht hu)⟩
  have := hc t i
  omega
/-- a game, and a row that tells it -/
def GR (ps : PS) (g : GS) (d : Nat → Int32) : Prop := ∃ mx np hs hb tn pa f e n, Inv g mx np hs hb tn pa f e n ∧ Rel g d np f e n ∧ (g.1.1 8 = 0 → pa < np) ∧ ∃ q, pget ps g.2.1 = some q ∧ FR g.2.1 q.2.2.1 q.2.2.2 d
theorem GR.cg {ps : PS} {g g' : GS} {d d' : Nat → Int32} (h : GR ps g d) (q : gEq g' g) (hd : ∀ k, k < 1464 → d' k = d k) : GR ps g' d' := by
  obtain ⟨mx, np, hs, hb, tn, pa, f, e, n, h1, h2, h3, z, h4, h5⟩ := h
  have hcnt := h1.cnt
  refine ⟨mx, np, hs, hb, tn, pa, f, e, n, q.inv h1, (q.rel h1.np.2.2 h1.st.2.2.2 (by omega) h2).cg h1.np.2.2 h1.st.2.2.2 (by omega) hd, fun z => h3 (by rw [← q.S 8 (by omega)]; exact z), z, by rw [q.fo]; exact h4, ?_⟩
  rw [q.fo]
  exact h5.cg rfl hd
theorem GR.put {ps : PS} {g : GS} {d : Nat → Int32} {fo : Option Nat} {q : Nat × Nat × Nat × SA} {f : SA} (h : GR ps g d) (hq : pget ps fo = some q) (hf : f.2 0 = q.2.2.2.2 0) : GR (pput ps fo f) g d := by
  obtain ⟨mx, np, hs, hb, tn, pa, f0, e, n, h1, h2, h3, z, h4, h5⟩ := h
  refine ⟨mx, np, hs, hb, tn, pa, f0, e, n, h1, h2, h3, ?_⟩
  cases fo with
  | none => exact ⟨z, h4, h5⟩
  | some a =>
    cases hg : g.2.1 with
    | none =>
      rw [hg] at h4 h5
      exact ⟨z, h4, h5⟩
    | some b =>
      rw [hg] at h4 h5
      refine ⟨_, by rw [pget_put, h4]; rfl, ?_⟩
      by_cases hb : b = a
      · subst hb
        rw [h4] at hq
        cases hq
        show FR (some b) (if b = b then (q.1, q.2.1, q.2.2.1, f) else q).2.2.1 (if b = b then (q.1, q.2.1, q.2.2.1, f) else q).2.2.2 d
        rw [if_pos rfl]
        exact h5.cg hf (fun _ _ => rfl)
      · show FR (some b) (if b = a then (z.1, z.2.1, z.2.2.1, f) else z).2.2.1 (if b = a then (z.1, z.2.1, z.2.2.1, f) else z).2.2.2 d
        rw [if_neg hb]
        exact h5
theorem GR.app {ps qs : PS} {g : GS} {d : Nat → Int32} (h : GR ps g d) : GR (ps ++ qs) g d := by
  obtain ⟨mx, np, hs, hb, tn, pa, f0, e, n, h1, h2, h3, z, h4, h5⟩ := h
  refine ⟨mx, np, hs, hb, tn, pa, f0, e, n, h1, h2, h3, z, ?_, h5⟩
  cases hg : g.2.1 with
  | none => rw [hg] at h4; exact h4
  | some b => rw [hg] at h4; exact pget_app h4
/-- copies of rows -/
theorem x_copy {n0 n1 N : Nat} (h0 h1 : Nat → Int32) (ha : N ≤ n0) (hb : N ≤ n1) (hn : N < 2000000) (h0n : n0 < 2 ^ 31) (h1n : n1 < 2 ^ 31) : ∃ h', f_X8_copy n0 n1 h0 h1 (nI N) = some h' ∧ (∀ k, k < N → h' k = h0 k) ∧ ∀ k, N ≤ k → h' k = h1 k := by
  have h := lq2 (B := f_X8_copy_B2 n0 n1 h0 (nI N)) (v := fun (b : Nat → Int32) => b) N (fun k b => upd b k (h0 k)) (fun k b => (∀ j, j < k → b j = h0 j) ∧ ∀ j, k ≤ j → b j = h1 j) (fun b => some b) hn
    (fun rec b _ => by
      unfold f_X8_copy_B2
      rw [ie_le (by omega) (by omega), if_pos (Nat.le_refl _)])
    (fun rec k b hk hp => by
      unfold f_X8_copy_B2
      rw [ie_le (by omega) (by omega), if_neg (by omega), inb_t (by omega) h0n, gd_T, inb_t (by omega) h1n, gd_T, nmd_S, nI_clamp (by omega), nI_1]
      refine ⟨rfl, fun j hj => ?_, fun j hj => ?_⟩
      · by_cases hjk : j = k
        · rw [hjk, upd_s]
        · rw [upd_n hjk]; exact hp.1 j (by omega)
      · rw [upd_n (by omega)]; exact hp.2 j (by omega)) h1 ⟨fun j hj => absurd hj (Nat.not_lt_zero _), fun _ _ => rfl⟩
  exact ⟨_, h.1, h.2.1, h.2.2⟩
/-! the eight places in turn -/
def sl (v : Int32) : Nat := v.toBitVec.toNat % 8
theorem sl_lt (v : Int32) : sl v < 8 := Nat.mod_lt _ (by omega)
theorem and_7 (v : Int32) : v &&& 7 = nI (sl v) := by
  have h : v.toBitVec &&& 7#32 = BitVec.ofNat 32 (v.toBitVec.toNat % 8) := by
    apply BitVec.eq_of_toNat_eq
    rw [BitVec.toNat_and, show (7#32).toNat = 2 ^ 3 - 1 by decide, Nat.and_two_pow_sub_one_eq_mod, BitVec.toNat_ofNat, Nat.mod_eq_of_lt (show v.toBitVec.toNat % 8 < 2 ^ 32 by omega)]
  exact Int32.toBitVec_inj.mp h
theorem sl_add (v : Int32) : sl (v + 1) = (sl v + 1) % 8 := by
  unfold sl
  rw [Int32.toBitVec_add, BitVec.toNat_add, show (1 : Int32).toBitVec.toNat = 1 by decide]
  omega
theorem sl_sub (v : Int32) : sl (v - 1) = (sl v + 7) % 8 := by
  unfold sl
  rw [Int32.toBitVec_sub, BitVec.toNat_sub, show (1 : Int32).toBitVec.toNat = 1 by decide]
  omega
/-- u rows are remembered: the newest in the place of l -/
def HR (ps : PS) (P : Nat → GS) (R : Nat → Nat → Int32) (l : Int32) (u : Nat) : Prop := ∀ i, i < u → GR ps (P ((sl l + 9 + i - u) % 8)) (R (10 + i))
theorem HR.mono {ps ps' : PS} {P : Nat → GS} {R : Nat → Nat → Int32} {l : Int32} {u : Nat} (h : HR ps P R l u) (hp : ∀ g d, GR ps g d → GR ps' g d) : HR ps' P R l u := fun i hi => hp _ _ (h i hi)
theorem upG_s {f : Nat → GS} {k : Nat} {x : GS} : upG f k x k = x := if_pos rfl
theorem upG_n {f : Nat → GS} {k j : Nat} {x : GS} (h : ¬ j = k) : upG f k x j = f j := if_neg h
section H
variable {s : HS} {x : MS} {ps : PS} {u : Nat}
theorem s_remember (hg : GR ps s.2.1 (dd x)) (hu : u ≤ 8) (hs : s.1.1 1 = nI u) (hx : x.1.1 7 = nI u) (hH : HR ps s.2.2.2.1 x.1.2 (s.1.1 0) u) : ∃ s' x' u', f_X7_remember s = some s' ∧ f_X8_remember x = some x' ∧ u' ≤ 8 ∧ s'.1.1 1 = nI u' ∧ x'.1.1 7 = nI u' ∧ HR ps s'.2.2.2.1 x'.1.2 (s'.1.1 0) u' ∧ s'.1.2 = s.1.2 ∧ (∀ k, 2 ≤ k → s'.1.1 k = s.1.1 k) ∧ s'.2.1 = s.2.1 ∧ s'.2.2.1 = s.2.2.1 ∧ s'.2.2.2.2 = s.2.2.2.2 ∧ (∀ k, ¬ k = 7 → x'.1.1 k = x.1.1 k) ∧ (∀ k, k < 10 → x'.1.2 k = x.1.2 k) ∧ x'.2 = x.2 := by
  obtain ⟨mx, np, hs', hb, tn, pa, f, e, n, i1, i2, i3, z, i4, i5⟩ := hg
  have hg : GR ps s.2.1 (dd x) := ⟨mx, np, hs', hb, tn, pa, f, e, n, i1, i2, i3, z, i4, i5⟩
  have hL := sl_lt (s.1.1 0 + 1)
  have hL0 := sl_lt (s.1.1 0)
  have hadd := sl_add (s.1.1 0)
  obtain ⟨g', e1, q1⟩ := e_takeOver (g := s.2.2.2.1 (sl (s.1.1 0 + 1))) (go := s.2.1) i1.dr i1.ov
  have eC : f_X7_remember s = some ((ss (ss s.1 0 (s.1.1 0 + 1)) 1 (nI (min (u + 1) 8))), s.2.1, s.2.2.1, upG s.2.2.2.1 (sl (s.1.1 0 + 1)) g', s.2.2.2.2.1, s.2.2.2.2.2) := by
    unfold f_X7_remember
    rw [and_7, inb_t hL (by omega), gd_T, nI_clamp (by omega), nmd_S]
    show bd1 (f_X1_takeOver (s.2.2.2.1 (sl (s.1.1 0 + 1))) s.2.1) _ = _
    rw [e1, bd1_S, nmd_S]
    unfold f_X7_remember_J35
    show nmd (if 8 < s.1.1 1 + 1 then 8 else s.1.1 1 + 1) _ = _
    rw [hs, nI_1, i_8, ie_lt (by omega) (by omega), nmd_S]
    have : (if 8 < u + 1 then nI 8 else nI (u + 1)) = nI (min (u + 1) 8) := by
      split
      · rw [show min (u + 1) 8 = 8 by omega]
      · rw [show min (u + 1) 8 = u + 1 by omega]
    rw [this]
  -- the last step of the reference: the row is copied to place w
  have eJ : ∀ y : MS, ∀ w, w < 8 → y.1.1 7 = nI w → ∃ h', f_X8_remember_J53 y = some ((ss (sa y.1 (10 + w) h') 7 (nI (w + 1))), y.2) ∧ ∀ k, k < 1464 → h' k = y.1.2 1 k := fun y w hw hy => by
    obtain ⟨h', c1, c2, -⟩ := x_copy (n0 := 1464) (n1 := 1464) (N := 1464) (y.1.2 1) (y.1.2 (10 + w)) (by omega) (by omega) (by omega) (by omega) (by omega)
    refine ⟨h', ?_, c2⟩
    unfold f_X8_remember_J53
    rw [hy, inb_t hw (by omega), gd_T, nI_clamp (by omega), i_1464, c1, bd1_S, nmd_S]
    show some ((ss (sa y.1 (10 + w) h') 7 (y.1.1 7 + 1)), y.2) = _
    rw [hy, nI_1]
  have new : ∀ d' : Nat → Int32, (∀ k, k < 1464 → d' k = dd x k) → GR ps g' d' := fun d' hd => hg.cg q1 hd
  by_cases h8 : u = 8
  · subst h8
    have sh : ∃ y : MS, itr2 f_X8_remember_B11 FUEL 1 x = f_X8_remember_J53 ((ss y.1 7 (y.1.1 7 - 1)), y.2) ∧ y.1.1 = x.1.1 ∧ y.2 = x.2 ∧ (∀ k, k < 10 → y.1.2 k = x.1.2 k) ∧ ∀ i, i < 7 → ∀ k, k < 1464 → y.1.2 (10 + i) k = x.1.2 (11 + i) k := by
      refine lr2 (fun o => ∃ y : MS, o = f_X8_remember_J53 ((ss y.1 7 (y.1.1 7 - 1)), y.2) ∧ y.1.1 = x.1.1 ∧ y.2 = x.2 ∧ (∀ k, k < 10 → y.1.2 k = x.1.2 k) ∧ ∀ i, i < 7 → ∀ k, k < 1464 → y.1.2 (10 + i) k = x.1.2 (11 + i) k) (fun (m : Nat) (v : Int32) (y : MS) => ∃ j, v = nI j ∧ 1 ≤ j ∧ j + m = 8 ∧ y.1.1 = x.1.1 ∧ y.2 = x.2 ∧ (∀ k, k < 10 → y.1.2 k = x.1.2 k) ∧ (∀ i, i + 1 < j → ∀ k, k < 1464 → y.1.2 (10 + i) k = x.1.2 (11 + i) k) ∧ ∀ i, j ≤ i + 1 → y.1.2 (10 + i) = x.1.2 (10 + i)) ?_ FUEL 7 1 x (FUEL_lt (by omega)) ⟨1, rfl, by omega, by omega, rfl, rfl, fun _ _ => rfl, fun i hi => by omega, fun _ _ => rfl⟩
      rintro rec m v y ⟨j, rfl, hj1, hj, y1, y2, y3, y4, y5⟩ ih
      unfold f_X8_remember_B11
      rw [i_8, ie_le (by omega) (by omega)]
      by_cases hj8 : 8 ≤ j
      · rw [if_pos hj8]
        exact ⟨y, rfl, y1, y2, y3, fun i hi => y4 i (by omega)⟩
      · rw [if_neg hj8, i_1, nI_sub (by omega), inb_t (by omega) (by omega), gd_T, inb_t (by omega) (by omega), gd_T, nI_clamp (by omega), nI_clamp (by omega), show decide (¬ 10 + j = 10 + (j - 1)) = true from decide_eq_true (by omega), gd_T, i_1464]
        obtain ⟨h', c1, c2, -⟩ := x_copy (n0 := 1464) (n1 := 1464) (N := 1464) (y.1.2 (10 + j)) (y.1.2 (10 + (j - 1))) (by omega) (by omega) (by omega) (by omega) (by omega)
        rw [c1, bd1_S, nmd_S, nI_add]
        refine ih (m - 1) _ _ (by omega) ⟨j + 1, rfl, by omega, by omega, y1, y2, fun k hk => ?_, fun i hi k hk => ?_, fun i hi => ?_⟩
        · show upA y.1.2 (10 + (j - 1)) h' k = _
          rw [upA_n (by omega)]; exact y3 k hk
        · show upA y.1.2 (10 + (j - 1)) h' (10 + i) k = _
          by_cases hij : i + 1 = j
          · rw [show 10 + i = 10 + (j - 1) by omega, upA_s, c2 k hk, y5 j (by omega), show 10 + j = 11 + i by omega]
          · rw [upA_n (by omega)]; exact y4 i (by omega) k hk
        · show upA y.1.2 (10 + (j - 1)) h' (10 + i) = _
          rw [upA_n (by omega)]; exact y5 i (by omega)
    obtain ⟨y, y0, y1, y2, y3, y4⟩ := sh
    obtain ⟨h', c1, c2⟩ := eJ ((ss y.1 7 (y.1.1 7 - 1)), y.2) 7 (by omega) (by
      show y.1.1 7 - 1 = nI 7
      rw [y1, hx]; decide)
    have eM : f_X8_remember x = some ((ss (sa ((ss y.1 7 (y.1.1 7 - 1)), y.2).1 (10 + 7) h') 7 (nI (7 + 1))), y.2) := by
      unfold f_X8_remember
      rw [hx, if_pos (show nI 8 = 8 from rfl), y0, c1]
    refine ⟨_, _, 8, eC, eM, by omega, rfl, rfl, ?_, rfl, fun k hk => ?_, rfl, rfl, rfl, fun k hk => ?_, fun k hk => ?_, y2⟩
    · intro i hi
      show GR ps (upG s.2.2.2.1 (sl (s.1.1 0 + 1)) g' ((sl (s.1.1 0 + 1) + 9 + i - 8) % 8)) (upA y.1.2 17 h' (10 + i))
      by_cases hi7 : i = 7
      · subst hi7
        rw [show (sl (s.1.1 0 + 1) + 9 + 7 - 8) % 8 = sl (s.1.1 0 + 1) by omega, upG_s, upA_s]
        exact new _ (fun k hk => (c2 k hk).trans (congrFun (y3 1 (by omega)) k))
      · rw [upG_n (by omega), upA_n (by omega), show (sl (s.1.1 0 + 1) + 9 + i - 8) % 8 = (sl (s.1.1 0) + 9 + (i + 1) - 8) % 8 by omega]
        obtain ⟨a1, a2, a3, a4, a5, a6, a7, a8, a9, b1, b2, b3, zz, b4, b5⟩ := hH (i + 1) (by omega)
        exact (hH (i + 1) (by omega)).cg ⟨fun _ _ => rfl, rfl, fun _ _ => rfl, fun _ _ => rfl, rfl, rfl, fun _ _ => rfl, rfl, fun _ _ => rfl, fun _ _ => rfl, fun _ _ => rfl, fun _ _ => rfl⟩ (fun k hk => by rw [y4 i (by omega) k hk, show 11 + i = 10 + (i + 1) by omega])
    · show upd (upd s.1.1 0 _) 1 _ k = _
      rw [upd_n (by omega), upd_n (by omega)]
    · show upd (upd y.1.1 7 _) 7 _ k = _
      rw [upd_n hk, upd_n hk, y1]
    · show upA y.1.2 17 h' k = _
      rw [upA_n (by omega)]; exact y3 k hk
  · obtain ⟨h', c1, c2⟩ := eJ x u (by omega) hx
    have eM : f_X8_remember x = some ((ss (sa x.1 (10 + u) h') 7 (nI (u + 1))), x.2) := by
      unfold f_X8_remember
      rw [hx, if_neg (show ¬ nI u = 8 from fun q => h8 ((nI_eq (b := 8) (by omega) (by omega)).mp q)), c1]
    refine ⟨_, _, u + 1, eC, eM, by omega, ?_, rfl, ?_, rfl, fun k hk => ?_, rfl, rfl, rfl, fun k hk => ?_, fun k hk => ?_, rfl⟩
    · show nI (min (u + 1) 8) = _
      rw [show min (u + 1) 8 = u + 1 by omega]
    · intro i hi
      show GR ps (upG s.2.2.2.1 (sl (s.1.1 0 + 1)) g' ((sl (s.1.1 0 + 1) + 9 + i - (u + 1)) % 8)) (upA x.1.2 (10 + u) h' (10 + i))
      by_cases hiu : i = u
      · subst hiu
        rw [show (sl (s.1.1 0 + 1) + 9 + i - (i + 1)) % 8 = sl (s.1.1 0 + 1) by omega, upG_s, upA_s]
        exact new _ c2
      · rw [upG_n (by omega), upA_n (by omega), show (sl (s.1.1 0 + 1) + 9 + i - (u + 1)) % 8 = (sl (s.1.1 0) + 9 + i - u) % 8 by omega]
        exact hH i (by omega)
    · show upd (upd s.1.1 0 _) 1 _ k = _
      rw [upd_n (by omega), upd_n (by omega)]
    · show upd x.1.1 7 _ k = _
      rw [upd_n hk]
    · show upA x.1.2 (10 + u) h' k = _
      rw [upA_n (by omega)]
theorem s_undo (hu : u ≤ 8) (hs : s.1.1 1 = nI u) (hx : x.1.1 7 = nI u) (hH : HR ps s.2.2.2.1 x.1.2 (s.1.1 0) u) (hg : GR ps s.2.1 (dd x)) : ∃ r s' x' u', f_X7_undo s = some (r, s') ∧ f_X8_undo x = some (r, x') ∧ u' ≤ 8 ∧ s'.1.1 1 = nI u' ∧ x'.1.1 7 = nI u' ∧ HR ps s'.2.2.2.1 x'.1.2 (s'.1.1 0) u' ∧ GR ps s'.2.1 (dd x') ∧ s'.2.2 = s.2.2 ∧ x'.1.1 0 = 0 ∧ (∀ k, ¬ k = 0 → ¬ k = 7 → x'.1.1 k = x.1.1 k) ∧ (∀ k, ¬ k = 1 → x'.1.2 k = x.1.2 k) ∧ x'.2 = x.2 := by
  unfold f_X7_undo f_X8_undo
  rw [hs, hx, ie_eq0 (by omega), ie_eq0 (by omega)]
  by_cases h0 : u = 0
  · subst h0
    rw [if_pos rfl, if_pos rfl]
    exact ⟨_, _, _, 0, rfl, rfl, by omega, hs, hx, hH, hg, rfl, rfl, fun k hk _ => upd_n hk, fun _ _ => rfl, rfl⟩
  · have hL0 := sl_lt (s.1.1 0)
    have hsub := sl_sub (s.1.1 0)
    have h1 := hH (u - 1) (by omega)
    rw [show (sl (s.1.1 0) + 9 + (u - 1) - u) % 8 = sl (s.1.1 0) by omega] at h1
    obtain ⟨mx, np, hs', hb, tn, pa, f, e, n, i1, i2, i3, z, i4, i5⟩ := h1
    have h1 : GR ps (s.2.2.2.1 (sl (s.1.1 0))) (x.1.2 (10 + (u - 1))) := ⟨mx, np, hs', hb, tn, pa, f, e, n, i1, i2, i3, z, i4, i5⟩
    obtain ⟨g', e1, q1⟩ := e_takeOver (g := s.2.1) (go := s.2.2.2.1 (sl (s.1.1 0))) i1.dr i1.ov
    obtain ⟨h', c1, c2, -⟩ := x_copy (n0 := 1464) (n1 := 1464) (N := 1464) (x.1.2 (10 + (u - 1))) (x.1.2 1) (by omega) (by omega) (by omega) (by omega) (by omega)
    rw [if_neg h0, if_neg h0, and_7, inb_t hL0 (by omega), gd_T, nI_clamp (by omega), nmd_S, e1, bd1_S, nmd_S, i_1, nI_sub (by omega), inb_t (by omega) (by omega), gd_T, nI_clamp (by omega), i_1464]
    unfold f_X7_undo_J34
    rw [show ((ss (ss x.1 0 0) 7 (nI (u - 1))), x.2).1.2 = x.1.2 from rfl, c1, bd1_S, nmd_S]
    refine ⟨nI (u - 1), ((ss (ss s.1 0 (s.1.1 0 - 1)) 1 (nI (u - 1))), g', s.2.2), _, u - 1, ?_, rfl, by omega, ?_, rfl, ?_, h1.cg q1 c2, rfl, rfl, fun k hk hk2 => ?_, fun k hk => upA_n hk, rfl⟩
    · have e9 : s.1.1 1 - 1 = nI (u - 1) := by rw [hs, show (1 : Int32) = nI 1 from rfl, nI_sub (by omega)]
      show some (s.1.1 1 - 1, ((ss (ss s.1 0 (s.1.1 0 - 1)) 1 (s.1.1 1 - 1)), g', s.2.2)) = _
      rw [e9]
    · rfl
    · intro i hi
      show GR ps (s.2.2.2.1 ((sl (s.1.1 0 - 1) + 9 + i - (u - 1)) % 8)) (upA x.1.2 1 h' (10 + i))
      rw [upA_n (by omega), show (sl (s.1.1 0 - 1) + 9 + i - (u - 1)) % 8 = (sl (s.1.1 0) + 9 + i - u) % 8 by omega]
      exact hH i (by omega)
    · show upd (upd x.1.1 0 0) 7 _ k = _
      rw [upd_n hk2, upd_n hk]
end H
