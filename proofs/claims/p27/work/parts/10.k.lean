/-! a deal, all of it -/
section RTK
variable {g : GS} {T : TT} {mx np hs hb : Nat}
theorem opn_get {np t : Nat} (ht : t ≤ np) : (List.replicate np (0 : Int32) ++ [1]).getD t 0 = if t = np then 1 else 0 := by
  rw [List.getD_eq_getElem?_getD, List.getElem?_append]
  by_cases h : t < np
  · rw [if_pos (by rw [List.length_replicate]; exact h), if_neg (by omega), List.getElem?_replicate, if_pos h]; rfl
  · have : t = np := by omega
    subst this
    rw [if_neg (by rw [List.length_replicate]; omega), if_pos rfl, List.length_replicate, Nat.sub_self]; rfl
theorem emp_get {np t : Nat} : (List.replicate (np + 1) ([] : List Nat)).getD t [] = [] := by
  rw [List.getD_eq_getElem?_getD, List.getElem?_replicate]
  split <;> rfl
theorem nd_of {l : List Nat} (h : l.Nodup) : ND l := by
  intro i j hi hj e
  rw [List.getD_eq_getElem?_getD, List.getD_eq_getElem?_getD, List.getElem?_eq_getElem hi, List.getElem?_eq_getElem hj] at e
  have e : l[i] = l[j] := e
  exact (List.getElem_inj h).mp e
theorem of_nd {l : List Nat} (h : ND l) : l.Nodup := by
  rw [List.nodup_iff_pairwise_ne, List.pairwise_iff_getElem]
  intro i j hi hj hij e
  have := h i j hi hj (by
    rw [List.getD_eq_getElem?_getD, List.getD_eq_getElem?_getD, List.getElem?_eq_getElem hi, List.getElem?_eq_getElem hj, e])
  omega
theorem getD_drop {l : List Nat} {f i : Nat} : (l.drop f).getD i 0 = l.getD (f + i) 0 := by
  rw [List.getD_eq_getElem?_getD, List.getElem?_drop, ← List.getD_eq_getElem?_getD]
theorem drop_skL {B : Nat → Int32} {D : List Nat} {f : Nat} (hA : AL B D) (hD : ∀ k, k < D.length → D.getD k 0 < 100) (hf : f ≤ D.length) : D.drop f = skL B f (D.length - f) := by
  refine List.ext_getElem (by rw [List.length_drop, skL_len]) fun i h1 h2 => ?_
  rw [List.length_drop] at h1
  have e1 : (D.drop f)[i]'(by rw [List.length_drop]; exact h1) = D.getD (f + i) 0 := by
    rw [← getD_drop, List.getD_eq_getElem?_getD, List.getElem?_eq_getElem (by rw [List.length_drop]; exact h1)]; rfl
  have e2 : (skL B f (D.length - f))[i]'h2 = (B (f + i)).toNatClampNeg := by
    rw [← skL_get (B := B) (f := f) h1, List.getD_eq_getElem?_getD, List.getElem?_eq_getElem h2]; rfl
  rw [e1, e2, hA _ (by omega), nI_clamp (by have := hD (f + i) (by omega); omega)]
theorem PT.begin {g1 gg : GS} {D : List Nat} {Hs : List (List Nat)} {f : Nat} {S : Nat → Int32} {M : Option TM} (h : DL g1 gg D Hs mx np hs hb f) (h1 : g1.1.1 0 = nI mx ∧ 3 ≤ mx ∧ mx ≤ 9) (h2 : g1.1.1 1 = nI np ∧ 2 ≤ np ∧ np ≤ 4) (h3 : g1.1.1 2 = nI hs ∧ 1 ≤ hs ∧ hs ≤ 12) (h4 : g1.1.1 3 = nI hb ∧ hb ≤ mx)
    (hS : S 0 = nI mx ∧ S 1 = nI hs ∧ S 2 = nI hb ∧ S 3 = g1.1.1 4 ∧ S 8 = g1.1.1 9) {L : List Int32} (hL : L.length = np ∧ ∀ p, p < np → L.getD p 0 = g1.1.2 1 p) : ∃ g', (bd1 (f_X6_begin gg.2.2.2 (gg.1.1 3)) fun (t89 : SA) => some (((ss (ss (ss (ss (ss gg.1 5 0) 6 0) 7 (-1)) 8 0) 10 0), (gg.2.1), gg.2.2.1, t89))) = some g' ∧ Inv g' mx np hs hb 0 0 f D.length 0 ∧ RT g' (dlE (S, Hs, L, [], [], D.drop f, M) np) np hb f D.length 0 ∧ g'.2.1 = g1.2.1 ∧ g'.1.1 8 = 0 := by
  obtain ⟨⟨q1, q2, q3, q4⟩, d2, d3, d4, d5, d6, d7, d8, d9, d10⟩ := h
  obtain ⟨E1, e1, hE1⟩ := e_fill (n := 5) (h0 := gg.2.2.2.2 2) (v := gg.1.1 3) (by omega)
  obtain ⟨O1, e2, hO1⟩ := e_fill (n := 5) (h0 := gg.2.2.2.2 3) (v := 0) (by omega)
  unfold f_X6_begin
  rw [e1, bd1_S, e2, bd1_S, bd1_S]
  have hb3 : gg.1.1 3 = nI hb := by rw [q1]; exact h4.1
  refine ⟨_, rfl, ?_, ?_, q3, rfl⟩
  · refine ⟨?_, ?_, ?_, ?_, ⟨rfl, by omega⟩, Or.inl rfl, Or.inl rfl, Or.inl rfl, ⟨rfl, by omega⟩, d9, d4, fun i hi => ?_, rfl, fun i hi => absurd hi (Nat.not_lt_zero _), fun t ht => ⟨hb, by omega, ?_⟩, fun t ht => Or.inl ?_, ?_⟩
    · exact ⟨(congrFun q1 0).trans h1.1, h1.2⟩
    · exact ⟨(congrFun q1 1).trans h2.1, h2.2⟩
    · exact ⟨(congrFun q1 2).trans h3.1, h3.2⟩
    · exact ⟨(congrFun q1 3).trans h4.1, h4.2⟩
    · exact ⟨D.getD i 0, (d7 i hi).1, d5 i hi, (d7 i hi).2⟩
    · show E1 t = nI hb
      rw [hE1 t (by omega), hb3]
    · exact hO1 t (by omega)
    · show hT (gg.1.2 0) + (D.length - f) + 0 ≤ 54
      omega
  · refine ⟨⟨?_, ?_, ?_, ?_, rfl, rfl, rfl, rfl, ?_, rfl⟩, ⟨d2, hL.1, ?_, ?_⟩, d3, ?_, ?_, ?_, ?_, ?_, ?_, ?_⟩
    · exact hS.1.trans ((congrFun q1 0).trans h1.1).symm
    · exact hS.2.1.trans ((congrFun q1 2).trans h3.1).symm
    · exact hS.2.2.1.trans ((congrFun q1 3).trans h4.1).symm
    · exact hS.2.2.2.1.trans (congrFun q1 4).symm
    · exact hS.2.2.2.2.trans (congrFun q1 9).symm
    · show (List.replicate (np + 1) ([] : List Nat)).length = _
      rw [List.length_replicate]
    · show (List.replicate np (0 : Int32) ++ [1]).length = _
      rw [List.length_append, List.length_replicate]; rfl
    · intro p hp
      show L.getD p 0 = gg.1.2 1 p
      rw [q2]; exact hL.2 p hp
    · intro t ht
      show (List.replicate (np + 1) ([] : List Nat)).getD t [] = []
      exact emp_get
    · intro t ht
      show E1 t = nI (endT hb ((List.replicate (np + 1) ([] : List Nat)).getD t []))
      rw [emp_get, hE1 t (by omega), hb3]; rfl
    · intro t ht
      show (List.replicate np (0 : Int32) ++ [1]).getD t 0 = if t = np ∨ O1 t = 1 then 1 else 0
      rw [opn_get ht, hO1 t (by omega)]
      by_cases z : t = np
      · rw [if_pos z, if_pos (Or.inl z)]
      · have : ¬ (t = np ∨ (0 : Int32) = 1) := fun y => y.elim z (fun y => absurd y (by decide))
        rw [if_neg z, if_neg this]
    · exact drop_skL d5 (fun k hk => (d7 k hk).1) d4.2.2.1
    · exact (of_nd d6).sublist (List.drop_sublist _ _)
    · intro x hx
      have hx : x ∈ D.drop f := hx
      obtain ⟨i, hi⟩ := List.getElem?_of_mem hx
      have hi2 := (List.getElem?_eq_some_iff.mp hi).1
      have hx2 : x = D.getD (f + i) 0 := by rw [← getD_drop, List.getD_eq_getElem?_getD, hi]; rfl
      rw [List.length_drop] at hi2
      show gg.1.2 0 x = -1
      rw [hx2]
      exact d8 (f + i) (by omega) (by omega)
theorem PT.deal (r : PT g T mx np hs hb) : ∃ g' f e, f_X1_dealRound g = some g' ∧ Inv g' mx np hs hb 0 0 f e 0 ∧ RT g' (dealT T mx hs hb np) np hb f e 0 ∧ g'.2.1 = g.2.1 ∧ g'.1.1 8 = 0 := by
  have hinh := r.inh
  have hcnt := r.cnt
  obtain ⟨h1, h2, h3, h4, h5, h6, h7, h8, h9⟩ := r
  have hD := dk_eq (mx := mx) (hb := hb) hinh h1.2.2
  have hl100 := fl_len mx hb (g.1.2 0) 100
  unfold f_X1_dealRound f_X4_clear dealT
  rw [bd1_S, hD]
  dsimp only
  refine lr2 (B := f_X1_dealRound_B9) (fun o => ∃ g' f e, o = some g' ∧ Inv g' mx np hs hb 0 0 f e 0 ∧ RT g' (dlE (sK (sH (sS T 3 (shf ((fl mx hb (g.1.2 0) 100).length - 1) (fl mx hb (g.1.2 0) 100) (T.1 3)).2) (flT hs (shf ((fl mx hb (g.1.2 0) 100).length - 1) (fl mx hb (g.1.2 0) 100) (T.1 3)).1 (tH T) np).1) ((shf ((fl mx hb (g.1.2 0) 100).length - 1) (fl mx hb (g.1.2 0) 100) (T.1 3)).1.drop (flT hs (shf ((fl mx hb (g.1.2 0) 100).length - 1) (fl mx hb (g.1.2 0) 100) (T.1 3)).1 (tH T) np).2)) np) np hb f e 0 ∧ g'.2.1 = g.2.1 ∧ g'.1.1 8 = 0)
    (fun (m : Nat) (v : Int32) (gg : GS) => ∃ c K, v = nI c ∧ c + m = 100 ∧ gg = (g.1, g.2.1, K, g.2.2.2) ∧ K.1 0 = 0 ∧ K.1 1 = nI (fl mx hb (g.1.2 0) c).length ∧ AL (K.2 0) (fl mx hb (g.1.2 0) c)) ?_ FUEL 100 _ _ (FUEL_lt (by omega)) ⟨0, _, rfl, rfl, rfl, rfl, rfl, fun i hi => absurd hi (Nat.not_lt_zero _)⟩
  rintro rec m v gg ⟨c, K, rfl, hm, rfl, k0, k1, kA⟩ ih
  unfold f_X1_dealRound_B9
  rw [i_100, ie_le (by omega) (by omega)]
  by_cases hc : 100 ≤ c
  · have : c = 100 := by omega
    subst this
    rw [if_pos (Nat.le_refl _)]
    generalize hfl : fl mx hb (g.1.2 0) 100 = D at k1 kA hl100 ⊢
    have hDm : ∀ k, k < D.length → D.getD k 0 < 100 ∧ inS mx (D.getD k 0) ∧ g.1.2 0 (D.getD k 0) = -1 := fun k hk => by
      have hm : D.getD k 0 ∈ D := getD_mem hk
      rw [← hfl] at hm
      have := fl_mem.mp hm
      rw [hfl] at this
      exact ⟨this.1, this.2.1, this.2.2.1⟩
    have hND : ND D := by rw [← hfl]; exact nd_of (fl_nd _ _ _ _)
    obtain ⟨K', a1, a2, a3, a4, a5, a6⟩ := e_mix (K := K) (s := g.1.1 4) (P := fun x => x < 100 ∧ inS mx x ∧ g.1.2 0 x = -1) k1 (by omega) kA hND hDm
    rw [show (g.1, g.2.1, K, g.2.2.2).2.2.1 = K from rfl, show (g.1, g.2.1, K, g.2.2.2).1.1 4 = g.1.1 4 from rfl, a1, bd2_S, h5.2.2.2.1]
    generalize hsh : shf (D.length - 1) D (g.1.1 4) = sh at a1 a3 a4 a5 a6 ⊢
    let g1 : GS := ((ss g.1 4 sh.2), g.2.1, K', g.2.2.2)
    have hd : DL g1 g1 sh.1 (tH T) mx np hs hb 0 := by
      refine ⟨⟨rfl, rfl, rfl, rfl⟩, h6.1, h7, ⟨?_, ?_, Nat.zero_le _, by omega⟩, a3, a5, fun k hk => ?_, fun k _ hk => ?_, fun c hc => (h9 c hc).imp id fun z => ⟨z.1, z.2.1⟩, ?_⟩
      · show K'.1 0 = 0; rw [a2]; exact k0
      · show K'.1 1 = nI sh.1.length; rw [a2, a4]; exact k1
      · have := a6 k (by omega); exact ⟨this.1, this.2.1⟩
      · exact (a6 k (by omega)).2.2
      · show hT (g.1.2 0) + (sh.1.length - 0) ≤ 54
        omega
    obtain ⟨g2, b1, b2⟩ := hd.hands h2.2.2 h2.1 h3.1 h3.2.2 (fun gg => bd1 (f_X6_begin gg.2.2.2 (gg.1.1 3)) fun (t89 : SA) => some (((ss (ss (ss (ss (ss gg.1 5 0) 6 0) 7 (-1)) 8 0) 10 0), (gg.2.1), gg.2.2.1, t89))) (fun rec gg hg => by
      unfold f_X1_dealRound_B62
      rw [hg, show g1.1.1 1 = nI np from h2.1, if_pos (Int32.le_refl _)])
    obtain ⟨g3, c1, c2, c3, c4, c5⟩ := PT.begin (g1 := g1) (S := upd T.1 3 sh.2) (M := tM T) (L := tT T) b2 h1 h2 h3 h4 ⟨h5.1, h5.2.1, h5.2.2.1, rfl, h5.2.2.2.2⟩ ⟨h6.2, h8⟩
    refine ⟨g3, _, _, b1.trans c1, c2, ?_, c4, c5⟩
    exact c3
  · have eI := e_inSet (g := (g.1, g.2.1, K, g.2.2.2)) (c := c) h1.1 h1.2.2 (by omega)
    have eF := e_free (g := (g.1, g.2.1, K, g.2.2.2)) (c := c) h4.1 (by omega) (by omega)
    rw [if_neg hc, eI, bd1_S, nI_1]
    have skip : fr mx hb (g.1.2 0) c = false → _ := fun z => ih (m - 1) (nI (c + 1)) (g.1, g.2.1, K, g.2.2.2) (by omega) ⟨c + 1, K, rfl, by omega, rfl, k0, by rw [fl_s, z, if_neg (by decide)]; exact k1, by rw [fl_s, z, if_neg (by decide)]; exact kA⟩
    by_cases q2 : c / 10 ≤ c % 10 ∧ c % 10 ≤ mx
    · rw [if_pos q2, if_neg (show ¬ (1 : Int32) = 0 by decide), eF, bd1_S]
      by_cases q3 : g.1.2 0 c = -1 ∧ ¬ c = 11 * hb
      · have e0 : (if g.1.2 0 c = -1 ∧ ¬ c = 11 * hb then (1 : Int32) else 0) = 1 := if_pos q3
        have hfr : fr mx hb (g.1.2 0) c = true := decide_eq_true ⟨q2, q3.1, q3.2⟩
        have hls := fl_len mx hb (g.1.2 0) c
        have hl1 := fl_len mx hb (g.1.2 0) (c + 1)
        have hle : cn (fr mx hb (g.1.2 0)) 0 (c + 1) ≤ cn (fr mx hb (g.1.2 0)) 0 100 := by
          have : ∀ j a, cn (fr mx hb (g.1.2 0)) 0 a ≤ cn (fr mx hb (g.1.2 0)) 0 (a + j) := by
            intro j
            induction j with
            | zero => intro a; exact Nat.le_refl _
            | succ j ihj => intro a; rw [show a + (j + 1) = a + j + 1 by omega, cn_snoc]; have := ihj a; omega
          have h3 := this (100 - (c + 1)) (c + 1)
          rw [show c + 1 + (100 - (c + 1)) = 100 by omega] at h3
          exact h3
        have efl : fl mx hb (g.1.2 0) (c + 1) = fl mx hb (g.1.2 0) c ++ [c] := by rw [fl_s, if_pos hfr]
        have hlen : (fl mx hb (g.1.2 0) (c + 1)).length = (fl mx hb (g.1.2 0) c).length + 1 := by rw [efl, List.length_append]; rfl
        have e0' : ¬ (if (g.1, g.2.1, K, g.2.2.2).1.2 0 c = -1 ∧ ¬ c = 11 * hb then (1 : Int32) else 0) = 0 := by
          rw [show (if (g.1, g.2.1, K, g.2.2.2).1.2 0 c = -1 ∧ ¬ c = 11 * hb then (1 : Int32) else 0) = 1 from e0]; decide
        rw [if_neg e0']
        unfold f_X4_add
        rw [show (g.1, g.2.1, K, g.2.2.2).2.2.1 = K from rfl, k1, i_55, ie_le (by omega) (by omega), if_neg (by omega), e_put (by omega) (by omega), bd1_S, bd1_S, nI_1]
        refine ih (m - 1) _ _ (by omega) ⟨c + 1, _, rfl, by omega, rfl, k0, ?_, ?_⟩
        · rw [hlen]; rfl
        · rw [efl]
          intro i hi
          rw [List.length_append] at hi
          have hi : i < (fl mx hb (g.1.2 0) c).length + 1 := hi
          show upd (K.2 0) (fl mx hb (g.1.2 0) c).length (nI c) i = _
          by_cases z : i = (fl mx hb (g.1.2 0) c).length
          · rw [z, upd_s, List.getD_eq_getElem?_getD, List.getElem?_append_right (Nat.le_refl _), Nat.sub_self]; rfl
          · rw [upd_n z, kA i (by omega), List.getD_eq_getElem?_getD, List.getD_eq_getElem?_getD, List.getElem?_append_left (by omega)]
      · have e0' : (if (g.1, g.2.1, K, g.2.2.2).1.2 0 c = -1 ∧ ¬ c = 11 * hb then (1 : Int32) else 0) = 0 := if_neg q3
        rw [if_pos e0']
        exact skip (decide_eq_false fun z => q3 z.2)
    · rw [if_neg q2, if_pos rfl]
      exact skip (decide_eq_false fun z => q2 z.1)
end RTK
