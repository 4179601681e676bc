/-! the give loop of a random table -/
theorem gvsOK_app {mx np hs hb : Nat} {g : Nat × Nat × Nat} : ∀ (gs : List (Nat × Nat × Nat)) (Hs : List (List Nat)), gvsOK mx np hs hb Hs gs → gvOK mx np hs hb (gvsH Hs gs) g → gvsOK mx np hs hb Hs (gs ++ [g])
  | [], _, _, o => ⟨o, trivial⟩
  | _ :: gs, _, ok, o => ⟨ok.1, gvsOK_app gs _ ok.2 o⟩
theorem gvsX_app {g : Nat × Nat × Nat} : ∀ (gs : List (Nat × Nat × Nat)), gvsX (gs ++ [g]) = gvsX gs ++ gvX g
  | [] => by show gvX g ++ [] = [] ++ gvX g; simp
  | a :: gs => by
    show gvX a ++ gvsX (gs ++ [g]) = gvX a ++ gvsX gs ++ gvX g
    rw [gvsX_app gs, List.append_assoc]
theorem gvsH_app {g : Nat × Nat × Nat} {gs : List (Nat × Nat × Nat)} {Hs : List (List Nat)} : gvsH Hs (gs ++ [g]) = gvH (gvsH Hs gs) g := by
  unfold gvsH
  rw [List.foldl_append]
  rfl
theorem gvsH_len {mx np hs hb : Nat} : ∀ (gs : List (Nat × Nat × Nat)) (Hs : List (List Nat)), gvsOK mx np hs hb Hs gs → (∀ p, (Hs.getD p []).length ≤ hs) → Hs.length = np → ∀ p, ((gvsH Hs gs).getD p []).length ≤ hs
  | [], _, _, h, _ => h
  | g :: gs, Hs, ok, h, hl => by
    obtain ⟨⟨o1, o2, o3, o4, o5, o6⟩, ok2⟩ := ok
    refine gvsH_len gs (gvH Hs g) ok2 (fun p => ?_) (by unfold gvH; rw [List.length_set]; exact hl)
    show ((Hs.set g.1 (Hs.getD g.1 [] ++ [gvC g])).getD p []).length ≤ hs
    rw [hnd_set (by omega)]
    split
    · rw [List.length_append]; show _ + 1 ≤ hs; omega
    · exact h p
section RT2
variable {c : Nat → ClassId} {K : (Nat → Nat) × (Nat → Nat)} {h0 h : HW} {ah : Nat → Nat} {ag : Nat → Nat → Nat} {ar : Nat → Nat} {ps : PS} {s0 : HS} {u a2 : Nat} {Own O : Nat → Prop} {A : Nat → Nat} {T T00 : TT} {fv : Nat → Int64} {tx : List Nat} {sd : Int32} {B : Nat → TT} {mx np hs mx0 np0 : Nat} {oh os : Option Nat} {gs : List (Nat × Nat × Nat)} {om : Option TM} {post : Option Nat → HW → Prop}
theorem PD.give {g : Nat × Nat × Nat} (p : PD T mx np hs oh os gs none) : PD (sH T ((tH T).set g.1 (hnd T g.1 ++ [gvC g]))) mx np hs oh os (gs ++ [g]) none := by
  obtain ⟨pn, pH, pT, pR, pO, pM⟩ := p
  refine ⟨pn, ?_, pT, pR, pO, pM⟩
  show (tH T).set g.1 ((tH T).getD g.1 [] ++ [gvC g]) = _
  rw [pH, gvsH_app]
  rfl
theorem RG.give {g : Nat × Nat × Nat} (r : RG mx np hs oh os gs) (h3 : gs.length < 3) (o : gvOK mx np hs (oh.getD mx) (gvsH (List.replicate np []) gs) g) : RG mx np hs oh os (gs ++ [g]) := by
  obtain ⟨r1, r2, r3, r4, r5, r6, r7⟩ := r
  exact ⟨r1, r2, r3, r4, r5, gvsOK_app gs _ r6 o, by rw [List.length_append]; show _ + 1 ≤ 3; omega⟩
theorem rt_311 {rec : HW → Nat → Nat → Int32 → Prop} {mc ms j p a b : Nat} {st : Int32} (x : GR c K h0 h ah ag ar ps s0 u a2 Own O A T fv (preX mx np hs oh os gs) sd) (pd : PD T mx np hs oh os gs none) (rg : RG mx np hs oh os gs) (hg3 : gs.length < 3) (hp : p < np) (ha : a ≤ mx) (hb : b ≤ mx) (h01 : st = 0 ∨ st = 1) (hst : st = 0 → ¬ gvC (p, a, b) = 11 * oh.getD mx ∧ ¬ (hnd T p).length = hs) (hc : 2 ≤ mc) (hs9 : 20 ≤ ms)
    (hrec : ∀ (h' : HW) (T' : TT) (gs' : List (Nat × Nat × Nat)) (m' s' : Nat), GR c K h0 h' ah ag ar ps s0 u a2 Own O A T' fv (preX mx np hs oh os gs') sd → PD T' mx np hs oh os gs' none → RG mx np hs oh os gs' → gs'.length ≤ gs.length + 1 → mc ≤ m' + 2 → ms ≤ s' + 20 → rec h' m' s' (nI j)) : w_L_randomTable_J311 c K (ah 0) u (A 0) rec (nI (j + 1)) (nI p) (nI a) (nI b) h (nI (gvC (p, a, b))) mc ms st := by
  have hpl := preX_len rg
  obtain ⟨r1, r2, r3, r4, r5, r6, r7⟩ := id rg
  obtain ⟨H1, H2⟩ := gvs_hands (by omega) (by omega) r6
  have hk : ∀ q, (∀ x ∈ hnd T q, x < 100) ∧ (hnd T q).length ≤ 55 := fun q => by show (∀ x ∈ (tH T).getD q [], x < 100) ∧ ((tH T).getD q []).length ≤ 55; rw [pd.2.1]; exact H1 q
  have hnp : (tH T).length = np := by rw [pd.2.1]; exact H2
  have hlen : ∀ q, q < np → (hnd T q).length ≤ hs := by
    intro q _
    show ((tH T).getD q []).length ≤ hs
    rw [pd.2.1]
    exact gvsH_len gs _ r6 (fun q => by rw [rep_nil]; exact Nat.zero_le _) List.length_replicate q
  have hcd : gvC (p, a, b) < 100 := (gv_in (g := (p, a, b)) (by omega) ha hb).1
  generalize hcc : gvC (p, a, b) = cd at hcd hst ⊢
  have goon : ∀ m' s', mc ≤ m' → ms ≤ s' → w_L_randomTable_J427 c K rec (nI (j + 1)) h m' s' := by
    intro m' s' hm' hs'
    unfold w_L_randomTable_J427
    intro x427 e427
    rw [show nI (j + 1) + (-1) = nI j from by rw [nI_succ, Int32.add_assoc]; exact Int32.add_zero _] at e427
    subst e427
    exact hrec h T gs m' s' x pd rg (by omega) (by omega) (by omega)
  unfold w_L_randomTable_J311
  refine t_g10 x.tb (t_lenH x.tb ?_)
  rw [hnp]
  refine cpL5 (fun k (h9 : HW) (m9 s9 : Nat) (v10 v13 : Int32) => h9 = h ∧ m9 = mc ∧ s9 = ms ∧ v13 = nI k ∧ (v10 = 0 ∨ v10 = 1) ∧ (v10 = 0 → st = 0 ∧ ∀ q, q < k → ¬ cd ∈ hnd T q)) np ?_ ?_ 0 (Nat.zero_le _) _ _ _ _ _ ⟨rfl, rfl, rfl, rfl, h01, fun z => ⟨z, fun q hq => absurd hq (Nat.not_lt_zero _)⟩⟩
  · rintro rec2 h9 m9 s9 v10 v13 ⟨rfl, rfl, rfl, rfl, hz, hv⟩
    unfold w_L_randomTable_B327
    refine br_le (a := np) (b := np) (by omega) (by omega) (fun _ => ⟨fun z => ?_, fun _ => goon _ _ (Nat.le_refl _) (Nat.le_refl _)⟩) (fun z => by omega)
    obtain ⟨z1, z2⟩ := hv z
    obtain ⟨z3, z4⟩ := hst z1
    have hl := hlen p hp
    refine t_g10 x.tb (t_g10 x.tb (t_lRH (p := p) x.tb (by omega) fun r hr => ?_))
    refine ⟨1, 8, m9 - 1, s9 - 8, by omega, by omega, ?_⟩
    refine s_with hr (by omega) (Nat.le_refl _) (by omega) fun q h1 e1 hq1 rw1 => ⟨q, rfl, ?_⟩
    have x1 := x.ext e1
    refine t_stH (p := p) x1.tb (by omega) (rw1.at fun z => x.ow _ z hq1) fun h2 t2 f2 d2 => ?_
    have x2 := x1.tab t2 f2 d2
    refine a_nwI (n := 2) (by omega) (by omega) (by omega) fun q2 h3 n3 w3 e3 => ?_
    refine i_stI (k := 0) w3 (by omega) (by omega) ?_
    refine i_stI (k := 1) hup_s (by omega) (by omega) ?_
    refine g_wa (i := 3) (v := fun k => if k = 0 then p else a) x2 ((e3.upN n3).upN n3) n3 (by omega) hup_s (fun k hk => ?_) (by omega) (by omega) fun h4 x4 => ?_
    · rcases (show k = 0 ∨ k = 1 by omega) with rfl | rfl
      · exact ⟨rfl, by show p ≤ 9999; omega⟩
      · exact ⟨rfl, by show a ≤ 9999; omega⟩
    have n2 : (numsX (fun k => if k = 0 then p else a) 2).length ≤ 10 := numsX_len 2 fun k hk => by
      show (if k = 0 then p else a) ≤ 9999
      split <;> omega
    have t3 := TXT_len 3
    have t12 := TXT_len 12
    refine g_wr (i := 12) x4 (by omega) (by simp only [List.length_append]; omega) fun h5 x5 => ?_
    refine g_wn x5 (by omega) (by simp only [List.length_append]; omega) fun h6 x6 => ?_
    have d3 := (decL_lt b (by omega)).2
    refine g_wr (i := 11) x6 (by omega) (by simp only [List.length_append]; omega) fun h7 x7 => ?_
    have ex : preX mx np hs oh os gs ++ (TXT.getD 3 [] ++ numsX (fun k => if k = 0 then p else a) 2) ++ TXT.getD 12 [] ++ decL b ++ TXT.getD 11 [] = preX mx np hs oh os (gs ++ [(p, a, b)]) := by
      have e12 : TXT.getD 12 [] = [45] := rfl
      have e11 : TXT.getD 11 [] = [59] := rfl
      have en : numsX (fun k => if k = 0 then p else a) 2 = (32 :: decL p) ++ (32 :: decL a) := rfl
      rw [e12, e11, en]
      unfold preX
      rw [gvsX_app]
      unfold gvX
      simp
    rw [ex] at x7
    have ok : gvOK mx np hs (oh.getD mx) (gvsH (List.replicate np []) gs) (p, a, b) := by
      refine ⟨hp, ha, hb, by rw [hcc]; exact z3, ?_, fun q hq => ?_⟩
      · rw [← pd.2.1]; show (hnd T p).length < hs; omega
      · rw [← pd.2.1, hcc]; exact z2 q hq
    unfold w_L_randomTable_J427
    intro x427 e427
    rw [show nI (j + 1) + (-1) = nI j from by rw [nI_succ, Int32.add_assoc]; exact Int32.add_zero _] at e427
    subst e427
    have pg := PD.give (g := (p, a, b)) pd
    rw [hcc] at pg
    exact hrec h7 _ _ _ _ x7 pg (rg.give hg3 ok) (by rw [List.length_append]; exact Nat.le_refl _) (by omega) (by omega)
  · rintro rec2 k h9 m9 s9 v10 v13 hk9 ⟨rfl, rfl, rfl, rfl, hz, hv⟩ hrec2
    unfold w_L_randomTable_B327
    refine br_le (a := np) (b := k) (by omega) (by omega) (fun z => by omega) (fun _ => ?_)
    refine t_lRH (p := k) x.tb (by omega) fun r hr => ?_
    refine s_has hr (by have := (hk k).2; omega) (fun y hy => by have := (hk k).1 y hy; omega) (by omega) ?_
    intro x350 e350 x353 e353
    rw [nI_1] at e353
    by_cases hm : cd ∈ hnd T k
    · rw [if_pos hm] at e350
      have e1 : x350 = 1 := by rcases hz with z | z <;> rw [e350, z] <;> decide
      exact hrec2 _ _ _ _ _ ⟨rfl, rfl, rfl, e353, Or.inr e1, fun z => absurd (e1.symm.trans z) (by decide)⟩
    · rw [if_neg hm] at e350
      have e1 : x350 = v10 := by rcases hz with z | z <;> rw [e350, z] <;> decide
      refine hrec2 _ _ _ _ _ ⟨rfl, rfl, rfl, e353, by rw [e1]; exact hz, fun z => ?_⟩
      obtain ⟨z1, z2⟩ := hv (e1.symm.trans z)
      refine ⟨z1, fun q hq => ?_⟩
      rcases Nat.lt_or_ge q k with h | h
      · exact z2 q h
      · rw [show q = k by omega]; exact hm
end RT2
