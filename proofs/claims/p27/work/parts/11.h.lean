/-! a random table is dealt and told to the class -/
def PD (T : TT) (mx np hs : Nat) (oh os : Option Nat) (gs : List (Nat × Nat × Nat)) (om : Option TM) : Prop := (T.1 0 = nI mx ∧ T.1 1 = nI hs ∧ T.1 2 = nI (oh.getD mx) ∧ T.1 3 = sedS 1 os ∧ T.1 8 = 0) ∧ tH T = gvsH (List.replicate np []) gs ∧ tT T = List.replicate np 0 ∧ (tR T).length = np + 1 ∧ (tO T).length = np + 1 ∧ tM T = om
def RG (mx np hs : Nat) (oh os : Option Nat) (gs : List (Nat × Nat × Nat)) : Prop := (3 ≤ mx ∧ mx ≤ 6) ∧ (2 ≤ np ∧ np ≤ 4) ∧ (1 ≤ hs ∧ hs ≤ 6) ∧ (∀ v, oh = some v → v ≤ mx) ∧ (∀ v, os = some v → v ≤ 9999) ∧ gvsOK mx np hs (oh.getD mx) (List.replicate np []) gs ∧ gs.length ≤ 3
def preX (mx np hs : Nat) (oh os : Option Nat) (gs : List (Nat × Nat × Nat)) : List Nat := hedX mx np hs ++ (hubX oh ++ (sedX os ++ gvsX gs))
/-- what the law's walk goes on with behind a random table -/
def RF (c : Nat → ClassId) (K : (Nat → Nat) × (Nat → Nat)) (h0 h' : HW) (ah : Nat → Nat) (ag : Nat → Nat → Nat) (ar : Nat → Nat) (ps : PS) (s0 : HS) (u a2 : Nat) (Own : Nat → Prop) (B : Nat → TT) (ps' : PS) (s' : HS) (O : Nat → Prop) (A : Nat → Nat) (T : TT) (fv : Nat → Int64) (mx np : Nat) (sd : Int32) : Prop :=
  CA c ah ag ar ps' s' h' ∧ SM ps' s' T B mx np 0 ∧ mx ≤ 6 ∧ (∃ f, h' u = some (true, eI (c 0) 8 f) ∧ f 0 = 0 ∧ ∀ j, j < 5 → f (1 + j) = 0) ∧ h' a2 = some (true, .inr (9, [.int sd])) ∧ TabV c h' O A T fv ∧ KC c K h' O ∧ OwnOK h' O ∧ (∀ b, b ∈ adL (wH c ah ag ar ps' s') → O b) ∧
  FX h0 h' (fun b => LU c ah ag ar ps s0 u b ∨ b = a2) ∧ (∀ i, i < 6 → ¬ A i ∈ adL (wH c ah ag ar ps' s')) ∧ (∀ i, i < 6 → h0 (A i) = none) ∧ (∀ b, Own b → O b) ∧ (∀ b, O b → Own b ∨ h0 b = none) ∧ (∀ b, b ∈ adL (wH c ah ag ar ps' s') → b ∈ adL (wH c ah ag ar ps s0) ∨ h0 b = none)
theorem gvsH_ok {mx np hs hb : Nat} (hm : mx ≤ 9) (h12 : hs ≤ 12) : ∀ (gs : List (Nat × Nat × Nat)) (Hs : List (List Nat)), gvsOK mx np hs hb Hs gs → (∀ p, (∀ x ∈ Hs.getD p [], x < 100) ∧ (Hs.getD p []).length ≤ 55) → Hs.length = np → (∀ p, (∀ x ∈ (gvsH Hs gs).getD p [], x < 100) ∧ ((gvsH Hs gs).getD p []).length ≤ 55) ∧ (gvsH Hs gs).length = np
  | [], Hs, _, h, hl => ⟨h, hl⟩
  | g :: gs, Hs, ok, h, hl => by
    obtain ⟨⟨o1, o2, o3, o4, o5, o6⟩, ok2⟩ := ok
    have hi := gv_in (g := g) hm o2 o3
    refine gvsH_ok hm h12 gs (gvH Hs g) ok2 (fun p => ?_) (by unfold gvH; rw [List.length_set]; exact hl)
    show (∀ x ∈ (Hs.set g.1 (Hs.getD g.1 [] ++ [gvC g])).getD p [], x < 100) ∧ ((Hs.set g.1 (Hs.getD g.1 [] ++ [gvC g])).getD p []).length ≤ 55
    rw [hnd_set (by omega)]
    split
    · refine ⟨fun x hx => ?_, by rw [List.length_append]; show _ + 1 ≤ 55; omega⟩
      rcases List.mem_append.mp hx with hx | hx
      · exact (h g.1).1 x hx
      · rw [List.mem_singleton.mp hx]; exact hi.1
    · exact h p
theorem rep_nil {np p : Nat} : (List.replicate np ([] : List Nat)).getD p [] = [] := by
  rw [List.getD_eq_getElem?_getD, List.getElem?_replicate]
  split <;> rfl
theorem gvs_hands {mx np hs hb : Nat} {gs : List (Nat × Nat × Nat)} (hm : mx ≤ 9) (h12 : hs ≤ 12) (ok : gvsOK mx np hs hb (List.replicate np []) gs) : (∀ p, (∀ x ∈ (gvsH (List.replicate np []) gs).getD p [], x < 100) ∧ ((gvsH (List.replicate np []) gs).getD p []).length ≤ 55) ∧ (gvsH (List.replicate np []) gs).length = np :=
  gvsH_ok hm h12 gs _ ok (fun p => by rw [rep_nil]; exact ⟨fun x hx => (by cases hx), Nat.zero_le _⟩) List.length_replicate
theorem gvX_len {mx np hs hb : Nat} (hm : mx ≤ 9) (h4 : np ≤ 4) : ∀ (gs : List (Nat × Nat × Nat)) (Hs : List (List Nat)), gvsOK mx np hs hb Hs gs → (gvsX gs).length ≤ 23 * gs.length
  | [], _, _ => Nat.le_refl _
  | g :: gs, Hs, ok => by
    obtain ⟨⟨o1, o2, o3, o4, o5, o6⟩, ok2⟩ := ok
    have i := gvX_len hm h4 gs (gvH Hs g) ok2
    have d1 := (decL_lt g.1 (by omega)).2
    have d2 := (decL_lt g.2.1 (by omega)).2
    have d3 := (decL_lt g.2.2 (by omega)).2
    have t3 := TXT_len 3
    show (gvX g ++ gvsX gs).length ≤ 23 * (gs.length + 1)
    unfold gvX
    simp only [List.length_append, List.length_cons, List.length_nil]
    omega
theorem preX_len {mx np hs : Nat} {oh os : Option Nat} {gs : List (Nat × Nat × Nat)} (rg : RG mx np hs oh os gs) : (preX mx np hs oh os gs).length ≤ 150 := by
  obtain ⟨r1, r2, r3, r4, r5, r6, r7⟩ := rg
  have l1 := gvX_len (by omega) r2.2 gs _ r6
  have d1 := (decL_lt mx (by omega)).2
  have d2 := (decL_lt np (by omega)).2
  have d3 := (decL_lt hs (by omega)).2
  have t0 := TXT_len 0
  have l2 : (hubX oh).length ≤ 12 := by
    cases oh with
    | none => exact Nat.zero_le _
    | some v =>
      have d := (decL_lt v (by have := r4 v rfl; omega)).2
      have t := TXT_len 1
      show (TXT.getD 1 [] ++ (32 :: (decL v ++ [59]))).length ≤ 12
      simp only [List.length_append, List.length_cons, List.length_nil]
      omega
  have l3 : (sedX os).length ≤ 12 := by
    cases os with
    | none => exact Nat.zero_le _
    | some v =>
      have d := (decL_lt v (r5 v rfl)).2
      have t := TXT_len 2
      show (TXT.getD 2 [] ++ (32 :: (decL v ++ [59]))).length ≤ 12
      simp only [List.length_append, List.length_cons, List.length_nil]
      omega
  unfold preX hedX
  simp only [List.length_append, List.length_cons, List.length_nil]
  omega
section RT1
variable {c : Nat → ClassId} {K : (Nat → Nat) × (Nat → Nat)} {h0 h : HW} {ah : Nat → Nat} {ag : Nat → Nat → Nat} {ar : Nat → Nat} {ps : PS} {s0 : HS} {u a2 : Nat} {Own O : Nat → Prop} {A : Nat → Nat} {T T00 : TT} {fv : Nat → Int64} {tx : List Nat} {sd : Int32} {B : Nat → TT} {mx np hs mx0 np0 : Nat} {oh os : Option Nat} {gs : List (Nat × Nat × Nat)} {om : Option TM} {post : Option Nat → HW → Prop}
/-- what is known of the class ahead of the load -/
def RC (ps : PS) (s0 : HS) (T00 : TT) (mx0 np0 : Nat) : Prop := RdZ s0 ∧ GT ps s0.2.1 T00 mx0 np0 ∧ ∃ v, s0.1.1 1 = nI v ∧ v ≤ 8
abbrev RP (c : Nat → ClassId) (K : (Nat → Nat) × (Nat → Nat)) (h0 : HW) (ah : Nat → Nat) (ag : Nat → Nat → Nat) (ar : Nat → Nat) (ps : PS) (s0 : HS) (u a2 : Nat) (Own : Nat → Prop) (B : Nat → TT) (post : Option Nat → HW → Prop) : Prop := ∀ (h' : HW) (ps' : PS) (s' : HS) (O : Nat → Prop) (A : Nat → Nat) (T : TT) (fv : Nat → Int64) (mx np : Nat) (sd : Int32), RF c K h0 h' ah ag ar ps s0 u a2 Own B ps' s' O A T fv mx np sd → post (some (A 0)) h'
theorem rt_481 {mc ms : Nat} (x : GR c K h0 h ah ag ar ps s0 u a2 Own O A T fv (preX mx np hs oh os gs ++ rkX om) sd) (p : PD T mx np hs oh os gs om) (rg : RG mx np hs oh os gs) (hom : ∀ m, om = some m → m.1 ≤ 2 ∧ okN m.1 m.2) (hl : (rkX om).length ≤ 100) (rc : RC ps s0 T00 mx0 np0) (hc : 163 ≤ mc) (hs9 : 8518 ≤ ms) (hp : RP c K h0 ah ag ar ps s0 u a2 Own B post) : w_L_randomTable_J481 c K (ah 0) u post (A 0) h mc ms := by
  obtain ⟨⟨p0, p1, p2, p3, p8⟩, pH, pT, pR, pO, pM⟩ := p
  have hpl := preX_len rg
  obtain ⟨r1, r2, r3, r4, r5, r6, r7⟩ := rg
  obtain ⟨H1, H2⟩ := gvs_hands (by omega) (by omega) r6
  have hbo : oh.getD mx ≤ mx := by
    cases oh with
    | none => exact Nat.le_refl _
    | some v => exact r4 v rfl
  unfold w_L_randomTable_J481
  refine ⟨t_rc x.tb, 160, 8000, mc - 160, ms - 8000, by omega, by omega, ?_⟩
  refine s_deals (mx := mx) (hs := hs) (hb := oh.getD mx) (np := np) x.tb x.ow p0 r1.2 p1 (by omega) p2 (by omega) (by rw [pH]; exact H2) r2.2 pR pO (fun q => by show (∀ x ∈ (tH T).getD q [], x < 100) ∧ ((tH T).getD q []).length ≤ 55; rw [pH]; exact H1 q) (Nat.le_refl _) (Nat.le_refl _) fun h1 t1 f1 d1 => ?_
  have y := x.tab t1 f1 d1
  refine ⟨mc - 160, ms - 8000, 0, 0, by omega, by omega, ?_⟩
  refine s_ldt (T := T) (T00 := T00) (B := B) (mx0 := mx0) (np0 := np0) (oh := oh) (os := os) (gs := gs) (om := om) y.ws (by unfold preX; simp only [List.append_assoc]) (by rw [List.length_append]; omega) rc.1 rc.2.1 rc.2.2 (by omega) r2 (by omega) r4 r5 r6 (by omega) ⟨p0, p1, p2, p3, p8⟩ pH ⟨by rw [pT, List.length_replicate], fun q hq => by rw [pT, List.getD_eq_getElem?_getD, List.getElem?_replicate]; split <;> rfl⟩ pM hom (by omega) (by omega) fun h2 ps' s' x2 e2 b2 f2 w2 w3 => ?_
  have nin : ∀ b, ¬ h1 b = none → ¬ LU c ah ag ar ps s0 u b → ¬ b ∈ adL (wH c ah ag ar ps' s') := fun b hb hn z => (w2 b z).elim (fun z => hn (Or.inl z)) hb
  have mm : ∀ b, ¬ h1 b = none → ¬ O b → h2 b = h1 b ∧ ¬ (O b ∨ b ∈ adL (wH c ah ag ar ps' s')) := fun b hb hn => ⟨f2.1 b hb fun z => hn (y.lo b z), fun z => z.elim hn (nin b hb fun z => hn (y.lo b z))⟩
  have t2 : TabV c h2 (fun b => O b ∨ b ∈ adL (wH c ah ag ar ps' s')) A (dealT T mx hs (oh.getD mx) np) fv := t1.mv (fun i hi => f2.1 _ (t1.def i hi) (y.nl hi)) (fun i hi => Or.inl (t1.own i hi)) mm
  refine t_g14 t2 fun st hst => r_len hst ⟨fun _ => ?_, fun z => absurd rfl z⟩
  refine hp h2 ps' s' (fun b => O b ∨ b ∈ adL (wH c ah ag ar ps' s')) A (dealT T mx hs (oh.getD mx) np) fv mx np sd ⟨x2, e2, r1.2, b2, (f2.1 _ (by rw [y.rn]; simp) x.1.2.2.2).trans y.rn, t2, y.kc.mv mm, fun b hb => ?_, fun b hb => Or.inr hb, y.fx.tr (f2.up fun b hb => Or.inl hb), fun i hi => nin _ (t1.def i hi) (y.nl hi), y.nw, fun b hb => Or.inl (y.o1 b hb), fun b hb => ?_, fun b hb => ?_⟩
  · rcases hb with hb | hb
    · exact (y.ow.dom f2.2) b hb
    · obtain ⟨k, v, hk⟩ := adL_in.mp hb
      rw [x2.1 k b v hk]; simp
  · rcases hb with hb | hb
    · exact y.o2 b hb
    · exact (w2 b hb).elim (fun z => Or.inl (x.1.2.1 b (Or.inl z))) fun z => Or.inr (y.fx.2 b z)
  · exact (w2 b hb).imp id fun z => y.fx.2 b z
/-- no gives are left: perhaps a rank, then the deal -/
theorem rt_B0 {rec : HW → Nat → Nat → Int32 → Prop} {mc ms : Nat} {x25 : Int32} (x : GR c K h0 h ah ag ar ps s0 u a2 Own O A T fv (preX mx np hs oh os gs) sd) (p : PD T mx np hs oh os gs none) (rg : RG mx np hs oh os gs) (rc : RC ps s0 T00 mx0 np0) (hc : 236 ≤ mc) (hs9 : 16574 ≤ ms) (hp : RP c K h0 ah ag ar ps s0 u a2 Own B post) : w_L_randomTable_B222 c K (ah 0) u a2 post (A 0) x25 rec h mc ms 0 := by
  have hpl := preX_len rg
  unfold w_L_randomTable_B222
  refine ⟨fun _ => ?_, fun z => absurd (by decide) z⟩
  refine g_bel (n := 2) x (by omega) (by omega) fun h1 x1 => ?_
  refine br_eq0 (by omega) (fun _ => ?_) (fun _ => ?_)
  · refine g_bel (n := 3) x1 (by omega) (by omega) fun h2 x2 => ?_
    generalize hd : mixN (nxt (nxt sd)) % 3 = d
    have hd2 : d ≤ 2 := by omega
    have w1 : 2 ^ (d + 1) ≤ 2 ^ 3 := Nat.pow_le_pow_right (by omega) (by omega)
    have w1 : 2 ^ (d + 1) ≤ 8 := w1
    have w2 : 2 ^ d ≤ 2 ^ 2 := Nat.pow_le_pow_right (by omega) (by omega)
    have w2 : 2 ^ d ≤ 4 := w2
    refine ⟨7, 28, mc - 7, ms - 28, by omega, by omega, ?_⟩
    refine s_random d 3 7 28 O h2 _ _ x2.ow x2.o9 x2.rn (by omega) hd2 (by omega) (by omega) fun q h3 a3 f3 d3 n3 => ?_
    refine ⟨q, rfl, ?_⟩
    have x3 := x2.bel a3 f3 d3
    have okn := n3.ok
    generalize (rndN d (nxt (nxt sd))).1 = nd at n3 okn
    generalize (rndN d (nxt (nxt sd))).2 = sd3 at x3
    refine t_p15 (m := ⟨d, nd⟩) x3.tb hd2 n3 fun h4 t4 f4 d4 => ?_
    have x4 := x3.tab t4 f4 d4
    refine g_wr (i := 13) x4 (by omega) (by omega) fun h5 x5 => ?_
    refine t_g15 x5.tb fun tm htm => ?_
    rcases htm with ⟨z1, z2⟩ | ⟨a, m, rfl, z2, z3, z4⟩
    · cases z2
    have z2 : some (⟨d, nd⟩ : TM) = some m := z2
    cases z2
    have hxl := ntx_len d nd 0
    refine ⟨a, rfl, node_rc z4, 66, 8028, mc - 7 - 66, ms - 28 - 8028, by omega, by omega, ?_⟩
    refine s_text d 3 66 8028 0 a h5 O nd _ z4 x5.kc x5.ow hd2 (by omega) (by omega) (by omega) (by omega) fun b h6 e6 st6 => ?_
    refine ⟨b, rfl, ?_⟩
    have x6 := x5.ext e6
    have t13 := TXT_len 13
    refine s_write x6.ws (x6.str st6) (by rw [List.length_append]; omega) fun h7 w7 f7 => ?_
    have x7 := x6.wr w7 f7
    refine g_wr (i := 21) x7 (by omega) (by rw [List.length_append, List.length_append]; omega) fun h8 x8 => ?_
    have ex : preX mx np hs oh os gs ++ TXT.getD 13 [] ++ ntx d nd 0 ++ TXT.getD 21 [] = preX mx np hs oh os gs ++ rkX (some ⟨d, nd⟩) := by
      have e13 : TXT.getD 13 [] = TXT.getD 4 [] ++ [32] := rfl
      have e21 : TXT.getD 21 [] = [32, 59] := rfl
      rw [e13, e21]
      unfold rkX
      simp
    rw [ex] at x8
    obtain ⟨pn, pH, pT, pR, pO, pM⟩ := p
    refine rt_481 (om := some ⟨d, nd⟩) x8 ⟨pn, pH, pT, pR, pO, rfl⟩ rg (fun m hm => by cases hm; exact ⟨hd2, okn⟩) ?_ rc (by omega) (by omega) hp
    have t4 := TXT_len 4
    unfold rkX
    simp only [List.length_append, List.length_cons, List.length_nil]
    omega
  · have x1' : GR c K h0 h1 ah ag ar ps s0 u a2 Own O A T fv (preX mx np hs oh os gs ++ rkX none) (nxt sd) := by
      unfold rkX
      rw [List.append_nil]
      exact x1
    exact rt_481 (om := none) x1' p rg (fun m hm => by cases hm) (Nat.zero_le _) rc (by omega) (by omega) hp
end RT1
