/-! the class, a table and what lies beside them; whether they agree -/
/-- what was there has changed in X alone -/
def FX (h h' : HW) (X : Nat → Prop) : Prop := (∀ b, ¬ h b = none → ¬ X b → h' b = h b) ∧ HDom h h'
theorem FX.rf {h : HW} {X : Nat → Prop} : FX h h X := ⟨fun _ _ _ => rfl, HDom.rf⟩
theorem FX.tr {h h1 h2 : HW} {X : Nat → Prop} (a : FX h h1 X) (b : FX h1 h2 X) : FX h h2 X := ⟨fun x hx hn => (b.1 x (fun z => hx (a.2 x z)) hn).trans (a.1 x hx hn), a.2.tr b.2⟩
theorem FX.up {h h' : HW} {X Y : Nat → Prop} (a : FX h h' X) (hs : ∀ b, X b → Y b) : FX h h' Y := ⟨fun b hb hn => a.1 b hb (fun z => hn (hs b z)), a.2⟩
theorem CFr.fx {h h' : HW} {L : List Nat} (a : CFr h h' L) : FX h h' (fun b => b ∈ L) := ⟨fun b _ hn => a.1 b hn, a.2⟩
theorem fx_t {h h' : HW} {A : Nat → Nat} (a : TFr h h' A) (d : HDom h h') : FX h h' (fun b => ∃ i, i < 6 ∧ b = A i) := ⟨fun b hb hn => a b hb (fun i hi z => hn ⟨i, hi, z⟩), d⟩
theorem Ext.fx {h h' : HW} {X : Nat → Prop} (a : Ext h h') : FX h h' X := ⟨fun b hb _ => a b hb, a.dom⟩
theorem TabV.fx {c : Nat → ClassId} {h h' : HW} {Own X : Nat → Prop} {A : Nat → Nat} {T : TT} {fv : Nat → Int64} (t : TabV c h Own A T fv) (a : FX h h' X) (hX : ∀ b, X b → Own b) (hA : ∀ i, i < 6 → ¬ X (A i)) : TabV c h' Own A T fv :=
  t.mv (fun i hi => a.1 _ (t.def i hi) (hA i hi)) t.own fun b hb hn => ⟨a.1 b hb (fun z => hn (hX b z)), hn⟩
section AG
variable {c : Nat → ClassId} {K : (Nat → Nat) × (Nat → Nat)} {h : HW} {ah : Nat → Nat} {ag : Nat → Nat → Nat} {ar : Nat → Nat} {ps : PS} {s : HS} {Own : Nat → Prop} {A : Nat → Nat} {T : TT} {fv : Nat → Int64} {B : Nat → TT} {mx np m : Nat}
theorem CA.fx {h' : HW} {X : Nat → Prop} (x : CA c ah ag ar ps s h) (a : FX h h' X) (hX : ∀ b, b ∈ adL (wH c ah ag ar ps s) → ¬ X b) : CA c ah ag ar ps s h' :=
  ⟨fun k b e hk => (a.1 b (by rw [x.1 k b e hk]; simp) (hX b (adL_in.mpr ⟨k, e, hk⟩))).trans (x.1 k b e hk), x.2⟩
theorem adL_H2 {ps' : PS} {s' : HS} (hp : ∀ c, (wP c ps').map Prod.fst = (wP c ps).map Prod.fst) : adL (wH c ah ag ar ps' s') = adL (wH c ah ag ar ps s) := by
  unfold adL wH
  rw [List.map_append, List.map_append, hp c]
  rfl
theorem c_nx2 {ps' : PS} {s' : HS} {h1 : HW} (hp : ∀ c, (wP c ps').map Prod.fst = (wP c ps).map Prod.fst) (q : hNx h (wH c ah ag ar ps s) (wH c ah ag ar ps' s') h1) : CA c ah ag ar ps' s' h1 ∧ CFr h h1 (adL (wH c ah ag ar ps s)) := by
  have e := adL_H2 (c := c) (ah := ah) (ag := ag) (ar := ar) (ps := ps) (s := s) (s' := s') hp
  obtain ⟨q1, q2, q3, q4⟩ := q
  have f1 : ∀ b, ¬ b ∈ adL (wH c ah ag ar ps s) → h1 b = h b := fun b hb => q3 b (adL_off hb) (adL_off (by rw [e]; exact hb))
  refine ⟨⟨q1, q2⟩, f1, fun b hb => ?_⟩
  rcases Classical.em (b ∈ adL (wH c ah ag ar ps s)) with z | z
  · rw [← e] at z
    obtain ⟨k, e, hk⟩ := adL_in.mp z
    rw [q1 k b e hk] at hb; cases hb
  · rw [← f1 b z]; exact hb
/-- the places of the class and of a table -/
def XT (c : Nat → ClassId) (ah : Nat → Nat) (ag : Nat → Nat → Nat) (ar : Nat → Nat) (ps : PS) (s : HS) (A : Nat → Nat) : Nat → Prop := fun b => b ∈ adL (wH c ah ag ar ps s) ∨ ∃ i, i < 6 ∧ b = A i
/-- the class and a table that it is compared with -/
def LV (c : Nat → ClassId) (h : HW) (ah : Nat → Nat) (ag : Nat → Nat → Nat) (ar : Nat → Nat) (ps : PS) (s : HS) (Own : Nat → Prop) (A : Nat → Nat) (T : TT) (fv : Nat → Int64) : Prop :=
  CA c ah ag ar ps s h ∧ TabV c h Own A T fv ∧ OwnOK h Own ∧ (∀ b, b ∈ adL (wH c ah ag ar ps s) → Own b) ∧ ∀ i, i < 6 → ¬ A i ∈ adL (wH c ah ag ar ps s)
theorem LV.ca (v : LV c h ah ag ar ps s Own A T fv) : CA c ah ag ar ps s h := v.1
theorem LV.tb (v : LV c h ah ag ar ps s Own A T fv) : TabV c h Own A T fv := v.2.1
theorem LV.ow (v : LV c h ah ag ar ps s Own A T fv) : OwnOK h Own := v.2.2.1
theorem LV.cl (v : LV c h ah ag ar ps s Own A T fv) : ∀ b, b ∈ adL (wH c ah ag ar ps s) → Own b := v.2.2.2.1
theorem LV.ds (v : LV c h ah ag ar ps s Own A T fv) : ∀ i, i < 6 → ¬ A i ∈ adL (wH c ah ag ar ps s) := v.2.2.2.2
theorem s_agrees {mc ms : Nat} {post : Int32 → HW → Prop} (v : LV c h ah ag ar ps s Own A T fv) (hS : SM ps s T B mx np m) (hc : 101 * np + 10 ≤ mc) (hs9 : 10100 * np + 60 ≤ ms)
    (hp : ∀ (h' : HW) (ps' : PS) (fv' : Nat → Int64), LV c h' ah ag ar ps' s Own A T fv' → PM ps ps' → (∀ c, (wP c ps').map Prod.fst = (wP c ps).map Prod.fst) → FX h h' (XT c ah ag ar ps s A) → post 1 h') : w_L_agrees c K h (ah 0) (A 0) mc ms post := by
  obtain ⟨hs, hb, tn, pa, f, e, n, G⟩ := hS.1
  have w := G.2.1.tw G.1
  have hnp := w.np
  unfold w_L_agrees
  refine ⟨v.ca.recv, ah, ag, ar, ps, s, _, G.2.1.chk G.1, rfl, v.ca, t_rc v.tb, 101 * np, 10100 * np, mc - 101 * np, ms - 10100 * np, by omega, by omega, ?_⟩
  refine s_checksum v.tb v.ow w (Nat.le_refl _) (Nat.le_refl _) fun h5 e5 => ?_
  have x5 : CA c ah ag ar ps s h5 := v.ca.fx (X := fun _ => False) e5.fx (fun _ _ z => z)
  have t5 := v.tb.ext e5
  have o5 : OwnOK h5 Own := fun b hb => by rw [e5 b (v.ow b hb)]; exact v.ow b hb
  intro x8 e8
  refine ⟨fun _ => ?_, fun z => absurd (e8.trans ((lg_cmp_eq _ _).mpr rfl)) z⟩
  obtain ⟨ps1, eb, pm, pq⟩ := G.best
  refine ⟨x5.recv, ah, ag, ar, ps, s, _, ps1, eb, rfl, x5, fun h13 q13 => ?_⟩
  obtain ⟨x13, f13⟩ := c_nx2 pq q13
  have hcl := v.cl
  have t13 : TabV c h13 Own A T fv := t5.fx f13.fx (fun b hb => hcl b hb) (fun i hi => v.ds i hi)
  have o13 : OwnOK h13 Own := o5.dom f13.2
  refine ⟨t_rc t13, s_best t13 w fun h17 fv17 t17 f17 d17 ok17 => ?_⟩
  have eA : adL (wH c ah ag ar ps1 s) = adL (wH c ah ag ar ps s) := adL_H2 pq
  have x17 : CA c ah ag ar ps1 s h17 := x13.fx (fx_t f17 d17) (fun b hb z => by
    obtain ⟨i, hi, e⟩ := z
    rw [eA, e] at hb
    exact v.ds i hi hb)
  have F17 : FX h h17 (XT c ah ag ar ps s A) := (e5.fx.tr (f13.fx.up fun b hb => Or.inl hb)).tr ((fx_t f17 d17).up fun b hb => Or.inr hb)
  have V17 : LV c h17 ah ag ar ps1 s Own A T fv17 := ⟨x17, t17, o13.dom d17, fun b hb => hcl b (by rw [← eA]; exact hb), fun i hi z => v.ds i hi (by rw [← eA]; exact z)⟩
  have G1 := G.pm pm
  have fin := hp h17 ps1 fv17 V17 pm pq F17
  refine ⟨fun _ => ?_, fun z => absurd rfl z⟩
  refine ⟨1, 6, mc - 101 * np - 1, ms - 10100 * np - 6, by omega, by omega, Or.inr ⟨ah, ag, ar, ps1, s, state13, rfl, x17, Nat.le_refl _, Nat.le_refl _, fun _ => ?_, fun z => absurd rfl z⟩⟩
  -- the last three
  have hJ : ∀ mc2 ms2 : Nat, 3 ≤ mc2 → 18 ≤ ms2 → w_L_agrees_J77 c K (ah 0) (A 0) post h17 1 mc2 ms2 := by
    intro mc2 ms2 h3 h18
    unfold w_L_agrees_J77
    refine ⟨fun z => absurd z (by decide), fun _ => ?_⟩
    refine t_g10 t17 ?_
    refine t_lenH t17 ?_
    rw [hnp.1]
    refine ⟨1, 6, mc2 - 1, ms2 - 6, by omega, by omega, Or.inr (Or.inl ⟨ah, ag, ar, ps1, s, G1.player1, rfl, x17, Nat.le_refl _, Nat.le_refl _, fun _ => ?_, fun z => absurd rfl z⟩)⟩
    refine t_g12 t17 ?_
    refine t_lenR t17 ?_
    rw [hnp.2.2.1]
    refine ⟨1, 6, mc2 - 2, ms2 - 12, by omega, by omega, Or.inr (Or.inl ⟨ah, ag, ar, ps1, s, G1.train1, rfl, x17, Nat.le_refl _, Nat.le_refl _, fun _ => ?_, fun z => absurd rfl z⟩)⟩
    refine t_g10 t17 ?_
    refine t_lRH (p := 0) t17 (by rw [hnp.1]; omega) fun r0 hr0 => ?_
    refine r_len hr0 ?_
    exact ⟨1, 6, mc2 - 3, ms2 - 18, by omega, by omega, Or.inr (Or.inr ⟨ah, ag, ar, ps1, s, G1.tile1, rfl, x17, Nat.le_refl _, Nat.le_refl _, fun _ => ⟨Or.inr rfl, fin⟩, fun z => absurd rfl z⟩)⟩
  unfold w_L_agrees_J39
  refine cpL5 (fun k (h9 : HW) (m9 s9 : Nat) (v2 v3 : Int32) => h9 = h17 ∧ 3 ≤ m9 ∧ 18 ≤ s9 ∧ v2 = 1 ∧ v3 = nI k) 13 ?_ ?_ 0 (by omega) _ _ _ _ _ ⟨rfl, by omega, by omega, rfl, rfl⟩
  · rintro rec h9 m9 s9 v2 v3 ⟨rfl, hm, hs10, rfl, rfl⟩
    unfold w_L_agrees_B42
    exact br_le (a := 13) (by omega) (by omega) (fun _ => hJ _ _ hm hs10) (fun z => by omega)
  · rintro rec k h9 m9 s9 v2 v3 hk ⟨rfl, hm, hs10, rfl, rfl⟩ hrec
    unfold w_L_agrees_B42
    refine br_le (a := 13) (by omega) (by omega) (fun z => by omega) (fun _ => ?_)
    refine ⟨fun z => absurd z (by decide), fun _ => ?_⟩
    refine ⟨0, 0, m9, s9, by omega, by omega, Or.inl ⟨ah, ag, ar, ps1, s, _, G1.state (by omega), rfl, x17, t_rc t17, s_told t17 w (by omega) ⟨fun _ => ?_, fun z => absurd rfl z⟩⟩⟩
    unfold w_L_agrees_J70
    intro x71 e71
    exact hrec _ _ _ _ _ ⟨rfl, hm, hs10, rfl, by rw [e71, nI_1]⟩
end AG
