/-! a random table: the give loop, the seed, the hub -/
section RT3
variable {c : Nat → ClassId} {K : (Nat → Nat) × (Nat → Nat)} {h0 h : HW} {ah : Nat → Nat} {ag : Nat → Nat → Nat} {ar : Nat → Nat} {ps : PS} {s0 : HS} {u a2 : Nat} {Own O : Nat → Prop} {A : Nat → Nat} {T T00 : TT} {fv : Nat → Int64} {tx : List Nat} {sd : Int32} {B : Nat → TT} {mx np hs mx0 np0 : Nat} {oh os : Option Nat} {gs : List (Nat × Nat × Nat)} {om : Option TM} {post : Option Nat → HW → Prop}
/-- one turn of the give loop -/
theorem rt_Bs {rec : HW → Nat → Nat → Int32 → Prop} {mc ms j : Nat} (x : GR c K h0 h ah ag ar ps s0 u a2 Own O A T fv (preX mx np hs oh os gs) sd) (pd : PD T mx np hs oh os gs none) (rg : RG mx np hs oh os gs) (hg3 : gs.length < 3) (hj : j < 4) (hc : 2 ≤ mc) (hs9 : 20 ≤ ms)
    (hrec : ∀ (h' : HW) (T' : TT) (gs' : List (Nat × Nat × Nat)) (m' s' : Nat) (sd' : Int32), GR c K h0 h' ah ag ar ps s0 u a2 Own O A T' fv (preX mx np hs oh os gs') sd' → PD T' mx np hs oh os gs' none → RG mx np hs oh os gs' → gs'.length ≤ gs.length + 1 → mc ≤ m' + 2 → ms ≤ s' + 20 → rec h' m' s' (nI j)) : w_L_randomTable_B222 c K (ah 0) u a2 post (A 0) (nI np) rec h mc ms (nI (j + 1)) := by
  obtain ⟨r1, r2, r3, r4, r5, r6, r7⟩ := id rg
  obtain ⟨H1, H2⟩ := gvs_hands (by omega) (by omega) r6
  have hnp : (tH T).length = np := by rw [pd.2.1]; exact H2
  have hk : ∀ q, (∀ x ∈ hnd T q, x < 100) ∧ (hnd T q).length ≤ 55 := fun q => by show (∀ x ∈ (tH T).getD q [], x < 100) ∧ ((tH T).getD q []).length ≤ 55; rw [pd.2.1]; exact H1 q
  have hbo : oh.getD mx ≤ mx := by
    cases oh with
    | none => exact Nat.le_refl _
    | some v => exact r4 v rfl
  unfold w_L_randomTable_B222
  refine br_le0 (by omega) (fun z => by omega) (fun _ => ?_)
  refine g_bel (n := np) x (by omega) (by omega) fun h1 x1 => ?_
  generalize hp : mixN (nxt sd) % np = p
  have hpn : p < np := by rw [← hp]; exact Nat.mod_lt _ (by omega)
  refine t_gI (k := 0) x1.tb (by omega) ?_
  rw [pd.1.1]
  intro x241 e241
  rw [nI_1] at e241
  subst e241
  refine g_bel (n := mx + 1) x1 (by omega) (by omega) fun h2 x2 => ?_
  generalize ha : mixN (nxt (nxt sd)) % (mx + 1) = a
  have han : a < mx + 1 := by rw [← ha]; exact Nat.mod_lt _ (by omega)
  refine t_gI (k := 0) x2.tb (by omega) ?_
  rw [pd.1.1]
  intro x253 e253
  rw [nI_1] at e253
  subst e253
  refine g_bel (n := mx + 1) x2 (by omega) (by omega) fun h3 x3 => ?_
  generalize hb : mixN (nxt (nxt (nxt sd))) % (mx + 1) = b
  have hbn : b < mx + 1 := by rw [← hb]; exact Nat.mod_lt _ (by omega)
  intro x265 e265 x268 e268 x273 e273 x276 e276
  rw [ie_lt (by omega) (by omega)] at e265 e273
  have e65 : x265 = nI (min a b) := by
    rw [e265]
    split
    · rw [Nat.min_eq_right (by omega)]
    · rw [Nat.min_eq_left (by omega)]
  have e73 : x273 = nI (max a b) := by
    rw [e273]
    split
    · rw [Nat.max_eq_right (by omega)]
    · rw [Nat.max_eq_left (by omega)]
  have e76 : x276 = nI (gvC (p, a, b)) := by
    rw [e276, e268, e65, e73, show (10 : Int32) = nI 10 from rfl, nI_mul, nI_add]
  subst e76
  refine t_gI (k := 2) x3.tb (by omega) ?_
  rw [pd.1.2.2.1]
  intro x287 e287
  rw [show (11 : Int32) = nI 11 from rfl, nI_mul] at e287
  subst e287
  have hcd : gvC (p, a, b) < 100 := (gv_in (mx := mx) (g := (p, a, b)) (by omega) (by show a ≤ mx; omega) (by show b ≤ mx; omega)).1
  have go : ∀ st : Int32, (st = 0 ∨ st = 1) → (st = 0 → ¬ gvC (p, a, b) = 11 * oh.getD mx ∧ ¬ (hnd T p).length = hs) → w_L_randomTable_J311 c K (ah 0) u (A 0) rec (nI (j + 1)) (nI p) (nI a) (nI b) h3 (nI (gvC (p, a, b))) mc ms st := fun st h01 hst =>
    rt_311 x3 pd rg hg3 hpn (by omega) (by omega) h01 hst hc hs9 fun h' T' gs' m' s' g1 g2 g3 g4 g5 g6 => hrec h' T' gs' m' s' _ g1 g2 g3 g4 g5 g6
  refine br_eq (by omega) (by omega) (fun _ => go 1 (Or.inr rfl) fun z => absurd z (by decide)) (fun z1 => ?_)
  refine t_g10 x3.tb (t_lRH (p := p) x3.tb (by omega) fun r hr => r_len hr ?_)
  refine t_gI (k := 1) x3.tb (by omega) ?_
  rw [pd.1.2.1]
  refine br_eq (by have := (hk p).2; omega) (by omega) (fun _ => go 1 (Or.inr rfl) fun z => absurd z (by decide)) (fun z2 => go 0 (Or.inl rfl) fun _ => ⟨z1, z2⟩)
/-- the give loop -/
theorem rt_215 {mc ms : Nat} (x : GR c K h0 h ah ag ar ps s0 u a2 Own O A T fv (preX mx np hs oh os []) sd) (pd : PD T mx np hs oh os [] none) (rg : RG mx np hs oh os []) (rc : RC ps s0 T00 mx0 np0) (hc : 242 ≤ mc) (hs9 : 16634 ≤ ms) (hp : RP c K h0 ah ag ar ps s0 u a2 Own B post) : w_L_randomTable_J215 c K (ah 0) u a2 post (A 0) (nI np) h mc ms := by
  unfold w_L_randomTable_J215
  refine g_bel (n := 4) x (by omega) (by omega) fun h1 x1 => ?_
  generalize hn : mixN (nxt sd) % 4 = n
  have hn4 : n < 4 := by omega
  refine cpL4 (fun k (h9 : HW) (m9 s9 : Nat) (v5 : Int32) => ∃ (T9 : TT) (gs : List (Nat × Nat × Nat)) (sd9 : Int32), GR c K h0 h9 ah ag ar ps s0 u a2 Own O A T9 fv (preX mx np hs oh os gs) sd9 ∧ PD T9 mx np hs oh os gs none ∧ RG mx np hs oh os gs ∧ gs.length ≤ k ∧ 236 + 2 * (n - k) ≤ m9 ∧ 16574 + 20 * (n - k) ≤ s9 ∧ v5 = nI (n - k)) n ?_ ?_ 0 (Nat.zero_le _) _ _ _ _ ⟨T, [], _, x1, pd, rg, Nat.le_refl _, by omega, by omega, by rw [Nat.sub_zero]⟩
  · rintro rec h9 m9 s9 v5 ⟨T9, gs, sd9, x9, pd9, rg9, hg9, hm9, hs10, rfl⟩
    rw [Nat.sub_self]
    exact rt_B0 x9 pd9 rg9 rc (by omega) (by omega) hp
  · rintro rec k h9 m9 s9 v5 hk ⟨T9, gs, sd9, x9, pd9, rg9, hg9, hm9, hs10, rfl⟩ hrec
    rw [show n - k = (n - k - 1) + 1 by omega]
    refine rt_Bs x9 pd9 rg9 (by omega) (by omega) (by omega) (by omega) fun h' T' gs' m' s' sd' g1 g2 g3 g4 g5 g6 => ?_
    exact hrec _ _ _ _ ⟨T', gs', sd', g1, g2, g3, by omega, by omega, by omega, by rw [show n - k - 1 = n - (k + 1) by omega]⟩
theorem PD.sed {v : Nat} (p : PD T mx np hs oh none [] none) : PD (sS T 3 (nI v)) mx np hs oh (some v) [] none := by
  obtain ⟨⟨p0, p1, p2, p3, p8⟩, pH, pT, pR, pO, pM⟩ := p
  exact ⟨⟨p0, p1, p2, rfl, p8⟩, pH, pT, pR, pO, pM⟩
theorem PD.hub {v : Nat} (p : PD T mx np hs none none [] none) : PD (sS T 2 (nI v)) mx np hs (some v) none [] none := by
  obtain ⟨⟨p0, p1, p2, p3, p8⟩, pH, pT, pR, pO, pM⟩ := p
  exact ⟨⟨p0, p1, rfl, p3, p8⟩, pH, pT, pR, pO, pM⟩
theorem rt_172 {mc ms : Nat} (x : GR c K h0 h ah ag ar ps s0 u a2 Own O A T fv (preX mx np hs oh none []) sd) (pd : PD T mx np hs oh none [] none) (rg : RG mx np hs oh none []) (rc : RC ps s0 T00 mx0 np0) (hc : 243 ≤ mc) (hs9 : 16635 ≤ ms) (hp : RP c K h0 ah ag ar ps s0 u a2 Own B post) : w_L_randomTable_J172 c K (ah 0) u a2 post (A 0) (nI np) h mc ms := by
  have hpl := preX_len rg
  unfold w_L_randomTable_J172
  refine g_bel (n := 3) x (by omega) (by omega) fun h1 x1 => ?_
  refine br_le0 (by omega) (fun _ => rt_215 x1 pd rg rc (by omega) (by omega) hp) (fun _ => ?_)
  refine g_bel (n := 10000) x1 (by omega) (by omega) fun h2 x2 => ?_
  generalize hv : mixN (nxt (nxt sd)) % 10000 = v
  have hv4 : v ≤ 9999 := by omega
  refine g_pV (k := 3) x2 (by omega) fun h3 x3 => ?_
  refine a_nwI (n := 1) (by omega) (by omega) (by omega) fun q h4 n4 w4 e4 => ?_
  refine t_gI (k := 3) (x3.tb.ext e4) (by omega) ?_
  rw [show (sS T 3 (nI v)).1 3 = nI v from upd_s (f := T.1) (k := 3) (x := nI v)]
  refine i_stI (k := 0) w4 (by omega) (by omega) ?_
  refine g_wa (i := 2) (v := fun _ => v) x3 (e4.upN n4) n4 (by omega) hup_s (fun k hk => ?_) (by omega) (by omega) fun h5 x5 => ?_
  · rw [show k = 0 by omega]; exact ⟨rfl, hv4⟩
  have t2 := TXT_len 2
  have n1 : (numsX (fun _ => v) 1).length ≤ 5 := numsX_len 1 fun _ _ => hv4
  refine g_wr (i := 11) x5 (by omega) (by simp only [List.length_append]; omega) fun h6 x6 => ?_
  have ex : preX mx np hs oh none [] ++ (TXT.getD 2 [] ++ numsX (fun _ => v) 1) ++ TXT.getD 11 [] = preX mx np hs oh (some v) [] := by
    have e11 : TXT.getD 11 [] = [59] := rfl
    have en : numsX (fun _ => v) 1 = 32 :: decL v := rfl
    rw [e11, en]
    unfold preX sedX gvsX
    simp
  rw [ex] at x6
  obtain ⟨r1, r2, r3, r4, r5, r6, r7⟩ := rg
  exact rt_215 x6 pd.sed ⟨r1, r2, r3, r4, fun w hw => by cases hw; exact hv4, trivial, Nat.zero_le _⟩ rc (by omega) (by omega) hp
theorem rt_123 {mc ms : Nat} (x : GR c K h0 h ah ag ar ps s0 u a2 Own O A T fv tx sd) (etx : tx ++ TXT.getD 11 [] = preX mx np hs none none []) (pd : PD T mx np hs none none [] none) (rg : RG mx np hs none none []) (rc : RC ps s0 T00 mx0 np0) (hc : 244 ≤ mc) (hs9 : 16636 ≤ ms) (hp : RP c K h0 ah ag ar ps s0 u a2 Own B post) : w_L_randomTable_J123 c K (ah 0) u a2 post (A 0) (nI np) h mc ms (K.1 11) u (ah 0) := by
  have hpl := preX_len rg
  unfold w_L_randomTable_J123
  refine g_wr (i := 11) x (by omega) (by have := congrArg List.length etx; rw [List.length_append] at this; omega) fun h1 x1 => ?_
  rw [etx] at x1
  obtain ⟨r1, r2, r3, r4, r5, r6, r7⟩ := id rg
  refine g_bel (n := 2) x1 (by omega) (by omega) fun h2 x2 => ?_
  refine br_eq0 (by omega) (fun _ => ?_) (fun _ => rt_172 x2 pd rg rc (by omega) (by omega) hp)
  refine t_gI (k := 0) x2.tb (by omega) ?_
  rw [pd.1.1]
  intro x141 e141
  rw [nI_1] at e141
  subst e141
  refine g_bel (n := mx + 1) x2 (by omega) (by omega) fun h3 x3 => ?_
  generalize hv : mixN (nxt (nxt sd)) % (mx + 1) = v
  have hv4 : v < mx + 1 := by rw [← hv]; exact Nat.mod_lt _ (by omega)
  refine g_pV (k := 2) x3 (by omega) fun h4 x4 => ?_
  refine a_nwI (n := 1) (by omega) (by omega) (by omega) fun q h5 n5 w5 e5 => ?_
  refine t_gI (k := 2) (x4.tb.ext e5) (by omega) ?_
  rw [show (sS T 2 (nI v)).1 2 = nI v from upd_s (f := T.1) (k := 2) (x := nI v)]
  refine i_stI (k := 0) w5 (by omega) (by omega) ?_
  refine g_wa (i := 1) (v := fun _ => v) x4 (e5.upN n5) n5 (by omega) hup_s (fun k hk => ?_) (by omega) (by omega) fun h6 x6 => ?_
  · rw [show k = 0 by omega]; exact ⟨rfl, by show v ≤ 9999; omega⟩
  have t1 := TXT_len 1
  have n1 : (numsX (fun _ => v) 1).length ≤ 5 := numsX_len 1 fun _ _ => by show v ≤ 9999; omega
  refine g_wr (i := 11) x6 (by omega) (by simp only [List.length_append]; omega) fun h7 x7 => ?_
  have ex : preX mx np hs none none [] ++ (TXT.getD 1 [] ++ numsX (fun _ => v) 1) ++ TXT.getD 11 [] = preX mx np hs (some v) none [] := by
    have e11 : TXT.getD 11 [] = [59] := rfl
    have en : numsX (fun _ => v) 1 = 32 :: decL v := rfl
    rw [e11, en]
    unfold preX hubX sedX gvsX
    simp
  rw [ex] at x7
  exact rt_172 x7 pd.hub ⟨r1, r2, r3, fun w hw => by cases hw; show v ≤ mx; omega, r5, trivial, Nat.zero_le _⟩ rc (by omega) (by omega) hp
end RT3
