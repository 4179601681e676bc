/-! a new table under way, beside a text under way -/
section GRS
variable {c : Nat → ClassId} {K : (Nat → Nat) × (Nat → Nat)} {h0 h h' : HW} {ah : Nat → Nat} {ag : Nat → Nat → Nat} {ar : Nat → Nat} {ps : PS} {s0 : HS} {u a2 : Nat} {Own O : Nat → Prop} {A : Nat → Nat} {T T' : TT} {fv fv' : Nat → Int64} {tx tx' : List Nat} {sd sd' : Int32}
def GB (c : Nat → ClassId) (h0 : HW) (ah : Nat → Nat) (ag : Nat → Nat → Nat) (ar : Nat → Nat) (ps : PS) (s0 : HS) (u a2 : Nat) (Own : Nat → Prop) : Prop := OwnOK h0 Own ∧ (∀ b, LU c ah ag ar ps s0 u b → Own b) ∧ Own a2 ∧ ¬ LU c ah ag ar ps s0 u a2
def GR (c : Nat → ClassId) (K : (Nat → Nat) × (Nat → Nat)) (h0 h : HW) (ah : Nat → Nat) (ag : Nat → Nat → Nat) (ar : Nat → Nat) (ps : PS) (s0 : HS) (u a2 : Nat) (Own O : Nat → Prop) (A : Nat → Nat) (T : TT) (fv : Nat → Int64) (tx : List Nat) (sd : Int32) : Prop :=
  GB c h0 ah ag ar ps s0 u a2 Own ∧ WS c h ah ag ar ps s0 u tx ∧ h a2 = some (true, .inr (9, [.int sd])) ∧ KC c K h O ∧ TabV c h O A T fv ∧ OwnOK h O ∧ FX h0 h (fun b => LU c ah ag ar ps s0 u b ∨ b = a2) ∧ (∀ i, i < 6 → h0 (A i) = none) ∧ (∀ b, Own b → O b) ∧ ∀ b, O b → Own b ∨ h0 b = none
theorem WS.mv (w : WS c h ah ag ar ps s0 u tx) (e : ∀ b, ¬ h b = none → LU c ah ag ar ps s0 u b → h' b = h b) : WS c h' ah ag ar ps s0 u tx := by
  obtain ⟨⟨s, x, t⟩, ⟨f, hb, f0, fw⟩, hu, hx⟩ := w
  refine ⟨⟨s, ⟨fun k a v hk => ?_, x.2⟩, t⟩, ⟨f, ?_, f0, fw⟩, hu, hx⟩
  · refine (e a (by rw [x.1 k a v hk]; simp) (Or.inl ?_)).trans (x.1 k a v hk)
    rw [adL_H c ah ag ar ps s0 s]
    exact adL_in.mpr ⟨k, v, hk⟩
  · exact (e u (by rw [hb]; simp) (Or.inr rfl)).trans hb
theorem GR.ws (x : GR c K h0 h ah ag ar ps s0 u a2 Own O A T fv tx sd) : WS c h ah ag ar ps s0 u tx := x.2.1
theorem GR.rn (x : GR c K h0 h ah ag ar ps s0 u a2 Own O A T fv tx sd) : h a2 = some (true, .inr (9, [.int sd])) := x.2.2.1
theorem GR.kc (x : GR c K h0 h ah ag ar ps s0 u a2 Own O A T fv tx sd) : KC c K h O := x.2.2.2.1
theorem GR.tb (x : GR c K h0 h ah ag ar ps s0 u a2 Own O A T fv tx sd) : TabV c h O A T fv := x.2.2.2.2.1
theorem GR.ow (x : GR c K h0 h ah ag ar ps s0 u a2 Own O A T fv tx sd) : OwnOK h O := x.2.2.2.2.2.1
theorem GR.fx (x : GR c K h0 h ah ag ar ps s0 u a2 Own O A T fv tx sd) : FX h0 h (fun b => LU c ah ag ar ps s0 u b ∨ b = a2) := x.2.2.2.2.2.2.1
theorem GR.nw (x : GR c K h0 h ah ag ar ps s0 u a2 Own O A T fv tx sd) : ∀ i, i < 6 → h0 (A i) = none := x.2.2.2.2.2.2.2.1
theorem GR.o1 (x : GR c K h0 h ah ag ar ps s0 u a2 Own O A T fv tx sd) : ∀ b, Own b → O b := x.2.2.2.2.2.2.2.2.1
theorem GR.o2 (x : GR c K h0 h ah ag ar ps s0 u a2 Own O A T fv tx sd) : ∀ b, O b → Own b ∨ h0 b = none := x.2.2.2.2.2.2.2.2.2
theorem GR.lo (x : GR c K h0 h ah ag ar ps s0 u a2 Own O A T fv tx sd) : ∀ b, LU c ah ag ar ps s0 u b → O b := fun b hb => x.o1 b (x.1.2.1 b hb)
theorem GR.o9 (x : GR c K h0 h ah ag ar ps s0 u a2 Own O A T fv tx sd) : O a2 := x.o1 _ x.1.2.2.1
theorem GR.nl (x : GR c K h0 h ah ag ar ps s0 u a2 Own O A T fv tx sd) {i : Nat} (hi : i < 6) : ¬ LU c ah ag ar ps s0 u (A i) := fun z => x.1.1 _ (x.1.2.1 _ z) (x.nw i hi)
theorem GR.n9 (x : GR c K h0 h ah ag ar ps s0 u a2 Own O A T fv tx sd) {i : Nat} (hi : i < 6) : ¬ A i = a2 := fun z => x.1.1 _ x.1.2.2.1 (z ▸ x.nw i hi)
theorem GR.str {b : Nat} {cs : List Nat} (x : GR c K h0 h ah ag ar ps s0 u a2 Own O A T fv tx sd) (s : StrX c h O b cs) : StrX c h (LU c ah ag ar ps s0 u) b cs := s.mv fun b _ hn => ⟨rfl, fun z => hn (x.lo b z)⟩
theorem GR.wr (x : GR c K h0 h ah ag ar ps s0 u a2 Own O A T fv tx sd) (w : WS c h' ah ag ar ps s0 u tx') (f : WFr c h h' ah ag ar ps s0 u) : GR c K h0 h' ah ag ar ps s0 u a2 Own O A T fv tx' sd := by
  have mm : ∀ b, ¬ h b = none → ¬ O b → h' b = h b ∧ ¬ O b := fun b _ hn => ⟨f.1 b fun z => hn (x.lo b z), hn⟩
  exact ⟨x.1, w, (f.1 _ x.1.2.2.2).trans x.rn, x.kc.mv mm, x.tb.mv (fun i hi => f.1 _ (x.nl hi)) x.tb.own mm, x.ow.dom f.2, x.fx.tr ⟨fun b _ hn => f.1 b fun z => hn (Or.inl z), f.2⟩, x.nw, x.o1, x.o2⟩
theorem GR.bel (x : GR c K h0 h ah ag ar ps s0 u a2 Own O A T fv tx sd) (ha : h' a2 = some (true, .inr (9, [.int sd']))) (f : FrB h h' a2) (d : HDom h h') : GR c K h0 h' ah ag ar ps s0 u a2 Own O A T fv tx sd' := by
  have mm : ∀ b, ¬ h b = none → ¬ O b → h' b = h b ∧ ¬ O b := fun b hb hn => ⟨f b hb fun z => hn (z ▸ x.o9), hn⟩
  exact ⟨x.1, x.ws.mv fun b hb hl => f b hb fun z => x.1.2.2.2 (z ▸ hl), ha, x.kc.mv mm, x.tb.mv (fun i hi => f _ (x.tb.def i hi) (x.n9 hi)) x.tb.own mm, x.ow.dom d, x.fx.tr ⟨fun b hb hn => f b hb fun z => hn (Or.inr z), d⟩, x.nw, x.o1, x.o2⟩
theorem GR.tab (x : GR c K h0 h ah ag ar ps s0 u a2 Own O A T fv tx sd) (t : TabV c h' O A T' fv') (f : TFr h h' A) (d : HDom h h') : GR c K h0 h' ah ag ar ps s0 u a2 Own O A T' fv' tx sd := by
  have mm : ∀ b, ¬ h b = none → ¬ O b → h' b = h b ∧ ¬ O b := fun b hb hn => ⟨f b hb fun i hi z => hn (z ▸ x.tb.own i hi), hn⟩
  refine ⟨x.1, x.ws.mv fun b hb hl => f b hb fun i hi z => x.nl hi (z ▸ hl), (f _ (by rw [x.rn]; simp) fun i hi z => x.n9 hi z.symm).trans x.rn, x.kc.mv mm, t, x.ow.dom d, ⟨fun b hb hn => ?_, x.fx.2.tr d⟩, x.nw, x.o1, x.o2⟩
  have e := x.fx.1 b hb hn
  exact (f b (by rw [e]; exact hb) fun i hi z => hb (z ▸ x.nw i hi)).trans e
theorem GR.ext (x : GR c K h0 h ah ag ar ps s0 u a2 Own O A T fv tx sd) (e : Ext h h') : GR c K h0 h' ah ag ar ps s0 u a2 Own O A T fv tx sd := by
  have mm : ∀ b, ¬ h b = none → ¬ O b → h' b = h b ∧ ¬ O b := fun b hb hn => ⟨e b hb, hn⟩
  exact ⟨x.1, x.ws.mv fun b hb _ => e b hb, e.at x.rn, x.kc.mv mm, x.tb.ext e, x.ow.dom e.dom, x.fx.tr e.fx, x.nw, x.o1, x.o2⟩
theorem GR.new {h1 h2 : HW} {q i : Nat} (x : GR c K h0 h ah ag ar ps s0 u a2 Own O A T fv tx sd) (e : Ext h h1) (hq : h q = none) (hq1 : ¬ h1 q = none) (t : TabV c h2 (OwnQ O q) (va_up A i q) T' fv') (f : FrB h1 h2 (A 0)) (d : HDom h1 h2) : GR c K h0 h2 ah ag ar ps s0 u a2 Own (OwnQ O q) (va_up A i q) T' fv' tx sd := by
  have y := x.ext e
  have nn : ∀ b, ¬ h1 b = none → ¬ b = A 0 → h2 b = h1 b := f
  have mm : ∀ b, ¬ h b = none → ¬ O b → h2 b = h b ∧ ¬ OwnQ O q b := fun b hb hn => by
    have e1 := e b hb
    exact ⟨(f b (by rw [e1]; exact hb) fun z => hn (z ▸ x.tb.own 0 (by omega))).trans e1, fun z => z.elim hn fun z => hb (z ▸ hq)⟩
  refine ⟨x.1, y.ws.mv fun b hb hl => f b hb fun z => x.nl (i := 0) (by omega) (z ▸ hl), (f _ (by rw [y.rn]; simp) fun z => x.n9 (i := 0) (by omega) z.symm).trans y.rn, x.kc.mv mm, t, (y.ow).q d fun z => hq1 (d _ z), ⟨fun b hb hn => ?_, y.fx.2.tr d⟩, fun j hj => ?_, fun b hb => Or.inl (x.o1 b hb), fun b hb => ?_⟩
  · have e1 := y.fx.1 b hb hn
    exact (f b (by rw [e1]; exact hb) fun z => hb (z ▸ x.nw 0 (by omega))).trans e1
  · by_cases hji : j = i
    · rw [hji, va_eq]; exact x.fx.2 q hq
    · rw [va_ne hji]; exact x.nw j hj
  · rcases hb with hb | rfl
    · exact x.o2 b hb
    · exact Or.inr (x.fx.2 _ hq)
theorem g_bel {n : Nat} {P : Int32 → HW → Prop} (x : GR c K h0 h ah ag ar ps s0 u a2 Own O A T fv tx sd) (hn : 0 < n) (hn2 : n < 2 ^ 31) (hp : ∀ h', GR c K h0 h' ah ag ar ps s0 u a2 Own O A T fv tx (nxt sd) → P (nI (mixN (nxt sd) % n)) h') : (∃ w fs, h a2 = some (w, .inr (9, fs))) ∧ w_X9_below c K h a2 (nI n) P :=
  ⟨⟨_, _, x.rn⟩, s_below x.rn hn hn2 fun h' a f d => hp h' (x.bel a f d)⟩
theorem g_pV {k : Nat} {v : Int32} {P : HW → Prop} (x : GR c K h0 h ah ag ar ps s0 u a2 Own O A T fv tx sd) (hk : k < 10) (hp : ∀ h', GR c K h0 h' ah ag ar ps s0 u a2 Own O A (sS T k v) fv tx sd → P h') : pV h (A 0) 10 k (.int v) P := t_pV x.tb hk fun h' t f d => hp h' (x.tab t f d)
theorem g_wr {i : Nat} {P : HW → Prop} (x : GR c K h0 h ah ag ar ps s0 u a2 Own O A T fv tx sd) (hi : i < 22) (hl : tx.length ≤ 470) (hp : ∀ h', GR c K h0 h' ah ag ar ps s0 u a2 Own O A T fv (tx ++ TXT.getD i []) sd → P h') : w_L_write c K h (ah 0) u (K.1 i) P :=
  s_write x.ws (x.str (x.kc.1 i hi)) (by have := TXT_len i; omega) fun h' w f => hp h' (x.wr w f)
theorem g_wn {n : Nat} {P : HW → Prop} (x : GR c K h0 h ah ag ar ps s0 u a2 Own O A T fv tx sd) (hn : n ≤ 9999) (hl : tx.length ≤ 470) (hp : ∀ h', GR c K h0 h' ah ag ar ps s0 u a2 Own O A T fv (tx ++ decL n) sd → P h') : w_L_writeNumber c K h (ah 0) u (nI n) P :=
  s_writeN x.ws hn (by omega) fun h' w f => hp h' (x.wr w f)
/-- a word and numbers out of a new array -/
theorem g_wa {h1 : HW} {i q n : Nat} {g : Nat → Int32} {v : Nat → Nat} {P : HW → Prop} (x : GR c K h0 h ah ag ar ps s0 u a2 Own O A T fv tx sd) (e : Ext h h1) (hq : h q = none) (hi : i < 22) (ha : h1 q = some (true, eI (c 0) n g)) (hg : ∀ k, k < n → g k = nI (v k) ∧ v k ≤ 9999) (hn : n ≤ 4) (hl : tx.length ≤ 440) (hp : ∀ h', GR c K h0 h' ah ag ar ps s0 u a2 Own O A T fv (tx ++ (TXT.getD i [] ++ numsX v n)) sd → P h') : w_L_writeAll c K h1 (ah 0) u (K.1 i) q P := by
  have y := x.ext e
  refine s_writeAll y.ws (y.str (y.kc.1 i hi)) (y.str (y.kc.1 10 (by omega))) ha (fun z => x.ow _ (x.lo _ z) hq) hg hn (by have := TXT_len i; omega) fun h' w f => hp h' (y.wr w f)
end GRS
