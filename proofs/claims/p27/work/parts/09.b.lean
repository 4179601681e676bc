/-! a table of the law, where it lies in a map -/
def NT : Nat → Type
  | 0 => Nat × Nat
  | d + 1 => (Nat × Nat) × NT d × NT d
abbrev TM : Type := (d : Nat) × NT d
/-- numbers, hands, totals, trains, which are open, stock, term -/
abbrev TT : Type := (Nat → Int32) × List (List Nat) × List Int32 × List (List Nat) × List Int32 × List Nat × Option TM
abbrev tH (T : TT) : List (List Nat) := T.2.1
abbrev tT (T : TT) : List Int32 := T.2.2.1
abbrev tR (T : TT) : List (List Nat) := T.2.2.2.1
abbrev tO (T : TT) : List Int32 := T.2.2.2.2.1
abbrev tK (T : TT) : List Nat := T.2.2.2.2.2.1
abbrev tM (T : TT) : Option TM := T.2.2.2.2.2.2
abbrev hnd (T : TT) (p : Nat) : List Nat := (tH T).getD p []
abbrev trn (T : TT) (t : Nat) : List Nat := (tR T).getD t []
abbrev sS (T : TT) (k : Nat) (v : Int32) : TT := (upd T.1 k v, T.2)
abbrev sH (T : TT) (L : List (List Nat)) : TT := (T.1, L, T.2.2)
abbrev sT (T : TT) (L : List Int32) : TT := (T.1, T.2.1, L, T.2.2.2)
abbrev sR (T : TT) (L : List (List Nat)) : TT := (T.1, T.2.1, T.2.2.1, L, T.2.2.2.2)
abbrev sO (T : TT) (L : List Int32) : TT := (T.1, T.2.1, T.2.2.1, T.2.2.2.1, L, T.2.2.2.2.2)
abbrev sK (T : TT) (L : List Nat) : TT := (T.1, T.2.1, T.2.2.1, T.2.2.2.1, T.2.2.2.2.1, L, T.2.2.2.2.2.2)
abbrev sM (T : TT) (M : Option TM) : TT := (T.1, T.2.1, T.2.2.1, T.2.2.2.1, T.2.2.2.2.1, T.2.2.2.2.2.1, M)
/-- a leaf, or a node of which nothing is said but its two numbers -/
def LeafAt (h : HW) (Own : Nat → Prop) (a : Nat) (q : Nat × Nat) : Prop := (∃ (w : Bool) (ql qr : Option Nat), h a = some (w, .inr (8, [.int (nI q.1), .int (nI q.2), va_rf ql, va_rf qr]))) ∧ ¬ Own a ∧ (q.1 = 0 ∧ q.2 ≤ 9999 ∨ q.1 = 1 ∧ q.2 ≤ 4)
def NodeAt (h : HW) (Own : Nat → Prop) : (d : Nat) → Nat → NT d → Prop
  | 0, a, nd => LeafAt h Own a nd
  | d + 1, a, nd => LeafAt h Own a nd.1 ∨ (2 ≤ nd.1.1 ∧ nd.1.1 ≤ 5 ∧ ¬ Own a ∧ ∃ (w : Bool) (l r : Nat), h a = some (w, .inr (8, [.int (nI nd.1.1), .int (nI nd.1.2), .ref l, .ref r])) ∧ NodeAt h Own d l nd.2.1 ∧ NodeAt h Own d r nd.2.2)
def TermAt (h : HW) (Own : Nat → Prop) (o : Option Nat) (M : Option TM) : Prop := (o = none ∧ M = none) ∨ ∃ (a : Nat) (m : TM), o = some a ∧ M = some m ∧ m.1 ≤ 2 ∧ NodeAt h Own m.1 a m.2
theorem LeafAt.mv {h h' : HW} {Own Own' : Nat → Prop} {a : Nat} {q : Nat × Nat} (r : LeafAt h Own a q) (e : ∀ b, ¬ h b = none → ¬ Own b → h' b = h b ∧ ¬ Own' b) : LeafAt h' Own' a q := by
  obtain ⟨⟨w, ql, qr, h1⟩, h2, h3⟩ := r
  obtain ⟨g1, g2⟩ := e a (by rw [h1]; simp) h2
  exact ⟨⟨w, ql, qr, g1.trans h1⟩, g2, h3⟩
theorem NodeAt.mv {h h' : HW} {Own Own' : Nat → Prop} (e : ∀ b, ¬ h b = none → ¬ Own b → h' b = h b ∧ ¬ Own' b) : ∀ (d a : Nat) (nd : NT d), NodeAt h Own d a nd → NodeAt h' Own' d a nd
  | 0, a, nd, r => LeafAt.mv r e
  | d + 1, a, nd, r => by
    rcases r with r | ⟨r1, r2, r3, w, l, r, r4, r5, r6⟩
    · exact Or.inl (LeafAt.mv r e)
    · obtain ⟨g1, g2⟩ := e a (by rw [r4]; simp) r3
      exact Or.inr ⟨r1, r2, g2, w, l, r, g1.trans r4, NodeAt.mv e d l _ r5, NodeAt.mv e d r _ r6⟩
theorem TermAt.mv {h h' : HW} {Own Own' : Nat → Prop} {o : Option Nat} {M : Option TM} (r : TermAt h Own o M) (e : ∀ b, ¬ h b = none → ¬ Own b → h' b = h b ∧ ¬ Own' b) : TermAt h' Own' o M := by
  rcases r with r | ⟨a, m, r1, r2, r3, r4⟩
  · exact Or.inl r
  · exact Or.inr ⟨a, m, r1, r2, r3, NodeAt.mv e _ _ _ r4⟩
theorem RowAt.mv {c : Nat → ClassId} {h h' : HW} {Own Own' : Nat → Prop} {a : Nat} {l : List Nat} (r : RowAt c h Own a l) (e : ∀ b, ¬ h b = none → ¬ Own b → h' b = h b ∧ ¬ Own' b) : RowAt c h' Own' a l := by
  obtain ⟨⟨w, f, h1, h2⟩, h3⟩ := r
  obtain ⟨g1, g2⟩ := e a (by rw [h1]; simp) h3
  exact ⟨⟨w, f, g1.trans h1, h2⟩, g2⟩
def RowsAt (c : Nat → ClassId) (h : HW) (Own : Nat → Prop) (a : Nat) (L : List (List Nat)) : Prop := ∃ f : Nat → Option Nat, h a = some (true, eQ (c 2) L.length f) ∧ ∀ i, i < L.length → ∃ r, f i = some r ∧ RowAt c h Own r (L.getD i [])
def VecAt (cA : ClassId) (h : HW) (a : Nat) (l : List Int32) : Prop := ∃ f : Nat → Int32, h a = some (true, eI cA l.length f) ∧ ∀ i, i < l.length → f i = l.getD i 0
def tabE (A : Nat → Nat) (T : TT) (st : Nat) (tm : Option Nat) : List Value := [.int (T.1 0), .int (T.1 1), .int (T.1 2), .int (T.1 3), .int (T.1 4), .int (T.1 5), .int (T.1 6), .int (T.1 7), .int (T.1 8), .int (T.1 9), .ref (A 1), .ref (A 2), .ref (A 3), .ref (A 4), .ref st, va_rf tm, .ref (A 5)]
def TabV (c : Nat → ClassId) (h : HW) (Own : Nat → Prop) (A : Nat → Nat) (T : TT) (fv : Nat → Int64) : Prop :=
  (∃ (st : Nat) (tm : Option Nat), h (A 0) = some (true, .inr (10, tabE A T st tm)) ∧ RowAt c h Own st (tK T) ∧ TermAt h Own tm (tM T)) ∧
  RowsAt c h Own (A 1) (tH T) ∧ VecAt (c 0) h (A 2) (tT T) ∧ RowsAt c h Own (A 3) (tR T) ∧ VecAt (c 4) h (A 4) (tO T) ∧ h (A 5) = some (true, eL (c 1) 5 fv) ∧
  (∀ i, i < 6 → Own (A i)) ∧ (∀ i j, i < 6 → j < 6 → A i = A j → i = j) ∧ (tH T).length ≤ 60000 ∧ (tT T).length ≤ 60000 ∧ (tR T).length ≤ 60000 ∧ (tO T).length ≤ 60000
/-- nothing is written but the table's own places -/
def TFr (h h' : HW) (A : Nat → Nat) : Prop := ∀ b, ¬ h b = none → (∀ i, i < 6 → ¬ b = A i) → h' b = h b
def HDom (h h' : HW) : Prop := ∀ b, h' b = none → h b = none
theorem HDom.rf {h : HW} : HDom h h := fun _ q => q
theorem HDom.tr {h h1 h2 : HW} (x : HDom h h1) (y : HDom h1 h2) : HDom h h2 := fun b q => x b (y b q)
theorem HDom.up {h : HW} {a : Nat} {e : va_E} : HDom h (hup h a e) := fun b q => by
  by_cases hb : b = a
  · rw [hb, hup_s] at q; cases q
  · rwa [hup_n hb] at q
theorem Ext.dom {h h' : HW} (e : Ext h h') : HDom h h' := fun _ q => e.none q
theorem OwnOK.dom {h h' : HW} {Own : Nat → Prop} (o : OwnOK h Own) (e : HDom h h') : OwnOK h' Own := fun b hb q => o b hb (e b q)
theorem TFr.rf {h : HW} {A : Nat → Nat} : TFr h h A := fun _ _ _ => rfl
theorem TFr.tr {h h1 h2 : HW} {A : Nat → Nat} (x : TFr h h1 A) (y : TFr h1 h2 A) : TFr h h2 A := fun b hb hn => by
  have q := x b hb hn
  exact (y b (by rw [q]; exact hb) hn).trans q
theorem Ext.tfr {h h' : HW} {A : Nat → Nat} (e : Ext h h') : TFr h h' A := fun b hb _ => e b hb
theorem TFr.up {h : HW} {A : Nat → Nat} {i : Nat} (hi : i < 6) {e : va_E} : TFr h (hup h (A i) e) A := fun b _ hn => hup_n (hn i hi)
theorem RowsAt.mv {c : Nat → ClassId} {h h' : HW} {Own Own' : Nat → Prop} {a : Nat} {L : List (List Nat)} (r : RowsAt c h Own a L) (ha : h' a = h a) (e : ∀ b, ¬ h b = none → ¬ Own b → h' b = h b ∧ ¬ Own' b) : RowsAt c h' Own' a L := by
  obtain ⟨f, h1, h2⟩ := r
  refine ⟨f, ha.trans h1, fun i hi => ?_⟩
  obtain ⟨q, h3, h4⟩ := h2 i hi
  exact ⟨q, h3, h4.mv e⟩
theorem VecAt.mv {cA : ClassId} {h h' : HW} {a : Nat} {l : List Int32} (r : VecAt cA h a l) (ha : h' a = h a) : VecAt cA h' a l := by
  obtain ⟨f, h1, h2⟩ := r
  exact ⟨f, ha.trans h1, h2⟩
theorem TabV.own {c : Nat → ClassId} {h : HW} {Own : Nat → Prop} {A : Nat → Nat} {T : TT} {fv : Nat → Int64} (t : TabV c h Own A T fv) : ∀ i, i < 6 → Own (A i) := t.2.2.2.2.2.2.1
theorem TabV.inj {c : Nat → ClassId} {h : HW} {Own : Nat → Prop} {A : Nat → Nat} {T : TT} {fv : Nat → Int64} (t : TabV c h Own A T fv) : ∀ i j, i < 6 → j < 6 → A i = A j → i = j := t.2.2.2.2.2.2.2.1
theorem TabV.mv {c : Nat → ClassId} {h h' : HW} {Own Own' : Nat → Prop} {A : Nat → Nat} {T : TT} {fv : Nat → Int64} (t : TabV c h Own A T fv) (ha : ∀ i, i < 6 → h' (A i) = h (A i)) (hO : ∀ i, i < 6 → Own' (A i)) (e : ∀ b, ¬ h b = none → ¬ Own b → h' b = h b ∧ ¬ Own' b) : TabV c h' Own' A T fv := by
  obtain ⟨⟨st, tm, t1, t2, t3⟩, t4, t5, t6, t7, t8, t9, t10, t11⟩ := t
  exact ⟨⟨st, tm, (ha 0 (by omega)).trans t1, t2.mv e, t3.mv e⟩, t4.mv (ha 1 (by omega)) e, t5.mv (ha 2 (by omega)), t6.mv (ha 3 (by omega)) e, t7.mv (ha 4 (by omega)), (ha 5 (by omega)).trans t8, hO, t10, t11⟩
theorem TabV.def {c : Nat → ClassId} {h : HW} {Own : Nat → Prop} {A : Nat → Nat} {T : TT} {fv : Nat → Int64} (t : TabV c h Own A T fv) : ∀ i, i < 6 → ¬ h (A i) = none := by
  obtain ⟨⟨st, tm, t1, t2, t3⟩, ⟨f4, t4, -⟩, ⟨f5, t5, -⟩, ⟨f6, t6, -⟩, ⟨f7, t7, -⟩, t8, -⟩ := t
  intro i hi
  rcases (show i = 0 ∨ i = 1 ∨ i = 2 ∨ i = 3 ∨ i = 4 ∨ i = 5 by omega) with rfl | rfl | rfl | rfl | rfl | rfl
  · rw [t1]; simp
  · rw [t4]; simp
  · rw [t5]; simp
  · rw [t6]; simp
  · rw [t7]; simp
  · rw [t8]; simp
theorem TabV.ext {c : Nat → ClassId} {h h' : HW} {Own : Nat → Prop} {A : Nat → Nat} {T : TT} {fv : Nat → Int64} (t : TabV c h Own A T fv) (e : Ext h h') : TabV c h' Own A T fv :=
  t.mv (fun i hi => e _ (t.def i hi)) t.own (fun b hb hn => ⟨e b hb, hn⟩)
section TI
variable {c : Nat → ClassId} {h : HW} {Own : Nat → Prop} {A : Nat → Nat} {T : TT} {fv : Nat → Int64}
theorem t_gI {k : Nat} {P : Int32 → Prop} (t : TabV c h Own A T fv) (hk : k < 10) (hp : P (T.1 k)) : gI h (A 0) 10 k P := by
  obtain ⟨⟨st, tm, t1, -⟩, -⟩ := t
  refine ⟨true, _, T.1 k, t1, ?_, hp⟩
  rcases (show k = 0 ∨ k = 1 ∨ k = 2 ∨ k = 3 ∨ k = 4 ∨ k = 5 ∨ k = 6 ∨ k = 7 ∨ k = 8 ∨ k = 9 by omega) with rfl | rfl | rfl | rfl | rfl | rfl | rfl | rfl | rfl | rfl <;> rfl
theorem t_g10 {P : Nat → Prop} (t : TabV c h Own A T fv) (hp : P (A 1)) : gR h (A 0) 10 10 P := by
  obtain ⟨⟨st, tm, t1, -⟩, -⟩ := t
  exact ⟨true, _, _, t1, rfl, hp⟩
theorem t_g11 {P : Nat → Prop} (t : TabV c h Own A T fv) (hp : P (A 2)) : gR h (A 0) 10 11 P := by
  obtain ⟨⟨st, tm, t1, -⟩, -⟩ := t
  exact ⟨true, _, _, t1, rfl, hp⟩
theorem t_g12 {P : Nat → Prop} (t : TabV c h Own A T fv) (hp : P (A 3)) : gR h (A 0) 10 12 P := by
  obtain ⟨⟨st, tm, t1, -⟩, -⟩ := t
  exact ⟨true, _, _, t1, rfl, hp⟩
theorem t_g13 {P : Nat → Prop} (t : TabV c h Own A T fv) (hp : P (A 4)) : gR h (A 0) 10 13 P := by
  obtain ⟨⟨st, tm, t1, -⟩, -⟩ := t
  exact ⟨true, _, _, t1, rfl, hp⟩
theorem t_g16 {P : Nat → Prop} (t : TabV c h Own A T fv) (hp : P (A 5)) : gR h (A 0) 10 16 P := by
  obtain ⟨⟨st, tm, t1, -⟩, -⟩ := t
  exact ⟨true, _, _, t1, rfl, hp⟩
theorem t_g14 {P : Nat → Prop} (t : TabV c h Own A T fv) (hp : ∀ st, RowAt c h Own st (tK T) → P st) : gR h (A 0) 10 14 P := by
  obtain ⟨⟨st, tm, t1, t2, t3⟩, -⟩ := t
  exact ⟨true, _, _, t1, rfl, hp st t2⟩
theorem t_g15 {P : Option Nat → Prop} (t : TabV c h Own A T fv) (hp : ∀ tm, TermAt h Own tm (tM T) → P tm) : gQ h (A 0) 10 15 P := by
  obtain ⟨⟨st, tm, t1, t2, t3⟩, -⟩ := t
  exact ⟨true, _, _, t1, rfl, hp tm t3⟩
theorem t_rc (t : TabV c h Own A T fv) : ∃ w fs, h (A 0) = some (w, .inr (10, fs)) := by
  obtain ⟨⟨st, tm, t1, t2, t3⟩, -⟩ := t
  exact ⟨_, _, t1⟩
theorem mv_up {x : Nat} {e : va_E} (hx : Own x) : ∀ b, ¬ h b = none → ¬ Own b → hup h x e b = h b ∧ ¬ Own b := fun b _ hn => ⟨hup_n (fun z => hn (z ▸ hx)), hn⟩
/-- the table's own object is written -/
theorem t_w0 {T' : TT} {st : Nat} {tm : Option Nat} (t : TabV c h Own A T fv) (h2 : T'.2.1 = T.2.1) (h3 : T'.2.2.1 = T.2.2.1) (h4 : T'.2.2.2.1 = T.2.2.2.1) (h5 : T'.2.2.2.2.1 = T.2.2.2.2.1) (rs : RowAt c h Own st (tK T')) (rt : TermAt h Own tm (tM T')) : TabV c (hup h (A 0) (.inr (10, tabE A T' st tm))) Own A T' fv := by
  have hO := t.own 0 (by omega)
  have hne : ∀ i, i < 6 → ¬ i = 0 → hup h (A 0) (.inr (10, tabE A T' st tm)) (A i) = h (A i) := fun i hi h0 => hup_n (fun z => h0 (t.inj i 0 hi (by omega) z))
  obtain ⟨-, t4, t5, t6, t7, t8, t9, t10, t11⟩ := t
  refine ⟨⟨st, tm, hup_s, rs.mv (mv_up hO), rt.mv (mv_up hO)⟩, ?_, ?_, ?_, ?_, (hne 5 (by omega) (by omega)).trans t8, t9, t10, ?_⟩
  · rw [tH, h2]; exact t4.mv (hne 1 (by omega) (by omega)) (mv_up hO)
  · rw [tT, h3]; exact t5.mv (hne 2 (by omega) (by omega))
  · rw [tR, h4]; exact t6.mv (hne 3 (by omega) (by omega)) (mv_up hO)
  · rw [tO, h5]; exact t7.mv (hne 4 (by omega) (by omega))
  · rw [tH, tT, tR, tO, h2, h3, h4, h5]; exact t11
theorem t_pV {k : Nat} {v : Int32} {P : HW → Prop} (t : TabV c h Own A T fv) (hk : k < 10) (hp : ∀ h', TabV c h' Own A (sS T k v) fv → TFr h h' A → HDom h h' → P h') : pV h (A 0) 10 k (.int v) P := by
  have t0 := t
  obtain ⟨⟨st, tm, t1, t2, t3⟩, -⟩ := t
  refine ⟨_, t1, by show k < 17; omega, ?_⟩
  have e : (tabE A T st tm).set k (.int v) = tabE A (sS T k v) st tm := by
    rcases (show k = 0 ∨ k = 1 ∨ k = 2 ∨ k = 3 ∨ k = 4 ∨ k = 5 ∨ k = 6 ∨ k = 7 ∨ k = 8 ∨ k = 9 by omega) with rfl | rfl | rfl | rfl | rfl | rfl | rfl | rfl | rfl | rfl <;> rfl
  rw [e]
  exact hp _ (t_w0 t0 rfl rfl rfl rfl t2 t3) (TFr.up (by omega)) HDom.up
theorem t_pZ {k : Nat} {v : Int32} {P : HW → Prop} (t : TabV c h Own A T fv) (hk : k < 10) (hv : v = 0 ∨ v = 1) (hp : ∀ h', TabV c h' Own A (sS T k v) fv → TFr h h' A → HDom h h' → P h') : pZ h (A 0) 10 k v P := by
  obtain ⟨fs, h1, h2, h3⟩ := t_pV (v := v) t hk hp
  exact ⟨fs, h1, h2, hv, h3⟩
theorem t_p14 {r : Nat} {l : List Nat} {P : HW → Prop} (t : TabV c h Own A T fv) (hr : RowAt c h Own r l) (hp : ∀ h', TabV c h' Own A (sK T l) fv → TFr h h' A → HDom h h' → P h') : pV h (A 0) 10 14 (.ref r) P := by
  have t0 := t
  obtain ⟨⟨st, tm, t1, t2, t3⟩, -⟩ := t
  refine ⟨_, t1, by show 14 < 17; omega, ?_⟩
  rw [show (tabE A T st tm).set 14 (.ref r) = tabE A (sK T l) r tm from rfl]
  exact hp _ (t_w0 (T' := sK T l) t0 rfl rfl rfl rfl hr t3) (TFr.up (by omega)) HDom.up
theorem t_p15 {r : Nat} {m : TM} {P : HW → Prop} (t : TabV c h Own A T fv) (hm : m.1 ≤ 2) (hr : NodeAt h Own m.1 r m.2) (hp : ∀ h', TabV c h' Own A (sM T (some m)) fv → TFr h h' A → HDom h h' → P h') : pV h (A 0) 10 15 (.ref r) P := by
  have t0 := t
  obtain ⟨⟨st, tm, t1, t2, t3⟩, -⟩ := t
  refine ⟨_, t1, by show 15 < 17; omega, ?_⟩
  rw [show (tabE A T st tm).set 15 (.ref r) = tabE A (sM T (some m)) st (some r) from rfl]
  exact hp _ (t_w0 (T' := sM T (some m)) t0 rfl rfl rfl rfl t2 (Or.inr ⟨r, m, rfl, rfl, hm, hr⟩)) (TFr.up (by omega)) HDom.up
theorem t_lenH {P : Int32 → Prop} (t : TabV c h Own A T fv) (hp : P (nI (tH T).length)) : lenA h (c 2) (A 1) P := by
  obtain ⟨-, ⟨f, t4, -⟩, -⟩ := t
  exact i_len t4 hp
theorem t_lenR {P : Int32 → Prop} (t : TabV c h Own A T fv) (hp : P (nI (tR T).length)) : lenA h (c 2) (A 3) P := by
  obtain ⟨-, -, -, ⟨f, t4, -⟩, -⟩ := t
  exact i_len t4 hp
theorem t_lRH {p : Nat} {P : Nat → Prop} (t : TabV c h Own A T fv) (hk : p < (tH T).length) (hp : ∀ r, RowAt c h Own r (hnd T p) → P r) : lR h (c 2) (A 1) (nI p) P := by
  have hl := t.2.2.2.2.2.2.2.2.1
  obtain ⟨-, ⟨f, t4, t5⟩, -⟩ := t
  obtain ⟨r, h1, h2⟩ := t5 p hk
  exact i_lR t4 hk (by omega) h1 (hp r h2)
theorem t_lRR {p : Nat} {P : Nat → Prop} (t : TabV c h Own A T fv) (hk : p < (tR T).length) (hp : ∀ r, RowAt c h Own r (trn T p) → P r) : lR h (c 2) (A 3) (nI p) P := by
  have hl := t.2.2.2.2.2.2.2.2.2.2.1
  obtain ⟨-, -, -, ⟨f, t4, t5⟩, -⟩ := t
  obtain ⟨r, h1, h2⟩ := t5 p hk
  exact i_lR t4 hk (by omega) h1 (hp r h2)
theorem rows_set {f : Nat → Option Nat} {a p r : Nat} {L : List (List Nat)} {l : List Nat} (hO : Own a) (hk : p < L.length) (hf : ∀ i, i < L.length → ∃ r, f i = some r ∧ RowAt c h Own r (L.getD i [])) (hr : RowAt c h Own r l) : RowsAt c (hup h a (eQ (c 2) L.length (va_up f p (some r)))) Own a (L.set p l) := by
  refine ⟨va_up f p (some r), by rw [hup_s, List.length_set], fun i hi => ?_⟩
  rw [List.length_set] at hi
  by_cases hip : i = p
  · refine ⟨r, if_pos hip, ?_⟩
    have e : (L.set p l).getD i [] = l := by rw [hip, List.getD_eq_getElem?_getD, List.getElem?_set_self hk]; rfl
    rw [e]
    exact hr.mv (mv_up hO)
  · obtain ⟨q, g1, g2⟩ := hf i hi
    refine ⟨q, (if_neg hip).trans g1, ?_⟩
    have e : (L.set p l).getD i [] = L.getD i [] := by rw [List.getD_eq_getElem?_getD, List.getD_eq_getElem?_getD, List.getElem?_set_ne (fun z => hip z.symm)]
    rw [e]
    exact g2.mv (mv_up hO)
theorem t_stH {p r : Nat} {l : List Nat} {P : HW → Prop} (t : TabV c h Own A T fv) (hk : p < (tH T).length) (hr : RowAt c h Own r l) (hp : ∀ h', TabV c h' Own A (sH T ((tH T).set p l)) fv → TFr h h' A → HDom h h' → P h') : stA h (c 0) (c 2) (A 1) (nI p) r P := by
  have hO := t.own 1 (by omega)
  have hne : ∀ (e : va_E) (i : Nat), i < 6 → ¬ i = 1 → hup h (A 1) e (A i) = h (A i) := fun e i hi h0 => hup_n (fun z => h0 (t.inj i 1 hi (by omega) z))
  obtain ⟨⟨st, tm, t1, t2, t3⟩, ⟨f, t4, t4'⟩, t5, t6, t7, t8, t9, t10, t11, t12, t13, t14⟩ := t
  obtain ⟨⟨w, g, hr1, hr2⟩, hr3⟩ := id hr
  refine i_stA t4 hk (by omega) hr1 (hp _ ⟨⟨st, tm, (hne _ 0 (by omega) (by omega)).trans t1, t2.mv (mv_up hO), t3.mv (mv_up hO)⟩, rows_set hO hk t4' hr, t5.mv (hne _ 2 (by omega) (by omega)), t6.mv (hne _ 3 (by omega) (by omega)) (mv_up hO), t7.mv (hne _ 4 (by omega) (by omega)), (hne _ 5 (by omega) (by omega)).trans t8, t9, t10, by rw [List.length_set]; exact t11, t12, t13, t14⟩ (TFr.up (by omega)) HDom.up)
theorem t_stR {p r : Nat} {l : List Nat} {P : HW → Prop} (t : TabV c h Own A T fv) (hk : p < (tR T).length) (hr : RowAt c h Own r l) (hp : ∀ h', TabV c h' Own A (sR T ((tR T).set p l)) fv → TFr h h' A → HDom h h' → P h') : stA h (c 0) (c 2) (A 3) (nI p) r P := by
  have hO := t.own 3 (by omega)
  have hne : ∀ (e : va_E) (i : Nat), i < 6 → ¬ i = 3 → hup h (A 3) e (A i) = h (A i) := fun e i hi h0 => hup_n (fun z => h0 (t.inj i 3 hi (by omega) z))
  obtain ⟨⟨st, tm, t1, t2, t3⟩, t4, t5, ⟨f, t6, t6'⟩, t7, t8, t9, t10, t11, t12, t13, t14⟩ := t
  obtain ⟨⟨w, g, hr1, hr2⟩, hr3⟩ := id hr
  refine i_stA t6 hk (by omega) hr1 (hp _ ⟨⟨st, tm, (hne _ 0 (by omega) (by omega)).trans t1, t2.mv (mv_up hO), t3.mv (mv_up hO)⟩, t4.mv (hne _ 1 (by omega) (by omega)) (mv_up hO), t5.mv (hne _ 2 (by omega) (by omega)), rows_set hO hk t6' hr, t7.mv (hne _ 4 (by omega) (by omega)), (hne _ 5 (by omega) (by omega)).trans t8, t9, t10, t11, t12, by rw [List.length_set]; exact t13, t14⟩ (TFr.up (by omega)) HDom.up)
theorem vec_set {cA : ClassId} {f : Nat → Int32} {a p : Nat} {x : Int32} {l : List Int32} (hk : p < l.length) (hf : ∀ i, i < l.length → f i = l.getD i 0) : VecAt cA (hup h a (eI cA l.length (upd f p x))) a (l.set p x) := by
  refine ⟨upd f p x, by rw [hup_s, List.length_set], fun i hi => ?_⟩
  rw [List.length_set] at hi
  by_cases hip : i = p
  · have e : (l.set p x).getD i 0 = x := by rw [hip, List.getD_eq_getElem?_getD, List.getElem?_set_self hk]; rfl
    rw [e]
    exact if_pos hip
  · have e : (l.set p x).getD i 0 = l.getD i 0 := by rw [List.getD_eq_getElem?_getD, List.getD_eq_getElem?_getD, List.getElem?_set_ne (fun z => hip z.symm)]
    rw [e]
    exact (if_neg hip).trans (hf i hi)
theorem t_lT {p : Nat} {P : Int32 → Prop} (t : TabV c h Own A T fv) (hk : p < (tT T).length) (hp : P ((tT T).getD p 0)) : lI h (c 0) (A 2) (nI p) P := by
  obtain ⟨-, -, ⟨f, t4, t5⟩, -, -, -, -, -, -, t12, -⟩ := t
  exact i_lI t4 hk (by omega) (by rw [t5 p hk]; exact hp)
theorem t_lO {p : Nat} {P : Int32 → Prop} (t : TabV c h Own A T fv) (hk : p < (tO T).length) (hp : P ((tO T).getD p 0)) : lI h (c 4) (A 4) (nI p) P := by
  obtain ⟨-, -, -, -, ⟨f, t4, t5⟩, -, -, -, -, -, -, t12⟩ := t
  exact i_lI t4 hk (by omega) (by rw [t5 p hk]; exact hp)
theorem t_stT {p : Nat} {x : Int32} {P : HW → Prop} (t : TabV c h Own A T fv) (hk : p < (tT T).length) (hp : ∀ h', TabV c h' Own A (sT T ((tT T).set p x)) fv → TFr h h' A → HDom h h' → P h') : stI h (c 0) (A 2) (nI p) x P := by
  have hO := t.own 2 (by omega)
  have hne : ∀ (e : va_E) (i : Nat), i < 6 → ¬ i = 2 → hup h (A 2) e (A i) = h (A i) := fun e i hi h0 => hup_n (fun z => h0 (t.inj i 2 hi (by omega) z))
  obtain ⟨⟨st, tm, t1, t2, t3⟩, t4, ⟨f, t5, t5'⟩, t6, t7, t8, t9, t10, t11, t12, t13, t14⟩ := t
  refine i_stI t5 hk (by omega) (hp _ ⟨⟨st, tm, (hne _ 0 (by omega) (by omega)).trans t1, t2.mv (mv_up hO), t3.mv (mv_up hO)⟩, t4.mv (hne _ 1 (by omega) (by omega)) (mv_up hO), vec_set hk t5', t6.mv (hne _ 3 (by omega) (by omega)) (mv_up hO), t7.mv (hne _ 4 (by omega) (by omega)), (hne _ 5 (by omega) (by omega)).trans t8, t9, t10, t11, by rw [List.length_set]; exact t12, t13, t14⟩ (TFr.up (by omega)) HDom.up)
theorem t_stO {p : Nat} {x : Int32} {P : HW → Prop} (t : TabV c h Own A T fv) (hk : p < (tO T).length) (hx : x = 0 ∨ x = 1) (hp : ∀ h', TabV c h' Own A (sO T ((tO T).set p x)) fv → TFr h h' A → HDom h h' → P h') : stZ h (c 4) (A 4) (nI p) x P := by
  have hO := t.own 4 (by omega)
  have hne : ∀ (e : va_E) (i : Nat), i < 6 → ¬ i = 4 → hup h (A 4) e (A i) = h (A i) := fun e i hi h0 => hup_n (fun z => h0 (t.inj i 4 hi (by omega) z))
  obtain ⟨⟨st, tm, t1, t2, t3⟩, t4, t5, t6, ⟨f, t7, t7'⟩, t8, t9, t10, t11, t12, t13, t14⟩ := t
  refine i_stZ t7 hk (by omega) hx (hp _ ⟨⟨st, tm, (hne _ 0 (by omega) (by omega)).trans t1, t2.mv (mv_up hO), t3.mv (mv_up hO)⟩, t4.mv (hne _ 1 (by omega) (by omega)) (mv_up hO), t5.mv (hne _ 2 (by omega) (by omega)), t6.mv (hne _ 3 (by omega) (by omega)) (mv_up hO), vec_set hk t7', (hne _ 5 (by omega) (by omega)).trans t8, t9, t10, t11, t12, t13, by rw [List.length_set]; exact t14⟩ (TFr.up (by omega)) HDom.up)
theorem t_stV {k : Nat} {x : Int64} {P : HW → Prop} (t : TabV c h Own A T fv) (hk : k < 5) (hp : ∀ h', TabV c h' Own A T (vp_updL fv k x) → TFr h h' A → HDom h h' → P h') : stL h (c 1) (A 5) (nI k) x P := by
  have hO := t.own 5 (by omega)
  have hne : ∀ (e : va_E) (i : Nat), i < 6 → ¬ i = 5 → hup h (A 5) e (A i) = h (A i) := fun e i hi h0 => hup_n (fun z => h0 (t.inj i 5 hi (by omega) z))
  obtain ⟨⟨st, tm, t1, t2, t3⟩, t4, t5, t6, t7, t8, t9, t10, t11⟩ := t
  refine i_stL t8 hk (by omega) (hp _ ⟨⟨st, tm, (hne _ 0 (by omega) (by omega)).trans t1, t2.mv (mv_up hO), t3.mv (mv_up hO)⟩, t4.mv (hne _ 1 (by omega) (by omega)) (mv_up hO), t5.mv (hne _ 2 (by omega) (by omega)), t6.mv (hne _ 3 (by omega) (by omega)) (mv_up hO), t7.mv (hne _ 4 (by omega) (by omega)), hup_s, t9, t10, t11⟩ (TFr.up (by omega)) HDom.up)
end TI
