/-! a new table, and a copy of one -/
def FrB (h h' : HW) (a : Nat) : Prop := ∀ b, ¬ h b = none → ¬ b = a → h' b = h b
theorem FrB.rf {h : HW} {a : Nat} : FrB h h a := fun _ _ _ => rfl
theorem FrB.tr {h h1 h2 : HW} {a : Nat} (x : FrB h h1 a) (y : FrB h1 h2 a) : FrB h h2 a := fun b hb hn => by
  have q := x b hb hn
  exact (y b (by rw [q]; exact hb) hn).trans q
theorem Ext.frb {h h' : HW} {a : Nat} (e : Ext h h') : FrB h h' a := fun b hb _ => e b hb
theorem FrB.up {h : HW} {a : Nat} {e : va_E} : FrB h (hup h a e) a := fun b _ hn => hup_n hn
theorem FrB.at {h h' : HW} {a b : Nat} (f : FrB h h' a) {z : Bool × va_E} (hb : h b = some z) (hn : ¬ b = a) : h' b = some z := (f b (by rw [hb]; simp) hn).trans hb
theorem p_raw {h : HW} {a k : Nat} {fs : List Value} {v : Value} {P : HW → Prop} (ha : h a = some (true, .inr (10, fs))) (hk : k < fs.length) (hp : ∀ h', h' a = some (true, .inr (10, fs.set k v)) → FrB h h' a → HDom h h' → P h') : pV h a 10 k v P := ⟨fs, ha, hk, hp _ hup_s FrB.up HDom.up⟩
theorem a_nwI {h : HW} {cA : ClassId} {n mc ms : Nat} {P : Nat → HW → Nat → Nat → Prop} (hn : n ≤ 65536) (hc : 1 ≤ mc) (hs : n ≤ ms) (hp : ∀ (q : Nat) (h' : HW), h q = none → h' q = some (true, eI cA n (fun _ => 0)) → Ext h h' → P q h' (mc - 1) (ms - n)) : nwI h cA (nI n) mc ms P :=
  i_nwI hn hc hs fun q hq => hp q _ hq hup_s (Ext.new hq)
theorem a_nwL {h : HW} {cA : ClassId} {n mc ms : Nat} {P : Nat → HW → Nat → Nat → Prop} (hn : n ≤ 65536) (hc : 1 ≤ mc) (hs : n ≤ ms) (hp : ∀ (q : Nat) (h' : HW), h q = none → h' q = some (true, eL cA n (fun _ => 0)) → Ext h h' → P q h' (mc - 1) (ms - n)) : nwL h cA (nI n) mc ms P :=
  i_nwL hn hc hs fun q hq => hp q _ hq hup_s (Ext.new hq)
theorem a_nwM {c : Nat → ClassId} {h : HW} {Own : Nat → Prop} {n mc ms : Nat} {P : Nat → HW → Nat → Nat → Prop} (hO : OwnOK h Own) (hn : n ≤ 60000) (hc : 1 + n ≤ mc) (hs : n ≤ ms) (hp : ∀ (q : Nat) (h' : HW), h q = none → RowsAt c h' (fun b => Own b ∨ b = q) q (List.replicate n []) → Ext h h' → P q h' (mc - (1 + n)) (ms - n)) : nwM h (c 2) (c 0) (nI n) 0 mc ms P := by
  have e : (nI n).toNatClampNeg = n := nI_clamp (by omega)
  have e0 : (0 : Int32).toNatClampNeg = 0 := rfl
  refine ⟨nI_n0 (by omega), by decide, by rw [e]; omega, by decide, mc - (1 + n), ms - n, by rw [e]; omega, by rw [e, e0]; omega, ?_⟩
  rw [e, e0]
  intro q hq
  have hx : Ext h (hmul h (c 2) (c 0) q n 0) := fun b hb => by
    have h1 : ¬ q ≤ b := fun z => hb (hq b z)
    unfold hmul
    rw [if_neg (by omega), if_neg (by omega)]
  refine hp q _ (hq q (Nat.le_refl _)) ⟨fun i => if i < n then some (q + 1 + i) else none, ?_, fun i hi => ⟨q + 1 + i, if_pos (by rw [List.length_replicate] at hi; exact hi), ?_⟩⟩ hx
  · rw [List.length_replicate]
    unfold hmul
    rw [if_pos rfl]
  · rw [List.length_replicate] at hi
    have e1 : (List.replicate n ([] : List Nat)).getD i [] = [] := by rw [List.getD_eq_getElem?_getD, List.getElem?_replicate]; split <;> rfl
    rw [e1]
    refine ⟨⟨true, fun _ => 0, ?_, fun j hj => absurd hj (Nat.not_lt_zero _)⟩, ?_⟩
    · unfold hmul
      rw [if_neg (by omega), if_pos (by omega)]
      rfl
    · rintro (z | z)
      · exact hO _ z (hq _ (by omega))
      · omega
abbrev OwnQ (Own : Nat → Prop) (q : Nat) : Nat → Prop := fun b => Own b ∨ b = q
theorem OwnOK.q {h h' : HW} {Own : Nat → Prop} {q : Nat} (o : OwnOK h Own) (d : HDom h h') (hq : ¬ h' q = none) : OwnOK h' (OwnQ Own q) := by
  rintro b (hb | rfl)
  · exact fun z => o b hb (d b z)
  · exact hq
section NW
variable {c : Nat → ClassId} {K : (Nat → Nat) × (Nat → Nat)} {h h1 : HW} {Own : Nat → Prop} {A : Nat → Nat} {T : TT} {fv : Nat → Int64}
theorem va_ne {f : Nat → Nat} {k j v : Nat} (n : ¬ j = k) : va_up f k v j = f j := if_neg n
theorem va_eq {f : Nat → Nat} {k v : Nat} : va_up f k v k = v := if_pos rfl
/-- the moves of what is not the new place -/
theorem mvq {q : Nat} (e : Ext h h1) (hq : h q = none) : ∀ b, ¬ h b = none → ¬ Own b → h1 b = h b ∧ ¬ OwnQ Own q b := fun b hb hn => ⟨e b hb, fun z => z.elim hn (fun z => hb (z ▸ hq))⟩
theorem mv2 {q : Nat} {v : va_E} (t : TabV c h Own A T fv) (e : Ext h h1) (hq : h q = none) : ∀ b, ¬ h1 b = none → ¬ OwnQ Own q b → hup h1 (A 0) v b = h1 b ∧ ¬ OwnQ Own q b := fun b _ hn => ⟨hup_n (fun z => hn (Or.inl (z ▸ t.own 0 (by omega)))), hn⟩
theorem n_base {q i : Nat} {v : va_E} (t : TabV c h Own A T fv) (e : Ext h h1) (hq : h q = none) (hi : i < 6) : (∀ j, j < 6 → ¬ j = 0 → hup h1 (A 0) v (A j) = h (A j)) ∧ ¬ q = A 0 ∧ (∀ j, j < 6 → OwnQ Own q (va_up A i q j)) ∧ (∀ j k, j < 6 → k < 6 → va_up A i q j = va_up A i q k → j = k) := by
  have hne : ∀ j, j < 6 → ¬ q = A j := fun j hj z => t.def j hj (z ▸ hq)
  refine ⟨fun j hj h0 => (hup_n (fun z => h0 (t.inj j 0 hj (by omega) z))).trans (e _ (t.def j hj)), hne 0 (by omega), fun j hj => ?_, fun j k hj hk z => ?_⟩
  · by_cases hji : j = i
    · rw [hji, va_eq]; exact Or.inr rfl
    · rw [va_ne hji]; exact Or.inl (t.own j hj)
  · by_cases hji : j = i
    · by_cases hki : k = i
      · omega
      · rw [hji, va_eq, va_ne hki] at z; exact absurd z (hne k hk)
    · by_cases hki : k = i
      · rw [hki, va_eq, va_ne hji] at z; exact absurd z.symm (hne j hj)
      · rw [va_ne hji, va_ne hki] at z; exact t.inj j k hj hk z
theorem n_st10 {q : Nat} {L : List (List Nat)} {P : HW → Prop} (t : TabV c h Own A T fv) (e : Ext h h1) (hq : h q = none) (hr : RowsAt c h1 (OwnQ Own q) q L) (hL : L.length ≤ 60000) (hp : ∀ h2, TabV c h2 (OwnQ Own q) (va_up A 1 q) (sH T L) fv → FrB h1 h2 (A 0) → HDom h1 h2 → P h2) : pV h1 (A 0) 10 10 (.ref q) P := by
  obtain ⟨b1, b2, b3, b4⟩ := n_base (i := 1) (v := .inr (10, tabE (va_up A 1 q) T 0 none)) t e hq (by omega)
  have t0 := t
  obtain ⟨⟨st, tm, t1, t2, t3⟩, t4, t5, t6, t7, t8, t9, t10, t11, t12, t13, t14⟩ := t
  refine ⟨_, e.at t1, by show 10 < 17; omega, ?_⟩
  have B : ∀ (v : va_E) (j : Nat), j < 6 → ¬ j = 0 → hup h1 (A 0) v (A j) = h (A j) := fun v => (n_base (i := 1) (v := v) t0 e hq (by omega)).1
  rw [show (tabE A T st tm).set 10 (.ref q) = tabE (va_up A 1 q) (sH T L) st tm from rfl]
  have mm : ∀ (v : va_E) (b : Nat), ¬ h b = none → ¬ Own b → hup h1 (A 0) v b = h b ∧ ¬ OwnQ Own q b := fun v b hb hn => ⟨(hup_n (fun z : b = A 0 => hn (by rw [z]; exact t9 0 (by omega)))).trans (e b hb), (mvq e hq b hb hn).2⟩
  refine hp _ ⟨⟨st, tm, hup_s, t2.mv (mm _), t3.mv (mm _)⟩, ?_, t5.mv (B _ 2 (by omega) (by omega)), t6.mv (B _ 3 (by omega) (by omega)) (mm _), t7.mv (B _ 4 (by omega) (by omega)), (B _ 5 (by omega) (by omega)).trans t8, b3, b4, hL, t12, t13, t14⟩ FrB.up HDom.up
  exact hr.mv (hup_n b2) (mv2 t0 e hq)
theorem n_st11 {q : Nat} {L : List Int32} {P : HW → Prop} (t : TabV c h Own A T fv) (e : Ext h h1) (hq : h q = none) (hr : VecAt (c 0) h1 q L) (hL : L.length ≤ 60000) (hp : ∀ h2, TabV c h2 (OwnQ Own q) (va_up A 2 q) (sT T L) fv → FrB h1 h2 (A 0) → HDom h1 h2 → P h2) : pV h1 (A 0) 10 11 (.ref q) P := by
  obtain ⟨b1, b2, b3, b4⟩ := n_base (i := 2) (v := .inr (10, tabE A T 0 none)) t e hq (by omega)
  have t0 := t
  obtain ⟨⟨st, tm, t1, t2, t3⟩, t4, t5, t6, t7, t8, t9, t10, t11, t12, t13, t14⟩ := t
  refine ⟨_, e.at t1, by show 11 < 17; omega, ?_⟩
  have B : ∀ (v : va_E) (j : Nat), j < 6 → ¬ j = 0 → hup h1 (A 0) v (A j) = h (A j) := fun v => (n_base (i := 2) (v := v) t0 e hq (by omega)).1
  rw [show (tabE A T st tm).set 11 (.ref q) = tabE (va_up A 2 q) (sT T L) st tm from rfl]
  have mm : ∀ (v : va_E) (b : Nat), ¬ h b = none → ¬ Own b → hup h1 (A 0) v b = h b ∧ ¬ OwnQ Own q b := fun v b hb hn => ⟨(hup_n (fun z : b = A 0 => hn (by rw [z]; exact t9 0 (by omega)))).trans (e b hb), (mvq e hq b hb hn).2⟩
  exact hp _ ⟨⟨st, tm, hup_s, t2.mv (mm _), t3.mv (mm _)⟩, t4.mv (B _ 1 (by omega) (by omega)) (mm _), hr.mv (hup_n b2), t6.mv (B _ 3 (by omega) (by omega)) (mm _), t7.mv (B _ 4 (by omega) (by omega)), (B _ 5 (by omega) (by omega)).trans t8, b3, b4, t11, hL, t13, t14⟩ FrB.up HDom.up
theorem n_st12 {q : Nat} {L : List (List Nat)} {P : HW → Prop} (t : TabV c h Own A T fv) (e : Ext h h1) (hq : h q = none) (hr : RowsAt c h1 (OwnQ Own q) q L) (hL : L.length ≤ 60000) (hp : ∀ h2, TabV c h2 (OwnQ Own q) (va_up A 3 q) (sR T L) fv → FrB h1 h2 (A 0) → HDom h1 h2 → P h2) : pV h1 (A 0) 10 12 (.ref q) P := by
  obtain ⟨b1, b2, b3, b4⟩ := n_base (i := 3) (v := .inr (10, tabE A T 0 none)) t e hq (by omega)
  have t0 := t
  obtain ⟨⟨st, tm, t1, t2, t3⟩, t4, t5, t6, t7, t8, t9, t10, t11, t12, t13, t14⟩ := t
  refine ⟨_, e.at t1, by show 12 < 17; omega, ?_⟩
  have B : ∀ (v : va_E) (j : Nat), j < 6 → ¬ j = 0 → hup h1 (A 0) v (A j) = h (A j) := fun v => (n_base (i := 3) (v := v) t0 e hq (by omega)).1
  rw [show (tabE A T st tm).set 12 (.ref q) = tabE (va_up A 3 q) (sR T L) st tm from rfl]
  have mm : ∀ (v : va_E) (b : Nat), ¬ h b = none → ¬ Own b → hup h1 (A 0) v b = h b ∧ ¬ OwnQ Own q b := fun v b hb hn => ⟨(hup_n (fun z : b = A 0 => hn (by rw [z]; exact t9 0 (by omega)))).trans (e b hb), (mvq e hq b hb hn).2⟩
  exact hp _ ⟨⟨st, tm, hup_s, t2.mv (mm _), t3.mv (mm _)⟩, t4.mv (B _ 1 (by omega) (by omega)) (mm _), t5.mv (B _ 2 (by omega) (by omega)), hr.mv (hup_n b2) (mv2 t0 e hq), t7.mv (B _ 4 (by omega) (by omega)), (B _ 5 (by omega) (by omega)).trans t8, b3, b4, t11, t12, hL, t14⟩ FrB.up HDom.up
theorem n_st13 {q : Nat} {L : List Int32} {P : HW → Prop} (t : TabV c h Own A T fv) (e : Ext h h1) (hq : h q = none) (hr : VecAt (c 4) h1 q L) (hL : L.length ≤ 60000) (hp : ∀ h2, TabV c h2 (OwnQ Own q) (va_up A 4 q) (sO T L) fv → FrB h1 h2 (A 0) → HDom h1 h2 → P h2) : pV h1 (A 0) 10 13 (.ref q) P := by
  obtain ⟨b1, b2, b3, b4⟩ := n_base (i := 4) (v := .inr (10, tabE A T 0 none)) t e hq (by omega)
  have t0 := t
  obtain ⟨⟨st, tm, t1, t2, t3⟩, t4, t5, t6, t7, t8, t9, t10, t11, t12, t13, t14⟩ := t
  refine ⟨_, e.at t1, by show 13 < 17; omega, ?_⟩
  have B : ∀ (v : va_E) (j : Nat), j < 6 → ¬ j = 0 → hup h1 (A 0) v (A j) = h (A j) := fun v => (n_base (i := 4) (v := v) t0 e hq (by omega)).1
  rw [show (tabE A T st tm).set 13 (.ref q) = tabE (va_up A 4 q) (sO T L) st tm from rfl]
  have mm : ∀ (v : va_E) (b : Nat), ¬ h b = none → ¬ Own b → hup h1 (A 0) v b = h b ∧ ¬ OwnQ Own q b := fun v b hb hn => ⟨(hup_n (fun z : b = A 0 => hn (by rw [z]; exact t9 0 (by omega)))).trans (e b hb), (mvq e hq b hb hn).2⟩
  exact hp _ ⟨⟨st, tm, hup_s, t2.mv (mm _), t3.mv (mm _)⟩, t4.mv (B _ 1 (by omega) (by omega)) (mm _), t5.mv (B _ 2 (by omega) (by omega)), t6.mv (B _ 3 (by omega) (by omega)) (mm _), hr.mv (hup_n b2), (B _ 5 (by omega) (by omega)).trans t8, b3, b4, t11, t12, t13, hL⟩ FrB.up HDom.up
/-- a table that is made beside all that lay in h0 -/
def NewT (c : Nat → ClassId) (h0 h : HW) (Own : Nat → Prop) (A : Nat → Nat) (T : TT) : Prop := ∃ (Own' : Nat → Prop) (fv : Nat → Int64), TabV c h Own' A T fv ∧ Ext h0 h ∧ (∀ i, i < 6 → h0 (A i) = none) ∧ (∀ b, Own b → Own' b) ∧ (∀ b, Own' b → Own b ∨ h0 b = none) ∧ OwnOK h Own'
theorem NewT.q {h0 h1 h2 : HW} {q i : Nat} {T' : TT} {Own' : Nat → Prop} (t : TabV c h Own' A T fv) (x0 : Ext h0 h) (ha : ∀ i, i < 6 → h0 (A i) = none) (o1 : ∀ b, Own b → Own' b) (o2 : ∀ b, Own' b → Own b ∨ h0 b = none) (o3 : OwnOK h Own') (e : Ext h h1) (hq : h q = none) (hq1 : ¬ h1 q = none) (hi : ¬ i = 0) (t2 : TabV c h2 (OwnQ Own' q) (va_up A i q) T' fv) (f : FrB h1 h2 (A 0)) (d : HDom h1 h2) : NewT c h0 h2 Own (va_up A i q) T' := by
  refine ⟨_, _, t2, fun b hb => ?_, fun j hj => ?_, fun b hb => Or.inl (o1 b hb), fun b hb => ?_, ?_⟩
  · have q1 := x0 b hb
    have q2 := e b (by rw [q1]; exact hb)
    exact (f b (by rw [q2, q1]; exact hb) (fun z => hb (z ▸ ha 0 (by omega)))).trans (q2.trans q1)
  · by_cases hji : j = i
    · rw [hji, va_eq]; exact x0.none hq
    · rw [va_ne hji]; exact ha j hj
  · rcases hb with hb | rfl
    · exact o2 b hb
    · exact Or.inr (x0.none hq)
  · exact (o3.ext e).q d (fun z => hq1 (d _ z))
end NW
def fv0 : Nat → Int64 := fun _ => 0
def T0 : TT := (fun k => if k = 0 then 3 else if k = 1 then 1 else if k = 2 then 3 else if k = 3 then 1 else if k = 6 then -1 else 0, List.replicate 2 [], List.replicate 2 0, List.replicate 3 [], List.replicate 3 0, [], none)
abbrev fs0 : List Value := [.int 0, .int 0, .int 0, .int 0, .int 0, .int 0, .int 0, .int 0, .int 0, .int 0, .null, .null, .null, .null, .null, .null, .null]
theorem vec_new {cA : ClassId} {h : HW} {q n : Nat} (hq : h q = some (true, eI cA n (fun _ => 0))) : VecAt cA h q (List.replicate n 0) := by
  refine ⟨fun _ => 0, by rw [List.length_replicate]; exact hq, fun i hi => ?_⟩
  rw [List.getD_eq_getElem?_getD, List.getElem?_replicate]
  split <;> rfl
section TI2
variable {c : Nat → ClassId} {K : (Nat → Nat) × (Nat → Nat)} {h0 h : HW} {Own : Nat → Prop}
/-- the constructor of a table -/
theorem s_tinit {a mc ms : Nat} {post : HW → Prop} (ha : h a = some (true, .inr (10, fs0))) (e0 : Ext h0 h) (ha0 : h0 a = none) (hO : OwnOK h0 Own) (hc : 11 ≤ mc) (hs : 15 ≤ ms) (hp : ∀ (h' : HW) (A : Nat → Nat), A 0 = a → NewT c h0 h' Own A T0 → post h') : w_X10_init c K h a mc ms post := by
  unfold w_X10_init
  refine p_raw ha (by decide) fun h6 a6 f6 d6 => ?_
  refine p_raw a6 (by simp only [List.length_set]; decide) fun h11 a11 f11 d11 => ?_
  refine p_raw a11 (by simp only [List.length_set]; decide) fun h16 a16 f16 d16 => ?_
  refine p_raw a16 (by simp only [List.length_set]; decide) fun h21 a21 f21 d21 => ?_
  refine p_raw a21 (by simp only [List.length_set]; decide) fun h26 a26 f26 d26 => ?_
  have F26 : FrB h h26 a := (((f6.tr f11).tr f16).tr f21).tr f26
  have D26 : HDom h h26 := (((d6.tr d11).tr d16).tr d21).tr d26
  have hO26 : OwnOK h26 Own := (hO.ext e0).dom D26
  refine a_nwM (c := c) (n := 2) hO26 (by omega) (by omega) (by omega) fun q1 h32 n1 r1 e32 => ?_
  have ne1 : ¬ a = q1 := fun z => by rw [← z, a26] at n1; cases n1
  have a32 := e32.at a26
  refine p_raw a32 (by simp only [List.length_set]; decide) fun h36 a36 f36 d36 => ?_
  have r1q : ¬ h32 q1 = none := by obtain ⟨f, z, -⟩ := r1; rw [z]; simp
  refine a_nwI (n := 2) (by omega) (by omega) (by omega) fun q2 h41 n2 r2 e41 => ?_
  have ne2 : ¬ a = q2 := fun z => by rw [← z, a36] at n2; cases n2
  have a41 := e41.at a36
  refine p_raw a41 (by simp only [List.length_set]; decide) fun h43 a43 f43 d43 => ?_
  have hO43 : OwnOK h43 Own := hO26.dom (((e32.dom.tr d36).tr e41.dom).tr d43)
  refine a_nwM (c := c) (n := 3) hO43 (by omega) (by omega) (by omega) fun q3 h49 n3 r3 e49 => ?_
  have ne3 : ¬ a = q3 := fun z => by rw [← z, a43] at n3; cases n3
  have a49 := e49.at a43
  have r3q : ¬ h49 q3 = none := by obtain ⟨f, z, -⟩ := r3; rw [z]; simp
  refine p_raw a49 (by simp only [List.length_set]; decide) fun h53 a53 f53 d53 => ?_
  refine a_nwI (n := 3) (by omega) (by omega) (by omega) fun q4 h58 n4 r4 e58 => ?_
  have ne4 : ¬ a = q4 := fun z => by rw [← z, a53] at n4; cases n4
  have a58 := e58.at a53
  refine p_raw a58 (by simp only [List.length_set]; decide) fun h60 a60 f60 d60 => ?_
  refine a_nwI (n := 0) (by omega) (by omega) (by omega) fun q5 h65 n5 r5 e65 => ?_
  have ne5 : ¬ a = q5 := fun z => by rw [← z, a60] at n5; cases n5
  have a65 := e65.at a60
  refine p_raw a65 (by simp only [List.length_set]; decide) fun h67 a67 f67 d67 => ?_
  refine a_nwL (n := 5) (by omega) (by omega) (by omega) fun q6 h72 n6 r6 e72 => ?_
  have ne6 : ¬ a = q6 := fun z => by rw [← z, a67] at n6; cases n6
  have a72 := e72.at a67
  refine p_raw a72 (by simp only [List.length_set]; decide) fun h74 a74 f74 d74 => ?_
  -- what lies where, from each point to the end
  have G6 : FrB h72 h74 a := f74
  have G5 : FrB h65 h74 a := (f67.tr e72.frb).tr G6
  have G4 : FrB h58 h74 a := (f60.tr e65.frb).tr G5
  have G3 : FrB h49 h74 a := (f53.tr e58.frb).tr G4
  have G2 : FrB h41 h74 a := (f43.tr e49.frb).tr G3
  have G1 : FrB h32 h74 a := (f36.tr e41.frb).tr G2
  have E6 : HDom h72 h74 := d74
  have E5 : HDom h65 h67 := d67
  have x2 : HDom h32 h36 := d36
  have z12 : ¬ q1 = q2 := fun z => r1q (d36 _ (z ▸ n2))
  have k2 : ¬ h41 q2 = none := by rw [r2]; simp
  have c13 : HDom h32 h43 := (d36.tr e41.dom).tr d43
  have z13 : ¬ q1 = q3 := fun z => r1q (c13 _ (z ▸ n3))
  have z23 : ¬ q2 = q3 := fun z => k2 (d43 _ (z ▸ n3))
  have c34 : HDom h43 h53 := e49.dom.tr d53
  have z14 : ¬ q1 = q4 := fun z => r1q (c13 _ (c34 _ (z ▸ n4)))
  have z24 : ¬ q2 = q4 := fun z => k2 (d43 _ (c34 _ (z ▸ n4)))
  have z34 : ¬ q3 = q4 := fun z => r3q (d53 _ (z ▸ n4))
  have k4 : ¬ h58 q4 = none := by rw [r4]; simp
  have c46 : HDom h60 h67 := e65.dom.tr d67
  have c36 : HDom h53 h67 := (e58.dom.tr d60).tr c46
  have z16 : ¬ q1 = q6 := fun z => r1q (c13 _ (c34 _ (c36 _ (z ▸ n6))))
  have z26 : ¬ q2 = q6 := fun z => k2 (d43 _ (c34 _ (c36 _ (z ▸ n6))))
  have z36 : ¬ q3 = q6 := fun z => r3q (d53 _ (c36 _ (z ▸ n6)))
  have z46 : ¬ q4 = q6 := fun z => k4 (d60 _ (c46 _ (z ▸ n6)))
  have k5 : ¬ h65 q5 = none := by rw [r5]; simp
  have z15 : ¬ q1 = q5 := fun z => r1q (c13 _ (c34 _ (e58.none (d60 _ (z ▸ n5)))))
  have z25 : ¬ q2 = q5 := fun z => k2 (d43 _ (c34 _ (e58.none (d60 _ (z ▸ n5)))))
  have z35 : ¬ q3 = q5 := fun z => r3q (d53 _ (e58.none (d60 _ (z ▸ n5))))
  have z45 : ¬ q4 = q5 := fun z => k4 (d60 _ (z ▸ n5))
  have z56 : ¬ q5 = q6 := fun z => k5 (d67 _ (z ▸ n6))
  -- all of it is new
  have m1 : h0 q1 = none := e0.none (D26 _ n1)
  have D36 : HDom h h36 := (D26.tr e32.dom).tr d36
  have m2 : h0 q2 = none := e0.none (D36 _ n2)
  have D43 : HDom h h43 := (D36.tr e41.dom).tr d43
  have m3 : h0 q3 = none := e0.none (D43 _ n3)
  have D53 : HDom h h53 := D43.tr c34
  have m4 : h0 q4 = none := e0.none (D53 _ n4)
  have D60 : HDom h h60 := (D53.tr e58.dom).tr d60
  have m5 : h0 q5 = none := e0.none (D60 _ n5)
  have D67 : HDom h h67 := D60.tr c46
  have m6 : h0 q6 = none := e0.none (D67 _ n6)
  have D74 : HDom h h74 := (D67.tr e72.dom).tr d74
  have FF : FrB h h74 a := (F26.tr e32.frb).tr G1
  have X : Ext h0 h74 := fun b hb => by
    have y := e0 b hb
    exact (FF b (by rw [y]; exact hb) (fun z => hb (z ▸ ha0))).trans y
  have hOn : ∀ b, Own b → ¬ h0 b = none := hO
  refine hp h74 (fun i => match i with | 0 => a | 1 => q1 | 2 => q2 | 3 => q3 | 4 => q4 | _ => q6) rfl ⟨fun b => Own b ∨ b = a ∨ b = q1 ∨ b = q2 ∨ b = q3 ∨ b = q4 ∨ b = q6, fv0, ⟨⟨q5, none, a74, ⟨⟨true, _, G5.at r5 (fun z => ne5 z.symm), fun i hi => absurd hi (Nat.not_lt_zero _)⟩, ?_⟩, Or.inl ⟨rfl, rfl⟩⟩, ?_, ?_, ?_, ?_, ?_, ?_, ?_, by decide, by decide, by decide, by decide⟩, X, ?_, fun b hb => Or.inl hb, ?_, ?_⟩
  · rintro (z | z | z | z | z | z | z)
    · exact hOn _ z m5
    · exact ne5 z.symm
    · exact z15 z.symm
    · exact z25 z.symm
    · exact z35 z.symm
    · exact z45 z.symm
    · exact z56 z
  · obtain ⟨f, y1, y2⟩ := r1
    refine ⟨f, G1.at y1 (fun z => ne1 z.symm), fun i hi => ?_⟩
    obtain ⟨r, w1, w2⟩ := y2 i hi
    obtain ⟨⟨wb, g, w3, w4⟩, w5⟩ := w2
    have hrn : ¬ h32 r = none := by rw [w3]; simp
    have hra : ¬ r = a := fun z => by
      rw [z, a32] at w3; cases w3
    refine ⟨r, w1, ⟨wb, g, G1.at w3 hra, w4⟩, ?_⟩
    rintro (z | z | z | z | z | z | z)
    · exact w5 (Or.inl z)
    · exact hra z
    · exact w5 (Or.inr z)
    · exact hrn (d36 _ (z ▸ n2))
    · exact hrn (c13 _ (z ▸ n3))
    · exact hrn (c13 _ (c34 _ (z ▸ n4)))
    · exact hrn (c13 _ (c34 _ (c36 _ (z ▸ n6))))
  · exact (vec_new r2).mv (G2 _ k2 (fun z => ne2 z.symm))
  · obtain ⟨f, y1, y2⟩ := r3
    refine ⟨f, G3.at y1 (fun z => ne3 z.symm), fun i hi => ?_⟩
    obtain ⟨r, w1, w2⟩ := y2 i hi
    obtain ⟨⟨wb, g, w3, w4⟩, w5⟩ := w2
    have hrn : ¬ h49 r = none := by rw [w3]; simp
    have hra : ¬ r = a := fun z => by
      rw [z, a49] at w3; cases w3
    have hr12 : ∀ x, ¬ h43 x = none → ¬ r = x → True := fun _ _ _ => trivial
    refine ⟨r, w1, ⟨wb, g, G3.at w3 hra, w4⟩, ?_⟩
    rintro (z | z | z | z | z | z | z)
    · exact w5 (Or.inl z)
    · exact hra z
    · obtain ⟨f1, y11, -⟩ := r1
      have y12 : h49 q1 = some (true, eQ (c 2) (List.replicate 2 ([] : List Nat)).length f1) := e49.at ((f36.tr (e41.frb.tr f43)).at y11 (fun z => ne1 z.symm))
      rw [z, y12] at w3
      injection w3 with w3
      injection w3 with w6 w7
      injection w7 with w7
      injection w7 with w8 w9
      injection w9 with w10 w11
      cases w11
    · exact (by
        have y22 : h49 q2 = some (true, eI (c 0) 2 (fun _ => 0)) := e49.at (f43.at r2 (fun z => ne2 z.symm))
        rw [z, y22] at w3
        injection w3 with w3
        injection w3 with w6 w7
        injection w7 with w7
        injection w7 with w8 w9
        injection w9 with w10 w11
        have : ((List.replicate 3 ([] : List Nat)).getD i []).length = 0 := by rw [List.getD_eq_getElem?_getD, List.getElem?_replicate]; split <;> rfl
        omega)
    · exact w5 (Or.inr z)
    · exact hrn (d53 _ (z ▸ n4))
    · exact hrn (d53 _ (c36 _ (z ▸ n6)))
  · exact (vec_new r4).mv (G4 _ k4 (fun z => ne4 z.symm))
  · exact G6.at r6 (fun z => ne6 z.symm)
  · intro i hi
    rcases (show i = 0 ∨ i = 1 ∨ i = 2 ∨ i = 3 ∨ i = 4 ∨ i = 5 by omega) with rfl | rfl | rfl | rfl | rfl | rfl <;> simp
  · intro i j hi hj z
    rcases (show i = 0 ∨ i = 1 ∨ i = 2 ∨ i = 3 ∨ i = 4 ∨ i = 5 by omega) with rfl | rfl | rfl | rfl | rfl | rfl <;> rcases (show j = 0 ∨ j = 1 ∨ j = 2 ∨ j = 3 ∨ j = 4 ∨ j = 5 by omega) with rfl | rfl | rfl | rfl | rfl | rfl <;> first | rfl | exact absurd z (by assumption) | exact absurd z.symm (by assumption)
  · intro i hi
    rcases (show i = 0 ∨ i = 1 ∨ i = 2 ∨ i = 3 ∨ i = 4 ∨ i = 5 by omega) with rfl | rfl | rfl | rfl | rfl | rfl <;> assumption
  · rintro b (hb | rfl | rfl | rfl | rfl | rfl | rfl)
    · exact Or.inl hb
    all_goals exact Or.inr (by assumption)
  · rintro b (hb | rfl | rfl | rfl | rfl | rfl | rfl)
    · exact fun z => hO b hb (X.none z)
    · rw [a74]; simp
    · intro z
      obtain ⟨f, y1, -⟩ := r1
      rw [G1.at y1 (fun z => ne1 z.symm)] at z; cases z
    · rw [G2.at r2 (fun z => ne2 z.symm)]; simp
    · intro z
      obtain ⟨f, y1, -⟩ := r3
      rw [G3.at y1 (fun z => ne3 z.symm)] at z; cases z
    · rw [G4.at r4 (fun z => ne4 z.symm)]; simp
    · rw [G6.at r6 (fun z => ne6 z.symm)]; simp
end TI2
