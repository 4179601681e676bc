/-! a copy of a table -/
def NewX (c : Nat → ClassId) (h0 h : HW) (Own Own' : Nat → Prop) (A : Nat → Nat) (T : TT) (fv : Nat → Int64) : Prop := TabV c h Own' A T fv ∧ Ext h0 h ∧ (∀ i, i < 6 → h0 (A i) = none) ∧ (∀ b, Own b → Own' b) ∧ (∀ b, Own' b → Own b ∨ h0 b = none) ∧ OwnOK h Own'
section XX2
variable {c : Nat → ClassId} {K : (Nat → Nat) × (Nat → Nat)} {h0 h h1 : HW} {Own Own' : Nat → Prop} {A : Nat → Nat} {T : TT} {fv : Nat → Int64}
theorem NewX.step {h' : HW} {T' : TT} {fv' : Nat → Int64} (x : NewX c h0 h Own Own' A T fv) (t : TabV c h' Own' A T' fv') (f : TFr h h' A) (d : HDom h h') : NewX c h0 h' Own Own' A T' fv' := by
  obtain ⟨t0, e, ha, o1, o2, o3⟩ := x
  refine ⟨t, fun b hb => ?_, ha, o1, o2, o3.dom d⟩
  have q := e b hb
  exact (f b (by rw [q]; exact hb) (fun i hi z => hb (z ▸ ha i hi))).trans q
theorem NewX.src {S : Nat → Nat} {TS : TT} {fs : Nat → Int64} (x : NewX c h0 h Own Own' A T fv) (t : TabV c h0 Own S TS fs) : TabV c h Own' S TS fs := by
  obtain ⟨t0, e, ha, o1, o2, o3⟩ := x
  exact t.mv (fun i hi => e _ (t.def i hi)) (fun i hi => o1 _ (t.own i hi)) (fun b hb hn => ⟨e b hb, fun z => (o2 b z).elim hn hb⟩)
theorem x_pV {k : Nat} {v : Int32} {P : HW → Prop} (x : NewX c h0 h Own Own' A T fv) (hk : k < 10) (hp : ∀ h', NewX c h0 h' Own Own' A (sS T k v) fv → P h') : pV h (A 0) 10 k (.int v) P := t_pV x.1 hk fun h' t f d => hp h' (x.step t f d)
theorem x_pZ {k : Nat} {v : Int32} {P : HW → Prop} (x : NewX c h0 h Own Own' A T fv) (hk : k < 10) (hv : v = 0 ∨ v = 1) (hp : ∀ h', NewX c h0 h' Own Own' A (sS T k v) fv → P h') : pZ h (A 0) 10 k v P := t_pZ x.1 hk hv fun h' t f d => hp h' (x.step t f d)
theorem x_p14 {r : Nat} {l : List Nat} {P : HW → Prop} (x : NewX c h0 h Own Own' A T fv) (hr : RowAt c h Own' r l) (hp : ∀ h', NewX c h0 h' Own Own' A (sK T l) fv → P h') : pV h (A 0) 10 14 (.ref r) P := t_p14 x.1 hr fun h' t f d => hp h' (x.step t f d)
theorem x_p15q {o : Option Nat} {M : Option TM} {P : HW → Prop} (x : NewX c h0 h Own Own' A T fv) (hr : TermAt h Own' o M) (hp : ∀ h', NewX c h0 h' Own Own' A (sM T M) fv → P h') : pV h (A 0) 10 15 (va_rf o) P := by
  have t0 := x.1
  obtain ⟨⟨st, tm, t1, t2, t3⟩, -⟩ := x.1
  refine ⟨_, t1, by show 15 < 17; omega, ?_⟩
  rw [show (tabE A T st tm).set 15 (va_rf o) = tabE A (sM T M) st o from rfl]
  exact hp _ (x.step (t_w0 (T' := sM T M) t0 rfl rfl rfl rfl t2 hr) (TFr.up (by omega)) HDom.up)
theorem NewX.q {h2 : HW} {q i : Nat} {T' : TT} {fv' : Nat → Int64} (x : NewX c h0 h Own Own' A T fv) (e : Ext h h1) (hq : h q = none) (hq1 : ¬ h1 q = none) (t2 : TabV c h2 (OwnQ Own' q) (va_up A i q) T' fv') (f : FrB h1 h2 (A 0)) (d : HDom h1 h2) : NewX c h0 h2 Own (OwnQ Own' q) (va_up A i q) T' fv' := by
  obtain ⟨t0, x0, ha, o1, o2, o3⟩ := x
  refine ⟨t2, fun b hb => ?_, fun j hj => ?_, fun b hb => Or.inl (o1 b hb), fun b hb => ?_, (o3.ext e).q d (fun z => hq1 (d _ z))⟩
  · have q1 := x0 b hb
    have q2 := e b (by rw [q1]; exact hb)
    exact (f b (by rw [q2, q1]; exact hb) (fun z => hb (z ▸ ha 0 (by omega)))).trans (q2.trans q1)
  · by_cases hji : j = i
    · rw [hji, va_eq]; exact x0.none hq
    · rw [va_ne hji]; exact ha j hj
  · rcases hb with hb | rfl
    · exact o2 b hb
    · exact Or.inr (x0.none hq)
theorem RowsAt.def {a : Nat} {L : List (List Nat)} (r : RowsAt c h Own a L) : ¬ h a = none := by
  obtain ⟨f, h1, -⟩ := r
  rw [h1]; simp
theorem VecAt.def {cA : ClassId} {a : Nat} {L : List Int32} (r : VecAt cA h a L) : ¬ h a = none := by
  obtain ⟨f, h1, -⟩ := r
  rw [h1]; simp
theorem x_st10 {q : Nat} {L : List (List Nat)} {P : HW → Prop} (x : NewX c h0 h Own Own' A T fv) (e : Ext h h1) (hq : h q = none) (hr : RowsAt c h1 (OwnQ Own' q) q L) (hL : L.length ≤ 60000) (hp : ∀ h2, NewX c h0 h2 Own (OwnQ Own' q) (va_up A 1 q) (sH T L) fv → P h2) : pV h1 (A 0) 10 10 (.ref q) P :=
  n_st10 x.1 e hq hr hL fun h2 t2 f2 d2 => hp h2 (x.q e hq hr.def t2 f2 d2)
theorem x_st11 {q : Nat} {L : List Int32} {P : HW → Prop} (x : NewX c h0 h Own Own' A T fv) (e : Ext h h1) (hq : h q = none) (hr : VecAt (c 0) h1 q L) (hL : L.length ≤ 60000) (hp : ∀ h2, NewX c h0 h2 Own (OwnQ Own' q) (va_up A 2 q) (sT T L) fv → P h2) : pV h1 (A 0) 10 11 (.ref q) P :=
  n_st11 x.1 e hq hr hL fun h2 t2 f2 d2 => hp h2 (x.q e hq hr.def t2 f2 d2)
theorem x_st12 {q : Nat} {L : List (List Nat)} {P : HW → Prop} (x : NewX c h0 h Own Own' A T fv) (e : Ext h h1) (hq : h q = none) (hr : RowsAt c h1 (OwnQ Own' q) q L) (hL : L.length ≤ 60000) (hp : ∀ h2, NewX c h0 h2 Own (OwnQ Own' q) (va_up A 3 q) (sR T L) fv → P h2) : pV h1 (A 0) 10 12 (.ref q) P :=
  n_st12 x.1 e hq hr hL fun h2 t2 f2 d2 => hp h2 (x.q e hq hr.def t2 f2 d2)
theorem x_st13 {q : Nat} {L : List Int32} {P : HW → Prop} (x : NewX c h0 h Own Own' A T fv) (e : Ext h h1) (hq : h q = none) (hr : VecAt (c 4) h1 q L) (hL : L.length ≤ 60000) (hp : ∀ h2, NewX c h0 h2 Own (OwnQ Own' q) (va_up A 4 q) (sO T L) fv → P h2) : pV h1 (A 0) 10 13 (.ref q) P :=
  n_st13 x.1 e hq hr hL fun h2 t2 f2 d2 => hp h2 (x.q e hq hr.def t2 f2 d2)
theorem rows_cl {q src : Nat} {L : List (List Nat)} {f : Nat → Option Nat} (hq : h q = none) (hf : ∀ i, i < L.length → ∃ r, f i = some r ∧ RowAt c h Own' r (L.getD i [])) : RowsAt c (hup h q (eQ (c 2) L.length f)) (OwnQ Own' q) q L := by
  refine ⟨f, hup_s, fun i hi => ?_⟩
  obtain ⟨r, h3, h4⟩ := hf i hi
  exact ⟨r, h3, h4.mv (mvq (Ext.new hq) hq)⟩
theorem x_cl10 {src mc ms : Nat} {L : List (List Nat)} {P : HW → Nat → Nat → Prop} (x : NewX c h0 h Own Own' A T fv) (rs : RowsAt c h Own' src L) (hL : L.length ≤ 60000) (hc : 1 ≤ mc) (hs : L.length ≤ ms) (hp : ∀ h2 Own2 A2, A2 0 = A 0 → NewX c h0 h2 Own Own2 A2 (sH T L) fv → P h2 (mc - 1) (ms - L.length)) : clQ h (c 2) src mc ms (fun q n h1 mB zB => pV h1 (A 0) 10 10 (.ref q) (fun h2 => P h2 mB zB)) := by
  obtain ⟨f, r1, r2⟩ := rs
  refine ⟨true, L.length, f, r1, mc - 1, ms - L.length, by omega, by omega, fun q hq => ?_⟩
  exact x_st10 x (Ext.new hq) hq (rows_cl (src := src) hq r2) hL fun h2 x2 => hp h2 _ _ (va_ne (by omega)) x2
theorem x_cl12 {src mc ms : Nat} {L : List (List Nat)} {P : HW → Nat → Nat → Prop} (x : NewX c h0 h Own Own' A T fv) (rs : RowsAt c h Own' src L) (hL : L.length ≤ 60000) (hc : 1 ≤ mc) (hs : L.length ≤ ms) (hp : ∀ h2 Own2 A2, A2 0 = A 0 → NewX c h0 h2 Own Own2 A2 (sR T L) fv → P h2 (mc - 1) (ms - L.length)) : clQ h (c 2) src mc ms (fun q n h1 mB zB => pV h1 (A 0) 10 12 (.ref q) (fun h2 => P h2 mB zB)) := by
  obtain ⟨f, r1, r2⟩ := rs
  refine ⟨true, L.length, f, r1, mc - 1, ms - L.length, by omega, by omega, fun q hq => ?_⟩
  exact x_st12 x (Ext.new hq) hq (rows_cl (src := src) hq r2) hL fun h2 x2 => hp h2 _ _ (va_ne (by omega)) x2
theorem x_cl11 {src mc ms : Nat} {L : List Int32} {P : HW → Nat → Nat → Prop} (x : NewX c h0 h Own Own' A T fv) (rs : VecAt (c 0) h src L) (hL : L.length ≤ 60000) (hc : 1 ≤ mc) (hs : L.length ≤ ms) (hp : ∀ h2 Own2 A2, A2 0 = A 0 → NewX c h0 h2 Own Own2 A2 (sT T L) fv → P h2 (mc - 1) (ms - L.length)) : clI h (c 0) src mc ms (fun q n h1 mB zB => pV h1 (A 0) 10 11 (.ref q) (fun h2 => P h2 mB zB)) := by
  obtain ⟨f, r1, r2⟩ := rs
  refine ⟨true, L.length, f, r1, mc - 1, ms - L.length, by omega, by omega, fun q hq => ?_⟩
  exact x_st11 x (Ext.new hq) hq ⟨f, hup_s, r2⟩ hL fun h2 x2 => hp h2 _ _ (va_ne (by omega)) x2
theorem x_cl13 {src mc ms : Nat} {L : List Int32} {P : HW → Nat → Nat → Prop} (x : NewX c h0 h Own Own' A T fv) (rs : VecAt (c 4) h src L) (h01 : ∀ i, i < L.length → L.getD i 0 = 0 ∨ L.getD i 0 = 1) (hL : L.length ≤ 60000) (hc : 1 ≤ mc) (hs : L.length ≤ ms) (hp : ∀ h2 Own2 A2, A2 0 = A 0 → NewX c h0 h2 Own Own2 A2 (sO T L) fv → P h2 (mc - 1) (ms - L.length)) : clF .boolean h (c 4) src mc ms (fun q n h1 mB zB => pV h1 (A 0) 10 13 (.ref q) (fun h2 => P h2 mB zB)) := by
  obtain ⟨f, r1, r2⟩ := rs
  refine ⟨true, L.length, f, r1, fun i hi => by rw [r2 i hi]; exact z01_f (h01 i hi), mc - 1, ms - L.length, by omega, by omega, fun q hq => ?_⟩
  exact x_st13 x (Ext.new hq) hq ⟨f, hup_s, r2⟩ hL fun h2 x2 => hp h2 _ _ (va_ne (by omega)) x2
end XX2
section CP
variable {c : Nat → ClassId} {K : (Nat → Nat) × (Nat → Nat)} {h : HW} {Own : Nat → Prop} {S : Nat → Nat} {T : TT} {fs : Nat → Int64} {mx np hs hb tn pa : Nat}
theorem s_copy {mc ms : Nat} {post : Option Nat → HW → Prop} (t : TabV c h Own S T fs) (hO : OwnOK h Own) (w : TW T mx np hs hb tn pa) (hc : 16 ≤ mc) (hs9 : 60 ≤ ms) (hp : ∀ (h' : HW) (A : Nat → Nat), NewT c h h' Own A T → post (some (A 0)) h') : w_X10_copy c K h (S 0) mc ms post := by
  have hnp := w.np
  unfold w_X10_copy
  refine ⟨mc - 1, ms - 17, by omega, by omega, fun q0 hq0 => ?_⟩
  refine ⟨11, 15, mc - 12, ms - 32, by omega, by omega, ?_⟩
  refine s_tinit hup_s (Ext.new hq0) hq0 hO (Nat.le_refl _) (Nat.le_refl _) fun h4 A hA0 hN => ?_
  obtain ⟨Own', fv, x0⟩ := hN
  have x0 : NewX c h h4 Own Own' A T0 fv := x0
  subst hA0
  refine t_gI (x0.src t) (by omega) (x_pV x0 (by omega) fun h1 x1 => ?_)
  refine t_gI (x1.src t) (by omega) (x_pV x1 (by omega) fun h2 x2 => ?_)
  refine t_gI (x2.src t) (by omega) (x_pV x2 (by omega) fun h3 x3 => ?_)
  refine t_gI (x3.src t) (by omega) (x_pV x3 (by omega) fun h5 x5 => ?_)
  refine t_gI (x5.src t) (by omega) (x_pV x5 (by omega) fun h6 x6 => ?_)
  refine t_gI (x6.src t) (by omega) (x_pZ x6 (by omega) w.dr fun h7 x7 => ?_)
  refine t_gI (x7.src t) (by omega) (x_pV x7 (by omega) fun h8 x8 => ?_)
  refine t_gI (x8.src t) (by omega) (x_pZ x8 (by omega) w.ov fun h9 x9 => ?_)
  refine t_gI (x9.src t) (by omega) (x_pV x9 (by omega) fun h10 x10 => ?_)
  refine t_gI (x10.src t) (by omega) (x_pV x10 (by omega) fun h11 x11 => ?_)
  refine t_g10 (x11.src t) (x_cl10 (P := fun h99 mB93 zB93 => gR h99 (S 0) 10 11 _) x11 (x11.src t).2.1 (by omega) (by omega) (by omega) fun h12 Own12 A12 e12 x12 => ?_)
  rw [← e12]
  refine t_g11 (x12.src t) (x_cl11 (P := fun h99 mB93 zB93 => gR h99 (S 0) 10 12 _) x12 (x12.src t).2.2.1 (by omega) (by omega) (by omega) fun h13 Own13 A13 e13 x13 => ?_)
  rw [← e13]
  refine t_g12 (x13.src t) (x_cl12 (P := fun h99 mB93 zB93 => gR h99 (S 0) 10 13 _) x13 (x13.src t).2.2.2.1 (by omega) (by omega) (by omega) fun h14 Own14 A14 e14 x14 => ?_)
  rw [← e14]
  refine t_g13 (x14.src t) (x_cl13 (P := fun h99 mB93 zB93 => gR h99 (S 0) 10 14 _) x14 (x14.src t).2.2.2.2.1 (fun i hi => w.O i (by omega)) (by omega) (by omega) (by omega) fun h15 Own15 A15 e15 x15 => ?_)
  rw [← e15]
  refine t_g14 (x15.src t) fun st hst => x_p14 x15 hst fun h16 x16 => ?_
  refine t_g15 (x16.src t) fun tm htm => x_p15q x16 htm fun h17 x17 => ?_
  refine hp h17 A15 ⟨Own15, fv, ?_⟩
  have e : (upd (upd (upd (upd (upd (upd (upd (upd (upd (upd T0.1 0 (T.1 0)) 1 (T.1 1)) 2 (T.1 2)) 3 (T.1 3)) 4 (T.1 4)) 5 (T.1 5)) 6 (T.1 6)) 7 (T.1 7)) 8 (T.1 8)) 9 (T.1 9), T.2) = T → True := fun _ => trivial
  obtain ⟨tt, r2⟩ := x17
  obtain ⟨⟨st2, tm2, y1, y2, y3⟩, r3⟩ := tt
  exact ⟨⟨⟨st2, tm2, y1, y2, y3⟩, r3⟩, r2⟩
end CP
