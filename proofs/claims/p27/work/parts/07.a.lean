/-! worlds as maps: what lies at an address, and whether it may be written; rows of the instructions over them -/
abbrev HW : Type := Nat → Option (Bool × va_E)
def hup (h : HW) (a : Nat) (e : va_E) : HW := fun b => if b = a then some (true, e) else h b
theorem hup_s {h : HW} {a : Nat} {e : va_E} : hup h a e a = some (true, e) := if_pos rfl
theorem hup_n {h : HW} {a b : Nat} {e : va_E} (n : ¬ b = a) : hup h a e b = h b := if_neg n
/-- what a map may hold that is not to be written: the texts and the three statics, by their contents -/
def RO (K : (Nat → Nat) × (Nat → Nat)) (a : Nat) (e : va_E) : Prop :=
  (∃ i, i < 22 ∧ a = K.1 i ∧ e = .inr (11, [.ref (K.2 i), .int 0])) ∨ (∃ i, i < 22 ∧ a = K.2 i ∧ e = .inl (K.1 50, LENS.getD i 0, .inl (fun j => (BYTS.getD i []).getD j 0))) ∨ (a = K.1 30 ∧ e = .inl (K.1 51, 5, .inr (.inr (.inr (.inr (fun j => some (K.1 (5 + j)))))))) ∨ (a = K.1 31 ∧ e = .inl (K.1 50, 100, .inl dg_T)) ∨ (a = K.1 32 ∧ e = .inl (K.1 50, 100, .inl dg_O))
def mAt (G : va_G) (K : (Nat → Nat) × (Nat → Nat)) (a : Nat) (w : Bool) (e : va_E) (H : Heap) : Prop := match w with
  | true => va_at G vwCl (a, e) H
  | false => a < H.size ∧ RO K a e
theorem mAt.lt {G : va_G} {K : (Nat → Nat) × (Nat → Nat)} {a : Nat} {w : Bool} {e : va_E} {H : Heap} (h : mAt G K a w e H) : a < H.size := match w, h with
  | true, h => va_at.lt h
  | false, h => h.1
theorem mAt.kept {G : va_G} {K : (Nat → Nat) × (Nat → Nat)} {a : Nat} {w : Bool} {e : va_E} {H H1 : Heap} (h : mAt G K a w e H) (hq : H1[a]? = H[a]?) : mAt G K a w e H1 := match w, h with
  | true, h => va_at.kept h hq
  | false, h => ⟨by rw [Array.getElem?_eq_getElem h.1] at hq; exact (Array.getElem?_eq_some_iff.mp hq).1, h.2⟩
def mP (G : va_G) (K : (Nat → Nat) × (Nat → Nat)) (h : HW) (H : Heap) : Prop := ∀ (a : Nat) (w : Bool) (e : va_E), h a = some (w, e) → mAt G K a w e H
def mD (A : Nat → Prop) (h : HW) : Prop := ∀ (a : Nat) (e : va_E), h a = some (true, e) → A a
def mA (h : HW) (sz : Nat) : Nat → Prop := fun q => (∃ e, h q = some (true, e)) ∨ sz ≤ q
theorem mP.lt {G : va_G} {K : (Nat → Nat) × (Nat → Nat)} {h : HW} {H : Heap} (hP : mP G K h H) {a : Nat} {w : Bool} {e : va_E} (ha : h a = some (w, e)) : a < H.size := (hP a w e ha).lt
theorem mP.kept {G : va_G} {K : (Nat → Nat) × (Nat → Nat)} {h : HW} {H H1 : Heap} (hP : mP G K h H) (hq : ∀ q : Nat, q < H.size → H1[q]? = H[q]?) : mP G K h H1 := fun a w e ha => (hP a w e ha).kept (hq a (hP.lt ha))
theorem mP.set {G : va_G} {K : (Nat → Nat) × (Nat → Nat)} {h : HW} {H H1 : Heap} (hP : mP G K h H) {a : Nat} {e : va_E} (he : va_at G vwCl (a, e) H1) (oq : ∀ q : Nat, q ≠ a → H1[q]? = H[q]?) : mP G K (hup h a e) H1 := by
  intro b w e2 hb
  by_cases hba : b = a
  · subst hba
    rw [hup_s] at hb
    cases hb
    exact he
  · rw [hup_n hba] at hb
    exact (hP b w e2 hb).kept (oq b hba)
theorem mD.set {A : Nat → Prop} {h : HW} (hD : mD A h) {a : Nat} {e : va_E} (ha : A a) : mD A (hup h a e) := by
  intro b e2 hb
  by_cases hba : b = a
  · subst hba; exact ha
  · rw [hup_n hba] at hb
    exact hD b e2 hb
theorem mD.self {h : HW} {sz : Nat} : mD (mA h sz) h := fun _ e hb => Or.inl ⟨e, hb⟩
theorem mP.one {G : va_G} {K : (Nat → Nat) × (Nat → Nat)} {h : HW} {H : Heap} (hP : mP G K h H) {a : Nat} {e : va_E} (ha : h a = some (true, e)) : va_P G vwCl [(a, e)] H := by
  intro k q hk
  match k, hk with
  | 0, hk => cases hk; exact hP a true e ha
  | k + 1, hk => simp at hk
theorem mP.new {G : va_G} {K : (Nat → Nat) × (Nat → Nat)} {h : HW} {H H1 : Heap} (hP : mP G K h H) {e : va_E} (he : va_at G vwCl (H.size, e) H1) (oq : ∀ q : Nat, q < H.size → H1[q]? = H[q]?) : mP G K (hup h H.size e) H1 ∧ h H.size = none := by
  have hn : h H.size = none := by
    cases hh : h H.size with
    | none => rfl
    | some z => exact absurd (hP.lt (w := z.1) (e := z.2) hh) (Nat.lt_irrefl _)
  refine ⟨fun b w e2 hb => ?_, hn⟩
  by_cases hba : b = H.size
  · subst hba
    rw [hup_s] at hb
    cases hb
    exact he
  · rw [hup_n hba] at hb
    exact (hP b w e2 hb).kept (oq b (hP.lt hb))
theorem mS.new {A : Nat → Prop} {H0 H H1 : Heap} {locs : List Loc} (hS : va_S A H0 H locs) (z : H.size ≤ H1.size) (oq : ∀ q : Nat, q < H.size → H1[q]? = H[q]?) : va_S A H0 H1 locs := ⟨Nat.le_trans hS.1 z, fun x h1 h2 => (oq x (Nat.lt_of_lt_of_le h1 hS.1)).trans (hS.2.1 x h1 h2), hS.2.2⟩
/-- what any entry says of the heap, also one that is not to be written -/
def va_xv (x : vp_A) (j : Nat) : Value := match x.2 with
  | .inl f => .int (f j)
  | .inr (.inl f) => .long (f j)
  | .inr (.inr (.inl f)) => .float (f j)
  | .inr (.inr (.inr (.inl f))) => .double (f j)
  | .inr (.inr (.inr (.inr f))) => va_rf (f j)
def wkA (s : State) (H : Heap) (a : Nat) (cA : ClassId) (x : vp_A) : Prop := ∃ cell : Cell, H[a]? = some cell ∧ cell.vm ≠ .unknown ∧ x.1 ≤ cell.slots.size ∧ cell.slots.size.toInt32 = Int32.ofNat x.1 ∧ (∀ j, j < x.1 → cell.slots[j]? = some (va_xv x j)) ∧ (∀ ty, ArrOfT s cA ty → s.isArrayOf cell ty) ∧ (cell.cls = cA ∨ ArrOfT s cA .byte ∨ ArrOfT s cA (.object "java/lang/String"))
def wkO (s : State) (H : Heap) (a : Nat) (ci : Nat) (fs : List Value) : Prop := ∃ (r : vw_C) (cell : Cell), vwCl[ci]? = some r ∧ H[a]? = some cell ∧ cell.vm.isStatics = false ∧ cell.vm ≠ .unknown ∧ s.vm.findClass r.1 = some cell.cls ∧ ∀ (k : Nat) (v : Value), k < r.2.2 → fs[k]? = some v → ∀ (cf : ClassId) (kf : Class) (i : Nat) (f : Field), s.fieldFound? (r.2.1 k).1 (r.2.1 k).2.1 (r.2.1 k).2.2.1 = some (cf, kf, i, f) → cell.slots[f.slot]? = some v
def mRo (s : State) (h : HW) (H : Heap) : Prop := ∀ (a : Nat) (w : Bool) (e : va_E), h a = some (w, e) → match e with
  | .inl q => wkA s H a q.1 q.2
  | .inr o => wkO s H a o.1 o.2
theorem arrOfT_one {s : State} {cA : ClassId} {t1 t2 : FieldType} (h1 : ArrOfT s cA t1) (h2 : ArrOfT s cA t2) : t1 = t2 := by
  obtain ⟨-, k1, e1, c1, g1⟩ := h1 0 (fun _ => .null)
  obtain ⟨-, k2, e2, c2, g2⟩ := h2 0 (fun _ => .null)
  cases e1.symm.trans e2
  have := g1.symm.trans g2
  injection this
theorem wkA.ofT {s : State} {H : Heap} {a n : Nat} {cA : ClassId} {ty : FieldType} {x : vp_A} {A : Nat → Prop} (hb : ty = .byte ∨ ty = .object "java/lang/String") (hc : ArrOfT s cA ty) (hx : x.1 = n) (h : va_T ty a n (va_xv x) A s H) : wkA s H a cA x := by
  obtain ⟨cell, h1, h2, h3, h4, h5, h6, -⟩ := h
  subst hx
  refine ⟨cell, h1, h3, h4, h5, h6, fun t ht => by rw [arrOfT_one ht hc]; exact h2, ?_⟩
  rcases hb with rfl | rfl
  · exact Or.inr (Or.inl hc)
  · exact Or.inr (Or.inr hc)
theorem mRd {G : va_G} {K : (Nat → Nat) × (Nat → Nat)} {tys : List (ClassId × FieldType)} {A : Nat → Prop} {s : State} {h : HW} {H H0 : Heap} {locs : List Loc} (hK : va_K G vwCl tys s) (hP : mP G K h H) (hZ0 : ZE K A s H0) (hS : va_S A H0 H locs) : mRo s h H := by
  have hZ : ZE K A s H := hZ0.kept hS.2.1
  have h50 := hZ.1.2.2.2.2.1
  have h51 := hZ.1.2.2.2.2.2
  intro a w e ha
  have h1 := hP a w e ha
  cases w with
  | true =>
    cases e with
    | inl q =>
      obtain ⟨cA, n, f | f | f | f | f⟩ := q
      all_goals exact ⟨_, h1, (fun q => by cases q), (by show _ ≤ (arrV _ _ _).slots.size; rw [arrV_size]; exact Nat.le_refl _), (by show (arrV _ _ _).slots.size.toInt32 = _; rw [arrV_size]), (fun j hj => by show (arrV _ _ _).slots[j]? = _; rw [arrV_read _ _ hj]; rfl), (fun ty ht => ht n _), Or.inl rfl⟩
    | inr o =>
      obtain ⟨ci, fs⟩ := o
      obtain ⟨r, g1, cell, q1, q2, q3, q4⟩ := h1
      obtain ⟨C, T, N⟩ := r
      obtain ⟨gS, hfc, kC, hkC, hkind⟩ := hK.1 ci _ g1
      refine ⟨(C, T, N), cell, g1, q1, (by rw [q3]; rfl), (by rw [q3]; exact (fun h => by cases h)), (by rw [q2]; exact hfc), fun k v hk hv cf kf i f hi => ?_⟩
      obtain ⟨cf', kf', fi', f', hi', hsl⟩ := gS k hk
      cases hi'.symm.trans hi
      rw [hsl, q4 k hk]
      simp [vp_V, hv]
  | false =>
    obtain ⟨-, ⟨i, hi, rfl, rfl⟩ | ⟨i, hi, rfl, rfl⟩ | ⟨rfl, rfl⟩ | ⟨rfl, rfl⟩ | ⟨rfl, rfl⟩⟩ := h1
    · obtain ⟨hO, hC, hV, -⟩ := hZ.1.1 i hi
      obtain ⟨cell, g1, g2, g3, -⟩ := hO
      obtain ⟨cf1, k1, i1, f1, cell1, a1, -, a3, a4, a5, -⟩ := hC
      obtain ⟨cf2, k2, i2, f2, cell2, b1, -, b3, -, b5, -⟩ := hV
      cases g1.symm.trans a3
      cases g1.symm.trans b3
      refine ⟨(RJ0, TJ0, 2), cell, rfl, g1, g2, a4, g3, fun k v hk hv cf kf i9 f9 h9 => ?_⟩
      match k, hk with
      | 0, _ =>
        cases hv
        cases (show s.fieldFound? "java/lang/String" "value" "[B" = _ from h9).symm.trans b1
        exact b5
      | 1, _ =>
        cases hv
        cases (show s.fieldFound? "java/lang/String" "coder" "B" = _ from h9).symm.trans a1
        exact a5
      | k + 2, hk => exact absurd hk (by show ¬ k + 2 < 2; omega)
    · exact wkA.ofT (Or.inl rfl) h50 rfl (hZ.1.1 i hi).2.2.2
    · exact wkA.ofT (Or.inr rfl) h51 rfl hZ.1.2.1
    · exact wkA.ofT (Or.inl rfl) h50 rfl hZ.1.2.2.1
    · exact wkA.ofT (Or.inl rfl) h50 rfl hZ.1.2.2.2.1
section MR
variable {p : Program} {l : Launch} {e : Env} {R : Room} {s : State} {m : MethodId} {args : Array Value} {below : List Frame} {meth : Method} {c : Code} {H : Heap} {locs : List Loc} {cells slots : Nat} {Q : State → Prop}
variable {cc : ByteArray} {pc : Nat} {ls : Array Slot} {rest : List Value} {G : va_G} {A : Nat → Prop} {a : Nat} {tys : List (ClassId × FieldType)} {h : HW} {H0 : Heap} {K : (Nat → Nat) × (Nat → Nat)}
theorem mr_get (hexec : p.tables.exec = Jvm.exec) (hb : c.code = cc) {own ref C : String} {T : u_T} {N ci index : Nat} {Ts : List Cond} (hts : ∀ w ∈ Ts, w.before args s = true) (hin : ∀ w ∈ u_ws C T N, w ∈ Ts) (hown : s.vm.findClass own = some m.cls) (hK : va_K G vwCl tys s) (hP : mRo s h H) {w : Bool} {fs : List Value} (he : h a = some (w, .inr (ci, fs))) (hc : vwCl[ci]? = some (C, T, N)) (k : Nat) (hk : k < N) (hlink : (Cond.fieldLink own index ref (T k).2.1 (T k).2.2.1).before args s = true) (hsame : ∀ x, s.fieldFound? (T k).1 (T k).2.1 (T k).2.2.1 = some x → s.fieldFound? ref (T k).2.1 (T k).2.2.1 = some x) {v : Value} (hv : fs[k]? = some v) (hdg : decode cc pc = .ok (.getfield index, 3))
    (kk : W p l e R s m args below meth c H locs cells slots Q (F0 m (pc + 3) ls (v :: rest))) : W p l e R s m args below meth c H locs cells slots Q (F0 m pc ls (.ref a :: rest)) := by
  obtain ⟨r, cell, h1, q1, q2, q3, q4, q5⟩ := hP a w _ he
  have hr : r = (C, T, N) := Option.some.inj (h1.symm.trans hc)
  subst hr
  obtain ⟨hS, hfc, kC, hkC, hkind⟩ := hK.1 ci _ hc
  obtain ⟨cf, kf, fi, f, hi, hsl⟩ := hS k hk
  exact W.getf hexec hb hown hlink (hsame _ hi) (u_facts hfc hkC (u_lays hts hin hk) hi).1 q1 q3 (v := v) (q5 k v hk hv _ _ _ _ hi) rfl rfl hdg kk
theorem mr_put (hexec : p.tables.exec = Jvm.exec) (hb : c.code = cc) {own ref C : String} {T : u_T} {N ci index : Nat} {Ts : List Cond} (hts : ∀ w ∈ Ts, w.before args s = true) (hin : ∀ w ∈ u_ws C T N, w ∈ Ts) (ty0 : Nat → FieldType) (hty : ∀ k, k < N → parseFieldDescriptor (T k).2.2.1 = some (ty0 k)) (hnm : ∀ a, a < N → ∀ b, b < N → a ≠ b → (T a).2.1 ≠ (T b).2.1) (hown : s.vm.findClass own = some m.cls) (hK : va_K G vwCl tys s) (hP : mP G K h H) (hD : mD A h) (hS0 : va_S A H0 H locs) {fs : List Value} (he : h a = some (true, .inr (ci, fs))) (hc : vwCl[ci]? = some (C, T, N)) (k : Nat) (hk : k < N) (hlink : (Cond.fieldLink own index ref (T k).2.1 (T k).2.2.1).before args s = true) (hsame : ∀ x, s.fieldFound? (T k).1 (T k).2.1 (T k).2.2.1 = some x → s.fieldFound? ref (T k).2.1 (T k).2.2.1 = some x) (hfin : (T k).2.2.2 = false) {ty : FieldType} {v : Value} (hd : parseFieldDescriptor (T k).2.2.1 = some ty) (hn : narrow ty v = v) (hfit : fits ty v = true) (hl : k < fs.length)
    (hdg : decode cc pc = .ok (.putfield index, 3)) (kk : ∀ (H1 : Heap) (locs1 : List Loc), mP G K (hup h a (.inr (ci, fs.set k v))) H1 → mD A (hup h a (.inr (ci, fs.set k v))) → va_S A H0 H1 locs1 → W p l e R s m args below meth c H1 locs1 cells slots Q (F0 m (pc + 3) ls rest)) : W p l e R s m args below meth c H locs cells slots Q (F0 m pc ls (v :: .ref a :: rest)) := by
  have hap := va_apart (own := own) hts hin ty0 hty hnm hK hc
  obtain ⟨r, h1, cell, q1, q2, q3, q4⟩ := hP a true _ he
  have hr : r = (C, T, N) := Option.some.inj (h1.symm.trans hc)
  subst hr
  obtain ⟨hS, hfc, kC, hkC, hkind⟩ := hK.1 ci _ hc
  obtain ⟨cf, kf, fi, f, hi, hsl⟩ := hS k hk
  have hlay := hts _ (hin _ (u_in_lay hk))
  unfold u_lay at hlay
  rw [if_neg (by rw [hfin]; decide)] at hlay
  have hst := (u_facts hfc hkC (u_lays hts hin hk) hi).1
  have h6 := u_store hfc hkC hkind hlay hi hd hn hfit
  refine W.putK hexec hb (f := f) ⟨hown, hlink, ⟨_, _, _, hsame _ hi⟩, hst⟩ (by rw [q2]; exact h6) q1 q3 (by rw [hsl]; exact k2_hasslot (q4 k hk)) rfl rfl hdg fun H' e1 e2 e3 => ?_
  rw [hsl] at e1 ⊢
  exact kk H' _ (hP.set ⟨_, hc, t_OB.to (V := updV (vp_V fs) k v) ⟨_, e1, q2, q3, t_set q4 hap hk v⟩ (fun j _ => vp_updV_set hl v j)⟩ e3) (hD.set (hD a _ he)) (hS0.put e2 e3 (hD a _ he))
theorem mr_putF (hexec : p.tables.exec = Jvm.exec) (hb : c.code = cc) {own ref C : String} {T : u_T} {N ci index : Nat} {Ts : List Cond} (hts : ∀ w ∈ Ts, w.before args s = true) (hin : ∀ w ∈ u_ws C T N, w ∈ Ts) (ty0 : Nat → FieldType) (hty : ∀ k, k < N → parseFieldDescriptor (T k).2.2.1 = some (ty0 k)) (hnm : ∀ a, a < N → ∀ b, b < N → a ≠ b → (T a).2.1 ≠ (T b).2.1) (hown : s.vm.findClass own = some m.cls) (hK : va_K G vwCl tys s) (hP : mP G K h H) (hD : mD A h) (hS0 : va_S A H0 H locs) {fs : List Value} (he : h a = some (true, .inr (ci, fs))) (hc : vwCl[ci]? = some (C, T, N)) (k : Nat) (hk : k < N) (hlink : (Cond.fieldLink own index ref (T k).2.1 (T k).2.2.1).before args s = true) (hsame : ∀ x, s.fieldFound? (T k).1 (T k).2.1 (T k).2.2.1 = some x → s.fieldFound? ref (T k).2.1 (T k).2.2.1 = some x) (hfin : (T k).2.2.2 = true) (hin2 : meth.name = "<init>") (hdecl : (T k).1 = own) {ty : FieldType} {v : Value} (hd : parseFieldDescriptor (T k).2.2.1 = some ty) (hn : narrow ty v = v) (hfit : fits ty v = true) (hl : k < fs.length)
    (hdg : decode cc pc = .ok (.putfield index, 3)) (kk : ∀ (H1 : Heap) (locs1 : List Loc), mP G K (hup h a (.inr (ci, fs.set k v))) H1 → mD A (hup h a (.inr (ci, fs.set k v))) → va_S A H0 H1 locs1 → W p l e R s m args below meth c H1 locs1 cells slots Q (F0 m (pc + 3) ls rest)) : W p l e R s m args below meth c H locs cells slots Q (F0 m pc ls (v :: .ref a :: rest)) := by
  have hap := va_apart (own := own) hts hin ty0 hty hnm hK hc
  obtain ⟨r, h1, cell, q1, q2, q3, q4⟩ := hP a true _ he
  have hr : r = (C, T, N) := Option.some.inj (h1.symm.trans hc)
  subst hr
  obtain ⟨hS, hfc, kC, hkC, hkind⟩ := hK.1 ci _ hc
  obtain ⟨cf, kf, fi, f, hi, hsl⟩ := hS k hk
  have hlay := hts _ (hin _ (u_in_lay hk))
  unfold u_lay at hlay
  rw [if_pos hfin] at hlay
  have hst := (u_facts hfc hkC (u_lays hts hin hk) hi).1
  have hcf : m.cls = cf := by
    obtain ⟨_, _, c', _, _, _, -, -, hf', -, -, -, hown2, -⟩ := Cond.laysFinal_spec hlay
    have e1 : c' = cf := by have := hi.symm.trans hf'; simp at this; exact this.1.symm
    rw [hdecl] at hown2
    rw [← e1]; exact Option.some.inj (hown.symm.trans hown2)
  have h6 := u_fits hfc hkC hkind (Or.inr hlay) hi hd hn hfit
  refine W.putFinK hexec hb hown hlink (hsame _ hi) hst hcf hin2 (by rw [q2]; exact h6) q1 q3 (by rw [hsl]; exact k2_hasslot (q4 k hk)) rfl rfl hdg fun H' e1 e2 e3 => ?_
  rw [hsl] at e1 ⊢
  exact kk H' _ (hP.set ⟨_, hc, t_OB.to (V := updV (vp_V fs) k v) ⟨_, e1, q2, q3, t_set q4 hap hk v⟩ (fun j _ => vp_updV_set hl v j)⟩ e3) (hD.set (hD a _ he)) (hS0.put e2 e3 (hD a _ he))
theorem mr_iald (hexec : p.tables.exec = Jvm.exec) (hb : c.code = cc) (hK : va_K G vwCl tys s) (hP : mRo s h H) (t0 : Nat) {w : Bool} {cA : ClassId} {n : Nat} {f : Nat → Int32} (ha : h a = some (w, .inl (cA, n, .inl f))) (ht : tys[t0]? = some (cA, .int)) {i : Int32} (hin : vp_in i n) (hdg : decode cc pc = .ok (.iaload, 1))
    (kk : ∀ x : Int32, x = f i.toNatClampNeg → W p l e R s m args below meth c H locs cells slots Q (F0 m (pc + 1) ls (.int x :: rest))) : W p l e R s m args below meth c H locs cells slots Q (F0 m pc ls (.int i :: .ref a :: rest)) := by
  obtain ⟨cell, h1, h2, h3, h4, h5, h6, -⟩ := hP a w _ ha
  have hlt : i.toNatClampNeg < n := Nat.not_le.mp fun q => hin (Or.inr q)
  exact W.iald (v := .int (f i.toNatClampNeg)) hexec hb h1 (h6 _ (hK.2 t0 _ ht).1) h2 (fun q => q.elim (fun z => hin (Or.inl z)) (fun z => absurd (Nat.lt_of_lt_of_le hlt h3) (Nat.not_lt.mpr z))) (h5 _ hlt) rfl rfl hdg (kk _ rfl)
theorem mr_zald (hexec : p.tables.exec = Jvm.exec) (hb : c.code = cc) (hK : va_K G vwCl tys s) (hP : mRo s h H) (t0 : Nat) {w : Bool} {cA : ClassId} {n : Nat} {f : Nat → Int32} (ha : h a = some (w, .inl (cA, n, .inl f))) (ht : tys[t0]? = some (cA, .boolean)) {i : Int32} (hin : vp_in i n) (hdg : decode cc pc = .ok (.baload, 1))
    (kk : ∀ x : Int32, x = f i.toNatClampNeg → W p l e R s m args below meth c H locs cells slots Q (F0 m (pc + 1) ls (.int x :: rest))) : W p l e R s m args below meth c H locs cells slots Q (F0 m pc ls (.int i :: .ref a :: rest)) := by
  obtain ⟨cell, h1, h2, h3, h4, h5, h6, -⟩ := hP a w _ ha
  have hlt : i.toNatClampNeg < n := Nat.not_le.mp fun q => hin (Or.inr q)
  exact W.zald (v := .int (f i.toNatClampNeg)) hexec hb h1 (h6 _ (hK.2 t0 _ ht).1) h2 (fun q => q.elim (fun z => hin (Or.inl z)) (fun z => absurd (Nat.lt_of_lt_of_le hlt h3) (Nat.not_lt.mpr z))) (h5 _ hlt) rfl rfl hdg (kk _ rfl)
theorem mr_bald (hexec : p.tables.exec = Jvm.exec) (hb : c.code = cc) (hK : va_K G vwCl tys s) (hP : mRo s h H) (t0 : Nat) {w : Bool} {cA : ClassId} {n : Nat} {f : Nat → Int32} (ha : h a = some (w, .inl (cA, n, .inl f))) (ht : tys[t0]? = some (cA, .byte)) {i : Int32} (hin : vp_in i n) (hdg : decode cc pc = .ok (.baload, 1))
    (kk : ∀ x : Int32, x = f i.toNatClampNeg → W p l e R s m args below meth c H locs cells slots Q (F0 m (pc + 1) ls (.int x :: rest))) : W p l e R s m args below meth c H locs cells slots Q (F0 m pc ls (.int i :: .ref a :: rest)) := by
  obtain ⟨cell, h1, h2, h3, h4, h5, h6, -⟩ := hP a w _ ha
  have hlt : i.toNatClampNeg < n := Nat.not_le.mp fun q => hin (Or.inr q)
  exact W.bald (v := .int (f i.toNatClampNeg)) hexec hb h1 (h6 _ (hK.2 t0 _ ht).1) h2 (fun q => q.elim (fun z => hin (Or.inl z)) (fun z => absurd (Nat.lt_of_lt_of_le hlt h3) (Nat.not_lt.mpr z))) (h5 _ hlt) rfl rfl hdg (kk _ rfl)
theorem mr_lald (hexec : p.tables.exec = Jvm.exec) (hb : c.code = cc) (hK : va_K G vwCl tys s) (hP : mRo s h H) (t0 : Nat) {w : Bool} {cA : ClassId} {n : Nat} {f : Nat → Int64} (ha : h a = some (w, .inl (cA, n, .inr (.inl f)))) (ht : tys[t0]? = some (cA, .long)) {i : Int32} (hin : vp_in i n) (hdg : decode cc pc = .ok (.laload, 1))
    (kk : ∀ x : Int64, x = f i.toNatClampNeg → W p l e R s m args below meth c H locs cells slots Q (F0 m (pc + 1) ls (.long x :: rest))) : W p l e R s m args below meth c H locs cells slots Q (F0 m pc ls (.int i :: .ref a :: rest)) := by
  obtain ⟨cell, h1, h2, h3, h4, h5, h6, -⟩ := hP a w _ ha
  have hlt : i.toNatClampNeg < n := Nat.not_le.mp fun q => hin (Or.inr q)
  exact W.lald (v := .long (f i.toNatClampNeg)) hexec hb h1 (h6 _ (hK.2 t0 _ ht).1) h2 (fun q => q.elim (fun z => hin (Or.inl z)) (fun z => absurd (Nat.lt_of_lt_of_le hlt h3) (Nat.not_lt.mpr z))) (h5 _ hlt) rfl rfl hdg (kk _ rfl)
/-- of an array over objects, or over arrays -/
theorem mr_aldq (hexec : p.tables.exec = Jvm.exec) (hb : c.code = cc) (hK : va_K G vwCl tys s) (hP : mRo s h H) (t0 : Nat) {w : Bool} {cA : ClassId} {ty : FieldType} (hrt : ty.isReference = true) {n : Nat} {f : Nat → Option Nat} (ha : h a = some (w, .inl (cA, n, .inr (.inr (.inr (.inr f)))))) (ht : tys[t0]? = some (cA, ty)) {i : Int32} (hin : vp_in i n) (hdg : decode cc pc = .ok (.aaload, 1))
    (kk : ∀ o : Option Nat, o = f i.toNatClampNeg → W p l e R s m args below meth c H locs cells slots Q (F0 m (pc + 1) ls (va_rf o :: rest))) : W p l e R s m args below meth c H locs cells slots Q (F0 m pc ls (.int i :: .ref a :: rest)) := by
  obtain ⟨cell, h1, h2, h3, h4, h5, h6, -⟩ := hP a w _ ha
  have hlt : i.toNatClampNeg < n := Nat.not_le.mp fun q => hin (Or.inr q)
  exact W.aald (v := va_rf (f i.toNatClampNeg)) (ty := ty) hexec hb h1 (h6 _ (hK.2 t0 _ ht).1) hrt h2 (fun q => q.elim (fun z => hin (Or.inl z)) (fun z => absurd (Nat.lt_of_lt_of_le hlt h3) (Nat.not_lt.mpr z))) (h5 _ hlt) rfl rfl hdg (kk _ rfl)
theorem mr_alen (hexec : p.tables.exec = Jvm.exec) (hb : c.code = cc) (hK : va_K G vwCl tys s) (hP : mRo s h H) (t0 : Nat) {w : Bool} {cA : ClassId} {x : vp_A} (ha : h a = some (w, .inl (cA, x))) {ty : FieldType} (ht : tys[t0]? = some (cA, ty)) (hdg : decode cc pc = .ok (.arraylength, 1))
    (kk : ∀ v : Int32, v = nI x.1 → W p l e R s m args below meth c H locs cells slots Q (F0 m (pc + 1) ls (.int v :: rest))) : W p l e R s m args below meth c H locs cells slots Q (F0 m pc ls (.ref a :: rest)) := by
  obtain ⟨cell, h1, h2, h3, h4, h5, h6, -⟩ := hP a w _ ha
  exact W.alen (n := nI x.1) hexec hb h1 (h6 _ (hK.2 t0 _ ht).1) h4 rfl rfl hdg (kk _ rfl)
theorem mr_iast (hexec : p.tables.exec = Jvm.exec) (hb : c.code = cc) (hK : va_K G vwCl tys s) (hP : mP G K h H) (hD : mD A h) (hS : va_S A H0 H locs) (t0 : Nat) {cA : ClassId} {n : Nat} {f : Nat → Int32} (ha : h a = some (true, .inl (cA, n, .inl f))) (ht : tys[t0]? = some (cA, .int)) {i : Int32} {x : Int32} (hin : vp_in i n) (hdg : decode cc pc = .ok (.iastore, 1))
    (kk : ∀ (H1 : Heap) (locs1 : List Loc), mP G K (hup h a (.inl (cA, n, .inl (upd f i.toNatClampNeg x)))) H1 → mD A (hup h a (.inl (cA, n, .inl (upd f i.toNatClampNeg x)))) → va_S A H0 H1 locs1 → W p l e R s m args below meth c H1 locs1 cells slots Q (F0 m (pc + 1) ls rest)) : W p l e R s m args below meth c H locs cells slots Q (F0 m pc ls (.int x :: .int i :: .ref a :: rest)) := by
  refine W.iast hexec hb (hP a true _ ha) ((hK.2 t0 _ ht).1 n (fun j => .int (f j))) (fun q => by cases q) (by show ¬ (i < 0 ∨ (arrV _ _ _).slots.size ≤ _); rw [arrV_size]; exact hin) rfl rfl hdg fun H1 e z oq => ?_
  refine kk H1 _ (hP.set ?_ oq) (hD.set (hD a _ ha)) (hS.put z oq (hD a _ ha))
  show H1[a]? = some (vp_cell _ _)
  rw [e]
  rw [vp_cell_i, vp_cell_i, arrV_store]
  congr 2
  funext q
  by_cases hq : q = i.toNatClampNeg
  · subst hq
    simp [updV, upd]
  · simp [updV, upd, hq]
theorem mr_zast (hexec : p.tables.exec = Jvm.exec) (hb : c.code = cc) (hK : va_K G vwCl tys s) (hP : mP G K h H) (hD : mD A h) (hS : va_S A H0 H locs) (t0 : Nat) {cA : ClassId} {n : Nat} {f : Nat → Int32} (ha : h a = some (true, .inl (cA, n, .inl f))) (ht : tys[t0]? = some (cA, .boolean)) {i : Int32} {x : Int32} (hx : x = 0 ∨ x = 1) (hin : vp_in i n) (hdg : decode cc pc = .ok (.bastore, 1))
    (kk : ∀ (H1 : Heap) (locs1 : List Loc), mP G K (hup h a (.inl (cA, n, .inl (upd f i.toNatClampNeg x)))) H1 → mD A (hup h a (.inl (cA, n, .inl (upd f i.toNatClampNeg x)))) → va_S A H0 H1 locs1 → W p l e R s m args below meth c H1 locs1 cells slots Q (F0 m (pc + 1) ls rest)) : W p l e R s m args below meth c H locs cells slots Q (F0 m pc ls (.int x :: .int i :: .ref a :: rest)) := by
  have hx1 : vp_nar .boolean x = x := by rcases hx with rfl | rfl <;> decide
  refine W.zast hexec hb (hP a true _ ha) ((hK.2 t0 _ ht).1 n (fun j => .int (f j))) (fun q => by cases q) (by show ¬ (i < 0 ∨ (arrV _ _ _).slots.size ≤ _); rw [arrV_size]; exact hin) rfl rfl hdg fun H1 e z oq => ?_
  refine kk H1 _ (hP.set ?_ oq) (hD.set (hD a _ ha)) (hS.put z oq (hD a _ ha))
  show H1[a]? = some (vp_cell _ _)
  rw [e]
  rw [vp_cell_i, vp_cell_i, arrV_store]
  congr 2
  funext q
  by_cases hq : q = i.toNatClampNeg
  · subst hq
    rw [show upd f i.toNatClampNeg x i.toNatClampNeg = x from if_pos rfl]
    rcases hx with rfl | rfl <;> simp [updV] <;> rfl
  · simp [updV, upd, hq]
theorem mr_bast (hexec : p.tables.exec = Jvm.exec) (hb : c.code = cc) (hK : va_K G vwCl tys s) (hP : mP G K h H) (hD : mD A h) (hS : va_S A H0 H locs) (t0 : Nat) {cA : ClassId} {n : Nat} {f : Nat → Int32} (ha : h a = some (true, .inl (cA, n, .inl f))) (ht : tys[t0]? = some (cA, .byte)) {i : Int32} {x : Int32} (hin : vp_in i n) (hdg : decode cc pc = .ok (.bastore, 1))
    (kk : ∀ (H1 : Heap) (locs1 : List Loc), mP G K (hup h a (.inl (cA, n, .inl (upd f i.toNatClampNeg (vp_nar .byte x))))) H1 → mD A (hup h a (.inl (cA, n, .inl (upd f i.toNatClampNeg (vp_nar .byte x))))) → va_S A H0 H1 locs1 → W p l e R s m args below meth c H1 locs1 cells slots Q (F0 m (pc + 1) ls rest)) : W p l e R s m args below meth c H locs cells slots Q (F0 m pc ls (.int x :: .int i :: .ref a :: rest)) := by
  refine W.bast hexec hb (hP a true _ ha) ((hK.2 t0 _ ht).1 n (fun j => .int (f j))) (fun q => by cases q) (by show ¬ (i < 0 ∨ (arrV _ _ _).slots.size ≤ _); rw [arrV_size]; exact hin) rfl rfl hdg fun H1 e z oq => ?_
  refine kk H1 _ (hP.set ?_ oq) (hD.set (hD a _ ha)) (hS.put z oq (hD a _ ha))
  show H1[a]? = some (vp_cell _ _)
  rw [e]
  rw [vp_cell_i, vp_cell_i, arrV_store]
  congr 2
  funext q
  by_cases hq : q = i.toNatClampNeg
  · subst hq
    simp [updV, upd, vp_nar]
    try rfl
  · simp [updV, upd, hq]
theorem mr_last (hexec : p.tables.exec = Jvm.exec) (hb : c.code = cc) (hK : va_K G vwCl tys s) (hP : mP G K h H) (hD : mD A h) (hS : va_S A H0 H locs) (t0 : Nat) {cA : ClassId} {n : Nat} {f : Nat → Int64} (ha : h a = some (true, .inl (cA, n, .inr (.inl f)))) (ht : tys[t0]? = some (cA, .long)) {i : Int32} {x : Int64} (hin : vp_in i n) (hdg : decode cc pc = .ok (.lastore, 1))
    (kk : ∀ (H1 : Heap) (locs1 : List Loc), mP G K (hup h a (.inl (cA, n, .inr (.inl (vp_updL f i.toNatClampNeg x))))) H1 → mD A (hup h a (.inl (cA, n, .inr (.inl (vp_updL f i.toNatClampNeg x))))) → va_S A H0 H1 locs1 → W p l e R s m args below meth c H1 locs1 cells slots Q (F0 m (pc + 1) ls rest)) : W p l e R s m args below meth c H locs cells slots Q (F0 m pc ls (.long x :: .int i :: .ref a :: rest)) := by
  refine W.last hexec hb (hP a true _ ha) ((hK.2 t0 _ ht).1 n (fun j => .long (f j))) (fun q => by cases q) (by show ¬ (i < 0 ∨ (arrV _ _ _).slots.size ≤ _); rw [arrV_size]; exact hin) rfl rfl hdg fun H1 e z oq => ?_
  refine kk H1 _ (hP.set ?_ oq) (hD.set (hD a _ ha)) (hS.put z oq (hD a _ ha))
  show H1[a]? = some (vp_cell _ _)
  rw [e]
  rw [vp_cell_l, vp_cell_l, arrV_store]
  congr 2
  funext q
  by_cases hq : q = i.toNatClampNeg
  · subst hq
    simp [updV, vp_updL]
  · simp [updV, vp_updL, hq]
theorem mr_new {c0 : Code} (hexec : p.tables.exec = Jvm.exec) (hb : c0.code = cc) {own C : String} {T : u_T} {N n ci index : Nat} {Ts : List Cond} (hts : ∀ w ∈ Ts, w.before args s = true) (hin : ∀ w ∈ u_ws C T N, w ∈ Ts) (ty : Nat → FieldType) (hty : ∀ k, k < N → parseFieldDescriptor (T k).2.2.1 = some (ty k)) (hown : s.vm.findClass own = some m.cls) (hcl : (Cond.classLink own index C).before args s = true) (hinst : (Cond.instantiable C n).before args s = true) (hini : (Cond.initialized C).before args s = true)
    (hK : va_K G vwCl tys s) (hP : mP G K h H) (hD : mD A h) (hS : va_S A H0 H locs) (hA : ∀ q, H0.size ≤ q → A q) (hc : vwCl[ci]? = some (C, T, N)) {fs : List Value} (hfs : ∀ j, j < N → defaultValue (ty j) = vp_V fs j) (hcells : cells + 1 ≤ R.cells) (hslots : slots + n ≤ R.slots) (hdg : decode cc pc = .ok (.new index, 3))
    (kk : ∀ (q : Nat) (H1 : Heap), h q = none → mP G K (hup h q (.inr (ci, fs))) H1 → mD A (hup h q (.inr (ci, fs))) → va_S A H0 H1 locs →
      W p l e R s m args below meth c0 H1 locs (cells + 1) (slots + n) Q (F0 m (pc + 3) ls (.ref q :: rest))) : W p l e R s m args below meth c0 H locs cells slots Q (F0 m pc ls rest) := by
  have hKn := hK.1 ci _ hc
  refine W.newcK hexec hb hown hcl hinst hini rfl hdg hcells hslots hKn.2.1 rfl fun H1 kC hkC e1 z1 o1 => ?_
  obtain ⟨g1, g2⟩ := hP.new (e := .inr (ci, fs)) ⟨_, hc, (u_born ty hts hin hKn hkC e1 hty).to hfs⟩ o1
  exact kk H.size H1 g2 g1 (hD.set (hA _ hS.1)) (mS.new hS (by omega) o1)
theorem mr_newa (hexec : p.tables.exec = Jvm.exec) (hb : c.code = cc) {atype : ArrayType} (harr : (Cond.arrayClass (newarray.typeOf atype)).before args s = true) (hK : va_K G vwCl tys s) (t0 : Nat) {cA : ClassId} (ht : tys[t0]? = some (cA, newarray.typeOf atype)) (hP : mP G K h H) (hD : mD A h) (hS : va_S A H0 H locs) (hA : ∀ q, H0.size ≤ q → A q)
    {n : Int32} {a0 : Nat → vp_A} (ha : ∀ N : Nat, vp_cell cA (a0 N) = arrV cA N (fun _ => defaultValue (newarray.typeOf atype))) (hn : ¬ n < 0) (hbytes : n.toNatClampNeg * componentBytes (newarray.typeOf atype) ≤ 536870912) (hcells : cells + 1 ≤ R.cells) (hslots : slots + n.toNatClampNeg ≤ R.slots) (hdg : decode cc pc = .ok (.newarray atype, 2))
    (kk : ∀ (q : Nat) (H1 : Heap), h q = none → mP G K (hup h q (.inl (cA, a0 n.toNatClampNeg))) H1 → mD A (hup h q (.inl (cA, a0 n.toNatClampNeg))) → va_S A H0 H1 locs →
      W p l e R s m args below meth c H1 locs (cells + 1) (slots + n.toNatClampNeg) Q (F0 m (pc + 2) ls (.ref q :: rest))) : W p l e R s m args below meth c H locs cells slots Q (F0 m pc ls (.int n :: rest)) := by
  refine va_newaK hexec hb harr rfl hdg rfl hn rfl hbytes hcells hslots rfl fun H1 cB e1 z1 o1 hAr hNm => ?_
  have h1 := (hK.2 t0 _ ht).2
  have hcA : cB = cA := by cases atype <;> exact Option.some.inj (hNm.symm.trans h1)
  subst hcA
  obtain ⟨g1, g2⟩ := hP.new (e := .inl (cB, a0 n.toNatClampNeg)) (by show H1[H.size]? = some (vp_cell _ _); rw [ha]; exact e1) o1
  exact kk H.size H1 g2 g1 (hD.set (hA _ hS.1)) (mS.new hS (by omega) o1)
end MR
