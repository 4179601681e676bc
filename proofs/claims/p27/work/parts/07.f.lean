/-! the class's contracts over worlds, taken over maps -/
def hHas (h : HW) (W : va_W) : Prop := ∀ (k a : Nat) (e : va_E), W[k]? = some (a, e) → h a = some (true, e)
def hOff (W : va_W) (b : Nat) : Prop := ∀ (k : Nat) (e : va_E), W[k]? = some (b, e) → False
/-- what a map becomes when the words W0 in it become the words W1 -/
def hNx (h : HW) (W0 W1 : va_W) (h1 : HW) : Prop := hHas h1 W1 ∧ va_D (fun _ => True) W1 ∧ (∀ b : Nat, hOff W0 b → hOff W1 b → h1 b = h b) ∧ (∀ (b : Nat) (w : Bool) (e : va_E), h b = some (w, e) → hOff W0 b → h1 b = some (w, e)) ∧ ∀ b : Nat, hOff W0 b → ¬ hOff W1 b → h b = none
noncomputable def hrep (h : HW) (W0 W1 : va_W) : HW := fun b =>
  haveI := Classical.propDecidable (∃ (k : Nat) (e : va_E), W1[k]? = some (b, e))
  haveI := Classical.propDecidable (hOff W0 b)
  if q : ∃ (k : Nat) (e : va_E), W1[k]? = some (b, e) then some (true, q.choose_spec.choose) else if hOff W0 b then h b else none
theorem hrep_in {h : HW} {W0 W1 : va_W} {A : Nat → Prop} (hD : va_D A W1) {k a : Nat} {e : va_E} (hk : W1[k]? = some (a, e)) : hrep h W0 W1 a = some (true, e) := by
  have q : ∃ (k : Nat) (e : va_E), W1[k]? = some (a, e) := ⟨k, e, hk⟩
  have h1 : hrep h W0 W1 a = some (true, q.choose_spec.choose) := dif_pos q
  have h2 := q.choose_spec.choose_spec
  have h3 : q.choose = k := hD.1 _ _ _ _ h2 hk rfl
  rw [h1]
  have h4 := h2.symm.trans ((congrArg (fun z => W1[z]?) h3).trans hk)
  injection h4 with h5
  injection h5 with h6 h7
  rw [h7]
theorem hrep_out {h : HW} {W0 W1 : va_W} {b : Nat} {w : Bool} {e : va_E} (h1 : hOff W1 b) (hb : hrep h W0 W1 b = some (w, e)) : h b = some (w, e) ∧ hOff W0 b := by
  have q : ¬ ∃ (k : Nat) (e : va_E), W1[k]? = some (b, e) := fun ⟨k, e, x⟩ => h1 k e x
  unfold hrep at hb
  rw [dif_neg q] at hb
  by_cases h0 : hOff W0 b
  · rw [if_pos h0] at hb; exact ⟨hb, h0⟩
  · rw [if_neg h0] at hb; cases hb
theorem hrep_off {h : HW} {W0 W1 : va_W} {b : Nat} (h1 : hOff W1 b) (h0 : hOff W0 b) : hrep h W0 W1 b = h b := by
  have q : ¬ ∃ (k : Nat) (e : va_E), W1[k]? = some (b, e) := fun ⟨k, e, x⟩ => h1 k e x
  unfold hrep
  rw [dif_neg q, if_pos h0]
theorem hM_key {G : va_G} {K : (Nat → Nat) × (Nat → Nat)} {W0 W1 : va_W} {h : HW} {H0 H1 : Heap} (hP : mP G K h H0) (hh : hHas h W0) (hF : H0.size ≤ H1.size ∧ ∀ q : Nat, q < H0.size → ¬ va_A W0 H0.size q → H1[q]? = H0[q]?) (hP1 : va_P G vwCl W1 H1) (hD1 : va_D (va_A W0 H0.size) W1) :
    hNx h W0 W1 (hrep h W0 W1) ∧ mP G K (hrep h W0 W1) H1 ∧ mD (mA h H0.size) (hrep h W0 W1) := by
  have hoff : ∀ (b : Nat) (w : Bool) (e : va_E), h b = some (w, e) → hOff W0 b → hOff W1 b := by
    intro b w e hb h0 k e1 hk
    rcases hD1.2 k _ hk with ⟨k2, e2, h2⟩ | h2
    · exact h0 k2 e2 h2
    · exact absurd (hP.lt hb) (Nat.not_lt.mpr h2)
  have hin : ∀ b : Nat, va_A W0 H0.size b → mA h H0.size b := by
    rintro b (⟨k, e, h1⟩ | h1)
    · exact Or.inl ⟨e, hh k b e h1⟩
    · exact Or.inr h1
  refine ⟨⟨fun k a e hk => hrep_in hD1 hk, hD1.weaken (fun _ _ _ _ => trivial), fun b h0 h1 => hrep_off h1 h0, fun b w e hb h0 => (hrep_off (hoff b w e hb h0) h0).trans hb, fun b h0 h1 => Classical.byContradiction fun z => ?_⟩, fun b w e hb => ?_, fun b e hb => ?_⟩
  · obtain ⟨⟨w, e⟩, hz⟩ := Option.ne_none_iff_exists'.mp z
    exact h1 (hoff b w e hz h0)
  · rcases Classical.em (∃ (k : Nat) (e : va_E), W1[k]? = some (b, e)) with ⟨k, e1, hk⟩ | q
    · have h1 := (hrep_in (h := h) (W0 := W0) hD1 hk).symm.trans hb
      injection h1 with h2
      injection h2 with h3 h4
      subst h3; subst h4
      exact hP1 k _ hk
    · obtain ⟨g1, g2⟩ := hrep_out (W0 := W0) (W1 := W1) (fun k e hk => q ⟨k, e, hk⟩) hb
      refine (hP b w e g1).kept (hF.2 b (hP.lt g1) ?_)
      rintro (⟨k, e2, h2⟩ | h2)
      · exact g2 k e2 h2
      · exact absurd (hP.lt g1) (Nat.not_lt.mpr h2)
  · rcases Classical.em (∃ (k : Nat) (e : va_E), W1[k]? = some (b, e)) with ⟨k, e1, hk⟩ | q
    · exact hin b (hD1.2 k _ hk)
    · obtain ⟨g1, g2⟩ := hrep_out (W0 := W0) (W1 := W1) (fun k e hk => q ⟨k, e, hk⟩) hb
      exact Or.inl ⟨e, g1⟩
theorem hA_sub {W0 : va_W} {h : HW} {sz : Nat} (hh : hHas h W0) : ∀ b : Nat, va_A W0 sz b → mA h sz b := by
  rintro b (⟨k, e, h1⟩ | h1)
  · exact Or.inl ⟨e, hh k b e h1⟩
  · exact Or.inr h1
theorem mPc_z {G : va_G} {K : (Nat → Nat) × (Nat → Nat)} {tys : List (ClassId × FieldType)} {av : List Value} {h : HW} {W0 : va_W} {sz : Nat} (hh : hHas h W0) (hD : va_D (fun _ => True) W0) {a : Array Value} {s : State} (q : mPc G K tys av h sz a s) : zPc G K tys av W0 sz a s := by
  obtain ⟨q0, q1, q2, q3, q4, qz, q5⟩ := q
  exact ⟨q0, q1, fun k p hk => q2 p.1 true p.2 (hh k p.1 p.2 hk), q3, q4, qz.narrow (hA_sub hh), hD⟩
theorem hMi_z {l : Launch} {y : MethodName} {ws : List Cond} {rm : Room} {G : va_G} {K : (Nat → Nat) × (Nat → Nat)} {tys : List (ClassId × FieldType)} {av : List Value} {W0 W1 : va_W} {r : Int32} {h : HW} {post : Int32 → HW → Prop} (hM : zMi l y ws rm G K tys av W0 W1 r) (hh : hHas h W0) (hD : va_D (fun _ => True) W0) (hp : ∀ h1 : HW, hNx h W0 W1 h1 → post r h1) : hMi l y ws rm G K tys av h 0 0 post := by
  intro sz
  refine MetFree.mono (hM sz) (fun a s q => mPc_z hh hD q) (fun _ _ _ _ _ _ => trivial) (fun a s o t hq q => ?_)
  obtain ⟨⟨⟨v, u, ho, hv, hP1, hD1⟩, hF⟩, L, hE, hL⟩ := q
  obtain ⟨q0, rfl, q2, q3, q4, qz, q5⟩ := hq
  obtain ⟨k1, k2, k3⟩ := hM_key q2 hh hF hP1 hD1
  exact ⟨⟨⟨v, _, ho, by rw [show v = r from hv]; exact hp _ k1, k2, k3⟩, hF.1, fun x hx hn => hF.2 x hx fun h9 => hn (hA_sub hh _ h9)⟩, L, hE, fun x hx => hA_sub hh _ (hL x hx)⟩
theorem hMl_z {l : Launch} {y : MethodName} {ws : List Cond} {rm : Room} {G : va_G} {K : (Nat → Nat) × (Nat → Nat)} {tys : List (ClassId × FieldType)} {av : List Value} {W0 W1 : va_W} {r : Int64} {h : HW} {post : Int64 → HW → Prop} (hM : zMl l y ws rm G K tys av W0 W1 r) (hh : hHas h W0) (hD : va_D (fun _ => True) W0) (hp : ∀ h1 : HW, hNx h W0 W1 h1 → post r h1) : hMl l y ws rm G K tys av h 0 0 post := by
  intro sz
  refine MetFree.mono (hM sz) (fun a s q => mPc_z hh hD q) (fun _ _ _ _ _ _ => trivial) (fun a s o t hq q => ?_)
  obtain ⟨⟨⟨v, u, ho, hv, hP1, hD1⟩, hF⟩, L, hE, hL⟩ := q
  obtain ⟨q0, rfl, q2, q3, q4, qz, q5⟩ := hq
  obtain ⟨k1, k2, k3⟩ := hM_key q2 hh hF hP1 hD1
  exact ⟨⟨⟨v, _, ho, by rw [show v = r from hv]; exact hp _ k1, k2, k3⟩, hF.1, fun x hx hn => hF.2 x hx fun h9 => hn (hA_sub hh _ h9)⟩, L, hE, fun x hx => hA_sub hh _ (hL x hx)⟩
theorem hMv_z {l : Launch} {y : MethodName} {ws : List Cond} {rm : Room} {G : va_G} {K : (Nat → Nat) × (Nat → Nat)} {tys : List (ClassId × FieldType)} {av : List Value} {W0 W1 : va_W} {h : HW} {post : HW → Prop} (hM : zMv l y ws rm G K tys av W0 W1) (hh : hHas h W0) (hD : va_D (fun _ => True) W0) (hp : ∀ h1 : HW, hNx h W0 W1 h1 → post h1) : hMv l y ws rm G K tys av h 0 0 post := by
  intro sz
  refine MetFree.mono (hM sz) (fun a s q => mPc_z hh hD q) (fun _ _ _ _ _ _ => trivial) (fun a s o t hq q => ?_)
  obtain ⟨⟨⟨u, ho, hv, hP1, hD1⟩, hF⟩, L, hE, hL⟩ := q
  obtain ⟨q0, rfl, q2, q3, q4, qz, q5⟩ := hq
  obtain ⟨k1, k2, k3⟩ := hM_key q2 hh hF hP1 hD1
  exact ⟨⟨⟨_, ho, hp _ k1, k2, k3⟩, hF.1, fun x hx hn => hF.2 x hx fun h9 => hn (hA_sub hh _ h9)⟩, L, hE, fun x hx => hA_sub hh _ (hL x hx)⟩
/-- of one that makes something -/
theorem hMi_zA {l : Launch} {y : MethodName} {ws : List Cond} {rm : Room} {G : va_G} {K : (Nat → Nat) × (Nat → Nat)} {tys : List (ClassId × FieldType)} {av : List Value} {W0 : va_W} {W1 : (Nat → Nat) → va_W} {r : Int32} {mc ms : Nat} {h : HW} {post : Int32 → HW → Prop} (hM : zAi l y ws rm G K tys av W0 W1 r mc ms) (hh : hHas h W0) (hD : va_D (fun _ => True) W0) (hp : ∀ (a : Nat → Nat) (h1 : HW), hNx h W0 (W1 a) h1 → post r h1) : hMi l y ws rm G K tys av h mc ms post := by
  intro sz
  refine MetFree.mono (hM sz) (fun a s q => ?_) (fun _ _ _ _ _ _ => trivial) (fun a s o t hq q => ?_)
  · obtain ⟨q0, q1, q2, q3, q4, qz, q5⟩ := mPc_z hh hD q
    exact ⟨q0, q1, q2, q3, q4, qz, q5, q.2.2.2.2.2.2.1⟩
  · obtain ⟨⟨⟨v, u, ho, hv, hP1, hD1⟩, hF⟩, L, hE, hL⟩ := q
    obtain ⟨q0, rfl, q2, q3, q4, qz, q5⟩ := hq
    obtain ⟨k1, k2, k3⟩ := hM_key q2 hh hF hP1 hD1
    exact ⟨⟨⟨v, _, ho, by rw [show v = r from hv]; exact hp _ _ k1, k2, k3⟩, hF.1, fun x hx hn => hF.2 x hx fun h9 => hn (hA_sub hh _ h9)⟩, L, hE, fun x hx => hA_sub hh _ (hL x hx)⟩
/-- of one that throws and leaves all as it was -/
def hXi (l : Launch) (y : MethodName) (ws : List Cond) (rm : Room) (G : va_G) (K : (Nat → Nat) × (Nat → Nat)) (tys : List (ClassId × FieldType)) (av : List Value) (h : HW) (E : String) : Prop := ∀ sz : Nat, vx_Met l y ws rm (mPc G K tys av h sz) (va_Qi (fun (_ : Int32) (_ : Unit) => False) (fun _ _ => True) (mA h sz)) (vx_X (fun (_ : Unit) => True) (fun E' _ t => E' = E ∧ mP G K h t.heap ∧ mD (mA h sz) h) (mA h sz)) 1 6 (mA h sz)
theorem hXi_z {l : Launch} {y : MethodName} {ws : List Cond} {rm : Room} {G : va_G} {K : (Nat → Nat) × (Nat → Nat)} {tys : List (ClassId × FieldType)} {av : List Value} {W0 : va_W} {E : String} {h : HW} (hM : zXi l y ws rm G K tys av W0 W0 E) (hh : hHas h W0) (hD : va_D (fun _ => True) W0) : hXi l y ws rm G K tys av h E := by
  intro sz
  refine MetFree.mono (hM sz) (fun a s q => ?_) (fun _ _ _ _ _ _ => trivial) (fun a s o t hq q => ?_)
  · obtain ⟨q0, q1, q2, q3, q4, qz, q5⟩ := mPc_z hh hD q
    exact ⟨q0, q1, q2, q3, q4, qz, q5, q.2.2.2.2.2.2.2.1⟩
  · obtain ⟨q0, rfl, q2, q3, q4, qz, q5⟩ := hq
    rcases q with ⟨⟨⟨v, u, -, hv, -⟩, -⟩, -⟩ | ⟨x, ho, E', ce, L, ⟨u, -, ⟨rfl, hP1, hD1⟩, hF⟩, x1, x2, x3, x4, x5, x6⟩
    · exact hv.elim
    · refine Or.inr ⟨x, ho, E', ce, L, ⟨(), trivial, ⟨rfl, fun b w e hb => ?_, mD.self⟩, hF.1, fun z hz hn => hF.2 z hz fun h9 => hn (hA_sub hh _ h9)⟩, x1, x2, x3, x4, x5, fun z hz => hA_sub hh _ (x6 z hz)⟩
      rcases Classical.em (∃ (k : Nat) (e1 : va_E), W0[k]? = some (b, e1)) with ⟨k, e1, hk⟩ | hn
      · have h1 := (hh k b e1 hk).symm.trans hb
        injection h1 with h2
        injection h2 with h3 h4
        subst h3; subst h4
        exact hP1 k _ hk
      · refine (q2 b w e hb).kept (hF.2 b (q2.lt hb) ?_)
        rintro (⟨k, e2, h2⟩ | h2)
        · exact hn ⟨k, e2, h2⟩
        · exact absurd (q2.lt hb) (Nat.not_lt.mpr h2)
/-- one with a table of catches -/
theorem hMi.ofx {l : Launch} {y : MethodName} {ws ws' : List Cond} {rm : Room} {G : va_G} {K : (Nat → Nat) × (Nat → Nat)} {tys : List (ClassId × FieldType)} {av : List Value} {h : HW} {mc ms : Nat} {post : Int32 → HW → Prop} {cc : ByteArray} {maxL : Nat} {hh : List (Nat × Nat × Nat × Nat)} {lv : List (Nat × Value)} (hy : plainName y.cls = true) (hw : ws = Cond.codeWith y cc maxL (some (.int)) hh :: ws') (hsl : (lg_sl av).length ≤ maxL) (hlv : lv_args 0 av = lv)
    (body : ∀ (p : Program) (e : Env) (s : State) (m : MethodId) (args : Array Value) (below : List Frame) (meth : Method) (c : Code) (A : Nat → Prop) (Q : State → Prop) (H : Heap) (locs : List Loc), p.tables.exec = Jvm.exec → c.code = cc → c.maxLocals = maxL → c.exceptionTable.toList = tableOf hh → s.vm.findClass y.cls = some m.cls → (∀ w ∈ ws, w.before args s = true) → va_K G vwCl tys s → NW K s → ZE K A s s.heap → XX s → mP G K h H → mD A h → (∀ q : Nat, s.heap.size ≤ q → A q) → va_S A s.heap H locs →
      (∀ (H : Heap) (locs : List Loc) (ls : Array Slot) (pc cells slots : Nat) (v : Int32) (h1 : HW), cells ≤ mc → slots ≤ ms → post v h1 → mP G K h1 H → mD A h1 → va_S A s.heap H locs → decode cc pc = .ok (.ireturn, 1) → W p l e rm s m args below meth c H locs cells slots Q (F0 m pc ls [.int v])) →
      ∀ ls : Array Slot, lv_has ls maxL lv → W p l e rm s m args below meth c H locs 0 0 Q (F0 m 0 ls [])) : hMi l y ws rm G K tys av h mc ms post := by
  intro sz
  refine MetFree.of_bodyS (code := cc) (maxLocals := maxL) (ret := some (.int)) hy ?_ ?_
  · intro args s m h hn
    obtain ⟨m9, meth, c, hn9, h1, h2, h3, h4, -, h5, h6, -⟩ := Cond.codeWith_spec (atoms_spec (ws := ws) h _ (by rw [hw]; exact List.mem_cons_self))
    cases hn.symm.trans hn9
    exact ⟨meth, c, h1, h2, h3, h4, h5, h6⟩
  · intro p e s m args below meth c s₁ B hml hv _
    have hh0 : s₁.heap = s.heap := by rw [B.state]; rfl
    obtain ⟨rfl, hsz, hP, hK, hN, hZ, hXX⟩ := hv
    subst hsz
    have hx := B.exec
    have hb := B.bytes
    have hlocks := B.notSynchronized
    have htab := vx_table (x := y) B (atoms_spec (ws := ws) B.pre _ (by rw [hw]; exact List.mem_cons_self))
    have key : W p l e (headSpec ws rm).room s m av.toArray below meth c s.heap [] 0 0 (MQ below (va_Qi post (mB G K (mA h s.heap.size)) (mA h s.heap.size)) av.toArray s mc ms (mA h s.heap.size)) (entryFrame m av.toArray maxL) := by
      rw [lg_entry_eq]
      refine body p e s m _ below meth c (mA h s.heap.size) _ s.heap [] hx hb hml htab (findClass_of_methodNamed B.named) (atoms_spec (ws := ws) B.pre) hK hN hZ hXX hP mD.self (fun q h => Or.inr h) va_S.rf ?_ _ (hlv ▸ lv_entry av hsl)
      intro H locs ls pc cells slots v h1 hc1 hc2 hp hP1 hD1 hS hdg
      refine W.widen hc1 hc2 ?_
      exact W.iret hx hb B.returns (fun t ht hW => ⟨⟨v, h1, rfl, hp, by rw [ht]; exact hP1, hD1⟩, hS.F ht⟩) hS.2.2 hdg
    obtain ⟨t, a1, o, b1, b2, b3⟩ := key s₁ hh0 (Stand.of_body B)
    exact ⟨t, o, a1, b1, b2, b3⟩
section HXR
variable {p : Program} {l : Launch} {e : Env} {R : Room} {s : State} {m : MethodId} {args : Array Value} {below : List Frame} {meth : Method} {c : Code} {H : Heap} {locs : List Loc} {cells slots : Nat} {Q : State → Prop}
variable {cc : ByteArray} {pc : Nat} {ls : Array Slot} {A : Nat → Prop} {G : va_G} {K : (Nat → Nat) × (Nat → Nat)} {tys : List (ClassId × FieldType)} {h : HW} {wds : List Cond} {rm : Room} {As rest st : List Value} {b : Addr} {y : MethodName} {bytes : ByteArray} {nL maxL n index mc ms : Nat} {Ts : List Cond} {own C : String} {ret : Option FieldType} {E : String}
/-- a call that throws -/
theorem hcXVi (S : CallFix p m c cc nL s args Ts own) (hM : hXi l y wds rm G K tys (.ref b :: As) h E) (cw : CallW R s args own C index y bytes maxL ret wds rm 1 6 n) (hK : va_K G vwCl tys s) (hN : NW K s) (hZ : ZE K A s s.heap) (hXX : XX s) (hP : mP G K h H) (hD : mD A h) (hS : va_S A s.heap H locs) (hA : ∀ q : Nat, s.heap.size ≤ q → A q) (hrv : ∃ cell : Cell, H[b]? = some cell ∧ cell.vm.isStatics = false ∧ s.vm.findClass C = some cell.cls) (hn : As.length = n) (hsz : ls.size = nL) (hst : st = As.reverse ++ .ref b :: rest) (hrest : (rest.map fun v => v.category).sum ≤ 8) (hdg : decode cc pc = .ok (.invokevirtual index, 3)) (hf : cells + 1 ≤ R.cells ∧ slots + 6 ≤ R.slots)
    (kx : ∀ (H1 : Heap) (locs1 : List Loc) (q : Addr) (ce : Cell), mP G K h H1 → mD A h → va_S A s.heap H1 locs1 → H1[q]? = some ce → ce.vm = .none → s.vm.findClass E = some ce.cls → vx_W p l e R s m args below meth c H1 locs1 (cells + 1) (slots + 6) Q (F0 m pc ls rest) q) : W p l e R s m args below meth c H locs cells slots Q (F0 m pc ls st) := by
  have hFc := mFc hD hS hA
  refine vx_calli (vx_runV (As := As) (rest := rest) S (hM H.size) cw ⟨mPc_blind, hrv, fun U hU hW => ⟨rfl, by rw [hU], by rw [hU]; exact hP, va_K.moved hW.alike hK, hN.warm hW, hZ.call hS hU hW hFc, hXX.warm hW⟩⟩ rfl hn hsz hst (lv_room hrest) hdg hf) hS (fun q _ h => hFc q h) hFc (fun q _ h => hFc q h) (fun E2 ce q9 u t H1 locs ht hvm hpx hB hz1 hk1 hS hq hce hcl => ?_) (fun _ _ _ _ _ _ _ h => h.elim)
  obtain ⟨rfl, hP1, hD1⟩ := hB
  rw [ht] at hP1
  exact kx H1 locs q9 ce hP1 hD hS hq hce hcl
/-- the law's call of one with a table of catches -/
theorem hcSWi {hh : List (Nat × Nat × Nat × Nat)} {post : Int32 → HW → Prop} (S : CallFix p m c cc nL s args Ts own) (hM : hMi l y wds rm G K tys As h mc ms post) (cw : vx_CSW R s args own index y bytes maxL ret hh wds rm mc ms n) (hK : va_K G vwCl tys s) (hN : NW K s) (hZ : ZE K A s s.heap) (hXX : XX s) (hP : mP G K h H) (hD : mD A h) (hS : va_S A s.heap H locs) (hA : ∀ q : Nat, s.heap.size ≤ q → A q) (hn : As.length = n) (hsz : ls.size = nL) (hst : st = As.reverse ++ rest) (hrest : (rest.map fun v => v.category).sum ≤ 8) (hdg : decode cc pc = .ok (.invokestatic index, 3)) (hf : cells + mc ≤ R.cells ∧ slots + ms ≤ R.slots)
    (kk : ∀ (r : Int32) (h1 : HW) (H1 : Heap) (locs1 : List Loc), post r h1 → mP G K h1 H1 → mD A h1 → va_S A s.heap H1 locs1 → W p l e R s m args below meth c H1 locs1 (cells + mc) (slots + ms) Q (F0 m (pc + 3) ls (.int r :: rest))) : W p l e R s m args below meth c H locs cells slots Q (F0 m pc ls st) := by
  have hFc := mFc hD hS hA
  refine va_calli (vx_runSW (As := As) (rest := rest) S (hM H.size) cw ⟨mPc_blind, fun U hU hW => ⟨rfl, by rw [hU], by rw [hU]; exact hP, va_K.moved hW.alike hK, hN.warm hW, hZ.call hS hU hW hFc, hXX.warm hW⟩⟩ rfl hn hsz hst (lv_room hrest) hdg hf) hS (fun q _ h => hFc q h) hFc (fun r2 h1 t H1 locs ht hvm hw hB hz1 hk1 hS => ?_)
  obtain ⟨hP1, hD1⟩ := hB
  rw [ht] at hP1
  exact kk r2 h1 H1 locs hw hP1 (fun q e hq => hFc q (hD1 q e hq)) hS
end HXR
/-- an object of the class, where it lies in a map -/
def CA (c : Nat → ClassId) (ah : Nat → Nat) (ag : Nat → Nat → Nat) (ar : Nat → Nat) (ps : PS) (s : HS) (h : HW) : Prop := hHas h (wH c ah ag ar ps s) ∧ va_D (fun _ => True) (wH c ah ag ar ps s)
theorem hOff_nil (b : Nat) : hOff [] b := fun k e h => by simp at h
theorem hNx_nil {h h1 : HW} (q : hNx h [] [] h1) : h1 = h := funext fun b => q.2.2.1 b (hOff_nil b) (hOff_nil b)
theorem hHas_nil {h : HW} : hHas h [] := fun k a e h => by simp at h
theorem hD_nil {A : Nat → Prop} : va_D A [] := ⟨fun i j p q h => by simp at h, fun k q h => by simp at h⟩
