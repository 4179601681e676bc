/-! contracts over maps, and the rows of calls by them -/
def NCL : List (String × String) := [("java/lang/IllegalArgumentException", "java/lang/IndexOutOfBoundsException"), ("java/util/NoSuchElementException", "java/lang/IndexOutOfBoundsException"), ("java/util/NoSuchElementException", "java/lang/IllegalArgumentException"), ("java/lang/IllegalStateException", "java/lang/IndexOutOfBoundsException"), ("java/lang/IllegalStateException", "java/lang/IllegalArgumentException")]
def NC (U : State) : Prop := ∀ q ∈ NCL, va_Nc q.1 q.2 U
theorem NC.moved {u U : State} (hvm : u.vm.Alike U.vm) (h : NC u) : NC U := fun q hq => va_Nc.moved hvm (h q hq)
def XCL : List String := ["[[I", "[I", "[Z", "[B"]
def XCC (U : State) : Prop := ∀ q ∈ XCL, va_Nw (.castable q "java/lang/Cloneable") U
/-- what the law's own methods need of the tables beside their words -/
def XX (U : State) : Prop := XA U ∧ XW U ∧ NC U ∧ va_AO "HubTrainsLaw$Table" U ∧ XCC U
theorem XX.warm {s U : State} (hW : s.WarmedH U.vm) (h : XX s) : XX U := ⟨XA.moved hW.alike h.1, XW.warm hW h.2.1, NC.moved hW.alike h.2.2.1, va_AO.moved hW.alike h.2.2.2.1, fun q hq => va_Nw.warmC hW (h.2.2.2.2 q hq)⟩
theorem XX.same {u U : State} (hvm : u.vm = U.vm) (h : XX u) : XX U := ⟨XA.moved (by rw [hvm]; exact Vm.Alike.refl _) h.1, XW.same hvm h.2.1, NC.moved (by rw [hvm]; exact Vm.Alike.refl _) h.2.2.1, va_AO.moved (by rw [hvm]; exact Vm.Alike.refl _) h.2.2.2.1, fun q hq => va_Nw.same rfl hvm (h.2.2.2.2 q hq)⟩
abbrev mPc (G : va_G) (K : (Nat → Nat) × (Nat → Nat)) (tys : List (ClassId × FieldType)) (av : List Value) (h : HW) (sz : Nat) : Array Value → State → Prop := va_Pc av (fun U => U.heap.size = sz ∧ mP G K h U.heap ∧ va_K G vwCl tys U ∧ NW K U ∧ ZE K (mA h sz) U U.heap ∧ XX U)
theorem mPc_blind {G : va_G} {K : (Nat → Nat) × (Nat → Nat)} {tys : List (ClassId × FieldType)} {av : List Value} {h : HW} {sz : Nat} : FrameBlind (mPc G K tys av h sz) := fun a U g mk q => by
  obtain ⟨q0, q1, q2, q3, q4, qz, q5⟩ := q
  exact ⟨q0, q1, q2, va_K.moved (u := U) (U := U.calling g mk a) (Vm.Alike.refl U.vm) q3, NW.same (u := U) (U := U.calling g mk a) rfl q4, ZE.moved (u := U) (U := U.calling g mk a) (Vm.Alike.refl U.vm) qz, XX.same (u := U) (U := U.calling g mk a) rfl q5⟩
def mB (G : va_G) (K : (Nat → Nat) × (Nat → Nat)) (A : Nat → Prop) : HW → State → Prop := fun h1 t => mP G K h1 t.heap ∧ mD A h1
theorem mFc {A : Nat → Prop} {h : HW} {H0 H : Heap} {locs : List Loc} (hD : mD A h) (hS : va_S A H0 H locs) (hA : ∀ q : Nat, H0.size ≤ q → A q) : ∀ q : Nat, mA h H.size q → A q := by
  rintro q (⟨e, h1⟩ | h1)
  · exact hD q e h1
  · exact hA q (Nat.le_trans hS.1 h1)
def hMi (l : Launch) (y : MethodName) (ws : List Cond) (rm : Room) (G : va_G) (K : (Nat → Nat) × (Nat → Nat)) (tys : List (ClassId × FieldType)) (av : List Value) (h : HW) (mc ms : Nat) (post : Int32 → HW → Prop) : Prop := ∀ sz : Nat, Met l y ws rm (mPc G K tys av h sz) (va_Qi post (mB G K (mA h sz)) (mA h sz)) mc ms (mA h sz)
def hMl (l : Launch) (y : MethodName) (ws : List Cond) (rm : Room) (G : va_G) (K : (Nat → Nat) × (Nat → Nat)) (tys : List (ClassId × FieldType)) (av : List Value) (h : HW) (mc ms : Nat) (post : Int64 → HW → Prop) : Prop := ∀ sz : Nat, Met l y ws rm (mPc G K tys av h sz) (va_Ql post (mB G K (mA h sz)) (mA h sz)) mc ms (mA h sz)
def hMv (l : Launch) (y : MethodName) (ws : List Cond) (rm : Room) (G : va_G) (K : (Nat → Nat) × (Nat → Nat)) (tys : List (ClassId × FieldType)) (av : List Value) (h : HW) (mc ms : Nat) (post : HW → Prop) : Prop := ∀ sz : Nat, Met l y ws rm (mPc G K tys av h sz) (va_Qv post (mB G K (mA h sz)) (mA h sz)) mc ms (mA h sz)
def hMq (l : Launch) (y : MethodName) (ws : List Cond) (rm : Room) (G : va_G) (K : (Nat → Nat) × (Nat → Nat)) (tys : List (ClassId × FieldType)) (av : List Value) (h : HW) (mc ms : Nat) (post : Option Nat → HW → Prop) : Prop := ∀ sz : Nat, Met l y ws rm (mPc G K tys av h sz) (va_Qq post (mB G K (mA h sz)) (mA h sz)) mc ms (mA h sz)
theorem hMi.of {l : Launch} {y : MethodName} {ws ws' : List Cond} {rm : Room} {G : va_G} {K : (Nat → Nat) × (Nat → Nat)} {tys : List (ClassId × FieldType)} {av : List Value} {h : HW} {mc ms : Nat} {post : Int32 → HW → Prop} {cc : ByteArray} {maxL : Nat} {ty : FieldType} {lv : List (Nat × Value)} (hy : plainName y.cls = true) (hw : ws = Cond.code y cc maxL (some ty) :: ws') (hsl : (lg_sl av).length ≤ maxL) (hlv : lv_args 0 av = lv)
    (body : ∀ (p : Program) (e : Env) (s : State) (m : MethodId) (args : Array Value) (below : List Frame) (meth : Method) (c : Code) (A : Nat → Prop) (Q : State → Prop) (H : Heap) (locs : List Loc), p.tables.exec = Jvm.exec → c.code = cc → c.maxLocals = maxL → s.vm.findClass y.cls = some m.cls → meth.name = y.name → (∀ w ∈ ws, w.before args s = true) → va_K G vwCl tys s → NW K s → ZE K A s s.heap → XX s → mP G K h H → mD A h → (∀ q : Nat, s.heap.size ≤ q → A q) → va_S A s.heap H locs →
      (∀ (H : Heap) (locs : List Loc) (ls : Array Slot) (pc cells slots : Nat) (v : Int32) (h1 : HW), cells ≤ mc → slots ≤ ms → narrow ty (.int v) = .int v → post v h1 → mP G K h1 H → mD A h1 → va_S A s.heap H locs → decode cc pc = .ok (.ireturn, 1) → W p l e rm s m args below meth c H locs cells slots Q (F0 m pc ls [.int v])) →
      ∀ ls : Array Slot, lv_has ls maxL lv → W p l e rm s m args below meth c H locs 0 0 Q (F0 m 0 ls [])) : hMi l y ws rm G K tys av h mc ms post := by
  intro sz
  refine Met.ofW (cc := cc) (maxL := maxL) (ret := some ty) hy hw ?_
  intro p e s m args below meth c s₁ B hml hv
  obtain ⟨rfl, hsz, hP, hK, hN, hZ, hXX⟩ := hv
  subst hsz
  have hx := B.exec
  have hb := B.bytes
  have hlocks := B.notSynchronized
  rw [lg_entry_eq]
  refine body p e s m _ below meth c (mA h s.heap.size) _ s.heap [] hx hb hml (findClass_of_methodNamed B.named) (name_of_methodNamed B.named B.method).1 (atoms_spec (ws := ws) B.pre) hK hN hZ hXX hP mD.self (fun q h => Or.inr h) va_S.rf ?_ _ (hlv ▸ lv_entry av hsl)
  intro H locs ls pc cells slots v h1 hc1 hc2 hn hp hP1 hD1 hS hdg
  refine W.widen hc1 hc2 ?_
  exact W.zret (ty := ty) hx hb B.returns hn (fun t ht hW => ⟨⟨v, h1, rfl, hp, by rw [ht]; exact hP1, hD1⟩, hS.F ht⟩) hS.2.2 hdg
theorem hMl.of {l : Launch} {y : MethodName} {ws ws' : List Cond} {rm : Room} {G : va_G} {K : (Nat → Nat) × (Nat → Nat)} {tys : List (ClassId × FieldType)} {av : List Value} {h : HW} {mc ms : Nat} {post : Int64 → HW → Prop} {cc : ByteArray} {maxL : Nat} {lv : List (Nat × Value)} (hy : plainName y.cls = true) (hw : ws = Cond.code y cc maxL (some .long) :: ws') (hsl : (lg_sl av).length ≤ maxL) (hlv : lv_args 0 av = lv)
    (body : ∀ (p : Program) (e : Env) (s : State) (m : MethodId) (args : Array Value) (below : List Frame) (meth : Method) (c : Code) (A : Nat → Prop) (Q : State → Prop) (H : Heap) (locs : List Loc), p.tables.exec = Jvm.exec → c.code = cc → c.maxLocals = maxL → s.vm.findClass y.cls = some m.cls → meth.name = y.name → (∀ w ∈ ws, w.before args s = true) → va_K G vwCl tys s → NW K s → ZE K A s s.heap → XX s → mP G K h H → mD A h → (∀ q : Nat, s.heap.size ≤ q → A q) → va_S A s.heap H locs →
      (∀ (H : Heap) (locs : List Loc) (ls : Array Slot) (pc cells slots : Nat) (v : Int64) (h1 : HW), cells ≤ mc → slots ≤ ms → post v h1 → mP G K h1 H → mD A h1 → va_S A s.heap H locs → decode cc pc = .ok (.lreturn, 1) → W p l e rm s m args below meth c H locs cells slots Q (F0 m pc ls [.long v])) →
      ∀ ls : Array Slot, lv_has ls maxL lv → W p l e rm s m args below meth c H locs 0 0 Q (F0 m 0 ls [])) : hMl l y ws rm G K tys av h mc ms post := by
  intro sz
  refine Met.ofW (cc := cc) (maxL := maxL) (ret := some .long) hy hw ?_
  intro p e s m args below meth c s₁ B hml hv
  obtain ⟨rfl, hsz, hP, hK, hN, hZ, hXX⟩ := hv
  subst hsz
  have hx := B.exec
  have hb := B.bytes
  have hlocks := B.notSynchronized
  rw [lg_entry_eq]
  refine body p e s m _ below meth c (mA h s.heap.size) _ s.heap [] hx hb hml (findClass_of_methodNamed B.named) (name_of_methodNamed B.named B.method).1 (atoms_spec (ws := ws) B.pre) hK hN hZ hXX hP mD.self (fun q h => Or.inr h) va_S.rf ?_ _ (hlv ▸ lv_entry av hsl)
  intro H locs ls pc cells slots v h1 hc1 hc2 hp hP1 hD1 hS hdg
  refine W.widen hc1 hc2 ?_
  exact W.lret hx hb B.returns (fun t ht hW => ⟨⟨v, h1, rfl, hp, by rw [ht]; exact hP1, hD1⟩, hS.F ht⟩) hS.2.2 hdg
theorem hMv.of {l : Launch} {y : MethodName} {ws ws' : List Cond} {rm : Room} {G : va_G} {K : (Nat → Nat) × (Nat → Nat)} {tys : List (ClassId × FieldType)} {av : List Value} {h : HW} {mc ms : Nat} {post : HW → Prop} {cc : ByteArray} {maxL : Nat} {lv : List (Nat × Value)} (hy : plainName y.cls = true) (hw : ws = Cond.code y cc maxL (none) :: ws') (hsl : (lg_sl av).length ≤ maxL) (hlv : lv_args 0 av = lv)
    (body : ∀ (p : Program) (e : Env) (s : State) (m : MethodId) (args : Array Value) (below : List Frame) (meth : Method) (c : Code) (A : Nat → Prop) (Q : State → Prop) (H : Heap) (locs : List Loc), p.tables.exec = Jvm.exec → c.code = cc → c.maxLocals = maxL → s.vm.findClass y.cls = some m.cls → meth.name = y.name → (∀ w ∈ ws, w.before args s = true) → va_K G vwCl tys s → NW K s → ZE K A s s.heap → XX s → mP G K h H → mD A h → (∀ q : Nat, s.heap.size ≤ q → A q) → va_S A s.heap H locs →
      (∀ (H : Heap) (locs : List Loc) (ls : Array Slot) (pc cells slots : Nat) (h1 : HW), cells ≤ mc → slots ≤ ms → post h1 → mP G K h1 H → mD A h1 → va_S A s.heap H locs → decode cc pc = .ok (.return_, 1) → W p l e rm s m args below meth c H locs cells slots Q (F0 m pc ls [])) →
      ∀ ls : Array Slot, lv_has ls maxL lv → W p l e rm s m args below meth c H locs 0 0 Q (F0 m 0 ls [])) : hMv l y ws rm G K tys av h mc ms post := by
  intro sz
  refine Met.ofW (cc := cc) (maxL := maxL) (ret := none) hy hw ?_
  intro p e s m args below meth c s₁ B hml hv
  obtain ⟨rfl, hsz, hP, hK, hN, hZ, hXX⟩ := hv
  subst hsz
  have hx := B.exec
  have hb := B.bytes
  have hlocks := B.notSynchronized
  rw [lg_entry_eq]
  refine body p e s m _ below meth c (mA h s.heap.size) _ s.heap [] hx hb hml (findClass_of_methodNamed B.named) (name_of_methodNamed B.named B.method).1 (atoms_spec (ws := ws) B.pre) hK hN hZ hXX hP mD.self (fun q h => Or.inr h) va_S.rf ?_ _ (hlv ▸ lv_entry av hsl)
  intro H locs ls pc cells slots h1 hc1 hc2 hp hP1 hD1 hS hdg
  refine W.widen hc1 hc2 ?_
  exact W.vret hx hb B.returns (fun t ht hW => ⟨⟨h1, rfl, hp, by rw [ht]; exact hP1, hD1⟩, hS.F ht⟩) hS.2.2 hdg
theorem hMq.of {l : Launch} {y : MethodName} {ws ws' : List Cond} {rm : Room} {G : va_G} {K : (Nat → Nat) × (Nat → Nat)} {tys : List (ClassId × FieldType)} {av : List Value} {h : HW} {mc ms : Nat} {post : Option Nat → HW → Prop} {cc : ByteArray} {maxL : Nat} {ty : FieldType} (hrt : (∃ n, ty = .object n) ∨ ∃ t, ty = .array t) {lv : List (Nat × Value)} (hy : plainName y.cls = true) (hw : ws = Cond.code y cc maxL (some ty) :: ws') (hsl : (lg_sl av).length ≤ maxL) (hlv : lv_args 0 av = lv)
    (body : ∀ (p : Program) (e : Env) (s : State) (m : MethodId) (args : Array Value) (below : List Frame) (meth : Method) (c : Code) (A : Nat → Prop) (Q : State → Prop) (H : Heap) (locs : List Loc), p.tables.exec = Jvm.exec → c.code = cc → c.maxLocals = maxL → s.vm.findClass y.cls = some m.cls → meth.name = y.name → (∀ w ∈ ws, w.before args s = true) → va_K G vwCl tys s → NW K s → ZE K A s s.heap → XX s → mP G K h H → mD A h → (∀ q : Nat, s.heap.size ≤ q → A q) → va_S A s.heap H locs →
      (∀ (H : Heap) (locs : List Loc) (ls : Array Slot) (pc cells slots : Nat) (v : Option Nat) (h1 : HW), cells ≤ mc → slots ≤ ms → post v h1 → mP G K h1 H → mD A h1 → va_S A s.heap H locs → decode cc pc = .ok (.areturn, 1) → W p l e rm s m args below meth c H locs cells slots Q (F0 m pc ls [va_rf v])) →
      ∀ ls : Array Slot, lv_has ls maxL lv → W p l e rm s m args below meth c H locs 0 0 Q (F0 m 0 ls [])) : hMq l y ws rm G K tys av h mc ms post := by
  intro sz
  refine Met.ofW (cc := cc) (maxL := maxL) (ret := some ty) hy hw ?_
  intro p e s m args below meth c s₁ B hml hv
  obtain ⟨rfl, hsz, hP, hK, hN, hZ, hXX⟩ := hv
  subst hsz
  have hx := B.exec
  have hb := B.bytes
  have hlocks := B.notSynchronized
  rw [lg_entry_eq]
  refine body p e s m _ below meth c (mA h s.heap.size) _ s.heap [] hx hb hml (findClass_of_methodNamed B.named) (name_of_methodNamed B.named B.method).1 (atoms_spec (ws := ws) B.pre) hK hN hZ hXX hP mD.self (fun q h => Or.inr h) va_S.rf ?_ _ (hlv ▸ lv_entry av hsl)
  intro H locs ls pc cells slots v h1 hc1 hc2 hp hP1 hD1 hS hdg
  refine W.widen hc1 hc2 ?_
  exact W.aret hx hb B.returns hrt (va_rf_or v) (fun t ht hW => ⟨⟨v, h1, rfl, hp, by rw [ht]; exact hP1, hD1⟩, hS.F ht⟩) hS.2.2 hdg
section HC
variable {p : Program} {l : Launch} {e : Env} {R : Room} {s : State} {m : MethodId} {args : Array Value} {below : List Frame} {meth : Method} {c : Code} {H : Heap} {locs : List Loc} {cells slots : Nat} {Q : State → Prop}
variable {cc : ByteArray} {pc : Nat} {ls : Array Slot} {A : Nat → Prop} {G : va_G} {K : (Nat → Nat) × (Nat → Nat)} {tys : List (ClassId × FieldType)} {h : HW} {wds : List Cond} {rm : Room} {As rest st : List Value} {b : Addr} {x y : MethodName} {bytes : ByteArray} {nL maxL n index mc ms : Nat} {Ts : List Cond} {own C host owner : String} {ret : Option FieldType}
theorem hcVi {post : Int32 → HW → Prop} (S : CallFix p m c cc nL s args Ts own) (hM : hMi l y wds rm G K tys (.ref b :: As) h mc ms post) (cw : CallW R s args own C index y bytes maxL ret wds rm mc ms n) (hK : va_K G vwCl tys s) (hN : NW K s) (hZ : ZE K A s s.heap) (hXX : XX s) (hP : mP G K h H) (hD : mD A h) (hS : va_S A s.heap H locs) (hA : ∀ q : Nat, s.heap.size ≤ q → A q) (hrv : ∃ cell : Cell, H[b]? = some cell ∧ cell.vm.isStatics = false ∧ s.vm.findClass C = some cell.cls) (hn : As.length = n) (hsz : ls.size = nL) (hst : st = As.reverse ++ .ref b :: rest) (hrest : (rest.map fun v => v.category).sum ≤ 8) (hdg : decode cc pc = .ok (.invokevirtual index, 3)) (hf : cells + mc ≤ R.cells ∧ slots + ms ≤ R.slots)
    (kk : ∀ (v : Int32) (h1 : HW) (H1 : Heap) (locs1 : List Loc), post v h1 → mP G K h1 H1 → mD A h1 → va_S A s.heap H1 locs1 → W p l e R s m args below meth c H1 locs1 (cells + mc) (slots + ms) Q (F0 m (pc + 3) ls (.int v :: rest))) : W p l e R s m args below meth c H locs cells slots Q (F0 m pc ls st) := by
  have hFc := mFc hD hS hA
  refine va_calli (va_runV (As := As) (rest := rest) S (hM H.size) cw ⟨mPc_blind, hrv, fun U hU hW => ⟨rfl, by rw [hU], by rw [hU]; exact hP, va_K.moved hW.alike hK, hN.warm hW, hZ.call hS hU hW hFc, hXX.warm hW⟩⟩ rfl hn hsz hst (lv_room hrest) hdg hf) hS (fun q _ h => hFc q h) hFc (fun v h1 t H1 locs1 ht hvm hp hB hz1 hk1 hS => ?_)
  obtain ⟨hP1, hD1⟩ := hB
  rw [ht] at hP1
  exact kk v h1 H1 locs1 hp hP1 (fun a e ha => hFc a (hD1 a e ha)) hS
theorem hcVl {post : Int64 → HW → Prop} (S : CallFix p m c cc nL s args Ts own) (hM : hMl l y wds rm G K tys (.ref b :: As) h mc ms post) (cw : CallW R s args own C index y bytes maxL ret wds rm mc ms n) (hK : va_K G vwCl tys s) (hN : NW K s) (hZ : ZE K A s s.heap) (hXX : XX s) (hP : mP G K h H) (hD : mD A h) (hS : va_S A s.heap H locs) (hA : ∀ q : Nat, s.heap.size ≤ q → A q) (hrv : ∃ cell : Cell, H[b]? = some cell ∧ cell.vm.isStatics = false ∧ s.vm.findClass C = some cell.cls) (hn : As.length = n) (hsz : ls.size = nL) (hst : st = As.reverse ++ .ref b :: rest) (hrest : (rest.map fun v => v.category).sum ≤ 8) (hdg : decode cc pc = .ok (.invokevirtual index, 3)) (hf : cells + mc ≤ R.cells ∧ slots + ms ≤ R.slots)
    (kk : ∀ (v : Int64) (h1 : HW) (H1 : Heap) (locs1 : List Loc), post v h1 → mP G K h1 H1 → mD A h1 → va_S A s.heap H1 locs1 → W p l e R s m args below meth c H1 locs1 (cells + mc) (slots + ms) Q (F0 m (pc + 3) ls (.long v :: rest))) : W p l e R s m args below meth c H locs cells slots Q (F0 m pc ls st) := by
  have hFc := mFc hD hS hA
  refine va_calll (va_runV (As := As) (rest := rest) S (hM H.size) cw ⟨mPc_blind, hrv, fun U hU hW => ⟨rfl, by rw [hU], by rw [hU]; exact hP, va_K.moved hW.alike hK, hN.warm hW, hZ.call hS hU hW hFc, hXX.warm hW⟩⟩ rfl hn hsz hst (lv_room hrest) hdg hf) hS (fun q _ h => hFc q h) hFc (fun v h1 t H1 locs1 ht hvm hp hB hz1 hk1 hS => ?_)
  obtain ⟨hP1, hD1⟩ := hB
  rw [ht] at hP1
  exact kk v h1 H1 locs1 hp hP1 (fun a e ha => hFc a (hD1 a e ha)) hS
theorem hcVv {post : HW → Prop} (S : CallFix p m c cc nL s args Ts own) (hM : hMv l y wds rm G K tys (.ref b :: As) h mc ms post) (cw : CallW R s args own C index y bytes maxL ret wds rm mc ms n) (hK : va_K G vwCl tys s) (hN : NW K s) (hZ : ZE K A s s.heap) (hXX : XX s) (hP : mP G K h H) (hD : mD A h) (hS : va_S A s.heap H locs) (hA : ∀ q : Nat, s.heap.size ≤ q → A q) (hrv : ∃ cell : Cell, H[b]? = some cell ∧ cell.vm.isStatics = false ∧ s.vm.findClass C = some cell.cls) (hn : As.length = n) (hsz : ls.size = nL) (hst : st = As.reverse ++ .ref b :: rest) (hrest : (rest.map fun v => v.category).sum ≤ 8) (hdg : decode cc pc = .ok (.invokevirtual index, 3)) (hf : cells + mc ≤ R.cells ∧ slots + ms ≤ R.slots)
    (kk : ∀ (h1 : HW) (H1 : Heap) (locs1 : List Loc), post h1 → mP G K h1 H1 → mD A h1 → va_S A s.heap H1 locs1 → W p l e R s m args below meth c H1 locs1 (cells + mc) (slots + ms) Q (F0 m (pc + 3) ls (rest))) : W p l e R s m args below meth c H locs cells slots Q (F0 m pc ls st) := by
  have hFc := mFc hD hS hA
  refine va_callv (va_runV (As := As) (rest := rest) S (hM H.size) cw ⟨mPc_blind, hrv, fun U hU hW => ⟨rfl, by rw [hU], by rw [hU]; exact hP, va_K.moved hW.alike hK, hN.warm hW, hZ.call hS hU hW hFc, hXX.warm hW⟩⟩ rfl hn hsz hst (lv_room hrest) hdg hf) hS (fun q _ h => hFc q h) hFc (fun h1 t H1 locs1 ht hvm hp hB hz1 hk1 hS => ?_)
  obtain ⟨hP1, hD1⟩ := hB
  rw [ht] at hP1
  exact kk h1 H1 locs1 hp hP1 (fun a e ha => hFc a (hD1 a e ha)) hS
theorem hcVq {post : Option Nat → HW → Prop} (S : CallFix p m c cc nL s args Ts own) (hM : hMq l y wds rm G K tys (.ref b :: As) h mc ms post) (cw : CallW R s args own C index y bytes maxL ret wds rm mc ms n) (hK : va_K G vwCl tys s) (hN : NW K s) (hZ : ZE K A s s.heap) (hXX : XX s) (hP : mP G K h H) (hD : mD A h) (hS : va_S A s.heap H locs) (hA : ∀ q : Nat, s.heap.size ≤ q → A q) (hrv : ∃ cell : Cell, H[b]? = some cell ∧ cell.vm.isStatics = false ∧ s.vm.findClass C = some cell.cls) (hn : As.length = n) (hsz : ls.size = nL) (hst : st = As.reverse ++ .ref b :: rest) (hrest : (rest.map fun v => v.category).sum ≤ 8) (hdg : decode cc pc = .ok (.invokevirtual index, 3)) (hf : cells + mc ≤ R.cells ∧ slots + ms ≤ R.slots)
    (kk : ∀ (v : Option Nat) (h1 : HW) (H1 : Heap) (locs1 : List Loc), post v h1 → mP G K h1 H1 → mD A h1 → va_S A s.heap H1 locs1 → W p l e R s m args below meth c H1 locs1 (cells + mc) (slots + ms) Q (F0 m (pc + 3) ls (va_rf v :: rest))) : W p l e R s m args below meth c H locs cells slots Q (F0 m pc ls st) := by
  have hFc := mFc hD hS hA
  refine va_callq (va_runV (As := As) (rest := rest) S (hM H.size) cw ⟨mPc_blind, hrv, fun U hU hW => ⟨rfl, by rw [hU], by rw [hU]; exact hP, va_K.moved hW.alike hK, hN.warm hW, hZ.call hS hU hW hFc, hXX.warm hW⟩⟩ rfl hn hsz hst (lv_room hrest) hdg hf) hS (fun q _ h => hFc q h) hFc (fun v h1 t H1 locs1 ht hvm hp hB hz1 hk1 hS => ?_)
  obtain ⟨hP1, hD1⟩ := hB
  rw [ht] at hP1
  exact kk v h1 H1 locs1 hp hP1 (fun a e ha => hFc a (hD1 a e ha)) hS
theorem hcVUi {post : Int32 → HW → Prop} (S : CallFix p m c cc nL s args Ts own) (hM : hMi l y wds rm G K tys (.ref b :: As) h mc ms post) (cw : va_CU R s args own C owner index x y bytes maxL ret wds rm mc ms n) (hK : va_K G vwCl tys s) (hN : NW K s) (hZ : ZE K A s s.heap) (hXX : XX s) (hP : mP G K h H) (hD : mD A h) (hS : va_S A s.heap H locs) (hA : ∀ q : Nat, s.heap.size ≤ q → A q) (hrv : ∃ cell : Cell, H[b]? = some cell ∧ cell.vm.isStatics = false ∧ s.vm.findClass C = some cell.cls) (hn : As.length = n) (hsz : ls.size = nL) (hst : st = As.reverse ++ .ref b :: rest) (hrest : (rest.map fun v => v.category).sum ≤ 8) (hdg : decode cc pc = .ok (.invokevirtual index, 3)) (hf : cells + mc ≤ R.cells ∧ slots + ms ≤ R.slots)
    (kk : ∀ (v : Int32) (h1 : HW) (H1 : Heap) (locs1 : List Loc), post v h1 → mP G K h1 H1 → mD A h1 → va_S A s.heap H1 locs1 → W p l e R s m args below meth c H1 locs1 (cells + mc) (slots + ms) Q (F0 m (pc + 3) ls (.int v :: rest))) : W p l e R s m args below meth c H locs cells slots Q (F0 m pc ls st) := by
  have hFc := mFc hD hS hA
  refine va_calli (va_runU (As := As) (rest := rest) S (hM H.size) cw ⟨mPc_blind, hrv, fun U hU hW => ⟨rfl, by rw [hU], by rw [hU]; exact hP, va_K.moved hW.alike hK, hN.warm hW, hZ.call hS hU hW hFc, hXX.warm hW⟩⟩ rfl hn hsz hst (lv_room hrest) hdg hf) hS (fun q _ h => hFc q h) hFc (fun v h1 t H1 locs1 ht hvm hp hB hz1 hk1 hS => ?_)
  obtain ⟨hP1, hD1⟩ := hB
  rw [ht] at hP1
  exact kk v h1 H1 locs1 hp hP1 (fun a e ha => hFc a (hD1 a e ha)) hS
theorem hcVUv {post : HW → Prop} (S : CallFix p m c cc nL s args Ts own) (hM : hMv l y wds rm G K tys (.ref b :: As) h mc ms post) (cw : va_CU R s args own C owner index x y bytes maxL ret wds rm mc ms n) (hK : va_K G vwCl tys s) (hN : NW K s) (hZ : ZE K A s s.heap) (hXX : XX s) (hP : mP G K h H) (hD : mD A h) (hS : va_S A s.heap H locs) (hA : ∀ q : Nat, s.heap.size ≤ q → A q) (hrv : ∃ cell : Cell, H[b]? = some cell ∧ cell.vm.isStatics = false ∧ s.vm.findClass C = some cell.cls) (hn : As.length = n) (hsz : ls.size = nL) (hst : st = As.reverse ++ .ref b :: rest) (hrest : (rest.map fun v => v.category).sum ≤ 8) (hdg : decode cc pc = .ok (.invokevirtual index, 3)) (hf : cells + mc ≤ R.cells ∧ slots + ms ≤ R.slots)
    (kk : ∀ (h1 : HW) (H1 : Heap) (locs1 : List Loc), post h1 → mP G K h1 H1 → mD A h1 → va_S A s.heap H1 locs1 → W p l e R s m args below meth c H1 locs1 (cells + mc) (slots + ms) Q (F0 m (pc + 3) ls (rest))) : W p l e R s m args below meth c H locs cells slots Q (F0 m pc ls st) := by
  have hFc := mFc hD hS hA
  refine va_callv (va_runU (As := As) (rest := rest) S (hM H.size) cw ⟨mPc_blind, hrv, fun U hU hW => ⟨rfl, by rw [hU], by rw [hU]; exact hP, va_K.moved hW.alike hK, hN.warm hW, hZ.call hS hU hW hFc, hXX.warm hW⟩⟩ rfl hn hsz hst (lv_room hrest) hdg hf) hS (fun q _ h => hFc q h) hFc (fun h1 t H1 locs1 ht hvm hp hB hz1 hk1 hS => ?_)
  obtain ⟨hP1, hD1⟩ := hB
  rw [ht] at hP1
  exact kk h1 H1 locs1 hp hP1 (fun a e ha => hFc a (hD1 a e ha)) hS
theorem hcVUq {post : Option Nat → HW → Prop} (S : CallFix p m c cc nL s args Ts own) (hM : hMq l y wds rm G K tys (.ref b :: As) h mc ms post) (cw : va_CU R s args own C owner index x y bytes maxL ret wds rm mc ms n) (hK : va_K G vwCl tys s) (hN : NW K s) (hZ : ZE K A s s.heap) (hXX : XX s) (hP : mP G K h H) (hD : mD A h) (hS : va_S A s.heap H locs) (hA : ∀ q : Nat, s.heap.size ≤ q → A q) (hrv : ∃ cell : Cell, H[b]? = some cell ∧ cell.vm.isStatics = false ∧ s.vm.findClass C = some cell.cls) (hn : As.length = n) (hsz : ls.size = nL) (hst : st = As.reverse ++ .ref b :: rest) (hrest : (rest.map fun v => v.category).sum ≤ 8) (hdg : decode cc pc = .ok (.invokevirtual index, 3)) (hf : cells + mc ≤ R.cells ∧ slots + ms ≤ R.slots)
    (kk : ∀ (v : Option Nat) (h1 : HW) (H1 : Heap) (locs1 : List Loc), post v h1 → mP G K h1 H1 → mD A h1 → va_S A s.heap H1 locs1 → W p l e R s m args below meth c H1 locs1 (cells + mc) (slots + ms) Q (F0 m (pc + 3) ls (va_rf v :: rest))) : W p l e R s m args below meth c H locs cells slots Q (F0 m pc ls st) := by
  have hFc := mFc hD hS hA
  refine va_callq (va_runU (As := As) (rest := rest) S (hM H.size) cw ⟨mPc_blind, hrv, fun U hU hW => ⟨rfl, by rw [hU], by rw [hU]; exact hP, va_K.moved hW.alike hK, hN.warm hW, hZ.call hS hU hW hFc, hXX.warm hW⟩⟩ rfl hn hsz hst (lv_room hrest) hdg hf) hS (fun q _ h => hFc q h) hFc (fun v h1 t H1 locs1 ht hvm hp hB hz1 hk1 hS => ?_)
  obtain ⟨hP1, hD1⟩ := hB
  rw [ht] at hP1
  exact kk v h1 H1 locs1 hp hP1 (fun a e ha => hFc a (hD1 a e ha)) hS
theorem hcSi {post : Int32 → HW → Prop} (S : CallFix p m c cc nL s args Ts own) (hM : hMi l y wds rm G K tys (As) h mc ms post) (cw : CallB R s args own index y bytes maxL ret wds rm mc ms n ∧ (Cond.static y).before args s = true) (hK : va_K G vwCl tys s) (hN : NW K s) (hZ : ZE K A s s.heap) (hXX : XX s) (hP : mP G K h H) (hD : mD A h) (hS : va_S A s.heap H locs) (hA : ∀ q : Nat, s.heap.size ≤ q → A q) (hn : As.length = n) (hsz : ls.size = nL) (hst : st = As.reverse ++ rest) (hrest : (rest.map fun v => v.category).sum ≤ 8) (hdg : decode cc pc = .ok (.invokestatic index, 3)) (hf : cells + mc ≤ R.cells ∧ slots + ms ≤ R.slots)
    (kk : ∀ (v : Int32) (h1 : HW) (H1 : Heap) (locs1 : List Loc), post v h1 → mP G K h1 H1 → mD A h1 → va_S A s.heap H1 locs1 → W p l e R s m args below meth c H1 locs1 (cells + mc) (slots + ms) Q (F0 m (pc + 3) ls (.int v :: rest))) : W p l e R s m args below meth c H locs cells slots Q (F0 m pc ls st) := by
  have hFc := mFc hD hS hA
  refine va_calli (va_runS (As := As) (rest := rest) S (hM H.size) cw ⟨mPc_blind, fun U hU hW => ⟨rfl, by rw [hU], by rw [hU]; exact hP, va_K.moved hW.alike hK, hN.warm hW, hZ.call hS hU hW hFc, hXX.warm hW⟩⟩ rfl hn hsz hst (lv_room hrest) hdg hf) hS (fun q _ h => hFc q h) hFc (fun v h1 t H1 locs1 ht hvm hp hB hz1 hk1 hS => ?_)
  obtain ⟨hP1, hD1⟩ := hB
  rw [ht] at hP1
  exact kk v h1 H1 locs1 hp hP1 (fun a e ha => hFc a (hD1 a e ha)) hS
theorem hcSl {post : Int64 → HW → Prop} (S : CallFix p m c cc nL s args Ts own) (hM : hMl l y wds rm G K tys (As) h mc ms post) (cw : CallB R s args own index y bytes maxL ret wds rm mc ms n ∧ (Cond.static y).before args s = true) (hK : va_K G vwCl tys s) (hN : NW K s) (hZ : ZE K A s s.heap) (hXX : XX s) (hP : mP G K h H) (hD : mD A h) (hS : va_S A s.heap H locs) (hA : ∀ q : Nat, s.heap.size ≤ q → A q) (hn : As.length = n) (hsz : ls.size = nL) (hst : st = As.reverse ++ rest) (hrest : (rest.map fun v => v.category).sum ≤ 8) (hdg : decode cc pc = .ok (.invokestatic index, 3)) (hf : cells + mc ≤ R.cells ∧ slots + ms ≤ R.slots)
    (kk : ∀ (v : Int64) (h1 : HW) (H1 : Heap) (locs1 : List Loc), post v h1 → mP G K h1 H1 → mD A h1 → va_S A s.heap H1 locs1 → W p l e R s m args below meth c H1 locs1 (cells + mc) (slots + ms) Q (F0 m (pc + 3) ls (.long v :: rest))) : W p l e R s m args below meth c H locs cells slots Q (F0 m pc ls st) := by
  have hFc := mFc hD hS hA
  refine va_calll (va_runS (As := As) (rest := rest) S (hM H.size) cw ⟨mPc_blind, fun U hU hW => ⟨rfl, by rw [hU], by rw [hU]; exact hP, va_K.moved hW.alike hK, hN.warm hW, hZ.call hS hU hW hFc, hXX.warm hW⟩⟩ rfl hn hsz hst (lv_room hrest) hdg hf) hS (fun q _ h => hFc q h) hFc (fun v h1 t H1 locs1 ht hvm hp hB hz1 hk1 hS => ?_)
  obtain ⟨hP1, hD1⟩ := hB
  rw [ht] at hP1
  exact kk v h1 H1 locs1 hp hP1 (fun a e ha => hFc a (hD1 a e ha)) hS
theorem hcSv {post : HW → Prop} (S : CallFix p m c cc nL s args Ts own) (hM : hMv l y wds rm G K tys (As) h mc ms post) (cw : CallB R s args own index y bytes maxL ret wds rm mc ms n ∧ (Cond.static y).before args s = true) (hK : va_K G vwCl tys s) (hN : NW K s) (hZ : ZE K A s s.heap) (hXX : XX s) (hP : mP G K h H) (hD : mD A h) (hS : va_S A s.heap H locs) (hA : ∀ q : Nat, s.heap.size ≤ q → A q) (hn : As.length = n) (hsz : ls.size = nL) (hst : st = As.reverse ++ rest) (hrest : (rest.map fun v => v.category).sum ≤ 8) (hdg : decode cc pc = .ok (.invokestatic index, 3)) (hf : cells + mc ≤ R.cells ∧ slots + ms ≤ R.slots)
    (kk : ∀ (h1 : HW) (H1 : Heap) (locs1 : List Loc), post h1 → mP G K h1 H1 → mD A h1 → va_S A s.heap H1 locs1 → W p l e R s m args below meth c H1 locs1 (cells + mc) (slots + ms) Q (F0 m (pc + 3) ls (rest))) : W p l e R s m args below meth c H locs cells slots Q (F0 m pc ls st) := by
  have hFc := mFc hD hS hA
  refine va_callv (va_runS (As := As) (rest := rest) S (hM H.size) cw ⟨mPc_blind, fun U hU hW => ⟨rfl, by rw [hU], by rw [hU]; exact hP, va_K.moved hW.alike hK, hN.warm hW, hZ.call hS hU hW hFc, hXX.warm hW⟩⟩ rfl hn hsz hst (lv_room hrest) hdg hf) hS (fun q _ h => hFc q h) hFc (fun h1 t H1 locs1 ht hvm hp hB hz1 hk1 hS => ?_)
  obtain ⟨hP1, hD1⟩ := hB
  rw [ht] at hP1
  exact kk h1 H1 locs1 hp hP1 (fun a e ha => hFc a (hD1 a e ha)) hS
theorem hcSq {post : Option Nat → HW → Prop} (S : CallFix p m c cc nL s args Ts own) (hM : hMq l y wds rm G K tys (As) h mc ms post) (cw : CallB R s args own index y bytes maxL ret wds rm mc ms n ∧ (Cond.static y).before args s = true) (hK : va_K G vwCl tys s) (hN : NW K s) (hZ : ZE K A s s.heap) (hXX : XX s) (hP : mP G K h H) (hD : mD A h) (hS : va_S A s.heap H locs) (hA : ∀ q : Nat, s.heap.size ≤ q → A q) (hn : As.length = n) (hsz : ls.size = nL) (hst : st = As.reverse ++ rest) (hrest : (rest.map fun v => v.category).sum ≤ 8) (hdg : decode cc pc = .ok (.invokestatic index, 3)) (hf : cells + mc ≤ R.cells ∧ slots + ms ≤ R.slots)
    (kk : ∀ (v : Option Nat) (h1 : HW) (H1 : Heap) (locs1 : List Loc), post v h1 → mP G K h1 H1 → mD A h1 → va_S A s.heap H1 locs1 → W p l e R s m args below meth c H1 locs1 (cells + mc) (slots + ms) Q (F0 m (pc + 3) ls (va_rf v :: rest))) : W p l e R s m args below meth c H locs cells slots Q (F0 m pc ls st) := by
  have hFc := mFc hD hS hA
  refine va_callq (va_runS (As := As) (rest := rest) S (hM H.size) cw ⟨mPc_blind, fun U hU hW => ⟨rfl, by rw [hU], by rw [hU]; exact hP, va_K.moved hW.alike hK, hN.warm hW, hZ.call hS hU hW hFc, hXX.warm hW⟩⟩ rfl hn hsz hst (lv_room hrest) hdg hf) hS (fun q _ h => hFc q h) hFc (fun v h1 t H1 locs1 ht hvm hp hB hz1 hk1 hS => ?_)
  obtain ⟨hP1, hD1⟩ := hB
  rw [ht] at hP1
  exact kk v h1 H1 locs1 hp hP1 (fun a e ha => hFc a (hD1 a e ha)) hS
theorem hcSNi {post : Int32 → HW → Prop} (S : CallFix p m c cc nL s args Ts own) (hM : hMi l y wds rm G K tys (As) h mc ms post) (cw : va_CN R s args own index y host bytes maxL ret wds rm mc ms n ∧ (Cond.static y).before args s = true ∧ True) (hK : va_K G vwCl tys s) (hN : NW K s) (hZ : ZE K A s s.heap) (hXX : XX s) (hP : mP G K h H) (hD : mD A h) (hS : va_S A s.heap H locs) (hA : ∀ q : Nat, s.heap.size ≤ q → A q) (hn : As.length = n) (hsz : ls.size = nL) (hst : st = As.reverse ++ rest) (hrest : (rest.map fun v => v.category).sum ≤ 8) (hdg : decode cc pc = .ok (.invokestatic index, 3)) (hf : cells + mc ≤ R.cells ∧ slots + ms ≤ R.slots)
    (kk : ∀ (v : Int32) (h1 : HW) (H1 : Heap) (locs1 : List Loc), post v h1 → mP G K h1 H1 → mD A h1 → va_S A s.heap H1 locs1 → W p l e R s m args below meth c H1 locs1 (cells + mc) (slots + ms) Q (F0 m (pc + 3) ls (.int v :: rest))) : W p l e R s m args below meth c H locs cells slots Q (F0 m pc ls st) := by
  have hFc := mFc hD hS hA
  refine va_calli (va_runSN (As := As) (rest := rest) S (hM H.size) cw ⟨mPc_blind, fun U hU hW => ⟨rfl, by rw [hU], by rw [hU]; exact hP, va_K.moved hW.alike hK, hN.warm hW, hZ.call hS hU hW hFc, hXX.warm hW⟩⟩ rfl hn hsz hst (lv_room hrest) hdg hf) hS (fun q _ h => hFc q h) hFc (fun v h1 t H1 locs1 ht hvm hp hB hz1 hk1 hS => ?_)
  obtain ⟨hP1, hD1⟩ := hB
  rw [ht] at hP1
  exact kk v h1 H1 locs1 hp hP1 (fun a e ha => hFc a (hD1 a e ha)) hS
theorem hcSNl {post : Int64 → HW → Prop} (S : CallFix p m c cc nL s args Ts own) (hM : hMl l y wds rm G K tys (As) h mc ms post) (cw : va_CN R s args own index y host bytes maxL ret wds rm mc ms n ∧ (Cond.static y).before args s = true ∧ True) (hK : va_K G vwCl tys s) (hN : NW K s) (hZ : ZE K A s s.heap) (hXX : XX s) (hP : mP G K h H) (hD : mD A h) (hS : va_S A s.heap H locs) (hA : ∀ q : Nat, s.heap.size ≤ q → A q) (hn : As.length = n) (hsz : ls.size = nL) (hst : st = As.reverse ++ rest) (hrest : (rest.map fun v => v.category).sum ≤ 8) (hdg : decode cc pc = .ok (.invokestatic index, 3)) (hf : cells + mc ≤ R.cells ∧ slots + ms ≤ R.slots)
    (kk : ∀ (v : Int64) (h1 : HW) (H1 : Heap) (locs1 : List Loc), post v h1 → mP G K h1 H1 → mD A h1 → va_S A s.heap H1 locs1 → W p l e R s m args below meth c H1 locs1 (cells + mc) (slots + ms) Q (F0 m (pc + 3) ls (.long v :: rest))) : W p l e R s m args below meth c H locs cells slots Q (F0 m pc ls st) := by
  have hFc := mFc hD hS hA
  refine va_calll (va_runSN (As := As) (rest := rest) S (hM H.size) cw ⟨mPc_blind, fun U hU hW => ⟨rfl, by rw [hU], by rw [hU]; exact hP, va_K.moved hW.alike hK, hN.warm hW, hZ.call hS hU hW hFc, hXX.warm hW⟩⟩ rfl hn hsz hst (lv_room hrest) hdg hf) hS (fun q _ h => hFc q h) hFc (fun v h1 t H1 locs1 ht hvm hp hB hz1 hk1 hS => ?_)
  obtain ⟨hP1, hD1⟩ := hB
  rw [ht] at hP1
  exact kk v h1 H1 locs1 hp hP1 (fun a e ha => hFc a (hD1 a e ha)) hS
theorem hcSNv {post : HW → Prop} (S : CallFix p m c cc nL s args Ts own) (hM : hMv l y wds rm G K tys (As) h mc ms post) (cw : va_CN R s args own index y host bytes maxL ret wds rm mc ms n ∧ (Cond.static y).before args s = true ∧ True) (hK : va_K G vwCl tys s) (hN : NW K s) (hZ : ZE K A s s.heap) (hXX : XX s) (hP : mP G K h H) (hD : mD A h) (hS : va_S A s.heap H locs) (hA : ∀ q : Nat, s.heap.size ≤ q → A q) (hn : As.length = n) (hsz : ls.size = nL) (hst : st = As.reverse ++ rest) (hrest : (rest.map fun v => v.category).sum ≤ 8) (hdg : decode cc pc = .ok (.invokestatic index, 3)) (hf : cells + mc ≤ R.cells ∧ slots + ms ≤ R.slots)
    (kk : ∀ (h1 : HW) (H1 : Heap) (locs1 : List Loc), post h1 → mP G K h1 H1 → mD A h1 → va_S A s.heap H1 locs1 → W p l e R s m args below meth c H1 locs1 (cells + mc) (slots + ms) Q (F0 m (pc + 3) ls (rest))) : W p l e R s m args below meth c H locs cells slots Q (F0 m pc ls st) := by
  have hFc := mFc hD hS hA
  refine va_callv (va_runSN (As := As) (rest := rest) S (hM H.size) cw ⟨mPc_blind, fun U hU hW => ⟨rfl, by rw [hU], by rw [hU]; exact hP, va_K.moved hW.alike hK, hN.warm hW, hZ.call hS hU hW hFc, hXX.warm hW⟩⟩ rfl hn hsz hst (lv_room hrest) hdg hf) hS (fun q _ h => hFc q h) hFc (fun h1 t H1 locs1 ht hvm hp hB hz1 hk1 hS => ?_)
  obtain ⟨hP1, hD1⟩ := hB
  rw [ht] at hP1
  exact kk h1 H1 locs1 hp hP1 (fun a e ha => hFc a (hD1 a e ha)) hS
theorem hcSNq {post : Option Nat → HW → Prop} (S : CallFix p m c cc nL s args Ts own) (hM : hMq l y wds rm G K tys (As) h mc ms post) (cw : va_CN R s args own index y host bytes maxL ret wds rm mc ms n ∧ (Cond.static y).before args s = true ∧ True) (hK : va_K G vwCl tys s) (hN : NW K s) (hZ : ZE K A s s.heap) (hXX : XX s) (hP : mP G K h H) (hD : mD A h) (hS : va_S A s.heap H locs) (hA : ∀ q : Nat, s.heap.size ≤ q → A q) (hn : As.length = n) (hsz : ls.size = nL) (hst : st = As.reverse ++ rest) (hrest : (rest.map fun v => v.category).sum ≤ 8) (hdg : decode cc pc = .ok (.invokestatic index, 3)) (hf : cells + mc ≤ R.cells ∧ slots + ms ≤ R.slots)
    (kk : ∀ (v : Option Nat) (h1 : HW) (H1 : Heap) (locs1 : List Loc), post v h1 → mP G K h1 H1 → mD A h1 → va_S A s.heap H1 locs1 → W p l e R s m args below meth c H1 locs1 (cells + mc) (slots + ms) Q (F0 m (pc + 3) ls (va_rf v :: rest))) : W p l e R s m args below meth c H locs cells slots Q (F0 m pc ls st) := by
  have hFc := mFc hD hS hA
  refine va_callq (va_runSN (As := As) (rest := rest) S (hM H.size) cw ⟨mPc_blind, fun U hU hW => ⟨rfl, by rw [hU], by rw [hU]; exact hP, va_K.moved hW.alike hK, hN.warm hW, hZ.call hS hU hW hFc, hXX.warm hW⟩⟩ rfl hn hsz hst (lv_room hrest) hdg hf) hS (fun q _ h => hFc q h) hFc (fun v h1 t H1 locs1 ht hvm hp hB hz1 hk1 hS => ?_)
  obtain ⟨hP1, hD1⟩ := hB
  rw [ht] at hP1
  exact kk v h1 H1 locs1 hp hP1 (fun a e ha => hFc a (hD1 a e ha)) hS
theorem hcIv {post : HW → Prop} (S : CallFix p m c cc nL s args Ts own) (hM : hMv l y wds rm G K tys (.ref b :: As) h mc ms post) (cw : CallB R s args own index y bytes maxL none wds rm mc ms n ∧ y.name = "<init>" ∧ (Cond.instanceMethod y).before args s = true) (hK : va_K G vwCl tys s) (hN : NW K s) (hZ : ZE K A s s.heap) (hXX : XX s) (hP : mP G K h H) (hD : mD A h) (hS : va_S A s.heap H locs) (hA : ∀ q : Nat, s.heap.size ≤ q → A q) (hn : As.length = n) (hsz : ls.size = nL) (hst : st = As.reverse ++ .ref b :: rest) (hrest : (rest.map fun v => v.category).sum ≤ 8) (hdg : decode cc pc = .ok (.invokespecial index, 3)) (hf : cells + mc ≤ R.cells ∧ slots + ms ≤ R.slots)
    (kk : ∀ (h1 : HW) (H1 : Heap) (locs1 : List Loc), post h1 → mP G K h1 H1 → mD A h1 → va_S A s.heap H1 locs1 → W p l e R s m args below meth c H1 locs1 (cells + mc) (slots + ms) Q (F0 m (pc + 3) ls (rest))) : W p l e R s m args below meth c H locs cells slots Q (F0 m pc ls st) := by
  have hFc := mFc hD hS hA
  refine va_callv (va_runI (As := As) (rest := rest) S (hM H.size) cw ⟨mPc_blind, fun U hU hW => ⟨rfl, by rw [hU], by rw [hU]; exact hP, va_K.moved hW.alike hK, hN.warm hW, hZ.call hS hU hW hFc, hXX.warm hW⟩⟩ rfl hn hsz hst (lv_room hrest) hdg hf) hS (fun q _ h => hFc q h) hFc (fun h1 t H1 locs1 ht hvm hp hB hz1 hk1 hS => ?_)
  obtain ⟨hP1, hD1⟩ := hB
  rw [ht] at hP1
  exact kk h1 H1 locs1 hp hP1 (fun a e ha => hFc a (hD1 a e ha)) hS
theorem hcINv {post : HW → Prop} (S : CallFix p m c cc nL s args Ts own) (hM : hMv l y wds rm G K tys (.ref b :: As) h mc ms post) (cw : va_CN R s args own index y host bytes maxL none wds rm mc ms n ∧ y.name = "<init>" ∧ (Cond.instanceMethod y).before args s = true) (hK : va_K G vwCl tys s) (hN : NW K s) (hZ : ZE K A s s.heap) (hXX : XX s) (hP : mP G K h H) (hD : mD A h) (hS : va_S A s.heap H locs) (hA : ∀ q : Nat, s.heap.size ≤ q → A q) (hn : As.length = n) (hsz : ls.size = nL) (hst : st = As.reverse ++ .ref b :: rest) (hrest : (rest.map fun v => v.category).sum ≤ 8) (hdg : decode cc pc = .ok (.invokespecial index, 3)) (hf : cells + mc ≤ R.cells ∧ slots + ms ≤ R.slots)
    (kk : ∀ (h1 : HW) (H1 : Heap) (locs1 : List Loc), post h1 → mP G K h1 H1 → mD A h1 → va_S A s.heap H1 locs1 → W p l e R s m args below meth c H1 locs1 (cells + mc) (slots + ms) Q (F0 m (pc + 3) ls (rest))) : W p l e R s m args below meth c H locs cells slots Q (F0 m pc ls st) := by
  have hFc := mFc hD hS hA
  refine va_callv (va_runIN (As := As) (rest := rest) S (hM H.size) cw ⟨mPc_blind, fun U hU hW => ⟨rfl, by rw [hU], by rw [hU]; exact hP, va_K.moved hW.alike hK, hN.warm hW, hZ.call hS hU hW hFc, hXX.warm hW⟩⟩ rfl hn hsz hst (lv_room hrest) hdg hf) hS (fun q _ h => hFc q h) hFc (fun h1 t H1 locs1 ht hvm hp hB hz1 hk1 hS => ?_)
  obtain ⟨hP1, hD1⟩ := hB
  rw [ht] at hP1
  exact kk h1 H1 locs1 hp hP1 (fun a e ha => hFc a (hD1 a e ha)) hS
theorem hcSUi {cC : ClassId} {post : Int32 → HW → Prop} (S : CallFix p m c cc nL s args Ts own) (hM : hMi l y wds rm G K tys (.ref b :: As) h mc ms post) (cw : va_CS R s args own index y bytes maxL ret wds rm mc ms n) (hK : va_K G vwCl tys s) (hN : NW K s) (hZ : ZE K A s s.heap) (hXX : XX s) (hP : mP G K h H) (hD : mD A h) (hS : va_S A s.heap H locs) (hA : ∀ q : Nat, s.heap.size ≤ q → A q) (hat : ClassAt s C cC) (hrv : ∃ cell : Cell, H[b]? = some cell ∧ cell.vm.isStatics = false ∧ s.vm.findClass C = some cell.cls) (hn : As.length = n) (hsz : ls.size = nL) (hst : st = As.reverse ++ .ref b :: rest) (hrest : (rest.map fun v => v.category).sum ≤ 8) (hdg : decode cc pc = .ok (.invokespecial index, 3)) (hf : cells + mc ≤ R.cells ∧ slots + ms ≤ R.slots)
    (kk : ∀ (v : Int32) (h1 : HW) (H1 : Heap) (locs1 : List Loc), post v h1 → mP G K h1 H1 → mD A h1 → va_S A s.heap H1 locs1 → W p l e R s m args below meth c H1 locs1 (cells + mc) (slots + ms) Q (F0 m (pc + 3) ls (.int v :: rest))) : W p l e R s m args below meth c H locs cells slots Q (F0 m pc ls st) := by
  have hFc := mFc hD hS hA
  refine va_calli (va_runSU hat (As := As) (rest := rest) S (hM H.size) cw ⟨mPc_blind, hrv, fun U hU hW => ⟨rfl, by rw [hU], by rw [hU]; exact hP, va_K.moved hW.alike hK, hN.warm hW, hZ.call hS hU hW hFc, hXX.warm hW⟩⟩ rfl hn hsz hst (lv_room hrest) hdg hf) hS (fun q _ h => hFc q h) hFc (fun v h1 t H1 locs1 ht hvm hp hB hz1 hk1 hS => ?_)
  obtain ⟨hP1, hD1⟩ := hB
  rw [ht] at hP1
  exact kk v h1 H1 locs1 hp hP1 (fun a e ha => hFc a (hD1 a e ha)) hS
theorem hcSUv {cC : ClassId} {post : HW → Prop} (S : CallFix p m c cc nL s args Ts own) (hM : hMv l y wds rm G K tys (.ref b :: As) h mc ms post) (cw : va_CS R s args own index y bytes maxL ret wds rm mc ms n) (hK : va_K G vwCl tys s) (hN : NW K s) (hZ : ZE K A s s.heap) (hXX : XX s) (hP : mP G K h H) (hD : mD A h) (hS : va_S A s.heap H locs) (hA : ∀ q : Nat, s.heap.size ≤ q → A q) (hat : ClassAt s C cC) (hrv : ∃ cell : Cell, H[b]? = some cell ∧ cell.vm.isStatics = false ∧ s.vm.findClass C = some cell.cls) (hn : As.length = n) (hsz : ls.size = nL) (hst : st = As.reverse ++ .ref b :: rest) (hrest : (rest.map fun v => v.category).sum ≤ 8) (hdg : decode cc pc = .ok (.invokespecial index, 3)) (hf : cells + mc ≤ R.cells ∧ slots + ms ≤ R.slots)
    (kk : ∀ (h1 : HW) (H1 : Heap) (locs1 : List Loc), post h1 → mP G K h1 H1 → mD A h1 → va_S A s.heap H1 locs1 → W p l e R s m args below meth c H1 locs1 (cells + mc) (slots + ms) Q (F0 m (pc + 3) ls (rest))) : W p l e R s m args below meth c H locs cells slots Q (F0 m pc ls st) := by
  have hFc := mFc hD hS hA
  refine va_callv (va_runSU hat (As := As) (rest := rest) S (hM H.size) cw ⟨mPc_blind, hrv, fun U hU hW => ⟨rfl, by rw [hU], by rw [hU]; exact hP, va_K.moved hW.alike hK, hN.warm hW, hZ.call hS hU hW hFc, hXX.warm hW⟩⟩ rfl hn hsz hst (lv_room hrest) hdg hf) hS (fun q _ h => hFc q h) hFc (fun h1 t H1 locs1 ht hvm hp hB hz1 hk1 hS => ?_)
  obtain ⟨hP1, hD1⟩ := hB
  rw [ht] at hP1
  exact kk h1 H1 locs1 hp hP1 (fun a e ha => hFc a (hD1 a e ha)) hS
theorem hcSUq {cC : ClassId} {post : Option Nat → HW → Prop} (S : CallFix p m c cc nL s args Ts own) (hM : hMq l y wds rm G K tys (.ref b :: As) h mc ms post) (cw : va_CS R s args own index y bytes maxL ret wds rm mc ms n) (hK : va_K G vwCl tys s) (hN : NW K s) (hZ : ZE K A s s.heap) (hXX : XX s) (hP : mP G K h H) (hD : mD A h) (hS : va_S A s.heap H locs) (hA : ∀ q : Nat, s.heap.size ≤ q → A q) (hat : ClassAt s C cC) (hrv : ∃ cell : Cell, H[b]? = some cell ∧ cell.vm.isStatics = false ∧ s.vm.findClass C = some cell.cls) (hn : As.length = n) (hsz : ls.size = nL) (hst : st = As.reverse ++ .ref b :: rest) (hrest : (rest.map fun v => v.category).sum ≤ 8) (hdg : decode cc pc = .ok (.invokespecial index, 3)) (hf : cells + mc ≤ R.cells ∧ slots + ms ≤ R.slots)
    (kk : ∀ (v : Option Nat) (h1 : HW) (H1 : Heap) (locs1 : List Loc), post v h1 → mP G K h1 H1 → mD A h1 → va_S A s.heap H1 locs1 → W p l e R s m args below meth c H1 locs1 (cells + mc) (slots + ms) Q (F0 m (pc + 3) ls (va_rf v :: rest))) : W p l e R s m args below meth c H locs cells slots Q (F0 m pc ls st) := by
  have hFc := mFc hD hS hA
  refine va_callq (va_runSU hat (As := As) (rest := rest) S (hM H.size) cw ⟨mPc_blind, hrv, fun U hU hW => ⟨rfl, by rw [hU], by rw [hU]; exact hP, va_K.moved hW.alike hK, hN.warm hW, hZ.call hS hU hW hFc, hXX.warm hW⟩⟩ rfl hn hsz hst (lv_room hrest) hdg hf) hS (fun q _ h => hFc q h) hFc (fun v h1 t H1 locs1 ht hvm hp hB hz1 hk1 hS => ?_)
  obtain ⟨hP1, hD1⟩ := hB
  rw [ht] at hP1
  exact kk v h1 H1 locs1 hp hP1 (fun a e ha => hFc a (hD1 a e ha)) hS
end HC
