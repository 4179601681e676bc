def zMi (l : Launch) (y : MethodName) (ws : List Cond) (rm : Room) (G : va_G) (K : (Nat → Nat) × (Nat → Nat)) (tys : List (ClassId × FieldType)) (av : List Value) (W0 W1 : va_W) (r : Int32) : Prop := ∀ sz : Nat, Met l y ws rm (zPc G K tys av W0 sz) (va_Qi (fun (v : Int32) (_ : Unit) => v = r) (zB G W1 (va_A W0 sz)) (va_A W0 sz)) 0 0 (va_A W0 sz)
def zMl (l : Launch) (y : MethodName) (ws : List Cond) (rm : Room) (G : va_G) (K : (Nat → Nat) × (Nat → Nat)) (tys : List (ClassId × FieldType)) (av : List Value) (W0 W1 : va_W) (r : Int64) : Prop := ∀ sz : Nat, Met l y ws rm (zPc G K tys av W0 sz) (va_Ql (fun (v : Int64) (_ : Unit) => v = r) (zB G W1 (va_A W0 sz)) (va_A W0 sz)) 0 0 (va_A W0 sz)
def zMv (l : Launch) (y : MethodName) (ws : List Cond) (rm : Room) (G : va_G) (K : (Nat → Nat) × (Nat → Nat)) (tys : List (ClassId × FieldType)) (av : List Value) (W0 W1 : va_W) : Prop := ∀ sz : Nat, Met l y ws rm (zPc G K tys av W0 sz) (va_Qv (fun (_ : Unit) => True) (zB G W1 (va_A W0 sz)) (va_A W0 sz)) 0 0 (va_A W0 sz)
theorem zMi.of {l : Launch} {y : MethodName} {ws ws' : List Cond} {rm : Room} {G : va_G} {K : (Nat → Nat) × (Nat → Nat)} {tys : List (ClassId × FieldType)} {av : List Value} {W0 W1 : va_W} {r : Int32} {cc : ByteArray} {maxL : Nat} {ty : FieldType} {lv : List (Nat × Value)} (hy : plainName y.cls = true) (hw : ws = Cond.code y cc maxL (some ty) :: ws') (hsl : (lg_sl av).length ≤ maxL) (hlv : lv_args 0 av = lv) 
    (body : ∀ (p : Program) (e : Env) (s : State) (m : MethodId) (args : Array Value) (below : List Frame) (meth : Method) (c : Code) (A : Nat → Prop) (Q : State → Prop) (H : Heap) (locs : List Loc), p.tables.exec = Jvm.exec → c.code = cc → c.maxLocals = maxL → s.vm.findClass y.cls = some m.cls → (∀ w ∈ ws, w.before args s = true) → va_K G vwCl tys s → NW K s → ZE K A s s.heap → va_P G vwCl W0 H → va_D A W0 → (∀ q : Nat, s.heap.size ≤ q → A q) → va_S A s.heap H locs →
      (∀ (H : Heap) (locs : List Loc) (ls : Array Slot) (pc : Nat) (v : Int32) (Wx : va_W), narrow ty (.int v) = .int v → v = r → Wx = W1 → va_P G vwCl Wx H → va_D A Wx → va_S A s.heap H locs → decode cc pc = .ok (.ireturn, 1) → W p l e rm s m args below meth c H locs 0 0 Q (F0 m pc ls [.int v])) →
      ∀ ls : Array Slot, lv_has ls maxL lv → W p l e rm s m args below meth c H locs 0 0 Q (F0 m 0 ls [])) : zMi l y ws rm G K tys av W0 W1 r := by
  intro sz
  refine Met.ofW (cc := cc) (maxL := maxL) (ret := some ty) hy hw ?_
  intro p e s m args below meth c s₁ B hml hv
  obtain ⟨rfl, hsz, hP, hK, hN, hZ, hD0⟩ := hv
  subst hsz
  have hx := B.exec
  have hb := B.bytes
  have hlocks := B.notSynchronized
  rw [lg_entry_eq]
  refine body p e s m _ below meth c (va_A W0 s.heap.size) _ s.heap [] hx hb hml (findClass_of_methodNamed B.named) (atoms_spec (ws := ws) B.pre) hK hN hZ hP hD0.self (fun q h => Or.inr h) va_S.rf ?_ _ (hlv ▸ lv_entry av hsl)
  intro H locs ls pc v Wx hn hv hWx hP1 hD1 hS hdg
  subst hWx
  exact W.zret (ty := ty) hx hb B.returns hn (fun t ht hW => ⟨⟨v, (), rfl, hv, by rw [ht]; exact hP1, hD1⟩, hS.F ht⟩) hS.2.2 hdg
theorem zMl.of {l : Launch} {y : MethodName} {ws ws' : List Cond} {rm : Room} {G : va_G} {K : (Nat → Nat) × (Nat → Nat)} {tys : List (ClassId × FieldType)} {av : List Value} {W0 W1 : va_W} {r : Int64} {cc : ByteArray} {maxL : Nat}  {lv : List (Nat × Value)} (hy : plainName y.cls = true) (hw : ws = Cond.code y cc maxL (some .long) :: ws') (hsl : (lg_sl av).length ≤ maxL) (hlv : lv_args 0 av = lv) 
    (body : ∀ (p : Program) (e : Env) (s : State) (m : MethodId) (args : Array Value) (below : List Frame) (meth : Method) (c : Code) (A : Nat → Prop) (Q : State → Prop) (H : Heap) (locs : List Loc), p.tables.exec = Jvm.exec → c.code = cc → c.maxLocals = maxL → s.vm.findClass y.cls = some m.cls → (∀ w ∈ ws, w.before args s = true) → va_K G vwCl tys s → NW K s → ZE K A s s.heap → va_P G vwCl W0 H → va_D A W0 → (∀ q : Nat, s.heap.size ≤ q → A q) → va_S A s.heap H locs →
      (∀ (H : Heap) (locs : List Loc) (ls : Array Slot) (pc : Nat) (v : Int64) (Wx : va_W), v = r → Wx = W1 → va_P G vwCl Wx H → va_D A Wx → va_S A s.heap H locs → decode cc pc = .ok (.lreturn, 1) → W p l e rm s m args below meth c H locs 0 0 Q (F0 m pc ls [.long v])) →
      ∀ ls : Array Slot, lv_has ls maxL lv → W p l e rm s m args below meth c H locs 0 0 Q (F0 m 0 ls [])) : zMl l y ws rm G K tys av W0 W1 r := by
  intro sz
  refine Met.ofW (cc := cc) (maxL := maxL) (ret := some .long) hy hw ?_
  intro p e s m args below meth c s₁ B hml hv
  obtain ⟨rfl, hsz, hP, hK, hN, hZ, hD0⟩ := hv
  subst hsz
  have hx := B.exec
  have hb := B.bytes
  have hlocks := B.notSynchronized
  rw [lg_entry_eq]
  refine body p e s m _ below meth c (va_A W0 s.heap.size) _ s.heap [] hx hb hml (findClass_of_methodNamed B.named) (atoms_spec (ws := ws) B.pre) hK hN hZ hP hD0.self (fun q h => Or.inr h) va_S.rf ?_ _ (hlv ▸ lv_entry av hsl)
  intro H locs ls pc v Wx hv hWx hP1 hD1 hS hdg
  subst hWx
  exact W.lret hx hb B.returns (fun t ht hW => ⟨⟨v, (), rfl, hv, by rw [ht]; exact hP1, hD1⟩, hS.F ht⟩) hS.2.2 hdg
theorem zMv.of {l : Launch} {y : MethodName} {ws ws' : List Cond} {rm : Room} {G : va_G} {K : (Nat → Nat) × (Nat → Nat)} {tys : List (ClassId × FieldType)} {av : List Value} {W0 W1 : va_W}  {cc : ByteArray} {maxL : Nat}  {lv : List (Nat × Value)} (hy : plainName y.cls = true) (hw : ws = Cond.code y cc maxL (none) :: ws') (hsl : (lg_sl av).length ≤ maxL) (hlv : lv_args 0 av = lv) 
    (body : ∀ (p : Program) (e : Env) (s : State) (m : MethodId) (args : Array Value) (below : List Frame) (meth : Method) (c : Code) (A : Nat → Prop) (Q : State → Prop) (H : Heap) (locs : List Loc), p.tables.exec = Jvm.exec → c.code = cc → c.maxLocals = maxL → s.vm.findClass y.cls = some m.cls → (∀ w ∈ ws, w.before args s = true) → va_K G vwCl tys s → NW K s → ZE K A s s.heap → va_P G vwCl W0 H → va_D A W0 → (∀ q : Nat, s.heap.size ≤ q → A q) → va_S A s.heap H locs →
      (∀ (H : Heap) (locs : List Loc) (ls : Array Slot) (pc : Nat)  (Wx : va_W), Wx = W1 → va_P G vwCl Wx H → va_D A Wx → va_S A s.heap H locs → decode cc pc = .ok (.return_, 1) → W p l e rm s m args below meth c H locs 0 0 Q (F0 m pc ls [])) →
      ∀ ls : Array Slot, lv_has ls maxL lv → W p l e rm s m args below meth c H locs 0 0 Q (F0 m 0 ls [])) : zMv l y ws rm G K tys av W0 W1  := by
  intro sz
  refine Met.ofW (cc := cc) (maxL := maxL) (ret := none) hy hw ?_
  intro p e s m args below meth c s₁ B hml hv
  obtain ⟨rfl, hsz, hP, hK, hN, hZ, hD0⟩ := hv
  subst hsz
  have hx := B.exec
  have hb := B.bytes
  have hlocks := B.notSynchronized
  rw [lg_entry_eq]
  refine body p e s m _ below meth c (va_A W0 s.heap.size) _ s.heap [] hx hb hml (findClass_of_methodNamed B.named) (atoms_spec (ws := ws) B.pre) hK hN hZ hP hD0.self (fun q h => Or.inr h) va_S.rf ?_ _ (hlv ▸ lv_entry av hsl)
  intro H locs ls pc Wx hWx hP1 hD1 hS hdg
  subst hWx
  exact W.vret hx hb B.returns (fun t ht hW => ⟨⟨(), rfl, trivial, by rw [ht]; exact hP1, hD1⟩, hS.F ht⟩) hS.2.2 hdg
