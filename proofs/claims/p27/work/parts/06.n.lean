/-! runs that throw -/
def XN : List String := ["java/lang/RuntimeException", "java/lang/Exception"]
def XB (E : String) : List Cond := [.castable E E, .declares (Bundle.init0 "java/lang/RuntimeException"), .declares (Bundle.init0 "java/lang/Exception"), .declares (Bundle.init0 "java/lang/Throwable")]
def XW (U : State) : Prop := (∀ q ∈ (["java/lang/IllegalArgumentException", "java/lang/IndexOutOfBoundsException", "java/util/NoSuchElementException", "java/lang/IllegalStateException"] : List String), va_Nw (.castable q q) U) ∧ ∀ q ∈ (["java/lang/RuntimeException", "java/lang/Exception", "java/lang/Throwable"] : List String), va_Nw (.declares (Bundle.init0 q)) U
theorem XW.warm {s U : State} (hW : s.WarmedH U.vm) (h : XW s) : XW U := ⟨fun q hq => va_Nw.warmC hW (h.1 q hq), fun q hq => va_Nw.warmD hW (h.2 q hq)⟩
theorem XW.same {u U : State} (hvm : u.vm = U.vm) (h : XW u) : XW U := ⟨fun q hq => va_Nw.same rfl hvm (h.1 q hq), fun q hq => va_Nw.same rfl hvm (h.2 q hq)⟩
theorem XW.b {s : State} {args : Array Value} (h : XW s) {E : String} (hE : E ∈ (["java/lang/IllegalArgumentException", "java/lang/IndexOutOfBoundsException", "java/util/NoSuchElementException", "java/lang/IllegalStateException"] : List String)) : ∀ w ∈ XB E, w.before args s = true := by
  intro w hw
  rcases List.mem_cons.mp hw with rfl | hw
  · exact va_Nw.use rfl (h.1 E hE)
  rcases List.mem_cons.mp hw with rfl | hw
  · exact va_Nw.use rfl (h.2 "java/lang/RuntimeException" (List.mem_of_getElem? (i := 0) rfl))
  rcases List.mem_cons.mp hw with rfl | hw
  · exact va_Nw.use rfl (h.2 "java/lang/Exception" (List.mem_of_getElem? (i := 1) rfl))
  rcases List.mem_cons.mp hw with rfl | hw
  · exact va_Nw.use rfl (h.2 "java/lang/Throwable" (List.mem_of_getElem? (i := 2) rfl))
  cases hw
abbrev zPX (G : va_G) (K : (Nat → Nat) × (Nat → Nat)) (tys : List (ClassId × FieldType)) (av : List Value) (W0 : va_W) (sz : Nat) : Array Value → State → Prop := va_Pc av (fun U => U.heap.size = sz ∧ va_P G vwCl W0 U.heap ∧ va_K G vwCl tys U ∧ NW K U ∧ ZE K (va_A W0 sz) U U.heap ∧ va_D (fun _ => True) W0 ∧ XW U)
theorem zPX_blind {G : va_G} {K : (Nat → Nat) × (Nat → Nat)} {tys : List (ClassId × FieldType)} {av : List Value} {W0 : va_W} {sz : Nat} : FrameBlind (zPX G K tys av W0 sz) := fun a U g mk q => by
  obtain ⟨q0, q1, q2, q3, q4, qz, q5, q6⟩ := q
  exact ⟨q0, q1, q2, va_K.moved (u := U) (U := U.calling g mk a) (Vm.Alike.refl U.vm) q3, NW.same (u := U) (U := U.calling g mk a) rfl q4, ZE.moved (u := U) (U := U.calling g mk a) (Vm.Alike.refl U.vm) qz, q5, XW.same (u := U) (U := U.calling g mk a) rfl q6⟩
abbrev zXC (G : va_G) (W1 : va_W) (A : Nat → Prop) (E : String) : String → State → State → Prop := vx_X (fun (_ : Unit) => True) (fun E' _ t => E' = E ∧ va_P G vwCl W1 t.heap ∧ va_D A W1) A
def zXi (l : Launch) (y : MethodName) (ws : List Cond) (rm : Room) (G : va_G) (K : (Nat → Nat) × (Nat → Nat)) (tys : List (ClassId × FieldType)) (av : List Value) (W0 W1 : va_W) (E : String) : Prop := ∀ sz : Nat, vx_Met l y ws rm (zPX G K tys av W0 sz) (va_Qi (fun (_ : Int32) (_ : Unit) => False) (fun _ _ => True) (va_A W0 sz)) (zXC G W1 (va_A W0 sz) E) 1 6 (va_A W0 sz)
def zXv (l : Launch) (y : MethodName) (ws : List Cond) (rm : Room) (G : va_G) (K : (Nat → Nat) × (Nat → Nat)) (tys : List (ClassId × FieldType)) (av : List Value) (W0 W1 : va_W) (E : String) : Prop := ∀ sz : Nat, vx_Met l y ws rm (zPX G K tys av W0 sz) (va_Qv (fun (_ : Unit) => False) (fun _ _ => True) (va_A W0 sz)) (zXC G W1 (va_A W0 sz) E) 1 6 (va_A W0 sz)
theorem zx_fit : ∀ E ∈ (["java/lang/IllegalArgumentException", "java/lang/IndexOutOfBoundsException", "java/util/NoSuchElementException", "java/lang/IllegalStateException"] : List String), Bundle.fit E = true := by decide +kernel
theorem zx_fitn : ∀ n ∈ XN, Bundle.fit n = true := by decide +kernel
theorem zXi.of {l : Launch} (hl0 : l.stackTraces = false) {y : MethodName} {ws ws' : List Cond} {rm : Room} {G : va_G} {K : (Nat → Nat) × (Nat → Nat)} {tys : List (ClassId × FieldType)} {av : List Value} {W0 W1 : va_W} {E : String} {cc : ByteArray} {maxL : Nat} {ty : FieldType} {lv : List (Nat × Value)} (hrm : 6 ≤ rm.frames ∧ 81 ≤ rm.locals ∧ rm.cells = 1 ∧ rm.slots = 6) (hy : plainName y.cls = true) (hw : ws = Cond.code y cc maxL (some ty) :: ws') (hsl : (lg_sl av).length ≤ maxL) (hlv : lv_args 0 av = lv)
    (body : ∀ (p : Program) (e : Env) (s : State) (m : MethodId) (args : Array Value) (below : List Frame) (meth : Method) (c : Code) (A : Nat → Prop) (Q : State → Prop) (H : Heap) (locs : List Loc), p.tables.exec = Jvm.exec → c.code = cc → c.maxLocals = maxL → s.vm.findClass y.cls = some m.cls → (∀ w ∈ ws, w.before args s = true) → va_K G vwCl tys s → NW K s → ZE K A s s.heap → XW s → va_P G vwCl W0 H → va_D A W0 → (∀ q : Nat, s.heap.size ≤ q → A q) → va_S A s.heap H locs →
      (∀ (H : Heap) (locs : List Loc) (ls : Array Slot) (pc ik ic : Nat) (Wx : va_W), E ∈ (["java/lang/IllegalArgumentException", "java/lang/IndexOutOfBoundsException", "java/util/NoSuchElementException", "java/lang/IllegalStateException"] : List String) → Wx = W1 → va_P G vwCl Wx H → va_D A Wx → va_S A s.heap H locs → ls.size = maxL → (Cond.classLink y.cls ik E).before args s = true → (Cond.initialized E).before args s = true → (∀ w ∈ (vx_at0 y.cls ic E XN).filter goodWord, w.before args s = true) → (∀ w ∈ (vx_at0 y.cls ic E XN).filter (fun w => !goodWord w), w ∈ XB E) → (∀ w ∈ Cond.classLink y.cls ik E :: Cond.initialized E :: vx_at0 y.cls ic E XN, vx_ot w = true) →
        decode cc pc = .ok (.new ik, 3) → decode cc (pc + 3) = .ok (.dup, 1) → decode cc (pc + 4) = .ok (.invokespecial ic, 3) → decode cc (pc + 7) = .ok (.athrow, 1) → W p l e rm s m args below meth c H locs 0 0 Q (F0 m pc ls [])) →
      (∀ (H : Heap) (locs : List Loc) (ls : Array Slot) (pc : Nat) (rest : List Value) (q : Addr) (ce : Cell) (Wx : va_W), Wx = W1 → va_P G vwCl Wx H → va_D A Wx → va_S A s.heap H locs → H[q]? = some ce → ce.vm = .none → s.vm.findClass E = some ce.cls → vx_W p l e rm s m args below meth c H locs 1 6 Q (F0 m pc ls rest) q) →
      ∀ ls : Array Slot, lv_has ls maxL lv → W p l e rm s m args below meth c H locs 0 0 Q (F0 m 0 ls [])) : zXi l y ws rm G K tys av W0 W1 E := by
  intro sz
  refine vx_ofW (cc := cc) (maxL := maxL) (ret := some ty) hy hw ?_
  intro p e s m args below meth c s₁ B hml hno hv
  obtain ⟨rfl, hsz, hP, hK, hN, hZ, hD0, hXW⟩ := hv
  subst hsz
  have hx := B.exec
  have hb := B.bytes
  have hlocks := B.notSynchronized
  have hown := findClass_of_methodNamed B.named
  have hK0 : va_K G vwCl tys s := hK
  rw [lg_entry_eq]
  have hxc : ∀ (H : Heap) (locs : List Loc), va_P G vwCl W1 H → va_D (va_A W0 s.heap.size) W1 → va_S (va_A W0 s.heap.size) s.heap H locs → ∀ t : State, H.size ≤ t.heap.size → (∀ q : Nat, q < H.size → t.heap[q]? = H[q]?) → zXC G W1 (va_A W0 s.heap.size) E E s t := by
    intro H locs hP hD hS t h1 h2
    refine ⟨(), trivial, ⟨rfl, hP.kept (fun k q hk => h2 q.1 ((hP k q hk).lt)), hD⟩, Nat.le_trans hS.1 h1, fun q hq hA => ?_⟩
    rw [h2 q (Nat.lt_of_lt_of_le hq hS.1)]
    exact hS.2.1 q hq hA
  refine body p e s m _ below meth c (va_A W0 s.heap.size) _ s.heap [] hx hb hml hown (atoms_spec (ws := ws) B.pre) hK hN hZ hXW hP hD0.self (fun q h => Or.inr h) va_S.rf ?_ ?_ _ (hlv ▸ lv_entry av hsl)
  · intro H locs ls pc ik ic Wx hE hWx hP1 hD1 hS hls hk hini hat1 hat2 hgood d0 d3 d4 d7
    subst hWx
    exact vx_throw0 (cls := E) (names := XN) hx hb hl0 hown (zx_fit E hE) zx_fitn hk hini (vx_hat hat1 hat2 (hXW.b hE)) hgood hZ.2.2.1 hZ.2.2.2.1 hS (hls.trans hml.symm) d0 d3 d4 d7 (fun x hx => (hno x hx).elim) (by show 2 + 3 < rm.frames; omega) (by show 0 + (13 * (2 + 1) + 42) ≤ rm.locals; omega) (by show 0 + 1 ≤ rm.cells; omega) (by show 0 + 6 ≤ rm.slots; omega) hlocks (fun t _ h1 h2 => hxc H locs hP1 hD1 hS t h1 h2) hS.2.2 (by omega) (by omega)
  · intro H locs ls pc rest q ce Wx hWx hP1 hD1 hS hq hce hcl
    subst hWx
    exact vx_out (E := E) (fun x hx => (hno x hx).elim) hlocks hq hce hcl (fun t ht _ => hxc H locs hP1 hD1 hS t (by rw [ht]; exact Nat.le_refl _) (fun q _ => by rw [ht])) hS.2.2 (Nat.le_refl _) (Nat.le_refl _)
theorem zXv.of {l : Launch} (hl0 : l.stackTraces = false) {y : MethodName} {ws ws' : List Cond} {rm : Room} {G : va_G} {K : (Nat → Nat) × (Nat → Nat)} {tys : List (ClassId × FieldType)} {av : List Value} {W0 W1 : va_W} {E : String} {cc : ByteArray} {maxL : Nat} {lv : List (Nat × Value)} (hrm : 6 ≤ rm.frames ∧ 81 ≤ rm.locals ∧ rm.cells = 1 ∧ rm.slots = 6) (hy : plainName y.cls = true) (hw : ws = Cond.code y cc maxL (none) :: ws') (hsl : (lg_sl av).length ≤ maxL) (hlv : lv_args 0 av = lv)
    (body : ∀ (p : Program) (e : Env) (s : State) (m : MethodId) (args : Array Value) (below : List Frame) (meth : Method) (c : Code) (A : Nat → Prop) (Q : State → Prop) (H : Heap) (locs : List Loc), p.tables.exec = Jvm.exec → c.code = cc → c.maxLocals = maxL → s.vm.findClass y.cls = some m.cls → (∀ w ∈ ws, w.before args s = true) → va_K G vwCl tys s → NW K s → ZE K A s s.heap → XW s → va_P G vwCl W0 H → va_D A W0 → (∀ q : Nat, s.heap.size ≤ q → A q) → va_S A s.heap H locs →
      (∀ (H : Heap) (locs : List Loc) (ls : Array Slot) (pc ik ic : Nat) (Wx : va_W), E ∈ (["java/lang/IllegalArgumentException", "java/lang/IndexOutOfBoundsException", "java/util/NoSuchElementException", "java/lang/IllegalStateException"] : List String) → Wx = W1 → va_P G vwCl Wx H → va_D A Wx → va_S A s.heap H locs → ls.size = maxL → (Cond.classLink y.cls ik E).before args s = true → (Cond.initialized E).before args s = true → (∀ w ∈ (vx_at0 y.cls ic E XN).filter goodWord, w.before args s = true) → (∀ w ∈ (vx_at0 y.cls ic E XN).filter (fun w => !goodWord w), w ∈ XB E) → (∀ w ∈ Cond.classLink y.cls ik E :: Cond.initialized E :: vx_at0 y.cls ic E XN, vx_ot w = true) →
        decode cc pc = .ok (.new ik, 3) → decode cc (pc + 3) = .ok (.dup, 1) → decode cc (pc + 4) = .ok (.invokespecial ic, 3) → decode cc (pc + 7) = .ok (.athrow, 1) → W p l e rm s m args below meth c H locs 0 0 Q (F0 m pc ls [])) →
      (∀ (H : Heap) (locs : List Loc) (ls : Array Slot) (pc : Nat) (rest : List Value) (q : Addr) (ce : Cell) (Wx : va_W), Wx = W1 → va_P G vwCl Wx H → va_D A Wx → va_S A s.heap H locs → H[q]? = some ce → ce.vm = .none → s.vm.findClass E = some ce.cls → vx_W p l e rm s m args below meth c H locs 1 6 Q (F0 m pc ls rest) q) →
      ∀ ls : Array Slot, lv_has ls maxL lv → W p l e rm s m args below meth c H locs 0 0 Q (F0 m 0 ls [])) : zXv l y ws rm G K tys av W0 W1 E := by
  intro sz
  refine vx_ofW (cc := cc) (maxL := maxL) (ret := none) hy hw ?_
  intro p e s m args below meth c s₁ B hml hno hv
  obtain ⟨rfl, hsz, hP, hK, hN, hZ, hD0, hXW⟩ := hv
  subst hsz
  have hx := B.exec
  have hb := B.bytes
  have hlocks := B.notSynchronized
  have hown := findClass_of_methodNamed B.named
  have hK0 : va_K G vwCl tys s := hK
  rw [lg_entry_eq]
  have hxc : ∀ (H : Heap) (locs : List Loc), va_P G vwCl W1 H → va_D (va_A W0 s.heap.size) W1 → va_S (va_A W0 s.heap.size) s.heap H locs → ∀ t : State, H.size ≤ t.heap.size → (∀ q : Nat, q < H.size → t.heap[q]? = H[q]?) → zXC G W1 (va_A W0 s.heap.size) E E s t := by
    intro H locs hP hD hS t h1 h2
    refine ⟨(), trivial, ⟨rfl, hP.kept (fun k q hk => h2 q.1 ((hP k q hk).lt)), hD⟩, Nat.le_trans hS.1 h1, fun q hq hA => ?_⟩
    rw [h2 q (Nat.lt_of_lt_of_le hq hS.1)]
    exact hS.2.1 q hq hA
  refine body p e s m _ below meth c (va_A W0 s.heap.size) _ s.heap [] hx hb hml hown (atoms_spec (ws := ws) B.pre) hK hN hZ hXW hP hD0.self (fun q h => Or.inr h) va_S.rf ?_ ?_ _ (hlv ▸ lv_entry av hsl)
  · intro H locs ls pc ik ic Wx hE hWx hP1 hD1 hS hls hk hini hat1 hat2 hgood d0 d3 d4 d7
    subst hWx
    exact vx_throw0 (cls := E) (names := XN) hx hb hl0 hown (zx_fit E hE) zx_fitn hk hini (vx_hat hat1 hat2 (hXW.b hE)) hgood hZ.2.2.1 hZ.2.2.2.1 hS (hls.trans hml.symm) d0 d3 d4 d7 (fun x hx => (hno x hx).elim) (by show 2 + 3 < rm.frames; omega) (by show 0 + (13 * (2 + 1) + 42) ≤ rm.locals; omega) (by show 0 + 1 ≤ rm.cells; omega) (by show 0 + 6 ≤ rm.slots; omega) hlocks (fun t _ h1 h2 => hxc H locs hP1 hD1 hS t h1 h2) hS.2.2 (by omega) (by omega)
  · intro H locs ls pc rest q ce Wx hWx hP1 hD1 hS hq hce hcl
    subst hWx
    exact vx_out (E := E) (fun x hx => (hno x hx).elim) hlocks hq hce hcl (fun t ht _ => hxc H locs hP1 hD1 hS t (by rw [ht]; exact Nat.le_refl _) (fun q _ => by rw [ht])) hS.2.2 (Nat.le_refl _) (Nat.le_refl _)
section ZX
variable {p : Program} {l : Launch} {e : Env} {R : Room} {s : State} {m : MethodId} {args : Array Value} {below : List Frame} {meth : Method} {c : Code} {H : Heap} {locs : List Loc} {cells slots : Nat} {Q : State → Prop}
variable {cc : ByteArray} {pc : Nat} {ls : Array Slot} {A : Nat → Prop} {G : va_G} {K : (Nat → Nat) × (Nat → Nat)} {tys : List (ClassId × FieldType)} {ws wc : va_W} {wds : List Cond} {rm : Room} {As rest st : List Value} {b : Addr} {y : MethodName} {bytes : ByteArray} {nL maxL n index : Nat} {Ts : List Cond} {own C : String} {ret : Option FieldType} {E : String}
theorem zcXVv (S : CallFix p m c cc nL s args Ts own) (hM : zXv l y wds rm G K tys (.ref b :: As) ws ws E) (cw : CallW R s args own C index y bytes maxL ret wds rm 1 6 n) (hK : va_K G vwCl tys s) (hN : NW K s) (hZ : ZE K A s s.heap) (hXW : XW s) (hP : va_P G vwCl ws H) (hD : va_D A ws) (hS : va_S A s.heap H locs) (hA : ∀ q : Nat, s.heap.size ≤ q → A q) (hrv : ∃ cell : Cell, H[b]? = some cell ∧ cell.vm.isStatics = false ∧ s.vm.findClass C = some cell.cls) (hn : As.length = n) (hsz : ls.size = nL) (hst : st = As.reverse ++ .ref b :: rest) (hrest : (rest.map fun v => v.category).sum ≤ 8) (hdg : decode cc pc = .ok (.invokevirtual index, 3)) (hf : cells + 1 ≤ R.cells ∧ slots + 6 ≤ R.slots)
    (kx : ∀ (H1 : Heap) (locs1 : List Loc) (q : Addr) (ce : Cell), va_P G vwCl ws H1 → va_D A ws → va_S A s.heap H1 locs1 → H1[q]? = some ce → ce.vm = .none → s.vm.findClass E = some ce.cls → vx_W p l e R s m args below meth c H1 locs1 (cells + 1) (slots + 6) Q (F0 m pc ls rest) q) : W p l e R s m args below meth c H locs cells slots Q (F0 m pc ls st) := by
  have hFc : ∀ q : Nat, va_A ws H.size q → A q := by
    rintro q (⟨k, e, h⟩ | h)
    · exact hD.2 k _ h
    · exact hA q (Nat.le_trans hS.1 h)
  refine vx_callv (vx_runV (As := As) (rest := rest) S (hM H.size) cw ⟨zPX_blind, hrv, fun U hU hW => ⟨rfl, by rw [hU], by rw [hU]; exact hP, va_K.moved hW.alike hK, hN.warm hW, hZ.call hS hU hW hFc, hD.weaken (fun _ _ _ _ => trivial), hXW.warm hW⟩⟩ rfl hn hsz hst (lv_room hrest) hdg hf) hS (fun q _ h => hFc q h) hFc (fun q _ h => hFc q h) (fun E2 ce q9 u t H1 locs ht hvm hpx hB hz1 hk1 hS hq hce hcl => ?_) (fun _ _ _ _ _ _ h => h.elim)
  obtain ⟨rfl, hP1, hD1⟩ := hB
  rw [ht] at hP1
  exact kx H1 locs q9 ce hP1 (hD1.weaken (fun _ q _ h => hFc q.1 h)) hS hq hce hcl
theorem zcXSv (S : CallFix p m c cc nL s args Ts own) (hM : zXv l y wds rm G K tys (As) [] [] E) (cw : CallB R s args own index y bytes maxL ret wds rm 1 6 n ∧ (Cond.static y).before args s = true) (hK : va_K G vwCl tys s) (hN : NW K s) (hZ : ZE K A s s.heap) (hXW : XW s) (hP : va_P G vwCl ws H) (hD : va_D A ws) (hS : va_S A s.heap H locs) (hA : ∀ q : Nat, s.heap.size ≤ q → A q) (hn : As.length = n) (hsz : ls.size = nL) (hst : st = As.reverse ++ rest) (hrest : (rest.map fun v => v.category).sum ≤ 8) (hdg : decode cc pc = .ok (.invokestatic index, 3)) (hf : cells + 1 ≤ R.cells ∧ slots + 6 ≤ R.slots)
    (kx : ∀ (H1 : Heap) (locs1 : List Loc) (q : Addr) (ce : Cell), va_P G vwCl ws H1 → va_D A ws → va_S A s.heap H1 locs1 → H1[q]? = some ce → ce.vm = .none → s.vm.findClass E = some ce.cls → vx_W p l e R s m args below meth c H1 locs1 (cells + 1) (slots + 6) Q (F0 m pc ls rest) q) : W p l e R s m args below meth c H locs cells slots Q (F0 m pc ls st) := by
  have hFc : ∀ q : Nat, va_A [] H.size q → A q := by
    rintro q (⟨k, e, h⟩ | h)
    · simp at h
    · exact hA q (Nat.le_trans hS.1 h)
  refine vx_callv (vx_runS (As := As) (rest := rest) S (hM H.size) cw ⟨zPX_blind, fun U hU hW => ⟨rfl, by rw [hU], by rw [hU]; exact (fun k q h => by simp at h), va_K.moved hW.alike hK, hN.warm hW, hZ.call hS hU hW hFc, ⟨fun i j p q h => by simp at h, fun k q h => by simp at h⟩, hXW.warm hW⟩⟩ rfl hn hsz hst (lv_room hrest) hdg hf) hS (fun q _ h => hFc q h) hFc (fun q _ h => hFc q h) (fun E2 ce q9 u t H1 locs ht hvm hpx hB hz1 hk1 hS hq hce hcl => ?_) (fun _ _ _ _ _ _ h => h.elim)
  obtain ⟨rfl, hP1, hD1⟩ := hB
  rw [ht] at hP1
  exact kx H1 locs q9 ce (hP.kept (fun k q hk => hk1 q.1 ((hP k q hk).lt) (fun h => by rcases h with ⟨k2, e, h⟩ | h <;> first | exact absurd ((hP _ q hk).lt) (Nat.not_lt.mpr h) | simp at h))) hD hS hq hce hcl
theorem zcXVi (S : CallFix p m c cc nL s args Ts own) (hM : zXi l y wds rm G K tys (.ref b :: As) ws ws E) (cw : CallW R s args own C index y bytes maxL ret wds rm 1 6 n) (hK : va_K G vwCl tys s) (hN : NW K s) (hZ : ZE K A s s.heap) (hXW : XW s) (hP : va_P G vwCl ws H) (hD : va_D A ws) (hS : va_S A s.heap H locs) (hA : ∀ q : Nat, s.heap.size ≤ q → A q) (hrv : ∃ cell : Cell, H[b]? = some cell ∧ cell.vm.isStatics = false ∧ s.vm.findClass C = some cell.cls) (hn : As.length = n) (hsz : ls.size = nL) (hst : st = As.reverse ++ .ref b :: rest) (hrest : (rest.map fun v => v.category).sum ≤ 8) (hdg : decode cc pc = .ok (.invokevirtual index, 3)) (hf : cells + 1 ≤ R.cells ∧ slots + 6 ≤ R.slots)
    (kx : ∀ (H1 : Heap) (locs1 : List Loc) (q : Addr) (ce : Cell), va_P G vwCl ws H1 → va_D A ws → va_S A s.heap H1 locs1 → H1[q]? = some ce → ce.vm = .none → s.vm.findClass E = some ce.cls → vx_W p l e R s m args below meth c H1 locs1 (cells + 1) (slots + 6) Q (F0 m pc ls rest) q) : W p l e R s m args below meth c H locs cells slots Q (F0 m pc ls st) := by
  have hFc : ∀ q : Nat, va_A ws H.size q → A q := by
    rintro q (⟨k, e, h⟩ | h)
    · exact hD.2 k _ h
    · exact hA q (Nat.le_trans hS.1 h)
  refine vx_calli (vx_runV (As := As) (rest := rest) S (hM H.size) cw ⟨zPX_blind, hrv, fun U hU hW => ⟨rfl, by rw [hU], by rw [hU]; exact hP, va_K.moved hW.alike hK, hN.warm hW, hZ.call hS hU hW hFc, hD.weaken (fun _ _ _ _ => trivial), hXW.warm hW⟩⟩ rfl hn hsz hst (lv_room hrest) hdg hf) hS (fun q _ h => hFc q h) hFc (fun q _ h => hFc q h) (fun E2 ce q9 u t H1 locs ht hvm hpx hB hz1 hk1 hS hq hce hcl => ?_) (fun _ _ _ _ _ _ _ h => h.elim)
  obtain ⟨rfl, hP1, hD1⟩ := hB
  rw [ht] at hP1
  exact kx H1 locs q9 ce hP1 (hD1.weaken (fun _ q _ h => hFc q.1 h)) hS hq hce hcl
theorem zcXSi (S : CallFix p m c cc nL s args Ts own) (hM : zXi l y wds rm G K tys (As) [] [] E) (cw : CallB R s args own index y bytes maxL ret wds rm 1 6 n ∧ (Cond.static y).before args s = true) (hK : va_K G vwCl tys s) (hN : NW K s) (hZ : ZE K A s s.heap) (hXW : XW s) (hP : va_P G vwCl ws H) (hD : va_D A ws) (hS : va_S A s.heap H locs) (hA : ∀ q : Nat, s.heap.size ≤ q → A q) (hn : As.length = n) (hsz : ls.size = nL) (hst : st = As.reverse ++ rest) (hrest : (rest.map fun v => v.category).sum ≤ 8) (hdg : decode cc pc = .ok (.invokestatic index, 3)) (hf : cells + 1 ≤ R.cells ∧ slots + 6 ≤ R.slots)
    (kx : ∀ (H1 : Heap) (locs1 : List Loc) (q : Addr) (ce : Cell), va_P G vwCl ws H1 → va_D A ws → va_S A s.heap H1 locs1 → H1[q]? = some ce → ce.vm = .none → s.vm.findClass E = some ce.cls → vx_W p l e R s m args below meth c H1 locs1 (cells + 1) (slots + 6) Q (F0 m pc ls rest) q) : W p l e R s m args below meth c H locs cells slots Q (F0 m pc ls st) := by
  have hFc : ∀ q : Nat, va_A [] H.size q → A q := by
    rintro q (⟨k, e, h⟩ | h)
    · simp at h
    · exact hA q (Nat.le_trans hS.1 h)
  refine vx_calli (vx_runS (As := As) (rest := rest) S (hM H.size) cw ⟨zPX_blind, fun U hU hW => ⟨rfl, by rw [hU], by rw [hU]; exact (fun k q h => by simp at h), va_K.moved hW.alike hK, hN.warm hW, hZ.call hS hU hW hFc, ⟨fun i j p q h => by simp at h, fun k q h => by simp at h⟩, hXW.warm hW⟩⟩ rfl hn hsz hst (lv_room hrest) hdg hf) hS (fun q _ h => hFc q h) hFc (fun q _ h => hFc q h) (fun E2 ce q9 u t H1 locs ht hvm hpx hB hz1 hk1 hS hq hce hcl => ?_) (fun _ _ _ _ _ _ _ h => h.elim)
  obtain ⟨rfl, hP1, hD1⟩ := hB
  rw [ht] at hP1
  exact kx H1 locs q9 ce (hP.kept (fun k q hk => hk1 q.1 ((hP k q hk).lt) (fun h => by rcases h with ⟨k2, e, h⟩ | h <;> first | exact absurd ((hP _ q hk).lt) (Nat.not_lt.mpr h) | simp at h))) hD hS hq hce hcl
end ZX
def th {α : Type} (o : Option α) (k : Option α) : Option α := match o with
  | some E => some E
  | none => k
theorem th_s {α : Type} {o k : Option α} {E : α} (h : th o k = some E) : o = some E ∨ k = some E := by
  cases o with
  | none => exact Or.inr h
  | some a => exact Or.inl h
