/-! the law's own methods that call the class: what they need, what they give -/
def NCL : List (String × String) := [("java/lang/IllegalArgumentException", "java/lang/IndexOutOfBoundsException"), ("java/util/NoSuchElementException", "java/lang/IndexOutOfBoundsException"), ("java/util/NoSuchElementException", "java/lang/IllegalArgumentException"), ("java/lang/IllegalStateException", "java/lang/IndexOutOfBoundsException"), ("java/lang/IllegalStateException", "java/lang/IllegalArgumentException")]
def NC (U : State) : Prop := ∀ q ∈ NCL, va_Nc q.1 q.2 U
theorem NC.moved {u U : State} (hvm : u.vm.Alike U.vm) (h : NC u) : NC U := fun q hq => va_Nc.moved hvm (h q hq)
abbrev zPL (G : va_G) (K : (Nat → Nat) × (Nat → Nat)) (tys : List (ClassId × FieldType)) (av : List Value) (W0 : va_W) (sz : Nat) : Array Value → State → Prop := va_Pc av (fun U => U.heap.size = sz ∧ va_P G vwCl W0 U.heap ∧ va_K G vwCl tys U ∧ NW K U ∧ ZE K (va_A W0 sz) U U.heap ∧ va_D (fun _ => True) W0 ∧ XA U ∧ XW U ∧ NC U)
theorem zPL_blind {G : va_G} {K : (Nat → Nat) × (Nat → Nat)} {tys : List (ClassId × FieldType)} {av : List Value} {W0 : va_W} {sz : Nat} : FrameBlind (zPL G K tys av W0 sz) := fun a U g mk q => by
  obtain ⟨q0, q1, q2, q3, q4, qz, q5, q6, q7, q8⟩ := q
  exact ⟨q0, q1, q2, va_K.moved (u := U) (U := U.calling g mk a) (Vm.Alike.refl U.vm) q3, NW.same (u := U) (U := U.calling g mk a) rfl q4, ZE.moved (u := U) (U := U.calling g mk a) (Vm.Alike.refl U.vm) qz, q5, XA.moved (u := U) (U := U.calling g mk a) (Vm.Alike.refl U.vm) q6, XW.same (u := U) (U := U.calling g mk a) rfl q7, NC.moved (u := U) (U := U.calling g mk a) (Vm.Alike.refl U.vm) q8⟩
def zLi (l : Launch) (y : MethodName) (ws : List Cond) (rm : Room) (G : va_G) (K : (Nat → Nat) × (Nat → Nat)) (tys : List (ClassId × FieldType)) (av : List Value) (W0 : va_W) (W1 : (Nat → Nat) → va_W) (r : Int32) (mc ms : Nat) : Prop := ∀ sz : Nat, Met l y ws rm (zPL G K tys av W0 sz) (va_Qi (fun (v : Int32) (_ : Nat → Nat) => v = r) (fun a t => va_P G vwCl (W1 a) t.heap ∧ va_D (va_A W0 sz) (W1 a)) (va_A W0 sz)) mc ms (va_A W0 sz)
theorem zLi.of {l : Launch} {y : MethodName} {ws ws' : List Cond} {rm : Room} {G : va_G} {K : (Nat → Nat) × (Nat → Nat)} {tys : List (ClassId × FieldType)} {av : List Value} {W0 : va_W} {W1 : (Nat → Nat) → va_W} {r : Int32} {mc ms : Nat} {cc : ByteArray} {maxL : Nat} {hh : List (Nat × Nat × Nat × Nat)} {lv : List (Nat × Value)} (hy : plainName y.cls = true) (hw : ws = Cond.codeWith y cc maxL (some (.int)) hh :: ws') (hsl : (lg_sl av).length ≤ maxL) (hlv : lv_args 0 av = lv)
    (body : ∀ (p : Program) (e : Env) (s : State) (m : MethodId) (args : Array Value) (below : List Frame) (meth : Method) (c : Code) (A : Nat → Prop) (Q : State → Prop) (H : Heap) (locs : List Loc), p.tables.exec = Jvm.exec → c.code = cc → c.maxLocals = maxL → c.exceptionTable.toList = tableOf hh → s.vm.findClass y.cls = some m.cls → (∀ w ∈ ws, w.before args s = true) → va_K G vwCl tys s → NW K s → ZE K A s s.heap → XA s → XW s → NC s → va_P G vwCl W0 H → va_D A W0 → (∀ q : Nat, s.heap.size ≤ q → A q) → va_S A s.heap H locs →
      (∀ (H : Heap) (locs : List Loc) (ls : Array Slot) (pc : Nat) (a : (Nat → Nat)), va_P G vwCl (W1 a) H → va_D A (W1 a) → va_S A s.heap H locs → decode cc pc = .ok (.ireturn, 1) → W p l e rm s m args below meth c H locs mc ms Q (F0 m pc ls [.int r])) →
      ∀ ls : Array Slot, lv_has ls maxL lv → W p l e rm s m args below meth c H locs 0 0 Q (F0 m 0 ls [])) : zLi l y ws rm G K tys av W0 W1 r mc ms := by
  intro sz
  refine MetFree.of_bodyS (code := cc) (maxLocals := maxL) (ret := some (.int)) hy ?_ ?_
  · intro args s m h hn
    obtain ⟨m9, meth, c, hn9, h1, h2, h3, h4, -, h5, h6, -⟩ := Cond.codeWith_spec (atoms_spec (ws := ws) h _ (by rw [hw]; exact List.mem_cons_self))
    cases hn.symm.trans hn9
    exact ⟨meth, c, h1, h2, h3, h4, h5, h6⟩
  · intro p e s m args below meth c s₁ B hml hv _
    have hh0 : s₁.heap = s.heap := by rw [B.state]; rfl
    obtain ⟨rfl, hsz, hP, hK, hN, hZ, hD0, hXA, hXW, hNC⟩ := hv
    subst hsz
    have hx := B.exec
    have hb := B.bytes
    have hlocks := B.notSynchronized
    have htab := vx_table (x := y) B (atoms_spec (ws := ws) B.pre _ (by rw [hw]; exact List.mem_cons_self))
    have key : W p l e (headSpec ws rm).room s m av.toArray below meth c s.heap [] 0 0 (MQ below (va_Qi (fun (v : Int32) (_ : Nat → Nat) => v = r) (fun a t => va_P G vwCl (W1 a) t.heap ∧ va_D (va_A W0 s.heap.size) (W1 a)) (va_A W0 s.heap.size)) av.toArray s mc ms (va_A W0 s.heap.size)) (entryFrame m av.toArray maxL) := by
      rw [lg_entry_eq]
      refine body p e s m _ below meth c (va_A W0 s.heap.size) _ s.heap [] hx hb hml htab (findClass_of_methodNamed B.named) (atoms_spec (ws := ws) B.pre) hK hN hZ hXA hXW hNC hP hD0.self (fun q h => Or.inr h) va_S.rf ?_ _ (hlv ▸ lv_entry av hsl)
      intro H locs ls pc a hP1 hD1 hS hdg
      exact W.iret hx hb B.returns (fun t ht hW => ⟨⟨r, a, rfl, rfl, by rw [ht]; exact hP1, hD1⟩, hS.F ht⟩) hS.2.2 hdg
    obtain ⟨t, a1, o, b1, b2, b3⟩ := key s₁ hh0 (Stand.of_body B)
    exact ⟨t, o, a1, b1, b2, b3⟩
section ZL
variable {p : Program} {l : Launch} {e : Env} {R : Room} {s : State} {m : MethodId} {args : Array Value} {below : List Frame} {meth : Method} {c : Code} {H : Heap} {locs : List Loc} {cells slots : Nat} {Q : State → Prop}
variable {cc : ByteArray} {pc : Nat} {ls : Array Slot} {A : Nat → Prop} {G : va_G} {K : (Nat → Nat) × (Nat → Nat)} {tys : List (ClassId × FieldType)} {wr wc ws : va_W} {wds : List Cond} {rm : Room} {As rest st : List Value} {b : Addr} {y : MethodName} {bytes : ByteArray} {nL maxL n index mc ms : Nat} {Ts : List Cond} {own C : String} {ret : Option FieldType} {E : String} {hh : List (Nat × Nat × Nat × Nat)}
/-- a call that throws, beside other places -/
theorem zcXFVi {w1 : va_W} (S : CallFix p m c cc nL s args Ts own) (hM : zXi l y wds rm G K tys (.ref b :: As) wc w1 E) (cw : CallW R s args own C index y bytes maxL ret wds rm 1 6 n) (hK : va_K G vwCl tys s) (hN : NW K s) (hZ : ZE K A s s.heap) (hXW : XW s) (hP : va_P G vwCl (wr ++ wc) H) (hD : va_D A (wr ++ wc)) (hS : va_S A s.heap H locs) (hA : ∀ q : Nat, s.heap.size ≤ q → A q) (hrv : ∃ cell : Cell, H[b]? = some cell ∧ cell.vm.isStatics = false ∧ s.vm.findClass C = some cell.cls) (hn : As.length = n) (hsz : ls.size = nL) (hst : st = As.reverse ++ .ref b :: rest) (hrest : (rest.map fun v => v.category).sum ≤ 8) (hdg : decode cc pc = .ok (.invokevirtual index, 3)) (hf : cells + 1 ≤ R.cells ∧ slots + 6 ≤ R.slots)
    (kx : ∀ (H1 : Heap) (locs1 : List Loc) (q : Addr) (ce : Cell), va_P G vwCl (wr ++ w1) H1 → va_D A (wr ++ w1) → va_S A s.heap H1 locs1 → H1[q]? = some ce → ce.vm = .none → s.vm.findClass E = some ce.cls → vx_W p l e R s m args below meth c H1 locs1 (cells + 1) (slots + 6) Q (F0 m pc ls rest) q) : W p l e R s m args below meth c H locs cells slots Q (F0 m pc ls st) := by
  have hFc := zFc hD hS hA
  refine vx_calli (vx_runV (As := As) (rest := rest) S (hM H.size) cw ⟨zPX_blind, hrv, fun U hU hW => ⟨rfl, by rw [hU], by rw [hU]; exact zP_r hP, va_K.moved hW.alike hK, hN.warm hW, hZ.call hS hU hW hFc, (zD_r hD).weaken (fun _ _ _ _ => trivial), hXW.warm hW⟩⟩ rfl hn hsz hst (lv_room hrest) hdg hf) hS (fun q _ h => hFc q h) hFc (fun q _ h => hFc q h) (fun E2 ce q9 u t H1 locs ht hvm hpx hB hz1 hk1 hS hq hce hcl => ?_) (fun _ _ _ _ _ _ _ h => h.elim)
  obtain ⟨rfl, hP1, hD1⟩ := hB
  rw [ht] at hP1
  obtain ⟨a1, a2⟩ := zjF hP hD hk1 hFc hP1 hD1
  exact kx H1 locs q9 ce a1 a2 hS hq hce hcl
/-- a call that may make something, beside other places -/
theorem zcAFVi {r : Int32} {w1 : (Nat → Nat) → va_W} (S : CallFix p m c cc nL s args Ts own) (hM : zAi l y wds rm G K tys (.ref b :: As) wc w1 r mc ms) (cw : CallW R s args own C index y bytes maxL ret wds rm mc ms n) (hK : va_K G vwCl tys s) (hN : NW K s) (hZ : ZE K A s s.heap) (hXA : XA s) (hP : va_P G vwCl (wr ++ wc) H) (hD : va_D A (wr ++ wc)) (hS : va_S A s.heap H locs) (hA : ∀ q : Nat, s.heap.size ≤ q → A q) (hrv : ∃ cell : Cell, H[b]? = some cell ∧ cell.vm.isStatics = false ∧ s.vm.findClass C = some cell.cls) (hn : As.length = n) (hsz : ls.size = nL) (hst : st = As.reverse ++ .ref b :: rest) (hrest : (rest.map fun v => v.category).sum ≤ 8) (hdg : decode cc pc = .ok (.invokevirtual index, 3)) (hf : cells + mc ≤ R.cells ∧ slots + ms ≤ R.slots)
    (kk : ∀ (a : Nat → Nat) (H1 : Heap) (locs1 : List Loc), va_P G vwCl (wr ++ w1 a) H1 → va_D A (wr ++ w1 a) → va_S A s.heap H1 locs1 → W p l e R s m args below meth c H1 locs1 (cells + mc) (slots + ms) Q (F0 m (pc + 3) ls (.int r :: rest))) : W p l e R s m args below meth c H locs cells slots Q (F0 m pc ls st) := by
  have hFc := zFc hD hS hA
  refine va_calli (va_runV (As := As) (rest := rest) S (hM H.size) cw ⟨zPA_blind, hrv, fun U hU hW => ⟨rfl, by rw [hU], by rw [hU]; exact zP_r hP, va_K.moved hW.alike hK, hN.warm hW, hZ.call hS hU hW hFc, (zD_r hD).weaken (fun _ _ _ _ => trivial), hXA.moved hW.alike⟩⟩ rfl hn hsz hst (lv_room hrest) hdg hf) hS (fun q _ h => hFc q h) hFc (fun r2 a t H1 locs ht hvm hw hB hz1 hk1 hS => ?_)
  obtain ⟨hP1, hD1⟩ := hB
  rw [ht] at hP1
  obtain ⟨a1, a2⟩ := zjF hP hD hk1 hFc hP1 hD1
  rw [show r2 = r from hw]
  exact kk a H1 locs a1 a2 hS
/-- the law's call of such a method -/
theorem zcLi {r : Int32} {w1 : (Nat → Nat) → va_W} (S : CallFix p m c cc nL s args Ts own) (hM : zLi l y wds rm G K tys As wc w1 r mc ms) (cw : vx_CSW R s args own index y bytes maxL ret hh wds rm mc ms n) (hK : va_K G vwCl tys s) (hN : NW K s) (hZ : ZE K A s s.heap) (hXA : XA s) (hXW : XW s) (hNC : NC s) (hP : va_P G vwCl (wr ++ wc) H) (hD : va_D A (wr ++ wc)) (hS : va_S A s.heap H locs) (hA : ∀ q : Nat, s.heap.size ≤ q → A q) (hn : As.length = n) (hsz : ls.size = nL) (hst : st = As.reverse ++ rest) (hrest : (rest.map fun v => v.category).sum ≤ 8) (hdg : decode cc pc = .ok (.invokestatic index, 3)) (hf : cells + mc ≤ R.cells ∧ slots + ms ≤ R.slots)
    (kk : ∀ (a : Nat → Nat) (H1 : Heap) (locs1 : List Loc), va_P G vwCl (wr ++ w1 a) H1 → va_D A (wr ++ w1 a) → va_S A s.heap H1 locs1 → W p l e R s m args below meth c H1 locs1 (cells + mc) (slots + ms) Q (F0 m (pc + 3) ls (.int r :: rest))) : W p l e R s m args below meth c H locs cells slots Q (F0 m pc ls st) := by
  have hFc := zFc hD hS hA
  refine va_calli (vx_runSW (As := As) (rest := rest) S (hM H.size) cw ⟨zPL_blind, fun U hU hW => ⟨rfl, by rw [hU], by rw [hU]; exact zP_r hP, va_K.moved hW.alike hK, hN.warm hW, hZ.call hS hU hW hFc, (zD_r hD).weaken (fun _ _ _ _ => trivial), hXA.moved hW.alike, hXW.warm hW, hNC.moved hW.alike⟩⟩ rfl hn hsz hst (lv_room hrest) hdg hf) hS (fun q _ h => hFc q h) hFc (fun r2 a t H1 locs ht hvm hw hB hz1 hk1 hS => ?_)
  obtain ⟨hP1, hD1⟩ := hB
  rw [ht] at hP1
  obtain ⟨a1, a2⟩ := zjF hP hD hk1 hFc hP1 hD1
  rw [show r2 = r from hw]
  exact kk a H1 locs a1 a2 hS
end ZL
