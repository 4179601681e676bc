/-! constructors: a world that grows, addresses that come with it -/
def sL (l : List Int32) : Nat → Int32 := fun k => l.getD k 0
def aL (l : List (Nat → Int32)) : Nat → Nat → Int32 := fun k => l.getD k (fun _ => 0)
theorem zcl0 {G : va_G} {c : Nat → ClassId} {cA : ClassId} {s : State} (h : va_K G vwCl (TY c ++ [(cA, .int)]) s) : cA = c 0 := by
  have h1 := (h.2 0 (c 0, .int) rfl).2
  have h2 := (h.2 8 (cA, .int) rfl).2
  exact Option.some.inj ((h2 : s.vm.findClass _ = some cA).symm.trans h1)
theorem zcl1 {G : va_G} {c : Nat → ClassId} {cA : ClassId} {s : State} (h : va_K G vwCl (TY c ++ [(cA, .long)]) s) : cA = c 1 := by
  have h1 := (h.2 1 (c 1, .long) rfl).2
  have h2 := (h.2 8 (cA, .long) rfl).2
  exact Option.some.inj ((h2 : s.vm.findClass _ = some cA).symm.trans h1)
theorem zcl2 {G : va_G} {c : Nat → ClassId} {cA : ClassId} {s : State} (h : va_K G vwCl (TY c ++ [(cA, .array .int)]) s) : cA = c 2 := by
  have h1 := (h.2 2 (c 2, .array .int) rfl).2
  have h2 := (h.2 8 (cA, .array .int) rfl).2
  exact Option.some.inj ((h2 : s.vm.findClass _ = some cA).symm.trans h1)
theorem zcl3 {G : va_G} {c : Nat → ClassId} {cA : ClassId} {s : State} (h : va_K G vwCl (TY c ++ [(cA, .object "HubTrains$Game")]) s) : cA = c 3 := by
  obtain ⟨k1, d1, -, -, -, h1⟩ := (h.2 3 (c 3, .object "HubTrains$Game") rfl).2
  obtain ⟨k2, d2, -, -, -, h2⟩ := (h.2 8 (cA, .object "HubTrains$Game") rfl).2
  exact Option.some.inj (h2.symm.trans h1)
theorem va_AOA.spec {ty : FieldType} {U : State} (h : va_AOA ty U) : ∃ comp c k, U.vm.findClass (FieldType.array ty).toString = some comp ∧ (U.vm.classes.findIdx? fun (x : Class) => match x.kind with | .array component _ => component == comp | _ => false) = some c ∧ U.vm.classes[c]? = some k ∧ k.kind = .array comp (.array ty) ∧ U.vm.findClass ("[" ++ (FieldType.array ty).toString) = some c := by
  unfold va_AOA Cond.before Cond.holds at h
  simp only [Cond.value, beq_iff_eq] at h
  cases hc : U.vm.findClass (FieldType.array ty).toString with
  | none => simp [hc] at h
  | some comp =>
    simp only [hc, Option.bind_some, Option.bind_eq_some_iff, Option.map_eq_some_iff] at h
    obtain ⟨c, hi, k, hk, hb⟩ := h
    obtain ⟨hlt, hp, -⟩ := Array.findIdx?_eq_some_iff_getElem.mp hi
    have hkk : U.vm.classes[c] = k := (Array.getElem?_eq_some_iff.mp hk).2
    rw [hkk] at hp
    cases hkind : k.kind with
    | array component t9 =>
      rw [hkind] at hb hp
      simp at hb hp
      exact ⟨comp, c, k, rfl, hi, hk, by rw [hkind, hp, hb.1], hb.2⟩
    | _ => rw [hkind] at hb; simp at hb
theorem va_AOA.moved {ty : FieldType} {u U : State} (hvm : u.vm.Alike U.vm) (h : va_AOA ty u) : va_AOA ty U := by
  obtain ⟨comp, c, k, h1, h2, h3, h4, h5⟩ := va_AOA.spec h
  obtain ⟨k', hk', he⟩ := hvm.2.2 _ _ h3
  have hi : (U.vm.classes.findIdx? fun (x : Class) => match x.kind with | .array component _ => component == comp | _ => false) = some c := by
    refine (va_idx_bare U.vm comp).symm.trans ?_
    first | rw [hvm.bare_eq] | rw [← hvm.bare_eq]
    exact (va_idx_bare u.vm comp).trans h2
  have hkind : k'.kind = .array comp (.array ty) := by rw [he]; exact h4
  have f1 : U.vm.findClass (FieldType.array ty).toString = some comp := by rw [hvm.findClass]; exact h1
  have f2 : U.vm.findClass ("[" ++ (FieldType.array ty).toString) = some c := by rw [hvm.findClass]; exact h5
  unfold va_AOA Cond.before Cond.holds
  simp only [Cond.value]
  rw [f1, Option.bind_some]
  refine (congrArg (fun o : Option Nat => (o.bind (fun c => (U.vm.classes[c]?).map fun (k : Class) => match k.kind with | .array _ t9 => decide (t9 = FieldType.array ty) && decide (U.vm.findClass ("[" ++ (FieldType.array ty).toString) = some c) | _ => false) == some true)) hi).trans ?_
  simp [hk', hkind, f2]
def XA (U : State) : Prop := va_AO "HubTrains$Game" U ∧ va_AOA .int U
theorem XA.moved {u U : State} (hvm : u.vm.Alike U.vm) (h : XA u) : XA U := ⟨va_AO.moved hvm h.1, va_AOA.moved hvm h.2⟩
abbrev zPA (G : va_G) (K : (Nat → Nat) × (Nat → Nat)) (tys : List (ClassId × FieldType)) (av : List Value) (W0 : va_W) (sz : Nat) : Array Value → State → Prop := va_Pc av (fun U => U.heap.size = sz ∧ va_P G vwCl W0 U.heap ∧ va_K G vwCl tys U ∧ NW K U ∧ ZE K (va_A W0 sz) U U.heap ∧ va_D (fun _ => True) W0 ∧ XA U)
theorem zPA_blind {G : va_G} {K : (Nat → Nat) × (Nat → Nat)} {tys : List (ClassId × FieldType)} {av : List Value} {W0 : va_W} {sz : Nat} : FrameBlind (zPA G K tys av W0 sz) := fun a U g mk q => by
  obtain ⟨q0, q1, q2, q3, q4, qz, q5, q6⟩ := q
  exact ⟨q0, q1, q2, va_K.moved (u := U) (U := U.calling g mk a) (Vm.Alike.refl U.vm) q3, NW.same (u := U) (U := U.calling g mk a) rfl q4, ZE.moved (u := U) (U := U.calling g mk a) (Vm.Alike.refl U.vm) qz, q5, XA.moved (u := U) (U := U.calling g mk a) (Vm.Alike.refl U.vm) q6⟩
def zAv (l : Launch) (y : MethodName) (ws : List Cond) (rm : Room) (G : va_G) (K : (Nat → Nat) × (Nat → Nat)) (tys : List (ClassId × FieldType)) (av : List Value) (W0 : va_W) (W1 : (Nat → Nat) → va_W) (ok : (Nat → Nat) → Prop) (mc ms : Nat) : Prop := ∀ sz : Nat, Met l y ws rm (zPA G K tys av W0 sz) (va_Qv ok (fun a t => va_P G vwCl (W1 a) t.heap ∧ va_D (va_A W0 sz) (W1 a)) (va_A W0 sz)) mc ms (va_A W0 sz)
theorem zAv.of {l : Launch} {y : MethodName} {ws ws' : List Cond} {rm : Room} {G : va_G} {K : (Nat → Nat) × (Nat → Nat)} {tys : List (ClassId × FieldType)} {av : List Value} {W0 : va_W} {W1 : (Nat → Nat) → va_W} {ok : (Nat → Nat) → Prop} {mc ms : Nat} {cc : ByteArray} {maxL : Nat} {lv : List (Nat × Value)} (hy : plainName y.cls = true) (hw : ws = Cond.code y cc maxL none :: ws') (hsl : (lg_sl av).length ≤ maxL) (hlv : lv_args 0 av = lv)
    (body : ∀ (p : Program) (e : Env) (s : State) (m : MethodId) (args : Array Value) (below : List Frame) (meth : Method) (c : Code) (A : Nat → Prop) (Q : State → Prop) (H : Heap) (locs : List Loc), p.tables.exec = Jvm.exec → c.code = cc → c.maxLocals = maxL → s.vm.findClass y.cls = some m.cls → meth.name = y.name → (∀ w ∈ ws, w.before args s = true) → va_K G vwCl tys s → NW K s → ZE K A s s.heap → XA s → va_P G vwCl W0 H → va_D A W0 → (∀ q : Nat, s.heap.size ≤ q → A q) → va_S A s.heap H locs →
      (∀ (H : Heap) (locs : List Loc) (ls : Array Slot) (pc : Nat) (a : Nat → Nat), ok a → va_P G vwCl (W1 a) H → va_D A (W1 a) → va_S A s.heap H locs → decode cc pc = .ok (.return_, 1) → W p l e rm s m args below meth c H locs mc ms Q (F0 m pc ls [])) →
      ∀ ls : Array Slot, lv_has ls maxL lv → W p l e rm s m args below meth c H locs 0 0 Q (F0 m 0 ls [])) : zAv l y ws rm G K tys av W0 W1 ok mc ms := by
  intro sz
  refine Met.ofW (cc := cc) (maxL := maxL) (ret := none) hy hw ?_
  intro p e s m args below meth c s₁ B hml hv
  obtain ⟨rfl, hsz, hP, hK, hN, hZ, hD0, hXA⟩ := hv
  subst hsz
  have hx := B.exec
  have hb := B.bytes
  have hlocks := B.notSynchronized
  rw [lg_entry_eq]
  refine body p e s m _ below meth c (va_A W0 s.heap.size) _ s.heap [] hx hb hml (findClass_of_methodNamed B.named) (name_of_methodNamed B.named B.method).1 (atoms_spec (ws := ws) B.pre) hK hN hZ hXA hP hD0.self (fun q h => Or.inr h) va_S.rf ?_ _ (hlv ▸ lv_entry av hsl)
  intro H locs ls pc a hok hP1 hD1 hS hdg
  exact W.vret hx hb B.returns (fun t ht hW => ⟨⟨a, rfl, hok, by rw [ht]; exact hP1, hD1⟩, hS.F ht⟩) hS.2.2 hdg
theorem va_nd_of : ∀ l : List Nat, l.Nodup → va_nd l = true
  | [], _ => rfl
  | a :: l, h => by
    rw [List.nodup_cons] at h
    show (decide (a ∉ l) && va_nd l) = true
    rw [va_nd_of l h.2, Bool.and_true, decide_eq_true_eq]
    exact h.1
theorem range_get {α : Type} (X Y : List α) : (List.range X.length).map (fun i => (X ++ Y)[i]?) = X.map some := by
  apply List.ext_getElem?
  intro i
  rw [List.getElem?_map, List.getElem?_map]
  by_cases h : i < X.length
  · rw [List.getElem?_range h, Option.map_some, List.getElem?_append_left h, List.getElem?_eq_getElem h]
    rfl
  · rw [List.getElem?_eq_none (by rw [List.length_range]; omega), List.getElem?_eq_none (by omega)]
    rfl
section ZI
variable {p : Program} {l : Launch} {e : Env} {R : Room} {s : State} {m : MethodId} {args : Array Value} {below : List Frame} {meth : Method} {c : Code} {H : Heap} {locs : List Loc} {cells slots : Nat} {Q : State → Prop}
variable {cc : ByteArray} {pc : Nat} {ls : Array Slot} {A : Nat → Prop} {G : va_G} {K : (Nat → Nat) × (Nat → Nat)} {tys : List (ClassId × FieldType)} {ws wc wr : va_W} {W1 : (Nat → Nat) → va_W} {ok : (Nat → Nat) → Prop} {mc ms : Nat} {wds : List Cond} {rm : Room} {As rest st : List Value} {b : Addr} {y : MethodName} {bytes : ByteArray} {nL maxL n index : Nat} {Ts : List Cond} {own host : String}
theorem zcI (S : CallFix p m c cc nL s args Ts own) (hM : zAv l y wds rm G K tys (.ref b :: As) wc W1 ok mc ms) (cw : CallB R s args own index y bytes maxL none wds rm mc ms n ∧ y.name = "<init>" ∧ (Cond.instanceMethod y).before args s = true) (hK : va_K G vwCl tys s) (hN : NW K s) (hZ : ZE K A s s.heap) (hXA : XA s) (hP : va_P G vwCl ws H) (hD : va_D A ws) (hS : va_S A s.heap H locs) (hA : ∀ q : Nat, s.heap.size ≤ q → A q) (is isR : List Nat) (hC : is.map (fun i => ws[i]?) = wc.map some) (hR : isR.map (fun i => ws[i]?) = wr.map some) (hnd : va_nd is = true) (hnR : va_nd isR = true) (hdis : ∀ i ∈ isR, i ∉ is) (hn : As.length = n) (hsz : ls.size = nL) (hst : st = As.reverse ++ .ref b :: rest) (hrest : (rest.map fun v => v.category).sum ≤ 8) (hdg : decode cc pc = .ok (.invokespecial index, 3)) (hf : cells + mc ≤ R.cells ∧ slots + ms ≤ R.slots)
    (kk : ∀ (a : Nat → Nat) (H1 : Heap) (locs1 : List Loc), ok a → va_P G vwCl (wr ++ W1 a) H1 → va_D A (wr ++ W1 a) → va_S A s.heap H1 locs1 → W p l e R s m args below meth c H1 locs1 (cells + mc) (slots + ms) Q (F0 m (pc + 3) ls rest)) : W p l e R s m args below meth c H locs cells slots Q (F0 m pc ls st) := by
  have hPc := zsubP hP is hC
  have hDc := hD.sub (ws' := wc) is hnd hC
  have hFc := zfree hD hS hA is hC
  refine va_callv (va_runI (As := As) (rest := rest) S (hM H.size) cw ⟨zPA_blind, fun U hU hW => ⟨rfl, by rw [hU], by rw [hU]; exact hPc, va_K.moved hW.alike hK, hN.warm hW, hZ.call hS hU hW hFc, hDc.weaken (fun _ _ _ _ => trivial), hXA.moved hW.alike⟩⟩ rfl hn hsz hst (lv_room hrest) hdg hf) hS (fun q _ h => hFc q h) hFc (fun a t H1 locs ht hvm hw hB hz1 hk1 hS => ?_)
  obtain ⟨hP1, hD1⟩ := hB
  rw [ht] at hP1
  obtain ⟨a1, a2⟩ := va_join hP hD is isR hC hR hnR hdis hk1 hFc hP1 hD1
  exact kk a H1 locs hw a1 a2 hS
theorem zcIN (S : CallFix p m c cc nL s args Ts own) (hM : zAv l y wds rm G K tys (.ref b :: As) wc W1 ok mc ms) (cw : va_CN R s args own index y host bytes maxL none wds rm mc ms n ∧ y.name = "<init>" ∧ (Cond.instanceMethod y).before args s = true) (hK : va_K G vwCl tys s) (hN : NW K s) (hZ : ZE K A s s.heap) (hXA : XA s) (hP : va_P G vwCl ws H) (hD : va_D A ws) (hS : va_S A s.heap H locs) (hA : ∀ q : Nat, s.heap.size ≤ q → A q) (is isR : List Nat) (hC : is.map (fun i => ws[i]?) = wc.map some) (hR : isR.map (fun i => ws[i]?) = wr.map some) (hnd : va_nd is = true) (hnR : va_nd isR = true) (hdis : ∀ i ∈ isR, i ∉ is) (hn : As.length = n) (hsz : ls.size = nL) (hst : st = As.reverse ++ .ref b :: rest) (hrest : (rest.map fun v => v.category).sum ≤ 8) (hdg : decode cc pc = .ok (.invokespecial index, 3)) (hf : cells + mc ≤ R.cells ∧ slots + ms ≤ R.slots)
    (kk : ∀ (a : Nat → Nat) (H1 : Heap) (locs1 : List Loc), ok a → va_P G vwCl (wr ++ W1 a) H1 → va_D A (wr ++ W1 a) → va_S A s.heap H1 locs1 → W p l e R s m args below meth c H1 locs1 (cells + mc) (slots + ms) Q (F0 m (pc + 3) ls rest)) : W p l e R s m args below meth c H locs cells slots Q (F0 m pc ls st) := by
  have hPc := zsubP hP is hC
  have hDc := hD.sub (ws' := wc) is hnd hC
  have hFc := zfree hD hS hA is hC
  refine va_callv (va_runIN (As := As) (rest := rest) S (hM H.size) cw ⟨zPA_blind, fun U hU hW => ⟨rfl, by rw [hU], by rw [hU]; exact hPc, va_K.moved hW.alike hK, hN.warm hW, hZ.call hS hU hW hFc, hDc.weaken (fun _ _ _ _ => trivial), hXA.moved hW.alike⟩⟩ rfl hn hsz hst (lv_room hrest) hdg hf) hS (fun q _ h => hFc q h) hFc (fun a t H1 locs ht hvm hw hB hz1 hk1 hS => ?_)
  obtain ⟨hP1, hD1⟩ := hB
  rw [ht] at hP1
  obtain ⟨a1, a2⟩ := va_join hP hD is isR hC hR hnR hdis hk1 hFc hP1 hD1
  exact kk a H1 locs hw a1 a2 hS
theorem zcIl {e0 : va_E} {X : va_W} (S : CallFix p m c cc nL s args Ts own) (hM : zAv l y wds rm G K tys (.ref b :: As) [(b, e0)] W1 ok mc ms) (cw : CallB R s args own index y bytes maxL none wds rm mc ms n ∧ y.name = "<init>" ∧ (Cond.instanceMethod y).before args s = true) (hK : va_K G vwCl tys s) (hN : NW K s) (hZ : ZE K A s s.heap) (hXA : XA s) (hP : va_P G vwCl (X ++ [(b, e0)]) H) (hD : va_D A (X ++ [(b, e0)])) (hS : va_S A s.heap H locs) (hA : ∀ q : Nat, s.heap.size ≤ q → A q) (hn : As.length = n) (hsz : ls.size = nL) (hst : st = As.reverse ++ .ref b :: rest) (hrest : (rest.map fun v => v.category).sum ≤ 8) (hdg : decode cc pc = .ok (.invokespecial index, 3)) (hf : cells + mc ≤ R.cells ∧ slots + ms ≤ R.slots)
    (kk : ∀ (a : Nat → Nat) (H1 : Heap) (locs1 : List Loc), ok a → va_P G vwCl (X ++ W1 a) H1 → va_D A (X ++ W1 a) → va_S A s.heap H1 locs1 → W p l e R s m args below meth c H1 locs1 (cells + mc) (slots + ms) Q (F0 m (pc + 3) ls rest)) : W p l e R s m args below meth c H locs cells slots Q (F0 m pc ls st) :=
  zcI S hM cw hK hN hZ hXA hP hD hS hA [X.length] (List.range X.length) (by simp) (range_get X _) (va_nd_of _ (by simp)) (va_nd_of _ List.nodup_range) (fun i hi => by simp at hi ⊢; omega) hn hsz hst hrest hdg hf kk
theorem zcINl {e0 : va_E} {X : va_W} (S : CallFix p m c cc nL s args Ts own) (hM : zAv l y wds rm G K tys (.ref b :: As) [(b, e0)] W1 ok mc ms) (cw : va_CN R s args own index y host bytes maxL none wds rm mc ms n ∧ y.name = "<init>" ∧ (Cond.instanceMethod y).before args s = true) (hK : va_K G vwCl tys s) (hN : NW K s) (hZ : ZE K A s s.heap) (hXA : XA s) (hP : va_P G vwCl (X ++ [(b, e0)]) H) (hD : va_D A (X ++ [(b, e0)])) (hS : va_S A s.heap H locs) (hA : ∀ q : Nat, s.heap.size ≤ q → A q) (hn : As.length = n) (hsz : ls.size = nL) (hst : st = As.reverse ++ .ref b :: rest) (hrest : (rest.map fun v => v.category).sum ≤ 8) (hdg : decode cc pc = .ok (.invokespecial index, 3)) (hf : cells + mc ≤ R.cells ∧ slots + ms ≤ R.slots)
    (kk : ∀ (a : Nat → Nat) (H1 : Heap) (locs1 : List Loc), ok a → va_P G vwCl (X ++ W1 a) H1 → va_D A (X ++ W1 a) → va_S A s.heap H1 locs1 → W p l e R s m args below meth c H1 locs1 (cells + mc) (slots + ms) Q (F0 m (pc + 3) ls rest)) : W p l e R s m args below meth c H locs cells slots Q (F0 m pc ls st) :=
  zcIN S hM cw hK hN hZ hXA hP hD hS hA [X.length] (List.range X.length) (by simp) (range_get X _) (va_nd_of _ (by simp)) (va_nd_of _ List.nodup_range) (fun i hi => by simp at hi ⊢; omega) hn hsz hst hrest hdg hf kk
end ZI

def zAi (l : Launch) (y : MethodName) (ws : List Cond) (rm : Room) (G : va_G) (K : (Nat → Nat) × (Nat → Nat)) (tys : List (ClassId × FieldType)) (av : List Value) (W0 : va_W) (W1 : (Nat → Nat) → va_W) (r : Int32) (mc ms : Nat) : Prop := ∀ sz : Nat, Met l y ws rm (zPA G K tys av W0 sz) (va_Qi (fun (v : Int32) (_ : Nat → Nat) => v = r) (fun a t => va_P G vwCl (W1 a) t.heap ∧ va_D (va_A W0 sz) (W1 a)) (va_A W0 sz)) mc ms (va_A W0 sz)
def zAr (l : Launch) (y : MethodName) (ws : List Cond) (rm : Room) (G : va_G) (K : (Nat → Nat) × (Nat → Nat)) (tys : List (ClassId × FieldType)) (av : List Value) (W0 : va_W) (W1 : Nat → va_W) (mc ms : Nat) : Prop := ∀ sz : Nat, Met l y ws rm (zPA G K tys av W0 sz) (va_Qr (fun (_ : Unit) => True) (fun _ a t => va_P G vwCl (W1 a) t.heap ∧ va_D (va_A W0 sz) (W1 a)) (va_A W0 sz)) mc ms (va_A W0 sz)
theorem zAi.of {l : Launch} {y : MethodName} {ws ws' : List Cond} {rm : Room} {G : va_G} {K : (Nat → Nat) × (Nat → Nat)} {tys : List (ClassId × FieldType)} {av : List Value} {W0 : va_W} {W1 : (Nat → Nat) → va_W} {r : Int32} {mc ms : Nat} {cc : ByteArray} {maxL : Nat} {lv : List (Nat × Value)} (hy : plainName y.cls = true) (hw : ws = Cond.code y cc maxL (some (.int)) :: ws') (hsl : (lg_sl av).length ≤ maxL) (hlv : lv_args 0 av = lv)
    (body : ∀ (p : Program) (e : Env) (s : State) (m : MethodId) (args : Array Value) (below : List Frame) (meth : Method) (c : Code) (A : Nat → Prop) (Q : State → Prop) (H : Heap) (locs : List Loc), p.tables.exec = Jvm.exec → c.code = cc → c.maxLocals = maxL → s.vm.findClass y.cls = some m.cls → (∀ w ∈ ws, w.before args s = true) → va_K G vwCl tys s → NW K s → ZE K A s s.heap → XA s → va_P G vwCl W0 H → va_D A W0 → (∀ q : Nat, s.heap.size ≤ q → A q) → va_S A s.heap H locs →
      (∀ (H : Heap) (locs : List Loc) (ls : Array Slot) (pc : Nat) (a : (Nat → Nat)), va_P G vwCl (W1 a) H → va_D A (W1 a) → va_S A s.heap H locs → decode cc pc = .ok (.ireturn, 1) → W p l e rm s m args below meth c H locs mc ms Q (F0 m pc ls [.int r])) →
      ∀ ls : Array Slot, lv_has ls maxL lv → W p l e rm s m args below meth c H locs 0 0 Q (F0 m 0 ls [])) : zAi l y ws rm G K tys av W0 W1 r mc ms := by
  intro sz
  refine Met.ofW (cc := cc) (maxL := maxL) (ret := some (.int)) hy hw ?_
  intro p e s m args below meth c s₁ B hml hv
  obtain ⟨rfl, hsz, hP, hK, hN, hZ, hD0, hXA⟩ := hv
  subst hsz
  have hx := B.exec
  have hb := B.bytes
  have hlocks := B.notSynchronized
  rw [lg_entry_eq]
  refine body p e s m _ below meth c (va_A W0 s.heap.size) _ s.heap [] hx hb hml (findClass_of_methodNamed B.named) (atoms_spec (ws := ws) B.pre) hK hN hZ hXA hP hD0.self (fun q h => Or.inr h) va_S.rf ?_ _ (hlv ▸ lv_entry av hsl)
  intro H locs ls pc a hP1 hD1 hS hdg
  exact W.iret hx hb B.returns (fun t ht hW => ⟨⟨r, a, rfl, rfl, by rw [ht]; exact hP1, hD1⟩, hS.F ht⟩) hS.2.2 hdg
theorem zAr.of {l : Launch} {y : MethodName} {ws ws' : List Cond} {rm : Room} {G : va_G} {K : (Nat → Nat) × (Nat → Nat)} {tys : List (ClassId × FieldType)} {av : List Value} {W0 : va_W} {W1 : Nat → va_W} {mc ms : Nat} {cc : ByteArray} {maxL : Nat} {lv : List (Nat × Value)} (hy : plainName y.cls = true) (hw : ws = Cond.code y cc maxL (some (.array .int)) :: ws') (hsl : (lg_sl av).length ≤ maxL) (hlv : lv_args 0 av = lv)
    (body : ∀ (p : Program) (e : Env) (s : State) (m : MethodId) (args : Array Value) (below : List Frame) (meth : Method) (c : Code) (A : Nat → Prop) (Q : State → Prop) (H : Heap) (locs : List Loc), p.tables.exec = Jvm.exec → c.code = cc → c.maxLocals = maxL → s.vm.findClass y.cls = some m.cls → (∀ w ∈ ws, w.before args s = true) → va_K G vwCl tys s → NW K s → ZE K A s s.heap → XA s → va_P G vwCl W0 H → va_D A W0 → (∀ q : Nat, s.heap.size ≤ q → A q) → va_S A s.heap H locs →
      (∀ (H : Heap) (locs : List Loc) (ls : Array Slot) (pc : Nat) (a : Nat), va_P G vwCl (W1 a) H → va_D A (W1 a) → va_S A s.heap H locs → decode cc pc = .ok (.areturn, 1) → W p l e rm s m args below meth c H locs mc ms Q (F0 m pc ls [.ref a])) →
      ∀ ls : Array Slot, lv_has ls maxL lv → W p l e rm s m args below meth c H locs 0 0 Q (F0 m 0 ls [])) : zAr l y ws rm G K tys av W0 W1 mc ms := by
  intro sz
  refine Met.ofW (cc := cc) (maxL := maxL) (ret := some (.array .int)) hy hw ?_
  intro p e s m args below meth c s₁ B hml hv
  obtain ⟨rfl, hsz, hP, hK, hN, hZ, hD0, hXA⟩ := hv
  subst hsz
  have hx := B.exec
  have hb := B.bytes
  have hlocks := B.notSynchronized
  rw [lg_entry_eq]
  refine body p e s m _ below meth c (va_A W0 s.heap.size) _ s.heap [] hx hb hml (findClass_of_methodNamed B.named) (atoms_spec (ws := ws) B.pre) hK hN hZ hXA hP hD0.self (fun q h => Or.inr h) va_S.rf ?_ _ (hlv ▸ lv_entry av hsl)
  intro H locs ls pc a hP1 hD1 hS hdg
  exact W.aret hx hb B.returns (Or.inr ⟨_, rfl⟩) (Or.inr ⟨_, rfl⟩) (fun t ht hW => ⟨⟨(), a, rfl, trivial, by rw [ht]; exact hP1, hD1⟩, hS.F ht⟩) hS.2.2 hdg
theorem zjA {A0 : Nat → Prop} {G : va_G} {cl : List vw_C} {ws wc w1 wn : va_W} {H H1 : Heap} (hP : va_P G cl ws H) (hD : va_D A0 ws) (is : List Nat) (hC : is.map (fun i => ws[i]?) = wc.map some) (hf : w1.map Prod.fst = wc.map Prod.fst)
    (hk : ∀ q : Nat, q < H.size → ¬ va_A wc H.size q → H1[q]? = H[q]?) (hF : ∀ q, va_A wc H.size q → A0 q) (hP1 : va_P G cl (w1 ++ wn) H1) (hD1 : va_D (va_A wc H.size) (w1 ++ wn)) : va_P G cl (zset ws is w1 ++ wn) H1 ∧ va_D A0 (zset ws is w1 ++ wn) := by
  have hP2 : va_P G cl w1 H1 := fun k q hq => hP1 k q (by rw [List.getElem?_append_left (List.getElem?_eq_some_iff.mp hq).1]; exact hq)
  have hn : ∀ (k : Nat) (q : Nat × va_E), wn[k]? = some q → (w1 ++ wn)[w1.length + k]? = some q := fun k q hq => by
    rw [List.getElem?_append_right (by omega), Nat.add_sub_cancel_left]
    exact hq
  obtain ⟨a1, a2⟩ := zj hP hD is hC hf hk hP2
  have hl : w1.length = is.length := by
    have h1 := congrArg List.length hC
    have h2 := congrArg List.length hf
    simp only [List.length_map] at h1 h2
    omega
  have key : ∀ (k : Nat) (q : Nat × va_E), (zset ws is w1)[k]? = some q → ∃ q0, ws[k]? = some q0 ∧ q0.1 = q.1 := by
    intro k q h
    rcases zset_get is w1 ws hl k q h with ⟨j, h1, h2⟩ | ⟨h1, h2⟩
    · obtain ⟨q0, h3, h4⟩ := z_map hC h1
      refine ⟨q0, h4, ?_⟩
      have h5 : (w1.map Prod.fst)[j]? = (wc.map Prod.fst)[j]? := by rw [hf]
      rw [List.getElem?_map, List.getElem?_map, h2, h3] at h5
      exact (Option.some.inj h5).symm
    · exact ⟨q, h2, rfl⟩
  refine ⟨va_P.app a1 (fun k q hq => hP1 _ q (hn k q hq)), va_D.app a2 ⟨fun i j p q hp hq he => ?_, fun k q hq => hF _ (hD1.2 _ q (hn k q hq))⟩ (fun i j x y hx hy hxy => ?_)⟩
  · have := hD1.1 _ _ p q (hn i p hp) (hn j q hq) he
    omega
  · obtain ⟨q0, h1, h2⟩ := key i x hx
    have hlt : q0.1 < H.size := (hP i q0 h1).lt
    have h3 := hD1.2 _ y (hn j y hy)
    rcases h3 with ⟨k2, e, h4⟩ | h4
    · obtain ⟨k3, h5, h6⟩ := z_map2 hC h4
      have h7 : (w1.map Prod.fst)[k2]? = (wc.map Prod.fst)[k2]? := by rw [hf]
      rw [List.getElem?_map, List.getElem?_map, h4] at h7
      cases hw : w1[k2]? with
      | none => rw [hw] at h7; cases h7
      | some z =>
        rw [hw] at h7
        have h8 : z.1 = y.1 := Option.some.inj h7
        have h9 := hD1.1 k2 _ z y (by rw [List.getElem?_append_left (List.getElem?_eq_some_iff.mp hw).1]; exact hw) (hn j y hy) h8
        have h10 := (List.getElem?_eq_some_iff.mp hw).1
        omega
    · rw [← hxy, ← h2] at h4
      exact absurd hlt (Nat.not_lt.mpr h4)
section ZAC
variable {p : Program} {l : Launch} {e : Env} {R : Room} {s : State} {m : MethodId} {args : Array Value} {below : List Frame} {meth : Method} {c : Code} {H : Heap} {locs : List Loc} {cells slots : Nat} {Q : State → Prop}
variable {cc : ByteArray} {pc : Nat} {ls : Array Slot} {A : Nat → Prop} {G : va_G} {K : (Nat → Nat) × (Nat → Nat)} {tys : List (ClassId × FieldType)} {ws wc : va_W} {mc ms : Nat} {wds : List Cond} {rm : Room} {As rest st : List Value} {b : Addr} {y : MethodName} {bytes : ByteArray} {nL maxL n index : Nat} {Ts : List Cond} {own C host : String} {ret : Option FieldType}
theorem zcAi {r : Int32} {w1 wn : (Nat → Nat) → va_W} (S : CallFix p m c cc nL s args Ts own) (hM : zAi l y wds rm G K tys (.ref b :: As) wc (fun a => w1 a ++ wn a) r mc ms) (cw : CallW R s args own C index y bytes maxL ret wds rm mc ms n) (hK : va_K G vwCl tys s) (hN : NW K s) (hZ : ZE K A s s.heap) (hXA : XA s) (hP : va_P G vwCl ws H) (hD : va_D A ws) (hS : va_S A s.heap H locs) (hA : ∀ q : Nat, s.heap.size ≤ q → A q) (hrv : ∃ cell : Cell, H[b]? = some cell ∧ cell.vm.isStatics = false ∧ s.vm.findClass C = some cell.cls) (is : List Nat) (hC : is.map (fun i => ws[i]?) = wc.map some) (hnd : va_nd is = true) (hf1 : ∀ a, (w1 a).map Prod.fst = wc.map Prod.fst) (hn : As.length = n) (hsz : ls.size = nL) (hst : st = As.reverse ++ .ref b :: rest) (hrest : (rest.map fun v => v.category).sum ≤ 8) (hdg : decode cc pc = .ok (.invokevirtual index, 3)) (hf : cells + mc ≤ R.cells ∧ slots + ms ≤ R.slots)
    (kk : ∀ (a : Nat → Nat) (H1 : Heap) (locs1 : List Loc), va_P G vwCl (zset ws is (w1 a) ++ wn a) H1 → va_D A (zset ws is (w1 a) ++ wn a) → va_S A s.heap H1 locs1 → W p l e R s m args below meth c H1 locs1 (cells + mc) (slots + ms) Q (F0 m (pc + 3) ls (.int r :: rest))) : W p l e R s m args below meth c H locs cells slots Q (F0 m pc ls st) := by
  have hPc := zsubP hP is hC
  have hDc := hD.sub (ws' := wc) is hnd hC
  have hFc := zfree hD hS hA is hC
  refine va_calli (va_runV (As := As) (rest := rest) S (hM H.size) cw ⟨zPA_blind, hrv, fun U hU hW => ⟨rfl, by rw [hU], by rw [hU]; exact hPc, va_K.moved hW.alike hK, hN.warm hW, hZ.call hS hU hW hFc, hDc.weaken (fun _ _ _ _ => trivial), hXA.moved hW.alike⟩⟩ rfl hn hsz hst (lv_room hrest) hdg hf) hS (fun q _ h => hFc q h) hFc (fun r2 a t H1 locs ht hvm hw hB hz1 hk1 hS => ?_)
  obtain ⟨hP1, hD1⟩ := hB
  rw [ht] at hP1
  obtain ⟨a1, a2⟩ := zjA hP hD is hC (hf1 a) hk1 hFc hP1 hD1
  rw [show r2 = r from hw]
  exact kk a H1 locs a1 a2 hS
theorem zcASi {r : Int32} {w1 wn : (Nat → Nat) → va_W} (S : CallFix p m c cc nL s args Ts own) (hM : zAi l y wds rm G K tys As wc (fun a => w1 a ++ wn a) r mc ms) (cw : CallB R s args own index y bytes maxL ret wds rm mc ms n ∧ (Cond.static y).before args s = true) (hK : va_K G vwCl tys s) (hN : NW K s) (hZ : ZE K A s s.heap) (hXA : XA s) (hP : va_P G vwCl ws H) (hD : va_D A ws) (hS : va_S A s.heap H locs) (hA : ∀ q : Nat, s.heap.size ≤ q → A q) (is : List Nat) (hC : is.map (fun i => ws[i]?) = wc.map some) (hnd : va_nd is = true) (hf1 : ∀ a, (w1 a).map Prod.fst = wc.map Prod.fst) (hn : As.length = n) (hsz : ls.size = nL) (hst : st = As.reverse ++ rest) (hrest : (rest.map fun v => v.category).sum ≤ 8) (hdg : decode cc pc = .ok (.invokestatic index, 3)) (hf : cells + mc ≤ R.cells ∧ slots + ms ≤ R.slots)
    (kk : ∀ (a : Nat → Nat) (H1 : Heap) (locs1 : List Loc), va_P G vwCl (zset ws is (w1 a) ++ wn a) H1 → va_D A (zset ws is (w1 a) ++ wn a) → va_S A s.heap H1 locs1 → W p l e R s m args below meth c H1 locs1 (cells + mc) (slots + ms) Q (F0 m (pc + 3) ls (.int r :: rest))) : W p l e R s m args below meth c H locs cells slots Q (F0 m pc ls st) := by
  have hPc := zsubP hP is hC
  have hDc := hD.sub (ws' := wc) is hnd hC
  have hFc := zfree hD hS hA is hC
  refine va_calli (va_runS (As := As) (rest := rest) S (hM H.size) cw ⟨zPA_blind, fun U hU hW => ⟨rfl, by rw [hU], by rw [hU]; exact hPc, va_K.moved hW.alike hK, hN.warm hW, hZ.call hS hU hW hFc, hDc.weaken (fun _ _ _ _ => trivial), hXA.moved hW.alike⟩⟩ rfl hn hsz hst (lv_room hrest) hdg hf) hS (fun q _ h => hFc q h) hFc (fun r2 a t H1 locs ht hvm hw hB hz1 hk1 hS => ?_)
  obtain ⟨hP1, hD1⟩ := hB
  rw [ht] at hP1
  obtain ⟨a1, a2⟩ := zjA hP hD is hC (hf1 a) hk1 hFc hP1 hD1
  rw [show r2 = r from hw]
  exact kk a H1 locs a1 a2 hS
theorem zcASr {w1 wn : Nat → va_W} (S : CallFix p m c cc nL s args Ts own) (hM : zAr l y wds rm G K tys As wc (fun a => w1 a ++ wn a) mc ms) (cw : CallB R s args own index y bytes maxL ret wds rm mc ms n ∧ (Cond.static y).before args s = true) (hK : va_K G vwCl tys s) (hN : NW K s) (hZ : ZE K A s s.heap) (hXA : XA s) (hP : va_P G vwCl ws H) (hD : va_D A ws) (hS : va_S A s.heap H locs) (hA : ∀ q : Nat, s.heap.size ≤ q → A q) (is : List Nat) (hC : is.map (fun i => ws[i]?) = wc.map some) (hnd : va_nd is = true) (hf1 : ∀ a, (w1 a).map Prod.fst = wc.map Prod.fst) (hn : As.length = n) (hsz : ls.size = nL) (hst : st = As.reverse ++ rest) (hrest : (rest.map fun v => v.category).sum ≤ 8) (hdg : decode cc pc = .ok (.invokestatic index, 3)) (hf : cells + mc ≤ R.cells ∧ slots + ms ≤ R.slots)
    (kk : ∀ (a : Nat) (H1 : Heap) (locs1 : List Loc), va_P G vwCl (zset ws is (w1 a) ++ wn a) H1 → va_D A (zset ws is (w1 a) ++ wn a) → va_S A s.heap H1 locs1 → W p l e R s m args below meth c H1 locs1 (cells + mc) (slots + ms) Q (F0 m (pc + 3) ls (.ref a :: rest))) : W p l e R s m args below meth c H locs cells slots Q (F0 m pc ls st) := by
  have hPc := zsubP hP is hC
  have hDc := hD.sub (ws' := wc) is hnd hC
  have hFc := zfree hD hS hA is hC
  refine va_callr (va_runS (As := As) (rest := rest) S (hM H.size) cw ⟨zPA_blind, fun U hU hW => ⟨rfl, by rw [hU], by rw [hU]; exact hPc, va_K.moved hW.alike hK, hN.warm hW, hZ.call hS hU hW hFc, hDc.weaken (fun _ _ _ _ => trivial), hXA.moved hW.alike⟩⟩ rfl hn hsz hst (lv_room hrest) hdg hf) hS (fun q _ h => hFc q h) hFc (fun _ a t H1 locs ht hvm hw hB hz1 hk1 hS => ?_)
  obtain ⟨hP1, hD1⟩ := hB
  rw [ht] at hP1
  obtain ⟨a1, a2⟩ := zjA hP hD is hC (hf1 a) hk1 hFc hP1 hD1
  exact kk a H1 locs a1 a2 hS
end ZAC
