/-! rows over maps: arrays of references, clones, copies -/
section MRB
variable {p : Program} {l : Launch} {e : Env} {R : Room} {s : State} {m : MethodId} {args : Array Value} {below : List Frame} {meth : Method} {c : Code} {H : Heap} {locs : List Loc} {cells slots : Nat} {Q : State → Prop}
variable {cc : ByteArray} {pc : Nat} {ls : Array Slot} {rest : List Value} {G : va_G} {A : Nat → Prop} {a : Nat} {tys : List (ClassId × FieldType)} {h : HW} {H0 : Heap} {K : (Nat → Nat) × (Nat → Nat)}
theorem mr_clone (hexec : p.tables.exec = Jvm.exec) (hb : c.code = cc) (hml : c.maxLocals = ls.size) {own ad : String} {index : Nat} (hown : s.vm.findClass own = some m.cls)
    (hlink : (Cond.methodLink own index ⟨ad, "clone", "()Ljava/lang/Object;"⟩).before args s = true) (hsame : (Cond.sameMethod ad "java/lang/Object" "clone" "()Ljava/lang/Object;").before args s = true)
    (hnat : (Cond.native ⟨"java/lang/Object", "clone", "()Ljava/lang/Object;"⟩).before args s = true) (hinst : (Cond.instanceMethod ⟨"java/lang/Object", "clone", "()Ljava/lang/Object;"⟩).before args s = true)
    (hsel : (Cond.selects ad ⟨ad, "clone", "()Ljava/lang/Object;"⟩ ⟨"java/lang/Object", "clone", "()Ljava/lang/Object;"⟩).before args s = true) (hcl : va_Nw (.castable ad "java/lang/Cloneable") s)
    (hK : va_K G vwCl tys s) (hP : mP G K h H) (hD : mD A h) (hS : va_S A H0 H locs) (hA : ∀ q, H0.size ≤ q → A q) (t0 : Nat) {cA : ClassId} {x : vp_A} {ty : FieldType} (ha : h a = some (true, .inl (cA, x))) (ht : tys[t0]? = some (cA, ty))
    (hnm : s.vm.findClass ad = some cA) (hfit : ∀ (i : Nat) (v : Value), (vp_cell cA x).slots[i]? = some v → fits ty v = true)
    (hframes : 1 ≤ R.frames) (hlocals : (rest.map fun v => v.category).sum + 14 ≤ R.locals) (hcells : cells + 1 ≤ R.cells) (hslots : slots + x.1 ≤ R.slots) (hdg : decode cc pc = .ok (.invokevirtual index, 3))
    (kk : ∀ (q : Nat) (H1 : Heap), h q = none → mP G K (hup h q (.inl (cA, x))) H1 → mD A (hup h q (.inl (cA, x))) → va_S A H0 H1 locs →
      W p l e R s m args below meth c H1 locs (cells + 1) (slots + x.1) Q (F0 m (pc + 3) ls (.ref q :: rest))) : W p l e R s m args below meth c H locs cells slots Q (F0 m pc ls (.ref a :: rest)) := by
  have hsz : (vp_cell cA x).slots.size = x.1 := by
    obtain ⟨n, f | f | f | f | f⟩ := x <;> exact arrV_size _ _ _
  have hvm0 : (vp_cell cA x).vm = .none := by
    obtain ⟨n, f | f | f | f | f⟩ := x <;> rfl
  have hcl0 : (vp_cell cA x).cls = cA := by
    obtain ⟨n, f | f | f | f | f⟩ := x <;> rfl
  have hcellE : ({ cls := (vp_cell cA x).cls, slots := (vp_cell cA x).slots } : Cell) = vp_cell cA x := by
    obtain ⟨n, f | f | f | f | f⟩ := x <;> rfl
  obtain ⟨c0, t0', f1, f2, f3⟩ := Cond.castable_spec (va_Nw.use (A := args) rfl hcl)
  cases hnm.symm.trans f1
  intro T hT X
  have hcellT : T.heap[a]? = some (vp_cell cA x) := by rw [hT]; exact hP a true _ ha
  obtain ⟨-, kA, hkA, comp, hkind⟩ := State.isArrayOf_alike X.warmed.alike ((hK.2 t0 _ ht).1 0 (fun _ => .null))
  obtain ⟨-, kS, hkS, compS, hkindS⟩ := (hK.2 t0 _ ht).1 0 (fun _ => .null)
  obtain ⟨vm', X', st⟩ := X.cloneArray hexec hown hlink hsame hnat hinst hsel (a := a) (cell := vp_cell cA x) hcellT (fun k h => by rw [hvm0] at h; cases h) (by rw [hvm0]; exact fun h => by cases h) (by rw [hcl0]; exact hnm) f2 (by rw [hcl0]; exact f3)
    (fun i v hv => by
      rw [hcl0]
      have hk' : T.vm.classes[cA]? = some kA := hkA
      simpa [State.fitsSlot, State.slotType?, hk', hkind] using hfit i v hv)
    (g := F0 m pc ls (.ref a :: rest)) rfl (by rw [hml]) rfl (by rw [hb]; exact hdg) hframes (by show 2 * 0 + _ + 14 ≤ _; omega) hcells (by rw [hsz]; exact hslots) (hloader := by rw [hcl0]; exact Vm.clonesLoader_of_array hkS hkindS)
  rw [hcellE, hsz] at X'
  generalize hH1 : H.push (vp_cell cA x) = H1
  have z1 : H1.size = H.size + 1 := by rw [← hH1, Array.size_push]
  have e1 : H1[H.size]? = some (vp_cell cA x) := by rw [← hH1, Array.getElem?_push_size]
  have o1 : ∀ q : Nat, q < H.size → H1[q]? = H[q]? := fun q hq => by rw [← hH1, Array.getElem?_push, if_neg (Nat.ne_of_lt hq)]
  obtain ⟨g1, g2⟩ := hP.new (e := .inl (cA, x)) (show H1[H.size]? = some (vp_cell cA x) from e1) o1
  obtain ⟨t, b1, b2⟩ := kk H.size H1 g2 g1 (hD.set (hA _ hS.1)) (mS.new hS (by omega) o1)
    ((T.setVm vm').pushCell (vp_cell cA x)) (by rw [← hH1, ← hT]; rfl) X'
  refine ⟨t, st t ?_, b2⟩
  rw [hcellE, hT]
  exact b1
theorem mr_castA (hexec : p.tables.exec = Jvm.exec) (hb : c.code = cc) {own nm : String} {index : Nat} (hown : s.vm.findClass own = some m.cls) (hlink : (Cond.classLink own index nm).before args s = true) (hP : mP G K h H) {cA : ClassId} {x : vp_A} (ha : h a = some (true, .inl (cA, x))) (hnm : s.vm.findClass nm = some cA) (hdg : decode cc pc = .ok (.checkcast index, 3))
    (kk : W p l e R s m args below meth c H locs cells slots Q (F0 m (pc + 3) ls (.ref a :: rest))) : W p l e R s m args below meth c H locs cells slots Q (F0 m pc ls (.ref a :: rest)) :=
  va_castA (D := G) (cl := vwCl) hexec hb hown hlink (hP.one ha) 0 rfl hnm hdg kk
theorem mr_newq (hexec : p.tables.exec = Jvm.exec) (hb : c.code = cc) {own C : String} {index : Nat} (hown : s.vm.findClass own = some m.cls) (hclink : (Cond.classLink own index C).before args s = true) (hover : va_AO C s) (hK : va_K G vwCl tys s) (t0 : Nat) {cA : ClassId} (ht : tys[t0]? = some (cA, .object C)) (hP : mP G K h H) (hD : mD A h) (hS : va_S A H0 H locs) (hA : ∀ q, H0.size ≤ q → A q)
    {n : Int32} (hn : ¬ n < 0) (hbytes : n.toNatClampNeg * 4 ≤ 536870912) (hcells : cells + 1 ≤ R.cells) (hslots : slots + n.toNatClampNeg ≤ R.slots) (hdg : decode cc pc = .ok (.anewarray index, 3))
    (kk : ∀ (q : Nat) (H1 : Heap), h q = none → mP G K (hup h q (.inl (cA, n.toNatClampNeg, .inr (.inr (.inr (.inr (fun _ => none))))))) H1 → mD A (hup h q (.inl (cA, n.toNatClampNeg, .inr (.inr (.inr (.inr (fun _ => none))))))) → va_S A H0 H1 locs →
      W p l e R s m args below meth c H1 locs (cells + 1) (slots + n.toNatClampNeg) Q (F0 m (pc + 3) ls (.ref q :: rest))) : W p l e R s m args below meth c H locs cells slots Q (F0 m pc ls (.int n :: rest)) := by
  refine W.anew hexec hb hown hclink (va_AO.use hover) rfl hdg rfl hn hbytes hcells hslots fun cB kA comp f1 f2 f3 f4 => ?_
  obtain ⟨-, -, -, -, -, h1⟩ := (hK.2 t0 _ ht).2
  cases Option.some.inj (f1.symm.trans h1)
  generalize hH1 : H.push ({ cls := cA, slots := Array.replicate n.toNatClampNeg .null, vm := .none } : Cell) = H1
  have z1 : H1.size = H.size + 1 := by rw [← hH1, Array.size_push]
  have e1 : H1[H.size]? = some (arrV cA n.toNatClampNeg (fun _ => .null)) := by rw [← hH1, Array.getElem?_push_size, ← arrV_new]
  have o1 : ∀ q : Nat, q < H.size → H1[q]? = H[q]? := fun q hq => by rw [← hH1, Array.getElem?_push, if_neg (Nat.ne_of_lt hq)]
  obtain ⟨g1, g2⟩ := hP.new (e := .inl (cA, n.toNatClampNeg, .inr (.inr (.inr (.inr (fun _ => none)))))) (show H1[H.size]? = some (vp_cell _ _) by rw [vp_cell_q]; exact e1) o1
  exact kk H.size H1 g2 g1 (hD.set (hA _ hS.1)) (mS.new hS (by omega) o1)
/-- the map behind new int[n][k]: the rows lie behind the array of them -/
def hmul (h : HW) (c2 c0 : ClassId) (a n k : Nat) : HW := fun b => if b = a then some (true, .inl (c2, n, .inr (.inr (.inr (.inr (fun i => if i < n then some (a + 1 + i) else none)))))) else if a < b ∧ b ≤ a + n then some (true, .inl (c0, k, .inl (fun _ => 0))) else h b
theorem mr_inner (c : ClassId) (K' : Nat) : Jvm.Free.Multi.innerC c K' (defaultValue .int) = vp_cell c (K', .inl (fun _ => 0)) := by
  rw [vp_cell_i]
  unfold Jvm.Free.Multi.innerC
  rw [arrV_new]
  rfl
theorem mr_mna (hexec : p.tables.exec = Jvm.exec) (hb : c.code = cc) {own : String} {index : Nat} (hown : s.vm.findClass own = some m.cls) (hclink : (Cond.classLink own index ("[" ++ (FieldType.array .int).toString)).before args s = true) (hover : va_AOA .int s) (harr : (Cond.arrayClass .int).before args s = true)
    (hK : va_K G vwCl tys s) (t0 t2 : Nat) {c0 c2 : ClassId} (ht : tys[t0]? = some (c0, .int)) (ht2 : tys[t2]? = some (c2, .array .int)) (hP : mP G K h H) (hD : mD A h) (hS : va_S A H0 H locs) (hA : ∀ q, H0.size ≤ q → A q) {n k : Int32} (hn : ¬ n < 0) (hk : ¬ k < 0)
    (hb1 : n.toNatClampNeg * 4 ≤ 536870912) (hb2 : k.toNatClampNeg * 4 ≤ 536870912) (hb3 : k.toNatClampNeg ≤ 536870912) (hcells : cells + (1 + n.toNatClampNeg) ≤ R.cells) (hslots : slots + (n.toNatClampNeg + n.toNatClampNeg * k.toNatClampNeg) ≤ R.slots) (hdg : decode cc pc = .ok (.multianewarray index 2, 4))
    (kk : ∀ (q : Nat) (H1 : Heap), (∀ b : Nat, q ≤ b → h b = none) → mP G K (hmul h c2 c0 q n.toNatClampNeg k.toNatClampNeg) H1 → mD A (hmul h c2 c0 q n.toNatClampNeg k.toNatClampNeg) → va_S A H0 H1 locs →
      W p l e R s m args below meth c H1 locs (cells + 1 + n.toNatClampNeg) (slots + n.toNatClampNeg + n.toNatClampNeg * k.toNatClampNeg) Q (F0 m (pc + 4) ls (.ref q :: rest))) : W p l e R s m args below meth c H locs cells slots Q (F0 m pc ls (.int k :: .int n :: rest)) := by
  have hc0 : s.vm.findClass (FieldType.array .int).toString = some c0 := (hK.2 t0 _ ht).2
  have hc2 : s.vm.findClass ("[" ++ (FieldType.array .int).toString) = some c2 := (hK.2 t2 _ ht2).2
  intro T hT Xs
  obtain ⟨vm₁, cA, comp, -, fA, fC, hO, -, X', step⟩ := Xs.multianewarray2F hexec hown hclink (va_AOA.use hover) harr (g := F0 m pc ls (.int k :: .int n :: rest)) rfl (by rw [hb]; exact hdg) rfl hn hk hb1 hb2 hb3 (by decide) (by decide) hcells hslots
  have ec : some c0 = some comp := hc0.symm.trans fC
  cases ec
  have ec2 : some c2 = some cA := hc2.symm.trans fA
  cases ec2
  generalize hF : Jvm.Free.Multi.fill (T.setVm vm₁) c2 c0 n.toNatClampNeg k.toNatClampNeg (defaultValue .int) n.toNatClampNeg = F at X' step
  have hTh : (T.setVm vm₁).heap = H := hT
  obtain ⟨f1, f2, -, -⟩ := Jvm.Free.Multi.fill_facts (T.setVm vm₁) c2 c0 n.toNatClampNeg k.toNatClampNeg (defaultValue .int) n.toNatClampNeg
  rw [hF, hTh] at f1 f2
  have hold : ∀ x : Nat, x < H.size → F.heap[x]? = H[x]? := fun x hx => by
    have := Jvm.Free.Multi.fill_old (T.setVm vm₁) c2 c0 n.toNatClampNeg k.toNatClampNeg (defaultValue .int) (a := x) (by rw [hTh]; exact hx) n.toNatClampNeg
    rw [hF, hTh] at this
    exact this
  have hrow : ∀ j : Nat, j < n.toNatClampNeg → F.heap[H.size + 1 + j]? = some (vp_cell c0 (k.toNatClampNeg, .inl (fun _ => 0))) := fun j hj => by
    have := Jvm.Free.Multi.fill_inner (T.setVm vm₁) c2 c0 n.toNatClampNeg k.toNatClampNeg (defaultValue .int) n.toNatClampNeg j hj
    rw [hF, hTh, mr_inner] at this
    exact this
  have hout : Jvm.Free.Multi.outerC c2 n.toNatClampNeg H.size n.toNatClampNeg = vp_cell c2 (n.toNatClampNeg, .inr (.inr (.inr (.inr (fun i => if i < n.toNatClampNeg then some (H.size + 1 + i) else none))))) := by
    rw [vp_cell_q]
    exact vr_outer c2 n.toNatClampNeg H.size n.toNatClampNeg
  rw [hout] at f2
  have hnone : ∀ b : Nat, H.size ≤ b → h b = none := fun b hb => by
    cases hh : h b with
    | none => rfl
    | some z => exact absurd (hP.lt (w := z.1) (e := z.2) hh) (by omega)
  have hPF : mP G K (hmul h c2 c0 H.size n.toNatClampNeg k.toNatClampNeg) F.heap := by
    intro b w e2 hb
    unfold hmul at hb
    split at hb
    · rename_i hba
      subst hba
      cases hb
      exact f2
    · split at hb
      · rename_i hbr
        cases hb
        have := hrow (b - (H.size + 1)) (by omega)
        rw [show H.size + 1 + (b - (H.size + 1)) = b by omega] at this
        exact this
      · exact (hP b w e2 hb).kept (hold b (hP.lt hb))
  have hDF : mD A (hmul h c2 c0 H.size n.toNatClampNeg k.toNatClampNeg) := by
    intro b e2 hb
    unfold hmul at hb
    split at hb
    · rename_i hba
      subst hba
      exact hA _ hS.1
    · split at hb
      · rename_i hbr
        exact hA _ (Nat.le_trans hS.1 (by omega))
      · exact hD b e2 hb
  obtain ⟨t, b1, b2⟩ := kk H.size F.heap hnone hPF hDF (mS.new hS (by rw [f1]; omega) hold) F rfl X'
  exact ⟨t, step t (by rw [hT]; exact b1), b2⟩
/-- an int[] into a row of an int[][] -/
theorem mr_aastA (hexec : p.tables.exec = Jvm.exec) (hb : c.code = cc) (hover : va_AOA .int s) (hK : va_K G vwCl tys s) (hP : mP G K h H) (hZ : ZE K A s H0) (hD : mD A h) (hS : va_S A H0 H locs) (t0 t2 : Nat) {c0 c2 : ClassId} (ht : tys[t0]? = some (c0, .int)) (ht2 : tys[t2]? = some (c2, .array .int)) {n v : Nat} {f : Nat → Option Nat} {w : Bool} {x : vp_A} (ha : h a = some (true, .inl (c2, n, .inr (.inr (.inr (.inr f)))))) (hv : h v = some (w, .inl (c0, x))) {i : Int32} (hin : vp_in i n) (hdg : decode cc pc = .ok (.aastore, 1))
    (kk : ∀ (H1 : Heap) (locs1 : List Loc), mP G K (hup h a (.inl (c2, n, .inr (.inr (.inr (.inr (va_up f i.toNatClampNeg (some v)))))))) H1 → mD A (hup h a (.inl (c2, n, .inr (.inr (.inr (.inr (va_up f i.toNatClampNeg (some v)))))))) → va_S A H0 H1 locs1 → W p l e R s m args below meth c H1 locs1 cells slots Q (F0 m (pc + 1) ls rest)) : W p l e R s m args below meth c H locs cells slots Q (F0 m pc ls (.ref v :: .int i :: .ref a :: rest)) := by
  have hlt : i.toNatClampNeg < n := Nat.not_le.mp fun q => hin (Or.inr q)
  have h0 : ¬ i < 0 := fun q => hin (Or.inl q)
  have hc0 : s.vm.findClass (FieldType.array .int).toString = some c0 := (hK.2 t0 _ ht).2
  have hc2 : s.vm.findClass ("[" ++ (FieldType.array .int).toString) = some c2 := (hK.2 t2 _ ht2).2
  obtain ⟨comp, cB, kB, g1, -, g3, g4, g5⟩ := va_AOA.spec hover
  cases Option.some.inj (g5.symm.trans hc2)
  cases Option.some.inj (g1.symm.trans hc0)
  obtain ⟨-, kC, hkC, -⟩ := (hK.2 t0 _ ht).1 0 (fun _ => .null)
  obtain ⟨vc, v1, v2, -, -, -, v6, v7⟩ := mRd hK hP hZ hS v w _ hv
  have hvc : vc.cls = c0 := by
    rcases v7 with v7 | v7 | v7
    · exact v7
    · cases arrOfT_one v7 (hK.2 t0 _ ht).1
    · cases arrOfT_one v7 (hK.2 t0 _ ht).1
  refine W.aast hexec hb (hP a true _ ha) (fun q h => by cases h) (fun h => by cases h) g3 g4 rfl hkC ⟨h0, by show _ < (arrV _ _ _).slots.size; rw [arrV_size]; exact hlt⟩ v1 (v6 _ (hK.2 t0 _ ht).1).1 (by rw [hvc]; exact hkC) (by rw [hvc]; exact va_asg _ _) rfl rfl hdg fun H1 e z oq => ?_
  refine kk H1 _ (hP.set ?_ oq) (hD.set (hD a _ ha)) (hS.put z oq (hD a _ ha))
  show H1[a]? = some (vp_cell _ _)
  rw [e]
  rw [vp_cell_q, vp_cell_q, arrV_store]
  congr 2
  funext q
  by_cases hq : q = i.toNatClampNeg
  · subst hq
    simp [updV, va_up, va_rf]
  · simp [updV, va_up, hq]
/-- an object, or null, into an array over its class -/
theorem mr_aastO (hexec : p.tables.exec = Jvm.exec) (hb : c.code = cc) (hK : va_K G vwCl tys s) (hP : mP G K h H) (hZ : ZE K A s H0) (hD : mD A h) (hS : va_S A H0 H locs) (t0 ci : Nat) {cA : ClassId} {r : vw_C} {n : Nat} {f : Nat → Option Nat} (ha : h a = some (true, .inl (cA, n, .inr (.inr (.inr (.inr f)))))) (ht : tys[t0]? = some (cA, .object r.1)) {o : Option Nat} (hv : ∀ v : Nat, o = some v → ∃ w vs, h v = some (w, .inr (ci, vs))) (hc : vwCl[ci]? = some r) {i : Int32} (hin : vp_in i n) (hdg : decode cc pc = .ok (.aastore, 1))
    (kk : ∀ (H1 : Heap) (locs1 : List Loc), mP G K (hup h a (.inl (cA, n, .inr (.inr (.inr (.inr (va_up f i.toNatClampNeg o))))))) H1 → mD A (hup h a (.inl (cA, n, .inr (.inr (.inr (.inr (va_up f i.toNatClampNeg o))))))) → va_S A H0 H1 locs1 → W p l e R s m args below meth c H1 locs1 cells slots Q (F0 m (pc + 1) ls rest)) : W p l e R s m args below meth c H locs cells slots Q (F0 m pc ls (va_rf o :: .int i :: .ref a :: rest)) := by
  have hlt : i.toNatClampNeg < n := Nat.not_le.mp fun q => hin (Or.inr q)
  have h0 : ¬ i < 0 := fun q => hin (Or.inl q)
  have key : ∀ (H1 : Heap) (locs1 : List Loc), H1[a]? = some ((vp_cell cA (n, .inr (.inr (.inr (.inr f))))).setSlot i.toNatClampNeg (va_rf o)) → H1.size = H.size → (∀ q : Nat, q ≠ a → H1[q]? = H[q]?) → locs1 = locs ++ [⟨a, i.toNatClampNeg⟩] → W p l e R s m args below meth c H1 locs1 cells slots Q (F0 m (pc + 1) ls rest) := by
    intro H1 locs1 e z oq el
    subst el
    refine kk H1 _ (hP.set ?_ oq) (hD.set (hD a _ ha)) (hS.put z oq (hD a _ ha))
    show H1[a]? = some (vp_cell _ _)
    rw [e]
    rw [vp_cell_q, vp_cell_q, arrV_store]
    congr 2
    funext q
    by_cases hq : q = i.toNatClampNeg
    · subst hq
      simp [updV, va_up]
    · simp [updV, va_up, hq]
  cases o with
  | none => exact va_WaastN hexec hb (hP a true _ ha) ((hK.2 t0 _ ht).1 n (fun j => va_rf (f j))) (fun q => by cases q) (by show ¬ (i < 0 ∨ (arrV _ _ _).slots.size ≤ _); rw [arrV_size]; exact hin) rfl rfl hdg (fun H1 e z oq => key H1 _ e z oq rfl)
  | some v =>
    obtain ⟨w, vs, hv⟩ := hv v rfl
    obtain ⟨r', cellV, hr', g1, g3, -, g4, -⟩ := mRd hK hP hZ hS v w _ hv
    cases hr'.symm.trans hc
    have hcls := (hK.1 ci _ hc).2
    have g2 : cellV.cls = G.1 ci := Option.some.inj (g4.symm.trans hcls.1)
    obtain ⟨kA, comp, k1, k2, k3, -⟩ := (hK.2 t0 _ ht).2
    have hcomp : comp = G.1 ci := Option.some.inj (k3.symm.trans hcls.1)
    subst hcomp
    obtain ⟨kC, hkC, -⟩ := hcls.2
    exact W.aast hexec hb (hP a true _ ha) (fun q h => by cases h) (fun h => by cases h) k1 k2 rfl hkC ⟨h0, by show _ < (arrV _ _ _).slots.size; rw [arrV_size]; exact hlt⟩ g1 (fun q h => by rw [h] at g3; cases g3) (by rw [g2]; exact hkC) (by rw [g2]; exact va_assign hcls) rfl rfl hdg (fun H1 e z oq => key H1 _ e z oq rfl)
theorem mr_copy (hexec : p.tables.exec = Jvm.exec) (hb : c.code = cc) (hml : c.maxLocals = ls.size) {own : String} {index : Nat} (hown : s.vm.findClass own = some m.cls) (hlink : (Cond.methodLink own index arraycopyName).before args s = true) (hnat : (Cond.native arraycopyName).before args s = true) (hstat : (Cond.static arraycopyName).before args s = true) (hini : (Cond.initialized "java/lang/System").before args s = true)
    (hK : va_K G vwCl tys s) (hP : mP G K h H) (hZ : ZE K A s H0) (hD : mD A h) (hS : va_S A H0 H locs) (t0 : Nat) {a0 : Nat} {w : Bool} {c0 c1 : ClassId} {n0 n1 : Nat} {f g : Nat → Int32} (ha0 : h a0 = some (w, .inl (c0, n0, .inl f))) (ha1 : h a = some (true, .inl (c1, n1, .inl g))) (ht0 : tys[t0]? = some (c0, .byte)) (ht1 : tys[t0]? = some (c1, .byte))
    {sp dp n : Int32} (h1 : ¬ sp < 0) (h2 : ¬ dp < 0) (h3 : ¬ n < 0) (h4 : sp.toNatClampNeg + n.toNatClampNeg ≤ n0) (h5 : dp.toNatClampNeg + n.toNatClampNeg ≤ n1) (hfit : ∀ i, i < n.toNatClampNeg → fits .byte (.int (f (sp.toNatClampNeg + i))) = true)
    (hframes : 1 ≤ R.frames) (hlocals : (rest.map fun v => v.category).sum + (nativeFrameWords "java/lang/System" "arraycopy" 5 + 11) ≤ R.locals) (hdg : decode cc pc = .ok (.invokestatic index, 3))
    (kk : ∀ (H1 : Heap) (locs1 : List Loc), mP G K (hup h a (.inl (c1, n1, .inl (va_cpy f g sp.toNatClampNeg dp.toNatClampNeg n.toNatClampNeg)))) H1 → mD A (hup h a (.inl (c1, n1, .inl (va_cpy f g sp.toNatClampNeg dp.toNatClampNeg n.toNatClampNeg)))) → va_S A H0 H1 locs1 → W p l e R s m args below meth c H1 locs1 cells slots Q (F0 m (pc + 3) ls rest)) : W p l e R s m args below meth c H locs cells slots Q (F0 m pc ls (.int n :: .int dp :: .ref a :: .int sp :: .ref a0 :: rest)) := by
  have nn : ∀ z : Int32, ¬ z < 0 → z.toInt = (z.toNatClampNeg : Int) := by
    intro z hz
    have hz0 : (0 : Int) ≤ z.toInt := by
      have := Int32.not_lt.mp hz
      simpa using Int32.le_iff_toInt_le.mp this
    show z.toInt = ((z.toInt.toNat : Nat) : Int)
    omega
  intro T hT X
  obtain ⟨cs, hc0, s2, s3, -, s5, s6, -⟩ := mRd hK hP hZ hS a0 w _ ha0
  have hc1 : H[a]? = some (vp_cell c1 (n1, .inl g)) := hP a true _ ha1
  obtain ⟨s7, k0, hk0, cm0, hkk0⟩ := s6 _ (hK.2 t0 _ ht0).1
  obtain ⟨-, k1, hk1, cm1, hkk1⟩ := (hK.2 t0 _ ht1).1 n1 (fun j => .int (g j))
  obtain ⟨vm', X', step⟩ := X.arraycopy hexec hown hlink hnat hstat hini (src := a0) (dst := a) (cs := cs) (cd := vp_cell c1 (n1, .inl g)) (srcPos := sp) (destPos := dp) (n := n) (by rw [hT]; exact hc0) (by rw [hT]; exact hc1)
    s7 (fun _ h => by cases h) s2 (fun h => by cases h) hk0 hk1 hkk0 hkk1 (by simp [refKind]) h1 h2 h3
    (by rw [nn sp h1, nn n h3]; have s3 : n0 ≤ cs.slots.size := s3; omega)
    (by rw [nn dp h2, nn n h3]; show ¬ _ > ((arrV c1 n1 (fun j => .int (g j))).slots.size : Int); rw [arrV_size]; omega)
    (fun vm₁ _ i hi => by
      have e : cs.slots.getD (sp.toNatClampNeg + i) .null = .int (f (sp.toNatClampNeg + i)) := by
        rw [Array.getD_eq_getD_getElem?, s5 _ (by show _ < n0; omega)]
        rfl
      refine ⟨?_, ?_⟩
      · rw [e]
        exact hfit i hi
      · rw [e]
        exact trivial)
    (g := F0 m pc ls (.int n :: .int dp :: .ref a :: .int sp :: .ref a0 :: rest)) rfl (by rw [hml]) (rest := rest) rfl (by rw [hb]; exact hdg) hframes (by show 2 * 0 + _ + _ ≤ _; omega)
  have e1 : copied cs (vp_cell c1 (n1, .inl g)) sp dp n = vp_cell c1 (n1, .inl (va_cpy f g sp.toNatClampNeg dp.toNatClampNeg n.toNatClampNeg)) := va_copiedX (fun z => .int z) cs c1 (n0 := n0) f g s5 h4
  rw [e1] at X' step
  have hl : a < H.size := (Array.getElem?_eq_some_iff.mp hc1).1
  have hheap : ((T.setVm vm').setCell a (vp_cell c1 (n1, .inl (va_cpy f g sp.toNatClampNeg dp.toNatClampNeg n.toNatClampNeg)))).heap = H.setIfInBounds a (vp_cell c1 (n1, .inl (va_cpy f g sp.toNatClampNeg dp.toNatClampNeg n.toNatClampNeg))) := by rw [← hT]; rfl
  have oq : ∀ q : Nat, q ≠ a → (H.setIfInBounds a (vp_cell c1 (n1, .inl (va_cpy f g sp.toNatClampNeg dp.toNatClampNeg n.toNatClampNeg))))[q]? = H[q]? := fun q hq => by simp [Array.getElem?_setIfInBounds, Ne.symm hq]
  obtain ⟨t, a1, b1⟩ := kk _ _ (hP.set (show (H.setIfInBounds a _)[a]? = some _ by simp [Array.getElem?_setIfInBounds, hl]) oq) (hD.set (hD a _ ha1)) ⟨by simp; exact hS.1, fun q g1 g2 => by
      rw [oq q (fun e => g2 (by rw [e]; exact hD a _ ha1))]
      exact hS.2.1 q g1 g2, fun q hq => by
      rcases List.mem_append.mp hq with h | h
      · exact hS.2.2 q h
      · obtain ⟨z, -, hz⟩ := List.mem_map.mp h
        rw [← hz]
        exact hD a _ ha1⟩ _ hheap X'
  exact ⟨t, step t a1, b1⟩
theorem mr_recv {ci : Nat} {q : vw_C} {fs : List Value} {w : Bool} (hK : va_K G vwCl tys s) (hP : mRo s h H) (hc : vwCl[ci]? = some q) (he : h a = some (w, .inr (ci, fs))) : ∃ cell : Cell, H[a]? = some cell ∧ cell.vm.isStatics = false ∧ s.vm.findClass q.1 = some cell.cls := by
  obtain ⟨r, cell, h1, g1, g2, -, g4, -⟩ := hP a w _ he
  cases h1.symm.trans hc
  exact ⟨cell, g1, g2, g4⟩
end MRB
