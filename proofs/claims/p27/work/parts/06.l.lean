/-! the world of the whole class, and the pool of its formulas -/
abbrev PS : Type := List (Nat × Nat × Nat × Nat × SA)
abbrev HS : Type := SA × GS × GS × (Nat → GS) × RS × SA
def wP (c : Nat → ClassId) (ps : PS) : va_W := ps.flatMap (fun q => wF c q.1 q.2.1 q.2.2.1 q.2.2.2.1 q.2.2.2.2)
def wH0 (c : Nat → ClassId) (ah : Nat → Nat) (ag : Nat → Nat → Nat) (ar : Nat → Nat) (s : HS) : va_W :=
  [(ah 0, .inr (7, [.ref (ag 0 0), .ref (ag 1 0), .ref (ah 1), .int (s.1.1 0), .int (s.1.1 1), .ref (ar 0), .ref (ah 2)])), (ah 1, .inl (c 3, 8, .inr (.inr (.inr (.inr (fun i => if i < 8 then some (ag (2 + i) 0) else none))))))] ++
  (wG c (ag 0) s.2.1 ++ (wG c (ag 1) s.2.2.1 ++ (wG c (ag 2) (s.2.2.2.1 0) ++ (wG c (ag 3) (s.2.2.2.1 1) ++ (wG c (ag 4) (s.2.2.2.1 2) ++ (wG c (ag 5) (s.2.2.2.1 3) ++ (wG c (ag 6) (s.2.2.2.1 4) ++ (wG c (ag 7) (s.2.2.2.1 5) ++ (wG c (ag 8) (s.2.2.2.1 6) ++ (wG c (ag 9) (s.2.2.2.1 7) ++ (wR c ar s.2.2.2.2.1 ++ wS c (ah 2) (ah 3) (ah 4) (ah 5) (ah 6) s.2.2.2.2.2)))))))))))
def wH (c : Nat → ClassId) (ah : Nat → Nat) (ag : Nat → Nat → Nat) (ar : Nat → Nat) (ps : PS) (s : HS) : va_W := wH0 c ah ag ar s ++ wP c ps
def upG (f : Nat → GS) (k : Nat) (g : GS) : Nat → GS := fun j => if j = k then g else f j
/-- the formula that a game's field names, in the pool -/
def pget (ps : PS) (fo : Option Nat) : Option (Nat × Nat × Nat × SA) := match fo with
  | none => some (0, 0, 0, (fun _ => 0), fun _ _ => 0)
  | some a => (ps.find? (fun q => q.1 == a)).map (fun q => q.2)
def pput (ps : PS) (fo : Option Nat) (f : SA) : PS := match fo with
  | none => ps
  | some a => ps.map (fun q => if q.1 == a then (q.1, q.2.1, q.2.2.1, q.2.2.2.1, f) else q)
theorem wP_app (c : Nat → ClassId) (a b : PS) : wP c (a ++ b) = wP c a ++ wP c b := by simp [wP]
theorem wP_cons (c : Nat → ClassId) (q : Nat × Nat × Nat × Nat × SA) (b : PS) : wP c (q :: b) = wF c q.1 q.2.1 q.2.2.1 q.2.2.2.1 q.2.2.2.2 ++ wP c b := by simp [wP]
theorem zset_app : ∀ (is : List Nat) (w1 X Y : va_W), (∀ i ∈ is, i < X.length) → zset (X ++ Y) is w1 = zset X is w1 ++ Y
  | [], w1, X, Y, _ => by cases w1 <;> rfl
  | i :: is, [], _, _, _ => rfl
  | i :: is, x :: xs, X, Y, h => by
    show zset ((X ++ Y).set i x) is xs = zset (X.set i x) is xs ++ Y
    rw [List.set_append_left _ _ (h i List.mem_cons_self)]
    exact zset_app is xs (X.set i x) Y (fun j hj => by rw [List.length_set]; exact h j (List.mem_cons_of_mem _ hj))
theorem zset_two : ∀ (is js : List Nat) (w1 w2 ws : va_W), w1.length = is.length → zset ws (is ++ js) (w1 ++ w2) = zset (zset ws is w1) js w2
  | [], js, w1, w2, ws, h => by
    have : w1 = [] := by cases w1 with | nil => rfl | cons a b => cases h
    subst this
    rfl
  | i :: is, js, [], w2, ws, h => by cases h
  | i :: is, js, x :: xs, w2, ws, h => by
    show zset (ws.set i x) (is ++ js) (xs ++ w2) = zset (zset (ws.set i x) is xs) js w2
    exact zset_two is js xs w2 (ws.set i x) (by simpa using h)
theorem zset_len : ∀ (is : List Nat) (w1 X : va_W), (zset X is w1).length = X.length
  | [], w1, X => by cases w1 <;> rfl
  | i :: is, [], _ => rfl
  | i :: is, x :: xs, X => by
    show (zset (X.set i x) is xs).length = X.length
    rw [zset_len is xs, List.length_set]
theorem find_split {α : Type} (p : α → Bool) : ∀ (l : List α) (q : α), l.find? p = some q → ∃ A B, l = A ++ q :: B ∧ p q = true ∧ ∀ z ∈ A, p z = false
  | [], _, h => by cases h
  | a :: l, q, h => by
    by_cases ha : p a = true
    · rw [List.find?_cons_of_pos ha] at h
      cases h
      exact ⟨[], l, rfl, ha, fun z hz => by cases hz⟩
    · rw [List.find?_cons_of_neg ha] at h
      obtain ⟨A, B, h1, h2, h3⟩ := find_split p l q h
      refine ⟨a :: A, B, by rw [h1]; rfl, h2, fun z hz => ?_⟩
      rcases List.mem_cons.mp hz with rfl | hz
      · exact Bool.not_eq_true _ ▸ ha
      · exact h3 z hz
theorem wP_mem {c : Nat → ClassId} {ps : PS} {q : Nat × Nat × Nat × Nat × SA} (h : q ∈ ps) : ∃ e, (q.1, e) ∈ wP c ps := ⟨_, List.mem_flatMap.mpr ⟨q, h, List.mem_cons_self⟩⟩
theorem zl1 {α : Type} {A B : List α} {a b c : α} {Y : List α} : (A ++ ([a, b, c] ++ B))[A.length]? = some a ∧ (A ++ ([a, b, c] ++ B))[A.length + 1]? = some b ∧ (A ++ ([a, b, c] ++ B))[A.length + 2]? = some c := by
  refine ⟨?_, ?_, ?_⟩
  · rw [List.getElem?_append_right (Nat.le_refl _), Nat.sub_self]; rfl
  · rw [List.getElem?_append_right (by omega), Nat.add_sub_cancel_left]; rfl
  · rw [List.getElem?_append_right (by omega), Nat.add_sub_cancel_left]; rfl
theorem zl3 {α : Type} {A B : List α} {a b c : α} : [A.length, A.length + 1, A.length + 2].map (fun i => (A ++ ([a, b, c] ++ B))[i]?) = [a, b, c].map some := by
  have h := zl1 (A := A) (B := B) (a := a) (b := b) (c := c) (Y := [])
  simp only [List.map_cons, List.map_nil, h.1, h.2.1, h.2.2]
theorem zl2 {α : Type} {A B : List α} {a b c a' b' c' : α} : (((A ++ ([a, b, c] ++ B)).set A.length a').set (A.length + 1) b').set (A.length + 2) c' = A ++ ([a', b', c'] ++ B) := by
  rw [List.set_append_right _ _ (Nat.le_refl _), Nat.sub_self, List.set_append_right _ _ (by omega), Nat.add_sub_cancel_left, List.set_append_right _ _ (by omega), Nat.add_sub_cancel_left]
  rfl
theorem pput_split {c : Nat → ClassId} {Ap : Nat → Prop} {X : va_W} {A B : PS} {q : Nat × Nat × Nat × Nat × SA} {a : Nat} {f : SA} (hD : va_D Ap (X ++ wP c (A ++ q :: B))) (hq : (q.1 == a) = true) (hA : ∀ z ∈ A, (z.1 == a) = false) : pput (A ++ q :: B) (some a) f = A ++ (q.1, q.2.1, q.2.2.1, q.2.2.2.1, f) :: B := by
  have hB : ∀ z ∈ B, (z.1 == a) = false := by
    intro z hz
    by_cases hza : (z.1 == a) = true
    · exfalso
      obtain ⟨e, he⟩ := wP_mem (c := c) hz
      obtain ⟨k, hk⟩ := List.getElem?_of_mem he
      rw [wP_app, wP_cons] at hD
      have h1 : (X ++ (wP c A ++ (wF c q.1 q.2.1 q.2.2.1 q.2.2.2.1 q.2.2.2.2 ++ wP c B)))[X.length + (wP c A).length]? = some (q.1, .inr (0, [.ref q.2.1, .ref q.2.2.1])) := by
        rw [List.getElem?_append_right (by omega), List.getElem?_append_right (by omega)]
        simp [wF]
      have h2 : (X ++ (wP c A ++ (wF c q.1 q.2.1 q.2.2.1 q.2.2.2.1 q.2.2.2.2 ++ wP c B)))[X.length + (wP c A).length + 3 + k]? = some (z.1, e) := by
        rw [List.getElem?_append_right (by omega), List.getElem?_append_right (by omega), List.getElem?_append_right (by simp [wF]; omega)]
        rw [show X.length + (wP c A).length + 3 + k - X.length - (wP c A).length - (wF c q.1 q.2.1 q.2.2.1 q.2.2.2.1 q.2.2.2.2).length = k by simp [wF]; omega]
        exact hk
      have h3 := hD.1 _ _ _ _ h1 h2 (by
        have e1 : q.1 = a := by simpa using hq
        have e2 : z.1 = a := by simpa using hza
        rw [e1, e2])
      omega
    · exact Bool.not_eq_true _ ▸ hza
  have mapA : ∀ l : PS, (∀ z ∈ l, (z.1 == a) = false) → l.map (fun q => if q.1 == a then (q.1, q.2.1, q.2.2.1, q.2.2.2.1, f) else q) = l := by
    intro l hl
    rw [List.map_congr_left (g := id) (fun z hz => by simp [hl z hz]), List.map_id]
  show (A ++ q :: B).map _ = _
  rw [List.map_append, List.map_cons, mapA A hA, mapA B hB, if_pos hq]
theorem zP_nd : ∀ (is : List Nat), va_nd is = true → ∀ N : Nat, (∀ i ∈ is, i < N) → va_nd (is ++ [N, N + 1, N + 2]) = true
  | [], _, N, _ => by simp [va_nd]
  | i :: is, h, N, hl => by
    simp only [va_nd, Bool.and_eq_true, decide_eq_true_eq] at h
    have h1 := hl i List.mem_cons_self
    show (decide (i ∉ is ++ [N, N + 1, N + 2]) && va_nd (is ++ [N, N + 1, N + 2])) = true
    rw [zP_nd is h.2 N (fun j hj => hl j (List.mem_cons_of_mem _ hj)), Bool.and_true, decide_eq_true_eq]
    intro hm
    rcases List.mem_append.mp hm with hm | hm
    · exact h.1 hm
    · simp at hm; omega
theorem hassoc_z {Z X : va_W} {c : Nat → ClassId} {A B : PS} {q0 p1 p2 fn : Nat} {f f2 : SA} (hz : Z.length = X.length) : zset (Z ++ (wP c A ++ (wF c q0 p1 p2 fn f ++ wP c B))) [(X ++ wP c A).length, (X ++ wP c A).length + 1, (X ++ wP c A).length + 2] (wFo c (some q0) p1 p2 fn f2) = Z ++ (wP c A ++ (wF c q0 p1 p2 fn f2 ++ wP c B)) := by
  rw [← List.append_assoc Z, show (X ++ wP c A).length = (Z ++ wP c A).length by rw [List.length_append, List.length_append, hz], ← List.append_assoc Z]
  exact zl2 (A := Z ++ wP c A) (B := wP c B)
section ZP
variable {p : Program} {l : Launch} {e : Env} {R : Room} {s : State} {m : MethodId} {args : Array Value} {below : List Frame} {meth : Method} {c1 : Code} {H : Heap} {locs : List Loc} {cells slots : Nat} {Q : State → Prop}
variable {cc : ByteArray} {pc : Nat} {ls : Array Slot} {Ap : Nat → Prop} {G : va_G} {K : (Nat → Nat) × (Nat → Nat)} {tys : List (ClassId × FieldType)} {X wg w1 : va_W} {wds : List Cond} {rm : Room} {As rest st : List Value} {b : Addr} {y : MethodName} {bytes : ByteArray} {nL maxL n index : Nat} {Ts : List Cond} {own C : String} {ret : Option FieldType}
/-- a call on a game with its formula: the game lies at the places of X, the formula in the pool -/
theorem zcPi {r : Int32} {c : Nat → ClassId} {ps : PS} {fo : Option Nat} {p1 p2 fn : Nat} {f f2 : SA} (hpg : pget ps fo = some (p1, p2, fn, f)) (S : CallFix p m c1 cc nL s args Ts own) (hM : zMi l y wds rm G K tys (.ref b :: As) (wg ++ wFo c fo p1 p2 fn f) (w1 ++ wFo c fo p1 p2 fn f2) r) (cw : CallW R s args own C index y bytes maxL ret wds rm 0 0 n) (hK : va_K G vwCl tys s) (hN : NW K s) (hZ : ZE K Ap s s.heap) (hP : va_P G vwCl (X ++ wP c ps) H) (hD : va_D Ap (X ++ wP c ps)) (hS : va_S Ap s.heap H locs) (hA : ∀ q : Nat, s.heap.size ≤ q → Ap q) (hrv : ∃ cell : Cell, H[b]? = some cell ∧ cell.vm.isStatics = false ∧ s.vm.findClass C = some cell.cls) (is : List Nat) (hC : is.map (fun i => X[i]?) = wg.map some) (hnd : va_nd is = true) (hf1 : w1.map Prod.fst = wg.map Prod.fst) (hn : As.length = n) (hsz : ls.size = nL) (hst : st = As.reverse ++ .ref b :: rest) (hrest : (rest.map fun v => v.category).sum ≤ 8) (hdg : decode cc pc = .ok (.invokevirtual index, 3)) (hf : cells ≤ R.cells ∧ slots ≤ R.slots)
    (kk : ∀ (H1 : Heap) (locs1 : List Loc), va_P G vwCl (zset X is w1 ++ wP c (pput ps fo f2)) H1 → va_D Ap (zset X is w1 ++ wP c (pput ps fo f2)) → va_S Ap s.heap H1 locs1 → W p l e R s m args below meth c1 H1 locs1 cells slots Q (F0 m (pc + 3) ls (.int r :: rest))) : W p l e R s m args below meth c1 H locs cells slots Q (F0 m pc ls st) := by
  have hlt : ∀ i ∈ is, i < X.length := fun i hi => by
    obtain ⟨j, hj⟩ := List.getElem?_of_mem hi
    obtain ⟨q, -, h2⟩ := z_map hC hj
    exact (List.getElem?_eq_some_iff.mp h2).1
  have hCa : ∀ Y : va_W, is.map (fun i => (X ++ Y)[i]?) = wg.map some := fun Y => by
    rw [← hC]
    exact List.map_congr_left fun i hi => List.getElem?_append_left (hlt i hi)
  cases fo with
  | none =>
    have hM2 : zMi l y wds rm G K tys (.ref b :: As) wg w1 r := by
      have h := hM
      rw [show wg ++ wFo c none p1 p2 fn f = wg from List.append_nil wg, show w1 ++ wFo c none p1 p2 fn f2 = w1 from List.append_nil w1] at h
      exact h
    refine zcVi S hM2 cw hK hN hZ hP hD hS hA hrv is (hCa _) hnd hf1 hn hsz hst hrest hdg hf (fun H1 locs1 h1 h2 h3 => ?_)
    rw [zset_app is w1 X _ hlt] at h1 h2
    exact kk H1 locs1 h1 h2 h3
  | some a =>
    have hpg2 : (ps.find? (fun q => q.1 == a)).map (fun q => q.2) = some (p1, p2, fn, f) := hpg
    rw [Option.map_eq_some_iff] at hpg2
    obtain ⟨q, hq, e1⟩ := hpg2
    obtain ⟨A, B, rfl, hqa, hA0⟩ := find_split _ _ _ hq
    have hq1 : q.1 = a := by simpa using hqa
    obtain ⟨q0, q1, q2, q3, q4⟩ := q
    cases e1
    have hq1 : q0 = a := hq1
    subst hq1
    have hput := pput_split (f := f2) hD hqa hA0
    rw [wP_app, wP_cons] at hP hD
    have hlen : wg.length = is.length := by
      have h := congrArg List.length hC
      simpa using h.symm
    have hl1 : w1.length = is.length := by
      have h := congrArg List.length hf1
      simp only [List.length_map] at h
      omega
    have hassoc : ∀ (Z : va_W), X ++ (wP c A ++ Z) = (X ++ wP c A) ++ Z := fun Z => (List.append_assoc _ _ _).symm
    refine zcVi S hM cw hK hN hZ hP hD hS hA hrv (is ++ [(X ++ wP c A).length, (X ++ wP c A).length + 1, (X ++ wP c A).length + 2]) ?_ ?_ ?_ hn hsz hst hrest hdg hf (fun H1 locs1 h1 h2 h3 => ?_)
    · rw [List.map_append, hCa, List.map_append]
      congr 1
      rw [hassoc]
      exact zl3 (A := X ++ wP c A) (B := wP c B) (a := (q0, .inr (0, [.ref p1, .ref p2]))) (b := (p1, .inl (c 0, fn, .inl (f.2 0)))) (c := (p2, .inl (c 0, 16, .inl (f.2 1))))
    · exact zP_nd is hnd (X ++ wP c A).length (fun i hi => by rw [List.length_append]; have := hlt i hi; omega)
    · rw [List.map_append, List.map_append, hf1]
      rfl
    · rw [zset_two is _ w1 _ _ hl1, zset_app is w1 X _ hlt, hassoc_z (zset_len is w1 X)] at h1 h2
      rw [hput, wP_app, wP_cons] at kk
      exact kk H1 locs1 h1 h2 h3
/-- a call on a game with its formula: the game lies at the places of X, the formula in the pool -/
theorem zcPv  {c : Nat → ClassId} {ps : PS} {fo : Option Nat} {p1 p2 fn : Nat} {f f2 : SA} (hpg : pget ps fo = some (p1, p2, fn, f)) (S : CallFix p m c1 cc nL s args Ts own) (hM : zMv l y wds rm G K tys (.ref b :: As) (wg ++ wFo c fo p1 p2 fn f) (w1 ++ wFo c fo p1 p2 fn f2) ) (cw : CallW R s args own C index y bytes maxL ret wds rm 0 0 n) (hK : va_K G vwCl tys s) (hN : NW K s) (hZ : ZE K Ap s s.heap) (hP : va_P G vwCl (X ++ wP c ps) H) (hD : va_D Ap (X ++ wP c ps)) (hS : va_S Ap s.heap H locs) (hA : ∀ q : Nat, s.heap.size ≤ q → Ap q) (hrv : ∃ cell : Cell, H[b]? = some cell ∧ cell.vm.isStatics = false ∧ s.vm.findClass C = some cell.cls) (is : List Nat) (hC : is.map (fun i => X[i]?) = wg.map some) (hnd : va_nd is = true) (hf1 : w1.map Prod.fst = wg.map Prod.fst) (hn : As.length = n) (hsz : ls.size = nL) (hst : st = As.reverse ++ .ref b :: rest) (hrest : (rest.map fun v => v.category).sum ≤ 8) (hdg : decode cc pc = .ok (.invokevirtual index, 3)) (hf : cells ≤ R.cells ∧ slots ≤ R.slots)
    (kk : ∀ (H1 : Heap) (locs1 : List Loc), va_P G vwCl (zset X is w1 ++ wP c (pput ps fo f2)) H1 → va_D Ap (zset X is w1 ++ wP c (pput ps fo f2)) → va_S Ap s.heap H1 locs1 → W p l e R s m args below meth c1 H1 locs1 cells slots Q (F0 m (pc + 3) ls (rest))) : W p l e R s m args below meth c1 H locs cells slots Q (F0 m pc ls st) := by
  have hlt : ∀ i ∈ is, i < X.length := fun i hi => by
    obtain ⟨j, hj⟩ := List.getElem?_of_mem hi
    obtain ⟨q, -, h2⟩ := z_map hC hj
    exact (List.getElem?_eq_some_iff.mp h2).1
  have hCa : ∀ Y : va_W, is.map (fun i => (X ++ Y)[i]?) = wg.map some := fun Y => by
    rw [← hC]
    exact List.map_congr_left fun i hi => List.getElem?_append_left (hlt i hi)
  cases fo with
  | none =>
    have hM2 : zMv l y wds rm G K tys (.ref b :: As) wg w1  := by
      have h := hM
      rw [show wg ++ wFo c none p1 p2 fn f = wg from List.append_nil wg, show w1 ++ wFo c none p1 p2 fn f2 = w1 from List.append_nil w1] at h
      exact h
    refine zcVv S hM2 cw hK hN hZ hP hD hS hA hrv is (hCa _) hnd hf1 hn hsz hst hrest hdg hf (fun H1 locs1 h1 h2 h3 => ?_)
    rw [zset_app is w1 X _ hlt] at h1 h2
    exact kk H1 locs1 h1 h2 h3
  | some a =>
    have hpg2 : (ps.find? (fun q => q.1 == a)).map (fun q => q.2) = some (p1, p2, fn, f) := hpg
    rw [Option.map_eq_some_iff] at hpg2
    obtain ⟨q, hq, e1⟩ := hpg2
    obtain ⟨A, B, rfl, hqa, hA0⟩ := find_split _ _ _ hq
    have hq1 : q.1 = a := by simpa using hqa
    obtain ⟨q0, q1, q2, q3, q4⟩ := q
    cases e1
    have hq1 : q0 = a := hq1
    subst hq1
    have hput := pput_split (f := f2) hD hqa hA0
    rw [wP_app, wP_cons] at hP hD
    have hlen : wg.length = is.length := by
      have h := congrArg List.length hC
      simpa using h.symm
    have hl1 : w1.length = is.length := by
      have h := congrArg List.length hf1
      simp only [List.length_map] at h
      omega
    have hassoc : ∀ (Z : va_W), X ++ (wP c A ++ Z) = (X ++ wP c A) ++ Z := fun Z => (List.append_assoc _ _ _).symm
    refine zcVv S hM cw hK hN hZ hP hD hS hA hrv (is ++ [(X ++ wP c A).length, (X ++ wP c A).length + 1, (X ++ wP c A).length + 2]) ?_ ?_ ?_ hn hsz hst hrest hdg hf (fun H1 locs1 h1 h2 h3 => ?_)
    · rw [List.map_append, hCa, List.map_append]
      congr 1
      rw [hassoc]
      exact zl3 (A := X ++ wP c A) (B := wP c B) (a := (q0, .inr (0, [.ref p1, .ref p2]))) (b := (p1, .inl (c 0, fn, .inl (f.2 0)))) (c := (p2, .inl (c 0, 16, .inl (f.2 1))))
    · exact zP_nd is hnd (X ++ wP c A).length (fun i hi => by rw [List.length_append]; have := hlt i hi; omega)
    · rw [List.map_append, List.map_append, hf1]
      rfl
    · rw [zset_two is _ w1 _ _ hl1, zset_app is w1 X _ hlt, hassoc_z (zset_len is w1 X)] at h1 h2
      rw [hput, wP_app, wP_cons] at kk
      exact kk H1 locs1 h1 h2 h3
end ZP
