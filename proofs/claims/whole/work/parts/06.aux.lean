/-! more rows of mine: rows of an array of arrays -/
theorem inb_lt {i : Int32} {n : Nat} (h : inb i n = true) : i.toNatClampNeg < n := Nat.not_le.mp fun q => (of_decide_eq_true h : ¬ (i < 0 ∨ n ≤ i.toNatClampNeg)) (Or.inr q)
theorem znd2 {i j : Nat} (h : ¬ i = j) : va_nd [i, j] = true := by simp [va_nd, h]
theorem zmap2 {ws : va_W} {i j : Nat} {q r : Nat × va_E} (h1 : ws[i]? = some q) (h2 : ws[j]? = some r) : [i, j].map (fun i => ws[i]?) = [q, r].map some := by simp [h1, h2]
theorem zset_same {ws : va_W} {i : Nat} {q : Nat × va_E} (h : ws[i]? = some q) : ws.set i q = ws := by
  apply List.ext_getElem?
  intro k
  by_cases hk : k = i
  · subst hk
    rw [List.getElem?_set_self (List.getElem?_eq_some_iff.mp h).1, h]
  · rw [List.getElem?_set_ne (Ne.symm hk)]
theorem lt8 {P : Nat → Prop} (h0 : P 0) (h1 : P 1) (h2 : P 2) (h3 : P 3) (h4 : P 4) (h5 : P 5) (h6 : P 6) (h7 : P 7) {j : Nat} (h : j < 8) : P j := by
  rcases (show j = 0 ∨ j = 1 ∨ j = 2 ∨ j = 3 ∨ j = 4 ∨ j = 5 ∨ j = 6 ∨ j = 7 by omega) with rfl | rfl | rfl | rfl | rfl | rfl | rfl | rfl <;> assumption
theorem wM_get {c : Nat → ClassId} {a : Nat → Nat} {x : MS} {j : Nat} (h : j < 8) : (wM c a x)[10 + j]? = some (a (10 + j), .inl (c 0, 1464, .inl (x.1.2 (10 + j)))) := lt8 (P := fun j => (wM c a x)[10 + j]? = some (a (10 + j), .inl (c 0, 1464, .inl (x.1.2 (10 + j))))) rfl rfl rfl rfl rfl rfl rfl rfl h
theorem wM_set {c : Nat → ClassId} {a : Nat → Nat} {x : MS} {j : Nat} {f : Nat → Int32} (h : j < 8) : (wM c a x).set (10 + j) (a (10 + j), .inl (c 0, 1464, .inl f)) = wM c a (sa x.1 (10 + j) f, x.2) := lt8 (P := fun j => (wM c a x).set (10 + j) (a (10 + j), .inl (c 0, 1464, .inl f)) = wM c a (sa x.1 (10 + j) f, x.2)) rfl rfl rfl rfl rfl rfl rfl rfl h
theorem zset_dd {c : Nat → ClassId} {a : Nat → Nat} {x : MS} {i j : Nat} {f : Nat → Int32} (hi : i < 8) (hj : j < 8) : zset (wM c a x) [10 + i, 10 + j] ([(a (10 + i), .inl (c 0, 1464, .inl (x.1.2 (10 + i))))] ++ [(a (10 + j), .inl (c 0, 1464, .inl f))]) = wM c a (sa x.1 (10 + j) f, x.2) := by
  show ((wM c a x).set (10 + i) _).set (10 + j) _ = _
  rw [zset_same (wM_get hi), wM_set hj]
theorem zset_sd {c : Nat → ClassId} {a : Nat → Nat} {x : MS} {j : Nat} {f : Nat → Int32} (hj : j < 8) : zset (wM c a x) [2, 10 + j] ([(a 2, .inl (c 0, 1464, .inl (x.1.2 1)))] ++ [(a (10 + j), .inl (c 0, 1464, .inl f))]) = wM c a (sa x.1 (10 + j) f, x.2) := by
  show ((wM c a x).set 2 _).set (10 + j) _ = _
  rw [zset_same (ws := wM c a x) (i := 2) rfl, wM_set hj]
theorem zset_ds {c : Nat → ClassId} {a : Nat → Nat} {x : MS} {j : Nat} {f : Nat → Int32} (hj : j < 8) : zset (wM c a x) [10 + j, 2] ([(a (10 + j), .inl (c 0, 1464, .inl (x.1.2 (10 + j))))] ++ [(a 2, .inl (c 0, 1464, .inl f))]) = wM c a (sa x.1 1 f, x.2) := by
  show ((wM c a x).set (10 + j) _).set 2 _ = _
  rw [zset_same (wM_get hj)]
  rfl
theorem za_hist {p : Program} {l : Launch} {e : Env} {R : Room} {s : State} {m : MethodId} {args : Array Value} {below : List Frame} {meth : Method} {c1 : Code} {H : Heap} {locs : List Loc} {cells slots : Nat} {Q : State → Prop} {cc : ByteArray} {pc : Nat} {ls : Array Slot} {rest : List Value} {G : va_G} {c : Nat → ClassId} {a : Nat → Nat} {x : MS} (hexec : p.tables.exec = Jvm.exec) (hb : c1.code = cc) (hK : va_K G vwCl (TY c) s) (hP : va_P G vwCl (wM c a x) H) {i : Int32} (hin : vp_in i 8) (hdg : decode cc pc = .ok (.aaload, 1))
    (kk : W p l e R s m args below meth c1 H locs cells slots Q (F0 m (pc + 1) ls (.ref (a (10 + i.toNatClampNeg)) :: rest))) : W p l e R s m args below meth c1 H locs cells slots Q (F0 m pc ls (.int i :: .ref (a 5) :: rest)) := by
  have hlt : i.toNatClampNeg < 8 := Nat.not_le.mp fun q => hin (Or.inr q)
  have hrf : (fun i => if i < 8 then some (a (10 + i)) else none) i.toNatClampNeg = some (a (10 + i.toNatClampNeg)) := if_pos hlt
  exact W.aald (v := .ref (a (10 + i.toNatClampNeg))) (ty := .array .int) hexec hb (hP 5 _ rfl) ((hK.2 2 _ rfl).1 8 (fun j => va_rf (if j < 8 then some (a (10 + j)) else none))) rfl (fun q => by cases q) (by show ¬ (i < 0 ∨ (arrV _ _ _).slots.size ≤ _); rw [arrV_size]; exact hin) (by show (arrV _ _ _).slots[_]? = _; rw [arrV_read _ _ hlt, hrf]; rfl) rfl rfl hdg kk
