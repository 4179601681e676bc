/-! past games, by a place that is a variable -/
def isg (j : Nat) : List Nat := [22 + 10 * j, 22 + 10 * j + 1, 22 + 10 * j + 2, 22 + 10 * j + 3, 22 + 10 * j + 4, 22 + 10 * j + 5, 22 + 10 * j + 6, 22 + 10 * j + 7, 22 + 10 * j + 8, 22 + 10 * j + 9]
section PG
variable {c : Nat → ClassId} {ah : Nat → Nat} {ag : Nat → Nat → Nat} {ar : Nat → Nat} {ps : PS} {s : HS} {g : GS}
set_option maxRecDepth 100000 in
theorem hC_pg {j : Nat} (h : j < 8) : (isg j ++ [2, 3, 4, 5, 6, 7, 8, 9, 10, 11]).map (fun i => (wH c ah ag ar ps s)[i]?) = ((wG c (ag (2 + j)) (s.2.2.2.1 j)) ++ (wG c (ag 0) s.2.1)).map some := lt8 (P := fun j => (isg j ++ [2, 3, 4, 5, 6, 7, 8, 9, 10, 11]).map (fun i => (wH c ah ag ar ps s)[i]?) = ((wG c (ag (2 + j)) (s.2.2.2.1 j)) ++ (wG c (ag 0) s.2.1)).map some) rfl rfl rfl rfl rfl rfl rfl rfl h
set_option maxRecDepth 100000 in
theorem hC_gp {j : Nat} (h : j < 8) : ([2, 3, 4, 5, 6, 7, 8, 9, 10, 11] ++ isg j).map (fun i => (wH c ah ag ar ps s)[i]?) = ((wG c (ag 0) s.2.1) ++ (wG c (ag (2 + j)) (s.2.2.2.1 j))).map some := lt8 (P := fun j => ([2, 3, 4, 5, 6, 7, 8, 9, 10, 11] ++ isg j).map (fun i => (wH c ah ag ar ps s)[i]?) = ((wG c (ag 0) s.2.1) ++ (wG c (ag (2 + j)) (s.2.2.2.1 j))).map some) rfl rfl rfl rfl rfl rfl rfl rfl h
theorem nd_pg {j : Nat} (h : j < 8) : va_nd (isg j ++ [2, 3, 4, 5, 6, 7, 8, 9, 10, 11]) = true := lt8 (P := fun j => va_nd (isg j ++ [2, 3, 4, 5, 6, 7, 8, 9, 10, 11]) = true) (by decide) (by decide) (by decide) (by decide) (by decide) (by decide) (by decide) (by decide) h
theorem nd_gp {j : Nat} (h : j < 8) : va_nd ([2, 3, 4, 5, 6, 7, 8, 9, 10, 11] ++ isg j) = true := lt8 (P := fun j => va_nd ([2, 3, 4, 5, 6, 7, 8, 9, 10, 11] ++ isg j) = true) (by decide) (by decide) (by decide) (by decide) (by decide) (by decide) (by decide) (by decide) h
theorem zset_id : ∀ (is : List Nat) (w ws : va_W), is.map (fun i => ws[i]?) = w.map some → zset ws is w = ws
  | [], w, ws, _ => by cases w <;> rfl
  | i :: is, [], ws, h => by cases h
  | i :: is, x :: xs, ws, h => by
    simp only [List.map_cons, List.cons.injEq] at h
    show zset (ws.set i x) is xs = ws
    rw [zset_same h.1]
    exact zset_id is xs ws h.2
theorem zset_seg : ∀ (W W' X Y : va_W), W.length = W'.length → zset (X ++ (W ++ Y)) ((List.range W.length).map (fun i => X.length + i)) W' = X ++ (W' ++ Y)
  | [], W', X, Y, h => by
    have : W' = [] := by cases W' with | nil => rfl | cons a b => cases h
    subst this
    rfl
  | w :: W, [], X, Y, h => by cases h
  | w :: W, v :: W', X, Y, h => by
    have h2 : W.length = W'.length := by simpa using h
    rw [List.length_cons, List.range_succ_eq_map, List.map_cons, List.map_map]
    show zset ((X ++ (w :: (W ++ Y))).set (X.length + 0) v) _ W' = _
    rw [Nat.add_zero, List.set_append_right _ _ (Nat.le_refl _), Nat.sub_self, List.set_cons_zero]
    have h3 := zset_seg W W' (X ++ [v]) Y h2
    rw [show (X ++ [v]) ++ (W ++ Y) = X ++ v :: (W ++ Y) by simp, show (X ++ [v]) ++ (W' ++ Y) = X ++ v :: (W' ++ Y) by simp] at h3
    rw [List.cons_append, ← h3]
    · congr 1
      apply List.map_congr_left
      intro i _
      simp only [Function.comp, List.length_append, List.length_cons, List.length_nil]
      omega
theorem zsp_0 : zset (wH c ah ag ar ps s) (isg 0) (wG c (ag 2) g) = wH c ah ag ar ps (s.1, s.2.1, s.2.2.1, upG s.2.2.2.1 0 g, s.2.2.2.2) := by
  have e : wH c ah ag ar ps s = (([(ah 0, .inr (7, [.ref (ag 0 0), .ref (ag 1 0), .ref (ah 1), .int (s.1.1 0), .int (s.1.1 1), .ref (ar 0), .ref (ah 2)])), (ah 1, .inl (c 3, 8, .inr (.inr (.inr (.inr (fun i => if i < 8 then some (ag (2 + i) 0) else none))))))] ++ (wG c (ag 0) s.2.1 ++ wG c (ag 1) s.2.2.1)) : va_W) ++ (wG c (ag 2) (s.2.2.2.1 0) ++ ((wG c (ag 3) (s.2.2.2.1 1) ++ (wG c (ag 4) (s.2.2.2.1 2) ++ (wG c (ag 5) (s.2.2.2.1 3) ++ (wG c (ag 6) (s.2.2.2.1 4) ++ (wG c (ag 7) (s.2.2.2.1 5) ++ (wG c (ag 8) (s.2.2.2.1 6) ++ (wG c (ag 9) (s.2.2.2.1 7) ++ (wR c ar s.2.2.2.2.1 ++ (wS c (ah 2) (ah 3) (ah 4) (ah 5) (ah 6) s.2.2.2.2.2 ++ wP c ps))))))))) : va_W)) := by simp only [wH, wH0, List.append_assoc]
  rw [e]
  refine Eq.trans ?_ ((zset_seg (wG c (ag 2) (s.2.2.2.1 0)) (wG c (ag 2) g) (([(ah 0, .inr (7, [.ref (ag 0 0), .ref (ag 1 0), .ref (ah 1), .int (s.1.1 0), .int (s.1.1 1), .ref (ar 0), .ref (ah 2)])), (ah 1, .inl (c 3, 8, .inr (.inr (.inr (.inr (fun i => if i < 8 then some (ag (2 + i) 0) else none))))))] ++ (wG c (ag 0) s.2.1 ++ wG c (ag 1) s.2.2.1)) : va_W) ((wG c (ag 3) (s.2.2.2.1 1) ++ (wG c (ag 4) (s.2.2.2.1 2) ++ (wG c (ag 5) (s.2.2.2.1 3) ++ (wG c (ag 6) (s.2.2.2.1 4) ++ (wG c (ag 7) (s.2.2.2.1 5) ++ (wG c (ag 8) (s.2.2.2.1 6) ++ (wG c (ag 9) (s.2.2.2.1 7) ++ (wR c ar s.2.2.2.2.1 ++ (wS c (ah 2) (ah 3) (ah 4) (ah 5) (ah 6) s.2.2.2.2.2 ++ wP c ps))))))))) : va_W) rfl).trans ?_)
  · rfl
  · simp only [wH, wH0, List.append_assoc]
    rfl
theorem zsp_1 : zset (wH c ah ag ar ps s) (isg 1) (wG c (ag 3) g) = wH c ah ag ar ps (s.1, s.2.1, s.2.2.1, upG s.2.2.2.1 1 g, s.2.2.2.2) := by
  have e : wH c ah ag ar ps s = (([(ah 0, .inr (7, [.ref (ag 0 0), .ref (ag 1 0), .ref (ah 1), .int (s.1.1 0), .int (s.1.1 1), .ref (ar 0), .ref (ah 2)])), (ah 1, .inl (c 3, 8, .inr (.inr (.inr (.inr (fun i => if i < 8 then some (ag (2 + i) 0) else none))))))] ++ (wG c (ag 0) s.2.1 ++ (wG c (ag 1) s.2.2.1 ++ wG c (ag 2) (s.2.2.2.1 0)))) : va_W) ++ (wG c (ag 3) (s.2.2.2.1 1) ++ ((wG c (ag 4) (s.2.2.2.1 2) ++ (wG c (ag 5) (s.2.2.2.1 3) ++ (wG c (ag 6) (s.2.2.2.1 4) ++ (wG c (ag 7) (s.2.2.2.1 5) ++ (wG c (ag 8) (s.2.2.2.1 6) ++ (wG c (ag 9) (s.2.2.2.1 7) ++ (wR c ar s.2.2.2.2.1 ++ (wS c (ah 2) (ah 3) (ah 4) (ah 5) (ah 6) s.2.2.2.2.2 ++ wP c ps)))))))) : va_W)) := by simp only [wH, wH0, List.append_assoc]
  rw [e]
  refine Eq.trans ?_ ((zset_seg (wG c (ag 3) (s.2.2.2.1 1)) (wG c (ag 3) g) (([(ah 0, .inr (7, [.ref (ag 0 0), .ref (ag 1 0), .ref (ah 1), .int (s.1.1 0), .int (s.1.1 1), .ref (ar 0), .ref (ah 2)])), (ah 1, .inl (c 3, 8, .inr (.inr (.inr (.inr (fun i => if i < 8 then some (ag (2 + i) 0) else none))))))] ++ (wG c (ag 0) s.2.1 ++ (wG c (ag 1) s.2.2.1 ++ wG c (ag 2) (s.2.2.2.1 0)))) : va_W) ((wG c (ag 4) (s.2.2.2.1 2) ++ (wG c (ag 5) (s.2.2.2.1 3) ++ (wG c (ag 6) (s.2.2.2.1 4) ++ (wG c (ag 7) (s.2.2.2.1 5) ++ (wG c (ag 8) (s.2.2.2.1 6) ++ (wG c (ag 9) (s.2.2.2.1 7) ++ (wR c ar s.2.2.2.2.1 ++ (wS c (ah 2) (ah 3) (ah 4) (ah 5) (ah 6) s.2.2.2.2.2 ++ wP c ps)))))))) : va_W) rfl).trans ?_)
  · rfl
  · simp only [wH, wH0, List.append_assoc]
    rfl
theorem zsp_2 : zset (wH c ah ag ar ps s) (isg 2) (wG c (ag 4) g) = wH c ah ag ar ps (s.1, s.2.1, s.2.2.1, upG s.2.2.2.1 2 g, s.2.2.2.2) := by
  have e : wH c ah ag ar ps s = (([(ah 0, .inr (7, [.ref (ag 0 0), .ref (ag 1 0), .ref (ah 1), .int (s.1.1 0), .int (s.1.1 1), .ref (ar 0), .ref (ah 2)])), (ah 1, .inl (c 3, 8, .inr (.inr (.inr (.inr (fun i => if i < 8 then some (ag (2 + i) 0) else none))))))] ++ (wG c (ag 0) s.2.1 ++ (wG c (ag 1) s.2.2.1 ++ (wG c (ag 2) (s.2.2.2.1 0) ++ wG c (ag 3) (s.2.2.2.1 1))))) : va_W) ++ (wG c (ag 4) (s.2.2.2.1 2) ++ ((wG c (ag 5) (s.2.2.2.1 3) ++ (wG c (ag 6) (s.2.2.2.1 4) ++ (wG c (ag 7) (s.2.2.2.1 5) ++ (wG c (ag 8) (s.2.2.2.1 6) ++ (wG c (ag 9) (s.2.2.2.1 7) ++ (wR c ar s.2.2.2.2.1 ++ (wS c (ah 2) (ah 3) (ah 4) (ah 5) (ah 6) s.2.2.2.2.2 ++ wP c ps))))))) : va_W)) := by simp only [wH, wH0, List.append_assoc]
  rw [e]
  refine Eq.trans ?_ ((zset_seg (wG c (ag 4) (s.2.2.2.1 2)) (wG c (ag 4) g) (([(ah 0, .inr (7, [.ref (ag 0 0), .ref (ag 1 0), .ref (ah 1), .int (s.1.1 0), .int (s.1.1 1), .ref (ar 0), .ref (ah 2)])), (ah 1, .inl (c 3, 8, .inr (.inr (.inr (.inr (fun i => if i < 8 then some (ag (2 + i) 0) else none))))))] ++ (wG c (ag 0) s.2.1 ++ (wG c (ag 1) s.2.2.1 ++ (wG c (ag 2) (s.2.2.2.1 0) ++ wG c (ag 3) (s.2.2.2.1 1))))) : va_W) ((wG c (ag 5) (s.2.2.2.1 3) ++ (wG c (ag 6) (s.2.2.2.1 4) ++ (wG c (ag 7) (s.2.2.2.1 5) ++ (wG c (ag 8) (s.2.2.2.1 6) ++ (wG c (ag 9) (s.2.2.2.1 7) ++ (wR c ar s.2.2.2.2.1 ++ (wS c (ah 2) (ah 3) (ah 4) (ah 5) (ah 6) s.2.2.2.2.2 ++ wP c ps))))))) : va_W) rfl).trans ?_)
  · rfl
  · simp only [wH, wH0, List.append_assoc]
    rfl
theorem zsp_3 : zset (wH c ah ag ar ps s) (isg 3) (wG c (ag 5) g) = wH c ah ag ar ps (s.1, s.2.1, s.2.2.1, upG s.2.2.2.1 3 g, s.2.2.2.2) := by
  have e : wH c ah ag ar ps s = (([(ah 0, .inr (7, [.ref (ag 0 0), .ref (ag 1 0), .ref (ah 1), .int (s.1.1 0), .int (s.1.1 1), .ref (ar 0), .ref (ah 2)])), (ah 1, .inl (c 3, 8, .inr (.inr (.inr (.inr (fun i => if i < 8 then some (ag (2 + i) 0) else none))))))] ++ (wG c (ag 0) s.2.1 ++ (wG c (ag 1) s.2.2.1 ++ (wG c (ag 2) (s.2.2.2.1 0) ++ (wG c (ag 3) (s.2.2.2.1 1) ++ wG c (ag 4) (s.2.2.2.1 2)))))) : va_W) ++ (wG c (ag 5) (s.2.2.2.1 3) ++ ((wG c (ag 6) (s.2.2.2.1 4) ++ (wG c (ag 7) (s.2.2.2.1 5) ++ (wG c (ag 8) (s.2.2.2.1 6) ++ (wG c (ag 9) (s.2.2.2.1 7) ++ (wR c ar s.2.2.2.2.1 ++ (wS c (ah 2) (ah 3) (ah 4) (ah 5) (ah 6) s.2.2.2.2.2 ++ wP c ps)))))) : va_W)) := by simp only [wH, wH0, List.append_assoc]
  rw [e]
  refine Eq.trans ?_ ((zset_seg (wG c (ag 5) (s.2.2.2.1 3)) (wG c (ag 5) g) (([(ah 0, .inr (7, [.ref (ag 0 0), .ref (ag 1 0), .ref (ah 1), .int (s.1.1 0), .int (s.1.1 1), .ref (ar 0), .ref (ah 2)])), (ah 1, .inl (c 3, 8, .inr (.inr (.inr (.inr (fun i => if i < 8 then some (ag (2 + i) 0) else none))))))] ++ (wG c (ag 0) s.2.1 ++ (wG c (ag 1) s.2.2.1 ++ (wG c (ag 2) (s.2.2.2.1 0) ++ (wG c (ag 3) (s.2.2.2.1 1) ++ wG c (ag 4) (s.2.2.2.1 2)))))) : va_W) ((wG c (ag 6) (s.2.2.2.1 4) ++ (wG c (ag 7) (s.2.2.2.1 5) ++ (wG c (ag 8) (s.2.2.2.1 6) ++ (wG c (ag 9) (s.2.2.2.1 7) ++ (wR c ar s.2.2.2.2.1 ++ (wS c (ah 2) (ah 3) (ah 4) (ah 5) (ah 6) s.2.2.2.2.2 ++ wP c ps)))))) : va_W) rfl).trans ?_)
  · rfl
  · simp only [wH, wH0, List.append_assoc]
    rfl
theorem zsp_4 : zset (wH c ah ag ar ps s) (isg 4) (wG c (ag 6) g) = wH c ah ag ar ps (s.1, s.2.1, s.2.2.1, upG s.2.2.2.1 4 g, s.2.2.2.2) := by
  have e : wH c ah ag ar ps s = (([(ah 0, .inr (7, [.ref (ag 0 0), .ref (ag 1 0), .ref (ah 1), .int (s.1.1 0), .int (s.1.1 1), .ref (ar 0), .ref (ah 2)])), (ah 1, .inl (c 3, 8, .inr (.inr (.inr (.inr (fun i => if i < 8 then some (ag (2 + i) 0) else none))))))] ++ (wG c (ag 0) s.2.1 ++ (wG c (ag 1) s.2.2.1 ++ (wG c (ag 2) (s.2.2.2.1 0) ++ (wG c (ag 3) (s.2.2.2.1 1) ++ (wG c (ag 4) (s.2.2.2.1 2) ++ wG c (ag 5) (s.2.2.2.1 3))))))) : va_W) ++ (wG c (ag 6) (s.2.2.2.1 4) ++ ((wG c (ag 7) (s.2.2.2.1 5) ++ (wG c (ag 8) (s.2.2.2.1 6) ++ (wG c (ag 9) (s.2.2.2.1 7) ++ (wR c ar s.2.2.2.2.1 ++ (wS c (ah 2) (ah 3) (ah 4) (ah 5) (ah 6) s.2.2.2.2.2 ++ wP c ps))))) : va_W)) := by simp only [wH, wH0, List.append_assoc]
  rw [e]
  refine Eq.trans ?_ ((zset_seg (wG c (ag 6) (s.2.2.2.1 4)) (wG c (ag 6) g) (([(ah 0, .inr (7, [.ref (ag 0 0), .ref (ag 1 0), .ref (ah 1), .int (s.1.1 0), .int (s.1.1 1), .ref (ar 0), .ref (ah 2)])), (ah 1, .inl (c 3, 8, .inr (.inr (.inr (.inr (fun i => if i < 8 then some (ag (2 + i) 0) else none))))))] ++ (wG c (ag 0) s.2.1 ++ (wG c (ag 1) s.2.2.1 ++ (wG c (ag 2) (s.2.2.2.1 0) ++ (wG c (ag 3) (s.2.2.2.1 1) ++ (wG c (ag 4) (s.2.2.2.1 2) ++ wG c (ag 5) (s.2.2.2.1 3))))))) : va_W) ((wG c (ag 7) (s.2.2.2.1 5) ++ (wG c (ag 8) (s.2.2.2.1 6) ++ (wG c (ag 9) (s.2.2.2.1 7) ++ (wR c ar s.2.2.2.2.1 ++ (wS c (ah 2) (ah 3) (ah 4) (ah 5) (ah 6) s.2.2.2.2.2 ++ wP c ps))))) : va_W) rfl).trans ?_)
  · rfl
  · simp only [wH, wH0, List.append_assoc]
    rfl
theorem zsp_5 : zset (wH c ah ag ar ps s) (isg 5) (wG c (ag 7) g) = wH c ah ag ar ps (s.1, s.2.1, s.2.2.1, upG s.2.2.2.1 5 g, s.2.2.2.2) := by
  have e : wH c ah ag ar ps s = (([(ah 0, .inr (7, [.ref (ag 0 0), .ref (ag 1 0), .ref (ah 1), .int (s.1.1 0), .int (s.1.1 1), .ref (ar 0), .ref (ah 2)])), (ah 1, .inl (c 3, 8, .inr (.inr (.inr (.inr (fun i => if i < 8 then some (ag (2 + i) 0) else none))))))] ++ (wG c (ag 0) s.2.1 ++ (wG c (ag 1) s.2.2.1 ++ (wG c (ag 2) (s.2.2.2.1 0) ++ (wG c (ag 3) (s.2.2.2.1 1) ++ (wG c (ag 4) (s.2.2.2.1 2) ++ (wG c (ag 5) (s.2.2.2.1 3) ++ wG c (ag 6) (s.2.2.2.1 4)))))))) : va_W) ++ (wG c (ag 7) (s.2.2.2.1 5) ++ ((wG c (ag 8) (s.2.2.2.1 6) ++ (wG c (ag 9) (s.2.2.2.1 7) ++ (wR c ar s.2.2.2.2.1 ++ (wS c (ah 2) (ah 3) (ah 4) (ah 5) (ah 6) s.2.2.2.2.2 ++ wP c ps)))) : va_W)) := by simp only [wH, wH0, List.append_assoc]
  rw [e]
  refine Eq.trans ?_ ((zset_seg (wG c (ag 7) (s.2.2.2.1 5)) (wG c (ag 7) g) (([(ah 0, .inr (7, [.ref (ag 0 0), .ref (ag 1 0), .ref (ah 1), .int (s.1.1 0), .int (s.1.1 1), .ref (ar 0), .ref (ah 2)])), (ah 1, .inl (c 3, 8, .inr (.inr (.inr (.inr (fun i => if i < 8 then some (ag (2 + i) 0) else none))))))] ++ (wG c (ag 0) s.2.1 ++ (wG c (ag 1) s.2.2.1 ++ (wG c (ag 2) (s.2.2.2.1 0) ++ (wG c (ag 3) (s.2.2.2.1 1) ++ (wG c (ag 4) (s.2.2.2.1 2) ++ (wG c (ag 5) (s.2.2.2.1 3) ++ wG c (ag 6) (s.2.2.2.1 4)))))))) : va_W) ((wG c (ag 8) (s.2.2.2.1 6) ++ (wG c (ag 9) (s.2.2.2.1 7) ++ (wR c ar s.2.2.2.2.1 ++ (wS c (ah 2) (ah 3) (ah 4) (ah 5) (ah 6) s.2.2.2.2.2 ++ wP c ps)))) : va_W) rfl).trans ?_)
  · rfl
  · simp only [wH, wH0, List.append_assoc]
    rfl
theorem zsp_6 : zset (wH c ah ag ar ps s) (isg 6) (wG c (ag 8) g) = wH c ah ag ar ps (s.1, s.2.1, s.2.2.1, upG s.2.2.2.1 6 g, s.2.2.2.2) := by
  have e : wH c ah ag ar ps s = (([(ah 0, .inr (7, [.ref (ag 0 0), .ref (ag 1 0), .ref (ah 1), .int (s.1.1 0), .int (s.1.1 1), .ref (ar 0), .ref (ah 2)])), (ah 1, .inl (c 3, 8, .inr (.inr (.inr (.inr (fun i => if i < 8 then some (ag (2 + i) 0) else none))))))] ++ (wG c (ag 0) s.2.1 ++ (wG c (ag 1) s.2.2.1 ++ (wG c (ag 2) (s.2.2.2.1 0) ++ (wG c (ag 3) (s.2.2.2.1 1) ++ (wG c (ag 4) (s.2.2.2.1 2) ++ (wG c (ag 5) (s.2.2.2.1 3) ++ (wG c (ag 6) (s.2.2.2.1 4) ++ wG c (ag 7) (s.2.2.2.1 5))))))))) : va_W) ++ (wG c (ag 8) (s.2.2.2.1 6) ++ ((wG c (ag 9) (s.2.2.2.1 7) ++ (wR c ar s.2.2.2.2.1 ++ (wS c (ah 2) (ah 3) (ah 4) (ah 5) (ah 6) s.2.2.2.2.2 ++ wP c ps))) : va_W)) := by simp only [wH, wH0, List.append_assoc]
  rw [e]
  refine Eq.trans ?_ ((zset_seg (wG c (ag 8) (s.2.2.2.1 6)) (wG c (ag 8) g) (([(ah 0, .inr (7, [.ref (ag 0 0), .ref (ag 1 0), .ref (ah 1), .int (s.1.1 0), .int (s.1.1 1), .ref (ar 0), .ref (ah 2)])), (ah 1, .inl (c 3, 8, .inr (.inr (.inr (.inr (fun i => if i < 8 then some (ag (2 + i) 0) else none))))))] ++ (wG c (ag 0) s.2.1 ++ (wG c (ag 1) s.2.2.1 ++ (wG c (ag 2) (s.2.2.2.1 0) ++ (wG c (ag 3) (s.2.2.2.1 1) ++ (wG c (ag 4) (s.2.2.2.1 2) ++ (wG c (ag 5) (s.2.2.2.1 3) ++ (wG c (ag 6) (s.2.2.2.1 4) ++ wG c (ag 7) (s.2.2.2.1 5))))))))) : va_W) ((wG c (ag 9) (s.2.2.2.1 7) ++ (wR c ar s.2.2.2.2.1 ++ (wS c (ah 2) (ah 3) (ah 4) (ah 5) (ah 6) s.2.2.2.2.2 ++ wP c ps))) : va_W) rfl).trans ?_)
  · rfl
  · simp only [wH, wH0, List.append_assoc]
    rfl
theorem zsp_7 : zset (wH c ah ag ar ps s) (isg 7) (wG c (ag 9) g) = wH c ah ag ar ps (s.1, s.2.1, s.2.2.1, upG s.2.2.2.1 7 g, s.2.2.2.2) := by
  have e : wH c ah ag ar ps s = (([(ah 0, .inr (7, [.ref (ag 0 0), .ref (ag 1 0), .ref (ah 1), .int (s.1.1 0), .int (s.1.1 1), .ref (ar 0), .ref (ah 2)])), (ah 1, .inl (c 3, 8, .inr (.inr (.inr (.inr (fun i => if i < 8 then some (ag (2 + i) 0) else none))))))] ++ (wG c (ag 0) s.2.1 ++ (wG c (ag 1) s.2.2.1 ++ (wG c (ag 2) (s.2.2.2.1 0) ++ (wG c (ag 3) (s.2.2.2.1 1) ++ (wG c (ag 4) (s.2.2.2.1 2) ++ (wG c (ag 5) (s.2.2.2.1 3) ++ (wG c (ag 6) (s.2.2.2.1 4) ++ (wG c (ag 7) (s.2.2.2.1 5) ++ wG c (ag 8) (s.2.2.2.1 6)))))))))) : va_W) ++ (wG c (ag 9) (s.2.2.2.1 7) ++ ((wR c ar s.2.2.2.2.1 ++ (wS c (ah 2) (ah 3) (ah 4) (ah 5) (ah 6) s.2.2.2.2.2 ++ wP c ps)) : va_W)) := by simp only [wH, wH0, List.append_assoc]
  rw [e]
  refine Eq.trans ?_ ((zset_seg (wG c (ag 9) (s.2.2.2.1 7)) (wG c (ag 9) g) (([(ah 0, .inr (7, [.ref (ag 0 0), .ref (ag 1 0), .ref (ah 1), .int (s.1.1 0), .int (s.1.1 1), .ref (ar 0), .ref (ah 2)])), (ah 1, .inl (c 3, 8, .inr (.inr (.inr (.inr (fun i => if i < 8 then some (ag (2 + i) 0) else none))))))] ++ (wG c (ag 0) s.2.1 ++ (wG c (ag 1) s.2.2.1 ++ (wG c (ag 2) (s.2.2.2.1 0) ++ (wG c (ag 3) (s.2.2.2.1 1) ++ (wG c (ag 4) (s.2.2.2.1 2) ++ (wG c (ag 5) (s.2.2.2.1 3) ++ (wG c (ag 6) (s.2.2.2.1 4) ++ (wG c (ag 7) (s.2.2.2.1 5) ++ wG c (ag 8) (s.2.2.2.1 6)))))))))) : va_W) ((wR c ar s.2.2.2.2.1 ++ (wS c (ah 2) (ah 3) (ah 4) (ah 5) (ah 6) s.2.2.2.2.2 ++ wP c ps)) : va_W) rfl).trans ?_)
  · rfl
  · simp only [wH, wH0, List.append_assoc]
    rfl
theorem zsg : zset (wH c ah ag ar ps s) [2, 3, 4, 5, 6, 7, 8, 9, 10, 11] (wG c (ag 0) g) = wH c ah ag ar ps (s.1, g, s.2.2) := by
  have e : wH c ah ag ar ps s = ([(ah 0, .inr (7, [.ref (ag 0 0), .ref (ag 1 0), .ref (ah 1), .int (s.1.1 0), .int (s.1.1 1), .ref (ar 0), .ref (ah 2)])), (ah 1, .inl (c 3, 8, .inr (.inr (.inr (.inr (fun i => if i < 8 then some (ag (2 + i) 0) else none))))))] : va_W) ++ (wG c (ag 0) s.2.1 ++ ((wG c (ag 1) s.2.2.1 ++ (wG c (ag 2) (s.2.2.2.1 0) ++ (wG c (ag 3) (s.2.2.2.1 1) ++ (wG c (ag 4) (s.2.2.2.1 2) ++ (wG c (ag 5) (s.2.2.2.1 3) ++ (wG c (ag 6) (s.2.2.2.1 4) ++ (wG c (ag 7) (s.2.2.2.1 5) ++ (wG c (ag 8) (s.2.2.2.1 6) ++ (wG c (ag 9) (s.2.2.2.1 7) ++ (wR c ar s.2.2.2.2.1 ++ (wS c (ah 2) (ah 3) (ah 4) (ah 5) (ah 6) s.2.2.2.2.2 ++ wP c ps))))))))))) : va_W)) := by simp only [wH, wH0, List.append_assoc]
  rw [e]
  refine Eq.trans ?_ ((zset_seg (wG c (ag 0) s.2.1) (wG c (ag 0) g) ([(ah 0, .inr (7, [.ref (ag 0 0), .ref (ag 1 0), .ref (ah 1), .int (s.1.1 0), .int (s.1.1 1), .ref (ar 0), .ref (ah 2)])), (ah 1, .inl (c 3, 8, .inr (.inr (.inr (.inr (fun i => if i < 8 then some (ag (2 + i) 0) else none))))))] : va_W) ((wG c (ag 1) s.2.2.1 ++ (wG c (ag 2) (s.2.2.2.1 0) ++ (wG c (ag 3) (s.2.2.2.1 1) ++ (wG c (ag 4) (s.2.2.2.1 2) ++ (wG c (ag 5) (s.2.2.2.1 3) ++ (wG c (ag 6) (s.2.2.2.1 4) ++ (wG c (ag 7) (s.2.2.2.1 5) ++ (wG c (ag 8) (s.2.2.2.1 6) ++ (wG c (ag 9) (s.2.2.2.1 7) ++ (wR c ar s.2.2.2.2.1 ++ (wS c (ah 2) (ah 3) (ah 4) (ah 5) (ah 6) s.2.2.2.2.2 ++ wP c ps))))))))))) : va_W) rfl).trans ?_)
  · rfl
  · simp only [wH, wH0, List.append_assoc]
theorem zsp {j : Nat} (h : j < 8) : zset (wH c ah ag ar ps s) (isg j) (wG c (ag (2 + j)) g) = wH c ah ag ar ps (s.1, s.2.1, s.2.2.1, upG s.2.2.2.1 j g, s.2.2.2.2) := lt8 (P := fun j => zset (wH c ah ag ar ps s) (isg j) (wG c (ag (2 + j)) g) = wH c ah ag ar ps (s.1, s.2.1, s.2.2.1, upG s.2.2.2.1 j g, s.2.2.2.2)) zsp_0 zsp_1 zsp_2 zsp_3 zsp_4 zsp_5 zsp_6 zsp_7 h
theorem zs_pg {j : Nat} (h : j < 8) : zset (wH c ah ag ar ps s) (isg j ++ [2, 3, 4, 5, 6, 7, 8, 9, 10, 11]) ((wG c (ag (2 + j)) g) ++ (wG c (ag 0) s.2.1)) = wH c ah ag ar ps (s.1, s.2.1, s.2.2.1, upG s.2.2.2.1 j g, s.2.2.2.2) := by
  rw [zset_two (isg j) _ (wG c (ag (2 + j)) g) _ _ rfl, zsp h]
  exact zset_id _ _ _ rfl
theorem zs_gp {j : Nat} (h : j < 8) : zset (wH c ah ag ar ps s) ([2, 3, 4, 5, 6, 7, 8, 9, 10, 11] ++ isg j) ((wG c (ag 0) g) ++ (wG c (ag (2 + j)) (s.2.2.2.1 j))) = wH c ah ag ar ps (s.1, g, s.2.2) := by
  rw [zset_two [2, 3, 4, 5, 6, 7, 8, 9, 10, 11] (isg j) (wG c (ag 0) g) _ _ rfl, zsg]
  refine zset_id _ _ _ ?_
  have h2 := hC_pg (c := c) (ah := ah) (ag := ag) (ar := ar) (ps := ps) (s := (s.1, g, s.2.2)) h
  rw [List.map_append, List.map_append] at h2
  exact (List.append_inj h2 rfl).1
variable {p : Program} {l : Launch} {e : Env} {R : Room} {st : State} {m : MethodId} {args : Array Value} {below : List Frame} {meth : Method} {c1 : Code} {H : Heap} {locs : List Loc} {cells slots : Nat} {Q : State → Prop} {cc : ByteArray} {pc : Nat} {ls : Array Slot} {rest : List Value} {G : va_G}
set_option maxRecDepth 100000 in
theorem rv_past {tys : List (ClassId × FieldType)} (hK : va_K G vwCl tys st) (hP : va_P G vwCl (wH c ah ag ar ps s) H) {j : Nat} (h : j < 8) : ∃ cell : Cell, H[ag (2 + j) 0]? = some cell ∧ cell.vm.isStatics = false ∧ st.vm.findClass RX1 = some cell.cls := lt8 (P := fun j => ∃ cell : Cell, H[ag (2 + j) 0]? = some cell ∧ cell.vm.isStatics = false ∧ st.vm.findClass RX1 = some cell.cls) (va_recv hK hP (ci := 1) (q0 := 22) rfl rfl) (va_recv hK hP (ci := 1) (q0 := 32) rfl rfl) (va_recv hK hP (ci := 1) (q0 := 42) rfl rfl) (va_recv hK hP (ci := 1) (q0 := 52) rfl rfl) (va_recv hK hP (ci := 1) (q0 := 62) rfl rfl) (va_recv hK hP (ci := 1) (q0 := 72) rfl rfl) (va_recv hK hP (ci := 1) (q0 := 82) rfl rfl) (va_recv hK hP (ci := 1) (q0 := 92) rfl rfl) h
theorem za_past (hexec : p.tables.exec = Jvm.exec) (hb : c1.code = cc) (hK : va_K G vwCl (TY c) st) (hP : va_P G vwCl (wH c ah ag ar ps s) H) {i : Int32} (hin : vp_in i 8) (hdg : decode cc pc = .ok (.aaload, 1))
    (kk : W p l e R st m args below meth c1 H locs cells slots Q (F0 m (pc + 1) ls (.ref (ag (2 + i.toNatClampNeg) 0) :: rest))) : W p l e R st m args below meth c1 H locs cells slots Q (F0 m pc ls (.int i :: .ref (ah 1) :: rest)) := by
  have hlt : i.toNatClampNeg < 8 := Nat.not_le.mp fun q => hin (Or.inr q)
  have hrf : (fun i => if i < 8 then some (ag (2 + i) 0) else none) i.toNatClampNeg = some (ag (2 + i.toNatClampNeg) 0) := if_pos hlt
  exact W.aald (v := .ref (ag (2 + i.toNatClampNeg) 0)) (ty := .object "HubTrains$Game") hexec hb (hP 1 _ rfl) ((hK.2 3 _ rfl).1 8 (fun j => va_rf (if j < 8 then some (ag (2 + j) 0) else none))) rfl (fun q => by cases q) (by show ¬ (i < 0 ∨ (arrV _ _ _).slots.size ≤ _); rw [arrV_size]; exact hin) (by show (arrV _ _ _).slots[_]? = _; rw [arrV_read _ _ hlt, hrf]; rfl) rfl rfl hdg kk
end PG
