/-! the words of the law, by chunk and place -/
def sbM : List MethodName := [⟨"java/lang/AbstractStringBuilder", "appendNull", "()Ljava/lang/AbstractStringBuilder;"⟩, ⟨"java/lang/AbstractStringBuilder", "ensureCapacityInternal", "(I)V"⟩, ⟨"java/lang/AbstractStringBuilder", "newCapacity", "(I)I"⟩, ⟨"java/lang/AbstractStringBuilder", "putStringAt", "(ILjava/lang/String;)V"⟩, ⟨"java/lang/AbstractStringBuilder", "inflateIfNeededFor", "(Ljava/lang/String;)V"⟩, ⟨"java/lang/AbstractStringBuilder", "inflate", "()V"⟩]
/-- the private methods of a builder's superclass are their own selection on a builder -/
def lw_sb : List Cond := sbM.map fun y => Cond.selects "java/lang/StringBuilder" y y
def lw_tb2 : List Cond := lw_sb ++ lw_tbl
theorem sb_sel {y z : MethodName} {s : State} {args : Array Value} {n : Nat} (hy : y.cls ≠ "java/lang/invoke/MethodHandle" ∧ y.cls ≠ "java/lang/invoke/VarHandle") (hz : z.cls = y.cls)
    (hins : (Cond.instantiable "java/lang/StringBuilder" n).before args s = true) (hpriv : (Cond.privateMethod y).before args s = true) (hinst : (Cond.instanceMethod y).before args s = true) (hsel : (Cond.selects "java/lang/StringBuilder" z z).before args s = true) :
    (Cond.selects "java/lang/StringBuilder" y y).before args s = true := by
  obtain ⟨c, k, hc, -, -, -, -, -⟩ := Cond.instantiable_spec hins
  obtain ⟨mk, methM, hnamed, hmethM, -, -⟩ := Cond.instanceMethod_spec hinst
  have hfound : s.methodFound? y.cls y.name y.desc = some mk := State.methodFound?_of_named hnamed hy
  obtain ⟨c2, r2, m2, -, -, q3, -, kk, hk, hni⟩ := Cond.selects_spec hsel
  have e1 := findClass_of_methodNamed hnamed
  have e2 := findClass_of_methodNamed q3
  rw [hz] at e2
  have e3 : m2.cls = mk.cls := Option.some.inj (e2.symm.trans e1)
  rw [e3] at hk
  have hs : selectMethod {} s.vm c mk = .method mk := selectMethod_private hmethM (Cond.privateMethod_at hpriv mk methM hnamed hmethM)
  simp only [Cond.before, Cond.holds, Cond.value, hc, hfound, hnamed, hs, hk]
  simp; exact hni
theorem lw_hts2 {args : Array Value} {s : State} (hts : ∀ w ∈ lw_tbl, w.before args s = true) : ∀ w ∈ lw_tb2, w.before args s = true := by
  have h0 : ∀ (k j : Nat) (w : Cond), (([tables_1_1, tables_1_2, tables_1_3, tables_1_4, tables_1_5, tables_1_6, tables_1_7] : List (List Cond))[k]?).bind (fun l => l[j]?) = some w → w.before args s = true := fun k j w hw => by
    obtain ⟨l, hl, hi⟩ := Option.bind_eq_some_iff.mp hw
    refine hts w (List.mem_append_right _ ?_)
    have hl := List.mem_of_getElem? hl
    have hi := List.mem_of_getElem? hi
    unfold tables_1
    simp only [List.mem_append]
    simp only [List.mem_cons, List.not_mem_nil, or_false] at hl
    rcases hl with rfl | rfl | rfl | rfl | rfl | rfl | rfl <;> simp [hi]
  have key : ∀ y ∈ sbM, (Cond.selects "java/lang/StringBuilder" y y).before args s = true := List.forall_mem_cons.mpr ⟨sb_sel (n := 4) (z := ⟨"java/lang/AbstractStringBuilder", "isLatin1", "()Z"⟩) (by decide) rfl (h0 5 43 _ rfl) (h0 5 81 _ rfl) (h0 5 82 _ rfl) (h0 5 112 _ rfl), List.forall_mem_cons.mpr ⟨sb_sel (n := 4) (z := ⟨"java/lang/AbstractStringBuilder", "isLatin1", "()Z"⟩) (by decide) rfl (h0 5 43 _ rfl) (h0 5 85 _ rfl) (h0 5 86 _ rfl) (h0 5 112 _ rfl), List.forall_mem_cons.mpr ⟨sb_sel (n := 4) (z := ⟨"java/lang/AbstractStringBuilder", "isLatin1", "()Z"⟩) (by decide) rfl (h0 5 43 _ rfl) (h0 5 89 _ rfl) (h0 5 90 _ rfl) (h0 5 112 _ rfl), List.forall_mem_cons.mpr ⟨sb_sel (n := 4) (z := ⟨"java/lang/AbstractStringBuilder", "isLatin1", "()Z"⟩) (by decide) rfl (h0 5 43 _ rfl) (h0 5 131 _ rfl) (h0 5 132 _ rfl) (h0 5 112 _ rfl), List.forall_mem_cons.mpr ⟨sb_sel (n := 4) (z := ⟨"java/lang/AbstractStringBuilder", "isLatin1", "()Z"⟩) (by decide) rfl (h0 5 43 _ rfl) (h0 5 135 _ rfl) (h0 5 136 _ rfl) (h0 5 112 _ rfl), List.forall_mem_cons.mpr ⟨sb_sel (n := 4) (z := ⟨"java/lang/AbstractStringBuilder", "isLatin1", "()Z"⟩) (by decide) rfl (h0 5 43 _ rfl) (h0 5 140 _ rfl) (h0 5 141 _ rfl) (h0 5 112 _ rfl), fun _ h => absurd h List.not_mem_nil⟩⟩⟩⟩⟩⟩
  intro w hw
  rcases List.mem_append.mp hw with h | h
  · obtain ⟨y, hy, rfl⟩ := List.mem_map.mp h
    exact key y hy
  · exact hts w h
def tch : List (List Cond) := [tables_1_1, tables_1_2, tables_1_3, tables_1_4, tables_1_5, tables_1_6, tables_1_7, k2_sels lw_privs_1, k2_sels lw_privs_2, k2_sels lw_privs_3, lw_sb]
theorem lw_tbl_eq : lw_tbl = (k2_sels lw_privs_1 ++ (k2_sels lw_privs_2 ++ (k2_sels lw_privs_3))) ++ (tables_1_1 ++ (tables_1_2 ++ (tables_1_3 ++ (tables_1_4 ++ (tables_1_5 ++ (tables_1_6 ++ (tables_1_7))))))) := by
  unfold lw_tbl lw_privs tables_1 k2_sels
  simp only [List.map_append]
theorem tch_in : ∀ l ∈ tch, ∀ w ∈ l, w ∈ lw_tb2 := by
  intro l hl w hw
  unfold lw_tb2
  rw [lw_tbl_eq]
  simp only [List.mem_append]
  unfold tch at hl
  simp only [List.mem_cons, List.not_mem_nil, or_false] at hl
  rcases hl with rfl | rfl | rfl | rfl | rfl | rfl | rfl | rfl | rfl | rfl | rfl <;> simp [hw]
theorem tin_c (ws : List Cond) (ps : List (Nat × Nat)) (hp : ws = ps.filterMap (fun p => (tch[p.1]?).bind (fun l => l[p.2]?))) : ∀ w ∈ ws, w ∈ lw_tb2 := by
  intro w hw
  rw [hp] at hw
  obtain ⟨q, -, hq⟩ := List.mem_filterMap.mp hw
  obtain ⟨l, hl, hi⟩ := Option.bind_eq_some_iff.mp hq
  exact tch_in l (List.mem_of_getElem? hl) w (List.mem_of_getElem? hi)
set_option maxRecDepth 20000 in
theorem tin_wsL_law0_r1 : ∀ w ∈ wsL_law0_r1, w ∈ lw_tb2 := tin_c _ [(0, 31), (0, 32), (0, 1), (0, 61), (1, 195), (1, 196), (0, 9), (1, 210), (1, 211), (0, 10), (4, 147), (3, 165), (3, 213), (1, 219), (1, 238), (1, 230), (1, 223), (1, 225), (1, 234), (2, 2), (0, 33), (0, 34), (0, 35), (0, 36)] rfl
set_option maxRecDepth 20000 in
theorem tin_wsL_law0_r2 : ∀ w ∈ wsL_law0_r2, w ∈ lw_tb2 := tin_c _ [(0, 37), (0, 38), (0, 39), (0, 40), (0, 2), (1, 87), (1, 88), (1, 89), (0, 153), (0, 154), (0, 6), (1, 92), (0, 231), (0, 232), (0, 8), (1, 93), (0, 41), (0, 42), (0, 43), (0, 44), (0, 87), (0, 90), (0, 93), (0, 95)] rfl
set_option maxRecDepth 20000 in
theorem tin_wsL_law0_r3 : ∀ w ∈ wsL_law0_r3, w ∈ lw_tb2 := tin_c _ [(0, 98), (0, 104), (0, 111), (0, 113), (0, 45), (0, 46), (0, 3), (0, 114), (0, 62), (0, 63), (0, 4), (0, 116), (0, 48), (0, 49), (0, 50), (0, 51), (0, 65), (0, 66), (0, 67), (0, 68), (0, 69), (0, 71), (0, 72), (0, 84)] rfl
set_option maxRecDepth 20000 in
theorem tin_wsL_law0_r4 : ∀ w ∈ wsL_law0_r4, w ∈ lw_tb2 := tin_c _ [(0, 85), (0, 5), (0, 86), (0, 156), (0, 157), (0, 158), (0, 159), (0, 160), (0, 7), (0, 194), (0, 192), (0, 196), (0, 203), (0, 206), (0, 162), (0, 163), (0, 164), (0, 165), (0, 193), (0, 234), (0, 235), (0, 236), (0, 237), (1, 0)] rfl
set_option maxRecDepth 20000 in
theorem tin_wsL_law0_r5 : ∀ w ∈ wsL_law0_r5, w ∈ lw_tb2 := tin_c _ [(1, 2), (1, 3), (1, 19), (1, 20), (1, 21), (1, 22), (0, 101), (0, 103), (0, 105), (0, 108), (1, 23), (1, 24), (1, 25), (1, 26), (0, 52), (0, 53), (1, 27), (1, 28), (1, 29), (1, 30), (1, 32), (1, 33), (1, 35), (1, 36)] rfl
set_option maxRecDepth 20000 in
theorem tin_wsL_law0_r6 : ∀ w ∈ wsL_law0_r6, w ∈ lw_tb2 := tin_c _ [(1, 37), (1, 38), (1, 39), (1, 40), (1, 41), (1, 42), (1, 43), (1, 44), (1, 46), (1, 47), (1, 48), (1, 49), (1, 50), (1, 51), (1, 52), (1, 53), (1, 55), (1, 56), (1, 57), (1, 58), (1, 59), (1, 60), (1, 61), (1, 63)] rfl
set_option maxRecDepth 20000 in
theorem tin_wsL_law0_r7 : ∀ w ∈ wsL_law0_r7, w ∈ lw_tb2 := tin_c _ [(1, 64), (1, 65), (1, 67), (7, 0), (1, 68), (1, 69), (1, 70), (1, 71), (1, 72), (1, 73), (1, 74), (1, 75), (1, 76), (1, 77), (1, 78), (1, 79), (1, 80), (1, 82), (1, 83), (1, 84), (1, 85), (0, 70), (1, 86), (1, 197)] rfl
set_option maxRecDepth 20000 in
theorem tin_wsL_law0_r8 : ∀ w ∈ wsL_law0_r8, w ∈ lw_tb2 := tin_c _ [(1, 198), (1, 199), (1, 200), (1, 201), (1, 213), (1, 214), (1, 215), (1, 218), (1, 220), (1, 222), (1, 224), (1, 228), (1, 216), (1, 233), (1, 235), (1, 237), (2, 41), (1, 239), (2, 1), (2, 42), (2, 5), (2, 65), (2, 66), (2, 67)] rfl
set_option maxRecDepth 20000 in
theorem tin_wsL_law0_r9 : ∀ w ∈ wsL_law0_r9, w ∈ lw_tb2 := tin_c _ [(2, 68), (2, 75), (2, 76), (1, 226), (1, 227), (1, 229), (1, 232), (2, 70), (0, 0), (2, 71), (2, 73), (2, 74), (6, 38), (6, 39), (6, 40), (3, 214), (6, 41), (6, 42), (6, 43), (6, 44), (6, 45), (6, 46), (6, 47), (6, 48)] rfl
set_option maxRecDepth 20000 in
theorem tin_wsL_law0_r10 : ∀ w ∈ wsL_law0_r10, w ∈ lw_tb2 := tin_c _ [(6, 49), (0, 107), (4, 159), (4, 161), (9, 1), (4, 162), (4, 163), (4, 165), (9, 2), (4, 166), (1, 121), (1, 122), (1, 123), (1, 124), (1, 125), (1, 127), (7, 1), (1, 128), (1, 129), (1, 130), (1, 131), (1, 132), (1, 134), (1, 135)] rfl
set_option maxRecDepth 20000 in
theorem tin_wsL_law0_r11 : ∀ w ∈ wsL_law0_r11, w ∈ lw_tb2 := tin_c _ [(1, 136), (1, 137), (1, 139), (1, 140), (6, 50), (6, 51), (6, 52), (6, 53), (4, 138), (4, 139), (4, 140), (4, 141), (1, 146), (1, 147), (6, 54), (6, 56), (9, 4), (6, 57), (6, 58), (6, 59), (6, 60), (6, 61), (6, 62), (6, 63)] rfl
set_option maxRecDepth 20000 in
theorem tin_wsL_law0_r12 : ∀ w ∈ wsL_law0_r12, w ∈ lw_tb2 := tin_c _ [(6, 64), (6, 65), (6, 66), (6, 67), (3, 195), (3, 196), (3, 197), (6, 68), (6, 69), (6, 70), (6, 71), (6, 72), (6, 73), (6, 74), (6, 75), (6, 76), (6, 77), (6, 78), (6, 79), (6, 80), (1, 231), (2, 89), (2, 90), (2, 91)] rfl
set_option maxRecDepth 20000 in
theorem tin_wsL_law0_r13 : ∀ w ∈ wsL_law0_r13, w ∈ lw_tb2 := tin_c _ [(2, 92), (2, 93), (2, 78), (2, 79), (2, 80), (2, 81), (2, 82), (2, 83), (2, 84), (6, 81), (6, 82), (6, 83), (6, 84), (2, 128), (2, 129), (6, 85), (6, 86), (6, 87), (6, 88), (6, 89), (6, 90), (6, 91), (6, 92), (1, 113)] rfl
set_option maxRecDepth 20000 in
theorem tin_wsL_law0_r14 : ∀ w ∈ wsL_law0_r14, w ∈ lw_tb2 := tin_c _ [(1, 114), (1, 115), (1, 116), (1, 117), (1, 118), (1, 119), (1, 120), (1, 141), (1, 142), (1, 143), (1, 144), (0, 110), (1, 148), (1, 149), (1, 150), (0, 11), (1, 151), (3, 152), (3, 153), (1, 153), (1, 154), (1, 155), (1, 156), (1, 157)] rfl
set_option maxRecDepth 20000 in
theorem tin_wsL_law0_r15 : ∀ w ∈ wsL_law0_r15, w ∈ lw_tb2 := tin_c _ [(1, 158), (1, 159), (0, 12), (1, 160), (1, 161), (1, 162), (1, 163), (1, 165), (1, 166), (1, 167), (2, 98), (2, 99), (2, 100), (2, 101), (2, 102), (2, 103), (2, 104), (2, 105), (2, 3), (2, 106), (2, 107), (2, 108), (0, 25), (2, 109)] rfl
set_option maxRecDepth 20000 in
theorem tin_wsL_law0_r16 : ∀ w ∈ wsL_law0_r16, w ∈ lw_tb2 := tin_c _ [(5, 22), (5, 23), (5, 24), (5, 25), (2, 111), (2, 112), (2, 113), (2, 114), (2, 110), (6, 93), (6, 94), (6, 95), (2, 154), (6, 96), (6, 97), (6, 98), (6, 99), (6, 100), (6, 101), (6, 102), (2, 159), (0, 16), (6, 103), (6, 104)] rfl
set_option maxRecDepth 20000 in
theorem tin_wsL_law0_r17 : ∀ w ∈ wsL_law0_r17, w ∈ lw_tb2 := tin_c _ [(6, 105), (6, 106), (3, 169), (6, 107), (6, 108), (6, 109), (6, 110), (4, 7), (4, 9), (8, 6), (4, 10), (3, 179), (0, 17), (6, 111), (6, 112), (6, 113), (6, 114), (6, 115), (6, 116), (6, 117), (3, 175), (3, 177), (8, 4), (3, 178)] rfl
set_option maxRecDepth 20000 in
theorem tin_wsL_law0_r18 : ∀ w ∈ wsL_law0_r18, w ∈ lw_tb2 := tin_c _ [(6, 118), (6, 119), (6, 120), (3, 170), (6, 121), (6, 122), (6, 123), (6, 124), (3, 198), (0, 18), (6, 125), (6, 126), (6, 127), (6, 128), (1, 109), (1, 110), (1, 111), (1, 112), (1, 168), (1, 169), (1, 170), (1, 171), (1, 91), (1, 90)] rfl
set_option maxRecDepth 20000 in
theorem tin_wsL_law0_r19 : ∀ w ∈ wsL_law0_r19, w ∈ lw_tb2 := tin_c _ [(1, 172), (1, 173), (1, 174), (1, 175), (1, 177), (1, 178), (1, 179), (1, 180), (1, 181), (1, 182), (1, 184), (1, 183), (0, 19), (1, 185), (1, 186), (1, 187), (1, 188), (1, 190), (1, 191), (1, 192), (1, 193), (4, 205), (4, 206), (4, 207)] rfl
set_option maxRecDepth 20000 in
theorem tin_wsL_law0_r20 : ∀ w ∈ wsL_law0_r20, w ∈ lw_tb2 := tin_c _ [(4, 95), (4, 208), (4, 209), (4, 210), (4, 211), (4, 100), (4, 101), (4, 102), (4, 103), (0, 20), (3, 160), (3, 162), (8, 3), (3, 163), (4, 212), (2, 229), (2, 230), (2, 231), (3, 164), (4, 186), (4, 187), (4, 188), (4, 189), (4, 190)] rfl
set_option maxRecDepth 20000 in
theorem tin_wsL_law0_r21 : ∀ w ∈ wsL_law0_r21, w ∈ lw_tb2 := tin_c _ [(4, 191), (4, 192), (4, 193), (4, 194), (4, 195), (4, 196), (4, 197), (4, 199), (9, 3), (4, 200), (4, 201), (4, 202), (4, 119), (4, 120), (4, 121), (4, 122), (4, 123), (4, 124), (4, 125), (4, 128), (4, 129), (4, 130), (4, 131), (4, 132)] rfl
set_option maxRecDepth 20000 in
theorem tin_wsL_law0_r22 : ∀ w ∈ wsL_law0_r22, w ∈ lw_tb2 := tin_c _ [(4, 133), (4, 135), (8, 15), (4, 136), (4, 142), (4, 144), (9, 0), (4, 145), (4, 203), (4, 168), (4, 169), (4, 170), (4, 204), (4, 183), (4, 184), (4, 185), (4, 92), (4, 93), (4, 94), (4, 96), (4, 97), (4, 98), (4, 99), (3, 222)] rfl
set_option maxRecDepth 20000 in
theorem tin_wsL_law0_r23 : ∀ w ∈ wsL_law0_r23, w ∈ lw_tb2 := tin_c _ [(3, 224), (8, 5), (3, 225), (3, 226), (3, 235), (3, 236), (3, 237), (3, 238), (4, 118), (4, 146), (4, 213), (4, 214), (4, 215), (1, 221), (4, 216), (1, 236), (2, 0), (5, 8), (5, 9), (2, 238), (2, 239), (2, 4), (1, 205), (1, 206)] rfl
set_option maxRecDepth 20000 in
theorem tin_wsL_law0_r24 : ∀ w ∈ wsL_law0_r24, w ∈ lw_tb2 := tin_c _ [(1, 207), (1, 208), (1, 209), (4, 218), (4, 219), (4, 220), (4, 221), (4, 222), (4, 223), (4, 224), (3, 15), (3, 16), (0, 21), (3, 17), (6, 14), (3, 18), (3, 19), (3, 20), (3, 21), (3, 22), (6, 15), (4, 225), (3, 25), (3, 26)] rfl
set_option maxRecDepth 20000 in
theorem tin_wsL_law0_r25 : ∀ w ∈ wsL_law0_r25, w ∈ lw_tb2 := tin_c _ [(3, 27), (3, 28), (3, 29), (3, 30), (3, 31), (3, 32), (3, 33), (0, 22), (3, 34), (3, 35), (3, 36), (3, 37), (3, 38), (3, 40), (3, 41), (0, 23), (3, 42), (3, 43), (3, 44), (0, 24), (3, 45), (3, 46), (3, 47), (3, 48)] rfl
set_option maxRecDepth 20000 in
theorem tin_wsL_law0_r26 : ∀ w ∈ wsL_law0_r26, w ∈ lw_tb2 := tin_c _ [(3, 49), (3, 50), (3, 51), (3, 52), (3, 53), (3, 54), (3, 55), (3, 56), (3, 58), (3, 60), (4, 226), (4, 227), (4, 228), (4, 229), (4, 230), (4, 231), (4, 232), (4, 233), (4, 234), (4, 235), (4, 236), (4, 237), (4, 238), (4, 239)] rfl
set_option maxRecDepth 20000 in
theorem tin_wsL_law0_r27 : ∀ w ∈ wsL_law0_r27, w ∈ lw_tb2 := tin_c _ [(0, 166), (5, 2), (5, 3), (5, 4), (5, 10), (2, 122), (5, 13), (5, 14), (5, 15), (5, 16), (5, 17), (5, 18), (5, 19), (5, 20), (5, 21), (5, 35), (5, 36), (5, 38), (5, 39), (5, 40), (5, 41), (5, 42), (5, 43), (0, 27)] rfl
set_option maxRecDepth 20000 in
theorem tin_wsL_law0_r28 : ∀ w ∈ wsL_law0_r28, w ∈ lw_tb2 := tin_c _ [(5, 44), (5, 45), (5, 46), (5, 47), (5, 48), (0, 26), (5, 49), (5, 50), (5, 51), (3, 159), (5, 59), (5, 60), (5, 52), (5, 53), (5, 54), (5, 55), (5, 56), (5, 57), (5, 58), (5, 73), (5, 74), (5, 75), (5, 76), (5, 77)] rfl
set_option maxRecDepth 20000 in
theorem tin_wsL_law0_r29 : ∀ w ∈ wsL_law0_r29, w ∈ lw_tb2 := tin_c _ [(6, 131), (5, 71), (5, 78), (5, 79), (5, 62), (5, 80), (6, 132), (10, 0), (5, 82), (5, 83), (5, 84), (6, 133), (10, 1), (5, 86), (5, 87), (5, 88), (6, 134), (10, 2), (5, 90), (5, 91), (5, 100), (5, 92), (5, 93), (0, 28)] rfl
set_option maxRecDepth 20000 in
theorem tin_wsL_law0_r30 : ∀ w ∈ wsL_law0_r30, w ∈ lw_tb2 := tin_c _ [(5, 94), (5, 95), (5, 96), (5, 97), (5, 98), (5, 99), (5, 101), (5, 102), (5, 103), (5, 104), (5, 105), (2, 51), (2, 52), (5, 106), (5, 108), (3, 150), (3, 151), (5, 109), (5, 111), (5, 112), (5, 110), (5, 113), (5, 114), (5, 115)] rfl
set_option maxRecDepth 20000 in
theorem tin_wsL_law0_r31 : ∀ w ∈ wsL_law0_r31, w ∈ lw_tb2 := tin_c _ [(5, 116), (5, 117), (5, 118), (5, 119), (5, 120), (5, 121), (5, 122), (5, 123), (5, 124), (5, 125), (5, 126), (5, 127), (5, 128), (5, 129), (5, 130), (6, 135), (10, 3), (5, 132), (5, 133), (5, 134), (6, 136), (10, 4), (5, 136), (5, 137)] rfl
set_option maxRecDepth 20000 in
theorem tin_wsL_law0_r32 : ∀ w ∈ wsL_law0_r32, w ∈ lw_tb2 := tin_c _ [(5, 138), (5, 139), (6, 137), (10, 5), (5, 141), (5, 142), (5, 143), (5, 144), (5, 145), (5, 146), (5, 147), (5, 148), (5, 149), (5, 150), (5, 151), (5, 152), (5, 153), (5, 154), (5, 155), (5, 156), (5, 157), (5, 158), (5, 159), (5, 160)] rfl
set_option maxRecDepth 20000 in
theorem tin_wsL_law0_r33 : ∀ w ∈ wsL_law0_r33, w ∈ lw_tb2 := tin_c _ [(5, 161), (5, 162), (5, 163), (5, 164), (5, 165), (5, 166), (5, 167), (5, 168), (6, 138), (5, 169), (5, 170), (5, 171), (5, 172), (0, 30), (5, 173), (5, 174), (5, 175), (5, 176), (5, 177), (5, 179), (5, 181), (5, 182), (5, 183), (5, 184)] rfl
set_option maxRecDepth 20000 in
theorem tin_wsL_law0_r34 : ∀ w ∈ wsL_law0_r34, w ∈ lw_tb2 := tin_c _ [(5, 185), (5, 186), (5, 187), (5, 188), (5, 189), (5, 190), (5, 191), (5, 192), (5, 193), (5, 194), (5, 195), (5, 196), (5, 197), (5, 198), (5, 199), (5, 200), (5, 201), (5, 61), (5, 202), (5, 204), (5, 205), (5, 203), (5, 206), (5, 207)] rfl
set_option maxRecDepth 20000 in
theorem tin_wsL_law0_r35 : ∀ w ∈ wsL_law0_r35, w ∈ lw_tb2 := tin_c _ [(5, 209), (5, 208), (5, 210), (5, 211), (5, 212), (5, 213), (5, 208), (5, 214), (5, 215), (5, 216), (5, 217), (5, 218), (5, 219), (5, 220), (5, 221), (5, 222), (5, 223), (5, 224), (5, 226), (6, 4), (6, 5), (6, 6), (6, 7), (6, 8)] rfl
set_option maxRecDepth 20000 in
theorem tin_wsL_law0_r36 : ∀ w ∈ wsL_law0_r36, w ∈ lw_tb2 := tin_c _ [(6, 9), (6, 10), (6, 11), (6, 12), (6, 13), (6, 27), (6, 35), (6, 36), (6, 37), (2, 151), (2, 152), (2, 153), (2, 155), (2, 156), (2, 157), (2, 158), (2, 224), (2, 225), (2, 226), (2, 227), (0, 199), (0, 200), (0, 201), (0, 204)] rfl
set_option maxRecDepth 20000 in
theorem tin_wsL_law0_r37 : ∀ w ∈ wsL_law0_r37, w ∈ lw_tb2 := tin_c _ [(0, 202), (0, 205), (3, 137), (3, 138), (2, 228), (2, 232), (2, 233), (2, 234), (2, 235), (2, 236), (2, 237), (0, 169), (0, 174), (3, 0), (3, 1), (3, 2), (3, 3), (0, 173), (0, 175), (3, 4), (0, 171), (3, 5), (3, 7), (7, 5)] rfl
set_option maxRecDepth 20000 in
theorem tin_wsL_law0_r38 : ∀ w ∈ wsL_law0_r38, w ∈ lw_tb2 := tin_c _ [(3, 8), (0, 198), (3, 10), (3, 11), (3, 12), (3, 13), (3, 14), (3, 24), (3, 62), (3, 64), (7, 6), (3, 65), (3, 66), (3, 67), (3, 69), (7, 7), (3, 70), (3, 71), (3, 72), (3, 73), (3, 74), (3, 75), (3, 77), (7, 8)] rfl
set_option maxRecDepth 20000 in
theorem tin_wsL_law0_r39 : ∀ w ∈ wsL_law0_r39, w ∈ lw_tb2 := tin_c _ [(3, 78), (3, 79), (3, 80), (3, 81), (3, 82), (3, 83), (3, 85), (7, 9), (3, 86), (3, 88), (3, 90), (7, 10), (3, 91), (3, 93), (3, 95), (7, 11), (3, 96), (3, 98), (3, 100), (7, 12), (3, 101), (3, 102), (3, 104), (7, 13)] rfl
set_option maxRecDepth 20000 in
theorem tin_wsL_law0_r40 : ∀ w ∈ wsL_law0_r40, w ∈ lw_tb2 := tin_c _ [(3, 105), (3, 106), (3, 107), (3, 108), (3, 109), (3, 112), (3, 114), (7, 14), (3, 115), (3, 116), (3, 118), (7, 15), (3, 124), (3, 126), (8, 1), (3, 127), (3, 123), (3, 128), (3, 130), (8, 2), (3, 131), (3, 119), (3, 120), (3, 122)] rfl
set_option maxRecDepth 20000 in
theorem tin_wsL_law0_r41 : ∀ w ∈ wsL_law0_r41, w ∈ lw_tb2 := tin_c _ [(8, 0), (3, 139), (3, 140), (3, 141), (3, 142), (3, 143), (3, 144), (3, 145), (3, 146), (3, 147), (3, 148), (2, 56), (2, 57), (3, 149), (2, 43), (2, 44), (2, 45), (2, 46), (2, 47), (2, 55), (2, 59), (2, 60), (2, 61), (2, 62)] rfl
set_option maxRecDepth 20000 in
theorem tin_wsL_law0_r42 : ∀ w ∈ wsL_law0_r42, w ∈ lw_tb2 := tin_c _ [(2, 64), (2, 48), (2, 77), (2, 115), (2, 116), (2, 117), (2, 118), (2, 120), (2, 121), (2, 123), (2, 125), (7, 2), (2, 126), (2, 130), (2, 132), (7, 3), (2, 133), (2, 85), (2, 86), (2, 87), (2, 88), (4, 148), (4, 149), (4, 150)] rfl
set_option maxRecDepth 20000 in
theorem tin_wsL_law0_r43 : ∀ w ∈ wsL_law0_r43, w ∈ lw_tb2 := tin_c _ [(4, 151), (4, 152), (4, 153), (4, 154), (4, 155), (4, 156), (4, 157), (4, 158), (4, 167), (2, 134), (2, 135), (2, 136), (2, 137), (2, 94), (2, 95), (2, 96), (2, 97), (4, 171), (4, 172), (4, 173), (4, 174), (4, 175), (4, 176), (4, 177)] rfl
set_option maxRecDepth 20000 in
theorem tin_wsL_law0_r44 : ∀ w ∈ wsL_law0_r44, w ∈ lw_tb2 := tin_c _ [(4, 178), (4, 179), (4, 180), (4, 181), (4, 182), (2, 138), (2, 139), (2, 140), (2, 141), (2, 142), (2, 143), (2, 144), (2, 145), (2, 146), (2, 147), (2, 148), (2, 149), (2, 150), (3, 215), (3, 216), (3, 217), (3, 218), (3, 219), (3, 220)] rfl
set_option maxRecDepth 20000 in
theorem tin_wsL_law0_r45 : ∀ w ∈ wsL_law0_r45, w ∈ lw_tb2 := tin_c _ [(3, 221), (3, 227), (3, 228), (3, 229), (3, 230), (3, 231), (3, 232), (3, 233), (3, 234), (3, 239), (4, 0), (4, 1), (4, 2), (4, 3), (4, 4), (4, 5), (4, 6), (4, 11), (4, 13), (8, 7), (4, 14), (4, 15), (4, 16), (4, 17)] rfl
set_option maxRecDepth 20000 in
theorem tin_wsL_law0_r46 : ∀ w ∈ wsL_law0_r46, w ∈ lw_tb2 := tin_c _ [(4, 18), (4, 19), (0, 238), (0, 239), (1, 1), (4, 20), (4, 22), (8, 8), (4, 23), (4, 26), (4, 27), (4, 28), (4, 30), (8, 9), (4, 31), (4, 32), (4, 34), (8, 10), (4, 35), (4, 36), (4, 37), (4, 38), (4, 41), (4, 42)] rfl
set_option maxRecDepth 20000 in
theorem tin_wsL_law0_r47 : ∀ w ∈ wsL_law0_r47, w ∈ lw_tb2 := tin_c _ [(4, 43), (4, 44), (4, 45), (4, 46), (4, 47), (4, 48), (4, 49), (4, 50), (4, 76), (4, 77), (4, 78), (4, 79), (4, 80), (4, 81), (4, 82), (4, 83), (4, 84), (4, 85), (4, 86), (4, 91), (4, 87), (4, 89), (8, 14), (4, 90)] rfl
set_option maxRecDepth 20000 in
theorem tin_wsL_law0_r48 : ∀ w ∈ wsL_law0_r48, w ∈ lw_tb2 := tin_c _ [(3, 166), (3, 167), (3, 168), (3, 171), (3, 172), (3, 173), (3, 174), (3, 194), (4, 51), (4, 52), (4, 53), (4, 54), (4, 55), (4, 56), (4, 57), (4, 58), (4, 59), (4, 60), (4, 61), (4, 62), (4, 63), (4, 65), (8, 11), (4, 66)] rfl
set_option maxRecDepth 20000 in
theorem tin_wsL_law0_r49 : ∀ w ∈ wsL_law0_r49, w ∈ lw_tb2 := tin_c _ [(4, 67), (4, 69), (8, 12), (4, 70), (4, 71), (4, 73), (8, 13), (4, 74)] rfl
set_option maxRecDepth 20000 in
theorem tin_wsX70 : ∀ w ∈ wsX70, w ∈ lw_tb2 := tin_c _ [(1, 94), (1, 96), (1, 98), (1, 100), (1, 102), (1, 104), (1, 106)] rfl
set_option maxRecDepth 20000 in
theorem tin_wsX90 : ∀ w ∈ wsX90, w ∈ lw_tb2 := tin_c _ [(1, 202)] rfl
set_option maxRecDepth 20000 in
theorem tin_wsX100 : ∀ w ∈ wsX100, w ∈ lw_tb2 := tin_c _ [(2, 6), (2, 8), (2, 10), (2, 12), (2, 14), (2, 16), (2, 18), (2, 20), (2, 22), (2, 24), (2, 26), (2, 28), (2, 30), (2, 32), (2, 34), (2, 36), (2, 38)] rfl
set_option maxRecDepth 20000 in
theorem tin_wsX10 : ∀ w ∈ wsX10, w ∈ lw_tb2 := tin_c _ [(0, 119), (0, 121), (0, 123), (0, 125), (0, 127), (0, 129), (0, 131), (0, 133), (0, 135), (0, 137), (0, 139), (0, 141), (0, 143), (0, 145), (0, 147), (0, 149)] rfl
set_option maxRecDepth 20000 in
theorem tin_wsX30 : ∀ w ∈ wsX30, w ∈ lw_tb2 := tin_c _ [(0, 208), (0, 210), (0, 212), (0, 214), (0, 216), (0, 218), (0, 220), (0, 222), (0, 224), (0, 226), (0, 228)] rfl
set_option maxRecDepth 20000 in
theorem tin_wsX20 : ∀ w ∈ wsX20, w ∈ lw_tb2 := tin_c _ [(1, 4), (1, 6), (1, 8), (1, 10), (1, 12), (1, 14), (1, 16)] rfl
set_option maxRecDepth 20000 in
theorem tin_wsX40 : ∀ w ∈ wsX40, w ∈ lw_tb2 := tin_c _ [(0, 54), (0, 56), (0, 58)] rfl
set_option maxRecDepth 20000 in
theorem tin_wsX60 : ∀ w ∈ wsX60, w ∈ lw_tb2 := tin_c _ [(0, 73), (0, 75), (0, 77), (0, 79), (0, 81)] rfl
set_option maxRecDepth 20000 in
theorem tin_wsX50 : ∀ w ∈ wsX50, w ∈ lw_tb2 := tin_c _ [(0, 177), (0, 179), (0, 181), (0, 183), (0, 185), (0, 187), (0, 189)] rfl
set_option maxRecDepth 20000 in
theorem tin_wsX00 : ∀ w ∈ wsX00, w ∈ lw_tb2 := tin_c _ [(3, 154), (3, 156)] rfl
set_option maxRecDepth 20000 in
theorem tin_wsX80 : ∀ w ∈ wsX80, w ∈ lw_tb2 := tin_c _ [(5, 26), (5, 28), (5, 30), (5, 32)] rfl
set_option maxRecDepth 20000 in
theorem tin_wsJ00 : ∀ w ∈ wsJ00, w ∈ lw_tb2 := tin_c _ [(6, 16), (6, 18), (6, 20), (6, 22)] rfl
set_option maxRecDepth 20000 in
theorem tin_wsJ40 : ∀ w ∈ wsJ40, w ∈ lw_tb2 := tin_c _ [(5, 63), (5, 65), (5, 67), (5, 69)] rfl
