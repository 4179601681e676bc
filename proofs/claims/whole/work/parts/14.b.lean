theorem updL_s {f : Nat → Int64} {i : Nat} {v : Int64} : vp_updL f i v i = v := by simp [vp_updL]
theorem case_state {p : Program} {l : Launch} {e : Env} {s : State} {m : MethodId} {args : Array Value} {below : List Frame} {meth : Method} {c1 : Code} {Q : State → Prop} {G : va_G} {K : (Nat → Nat) × (Nat → Nat)} {c : Nat → ClassId} {am ah : Nat → Nat} {ag : Nat → Nat → Nat} {ar : Nat → Nat} {out b L : Nat} {xs : Nat → Int32} (lc : LC p l s m args c1 G K c b L xs) {cells slots : Nat} {v4 : Int32} (i1 : vp_in (v4 + 1) L) (hc : cells + 3 ≤ 601024 ∧ slots + 518 ≤ 7293034) {sH : HS} {x : MS} {ps : PS} {f : Nat → Int64} (hSim : Sim sH x ps) {H : Heap} {locs : List Loc} {ls : Array Slot} (hP : va_P G vwCl (wM c am x ++ (wQ c out f ++ wH c ah ag ar ps sH)) H) (hD : va_D (fun q : Nat => s.heap.size ≤ q) (wM c am x ++ (wQ c out f ++ wH c ah ag ar ps sH))) (hS : va_S (fun q : Nat => s.heap.size ≤ q) s.heap H locs) (hl : lv_has ls 9 [(0, .ref b), (1, .ref (ah 0)), (2, .ref (am 0)), (3, .ref out), (4, .int v4)])
    (kk : ∀ (sH' : HS) (x' : MS) (ps' : PS) (f' : Nat → Int64) (H : Heap) (locs : List Loc) (ls : Array Slot), Sim sH' x' ps' → va_P G vwCl (wM c am x' ++ (wQ c out f' ++ wH c ah ag ar ps' sH')) H → va_D (fun q : Nat => s.heap.size ≤ q) (wM c am x' ++ (wQ c out f' ++ wH c ah ag ar ps' sH')) → va_S (fun q : Nat => s.heap.size ≤ q) s.heap H locs → lv_has ls 9 [(0, .ref b), (1, .ref (ah 0)), (2, .ref (am 0)), (3, .ref out), (4, .int v4)] → W p l e room_1 s m args below meth c1 H locs (cells + 3) (slots + 518) Q (F0 m 1325 ls [])) : W p l e room_1 s m args below meth c1 H locs cells slots Q (F0 m 294 ls []) := by
  have lc0 := lc
  obtain ⟨hl0, hx, hb, hml, hown, hts, hX, hbl, hK, hN, hZ, hXA, hXW, hNC⟩ := lc
  have hA : ∀ q : Nat, s.heap.size ≤ q → (fun q : Nat => s.heap.size ≤ q) q := fun _ h => h
  have hbA : ¬ (fun q : Nat => s.heap.size ≤ q) b := Nat.not_le.mpr hbl
  refine lv_aload_n hx hb dL_law_294 rfl (lv_at hl 1 rfl) ?_
  refine lv_aload_n hx hb dL_law_295 rfl (lv_at hl 0 rfl) ?_
  refine lv_iload hx hb dL_law_296 (lv_at hl 4 rfl) ?_
  refine lv_iconst (v := 1) hx hb dL_law_298 (by decide) ?_
  refine lv_iadd hx hb dL_law_299 ?_
  refine va_sld hx hb hX hbl hbA hS i1 dL_law_300 ?_
  refine lv_aload_n hx hb dL_law_301 rfl (lv_at hl 3 rfl) ?_
  rcases o_state hSim (xs (v4 + 1).toNatClampNeg) with ⟨r, x', e1, e2, e3, hS'⟩ | ⟨E, c0, r, x', hEc, e1, e2, e3, hS'⟩
  · skip
    refine zcLi (wr := wM c am x) (wc := wQ c out f ++ wH c ah ag ar ps sH) (As := [.ref (ah 0), .int (xs (v4 + 1).toNatClampNeg), .ref out]) (rest := []) ⟨hx, hb, hml, hown, hts⟩ (w_state l G K c ah ag ar (ps := ps) (hm := e1) (out := out) (f := f)) (vx_cwSW 3 hts gL_law_L_state rfl rfl rfl (by decide +kernel) ⟨Nat.le_of_ble_eq_true rfl, Nat.le_of_ble_eq_true rfl⟩) hK hN hZ hXA hXW hNC hP hD hS hA rfl hl.1 rfl (Nat.le_of_ble_eq_true rfl) dL_law_302 ⟨by show cells + 0 ≤ 601024; omega, by show slots + 0 ≤ 7293034; omega⟩ (fun aa H locs hP hD hS => ?_)
    refine tail_state lc0 i1 ⟨by omega, by omega⟩ e2 e3 (fun _ => updL_s) hP hD hS hl (fun H locs ls hP hD hS hl => ?_)
    refine W.widen (k := cells + 3) (n := slots + 518) (by omega) (by omega) ?_
    exact kk sH x' ps _ H locs ls hS' hP hD hS hl
  · simp only [List.mem_cons, Prod.mk.injEq, List.not_mem_nil, or_false] at hEc
    rcases hEc with ⟨rfl, rfl⟩
    · skip
      refine zcLi (wr := wM c am x) (wc := wQ c out f ++ wH c ah ag ar ps sH) (As := [.ref (ah 0), .int (xs (v4 + 1).toNatClampNeg), .ref out]) (rest := []) ⟨hx, hb, hml, hown, hts⟩ (wt_state_1 l hl0 G K c ah ag ar (ps := ps) (hm := e1) (out := out) (f := f)) (vx_cwSW 3 hts gL_law_L_state rfl rfl rfl (by decide +kernel) ⟨Nat.le_of_ble_eq_true rfl, Nat.le_of_ble_eq_true rfl⟩) hK hN hZ hXA hXW hNC hP hD hS hA rfl hl.1 rfl (Nat.le_of_ble_eq_true rfl) dL_law_302 ⟨by show cells + 1 ≤ 601024; omega, by show slots + 6 ≤ 7293034; omega⟩ (fun aa H locs hP hD hS => ?_)
      refine tail_state lc0 i1 ⟨by omega, by omega⟩ e2 e3 (fun h => absurd h (by decide)) hP hD hS hl (fun H locs ls hP hD hS hl => ?_)
      refine W.widen (k := cells + 3) (n := slots + 518) (by omega) (by omega) ?_
      exact kk sH x' ps _ H locs ls hS' hP hD hS hl
theorem case_player {p : Program} {l : Launch} {e : Env} {s : State} {m : MethodId} {args : Array Value} {below : List Frame} {meth : Method} {c1 : Code} {Q : State → Prop} {G : va_G} {K : (Nat → Nat) × (Nat → Nat)} {c : Nat → ClassId} {am ah : Nat → Nat} {ag : Nat → Nat → Nat} {ar : Nat → Nat} {out b L : Nat} {xs : Nat → Int32} (lc : LC p l s m args c1 G K c b L xs) {cells slots : Nat} {v4 : Int32} (i1 : vp_in (v4 + 1) L) (i2 : vp_in (v4 + 2) L) (hc : cells + 3 ≤ 601024 ∧ slots + 518 ≤ 7293034) {sH : HS} {x : MS} {ps : PS} {f : Nat → Int64} (hSim : Sim sH x ps) {H : Heap} {locs : List Loc} {ls : Array Slot} (hP : va_P G vwCl (wM c am x ++ (wQ c out f ++ wH c ah ag ar ps sH)) H) (hD : va_D (fun q : Nat => s.heap.size ≤ q) (wM c am x ++ (wQ c out f ++ wH c ah ag ar ps sH))) (hS : va_S (fun q : Nat => s.heap.size ≤ q) s.heap H locs) (hl : lv_has ls 9 [(0, .ref b), (1, .ref (ah 0)), (2, .ref (am 0)), (3, .ref out), (4, .int v4)])
    (kk : ∀ (sH' : HS) (x' : MS) (ps' : PS) (f' : Nat → Int64) (H : Heap) (locs : List Loc) (ls : Array Slot), Sim sH' x' ps' → va_P G vwCl (wM c am x' ++ (wQ c out f' ++ wH c ah ag ar ps' sH')) H → va_D (fun q : Nat => s.heap.size ≤ q) (wM c am x' ++ (wQ c out f' ++ wH c ah ag ar ps' sH')) → va_S (fun q : Nat => s.heap.size ≤ q) s.heap H locs → lv_has ls 9 [(0, .ref b), (1, .ref (ah 0)), (2, .ref (am 0)), (3, .ref out), (4, .int v4)] → W p l e room_1 s m args below meth c1 H locs (cells + 3) (slots + 518) Q (F0 m 1325 ls [])) : W p l e room_1 s m args below meth c1 H locs cells slots Q (F0 m 350 ls []) := by
  have lc0 := lc
  obtain ⟨hl0, hx, hb, hml, hown, hts, hX, hbl, hK, hN, hZ, hXA, hXW, hNC⟩ := lc
  have hA : ∀ q : Nat, s.heap.size ≤ q → (fun q : Nat => s.heap.size ≤ q) q := fun _ h => h
  have hbA : ¬ (fun q : Nat => s.heap.size ≤ q) b := Nat.not_le.mpr hbl
  refine lv_aload_n hx hb dL_law_350 rfl (lv_at hl 1 rfl) ?_
  refine lv_aload_n hx hb dL_law_351 rfl (lv_at hl 0 rfl) ?_
  refine lv_iload hx hb dL_law_352 (lv_at hl 4 rfl) ?_
  refine lv_iconst (v := 1) hx hb dL_law_354 (by decide) ?_
  refine lv_iadd hx hb dL_law_355 ?_
  refine va_sld hx hb hX hbl hbA hS i1 dL_law_356 ?_
  refine lv_aload_n hx hb dL_law_357 rfl (lv_at hl 0 rfl) ?_
  refine lv_iload hx hb dL_law_358 (lv_at hl 4 rfl) ?_
  refine lv_iconst (v := 2) hx hb dL_law_360 (by decide) ?_
  refine lv_iadd hx hb dL_law_361 ?_
  refine va_sld hx hb hX hbl hbA hS i2 dL_law_362 ?_
  refine lv_aload_n hx hb dL_law_363 rfl (lv_at hl 3 rfl) ?_
  rcases o_player hSim (xs (v4 + 1).toNatClampNeg) (xs (v4 + 2).toNatClampNeg) with ⟨r, x', e1, e2, e3, hS'⟩ | ⟨E, c0, r, x', hEc, e1, e2, e3, hS'⟩
  · skip
    refine zcLi (wr := wM c am x) (wc := wQ c out f ++ wH c ah ag ar ps sH) (As := [.ref (ah 0), .int (xs (v4 + 1).toNatClampNeg), .int (xs (v4 + 2).toNatClampNeg), .ref out]) (rest := []) ⟨hx, hb, hml, hown, hts⟩ (w_player l G K c ah ag ar (ps := ps) (hm := e1) (out := out) (f := f)) (vx_cwSW 4 hts gL_law_L_player rfl rfl rfl (by decide +kernel) ⟨Nat.le_of_ble_eq_true rfl, Nat.le_of_ble_eq_true rfl⟩) hK hN hZ hXA hXW hNC hP hD hS hA rfl hl.1 rfl (Nat.le_of_ble_eq_true rfl) dL_law_364 ⟨by show cells + 0 ≤ 601024; omega, by show slots + 0 ≤ 7293034; omega⟩ (fun aa H locs hP hD hS => ?_)
    refine tail_player lc0 i1 i2 ⟨by omega, by omega⟩ e2 e3 (fun _ => updL_s) hP hD hS hl (fun H locs ls hP hD hS hl => ?_)
    refine W.widen (k := cells + 3) (n := slots + 518) (by omega) (by omega) ?_
    exact kk sH x' ps _ H locs ls hS' hP hD hS hl
  · simp only [List.mem_cons, Prod.mk.injEq, List.not_mem_nil, or_false] at hEc
    rcases hEc with ⟨rfl, rfl⟩ | ⟨rfl, rfl⟩
    · skip
      refine zcLi (wr := wM c am x) (wc := wQ c out f ++ wH c ah ag ar ps sH) (As := [.ref (ah 0), .int (xs (v4 + 1).toNatClampNeg), .int (xs (v4 + 2).toNatClampNeg), .ref out]) (rest := []) ⟨hx, hb, hml, hown, hts⟩ (wt_player_1 l hl0 G K c ah ag ar (ps := ps) (hm := e1) (out := out) (f := f)) (vx_cwSW 4 hts gL_law_L_player rfl rfl rfl (by decide +kernel) ⟨Nat.le_of_ble_eq_true rfl, Nat.le_of_ble_eq_true rfl⟩) hK hN hZ hXA hXW hNC hP hD hS hA rfl hl.1 rfl (Nat.le_of_ble_eq_true rfl) dL_law_364 ⟨by show cells + 1 ≤ 601024; omega, by show slots + 6 ≤ 7293034; omega⟩ (fun aa H locs hP hD hS => ?_)
      refine tail_player lc0 i1 i2 ⟨by omega, by omega⟩ e2 e3 (fun h => absurd h (by decide)) hP hD hS hl (fun H locs ls hP hD hS hl => ?_)
      refine W.widen (k := cells + 3) (n := slots + 518) (by omega) (by omega) ?_
      exact kk sH x' ps _ H locs ls hS' hP hD hS hl
    · skip
      refine zcLi (wr := wM c am x) (wc := wQ c out f ++ wH c ah ag ar ps sH) (As := [.ref (ah 0), .int (xs (v4 + 1).toNatClampNeg), .int (xs (v4 + 2).toNatClampNeg), .ref out]) (rest := []) ⟨hx, hb, hml, hown, hts⟩ (wt_player_2 l hl0 G K c ah ag ar (ps := ps) (hm := e1) (out := out) (f := f)) (vx_cwSW 4 hts gL_law_L_player rfl rfl rfl (by decide +kernel) ⟨Nat.le_of_ble_eq_true rfl, Nat.le_of_ble_eq_true rfl⟩) hK hN hZ hXA hXW hNC hP hD hS hA rfl hl.1 rfl (Nat.le_of_ble_eq_true rfl) dL_law_364 ⟨by show cells + 1 ≤ 601024; omega, by show slots + 6 ≤ 7293034; omega⟩ (fun aa H locs hP hD hS => ?_)
      refine tail_player lc0 i1 i2 ⟨by omega, by omega⟩ e2 e3 (fun h => absurd h (by decide)) hP hD hS hl (fun H locs ls hP hD hS hl => ?_)
      refine W.widen (k := cells + 3) (n := slots + 518) (by omega) (by omega) ?_
      exact kk sH x' ps _ H locs ls hS' hP hD hS hl
theorem case_tile {p : Program} {l : Launch} {e : Env} {s : State} {m : MethodId} {args : Array Value} {below : List Frame} {meth : Method} {c1 : Code} {Q : State → Prop} {G : va_G} {K : (Nat → Nat) × (Nat → Nat)} {c : Nat → ClassId} {am ah : Nat → Nat} {ag : Nat → Nat → Nat} {ar : Nat → Nat} {out b L : Nat} {xs : Nat → Int32} (lc : LC p l s m args c1 G K c b L xs) {cells slots : Nat} {v4 : Int32} (i1 : vp_in (v4 + 1) L) (i2 : vp_in (v4 + 2) L) (hc : cells + 3 ≤ 601024 ∧ slots + 518 ≤ 7293034) {sH : HS} {x : MS} {ps : PS} {f : Nat → Int64} (hSim : Sim sH x ps) {H : Heap} {locs : List Loc} {ls : Array Slot} (hP : va_P G vwCl (wM c am x ++ (wQ c out f ++ wH c ah ag ar ps sH)) H) (hD : va_D (fun q : Nat => s.heap.size ≤ q) (wM c am x ++ (wQ c out f ++ wH c ah ag ar ps sH))) (hS : va_S (fun q : Nat => s.heap.size ≤ q) s.heap H locs) (hl : lv_has ls 9 [(0, .ref b), (1, .ref (ah 0)), (2, .ref (am 0)), (3, .ref out), (4, .int v4)])
    (kk : ∀ (sH' : HS) (x' : MS) (ps' : PS) (f' : Nat → Int64) (H : Heap) (locs : List Loc) (ls : Array Slot), Sim sH' x' ps' → va_P G vwCl (wM c am x' ++ (wQ c out f' ++ wH c ah ag ar ps' sH')) H → va_D (fun q : Nat => s.heap.size ≤ q) (wM c am x' ++ (wQ c out f' ++ wH c ah ag ar ps' sH')) → va_S (fun q : Nat => s.heap.size ≤ q) s.heap H locs → lv_has ls 9 [(0, .ref b), (1, .ref (ah 0)), (2, .ref (am 0)), (3, .ref out), (4, .int v4)] → W p l e room_1 s m args below meth c1 H locs (cells + 3) (slots + 518) Q (F0 m 1325 ls [])) : W p l e room_1 s m args below meth c1 H locs cells slots Q (F0 m 418 ls []) := by
  have lc0 := lc
  obtain ⟨hl0, hx, hb, hml, hown, hts, hX, hbl, hK, hN, hZ, hXA, hXW, hNC⟩ := lc
  have hA : ∀ q : Nat, s.heap.size ≤ q → (fun q : Nat => s.heap.size ≤ q) q := fun _ h => h
  have hbA : ¬ (fun q : Nat => s.heap.size ≤ q) b := Nat.not_le.mpr hbl
  refine lv_aload_n hx hb dL_law_418 rfl (lv_at hl 1 rfl) ?_
  refine lv_aload_n hx hb dL_law_419 rfl (lv_at hl 0 rfl) ?_
  refine lv_iload hx hb dL_law_420 (lv_at hl 4 rfl) ?_
  refine lv_iconst (v := 1) hx hb dL_law_422 (by decide) ?_
  refine lv_iadd hx hb dL_law_423 ?_
  refine va_sld hx hb hX hbl hbA hS i1 dL_law_424 ?_
  refine lv_aload_n hx hb dL_law_425 rfl (lv_at hl 0 rfl) ?_
  refine lv_iload hx hb dL_law_426 (lv_at hl 4 rfl) ?_
  refine lv_iconst (v := 2) hx hb dL_law_428 (by decide) ?_
  refine lv_iadd hx hb dL_law_429 ?_
  refine va_sld hx hb hX hbl hbA hS i2 dL_law_430 ?_
  refine lv_aload_n hx hb dL_law_431 rfl (lv_at hl 3 rfl) ?_
  rcases o_tile hSim (xs (v4 + 1).toNatClampNeg) (xs (v4 + 2).toNatClampNeg) with ⟨r, x', e1, e2, e3, hS'⟩ | ⟨E, c0, r, x', hEc, e1, e2, e3, hS'⟩
  · skip
    refine zcLi (wr := wM c am x) (wc := wQ c out f ++ wH c ah ag ar ps sH) (As := [.ref (ah 0), .int (xs (v4 + 1).toNatClampNeg), .int (xs (v4 + 2).toNatClampNeg), .ref out]) (rest := []) ⟨hx, hb, hml, hown, hts⟩ (w_tile l G K c ah ag ar (ps := ps) (hm := e1) (out := out) (f := f)) (vx_cwSW 4 hts gL_law_L_tile rfl rfl rfl (by decide +kernel) ⟨Nat.le_of_ble_eq_true rfl, Nat.le_of_ble_eq_true rfl⟩) hK hN hZ hXA hXW hNC hP hD hS hA rfl hl.1 rfl (Nat.le_of_ble_eq_true rfl) dL_law_432 ⟨by show cells + 0 ≤ 601024; omega, by show slots + 0 ≤ 7293034; omega⟩ (fun aa H locs hP hD hS => ?_)
    refine tail_tile lc0 i1 i2 ⟨by omega, by omega⟩ e2 e3 (fun _ => updL_s) hP hD hS hl (fun H locs ls hP hD hS hl => ?_)
    refine W.widen (k := cells + 3) (n := slots + 518) (by omega) (by omega) ?_
    exact kk sH x' ps _ H locs ls hS' hP hD hS hl
  · simp only [List.mem_cons, Prod.mk.injEq, List.not_mem_nil, or_false] at hEc
    rcases hEc with ⟨rfl, rfl⟩ | ⟨rfl, rfl⟩
    · skip
      refine zcLi (wr := wM c am x) (wc := wQ c out f ++ wH c ah ag ar ps sH) (As := [.ref (ah 0), .int (xs (v4 + 1).toNatClampNeg), .int (xs (v4 + 2).toNatClampNeg), .ref out]) (rest := []) ⟨hx, hb, hml, hown, hts⟩ (wt_tile_1 l hl0 G K c ah ag ar (ps := ps) (hm := e1) (out := out) (f := f)) (vx_cwSW 4 hts gL_law_L_tile rfl rfl rfl (by decide +kernel) ⟨Nat.le_of_ble_eq_true rfl, Nat.le_of_ble_eq_true rfl⟩) hK hN hZ hXA hXW hNC hP hD hS hA rfl hl.1 rfl (Nat.le_of_ble_eq_true rfl) dL_law_432 ⟨by show cells + 1 ≤ 601024; omega, by show slots + 6 ≤ 7293034; omega⟩ (fun aa H locs hP hD hS => ?_)
      refine tail_tile lc0 i1 i2 ⟨by omega, by omega⟩ e2 e3 (fun h => absurd h (by decide)) hP hD hS hl (fun H locs ls hP hD hS hl => ?_)
      refine W.widen (k := cells + 3) (n := slots + 518) (by omega) (by omega) ?_
      exact kk sH x' ps _ H locs ls hS' hP hD hS hl
    · skip
      refine zcLi (wr := wM c am x) (wc := wQ c out f ++ wH c ah ag ar ps sH) (As := [.ref (ah 0), .int (xs (v4 + 1).toNatClampNeg), .int (xs (v4 + 2).toNatClampNeg), .ref out]) (rest := []) ⟨hx, hb, hml, hown, hts⟩ (wt_tile_2 l hl0 G K c ah ag ar (ps := ps) (hm := e1) (out := out) (f := f)) (vx_cwSW 4 hts gL_law_L_tile rfl rfl rfl (by decide +kernel) ⟨Nat.le_of_ble_eq_true rfl, Nat.le_of_ble_eq_true rfl⟩) hK hN hZ hXA hXW hNC hP hD hS hA rfl hl.1 rfl (Nat.le_of_ble_eq_true rfl) dL_law_432 ⟨by show cells + 1 ≤ 601024; omega, by show slots + 6 ≤ 7293034; omega⟩ (fun aa H locs hP hD hS => ?_)
      refine tail_tile lc0 i1 i2 ⟨by omega, by omega⟩ e2 e3 (fun h => absurd h (by decide)) hP hD hS hl (fun H locs ls hP hD hS hl => ?_)
      refine W.widen (k := cells + 3) (n := slots + 518) (by omega) (by omega) ?_
      exact kk sH x' ps _ H locs ls hS' hP hD hS hl
theorem case_train {p : Program} {l : Launch} {e : Env} {s : State} {m : MethodId} {args : Array Value} {below : List Frame} {meth : Method} {c1 : Code} {Q : State → Prop} {G : va_G} {K : (Nat → Nat) × (Nat → Nat)} {c : Nat → ClassId} {am ah : Nat → Nat} {ag : Nat → Nat → Nat} {ar : Nat → Nat} {out b L : Nat} {xs : Nat → Int32} (lc : LC p l s m args c1 G K c b L xs) {cells slots : Nat} {v4 : Int32} (i1 : vp_in (v4 + 1) L) (i2 : vp_in (v4 + 2) L) (hc : cells + 3 ≤ 601024 ∧ slots + 518 ≤ 7293034) {sH : HS} {x : MS} {ps : PS} {f : Nat → Int64} (hSim : Sim sH x ps) {H : Heap} {locs : List Loc} {ls : Array Slot} (hP : va_P G vwCl (wM c am x ++ (wQ c out f ++ wH c ah ag ar ps sH)) H) (hD : va_D (fun q : Nat => s.heap.size ≤ q) (wM c am x ++ (wQ c out f ++ wH c ah ag ar ps sH))) (hS : va_S (fun q : Nat => s.heap.size ≤ q) s.heap H locs) (hl : lv_has ls 9 [(0, .ref b), (1, .ref (ah 0)), (2, .ref (am 0)), (3, .ref out), (4, .int v4)])
    (kk : ∀ (sH' : HS) (x' : MS) (ps' : PS) (f' : Nat → Int64) (H : Heap) (locs : List Loc) (ls : Array Slot), Sim sH' x' ps' → va_P G vwCl (wM c am x' ++ (wQ c out f' ++ wH c ah ag ar ps' sH')) H → va_D (fun q : Nat => s.heap.size ≤ q) (wM c am x' ++ (wQ c out f' ++ wH c ah ag ar ps' sH')) → va_S (fun q : Nat => s.heap.size ≤ q) s.heap H locs → lv_has ls 9 [(0, .ref b), (1, .ref (ah 0)), (2, .ref (am 0)), (3, .ref out), (4, .int v4)] → W p l e room_1 s m args below meth c1 H locs (cells + 3) (slots + 518) Q (F0 m 1325 ls [])) : W p l e room_1 s m args below meth c1 H locs cells slots Q (F0 m 486 ls []) := by
  have lc0 := lc
  obtain ⟨hl0, hx, hb, hml, hown, hts, hX, hbl, hK, hN, hZ, hXA, hXW, hNC⟩ := lc
  have hA : ∀ q : Nat, s.heap.size ≤ q → (fun q : Nat => s.heap.size ≤ q) q := fun _ h => h
  have hbA : ¬ (fun q : Nat => s.heap.size ≤ q) b := Nat.not_le.mpr hbl
  refine lv_aload_n hx hb dL_law_486 rfl (lv_at hl 1 rfl) ?_
  refine lv_aload_n hx hb dL_law_487 rfl (lv_at hl 0 rfl) ?_
  refine lv_iload hx hb dL_law_488 (lv_at hl 4 rfl) ?_
  refine lv_iconst (v := 1) hx hb dL_law_490 (by decide) ?_
  refine lv_iadd hx hb dL_law_491 ?_
  refine va_sld hx hb hX hbl hbA hS i1 dL_law_492 ?_
  refine lv_aload_n hx hb dL_law_493 rfl (lv_at hl 0 rfl) ?_
  refine lv_iload hx hb dL_law_494 (lv_at hl 4 rfl) ?_
  refine lv_iconst (v := 2) hx hb dL_law_496 (by decide) ?_
  refine lv_iadd hx hb dL_law_497 ?_
  refine va_sld hx hb hX hbl hbA hS i2 dL_law_498 ?_
  refine lv_aload_n hx hb dL_law_499 rfl (lv_at hl 3 rfl) ?_
  rcases o_train hSim (xs (v4 + 1).toNatClampNeg) (xs (v4 + 2).toNatClampNeg) with ⟨r, x', e1, e2, e3, hS'⟩ | ⟨E, c0, r, x', hEc, e1, e2, e3, hS'⟩
  · skip
    refine zcLi (wr := wM c am x) (wc := wQ c out f ++ wH c ah ag ar ps sH) (As := [.ref (ah 0), .int (xs (v4 + 1).toNatClampNeg), .int (xs (v4 + 2).toNatClampNeg), .ref out]) (rest := []) ⟨hx, hb, hml, hown, hts⟩ (w_train l G K c ah ag ar (ps := ps) (hm := e1) (out := out) (f := f)) (vx_cwSW 4 hts gL_law_L_train rfl rfl rfl (by decide +kernel) ⟨Nat.le_of_ble_eq_true rfl, Nat.le_of_ble_eq_true rfl⟩) hK hN hZ hXA hXW hNC hP hD hS hA rfl hl.1 rfl (Nat.le_of_ble_eq_true rfl) dL_law_500 ⟨by show cells + 0 ≤ 601024; omega, by show slots + 0 ≤ 7293034; omega⟩ (fun aa H locs hP hD hS => ?_)
    refine tail_train lc0 i1 i2 ⟨by omega, by omega⟩ e2 e3 (fun _ => updL_s) hP hD hS hl (fun H locs ls hP hD hS hl => ?_)
    refine W.widen (k := cells + 3) (n := slots + 518) (by omega) (by omega) ?_
    exact kk sH x' ps _ H locs ls hS' hP hD hS hl
  · simp only [List.mem_cons, Prod.mk.injEq, List.not_mem_nil, or_false] at hEc
    rcases hEc with ⟨rfl, rfl⟩ | ⟨rfl, rfl⟩
    · skip
      refine zcLi (wr := wM c am x) (wc := wQ c out f ++ wH c ah ag ar ps sH) (As := [.ref (ah 0), .int (xs (v4 + 1).toNatClampNeg), .int (xs (v4 + 2).toNatClampNeg), .ref out]) (rest := []) ⟨hx, hb, hml, hown, hts⟩ (wt_train_1 l hl0 G K c ah ag ar (ps := ps) (hm := e1) (out := out) (f := f)) (vx_cwSW 4 hts gL_law_L_train rfl rfl rfl (by decide +kernel) ⟨Nat.le_of_ble_eq_true rfl, Nat.le_of_ble_eq_true rfl⟩) hK hN hZ hXA hXW hNC hP hD hS hA rfl hl.1 rfl (Nat.le_of_ble_eq_true rfl) dL_law_500 ⟨by show cells + 1 ≤ 601024; omega, by show slots + 6 ≤ 7293034; omega⟩ (fun aa H locs hP hD hS => ?_)
      refine tail_train lc0 i1 i2 ⟨by omega, by omega⟩ e2 e3 (fun h => absurd h (by decide)) hP hD hS hl (fun H locs ls hP hD hS hl => ?_)
      refine W.widen (k := cells + 3) (n := slots + 518) (by omega) (by omega) ?_
      exact kk sH x' ps _ H locs ls hS' hP hD hS hl
    · skip
      refine zcLi (wr := wM c am x) (wc := wQ c out f ++ wH c ah ag ar ps sH) (As := [.ref (ah 0), .int (xs (v4 + 1).toNatClampNeg), .int (xs (v4 + 2).toNatClampNeg), .ref out]) (rest := []) ⟨hx, hb, hml, hown, hts⟩ (wt_train_2 l hl0 G K c ah ag ar (ps := ps) (hm := e1) (out := out) (f := f)) (vx_cwSW 4 hts gL_law_L_train rfl rfl rfl (by decide +kernel) ⟨Nat.le_of_ble_eq_true rfl, Nat.le_of_ble_eq_true rfl⟩) hK hN hZ hXA hXW hNC hP hD hS hA rfl hl.1 rfl (Nat.le_of_ble_eq_true rfl) dL_law_500 ⟨by show cells + 1 ≤ 601024; omega, by show slots + 6 ≤ 7293034; omega⟩ (fun aa H locs hP hD hS => ?_)
      refine tail_train lc0 i1 i2 ⟨by omega, by omega⟩ e2 e3 (fun h => absurd h (by decide)) hP hD hS hl (fun H locs ls hP hD hS hl => ?_)
      refine W.widen (k := cells + 3) (n := slots + 518) (by omega) (by omega) ?_
      exact kk sH x' ps _ H locs ls hS' hP hD hS hl
theorem case_laid {p : Program} {l : Launch} {e : Env} {s : State} {m : MethodId} {args : Array Value} {below : List Frame} {meth : Method} {c1 : Code} {Q : State → Prop} {G : va_G} {K : (Nat → Nat) × (Nat → Nat)} {c : Nat → ClassId} {am ah : Nat → Nat} {ag : Nat → Nat → Nat} {ar : Nat → Nat} {out b L : Nat} {xs : Nat → Int32} (lc : LC p l s m args c1 G K c b L xs) {cells slots : Nat} {v4 : Int32} (i1 : vp_in (v4 + 1) L) (i2 : vp_in (v4 + 2) L) (hc : cells + 3 ≤ 601024 ∧ slots + 518 ≤ 7293034) {sH : HS} {x : MS} {ps : PS} {f : Nat → Int64} (hSim : Sim sH x ps) {H : Heap} {locs : List Loc} {ls : Array Slot} (hP : va_P G vwCl (wM c am x ++ (wQ c out f ++ wH c ah ag ar ps sH)) H) (hD : va_D (fun q : Nat => s.heap.size ≤ q) (wM c am x ++ (wQ c out f ++ wH c ah ag ar ps sH))) (hS : va_S (fun q : Nat => s.heap.size ≤ q) s.heap H locs) (hl : lv_has ls 9 [(0, .ref b), (1, .ref (ah 0)), (2, .ref (am 0)), (3, .ref out), (4, .int v4)])
    (kk : ∀ (sH' : HS) (x' : MS) (ps' : PS) (f' : Nat → Int64) (H : Heap) (locs : List Loc) (ls : Array Slot), Sim sH' x' ps' → va_P G vwCl (wM c am x' ++ (wQ c out f' ++ wH c ah ag ar ps' sH')) H → va_D (fun q : Nat => s.heap.size ≤ q) (wM c am x' ++ (wQ c out f' ++ wH c ah ag ar ps' sH')) → va_S (fun q : Nat => s.heap.size ≤ q) s.heap H locs → lv_has ls 9 [(0, .ref b), (1, .ref (ah 0)), (2, .ref (am 0)), (3, .ref out), (4, .int v4)] → W p l e room_1 s m args below meth c1 H locs (cells + 3) (slots + 518) Q (F0 m 1325 ls [])) : W p l e room_1 s m args below meth c1 H locs cells slots Q (F0 m 554 ls []) := by
  have lc0 := lc
  obtain ⟨hl0, hx, hb, hml, hown, hts, hX, hbl, hK, hN, hZ, hXA, hXW, hNC⟩ := lc
  have hA : ∀ q : Nat, s.heap.size ≤ q → (fun q : Nat => s.heap.size ≤ q) q := fun _ h => h
  have hbA : ¬ (fun q : Nat => s.heap.size ≤ q) b := Nat.not_le.mpr hbl
  refine lv_aload_n hx hb dL_law_554 rfl (lv_at hl 1 rfl) ?_
  refine lv_aload_n hx hb dL_law_555 rfl (lv_at hl 0 rfl) ?_
  refine lv_iload hx hb dL_law_556 (lv_at hl 4 rfl) ?_
  refine lv_iconst (v := 1) hx hb dL_law_558 (by decide) ?_
  refine lv_iadd hx hb dL_law_559 ?_
  refine va_sld hx hb hX hbl hbA hS i1 dL_law_560 ?_
  refine lv_aload_n hx hb dL_law_561 rfl (lv_at hl 0 rfl) ?_
  refine lv_iload hx hb dL_law_562 (lv_at hl 4 rfl) ?_
  refine lv_iconst (v := 2) hx hb dL_law_564 (by decide) ?_
  refine lv_iadd hx hb dL_law_565 ?_
  refine va_sld hx hb hX hbl hbA hS i2 dL_law_566 ?_
  refine lv_aload_n hx hb dL_law_567 rfl (lv_at hl 3 rfl) ?_
  rcases o_laid hSim (xs (v4 + 1).toNatClampNeg) (xs (v4 + 2).toNatClampNeg) with ⟨r, x', e1, e2, e3, hS'⟩ | ⟨E, c0, r, x', hEc, e1, e2, e3, hS'⟩
  · skip
    refine zcLi (wr := wM c am x) (wc := wQ c out f ++ wH c ah ag ar ps sH) (As := [.ref (ah 0), .int (xs (v4 + 1).toNatClampNeg), .int (xs (v4 + 2).toNatClampNeg), .ref out]) (rest := []) ⟨hx, hb, hml, hown, hts⟩ (w_laid l G K c ah ag ar (ps := ps) (hm := e1) (out := out) (f := f)) (vx_cwSW 4 hts gL_law_L_laid rfl rfl rfl (by decide +kernel) ⟨Nat.le_of_ble_eq_true rfl, Nat.le_of_ble_eq_true rfl⟩) hK hN hZ hXA hXW hNC hP hD hS hA rfl hl.1 rfl (Nat.le_of_ble_eq_true rfl) dL_law_568 ⟨by show cells + 0 ≤ 601024; omega, by show slots + 0 ≤ 7293034; omega⟩ (fun aa H locs hP hD hS => ?_)
    refine tail_laid lc0 i1 i2 ⟨by omega, by omega⟩ e2 e3 (fun _ => updL_s) hP hD hS hl (fun H locs ls hP hD hS hl => ?_)
    refine W.widen (k := cells + 3) (n := slots + 518) (by omega) (by omega) ?_
    exact kk sH x' ps _ H locs ls hS' hP hD hS hl
  · simp only [List.mem_cons, Prod.mk.injEq, List.not_mem_nil, or_false] at hEc
    rcases hEc with ⟨rfl, rfl⟩ | ⟨rfl, rfl⟩
    · skip
      refine zcLi (wr := wM c am x) (wc := wQ c out f ++ wH c ah ag ar ps sH) (As := [.ref (ah 0), .int (xs (v4 + 1).toNatClampNeg), .int (xs (v4 + 2).toNatClampNeg), .ref out]) (rest := []) ⟨hx, hb, hml, hown, hts⟩ (wt_laid_1 l hl0 G K c ah ag ar (ps := ps) (hm := e1) (out := out) (f := f)) (vx_cwSW 4 hts gL_law_L_laid rfl rfl rfl (by decide +kernel) ⟨Nat.le_of_ble_eq_true rfl, Nat.le_of_ble_eq_true rfl⟩) hK hN hZ hXA hXW hNC hP hD hS hA rfl hl.1 rfl (Nat.le_of_ble_eq_true rfl) dL_law_568 ⟨by show cells + 1 ≤ 601024; omega, by show slots + 6 ≤ 7293034; omega⟩ (fun aa H locs hP hD hS => ?_)
      refine tail_laid lc0 i1 i2 ⟨by omega, by omega⟩ e2 e3 (fun h => absurd h (by decide)) hP hD hS hl (fun H locs ls hP hD hS hl => ?_)
      refine W.widen (k := cells + 3) (n := slots + 518) (by omega) (by omega) ?_
      exact kk sH x' ps _ H locs ls hS' hP hD hS hl
    · skip
      refine zcLi (wr := wM c am x) (wc := wQ c out f ++ wH c ah ag ar ps sH) (As := [.ref (ah 0), .int (xs (v4 + 1).toNatClampNeg), .int (xs (v4 + 2).toNatClampNeg), .ref out]) (rest := []) ⟨hx, hb, hml, hown, hts⟩ (wt_laid_2 l hl0 G K c ah ag ar (ps := ps) (hm := e1) (out := out) (f := f)) (vx_cwSW 4 hts gL_law_L_laid rfl rfl rfl (by decide +kernel) ⟨Nat.le_of_ble_eq_true rfl, Nat.le_of_ble_eq_true rfl⟩) hK hN hZ hXA hXW hNC hP hD hS hA rfl hl.1 rfl (Nat.le_of_ble_eq_true rfl) dL_law_568 ⟨by show cells + 1 ≤ 601024; omega, by show slots + 6 ≤ 7293034; omega⟩ (fun aa H locs hP hD hS => ?_)
      refine tail_laid lc0 i1 i2 ⟨by omega, by omega⟩ e2 e3 (fun h => absurd h (by decide)) hP hD hS hl (fun H locs ls hP hD hS hl => ?_)
      refine W.widen (k := cells + 3) (n := slots + 518) (by omega) (by omega) ?_
      exact kk sH x' ps _ H locs ls hS' hP hD hS hl
theorem case_why {p : Program} {l : Launch} {e : Env} {s : State} {m : MethodId} {args : Array Value} {below : List Frame} {meth : Method} {c1 : Code} {Q : State → Prop} {G : va_G} {K : (Nat → Nat) × (Nat → Nat)} {c : Nat → ClassId} {am ah : Nat → Nat} {ag : Nat → Nat → Nat} {ar : Nat → Nat} {out b L : Nat} {xs : Nat → Int32} (lc : LC p l s m args c1 G K c b L xs) {cells slots : Nat} {v4 : Int32} (i1 : vp_in (v4 + 1) L) (i2 : vp_in (v4 + 2) L) (hc : cells + 3 ≤ 601024 ∧ slots + 518 ≤ 7293034) {sH : HS} {x : MS} {ps : PS} {f : Nat → Int64} (hSim : Sim sH x ps) {H : Heap} {locs : List Loc} {ls : Array Slot} (hP : va_P G vwCl (wM c am x ++ (wQ c out f ++ wH c ah ag ar ps sH)) H) (hD : va_D (fun q : Nat => s.heap.size ≤ q) (wM c am x ++ (wQ c out f ++ wH c ah ag ar ps sH))) (hS : va_S (fun q : Nat => s.heap.size ≤ q) s.heap H locs) (hl : lv_has ls 9 [(0, .ref b), (1, .ref (ah 0)), (2, .ref (am 0)), (3, .ref out), (4, .int v4)])
    (kk : ∀ (sH' : HS) (x' : MS) (ps' : PS) (f' : Nat → Int64) (H : Heap) (locs : List Loc) (ls : Array Slot), Sim sH' x' ps' → va_P G vwCl (wM c am x' ++ (wQ c out f' ++ wH c ah ag ar ps' sH')) H → va_D (fun q : Nat => s.heap.size ≤ q) (wM c am x' ++ (wQ c out f' ++ wH c ah ag ar ps' sH')) → va_S (fun q : Nat => s.heap.size ≤ q) s.heap H locs → lv_has ls 9 [(0, .ref b), (1, .ref (ah 0)), (2, .ref (am 0)), (3, .ref out), (4, .int v4)] → W p l e room_1 s m args below meth c1 H locs (cells + 3) (slots + 518) Q (F0 m 1325 ls [])) : W p l e room_1 s m args below meth c1 H locs cells slots Q (F0 m 622 ls []) := by
  have lc0 := lc
  obtain ⟨hl0, hx, hb, hml, hown, hts, hX, hbl, hK, hN, hZ, hXA, hXW, hNC⟩ := lc
  have hA : ∀ q : Nat, s.heap.size ≤ q → (fun q : Nat => s.heap.size ≤ q) q := fun _ h => h
  have hbA : ¬ (fun q : Nat => s.heap.size ≤ q) b := Nat.not_le.mpr hbl
  refine lv_aload_n hx hb dL_law_622 rfl (lv_at hl 1 rfl) ?_
  refine lv_aload_n hx hb dL_law_623 rfl (lv_at hl 0 rfl) ?_
  refine lv_iload hx hb dL_law_624 (lv_at hl 4 rfl) ?_
  refine lv_iconst (v := 1) hx hb dL_law_626 (by decide) ?_
  refine lv_iadd hx hb dL_law_627 ?_
  refine va_sld hx hb hX hbl hbA hS i1 dL_law_628 ?_
  refine lv_aload_n hx hb dL_law_629 rfl (lv_at hl 0 rfl) ?_
  refine lv_iload hx hb dL_law_630 (lv_at hl 4 rfl) ?_
  refine lv_iconst (v := 2) hx hb dL_law_632 (by decide) ?_
  refine lv_iadd hx hb dL_law_633 ?_
  refine va_sld hx hb hX hbl hbA hS i2 dL_law_634 ?_
  refine lv_aload_n hx hb dL_law_635 rfl (lv_at hl 3 rfl) ?_
  rcases o_why hSim (xs (v4 + 1).toNatClampNeg) (xs (v4 + 2).toNatClampNeg) with ⟨r, x', e1, e2, e3, hS'⟩ | ⟨E, c0, r, x', hEc, e1, e2, e3, hS'⟩
  · skip
    refine zcLi (wr := wM c am x) (wc := wQ c out f ++ wH c ah ag ar ps sH) (As := [.ref (ah 0), .int (xs (v4 + 1).toNatClampNeg), .int (xs (v4 + 2).toNatClampNeg), .ref out]) (rest := []) ⟨hx, hb, hml, hown, hts⟩ (w_why l G K c ah ag ar (ps := ps) (hm := e1) (out := out) (f := f)) (vx_cwSW 4 hts gL_law_L_why rfl rfl rfl (by decide +kernel) ⟨Nat.le_of_ble_eq_true rfl, Nat.le_of_ble_eq_true rfl⟩) hK hN hZ hXA hXW hNC hP hD hS hA rfl hl.1 rfl (Nat.le_of_ble_eq_true rfl) dL_law_636 ⟨by show cells + 0 ≤ 601024; omega, by show slots + 0 ≤ 7293034; omega⟩ (fun aa H locs hP hD hS => ?_)
    refine tail_why lc0 i1 i2 ⟨by omega, by omega⟩ e2 e3 (fun _ => updL_s) hP hD hS hl (fun H locs ls hP hD hS hl => ?_)
    refine W.widen (k := cells + 3) (n := slots + 518) (by omega) (by omega) ?_
    exact kk sH x' ps _ H locs ls hS' hP hD hS hl
  · simp only [List.mem_cons, Prod.mk.injEq, List.not_mem_nil, or_false] at hEc
    rcases hEc with ⟨rfl, rfl⟩ | ⟨rfl, rfl⟩
    · skip
      refine zcLi (wr := wM c am x) (wc := wQ c out f ++ wH c ah ag ar ps sH) (As := [.ref (ah 0), .int (xs (v4 + 1).toNatClampNeg), .int (xs (v4 + 2).toNatClampNeg), .ref out]) (rest := []) ⟨hx, hb, hml, hown, hts⟩ (wt_why_1 l hl0 G K c ah ag ar (ps := ps) (hm := e1) (out := out) (f := f)) (vx_cwSW 4 hts gL_law_L_why rfl rfl rfl (by decide +kernel) ⟨Nat.le_of_ble_eq_true rfl, Nat.le_of_ble_eq_true rfl⟩) hK hN hZ hXA hXW hNC hP hD hS hA rfl hl.1 rfl (Nat.le_of_ble_eq_true rfl) dL_law_636 ⟨by show cells + 1 ≤ 601024; omega, by show slots + 6 ≤ 7293034; omega⟩ (fun aa H locs hP hD hS => ?_)
      refine tail_why lc0 i1 i2 ⟨by omega, by omega⟩ e2 e3 (fun h => absurd h (by decide)) hP hD hS hl (fun H locs ls hP hD hS hl => ?_)
      refine W.widen (k := cells + 3) (n := slots + 518) (by omega) (by omega) ?_
      exact kk sH x' ps _ H locs ls hS' hP hD hS hl
    · skip
      refine zcLi (wr := wM c am x) (wc := wQ c out f ++ wH c ah ag ar ps sH) (As := [.ref (ah 0), .int (xs (v4 + 1).toNatClampNeg), .int (xs (v4 + 2).toNatClampNeg), .ref out]) (rest := []) ⟨hx, hb, hml, hown, hts⟩ (wt_why_2 l hl0 G K c ah ag ar (ps := ps) (hm := e1) (out := out) (f := f)) (vx_cwSW 4 hts gL_law_L_why rfl rfl rfl (by decide +kernel) ⟨Nat.le_of_ble_eq_true rfl, Nat.le_of_ble_eq_true rfl⟩) hK hN hZ hXA hXW hNC hP hD hS hA rfl hl.1 rfl (Nat.le_of_ble_eq_true rfl) dL_law_636 ⟨by show cells + 1 ≤ 601024; omega, by show slots + 6 ≤ 7293034; omega⟩ (fun aa H locs hP hD hS => ?_)
      refine tail_why lc0 i1 i2 ⟨by omega, by omega⟩ e2 e3 (fun h => absurd h (by decide)) hP hD hS hl (fun H locs ls hP hD hS hl => ?_)
      refine W.widen (k := cells + 3) (n := slots + 518) (by omega) (by omega) ?_
      exact kk sH x' ps _ H locs ls hS' hP hD hS hl
theorem case_rank {p : Program} {l : Launch} {e : Env} {s : State} {m : MethodId} {args : Array Value} {below : List Frame} {meth : Method} {c1 : Code} {Q : State → Prop} {G : va_G} {K : (Nat → Nat) × (Nat → Nat)} {c : Nat → ClassId} {am ah : Nat → Nat} {ag : Nat → Nat → Nat} {ar : Nat → Nat} {out b L : Nat} {xs : Nat → Int32} (lc : LC p l s m args c1 G K c b L xs) {cells slots : Nat} {v4 : Int32} (i1 : vp_in (v4 + 1) L) (i2 : vp_in (v4 + 2) L) (hc : cells + 3 ≤ 601024 ∧ slots + 518 ≤ 7293034) {sH : HS} {x : MS} {ps : PS} {f : Nat → Int64} (hSim : Sim sH x ps) {H : Heap} {locs : List Loc} {ls : Array Slot} (hP : va_P G vwCl (wM c am x ++ (wQ c out f ++ wH c ah ag ar ps sH)) H) (hD : va_D (fun q : Nat => s.heap.size ≤ q) (wM c am x ++ (wQ c out f ++ wH c ah ag ar ps sH))) (hS : va_S (fun q : Nat => s.heap.size ≤ q) s.heap H locs) (hl : lv_has ls 9 [(0, .ref b), (1, .ref (ah 0)), (2, .ref (am 0)), (3, .ref out), (4, .int v4)])
    (kk : ∀ (sH' : HS) (x' : MS) (ps' : PS) (f' : Nat → Int64) (H : Heap) (locs : List Loc) (ls : Array Slot), Sim sH' x' ps' → va_P G vwCl (wM c am x' ++ (wQ c out f' ++ wH c ah ag ar ps' sH')) H → va_D (fun q : Nat => s.heap.size ≤ q) (wM c am x' ++ (wQ c out f' ++ wH c ah ag ar ps' sH')) → va_S (fun q : Nat => s.heap.size ≤ q) s.heap H locs → lv_has ls 9 [(0, .ref b), (1, .ref (ah 0)), (2, .ref (am 0)), (3, .ref out), (4, .int v4)] → W p l e room_1 s m args below meth c1 H locs (cells + 3) (slots + 518) Q (F0 m 1325 ls [])) : W p l e room_1 s m args below meth c1 H locs cells slots Q (F0 m 703 ls []) := by
  have lc0 := lc
  obtain ⟨hl0, hx, hb, hml, hown, hts, hX, hbl, hK, hN, hZ, hXA, hXW, hNC⟩ := lc
  have hA : ∀ q : Nat, s.heap.size ≤ q → (fun q : Nat => s.heap.size ≤ q) q := fun _ h => h
  have hbA : ¬ (fun q : Nat => s.heap.size ≤ q) b := Nat.not_le.mpr hbl
  refine lv_aload_n hx hb dL_law_703 rfl (lv_at hl 1 rfl) ?_
  refine lv_aload_n hx hb dL_law_704 rfl (lv_at hl 0 rfl) ?_
  refine lv_iload hx hb dL_law_705 (lv_at hl 4 rfl) ?_
  refine lv_iconst (v := 1) hx hb dL_law_707 (by decide) ?_
  refine lv_iadd hx hb dL_law_708 ?_
  refine va_sld hx hb hX hbl hbA hS i1 dL_law_709 ?_
  refine lv_aload_n hx hb dL_law_710 rfl (lv_at hl 0 rfl) ?_
  refine lv_iload hx hb dL_law_711 (lv_at hl 4 rfl) ?_
  refine lv_iconst (v := 2) hx hb dL_law_713 (by decide) ?_
  refine lv_iadd hx hb dL_law_714 ?_
  refine va_sld hx hb hX hbl hbA hS i2 dL_law_715 ?_
  refine lv_aload_n hx hb dL_law_716 rfl (lv_at hl 3 rfl) ?_
  rcases o_rank hSim (xs (v4 + 1).toNatClampNeg) (xs (v4 + 2).toNatClampNeg) with ⟨r, ps', x', e1, e2, e3, hS', _⟩ | ⟨E, c0, r, x', hEc, e1, e2, e3, hS'⟩
  · skip
    refine zcLi (wr := wM c am x) (wc := wQ c out f ++ wH c ah ag ar ps sH) (As := [.ref (ah 0), .int (xs (v4 + 1).toNatClampNeg), .int (xs (v4 + 2).toNatClampNeg), .ref out]) (rest := []) ⟨hx, hb, hml, hown, hts⟩ (w_rank l G K c ah ag ar (ps := ps) (hm := e1) (out := out) (f := f)) (vx_cwSW 4 hts gL_law_L_rank rfl rfl rfl (by decide +kernel) ⟨Nat.le_of_ble_eq_true rfl, Nat.le_of_ble_eq_true rfl⟩) hK hN hZ hXA hXW hNC hP hD hS hA rfl hl.1 rfl (Nat.le_of_ble_eq_true rfl) dL_law_717 ⟨by show cells + 0 ≤ 601024; omega, by show slots + 0 ≤ 7293034; omega⟩ (fun aa H locs hP hD hS => ?_)
    refine tail_rank lc0 i1 i2 ⟨by omega, by omega⟩ e2 e3 (fun _ => updL_s) hP hD hS hl (fun H locs ls hP hD hS hl => ?_)
    refine W.widen (k := cells + 3) (n := slots + 518) (by omega) (by omega) ?_
    exact kk sH x' ps' _ H locs ls hS' hP hD hS hl
  · simp only [List.mem_cons, Prod.mk.injEq, List.not_mem_nil, or_false] at hEc
    rcases hEc with ⟨rfl, rfl⟩ | ⟨rfl, rfl⟩ | ⟨rfl, rfl⟩
    · skip
      refine zcLi (wr := wM c am x) (wc := wQ c out f ++ wH c ah ag ar ps sH) (As := [.ref (ah 0), .int (xs (v4 + 1).toNatClampNeg), .int (xs (v4 + 2).toNatClampNeg), .ref out]) (rest := []) ⟨hx, hb, hml, hown, hts⟩ (wt_rank_1 l hl0 G K c ah ag ar (ps := ps) (hm := e1) (out := out) (f := f)) (vx_cwSW 4 hts gL_law_L_rank rfl rfl rfl (by decide +kernel) ⟨Nat.le_of_ble_eq_true rfl, Nat.le_of_ble_eq_true rfl⟩) hK hN hZ hXA hXW hNC hP hD hS hA rfl hl.1 rfl (Nat.le_of_ble_eq_true rfl) dL_law_717 ⟨by show cells + 1 ≤ 601024; omega, by show slots + 6 ≤ 7293034; omega⟩ (fun aa H locs hP hD hS => ?_)
      refine tail_rank lc0 i1 i2 ⟨by omega, by omega⟩ e2 e3 (fun h => absurd h (by decide)) hP hD hS hl (fun H locs ls hP hD hS hl => ?_)
      refine W.widen (k := cells + 3) (n := slots + 518) (by omega) (by omega) ?_
      exact kk sH x' ps _ H locs ls hS' hP hD hS hl
    · skip
      refine zcLi (wr := wM c am x) (wc := wQ c out f ++ wH c ah ag ar ps sH) (As := [.ref (ah 0), .int (xs (v4 + 1).toNatClampNeg), .int (xs (v4 + 2).toNatClampNeg), .ref out]) (rest := []) ⟨hx, hb, hml, hown, hts⟩ (wt_rank_2 l hl0 G K c ah ag ar (ps := ps) (hm := e1) (out := out) (f := f)) (vx_cwSW 4 hts gL_law_L_rank rfl rfl rfl (by decide +kernel) ⟨Nat.le_of_ble_eq_true rfl, Nat.le_of_ble_eq_true rfl⟩) hK hN hZ hXA hXW hNC hP hD hS hA rfl hl.1 rfl (Nat.le_of_ble_eq_true rfl) dL_law_717 ⟨by show cells + 1 ≤ 601024; omega, by show slots + 6 ≤ 7293034; omega⟩ (fun aa H locs hP hD hS => ?_)
      refine tail_rank lc0 i1 i2 ⟨by omega, by omega⟩ e2 e3 (fun h => absurd h (by decide)) hP hD hS hl (fun H locs ls hP hD hS hl => ?_)
      refine W.widen (k := cells + 3) (n := slots + 518) (by omega) (by omega) ?_
      exact kk sH x' ps _ H locs ls hS' hP hD hS hl
    · skip
      refine zcLi (wr := wM c am x) (wc := wQ c out f ++ wH c ah ag ar ps sH) (As := [.ref (ah 0), .int (xs (v4 + 1).toNatClampNeg), .int (xs (v4 + 2).toNatClampNeg), .ref out]) (rest := []) ⟨hx, hb, hml, hown, hts⟩ (wt_rank_3 l hl0 G K c ah ag ar (ps := ps) (hm := e1) (out := out) (f := f)) (vx_cwSW 4 hts gL_law_L_rank rfl rfl rfl (by decide +kernel) ⟨Nat.le_of_ble_eq_true rfl, Nat.le_of_ble_eq_true rfl⟩) hK hN hZ hXA hXW hNC hP hD hS hA rfl hl.1 rfl (Nat.le_of_ble_eq_true rfl) dL_law_717 ⟨by show cells + 1 ≤ 601024; omega, by show slots + 6 ≤ 7293034; omega⟩ (fun aa H locs hP hD hS => ?_)
      refine tail_rank lc0 i1 i2 ⟨by omega, by omega⟩ e2 e3 (fun h => absurd h (by decide)) hP hD hS hl (fun H locs ls hP hD hS hl => ?_)
      refine W.widen (k := cells + 3) (n := slots + 518) (by omega) (by omega) ?_
      exact kk sH x' ps _ H locs ls hS' hP hD hS hl
theorem case_longest {p : Program} {l : Launch} {e : Env} {s : State} {m : MethodId} {args : Array Value} {below : List Frame} {meth : Method} {c1 : Code} {Q : State → Prop} {G : va_G} {K : (Nat → Nat) × (Nat → Nat)} {c : Nat → ClassId} {am ah : Nat → Nat} {ag : Nat → Nat → Nat} {ar : Nat → Nat} {out b L : Nat} {xs : Nat → Int32} (lc : LC p l s m args c1 G K c b L xs) {cells slots : Nat} {v4 : Int32} (i1 : vp_in (v4 + 1) L) (hc : cells + 3 ≤ 601024 ∧ slots + 518 ≤ 7293034) {sH : HS} {x : MS} {ps : PS} {f : Nat → Int64} (hSim : Sim sH x ps) {H : Heap} {locs : List Loc} {ls : Array Slot} (hP : va_P G vwCl (wM c am x ++ (wQ c out f ++ wH c ah ag ar ps sH)) H) (hD : va_D (fun q : Nat => s.heap.size ≤ q) (wM c am x ++ (wQ c out f ++ wH c ah ag ar ps sH))) (hS : va_S (fun q : Nat => s.heap.size ≤ q) s.heap H locs) (hl : lv_has ls 9 [(0, .ref b), (1, .ref (ah 0)), (2, .ref (am 0)), (3, .ref out), (4, .int v4)])
    (kk : ∀ (sH' : HS) (x' : MS) (ps' : PS) (f' : Nat → Int64) (H : Heap) (locs : List Loc) (ls : Array Slot), Sim sH' x' ps' → va_P G vwCl (wM c am x' ++ (wQ c out f' ++ wH c ah ag ar ps' sH')) H → va_D (fun q : Nat => s.heap.size ≤ q) (wM c am x' ++ (wQ c out f' ++ wH c ah ag ar ps' sH')) → va_S (fun q : Nat => s.heap.size ≤ q) s.heap H locs → lv_has ls 9 [(0, .ref b), (1, .ref (ah 0)), (2, .ref (am 0)), (3, .ref out), (4, .int v4)] → W p l e room_1 s m args below meth c1 H locs (cells + 3) (slots + 518) Q (F0 m 1325 ls [])) : W p l e room_1 s m args below meth c1 H locs cells slots Q (F0 m 771 ls []) := by
  have lc0 := lc
  obtain ⟨hl0, hx, hb, hml, hown, hts, hX, hbl, hK, hN, hZ, hXA, hXW, hNC⟩ := lc
  have hA : ∀ q : Nat, s.heap.size ≤ q → (fun q : Nat => s.heap.size ≤ q) q := fun _ h => h
  have hbA : ¬ (fun q : Nat => s.heap.size ≤ q) b := Nat.not_le.mpr hbl
  refine lv_aload_n hx hb dL_law_771 rfl (lv_at hl 1 rfl) ?_
  refine lv_aload_n hx hb dL_law_772 rfl (lv_at hl 0 rfl) ?_
  refine lv_iload hx hb dL_law_773 (lv_at hl 4 rfl) ?_
  refine lv_iconst (v := 1) hx hb dL_law_775 (by decide) ?_
  refine lv_iadd hx hb dL_law_776 ?_
  refine va_sld hx hb hX hbl hbA hS i1 dL_law_777 ?_
  refine lv_aload_n hx hb dL_law_778 rfl (lv_at hl 3 rfl) ?_
  rcases o_longest hSim (xs (v4 + 1).toNatClampNeg) with ⟨r, sH', x', e1, e2, e3, hS'⟩ | ⟨E, c0, r, x', hEc, e1, e2, e3, hS'⟩
  · skip
    refine zcLi (wr := wM c am x) (wc := wQ c out f ++ wH c ah ag ar ps sH) (As := [.ref (ah 0), .int (xs (v4 + 1).toNatClampNeg), .ref out]) (rest := []) ⟨hx, hb, hml, hown, hts⟩ (w_longest l G K c ah ag ar (ps := ps) (hm := e1) (out := out) (f := f)) (vx_cwSW 3 hts gL_law_L_longest rfl rfl rfl (by decide +kernel) ⟨Nat.le_of_ble_eq_true rfl, Nat.le_of_ble_eq_true rfl⟩) hK hN hZ hXA hXW hNC hP hD hS hA rfl hl.1 rfl (Nat.le_of_ble_eq_true rfl) dL_law_779 ⟨by show cells + 0 ≤ 601024; omega, by show slots + 0 ≤ 7293034; omega⟩ (fun aa H locs hP hD hS => ?_)
    refine tail_longest lc0 i1 ⟨by omega, by omega⟩ e2 e3 (fun _ => updL_s) hP hD hS hl (fun H locs ls hP hD hS hl => ?_)
    refine W.widen (k := cells + 3) (n := slots + 518) (by omega) (by omega) ?_
    exact kk sH' x' ps _ H locs ls hS' hP hD hS hl
  · simp only [List.mem_cons, Prod.mk.injEq, List.not_mem_nil, or_false] at hEc
    rcases hEc with ⟨rfl, rfl⟩
    · skip
      refine zcLi (wr := wM c am x) (wc := wQ c out f ++ wH c ah ag ar ps sH) (As := [.ref (ah 0), .int (xs (v4 + 1).toNatClampNeg), .ref out]) (rest := []) ⟨hx, hb, hml, hown, hts⟩ (wt_longest_1 l hl0 G K c ah ag ar (ps := ps) (hm := e1) (out := out) (f := f)) (vx_cwSW 3 hts gL_law_L_longest rfl rfl rfl (by decide +kernel) ⟨Nat.le_of_ble_eq_true rfl, Nat.le_of_ble_eq_true rfl⟩) hK hN hZ hXA hXW hNC hP hD hS hA rfl hl.1 rfl (Nat.le_of_ble_eq_true rfl) dL_law_779 ⟨by show cells + 1 ≤ 601024; omega, by show slots + 6 ≤ 7293034; omega⟩ (fun aa H locs hP hD hS => ?_)
      refine tail_longest lc0 i1 ⟨by omega, by omega⟩ e2 e3 (fun h => absurd h (by decide)) hP hD hS hl (fun H locs ls hP hD hS hl => ?_)
      refine W.widen (k := cells + 3) (n := slots + 518) (by omega) (by omega) ?_
      exact kk sH x' ps _ H locs ls hS' hP hD hS hl
theorem case_longestTile {p : Program} {l : Launch} {e : Env} {s : State} {m : MethodId} {args : Array Value} {below : List Frame} {meth : Method} {c1 : Code} {Q : State → Prop} {G : va_G} {K : (Nat → Nat) × (Nat → Nat)} {c : Nat → ClassId} {am ah : Nat → Nat} {ag : Nat → Nat → Nat} {ar : Nat → Nat} {out b L : Nat} {xs : Nat → Int32} (lc : LC p l s m args c1 G K c b L xs) {cells slots : Nat} {v4 : Int32} (i1 : vp_in (v4 + 1) L) (i2 : vp_in (v4 + 2) L) (hc : cells + 3 ≤ 601024 ∧ slots + 518 ≤ 7293034) {sH : HS} {x : MS} {ps : PS} {f : Nat → Int64} (hSim : Sim sH x ps) {H : Heap} {locs : List Loc} {ls : Array Slot} (hP : va_P G vwCl (wM c am x ++ (wQ c out f ++ wH c ah ag ar ps sH)) H) (hD : va_D (fun q : Nat => s.heap.size ≤ q) (wM c am x ++ (wQ c out f ++ wH c ah ag ar ps sH))) (hS : va_S (fun q : Nat => s.heap.size ≤ q) s.heap H locs) (hl : lv_has ls 9 [(0, .ref b), (1, .ref (ah 0)), (2, .ref (am 0)), (3, .ref out), (4, .int v4)])
    (kk : ∀ (sH' : HS) (x' : MS) (ps' : PS) (f' : Nat → Int64) (H : Heap) (locs : List Loc) (ls : Array Slot), Sim sH' x' ps' → va_P G vwCl (wM c am x' ++ (wQ c out f' ++ wH c ah ag ar ps' sH')) H → va_D (fun q : Nat => s.heap.size ≤ q) (wM c am x' ++ (wQ c out f' ++ wH c ah ag ar ps' sH')) → va_S (fun q : Nat => s.heap.size ≤ q) s.heap H locs → lv_has ls 9 [(0, .ref b), (1, .ref (ah 0)), (2, .ref (am 0)), (3, .ref out), (4, .int v4)] → W p l e room_1 s m args below meth c1 H locs (cells + 3) (slots + 518) Q (F0 m 1325 ls [])) : W p l e room_1 s m args below meth c1 H locs cells slots Q (F0 m 827 ls []) := by
  have lc0 := lc
  obtain ⟨hl0, hx, hb, hml, hown, hts, hX, hbl, hK, hN, hZ, hXA, hXW, hNC⟩ := lc
  have hA : ∀ q : Nat, s.heap.size ≤ q → (fun q : Nat => s.heap.size ≤ q) q := fun _ h => h
  have hbA : ¬ (fun q : Nat => s.heap.size ≤ q) b := Nat.not_le.mpr hbl
  refine lv_aload_n hx hb dL_law_827 rfl (lv_at hl 1 rfl) ?_
  refine lv_aload_n hx hb dL_law_828 rfl (lv_at hl 0 rfl) ?_
  refine lv_iload hx hb dL_law_829 (lv_at hl 4 rfl) ?_
  refine lv_iconst (v := 1) hx hb dL_law_831 (by decide) ?_
  refine lv_iadd hx hb dL_law_832 ?_
  refine va_sld hx hb hX hbl hbA hS i1 dL_law_833 ?_
  refine lv_aload_n hx hb dL_law_834 rfl (lv_at hl 0 rfl) ?_
  refine lv_iload hx hb dL_law_835 (lv_at hl 4 rfl) ?_
  refine lv_iconst (v := 2) hx hb dL_law_837 (by decide) ?_
  refine lv_iadd hx hb dL_law_838 ?_
  refine va_sld hx hb hX hbl hbA hS i2 dL_law_839 ?_
  refine lv_aload_n hx hb dL_law_840 rfl (lv_at hl 3 rfl) ?_
  rcases o_longestTile hSim (xs (v4 + 1).toNatClampNeg) (xs (v4 + 2).toNatClampNeg) with ⟨r, sH', x', e1, e2, e3, hS'⟩ | ⟨E, sH', c0, r, x', hEc, e1, e2, e3, hS'⟩
  · skip
    refine zcLi (wr := wM c am x) (wc := wQ c out f ++ wH c ah ag ar ps sH) (As := [.ref (ah 0), .int (xs (v4 + 1).toNatClampNeg), .int (xs (v4 + 2).toNatClampNeg), .ref out]) (rest := []) ⟨hx, hb, hml, hown, hts⟩ (w_longestTile l G K c ah ag ar (ps := ps) (hm := e1) (out := out) (f := f)) (vx_cwSW 4 hts gL_law_L_longestTile rfl rfl rfl (by decide +kernel) ⟨Nat.le_of_ble_eq_true rfl, Nat.le_of_ble_eq_true rfl⟩) hK hN hZ hXA hXW hNC hP hD hS hA rfl hl.1 rfl (Nat.le_of_ble_eq_true rfl) dL_law_841 ⟨by show cells + 0 ≤ 601024; omega, by show slots + 0 ≤ 7293034; omega⟩ (fun aa H locs hP hD hS => ?_)
    refine tail_longestTile lc0 i1 i2 ⟨by omega, by omega⟩ e2 e3 (fun _ => updL_s) hP hD hS hl (fun H locs ls hP hD hS hl => ?_)
    refine W.widen (k := cells + 3) (n := slots + 518) (by omega) (by omega) ?_
    exact kk sH' x' ps _ H locs ls hS' hP hD hS hl
  · simp only [List.mem_cons, Prod.mk.injEq, List.not_mem_nil, or_false] at hEc
    rcases hEc with ⟨rfl, rfl⟩ | ⟨rfl, rfl⟩
    · skip
      refine zcLi (wr := wM c am x) (wc := wQ c out f ++ wH c ah ag ar ps sH) (As := [.ref (ah 0), .int (xs (v4 + 1).toNatClampNeg), .int (xs (v4 + 2).toNatClampNeg), .ref out]) (rest := []) ⟨hx, hb, hml, hown, hts⟩ (wt_longestTile_1 l hl0 G K c ah ag ar (ps := ps) (hm := e1) (out := out) (f := f)) (vx_cwSW 4 hts gL_law_L_longestTile rfl rfl rfl (by decide +kernel) ⟨Nat.le_of_ble_eq_true rfl, Nat.le_of_ble_eq_true rfl⟩) hK hN hZ hXA hXW hNC hP hD hS hA rfl hl.1 rfl (Nat.le_of_ble_eq_true rfl) dL_law_841 ⟨by show cells + 1 ≤ 601024; omega, by show slots + 6 ≤ 7293034; omega⟩ (fun aa H locs hP hD hS => ?_)
      refine tail_longestTile lc0 i1 i2 ⟨by omega, by omega⟩ e2 e3 (fun h => absurd h (by decide)) hP hD hS hl (fun H locs ls hP hD hS hl => ?_)
      refine W.widen (k := cells + 3) (n := slots + 518) (by omega) (by omega) ?_
      exact kk sH' x' ps _ H locs ls hS' hP hD hS hl
    · skip
      refine zcLi (wr := wM c am x) (wc := wQ c out f ++ wH c ah ag ar ps sH) (As := [.ref (ah 0), .int (xs (v4 + 1).toNatClampNeg), .int (xs (v4 + 2).toNatClampNeg), .ref out]) (rest := []) ⟨hx, hb, hml, hown, hts⟩ (wt_longestTile_2 l hl0 G K c ah ag ar (ps := ps) (hm := e1) (out := out) (f := f)) (vx_cwSW 4 hts gL_law_L_longestTile rfl rfl rfl (by decide +kernel) ⟨Nat.le_of_ble_eq_true rfl, Nat.le_of_ble_eq_true rfl⟩) hK hN hZ hXA hXW hNC hP hD hS hA rfl hl.1 rfl (Nat.le_of_ble_eq_true rfl) dL_law_841 ⟨by show cells + 1 ≤ 601024; omega, by show slots + 6 ≤ 7293034; omega⟩ (fun aa H locs hP hD hS => ?_)
      refine tail_longestTile lc0 i1 i2 ⟨by omega, by omega⟩ e2 e3 (fun h => absurd h (by decide)) hP hD hS hl (fun H locs ls hP hD hS hl => ?_)
      refine W.widen (k := cells + 3) (n := slots + 518) (by omega) (by omega) ?_
      exact kk sH' x' ps _ H locs ls hS' hP hD hS hl
theorem case_heaviest {p : Program} {l : Launch} {e : Env} {s : State} {m : MethodId} {args : Array Value} {below : List Frame} {meth : Method} {c1 : Code} {Q : State → Prop} {G : va_G} {K : (Nat → Nat) × (Nat → Nat)} {c : Nat → ClassId} {am ah : Nat → Nat} {ag : Nat → Nat → Nat} {ar : Nat → Nat} {out b L : Nat} {xs : Nat → Int32} (lc : LC p l s m args c1 G K c b L xs) {cells slots : Nat} {v4 : Int32} (i1 : vp_in (v4 + 1) L) (hc : cells + 3 ≤ 601024 ∧ slots + 518 ≤ 7293034) {sH : HS} {x : MS} {ps : PS} {f : Nat → Int64} (hSim : Sim sH x ps) {H : Heap} {locs : List Loc} {ls : Array Slot} (hP : va_P G vwCl (wM c am x ++ (wQ c out f ++ wH c ah ag ar ps sH)) H) (hD : va_D (fun q : Nat => s.heap.size ≤ q) (wM c am x ++ (wQ c out f ++ wH c ah ag ar ps sH))) (hS : va_S (fun q : Nat => s.heap.size ≤ q) s.heap H locs) (hl : lv_has ls 9 [(0, .ref b), (1, .ref (ah 0)), (2, .ref (am 0)), (3, .ref out), (4, .int v4)])
    (kk : ∀ (sH' : HS) (x' : MS) (ps' : PS) (f' : Nat → Int64) (H : Heap) (locs : List Loc) (ls : Array Slot), Sim sH' x' ps' → va_P G vwCl (wM c am x' ++ (wQ c out f' ++ wH c ah ag ar ps' sH')) H → va_D (fun q : Nat => s.heap.size ≤ q) (wM c am x' ++ (wQ c out f' ++ wH c ah ag ar ps' sH')) → va_S (fun q : Nat => s.heap.size ≤ q) s.heap H locs → lv_has ls 9 [(0, .ref b), (1, .ref (ah 0)), (2, .ref (am 0)), (3, .ref out), (4, .int v4)] → W p l e room_1 s m args below meth c1 H locs (cells + 3) (slots + 518) Q (F0 m 1325 ls [])) : W p l e room_1 s m args below meth c1 H locs cells slots Q (F0 m 895 ls []) := by
  have lc0 := lc
  obtain ⟨hl0, hx, hb, hml, hown, hts, hX, hbl, hK, hN, hZ, hXA, hXW, hNC⟩ := lc
  have hA : ∀ q : Nat, s.heap.size ≤ q → (fun q : Nat => s.heap.size ≤ q) q := fun _ h => h
  have hbA : ¬ (fun q : Nat => s.heap.size ≤ q) b := Nat.not_le.mpr hbl
  refine lv_aload_n hx hb dL_law_895 rfl (lv_at hl 1 rfl) ?_
  refine lv_aload_n hx hb dL_law_896 rfl (lv_at hl 0 rfl) ?_
  refine lv_iload hx hb dL_law_897 (lv_at hl 4 rfl) ?_
  refine lv_iconst (v := 1) hx hb dL_law_899 (by decide) ?_
  refine lv_iadd hx hb dL_law_900 ?_
  refine va_sld hx hb hX hbl hbA hS i1 dL_law_901 ?_
  refine lv_aload_n hx hb dL_law_902 rfl (lv_at hl 3 rfl) ?_
  rcases o_heaviest hSim (xs (v4 + 1).toNatClampNeg) with ⟨r, sH', x', e1, e2, e3, hS'⟩ | ⟨E, c0, r, x', hEc, e1, e2, e3, hS'⟩
  · skip
    refine zcLi (wr := wM c am x) (wc := wQ c out f ++ wH c ah ag ar ps sH) (As := [.ref (ah 0), .int (xs (v4 + 1).toNatClampNeg), .ref out]) (rest := []) ⟨hx, hb, hml, hown, hts⟩ (w_heaviest l G K c ah ag ar (ps := ps) (hm := e1) (out := out) (f := f)) (vx_cwSW 3 hts gL_law_L_heaviest rfl rfl rfl (by decide +kernel) ⟨Nat.le_of_ble_eq_true rfl, Nat.le_of_ble_eq_true rfl⟩) hK hN hZ hXA hXW hNC hP hD hS hA rfl hl.1 rfl (Nat.le_of_ble_eq_true rfl) dL_law_903 ⟨by show cells + 0 ≤ 601024; omega, by show slots + 0 ≤ 7293034; omega⟩ (fun aa H locs hP hD hS => ?_)
    refine tail_heaviest lc0 i1 ⟨by omega, by omega⟩ e2 e3 (fun _ => updL_s) hP hD hS hl (fun H locs ls hP hD hS hl => ?_)
    refine W.widen (k := cells + 3) (n := slots + 518) (by omega) (by omega) ?_
    exact kk sH' x' ps _ H locs ls hS' hP hD hS hl
  · simp only [List.mem_cons, Prod.mk.injEq, List.not_mem_nil, or_false] at hEc
    rcases hEc with ⟨rfl, rfl⟩
    · skip
      refine zcLi (wr := wM c am x) (wc := wQ c out f ++ wH c ah ag ar ps sH) (As := [.ref (ah 0), .int (xs (v4 + 1).toNatClampNeg), .ref out]) (rest := []) ⟨hx, hb, hml, hown, hts⟩ (wt_heaviest_1 l hl0 G K c ah ag ar (ps := ps) (hm := e1) (out := out) (f := f)) (vx_cwSW 3 hts gL_law_L_heaviest rfl rfl rfl (by decide +kernel) ⟨Nat.le_of_ble_eq_true rfl, Nat.le_of_ble_eq_true rfl⟩) hK hN hZ hXA hXW hNC hP hD hS hA rfl hl.1 rfl (Nat.le_of_ble_eq_true rfl) dL_law_903 ⟨by show cells + 1 ≤ 601024; omega, by show slots + 6 ≤ 7293034; omega⟩ (fun aa H locs hP hD hS => ?_)
      refine tail_heaviest lc0 i1 ⟨by omega, by omega⟩ e2 e3 (fun h => absurd h (by decide)) hP hD hS hl (fun H locs ls hP hD hS hl => ?_)
      refine W.widen (k := cells + 3) (n := slots + 518) (by omega) (by omega) ?_
      exact kk sH x' ps _ H locs ls hS' hP hD hS hl
theorem case_play {p : Program} {l : Launch} {e : Env} {s : State} {m : MethodId} {args : Array Value} {below : List Frame} {meth : Method} {c1 : Code} {Q : State → Prop} {G : va_G} {K : (Nat → Nat) × (Nat → Nat)} {c : Nat → ClassId} {am ah : Nat → Nat} {ag : Nat → Nat → Nat} {ar : Nat → Nat} {out b L : Nat} {xs : Nat → Int32} (lc : LC p l s m args c1 G K c b L xs) {cells slots : Nat} {v4 : Int32} (i1 : vp_in (v4 + 1) L) (i2 : vp_in (v4 + 2) L) (hc : cells + 3 ≤ 601024 ∧ slots + 518 ≤ 7293034) {sH : HS} {x : MS} {ps : PS} {f : Nat → Int64} (hSim : Sim sH x ps) {H : Heap} {locs : List Loc} {ls : Array Slot} (hP : va_P G vwCl (wM c am x ++ (wQ c out f ++ wH c ah ag ar ps sH)) H) (hD : va_D (fun q : Nat => s.heap.size ≤ q) (wM c am x ++ (wQ c out f ++ wH c ah ag ar ps sH))) (hS : va_S (fun q : Nat => s.heap.size ≤ q) s.heap H locs) (hl : lv_has ls 9 [(0, .ref b), (1, .ref (ah 0)), (2, .ref (am 0)), (3, .ref out), (4, .int v4)])
    (kk : ∀ (sH' : HS) (x' : MS) (ps' : PS) (f' : Nat → Int64) (H : Heap) (locs : List Loc) (ls : Array Slot), Sim sH' x' ps' → va_P G vwCl (wM c am x' ++ (wQ c out f' ++ wH c ah ag ar ps' sH')) H → va_D (fun q : Nat => s.heap.size ≤ q) (wM c am x' ++ (wQ c out f' ++ wH c ah ag ar ps' sH')) → va_S (fun q : Nat => s.heap.size ≤ q) s.heap H locs → lv_has ls 9 [(0, .ref b), (1, .ref (ah 0)), (2, .ref (am 0)), (3, .ref out), (4, .int v4)] → W p l e room_1 s m args below meth c1 H locs (cells + 3) (slots + 518) Q (F0 m 1325 ls [])) : W p l e room_1 s m args below meth c1 H locs cells slots Q (F0 m 1018 ls []) := by
  have lc0 := lc
  obtain ⟨hl0, hx, hb, hml, hown, hts, hX, hbl, hK, hN, hZ, hXA, hXW, hNC⟩ := lc
  have hA : ∀ q : Nat, s.heap.size ≤ q → (fun q : Nat => s.heap.size ≤ q) q := fun _ h => h
  have hbA : ¬ (fun q : Nat => s.heap.size ≤ q) b := Nat.not_le.mpr hbl
  refine lv_aload_n hx hb dL_law_1018 rfl (lv_at hl 1 rfl) ?_
  refine lv_aload_n hx hb dL_law_1019 rfl (lv_at hl 0 rfl) ?_
  refine lv_iload hx hb dL_law_1020 (lv_at hl 4 rfl) ?_
  refine lv_iconst (v := 1) hx hb dL_law_1022 (by decide) ?_
  refine lv_iadd hx hb dL_law_1023 ?_
  refine va_sld hx hb hX hbl hbA hS i1 dL_law_1024 ?_
  refine lv_aload_n hx hb dL_law_1025 rfl (lv_at hl 0 rfl) ?_
  refine lv_iload hx hb dL_law_1026 (lv_at hl 4 rfl) ?_
  refine lv_iconst (v := 2) hx hb dL_law_1028 (by decide) ?_
  refine lv_iadd hx hb dL_law_1029 ?_
  refine va_sld hx hb hX hbl hbA hS i2 dL_law_1030 ?_
  refine lv_aload_n hx hb dL_law_1031 rfl (lv_at hl 3 rfl) ?_
  rcases o_play hSim (xs (v4 + 1).toNatClampNeg) (xs (v4 + 2).toNatClampNeg) with ⟨r, sH', x', e1, e2, e3, hS'⟩ | ⟨E, c0, r, x', hEc, e1, e2, e3, hS'⟩
  · skip
    refine zcLi (wr := wM c am x) (wc := wQ c out f ++ wH c ah ag ar ps sH) (As := [.ref (ah 0), .int (xs (v4 + 1).toNatClampNeg), .int (xs (v4 + 2).toNatClampNeg), .ref out]) (rest := []) ⟨hx, hb, hml, hown, hts⟩ (w_play l G K c ah ag ar (ps := ps) (hm := e1) (out := out) (f := f)) (vx_cwSW 4 hts gL_law_L_play rfl rfl rfl (by decide +kernel) ⟨Nat.le_of_ble_eq_true rfl, Nat.le_of_ble_eq_true rfl⟩) hK hN hZ hXA hXW hNC hP hD hS hA rfl hl.1 rfl (Nat.le_of_ble_eq_true rfl) dL_law_1032 ⟨by show cells + 0 ≤ 601024; omega, by show slots + 0 ≤ 7293034; omega⟩ (fun aa H locs hP hD hS => ?_)
    refine tail_play lc0 i1 i2 ⟨by omega, by omega⟩ e2 e3 (fun _ => updL_s) hP hD hS hl (fun H locs ls hP hD hS hl => ?_)
    refine W.widen (k := cells + 3) (n := slots + 518) (by omega) (by omega) ?_
    exact kk sH' x' ps _ H locs ls hS' hP hD hS hl
  · simp only [List.mem_cons, Prod.mk.injEq, List.not_mem_nil, or_false] at hEc
    rcases hEc with ⟨rfl, rfl⟩ | ⟨rfl, rfl⟩ | ⟨rfl, rfl⟩
    · skip
      refine zcLi (wr := wM c am x) (wc := wQ c out f ++ wH c ah ag ar ps sH) (As := [.ref (ah 0), .int (xs (v4 + 1).toNatClampNeg), .int (xs (v4 + 2).toNatClampNeg), .ref out]) (rest := []) ⟨hx, hb, hml, hown, hts⟩ (wt_play_1 l hl0 G K c ah ag ar (ps := ps) (hm := e1) (out := out) (f := f)) (vx_cwSW 4 hts gL_law_L_play rfl rfl rfl (by decide +kernel) ⟨Nat.le_of_ble_eq_true rfl, Nat.le_of_ble_eq_true rfl⟩) hK hN hZ hXA hXW hNC hP hD hS hA rfl hl.1 rfl (Nat.le_of_ble_eq_true rfl) dL_law_1032 ⟨by show cells + 1 ≤ 601024; omega, by show slots + 6 ≤ 7293034; omega⟩ (fun aa H locs hP hD hS => ?_)
      refine tail_play lc0 i1 i2 ⟨by omega, by omega⟩ e2 e3 (fun h => absurd h (by decide)) hP hD hS hl (fun H locs ls hP hD hS hl => ?_)
      refine W.widen (k := cells + 3) (n := slots + 518) (by omega) (by omega) ?_
      exact kk sH x' ps _ H locs ls hS' hP hD hS hl
    · skip
      refine zcLi (wr := wM c am x) (wc := wQ c out f ++ wH c ah ag ar ps sH) (As := [.ref (ah 0), .int (xs (v4 + 1).toNatClampNeg), .int (xs (v4 + 2).toNatClampNeg), .ref out]) (rest := []) ⟨hx, hb, hml, hown, hts⟩ (wt_play_2 l hl0 G K c ah ag ar (ps := ps) (hm := e1) (out := out) (f := f)) (vx_cwSW 4 hts gL_law_L_play rfl rfl rfl (by decide +kernel) ⟨Nat.le_of_ble_eq_true rfl, Nat.le_of_ble_eq_true rfl⟩) hK hN hZ hXA hXW hNC hP hD hS hA rfl hl.1 rfl (Nat.le_of_ble_eq_true rfl) dL_law_1032 ⟨by show cells + 1 ≤ 601024; omega, by show slots + 6 ≤ 7293034; omega⟩ (fun aa H locs hP hD hS => ?_)
      refine tail_play lc0 i1 i2 ⟨by omega, by omega⟩ e2 e3 (fun h => absurd h (by decide)) hP hD hS hl (fun H locs ls hP hD hS hl => ?_)
      refine W.widen (k := cells + 3) (n := slots + 518) (by omega) (by omega) ?_
      exact kk sH x' ps _ H locs ls hS' hP hD hS hl
    · skip
      refine zcLi (wr := wM c am x) (wc := wQ c out f ++ wH c ah ag ar ps sH) (As := [.ref (ah 0), .int (xs (v4 + 1).toNatClampNeg), .int (xs (v4 + 2).toNatClampNeg), .ref out]) (rest := []) ⟨hx, hb, hml, hown, hts⟩ (wt_play_3 l hl0 G K c ah ag ar (ps := ps) (hm := e1) (out := out) (f := f)) (vx_cwSW 4 hts gL_law_L_play rfl rfl rfl (by decide +kernel) ⟨Nat.le_of_ble_eq_true rfl, Nat.le_of_ble_eq_true rfl⟩) hK hN hZ hXA hXW hNC hP hD hS hA rfl hl.1 rfl (Nat.le_of_ble_eq_true rfl) dL_law_1032 ⟨by show cells + 1 ≤ 601024; omega, by show slots + 6 ≤ 7293034; omega⟩ (fun aa H locs hP hD hS => ?_)
      refine tail_play lc0 i1 i2 ⟨by omega, by omega⟩ e2 e3 (fun h => absurd h (by decide)) hP hD hS hl (fun H locs ls hP hD hS hl => ?_)
      refine W.widen (k := cells + 3) (n := slots + 518) (by omega) (by omega) ?_
      exact kk sH x' ps _ H locs ls hS' hP hD hS hl
theorem case_draw {p : Program} {l : Launch} {e : Env} {s : State} {m : MethodId} {args : Array Value} {below : List Frame} {meth : Method} {c1 : Code} {Q : State → Prop} {G : va_G} {K : (Nat → Nat) × (Nat → Nat)} {c : Nat → ClassId} {am ah : Nat → Nat} {ag : Nat → Nat → Nat} {ar : Nat → Nat} {out b L : Nat} {xs : Nat → Int32} (lc : LC p l s m args c1 G K c b L xs) {cells slots : Nat} {v4 : Int32}  (hc : cells + 3 ≤ 601024 ∧ slots + 518 ≤ 7293034) {sH : HS} {x : MS} {ps : PS} {f : Nat → Int64} (hSim : Sim sH x ps) {H : Heap} {locs : List Loc} {ls : Array Slot} (hP : va_P G vwCl (wM c am x ++ (wQ c out f ++ wH c ah ag ar ps sH)) H) (hD : va_D (fun q : Nat => s.heap.size ≤ q) (wM c am x ++ (wQ c out f ++ wH c ah ag ar ps sH))) (hS : va_S (fun q : Nat => s.heap.size ≤ q) s.heap H locs) (hl : lv_has ls 9 [(0, .ref b), (1, .ref (ah 0)), (2, .ref (am 0)), (3, .ref out), (4, .int v4)])
    (kk : ∀ (sH' : HS) (x' : MS) (ps' : PS) (f' : Nat → Int64) (H : Heap) (locs : List Loc) (ls : Array Slot), Sim sH' x' ps' → va_P G vwCl (wM c am x' ++ (wQ c out f' ++ wH c ah ag ar ps' sH')) H → va_D (fun q : Nat => s.heap.size ≤ q) (wM c am x' ++ (wQ c out f' ++ wH c ah ag ar ps' sH')) → va_S (fun q : Nat => s.heap.size ≤ q) s.heap H locs → lv_has ls 9 [(0, .ref b), (1, .ref (ah 0)), (2, .ref (am 0)), (3, .ref out), (4, .int v4)] → W p l e room_1 s m args below meth c1 H locs (cells + 3) (slots + 518) Q (F0 m 1325 ls [])) : W p l e room_1 s m args below meth c1 H locs cells slots Q (F0 m 1086 ls []) := by
  have lc0 := lc
  obtain ⟨hl0, hx, hb, hml, hown, hts, hX, hbl, hK, hN, hZ, hXA, hXW, hNC⟩ := lc
  have hA : ∀ q : Nat, s.heap.size ≤ q → (fun q : Nat => s.heap.size ≤ q) q := fun _ h => h
  have hbA : ¬ (fun q : Nat => s.heap.size ≤ q) b := Nat.not_le.mpr hbl
  refine lv_aload_n hx hb dL_law_1086 rfl (lv_at hl 1 rfl) ?_
  refine lv_aload_n hx hb dL_law_1087 rfl (lv_at hl 3 rfl) ?_
  rcases o_draw hSim  with ⟨r, sH', x', e1, e2, e3, hS'⟩ | ⟨E, c0, r, x', hEc, e1, e2, e3, hS'⟩
  · skip
    refine zcLi (wr := wM c am x) (wc := wQ c out f ++ wH c ah ag ar ps sH) (As := [.ref (ah 0), .ref out]) (rest := []) ⟨hx, hb, hml, hown, hts⟩ (w_draw l G K c ah ag ar (ps := ps) (hm := e1) (out := out) (f := f)) (vx_cwSW 2 hts gL_law_L_draw rfl rfl rfl (by decide +kernel) ⟨Nat.le_of_ble_eq_true rfl, Nat.le_of_ble_eq_true rfl⟩) hK hN hZ hXA hXW hNC hP hD hS hA rfl hl.1 rfl (Nat.le_of_ble_eq_true rfl) dL_law_1088 ⟨by show cells + 0 ≤ 601024; omega, by show slots + 0 ≤ 7293034; omega⟩ (fun aa H locs hP hD hS => ?_)
    refine tail_draw lc0  ⟨by omega, by omega⟩ e2 e3 (fun _ => updL_s) hP hD hS hl (fun H locs ls hP hD hS hl => ?_)
    refine W.widen (k := cells + 3) (n := slots + 518) (by omega) (by omega) ?_
    exact kk sH' x' ps _ H locs ls hS' hP hD hS hl
  · simp only [List.mem_cons, Prod.mk.injEq, List.not_mem_nil, or_false] at hEc
    rcases hEc with ⟨rfl, rfl⟩
    · skip
      refine zcLi (wr := wM c am x) (wc := wQ c out f ++ wH c ah ag ar ps sH) (As := [.ref (ah 0), .ref out]) (rest := []) ⟨hx, hb, hml, hown, hts⟩ (wt_draw_1 l hl0 G K c ah ag ar (ps := ps) (hm := e1) (out := out) (f := f)) (vx_cwSW 2 hts gL_law_L_draw rfl rfl rfl (by decide +kernel) ⟨Nat.le_of_ble_eq_true rfl, Nat.le_of_ble_eq_true rfl⟩) hK hN hZ hXA hXW hNC hP hD hS hA rfl hl.1 rfl (Nat.le_of_ble_eq_true rfl) dL_law_1088 ⟨by show cells + 1 ≤ 601024; omega, by show slots + 6 ≤ 7293034; omega⟩ (fun aa H locs hP hD hS => ?_)
      refine tail_draw lc0  ⟨by omega, by omega⟩ e2 e3 (fun h => absurd h (by decide)) hP hD hS hl (fun H locs ls hP hD hS hl => ?_)
      refine W.widen (k := cells + 3) (n := slots + 518) (by omega) (by omega) ?_
      exact kk sH x' ps _ H locs ls hS' hP hD hS hl
theorem case_auto {p : Program} {l : Launch} {e : Env} {s : State} {m : MethodId} {args : Array Value} {below : List Frame} {meth : Method} {c1 : Code} {Q : State → Prop} {G : va_G} {K : (Nat → Nat) × (Nat → Nat)} {c : Nat → ClassId} {am ah : Nat → Nat} {ag : Nat → Nat → Nat} {ar : Nat → Nat} {out b L : Nat} {xs : Nat → Int32} (lc : LC p l s m args c1 G K c b L xs) {cells slots : Nat} {v4 : Int32} (i1 : vp_in (v4 + 1) L) (hc : cells + 3 ≤ 601024 ∧ slots + 518 ≤ 7293034) {sH : HS} {x : MS} {ps : PS} {f : Nat → Int64} (hSim : Sim sH x ps) {H : Heap} {locs : List Loc} {ls : Array Slot} (hP : va_P G vwCl (wM c am x ++ (wQ c out f ++ wH c ah ag ar ps sH)) H) (hD : va_D (fun q : Nat => s.heap.size ≤ q) (wM c am x ++ (wQ c out f ++ wH c ah ag ar ps sH))) (hS : va_S (fun q : Nat => s.heap.size ≤ q) s.heap H locs) (hl : lv_has ls 9 [(0, .ref b), (1, .ref (ah 0)), (2, .ref (am 0)), (3, .ref out), (4, .int v4)])
    (kk : ∀ (sH' : HS) (x' : MS) (ps' : PS) (f' : Nat → Int64) (H : Heap) (locs : List Loc) (ls : Array Slot), Sim sH' x' ps' → va_P G vwCl (wM c am x' ++ (wQ c out f' ++ wH c ah ag ar ps' sH')) H → va_D (fun q : Nat => s.heap.size ≤ q) (wM c am x' ++ (wQ c out f' ++ wH c ah ag ar ps' sH')) → va_S (fun q : Nat => s.heap.size ≤ q) s.heap H locs → lv_has ls 9 [(0, .ref b), (1, .ref (ah 0)), (2, .ref (am 0)), (3, .ref out), (4, .int v4)] → W p l e room_1 s m args below meth c1 H locs (cells + 3) (slots + 518) Q (F0 m 1325 ls [])) : W p l e room_1 s m args below meth c1 H locs cells slots Q (F0 m 1174 ls []) := by
  have lc0 := lc
  obtain ⟨hl0, hx, hb, hml, hown, hts, hX, hbl, hK, hN, hZ, hXA, hXW, hNC⟩ := lc
  have hA : ∀ q : Nat, s.heap.size ≤ q → (fun q : Nat => s.heap.size ≤ q) q := fun _ h => h
  have hbA : ¬ (fun q : Nat => s.heap.size ≤ q) b := Nat.not_le.mpr hbl
  refine lv_aload_n hx hb dL_law_1174 rfl (lv_at hl 1 rfl) ?_
  refine lv_aload_n hx hb dL_law_1175 rfl (lv_at hl 0 rfl) ?_
  refine lv_iload hx hb dL_law_1176 (lv_at hl 4 rfl) ?_
  refine lv_iconst (v := 1) hx hb dL_law_1178 (by decide) ?_
  refine lv_iadd hx hb dL_law_1179 ?_
  refine va_sld hx hb hX hbl hbA hS i1 dL_law_1180 ?_
  refine lv_aload_n hx hb dL_law_1181 rfl (lv_at hl 3 rfl) ?_
  rcases o_auto hSim (xs (v4 + 1).toNatClampNeg) with ⟨r, sH', ps', x', e1, e2, e3, hS', _⟩ | ⟨E, c0, r, x', hEc, e1, e2, e3, hS'⟩
  · skip
    refine zcLi (wr := wM c am x) (wc := wQ c out f ++ wH c ah ag ar ps sH) (As := [.ref (ah 0), .int (xs (v4 + 1).toNatClampNeg), .ref out]) (rest := []) ⟨hx, hb, hml, hown, hts⟩ (w_auto l G K c ah ag ar (ps := ps) (hm := e1) (out := out) (f := f)) (vx_cwSW 3 hts gL_law_L_auto rfl rfl rfl (by decide +kernel) ⟨Nat.le_of_ble_eq_true rfl, Nat.le_of_ble_eq_true rfl⟩) hK hN hZ hXA hXW hNC hP hD hS hA rfl hl.1 rfl (Nat.le_of_ble_eq_true rfl) dL_law_1182 ⟨by show cells + 0 ≤ 601024; omega, by show slots + 0 ≤ 7293034; omega⟩ (fun aa H locs hP hD hS => ?_)
    refine tail_auto lc0 i1 ⟨by omega, by omega⟩ e2 e3 (fun _ => updL_s) hP hD hS hl (fun H locs ls hP hD hS hl => ?_)
    refine W.widen (k := cells + 3) (n := slots + 518) (by omega) (by omega) ?_
    exact kk sH' x' ps' _ H locs ls hS' hP hD hS hl
  · simp only [List.mem_cons, Prod.mk.injEq, List.not_mem_nil, or_false] at hEc
    rcases hEc with ⟨rfl, rfl⟩
    · skip
      refine zcLi (wr := wM c am x) (wc := wQ c out f ++ wH c ah ag ar ps sH) (As := [.ref (ah 0), .int (xs (v4 + 1).toNatClampNeg), .ref out]) (rest := []) ⟨hx, hb, hml, hown, hts⟩ (wt_auto_1 l hl0 G K c ah ag ar (ps := ps) (hm := e1) (out := out) (f := f)) (vx_cwSW 3 hts gL_law_L_auto rfl rfl rfl (by decide +kernel) ⟨Nat.le_of_ble_eq_true rfl, Nat.le_of_ble_eq_true rfl⟩) hK hN hZ hXA hXW hNC hP hD hS hA rfl hl.1 rfl (Nat.le_of_ble_eq_true rfl) dL_law_1182 ⟨by show cells + 1 ≤ 601024; omega, by show slots + 6 ≤ 7293034; omega⟩ (fun aa H locs hP hD hS => ?_)
      refine tail_auto lc0 i1 ⟨by omega, by omega⟩ e2 e3 (fun h => absurd h (by decide)) hP hD hS hl (fun H locs ls hP hD hS hl => ?_)
      refine W.widen (k := cells + 3) (n := slots + 518) (by omega) (by omega) ?_
      exact kk sH x' ps _ H locs ls hS' hP hD hS hl
theorem case_deal {p : Program} {l : Launch} {e : Env} {s : State} {m : MethodId} {args : Array Value} {below : List Frame} {meth : Method} {c1 : Code} {Q : State → Prop} {G : va_G} {K : (Nat → Nat) × (Nat → Nat)} {c : Nat → ClassId} {am ah : Nat → Nat} {ag : Nat → Nat → Nat} {ar : Nat → Nat} {out b L : Nat} {xs : Nat → Int32} (lc : LC p l s m args c1 G K c b L xs) {cells slots : Nat} {v4 : Int32} (i1 : vp_in (v4 + 1) L) (i2 : vp_in (v4 + 2) L) (hc : cells + 3 ≤ 601024 ∧ slots + 518 ≤ 7293034) {sH : HS} {x : MS} {ps : PS} {f : Nat → Int64} (hSim : Sim sH x ps) {H : Heap} {locs : List Loc} {ls : Array Slot} (hP : va_P G vwCl (wM c am x ++ (wQ c out f ++ wH c ah ag ar ps sH)) H) (hD : va_D (fun q : Nat => s.heap.size ≤ q) (wM c am x ++ (wQ c out f ++ wH c ah ag ar ps sH))) (hS : va_S (fun q : Nat => s.heap.size ≤ q) s.heap H locs) (hl : lv_has ls 9 [(0, .ref b), (1, .ref (ah 0)), (2, .ref (am 0)), (3, .ref out), (4, .int v4)])
    (kk : ∀ (sH' : HS) (x' : MS) (ps' : PS) (f' : Nat → Int64) (H : Heap) (locs : List Loc) (ls : Array Slot), Sim sH' x' ps' → va_P G vwCl (wM c am x' ++ (wQ c out f' ++ wH c ah ag ar ps' sH')) H → va_D (fun q : Nat => s.heap.size ≤ q) (wM c am x' ++ (wQ c out f' ++ wH c ah ag ar ps' sH')) → va_S (fun q : Nat => s.heap.size ≤ q) s.heap H locs → lv_has ls 9 [(0, .ref b), (1, .ref (ah 0)), (2, .ref (am 0)), (3, .ref out), (4, .int v4)] → W p l e room_1 s m args below meth c1 H locs (cells + 3) (slots + 518) Q (F0 m 1325 ls [])) : W p l e room_1 s m args below meth c1 H locs cells slots Q (F0 m 1230 ls []) := by
  have lc0 := lc
  obtain ⟨hl0, hx, hb, hml, hown, hts, hX, hbl, hK, hN, hZ, hXA, hXW, hNC⟩ := lc
  have hA : ∀ q : Nat, s.heap.size ≤ q → (fun q : Nat => s.heap.size ≤ q) q := fun _ h => h
  have hbA : ¬ (fun q : Nat => s.heap.size ≤ q) b := Nat.not_le.mpr hbl
  refine lv_aload_n hx hb dL_law_1230 rfl (lv_at hl 1 rfl) ?_
  refine lv_aload_n hx hb dL_law_1231 rfl (lv_at hl 0 rfl) ?_
  refine lv_iload hx hb dL_law_1232 (lv_at hl 4 rfl) ?_
  refine lv_iconst (v := 1) hx hb dL_law_1234 (by decide) ?_
  refine lv_iadd hx hb dL_law_1235 ?_
  refine va_sld hx hb hX hbl hbA hS i1 dL_law_1236 ?_
  refine lv_aload_n hx hb dL_law_1237 rfl (lv_at hl 0 rfl) ?_
  refine lv_iload hx hb dL_law_1238 (lv_at hl 4 rfl) ?_
  refine lv_iconst (v := 2) hx hb dL_law_1240 (by decide) ?_
  refine lv_iadd hx hb dL_law_1241 ?_
  refine va_sld hx hb hX hbl hbA hS i2 dL_law_1242 ?_
  refine lv_aload_n hx hb dL_law_1243 rfl (lv_at hl 3 rfl) ?_
  rcases o_deal hSim (xs (v4 + 1).toNatClampNeg) (xs (v4 + 2).toNatClampNeg) with ⟨r, sH', x', e1, e2, e3, hS'⟩ | ⟨E, c0, r, x', hEc, e1, e2, e3, hS'⟩
  · skip
    refine zcLi (wr := wM c am x) (wc := wQ c out f ++ wH c ah ag ar ps sH) (As := [.ref (ah 0), .int (xs (v4 + 1).toNatClampNeg), .int (xs (v4 + 2).toNatClampNeg), .ref out]) (rest := []) ⟨hx, hb, hml, hown, hts⟩ (w_deal l G K c ah ag ar (ps := ps) (hm := e1) (out := out) (f := f)) (vx_cwSW 4 hts gL_law_L_deal rfl rfl rfl (by decide +kernel) ⟨Nat.le_of_ble_eq_true rfl, Nat.le_of_ble_eq_true rfl⟩) hK hN hZ hXA hXW hNC hP hD hS hA rfl hl.1 rfl (Nat.le_of_ble_eq_true rfl) dL_law_1244 ⟨by show cells + 0 ≤ 601024; omega, by show slots + 0 ≤ 7293034; omega⟩ (fun aa H locs hP hD hS => ?_)
    refine tail_deal lc0 i1 i2 ⟨by omega, by omega⟩ e2 e3 (fun _ => updL_s) hP hD hS hl (fun H locs ls hP hD hS hl => ?_)
    refine W.widen (k := cells + 3) (n := slots + 518) (by omega) (by omega) ?_
    exact kk sH' x' ps _ H locs ls hS' hP hD hS hl
  · simp only [List.mem_cons, Prod.mk.injEq, List.not_mem_nil, or_false] at hEc
    rcases hEc with ⟨rfl, rfl⟩ | ⟨rfl, rfl⟩
    · skip
      refine zcLi (wr := wM c am x) (wc := wQ c out f ++ wH c ah ag ar ps sH) (As := [.ref (ah 0), .int (xs (v4 + 1).toNatClampNeg), .int (xs (v4 + 2).toNatClampNeg), .ref out]) (rest := []) ⟨hx, hb, hml, hown, hts⟩ (wt_deal_1 l hl0 G K c ah ag ar (ps := ps) (hm := e1) (out := out) (f := f)) (vx_cwSW 4 hts gL_law_L_deal rfl rfl rfl (by decide +kernel) ⟨Nat.le_of_ble_eq_true rfl, Nat.le_of_ble_eq_true rfl⟩) hK hN hZ hXA hXW hNC hP hD hS hA rfl hl.1 rfl (Nat.le_of_ble_eq_true rfl) dL_law_1244 ⟨by show cells + 1 ≤ 601024; omega, by show slots + 6 ≤ 7293034; omega⟩ (fun aa H locs hP hD hS => ?_)
      refine tail_deal lc0 i1 i2 ⟨by omega, by omega⟩ e2 e3 (fun h => absurd h (by decide)) hP hD hS hl (fun H locs ls hP hD hS hl => ?_)
      refine W.widen (k := cells + 3) (n := slots + 518) (by omega) (by omega) ?_
      exact kk sH x' ps _ H locs ls hS' hP hD hS hl
    · skip
      refine zcLi (wr := wM c am x) (wc := wQ c out f ++ wH c ah ag ar ps sH) (As := [.ref (ah 0), .int (xs (v4 + 1).toNatClampNeg), .int (xs (v4 + 2).toNatClampNeg), .ref out]) (rest := []) ⟨hx, hb, hml, hown, hts⟩ (wt_deal_2 l hl0 G K c ah ag ar (ps := ps) (hm := e1) (out := out) (f := f)) (vx_cwSW 4 hts gL_law_L_deal rfl rfl rfl (by decide +kernel) ⟨Nat.le_of_ble_eq_true rfl, Nat.le_of_ble_eq_true rfl⟩) hK hN hZ hXA hXW hNC hP hD hS hA rfl hl.1 rfl (Nat.le_of_ble_eq_true rfl) dL_law_1244 ⟨by show cells + 1 ≤ 601024; omega, by show slots + 6 ≤ 7293034; omega⟩ (fun aa H locs hP hD hS => ?_)
      refine tail_deal lc0 i1 i2 ⟨by omega, by omega⟩ e2 e3 (fun h => absurd h (by decide)) hP hD hS hl (fun H locs ls hP hD hS hl => ?_)
      refine W.widen (k := cells + 3) (n := slots + 518) (by omega) (by omega) ?_
      exact kk sH x' ps _ H locs ls hS' hP hD hS hl
theorem case_pass {p : Program} {l : Launch} {e : Env} {s : State} {m : MethodId} {args : Array Value} {below : List Frame} {meth : Method} {c1 : Code} {Q : State → Prop} {G : va_G} {K : (Nat → Nat) × (Nat → Nat)} {c : Nat → ClassId} {am ah : Nat → Nat} {ag : Nat → Nat → Nat} {ar : Nat → Nat} {out b L : Nat} {xs : Nat → Int32} (lc : LC p l s m args c1 G K c b L xs) {cells slots : Nat} {v4 : Int32}  (hc : cells + 3 ≤ 601024 ∧ slots + 518 ≤ 7293034) {sH : HS} {x : MS} {ps : PS} {f : Nat → Int64} (hSim : Sim sH x ps) {H : Heap} {locs : List Loc} {ls : Array Slot} (hP : va_P G vwCl (wM c am x ++ (wQ c out f ++ wH c ah ag ar ps sH)) H) (hD : va_D (fun q : Nat => s.heap.size ≤ q) (wM c am x ++ (wQ c out f ++ wH c ah ag ar ps sH))) (hS : va_S (fun q : Nat => s.heap.size ≤ q) s.heap H locs) (hl : lv_has ls 9 [(0, .ref b), (1, .ref (ah 0)), (2, .ref (am 0)), (3, .ref out), (4, .int v4)])
    (kk : ∀ (sH' : HS) (x' : MS) (ps' : PS) (f' : Nat → Int64) (H : Heap) (locs : List Loc) (ls : Array Slot), Sim sH' x' ps' → va_P G vwCl (wM c am x' ++ (wQ c out f' ++ wH c ah ag ar ps' sH')) H → va_D (fun q : Nat => s.heap.size ≤ q) (wM c am x' ++ (wQ c out f' ++ wH c ah ag ar ps' sH')) → va_S (fun q : Nat => s.heap.size ≤ q) s.heap H locs → lv_has ls 9 [(0, .ref b), (1, .ref (ah 0)), (2, .ref (am 0)), (3, .ref out), (4, .int v4)] → W p l e room_1 s m args below meth c1 H locs (cells + 3) (slots + 518) Q (F0 m 1325 ls [])) : W p l e room_1 s m args below meth c1 H locs cells slots Q (F0 m 1130 ls []) := by
  have lc0 := lc
  obtain ⟨hl0, hx, hb, hml, hown, hts, hX, hbl, hK, hN, hZ, hXA, hXW, hNC⟩ := lc
  have hA : ∀ q : Nat, s.heap.size ≤ q → (fun q : Nat => s.heap.size ≤ q) q := fun _ h => h
  have hbA : ¬ (fun q : Nat => s.heap.size ≤ q) b := Nat.not_le.mpr hbl
  refine lv_aload_n hx hb dL_law_1130 rfl (lv_at hl 1 rfl) ?_
  refine lv_aload_n hx hb dL_law_1131 rfl (lv_at hl 3 rfl) ?_
  rcases o_pass hSim  with ⟨r, sH', x', e1, e2, e3, hS'⟩ | ⟨E, c0, r, x', hEc, e1, e2, e3, hS'⟩
  · skip
    refine zcLi (wr := wM c am x) (wc := wQ c out f ++ wH c ah ag ar ps sH) (As := [.ref (ah 0), .ref out]) (rest := []) ⟨hx, hb, hml, hown, hts⟩ (w_pass l G K c ah ag ar (ps := ps) (hm := e1) (out := out) (f := f)) (vx_cwSW 2 hts gL_law_L_pass rfl rfl rfl (by decide +kernel) ⟨Nat.le_of_ble_eq_true rfl, Nat.le_of_ble_eq_true rfl⟩) hK hN hZ hXA hXW hNC hP hD hS hA rfl hl.1 rfl (Nat.le_of_ble_eq_true rfl) dL_law_1132 ⟨by show cells + 0 ≤ 601024; omega, by show slots + 0 ≤ 7293034; omega⟩ (fun aa H locs hP hD hS => ?_)
    refine tail_pass lc0  ⟨by omega, by omega⟩ e2 e3 (fun _ => updL_s) hP hD hS hl (fun H locs ls hP hD hS hl => ?_)
    refine W.widen (k := cells + 3) (n := slots + 518) (by omega) (by omega) ?_
    exact kk sH' x' ps _ H locs ls hS' hP hD hS hl
  · simp only [List.mem_cons, Prod.mk.injEq, List.not_mem_nil, or_false] at hEc
    rcases hEc with ⟨rfl, rfl⟩
    · skip
      refine zcLi (wr := wM c am x) (wc := wQ c out f ++ wH c ah ag ar ps sH) (As := [.ref (ah 0), .ref out]) (rest := []) ⟨hx, hb, hml, hown, hts⟩ (wt_pass_1 l hl0 G K c ah ag ar (ps := ps) (hm := e1) (out := out) (f := f)) (vx_cwSW 2 hts gL_law_L_pass rfl rfl rfl (by decide +kernel) ⟨Nat.le_of_ble_eq_true rfl, Nat.le_of_ble_eq_true rfl⟩) hK hN hZ hXA hXW hNC hP hD hS hA rfl hl.1 rfl (Nat.le_of_ble_eq_true rfl) dL_law_1132 ⟨by show cells + 1 ≤ 601024; omega, by show slots + 6 ≤ 7293034; omega⟩ (fun aa H locs hP hD hS => ?_)
      refine tail_pass lc0  ⟨by omega, by omega⟩ e2 e3 (fun h => absurd h (by decide)) hP hD hS hl (fun H locs ls hP hD hS hl => ?_)
      refine W.widen (k := cells + 3) (n := slots + 518) (by omega) (by omega) ?_
      exact kk sH x' ps _ H locs ls hS' hP hD hS hl
