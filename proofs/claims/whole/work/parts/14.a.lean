/-- what stays the same while the law runs -/
def LC (p : Program) (l : Launch) (s : State) (m : MethodId) (args : Array Value) (c1 : Code) (G : va_G) (K : (Nat → Nat) × (Nat → Nat)) (c : Nat → ClassId) (b L : Nat) (xs : Nat → Int32) : Prop :=
  l.stackTraces = false ∧ p.tables.exec = Jvm.exec ∧ c1.code = cL_law ∧ c1.maxLocals = 9 ∧ s.vm.findClass RL = some m.cls ∧ (∀ w ∈ lw_tbl, w.before args s = true) ∧ va_X b L xs s s.heap ∧ b < s.heap.size ∧ va_K G vwCl (TY c) s ∧ NW K s ∧ ZE K (fun q => s.heap.size ≤ q) s s.heap ∧ XA s ∧ XW s ∧ NC s
theorem thrown_eq {x : MS} {k : Int32} (h : x.1.1 0 = k) : f_X8_thrown x = some k := by rw [← h]; rfl
theorem lcmp_self {x : Int64} : lg_cmp x x = 0 := by simp [lg_cmp]
theorem tail_load {p : Program} {l : Launch} {e : Env} {s : State} {m : MethodId} {args : Array Value} {below : List Frame} {meth : Method} {c1 : Code} {Q : State → Prop} {G : va_G} {K : (Nat → Nat) × (Nat → Nat)} {c : Nat → ClassId} {am ah : Nat → Nat} {ag : Nat → Nat → Nat} {ar : Nat → Nat} {out b L : Nat} {xs : Nat → Int32} (lc : LC p l s m args c1 G K c b L xs) {cells slots : Nat} {v4 : Int32} (i1 : vp_in (v4 + 1) L) (hc : cells ≤ 601024 ∧ slots ≤ 7293034) {sH : HS} {x x' : MS} {ps : PS} {k r : Int32} {f : Nat → Int64} (hm : f_X8_load x (xs (v4 + 1).toNatClampNeg) = some (r, x')) (hk : x'.1.1 0 = k) (hf : k = 0 → f (0 : Int32).toNatClampNeg = r.toInt64) {H : Heap} {locs : List Loc} {ls : Array Slot} (hP : va_P G vwCl (wM c am x ++ (wQ c out f ++ wH c ah ag ar ps sH)) H) (hD : va_D (fun q : Nat => s.heap.size ≤ q) (wM c am x ++ (wQ c out f ++ wH c ah ag ar ps sH))) (hS : va_S (fun q : Nat => s.heap.size ≤ q) s.heap H locs) (hl : lv_has ls 9 [(0, .ref b), (1, .ref (ah 0)), (2, .ref (am 0)), (3, .ref out), (4, .int v4)])
    (kk : ∀ (H : Heap) (locs : List Loc) (ls : Array Slot), va_P G vwCl (wM c am x' ++ (wQ c out f ++ wH c ah ag ar ps sH)) H → va_D (fun q : Nat => s.heap.size ≤ q) (wM c am x' ++ (wQ c out f ++ wH c ah ag ar ps sH)) → va_S (fun q : Nat => s.heap.size ≤ q) s.heap H locs → lv_has ls 9 [(0, .ref b), (1, .ref (ah 0)), (2, .ref (am 0)), (3, .ref out), (4, .int v4)] → W p l e room_1 s m args below meth c1 H locs cells slots Q (F0 m 1325 ls [])) : W p l e room_1 s m args below meth c1 H locs cells slots Q (F0 m 236 ls [.int k]) := by
  obtain ⟨hl0, hx, hb, hml, hown, hts, hX, hbl, hK, hN, hZ, hXA, hXW, hNC⟩ := lc
  have hA : ∀ q : Nat, s.heap.size ≤ q → (fun q : Nat => s.heap.size ≤ q) q := fun _ h => h
  have hbA : ¬ (fun q : Nat => s.heap.size ≤ q) b := Nat.not_le.mpr hbl
  refine lv_istore (lv' := [(5, .int k), (0, .ref b), (1, .ref (ah 0)), (2, .ref (am 0)), (3, .ref out), (4, .int v4)]) hx hb dL_law_236 hl (by decide) rfl (fun ls hl => ?_)
  refine lv_aload_n hx hb dL_law_238 rfl (lv_at hl 3 rfl) ?_
  refine lv_aload_n hx hb dL_law_239 rfl (lv_at hl 1 rfl) ?_
  refine lv_iload hx hb dL_law_240 (lv_at hl 5 rfl) ?_
  refine lv_iconst (v := 1) hx hb dL_law_242 (by decide) ?_
  refine lv_iadd hx hb dL_law_243 ?_
  refine va_sld hx hb hX hbl hbA hS i1 dL_law_244 ?_
  refine zcEVi (wc := wM c am x) (wr := wQ c out f ++ wH c ah ag ar ps sH) (As := [.int (xs (v4 + 1).toNatClampNeg)]) (rest := []) ⟨hx, hb, hml, hown, hts⟩ (k_X8_load l G K c am x (xs (v4 + 1).toNatClampNeg) r x' hm) (cwV 1 hts gL_law_X8_load rfl rfl rfl (by decide +kernel) ⟨Nat.le_of_ble_eq_true rfl, Nat.le_of_ble_eq_true rfl⟩) hK hN hZ hP hD hS hA (va_recv hK hP (ci := 8) (q0 := 0) rfl rfl) rfl hl.1 rfl (Nat.le_of_ble_eq_true rfl) dL_law_245 hc (fun H locs hP hD hS => ?_)
  refine lv_istore (lv' := [(6, .int r), (5, .int k), (0, .ref b), (1, .ref (ah 0)), (2, .ref (am 0)), (3, .ref out), (4, .int v4)]) hx hb dL_law_248 hl (by decide) rfl (fun ls hl => ?_)
  refine lv_aload_n hx hb dL_law_250 rfl (lv_at hl 4 rfl) ?_
  refine zcEVi (wc := wM c am x') (wr := wQ c out f ++ wH c ah ag ar ps sH) (As := []) (rest := []) ⟨hx, hb, hml, hown, hts⟩ (k_X8_thrown l G K c am x' k (thrown_eq hk)) (cwV 0 hts gL_law_X8_thrown rfl rfl rfl (by decide +kernel) ⟨Nat.le_of_ble_eq_true rfl, Nat.le_of_ble_eq_true rfl⟩) hK hN hZ hP hD hS hA (va_recv hK hP (ci := 8) (q0 := 0) rfl rfl) rfl hl.1 rfl (Nat.le_of_ble_eq_true rfl) dL_law_251 hc (fun H locs hP hD hS => ?_)
  refine lv_iload hx hb dL_law_254 (lv_at hl 1 rfl) ?_
  refine lv_icmp_eq (tgt := 261) hx hb dL_law_256 (by decide) (fun _ => ?_) (fun h => absurd rfl h)
  refine lv_iload hx hb dL_law_261 (lv_at hl 1 rfl) ?_
  refine lv_if_ne (tgt := 278) hx hb dL_law_263 (by decide) (fun hk0 => ?_) (fun hk0 => ?_)
  · refine lv_goto (tgt := 1325) hx hb dL_law_278 (by decide) ?_
    exact kk H locs ls hP hD hS (lv_sub hl [2, 3, 4, 5, 6] rfl)
  · refine lv_aload_n hx hb dL_law_266 rfl (lv_at hl 5 rfl) ?_
    refine lv_iconst (v := 0) hx hb dL_law_267 (by decide) ?_
    refine va_lald (D := G) hx hb hK hP 18 1 rfl rfl (inb_s (by decide)) dL_law_268 ?_
    refine lv_iload hx hb dL_law_269 (lv_at hl 0 rfl) ?_
    refine lv_i2l (v := r.toInt64) hx hb dL_law_271 rfl ?_
    refine W.lcmp hx hb dL_law_272 ?_
    refine lv_if_eq (tgt := 278) hx hb dL_law_273 (by decide) (fun _ => ?_) (fun h => absurd (by rw [hf hk0]; exact lcmp_self) h)
    refine lv_goto (tgt := 1325) hx hb dL_law_278 (by decide) ?_
    exact kk H locs ls hP hD hS (lv_sub hl [2, 3, 4, 5, 6] rfl)
theorem tail_state {p : Program} {l : Launch} {e : Env} {s : State} {m : MethodId} {args : Array Value} {below : List Frame} {meth : Method} {c1 : Code} {Q : State → Prop} {G : va_G} {K : (Nat → Nat) × (Nat → Nat)} {c : Nat → ClassId} {am ah : Nat → Nat} {ag : Nat → Nat → Nat} {ar : Nat → Nat} {out b L : Nat} {xs : Nat → Int32} (lc : LC p l s m args c1 G K c b L xs) {cells slots : Nat} {v4 : Int32} (i1 : vp_in (v4 + 1) L) (hc : cells ≤ 601024 ∧ slots ≤ 7293034) {sH : HS} {x x' : MS} {ps : PS} {k r : Int32} {f : Nat → Int64} (hm : f_X8_state x (xs (v4 + 1).toNatClampNeg) = some (r, x')) (hk : x'.1.1 0 = k) (hf : k = 0 → f (0 : Int32).toNatClampNeg = r.toInt64) {H : Heap} {locs : List Loc} {ls : Array Slot} (hP : va_P G vwCl (wM c am x ++ (wQ c out f ++ wH c ah ag ar ps sH)) H) (hD : va_D (fun q : Nat => s.heap.size ≤ q) (wM c am x ++ (wQ c out f ++ wH c ah ag ar ps sH))) (hS : va_S (fun q : Nat => s.heap.size ≤ q) s.heap H locs) (hl : lv_has ls 9 [(0, .ref b), (1, .ref (ah 0)), (2, .ref (am 0)), (3, .ref out), (4, .int v4)])
    (kk : ∀ (H : Heap) (locs : List Loc) (ls : Array Slot), va_P G vwCl (wM c am x' ++ (wQ c out f ++ wH c ah ag ar ps sH)) H → va_D (fun q : Nat => s.heap.size ≤ q) (wM c am x' ++ (wQ c out f ++ wH c ah ag ar ps sH)) → va_S (fun q : Nat => s.heap.size ≤ q) s.heap H locs → lv_has ls 9 [(0, .ref b), (1, .ref (ah 0)), (2, .ref (am 0)), (3, .ref out), (4, .int v4)] → W p l e room_1 s m args below meth c1 H locs cells slots Q (F0 m 1325 ls [])) : W p l e room_1 s m args below meth c1 H locs cells slots Q (F0 m 305 ls [.int k]) := by
  obtain ⟨hl0, hx, hb, hml, hown, hts, hX, hbl, hK, hN, hZ, hXA, hXW, hNC⟩ := lc
  have hA : ∀ q : Nat, s.heap.size ≤ q → (fun q : Nat => s.heap.size ≤ q) q := fun _ h => h
  have hbA : ¬ (fun q : Nat => s.heap.size ≤ q) b := Nat.not_le.mpr hbl
  refine lv_istore (lv' := [(5, .int k), (0, .ref b), (1, .ref (ah 0)), (2, .ref (am 0)), (3, .ref out), (4, .int v4)]) hx hb dL_law_305 hl (by decide) rfl (fun ls hl => ?_)
  refine lv_aload_n hx hb dL_law_307 rfl (lv_at hl 3 rfl) ?_
  refine lv_aload_n hx hb dL_law_308 rfl (lv_at hl 1 rfl) ?_
  refine lv_iload hx hb dL_law_309 (lv_at hl 5 rfl) ?_
  refine lv_iconst (v := 1) hx hb dL_law_311 (by decide) ?_
  refine lv_iadd hx hb dL_law_312 ?_
  refine va_sld hx hb hX hbl hbA hS i1 dL_law_313 ?_
  refine zcEVi (wc := wM c am x) (wr := wQ c out f ++ wH c ah ag ar ps sH) (As := [.int (xs (v4 + 1).toNatClampNeg)]) (rest := []) ⟨hx, hb, hml, hown, hts⟩ (k_X8_state l G K c am x (xs (v4 + 1).toNatClampNeg) r x' hm) (cwV 1 hts gL_law_X8_state rfl rfl rfl (by decide +kernel) ⟨Nat.le_of_ble_eq_true rfl, Nat.le_of_ble_eq_true rfl⟩) hK hN hZ hP hD hS hA (va_recv hK hP (ci := 8) (q0 := 0) rfl rfl) rfl hl.1 rfl (Nat.le_of_ble_eq_true rfl) dL_law_314 hc (fun H locs hP hD hS => ?_)
  refine lv_istore (lv' := [(6, .int r), (5, .int k), (0, .ref b), (1, .ref (ah 0)), (2, .ref (am 0)), (3, .ref out), (4, .int v4)]) hx hb dL_law_317 hl (by decide) rfl (fun ls hl => ?_)
  refine lv_aload_n hx hb dL_law_319 rfl (lv_at hl 4 rfl) ?_
  refine zcEVi (wc := wM c am x') (wr := wQ c out f ++ wH c ah ag ar ps sH) (As := []) (rest := []) ⟨hx, hb, hml, hown, hts⟩ (k_X8_thrown l G K c am x' k (thrown_eq hk)) (cwV 0 hts gL_law_X8_thrown rfl rfl rfl (by decide +kernel) ⟨Nat.le_of_ble_eq_true rfl, Nat.le_of_ble_eq_true rfl⟩) hK hN hZ hP hD hS hA (va_recv hK hP (ci := 8) (q0 := 0) rfl rfl) rfl hl.1 rfl (Nat.le_of_ble_eq_true rfl) dL_law_320 hc (fun H locs hP hD hS => ?_)
  refine lv_iload hx hb dL_law_323 (lv_at hl 1 rfl) ?_
  refine lv_icmp_eq (tgt := 330) hx hb dL_law_325 (by decide) (fun _ => ?_) (fun h => absurd rfl h)
  refine lv_iload hx hb dL_law_330 (lv_at hl 1 rfl) ?_
  refine lv_if_ne (tgt := 347) hx hb dL_law_332 (by decide) (fun hk0 => ?_) (fun hk0 => ?_)
  · refine lv_goto (tgt := 1325) hx hb dL_law_347 (by decide) ?_
    exact kk H locs ls hP hD hS (lv_sub hl [2, 3, 4, 5, 6] rfl)
  · refine lv_aload_n hx hb dL_law_335 rfl (lv_at hl 5 rfl) ?_
    refine lv_iconst (v := 0) hx hb dL_law_336 (by decide) ?_
    refine va_lald (D := G) hx hb hK hP 18 1 rfl rfl (inb_s (by decide)) dL_law_337 ?_
    refine lv_iload hx hb dL_law_338 (lv_at hl 0 rfl) ?_
    refine lv_i2l (v := r.toInt64) hx hb dL_law_340 rfl ?_
    refine W.lcmp hx hb dL_law_341 ?_
    refine lv_if_eq (tgt := 347) hx hb dL_law_342 (by decide) (fun _ => ?_) (fun h => absurd (by rw [hf hk0]; exact lcmp_self) h)
    refine lv_goto (tgt := 1325) hx hb dL_law_347 (by decide) ?_
    exact kk H locs ls hP hD hS (lv_sub hl [2, 3, 4, 5, 6] rfl)
theorem tail_player {p : Program} {l : Launch} {e : Env} {s : State} {m : MethodId} {args : Array Value} {below : List Frame} {meth : Method} {c1 : Code} {Q : State → Prop} {G : va_G} {K : (Nat → Nat) × (Nat → Nat)} {c : Nat → ClassId} {am ah : Nat → Nat} {ag : Nat → Nat → Nat} {ar : Nat → Nat} {out b L : Nat} {xs : Nat → Int32} (lc : LC p l s m args c1 G K c b L xs) {cells slots : Nat} {v4 : Int32} (i1 : vp_in (v4 + 1) L) (i2 : vp_in (v4 + 2) L) (hc : cells ≤ 601024 ∧ slots ≤ 7293034) {sH : HS} {x x' : MS} {ps : PS} {k r : Int32} {f : Nat → Int64} (hm : f_X8_player x (xs (v4 + 1).toNatClampNeg) (xs (v4 + 2).toNatClampNeg) = some (r, x')) (hk : x'.1.1 0 = k) (hf : k = 0 → f (0 : Int32).toNatClampNeg = r.toInt64) {H : Heap} {locs : List Loc} {ls : Array Slot} (hP : va_P G vwCl (wM c am x ++ (wQ c out f ++ wH c ah ag ar ps sH)) H) (hD : va_D (fun q : Nat => s.heap.size ≤ q) (wM c am x ++ (wQ c out f ++ wH c ah ag ar ps sH))) (hS : va_S (fun q : Nat => s.heap.size ≤ q) s.heap H locs) (hl : lv_has ls 9 [(0, .ref b), (1, .ref (ah 0)), (2, .ref (am 0)), (3, .ref out), (4, .int v4)])
    (kk : ∀ (H : Heap) (locs : List Loc) (ls : Array Slot), va_P G vwCl (wM c am x' ++ (wQ c out f ++ wH c ah ag ar ps sH)) H → va_D (fun q : Nat => s.heap.size ≤ q) (wM c am x' ++ (wQ c out f ++ wH c ah ag ar ps sH)) → va_S (fun q : Nat => s.heap.size ≤ q) s.heap H locs → lv_has ls 9 [(0, .ref b), (1, .ref (ah 0)), (2, .ref (am 0)), (3, .ref out), (4, .int v4)] → W p l e room_1 s m args below meth c1 H locs cells slots Q (F0 m 1325 ls [])) : W p l e room_1 s m args below meth c1 H locs cells slots Q (F0 m 367 ls [.int k]) := by
  obtain ⟨hl0, hx, hb, hml, hown, hts, hX, hbl, hK, hN, hZ, hXA, hXW, hNC⟩ := lc
  have hA : ∀ q : Nat, s.heap.size ≤ q → (fun q : Nat => s.heap.size ≤ q) q := fun _ h => h
  have hbA : ¬ (fun q : Nat => s.heap.size ≤ q) b := Nat.not_le.mpr hbl
  refine lv_istore (lv' := [(5, .int k), (0, .ref b), (1, .ref (ah 0)), (2, .ref (am 0)), (3, .ref out), (4, .int v4)]) hx hb dL_law_367 hl (by decide) rfl (fun ls hl => ?_)
  refine lv_aload_n hx hb dL_law_369 rfl (lv_at hl 3 rfl) ?_
  refine lv_aload_n hx hb dL_law_370 rfl (lv_at hl 1 rfl) ?_
  refine lv_iload hx hb dL_law_371 (lv_at hl 5 rfl) ?_
  refine lv_iconst (v := 1) hx hb dL_law_373 (by decide) ?_
  refine lv_iadd hx hb dL_law_374 ?_
  refine va_sld hx hb hX hbl hbA hS i1 dL_law_375 ?_
  refine lv_aload_n hx hb dL_law_376 rfl (lv_at hl 1 rfl) ?_
  refine lv_iload hx hb dL_law_377 (lv_at hl 5 rfl) ?_
  refine lv_iconst (v := 2) hx hb dL_law_379 (by decide) ?_
  refine lv_iadd hx hb dL_law_380 ?_
  refine va_sld hx hb hX hbl hbA hS i2 dL_law_381 ?_
  refine zcEVi (wc := wM c am x) (wr := wQ c out f ++ wH c ah ag ar ps sH) (As := [.int (xs (v4 + 1).toNatClampNeg), .int (xs (v4 + 2).toNatClampNeg)]) (rest := []) ⟨hx, hb, hml, hown, hts⟩ (k_X8_player l G K c am x (xs (v4 + 1).toNatClampNeg) (xs (v4 + 2).toNatClampNeg) r x' hm) (cwV 2 hts gL_law_X8_player rfl rfl rfl (by decide +kernel) ⟨Nat.le_of_ble_eq_true rfl, Nat.le_of_ble_eq_true rfl⟩) hK hN hZ hP hD hS hA (va_recv hK hP (ci := 8) (q0 := 0) rfl rfl) rfl hl.1 rfl (Nat.le_of_ble_eq_true rfl) dL_law_382 hc (fun H locs hP hD hS => ?_)
  refine lv_istore (lv' := [(6, .int r), (5, .int k), (0, .ref b), (1, .ref (ah 0)), (2, .ref (am 0)), (3, .ref out), (4, .int v4)]) hx hb dL_law_385 hl (by decide) rfl (fun ls hl => ?_)
  refine lv_aload_n hx hb dL_law_387 rfl (lv_at hl 4 rfl) ?_
  refine zcEVi (wc := wM c am x') (wr := wQ c out f ++ wH c ah ag ar ps sH) (As := []) (rest := []) ⟨hx, hb, hml, hown, hts⟩ (k_X8_thrown l G K c am x' k (thrown_eq hk)) (cwV 0 hts gL_law_X8_thrown rfl rfl rfl (by decide +kernel) ⟨Nat.le_of_ble_eq_true rfl, Nat.le_of_ble_eq_true rfl⟩) hK hN hZ hP hD hS hA (va_recv hK hP (ci := 8) (q0 := 0) rfl rfl) rfl hl.1 rfl (Nat.le_of_ble_eq_true rfl) dL_law_388 hc (fun H locs hP hD hS => ?_)
  refine lv_iload hx hb dL_law_391 (lv_at hl 1 rfl) ?_
  refine lv_icmp_eq (tgt := 398) hx hb dL_law_393 (by decide) (fun _ => ?_) (fun h => absurd rfl h)
  refine lv_iload hx hb dL_law_398 (lv_at hl 1 rfl) ?_
  refine lv_if_ne (tgt := 415) hx hb dL_law_400 (by decide) (fun hk0 => ?_) (fun hk0 => ?_)
  · refine lv_goto (tgt := 1325) hx hb dL_law_415 (by decide) ?_
    exact kk H locs ls hP hD hS (lv_sub hl [2, 3, 4, 5, 6] rfl)
  · refine lv_aload_n hx hb dL_law_403 rfl (lv_at hl 5 rfl) ?_
    refine lv_iconst (v := 0) hx hb dL_law_404 (by decide) ?_
    refine va_lald (D := G) hx hb hK hP 18 1 rfl rfl (inb_s (by decide)) dL_law_405 ?_
    refine lv_iload hx hb dL_law_406 (lv_at hl 0 rfl) ?_
    refine lv_i2l (v := r.toInt64) hx hb dL_law_408 rfl ?_
    refine W.lcmp hx hb dL_law_409 ?_
    refine lv_if_eq (tgt := 415) hx hb dL_law_410 (by decide) (fun _ => ?_) (fun h => absurd (by rw [hf hk0]; exact lcmp_self) h)
    refine lv_goto (tgt := 1325) hx hb dL_law_415 (by decide) ?_
    exact kk H locs ls hP hD hS (lv_sub hl [2, 3, 4, 5, 6] rfl)
theorem tail_tile {p : Program} {l : Launch} {e : Env} {s : State} {m : MethodId} {args : Array Value} {below : List Frame} {meth : Method} {c1 : Code} {Q : State → Prop} {G : va_G} {K : (Nat → Nat) × (Nat → Nat)} {c : Nat → ClassId} {am ah : Nat → Nat} {ag : Nat → Nat → Nat} {ar : Nat → Nat} {out b L : Nat} {xs : Nat → Int32} (lc : LC p l s m args c1 G K c b L xs) {cells slots : Nat} {v4 : Int32} (i1 : vp_in (v4 + 1) L) (i2 : vp_in (v4 + 2) L) (hc : cells ≤ 601024 ∧ slots ≤ 7293034) {sH : HS} {x x' : MS} {ps : PS} {k r : Int32} {f : Nat → Int64} (hm : f_X8_tile x (xs (v4 + 1).toNatClampNeg) (xs (v4 + 2).toNatClampNeg) = some (r, x')) (hk : x'.1.1 0 = k) (hf : k = 0 → f (0 : Int32).toNatClampNeg = r.toInt64) {H : Heap} {locs : List Loc} {ls : Array Slot} (hP : va_P G vwCl (wM c am x ++ (wQ c out f ++ wH c ah ag ar ps sH)) H) (hD : va_D (fun q : Nat => s.heap.size ≤ q) (wM c am x ++ (wQ c out f ++ wH c ah ag ar ps sH))) (hS : va_S (fun q : Nat => s.heap.size ≤ q) s.heap H locs) (hl : lv_has ls 9 [(0, .ref b), (1, .ref (ah 0)), (2, .ref (am 0)), (3, .ref out), (4, .int v4)])
    (kk : ∀ (H : Heap) (locs : List Loc) (ls : Array Slot), va_P G vwCl (wM c am x' ++ (wQ c out f ++ wH c ah ag ar ps sH)) H → va_D (fun q : Nat => s.heap.size ≤ q) (wM c am x' ++ (wQ c out f ++ wH c ah ag ar ps sH)) → va_S (fun q : Nat => s.heap.size ≤ q) s.heap H locs → lv_has ls 9 [(0, .ref b), (1, .ref (ah 0)), (2, .ref (am 0)), (3, .ref out), (4, .int v4)] → W p l e room_1 s m args below meth c1 H locs cells slots Q (F0 m 1325 ls [])) : W p l e room_1 s m args below meth c1 H locs cells slots Q (F0 m 435 ls [.int k]) := by
  obtain ⟨hl0, hx, hb, hml, hown, hts, hX, hbl, hK, hN, hZ, hXA, hXW, hNC⟩ := lc
  have hA : ∀ q : Nat, s.heap.size ≤ q → (fun q : Nat => s.heap.size ≤ q) q := fun _ h => h
  have hbA : ¬ (fun q : Nat => s.heap.size ≤ q) b := Nat.not_le.mpr hbl
  refine lv_istore (lv' := [(5, .int k), (0, .ref b), (1, .ref (ah 0)), (2, .ref (am 0)), (3, .ref out), (4, .int v4)]) hx hb dL_law_435 hl (by decide) rfl (fun ls hl => ?_)
  refine lv_aload_n hx hb dL_law_437 rfl (lv_at hl 3 rfl) ?_
  refine lv_aload_n hx hb dL_law_438 rfl (lv_at hl 1 rfl) ?_
  refine lv_iload hx hb dL_law_439 (lv_at hl 5 rfl) ?_
  refine lv_iconst (v := 1) hx hb dL_law_441 (by decide) ?_
  refine lv_iadd hx hb dL_law_442 ?_
  refine va_sld hx hb hX hbl hbA hS i1 dL_law_443 ?_
  refine lv_aload_n hx hb dL_law_444 rfl (lv_at hl 1 rfl) ?_
  refine lv_iload hx hb dL_law_445 (lv_at hl 5 rfl) ?_
  refine lv_iconst (v := 2) hx hb dL_law_447 (by decide) ?_
  refine lv_iadd hx hb dL_law_448 ?_
  refine va_sld hx hb hX hbl hbA hS i2 dL_law_449 ?_
  refine zcEVi (wc := wM c am x) (wr := wQ c out f ++ wH c ah ag ar ps sH) (As := [.int (xs (v4 + 1).toNatClampNeg), .int (xs (v4 + 2).toNatClampNeg)]) (rest := []) ⟨hx, hb, hml, hown, hts⟩ (k_X8_tile l G K c am x (xs (v4 + 1).toNatClampNeg) (xs (v4 + 2).toNatClampNeg) r x' hm) (cwV 2 hts gL_law_X8_tile rfl rfl rfl (by decide +kernel) ⟨Nat.le_of_ble_eq_true rfl, Nat.le_of_ble_eq_true rfl⟩) hK hN hZ hP hD hS hA (va_recv hK hP (ci := 8) (q0 := 0) rfl rfl) rfl hl.1 rfl (Nat.le_of_ble_eq_true rfl) dL_law_450 hc (fun H locs hP hD hS => ?_)
  refine lv_istore (lv' := [(6, .int r), (5, .int k), (0, .ref b), (1, .ref (ah 0)), (2, .ref (am 0)), (3, .ref out), (4, .int v4)]) hx hb dL_law_453 hl (by decide) rfl (fun ls hl => ?_)
  refine lv_aload_n hx hb dL_law_455 rfl (lv_at hl 4 rfl) ?_
  refine zcEVi (wc := wM c am x') (wr := wQ c out f ++ wH c ah ag ar ps sH) (As := []) (rest := []) ⟨hx, hb, hml, hown, hts⟩ (k_X8_thrown l G K c am x' k (thrown_eq hk)) (cwV 0 hts gL_law_X8_thrown rfl rfl rfl (by decide +kernel) ⟨Nat.le_of_ble_eq_true rfl, Nat.le_of_ble_eq_true rfl⟩) hK hN hZ hP hD hS hA (va_recv hK hP (ci := 8) (q0 := 0) rfl rfl) rfl hl.1 rfl (Nat.le_of_ble_eq_true rfl) dL_law_456 hc (fun H locs hP hD hS => ?_)
  refine lv_iload hx hb dL_law_459 (lv_at hl 1 rfl) ?_
  refine lv_icmp_eq (tgt := 466) hx hb dL_law_461 (by decide) (fun _ => ?_) (fun h => absurd rfl h)
  refine lv_iload hx hb dL_law_466 (lv_at hl 1 rfl) ?_
  refine lv_if_ne (tgt := 483) hx hb dL_law_468 (by decide) (fun hk0 => ?_) (fun hk0 => ?_)
  · refine lv_goto (tgt := 1325) hx hb dL_law_483 (by decide) ?_
    exact kk H locs ls hP hD hS (lv_sub hl [2, 3, 4, 5, 6] rfl)
  · refine lv_aload_n hx hb dL_law_471 rfl (lv_at hl 5 rfl) ?_
    refine lv_iconst (v := 0) hx hb dL_law_472 (by decide) ?_
    refine va_lald (D := G) hx hb hK hP 18 1 rfl rfl (inb_s (by decide)) dL_law_473 ?_
    refine lv_iload hx hb dL_law_474 (lv_at hl 0 rfl) ?_
    refine lv_i2l (v := r.toInt64) hx hb dL_law_476 rfl ?_
    refine W.lcmp hx hb dL_law_477 ?_
    refine lv_if_eq (tgt := 483) hx hb dL_law_478 (by decide) (fun _ => ?_) (fun h => absurd (by rw [hf hk0]; exact lcmp_self) h)
    refine lv_goto (tgt := 1325) hx hb dL_law_483 (by decide) ?_
    exact kk H locs ls hP hD hS (lv_sub hl [2, 3, 4, 5, 6] rfl)
theorem tail_train {p : Program} {l : Launch} {e : Env} {s : State} {m : MethodId} {args : Array Value} {below : List Frame} {meth : Method} {c1 : Code} {Q : State → Prop} {G : va_G} {K : (Nat → Nat) × (Nat → Nat)} {c : Nat → ClassId} {am ah : Nat → Nat} {ag : Nat → Nat → Nat} {ar : Nat → Nat} {out b L : Nat} {xs : Nat → Int32} (lc : LC p l s m args c1 G K c b L xs) {cells slots : Nat} {v4 : Int32} (i1 : vp_in (v4 + 1) L) (i2 : vp_in (v4 + 2) L) (hc : cells ≤ 601024 ∧ slots ≤ 7293034) {sH : HS} {x x' : MS} {ps : PS} {k r : Int32} {f : Nat → Int64} (hm : f_X8_train x (xs (v4 + 1).toNatClampNeg) (xs (v4 + 2).toNatClampNeg) = some (r, x')) (hk : x'.1.1 0 = k) (hf : k = 0 → f (0 : Int32).toNatClampNeg = r.toInt64) {H : Heap} {locs : List Loc} {ls : Array Slot} (hP : va_P G vwCl (wM c am x ++ (wQ c out f ++ wH c ah ag ar ps sH)) H) (hD : va_D (fun q : Nat => s.heap.size ≤ q) (wM c am x ++ (wQ c out f ++ wH c ah ag ar ps sH))) (hS : va_S (fun q : Nat => s.heap.size ≤ q) s.heap H locs) (hl : lv_has ls 9 [(0, .ref b), (1, .ref (ah 0)), (2, .ref (am 0)), (3, .ref out), (4, .int v4)])
    (kk : ∀ (H : Heap) (locs : List Loc) (ls : Array Slot), va_P G vwCl (wM c am x' ++ (wQ c out f ++ wH c ah ag ar ps sH)) H → va_D (fun q : Nat => s.heap.size ≤ q) (wM c am x' ++ (wQ c out f ++ wH c ah ag ar ps sH)) → va_S (fun q : Nat => s.heap.size ≤ q) s.heap H locs → lv_has ls 9 [(0, .ref b), (1, .ref (ah 0)), (2, .ref (am 0)), (3, .ref out), (4, .int v4)] → W p l e room_1 s m args below meth c1 H locs cells slots Q (F0 m 1325 ls [])) : W p l e room_1 s m args below meth c1 H locs cells slots Q (F0 m 503 ls [.int k]) := by
  obtain ⟨hl0, hx, hb, hml, hown, hts, hX, hbl, hK, hN, hZ, hXA, hXW, hNC⟩ := lc
  have hA : ∀ q : Nat, s.heap.size ≤ q → (fun q : Nat => s.heap.size ≤ q) q := fun _ h => h
  have hbA : ¬ (fun q : Nat => s.heap.size ≤ q) b := Nat.not_le.mpr hbl
  refine lv_istore (lv' := [(5, .int k), (0, .ref b), (1, .ref (ah 0)), (2, .ref (am 0)), (3, .ref out), (4, .int v4)]) hx hb dL_law_503 hl (by decide) rfl (fun ls hl => ?_)
  refine lv_aload_n hx hb dL_law_505 rfl (lv_at hl 3 rfl) ?_
  refine lv_aload_n hx hb dL_law_506 rfl (lv_at hl 1 rfl) ?_
  refine lv_iload hx hb dL_law_507 (lv_at hl 5 rfl) ?_
  refine lv_iconst (v := 1) hx hb dL_law_509 (by decide) ?_
  refine lv_iadd hx hb dL_law_510 ?_
  refine va_sld hx hb hX hbl hbA hS i1 dL_law_511 ?_
  refine lv_aload_n hx hb dL_law_512 rfl (lv_at hl 1 rfl) ?_
  refine lv_iload hx hb dL_law_513 (lv_at hl 5 rfl) ?_
  refine lv_iconst (v := 2) hx hb dL_law_515 (by decide) ?_
  refine lv_iadd hx hb dL_law_516 ?_
  refine va_sld hx hb hX hbl hbA hS i2 dL_law_517 ?_
  refine zcEVi (wc := wM c am x) (wr := wQ c out f ++ wH c ah ag ar ps sH) (As := [.int (xs (v4 + 1).toNatClampNeg), .int (xs (v4 + 2).toNatClampNeg)]) (rest := []) ⟨hx, hb, hml, hown, hts⟩ (k_X8_train l G K c am x (xs (v4 + 1).toNatClampNeg) (xs (v4 + 2).toNatClampNeg) r x' hm) (cwV 2 hts gL_law_X8_train rfl rfl rfl (by decide +kernel) ⟨Nat.le_of_ble_eq_true rfl, Nat.le_of_ble_eq_true rfl⟩) hK hN hZ hP hD hS hA (va_recv hK hP (ci := 8) (q0 := 0) rfl rfl) rfl hl.1 rfl (Nat.le_of_ble_eq_true rfl) dL_law_518 hc (fun H locs hP hD hS => ?_)
  refine lv_istore (lv' := [(6, .int r), (5, .int k), (0, .ref b), (1, .ref (ah 0)), (2, .ref (am 0)), (3, .ref out), (4, .int v4)]) hx hb dL_law_521 hl (by decide) rfl (fun ls hl => ?_)
  refine lv_aload_n hx hb dL_law_523 rfl (lv_at hl 4 rfl) ?_
  refine zcEVi (wc := wM c am x') (wr := wQ c out f ++ wH c ah ag ar ps sH) (As := []) (rest := []) ⟨hx, hb, hml, hown, hts⟩ (k_X8_thrown l G K c am x' k (thrown_eq hk)) (cwV 0 hts gL_law_X8_thrown rfl rfl rfl (by decide +kernel) ⟨Nat.le_of_ble_eq_true rfl, Nat.le_of_ble_eq_true rfl⟩) hK hN hZ hP hD hS hA (va_recv hK hP (ci := 8) (q0 := 0) rfl rfl) rfl hl.1 rfl (Nat.le_of_ble_eq_true rfl) dL_law_524 hc (fun H locs hP hD hS => ?_)
  refine lv_iload hx hb dL_law_527 (lv_at hl 1 rfl) ?_
  refine lv_icmp_eq (tgt := 534) hx hb dL_law_529 (by decide) (fun _ => ?_) (fun h => absurd rfl h)
  refine lv_iload hx hb dL_law_534 (lv_at hl 1 rfl) ?_
  refine lv_if_ne (tgt := 551) hx hb dL_law_536 (by decide) (fun hk0 => ?_) (fun hk0 => ?_)
  · refine lv_goto (tgt := 1325) hx hb dL_law_551 (by decide) ?_
    exact kk H locs ls hP hD hS (lv_sub hl [2, 3, 4, 5, 6] rfl)
  · refine lv_aload_n hx hb dL_law_539 rfl (lv_at hl 5 rfl) ?_
    refine lv_iconst (v := 0) hx hb dL_law_540 (by decide) ?_
    refine va_lald (D := G) hx hb hK hP 18 1 rfl rfl (inb_s (by decide)) dL_law_541 ?_
    refine lv_iload hx hb dL_law_542 (lv_at hl 0 rfl) ?_
    refine lv_i2l (v := r.toInt64) hx hb dL_law_544 rfl ?_
    refine W.lcmp hx hb dL_law_545 ?_
    refine lv_if_eq (tgt := 551) hx hb dL_law_546 (by decide) (fun _ => ?_) (fun h => absurd (by rw [hf hk0]; exact lcmp_self) h)
    refine lv_goto (tgt := 1325) hx hb dL_law_551 (by decide) ?_
    exact kk H locs ls hP hD hS (lv_sub hl [2, 3, 4, 5, 6] rfl)
theorem tail_laid {p : Program} {l : Launch} {e : Env} {s : State} {m : MethodId} {args : Array Value} {below : List Frame} {meth : Method} {c1 : Code} {Q : State → Prop} {G : va_G} {K : (Nat → Nat) × (Nat → Nat)} {c : Nat → ClassId} {am ah : Nat → Nat} {ag : Nat → Nat → Nat} {ar : Nat → Nat} {out b L : Nat} {xs : Nat → Int32} (lc : LC p l s m args c1 G K c b L xs) {cells slots : Nat} {v4 : Int32} (i1 : vp_in (v4 + 1) L) (i2 : vp_in (v4 + 2) L) (hc : cells ≤ 601024 ∧ slots ≤ 7293034) {sH : HS} {x x' : MS} {ps : PS} {k r : Int32} {f : Nat → Int64} (hm : f_X8_laid x (xs (v4 + 1).toNatClampNeg) (xs (v4 + 2).toNatClampNeg) = some (r, x')) (hk : x'.1.1 0 = k) (hf : k = 0 → f (0 : Int32).toNatClampNeg = r.toInt64) {H : Heap} {locs : List Loc} {ls : Array Slot} (hP : va_P G vwCl (wM c am x ++ (wQ c out f ++ wH c ah ag ar ps sH)) H) (hD : va_D (fun q : Nat => s.heap.size ≤ q) (wM c am x ++ (wQ c out f ++ wH c ah ag ar ps sH))) (hS : va_S (fun q : Nat => s.heap.size ≤ q) s.heap H locs) (hl : lv_has ls 9 [(0, .ref b), (1, .ref (ah 0)), (2, .ref (am 0)), (3, .ref out), (4, .int v4)])
    (kk : ∀ (H : Heap) (locs : List Loc) (ls : Array Slot), va_P G vwCl (wM c am x' ++ (wQ c out f ++ wH c ah ag ar ps sH)) H → va_D (fun q : Nat => s.heap.size ≤ q) (wM c am x' ++ (wQ c out f ++ wH c ah ag ar ps sH)) → va_S (fun q : Nat => s.heap.size ≤ q) s.heap H locs → lv_has ls 9 [(0, .ref b), (1, .ref (ah 0)), (2, .ref (am 0)), (3, .ref out), (4, .int v4)] → W p l e room_1 s m args below meth c1 H locs cells slots Q (F0 m 1325 ls [])) : W p l e room_1 s m args below meth c1 H locs cells slots Q (F0 m 571 ls [.int k]) := by
  obtain ⟨hl0, hx, hb, hml, hown, hts, hX, hbl, hK, hN, hZ, hXA, hXW, hNC⟩ := lc
  have hA : ∀ q : Nat, s.heap.size ≤ q → (fun q : Nat => s.heap.size ≤ q) q := fun _ h => h
  have hbA : ¬ (fun q : Nat => s.heap.size ≤ q) b := Nat.not_le.mpr hbl
  refine lv_istore (lv' := [(5, .int k), (0, .ref b), (1, .ref (ah 0)), (2, .ref (am 0)), (3, .ref out), (4, .int v4)]) hx hb dL_law_571 hl (by decide) rfl (fun ls hl => ?_)
  refine lv_aload_n hx hb dL_law_573 rfl (lv_at hl 3 rfl) ?_
  refine lv_aload_n hx hb dL_law_574 rfl (lv_at hl 1 rfl) ?_
  refine lv_iload hx hb dL_law_575 (lv_at hl 5 rfl) ?_
  refine lv_iconst (v := 1) hx hb dL_law_577 (by decide) ?_
  refine lv_iadd hx hb dL_law_578 ?_
  refine va_sld hx hb hX hbl hbA hS i1 dL_law_579 ?_
  refine lv_aload_n hx hb dL_law_580 rfl (lv_at hl 1 rfl) ?_
  refine lv_iload hx hb dL_law_581 (lv_at hl 5 rfl) ?_
  refine lv_iconst (v := 2) hx hb dL_law_583 (by decide) ?_
  refine lv_iadd hx hb dL_law_584 ?_
  refine va_sld hx hb hX hbl hbA hS i2 dL_law_585 ?_
  refine zcEVi (wc := wM c am x) (wr := wQ c out f ++ wH c ah ag ar ps sH) (As := [.int (xs (v4 + 1).toNatClampNeg), .int (xs (v4 + 2).toNatClampNeg)]) (rest := []) ⟨hx, hb, hml, hown, hts⟩ (k_X8_laid l G K c am x (xs (v4 + 1).toNatClampNeg) (xs (v4 + 2).toNatClampNeg) r x' hm) (cwV 2 hts gL_law_X8_laid rfl rfl rfl (by decide +kernel) ⟨Nat.le_of_ble_eq_true rfl, Nat.le_of_ble_eq_true rfl⟩) hK hN hZ hP hD hS hA (va_recv hK hP (ci := 8) (q0 := 0) rfl rfl) rfl hl.1 rfl (Nat.le_of_ble_eq_true rfl) dL_law_586 hc (fun H locs hP hD hS => ?_)
  refine lv_istore (lv' := [(6, .int r), (5, .int k), (0, .ref b), (1, .ref (ah 0)), (2, .ref (am 0)), (3, .ref out), (4, .int v4)]) hx hb dL_law_589 hl (by decide) rfl (fun ls hl => ?_)
  refine lv_aload_n hx hb dL_law_591 rfl (lv_at hl 4 rfl) ?_
  refine zcEVi (wc := wM c am x') (wr := wQ c out f ++ wH c ah ag ar ps sH) (As := []) (rest := []) ⟨hx, hb, hml, hown, hts⟩ (k_X8_thrown l G K c am x' k (thrown_eq hk)) (cwV 0 hts gL_law_X8_thrown rfl rfl rfl (by decide +kernel) ⟨Nat.le_of_ble_eq_true rfl, Nat.le_of_ble_eq_true rfl⟩) hK hN hZ hP hD hS hA (va_recv hK hP (ci := 8) (q0 := 0) rfl rfl) rfl hl.1 rfl (Nat.le_of_ble_eq_true rfl) dL_law_592 hc (fun H locs hP hD hS => ?_)
  refine lv_iload hx hb dL_law_595 (lv_at hl 1 rfl) ?_
  refine lv_icmp_eq (tgt := 602) hx hb dL_law_597 (by decide) (fun _ => ?_) (fun h => absurd rfl h)
  refine lv_iload hx hb dL_law_602 (lv_at hl 1 rfl) ?_
  refine lv_if_ne (tgt := 619) hx hb dL_law_604 (by decide) (fun hk0 => ?_) (fun hk0 => ?_)
  · refine lv_goto (tgt := 1325) hx hb dL_law_619 (by decide) ?_
    exact kk H locs ls hP hD hS (lv_sub hl [2, 3, 4, 5, 6] rfl)
  · refine lv_aload_n hx hb dL_law_607 rfl (lv_at hl 5 rfl) ?_
    refine lv_iconst (v := 0) hx hb dL_law_608 (by decide) ?_
    refine va_lald (D := G) hx hb hK hP 18 1 rfl rfl (inb_s (by decide)) dL_law_609 ?_
    refine lv_iload hx hb dL_law_610 (lv_at hl 0 rfl) ?_
    refine lv_i2l (v := r.toInt64) hx hb dL_law_612 rfl ?_
    refine W.lcmp hx hb dL_law_613 ?_
    refine lv_if_eq (tgt := 619) hx hb dL_law_614 (by decide) (fun _ => ?_) (fun h => absurd (by rw [hf hk0]; exact lcmp_self) h)
    refine lv_goto (tgt := 1325) hx hb dL_law_619 (by decide) ?_
    exact kk H locs ls hP hD hS (lv_sub hl [2, 3, 4, 5, 6] rfl)
theorem tail_why {p : Program} {l : Launch} {e : Env} {s : State} {m : MethodId} {args : Array Value} {below : List Frame} {meth : Method} {c1 : Code} {Q : State → Prop} {G : va_G} {K : (Nat → Nat) × (Nat → Nat)} {c : Nat → ClassId} {am ah : Nat → Nat} {ag : Nat → Nat → Nat} {ar : Nat → Nat} {out b L : Nat} {xs : Nat → Int32} (lc : LC p l s m args c1 G K c b L xs) {cells slots : Nat} {v4 : Int32} (i1 : vp_in (v4 + 1) L) (i2 : vp_in (v4 + 2) L) (hc : cells ≤ 601024 ∧ slots ≤ 7293034) {sH : HS} {x x' : MS} {ps : PS} {k r : Int32} {f : Nat → Int64} (hm : f_X8_why x (xs (v4 + 1).toNatClampNeg) (xs (v4 + 2).toNatClampNeg) = some (r, x')) (hk : x'.1.1 0 = k) (hf : k = 0 → f (0 : Int32).toNatClampNeg = r.toInt64) {H : Heap} {locs : List Loc} {ls : Array Slot} (hP : va_P G vwCl (wM c am x ++ (wQ c out f ++ wH c ah ag ar ps sH)) H) (hD : va_D (fun q : Nat => s.heap.size ≤ q) (wM c am x ++ (wQ c out f ++ wH c ah ag ar ps sH))) (hS : va_S (fun q : Nat => s.heap.size ≤ q) s.heap H locs) (hl : lv_has ls 9 [(0, .ref b), (1, .ref (ah 0)), (2, .ref (am 0)), (3, .ref out), (4, .int v4)])
    (kk : ∀ (H : Heap) (locs : List Loc) (ls : Array Slot), va_P G vwCl (wM c am x' ++ (wQ c out f ++ wH c ah ag ar ps sH)) H → va_D (fun q : Nat => s.heap.size ≤ q) (wM c am x' ++ (wQ c out f ++ wH c ah ag ar ps sH)) → va_S (fun q : Nat => s.heap.size ≤ q) s.heap H locs → lv_has ls 9 [(0, .ref b), (1, .ref (ah 0)), (2, .ref (am 0)), (3, .ref out), (4, .int v4)] → W p l e room_1 s m args below meth c1 H locs cells slots Q (F0 m 1325 ls [])) : W p l e room_1 s m args below meth c1 H locs cells slots Q (F0 m 639 ls [.int k]) := by
  obtain ⟨hl0, hx, hb, hml, hown, hts, hX, hbl, hK, hN, hZ, hXA, hXW, hNC⟩ := lc
  have hA : ∀ q : Nat, s.heap.size ≤ q → (fun q : Nat => s.heap.size ≤ q) q := fun _ h => h
  have hbA : ¬ (fun q : Nat => s.heap.size ≤ q) b := Nat.not_le.mpr hbl
  refine lv_istore (lv' := [(5, .int k), (0, .ref b), (1, .ref (ah 0)), (2, .ref (am 0)), (3, .ref out), (4, .int v4)]) hx hb dL_law_639 hl (by decide) rfl (fun ls hl => ?_)
  refine lv_aload_n hx hb dL_law_641 rfl (lv_at hl 3 rfl) ?_
  refine lv_aload_n hx hb dL_law_642 rfl (lv_at hl 1 rfl) ?_
  refine lv_iload hx hb dL_law_643 (lv_at hl 5 rfl) ?_
  refine lv_iconst (v := 1) hx hb dL_law_645 (by decide) ?_
  refine lv_iadd hx hb dL_law_646 ?_
  refine va_sld hx hb hX hbl hbA hS i1 dL_law_647 ?_
  refine lv_aload_n hx hb dL_law_648 rfl (lv_at hl 1 rfl) ?_
  refine lv_iload hx hb dL_law_649 (lv_at hl 5 rfl) ?_
  refine lv_iconst (v := 2) hx hb dL_law_651 (by decide) ?_
  refine lv_iadd hx hb dL_law_652 ?_
  refine va_sld hx hb hX hbl hbA hS i2 dL_law_653 ?_
  refine zcEVi (wc := wM c am x) (wr := wQ c out f ++ wH c ah ag ar ps sH) (As := [.int (xs (v4 + 1).toNatClampNeg), .int (xs (v4 + 2).toNatClampNeg)]) (rest := []) ⟨hx, hb, hml, hown, hts⟩ (k_X8_why l G K c am x (xs (v4 + 1).toNatClampNeg) (xs (v4 + 2).toNatClampNeg) r x' hm) (cwV 2 hts gL_law_X8_why rfl rfl rfl (by decide +kernel) ⟨Nat.le_of_ble_eq_true rfl, Nat.le_of_ble_eq_true rfl⟩) hK hN hZ hP hD hS hA (va_recv hK hP (ci := 8) (q0 := 0) rfl rfl) rfl hl.1 rfl (Nat.le_of_ble_eq_true rfl) dL_law_654 hc (fun H locs hP hD hS => ?_)
  refine lv_istore (lv' := [(6, .int r), (5, .int k), (0, .ref b), (1, .ref (ah 0)), (2, .ref (am 0)), (3, .ref out), (4, .int v4)]) hx hb dL_law_657 hl (by decide) rfl (fun ls hl => ?_)
  refine lv_aload_n hx hb dL_law_659 rfl (lv_at hl 4 rfl) ?_
  refine zcEVi (wc := wM c am x') (wr := wQ c out f ++ wH c ah ag ar ps sH) (As := []) (rest := []) ⟨hx, hb, hml, hown, hts⟩ (k_X8_thrown l G K c am x' k (thrown_eq hk)) (cwV 0 hts gL_law_X8_thrown rfl rfl rfl (by decide +kernel) ⟨Nat.le_of_ble_eq_true rfl, Nat.le_of_ble_eq_true rfl⟩) hK hN hZ hP hD hS hA (va_recv hK hP (ci := 8) (q0 := 0) rfl rfl) rfl hl.1 rfl (Nat.le_of_ble_eq_true rfl) dL_law_660 hc (fun H locs hP hD hS => ?_)
  refine lv_iload hx hb dL_law_663 (lv_at hl 1 rfl) ?_
  refine lv_icmp_eq (tgt := 670) hx hb dL_law_665 (by decide) (fun _ => ?_) (fun h => absurd rfl h)
  refine lv_iload hx hb dL_law_670 (lv_at hl 1 rfl) ?_
  refine lv_if_ne (tgt := 687) hx hb dL_law_672 (by decide) (fun hk0 => ?_) (fun hk0 => ?_)
  · refine lv_goto (tgt := 1325) hx hb dL_law_687 (by decide) ?_
    exact kk H locs ls hP hD hS (lv_sub hl [2, 3, 4, 5, 6] rfl)
  · refine lv_aload_n hx hb dL_law_675 rfl (lv_at hl 5 rfl) ?_
    refine lv_iconst (v := 0) hx hb dL_law_676 (by decide) ?_
    refine va_lald (D := G) hx hb hK hP 18 1 rfl rfl (inb_s (by decide)) dL_law_677 ?_
    refine lv_iload hx hb dL_law_678 (lv_at hl 0 rfl) ?_
    refine lv_i2l (v := r.toInt64) hx hb dL_law_680 rfl ?_
    refine W.lcmp hx hb dL_law_681 ?_
    refine lv_if_eq (tgt := 687) hx hb dL_law_682 (by decide) (fun _ => ?_) (fun h => absurd (by rw [hf hk0]; exact lcmp_self) h)
    refine lv_goto (tgt := 1325) hx hb dL_law_687 (by decide) ?_
    exact kk H locs ls hP hD hS (lv_sub hl [2, 3, 4, 5, 6] rfl)
theorem tail_rank {p : Program} {l : Launch} {e : Env} {s : State} {m : MethodId} {args : Array Value} {below : List Frame} {meth : Method} {c1 : Code} {Q : State → Prop} {G : va_G} {K : (Nat → Nat) × (Nat → Nat)} {c : Nat → ClassId} {am ah : Nat → Nat} {ag : Nat → Nat → Nat} {ar : Nat → Nat} {out b L : Nat} {xs : Nat → Int32} (lc : LC p l s m args c1 G K c b L xs) {cells slots : Nat} {v4 : Int32} (i1 : vp_in (v4 + 1) L) (i2 : vp_in (v4 + 2) L) (hc : cells ≤ 601024 ∧ slots ≤ 7293034) {sH : HS} {x x' : MS} {ps : PS} {k r : Int32} {f : Nat → Int64} (hm : f_X8_rank x (xs (v4 + 1).toNatClampNeg) (xs (v4 + 2).toNatClampNeg) = some (r, x')) (hk : x'.1.1 0 = k) (hf : k = 0 → f (0 : Int32).toNatClampNeg = r.toInt64) {H : Heap} {locs : List Loc} {ls : Array Slot} (hP : va_P G vwCl (wM c am x ++ (wQ c out f ++ wH c ah ag ar ps sH)) H) (hD : va_D (fun q : Nat => s.heap.size ≤ q) (wM c am x ++ (wQ c out f ++ wH c ah ag ar ps sH))) (hS : va_S (fun q : Nat => s.heap.size ≤ q) s.heap H locs) (hl : lv_has ls 9 [(0, .ref b), (1, .ref (ah 0)), (2, .ref (am 0)), (3, .ref out), (4, .int v4)])
    (kk : ∀ (H : Heap) (locs : List Loc) (ls : Array Slot), va_P G vwCl (wM c am x' ++ (wQ c out f ++ wH c ah ag ar ps sH)) H → va_D (fun q : Nat => s.heap.size ≤ q) (wM c am x' ++ (wQ c out f ++ wH c ah ag ar ps sH)) → va_S (fun q : Nat => s.heap.size ≤ q) s.heap H locs → lv_has ls 9 [(0, .ref b), (1, .ref (ah 0)), (2, .ref (am 0)), (3, .ref out), (4, .int v4)] → W p l e room_1 s m args below meth c1 H locs cells slots Q (F0 m 1325 ls [])) : W p l e room_1 s m args below meth c1 H locs cells slots Q (F0 m 720 ls [.int k]) := by
  obtain ⟨hl0, hx, hb, hml, hown, hts, hX, hbl, hK, hN, hZ, hXA, hXW, hNC⟩ := lc
  have hA : ∀ q : Nat, s.heap.size ≤ q → (fun q : Nat => s.heap.size ≤ q) q := fun _ h => h
  have hbA : ¬ (fun q : Nat => s.heap.size ≤ q) b := Nat.not_le.mpr hbl
  refine lv_istore (lv' := [(5, .int k), (0, .ref b), (1, .ref (ah 0)), (2, .ref (am 0)), (3, .ref out), (4, .int v4)]) hx hb dL_law_720 hl (by decide) rfl (fun ls hl => ?_)
  refine lv_aload_n hx hb dL_law_722 rfl (lv_at hl 3 rfl) ?_
  refine lv_aload_n hx hb dL_law_723 rfl (lv_at hl 1 rfl) ?_
  refine lv_iload hx hb dL_law_724 (lv_at hl 5 rfl) ?_
  refine lv_iconst (v := 1) hx hb dL_law_726 (by decide) ?_
  refine lv_iadd hx hb dL_law_727 ?_
  refine va_sld hx hb hX hbl hbA hS i1 dL_law_728 ?_
  refine lv_aload_n hx hb dL_law_729 rfl (lv_at hl 1 rfl) ?_
  refine lv_iload hx hb dL_law_730 (lv_at hl 5 rfl) ?_
  refine lv_iconst (v := 2) hx hb dL_law_732 (by decide) ?_
  refine lv_iadd hx hb dL_law_733 ?_
  refine va_sld hx hb hX hbl hbA hS i2 dL_law_734 ?_
  refine zcEVi (wc := wM c am x) (wr := wQ c out f ++ wH c ah ag ar ps sH) (As := [.int (xs (v4 + 1).toNatClampNeg), .int (xs (v4 + 2).toNatClampNeg)]) (rest := []) ⟨hx, hb, hml, hown, hts⟩ (k_X8_rank l G K c am x (xs (v4 + 1).toNatClampNeg) (xs (v4 + 2).toNatClampNeg) r x' hm) (cwV 2 hts gL_law_X8_rank rfl rfl rfl (by decide +kernel) ⟨Nat.le_of_ble_eq_true rfl, Nat.le_of_ble_eq_true rfl⟩) hK hN hZ hP hD hS hA (va_recv hK hP (ci := 8) (q0 := 0) rfl rfl) rfl hl.1 rfl (Nat.le_of_ble_eq_true rfl) dL_law_735 hc (fun H locs hP hD hS => ?_)
  refine lv_istore (lv' := [(6, .int r), (5, .int k), (0, .ref b), (1, .ref (ah 0)), (2, .ref (am 0)), (3, .ref out), (4, .int v4)]) hx hb dL_law_738 hl (by decide) rfl (fun ls hl => ?_)
  refine lv_aload_n hx hb dL_law_740 rfl (lv_at hl 4 rfl) ?_
  refine zcEVi (wc := wM c am x') (wr := wQ c out f ++ wH c ah ag ar ps sH) (As := []) (rest := []) ⟨hx, hb, hml, hown, hts⟩ (k_X8_thrown l G K c am x' k (thrown_eq hk)) (cwV 0 hts gL_law_X8_thrown rfl rfl rfl (by decide +kernel) ⟨Nat.le_of_ble_eq_true rfl, Nat.le_of_ble_eq_true rfl⟩) hK hN hZ hP hD hS hA (va_recv hK hP (ci := 8) (q0 := 0) rfl rfl) rfl hl.1 rfl (Nat.le_of_ble_eq_true rfl) dL_law_741 hc (fun H locs hP hD hS => ?_)
  refine lv_iload hx hb dL_law_744 (lv_at hl 1 rfl) ?_
  refine lv_icmp_eq (tgt := 751) hx hb dL_law_746 (by decide) (fun _ => ?_) (fun h => absurd rfl h)
  refine lv_iload hx hb dL_law_751 (lv_at hl 1 rfl) ?_
  refine lv_if_ne (tgt := 768) hx hb dL_law_753 (by decide) (fun hk0 => ?_) (fun hk0 => ?_)
  · refine lv_goto (tgt := 1325) hx hb dL_law_768 (by decide) ?_
    exact kk H locs ls hP hD hS (lv_sub hl [2, 3, 4, 5, 6] rfl)
  · refine lv_aload_n hx hb dL_law_756 rfl (lv_at hl 5 rfl) ?_
    refine lv_iconst (v := 0) hx hb dL_law_757 (by decide) ?_
    refine va_lald (D := G) hx hb hK hP 18 1 rfl rfl (inb_s (by decide)) dL_law_758 ?_
    refine lv_iload hx hb dL_law_759 (lv_at hl 0 rfl) ?_
    refine lv_i2l (v := r.toInt64) hx hb dL_law_761 rfl ?_
    refine W.lcmp hx hb dL_law_762 ?_
    refine lv_if_eq (tgt := 768) hx hb dL_law_763 (by decide) (fun _ => ?_) (fun h => absurd (by rw [hf hk0]; exact lcmp_self) h)
    refine lv_goto (tgt := 1325) hx hb dL_law_768 (by decide) ?_
    exact kk H locs ls hP hD hS (lv_sub hl [2, 3, 4, 5, 6] rfl)
theorem tail_longest {p : Program} {l : Launch} {e : Env} {s : State} {m : MethodId} {args : Array Value} {below : List Frame} {meth : Method} {c1 : Code} {Q : State → Prop} {G : va_G} {K : (Nat → Nat) × (Nat → Nat)} {c : Nat → ClassId} {am ah : Nat → Nat} {ag : Nat → Nat → Nat} {ar : Nat → Nat} {out b L : Nat} {xs : Nat → Int32} (lc : LC p l s m args c1 G K c b L xs) {cells slots : Nat} {v4 : Int32} (i1 : vp_in (v4 + 1) L) (hc : cells ≤ 601024 ∧ slots ≤ 7293034) {sH : HS} {x x' : MS} {ps : PS} {k r : Int32} {f : Nat → Int64} (hm : f_X8_longest x (xs (v4 + 1).toNatClampNeg) = some (r, x')) (hk : x'.1.1 0 = k) (hf : k = 0 → f (0 : Int32).toNatClampNeg = r.toInt64) {H : Heap} {locs : List Loc} {ls : Array Slot} (hP : va_P G vwCl (wM c am x ++ (wQ c out f ++ wH c ah ag ar ps sH)) H) (hD : va_D (fun q : Nat => s.heap.size ≤ q) (wM c am x ++ (wQ c out f ++ wH c ah ag ar ps sH))) (hS : va_S (fun q : Nat => s.heap.size ≤ q) s.heap H locs) (hl : lv_has ls 9 [(0, .ref b), (1, .ref (ah 0)), (2, .ref (am 0)), (3, .ref out), (4, .int v4)])
    (kk : ∀ (H : Heap) (locs : List Loc) (ls : Array Slot), va_P G vwCl (wM c am x' ++ (wQ c out f ++ wH c ah ag ar ps sH)) H → va_D (fun q : Nat => s.heap.size ≤ q) (wM c am x' ++ (wQ c out f ++ wH c ah ag ar ps sH)) → va_S (fun q : Nat => s.heap.size ≤ q) s.heap H locs → lv_has ls 9 [(0, .ref b), (1, .ref (ah 0)), (2, .ref (am 0)), (3, .ref out), (4, .int v4)] → W p l e room_1 s m args below meth c1 H locs cells slots Q (F0 m 1325 ls [])) : W p l e room_1 s m args below meth c1 H locs cells slots Q (F0 m 782 ls [.int k]) := by
  obtain ⟨hl0, hx, hb, hml, hown, hts, hX, hbl, hK, hN, hZ, hXA, hXW, hNC⟩ := lc
  have hA : ∀ q : Nat, s.heap.size ≤ q → (fun q : Nat => s.heap.size ≤ q) q := fun _ h => h
  have hbA : ¬ (fun q : Nat => s.heap.size ≤ q) b := Nat.not_le.mpr hbl
  refine lv_istore (lv' := [(5, .int k), (0, .ref b), (1, .ref (ah 0)), (2, .ref (am 0)), (3, .ref out), (4, .int v4)]) hx hb dL_law_782 hl (by decide) rfl (fun ls hl => ?_)
  refine lv_aload_n hx hb dL_law_784 rfl (lv_at hl 3 rfl) ?_
  refine lv_aload_n hx hb dL_law_785 rfl (lv_at hl 1 rfl) ?_
  refine lv_iload hx hb dL_law_786 (lv_at hl 5 rfl) ?_
  refine lv_iconst (v := 1) hx hb dL_law_788 (by decide) ?_
  refine lv_iadd hx hb dL_law_789 ?_
  refine va_sld hx hb hX hbl hbA hS i1 dL_law_790 ?_
  refine zcEVi (wc := wM c am x) (wr := wQ c out f ++ wH c ah ag ar ps sH) (As := [.int (xs (v4 + 1).toNatClampNeg)]) (rest := []) ⟨hx, hb, hml, hown, hts⟩ (k_X8_longest l G K c am x (xs (v4 + 1).toNatClampNeg) r x' hm) (cwV 1 hts gL_law_X8_longest rfl rfl rfl (by decide +kernel) ⟨Nat.le_of_ble_eq_true rfl, Nat.le_of_ble_eq_true rfl⟩) hK hN hZ hP hD hS hA (va_recv hK hP (ci := 8) (q0 := 0) rfl rfl) rfl hl.1 rfl (Nat.le_of_ble_eq_true rfl) dL_law_791 hc (fun H locs hP hD hS => ?_)
  refine lv_istore (lv' := [(6, .int r), (5, .int k), (0, .ref b), (1, .ref (ah 0)), (2, .ref (am 0)), (3, .ref out), (4, .int v4)]) hx hb dL_law_794 hl (by decide) rfl (fun ls hl => ?_)
  refine lv_aload_n hx hb dL_law_796 rfl (lv_at hl 4 rfl) ?_
  refine zcEVi (wc := wM c am x') (wr := wQ c out f ++ wH c ah ag ar ps sH) (As := []) (rest := []) ⟨hx, hb, hml, hown, hts⟩ (k_X8_thrown l G K c am x' k (thrown_eq hk)) (cwV 0 hts gL_law_X8_thrown rfl rfl rfl (by decide +kernel) ⟨Nat.le_of_ble_eq_true rfl, Nat.le_of_ble_eq_true rfl⟩) hK hN hZ hP hD hS hA (va_recv hK hP (ci := 8) (q0 := 0) rfl rfl) rfl hl.1 rfl (Nat.le_of_ble_eq_true rfl) dL_law_797 hc (fun H locs hP hD hS => ?_)
  refine lv_iload hx hb dL_law_800 (lv_at hl 1 rfl) ?_
  refine lv_icmp_eq (tgt := 807) hx hb dL_law_802 (by decide) (fun _ => ?_) (fun h => absurd rfl h)
  refine lv_iload hx hb dL_law_807 (lv_at hl 1 rfl) ?_
  refine lv_if_ne (tgt := 824) hx hb dL_law_809 (by decide) (fun hk0 => ?_) (fun hk0 => ?_)
  · refine lv_goto (tgt := 1325) hx hb dL_law_824 (by decide) ?_
    exact kk H locs ls hP hD hS (lv_sub hl [2, 3, 4, 5, 6] rfl)
  · refine lv_aload_n hx hb dL_law_812 rfl (lv_at hl 5 rfl) ?_
    refine lv_iconst (v := 0) hx hb dL_law_813 (by decide) ?_
    refine va_lald (D := G) hx hb hK hP 18 1 rfl rfl (inb_s (by decide)) dL_law_814 ?_
    refine lv_iload hx hb dL_law_815 (lv_at hl 0 rfl) ?_
    refine lv_i2l (v := r.toInt64) hx hb dL_law_817 rfl ?_
    refine W.lcmp hx hb dL_law_818 ?_
    refine lv_if_eq (tgt := 824) hx hb dL_law_819 (by decide) (fun _ => ?_) (fun h => absurd (by rw [hf hk0]; exact lcmp_self) h)
    refine lv_goto (tgt := 1325) hx hb dL_law_824 (by decide) ?_
    exact kk H locs ls hP hD hS (lv_sub hl [2, 3, 4, 5, 6] rfl)
theorem tail_longestTile {p : Program} {l : Launch} {e : Env} {s : State} {m : MethodId} {args : Array Value} {below : List Frame} {meth : Method} {c1 : Code} {Q : State → Prop} {G : va_G} {K : (Nat → Nat) × (Nat → Nat)} {c : Nat → ClassId} {am ah : Nat → Nat} {ag : Nat → Nat → Nat} {ar : Nat → Nat} {out b L : Nat} {xs : Nat → Int32} (lc : LC p l s m args c1 G K c b L xs) {cells slots : Nat} {v4 : Int32} (i1 : vp_in (v4 + 1) L) (i2 : vp_in (v4 + 2) L) (hc : cells ≤ 601024 ∧ slots ≤ 7293034) {sH : HS} {x x' : MS} {ps : PS} {k r : Int32} {f : Nat → Int64} (hm : f_X8_longestTile x (xs (v4 + 1).toNatClampNeg) (xs (v4 + 2).toNatClampNeg) = some (r, x')) (hk : x'.1.1 0 = k) (hf : k = 0 → f (0 : Int32).toNatClampNeg = r.toInt64) {H : Heap} {locs : List Loc} {ls : Array Slot} (hP : va_P G vwCl (wM c am x ++ (wQ c out f ++ wH c ah ag ar ps sH)) H) (hD : va_D (fun q : Nat => s.heap.size ≤ q) (wM c am x ++ (wQ c out f ++ wH c ah ag ar ps sH))) (hS : va_S (fun q : Nat => s.heap.size ≤ q) s.heap H locs) (hl : lv_has ls 9 [(0, .ref b), (1, .ref (ah 0)), (2, .ref (am 0)), (3, .ref out), (4, .int v4)])
    (kk : ∀ (H : Heap) (locs : List Loc) (ls : Array Slot), va_P G vwCl (wM c am x' ++ (wQ c out f ++ wH c ah ag ar ps sH)) H → va_D (fun q : Nat => s.heap.size ≤ q) (wM c am x' ++ (wQ c out f ++ wH c ah ag ar ps sH)) → va_S (fun q : Nat => s.heap.size ≤ q) s.heap H locs → lv_has ls 9 [(0, .ref b), (1, .ref (ah 0)), (2, .ref (am 0)), (3, .ref out), (4, .int v4)] → W p l e room_1 s m args below meth c1 H locs cells slots Q (F0 m 1325 ls [])) : W p l e room_1 s m args below meth c1 H locs cells slots Q (F0 m 844 ls [.int k]) := by
  obtain ⟨hl0, hx, hb, hml, hown, hts, hX, hbl, hK, hN, hZ, hXA, hXW, hNC⟩ := lc
  have hA : ∀ q : Nat, s.heap.size ≤ q → (fun q : Nat => s.heap.size ≤ q) q := fun _ h => h
  have hbA : ¬ (fun q : Nat => s.heap.size ≤ q) b := Nat.not_le.mpr hbl
  refine lv_istore (lv' := [(5, .int k), (0, .ref b), (1, .ref (ah 0)), (2, .ref (am 0)), (3, .ref out), (4, .int v4)]) hx hb dL_law_844 hl (by decide) rfl (fun ls hl => ?_)
  refine lv_aload_n hx hb dL_law_846 rfl (lv_at hl 3 rfl) ?_
  refine lv_aload_n hx hb dL_law_847 rfl (lv_at hl 1 rfl) ?_
  refine lv_iload hx hb dL_law_848 (lv_at hl 5 rfl) ?_
  refine lv_iconst (v := 1) hx hb dL_law_850 (by decide) ?_
  refine lv_iadd hx hb dL_law_851 ?_
  refine va_sld hx hb hX hbl hbA hS i1 dL_law_852 ?_
  refine lv_aload_n hx hb dL_law_853 rfl (lv_at hl 1 rfl) ?_
  refine lv_iload hx hb dL_law_854 (lv_at hl 5 rfl) ?_
  refine lv_iconst (v := 2) hx hb dL_law_856 (by decide) ?_
  refine lv_iadd hx hb dL_law_857 ?_
  refine va_sld hx hb hX hbl hbA hS i2 dL_law_858 ?_
  refine zcEVi (wc := wM c am x) (wr := wQ c out f ++ wH c ah ag ar ps sH) (As := [.int (xs (v4 + 1).toNatClampNeg), .int (xs (v4 + 2).toNatClampNeg)]) (rest := []) ⟨hx, hb, hml, hown, hts⟩ (k_X8_longestTile l G K c am x (xs (v4 + 1).toNatClampNeg) (xs (v4 + 2).toNatClampNeg) r x' hm) (cwV 2 hts gL_law_X8_longestTile rfl rfl rfl (by decide +kernel) ⟨Nat.le_of_ble_eq_true rfl, Nat.le_of_ble_eq_true rfl⟩) hK hN hZ hP hD hS hA (va_recv hK hP (ci := 8) (q0 := 0) rfl rfl) rfl hl.1 rfl (Nat.le_of_ble_eq_true rfl) dL_law_859 hc (fun H locs hP hD hS => ?_)
  refine lv_istore (lv' := [(6, .int r), (5, .int k), (0, .ref b), (1, .ref (ah 0)), (2, .ref (am 0)), (3, .ref out), (4, .int v4)]) hx hb dL_law_862 hl (by decide) rfl (fun ls hl => ?_)
  refine lv_aload_n hx hb dL_law_864 rfl (lv_at hl 4 rfl) ?_
  refine zcEVi (wc := wM c am x') (wr := wQ c out f ++ wH c ah ag ar ps sH) (As := []) (rest := []) ⟨hx, hb, hml, hown, hts⟩ (k_X8_thrown l G K c am x' k (thrown_eq hk)) (cwV 0 hts gL_law_X8_thrown rfl rfl rfl (by decide +kernel) ⟨Nat.le_of_ble_eq_true rfl, Nat.le_of_ble_eq_true rfl⟩) hK hN hZ hP hD hS hA (va_recv hK hP (ci := 8) (q0 := 0) rfl rfl) rfl hl.1 rfl (Nat.le_of_ble_eq_true rfl) dL_law_865 hc (fun H locs hP hD hS => ?_)
  refine lv_iload hx hb dL_law_868 (lv_at hl 1 rfl) ?_
  refine lv_icmp_eq (tgt := 875) hx hb dL_law_870 (by decide) (fun _ => ?_) (fun h => absurd rfl h)
  refine lv_iload hx hb dL_law_875 (lv_at hl 1 rfl) ?_
  refine lv_if_ne (tgt := 892) hx hb dL_law_877 (by decide) (fun hk0 => ?_) (fun hk0 => ?_)
  · refine lv_goto (tgt := 1325) hx hb dL_law_892 (by decide) ?_
    exact kk H locs ls hP hD hS (lv_sub hl [2, 3, 4, 5, 6] rfl)
  · refine lv_aload_n hx hb dL_law_880 rfl (lv_at hl 5 rfl) ?_
    refine lv_iconst (v := 0) hx hb dL_law_881 (by decide) ?_
    refine va_lald (D := G) hx hb hK hP 18 1 rfl rfl (inb_s (by decide)) dL_law_882 ?_
    refine lv_iload hx hb dL_law_883 (lv_at hl 0 rfl) ?_
    refine lv_i2l (v := r.toInt64) hx hb dL_law_885 rfl ?_
    refine W.lcmp hx hb dL_law_886 ?_
    refine lv_if_eq (tgt := 892) hx hb dL_law_887 (by decide) (fun _ => ?_) (fun h => absurd (by rw [hf hk0]; exact lcmp_self) h)
    refine lv_goto (tgt := 1325) hx hb dL_law_892 (by decide) ?_
    exact kk H locs ls hP hD hS (lv_sub hl [2, 3, 4, 5, 6] rfl)
theorem tail_heaviest {p : Program} {l : Launch} {e : Env} {s : State} {m : MethodId} {args : Array Value} {below : List Frame} {meth : Method} {c1 : Code} {Q : State → Prop} {G : va_G} {K : (Nat → Nat) × (Nat → Nat)} {c : Nat → ClassId} {am ah : Nat → Nat} {ag : Nat → Nat → Nat} {ar : Nat → Nat} {out b L : Nat} {xs : Nat → Int32} (lc : LC p l s m args c1 G K c b L xs) {cells slots : Nat} {v4 : Int32} (i1 : vp_in (v4 + 1) L) (hc : cells ≤ 601024 ∧ slots ≤ 7293034) {sH : HS} {x x' : MS} {ps : PS} {k r : Int32} {f : Nat → Int64} (hm : f_X8_heaviest x (xs (v4 + 1).toNatClampNeg) = some (r, x')) (hk : x'.1.1 0 = k) (hf : k = 0 → f (0 : Int32).toNatClampNeg = r.toInt64) {H : Heap} {locs : List Loc} {ls : Array Slot} (hP : va_P G vwCl (wM c am x ++ (wQ c out f ++ wH c ah ag ar ps sH)) H) (hD : va_D (fun q : Nat => s.heap.size ≤ q) (wM c am x ++ (wQ c out f ++ wH c ah ag ar ps sH))) (hS : va_S (fun q : Nat => s.heap.size ≤ q) s.heap H locs) (hl : lv_has ls 9 [(0, .ref b), (1, .ref (ah 0)), (2, .ref (am 0)), (3, .ref out), (4, .int v4)])
    (kk : ∀ (H : Heap) (locs : List Loc) (ls : Array Slot), va_P G vwCl (wM c am x' ++ (wQ c out f ++ wH c ah ag ar ps sH)) H → va_D (fun q : Nat => s.heap.size ≤ q) (wM c am x' ++ (wQ c out f ++ wH c ah ag ar ps sH)) → va_S (fun q : Nat => s.heap.size ≤ q) s.heap H locs → lv_has ls 9 [(0, .ref b), (1, .ref (ah 0)), (2, .ref (am 0)), (3, .ref out), (4, .int v4)] → W p l e room_1 s m args below meth c1 H locs cells slots Q (F0 m 1325 ls [])) : W p l e room_1 s m args below meth c1 H locs cells slots Q (F0 m 906 ls [.int k]) := by
  obtain ⟨hl0, hx, hb, hml, hown, hts, hX, hbl, hK, hN, hZ, hXA, hXW, hNC⟩ := lc
  have hA : ∀ q : Nat, s.heap.size ≤ q → (fun q : Nat => s.heap.size ≤ q) q := fun _ h => h
  have hbA : ¬ (fun q : Nat => s.heap.size ≤ q) b := Nat.not_le.mpr hbl
  refine lv_istore (lv' := [(5, .int k), (0, .ref b), (1, .ref (ah 0)), (2, .ref (am 0)), (3, .ref out), (4, .int v4)]) hx hb dL_law_906 hl (by decide) rfl (fun ls hl => ?_)
  refine lv_aload_n hx hb dL_law_908 rfl (lv_at hl 3 rfl) ?_
  refine lv_aload_n hx hb dL_law_909 rfl (lv_at hl 1 rfl) ?_
  refine lv_iload hx hb dL_law_910 (lv_at hl 5 rfl) ?_
  refine lv_iconst (v := 1) hx hb dL_law_912 (by decide) ?_
  refine lv_iadd hx hb dL_law_913 ?_
  refine va_sld hx hb hX hbl hbA hS i1 dL_law_914 ?_
  refine zcEVi (wc := wM c am x) (wr := wQ c out f ++ wH c ah ag ar ps sH) (As := [.int (xs (v4 + 1).toNatClampNeg)]) (rest := []) ⟨hx, hb, hml, hown, hts⟩ (k_X8_heaviest l G K c am x (xs (v4 + 1).toNatClampNeg) r x' hm) (cwV 1 hts gL_law_X8_heaviest rfl rfl rfl (by decide +kernel) ⟨Nat.le_of_ble_eq_true rfl, Nat.le_of_ble_eq_true rfl⟩) hK hN hZ hP hD hS hA (va_recv hK hP (ci := 8) (q0 := 0) rfl rfl) rfl hl.1 rfl (Nat.le_of_ble_eq_true rfl) dL_law_915 hc (fun H locs hP hD hS => ?_)
  refine lv_istore (lv' := [(6, .int r), (5, .int k), (0, .ref b), (1, .ref (ah 0)), (2, .ref (am 0)), (3, .ref out), (4, .int v4)]) hx hb dL_law_918 hl (by decide) rfl (fun ls hl => ?_)
  refine lv_aload_n hx hb dL_law_920 rfl (lv_at hl 4 rfl) ?_
  refine zcEVi (wc := wM c am x') (wr := wQ c out f ++ wH c ah ag ar ps sH) (As := []) (rest := []) ⟨hx, hb, hml, hown, hts⟩ (k_X8_thrown l G K c am x' k (thrown_eq hk)) (cwV 0 hts gL_law_X8_thrown rfl rfl rfl (by decide +kernel) ⟨Nat.le_of_ble_eq_true rfl, Nat.le_of_ble_eq_true rfl⟩) hK hN hZ hP hD hS hA (va_recv hK hP (ci := 8) (q0 := 0) rfl rfl) rfl hl.1 rfl (Nat.le_of_ble_eq_true rfl) dL_law_921 hc (fun H locs hP hD hS => ?_)
  refine lv_iload hx hb dL_law_924 (lv_at hl 1 rfl) ?_
  refine lv_icmp_eq (tgt := 931) hx hb dL_law_926 (by decide) (fun _ => ?_) (fun h => absurd rfl h)
  refine lv_iload hx hb dL_law_931 (lv_at hl 1 rfl) ?_
  refine lv_if_ne (tgt := 948) hx hb dL_law_933 (by decide) (fun hk0 => ?_) (fun hk0 => ?_)
  · refine lv_goto (tgt := 1325) hx hb dL_law_948 (by decide) ?_
    exact kk H locs ls hP hD hS (lv_sub hl [2, 3, 4, 5, 6] rfl)
  · refine lv_aload_n hx hb dL_law_936 rfl (lv_at hl 5 rfl) ?_
    refine lv_iconst (v := 0) hx hb dL_law_937 (by decide) ?_
    refine va_lald (D := G) hx hb hK hP 18 1 rfl rfl (inb_s (by decide)) dL_law_938 ?_
    refine lv_iload hx hb dL_law_939 (lv_at hl 0 rfl) ?_
    refine lv_i2l (v := r.toInt64) hx hb dL_law_941 rfl ?_
    refine W.lcmp hx hb dL_law_942 ?_
    refine lv_if_eq (tgt := 948) hx hb dL_law_943 (by decide) (fun _ => ?_) (fun h => absurd (by rw [hf hk0]; exact lcmp_self) h)
    refine lv_goto (tgt := 1325) hx hb dL_law_948 (by decide) ?_
    exact kk H locs ls hP hD hS (lv_sub hl [2, 3, 4, 5, 6] rfl)
theorem tail_play {p : Program} {l : Launch} {e : Env} {s : State} {m : MethodId} {args : Array Value} {below : List Frame} {meth : Method} {c1 : Code} {Q : State → Prop} {G : va_G} {K : (Nat → Nat) × (Nat → Nat)} {c : Nat → ClassId} {am ah : Nat → Nat} {ag : Nat → Nat → Nat} {ar : Nat → Nat} {out b L : Nat} {xs : Nat → Int32} (lc : LC p l s m args c1 G K c b L xs) {cells slots : Nat} {v4 : Int32} (i1 : vp_in (v4 + 1) L) (i2 : vp_in (v4 + 2) L) (hc : cells ≤ 601024 ∧ slots ≤ 7293034) {sH : HS} {x x' : MS} {ps : PS} {k r : Int32} {f : Nat → Int64} (hm : f_X8_play x (xs (v4 + 1).toNatClampNeg) (xs (v4 + 2).toNatClampNeg) = some (r, x')) (hk : x'.1.1 0 = k) (hf : k = 0 → f (0 : Int32).toNatClampNeg = r.toInt64) {H : Heap} {locs : List Loc} {ls : Array Slot} (hP : va_P G vwCl (wM c am x ++ (wQ c out f ++ wH c ah ag ar ps sH)) H) (hD : va_D (fun q : Nat => s.heap.size ≤ q) (wM c am x ++ (wQ c out f ++ wH c ah ag ar ps sH))) (hS : va_S (fun q : Nat => s.heap.size ≤ q) s.heap H locs) (hl : lv_has ls 9 [(0, .ref b), (1, .ref (ah 0)), (2, .ref (am 0)), (3, .ref out), (4, .int v4)])
    (kk : ∀ (H : Heap) (locs : List Loc) (ls : Array Slot), va_P G vwCl (wM c am x' ++ (wQ c out f ++ wH c ah ag ar ps sH)) H → va_D (fun q : Nat => s.heap.size ≤ q) (wM c am x' ++ (wQ c out f ++ wH c ah ag ar ps sH)) → va_S (fun q : Nat => s.heap.size ≤ q) s.heap H locs → lv_has ls 9 [(0, .ref b), (1, .ref (ah 0)), (2, .ref (am 0)), (3, .ref out), (4, .int v4)] → W p l e room_1 s m args below meth c1 H locs cells slots Q (F0 m 1325 ls [])) : W p l e room_1 s m args below meth c1 H locs cells slots Q (F0 m 1035 ls [.int k]) := by
  obtain ⟨hl0, hx, hb, hml, hown, hts, hX, hbl, hK, hN, hZ, hXA, hXW, hNC⟩ := lc
  have hA : ∀ q : Nat, s.heap.size ≤ q → (fun q : Nat => s.heap.size ≤ q) q := fun _ h => h
  have hbA : ¬ (fun q : Nat => s.heap.size ≤ q) b := Nat.not_le.mpr hbl
  refine lv_istore (lv' := [(5, .int k), (0, .ref b), (1, .ref (ah 0)), (2, .ref (am 0)), (3, .ref out), (4, .int v4)]) hx hb dL_law_1035 hl (by decide) rfl (fun ls hl => ?_)
  refine lv_aload_n hx hb dL_law_1037 rfl (lv_at hl 3 rfl) ?_
  refine lv_aload_n hx hb dL_law_1038 rfl (lv_at hl 1 rfl) ?_
  refine lv_iload hx hb dL_law_1039 (lv_at hl 5 rfl) ?_
  refine lv_iconst (v := 1) hx hb dL_law_1041 (by decide) ?_
  refine lv_iadd hx hb dL_law_1042 ?_
  refine va_sld hx hb hX hbl hbA hS i1 dL_law_1043 ?_
  refine lv_aload_n hx hb dL_law_1044 rfl (lv_at hl 1 rfl) ?_
  refine lv_iload hx hb dL_law_1045 (lv_at hl 5 rfl) ?_
  refine lv_iconst (v := 2) hx hb dL_law_1047 (by decide) ?_
  refine lv_iadd hx hb dL_law_1048 ?_
  refine va_sld hx hb hX hbl hbA hS i2 dL_law_1049 ?_
  refine zcEVi (wc := wM c am x) (wr := wQ c out f ++ wH c ah ag ar ps sH) (As := [.int (xs (v4 + 1).toNatClampNeg), .int (xs (v4 + 2).toNatClampNeg)]) (rest := []) ⟨hx, hb, hml, hown, hts⟩ (k_X8_play l G K c am x (xs (v4 + 1).toNatClampNeg) (xs (v4 + 2).toNatClampNeg) r x' hm) (cwV 2 hts gL_law_X8_play rfl rfl rfl (by decide +kernel) ⟨Nat.le_of_ble_eq_true rfl, Nat.le_of_ble_eq_true rfl⟩) hK hN hZ hP hD hS hA (va_recv hK hP (ci := 8) (q0 := 0) rfl rfl) rfl hl.1 rfl (Nat.le_of_ble_eq_true rfl) dL_law_1050 hc (fun H locs hP hD hS => ?_)
  refine lv_istore (lv' := [(6, .int r), (5, .int k), (0, .ref b), (1, .ref (ah 0)), (2, .ref (am 0)), (3, .ref out), (4, .int v4)]) hx hb dL_law_1053 hl (by decide) rfl (fun ls hl => ?_)
  refine lv_aload_n hx hb dL_law_1055 rfl (lv_at hl 4 rfl) ?_
  refine zcEVi (wc := wM c am x') (wr := wQ c out f ++ wH c ah ag ar ps sH) (As := []) (rest := []) ⟨hx, hb, hml, hown, hts⟩ (k_X8_thrown l G K c am x' k (thrown_eq hk)) (cwV 0 hts gL_law_X8_thrown rfl rfl rfl (by decide +kernel) ⟨Nat.le_of_ble_eq_true rfl, Nat.le_of_ble_eq_true rfl⟩) hK hN hZ hP hD hS hA (va_recv hK hP (ci := 8) (q0 := 0) rfl rfl) rfl hl.1 rfl (Nat.le_of_ble_eq_true rfl) dL_law_1056 hc (fun H locs hP hD hS => ?_)
  refine lv_iload hx hb dL_law_1059 (lv_at hl 1 rfl) ?_
  refine lv_icmp_eq (tgt := 1066) hx hb dL_law_1061 (by decide) (fun _ => ?_) (fun h => absurd rfl h)
  refine lv_iload hx hb dL_law_1066 (lv_at hl 1 rfl) ?_
  refine lv_if_ne (tgt := 1083) hx hb dL_law_1068 (by decide) (fun hk0 => ?_) (fun hk0 => ?_)
  · refine lv_goto (tgt := 1325) hx hb dL_law_1083 (by decide) ?_
    exact kk H locs ls hP hD hS (lv_sub hl [2, 3, 4, 5, 6] rfl)
  · refine lv_aload_n hx hb dL_law_1071 rfl (lv_at hl 5 rfl) ?_
    refine lv_iconst (v := 0) hx hb dL_law_1072 (by decide) ?_
    refine va_lald (D := G) hx hb hK hP 18 1 rfl rfl (inb_s (by decide)) dL_law_1073 ?_
    refine lv_iload hx hb dL_law_1074 (lv_at hl 0 rfl) ?_
    refine lv_i2l (v := r.toInt64) hx hb dL_law_1076 rfl ?_
    refine W.lcmp hx hb dL_law_1077 ?_
    refine lv_if_eq (tgt := 1083) hx hb dL_law_1078 (by decide) (fun _ => ?_) (fun h => absurd (by rw [hf hk0]; exact lcmp_self) h)
    refine lv_goto (tgt := 1325) hx hb dL_law_1083 (by decide) ?_
    exact kk H locs ls hP hD hS (lv_sub hl [2, 3, 4, 5, 6] rfl)
theorem tail_draw {p : Program} {l : Launch} {e : Env} {s : State} {m : MethodId} {args : Array Value} {below : List Frame} {meth : Method} {c1 : Code} {Q : State → Prop} {G : va_G} {K : (Nat → Nat) × (Nat → Nat)} {c : Nat → ClassId} {am ah : Nat → Nat} {ag : Nat → Nat → Nat} {ar : Nat → Nat} {out b L : Nat} {xs : Nat → Int32} (lc : LC p l s m args c1 G K c b L xs) {cells slots : Nat} {v4 : Int32}  (hc : cells ≤ 601024 ∧ slots ≤ 7293034) {sH : HS} {x x' : MS} {ps : PS} {k r : Int32} {f : Nat → Int64} (hm : f_X8_draw x  = some (r, x')) (hk : x'.1.1 0 = k) (hf : k = 0 → f (0 : Int32).toNatClampNeg = r.toInt64) {H : Heap} {locs : List Loc} {ls : Array Slot} (hP : va_P G vwCl (wM c am x ++ (wQ c out f ++ wH c ah ag ar ps sH)) H) (hD : va_D (fun q : Nat => s.heap.size ≤ q) (wM c am x ++ (wQ c out f ++ wH c ah ag ar ps sH))) (hS : va_S (fun q : Nat => s.heap.size ≤ q) s.heap H locs) (hl : lv_has ls 9 [(0, .ref b), (1, .ref (ah 0)), (2, .ref (am 0)), (3, .ref out), (4, .int v4)])
    (kk : ∀ (H : Heap) (locs : List Loc) (ls : Array Slot), va_P G vwCl (wM c am x' ++ (wQ c out f ++ wH c ah ag ar ps sH)) H → va_D (fun q : Nat => s.heap.size ≤ q) (wM c am x' ++ (wQ c out f ++ wH c ah ag ar ps sH)) → va_S (fun q : Nat => s.heap.size ≤ q) s.heap H locs → lv_has ls 9 [(0, .ref b), (1, .ref (ah 0)), (2, .ref (am 0)), (3, .ref out), (4, .int v4)] → W p l e room_1 s m args below meth c1 H locs cells slots Q (F0 m 1325 ls [])) : W p l e room_1 s m args below meth c1 H locs cells slots Q (F0 m 1091 ls [.int k]) := by
  obtain ⟨hl0, hx, hb, hml, hown, hts, hX, hbl, hK, hN, hZ, hXA, hXW, hNC⟩ := lc
  have hA : ∀ q : Nat, s.heap.size ≤ q → (fun q : Nat => s.heap.size ≤ q) q := fun _ h => h
  have hbA : ¬ (fun q : Nat => s.heap.size ≤ q) b := Nat.not_le.mpr hbl
  refine lv_istore (lv' := [(5, .int k), (0, .ref b), (1, .ref (ah 0)), (2, .ref (am 0)), (3, .ref out), (4, .int v4)]) hx hb dL_law_1091 hl (by decide) rfl (fun ls hl => ?_)
  refine lv_aload_n hx hb dL_law_1093 rfl (lv_at hl 3 rfl) ?_
  refine zcEVi (wc := wM c am x) (wr := wQ c out f ++ wH c ah ag ar ps sH) (As := []) (rest := []) ⟨hx, hb, hml, hown, hts⟩ (k_X8_draw l G K c am x  r x' hm) (cwV 0 hts gL_law_X8_draw rfl rfl rfl (by decide +kernel) ⟨Nat.le_of_ble_eq_true rfl, Nat.le_of_ble_eq_true rfl⟩) hK hN hZ hP hD hS hA (va_recv hK hP (ci := 8) (q0 := 0) rfl rfl) rfl hl.1 rfl (Nat.le_of_ble_eq_true rfl) dL_law_1094 hc (fun H locs hP hD hS => ?_)
  refine lv_istore (lv' := [(6, .int r), (5, .int k), (0, .ref b), (1, .ref (ah 0)), (2, .ref (am 0)), (3, .ref out), (4, .int v4)]) hx hb dL_law_1097 hl (by decide) rfl (fun ls hl => ?_)
  refine lv_aload_n hx hb dL_law_1099 rfl (lv_at hl 4 rfl) ?_
  refine zcEVi (wc := wM c am x') (wr := wQ c out f ++ wH c ah ag ar ps sH) (As := []) (rest := []) ⟨hx, hb, hml, hown, hts⟩ (k_X8_thrown l G K c am x' k (thrown_eq hk)) (cwV 0 hts gL_law_X8_thrown rfl rfl rfl (by decide +kernel) ⟨Nat.le_of_ble_eq_true rfl, Nat.le_of_ble_eq_true rfl⟩) hK hN hZ hP hD hS hA (va_recv hK hP (ci := 8) (q0 := 0) rfl rfl) rfl hl.1 rfl (Nat.le_of_ble_eq_true rfl) dL_law_1100 hc (fun H locs hP hD hS => ?_)
  refine lv_iload hx hb dL_law_1103 (lv_at hl 1 rfl) ?_
  refine lv_icmp_eq (tgt := 1110) hx hb dL_law_1105 (by decide) (fun _ => ?_) (fun h => absurd rfl h)
  refine lv_iload hx hb dL_law_1110 (lv_at hl 1 rfl) ?_
  refine lv_if_ne (tgt := 1127) hx hb dL_law_1112 (by decide) (fun hk0 => ?_) (fun hk0 => ?_)
  · refine lv_goto (tgt := 1325) hx hb dL_law_1127 (by decide) ?_
    exact kk H locs ls hP hD hS (lv_sub hl [2, 3, 4, 5, 6] rfl)
  · refine lv_aload_n hx hb dL_law_1115 rfl (lv_at hl 5 rfl) ?_
    refine lv_iconst (v := 0) hx hb dL_law_1116 (by decide) ?_
    refine va_lald (D := G) hx hb hK hP 18 1 rfl rfl (inb_s (by decide)) dL_law_1117 ?_
    refine lv_iload hx hb dL_law_1118 (lv_at hl 0 rfl) ?_
    refine lv_i2l (v := r.toInt64) hx hb dL_law_1120 rfl ?_
    refine W.lcmp hx hb dL_law_1121 ?_
    refine lv_if_eq (tgt := 1127) hx hb dL_law_1122 (by decide) (fun _ => ?_) (fun h => absurd (by rw [hf hk0]; exact lcmp_self) h)
    refine lv_goto (tgt := 1325) hx hb dL_law_1127 (by decide) ?_
    exact kk H locs ls hP hD hS (lv_sub hl [2, 3, 4, 5, 6] rfl)
theorem tail_auto {p : Program} {l : Launch} {e : Env} {s : State} {m : MethodId} {args : Array Value} {below : List Frame} {meth : Method} {c1 : Code} {Q : State → Prop} {G : va_G} {K : (Nat → Nat) × (Nat → Nat)} {c : Nat → ClassId} {am ah : Nat → Nat} {ag : Nat → Nat → Nat} {ar : Nat → Nat} {out b L : Nat} {xs : Nat → Int32} (lc : LC p l s m args c1 G K c b L xs) {cells slots : Nat} {v4 : Int32} (i1 : vp_in (v4 + 1) L) (hc : cells ≤ 601024 ∧ slots ≤ 7293034) {sH : HS} {x x' : MS} {ps : PS} {k r : Int32} {f : Nat → Int64} (hm : f_X8_auto x (xs (v4 + 1).toNatClampNeg) = some (r, x')) (hk : x'.1.1 0 = k) (hf : k = 0 → f (0 : Int32).toNatClampNeg = r.toInt64) {H : Heap} {locs : List Loc} {ls : Array Slot} (hP : va_P G vwCl (wM c am x ++ (wQ c out f ++ wH c ah ag ar ps sH)) H) (hD : va_D (fun q : Nat => s.heap.size ≤ q) (wM c am x ++ (wQ c out f ++ wH c ah ag ar ps sH))) (hS : va_S (fun q : Nat => s.heap.size ≤ q) s.heap H locs) (hl : lv_has ls 9 [(0, .ref b), (1, .ref (ah 0)), (2, .ref (am 0)), (3, .ref out), (4, .int v4)])
    (kk : ∀ (H : Heap) (locs : List Loc) (ls : Array Slot), va_P G vwCl (wM c am x' ++ (wQ c out f ++ wH c ah ag ar ps sH)) H → va_D (fun q : Nat => s.heap.size ≤ q) (wM c am x' ++ (wQ c out f ++ wH c ah ag ar ps sH)) → va_S (fun q : Nat => s.heap.size ≤ q) s.heap H locs → lv_has ls 9 [(0, .ref b), (1, .ref (ah 0)), (2, .ref (am 0)), (3, .ref out), (4, .int v4)] → W p l e room_1 s m args below meth c1 H locs cells slots Q (F0 m 1325 ls [])) : W p l e room_1 s m args below meth c1 H locs cells slots Q (F0 m 1185 ls [.int k]) := by
  obtain ⟨hl0, hx, hb, hml, hown, hts, hX, hbl, hK, hN, hZ, hXA, hXW, hNC⟩ := lc
  have hA : ∀ q : Nat, s.heap.size ≤ q → (fun q : Nat => s.heap.size ≤ q) q := fun _ h => h
  have hbA : ¬ (fun q : Nat => s.heap.size ≤ q) b := Nat.not_le.mpr hbl
  refine lv_istore (lv' := [(5, .int k), (0, .ref b), (1, .ref (ah 0)), (2, .ref (am 0)), (3, .ref out), (4, .int v4)]) hx hb dL_law_1185 hl (by decide) rfl (fun ls hl => ?_)
  refine lv_aload_n hx hb dL_law_1187 rfl (lv_at hl 3 rfl) ?_
  refine lv_aload_n hx hb dL_law_1188 rfl (lv_at hl 1 rfl) ?_
  refine lv_iload hx hb dL_law_1189 (lv_at hl 5 rfl) ?_
  refine lv_iconst (v := 1) hx hb dL_law_1191 (by decide) ?_
  refine lv_iadd hx hb dL_law_1192 ?_
  refine va_sld hx hb hX hbl hbA hS i1 dL_law_1193 ?_
  refine zcEVi (wc := wM c am x) (wr := wQ c out f ++ wH c ah ag ar ps sH) (As := [.int (xs (v4 + 1).toNatClampNeg)]) (rest := []) ⟨hx, hb, hml, hown, hts⟩ (k_X8_auto l G K c am x (xs (v4 + 1).toNatClampNeg) r x' hm) (cwV 1 hts gL_law_X8_auto rfl rfl rfl (by decide +kernel) ⟨Nat.le_of_ble_eq_true rfl, Nat.le_of_ble_eq_true rfl⟩) hK hN hZ hP hD hS hA (va_recv hK hP (ci := 8) (q0 := 0) rfl rfl) rfl hl.1 rfl (Nat.le_of_ble_eq_true rfl) dL_law_1194 hc (fun H locs hP hD hS => ?_)
  refine lv_istore (lv' := [(6, .int r), (5, .int k), (0, .ref b), (1, .ref (ah 0)), (2, .ref (am 0)), (3, .ref out), (4, .int v4)]) hx hb dL_law_1197 hl (by decide) rfl (fun ls hl => ?_)
  refine lv_aload_n hx hb dL_law_1199 rfl (lv_at hl 4 rfl) ?_
  refine zcEVi (wc := wM c am x') (wr := wQ c out f ++ wH c ah ag ar ps sH) (As := []) (rest := []) ⟨hx, hb, hml, hown, hts⟩ (k_X8_thrown l G K c am x' k (thrown_eq hk)) (cwV 0 hts gL_law_X8_thrown rfl rfl rfl (by decide +kernel) ⟨Nat.le_of_ble_eq_true rfl, Nat.le_of_ble_eq_true rfl⟩) hK hN hZ hP hD hS hA (va_recv hK hP (ci := 8) (q0 := 0) rfl rfl) rfl hl.1 rfl (Nat.le_of_ble_eq_true rfl) dL_law_1200 hc (fun H locs hP hD hS => ?_)
  refine lv_iload hx hb dL_law_1203 (lv_at hl 1 rfl) ?_
  refine lv_icmp_eq (tgt := 1210) hx hb dL_law_1205 (by decide) (fun _ => ?_) (fun h => absurd rfl h)
  refine lv_iload hx hb dL_law_1210 (lv_at hl 1 rfl) ?_
  refine lv_if_ne (tgt := 1227) hx hb dL_law_1212 (by decide) (fun hk0 => ?_) (fun hk0 => ?_)
  · refine lv_goto (tgt := 1325) hx hb dL_law_1227 (by decide) ?_
    exact kk H locs ls hP hD hS (lv_sub hl [2, 3, 4, 5, 6] rfl)
  · refine lv_aload_n hx hb dL_law_1215 rfl (lv_at hl 5 rfl) ?_
    refine lv_iconst (v := 0) hx hb dL_law_1216 (by decide) ?_
    refine va_lald (D := G) hx hb hK hP 18 1 rfl rfl (inb_s (by decide)) dL_law_1217 ?_
    refine lv_iload hx hb dL_law_1218 (lv_at hl 0 rfl) ?_
    refine lv_i2l (v := r.toInt64) hx hb dL_law_1220 rfl ?_
    refine W.lcmp hx hb dL_law_1221 ?_
    refine lv_if_eq (tgt := 1227) hx hb dL_law_1222 (by decide) (fun _ => ?_) (fun h => absurd (by rw [hf hk0]; exact lcmp_self) h)
    refine lv_goto (tgt := 1325) hx hb dL_law_1227 (by decide) ?_
    exact kk H locs ls hP hD hS (lv_sub hl [2, 3, 4, 5, 6] rfl)
theorem tail_deal {p : Program} {l : Launch} {e : Env} {s : State} {m : MethodId} {args : Array Value} {below : List Frame} {meth : Method} {c1 : Code} {Q : State → Prop} {G : va_G} {K : (Nat → Nat) × (Nat → Nat)} {c : Nat → ClassId} {am ah : Nat → Nat} {ag : Nat → Nat → Nat} {ar : Nat → Nat} {out b L : Nat} {xs : Nat → Int32} (lc : LC p l s m args c1 G K c b L xs) {cells slots : Nat} {v4 : Int32} (i1 : vp_in (v4 + 1) L) (i2 : vp_in (v4 + 2) L) (hc : cells ≤ 601024 ∧ slots ≤ 7293034) {sH : HS} {x x' : MS} {ps : PS} {k r : Int32} {f : Nat → Int64} (hm : f_X8_deal_ x (xs (v4 + 1).toNatClampNeg) (xs (v4 + 2).toNatClampNeg) = some (r, x')) (hk : x'.1.1 0 = k) (hf : k = 0 → f (0 : Int32).toNatClampNeg = r.toInt64) {H : Heap} {locs : List Loc} {ls : Array Slot} (hP : va_P G vwCl (wM c am x ++ (wQ c out f ++ wH c ah ag ar ps sH)) H) (hD : va_D (fun q : Nat => s.heap.size ≤ q) (wM c am x ++ (wQ c out f ++ wH c ah ag ar ps sH))) (hS : va_S (fun q : Nat => s.heap.size ≤ q) s.heap H locs) (hl : lv_has ls 9 [(0, .ref b), (1, .ref (ah 0)), (2, .ref (am 0)), (3, .ref out), (4, .int v4)])
    (kk : ∀ (H : Heap) (locs : List Loc) (ls : Array Slot), va_P G vwCl (wM c am x' ++ (wQ c out f ++ wH c ah ag ar ps sH)) H → va_D (fun q : Nat => s.heap.size ≤ q) (wM c am x' ++ (wQ c out f ++ wH c ah ag ar ps sH)) → va_S (fun q : Nat => s.heap.size ≤ q) s.heap H locs → lv_has ls 9 [(0, .ref b), (1, .ref (ah 0)), (2, .ref (am 0)), (3, .ref out), (4, .int v4)] → W p l e room_1 s m args below meth c1 H locs cells slots Q (F0 m 1325 ls [])) : W p l e room_1 s m args below meth c1 H locs cells slots Q (F0 m 1247 ls [.int k]) := by
  obtain ⟨hl0, hx, hb, hml, hown, hts, hX, hbl, hK, hN, hZ, hXA, hXW, hNC⟩ := lc
  have hA : ∀ q : Nat, s.heap.size ≤ q → (fun q : Nat => s.heap.size ≤ q) q := fun _ h => h
  have hbA : ¬ (fun q : Nat => s.heap.size ≤ q) b := Nat.not_le.mpr hbl
  refine lv_istore (lv' := [(5, .int k), (0, .ref b), (1, .ref (ah 0)), (2, .ref (am 0)), (3, .ref out), (4, .int v4)]) hx hb dL_law_1247 hl (by decide) rfl (fun ls hl => ?_)
  refine lv_aload_n hx hb dL_law_1249 rfl (lv_at hl 3 rfl) ?_
  refine lv_aload_n hx hb dL_law_1250 rfl (lv_at hl 1 rfl) ?_
  refine lv_iload hx hb dL_law_1251 (lv_at hl 5 rfl) ?_
  refine lv_iconst (v := 1) hx hb dL_law_1253 (by decide) ?_
  refine lv_iadd hx hb dL_law_1254 ?_
  refine va_sld hx hb hX hbl hbA hS i1 dL_law_1255 ?_
  refine lv_aload_n hx hb dL_law_1256 rfl (lv_at hl 1 rfl) ?_
  refine lv_iload hx hb dL_law_1257 (lv_at hl 5 rfl) ?_
  refine lv_iconst (v := 2) hx hb dL_law_1259 (by decide) ?_
  refine lv_iadd hx hb dL_law_1260 ?_
  refine va_sld hx hb hX hbl hbA hS i2 dL_law_1261 ?_
  refine zcEVi (wc := wM c am x) (wr := wQ c out f ++ wH c ah ag ar ps sH) (As := [.int (xs (v4 + 1).toNatClampNeg), .int (xs (v4 + 2).toNatClampNeg)]) (rest := []) ⟨hx, hb, hml, hown, hts⟩ (k_X8_deal_ l G K c am x (xs (v4 + 1).toNatClampNeg) (xs (v4 + 2).toNatClampNeg) r x' hm) (cwV 2 hts gL_law_X8_deal_ rfl rfl rfl (by decide +kernel) ⟨Nat.le_of_ble_eq_true rfl, Nat.le_of_ble_eq_true rfl⟩) hK hN hZ hP hD hS hA (va_recv hK hP (ci := 8) (q0 := 0) rfl rfl) rfl hl.1 rfl (Nat.le_of_ble_eq_true rfl) dL_law_1262 hc (fun H locs hP hD hS => ?_)
  refine lv_istore (lv' := [(6, .int r), (5, .int k), (0, .ref b), (1, .ref (ah 0)), (2, .ref (am 0)), (3, .ref out), (4, .int v4)]) hx hb dL_law_1265 hl (by decide) rfl (fun ls hl => ?_)
  refine lv_aload_n hx hb dL_law_1267 rfl (lv_at hl 4 rfl) ?_
  refine zcEVi (wc := wM c am x') (wr := wQ c out f ++ wH c ah ag ar ps sH) (As := []) (rest := []) ⟨hx, hb, hml, hown, hts⟩ (k_X8_thrown l G K c am x' k (thrown_eq hk)) (cwV 0 hts gL_law_X8_thrown rfl rfl rfl (by decide +kernel) ⟨Nat.le_of_ble_eq_true rfl, Nat.le_of_ble_eq_true rfl⟩) hK hN hZ hP hD hS hA (va_recv hK hP (ci := 8) (q0 := 0) rfl rfl) rfl hl.1 rfl (Nat.le_of_ble_eq_true rfl) dL_law_1268 hc (fun H locs hP hD hS => ?_)
  refine lv_iload hx hb dL_law_1271 (lv_at hl 1 rfl) ?_
  refine lv_icmp_eq (tgt := 1278) hx hb dL_law_1273 (by decide) (fun _ => ?_) (fun h => absurd rfl h)
  refine lv_iload hx hb dL_law_1278 (lv_at hl 1 rfl) ?_
  refine lv_if_ne (tgt := 1295) hx hb dL_law_1280 (by decide) (fun hk0 => ?_) (fun hk0 => ?_)
  · refine lv_goto (tgt := 1325) hx hb dL_law_1295 (by decide) ?_
    exact kk H locs ls hP hD hS (lv_sub hl [2, 3, 4, 5, 6] rfl)
  · refine lv_aload_n hx hb dL_law_1283 rfl (lv_at hl 5 rfl) ?_
    refine lv_iconst (v := 0) hx hb dL_law_1284 (by decide) ?_
    refine va_lald (D := G) hx hb hK hP 18 1 rfl rfl (inb_s (by decide)) dL_law_1285 ?_
    refine lv_iload hx hb dL_law_1286 (lv_at hl 0 rfl) ?_
    refine lv_i2l (v := r.toInt64) hx hb dL_law_1288 rfl ?_
    refine W.lcmp hx hb dL_law_1289 ?_
    refine lv_if_eq (tgt := 1295) hx hb dL_law_1290 (by decide) (fun _ => ?_) (fun h => absurd (by rw [hf hk0]; exact lcmp_self) h)
    refine lv_goto (tgt := 1325) hx hb dL_law_1295 (by decide) ?_
    exact kk H locs ls hP hD hS (lv_sub hl [2, 3, 4, 5, 6] rfl)
theorem tail_pass {p : Program} {l : Launch} {e : Env} {s : State} {m : MethodId} {args : Array Value} {below : List Frame} {meth : Method} {c1 : Code} {Q : State → Prop} {G : va_G} {K : (Nat → Nat) × (Nat → Nat)} {c : Nat → ClassId} {am ah : Nat → Nat} {ag : Nat → Nat → Nat} {ar : Nat → Nat} {out b L : Nat} {xs : Nat → Int32} (lc : LC p l s m args c1 G K c b L xs) {cells slots : Nat} {v4 : Int32}  (hc : cells ≤ 601024 ∧ slots ≤ 7293034) {sH : HS} {x x' : MS} {ps : PS} {k r : Int32} {f : Nat → Int64} (hm : f_X8_pass x  = some (r, x')) (hk : x'.1.1 0 = k) (hf : k = 0 → f (0 : Int32).toNatClampNeg = r.toInt64) {H : Heap} {locs : List Loc} {ls : Array Slot} (hP : va_P G vwCl (wM c am x ++ (wQ c out f ++ wH c ah ag ar ps sH)) H) (hD : va_D (fun q : Nat => s.heap.size ≤ q) (wM c am x ++ (wQ c out f ++ wH c ah ag ar ps sH))) (hS : va_S (fun q : Nat => s.heap.size ≤ q) s.heap H locs) (hl : lv_has ls 9 [(0, .ref b), (1, .ref (ah 0)), (2, .ref (am 0)), (3, .ref out), (4, .int v4)])
    (kk : ∀ (H : Heap) (locs : List Loc) (ls : Array Slot), va_P G vwCl (wM c am x' ++ (wQ c out f ++ wH c ah ag ar ps sH)) H → va_D (fun q : Nat => s.heap.size ≤ q) (wM c am x' ++ (wQ c out f ++ wH c ah ag ar ps sH)) → va_S (fun q : Nat => s.heap.size ≤ q) s.heap H locs → lv_has ls 9 [(0, .ref b), (1, .ref (ah 0)), (2, .ref (am 0)), (3, .ref out), (4, .int v4)] → W p l e room_1 s m args below meth c1 H locs cells slots Q (F0 m 1325 ls [])) : W p l e room_1 s m args below meth c1 H locs cells slots Q (F0 m 1135 ls [.int k]) := by
  obtain ⟨hl0, hx, hb, hml, hown, hts, hX, hbl, hK, hN, hZ, hXA, hXW, hNC⟩ := lc
  have hA : ∀ q : Nat, s.heap.size ≤ q → (fun q : Nat => s.heap.size ≤ q) q := fun _ h => h
  have hbA : ¬ (fun q : Nat => s.heap.size ≤ q) b := Nat.not_le.mpr hbl
  refine lv_istore (lv' := [(5, .int k), (0, .ref b), (1, .ref (ah 0)), (2, .ref (am 0)), (3, .ref out), (4, .int v4)]) hx hb dL_law_1135 hl (by decide) rfl (fun ls hl => ?_)
  refine lv_aload_n hx hb dL_law_1137 rfl (lv_at hl 3 rfl) ?_
  refine zcEVi (wc := wM c am x) (wr := wQ c out f ++ wH c ah ag ar ps sH) (As := []) (rest := []) ⟨hx, hb, hml, hown, hts⟩ (k_X8_pass l G K c am x  r x' hm) (cwV 0 hts gL_law_X8_pass rfl rfl rfl (by decide +kernel) ⟨Nat.le_of_ble_eq_true rfl, Nat.le_of_ble_eq_true rfl⟩) hK hN hZ hP hD hS hA (va_recv hK hP (ci := 8) (q0 := 0) rfl rfl) rfl hl.1 rfl (Nat.le_of_ble_eq_true rfl) dL_law_1138 hc (fun H locs hP hD hS => ?_)
  refine lv_istore (lv' := [(6, .int r), (5, .int k), (0, .ref b), (1, .ref (ah 0)), (2, .ref (am 0)), (3, .ref out), (4, .int v4)]) hx hb dL_law_1141 hl (by decide) rfl (fun ls hl => ?_)
  refine lv_aload_n hx hb dL_law_1143 rfl (lv_at hl 4 rfl) ?_
  refine zcEVi (wc := wM c am x') (wr := wQ c out f ++ wH c ah ag ar ps sH) (As := []) (rest := []) ⟨hx, hb, hml, hown, hts⟩ (k_X8_thrown l G K c am x' k (thrown_eq hk)) (cwV 0 hts gL_law_X8_thrown rfl rfl rfl (by decide +kernel) ⟨Nat.le_of_ble_eq_true rfl, Nat.le_of_ble_eq_true rfl⟩) hK hN hZ hP hD hS hA (va_recv hK hP (ci := 8) (q0 := 0) rfl rfl) rfl hl.1 rfl (Nat.le_of_ble_eq_true rfl) dL_law_1144 hc (fun H locs hP hD hS => ?_)
  refine lv_iload hx hb dL_law_1147 (lv_at hl 1 rfl) ?_
  refine lv_icmp_eq (tgt := 1154) hx hb dL_law_1149 (by decide) (fun _ => ?_) (fun h => absurd rfl h)
  refine lv_iload hx hb dL_law_1154 (lv_at hl 1 rfl) ?_
  refine lv_if_ne (tgt := 1171) hx hb dL_law_1156 (by decide) (fun hk0 => ?_) (fun hk0 => ?_)
  · refine lv_goto (tgt := 1325) hx hb dL_law_1171 (by decide) ?_
    exact kk H locs ls hP hD hS (lv_sub hl [2, 3, 4, 5, 6] rfl)
  · refine lv_aload_n hx hb dL_law_1159 rfl (lv_at hl 5 rfl) ?_
    refine lv_iconst (v := 0) hx hb dL_law_1160 (by decide) ?_
    refine va_lald (D := G) hx hb hK hP 18 1 rfl rfl (inb_s (by decide)) dL_law_1161 ?_
    refine lv_iload hx hb dL_law_1162 (lv_at hl 0 rfl) ?_
    refine lv_i2l (v := r.toInt64) hx hb dL_law_1164 rfl ?_
    refine W.lcmp hx hb dL_law_1165 ?_
    refine lv_if_eq (tgt := 1171) hx hb dL_law_1166 (by decide) (fun _ => ?_) (fun h => absurd (by rw [hf hk0]; exact lcmp_self) h)
    refine lv_goto (tgt := 1325) hx hb dL_law_1171 (by decide) ?_
    exact kk H locs ls hP hD hS (lv_sub hl [2, 3, 4, 5, 6] rfl)
