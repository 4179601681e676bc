set_option maxHeartbeats 4000000 in
theorem law_walk {p : Program} {l : Launch} {e : Env} {s : State} {m : MethodId} {below : List Frame} {meth : Method} {c1 : Code} {G : va_G} {K : (Nat → Nat) × (Nat → Nat)} {c : Nat → ClassId} {b L : Nat} {xs : Nat → Int32} (lc : LC p l s m #[Value.ref b] c1 G K c b L xs) (hL : L ≤ 3072) (hr : meth.sig.returnType = ret) (hlocks : meth.locks = false) : W p l e room_1 s m #[Value.ref b] below meth c1 s.heap [] 0 0 (lw_Z below #[Value.ref b] s) (entryFrame m ([Value.ref b] : List Value).toArray 9) := by
  have lc0 := lc
  obtain ⟨hl0, hx, hb, hml, hown, hts, hX, hbl, hK, hN, hZ, hXA, hXW, hNC⟩ := lc
  have hA : ∀ q : Nat, s.heap.size ≤ q → (fun q : Nat => s.heap.size ≤ q) q := fun _ h => h
  have hS : va_S (fun q : Nat => s.heap.size ≤ q) s.heap s.heap [] := va_S.rf
  have hP : va_P G vwCl [] s.heap := fun k q h => by simp at h
  have hD : va_D (fun q : Nat => s.heap.size ≤ q) [] := ⟨fun i j p q h => by simp at h, fun k q h => by simp at h⟩
  obtain ⟨hf, gd, xl, xd, g1, g2, g3, g4, hSim⟩ := s_init
  have hl := lv_entry ([.ref b]) (n := 9) (Nat.le_of_ble_eq_true rfl)
  rw [lg_entry_eq]
  generalize (lg_sl ([.ref b]) ++ List.replicate (9 - (lg_sl ([.ref b])).length) Slot.unset).toArray = ls at hl ⊢
  have hl : lv_has ls 9 [(0, .ref b)] := hl
  refine va_new (ci := 7) (fs := [.null, .null, .null, .int 0, .int 0, .null, .null]) (C := RX7) (T := TX7) (N := 7) hx hb hts tin_wsX70 tyX7 tyX7_ok hown (hts (.classLink RL 8 RX7) (tin_c [.classLink RL 8 RX7] [(0, 25)] rfl _ (List.mem_singleton.mpr rfl))) (hts (.instantiable RX7 7) (tin_c [.instantiable RX7 7] [(0, 26)] rfl _ (List.mem_singleton.mpr rfl))) (hts (.initialized RX7) (tin_c [.initialized RX7] [(0, 1)] rfl _ (List.mem_singleton.mpr rfl))) hK hP hD hS hA rfl (fun j hj => by rcases (show j = 0 ∨ j = 1 ∨ j = 2 ∨ j = 3 ∨ j = 4 ∨ j = 5 ∨ j = 6 by omega) with rfl | rfl | rfl | rfl | rfl | rfl | rfl <;> rfl) (Nat.le_of_ble_eq_true rfl) (Nat.le_of_ble_eq_true rfl) dL_law_0 (fun q0 H hP hD hS => ?_)
  refine W.widen (k := 1) (n := 7) (Nat.le_of_ble_eq_true rfl) (Nat.le_of_ble_eq_true rfl) ?_
  refine lv_dup hx hb dL_law_3 rfl ?_
  refine zcIl (As := []) (rest := [.ref q0]) (X := []) ⟨hx, hb, hml, hown, hts⟩ (k_X7_init l G K c q0 hf g1 gd g2) (cwI 0 hts gL_law_X7_init rfl rfl rfl (hts (.initialized RX7) (tin_c [.initialized RX7] [(0, 1)] rfl _ (List.mem_singleton.mpr rfl))) (hts (.methodLink RL 68 yX7_init) (tin_c [.methodLink RL 68 yX7_init] [(0, 27)] rfl _ (List.mem_singleton.mpr rfl))) (hts (.instanceMethod yX7_init) (tin_c [.instanceMethod yX7_init] [(0, 28)] rfl _ (List.mem_singleton.mpr rfl))) rfl hd_X7_init.2 ⟨Nat.le_of_ble_eq_true rfl, Nat.le_of_ble_eq_true rfl⟩) hK hN hZ hXA hP hD hS hA rfl hl.1 rfl (Nat.le_of_ble_eq_true rfl) dL_law_4 ⟨Nat.le_of_ble_eq_true rfl, Nat.le_of_ble_eq_true rfl⟩ (fun ah H locs hok1 hP9 hD9 hS => ?_)
  replace hok1 : ah 0 = q0 := hok1
  subst hok1
  have hP : va_P G vwCl (wH c ah (fun j k => ah (7 + 10 * j + k)) (fun k => ah (107 + k)) [] (h0 hf gd)) H := hP9
  have hD : va_D (fun q : Nat => s.heap.size ≤ q) (wH c ah (fun j k => ah (7 + 10 * j + k)) (fun k => ah (107 + k)) [] (h0 hf gd)) := hD9
  refine W.widen (k := 121) (n := 16673) (Nat.le_of_ble_eq_true rfl) (Nat.le_of_ble_eq_true rfl) ?_
  refine lv_astore_n (lv' := [(1, .ref (ah 0)), (0, .ref b)]) hx hb dL_law_7 rfl hl (by decide) rfl (fun ls hl => ?_)
  refine va_new (ci := 8) (fs := [.int 0, .null, .int 0, .int 0, .int 0, .int 0, .int 0, .int 0, .null, .null, .null, .null, .int 0, .int 0, .int 0, .int 0, .int 0, .null, .null, .null, .null, .int 0]) (C := RX8) (T := TX8) (N := 22) hx hb hts tin_wsX80 tyX8 tyX8_ok hown (hts (.classLink RL 69 RX8) (tin_c [.classLink RL 69 RX8] [(4, 104)] rfl _ (List.mem_singleton.mpr rfl))) (hts (.instantiable RX8 22) (tin_c [.instantiable RX8 22] [(4, 105)] rfl _ (List.mem_singleton.mpr rfl))) (hts (.initialized RX8) (tin_c [.initialized RX8] [(0, 9)] rfl _ (List.mem_singleton.mpr rfl))) hK hP hD hS hA rfl (fun j hj => by rcases (show j = 0 ∨ j = 1 ∨ j = 2 ∨ j = 3 ∨ j = 4 ∨ j = 5 ∨ j = 6 ∨ j = 7 ∨ j = 8 ∨ j = 9 ∨ j = 10 ∨ j = 11 ∨ j = 12 ∨ j = 13 ∨ j = 14 ∨ j = 15 ∨ j = 16 ∨ j = 17 ∨ j = 18 ∨ j = 19 ∨ j = 20 ∨ j = 21 by omega) with rfl | rfl | rfl | rfl | rfl | rfl | rfl | rfl | rfl | rfl | rfl | rfl | rfl | rfl | rfl | rfl | rfl | rfl | rfl | rfl | rfl | rfl <;> rfl) (Nat.le_of_ble_eq_true rfl) (Nat.le_of_ble_eq_true rfl) dL_law_8 (fun q8 H hP hD hS => ?_)
  refine W.widen (k := 122) (n := 16695) (Nat.le_of_ble_eq_true rfl) (Nat.le_of_ble_eq_true rfl) ?_
  refine lv_dup hx hb dL_law_11 rfl ?_
  refine zcIl (As := []) (rest := [.ref q8]) (X := wH c ah (fun j k => ah (7 + 10 * j + k)) (fun k => ah (107 + k)) [] (h0 hf gd)) ⟨hx, hb, hml, hown, hts⟩ (k_X8_init l G K c q8 xl g3 xd g4) (cwI 0 hts gL_law_X8_init rfl rfl rfl (hts (.initialized RX8) (tin_c [.initialized RX8] [(0, 9)] rfl _ (List.mem_singleton.mpr rfl))) (hts (.methodLink RL 71 yX8_init) (tin_c [.methodLink RL 71 yX8_init] [(4, 106)] rfl _ (List.mem_singleton.mpr rfl))) (hts (.instanceMethod yX8_init) (tin_c [.instanceMethod yX8_init] [(4, 107)] rfl _ (List.mem_singleton.mpr rfl))) rfl hd_X8_init.2 ⟨Nat.le_of_ble_eq_true rfl, Nat.le_of_ble_eq_true rfl⟩) hK hN hZ hXA hP hD hS hA rfl hl.1 rfl (Nat.le_of_ble_eq_true rfl) dL_law_12 ⟨Nat.le_of_ble_eq_true rfl, Nat.le_of_ble_eq_true rfl⟩ (fun am H locs hok2 hP9 hD9 hS => ?_)
  replace hok2 : am 0 = q8 := hok2
  subst hok2
  have hP : va_P G vwCl (wH c ah (fun j k => ah (7 + 10 * j + k)) (fun k => ah (107 + k)) [] (h0 hf gd) ++ wM c am (xI xd)) H := hP9
  have hD : va_D (fun q : Nat => s.heap.size ≤ q) (wH c ah (fun j k => ah (7 + 10 * j + k)) (fun k => ah (107 + k)) [] (h0 hf gd) ++ wM c am (xI xd)) := hD9
  refine W.widen (k := 139) (n := 115239) (Nat.le_of_ble_eq_true rfl) (Nat.le_of_ble_eq_true rfl) ?_
  refine lv_astore_n (lv' := [(2, .ref (am 0)), (1, .ref (ah 0)), (0, .ref b)]) hx hb dL_law_15 rfl hl (by decide) rfl (fun ls hl => ?_)
  refine lv_iconst (v := 1) hx hb dL_law_16 (by decide) ?_
  refine va_newa (atype := .long) (ty := .long) (N' := 1) (a0 := (1, .inr (.inl (fun _ => 0)))) hx hb (hts (.arrayClass .long) (tin_c [.arrayClass .long] [(4, 199)] rfl _ (List.mem_singleton.mpr rfl))) rfl hK hP hD hS hA (fun _ => rfl) (by decide) (by decide) (Nat.le_of_ble_eq_true rfl) (Nat.le_of_ble_eq_true rfl) (Nat.le_of_ble_eq_true rfl) dL_law_17 (fun out cA H hK2 hP hD hS => ?_)
  obtain rfl := zcl1 hK2
  clear hK2
  have e9 : (wH c ah (fun j k => ah (7 + 10 * j + k)) (fun k => ah (107 + k)) [] (h0 hf gd) ++ wM c am (xI xd)) ++ [(out, .inl (c 1, 1, .inr (.inl (fun _ => 0))))] = wH c ah (fun j k => ah (7 + 10 * j + k)) (fun k => ah (107 + k)) [] (h0 hf gd) ++ (wM c am (xI xd) ++ wQ c out (fun _ => 0)) := List.append_assoc _ _ _
  have hP := zP_sw (e9 ▸ hP)
  have hD := zD_sw (e9 ▸ hD)
  rw [List.append_assoc] at hP hD
  refine W.widen (k := 200) (n := 200000) (Nat.le_of_ble_eq_true rfl) (Nat.le_of_ble_eq_true rfl) ?_
  refine lv_astore_n (lv' := [(3, .ref out), (2, .ref (am 0)), (1, .ref (ah 0)), (0, .ref b)]) hx hb dL_law_19 rfl hl (by decide) rfl (fun ls hl => ?_)
  refine lv_iconst (v := 0) hx hb dL_law_20 (by decide) ?_
  refine lv_istore (lv' := [(4, .int 0), (3, .ref out), (2, .ref (am 0)), (1, .ref (ah 0)), (0, .ref b)]) hx hb dL_law_21 hl (by decide) rfl (fun ls hl => ?_)
  exact law_loop lc0 hL hr hlocks 512 0 (xI xd) (h0 hf gd) [] (fun _ => 0) 200 200000 (by omega) (by omega) ⟨by decide, by decide⟩ hSim H locs ls hP hD hS (lv_sub hl [4, 3, 2, 1, 0] rfl)
