def z0 : SA := (fun _ => 0, fun _ => fun _ => 0)
def g0 (hf : Nat → Int32) : GS := ((sL [3, 2, 1, 3, 1, 0, 0, -1, 0, 0, 0], aL [hf]), none, z0, z0)
def r0 (hf : Nat → Int32) : RS := ((sL [0, 0, 0, 0, 0, 0, 0, -1], aL []), z0, g0 hf)

abbrev rm_X4_init : Room := { frames := 1, cells := 1, slots := 55, locals := 12 }
theorem hd_X4_init : yX4_init.cls = RX4 ∧ yX4_init.cls ≠ "java/lang/invoke/MethodHandle" ∧ yX4_init.cls ≠ "java/lang/invoke/VarHandle" ∧ (parseMethodDescriptor yX4_init.desc).map (fun d => d.parameters.length) = some 0 := by decide +kernel
set_option maxHeartbeats 4000000 in
set_option maxRecDepth 100000 in
theorem k_X4_init (l : Launch) (G : va_G) (K : (Nat → Nat) × (Nat → Nat)) (c : Nat → ClassId) (o : Nat)  : zAv l yX4_init wsX4_init rm_X4_init G K (TY c) [.ref o] (([(o, .inr (4, [.null, .int 0, .int 0]))])) (fun a => wK c (a 0) (a 1) z0) (fun a => a 0 = o) 1 55 := by
  refine zAv.of (cc := cX4_init) (maxL := 1) (lv := [(0, .ref o)]) (by decide) rfl (Nat.le_of_ble_eq_true rfl) rfl ?_
  intro p e s m args below meth c1 A Q H locs hx hb hml hown hin hts hK hN hZ hXA hP hD hA hS hend ls hl
  have hown : s.vm.findClass RX4 = some m.cls := hown
  have hi_4 : ∀ w ∈ wsX40, w ∈ wsX4_init := (fun w h => List.mem_cons_of_mem _ (List.mem_append_right _ (h)))
  refine lv_aload_n hx hb dX4_init_0 rfl (lv_at hl 0 rfl) ?_
  refine W.objInit hx hb hown (hts (.methodLink RX4 3 objectInit) (List.mem_of_getElem? (i := 1) rfl)) (hts (.instanceMethod objectInit) (List.mem_of_getElem? (i := 2) rfl)) (hts (.code objectInit ⟨#[0xb1]⟩ 1 none) (List.mem_of_getElem? (i := 3) rfl)) rfl (by rw [hml]; exact hl.1) rfl dX4_init_1 (Nat.le_of_ble_eq_true rfl) (Nat.le_of_ble_eq_true rfl) ?_
  refine W.eq (g2 := F0 m 4 ls []) rfl ?_
  refine lv_aload_n hx hb dX4_init_4 rfl (lv_at hl 0 rfl) ?_
  refine lv_bipush (v := 55) hx hb dX4_init_5 (by decide) ?_
  refine va_newa (atype := .int) (ty := .int) (N' := 55) (a0 := (55, .inl (fun _ => 0))) hx hb (hts (.arrayClass .int) (List.mem_of_getElem? (i := 4) rfl)) rfl hK hP hD hS hA (fun _ => rfl) (by decide) (by decide) (Nat.le_of_ble_eq_true rfl) (Nat.le_of_ble_eq_true rfl) (Nat.le_of_ble_eq_true rfl) dX4_init_7 (fun q7 cA H hK2 hP hD hS => ?_)
  obtain rfl := zcl0 hK2
  clear hK2
  have hP : va_P G vwCl (([(o, .inr (4, [.null, .int 0, .int 0]))]) ++ ([(q7, .inl (c 0, 55, .inl (fun _ => 0)))])) H := hP
  have hD : va_D A (([(o, .inr (4, [.null, .int 0, .int 0]))]) ++ ([(q7, .inl (c 0, 55, .inl (fun _ => 0)))])) := hD
  refine W.widen (k := 1) (n := 55) (Nat.le_refl _) (Nat.le_refl _) ?_
  refine va_putF (D := G) (ci := 4) (v := .ref q7) (C := RX4) (T := TX4) (N := 3) hx hb hts hi_4 tyX4 tyX4_ok nmX4 hown hK hP hD hS 0 rfl rfl 0 (by decide) (hts (.fieldLink RX4 9 "HubTrains$Stock" "tiles" "[I") (List.mem_of_getElem? (i := 5) rfl)) (fun _ h9 => h9) rfl hin rfl (tyX4_ok 0 (by decide)) rfl rfl (Nat.le_of_ble_eq_true rfl) dX4_init_9 (fun H locs hP hD hS => ?_)
  have hP : va_P G vwCl (([(o, .inr (4, [.ref q7, .int 0, .int 0]))]) ++ ([(q7, .inl (c 0, 55, .inl (fun _ => 0)))])) H := hP
  have hD : va_D A (([(o, .inr (4, [.ref q7, .int 0, .int 0]))]) ++ ([(q7, .inl (c 0, 55, .inl (fun _ => 0)))])) := hD
  have hP9 := hP.sub (ws' := wK c ((fun i => [o, q7].getD i 0) 0) ((fun i => [o, q7].getD i 0) 1) z0) [0, 1] rfl
  have hD9 := hD.sub (ws' := wK c ((fun i => [o, q7].getD i 0) 0) ((fun i => [o, q7].getD i 0) 1) z0) [0, 1] (by decide) rfl
  exact hend H locs ls _ (fun i => [o, q7].getD i 0) rfl hP9 hD9 hS dX4_init_12

abbrev rm_X6_init : Room := { frames := 1, cells := 4, slots := 120, locals := 12 }
theorem hd_X6_init : yX6_init.cls = RX6 ∧ yX6_init.cls ≠ "java/lang/invoke/MethodHandle" ∧ yX6_init.cls ≠ "java/lang/invoke/VarHandle" ∧ (parseMethodDescriptor yX6_init.desc).map (fun d => d.parameters.length) = some 0 := by decide +kernel
set_option maxHeartbeats 4000000 in
set_option maxRecDepth 100000 in
theorem k_X6_init (l : Launch) (G : va_G) (K : (Nat → Nat) × (Nat → Nat)) (c : Nat → ClassId) (o : Nat)  : zAv l yX6_init wsX6_init rm_X6_init G K (TY c) [.ref o] (([(o, .inr (6, [.null, .null, .int 0, .null, .null]))])) (fun a => wT c (a 0) (a 1) (a 2) (a 3) (a 4) z0) (fun a => a 0 = o) 4 120 := by
  refine zAv.of (cc := cX6_init) (maxL := 1) (lv := [(0, .ref o)]) (by decide) rfl (Nat.le_of_ble_eq_true rfl) rfl ?_
  intro p e s m args below meth c1 A Q H locs hx hb hml hown hin hts hK hN hZ hXA hP hD hA hS hend ls hl
  have hown : s.vm.findClass RX6 = some m.cls := hown
  have hi_6 : ∀ w ∈ wsX60, w ∈ wsX6_init := (fun w h => List.mem_cons_of_mem _ (List.mem_append_right _ (h)))
  refine lv_aload_n hx hb dX6_init_0 rfl (lv_at hl 0 rfl) ?_
  refine W.objInit hx hb hown (hts (.methodLink RX6 3 objectInit) (List.mem_of_getElem? (i := 1) rfl)) (hts (.instanceMethod objectInit) (List.mem_of_getElem? (i := 2) rfl)) (hts (.code objectInit ⟨#[0xb1]⟩ 1 none) (List.mem_of_getElem? (i := 3) rfl)) rfl (by rw [hml]; exact hl.1) rfl dX6_init_1 (Nat.le_of_ble_eq_true rfl) (Nat.le_of_ble_eq_true rfl) ?_
  refine W.eq (g2 := F0 m 4 ls []) rfl ?_
  refine lv_aload_n hx hb dX6_init_4 rfl (lv_at hl 0 rfl) ?_
  refine lv_bipush (v := 55) hx hb dX6_init_5 (by decide) ?_
  refine va_newa (atype := .int) (ty := .int) (N' := 55) (a0 := (55, .inl (fun _ => 0))) hx hb (hts (.arrayClass .int) (List.mem_of_getElem? (i := 4) rfl)) rfl hK hP hD hS hA (fun _ => rfl) (by decide) (by decide) (Nat.le_of_ble_eq_true rfl) (Nat.le_of_ble_eq_true rfl) (Nat.le_of_ble_eq_true rfl) dX6_init_7 (fun q7 cA H hK2 hP hD hS => ?_)
  obtain rfl := zcl0 hK2
  clear hK2
  have hP : va_P G vwCl (([(o, .inr (6, [.null, .null, .int 0, .null, .null]))]) ++ ([(q7, .inl (c 0, 55, .inl (fun _ => 0)))])) H := hP
  have hD : va_D A (([(o, .inr (6, [.null, .null, .int 0, .null, .null]))]) ++ ([(q7, .inl (c 0, 55, .inl (fun _ => 0)))])) := hD
  refine W.widen (k := 1) (n := 55) (Nat.le_refl _) (Nat.le_refl _) ?_
  refine va_putF (D := G) (ci := 6) (v := .ref q7) (C := RX6) (T := TX6) (N := 5) hx hb hts hi_6 tyX6 tyX6_ok nmX6 hown hK hP hD hS 0 rfl rfl 0 (by decide) (hts (.fieldLink RX6 9 "HubTrains$Tracks" "tiles" "[I") (List.mem_of_getElem? (i := 5) rfl)) (fun _ h9 => h9) rfl hin rfl (tyX6_ok 0 (by decide)) rfl rfl (Nat.le_of_ble_eq_true rfl) dX6_init_9 (fun H locs hP hD hS => ?_)
  have hP : va_P G vwCl (([(o, .inr (6, [.ref q7, .null, .int 0, .null, .null]))]) ++ ([(q7, .inl (c 0, 55, .inl (fun _ => 0)))])) H := hP
  have hD : va_D A (([(o, .inr (6, [.ref q7, .null, .int 0, .null, .null]))]) ++ ([(q7, .inl (c 0, 55, .inl (fun _ => 0)))])) := hD
  refine lv_aload_n hx hb dX6_init_12 rfl (lv_at hl 0 rfl) ?_
  refine lv_bipush (v := 55) hx hb dX6_init_13 (by decide) ?_
  refine va_newa (atype := .int) (ty := .int) (N' := 55) (a0 := (55, .inl (fun _ => 0))) hx hb (hts (.arrayClass .int) (List.mem_of_getElem? (i := 4) rfl)) rfl hK hP hD hS hA (fun _ => rfl) (by decide) (by decide) (Nat.le_of_ble_eq_true rfl) (Nat.le_of_ble_eq_true rfl) (Nat.le_of_ble_eq_true rfl) dX6_init_15 (fun q15 cA H hK2 hP hD hS => ?_)
  obtain rfl := zcl0 hK2
  clear hK2
  have hP : va_P G vwCl (([(o, .inr (6, [.ref q7, .null, .int 0, .null, .null]))]) ++ ([(q7, .inl (c 0, 55, .inl (fun _ => 0)))]) ++ ([(q15, .inl (c 0, 55, .inl (fun _ => 0)))])) H := hP
  have hD : va_D A (([(o, .inr (6, [.ref q7, .null, .int 0, .null, .null]))]) ++ ([(q7, .inl (c 0, 55, .inl (fun _ => 0)))]) ++ ([(q15, .inl (c 0, 55, .inl (fun _ => 0)))])) := hD
  refine W.widen (k := 2) (n := 110) (Nat.le_refl _) (Nat.le_refl _) ?_
  refine va_putF (D := G) (ci := 6) (v := .ref q15) (C := RX6) (T := TX6) (N := 5) hx hb hts hi_6 tyX6 tyX6_ok nmX6 hown hK hP hD hS 0 rfl rfl 1 (by decide) (hts (.fieldLink RX6 15 "HubTrains$Tracks" "trains" "[I") (List.mem_of_getElem? (i := 6) rfl)) (fun _ h9 => h9) rfl hin rfl (tyX6_ok 1 (by decide)) rfl rfl (Nat.le_of_ble_eq_true rfl) dX6_init_17 (fun H locs hP hD hS => ?_)
  have hP : va_P G vwCl (([(o, .inr (6, [.ref q7, .ref q15, .int 0, .null, .null]))]) ++ ([(q7, .inl (c 0, 55, .inl (fun _ => 0)))]) ++ ([(q15, .inl (c 0, 55, .inl (fun _ => 0)))])) H := hP
  have hD : va_D A (([(o, .inr (6, [.ref q7, .ref q15, .int 0, .null, .null]))]) ++ ([(q7, .inl (c 0, 55, .inl (fun _ => 0)))]) ++ ([(q15, .inl (c 0, 55, .inl (fun _ => 0)))])) := hD
  refine lv_aload_n hx hb dX6_init_20 rfl (lv_at hl 0 rfl) ?_
  refine lv_iconst (v := 5) hx hb dX6_init_21 (by decide) ?_
  refine va_newa (atype := .int) (ty := .int) (N' := 5) (a0 := (5, .inl (fun _ => 0))) hx hb (hts (.arrayClass .int) (List.mem_of_getElem? (i := 4) rfl)) rfl hK hP hD hS hA (fun _ => rfl) (by decide) (by decide) (Nat.le_of_ble_eq_true rfl) (Nat.le_of_ble_eq_true rfl) (Nat.le_of_ble_eq_true rfl) dX6_init_22 (fun q22 cA H hK2 hP hD hS => ?_)
  obtain rfl := zcl0 hK2
  clear hK2
  have hP : va_P G vwCl (([(o, .inr (6, [.ref q7, .ref q15, .int 0, .null, .null]))]) ++ ([(q7, .inl (c 0, 55, .inl (fun _ => 0)))]) ++ ([(q15, .inl (c 0, 55, .inl (fun _ => 0)))]) ++ ([(q22, .inl (c 0, 5, .inl (fun _ => 0)))])) H := hP
  have hD : va_D A (([(o, .inr (6, [.ref q7, .ref q15, .int 0, .null, .null]))]) ++ ([(q7, .inl (c 0, 55, .inl (fun _ => 0)))]) ++ ([(q15, .inl (c 0, 55, .inl (fun _ => 0)))]) ++ ([(q22, .inl (c 0, 5, .inl (fun _ => 0)))])) := hD
  refine W.widen (k := 3) (n := 115) (Nat.le_refl _) (Nat.le_refl _) ?_
  refine va_putF (D := G) (ci := 6) (v := .ref q22) (C := RX6) (T := TX6) (N := 5) hx hb hts hi_6 tyX6 tyX6_ok nmX6 hown hK hP hD hS 0 rfl rfl 3 (by decide) (hts (.fieldLink RX6 18 "HubTrains$Tracks" "ends" "[I") (List.mem_of_getElem? (i := 7) rfl)) (fun _ h9 => h9) rfl hin rfl (tyX6_ok 3 (by decide)) rfl rfl (Nat.le_of_ble_eq_true rfl) dX6_init_24 (fun H locs hP hD hS => ?_)
  have hP : va_P G vwCl (([(o, .inr (6, [.ref q7, .ref q15, .int 0, .ref q22, .null]))]) ++ ([(q7, .inl (c 0, 55, .inl (fun _ => 0)))]) ++ ([(q15, .inl (c 0, 55, .inl (fun _ => 0)))]) ++ ([(q22, .inl (c 0, 5, .inl (fun _ => 0)))])) H := hP
  have hD : va_D A (([(o, .inr (6, [.ref q7, .ref q15, .int 0, .ref q22, .null]))]) ++ ([(q7, .inl (c 0, 55, .inl (fun _ => 0)))]) ++ ([(q15, .inl (c 0, 55, .inl (fun _ => 0)))]) ++ ([(q22, .inl (c 0, 5, .inl (fun _ => 0)))])) := hD
  refine lv_aload_n hx hb dX6_init_27 rfl (lv_at hl 0 rfl) ?_
  refine lv_iconst (v := 5) hx hb dX6_init_28 (by decide) ?_
  refine va_newa (atype := .int) (ty := .int) (N' := 5) (a0 := (5, .inl (fun _ => 0))) hx hb (hts (.arrayClass .int) (List.mem_of_getElem? (i := 4) rfl)) rfl hK hP hD hS hA (fun _ => rfl) (by decide) (by decide) (Nat.le_of_ble_eq_true rfl) (Nat.le_of_ble_eq_true rfl) (Nat.le_of_ble_eq_true rfl) dX6_init_29 (fun q29 cA H hK2 hP hD hS => ?_)
  obtain rfl := zcl0 hK2
  clear hK2
  have hP : va_P G vwCl (([(o, .inr (6, [.ref q7, .ref q15, .int 0, .ref q22, .null]))]) ++ ([(q7, .inl (c 0, 55, .inl (fun _ => 0)))]) ++ ([(q15, .inl (c 0, 55, .inl (fun _ => 0)))]) ++ ([(q22, .inl (c 0, 5, .inl (fun _ => 0)))]) ++ ([(q29, .inl (c 0, 5, .inl (fun _ => 0)))])) H := hP
  have hD : va_D A (([(o, .inr (6, [.ref q7, .ref q15, .int 0, .ref q22, .null]))]) ++ ([(q7, .inl (c 0, 55, .inl (fun _ => 0)))]) ++ ([(q15, .inl (c 0, 55, .inl (fun _ => 0)))]) ++ ([(q22, .inl (c 0, 5, .inl (fun _ => 0)))]) ++ ([(q29, .inl (c 0, 5, .inl (fun _ => 0)))])) := hD
  refine W.widen (k := 4) (n := 120) (Nat.le_refl _) (Nat.le_refl _) ?_
  refine va_putF (D := G) (ci := 6) (v := .ref q29) (C := RX6) (T := TX6) (N := 5) hx hb hts hi_6 tyX6 tyX6_ok nmX6 hown hK hP hD hS 0 rfl rfl 4 (by decide) (hts (.fieldLink RX6 21 "HubTrains$Tracks" "open" "[I") (List.mem_of_getElem? (i := 8) rfl)) (fun _ h9 => h9) rfl hin rfl (tyX6_ok 4 (by decide)) rfl rfl (Nat.le_of_ble_eq_true rfl) dX6_init_31 (fun H locs hP hD hS => ?_)
  have hP : va_P G vwCl (([(o, .inr (6, [.ref q7, .ref q15, .int 0, .ref q22, .ref q29]))]) ++ ([(q7, .inl (c 0, 55, .inl (fun _ => 0)))]) ++ ([(q15, .inl (c 0, 55, .inl (fun _ => 0)))]) ++ ([(q22, .inl (c 0, 5, .inl (fun _ => 0)))]) ++ ([(q29, .inl (c 0, 5, .inl (fun _ => 0)))])) H := hP
  have hD : va_D A (([(o, .inr (6, [.ref q7, .ref q15, .int 0, .ref q22, .ref q29]))]) ++ ([(q7, .inl (c 0, 55, .inl (fun _ => 0)))]) ++ ([(q15, .inl (c 0, 55, .inl (fun _ => 0)))]) ++ ([(q22, .inl (c 0, 5, .inl (fun _ => 0)))]) ++ ([(q29, .inl (c 0, 5, .inl (fun _ => 0)))])) := hD
  have hP9 := hP.sub (ws' := wT c ((fun i => [o, q7, q15, q22, q29].getD i 0) 0) ((fun i => [o, q7, q15, q22, q29].getD i 0) 1) ((fun i => [o, q7, q15, q22, q29].getD i 0) 2) ((fun i => [o, q7, q15, q22, q29].getD i 0) 3) ((fun i => [o, q7, q15, q22, q29].getD i 0) 4) z0) [0, 1, 2, 3, 4] rfl
  have hD9 := hD.sub (ws' := wT c ((fun i => [o, q7, q15, q22, q29].getD i 0) 0) ((fun i => [o, q7, q15, q22, q29].getD i 0) 1) ((fun i => [o, q7, q15, q22, q29].getD i 0) 2) ((fun i => [o, q7, q15, q22, q29].getD i 0) 3) ((fun i => [o, q7, q15, q22, q29].getD i 0) 4) z0) [0, 1, 2, 3, 4] (by decide) rfl
  exact hend H locs ls _ (fun i => [o, q7, q15, q22, q29].getD i 0) rfl hP9 hD9 hS dX6_init_34

abbrev rm_X1_init : Room := { frames := 2, cells := 9, slots := 287, locals := 32 }
theorem hd_X1_init : yX1_init.cls = RX1 ∧ yX1_init.cls ≠ "java/lang/invoke/MethodHandle" ∧ yX1_init.cls ≠ "java/lang/invoke/VarHandle" ∧ (parseMethodDescriptor yX1_init.desc).map (fun d => d.parameters.length) = some 0 := by decide +kernel
set_option maxHeartbeats 4000000 in
set_option maxRecDepth 100000 in
theorem k_X1_init (l : Launch) (G : va_G) (K : (Nat → Nat) × (Nat → Nat)) (c : Nat → ClassId) (o : Nat) (hf : Nat → Int32) (hfill : f_J7_fill_53178 100 (fun _ => 0) (-1) = some hf) : zAv l yX1_init wsX1_init rm_X1_init G K (TY c) [.ref o] (([(o, .inr (1, [.int 0, .int 0, .int 0, .int 0, .int 0, .int 0, .int 0, .int 0, .int 0, .int 0, .int 0, .null, .null, .null, .null, .null]))])) (fun a => wG c a (g0 hf)) (fun a => a 0 = o) 9 287 := by
  refine zAv.of (cc := cX1_init) (maxL := 1) (lv := [(0, .ref o)]) (by decide) rfl (Nat.le_of_ble_eq_true rfl) rfl ?_
  intro p e s m args below meth c1 A Q H locs hx hb hml hown hin hts hK hN hZ hXA hP hD hA hS hend ls hl
  have hown : s.vm.findClass RX1 = some m.cls := hown
  have hi_1 : ∀ w ∈ wsX10, w ∈ wsX1_init := (fun w h => List.mem_cons_of_mem _ (List.mem_append_left _ (List.mem_append_left _ (List.mem_append_right _ (h)))))
  have hi_4 : ∀ w ∈ wsX40, w ∈ wsX1_init := (fun w h => List.mem_cons_of_mem _ (List.mem_append_left _ (List.mem_append_right _ (h))))
  have hi_6 : ∀ w ∈ wsX60, w ∈ wsX1_init := (fun w h => List.mem_cons_of_mem _ (List.mem_append_right _ (h)))
  refine lv_aload_n hx hb dX1_init_0 rfl (lv_at hl 0 rfl) ?_
  refine W.objInit hx hb hown (hts (.methodLink RX1 3 objectInit) (List.mem_of_getElem? (i := 1) rfl)) (hts (.instanceMethod objectInit) (List.mem_of_getElem? (i := 2) rfl)) (hts (.code objectInit ⟨#[0xb1]⟩ 1 none) (List.mem_of_getElem? (i := 3) rfl)) rfl (by rw [hml]; exact hl.1) rfl dX1_init_1 (Nat.le_of_ble_eq_true rfl) (Nat.le_of_ble_eq_true rfl) ?_
  refine W.eq (g2 := F0 m 4 ls []) rfl ?_
  refine lv_aload_n hx hb dX1_init_4 rfl (lv_at hl 0 rfl) ?_
  refine lv_iconst (v := 3) hx hb dX1_init_5 (by decide) ?_
  refine va_put (D := G) (ci := 1) (v := .int 3) (C := RX1) (T := TX1) (N := 16) hx hb hts hi_1 tyX1 tyX1_ok nmX1 hown hK hP hD hS 0 rfl rfl 0 (by decide) (hts (.fieldLink RX1 9 "HubTrains$Game" "greatest" "I") (List.mem_of_getElem? (i := 4) rfl)) (fun _ h9 => h9) rfl (tyX1_ok 0 (by decide)) rfl rfl (Nat.le_of_ble_eq_true rfl) dX1_init_6 (fun H locs hP hD hS => ?_)
  have hP : va_P G vwCl (([(o, .inr (1, [.int 3, .int 0, .int 0, .int 0, .int 0, .int 0, .int 0, .int 0, .int 0, .int 0, .int 0, .null, .null, .null, .null, .null]))])) H := hP
  have hD : va_D A (([(o, .inr (1, [.int 3, .int 0, .int 0, .int 0, .int 0, .int 0, .int 0, .int 0, .int 0, .int 0, .int 0, .null, .null, .null, .null, .null]))])) := hD
  refine lv_aload_n hx hb dX1_init_9 rfl (lv_at hl 0 rfl) ?_
  refine lv_iconst (v := 2) hx hb dX1_init_10 (by decide) ?_
  refine va_put (D := G) (ci := 1) (v := .int 2) (C := RX1) (T := TX1) (N := 16) hx hb hts hi_1 tyX1 tyX1_ok nmX1 hown hK hP hD hS 0 rfl rfl 1 (by decide) (hts (.fieldLink RX1 15 "HubTrains$Game" "players" "I") (List.mem_of_getElem? (i := 5) rfl)) (fun _ h9 => h9) rfl (tyX1_ok 1 (by decide)) rfl rfl (Nat.le_of_ble_eq_true rfl) dX1_init_11 (fun H locs hP hD hS => ?_)
  have hP : va_P G vwCl (([(o, .inr (1, [.int 3, .int 2, .int 0, .int 0, .int 0, .int 0, .int 0, .int 0, .int 0, .int 0, .int 0, .null, .null, .null, .null, .null]))])) H := hP
  have hD : va_D A (([(o, .inr (1, [.int 3, .int 2, .int 0, .int 0, .int 0, .int 0, .int 0, .int 0, .int 0, .int 0, .int 0, .null, .null, .null, .null, .null]))])) := hD
  refine lv_aload_n hx hb dX1_init_14 rfl (lv_at hl 0 rfl) ?_
  refine lv_iconst (v := 1) hx hb dX1_init_15 (by decide) ?_
  refine va_put (D := G) (ci := 1) (v := .int 1) (C := RX1) (T := TX1) (N := 16) hx hb hts hi_1 tyX1 tyX1_ok nmX1 hown hK hP hD hS 0 rfl rfl 2 (by decide) (hts (.fieldLink RX1 18 "HubTrains$Game" "handSize" "I") (List.mem_of_getElem? (i := 6) rfl)) (fun _ h9 => h9) rfl (tyX1_ok 2 (by decide)) rfl rfl (Nat.le_of_ble_eq_true rfl) dX1_init_16 (fun H locs hP hD hS => ?_)
  have hP : va_P G vwCl (([(o, .inr (1, [.int 3, .int 2, .int 1, .int 0, .int 0, .int 0, .int 0, .int 0, .int 0, .int 0, .int 0, .null, .null, .null, .null, .null]))])) H := hP
  have hD : va_D A (([(o, .inr (1, [.int 3, .int 2, .int 1, .int 0, .int 0, .int 0, .int 0, .int 0, .int 0, .int 0, .int 0, .null, .null, .null, .null, .null]))])) := hD
  refine lv_aload_n hx hb dX1_init_19 rfl (lv_at hl 0 rfl) ?_
  refine lv_iconst (v := 3) hx hb dX1_init_20 (by decide) ?_
  refine va_put (D := G) (ci := 1) (v := .int 3) (C := RX1) (T := TX1) (N := 16) hx hb hts hi_1 tyX1 tyX1_ok nmX1 hown hK hP hD hS 0 rfl rfl 3 (by decide) (hts (.fieldLink RX1 21 "HubTrains$Game" "hub" "I") (List.mem_of_getElem? (i := 7) rfl)) (fun _ h9 => h9) rfl (tyX1_ok 3 (by decide)) rfl rfl (Nat.le_of_ble_eq_true rfl) dX1_init_21 (fun H locs hP hD hS => ?_)
  have hP : va_P G vwCl (([(o, .inr (1, [.int 3, .int 2, .int 1, .int 3, .int 0, .int 0, .int 0, .int 0, .int 0, .int 0, .int 0, .null, .null, .null, .null, .null]))])) H := hP
  have hD : va_D A (([(o, .inr (1, [.int 3, .int 2, .int 1, .int 3, .int 0, .int 0, .int 0, .int 0, .int 0, .int 0, .int 0, .null, .null, .null, .null, .null]))])) := hD
  refine lv_aload_n hx hb dX1_init_24 rfl (lv_at hl 0 rfl) ?_
  refine lv_iconst (v := 1) hx hb dX1_init_25 (by decide) ?_
  refine va_put (D := G) (ci := 1) (v := .int 1) (C := RX1) (T := TX1) (N := 16) hx hb hts hi_1 tyX1 tyX1_ok nmX1 hown hK hP hD hS 0 rfl rfl 4 (by decide) (hts (.fieldLink RX1 24 "HubTrains$Game" "seed" "I") (List.mem_of_getElem? (i := 8) rfl)) (fun _ h9 => h9) rfl (tyX1_ok 4 (by decide)) rfl rfl (Nat.le_of_ble_eq_true rfl) dX1_init_26 (fun H locs hP hD hS => ?_)
  have hP : va_P G vwCl (([(o, .inr (1, [.int 3, .int 2, .int 1, .int 3, .int 1, .int 0, .int 0, .int 0, .int 0, .int 0, .int 0, .null, .null, .null, .null, .null]))])) H := hP
  have hD : va_D A (([(o, .inr (1, [.int 3, .int 2, .int 1, .int 3, .int 1, .int 0, .int 0, .int 0, .int 0, .int 0, .int 0, .null, .null, .null, .null, .null]))])) := hD
  refine lv_aload_n hx hb dX1_init_29 rfl (lv_at hl 0 rfl) ?_
  refine lv_iconst (v := (-1)) hx hb dX1_init_30 (by decide) ?_
  refine va_put (D := G) (ci := 1) (v := .int (-1)) (C := RX1) (T := TX1) (N := 16) hx hb hts hi_1 tyX1 tyX1_ok nmX1 hown hK hP hD hS 0 rfl rfl 7 (by decide) (hts (.fieldLink RX1 27 "HubTrains$Game" "uncovered" "I") (List.mem_of_getElem? (i := 9) rfl)) (fun _ h9 => h9) rfl (tyX1_ok 7 (by decide)) rfl rfl (Nat.le_of_ble_eq_true rfl) dX1_init_31 (fun H locs hP hD hS => ?_)
  have hP : va_P G vwCl (([(o, .inr (1, [.int 3, .int 2, .int 1, .int 3, .int 1, .int 0, .int 0, .int (-1), .int 0, .int 0, .int 0, .null, .null, .null, .null, .null]))])) H := hP
  have hD : va_D A (([(o, .inr (1, [.int 3, .int 2, .int 1, .int 3, .int 1, .int 0, .int 0, .int (-1), .int 0, .int 0, .int 0, .null, .null, .null, .null, .null]))])) := hD
  refine lv_aload_n hx hb dX1_init_34 rfl (lv_at hl 0 rfl) ?_
  refine lv_bipush (v := 100) hx hb dX1_init_35 (by decide) ?_
  refine va_newa (atype := .int) (ty := .int) (N' := 100) (a0 := (100, .inl (fun _ => 0))) hx hb (hts (.arrayClass .int) (List.mem_of_getElem? (i := 10) rfl)) rfl hK hP hD hS hA (fun _ => rfl) (by decide) (by decide) (Nat.le_of_ble_eq_true rfl) (Nat.le_of_ble_eq_true rfl) (Nat.le_of_ble_eq_true rfl) dX1_init_37 (fun q37 cA H hK2 hP hD hS => ?_)
  obtain rfl := zcl0 hK2
  clear hK2
  have hP : va_P G vwCl (([(o, .inr (1, [.int 3, .int 2, .int 1, .int 3, .int 1, .int 0, .int 0, .int (-1), .int 0, .int 0, .int 0, .null, .null, .null, .null, .null]))]) ++ ([(q37, .inl (c 0, 100, .inl (fun _ => 0)))])) H := hP
  have hD : va_D A (([(o, .inr (1, [.int 3, .int 2, .int 1, .int 3, .int 1, .int 0, .int 0, .int (-1), .int 0, .int 0, .int 0, .null, .null, .null, .null, .null]))]) ++ ([(q37, .inl (c 0, 100, .inl (fun _ => 0)))])) := hD
  refine W.widen (k := 1) (n := 100) (Nat.le_refl _) (Nat.le_refl _) ?_
  refine va_putF (D := G) (ci := 1) (v := .ref q37) (C := RX1) (T := TX1) (N := 16) hx hb hts hi_1 tyX1 tyX1_ok nmX1 hown hK hP hD hS 0 rfl rfl 12 (by decide) (hts (.fieldLink RX1 30 "HubTrains$Game" "holders" "[I") (List.mem_of_getElem? (i := 11) rfl)) (fun _ h9 => h9) rfl hin rfl (tyX1_ok 12 (by decide)) rfl rfl (Nat.le_of_ble_eq_true rfl) dX1_init_39 (fun H locs hP hD hS => ?_)
  have hP : va_P G vwCl (([(o, .inr (1, [.int 3, .int 2, .int 1, .int 3, .int 1, .int 0, .int 0, .int (-1), .int 0, .int 0, .int 0, .null, .ref q37, .null, .null, .null]))]) ++ ([(q37, .inl (c 0, 100, .inl (fun _ => 0)))])) H := hP
  have hD : va_D A (([(o, .inr (1, [.int 3, .int 2, .int 1, .int 3, .int 1, .int 0, .int 0, .int (-1), .int 0, .int 0, .int 0, .null, .ref q37, .null, .null, .null]))]) ++ ([(q37, .inl (c 0, 100, .inl (fun _ => 0)))])) := hD
  refine lv_aload_n hx hb dX1_init_42 rfl (lv_at hl 0 rfl) ?_
  refine lv_iconst (v := 4) hx hb dX1_init_43 (by decide) ?_
  refine va_newa (atype := .int) (ty := .int) (N' := 4) (a0 := (4, .inl (fun _ => 0))) hx hb (hts (.arrayClass .int) (List.mem_of_getElem? (i := 10) rfl)) rfl hK hP hD hS hA (fun _ => rfl) (by decide) (by decide) (Nat.le_of_ble_eq_true rfl) (Nat.le_of_ble_eq_true rfl) (Nat.le_of_ble_eq_true rfl) dX1_init_44 (fun q44 cA H hK2 hP hD hS => ?_)
  obtain rfl := zcl0 hK2
  clear hK2
  have hP : va_P G vwCl (([(o, .inr (1, [.int 3, .int 2, .int 1, .int 3, .int 1, .int 0, .int 0, .int (-1), .int 0, .int 0, .int 0, .null, .ref q37, .null, .null, .null]))]) ++ ([(q37, .inl (c 0, 100, .inl (fun _ => 0)))]) ++ ([(q44, .inl (c 0, 4, .inl (fun _ => 0)))])) H := hP
  have hD : va_D A (([(o, .inr (1, [.int 3, .int 2, .int 1, .int 3, .int 1, .int 0, .int 0, .int (-1), .int 0, .int 0, .int 0, .null, .ref q37, .null, .null, .null]))]) ++ ([(q37, .inl (c 0, 100, .inl (fun _ => 0)))]) ++ ([(q44, .inl (c 0, 4, .inl (fun _ => 0)))])) := hD
  refine W.widen (k := 2) (n := 104) (Nat.le_refl _) (Nat.le_refl _) ?_
  refine va_putF (D := G) (ci := 1) (v := .ref q44) (C := RX1) (T := TX1) (N := 16) hx hb hts hi_1 tyX1 tyX1_ok nmX1 hown hK hP hD hS 0 rfl rfl 13 (by decide) (hts (.fieldLink RX1 34 "HubTrains$Game" "totals" "[I") (List.mem_of_getElem? (i := 12) rfl)) (fun _ h9 => h9) rfl hin rfl (tyX1_ok 13 (by decide)) rfl rfl (Nat.le_of_ble_eq_true rfl) dX1_init_46 (fun H locs hP hD hS => ?_)
  have hP : va_P G vwCl (([(o, .inr (1, [.int 3, .int 2, .int 1, .int 3, .int 1, .int 0, .int 0, .int (-1), .int 0, .int 0, .int 0, .null, .ref q37, .ref q44, .null, .null]))]) ++ ([(q37, .inl (c 0, 100, .inl (fun _ => 0)))]) ++ ([(q44, .inl (c 0, 4, .inl (fun _ => 0)))])) H := hP
  have hD : va_D A (([(o, .inr (1, [.int 3, .int 2, .int 1, .int 3, .int 1, .int 0, .int 0, .int (-1), .int 0, .int 0, .int 0, .null, .ref q37, .ref q44, .null, .null]))]) ++ ([(q37, .inl (c 0, 100, .inl (fun _ => 0)))]) ++ ([(q44, .inl (c 0, 4, .inl (fun _ => 0)))])) := hD
  refine lv_aload_n hx hb dX1_init_49 rfl (lv_at hl 0 rfl) ?_
  refine va_new (ci := 4) (fs := [.null, .int 0, .int 0]) (C := RX4) (T := TX4) (N := 3) hx hb hts hi_4 tyX4 tyX4_ok hown (hts (.classLink RX1 37 RX4) (List.mem_of_getElem? (i := 13) rfl)) (hts (.instantiable RX4 3) (List.mem_of_getElem? (i := 14) rfl)) (hts (.initialized RX4) (List.mem_of_getElem? (i := 15) rfl)) hK hP hD hS hA rfl (fun j hj => by rcases (show j = 0 ∨ j = 1 ∨ j = 2 by omega) with rfl | rfl | rfl <;> rfl) (Nat.le_of_ble_eq_true rfl) (Nat.le_of_ble_eq_true rfl) dX1_init_50 (fun q50 H hP hD hS => ?_)
  have hP : va_P G vwCl (([(o, .inr (1, [.int 3, .int 2, .int 1, .int 3, .int 1, .int 0, .int 0, .int (-1), .int 0, .int 0, .int 0, .null, .ref q37, .ref q44, .null, .null]))]) ++ ([(q37, .inl (c 0, 100, .inl (fun _ => 0)))]) ++ ([(q44, .inl (c 0, 4, .inl (fun _ => 0)))]) ++ ([(q50, .inr (4, [.null, .int 0, .int 0]))])) H := hP
  have hD : va_D A (([(o, .inr (1, [.int 3, .int 2, .int 1, .int 3, .int 1, .int 0, .int 0, .int (-1), .int 0, .int 0, .int 0, .null, .ref q37, .ref q44, .null, .null]))]) ++ ([(q37, .inl (c 0, 100, .inl (fun _ => 0)))]) ++ ([(q44, .inl (c 0, 4, .inl (fun _ => 0)))]) ++ ([(q50, .inr (4, [.null, .int 0, .int 0]))])) := hD
  refine W.widen (k := 3) (n := 107) (Nat.le_refl _) (Nat.le_refl _) ?_
  refine lv_dup hx hb dX1_init_53 rfl ?_
  refine zcINl (As := []) (rest := [.ref q50, .ref o]) (X := ([(o, .inr (1, [.int 3, .int 2, .int 1, .int 3, .int 1, .int 0, .int 0, .int (-1), .int 0, .int 0, .int 0, .null, .ref q37, .ref q44, .null, .null]))]) ++ ([(q37, .inl (c 0, 100, .inl (fun _ => 0)))]) ++ ([(q44, .inl (c 0, 4, .inl (fun _ => 0)))])) ⟨hx, hb, hml, hown, hts⟩ (k_X4_init l G K c q50) ⟨va_cnB 0 hts gX1_init_X4_init_n39 rfl rfl rfl (nwm_HubTrains_Game_39 hN.2.1) (hts (.initialized RX4) (List.mem_of_getElem? (i := 15) rfl)) hd_X4_init.2 ⟨Nat.le_of_ble_eq_true rfl, Nat.le_of_ble_eq_true rfl⟩, rfl, (hts (.instanceMethod yX4_init) (List.mem_of_getElem? (i := 21) rfl))⟩ hK hN hZ hXA hP hD hS hA rfl hl.1 rfl (Nat.le_of_ble_eq_true rfl) dX1_init_54 ⟨Nat.le_of_ble_eq_true rfl, Nat.le_of_ble_eq_true rfl⟩ (fun a54_0 H locs hok hP9 hD9 hS => ?_)
  replace hok : a54_0 0 = q50 := hok
  subst hok
  have hP := hP9
  have hD := hD9
  clear hP9 hD9
  have hP : va_P G vwCl (([(o, .inr (1, [.int 3, .int 2, .int 1, .int 3, .int 1, .int 0, .int 0, .int (-1), .int 0, .int 0, .int 0, .null, .ref q37, .ref q44, .null, .null]))]) ++ ([(q37, .inl (c 0, 100, .inl (fun _ => 0)))]) ++ ([(q44, .inl (c 0, 4, .inl (fun _ => 0)))]) ++ (wK c (a54_0 0) (a54_0 1) z0)) H := hP
  have hD : va_D A (([(o, .inr (1, [.int 3, .int 2, .int 1, .int 3, .int 1, .int 0, .int 0, .int (-1), .int 0, .int 0, .int 0, .null, .ref q37, .ref q44, .null, .null]))]) ++ ([(q37, .inl (c 0, 100, .inl (fun _ => 0)))]) ++ ([(q44, .inl (c 0, 4, .inl (fun _ => 0)))]) ++ (wK c (a54_0 0) (a54_0 1) z0)) := hD
  refine W.widen (k := 4) (n := 162) (Nat.le_refl _) (Nat.le_refl _) ?_
  refine va_putF (D := G) (ci := 1) (v := .ref (a54_0 0)) (C := RX1) (T := TX1) (N := 16) hx hb hts hi_1 tyX1 tyX1_ok nmX1 hown hK hP hD hS 0 rfl rfl 14 (by decide) (hts (.fieldLink RX1 40 "HubTrains$Game" "stock" "LHubTrains$Stock;") (List.mem_of_getElem? (i := 16) rfl)) (fun _ h9 => h9) rfl hin rfl (tyX1_ok 14 (by decide)) rfl rfl (Nat.le_of_ble_eq_true rfl) dX1_init_57 (fun H locs hP hD hS => ?_)
  have hP : va_P G vwCl (([(o, .inr (1, [.int 3, .int 2, .int 1, .int 3, .int 1, .int 0, .int 0, .int (-1), .int 0, .int 0, .int 0, .null, .ref q37, .ref q44, .ref (a54_0 0), .null]))]) ++ ([(q37, .inl (c 0, 100, .inl (fun _ => 0)))]) ++ ([(q44, .inl (c 0, 4, .inl (fun _ => 0)))]) ++ (wK c (a54_0 0) (a54_0 1) z0)) H := hP
  have hD : va_D A (([(o, .inr (1, [.int 3, .int 2, .int 1, .int 3, .int 1, .int 0, .int 0, .int (-1), .int 0, .int 0, .int 0, .null, .ref q37, .ref q44, .ref (a54_0 0), .null]))]) ++ ([(q37, .inl (c 0, 100, .inl (fun _ => 0)))]) ++ ([(q44, .inl (c 0, 4, .inl (fun _ => 0)))]) ++ (wK c (a54_0 0) (a54_0 1) z0)) := hD
  refine lv_aload_n hx hb dX1_init_60 rfl (lv_at hl 0 rfl) ?_
  refine va_new (ci := 6) (fs := [.null, .null, .int 0, .null, .null]) (C := RX6) (T := TX6) (N := 5) hx hb hts hi_6 tyX6 tyX6_ok hown (hts (.classLink RX1 44 RX6) (List.mem_of_getElem? (i := 17) rfl)) (hts (.instantiable RX6 5) (List.mem_of_getElem? (i := 18) rfl)) (hts (.initialized RX6) (List.mem_of_getElem? (i := 19) rfl)) hK hP hD hS hA rfl (fun j hj => by rcases (show j = 0 ∨ j = 1 ∨ j = 2 ∨ j = 3 ∨ j = 4 by omega) with rfl | rfl | rfl | rfl | rfl <;> rfl) (Nat.le_of_ble_eq_true rfl) (Nat.le_of_ble_eq_true rfl) dX1_init_61 (fun q61 H hP hD hS => ?_)
  have hP : va_P G vwCl (([(o, .inr (1, [.int 3, .int 2, .int 1, .int 3, .int 1, .int 0, .int 0, .int (-1), .int 0, .int 0, .int 0, .null, .ref q37, .ref q44, .ref (a54_0 0), .null]))]) ++ ([(q37, .inl (c 0, 100, .inl (fun _ => 0)))]) ++ ([(q44, .inl (c 0, 4, .inl (fun _ => 0)))]) ++ (wK c (a54_0 0) (a54_0 1) z0) ++ ([(q61, .inr (6, [.null, .null, .int 0, .null, .null]))])) H := hP
  have hD : va_D A (([(o, .inr (1, [.int 3, .int 2, .int 1, .int 3, .int 1, .int 0, .int 0, .int (-1), .int 0, .int 0, .int 0, .null, .ref q37, .ref q44, .ref (a54_0 0), .null]))]) ++ ([(q37, .inl (c 0, 100, .inl (fun _ => 0)))]) ++ ([(q44, .inl (c 0, 4, .inl (fun _ => 0)))]) ++ (wK c (a54_0 0) (a54_0 1) z0) ++ ([(q61, .inr (6, [.null, .null, .int 0, .null, .null]))])) := hD
  refine W.widen (k := 5) (n := 167) (Nat.le_refl _) (Nat.le_refl _) ?_
  refine lv_dup hx hb dX1_init_64 rfl ?_
  refine zcINl (As := []) (rest := [.ref q61, .ref o]) (X := ([(o, .inr (1, [.int 3, .int 2, .int 1, .int 3, .int 1, .int 0, .int 0, .int (-1), .int 0, .int 0, .int 0, .null, .ref q37, .ref q44, .ref (a54_0 0), .null]))]) ++ ([(q37, .inl (c 0, 100, .inl (fun _ => 0)))]) ++ ([(q44, .inl (c 0, 4, .inl (fun _ => 0)))]) ++ (wK c (a54_0 0) (a54_0 1) z0)) ⟨hx, hb, hml, hown, hts⟩ (k_X6_init l G K c q61) ⟨va_cnB 0 hts gX1_init_X6_init_n46 rfl rfl rfl (nwm_HubTrains_Game_46 hN.2.1) (hts (.initialized RX6) (List.mem_of_getElem? (i := 19) rfl)) hd_X6_init.2 ⟨Nat.le_of_ble_eq_true rfl, Nat.le_of_ble_eq_true rfl⟩, rfl, (hts (.instanceMethod yX6_init) (List.mem_of_getElem? (i := 25) rfl))⟩ hK hN hZ hXA hP hD hS hA rfl hl.1 rfl (Nat.le_of_ble_eq_true rfl) dX1_init_65 ⟨Nat.le_of_ble_eq_true rfl, Nat.le_of_ble_eq_true rfl⟩ (fun a65_1 H locs hok hP9 hD9 hS => ?_)
  replace hok : a65_1 0 = q61 := hok
  subst hok
  have hP := hP9
  have hD := hD9
  clear hP9 hD9
  have hP : va_P G vwCl (([(o, .inr (1, [.int 3, .int 2, .int 1, .int 3, .int 1, .int 0, .int 0, .int (-1), .int 0, .int 0, .int 0, .null, .ref q37, .ref q44, .ref (a54_0 0), .null]))]) ++ ([(q37, .inl (c 0, 100, .inl (fun _ => 0)))]) ++ ([(q44, .inl (c 0, 4, .inl (fun _ => 0)))]) ++ (wK c (a54_0 0) (a54_0 1) z0) ++ (wT c (a65_1 0) (a65_1 1) (a65_1 2) (a65_1 3) (a65_1 4) z0)) H := hP
  have hD : va_D A (([(o, .inr (1, [.int 3, .int 2, .int 1, .int 3, .int 1, .int 0, .int 0, .int (-1), .int 0, .int 0, .int 0, .null, .ref q37, .ref q44, .ref (a54_0 0), .null]))]) ++ ([(q37, .inl (c 0, 100, .inl (fun _ => 0)))]) ++ ([(q44, .inl (c 0, 4, .inl (fun _ => 0)))]) ++ (wK c (a54_0 0) (a54_0 1) z0) ++ (wT c (a65_1 0) (a65_1 1) (a65_1 2) (a65_1 3) (a65_1 4) z0)) := hD
  refine W.widen (k := 9) (n := 287) (Nat.le_refl _) (Nat.le_refl _) ?_
  refine va_putF (D := G) (ci := 1) (v := .ref (a65_1 0)) (C := RX1) (T := TX1) (N := 16) hx hb hts hi_1 tyX1 tyX1_ok nmX1 hown hK hP hD hS 0 rfl rfl 15 (by decide) (hts (.fieldLink RX1 47 "HubTrains$Game" "tracks" "LHubTrains$Tracks;") (List.mem_of_getElem? (i := 20) rfl)) (fun _ h9 => h9) rfl hin rfl (tyX1_ok 15 (by decide)) rfl rfl (Nat.le_of_ble_eq_true rfl) dX1_init_68 (fun H locs hP hD hS => ?_)
  have hP : va_P G vwCl (([(o, .inr (1, [.int 3, .int 2, .int 1, .int 3, .int 1, .int 0, .int 0, .int (-1), .int 0, .int 0, .int 0, .null, .ref q37, .ref q44, .ref (a54_0 0), .ref (a65_1 0)]))]) ++ ([(q37, .inl (c 0, 100, .inl (fun _ => 0)))]) ++ ([(q44, .inl (c 0, 4, .inl (fun _ => 0)))]) ++ (wK c (a54_0 0) (a54_0 1) z0) ++ (wT c (a65_1 0) (a65_1 1) (a65_1 2) (a65_1 3) (a65_1 4) z0)) H := hP
  have hD : va_D A (([(o, .inr (1, [.int 3, .int 2, .int 1, .int 3, .int 1, .int 0, .int 0, .int (-1), .int 0, .int 0, .int 0, .null, .ref q37, .ref q44, .ref (a54_0 0), .ref (a65_1 0)]))]) ++ ([(q37, .inl (c 0, 100, .inl (fun _ => 0)))]) ++ ([(q44, .inl (c 0, 4, .inl (fun _ => 0)))]) ++ (wK c (a54_0 0) (a54_0 1) z0) ++ (wT c (a65_1 0) (a65_1 1) (a65_1 2) (a65_1 3) (a65_1 4) z0)) := hD
  refine lv_aload_n hx hb dX1_init_71 rfl (lv_at hl 0 rfl) ?_
  refine va_get (D := G) (ci := 1) (v := .ref q37) (C := RX1) (T := TX1) (N := 16) hx hb hts hi_1 hown hK hP 0 rfl rfl 12 (by decide) (hts (.fieldLink RX1 30 "HubTrains$Game" "holders" "[I") (List.mem_of_getElem? (i := 11) rfl)) (fun _ h9 => h9) rfl dX1_init_72 ?_
  refine lv_iconst (v := (-1)) hx hb dX1_init_75 (by decide) ?_
  refine zcSv (As := [.ref q37, .int (-1)]) (rest := []) ⟨hx, hb, hml, hown, hts⟩ (k_J7_fill_53178 l G K c q37 100 (fun _ => 0) (-1) hf hfill) (va_cwS 2 hts gX1_init_J7_fill_53178 rfl rfl rfl hd_J7_fill_53178.2 ⟨Nat.le_of_ble_eq_true rfl, Nat.le_of_ble_eq_true rfl⟩) hK hN hZ hP hD hS hA [1] rfl (by decide) rfl rfl hl.1 rfl (Nat.le_of_ble_eq_true rfl) dX1_init_76 ⟨Nat.le_of_ble_eq_true rfl, Nat.le_of_ble_eq_true rfl⟩ (fun H locs hP hD hS => ?_)
  have hP : va_P G vwCl (([(o, .inr (1, [.int 3, .int 2, .int 1, .int 3, .int 1, .int 0, .int 0, .int (-1), .int 0, .int 0, .int 0, .null, .ref q37, .ref q44, .ref (a54_0 0), .ref (a65_1 0)]))]) ++ ([(q37, .inl (c 0, 100, .inl hf))]) ++ ([(q44, .inl (c 0, 4, .inl (fun _ => 0)))]) ++ (wK c (a54_0 0) (a54_0 1) z0) ++ (wT c (a65_1 0) (a65_1 1) (a65_1 2) (a65_1 3) (a65_1 4) z0)) H := hP
  have hD : va_D A (([(o, .inr (1, [.int 3, .int 2, .int 1, .int 3, .int 1, .int 0, .int 0, .int (-1), .int 0, .int 0, .int 0, .null, .ref q37, .ref q44, .ref (a54_0 0), .ref (a65_1 0)]))]) ++ ([(q37, .inl (c 0, 100, .inl hf))]) ++ ([(q44, .inl (c 0, 4, .inl (fun _ => 0)))]) ++ (wK c (a54_0 0) (a54_0 1) z0) ++ (wT c (a65_1 0) (a65_1 1) (a65_1 2) (a65_1 3) (a65_1 4) z0)) := hD
  have hP9 := hP.sub (ws' := wG c (fun i => [o, q37, q44, (a54_0 0), (a54_0 1), (a65_1 0), (a65_1 1), (a65_1 2), (a65_1 3), (a65_1 4)].getD i 0) (g0 hf)) [0, 1, 2, 3, 4, 5, 6, 7, 8, 9] rfl
  have hD9 := hD.sub (ws' := wG c (fun i => [o, q37, q44, (a54_0 0), (a54_0 1), (a65_1 0), (a65_1 1), (a65_1 2), (a65_1 3), (a65_1 4)].getD i 0) (g0 hf)) [0, 1, 2, 3, 4, 5, 6, 7, 8, 9] (by decide) rfl
  exact hend H locs ls _ (fun i => [o, q37, q44, (a54_0 0), (a54_0 1), (a65_1 0), (a65_1 1), (a65_1 2), (a65_1 3), (a65_1 4)].getD i 0) rfl hP9 hD9 hS dX1_init_79

abbrev rm_X5_init : Room := { frames := 1, cells := 1, slots := 500, locals := 12 }
theorem hd_X5_init : yX5_init.cls = RX5 ∧ yX5_init.cls ≠ "java/lang/invoke/MethodHandle" ∧ yX5_init.cls ≠ "java/lang/invoke/VarHandle" ∧ (parseMethodDescriptor yX5_init.desc).map (fun d => d.parameters.length) = some 0 := by decide +kernel
set_option maxHeartbeats 4000000 in
set_option maxRecDepth 100000 in
theorem k_X5_init (l : Launch) (G : va_G) (K : (Nat → Nat) × (Nat → Nat)) (c : Nat → ClassId) (o : Nat)  : zAv l yX5_init wsX5_init rm_X5_init G K (TY c) [.ref o] (([(o, .inr (5, [.null, .int 0, .int 0, .int 0, .int 0, .int 0, .int 0]))])) (fun a => wO c (a 0) (a 1) z0) (fun a => a 0 = o) 1 500 := by
  refine zAv.of (cc := cX5_init) (maxL := 1) (lv := [(0, .ref o)]) (by decide) rfl (Nat.le_of_ble_eq_true rfl) rfl ?_
  intro p e s m args below meth c1 A Q H locs hx hb hml hown hin hts hK hN hZ hXA hP hD hA hS hend ls hl
  have hown : s.vm.findClass RX5 = some m.cls := hown
  have hi_5 : ∀ w ∈ wsX50, w ∈ wsX5_init := (fun w h => List.mem_cons_of_mem _ (List.mem_append_right _ (h)))
  refine lv_aload_n hx hb dX5_init_0 rfl (lv_at hl 0 rfl) ?_
  refine W.objInit hx hb hown (hts (.methodLink RX5 3 objectInit) (List.mem_of_getElem? (i := 1) rfl)) (hts (.instanceMethod objectInit) (List.mem_of_getElem? (i := 2) rfl)) (hts (.code objectInit ⟨#[0xb1]⟩ 1 none) (List.mem_of_getElem? (i := 3) rfl)) rfl (by rw [hml]; exact hl.1) rfl dX5_init_1 (Nat.le_of_ble_eq_true rfl) (Nat.le_of_ble_eq_true rfl) ?_
  refine W.eq (g2 := F0 m 4 ls []) rfl ?_
  refine lv_aload_n hx hb dX5_init_4 rfl (lv_at hl 0 rfl) ?_
  refine lv_sipush (v := 500) hx hb dX5_init_5 (by decide) ?_
  refine va_newa (atype := .int) (ty := .int) (N' := 500) (a0 := (500, .inl (fun _ => 0))) hx hb (hts (.arrayClass .int) (List.mem_of_getElem? (i := 4) rfl)) rfl hK hP hD hS hA (fun _ => rfl) (by decide) (by decide) (Nat.le_of_ble_eq_true rfl) (Nat.le_of_ble_eq_true rfl) (Nat.le_of_ble_eq_true rfl) dX5_init_8 (fun q8 cA H hK2 hP hD hS => ?_)
  obtain rfl := zcl0 hK2
  clear hK2
  have hP : va_P G vwCl (([(o, .inr (5, [.null, .int 0, .int 0, .int 0, .int 0, .int 0, .int 0]))]) ++ ([(q8, .inl (c 0, 500, .inl (fun _ => 0)))])) H := hP
  have hD : va_D A (([(o, .inr (5, [.null, .int 0, .int 0, .int 0, .int 0, .int 0, .int 0]))]) ++ ([(q8, .inl (c 0, 500, .inl (fun _ => 0)))])) := hD
  refine W.widen (k := 1) (n := 500) (Nat.le_refl _) (Nat.le_refl _) ?_
  refine va_putF (D := G) (ci := 5) (v := .ref q8) (C := RX5) (T := TX5) (N := 7) hx hb hts hi_5 tyX5 tyX5_ok nmX5 hown hK hP hD hS 0 rfl rfl 0 (by decide) (hts (.fieldLink RX5 9 "HubTrains$Tokens" "bytes" "[I") (List.mem_of_getElem? (i := 5) rfl)) (fun _ h9 => h9) rfl hin rfl (tyX5_ok 0 (by decide)) rfl rfl (Nat.le_of_ble_eq_true rfl) dX5_init_10 (fun H locs hP hD hS => ?_)
  have hP : va_P G vwCl (([(o, .inr (5, [.ref q8, .int 0, .int 0, .int 0, .int 0, .int 0, .int 0]))]) ++ ([(q8, .inl (c 0, 500, .inl (fun _ => 0)))])) H := hP
  have hD : va_D A (([(o, .inr (5, [.ref q8, .int 0, .int 0, .int 0, .int 0, .int 0, .int 0]))]) ++ ([(q8, .inl (c 0, 500, .inl (fun _ => 0)))])) := hD
  have hP9 := hP.sub (ws' := wO c ((fun i => [o, q8].getD i 0) 0) ((fun i => [o, q8].getD i 0) 1) z0) [0, 1] rfl
  have hD9 := hD.sub (ws' := wO c ((fun i => [o, q8].getD i 0) 0) ((fun i => [o, q8].getD i 0) 1) z0) [0, 1] (by decide) rfl
  exact hend H locs ls _ (fun i => [o, q8].getD i 0) rfl hP9 hD9 hS dX5_init_13

abbrev rm_X3_init : Room := { frames := 3, cells := 13, slots := 1310, locals := 52 }
theorem hd_X3_init : yX3_init.cls = RX3 ∧ yX3_init.cls ≠ "java/lang/invoke/MethodHandle" ∧ yX3_init.cls ≠ "java/lang/invoke/VarHandle" ∧ (parseMethodDescriptor yX3_init.desc).map (fun d => d.parameters.length) = some 0 := by decide +kernel
set_option maxHeartbeats 4000000 in
set_option maxRecDepth 100000 in
theorem k_X3_init (l : Launch) (G : va_G) (K : (Nat → Nat) × (Nat → Nat)) (c : Nat → ClassId) (o : Nat) (hf : Nat → Int32) (hfill : f_J7_fill_53178 100 (fun _ => 0) (-1) = some hf) : zAv l yX3_init wsX3_init rm_X3_init G K (TY c) [.ref o] (([(o, .inr (3, [.null, .null, .int 0, .int 0, .int 0, .int 0, .int 0, .null, .int 0, .int 0, .int 0]))])) (fun a => wR c a (r0 hf)) (fun a => a 0 = o) 13 1310 := by
  refine zAv.of (cc := cX3_init) (maxL := 1) (lv := [(0, .ref o)]) (by decide) rfl (Nat.le_of_ble_eq_true rfl) rfl ?_
  intro p e s m args below meth c1 A Q H locs hx hb hml hown hin hts hK hN hZ hXA hP hD hA hS hend ls hl
  have hown : s.vm.findClass RX3 = some m.cls := hown
  have hi_1 : ∀ w ∈ wsX10, w ∈ wsX3_init := (fun w h => List.mem_cons_of_mem _ (List.mem_append_left _ (List.mem_append_left _ (List.mem_append_right _ (h)))))
  have hi_3 : ∀ w ∈ wsX30, w ∈ wsX3_init := (fun w h => List.mem_cons_of_mem _ (List.mem_append_left _ (List.mem_append_left _ (List.mem_append_left _ (List.mem_append_right _ (h))))))
  have hi_5 : ∀ w ∈ wsX50, w ∈ wsX3_init := (fun w h => List.mem_cons_of_mem _ (List.mem_append_left _ (List.mem_append_left _ (List.mem_append_left _ (List.mem_append_left _ (List.mem_append_right _ (h)))))))
  refine lv_aload_n hx hb dX3_init_0 rfl (lv_at hl 0 rfl) ?_
  refine W.objInit hx hb hown (hts (.methodLink RX3 3 objectInit) (List.mem_of_getElem? (i := 1) rfl)) (hts (.instanceMethod objectInit) (List.mem_of_getElem? (i := 2) rfl)) (hts (.code objectInit ⟨#[0xb1]⟩ 1 none) (List.mem_of_getElem? (i := 3) rfl)) rfl (by rw [hml]; exact hl.1) rfl dX3_init_1 (Nat.le_of_ble_eq_true rfl) (Nat.le_of_ble_eq_true rfl) ?_
  refine W.eq (g2 := F0 m 4 ls []) rfl ?_
  refine lv_aload_n hx hb dX3_init_4 rfl (lv_at hl 0 rfl) ?_
  refine va_new (ci := 5) (fs := [.null, .int 0, .int 0, .int 0, .int 0, .int 0, .int 0]) (C := RX5) (T := TX5) (N := 7) hx hb hts hi_5 tyX5 tyX5_ok hown (hts (.classLink RX3 9 RX5) (List.mem_of_getElem? (i := 4) rfl)) (hts (.instantiable RX5 7) (List.mem_of_getElem? (i := 5) rfl)) (hts (.initialized RX5) (List.mem_of_getElem? (i := 6) rfl)) hK hP hD hS hA rfl (fun j hj => by rcases (show j = 0 ∨ j = 1 ∨ j = 2 ∨ j = 3 ∨ j = 4 ∨ j = 5 ∨ j = 6 by omega) with rfl | rfl | rfl | rfl | rfl | rfl | rfl <;> rfl) (Nat.le_of_ble_eq_true rfl) (Nat.le_of_ble_eq_true rfl) dX3_init_5 (fun q5 H hP hD hS => ?_)
  have hP : va_P G vwCl (([(o, .inr (3, [.null, .null, .int 0, .int 0, .int 0, .int 0, .int 0, .null, .int 0, .int 0, .int 0]))]) ++ ([(q5, .inr (5, [.null, .int 0, .int 0, .int 0, .int 0, .int 0, .int 0]))])) H := hP
  have hD : va_D A (([(o, .inr (3, [.null, .null, .int 0, .int 0, .int 0, .int 0, .int 0, .null, .int 0, .int 0, .int 0]))]) ++ ([(q5, .inr (5, [.null, .int 0, .int 0, .int 0, .int 0, .int 0, .int 0]))])) := hD
  refine W.widen (k := 1) (n := 7) (Nat.le_refl _) (Nat.le_refl _) ?_
  refine lv_dup hx hb dX3_init_8 rfl ?_
  refine zcINl (As := []) (rest := [.ref q5, .ref o]) (X := ([(o, .inr (3, [.null, .null, .int 0, .int 0, .int 0, .int 0, .int 0, .null, .int 0, .int 0, .int 0]))])) ⟨hx, hb, hml, hown, hts⟩ (k_X5_init l G K c q5) ⟨va_cnB 0 hts gX3_init_X5_init_n11 rfl rfl rfl (nwm_HubTrains_SetupReader_11 hN.2.1) (hts (.initialized RX5) (List.mem_of_getElem? (i := 6) rfl)) hd_X5_init.2 ⟨Nat.le_of_ble_eq_true rfl, Nat.le_of_ble_eq_true rfl⟩, rfl, (hts (.instanceMethod yX5_init) (List.mem_of_getElem? (i := 15) rfl))⟩ hK hN hZ hXA hP hD hS hA rfl hl.1 rfl (Nat.le_of_ble_eq_true rfl) dX3_init_9 ⟨Nat.le_of_ble_eq_true rfl, Nat.le_of_ble_eq_true rfl⟩ (fun a9_0 H locs hok hP9 hD9 hS => ?_)
  replace hok : a9_0 0 = q5 := hok
  subst hok
  have hP := hP9
  have hD := hD9
  clear hP9 hD9
  have hP : va_P G vwCl (([(o, .inr (3, [.null, .null, .int 0, .int 0, .int 0, .int 0, .int 0, .null, .int 0, .int 0, .int 0]))]) ++ (wO c (a9_0 0) (a9_0 1) z0)) H := hP
  have hD : va_D A (([(o, .inr (3, [.null, .null, .int 0, .int 0, .int 0, .int 0, .int 0, .null, .int 0, .int 0, .int 0]))]) ++ (wO c (a9_0 0) (a9_0 1) z0)) := hD
  refine W.widen (k := 2) (n := 507) (Nat.le_refl _) (Nat.le_refl _) ?_
  refine va_putF (D := G) (ci := 3) (v := .ref (a9_0 0)) (C := RX3) (T := TX3) (N := 11) hx hb hts hi_3 tyX3 tyX3_ok nmX3 hown hK hP hD hS 0 rfl rfl 0 (by decide) (hts (.fieldLink RX3 12 "HubTrains$SetupReader" "tokens" "LHubTrains$Tokens;") (List.mem_of_getElem? (i := 7) rfl)) (fun _ h9 => h9) rfl hin rfl (tyX3_ok 0 (by decide)) rfl rfl (Nat.le_of_ble_eq_true rfl) dX3_init_12 (fun H locs hP hD hS => ?_)
  have hP : va_P G vwCl (([(o, .inr (3, [.ref (a9_0 0), .null, .int 0, .int 0, .int 0, .int 0, .int 0, .null, .int 0, .int 0, .int 0]))]) ++ (wO c (a9_0 0) (a9_0 1) z0)) H := hP
  have hD : va_D A (([(o, .inr (3, [.ref (a9_0 0), .null, .int 0, .int 0, .int 0, .int 0, .int 0, .null, .int 0, .int 0, .int 0]))]) ++ (wO c (a9_0 0) (a9_0 1) z0)) := hD
  refine lv_aload_n hx hb dX3_init_15 rfl (lv_at hl 0 rfl) ?_
  refine va_new (ci := 1) (fs := [.int 0, .int 0, .int 0, .int 0, .int 0, .int 0, .int 0, .int 0, .int 0, .int 0, .int 0, .null, .null, .null, .null, .null]) (C := RX1) (T := TX1) (N := 16) hx hb hts hi_1 tyX1 tyX1_ok hown (hts (.classLink RX3 18 RX1) (List.mem_of_getElem? (i := 8) rfl)) (hts (.instantiable RX1 16) (List.mem_of_getElem? (i := 9) rfl)) (hts (.initialized RX1) (List.mem_of_getElem? (i := 10) rfl)) hK hP hD hS hA rfl (fun j hj => by rcases (show j = 0 ∨ j = 1 ∨ j = 2 ∨ j = 3 ∨ j = 4 ∨ j = 5 ∨ j = 6 ∨ j = 7 ∨ j = 8 ∨ j = 9 ∨ j = 10 ∨ j = 11 ∨ j = 12 ∨ j = 13 ∨ j = 14 ∨ j = 15 by omega) with rfl | rfl | rfl | rfl | rfl | rfl | rfl | rfl | rfl | rfl | rfl | rfl | rfl | rfl | rfl | rfl <;> rfl) (Nat.le_of_ble_eq_true rfl) (Nat.le_of_ble_eq_true rfl) dX3_init_16 (fun q16 H hP hD hS => ?_)
  have hP : va_P G vwCl (([(o, .inr (3, [.ref (a9_0 0), .null, .int 0, .int 0, .int 0, .int 0, .int 0, .null, .int 0, .int 0, .int 0]))]) ++ (wO c (a9_0 0) (a9_0 1) z0) ++ ([(q16, .inr (1, [.int 0, .int 0, .int 0, .int 0, .int 0, .int 0, .int 0, .int 0, .int 0, .int 0, .int 0, .null, .null, .null, .null, .null]))])) H := hP
  have hD : va_D A (([(o, .inr (3, [.ref (a9_0 0), .null, .int 0, .int 0, .int 0, .int 0, .int 0, .null, .int 0, .int 0, .int 0]))]) ++ (wO c (a9_0 0) (a9_0 1) z0) ++ ([(q16, .inr (1, [.int 0, .int 0, .int 0, .int 0, .int 0, .int 0, .int 0, .int 0, .int 0, .int 0, .int 0, .null, .null, .null, .null, .null]))])) := hD
  refine W.widen (k := 3) (n := 523) (Nat.le_refl _) (Nat.le_refl _) ?_
  refine lv_dup hx hb dX3_init_19 rfl ?_
  refine zcIl (As := []) (rest := [.ref q16, .ref o]) (X := ([(o, .inr (3, [.ref (a9_0 0), .null, .int 0, .int 0, .int 0, .int 0, .int 0, .null, .int 0, .int 0, .int 0]))]) ++ (wO c (a9_0 0) (a9_0 1) z0)) ⟨hx, hb, hml, hown, hts⟩ (k_X1_init l G K c q16 hf hfill) (cwI 0 hts gX3_init_X1_init rfl rfl rfl (hts (.initialized RX1) (List.mem_of_getElem? (i := 10) rfl)) (hts (.methodLink RX3 20 yX1_init) (List.mem_of_getElem? (i := 19) rfl)) (hts (.instanceMethod yX1_init) (List.mem_of_getElem? (i := 20) rfl)) rfl hd_X1_init.2 ⟨Nat.le_of_ble_eq_true rfl, Nat.le_of_ble_eq_true rfl⟩) hK hN hZ hXA hP hD hS hA rfl hl.1 rfl (Nat.le_of_ble_eq_true rfl) dX3_init_20 ⟨Nat.le_of_ble_eq_true rfl, Nat.le_of_ble_eq_true rfl⟩ (fun a20_1 H locs hok hP9 hD9 hS => ?_)
  replace hok : a20_1 0 = q16 := hok
  subst hok
  have hP := hP9
  have hD := hD9
  clear hP9 hD9
  have hP : va_P G vwCl (([(o, .inr (3, [.ref (a9_0 0), .null, .int 0, .int 0, .int 0, .int 0, .int 0, .null, .int 0, .int 0, .int 0]))]) ++ (wO c (a9_0 0) (a9_0 1) z0) ++ (wG c a20_1 (g0 hf))) H := hP
  have hD : va_D A (([(o, .inr (3, [.ref (a9_0 0), .null, .int 0, .int 0, .int 0, .int 0, .int 0, .null, .int 0, .int 0, .int 0]))]) ++ (wO c (a9_0 0) (a9_0 1) z0) ++ (wG c a20_1 (g0 hf))) := hD
  refine W.widen (k := 12) (n := 810) (Nat.le_refl _) (Nat.le_refl _) ?_
  refine va_putF (D := G) (ci := 3) (v := .ref (a20_1 0)) (C := RX3) (T := TX3) (N := 11) hx hb hts hi_3 tyX3 tyX3_ok nmX3 hown hK hP hD hS 0 rfl rfl 1 (by decide) (hts (.fieldLink RX3 21 "HubTrains$SetupReader" "game" "LHubTrains$Game;") (List.mem_of_getElem? (i := 11) rfl)) (fun _ h9 => h9) rfl hin rfl (tyX3_ok 1 (by decide)) rfl rfl (Nat.le_of_ble_eq_true rfl) dX3_init_23 (fun H locs hP hD hS => ?_)
  have hP : va_P G vwCl (([(o, .inr (3, [.ref (a9_0 0), .ref (a20_1 0), .int 0, .int 0, .int 0, .int 0, .int 0, .null, .int 0, .int 0, .int 0]))]) ++ (wO c (a9_0 0) (a9_0 1) z0) ++ (wG c a20_1 (g0 hf))) H := hP
  have hD : va_D A (([(o, .inr (3, [.ref (a9_0 0), .ref (a20_1 0), .int 0, .int 0, .int 0, .int 0, .int 0, .null, .int 0, .int 0, .int 0]))]) ++ (wO c (a9_0 0) (a9_0 1) z0) ++ (wG c a20_1 (g0 hf))) := hD
  refine lv_aload_n hx hb dX3_init_26 rfl (lv_at hl 0 rfl) ?_
  refine lv_sipush (v := 500) hx hb dX3_init_27 (by decide) ?_
  refine va_newa (atype := .int) (ty := .int) (N' := 500) (a0 := (500, .inl (fun _ => 0))) hx hb (hts (.arrayClass .int) (List.mem_of_getElem? (i := 12) rfl)) rfl hK hP hD hS hA (fun _ => rfl) (by decide) (by decide) (Nat.le_of_ble_eq_true rfl) (Nat.le_of_ble_eq_true rfl) (Nat.le_of_ble_eq_true rfl) dX3_init_30 (fun q30 cA H hK2 hP hD hS => ?_)
  obtain rfl := zcl0 hK2
  clear hK2
  have hP : va_P G vwCl (([(o, .inr (3, [.ref (a9_0 0), .ref (a20_1 0), .int 0, .int 0, .int 0, .int 0, .int 0, .null, .int 0, .int 0, .int 0]))]) ++ (wO c (a9_0 0) (a9_0 1) z0) ++ (wG c a20_1 (g0 hf)) ++ ([(q30, .inl (c 0, 500, .inl (fun _ => 0)))])) H := hP
  have hD : va_D A (([(o, .inr (3, [.ref (a9_0 0), .ref (a20_1 0), .int 0, .int 0, .int 0, .int 0, .int 0, .null, .int 0, .int 0, .int 0]))]) ++ (wO c (a9_0 0) (a9_0 1) z0) ++ (wG c a20_1 (g0 hf)) ++ ([(q30, .inl (c 0, 500, .inl (fun _ => 0)))])) := hD
  refine W.widen (k := 13) (n := 1310) (Nat.le_refl _) (Nat.le_refl _) ?_
  refine va_putF (D := G) (ci := 3) (v := .ref q30) (C := RX3) (T := TX3) (N := 11) hx hb hts hi_3 tyX3 tyX3_ok nmX3 hown hK hP hD hS 0 rfl rfl 7 (by decide) (hts (.fieldLink RX3 25 "HubTrains$SetupReader" "steps" "[I") (List.mem_of_getElem? (i := 13) rfl)) (fun _ h9 => h9) rfl hin rfl (tyX3_ok 7 (by decide)) rfl rfl (Nat.le_of_ble_eq_true rfl) dX3_init_32 (fun H locs hP hD hS => ?_)
  have hP : va_P G vwCl (([(o, .inr (3, [.ref (a9_0 0), .ref (a20_1 0), .int 0, .int 0, .int 0, .int 0, .int 0, .ref q30, .int 0, .int 0, .int 0]))]) ++ (wO c (a9_0 0) (a9_0 1) z0) ++ (wG c a20_1 (g0 hf)) ++ ([(q30, .inl (c 0, 500, .inl (fun _ => 0)))])) H := hP
  have hD : va_D A (([(o, .inr (3, [.ref (a9_0 0), .ref (a20_1 0), .int 0, .int 0, .int 0, .int 0, .int 0, .ref q30, .int 0, .int 0, .int 0]))]) ++ (wO c (a9_0 0) (a9_0 1) z0) ++ (wG c a20_1 (g0 hf)) ++ ([(q30, .inl (c 0, 500, .inl (fun _ => 0)))])) := hD
  refine lv_aload_n hx hb dX3_init_35 rfl (lv_at hl 0 rfl) ?_
  refine lv_iconst (v := (-1)) hx hb dX3_init_36 (by decide) ?_
  refine va_put (D := G) (ci := 3) (v := .int (-1)) (C := RX3) (T := TX3) (N := 11) hx hb hts hi_3 tyX3 tyX3_ok nmX3 hown hK hP hD hS 0 rfl rfl 10 (by decide) (hts (.fieldLink RX3 29 "HubTrains$SetupReader" "errorOffset" "I") (List.mem_of_getElem? (i := 14) rfl)) (fun _ h9 => h9) rfl (tyX3_ok 10 (by decide)) rfl rfl (Nat.le_of_ble_eq_true rfl) dX3_init_37 (fun H locs hP hD hS => ?_)
  have hP : va_P G vwCl (([(o, .inr (3, [.ref (a9_0 0), .ref (a20_1 0), .int 0, .int 0, .int 0, .int 0, .int 0, .ref q30, .int 0, .int 0, .int (-1)]))]) ++ (wO c (a9_0 0) (a9_0 1) z0) ++ (wG c a20_1 (g0 hf)) ++ ([(q30, .inl (c 0, 500, .inl (fun _ => 0)))])) H := hP
  have hD : va_D A (([(o, .inr (3, [.ref (a9_0 0), .ref (a20_1 0), .int 0, .int 0, .int 0, .int 0, .int 0, .ref q30, .int 0, .int 0, .int (-1)]))]) ++ (wO c (a9_0 0) (a9_0 1) z0) ++ (wG c a20_1 (g0 hf)) ++ ([(q30, .inl (c 0, 500, .inl (fun _ => 0)))])) := hD
  have hP9 := hP.sub (ws' := wR c (fun i => [o, q30, (a9_0 0), (a9_0 1), (a20_1 0), (a20_1 1), (a20_1 2), (a20_1 3), (a20_1 4), (a20_1 5), (a20_1 6), (a20_1 7), (a20_1 8), (a20_1 9)].getD i 0) (r0 hf)) [0, 13, 1, 2, 3, 4, 5, 6, 7, 8, 9, 10, 11, 12] rfl
  have hD9 := hD.sub (ws' := wR c (fun i => [o, q30, (a9_0 0), (a9_0 1), (a20_1 0), (a20_1 1), (a20_1 2), (a20_1 3), (a20_1 4), (a20_1 5), (a20_1 6), (a20_1 7), (a20_1 8), (a20_1 9)].getD i 0) (r0 hf)) [0, 13, 1, 2, 3, 4, 5, 6, 7, 8, 9, 10, 11, 12] (by decide) rfl
  exact hend H locs ls _ (fun i => [o, q30, (a9_0 0), (a9_0 1), (a20_1 0), (a20_1 1), (a20_1 2), (a20_1 3), (a20_1 4), (a20_1 5), (a20_1 6), (a20_1 7), (a20_1 8), (a20_1 9)].getD i 0) rfl hP9 hD9 hS dX3_init_40

abbrev rm_X2_init : Room := { frames := 1, cells := 4, slots := 12300, locals := 12 }
theorem hd_X2_init : yX2_init.cls = RX2 ∧ yX2_init.cls ≠ "java/lang/invoke/MethodHandle" ∧ yX2_init.cls ≠ "java/lang/invoke/VarHandle" ∧ (parseMethodDescriptor yX2_init.desc).map (fun d => d.parameters.length) = some 0 := by decide +kernel
set_option maxHeartbeats 4000000 in
set_option maxRecDepth 100000 in
theorem k_X2_init (l : Launch) (G : va_G) (K : (Nat → Nat) × (Nat → Nat)) (c : Nat → ClassId) (o : Nat)  : zAv l yX2_init wsX2_init rm_X2_init G K (TY c) [.ref o] (([(o, .inr (2, [.null, .int 0, .int 0, .null, .int 0, .null, .null]))])) (fun a => wS c (a 0) (a 1) (a 2) (a 3) (a 4) z0) (fun a => a 0 = o) 4 12300 := by
  refine zAv.of (cc := cX2_init) (maxL := 1) (lv := [(0, .ref o)]) (by decide) rfl (Nat.le_of_ble_eq_true rfl) rfl ?_
  intro p e s m args below meth c1 A Q H locs hx hb hml hown hin hts hK hN hZ hXA hP hD hA hS hend ls hl
  have hown : s.vm.findClass RX2 = some m.cls := hown
  have hi_2 : ∀ w ∈ wsX20, w ∈ wsX2_init := (fun w h => List.mem_cons_of_mem _ (List.mem_append_right _ (h)))
  refine lv_aload_n hx hb dX2_init_0 rfl (lv_at hl 0 rfl) ?_
  refine W.objInit hx hb hown (hts (.methodLink RX2 3 objectInit) (List.mem_of_getElem? (i := 1) rfl)) (hts (.instanceMethod objectInit) (List.mem_of_getElem? (i := 2) rfl)) (hts (.code objectInit ⟨#[0xb1]⟩ 1 none) (List.mem_of_getElem? (i := 3) rfl)) rfl (by rw [hml]; exact hl.1) rfl dX2_init_1 (Nat.le_of_ble_eq_true rfl) (Nat.le_of_ble_eq_true rfl) ?_
  refine W.eq (g2 := F0 m 4 ls []) rfl ?_
  refine lv_aload_n hx hb dX2_init_4 rfl (lv_at hl 0 rfl) ?_
  refine lv_bipush (v := 12) hx hb dX2_init_5 (by decide) ?_
  refine va_newa (atype := .int) (ty := .int) (N' := 12) (a0 := (12, .inl (fun _ => 0))) hx hb (hts (.arrayClass .int) (List.mem_of_getElem? (i := 4) rfl)) rfl hK hP hD hS hA (fun _ => rfl) (by decide) (by decide) (Nat.le_of_ble_eq_true rfl) (Nat.le_of_ble_eq_true rfl) (Nat.le_of_ble_eq_true rfl) dX2_init_7 (fun q7 cA H hK2 hP hD hS => ?_)
  obtain rfl := zcl0 hK2
  clear hK2
  have hP : va_P G vwCl (([(o, .inr (2, [.null, .int 0, .int 0, .null, .int 0, .null, .null]))]) ++ ([(q7, .inl (c 0, 12, .inl (fun _ => 0)))])) H := hP
  have hD : va_D A (([(o, .inr (2, [.null, .int 0, .int 0, .null, .int 0, .null, .null]))]) ++ ([(q7, .inl (c 0, 12, .inl (fun _ => 0)))])) := hD
  refine W.widen (k := 1) (n := 12) (Nat.le_refl _) (Nat.le_refl _) ?_
  refine va_putF (D := G) (ci := 2) (v := .ref q7) (C := RX2) (T := TX2) (N := 7) hx hb hts hi_2 tyX2 tyX2_ok nmX2 hown hK hP hD hS 0 rfl rfl 0 (by decide) (hts (.fieldLink RX2 9 "HubTrains$RowSearch" "tiles" "[I") (List.mem_of_getElem? (i := 5) rfl)) (fun _ h9 => h9) rfl hin rfl (tyX2_ok 0 (by decide)) rfl rfl (Nat.le_of_ble_eq_true rfl) dX2_init_9 (fun H locs hP hD hS => ?_)
  have hP : va_P G vwCl (([(o, .inr (2, [.ref q7, .int 0, .int 0, .null, .int 0, .null, .null]))]) ++ ([(q7, .inl (c 0, 12, .inl (fun _ => 0)))])) H := hP
  have hD : va_D A (([(o, .inr (2, [.ref q7, .int 0, .int 0, .null, .int 0, .null, .null]))]) ++ ([(q7, .inl (c 0, 12, .inl (fun _ => 0)))])) := hD
  refine lv_aload_n hx hb dX2_init_12 rfl (lv_at hl 0 rfl) ?_
  refine lv_sipush (v := 4096) hx hb dX2_init_13 (by decide) ?_
  refine va_newa (atype := .int) (ty := .int) (N' := 4096) (a0 := (4096, .inl (fun _ => 0))) hx hb (hts (.arrayClass .int) (List.mem_of_getElem? (i := 4) rfl)) rfl hK hP hD hS hA (fun _ => rfl) (by decide) (by decide) (Nat.le_of_ble_eq_true rfl) (Nat.le_of_ble_eq_true rfl) (Nat.le_of_ble_eq_true rfl) dX2_init_16 (fun q16 cA H hK2 hP hD hS => ?_)
  obtain rfl := zcl0 hK2
  clear hK2
  have hP : va_P G vwCl (([(o, .inr (2, [.ref q7, .int 0, .int 0, .null, .int 0, .null, .null]))]) ++ ([(q7, .inl (c 0, 12, .inl (fun _ => 0)))]) ++ ([(q16, .inl (c 0, 4096, .inl (fun _ => 0)))])) H := hP
  have hD : va_D A (([(o, .inr (2, [.ref q7, .int 0, .int 0, .null, .int 0, .null, .null]))]) ++ ([(q7, .inl (c 0, 12, .inl (fun _ => 0)))]) ++ ([(q16, .inl (c 0, 4096, .inl (fun _ => 0)))])) := hD
  refine W.widen (k := 2) (n := 4108) (Nat.le_refl _) (Nat.le_refl _) ?_
  refine va_putF (D := G) (ci := 2) (v := .ref q16) (C := RX2) (T := TX2) (N := 7) hx hb hts hi_2 tyX2 tyX2_ok nmX2 hown hK hP hD hS 0 rfl rfl 3 (by decide) (hts (.fieldLink RX2 15 "HubTrains$RowSearch" "masks" "[I") (List.mem_of_getElem? (i := 6) rfl)) (fun _ h9 => h9) rfl hin rfl (tyX2_ok 3 (by decide)) rfl rfl (Nat.le_of_ble_eq_true rfl) dX2_init_18 (fun H locs hP hD hS => ?_)
  have hP : va_P G vwCl (([(o, .inr (2, [.ref q7, .int 0, .int 0, .ref q16, .int 0, .null, .null]))]) ++ ([(q7, .inl (c 0, 12, .inl (fun _ => 0)))]) ++ ([(q16, .inl (c 0, 4096, .inl (fun _ => 0)))])) H := hP
  have hD : va_D A (([(o, .inr (2, [.ref q7, .int 0, .int 0, .ref q16, .int 0, .null, .null]))]) ++ ([(q7, .inl (c 0, 12, .inl (fun _ => 0)))]) ++ ([(q16, .inl (c 0, 4096, .inl (fun _ => 0)))])) := hD
  refine lv_aload_n hx hb dX2_init_21 rfl (lv_at hl 0 rfl) ?_
  refine lv_sipush (v := 4096) hx hb dX2_init_22 (by decide) ?_
  refine va_newa (atype := .int) (ty := .int) (N' := 4096) (a0 := (4096, .inl (fun _ => 0))) hx hb (hts (.arrayClass .int) (List.mem_of_getElem? (i := 4) rfl)) rfl hK hP hD hS hA (fun _ => rfl) (by decide) (by decide) (Nat.le_of_ble_eq_true rfl) (Nat.le_of_ble_eq_true rfl) (Nat.le_of_ble_eq_true rfl) dX2_init_25 (fun q25 cA H hK2 hP hD hS => ?_)
  obtain rfl := zcl0 hK2
  clear hK2
  have hP : va_P G vwCl (([(o, .inr (2, [.ref q7, .int 0, .int 0, .ref q16, .int 0, .null, .null]))]) ++ ([(q7, .inl (c 0, 12, .inl (fun _ => 0)))]) ++ ([(q16, .inl (c 0, 4096, .inl (fun _ => 0)))]) ++ ([(q25, .inl (c 0, 4096, .inl (fun _ => 0)))])) H := hP
  have hD : va_D A (([(o, .inr (2, [.ref q7, .int 0, .int 0, .ref q16, .int 0, .null, .null]))]) ++ ([(q7, .inl (c 0, 12, .inl (fun _ => 0)))]) ++ ([(q16, .inl (c 0, 4096, .inl (fun _ => 0)))]) ++ ([(q25, .inl (c 0, 4096, .inl (fun _ => 0)))])) := hD
  refine W.widen (k := 3) (n := 8204) (Nat.le_refl _) (Nat.le_refl _) ?_
  refine va_putF (D := G) (ci := 2) (v := .ref q25) (C := RX2) (T := TX2) (N := 7) hx hb hts hi_2 tyX2 tyX2_ok nmX2 hown hK hP hD hS 0 rfl rfl 5 (by decide) (hts (.fieldLink RX2 18 "HubTrains$RowSearch" "ends" "[I") (List.mem_of_getElem? (i := 7) rfl)) (fun _ h9 => h9) rfl hin rfl (tyX2_ok 5 (by decide)) rfl rfl (Nat.le_of_ble_eq_true rfl) dX2_init_27 (fun H locs hP hD hS => ?_)
  have hP : va_P G vwCl (([(o, .inr (2, [.ref q7, .int 0, .int 0, .ref q16, .int 0, .ref q25, .null]))]) ++ ([(q7, .inl (c 0, 12, .inl (fun _ => 0)))]) ++ ([(q16, .inl (c 0, 4096, .inl (fun _ => 0)))]) ++ ([(q25, .inl (c 0, 4096, .inl (fun _ => 0)))])) H := hP
  have hD : va_D A (([(o, .inr (2, [.ref q7, .int 0, .int 0, .ref q16, .int 0, .ref q25, .null]))]) ++ ([(q7, .inl (c 0, 12, .inl (fun _ => 0)))]) ++ ([(q16, .inl (c 0, 4096, .inl (fun _ => 0)))]) ++ ([(q25, .inl (c 0, 4096, .inl (fun _ => 0)))])) := hD
  refine lv_aload_n hx hb dX2_init_30 rfl (lv_at hl 0 rfl) ?_
  refine lv_sipush (v := 4096) hx hb dX2_init_31 (by decide) ?_
  refine va_newa (atype := .int) (ty := .int) (N' := 4096) (a0 := (4096, .inl (fun _ => 0))) hx hb (hts (.arrayClass .int) (List.mem_of_getElem? (i := 4) rfl)) rfl hK hP hD hS hA (fun _ => rfl) (by decide) (by decide) (Nat.le_of_ble_eq_true rfl) (Nat.le_of_ble_eq_true rfl) (Nat.le_of_ble_eq_true rfl) dX2_init_34 (fun q34 cA H hK2 hP hD hS => ?_)
  obtain rfl := zcl0 hK2
  clear hK2
  have hP : va_P G vwCl (([(o, .inr (2, [.ref q7, .int 0, .int 0, .ref q16, .int 0, .ref q25, .null]))]) ++ ([(q7, .inl (c 0, 12, .inl (fun _ => 0)))]) ++ ([(q16, .inl (c 0, 4096, .inl (fun _ => 0)))]) ++ ([(q25, .inl (c 0, 4096, .inl (fun _ => 0)))]) ++ ([(q34, .inl (c 0, 4096, .inl (fun _ => 0)))])) H := hP
  have hD : va_D A (([(o, .inr (2, [.ref q7, .int 0, .int 0, .ref q16, .int 0, .ref q25, .null]))]) ++ ([(q7, .inl (c 0, 12, .inl (fun _ => 0)))]) ++ ([(q16, .inl (c 0, 4096, .inl (fun _ => 0)))]) ++ ([(q25, .inl (c 0, 4096, .inl (fun _ => 0)))]) ++ ([(q34, .inl (c 0, 4096, .inl (fun _ => 0)))])) := hD
  refine W.widen (k := 4) (n := 12300) (Nat.le_refl _) (Nat.le_refl _) ?_
  refine va_putF (D := G) (ci := 2) (v := .ref q34) (C := RX2) (T := TX2) (N := 7) hx hb hts hi_2 tyX2 tyX2_ok nmX2 hown hK hP hD hS 0 rfl rfl 6 (by decide) (hts (.fieldLink RX2 21 "HubTrains$RowSearch" "hopeful" "[I") (List.mem_of_getElem? (i := 8) rfl)) (fun _ h9 => h9) rfl hin rfl (tyX2_ok 6 (by decide)) rfl rfl (Nat.le_of_ble_eq_true rfl) dX2_init_36 (fun H locs hP hD hS => ?_)
  have hP : va_P G vwCl (([(o, .inr (2, [.ref q7, .int 0, .int 0, .ref q16, .int 0, .ref q25, .ref q34]))]) ++ ([(q7, .inl (c 0, 12, .inl (fun _ => 0)))]) ++ ([(q16, .inl (c 0, 4096, .inl (fun _ => 0)))]) ++ ([(q25, .inl (c 0, 4096, .inl (fun _ => 0)))]) ++ ([(q34, .inl (c 0, 4096, .inl (fun _ => 0)))])) H := hP
  have hD : va_D A (([(o, .inr (2, [.ref q7, .int 0, .int 0, .ref q16, .int 0, .ref q25, .ref q34]))]) ++ ([(q7, .inl (c 0, 12, .inl (fun _ => 0)))]) ++ ([(q16, .inl (c 0, 4096, .inl (fun _ => 0)))]) ++ ([(q25, .inl (c 0, 4096, .inl (fun _ => 0)))]) ++ ([(q34, .inl (c 0, 4096, .inl (fun _ => 0)))])) := hD
  have hP9 := hP.sub (ws' := wS c ((fun i => [o, q7, q16, q25, q34].getD i 0) 0) ((fun i => [o, q7, q16, q25, q34].getD i 0) 1) ((fun i => [o, q7, q16, q25, q34].getD i 0) 2) ((fun i => [o, q7, q16, q25, q34].getD i 0) 3) ((fun i => [o, q7, q16, q25, q34].getD i 0) 4) z0) [0, 1, 2, 3, 4] rfl
  have hD9 := hD.sub (ws' := wS c ((fun i => [o, q7, q16, q25, q34].getD i 0) 0) ((fun i => [o, q7, q16, q25, q34].getD i 0) 1) ((fun i => [o, q7, q16, q25, q34].getD i 0) 2) ((fun i => [o, q7, q16, q25, q34].getD i 0) 3) ((fun i => [o, q7, q16, q25, q34].getD i 0) 4) z0) [0, 1, 2, 3, 4] (by decide) rfl
  exact hend H locs ls _ (fun i => [o, q7, q16, q25, q34].getD i 0) rfl hP9 hD9 hS dX2_init_39
