def f_X7_play (s7 : HS) (p0 : Int32) (p1 : Int32) : Option (Int32 × HS) :=
  bd1 (f_X7_checkTrain s7 p1) fun (_ : Unit) => bd1 (f_X7_checkTile s7 p0) fun (_ : Unit) => bd1 (f_X1_canPlay s7.2.1 p0 p1) fun (r16 : Int32) => bd1 (f_X7_checkAllowed r16) fun (_ : Unit) => bd1 (f_X7_remember s7) fun (s723 : HS) => bd1 (f_X1_layTile s723.2.1 p0 p1) fun (g32 : GS) => bd1 (f_X6_endOf g32.2.2.2 p1) fun (r43 : Int32) => some (r43, (s723.1, g32, s723.2.2.1, s723.2.2.2.1, s723.2.2.2.2.1, s723.2.2.2.2.2))

abbrev rm_X7_play : Room := { frames := 5, cells := 0, slots := 0, locals := 124 }
theorem hd_X7_play : yX7_play.cls = RX7 ∧ yX7_play.cls ≠ "java/lang/invoke/MethodHandle" ∧ yX7_play.cls ≠ "java/lang/invoke/VarHandle" ∧ (parseMethodDescriptor yX7_play.desc).map (fun d => d.parameters.length) = some 2 := by decide +kernel
set_option maxHeartbeats 4000000 in
set_option maxRecDepth 100000 in
theorem k_X7_play (l : Launch) (G : va_G) (K : (Nat → Nat) × (Nat → Nat)) (c : Nat → ClassId) (ah : Nat → Nat) (ag : Nat → Nat → Nat) (ar : Nat → Nat) (ps : PS) (s7 : HS) (p0 : Int32) (p1 : Int32) (r : Int32) (s7_r : HS) (hm : f_X7_play s7 p0 p1 = some (r, s7_r)) : zMi l yX7_play wsX7_play (rm_X7_play) G K (TY c) [.ref (ah 0), .int p0, .int p1] (wH c ah ag ar ps s7) (wH c ah ag ar ps s7_r) r := by
  refine zMi.of (cc := cX7_play) (maxL := 3) (lv := [(0, .ref (ah 0)), (1, .int p0), (2, .int p1)]) (by decide) rfl (Nat.le_of_ble_eq_true rfl) rfl ?_
  intro p e s m args below meth c1 A Q H locs hx hb hml hown hts hK hN hZ hP hD hA hS hend ls hl
  have hown : s.vm.findClass RX7 = some m.cls := hown
  have hi_1 : ∀ w ∈ wsX10, w ∈ wsX7_play := (fun w h => List.mem_cons_of_mem _ (List.mem_append_left _ (List.mem_append_left _ (List.mem_append_left _ (List.mem_append_left _ (List.mem_append_left _ (List.mem_append_right _ (h))))))))
  have hi_7 : ∀ w ∈ wsX70, w ∈ wsX7_play := (fun w h => List.mem_cons_of_mem _ (List.mem_append_left _ (List.mem_append_left _ (List.mem_append_left _ (List.mem_append_left _ (List.mem_append_left _ (List.mem_append_left _ (List.mem_append_right _ (h)))))))))
  unfold f_X7_play at hm
  refine lv_aload_n hx hb dX7_play_0 rfl (lv_at hl 0 rfl) ?_
  refine lv_iload_n hx hb dX7_play_1 rfl (lv_at hl 2 rfl) ?_
  obtain ⟨e_u2, e_2, hm⟩ := bd1_s hm
  refine zcWv (As := [.int p1]) (rest := []) ⟨hx, hb, hml, hown, hts⟩ (k_X7_checkTrain l G K c ah ag ar ps s7 p1 e_2) (cwV 1 hts gX7_play_X7_checkTrain rfl rfl rfl hd_X7_checkTrain ⟨Nat.le_of_ble_eq_true rfl, Nat.le_of_ble_eq_true rfl⟩) hK hN hZ hP hD hS hA (va_recv hK hP (ci := 7) (q0 := 0) rfl rfl) rfl hl.1 rfl (Nat.le_of_ble_eq_true rfl) dX7_play_2 ⟨Nat.zero_le _, Nat.zero_le _⟩ (fun H locs hP hD hS => ?_)
  have hP : va_P G vwCl (wH c ah ag ar ps s7) H := hP
  have hD : va_D A (wH c ah ag ar ps s7) := hD
  refine lv_aload_n hx hb dX7_play_5 rfl (lv_at hl 0 rfl) ?_
  refine lv_iload_n hx hb dX7_play_6 rfl (lv_at hl 1 rfl) ?_
  obtain ⟨e_u7, e_7, hm⟩ := bd1_s hm
  refine zcWv (As := [.int p0]) (rest := []) ⟨hx, hb, hml, hown, hts⟩ (k_X7_checkTile l G K c ah ag ar ps s7 p0 e_7) (cwV 1 hts gX7_play_X7_checkTile rfl rfl rfl hd_X7_checkTile ⟨Nat.le_of_ble_eq_true rfl, Nat.le_of_ble_eq_true rfl⟩) hK hN hZ hP hD hS hA (va_recv hK hP (ci := 7) (q0 := 0) rfl rfl) rfl hl.1 rfl (Nat.le_of_ble_eq_true rfl) dX7_play_7 ⟨Nat.zero_le _, Nat.zero_le _⟩ (fun H locs hP hD hS => ?_)
  have hP : va_P G vwCl (wH c ah ag ar ps s7) H := hP
  have hD : va_D A (wH c ah ag ar ps s7) := hD
  refine lv_aload_n hx hb dX7_play_10 rfl (lv_at hl 0 rfl) ?_
  refine va_get (D := G) (ci := 7) (v := .ref (ag 0 0)) (C := RX7) (T := TX7) (N := 7) hx hb hts hi_7 hown hK hP 0 rfl rfl 0 (by decide) (hts (.fieldLink RX7 10 "HubTrains" "game" "LHubTrains$Game;") (List.mem_of_getElem? (i := 1) rfl)) (fun _ h9 => h9) rfl dX7_play_11 ?_
  refine lv_iload_n hx hb dX7_play_14 rfl (lv_at hl 1 rfl) ?_
  refine lv_iload_n hx hb dX7_play_15 rfl (lv_at hl 2 rfl) ?_
  obtain ⟨r16, e_16, hm⟩ := bd1_s hm
  refine zcVi (As := [.int p0, .int p1]) (rest := []) ⟨hx, hb, hml, hown, hts⟩ (k_X1_canPlay l G K c (ag 0) s7.2.1 p0 p1 r16 e_16) (cwV 2 hts gX7_play_X1_canPlay rfl rfl rfl hd_X1_canPlay ⟨Nat.le_of_ble_eq_true rfl, Nat.le_of_ble_eq_true rfl⟩) hK hN hZ hP hD hS hA (va_recv hK hP (ci := 1) (q0 := 2) rfl rfl) [2, 3, 4, 5, 6, 7, 8, 9, 10, 11] rfl (by decide) rfl rfl hl.1 rfl (Nat.le_of_ble_eq_true rfl) dX7_play_16 ⟨Nat.zero_le _, Nat.zero_le _⟩ (fun H locs hP hD hS => ?_)
  have hP : va_P G vwCl (wH c ah ag ar ps s7) H := (congrArg (fun w => va_P G vwCl w H) (zset_id _ _ _ rfl)).mp hP
  have hD : va_D A (wH c ah ag ar ps s7) := (congrArg (fun w => va_D A w) (zset_id _ _ _ rfl)).mp hD
  obtain ⟨e_u19, e_19, hm⟩ := bd1_s hm
  refine zcSv (As := [.int r16]) (rest := []) ⟨hx, hb, hml, hown, hts⟩ (k_X7_checkAllowed l G K c r16 e_19) (va_cwS 1 hts gX7_play_X7_checkAllowed rfl rfl rfl hd_X7_checkAllowed.2 ⟨Nat.le_of_ble_eq_true rfl, Nat.le_of_ble_eq_true rfl⟩) hK hN hZ hP hD hS hA [] rfl (by decide) rfl rfl hl.1 rfl (Nat.le_of_ble_eq_true rfl) dX7_play_19 ⟨Nat.zero_le _, Nat.zero_le _⟩ (fun H locs hP hD hS => ?_)
  have hP : va_P G vwCl (wH c ah ag ar ps s7) H := (congrArg (fun w => va_P G vwCl w H) (zset_id _ _ _ rfl)).mp hP
  have hD : va_D A (wH c ah ag ar ps s7) := (congrArg (fun w => va_D A w) (zset_id _ _ _ rfl)).mp hD
  refine lv_aload_n hx hb dX7_play_22 rfl (lv_at hl 0 rfl) ?_
  obtain ⟨s723, e_23, hm⟩ := bd1_s hm
  refine zcWv (As := []) (rest := []) ⟨hx, hb, hml, hown, hts⟩ (k_X7_remember l G K c ah ag ar ps s7 s723 e_23) (cwV 0 hts gX7_play_X7_remember rfl rfl rfl hd_X7_remember ⟨Nat.le_of_ble_eq_true rfl, Nat.le_of_ble_eq_true rfl⟩) hK hN hZ hP hD hS hA (va_recv hK hP (ci := 7) (q0 := 0) rfl rfl) rfl hl.1 rfl (Nat.le_of_ble_eq_true rfl) dX7_play_23 ⟨Nat.zero_le _, Nat.zero_le _⟩ (fun H locs hP hD hS => ?_)
  have hP : va_P G vwCl (wH c ah ag ar ps s723) H := hP
  have hD : va_D A (wH c ah ag ar ps s723) := hD
  refine lv_aload_n hx hb dX7_play_26 rfl (lv_at hl 0 rfl) ?_
  refine va_get (D := G) (ci := 7) (v := .ref (ag 0 0)) (C := RX7) (T := TX7) (N := 7) hx hb hts hi_7 hown hK hP 0 rfl rfl 0 (by decide) (hts (.fieldLink RX7 10 "HubTrains" "game" "LHubTrains$Game;") (List.mem_of_getElem? (i := 1) rfl)) (fun _ h9 => h9) rfl dX7_play_27 ?_
  refine lv_iload_n hx hb dX7_play_30 rfl (lv_at hl 1 rfl) ?_
  refine lv_iload_n hx hb dX7_play_31 rfl (lv_at hl 2 rfl) ?_
  obtain ⟨g32, e_32, hm⟩ := bd1_s hm
  refine zcVv (As := [.int p0, .int p1]) (rest := []) ⟨hx, hb, hml, hown, hts⟩ (k_X1_layTile l G K c (ag 0) s723.2.1 p0 p1 g32 e_32) (cwV 2 hts gX7_play_X1_layTile rfl rfl rfl hd_X1_layTile ⟨Nat.le_of_ble_eq_true rfl, Nat.le_of_ble_eq_true rfl⟩) hK hN hZ hP hD hS hA (va_recv hK hP (ci := 1) (q0 := 2) rfl rfl) [2, 3, 4, 5, 6, 7, 8, 9, 10, 11] rfl (by decide) rfl rfl hl.1 rfl (Nat.le_of_ble_eq_true rfl) dX7_play_32 ⟨Nat.zero_le _, Nat.zero_le _⟩ (fun H locs hP hD hS => ?_)
  have hP : va_P G vwCl (wH c ah ag ar ps (s723.1, g32, s723.2.2.1, s723.2.2.2.1, s723.2.2.2.2.1, s723.2.2.2.2.2)) H := (congrArg (fun w => va_P G vwCl w H) (zsg (c := c) (ah := ah) (ag := ag) (ar := ar) (ps := ps) (s := s723) (g := g32))).mp hP
  have hD : va_D A (wH c ah ag ar ps (s723.1, g32, s723.2.2.1, s723.2.2.2.1, s723.2.2.2.2.1, s723.2.2.2.2.2)) := (congrArg (fun w => va_D A w) (zsg (c := c) (ah := ah) (ag := ag) (ar := ar) (ps := ps) (s := s723) (g := g32))).mp hD
  refine lv_aload_n hx hb dX7_play_35 rfl (lv_at hl 0 rfl) ?_
  refine va_get (D := G) (ci := 7) (v := .ref (ag 0 0)) (C := RX7) (T := TX7) (N := 7) hx hb hts hi_7 hown hK hP 0 rfl rfl 0 (by decide) (hts (.fieldLink RX7 10 "HubTrains" "game" "LHubTrains$Game;") (List.mem_of_getElem? (i := 1) rfl)) (fun _ h9 => h9) rfl dX7_play_36 ?_
  refine va_getN (D := G) (ci := 1) (v := .ref (ag 0 5)) (C := RX1) (T := TX1) (N := 16) hx hb hts hi_1 hown hK hP 2 rfl rfl 15 (by decide) (va_Nw.use rfl (nwf_HubTrains_108 hN.1)) (fun _ h9 => h9) rfl dX7_play_39 ?_
  refine lv_iload_n hx hb dX7_play_42 rfl (lv_at hl 2 rfl) ?_
  obtain ⟨r43, e_43, hm⟩ := bd1_s hm
  refine zcVi (As := [.int p1]) (rest := []) ⟨hx, hb, hml, hown, hts⟩ (k_X6_endOf l G K c (ag 0 5) (ag 0 6) (ag 0 7) (ag 0 8) (ag 0 9) g32.2.2.2 p1 r43 e_43) (cwV 1 hts gX7_play_X6_endOf rfl rfl rfl hd_X6_endOf ⟨Nat.le_of_ble_eq_true rfl, Nat.le_of_ble_eq_true rfl⟩) hK hN hZ hP hD hS hA (va_recv hK hP (ci := 6) (q0 := 7) rfl rfl) [7, 8, 9, 10, 11] rfl (by decide) rfl rfl hl.1 rfl (Nat.le_of_ble_eq_true rfl) dX7_play_43 ⟨Nat.zero_le _, Nat.zero_le _⟩ (fun H locs hP hD hS => ?_)
  have hP : va_P G vwCl (wH c ah ag ar ps (s723.1, g32, s723.2.2.1, s723.2.2.2.1, s723.2.2.2.2.1, s723.2.2.2.2.2)) H := (congrArg (fun w => va_P G vwCl w H) (zset_id _ _ _ rfl)).mp hP
  have hD : va_D A (wH c ah ag ar ps (s723.1, g32, s723.2.2.1, s723.2.2.2.1, s723.2.2.2.2.1, s723.2.2.2.2.2)) := (congrArg (fun w => va_D A w) (zset_id _ _ _ rfl)).mp hD
  exact hend H locs ls _ _ _ rfl (Prod.mk.inj (Option.some.inj hm)).1 (zc1 (fun (z0 : HS) => (wH c ah ag ar ps z0 : va_W)) (Prod.mk.inj (Option.some.inj hm)).2) hP hD hS dX7_play_46


def f_X7_draw (s7 : HS) : Option (Int32 × HS) :=
  bd1 (f_X1_mayDraw s7.2.1) fun (r4 : Int32) => bd1 (f_X7_checkAllowed r4) fun (_ : Unit) => bd1 (f_X7_remember s7) fun (s711 : HS) => bd2 (f_X1_drawTile s711.2.1) fun (r18 : Int32) (g18 : GS) => some (r18, (s711.1, g18, s711.2.2.1, s711.2.2.2.1, s711.2.2.2.2.1, s711.2.2.2.2.2))

abbrev rm_X7_draw : Room := { frames := 7, cells := 0, slots := 0, locals := 150 }
theorem hd_X7_draw : yX7_draw.cls = RX7 ∧ yX7_draw.cls ≠ "java/lang/invoke/MethodHandle" ∧ yX7_draw.cls ≠ "java/lang/invoke/VarHandle" ∧ (parseMethodDescriptor yX7_draw.desc).map (fun d => d.parameters.length) = some 0 := by decide +kernel
set_option maxHeartbeats 4000000 in
set_option maxRecDepth 100000 in
theorem k_X7_draw (l : Launch) (G : va_G) (K : (Nat → Nat) × (Nat → Nat)) (c : Nat → ClassId) (ah : Nat → Nat) (ag : Nat → Nat → Nat) (ar : Nat → Nat) (ps : PS) (s7 : HS) (r : Int32) (s7_r : HS) (hm : f_X7_draw s7 = some (r, s7_r)) : zMi l yX7_draw wsX7_draw (rm_X7_draw) G K (TY c) [.ref (ah 0)] (wH c ah ag ar ps s7) (wH c ah ag ar ps s7_r) r := by
  refine zMi.of (cc := cX7_draw) (maxL := 1) (lv := [(0, .ref (ah 0))]) (by decide) rfl (Nat.le_of_ble_eq_true rfl) rfl ?_
  intro p e s m args below meth c1 A Q H locs hx hb hml hown hts hK hN hZ hP hD hA hS hend ls hl
  have hown : s.vm.findClass RX7 = some m.cls := hown
  have hi_7 : ∀ w ∈ wsX70, w ∈ wsX7_draw := (fun w h => List.mem_cons_of_mem _ (List.mem_append_left _ (List.mem_append_left _ (List.mem_append_left _ (List.mem_append_left _ (List.mem_append_right _ (h)))))))
  unfold f_X7_draw at hm
  refine lv_aload_n hx hb dX7_draw_0 rfl (lv_at hl 0 rfl) ?_
  refine va_get (D := G) (ci := 7) (v := .ref (ag 0 0)) (C := RX7) (T := TX7) (N := 7) hx hb hts hi_7 hown hK hP 0 rfl rfl 0 (by decide) (hts (.fieldLink RX7 10 "HubTrains" "game" "LHubTrains$Game;") (List.mem_of_getElem? (i := 1) rfl)) (fun _ h9 => h9) rfl dX7_draw_1 ?_
  obtain ⟨r4, e_4, hm⟩ := bd1_s hm
  refine zcVi (As := []) (rest := []) ⟨hx, hb, hml, hown, hts⟩ (k_X1_mayDraw l G K c (ag 0) s7.2.1 r4 e_4) (cwV 0 hts gX7_draw_X1_mayDraw rfl rfl rfl hd_X1_mayDraw ⟨Nat.le_of_ble_eq_true rfl, Nat.le_of_ble_eq_true rfl⟩) hK hN hZ hP hD hS hA (va_recv hK hP (ci := 1) (q0 := 2) rfl rfl) [2, 3, 4, 5, 6, 7, 8, 9, 10, 11] rfl (by decide) rfl rfl hl.1 rfl (Nat.le_of_ble_eq_true rfl) dX7_draw_4 ⟨Nat.zero_le _, Nat.zero_le _⟩ (fun H locs hP hD hS => ?_)
  have hP : va_P G vwCl (wH c ah ag ar ps s7) H := (congrArg (fun w => va_P G vwCl w H) (zset_id _ _ _ rfl)).mp hP
  have hD : va_D A (wH c ah ag ar ps s7) := (congrArg (fun w => va_D A w) (zset_id _ _ _ rfl)).mp hD
  obtain ⟨e_u7, e_7, hm⟩ := bd1_s hm
  refine zcSv (As := [.int r4]) (rest := []) ⟨hx, hb, hml, hown, hts⟩ (k_X7_checkAllowed l G K c r4 e_7) (va_cwS 1 hts gX7_draw_X7_checkAllowed rfl rfl rfl hd_X7_checkAllowed.2 ⟨Nat.le_of_ble_eq_true rfl, Nat.le_of_ble_eq_true rfl⟩) hK hN hZ hP hD hS hA [] rfl (by decide) rfl rfl hl.1 rfl (Nat.le_of_ble_eq_true rfl) dX7_draw_7 ⟨Nat.zero_le _, Nat.zero_le _⟩ (fun H locs hP hD hS => ?_)
  have hP : va_P G vwCl (wH c ah ag ar ps s7) H := (congrArg (fun w => va_P G vwCl w H) (zset_id _ _ _ rfl)).mp hP
  have hD : va_D A (wH c ah ag ar ps s7) := (congrArg (fun w => va_D A w) (zset_id _ _ _ rfl)).mp hD
  refine lv_aload_n hx hb dX7_draw_10 rfl (lv_at hl 0 rfl) ?_
  obtain ⟨s711, e_11, hm⟩ := bd1_s hm
  refine zcWv (As := []) (rest := []) ⟨hx, hb, hml, hown, hts⟩ (k_X7_remember l G K c ah ag ar ps s7 s711 e_11) (cwV 0 hts gX7_draw_X7_remember rfl rfl rfl hd_X7_remember ⟨Nat.le_of_ble_eq_true rfl, Nat.le_of_ble_eq_true rfl⟩) hK hN hZ hP hD hS hA (va_recv hK hP (ci := 7) (q0 := 0) rfl rfl) rfl hl.1 rfl (Nat.le_of_ble_eq_true rfl) dX7_draw_11 ⟨Nat.zero_le _, Nat.zero_le _⟩ (fun H locs hP hD hS => ?_)
  have hP : va_P G vwCl (wH c ah ag ar ps s711) H := hP
  have hD : va_D A (wH c ah ag ar ps s711) := hD
  refine lv_aload_n hx hb dX7_draw_14 rfl (lv_at hl 0 rfl) ?_
  refine va_get (D := G) (ci := 7) (v := .ref (ag 0 0)) (C := RX7) (T := TX7) (N := 7) hx hb hts hi_7 hown hK hP 0 rfl rfl 0 (by decide) (hts (.fieldLink RX7 10 "HubTrains" "game" "LHubTrains$Game;") (List.mem_of_getElem? (i := 1) rfl)) (fun _ h9 => h9) rfl dX7_draw_15 ?_
  obtain ⟨r18, g18, e_18, hm⟩ := bd2_s hm
  refine zcVi (As := []) (rest := []) ⟨hx, hb, hml, hown, hts⟩ (k_X1_drawTile l G K c (ag 0) s711.2.1 r18 g18 e_18) (cwV 0 hts gX7_draw_X1_drawTile rfl rfl rfl hd_X1_drawTile ⟨Nat.le_of_ble_eq_true rfl, Nat.le_of_ble_eq_true rfl⟩) hK hN hZ hP hD hS hA (va_recv hK hP (ci := 1) (q0 := 2) rfl rfl) [2, 3, 4, 5, 6, 7, 8, 9, 10, 11] rfl (by decide) rfl rfl hl.1 rfl (Nat.le_of_ble_eq_true rfl) dX7_draw_18 ⟨Nat.zero_le _, Nat.zero_le _⟩ (fun H locs hP hD hS => ?_)
  have hP : va_P G vwCl (wH c ah ag ar ps (s711.1, g18, s711.2.2.1, s711.2.2.2.1, s711.2.2.2.2.1, s711.2.2.2.2.2)) H := (congrArg (fun w => va_P G vwCl w H) (zsg (c := c) (ah := ah) (ag := ag) (ar := ar) (ps := ps) (s := s711) (g := g18))).mp hP
  have hD : va_D A (wH c ah ag ar ps (s711.1, g18, s711.2.2.1, s711.2.2.2.1, s711.2.2.2.2.1, s711.2.2.2.2.2)) := (congrArg (fun w => va_D A w) (zsg (c := c) (ah := ah) (ag := ag) (ar := ar) (ps := ps) (s := s711) (g := g18))).mp hD
  exact hend H locs ls _ _ _ rfl (Prod.mk.inj (Option.some.inj hm)).1 (zc1 (fun (z0 : HS) => (wH c ah ag ar ps z0 : va_W)) (Prod.mk.inj (Option.some.inj hm)).2) hP hD hS dX7_draw_21


def f_X7_pass (s7 : HS) : Option (Int32 × HS) :=
  bd1 (f_X1_mayPass s7.2.1) fun (r4 : Int32) => bd1 (f_X7_checkAllowed r4) fun (_ : Unit) => bd1 (f_X7_remember s7) fun (s711 : HS) => bd1 (f_X1_passTurn s711.2.1) fun (g18 : GS) => some ((g18.1.1 5), (s711.1, g18, s711.2.2.1, s711.2.2.2.1, s711.2.2.2.2.1, s711.2.2.2.2.2))

abbrev rm_X7_pass : Room := { frames := 7, cells := 0, slots := 0, locals := 150 }
theorem hd_X7_pass : yX7_pass.cls = RX7 ∧ yX7_pass.cls ≠ "java/lang/invoke/MethodHandle" ∧ yX7_pass.cls ≠ "java/lang/invoke/VarHandle" ∧ (parseMethodDescriptor yX7_pass.desc).map (fun d => d.parameters.length) = some 0 := by decide +kernel
set_option maxHeartbeats 4000000 in
set_option maxRecDepth 100000 in
theorem k_X7_pass (l : Launch) (G : va_G) (K : (Nat → Nat) × (Nat → Nat)) (c : Nat → ClassId) (ah : Nat → Nat) (ag : Nat → Nat → Nat) (ar : Nat → Nat) (ps : PS) (s7 : HS) (r : Int32) (s7_r : HS) (hm : f_X7_pass s7 = some (r, s7_r)) : zMi l yX7_pass wsX7_pass (rm_X7_pass) G K (TY c) [.ref (ah 0)] (wH c ah ag ar ps s7) (wH c ah ag ar ps s7_r) r := by
  refine zMi.of (cc := cX7_pass) (maxL := 1) (lv := [(0, .ref (ah 0))]) (by decide) rfl (Nat.le_of_ble_eq_true rfl) rfl ?_
  intro p e s m args below meth c1 A Q H locs hx hb hml hown hts hK hN hZ hP hD hA hS hend ls hl
  have hown : s.vm.findClass RX7 = some m.cls := hown
  have hi_1 : ∀ w ∈ wsX10, w ∈ wsX7_pass := (fun w h => List.mem_cons_of_mem _ (List.mem_append_left _ (List.mem_append_left _ (List.mem_append_left _ (List.mem_append_right _ (h))))))
  have hi_7 : ∀ w ∈ wsX70, w ∈ wsX7_pass := (fun w h => List.mem_cons_of_mem _ (List.mem_append_left _ (List.mem_append_left _ (List.mem_append_left _ (List.mem_append_left _ (List.mem_append_right _ (h)))))))
  unfold f_X7_pass at hm
  refine lv_aload_n hx hb dX7_pass_0 rfl (lv_at hl 0 rfl) ?_
  refine va_get (D := G) (ci := 7) (v := .ref (ag 0 0)) (C := RX7) (T := TX7) (N := 7) hx hb hts hi_7 hown hK hP 0 rfl rfl 0 (by decide) (hts (.fieldLink RX7 10 "HubTrains" "game" "LHubTrains$Game;") (List.mem_of_getElem? (i := 1) rfl)) (fun _ h9 => h9) rfl dX7_pass_1 ?_
  obtain ⟨r4, e_4, hm⟩ := bd1_s hm
  refine zcVi (As := []) (rest := []) ⟨hx, hb, hml, hown, hts⟩ (k_X1_mayPass l G K c (ag 0) s7.2.1 r4 e_4) (cwV 0 hts gX7_pass_X1_mayPass rfl rfl rfl hd_X1_mayPass ⟨Nat.le_of_ble_eq_true rfl, Nat.le_of_ble_eq_true rfl⟩) hK hN hZ hP hD hS hA (va_recv hK hP (ci := 1) (q0 := 2) rfl rfl) [2, 3, 4, 5, 6, 7, 8, 9, 10, 11] rfl (by decide) rfl rfl hl.1 rfl (Nat.le_of_ble_eq_true rfl) dX7_pass_4 ⟨Nat.zero_le _, Nat.zero_le _⟩ (fun H locs hP hD hS => ?_)
  have hP : va_P G vwCl (wH c ah ag ar ps s7) H := (congrArg (fun w => va_P G vwCl w H) (zset_id _ _ _ rfl)).mp hP
  have hD : va_D A (wH c ah ag ar ps s7) := (congrArg (fun w => va_D A w) (zset_id _ _ _ rfl)).mp hD
  obtain ⟨e_u7, e_7, hm⟩ := bd1_s hm
  refine zcSv (As := [.int r4]) (rest := []) ⟨hx, hb, hml, hown, hts⟩ (k_X7_checkAllowed l G K c r4 e_7) (va_cwS 1 hts gX7_pass_X7_checkAllowed rfl rfl rfl hd_X7_checkAllowed.2 ⟨Nat.le_of_ble_eq_true rfl, Nat.le_of_ble_eq_true rfl⟩) hK hN hZ hP hD hS hA [] rfl (by decide) rfl rfl hl.1 rfl (Nat.le_of_ble_eq_true rfl) dX7_pass_7 ⟨Nat.zero_le _, Nat.zero_le _⟩ (fun H locs hP hD hS => ?_)
  have hP : va_P G vwCl (wH c ah ag ar ps s7) H := (congrArg (fun w => va_P G vwCl w H) (zset_id _ _ _ rfl)).mp hP
  have hD : va_D A (wH c ah ag ar ps s7) := (congrArg (fun w => va_D A w) (zset_id _ _ _ rfl)).mp hD
  refine lv_aload_n hx hb dX7_pass_10 rfl (lv_at hl 0 rfl) ?_
  obtain ⟨s711, e_11, hm⟩ := bd1_s hm
  refine zcWv (As := []) (rest := []) ⟨hx, hb, hml, hown, hts⟩ (k_X7_remember l G K c ah ag ar ps s7 s711 e_11) (cwV 0 hts gX7_pass_X7_remember rfl rfl rfl hd_X7_remember ⟨Nat.le_of_ble_eq_true rfl, Nat.le_of_ble_eq_true rfl⟩) hK hN hZ hP hD hS hA (va_recv hK hP (ci := 7) (q0 := 0) rfl rfl) rfl hl.1 rfl (Nat.le_of_ble_eq_true rfl) dX7_pass_11 ⟨Nat.zero_le _, Nat.zero_le _⟩ (fun H locs hP hD hS => ?_)
  have hP : va_P G vwCl (wH c ah ag ar ps s711) H := hP
  have hD : va_D A (wH c ah ag ar ps s711) := hD
  refine lv_aload_n hx hb dX7_pass_14 rfl (lv_at hl 0 rfl) ?_
  refine va_get (D := G) (ci := 7) (v := .ref (ag 0 0)) (C := RX7) (T := TX7) (N := 7) hx hb hts hi_7 hown hK hP 0 rfl rfl 0 (by decide) (hts (.fieldLink RX7 10 "HubTrains" "game" "LHubTrains$Game;") (List.mem_of_getElem? (i := 1) rfl)) (fun _ h9 => h9) rfl dX7_pass_15 ?_
  obtain ⟨g18, e_18, hm⟩ := bd1_s hm
  refine zcVv (As := []) (rest := []) ⟨hx, hb, hml, hown, hts⟩ (k_X1_passTurn l G K c (ag 0) s711.2.1 g18 e_18) (cwV 0 hts gX7_pass_X1_passTurn rfl rfl rfl hd_X1_passTurn ⟨Nat.le_of_ble_eq_true rfl, Nat.le_of_ble_eq_true rfl⟩) hK hN hZ hP hD hS hA (va_recv hK hP (ci := 1) (q0 := 2) rfl rfl) [2, 3, 4, 5, 6, 7, 8, 9, 10, 11] rfl (by decide) rfl rfl hl.1 rfl (Nat.le_of_ble_eq_true rfl) dX7_pass_18 ⟨Nat.zero_le _, Nat.zero_le _⟩ (fun H locs hP hD hS => ?_)
  have hP : va_P G vwCl (wH c ah ag ar ps (s711.1, g18, s711.2.2.1, s711.2.2.2.1, s711.2.2.2.2.1, s711.2.2.2.2.2)) H := (congrArg (fun w => va_P G vwCl w H) (zsg (c := c) (ah := ah) (ag := ag) (ar := ar) (ps := ps) (s := s711) (g := g18))).mp hP
  have hD : va_D A (wH c ah ag ar ps (s711.1, g18, s711.2.2.1, s711.2.2.2.1, s711.2.2.2.2.1, s711.2.2.2.2.2)) := (congrArg (fun w => va_D A w) (zsg (c := c) (ah := ah) (ag := ag) (ar := ar) (ps := ps) (s := s711) (g := g18))).mp hD
  refine lv_aload_n hx hb dX7_pass_21 rfl (lv_at hl 0 rfl) ?_
  refine va_get (D := G) (ci := 7) (v := .ref (ag 0 0)) (C := RX7) (T := TX7) (N := 7) hx hb hts hi_7 hown hK hP 0 rfl rfl 0 (by decide) (hts (.fieldLink RX7 10 "HubTrains" "game" "LHubTrains$Game;") (List.mem_of_getElem? (i := 1) rfl)) (fun _ h9 => h9) rfl dX7_pass_22 ?_
  refine va_getN (D := G) (ci := 1) (v := .int (g18.1.1 5)) (C := RX1) (T := TX1) (N := 16) hx hb hts hi_1 hown hK hP 2 rfl rfl 5 (by decide) (va_Nw.use rfl (nwf_HubTrains_185 hN.1)) (fun _ h9 => h9) rfl dX7_pass_25 ?_
  exact hend H locs ls _ _ _ rfl (Prod.mk.inj (Option.some.inj hm)).1 (zc1 (fun (z0 : HS) => (wH c ah ag ar ps z0 : va_W)) (Prod.mk.inj (Option.some.inj hm)).2) hP hD hS dX7_pass_28


def f_X7_auto (s7 : HS) (ps : PS) (p0 : Int32) : Option (Int32 × HS × PS) :=
  if p0 < 1 then (none) else (if p0 ≤ 200 then (bd1 (f_X7_remember s7) fun (s721 : HS) => bd1 (pget ps (s721.2.1.2.1)) fun (qq_29 : Nat × Nat × Nat × SA) => bd3 (f_X1_playOn qq_29.2.2.1 (s721.2.1.2.1) s721.2.1 qq_29.2.2.2 p0) fun (r29 : Int32) (g29 : GS) (f29 : SA) => nmd (pput ps (s721.2.1.2.1) f29) fun (ps_29 : PS) => some (r29, (s721.1, g29, s721.2.2.1, s721.2.2.2.1, s721.2.2.2.2.1, s721.2.2.2.2.2), ps_29)) else (none))

abbrev rm_X7_auto : Room := { frames := 7, cells := 0, slots := 0, locals := 169 }
theorem hd_X7_auto : yX7_auto.cls = RX7 ∧ yX7_auto.cls ≠ "java/lang/invoke/MethodHandle" ∧ yX7_auto.cls ≠ "java/lang/invoke/VarHandle" ∧ (parseMethodDescriptor yX7_auto.desc).map (fun d => d.parameters.length) = some 1 := by decide +kernel
set_option maxHeartbeats 4000000 in
set_option maxRecDepth 100000 in
theorem k_X7_auto (l : Launch) (G : va_G) (K : (Nat → Nat) × (Nat → Nat)) (c : Nat → ClassId) (ah : Nat → Nat) (ag : Nat → Nat → Nat) (ar : Nat → Nat) (s7 : HS) (ps : PS) (p0 : Int32) (r : Int32) (s7_r : HS) (ps_r : PS) (hm : f_X7_auto s7 ps p0 = some (r, s7_r, ps_r)) : zMi l yX7_auto wsX7_auto (rm_X7_auto) G K (TY c) [.ref (ah 0), .int p0] (wH c ah ag ar ps s7) (wH c ah ag ar ps_r s7_r) r := by
  refine zMi.of (cc := cX7_auto) (maxL := 2) (lv := [(0, .ref (ah 0)), (1, .int p0)]) (by decide) rfl (Nat.le_of_ble_eq_true rfl) rfl ?_
  intro p e s m args below meth c1 A Q H locs hx hb hml hown hts hK hN hZ hP hD hA hS hend ls hl
  have hown : s.vm.findClass RX7 = some m.cls := hown
  have hi_7 : ∀ w ∈ wsX70, w ∈ wsX7_auto := (fun w h => List.mem_cons_of_mem _ (List.mem_append_left _ (List.mem_append_left _ (List.mem_append_left _ (List.mem_append_left _ (List.mem_append_left _ (List.mem_append_right _ (h))))))))
  unfold f_X7_auto at hm
  refine lv_iload_n hx hb dX7_auto_0 rfl (lv_at hl 1 rfl) ?_
  refine lv_iconst (v := 1) hx hb dX7_auto_1 (by decide) ?_
  refine lv_icmp_lt (tgt := 12) hx hb dX7_auto_2 (by decide) (fun c_2 => ?_) (fun c_2 => ?_)
  · have hm := ifp c_2 hm
    cases hm
  · have hm := ifn c_2 hm
    refine lv_iload_n hx hb dX7_auto_5 rfl (lv_at hl 1 rfl) ?_
    refine lv_sipush (v := 200) hx hb dX7_auto_6 (by decide) ?_
    refine lv_icmp_le (tgt := 20) hx hb dX7_auto_9 (by decide) (fun c_9 => ?_) (fun c_9 => ?_)
    · have hm := ifp c_9 hm
      refine lv_aload_n hx hb dX7_auto_20 rfl (lv_at hl 0 rfl) ?_
      obtain ⟨s721, e_21, hm⟩ := bd1_s hm
      refine zcWv (As := []) (rest := []) ⟨hx, hb, hml, hown, hts⟩ (k_X7_remember l G K c ah ag ar ps s7 s721 e_21) (cwV 0 hts gX7_auto_X7_remember rfl rfl rfl hd_X7_remember ⟨Nat.le_of_ble_eq_true rfl, Nat.le_of_ble_eq_true rfl⟩) hK hN hZ hP hD hS hA (va_recv hK hP (ci := 7) (q0 := 0) rfl rfl) rfl hl.1 rfl (Nat.le_of_ble_eq_true rfl) dX7_auto_21 ⟨Nat.zero_le _, Nat.zero_le _⟩ (fun H locs hP hD hS => ?_)
      have hP : va_P G vwCl (wH c ah ag ar ps s721) H := hP
      have hD : va_D A (wH c ah ag ar ps s721) := hD
      refine lv_aload_n hx hb dX7_auto_24 rfl (lv_at hl 0 rfl) ?_
      refine va_get (D := G) (ci := 7) (v := .ref (ag 0 0)) (C := RX7) (T := TX7) (N := 7) hx hb hts hi_7 hown hK hP 0 rfl rfl 0 (by decide) (hts (.fieldLink RX7 10 "HubTrains" "game" "LHubTrains$Game;") (List.mem_of_getElem? (i := 3) rfl)) (fun _ h9 => h9) rfl dX7_auto_25 ?_
      refine lv_iload_n hx hb dX7_auto_28 rfl (lv_at hl 1 rfl) ?_
      obtain ⟨⟨q1_29, q2_29, qn_29, qf_29⟩, eq_29, hm⟩ := bd1_s hm
      obtain ⟨r29, g29, f29, e_29, hm⟩ := bd3_s hm
      refine zcPi eq_29 (As := [.int p0]) (rest := []) ⟨hx, hb, hml, hown, hts⟩ (k_X1_playOn l G K c (ag 0) q1_29 q2_29 qn_29 (s721.2.1.2.1) s721.2.1 qf_29 p0 r29 g29 f29 e_29) (cwV 1 hts gX7_auto_X1_playOn rfl rfl rfl hd_X1_playOn ⟨Nat.le_of_ble_eq_true rfl, Nat.le_of_ble_eq_true rfl⟩) hK hN hZ hP hD hS hA (va_recv hK hP (ci := 1) (q0 := 2) rfl rfl) [2, 3, 4, 5, 6, 7, 8, 9, 10, 11] rfl (by decide) rfl rfl hl.1 rfl (Nat.le_of_ble_eq_true rfl) dX7_auto_29 ⟨Nat.zero_le _, Nat.zero_le _⟩ (fun H locs hP hD hS => ?_)
      obtain ⟨ps_29, e_ps_29⟩ : ∃ z : PS, z = pput ps (s721.2.1.2.1) f29 := ⟨_, rfl⟩
      have hP : va_P G vwCl (wH c ah ag ar ps_29 (s721.1, g29, s721.2.2.1, s721.2.2.2.1, s721.2.2.2.2.1, s721.2.2.2.2.2)) H := by rw [e_ps_29]; exact (congrArg (fun w => va_P G vwCl (w ++ wP c (pput ps (s721.2.1.2.1) f29)) H) (zsg0 (c := c) (ah := ah) (ag := ag) (ar := ar) (s := s721) (g := g29))).mp hP
      have hD : va_D A (wH c ah ag ar ps_29 (s721.1, g29, s721.2.2.1, s721.2.2.2.1, s721.2.2.2.2.1, s721.2.2.2.2.2)) := by rw [e_ps_29]; exact (congrArg (fun w => va_D A (w ++ wP c (pput ps (s721.2.1.2.1) f29))) (zsg0 (c := c) (ah := ah) (ag := ag) (ar := ar) (s := s721) (g := g29))).mp hD
      have hm := nmd_s hm ps_29 e_ps_29
      exact hend H locs ls _ _ _ rfl (Prod.mk.inj (Option.some.inj hm)).1 (zc2 (fun (z0 : HS) (z1 : PS) => (wH c ah ag ar z1 z0 : va_W)) (Prod.mk.inj (Prod.mk.inj (Option.some.inj hm)).2).1 (Prod.mk.inj (Prod.mk.inj (Option.some.inj hm)).2).2) hP hD hS dX7_auto_32
    · have hm := ifn c_9 hm
      cases hm


def f_X7_deal (s7 : HS) (p0 : Int32) (p1 : Int32) : Option (Int32 × HS) :=
  if p0 < 0 then (none) else (if (s7.2.1.1.1 0) < p0 then (none) else (if p1 < 0 then (none) else (if p1 ≤ 9999 then (bd1 (f_X7_checkAllowed (s7.2.1.1.1 8)) fun (_ : Unit) => bd1 (f_X7_remember s7) fun (s745 : HS) => bd1 (f_X1_clearHands ((ss (ss s745.2.1.1 3 p0) 4 p1), (s745.2.1.2.1), s745.2.1.2.2.1, s745.2.1.2.2.2)) fun (g68 : GS) => bd1 (f_X1_dealRound g68) fun (g75 : GS) => bd1 (f_X4_size g75.2.2.1) fun (r85 : Int32) => some (r85, (s745.1, g75, s745.2.2.1, s745.2.2.2.1, s745.2.2.2.2.1, s745.2.2.2.2.2))) else (none))))

abbrev rm_X7_deal : Room := { frames := 5, cells := 0, slots := 0, locals := 124 }
theorem hd_X7_deal : yX7_deal.cls = RX7 ∧ yX7_deal.cls ≠ "java/lang/invoke/MethodHandle" ∧ yX7_deal.cls ≠ "java/lang/invoke/VarHandle" ∧ (parseMethodDescriptor yX7_deal.desc).map (fun d => d.parameters.length) = some 2 := by decide +kernel
set_option maxHeartbeats 4000000 in
set_option maxRecDepth 100000 in
theorem k_X7_deal (l : Launch) (G : va_G) (K : (Nat → Nat) × (Nat → Nat)) (c : Nat → ClassId) (ah : Nat → Nat) (ag : Nat → Nat → Nat) (ar : Nat → Nat) (ps : PS) (s7 : HS) (p0 : Int32) (p1 : Int32) (r : Int32) (s7_r : HS) (hm : f_X7_deal s7 p0 p1 = some (r, s7_r)) : zMi l yX7_deal wsX7_deal (rm_X7_deal) G K (TY c) [.ref (ah 0), .int p0, .int p1] (wH c ah ag ar ps s7) (wH c ah ag ar ps s7_r) r := by
  refine zMi.of (cc := cX7_deal) (maxL := 3) (lv := [(0, .ref (ah 0)), (1, .int p0), (2, .int p1)]) (by decide) rfl (Nat.le_of_ble_eq_true rfl) rfl ?_
  intro p e s m args below meth c1 A Q H locs hx hb hml hown hts hK hN hZ hP hD hA hS hend ls hl
  have hown : s.vm.findClass RX7 = some m.cls := hown
  have hi_1 : ∀ w ∈ wsX10, w ∈ wsX7_deal := (fun w h => List.mem_cons_of_mem _ (List.mem_append_left _ (List.mem_append_left _ (List.mem_append_left _ (List.mem_append_left _ (List.mem_append_right _ (h)))))))
  have hi_7 : ∀ w ∈ wsX70, w ∈ wsX7_deal := (fun w h => List.mem_cons_of_mem _ (List.mem_append_left _ (List.mem_append_left _ (List.mem_append_left _ (List.mem_append_left _ (List.mem_append_left _ (List.mem_append_right _ (h))))))))
  unfold f_X7_deal at hm
  refine lv_iload_n hx hb dX7_deal_0 rfl (lv_at hl 1 rfl) ?_
  refine lv_if_lt (tgt := 26) hx hb dX7_deal_1 (by decide) (fun c_1 => ?_) (fun c_1 => ?_)
  · have hm := ifp c_1 hm
    cases hm
  · have hm := ifn c_1 hm
    refine lv_iload_n hx hb dX7_deal_4 rfl (lv_at hl 1 rfl) ?_
    refine lv_aload_n hx hb dX7_deal_5 rfl (lv_at hl 0 rfl) ?_
    refine va_get (D := G) (ci := 7) (v := .ref (ag 0 0)) (C := RX7) (T := TX7) (N := 7) hx hb hts hi_7 hown hK hP 0 rfl rfl 0 (by decide) (hts (.fieldLink RX7 10 "HubTrains" "game" "LHubTrains$Game;") (List.mem_of_getElem? (i := 3) rfl)) (fun _ h9 => h9) rfl dX7_deal_6 ?_
    refine va_getN (D := G) (ci := 1) (v := .int (s7.2.1.1.1 0)) (C := RX1) (T := TX1) (N := 16) hx hb hts hi_1 hown hK hP 2 rfl rfl 0 (by decide) (va_Nw.use rfl (nwf_HubTrains_188 hN.1)) (fun _ h9 => h9) rfl dX7_deal_9 ?_
    refine lv_icmp_gt (tgt := 26) hx hb dX7_deal_12 (by decide) (fun c_12 => ?_) (fun c_12 => ?_)
    · have hm := ifp c_12 hm
      cases hm
    · have hm := ifn c_12 hm
      refine lv_iload_n hx hb dX7_deal_15 rfl (lv_at hl 2 rfl) ?_
      refine lv_if_lt (tgt := 26) hx hb dX7_deal_16 (by decide) (fun c_16 => ?_) (fun c_16 => ?_)
      · have hm := ifp c_16 hm
        cases hm
      · have hm := ifn c_16 hm
        refine lv_iload_n hx hb dX7_deal_19 rfl (lv_at hl 2 rfl) ?_
        refine lv_sipush (v := 9999) hx hb dX7_deal_20 (by decide) ?_
        refine lv_icmp_le (tgt := 34) hx hb dX7_deal_23 (by decide) (fun c_23 => ?_) (fun c_23 => ?_)
        · have hm := ifp c_23 hm
          refine lv_aload_n hx hb dX7_deal_34 rfl (lv_at hl 0 rfl) ?_
          refine va_get (D := G) (ci := 7) (v := .ref (ag 0 0)) (C := RX7) (T := TX7) (N := 7) hx hb hts hi_7 hown hK hP 0 rfl rfl 0 (by decide) (hts (.fieldLink RX7 10 "HubTrains" "game" "LHubTrains$Game;") (List.mem_of_getElem? (i := 3) rfl)) (fun _ h9 => h9) rfl dX7_deal_35 ?_
          refine va_getN (D := G) (ci := 1) (v := .int (s7.2.1.1.1 8)) (C := RX1) (T := TX1) (N := 16) hx hb hts hi_1 hown hK hP 2 rfl rfl 8 (by decide) (va_Nw.use rfl (nwf_HubTrains_191 hN.1)) (fun _ h9 => h9) rfl dX7_deal_38 ?_
          obtain ⟨e_u41, e_41, hm⟩ := bd1_s hm
          refine zcSv (As := [.int (s7.2.1.1.1 8)]) (rest := []) ⟨hx, hb, hml, hown, hts⟩ (k_X7_checkAllowed l G K c (s7.2.1.1.1 8) e_41) (va_cwS 1 hts gX7_deal_X7_checkAllowed rfl rfl rfl hd_X7_checkAllowed.2 ⟨Nat.le_of_ble_eq_true rfl, Nat.le_of_ble_eq_true rfl⟩) hK hN hZ hP hD hS hA [] rfl (by decide) rfl rfl hl.1 rfl (Nat.le_of_ble_eq_true rfl) dX7_deal_41 ⟨Nat.zero_le _, Nat.zero_le _⟩ (fun H locs hP hD hS => ?_)
          have hP : va_P G vwCl (wH c ah ag ar ps s7) H := (congrArg (fun w => va_P G vwCl w H) (zset_id _ _ _ rfl)).mp hP
          have hD : va_D A (wH c ah ag ar ps s7) := (congrArg (fun w => va_D A w) (zset_id _ _ _ rfl)).mp hD
          refine lv_aload_n hx hb dX7_deal_44 rfl (lv_at hl 0 rfl) ?_
          obtain ⟨s745, e_45, hm⟩ := bd1_s hm
          refine zcWv (As := []) (rest := []) ⟨hx, hb, hml, hown, hts⟩ (k_X7_remember l G K c ah ag ar ps s7 s745 e_45) (cwV 0 hts gX7_deal_X7_remember rfl rfl rfl hd_X7_remember ⟨Nat.le_of_ble_eq_true rfl, Nat.le_of_ble_eq_true rfl⟩) hK hN hZ hP hD hS hA (va_recv hK hP (ci := 7) (q0 := 0) rfl rfl) rfl hl.1 rfl (Nat.le_of_ble_eq_true rfl) dX7_deal_45 ⟨Nat.zero_le _, Nat.zero_le _⟩ (fun H locs hP hD hS => ?_)
          have hP : va_P G vwCl (wH c ah ag ar ps s745) H := hP
          have hD : va_D A (wH c ah ag ar ps s745) := hD
          refine lv_aload_n hx hb dX7_deal_48 rfl (lv_at hl 0 rfl) ?_
          refine va_get (D := G) (ci := 7) (v := .ref (ag 0 0)) (C := RX7) (T := TX7) (N := 7) hx hb hts hi_7 hown hK hP 0 rfl rfl 0 (by decide) (hts (.fieldLink RX7 10 "HubTrains" "game" "LHubTrains$Game;") (List.mem_of_getElem? (i := 3) rfl)) (fun _ h9 => h9) rfl dX7_deal_49 ?_
          refine lv_iload_n hx hb dX7_deal_52 rfl (lv_at hl 1 rfl) ?_
          refine va_putN (D := G) (ci := 1) (v := .int p0) (C := RX1) (T := TX1) (N := 16) hx hb hts hi_1 tyX1 tyX1_ok nmX1 hown hK hP hD hS 2 rfl rfl 3 (by decide) (va_Nw.use rfl (nwf_HubTrains_195 hN.1)) (fun _ h9 => h9) rfl (tyX1_ok 3 (by decide)) rfl rfl (Nat.le_of_ble_eq_true rfl) dX7_deal_53 (fun H locs hP hD hS => ?_)
          have hP : va_P G vwCl (wH c ah ag ar ps (s745.1, ((ss s745.2.1.1 3 p0), (s745.2.1.2.1), s745.2.1.2.2.1, s745.2.1.2.2.2), s745.2.2.1, s745.2.2.2.1, s745.2.2.2.2.1, s745.2.2.2.2.2)) H := hP
          have hD : va_D A (wH c ah ag ar ps (s745.1, ((ss s745.2.1.1 3 p0), (s745.2.1.2.1), s745.2.1.2.2.1, s745.2.1.2.2.2), s745.2.2.1, s745.2.2.2.1, s745.2.2.2.2.1, s745.2.2.2.2.2)) := hD
          refine lv_aload_n hx hb dX7_deal_56 rfl (lv_at hl 0 rfl) ?_
          refine va_get (D := G) (ci := 7) (v := .ref (ag 0 0)) (C := RX7) (T := TX7) (N := 7) hx hb hts hi_7 hown hK hP 0 rfl rfl 0 (by decide) (hts (.fieldLink RX7 10 "HubTrains" "game" "LHubTrains$Game;") (List.mem_of_getElem? (i := 3) rfl)) (fun _ h9 => h9) rfl dX7_deal_57 ?_
          refine lv_iload_n hx hb dX7_deal_60 rfl (lv_at hl 2 rfl) ?_
          refine va_putN (D := G) (ci := 1) (v := .int p1) (C := RX1) (T := TX1) (N := 16) hx hb hts hi_1 tyX1 tyX1_ok nmX1 hown hK hP hD hS 2 rfl rfl 4 (by decide) (va_Nw.use rfl (nwf_HubTrains_198 hN.1)) (fun _ h9 => h9) rfl (tyX1_ok 4 (by decide)) rfl rfl (Nat.le_of_ble_eq_true rfl) dX7_deal_61 (fun H locs hP hD hS => ?_)
          have hP : va_P G vwCl (wH c ah ag ar ps (s745.1, ((ss (ss s745.2.1.1 3 p0) 4 p1), (s745.2.1.2.1), s745.2.1.2.2.1, s745.2.1.2.2.2), s745.2.2.1, s745.2.2.2.1, s745.2.2.2.2.1, s745.2.2.2.2.2)) H := hP
          have hD : va_D A (wH c ah ag ar ps (s745.1, ((ss (ss s745.2.1.1 3 p0) 4 p1), (s745.2.1.2.1), s745.2.1.2.2.1, s745.2.1.2.2.2), s745.2.2.1, s745.2.2.2.1, s745.2.2.2.2.1, s745.2.2.2.2.2)) := hD
          refine lv_aload_n hx hb dX7_deal_64 rfl (lv_at hl 0 rfl) ?_
          refine va_get (D := G) (ci := 7) (v := .ref (ag 0 0)) (C := RX7) (T := TX7) (N := 7) hx hb hts hi_7 hown hK hP 0 rfl rfl 0 (by decide) (hts (.fieldLink RX7 10 "HubTrains" "game" "LHubTrains$Game;") (List.mem_of_getElem? (i := 3) rfl)) (fun _ h9 => h9) rfl dX7_deal_65 ?_
          obtain ⟨g68, e_68, hm⟩ := bd1_s hm
          refine zcVv (As := []) (rest := []) ⟨hx, hb, hml, hown, hts⟩ (k_X1_clearHands l G K c (ag 0) ((ss (ss s745.2.1.1 3 p0) 4 p1), (s745.2.1.2.1), s745.2.1.2.2.1, s745.2.1.2.2.2) g68 e_68) (cwV 0 hts gX7_deal_X1_clearHands rfl rfl rfl hd_X1_clearHands ⟨Nat.le_of_ble_eq_true rfl, Nat.le_of_ble_eq_true rfl⟩) hK hN hZ hP hD hS hA (va_recv hK hP (ci := 1) (q0 := 2) rfl rfl) [2, 3, 4, 5, 6, 7, 8, 9, 10, 11] rfl (by decide) rfl rfl hl.1 rfl (Nat.le_of_ble_eq_true rfl) dX7_deal_68 ⟨Nat.zero_le _, Nat.zero_le _⟩ (fun H locs hP hD hS => ?_)
          have hP : va_P G vwCl (wH c ah ag ar ps (s745.1, g68, s745.2.2.1, s745.2.2.2.1, s745.2.2.2.2.1, s745.2.2.2.2.2)) H := (congrArg (fun w => va_P G vwCl w H) (zsg (c := c) (ah := ah) (ag := ag) (ar := ar) (ps := ps) (s := (s745.1, ((ss (ss s745.2.1.1 3 p0) 4 p1), (s745.2.1.2.1), s745.2.1.2.2.1, s745.2.1.2.2.2), s745.2.2.1, s745.2.2.2.1, s745.2.2.2.2.1, s745.2.2.2.2.2)) (g := g68))).mp hP
          have hD : va_D A (wH c ah ag ar ps (s745.1, g68, s745.2.2.1, s745.2.2.2.1, s745.2.2.2.2.1, s745.2.2.2.2.2)) := (congrArg (fun w => va_D A w) (zsg (c := c) (ah := ah) (ag := ag) (ar := ar) (ps := ps) (s := (s745.1, ((ss (ss s745.2.1.1 3 p0) 4 p1), (s745.2.1.2.1), s745.2.1.2.2.1, s745.2.1.2.2.2), s745.2.2.1, s745.2.2.2.1, s745.2.2.2.2.1, s745.2.2.2.2.2)) (g := g68))).mp hD
          refine lv_aload_n hx hb dX7_deal_71 rfl (lv_at hl 0 rfl) ?_
          refine va_get (D := G) (ci := 7) (v := .ref (ag 0 0)) (C := RX7) (T := TX7) (N := 7) hx hb hts hi_7 hown hK hP 0 rfl rfl 0 (by decide) (hts (.fieldLink RX7 10 "HubTrains" "game" "LHubTrains$Game;") (List.mem_of_getElem? (i := 3) rfl)) (fun _ h9 => h9) rfl dX7_deal_72 ?_
          obtain ⟨g75, e_75, hm⟩ := bd1_s hm
          refine zcVv (As := []) (rest := []) ⟨hx, hb, hml, hown, hts⟩ (k_X1_dealRound l G K c (ag 0) g68 g75 e_75) (cwV 0 hts gX7_deal_X1_dealRound rfl rfl rfl hd_X1_dealRound ⟨Nat.le_of_ble_eq_true rfl, Nat.le_of_ble_eq_true rfl⟩) hK hN hZ hP hD hS hA (va_recv hK hP (ci := 1) (q0 := 2) rfl rfl) [2, 3, 4, 5, 6, 7, 8, 9, 10, 11] rfl (by decide) rfl rfl hl.1 rfl (Nat.le_of_ble_eq_true rfl) dX7_deal_75 ⟨Nat.zero_le _, Nat.zero_le _⟩ (fun H locs hP hD hS => ?_)
          have hP : va_P G vwCl (wH c ah ag ar ps (s745.1, g75, s745.2.2.1, s745.2.2.2.1, s745.2.2.2.2.1, s745.2.2.2.2.2)) H := (congrArg (fun w => va_P G vwCl w H) (zsg (c := c) (ah := ah) (ag := ag) (ar := ar) (ps := ps) (s := (s745.1, g68, s745.2.2.1, s745.2.2.2.1, s745.2.2.2.2.1, s745.2.2.2.2.2)) (g := g75))).mp hP
          have hD : va_D A (wH c ah ag ar ps (s745.1, g75, s745.2.2.1, s745.2.2.2.1, s745.2.2.2.2.1, s745.2.2.2.2.2)) := (congrArg (fun w => va_D A w) (zsg (c := c) (ah := ah) (ag := ag) (ar := ar) (ps := ps) (s := (s745.1, g68, s745.2.2.1, s745.2.2.2.1, s745.2.2.2.2.1, s745.2.2.2.2.2)) (g := g75))).mp hD
          refine lv_aload_n hx hb dX7_deal_78 rfl (lv_at hl 0 rfl) ?_
          refine va_get (D := G) (ci := 7) (v := .ref (ag 0 0)) (C := RX7) (T := TX7) (N := 7) hx hb hts hi_7 hown hK hP 0 rfl rfl 0 (by decide) (hts (.fieldLink RX7 10 "HubTrains" "game" "LHubTrains$Game;") (List.mem_of_getElem? (i := 3) rfl)) (fun _ h9 => h9) rfl dX7_deal_79 ?_
          refine va_getN (D := G) (ci := 1) (v := .ref (ag 0 3)) (C := RX1) (T := TX1) (N := 16) hx hb hts hi_1 hown hK hP 2 rfl rfl 14 (by decide) (va_Nw.use rfl (nwf_HubTrains_69 hN.1)) (fun _ h9 => h9) rfl dX7_deal_82 ?_
          obtain ⟨r85, e_85, hm⟩ := bd1_s hm
          refine zcVi (As := []) (rest := []) ⟨hx, hb, hml, hown, hts⟩ (k_X4_size l G K c (ag 0 3) (ag 0 4) g75.2.2.1 r85 e_85) (cwV 0 hts gX7_deal_X4_size rfl rfl rfl hd_X4_size ⟨Nat.le_of_ble_eq_true rfl, Nat.le_of_ble_eq_true rfl⟩) hK hN hZ hP hD hS hA (va_recv hK hP (ci := 4) (q0 := 5) rfl rfl) [5, 6] rfl (by decide) rfl rfl hl.1 rfl (Nat.le_of_ble_eq_true rfl) dX7_deal_85 ⟨Nat.zero_le _, Nat.zero_le _⟩ (fun H locs hP hD hS => ?_)
          have hP : va_P G vwCl (wH c ah ag ar ps (s745.1, g75, s745.2.2.1, s745.2.2.2.1, s745.2.2.2.2.1, s745.2.2.2.2.2)) H := (congrArg (fun w => va_P G vwCl w H) (zset_id _ _ _ rfl)).mp hP
          have hD : va_D A (wH c ah ag ar ps (s745.1, g75, s745.2.2.1, s745.2.2.2.1, s745.2.2.2.2.1, s745.2.2.2.2.2)) := (congrArg (fun w => va_D A w) (zset_id _ _ _ rfl)).mp hD
          exact hend H locs ls _ _ _ rfl (Prod.mk.inj (Option.some.inj hm)).1 (zc1 (fun (z0 : HS) => (wH c ah ag ar ps z0 : va_W)) (Prod.mk.inj (Option.some.inj hm)).2) hP hD hS dX7_deal_88
        · have hm := ifn c_23 hm
          cases hm

def f_X7_undo_J34 (s7_34 : HS) : Option (Int32 × HS) :=
  some (((s7_34.1.1 1) - 1), ((ss (ss s7_34.1 0 ((s7_34.1.1 0) - 1)) 1 ((s7_34.1.1 1) - 1)), s7_34.2.1, s7_34.2.2.1, s7_34.2.2.2.1, s7_34.2.2.2.2.1, s7_34.2.2.2.2.2))

def f_X7_undo (s7 : HS) : Option (Int32 × HS) :=
  if (s7.1.1 1) = 0 then (some ((-1), s7)) else (gd (inb ((s7.1.1 0) &&& 7) 8) <| nmd (((s7.1.1 0) &&& 7).toNatClampNeg) fun (j20 : Nat) => bd1 (f_X1_takeOver (s7.2.1) (s7.2.2.2.1 j20)) fun (g31 : GS) => nmd ((s7.1, g31, s7.2.2)) fun (x_31 : HS) => f_X7_undo_J34 x_31)

abbrev rm_X7_undo : Room := { frames := 4, cells := 0, slots := 0, locals := 103 }
theorem hd_X7_undo : yX7_undo.cls = RX7 ∧ yX7_undo.cls ≠ "java/lang/invoke/MethodHandle" ∧ yX7_undo.cls ≠ "java/lang/invoke/VarHandle" ∧ (parseMethodDescriptor yX7_undo.desc).map (fun d => d.parameters.length) = some 0 := by decide +kernel
set_option maxHeartbeats 4000000 in
set_option maxRecDepth 100000 in
theorem k_X7_undo (l : Launch) (G : va_G) (K : (Nat → Nat) × (Nat → Nat)) (c : Nat → ClassId) (ah : Nat → Nat) (ag : Nat → Nat → Nat) (ar : Nat → Nat) (ps : PS) (s7 : HS) (r : Int32) (s7_r : HS) (hm : f_X7_undo s7 = some (r, s7_r)) : zMi l yX7_undo wsX7_undo (rm_X7_undo) G K (TY c) [.ref (ah 0)] (wH c ah ag ar ps s7) (wH c ah ag ar ps s7_r) r := by
  refine zMi.of (cc := cX7_undo) (maxL := 2) (lv := [(0, .ref (ah 0))]) (by decide) rfl (Nat.le_of_ble_eq_true rfl) rfl ?_
  intro p e s m args below meth c1 A Q H locs hx hb hml hown hts hK hN hZ hP hD hA hS hend ls hl
  have hown : s.vm.findClass RX7 = some m.cls := hown
  have hi_7 : ∀ w ∈ wsX70, w ∈ wsX7_undo := (fun w h => List.mem_cons_of_mem _ (List.mem_append_left _ (List.mem_append_left _ (List.mem_append_left _ (List.mem_append_right _ (h))))))
  unfold f_X7_undo at hm
  refine lv_aload_n hx hb dX7_undo_0 rfl (lv_at hl 0 rfl) ?_
  refine va_get (D := G) (ci := 7) (v := .int (s7.1.1 1)) (C := RX7) (T := TX7) (N := 7) hx hb hts hi_7 hown hK hP 0 rfl rfl 4 (by decide) (hts (.fieldLink RX7 204 "HubTrains" "undoable" "I") (List.mem_of_getElem? (i := 1) rfl)) (fun _ h9 => h9) rfl dX7_undo_1 ?_
  refine lv_if_ne (tgt := 9) hx hb dX7_undo_4 (by decide) (fun c_4 => ?_) (fun c_4 => ?_)
  · have hm := ifn c_4 hm
    refine lv_aload_n hx hb dX7_undo_9 rfl (lv_at hl 0 rfl) ?_
    refine va_get (D := G) (ci := 7) (v := .ref (ah 1)) (C := RX7) (T := TX7) (N := 7) hx hb hts hi_7 hown hK hP 0 rfl rfl 2 (by decide) (hts (.fieldLink RX7 19 "HubTrains" "past" "[LHubTrains$Game;") (List.mem_of_getElem? (i := 2) rfl)) (fun _ h9 => h9) rfl dX7_undo_10 ?_
    refine lv_aload_n hx hb dX7_undo_13 rfl (lv_at hl 0 rfl) ?_
    refine va_get (D := G) (ci := 7) (v := .int (s7.1.1 0)) (C := RX7) (T := TX7) (N := 7) hx hb hts hi_7 hown hK hP 0 rfl rfl 3 (by decide) (hts (.fieldLink RX7 207 "HubTrains" "latest" "I") (List.mem_of_getElem? (i := 3) rfl)) (fun _ h9 => h9) rfl dX7_undo_14 ?_
    refine lv_bipush (v := 7) hx hb dX7_undo_17 (by decide) ?_
    refine lv_iand hx hb dX7_undo_19 ?_
    obtain ⟨h_20, hm⟩ := gd_s hm
    refine za_past hx hb hK hP (inb_s h_20) dX7_undo_20 ?_
    have hj_20 := inb_lt h_20
    obtain ⟨j20, e_j20⟩ : ∃ z : Nat, z = ((s7.1.1 0) &&& 7).toNatClampNeg := ⟨_, rfl⟩
    rw [← e_j20] at hj_20 ⊢
    have hm := nmd_s hm j20 e_j20
    refine lv_astore_n (lv' := [(1, .ref (ag (2 + j20) 0)), (0, .ref (ah 0))]) hx hb dX7_undo_21 rfl hl (by decide) rfl (fun ls hl => ?_)
    refine lv_aload_n hx hb dX7_undo_22 rfl (lv_at hl 0 rfl) ?_
    have J_34 : ∀ (s7_34 : HS) (H : Heap) (locs : List Loc) (ls : Array Slot), va_P G vwCl (wH c ah ag ar ps s7_34) H → va_D A (wH c ah ag ar ps s7_34) → va_S A s.heap H locs → lv_has ls 2 [(0, .ref (ah 0))] → f_X7_undo_J34 s7_34 = some (r, s7_r) → W p l e (rm_X7_undo) s m args below meth c1 H locs 0 0 Q (F0 m 34 ls []) := by
      intro s7_34 H locs ls hP hD hS hl hm
      unfold f_X7_undo_J34 at hm
      refine lv_aload_n hx hb dX7_undo_34 rfl (lv_at hl 0 rfl) ?_
      refine lv_dup hx hb dX7_undo_35 rfl ?_
      refine va_get (D := G) (ci := 7) (v := .int (s7_34.1.1 0)) (C := RX7) (T := TX7) (N := 7) hx hb hts hi_7 hown hK hP 0 rfl rfl 3 (by decide) (hts (.fieldLink RX7 207 "HubTrains" "latest" "I") (List.mem_of_getElem? (i := 3) rfl)) (fun _ h9 => h9) rfl dX7_undo_36 ?_
      refine lv_iconst (v := 1) hx hb dX7_undo_39 (by decide) ?_
      refine lv_isub hx hb dX7_undo_40 ?_
      refine va_put (D := G) (ci := 7) (v := .int ((s7_34.1.1 0) - 1)) (C := RX7) (T := TX7) (N := 7) hx hb hts hi_7 tyX7 tyX7_ok nmX7 hown hK hP hD hS 0 rfl rfl 3 (by decide) (hts (.fieldLink RX7 207 "HubTrains" "latest" "I") (List.mem_of_getElem? (i := 3) rfl)) (fun _ h9 => h9) rfl (tyX7_ok 3 (by decide)) rfl rfl (Nat.le_of_ble_eq_true rfl) dX7_undo_41 (fun H locs hP hD hS => ?_)
      have hP : va_P G vwCl (wH c ah ag ar ps ((ss s7_34.1 0 ((s7_34.1.1 0) - 1)), s7_34.2.1, s7_34.2.2.1, s7_34.2.2.2.1, s7_34.2.2.2.2.1, s7_34.2.2.2.2.2)) H := (congrArg (fun w => va_P G vwCl w H) (zso_0 (c := c) (ah := ah) (ag := ag) (ar := ar) (ps := ps) (s := s7_34) (v := ((s7_34.1.1 0) - 1)))).mp hP
      have hD : va_D A (wH c ah ag ar ps ((ss s7_34.1 0 ((s7_34.1.1 0) - 1)), s7_34.2.1, s7_34.2.2.1, s7_34.2.2.2.1, s7_34.2.2.2.2.1, s7_34.2.2.2.2.2)) := (congrArg (fun w => va_D A w) (zso_0 (c := c) (ah := ah) (ag := ag) (ar := ar) (ps := ps) (s := s7_34) (v := ((s7_34.1.1 0) - 1)))).mp hD
      refine lv_aload_n hx hb dX7_undo_44 rfl (lv_at hl 0 rfl) ?_
      refine lv_dup hx hb dX7_undo_45 rfl ?_
      refine va_get (D := G) (ci := 7) (v := .int (s7_34.1.1 1)) (C := RX7) (T := TX7) (N := 7) hx hb hts hi_7 hown hK hP 0 rfl rfl 4 (by decide) (hts (.fieldLink RX7 204 "HubTrains" "undoable" "I") (List.mem_of_getElem? (i := 1) rfl)) (fun _ h9 => h9) rfl dX7_undo_46 ?_
      refine lv_iconst (v := 1) hx hb dX7_undo_49 (by decide) ?_
      refine lv_isub hx hb dX7_undo_50 ?_
      refine va_put (D := G) (ci := 7) (v := .int ((s7_34.1.1 1) - 1)) (C := RX7) (T := TX7) (N := 7) hx hb hts hi_7 tyX7 tyX7_ok nmX7 hown hK hP hD hS 0 rfl rfl 4 (by decide) (hts (.fieldLink RX7 204 "HubTrains" "undoable" "I") (List.mem_of_getElem? (i := 1) rfl)) (fun _ h9 => h9) rfl (tyX7_ok 4 (by decide)) rfl rfl (Nat.le_of_ble_eq_true rfl) dX7_undo_51 (fun H locs hP hD hS => ?_)
      have hP : va_P G vwCl (wH c ah ag ar ps ((ss (ss s7_34.1 0 ((s7_34.1.1 0) - 1)) 1 ((s7_34.1.1 1) - 1)), s7_34.2.1, s7_34.2.2.1, s7_34.2.2.2.1, s7_34.2.2.2.2.1, s7_34.2.2.2.2.2)) H := (congrArg (fun w => va_P G vwCl w H) (zso_1 (c := c) (ah := ah) (ag := ag) (ar := ar) (ps := ps) (s := ((ss s7_34.1 0 ((s7_34.1.1 0) - 1)), s7_34.2.1, s7_34.2.2.1, s7_34.2.2.2.1, s7_34.2.2.2.2.1, s7_34.2.2.2.2.2)) (v := ((s7_34.1.1 1) - 1)))).mp hP
      have hD : va_D A (wH c ah ag ar ps ((ss (ss s7_34.1 0 ((s7_34.1.1 0) - 1)) 1 ((s7_34.1.1 1) - 1)), s7_34.2.1, s7_34.2.2.1, s7_34.2.2.2.1, s7_34.2.2.2.2.1, s7_34.2.2.2.2.2)) := (congrArg (fun w => va_D A w) (zso_1 (c := c) (ah := ah) (ag := ag) (ar := ar) (ps := ps) (s := ((ss s7_34.1 0 ((s7_34.1.1 0) - 1)), s7_34.2.1, s7_34.2.2.1, s7_34.2.2.2.1, s7_34.2.2.2.2.1, s7_34.2.2.2.2.2)) (v := ((s7_34.1.1 1) - 1)))).mp hD
      refine lv_aload_n hx hb dX7_undo_54 rfl (lv_at hl 0 rfl) ?_
      refine va_get (D := G) (ci := 7) (v := .int ((s7_34.1.1 1) - 1)) (C := RX7) (T := TX7) (N := 7) hx hb hts hi_7 hown hK hP 0 rfl rfl 4 (by decide) (hts (.fieldLink RX7 204 "HubTrains" "undoable" "I") (List.mem_of_getElem? (i := 1) rfl)) (fun _ h9 => h9) rfl dX7_undo_55 ?_
      exact hend H locs ls _ _ _ rfl (Prod.mk.inj (Option.some.inj hm)).1 (zc1 (fun (z0 : HS) => (wH c ah ag ar ps z0 : va_W)) (Prod.mk.inj (Option.some.inj hm)).2) hP hD hS dX7_undo_58
    refine lv_ifnull hx hb dX7_undo_23 ?_
    refine lv_aload_n hx hb dX7_undo_26 rfl (lv_at hl 1 rfl) ?_
    refine va_get (D := G) (ci := 7) (v := .ref (ag 0 0)) (C := RX7) (T := TX7) (N := 7) hx hb hts hi_7 hown hK hP 0 rfl rfl 0 (by decide) (hts (.fieldLink RX7 10 "HubTrains" "game" "LHubTrains$Game;") (List.mem_of_getElem? (i := 4) rfl)) (fun _ h9 => h9) rfl dX7_undo_27 ?_
    refine lv_aload_n hx hb dX7_undo_30 rfl (lv_at hl 0 rfl) ?_
    obtain ⟨g31, e_31, hm⟩ := bd1_s hm
    refine zcVv (As := [.ref (ag (2 + j20) 0)]) (rest := []) ⟨hx, hb, hml, hown, hts⟩ (k_X1_takeOver l G K c (ag 0) (ag (2 + j20)) (s7.2.1) (s7.2.2.2.1 j20) g31 e_31) (cwV 1 hts gX7_undo_X1_takeOver rfl rfl rfl hd_X1_takeOver ⟨Nat.le_of_ble_eq_true rfl, Nat.le_of_ble_eq_true rfl⟩) hK hN hZ hP hD hS hA (va_recv hK hP (ci := 1) (q0 := 2) rfl rfl) ([2, 3, 4, 5, 6, 7, 8, 9, 10, 11] ++ isg j20) (hC_gp hj_20) (nd_gp hj_20) rfl rfl hl.1 rfl (Nat.le_of_ble_eq_true rfl) dX7_undo_31 ⟨Nat.zero_le _, Nat.zero_le _⟩ (fun H locs hP hD hS => ?_)
    obtain ⟨x_31, e_x_31⟩ : ∃ z : HS, z = (s7.1, g31, s7.2.2) := ⟨_, rfl⟩
    have hP : va_P G vwCl (wH c ah ag ar ps x_31) H := by rw [e_x_31]; exact (congrArg (fun w => va_P G vwCl w H) (zs_gp hj_20)).mp hP
    have hD : va_D A (wH c ah ag ar ps x_31) := by rw [e_x_31]; exact (congrArg (fun w => va_D A w) (zs_gp hj_20)).mp hD
    have hm := nmd_s hm x_31 e_x_31
    exact J_34 x_31 H locs ls hP hD hS (lv_sub hl [1] rfl) hm
  · have hm := ifp c_4 hm
    refine lv_iconst (v := (-1)) hx hb dX7_undo_7 (by decide) ?_
    exact hend H locs ls _ _ _ rfl (Prod.mk.inj (Option.some.inj hm)).1 (zc1 (fun (z0 : HS) => (wH c ah ag ar ps z0 : va_W)) (Prod.mk.inj (Option.some.inj hm)).2) hP hD hS dX7_undo_8

def f_X7_checksum_B139 (s7 : HS) (rec_125 : Int64 → Int32 → Option Int64) (v3_125 : Int32) (rec_139 : Int64 → Int32 → Option Int64) (v1_139 : Int64) (v4_139 : Int32) : Option Int64 :=
  if (5 : Int32) ≤ v4_139 then (rec_125 v1_139 (v3_125 + 1)) else (bd1 (f_X1_trainNumber s7.2.1 v3_125 v4_139) fun (r157 : Int32) => nmd ((31 * v1_139) + r157.toInt64) fun (x1_162 : Int64) => rec_139 x1_162 (v4_139 + 1))

def f_X7_checksum_B125 (s7 : HS) (rec_125 : Int64 → Int32 → Option Int64) (v1_125 : Int64) (v3_125 : Int32) : Option Int64 :=
  if (s7.2.1.1.1 1) < v3_125 then (some (v1_125)) else (itr2 (f_X7_checksum_B139 s7 rec_125 v3_125) FUEL v1_125 0)

def f_X7_checksum_B81 (s7 : HS) (rec_34 : Int64 → Int32 → Option Int64) (v3_34 : Int32) (rec_81 : Int64 → Int32 → Option Int64) (v1_81 : Int64) (v4_81 : Int32) : Option Int64 :=
  if (100 : Int32) ≤ v4_81 then (rec_34 v1_81 (v3_34 + 1)) else (bd1 (f_X1_holderOf s7.2.1 v4_81) fun (r94 : Int32) => if r94 = v3_34 then (nmd ((31 * v1_81) + v4_81.toInt64) fun (x1_110 : Int64) => rec_81 x1_110 (v4_81 + 1)) else (rec_81 v1_81 (v4_81 + 1)))

def f_X7_checksum_B48 (s7 : HS) (rec_34 : Int64 → Int32 → Option Int64) (v3_34 : Int32) (rec_48 : Int64 → Int32 → Option Int64) (v1_48 : Int64) (v4_48 : Int32) : Option Int64 :=
  if (4 : Int32) ≤ v4_48 then (itr2 (f_X7_checksum_B81 s7 rec_34 v3_34) FUEL v1_48 0) else (bd1 (f_X1_playerNumber s7.2.1 v3_34 v4_48) fun (r66 : Int32) => nmd ((31 * v1_48) + r66.toInt64) fun (x1_71 : Int64) => rec_48 x1_71 (v4_48 + 1))

def f_X7_checksum_B34 (s7 : HS) (rec_34 : Int64 → Int32 → Option Int64) (v1_34 : Int64) (v3_34 : Int32) : Option Int64 :=
  if (s7.2.1.1.1 1) ≤ v3_34 then (itr2 (f_X7_checksum_B125 s7) FUEL v1_34 0) else (itr2 (f_X7_checksum_B48 s7 rec_34 v3_34) FUEL v1_34 0)

def f_X7_checksum_B4 (s7 : HS) (rec_4 : Int64 → Int32 → Option Int64) (v1_4 : Int64) (v3_4 : Int32) : Option Int64 :=
  if (13 : Int32) ≤ v3_4 then (itr2 (f_X7_checksum_B34 s7) FUEL v1_4 0) else (bd1 (f_X1_stateNumber s7.2.1 v3_4) fun (r20 : Int32) => nmd ((31 * v1_4) + r20.toInt64) fun (x1_25 : Int64) => rec_4 x1_25 (v3_4 + 1))

def f_X7_checksum (s7 : HS) : Option Int64 :=
  itr2 (f_X7_checksum_B4 s7) FUEL 0 0

abbrev rm_X7_checksum : Room := { frames := 7, cells := 0, slots := 0, locals := 153 }
theorem hd_X7_checksum : yX7_checksum.cls = RX7 ∧ yX7_checksum.cls ≠ "java/lang/invoke/MethodHandle" ∧ yX7_checksum.cls ≠ "java/lang/invoke/VarHandle" ∧ (parseMethodDescriptor yX7_checksum.desc).map (fun d => d.parameters.length) = some 0 := by decide +kernel
set_option maxHeartbeats 4000000 in
set_option maxRecDepth 100000 in
theorem k_X7_checksum (l : Launch) (G : va_G) (K : (Nat → Nat) × (Nat → Nat)) (c : Nat → ClassId) (ah : Nat → Nat) (ag : Nat → Nat → Nat) (ar : Nat → Nat) (ps : PS) (s7 : HS) (r : Int64) (hm : f_X7_checksum s7 = some (r)) : zMl l yX7_checksum wsX7_checksum (rm_X7_checksum) G K (TY c) [.ref (ah 0)] (wH c ah ag ar ps s7) (wH c ah ag ar ps s7) r := by
  refine zMl.of (cc := cX7_checksum) (maxL := 5) (lv := [(0, .ref (ah 0))]) (by decide) rfl (Nat.le_of_ble_eq_true rfl) rfl ?_
  intro p e s m args below meth c1 A Q H locs hx hb hml hown hts hK hN hZ hP hD hA hS hend ls hl
  have hown : s.vm.findClass RX7 = some m.cls := hown
  have hi_1 : ∀ w ∈ wsX10, w ∈ wsX7_checksum := (fun w h => List.mem_cons_of_mem _ (List.mem_append_left _ (List.mem_append_left _ (List.mem_append_right _ (h)))))
  have hi_7 : ∀ w ∈ wsX70, w ∈ wsX7_checksum := (fun w h => List.mem_cons_of_mem _ (List.mem_append_left _ (List.mem_append_left _ (List.mem_append_left _ (List.mem_append_right _ (h))))))
  unfold f_X7_checksum at hm
  refine lv_lconst (v := 0) hx hb dX7_checksum_0 (by decide) ?_
  refine lv_lstore_n (lv' := [(1, .long 0), (0, .ref (ah 0))]) hx hb dX7_checksum_1 rfl hl (by decide) rfl (fun ls hl => ?_)
  refine lv_iconst (v := 0) hx hb dX7_checksum_2 (by decide) ?_
  refine lv_istore_n (lv' := [(3, .int 0), (1, .long 0), (0, .ref (ah 0))]) hx hb dX7_checksum_3 rfl hl (by decide) rfl (fun ls hl => ?_)
  have L_4 : ∀ (n_4 : Nat) (v1_4 : Int64) (v3_4 : Int32) (H : Heap) (locs : List Loc) (ls : Array Slot), va_P G vwCl (wH c ah ag ar ps s7) H → va_D A (wH c ah ag ar ps s7) → va_S A s.heap H locs → lv_has ls 5 [(0, .ref (ah 0)), (1, .long v1_4), (3, .int v3_4)] → itr2 (f_X7_checksum_B4 s7) n_4 v1_4 v3_4 = some (r) → W p l e (rm_X7_checksum) s m args below meth c1 H locs 0 0 Q (F0 m 4 ls []) := by
    intro n_4
    induction n_4 with
    | zero => intro v1_4 v3_4 H locs ls hP hD hS hl hm; exact (itr2_0 hm).elim
    | succ n_4 ih_4 =>
      intro v1_4 v3_4 H locs ls hP hD hS hl hm
      have hm := itr2_s hm
      unfold f_X7_checksum_B4 at hm
      refine lv_iload_n hx hb dX7_checksum_4 rfl (lv_at hl 2 rfl) ?_
      refine lv_bipush (v := 13) hx hb dX7_checksum_5 (by decide) ?_
      refine lv_icmp_ge (tgt := 32) hx hb dX7_checksum_7 (by decide) (fun c_7 => ?_) (fun c_7 => ?_)
      · have hm := ifp c_7 hm
        refine lv_iconst (v := 0) hx hb dX7_checksum_32 (by decide) ?_
        refine lv_istore_n (lv' := [(3, .int 0), (0, .ref (ah 0)), (1, .long v1_4)]) hx hb dX7_checksum_33 rfl hl (by decide) rfl (fun ls hl => ?_)
        have L_34 : ∀ (n_34 : Nat) (v1_34 : Int64) (v3_34 : Int32) (H : Heap) (locs : List Loc) (ls : Array Slot), va_P G vwCl (wH c ah ag ar ps s7) H → va_D A (wH c ah ag ar ps s7) → va_S A s.heap H locs → lv_has ls 5 [(0, .ref (ah 0)), (1, .long v1_34), (3, .int v3_34)] → itr2 (f_X7_checksum_B34 s7) n_34 v1_34 v3_34 = some (r) → W p l e (rm_X7_checksum) s m args below meth c1 H locs 0 0 Q (F0 m 34 ls []) := by
          intro n_34
          induction n_34 with
          | zero => intro v1_34 v3_34 H locs ls hP hD hS hl hm; exact (itr2_0 hm).elim
          | succ n_34 ih_34 =>
            intro v1_34 v3_34 H locs ls hP hD hS hl hm
            have hm := itr2_s hm
            unfold f_X7_checksum_B34 at hm
            refine lv_iload_n hx hb dX7_checksum_34 rfl (lv_at hl 2 rfl) ?_
            refine lv_aload_n hx hb dX7_checksum_35 rfl (lv_at hl 0 rfl) ?_
            refine va_get (D := G) (ci := 7) (v := .ref (ag 0 0)) (C := RX7) (T := TX7) (N := 7) hx hb hts hi_7 hown hK hP 0 rfl rfl 0 (by decide) (hts (.fieldLink RX7 10 "HubTrains" "game" "LHubTrains$Game;") (List.mem_of_getElem? (i := 2) rfl)) (fun _ h9 => h9) rfl dX7_checksum_36 ?_
            refine va_getN (D := G) (ci := 1) (v := .int (s7.2.1.1.1 1)) (C := RX1) (T := TX1) (N := 16) hx hb hts hi_1 hown hK hP 2 rfl rfl 1 (by decide) (va_Nw.use rfl (nwf_HubTrains_153 hN.1)) (fun _ h9 => h9) rfl dX7_checksum_39 ?_
            refine lv_icmp_ge (tgt := 123) hx hb dX7_checksum_42 (by decide) (fun c_42 => ?_) (fun c_42 => ?_)
            · have hm := ifp c_42 hm
              refine lv_iconst (v := 0) hx hb dX7_checksum_123 (by decide) ?_
              refine lv_istore_n (lv' := [(3, .int 0), (0, .ref (ah 0)), (1, .long v1_34)]) hx hb dX7_checksum_124 rfl hl (by decide) rfl (fun ls hl => ?_)
              have L_125 : ∀ (n_125 : Nat) (v1_125 : Int64) (v3_125 : Int32) (H : Heap) (locs : List Loc) (ls : Array Slot), va_P G vwCl (wH c ah ag ar ps s7) H → va_D A (wH c ah ag ar ps s7) → va_S A s.heap H locs → lv_has ls 5 [(0, .ref (ah 0)), (1, .long v1_125), (3, .int v3_125)] → itr2 (f_X7_checksum_B125 s7) n_125 v1_125 v3_125 = some (r) → W p l e (rm_X7_checksum) s m args below meth c1 H locs 0 0 Q (F0 m 125 ls []) := by
                intro n_125
                induction n_125 with
                | zero => intro v1_125 v3_125 H locs ls hP hD hS hl hm; exact (itr2_0 hm).elim
                | succ n_125 ih_125 =>
                  intro v1_125 v3_125 H locs ls hP hD hS hl hm
                  have hm := itr2_s hm
                  unfold f_X7_checksum_B125 at hm
                  refine lv_iload_n hx hb dX7_checksum_125 rfl (lv_at hl 2 rfl) ?_
                  refine lv_aload_n hx hb dX7_checksum_126 rfl (lv_at hl 0 rfl) ?_
                  refine va_get (D := G) (ci := 7) (v := .ref (ag 0 0)) (C := RX7) (T := TX7) (N := 7) hx hb hts hi_7 hown hK hP 0 rfl rfl 0 (by decide) (hts (.fieldLink RX7 10 "HubTrains" "game" "LHubTrains$Game;") (List.mem_of_getElem? (i := 2) rfl)) (fun _ h9 => h9) rfl dX7_checksum_127 ?_
                  refine va_getN (D := G) (ci := 1) (v := .int (s7.2.1.1.1 1)) (C := RX1) (T := TX1) (N := 16) hx hb hts hi_1 hown hK hP 2 rfl rfl 1 (by decide) (va_Nw.use rfl (nwf_HubTrains_153 hN.1)) (fun _ h9 => h9) rfl dX7_checksum_130 ?_
                  refine lv_icmp_gt (tgt := 175) hx hb dX7_checksum_133 (by decide) (fun c_133 => ?_) (fun c_133 => ?_)
                  · have hm := ifp c_133 hm
                    refine lv_lload_n hx hb dX7_checksum_175 rfl (lv_at hl 1 rfl) ?_
                    exact hend H locs ls _ _ _ (Option.some.inj hm) rfl hP hD hS dX7_checksum_176
                  · have hm := ifn c_133 hm
                    refine lv_iconst (v := 0) hx hb dX7_checksum_136 (by decide) ?_
                    refine lv_istore (lv' := [(4, .int 0), (0, .ref (ah 0)), (1, .long v1_125), (3, .int v3_125)]) hx hb dX7_checksum_137 hl (by decide) rfl (fun ls hl => ?_)
                    have L_139 : ∀ (n_139 : Nat) (v1_139 : Int64) (v4_139 : Int32) (H : Heap) (locs : List Loc) (ls : Array Slot), va_P G vwCl (wH c ah ag ar ps s7) H → va_D A (wH c ah ag ar ps s7) → va_S A s.heap H locs → lv_has ls 5 [(0, .ref (ah 0)), (1, .long v1_139), (3, .int v3_125), (4, .int v4_139)] → itr2 (f_X7_checksum_B139 s7 (itr2 (f_X7_checksum_B125 s7) n_125) v3_125) n_139 v1_139 v4_139 = some (r) → W p l e (rm_X7_checksum) s m args below meth c1 H locs 0 0 Q (F0 m 139 ls []) := by
                      intro n_139
                      induction n_139 with
                      | zero => intro v1_139 v4_139 H locs ls hP hD hS hl hm; exact (itr2_0 hm).elim
                      | succ n_139 ih_139 =>
                        intro v1_139 v4_139 H locs ls hP hD hS hl hm
                        have hm := itr2_s hm
                        unfold f_X7_checksum_B139 at hm
                        refine lv_iload hx hb dX7_checksum_139 (lv_at hl 3 rfl) ?_
                        refine lv_iconst (v := 5) hx hb dX7_checksum_141 (by decide) ?_
                        refine lv_icmp_ge (tgt := 169) hx hb dX7_checksum_142 (by decide) (fun c_142 => ?_) (fun c_142 => ?_)
                        · have hm := ifp c_142 hm
                          refine lv_iinc (k := 2) (v := (v3_125 + 1)) (lv' := [(3, .int (v3_125 + 1)), (0, .ref (ah 0)), (1, .long v1_139), (4, .int v4_139)]) hx hb dX7_checksum_169 hl rfl rfl (by decide) rfl (fun ls hl => ?_)
                          refine lv_goto (tgt := 125) hx hb dX7_checksum_172 (by decide) ?_
                          exact ih_125 v1_139 (v3_125 + 1) H locs ls hP hD hS (lv_sub hl [1, 2, 0] rfl) hm
                        · have hm := ifn c_142 hm
                          refine lv_ldc2 (v := 31) hx hb hown (hts (.constantLong RX7 210 (31)) (List.mem_of_getElem? (i := 1) rfl)) dX7_checksum_145 ?_
                          refine lv_lload_n hx hb dX7_checksum_148 rfl (lv_at hl 1 rfl) ?_
                          refine lv_lmul hx hb dX7_checksum_149 ?_
                          refine lv_aload_n hx hb dX7_checksum_150 rfl (lv_at hl 0 rfl) ?_
                          refine va_get (D := G) (ci := 7) (v := .ref (ag 0 0)) (C := RX7) (T := TX7) (N := 7) hx hb hts hi_7 hown hK hP 0 rfl rfl 0 (by decide) (hts (.fieldLink RX7 10 "HubTrains" "game" "LHubTrains$Game;") (List.mem_of_getElem? (i := 2) rfl)) (fun _ h9 => h9) rfl dX7_checksum_151 ?_
                          refine lv_iload_n hx hb dX7_checksum_154 rfl (lv_at hl 2 rfl) ?_
                          refine lv_iload hx hb dX7_checksum_155 (lv_at hl 3 rfl) ?_
                          obtain ⟨r157, e_157, hm⟩ := bd1_s hm
                          refine zcVi (As := [.int v3_125, .int v4_139]) (rest := [.long (31 * v1_139)]) ⟨hx, hb, hml, hown, hts⟩ (k_X1_trainNumber l G K c (ag 0) s7.2.1 v3_125 v4_139 r157 e_157) (cwV 2 hts gX7_checksum_X1_trainNumber rfl rfl rfl hd_X1_trainNumber ⟨Nat.le_of_ble_eq_true rfl, Nat.le_of_ble_eq_true rfl⟩) hK hN hZ hP hD hS hA (va_recv hK hP (ci := 1) (q0 := 2) rfl rfl) [2, 3, 4, 5, 6, 7, 8, 9, 10, 11] rfl (by decide) rfl rfl hl.1 rfl (Nat.le_of_ble_eq_true rfl) dX7_checksum_157 ⟨Nat.zero_le _, Nat.zero_le _⟩ (fun H locs hP hD hS => ?_)
                          have hP : va_P G vwCl (wH c ah ag ar ps s7) H := (congrArg (fun w => va_P G vwCl w H) (zset_id _ _ _ rfl)).mp hP
                          have hD : va_D A (wH c ah ag ar ps s7) := (congrArg (fun w => va_D A w) (zset_id _ _ _ rfl)).mp hD
                          refine lv_i2l hx hb dX7_checksum_160 rfl ?_
                          refine lv_ladd hx hb dX7_checksum_161 ?_
                          refine lv_topl (fun x1_162 e_x1_162 => ?_)
                          have hm := nmd_s hm x1_162 e_x1_162
                          refine lv_lstore_n (lv' := [(1, .long x1_162), (0, .ref (ah 0)), (3, .int v3_125), (4, .int v4_139)]) hx hb dX7_checksum_162 rfl hl (by decide) rfl (fun ls hl => ?_)
                          refine lv_iinc (k := 3) (v := (v4_139 + 1)) (lv' := [(4, .int (v4_139 + 1)), (1, .long x1_162), (0, .ref (ah 0)), (3, .int v3_125)]) hx hb dX7_checksum_163 hl rfl rfl (by decide) rfl (fun ls hl => ?_)
                          refine lv_goto (tgt := 139) hx hb dX7_checksum_166 (by decide) ?_
                          exact ih_139 x1_162 (v4_139 + 1) H locs ls hP hD hS (lv_sub hl [2, 1, 3, 0] rfl) hm
                    exact L_139 FUEL v1_125 0 H locs ls hP hD hS (lv_sub hl [1, 2, 3, 0] rfl) hm
              exact L_125 FUEL v1_34 0 H locs ls hP hD hS (lv_sub hl [1, 2, 0] rfl) hm
            · have hm := ifn c_42 hm
              refine lv_iconst (v := 0) hx hb dX7_checksum_45 (by decide) ?_
              refine lv_istore (lv' := [(4, .int 0), (0, .ref (ah 0)), (1, .long v1_34), (3, .int v3_34)]) hx hb dX7_checksum_46 hl (by decide) rfl (fun ls hl => ?_)
              have L_48 : ∀ (n_48 : Nat) (v1_48 : Int64) (v4_48 : Int32) (H : Heap) (locs : List Loc) (ls : Array Slot), va_P G vwCl (wH c ah ag ar ps s7) H → va_D A (wH c ah ag ar ps s7) → va_S A s.heap H locs → lv_has ls 5 [(0, .ref (ah 0)), (1, .long v1_48), (3, .int v3_34), (4, .int v4_48)] → itr2 (f_X7_checksum_B48 s7 (itr2 (f_X7_checksum_B34 s7) n_34) v3_34) n_48 v1_48 v4_48 = some (r) → W p l e (rm_X7_checksum) s m args below meth c1 H locs 0 0 Q (F0 m 48 ls []) := by
                intro n_48
                induction n_48 with
                | zero => intro v1_48 v4_48 H locs ls hP hD hS hl hm; exact (itr2_0 hm).elim
                | succ n_48 ih_48 =>
                  intro v1_48 v4_48 H locs ls hP hD hS hl hm
                  have hm := itr2_s hm
                  unfold f_X7_checksum_B48 at hm
                  refine lv_iload hx hb dX7_checksum_48 (lv_at hl 3 rfl) ?_
                  refine lv_iconst (v := 4) hx hb dX7_checksum_50 (by decide) ?_
                  refine lv_icmp_ge (tgt := 78) hx hb dX7_checksum_51 (by decide) (fun c_51 => ?_) (fun c_51 => ?_)
                  · have hm := ifp c_51 hm
                    refine lv_iconst (v := 0) hx hb dX7_checksum_78 (by decide) ?_
                    refine lv_istore (lv' := [(4, .int 0), (0, .ref (ah 0)), (1, .long v1_48), (3, .int v3_34)]) hx hb dX7_checksum_79 hl (by decide) rfl (fun ls hl => ?_)
                    have L_81 : ∀ (n_81 : Nat) (v1_81 : Int64) (v4_81 : Int32) (H : Heap) (locs : List Loc) (ls : Array Slot), va_P G vwCl (wH c ah ag ar ps s7) H → va_D A (wH c ah ag ar ps s7) → va_S A s.heap H locs → lv_has ls 5 [(0, .ref (ah 0)), (1, .long v1_81), (3, .int v3_34), (4, .int v4_81)] → itr2 (f_X7_checksum_B81 s7 (itr2 (f_X7_checksum_B34 s7) n_34) v3_34) n_81 v1_81 v4_81 = some (r) → W p l e (rm_X7_checksum) s m args below meth c1 H locs 0 0 Q (F0 m 81 ls []) := by
                      intro n_81
                      induction n_81 with
                      | zero => intro v1_81 v4_81 H locs ls hP hD hS hl hm; exact (itr2_0 hm).elim
                      | succ n_81 ih_81 =>
                        intro v1_81 v4_81 H locs ls hP hD hS hl hm
                        have hm := itr2_s hm
                        unfold f_X7_checksum_B81 at hm
                        refine lv_iload hx hb dX7_checksum_81 (lv_at hl 3 rfl) ?_
                        refine lv_bipush (v := 100) hx hb dX7_checksum_83 (by decide) ?_
                        refine lv_icmp_ge (tgt := 117) hx hb dX7_checksum_85 (by decide) (fun c_85 => ?_) (fun c_85 => ?_)
                        · have hm := ifp c_85 hm
                          refine lv_iinc (k := 2) (v := (v3_34 + 1)) (lv' := [(3, .int (v3_34 + 1)), (0, .ref (ah 0)), (1, .long v1_81), (4, .int v4_81)]) hx hb dX7_checksum_117 hl rfl rfl (by decide) rfl (fun ls hl => ?_)
                          refine lv_goto (tgt := 34) hx hb dX7_checksum_120 (by decide) ?_
                          exact ih_34 v1_81 (v3_34 + 1) H locs ls hP hD hS (lv_sub hl [1, 2, 0] rfl) hm
                        · have hm := ifn c_85 hm
                          refine lv_aload_n hx hb dX7_checksum_88 rfl (lv_at hl 0 rfl) ?_
                          refine va_get (D := G) (ci := 7) (v := .ref (ag 0 0)) (C := RX7) (T := TX7) (N := 7) hx hb hts hi_7 hown hK hP 0 rfl rfl 0 (by decide) (hts (.fieldLink RX7 10 "HubTrains" "game" "LHubTrains$Game;") (List.mem_of_getElem? (i := 2) rfl)) (fun _ h9 => h9) rfl dX7_checksum_89 ?_
                          refine lv_iload hx hb dX7_checksum_92 (lv_at hl 3 rfl) ?_
                          obtain ⟨r94, e_94, hm⟩ := bd1_s hm
                          refine zcVi (As := [.int v4_81]) (rest := []) ⟨hx, hb, hml, hown, hts⟩ (k_X1_holderOf l G K c (ag 0) s7.2.1 v4_81 r94 e_94) (cwV 1 hts gX7_checksum_X1_holderOf rfl rfl rfl hd_X1_holderOf ⟨Nat.le_of_ble_eq_true rfl, Nat.le_of_ble_eq_true rfl⟩) hK hN hZ hP hD hS hA (va_recv hK hP (ci := 1) (q0 := 2) rfl rfl) [2, 3, 4, 5, 6, 7, 8, 9, 10, 11] rfl (by decide) rfl rfl hl.1 rfl (Nat.le_of_ble_eq_true rfl) dX7_checksum_94 ⟨Nat.zero_le _, Nat.zero_le _⟩ (fun H locs hP hD hS => ?_)
                          have hP : va_P G vwCl (wH c ah ag ar ps s7) H := (congrArg (fun w => va_P G vwCl w H) (zset_id _ _ _ rfl)).mp hP
                          have hD : va_D A (wH c ah ag ar ps s7) := (congrArg (fun w => va_D A w) (zset_id _ _ _ rfl)).mp hD
                          refine lv_iload_n hx hb dX7_checksum_97 rfl (lv_at hl 2 rfl) ?_
                          refine lv_icmp_ne (tgt := 111) hx hb dX7_checksum_98 (by decide) (fun c_98 => ?_) (fun c_98 => ?_)
                          · have hm := ifn c_98 hm
                            refine lv_iinc (k := 3) (v := (v4_81 + 1)) (lv' := [(4, .int (v4_81 + 1)), (0, .ref (ah 0)), (1, .long v1_81), (3, .int v3_34)]) hx hb dX7_checksum_111 hl rfl rfl (by decide) rfl (fun ls hl => ?_)
                            refine lv_goto (tgt := 81) hx hb dX7_checksum_114 (by decide) ?_
                            exact ih_81 v1_81 (v4_81 + 1) H locs ls hP hD hS (lv_sub hl [1, 2, 3, 0] rfl) hm
                          · have hm := ifp c_98 hm
                            refine lv_ldc2 (v := 31) hx hb hown (hts (.constantLong RX7 210 (31)) (List.mem_of_getElem? (i := 1) rfl)) dX7_checksum_101 ?_
                            refine lv_lload_n hx hb dX7_checksum_104 rfl (lv_at hl 1 rfl) ?_
                            refine lv_lmul hx hb dX7_checksum_105 ?_
                            refine lv_iload hx hb dX7_checksum_106 (lv_at hl 3 rfl) ?_
                            refine lv_i2l hx hb dX7_checksum_108 rfl ?_
                            refine lv_ladd hx hb dX7_checksum_109 ?_
                            refine lv_topl (fun x1_110 e_x1_110 => ?_)
                            have hm := nmd_s hm x1_110 e_x1_110
                            refine lv_lstore_n (lv' := [(1, .long x1_110), (0, .ref (ah 0)), (3, .int v3_34), (4, .int v4_81)]) hx hb dX7_checksum_110 rfl hl (by decide) rfl (fun ls hl => ?_)
                            refine lv_iinc (k := 3) (v := (v4_81 + 1)) (lv' := [(4, .int (v4_81 + 1)), (1, .long x1_110), (0, .ref (ah 0)), (3, .int v3_34)]) hx hb dX7_checksum_111 hl rfl rfl (by decide) rfl (fun ls hl => ?_)
                            refine lv_goto (tgt := 81) hx hb dX7_checksum_114 (by decide) ?_
                            exact ih_81 x1_110 (v4_81 + 1) H locs ls hP hD hS (lv_sub hl [2, 1, 3, 0] rfl) hm
                    exact L_81 FUEL v1_48 0 H locs ls hP hD hS (lv_sub hl [1, 2, 3, 0] rfl) hm
                  · have hm := ifn c_51 hm
                    refine lv_ldc2 (v := 31) hx hb hown (hts (.constantLong RX7 210 (31)) (List.mem_of_getElem? (i := 1) rfl)) dX7_checksum_54 ?_
                    refine lv_lload_n hx hb dX7_checksum_57 rfl (lv_at hl 1 rfl) ?_
                    refine lv_lmul hx hb dX7_checksum_58 ?_
                    refine lv_aload_n hx hb dX7_checksum_59 rfl (lv_at hl 0 rfl) ?_
                    refine va_get (D := G) (ci := 7) (v := .ref (ag 0 0)) (C := RX7) (T := TX7) (N := 7) hx hb hts hi_7 hown hK hP 0 rfl rfl 0 (by decide) (hts (.fieldLink RX7 10 "HubTrains" "game" "LHubTrains$Game;") (List.mem_of_getElem? (i := 2) rfl)) (fun _ h9 => h9) rfl dX7_checksum_60 ?_
                    refine lv_iload_n hx hb dX7_checksum_63 rfl (lv_at hl 2 rfl) ?_
                    refine lv_iload hx hb dX7_checksum_64 (lv_at hl 3 rfl) ?_
                    obtain ⟨r66, e_66, hm⟩ := bd1_s hm
                    refine zcVi (As := [.int v3_34, .int v4_48]) (rest := [.long (31 * v1_48)]) ⟨hx, hb, hml, hown, hts⟩ (k_X1_playerNumber l G K c (ag 0) s7.2.1 v3_34 v4_48 r66 e_66) (cwV 2 hts gX7_checksum_X1_playerNumber rfl rfl rfl hd_X1_playerNumber ⟨Nat.le_of_ble_eq_true rfl, Nat.le_of_ble_eq_true rfl⟩) hK hN hZ hP hD hS hA (va_recv hK hP (ci := 1) (q0 := 2) rfl rfl) [2, 3, 4, 5, 6, 7, 8, 9, 10, 11] rfl (by decide) rfl rfl hl.1 rfl (Nat.le_of_ble_eq_true rfl) dX7_checksum_66 ⟨Nat.zero_le _, Nat.zero_le _⟩ (fun H locs hP hD hS => ?_)
                    have hP : va_P G vwCl (wH c ah ag ar ps s7) H := (congrArg (fun w => va_P G vwCl w H) (zset_id _ _ _ rfl)).mp hP
                    have hD : va_D A (wH c ah ag ar ps s7) := (congrArg (fun w => va_D A w) (zset_id _ _ _ rfl)).mp hD
                    refine lv_i2l hx hb dX7_checksum_69 rfl ?_
                    refine lv_ladd hx hb dX7_checksum_70 ?_
                    refine lv_topl (fun x1_71 e_x1_71 => ?_)
                    have hm := nmd_s hm x1_71 e_x1_71
                    refine lv_lstore_n (lv' := [(1, .long x1_71), (0, .ref (ah 0)), (3, .int v3_34), (4, .int v4_48)]) hx hb dX7_checksum_71 rfl hl (by decide) rfl (fun ls hl => ?_)
                    refine lv_iinc (k := 3) (v := (v4_48 + 1)) (lv' := [(4, .int (v4_48 + 1)), (1, .long x1_71), (0, .ref (ah 0)), (3, .int v3_34)]) hx hb dX7_checksum_72 hl rfl rfl (by decide) rfl (fun ls hl => ?_)
                    refine lv_goto (tgt := 48) hx hb dX7_checksum_75 (by decide) ?_
                    exact ih_48 x1_71 (v4_48 + 1) H locs ls hP hD hS (lv_sub hl [2, 1, 3, 0] rfl) hm
              exact L_48 FUEL v1_34 0 H locs ls hP hD hS (lv_sub hl [1, 2, 3, 0] rfl) hm
        exact L_34 FUEL v1_4 0 H locs ls hP hD hS (lv_sub hl [1, 2, 0] rfl) hm
      · have hm := ifn c_7 hm
        refine lv_ldc2 (v := 31) hx hb hown (hts (.constantLong RX7 210 (31)) (List.mem_of_getElem? (i := 1) rfl)) dX7_checksum_10 ?_
        refine lv_lload_n hx hb dX7_checksum_13 rfl (lv_at hl 1 rfl) ?_
        refine lv_lmul hx hb dX7_checksum_14 ?_
        refine lv_aload_n hx hb dX7_checksum_15 rfl (lv_at hl 0 rfl) ?_
        refine va_get (D := G) (ci := 7) (v := .ref (ag 0 0)) (C := RX7) (T := TX7) (N := 7) hx hb hts hi_7 hown hK hP 0 rfl rfl 0 (by decide) (hts (.fieldLink RX7 10 "HubTrains" "game" "LHubTrains$Game;") (List.mem_of_getElem? (i := 2) rfl)) (fun _ h9 => h9) rfl dX7_checksum_16 ?_
        refine lv_iload_n hx hb dX7_checksum_19 rfl (lv_at hl 2 rfl) ?_
        obtain ⟨r20, e_20, hm⟩ := bd1_s hm
        refine zcVi (As := [.int v3_4]) (rest := [.long (31 * v1_4)]) ⟨hx, hb, hml, hown, hts⟩ (k_X1_stateNumber l G K c (ag 0) s7.2.1 v3_4 r20 e_20) (cwV 1 hts gX7_checksum_X1_stateNumber rfl rfl rfl hd_X1_stateNumber ⟨Nat.le_of_ble_eq_true rfl, Nat.le_of_ble_eq_true rfl⟩) hK hN hZ hP hD hS hA (va_recv hK hP (ci := 1) (q0 := 2) rfl rfl) [2, 3, 4, 5, 6, 7, 8, 9, 10, 11] rfl (by decide) rfl rfl hl.1 rfl (Nat.le_of_ble_eq_true rfl) dX7_checksum_20 ⟨Nat.zero_le _, Nat.zero_le _⟩ (fun H locs hP hD hS => ?_)
        have hP : va_P G vwCl (wH c ah ag ar ps s7) H := (congrArg (fun w => va_P G vwCl w H) (zset_id _ _ _ rfl)).mp hP
        have hD : va_D A (wH c ah ag ar ps s7) := (congrArg (fun w => va_D A w) (zset_id _ _ _ rfl)).mp hD
        refine lv_i2l hx hb dX7_checksum_23 rfl ?_
        refine lv_ladd hx hb dX7_checksum_24 ?_
        refine lv_topl (fun x1_25 e_x1_25 => ?_)
        have hm := nmd_s hm x1_25 e_x1_25
        refine lv_lstore_n (lv' := [(1, .long x1_25), (0, .ref (ah 0)), (3, .int v3_4)]) hx hb dX7_checksum_25 rfl hl (by decide) rfl (fun ls hl => ?_)
        refine lv_iinc (k := 2) (v := (v3_4 + 1)) (lv' := [(3, .int (v3_4 + 1)), (1, .long x1_25), (0, .ref (ah 0))]) hx hb dX7_checksum_26 hl rfl rfl (by decide) rfl (fun ls hl => ?_)
        refine lv_goto (tgt := 4) hx hb dX7_checksum_29 (by decide) ?_
        exact ih_4 x1_25 (v3_4 + 1) H locs ls hP hD hS (lv_sub hl [2, 1, 0] rfl) hm
  exact L_4 FUEL 0 0 H locs ls hP hD hS (lv_sub hl [2, 1, 0] rfl) hm

