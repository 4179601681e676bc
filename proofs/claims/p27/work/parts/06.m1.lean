
def f_X7_checkPlayer (s7 : HS) (p0 : Int32) : Option Unit :=
  if p0 < 0 then (none) else (if p0 < (s7.2.1.1.1 1) then (some ()) else (none))

abbrev rm_X7_checkPlayer : Room := { frames := 0, cells := 0, slots := 0, locals := 0 }
theorem hd_X7_checkPlayer : yX7_checkPlayer.cls = RX7 ∧ yX7_checkPlayer.cls ≠ "java/lang/invoke/MethodHandle" ∧ yX7_checkPlayer.cls ≠ "java/lang/invoke/VarHandle" ∧ (parseMethodDescriptor yX7_checkPlayer.desc).map (fun d => d.parameters.length) = some 1 := by decide +kernel
set_option maxHeartbeats 4000000 in
set_option maxRecDepth 100000 in
theorem k_X7_checkPlayer (l : Launch) (G : va_G) (K : (Nat → Nat) × (Nat → Nat)) (c : Nat → ClassId) (ah : Nat → Nat) (ag : Nat → Nat → Nat) (ar : Nat → Nat) (ps : PS) (s7 : HS) (p0 : Int32) (hm : f_X7_checkPlayer s7 p0 = some ()) : zMv l yX7_checkPlayer wsX7_checkPlayer (rm_X7_checkPlayer) G K (TY c) [.ref (ah 0), .int p0] (wH c ah ag ar ps s7) (wH c ah ag ar ps s7) := by
  refine zMv.of (cc := cX7_checkPlayer) (maxL := 2) (lv := [(0, .ref (ah 0)), (1, .int p0)]) (by decide) rfl (Nat.le_of_ble_eq_true rfl) rfl ?_
  intro p e s m args below meth c1 A Q H locs hx hb hml hown hts hK hN hZ hP hD hA hS hend ls hl
  have hown : s.vm.findClass RX7 = some m.cls := hown
  have hi_1 : ∀ w ∈ wsX10, w ∈ wsX7_checkPlayer := (fun w h => List.mem_cons_of_mem _ (List.mem_append_left _ (List.mem_append_right _ (h))))
  have hi_7 : ∀ w ∈ wsX70, w ∈ wsX7_checkPlayer := (fun w h => List.mem_cons_of_mem _ (List.mem_append_left _ (List.mem_append_left _ (List.mem_append_right _ (h)))))
  unfold f_X7_checkPlayer at hm
  refine lv_iload_n hx hb dX7_checkPlayer_0 rfl (lv_at hl 1 rfl) ?_
  refine lv_if_lt (tgt := 15) hx hb dX7_checkPlayer_1 (by decide) (fun c_1 => ?_) (fun c_1 => ?_)
  · have hm := ifp c_1 hm
    cases hm
  · have hm := ifn c_1 hm
    refine lv_iload_n hx hb dX7_checkPlayer_4 rfl (lv_at hl 1 rfl) ?_
    refine lv_aload_n hx hb dX7_checkPlayer_5 rfl (lv_at hl 0 rfl) ?_
    refine va_get (D := G) (ci := 7) (v := .ref (ag 0 0)) (C := RX7) (T := TX7) (N := 7) hx hb hts hi_7 hown hK hP 0 rfl rfl 0 (by decide) (hts (.fieldLink RX7 10 "HubTrains" "game" "LHubTrains$Game;") (List.mem_of_getElem? (i := 3) rfl)) (fun _ h9 => h9) rfl dX7_checkPlayer_6 ?_
    refine va_getN (D := G) (ci := 1) (v := .int (s7.2.1.1.1 1)) (C := RX1) (T := TX1) (N := 16) hx hb hts hi_1 hown hK hP 2 rfl rfl 1 (by decide) (va_Nw.use rfl (nwf_HubTrains_153 hN.1)) (fun _ h9 => h9) rfl dX7_checkPlayer_9 ?_
    refine lv_icmp_lt (tgt := 23) hx hb dX7_checkPlayer_12 (by decide) (fun c_12 => ?_) (fun c_12 => ?_)
    · have hm := ifp c_12 hm
      exact hend H locs ls _ _ rfl hP hD hS dX7_checkPlayer_23
    · have hm := ifn c_12 hm
      cases hm


def f_X7_checkTrain (s7 : HS) (p0 : Int32) : Option Unit :=
  if p0 < 0 then (none) else (if p0 ≤ (s7.2.1.1.1 1) then (some ()) else (none))

abbrev rm_X7_checkTrain : Room := { frames := 0, cells := 0, slots := 0, locals := 0 }
theorem hd_X7_checkTrain : yX7_checkTrain.cls = RX7 ∧ yX7_checkTrain.cls ≠ "java/lang/invoke/MethodHandle" ∧ yX7_checkTrain.cls ≠ "java/lang/invoke/VarHandle" ∧ (parseMethodDescriptor yX7_checkTrain.desc).map (fun d => d.parameters.length) = some 1 := by decide +kernel
set_option maxHeartbeats 4000000 in
set_option maxRecDepth 100000 in
theorem k_X7_checkTrain (l : Launch) (G : va_G) (K : (Nat → Nat) × (Nat → Nat)) (c : Nat → ClassId) (ah : Nat → Nat) (ag : Nat → Nat → Nat) (ar : Nat → Nat) (ps : PS) (s7 : HS) (p0 : Int32) (hm : f_X7_checkTrain s7 p0 = some ()) : zMv l yX7_checkTrain wsX7_checkTrain (rm_X7_checkTrain) G K (TY c) [.ref (ah 0), .int p0] (wH c ah ag ar ps s7) (wH c ah ag ar ps s7) := by
  refine zMv.of (cc := cX7_checkTrain) (maxL := 2) (lv := [(0, .ref (ah 0)), (1, .int p0)]) (by decide) rfl (Nat.le_of_ble_eq_true rfl) rfl ?_
  intro p e s m args below meth c1 A Q H locs hx hb hml hown hts hK hN hZ hP hD hA hS hend ls hl
  have hown : s.vm.findClass RX7 = some m.cls := hown
  have hi_1 : ∀ w ∈ wsX10, w ∈ wsX7_checkTrain := (fun w h => List.mem_cons_of_mem _ (List.mem_append_left _ (List.mem_append_right _ (h))))
  have hi_7 : ∀ w ∈ wsX70, w ∈ wsX7_checkTrain := (fun w h => List.mem_cons_of_mem _ (List.mem_append_left _ (List.mem_append_left _ (List.mem_append_right _ (h)))))
  unfold f_X7_checkTrain at hm
  refine lv_iload_n hx hb dX7_checkTrain_0 rfl (lv_at hl 1 rfl) ?_
  refine lv_if_lt (tgt := 15) hx hb dX7_checkTrain_1 (by decide) (fun c_1 => ?_) (fun c_1 => ?_)
  · have hm := ifp c_1 hm
    cases hm
  · have hm := ifn c_1 hm
    refine lv_iload_n hx hb dX7_checkTrain_4 rfl (lv_at hl 1 rfl) ?_
    refine lv_aload_n hx hb dX7_checkTrain_5 rfl (lv_at hl 0 rfl) ?_
    refine va_get (D := G) (ci := 7) (v := .ref (ag 0 0)) (C := RX7) (T := TX7) (N := 7) hx hb hts hi_7 hown hK hP 0 rfl rfl 0 (by decide) (hts (.fieldLink RX7 10 "HubTrains" "game" "LHubTrains$Game;") (List.mem_of_getElem? (i := 3) rfl)) (fun _ h9 => h9) rfl dX7_checkTrain_6 ?_
    refine va_getN (D := G) (ci := 1) (v := .int (s7.2.1.1.1 1)) (C := RX1) (T := TX1) (N := 16) hx hb hts hi_1 hown hK hP 2 rfl rfl 1 (by decide) (va_Nw.use rfl (nwf_HubTrains_153 hN.1)) (fun _ h9 => h9) rfl dX7_checkTrain_9 ?_
    refine lv_icmp_le (tgt := 23) hx hb dX7_checkTrain_12 (by decide) (fun c_12 => ?_) (fun c_12 => ?_)
    · have hm := ifp c_12 hm
      exact hend H locs ls _ _ rfl hP hD hS dX7_checkTrain_23
    · have hm := ifn c_12 hm
      cases hm


def f_X7_checkTile (s7 : HS) (p0 : Int32) : Option Unit :=
  bd1 (f_X1_isInSet s7.2.1 p0) fun (r5 : Int32) => if r5 = 0 then (none) else (some ())

abbrev rm_X7_checkTile : Room := { frames := 2, cells := 0, slots := 0, locals := 41 }
theorem hd_X7_checkTile : yX7_checkTile.cls = RX7 ∧ yX7_checkTile.cls ≠ "java/lang/invoke/MethodHandle" ∧ yX7_checkTile.cls ≠ "java/lang/invoke/VarHandle" ∧ (parseMethodDescriptor yX7_checkTile.desc).map (fun d => d.parameters.length) = some 1 := by decide +kernel
set_option maxHeartbeats 4000000 in
set_option maxRecDepth 100000 in
theorem k_X7_checkTile (l : Launch) (G : va_G) (K : (Nat → Nat) × (Nat → Nat)) (c : Nat → ClassId) (ah : Nat → Nat) (ag : Nat → Nat → Nat) (ar : Nat → Nat) (ps : PS) (s7 : HS) (p0 : Int32) (hm : f_X7_checkTile s7 p0 = some ()) : zMv l yX7_checkTile wsX7_checkTile (rm_X7_checkTile) G K (TY c) [.ref (ah 0), .int p0] (wH c ah ag ar ps s7) (wH c ah ag ar ps s7) := by
  refine zMv.of (cc := cX7_checkTile) (maxL := 2) (lv := [(0, .ref (ah 0)), (1, .int p0)]) (by decide) rfl (Nat.le_of_ble_eq_true rfl) rfl ?_
  intro p e s m args below meth c1 A Q H locs hx hb hml hown hts hK hN hZ hP hD hA hS hend ls hl
  have hown : s.vm.findClass RX7 = some m.cls := hown
  have hi_7 : ∀ w ∈ wsX70, w ∈ wsX7_checkTile := (fun w h => List.mem_cons_of_mem _ (List.mem_append_left _ (List.mem_append_left _ (List.mem_append_right _ (h)))))
  unfold f_X7_checkTile at hm
  refine lv_aload_n hx hb dX7_checkTile_0 rfl (lv_at hl 0 rfl) ?_
  refine va_get (D := G) (ci := 7) (v := .ref (ag 0 0)) (C := RX7) (T := TX7) (N := 7) hx hb hts hi_7 hown hK hP 0 rfl rfl 0 (by decide) (hts (.fieldLink RX7 10 "HubTrains" "game" "LHubTrains$Game;") (List.mem_of_getElem? (i := 3) rfl)) (fun _ h9 => h9) rfl dX7_checkTile_1 ?_
  refine lv_iload_n hx hb dX7_checkTile_4 rfl (lv_at hl 1 rfl) ?_
  obtain ⟨r5, e_5, hm⟩ := bd1_s hm
  refine zcVi (As := [.int p0]) (rest := []) ⟨hx, hb, hml, hown, hts⟩ (k_X1_isInSet l G K c (ag 0) s7.2.1 p0 r5 e_5) (cwV 1 hts gX7_checkTile_X1_isInSet rfl rfl rfl hd_X1_isInSet ⟨Nat.le_of_ble_eq_true rfl, Nat.le_of_ble_eq_true rfl⟩) hK hN hZ hP hD hS hA (va_recv hK hP (ci := 1) (q0 := 2) rfl rfl) [2, 3, 4, 5, 6, 7, 8, 9, 10, 11] rfl (by decide) rfl rfl hl.1 rfl (Nat.le_of_ble_eq_true rfl) dX7_checkTile_5 ⟨Nat.zero_le _, Nat.zero_le _⟩ (fun H locs hP hD hS => ?_)
  have hP : va_P G vwCl (wH c ah ag ar ps s7) H := (congrArg (fun w => va_P G vwCl w H) (zset_id _ _ _ rfl)).mp hP
  have hD : va_D A (wH c ah ag ar ps s7) := (congrArg (fun w => va_D A w) (zset_id _ _ _ rfl)).mp hD
  refine lv_if_ne (tgt := 19) hx hb dX7_checkTile_8 (by decide) (fun c_8 => ?_) (fun c_8 => ?_)
  · have hm := ifn c_8 hm
    exact hend H locs ls _ _ rfl hP hD hS dX7_checkTile_19
  · have hm := ifp c_8 hm
    cases hm


def f_X7_checkWhat (p0 : Int32) (p1 : Int32) : Option Unit :=
  if p0 < 0 then (none) else (if p0 < p1 then (some ()) else (none))

abbrev rm_X7_checkWhat : Room := { frames := 0, cells := 0, slots := 0, locals := 0 }
theorem hd_X7_checkWhat : yX7_checkWhat.cls = RX7 ∧ yX7_checkWhat.cls ≠ "java/lang/invoke/MethodHandle" ∧ yX7_checkWhat.cls ≠ "java/lang/invoke/VarHandle" ∧ (parseMethodDescriptor yX7_checkWhat.desc).map (fun d => d.parameters.length) = some 2 := by decide +kernel
set_option maxHeartbeats 4000000 in
set_option maxRecDepth 100000 in
theorem k_X7_checkWhat (l : Launch) (G : va_G) (K : (Nat → Nat) × (Nat → Nat)) (c : Nat → ClassId) (p0 : Int32) (p1 : Int32) (hm : f_X7_checkWhat p0 p1 = some ()) : zMv l yX7_checkWhat wsX7_checkWhat (rm_X7_checkWhat) G K (TY c) [.int p0, .int p1] ([]) ([]) := by
  refine zMv.of (cc := cX7_checkWhat) (maxL := 2) (lv := [(0, .int p0), (1, .int p1)]) (by decide) rfl (Nat.le_of_ble_eq_true rfl) rfl ?_
  intro p e s m args below meth c1 A Q H locs hx hb hml hown hts hK hN hZ hP hD hA hS hend ls hl
  have hown : s.vm.findClass RX7 = some m.cls := hown
  unfold f_X7_checkWhat at hm
  refine lv_iload_n hx hb dX7_checkWhat_0 rfl (lv_at hl 0 rfl) ?_
  refine lv_if_lt (tgt := 9) hx hb dX7_checkWhat_1 (by decide) (fun c_1 => ?_) (fun c_1 => ?_)
  · have hm := ifp c_1 hm
    cases hm
  · have hm := ifn c_1 hm
    refine lv_iload_n hx hb dX7_checkWhat_4 rfl (lv_at hl 0 rfl) ?_
    refine lv_iload_n hx hb dX7_checkWhat_5 rfl (lv_at hl 1 rfl) ?_
    refine lv_icmp_lt (tgt := 17) hx hb dX7_checkWhat_6 (by decide) (fun c_6 => ?_) (fun c_6 => ?_)
    · have hm := ifp c_6 hm
      exact hend H locs ls _ _ rfl hP hD hS dX7_checkWhat_17
    · have hm := ifn c_6 hm
      cases hm


def f_X7_checkAllowed (p0 : Int32) : Option Unit :=
  if p0 = 0 then (none) else (some ())

abbrev rm_X7_checkAllowed : Room := { frames := 0, cells := 0, slots := 0, locals := 0 }
theorem hd_X7_checkAllowed : yX7_checkAllowed.cls = RX7 ∧ yX7_checkAllowed.cls ≠ "java/lang/invoke/MethodHandle" ∧ yX7_checkAllowed.cls ≠ "java/lang/invoke/VarHandle" ∧ (parseMethodDescriptor yX7_checkAllowed.desc).map (fun d => d.parameters.length) = some 1 := by decide +kernel
set_option maxHeartbeats 4000000 in
set_option maxRecDepth 100000 in
theorem k_X7_checkAllowed (l : Launch) (G : va_G) (K : (Nat → Nat) × (Nat → Nat)) (c : Nat → ClassId) (p0 : Int32) (hm : f_X7_checkAllowed p0 = some ()) : zMv l yX7_checkAllowed wsX7_checkAllowed (rm_X7_checkAllowed) G K (TY c) [.int p0] ([]) ([]) := by
  refine zMv.of (cc := cX7_checkAllowed) (maxL := 1) (lv := [(0, .int p0)]) (by decide) rfl (Nat.le_of_ble_eq_true rfl) rfl ?_
  intro p e s m args below meth c1 A Q H locs hx hb hml hown hts hK hN hZ hP hD hA hS hend ls hl
  have hown : s.vm.findClass RX7 = some m.cls := hown
  unfold f_X7_checkAllowed at hm
  refine lv_iload_n hx hb dX7_checkAllowed_0 rfl (lv_at hl 0 rfl) ?_
  refine lv_if_ne (tgt := 12) hx hb dX7_checkAllowed_1 (by decide) (fun c_1 => ?_) (fun c_1 => ?_)
  · have hm := ifn c_1 hm
    exact hend H locs ls _ _ rfl hP hD hS dX7_checkAllowed_12
  · have hm := ifp c_1 hm
    cases hm


def f_X7_exploreRows (s7 : HS) (p0 : Int32) : Option (Int32 × HS) :=
  bd1 (f_X1_handCount s7.2.1 p0) fun (r5 : Int32) => if r5 ≤ 12 then (bd1 (f_X2_explore s7.2.2.2.2.2 s7.2.1 p0) fun (rs24 : SA) => some (1, (s7.1, s7.2.1, s7.2.2.1, s7.2.2.2.1, s7.2.2.2.2.1, rs24))) else (some (0, s7))

abbrev rm_X7_exploreRows : Room := { frames := 4, cells := 0, slots := 0, locals := 92 }
theorem hd_X7_exploreRows : yX7_exploreRows.cls = RX7 ∧ yX7_exploreRows.cls ≠ "java/lang/invoke/MethodHandle" ∧ yX7_exploreRows.cls ≠ "java/lang/invoke/VarHandle" ∧ (parseMethodDescriptor yX7_exploreRows.desc).map (fun d => d.parameters.length) = some 1 := by decide +kernel
set_option maxHeartbeats 4000000 in
set_option maxRecDepth 100000 in
theorem k_X7_exploreRows (l : Launch) (G : va_G) (K : (Nat → Nat) × (Nat → Nat)) (c : Nat → ClassId) (ah : Nat → Nat) (ag : Nat → Nat → Nat) (ar : Nat → Nat) (ps : PS) (s7 : HS) (p0 : Int32) (r : Int32) (s7_r : HS) (hm : f_X7_exploreRows s7 p0 = some (r, s7_r)) : zMi l yX7_exploreRows wsX7_exploreRows (rm_X7_exploreRows) G K (TY c) [.ref (ah 0), .int p0] (wH c ah ag ar ps s7) (wH c ah ag ar ps s7_r) r := by
  refine zMi.of (cc := cX7_exploreRows) (maxL := 2) (lv := [(0, .ref (ah 0)), (1, .int p0)]) (by decide) rfl (Nat.le_of_ble_eq_true rfl) rfl ?_
  intro p e s m args below meth c1 A Q H locs hx hb hml hown hts hK hN hZ hP hD hA hS hend ls hl
  have hown : s.vm.findClass RX7 = some m.cls := hown
  have hi_7 : ∀ w ∈ wsX70, w ∈ wsX7_exploreRows := (fun w h => List.mem_cons_of_mem _ (List.mem_append_left _ (List.mem_append_left _ (List.mem_append_left _ (List.mem_append_right _ (h))))))
  unfold f_X7_exploreRows at hm
  refine lv_aload_n hx hb dX7_exploreRows_0 rfl (lv_at hl 0 rfl) ?_
  refine va_get (D := G) (ci := 7) (v := .ref (ag 0 0)) (C := RX7) (T := TX7) (N := 7) hx hb hts hi_7 hown hK hP 0 rfl rfl 0 (by decide) (hts (.fieldLink RX7 10 "HubTrains" "game" "LHubTrains$Game;") (List.mem_of_getElem? (i := 1) rfl)) (fun _ h9 => h9) rfl dX7_exploreRows_1 ?_
  refine lv_iload_n hx hb dX7_exploreRows_4 rfl (lv_at hl 1 rfl) ?_
  obtain ⟨r5, e_5, hm⟩ := bd1_s hm
  refine zcVi (As := [.int p0]) (rest := []) ⟨hx, hb, hml, hown, hts⟩ (k_X1_handCount l G K c (ag 0) s7.2.1 p0 r5 e_5) (cwV 1 hts gX7_exploreRows_X1_handCount rfl rfl rfl hd_X1_handCount ⟨Nat.le_of_ble_eq_true rfl, Nat.le_of_ble_eq_true rfl⟩) hK hN hZ hP hD hS hA (va_recv hK hP (ci := 1) (q0 := 2) rfl rfl) [2, 3, 4, 5, 6, 7, 8, 9, 10, 11] rfl (by decide) rfl rfl hl.1 rfl (Nat.le_of_ble_eq_true rfl) dX7_exploreRows_5 ⟨Nat.zero_le _, Nat.zero_le _⟩ (fun H locs hP hD hS => ?_)
  have hP : va_P G vwCl (wH c ah ag ar ps s7) H := (congrArg (fun w => va_P G vwCl w H) (zset_id _ _ _ rfl)).mp hP
  have hD : va_D A (wH c ah ag ar ps s7) := (congrArg (fun w => va_D A w) (zset_id _ _ _ rfl)).mp hD
  refine lv_bipush (v := 12) hx hb dX7_exploreRows_8 (by decide) ?_
  refine lv_icmp_le (tgt := 15) hx hb dX7_exploreRows_10 (by decide) (fun c_10 => ?_) (fun c_10 => ?_)
  · have hm := ifp c_10 hm
    refine lv_aload_n hx hb dX7_exploreRows_15 rfl (lv_at hl 0 rfl) ?_
    refine va_get (D := G) (ci := 7) (v := .ref (ah 2)) (C := RX7) (T := TX7) (N := 7) hx hb hts hi_7 hown hK hP 0 rfl rfl 6 (by decide) (hts (.fieldLink RX7 33 "HubTrains" "rows" "LHubTrains$RowSearch;") (List.mem_of_getElem? (i := 2) rfl)) (fun _ h9 => h9) rfl dX7_exploreRows_16 ?_
    refine lv_aload_n hx hb dX7_exploreRows_19 rfl (lv_at hl 0 rfl) ?_
    refine va_get (D := G) (ci := 7) (v := .ref (ag 0 0)) (C := RX7) (T := TX7) (N := 7) hx hb hts hi_7 hown hK hP 0 rfl rfl 0 (by decide) (hts (.fieldLink RX7 10 "HubTrains" "game" "LHubTrains$Game;") (List.mem_of_getElem? (i := 1) rfl)) (fun _ h9 => h9) rfl dX7_exploreRows_20 ?_
    refine lv_iload_n hx hb dX7_exploreRows_23 rfl (lv_at hl 1 rfl) ?_
    obtain ⟨rs24, e_24, hm⟩ := bd1_s hm
    refine zcVv (As := [.ref (ag 0 0), .int p0]) (rest := []) ⟨hx, hb, hml, hown, hts⟩ (k_X2_explore l G K c (ah 2) (ah 3) (ah 4) (ah 5) (ah 6) (ag 0) s7.2.2.2.2.2 s7.2.1 p0 rs24 e_24) (cwV 2 hts gX7_exploreRows_X2_explore rfl rfl rfl hd_X2_explore ⟨Nat.le_of_ble_eq_true rfl, Nat.le_of_ble_eq_true rfl⟩) hK hN hZ hP hD hS hA (va_recv hK hP (ci := 2) (q0 := 116) rfl rfl) [116, 117, 118, 119, 120, 2, 3, 4, 5, 6, 7, 8, 9, 10, 11] rfl (by decide) rfl rfl hl.1 rfl (Nat.le_of_ble_eq_true rfl) dX7_exploreRows_24 ⟨Nat.zero_le _, Nat.zero_le _⟩ (fun H locs hP hD hS => ?_)
    have hP : va_P G vwCl (wH c ah ag ar ps (s7.1, s7.2.1, s7.2.2.1, s7.2.2.2.1, s7.2.2.2.2.1, rs24)) H := (congrArg (fun w => va_P G vwCl w H) (zs_rg (c := c) (ah := ah) (ag := ag) (ar := ar) (ps := ps) (s := s7) (k := rs24))).mp hP
    have hD : va_D A (wH c ah ag ar ps (s7.1, s7.2.1, s7.2.2.1, s7.2.2.2.1, s7.2.2.2.2.1, rs24)) := (congrArg (fun w => va_D A w) (zs_rg (c := c) (ah := ah) (ag := ag) (ar := ar) (ps := ps) (s := s7) (k := rs24))).mp hD
    refine lv_iconst (v := 1) hx hb dX7_exploreRows_27 (by decide) ?_
    exact hend H locs ls _ _ _ (by decide) (Prod.mk.inj (Option.some.inj hm)).1 (zc1 (fun (z0 : HS) => (wH c ah ag ar ps z0 : va_W)) (Prod.mk.inj (Option.some.inj hm)).2) hP hD hS dX7_exploreRows_28
  · have hm := ifn c_10 hm
    refine lv_iconst (v := 0) hx hb dX7_exploreRows_13 (by decide) ?_
    exact hend H locs ls _ _ _ (by decide) (Prod.mk.inj (Option.some.inj hm)).1 (zc1 (fun (z0 : HS) => (wH c ah ag ar ps z0 : va_W)) (Prod.mk.inj (Option.some.inj hm)).2) hP hD hS dX7_exploreRows_14

def f_X7_remember_J35 (s7_35 : HS) : Option HS :=
  nmd (if 8 < ((s7_35.1.1 1) + 1) then 8 else ((s7_35.1.1 1) + 1)) fun (y47 : Int32) => some (((ss s7_35.1 1 y47), s7_35.2.1, s7_35.2.2.1, s7_35.2.2.2.1, s7_35.2.2.2.2.1, s7_35.2.2.2.2.2))

def f_X7_remember (s7 : HS) : Option HS :=
  gd (inb (((s7.1.1 0) + 1) &&& 7) 8) <| nmd ((((s7.1.1 0) + 1) &&& 7).toNatClampNeg) fun (j21 : Nat) => bd1 (f_X1_takeOver (((ss s7.1 0 ((s7.1.1 0) + 1)), s7.2.1, s7.2.2.1, s7.2.2.2.1, s7.2.2.2.2.1, s7.2.2.2.2.2).2.2.2.1 j21) (((ss s7.1 0 ((s7.1.1 0) + 1)), s7.2.1, s7.2.2.1, s7.2.2.2.1, s7.2.2.2.2.1, s7.2.2.2.2.2).2.1)) fun (g32 : GS) => nmd ((((ss s7.1 0 ((s7.1.1 0) + 1)), s7.2.1, s7.2.2.1, s7.2.2.2.1, s7.2.2.2.2.1, s7.2.2.2.2.2).1, ((ss s7.1 0 ((s7.1.1 0) + 1)), s7.2.1, s7.2.2.1, s7.2.2.2.1, s7.2.2.2.2.1, s7.2.2.2.2.2).2.1, ((ss s7.1 0 ((s7.1.1 0) + 1)), s7.2.1, s7.2.2.1, s7.2.2.2.1, s7.2.2.2.2.1, s7.2.2.2.2.2).2.2.1, upG ((ss s7.1 0 ((s7.1.1 0) + 1)), s7.2.1, s7.2.2.1, s7.2.2.2.1, s7.2.2.2.2.1, s7.2.2.2.2.2).2.2.2.1 j21 g32, ((ss s7.1 0 ((s7.1.1 0) + 1)), s7.2.1, s7.2.2.1, s7.2.2.2.1, s7.2.2.2.2.1, s7.2.2.2.2.2).2.2.2.2)) fun (x_32 : HS) => f_X7_remember_J35 x_32

abbrev rm_X7_remember : Room := { frames := 4, cells := 0, slots := 0, locals := 103 }
theorem hd_X7_remember : yX7_remember.cls = RX7 ∧ yX7_remember.cls ≠ "java/lang/invoke/MethodHandle" ∧ yX7_remember.cls ≠ "java/lang/invoke/VarHandle" ∧ (parseMethodDescriptor yX7_remember.desc).map (fun d => d.parameters.length) = some 0 := by decide +kernel
set_option maxHeartbeats 4000000 in
set_option maxRecDepth 100000 in
theorem k_X7_remember (l : Launch) (G : va_G) (K : (Nat → Nat) × (Nat → Nat)) (c : Nat → ClassId) (ah : Nat → Nat) (ag : Nat → Nat → Nat) (ar : Nat → Nat) (ps : PS) (s7 : HS) (s7_r : HS) (hm : f_X7_remember s7 = some (s7_r)) : zMv l yX7_remember wsX7_remember (rm_X7_remember) G K (TY c) [.ref (ah 0)] (wH c ah ag ar ps s7) (wH c ah ag ar ps s7_r) := by
  refine zMv.of (cc := cX7_remember) (maxL := 2) (lv := [(0, .ref (ah 0))]) (by decide) rfl (Nat.le_of_ble_eq_true rfl) rfl ?_
  intro p e s m args below meth c1 A Q H locs hx hb hml hown hts hK hN hZ hP hD hA hS hend ls hl
  have hown : s.vm.findClass RX7 = some m.cls := hown
  have hi_7 : ∀ w ∈ wsX70, w ∈ wsX7_remember := (fun w h => List.mem_cons_of_mem _ (List.mem_append_left _ (List.mem_append_left _ (List.mem_append_left _ (List.mem_append_right _ (h))))))
  unfold f_X7_remember at hm
  refine lv_aload_n hx hb dX7_remember_0 rfl (lv_at hl 0 rfl) ?_
  refine lv_dup hx hb dX7_remember_1 rfl ?_
  refine va_get (D := G) (ci := 7) (v := .int (s7.1.1 0)) (C := RX7) (T := TX7) (N := 7) hx hb hts hi_7 hown hK hP 0 rfl rfl 3 (by decide) (hts (.fieldLink RX7 207 "HubTrains" "latest" "I") (List.mem_of_getElem? (i := 1) rfl)) (fun _ h9 => h9) rfl dX7_remember_2 ?_
  refine lv_iconst (v := 1) hx hb dX7_remember_5 (by decide) ?_
  refine lv_iadd hx hb dX7_remember_6 ?_
  refine va_put (D := G) (ci := 7) (v := .int ((s7.1.1 0) + 1)) (C := RX7) (T := TX7) (N := 7) hx hb hts hi_7 tyX7 tyX7_ok nmX7 hown hK hP hD hS 0 rfl rfl 3 (by decide) (hts (.fieldLink RX7 207 "HubTrains" "latest" "I") (List.mem_of_getElem? (i := 1) rfl)) (fun _ h9 => h9) rfl (tyX7_ok 3 (by decide)) rfl rfl (Nat.le_of_ble_eq_true rfl) dX7_remember_7 (fun H locs hP hD hS => ?_)
  have hP : va_P G vwCl (wH c ah ag ar ps ((ss s7.1 0 ((s7.1.1 0) + 1)), s7.2.1, s7.2.2.1, s7.2.2.2.1, s7.2.2.2.2.1, s7.2.2.2.2.2)) H := (congrArg (fun w => va_P G vwCl w H) (zso_0 (c := c) (ah := ah) (ag := ag) (ar := ar) (ps := ps) (s := s7) (v := ((s7.1.1 0) + 1)))).mp hP
  have hD : va_D A (wH c ah ag ar ps ((ss s7.1 0 ((s7.1.1 0) + 1)), s7.2.1, s7.2.2.1, s7.2.2.2.1, s7.2.2.2.2.1, s7.2.2.2.2.2)) := (congrArg (fun w => va_D A w) (zso_0 (c := c) (ah := ah) (ag := ag) (ar := ar) (ps := ps) (s := s7) (v := ((s7.1.1 0) + 1)))).mp hD
  refine lv_aload_n hx hb dX7_remember_10 rfl (lv_at hl 0 rfl) ?_
  refine va_get (D := G) (ci := 7) (v := .ref (ah 1)) (C := RX7) (T := TX7) (N := 7) hx hb hts hi_7 hown hK hP 0 rfl rfl 2 (by decide) (hts (.fieldLink RX7 19 "HubTrains" "past" "[LHubTrains$Game;") (List.mem_of_getElem? (i := 2) rfl)) (fun _ h9 => h9) rfl dX7_remember_11 ?_
  refine lv_aload_n hx hb dX7_remember_14 rfl (lv_at hl 0 rfl) ?_
  refine va_get (D := G) (ci := 7) (v := .int ((s7.1.1 0) + 1)) (C := RX7) (T := TX7) (N := 7) hx hb hts hi_7 hown hK hP 0 rfl rfl 3 (by decide) (hts (.fieldLink RX7 207 "HubTrains" "latest" "I") (List.mem_of_getElem? (i := 1) rfl)) (fun _ h9 => h9) rfl dX7_remember_15 ?_
  refine lv_bipush (v := 7) hx hb dX7_remember_18 (by decide) ?_
  refine lv_iand hx hb dX7_remember_20 ?_
  obtain ⟨h_21, hm⟩ := gd_s hm
  refine za_past hx hb hK hP (inb_s h_21) dX7_remember_21 ?_
  have hj_21 := inb_lt h_21
  obtain ⟨j21, e_j21⟩ : ∃ z : Nat, z = (((s7.1.1 0) + 1) &&& 7).toNatClampNeg := ⟨_, rfl⟩
  rw [← e_j21] at hj_21 ⊢
  have hm := nmd_s hm j21 e_j21
  refine lv_astore_n (lv' := [(1, .ref (ag (2 + j21) 0)), (0, .ref (ah 0))]) hx hb dX7_remember_22 rfl hl (by decide) rfl (fun ls hl => ?_)
  refine lv_aload_n hx hb dX7_remember_23 rfl (lv_at hl 0 rfl) ?_
  have J_35 : ∀ (s7_35 : HS) (H : Heap) (locs : List Loc) (ls : Array Slot), va_P G vwCl (wH c ah ag ar ps s7_35) H → va_D A (wH c ah ag ar ps s7_35) → va_S A s.heap H locs → lv_has ls 2 [(0, .ref (ah 0))] → f_X7_remember_J35 s7_35 = some (s7_r) → W p l e (rm_X7_remember) s m args below meth c1 H locs 0 0 Q (F0 m 35 ls []) := by
    intro s7_35 H locs ls hP hD hS hl hm
    unfold f_X7_remember_J35 at hm
    refine lv_aload_n hx hb dX7_remember_35 rfl (lv_at hl 0 rfl) ?_
    refine lv_aload_n hx hb dX7_remember_36 rfl (lv_at hl 0 rfl) ?_
    refine va_get (D := G) (ci := 7) (v := .int (s7_35.1.1 1)) (C := RX7) (T := TX7) (N := 7) hx hb hts hi_7 hown hK hP 0 rfl rfl 4 (by decide) (hts (.fieldLink RX7 204 "HubTrains" "undoable" "I") (List.mem_of_getElem? (i := 4) rfl)) (fun _ h9 => h9) rfl dX7_remember_37 ?_
    refine lv_iconst (v := 1) hx hb dX7_remember_40 (by decide) ?_
    refine lv_iadd hx hb dX7_remember_41 ?_
    refine lv_bipush (v := 8) hx hb dX7_remember_42 (by decide) ?_
    refine va_mmin hx hb (hml.trans hl.1.symm) hown (hts (.methodLink RX7 215 Lib.Math.min.name) (List.mem_of_getElem? (i := 5) rfl)) (hts (.static Lib.Math.min.name) (List.mem_of_getElem? (i := 6) rfl)) (hts (.initialized "java/lang/Math") (List.mem_of_getElem? (i := 7) rfl)) (hts (.code Lib.Math.min.name Lib.Math.min.code 2 (some .int)) (List.mem_of_getElem? (i := 8) rfl)) (Nat.le_of_ble_eq_true rfl) (Nat.le_of_ble_eq_true rfl) (Nat.zero_le _) (Nat.zero_le _) dX7_remember_44 ?_
    refine lv_topi (fun y47 e_y47 => ?_)
    have hm := nmd_s hm y47 e_y47
    refine va_put (D := G) (ci := 7) (v := .int y47) (C := RX7) (T := TX7) (N := 7) hx hb hts hi_7 tyX7 tyX7_ok nmX7 hown hK hP hD hS 0 rfl rfl 4 (by decide) (hts (.fieldLink RX7 204 "HubTrains" "undoable" "I") (List.mem_of_getElem? (i := 4) rfl)) (fun _ h9 => h9) rfl (tyX7_ok 4 (by decide)) rfl rfl (Nat.le_of_ble_eq_true rfl) dX7_remember_47 (fun H locs hP hD hS => ?_)
    have hP : va_P G vwCl (wH c ah ag ar ps ((ss s7_35.1 1 y47), s7_35.2.1, s7_35.2.2.1, s7_35.2.2.2.1, s7_35.2.2.2.2.1, s7_35.2.2.2.2.2)) H := (congrArg (fun w => va_P G vwCl w H) (zso_1 (c := c) (ah := ah) (ag := ag) (ar := ar) (ps := ps) (s := s7_35) (v := y47))).mp hP
    have hD : va_D A (wH c ah ag ar ps ((ss s7_35.1 1 y47), s7_35.2.1, s7_35.2.2.1, s7_35.2.2.2.1, s7_35.2.2.2.2.1, s7_35.2.2.2.2.2)) := (congrArg (fun w => va_D A w) (zso_1 (c := c) (ah := ah) (ag := ag) (ar := ar) (ps := ps) (s := s7_35) (v := y47))).mp hD
    exact hend H locs ls _ _ (zc1 (fun (z0 : HS) => (wH c ah ag ar ps z0 : va_W)) (Option.some.inj hm)) hP hD hS dX7_remember_50
  refine lv_ifnull hx hb dX7_remember_24 ?_
  refine lv_aload_n hx hb dX7_remember_27 rfl (lv_at hl 0 rfl) ?_
  refine lv_aload_n hx hb dX7_remember_28 rfl (lv_at hl 1 rfl) ?_
  refine va_get (D := G) (ci := 7) (v := .ref (ag 0 0)) (C := RX7) (T := TX7) (N := 7) hx hb hts hi_7 hown hK hP 0 rfl rfl 0 (by decide) (hts (.fieldLink RX7 10 "HubTrains" "game" "LHubTrains$Game;") (List.mem_of_getElem? (i := 3) rfl)) (fun _ h9 => h9) rfl dX7_remember_29 ?_
  obtain ⟨g32, e_32, hm⟩ := bd1_s hm
  refine zcVv (As := [.ref (ag 0 0)]) (rest := []) ⟨hx, hb, hml, hown, hts⟩ (k_X1_takeOver l G K c (ag (2 + j21)) (ag 0) (((ss s7.1 0 ((s7.1.1 0) + 1)), s7.2.1, s7.2.2.1, s7.2.2.2.1, s7.2.2.2.2.1, s7.2.2.2.2.2).2.2.2.1 j21) (((ss s7.1 0 ((s7.1.1 0) + 1)), s7.2.1, s7.2.2.1, s7.2.2.2.1, s7.2.2.2.2.1, s7.2.2.2.2.2).2.1) g32 e_32) (cwV 1 hts gX7_remember_X1_takeOver rfl rfl rfl hd_X1_takeOver ⟨Nat.le_of_ble_eq_true rfl, Nat.le_of_ble_eq_true rfl⟩) hK hN hZ hP hD hS hA (rv_past hK hP hj_21) (isg j21 ++ [2, 3, 4, 5, 6, 7, 8, 9, 10, 11]) (hC_pg hj_21) (nd_pg hj_21) rfl rfl hl.1 rfl (Nat.le_of_ble_eq_true rfl) dX7_remember_32 ⟨Nat.zero_le _, Nat.zero_le _⟩ (fun H locs hP hD hS => ?_)
  obtain ⟨x_32, e_x_32⟩ : ∃ z : HS, z = (((ss s7.1 0 ((s7.1.1 0) + 1)), s7.2.1, s7.2.2.1, s7.2.2.2.1, s7.2.2.2.2.1, s7.2.2.2.2.2).1, ((ss s7.1 0 ((s7.1.1 0) + 1)), s7.2.1, s7.2.2.1, s7.2.2.2.1, s7.2.2.2.2.1, s7.2.2.2.2.2).2.1, ((ss s7.1 0 ((s7.1.1 0) + 1)), s7.2.1, s7.2.2.1, s7.2.2.2.1, s7.2.2.2.2.1, s7.2.2.2.2.2).2.2.1, upG ((ss s7.1 0 ((s7.1.1 0) + 1)), s7.2.1, s7.2.2.1, s7.2.2.2.1, s7.2.2.2.2.1, s7.2.2.2.2.2).2.2.2.1 j21 g32, ((ss s7.1 0 ((s7.1.1 0) + 1)), s7.2.1, s7.2.2.1, s7.2.2.2.1, s7.2.2.2.2.1, s7.2.2.2.2.2).2.2.2.2) := ⟨_, rfl⟩
  have hP : va_P G vwCl (wH c ah ag ar ps x_32) H := by rw [e_x_32]; exact (congrArg (fun w => va_P G vwCl w H) (zs_pg hj_21)).mp hP
  have hD : va_D A (wH c ah ag ar ps x_32) := by rw [e_x_32]; exact (congrArg (fun w => va_D A w) (zs_pg hj_21)).mp hD
  have hm := nmd_s hm x_32 e_x_32
  exact J_35 x_32 H locs ls hP hD hS (lv_sub hl [1] rfl) hm


def f_X7_append (s7 : HS) (p0 : Int32) (p1 : Int32) (p2 : Int32) (p3 : Int32) (p4 : Int32) : Option (Int32 × HS) :=
  if ((s7.2.2.2.2.1.2.1.1 0) + 20) ≤ 500 then (bd1 (f_X5_store s7.2.2.2.2.1.2.1 p0) fun (tk28 : SA) => bd1 (f_X5_store tk28 p1) fun (tk34 : SA) => bd1 (f_X5_store tk34 p2) fun (tk40 : SA) => bd1 (f_X5_store tk40 p3) fun (tk47 : SA) => bd1 (f_X5_store tk47 p4) fun (tk54 : SA) => some ((tk54.1 0), (s7.1, s7.2.1, s7.2.2.1, s7.2.2.2.1, (s7.2.2.2.2.1.1, tk54, s7.2.2.2.2.1.2.2), s7.2.2.2.2.2))) else (some ((-1), s7))

abbrev rm_X7_append : Room := { frames := 2, cells := 0, slots := 0, locals := 44 }
theorem hd_X7_append : yX7_append.cls = RX7 ∧ yX7_append.cls ≠ "java/lang/invoke/MethodHandle" ∧ yX7_append.cls ≠ "java/lang/invoke/VarHandle" ∧ (parseMethodDescriptor yX7_append.desc).map (fun d => d.parameters.length) = some 5 := by decide +kernel
set_option maxHeartbeats 4000000 in
set_option maxRecDepth 100000 in
theorem k_X7_append (l : Launch) (G : va_G) (K : (Nat → Nat) × (Nat → Nat)) (c : Nat → ClassId) (ah : Nat → Nat) (ag : Nat → Nat → Nat) (ar : Nat → Nat) (ps : PS) (s7 : HS) (p0 : Int32) (p1 : Int32) (p2 : Int32) (p3 : Int32) (p4 : Int32) (r : Int32) (s7_r : HS) (hm : f_X7_append s7 p0 p1 p2 p3 p4 = some (r, s7_r)) : zMi l yX7_append wsX7_append (rm_X7_append) G K (TY c) [.ref (ah 0), .int p0, .int p1, .int p2, .int p3, .int p4] (wH c ah ag ar ps s7) (wH c ah ag ar ps s7_r) r := by
  refine zMi.of (cc := cX7_append) (maxL := 7) (lv := [(0, .ref (ah 0)), (1, .int p0), (2, .int p1), (3, .int p2), (4, .int p3), (5, .int p4)]) (by decide) rfl (Nat.le_of_ble_eq_true rfl) rfl ?_
  intro p e s m args below meth c1 A Q H locs hx hb hml hown hts hK hN hZ hP hD hA hS hend ls hl
  have hown : s.vm.findClass RX7 = some m.cls := hown
  have hi_3 : ∀ w ∈ wsX30, w ∈ wsX7_append := (fun w h => List.mem_cons_of_mem _ (List.mem_append_left _ (List.mem_append_right _ (h))))
  have hi_5 : ∀ w ∈ wsX50, w ∈ wsX7_append := (fun w h => List.mem_cons_of_mem _ (List.mem_append_right _ (h)))
  have hi_7 : ∀ w ∈ wsX70, w ∈ wsX7_append := (fun w h => List.mem_cons_of_mem _ (List.mem_append_left _ (List.mem_append_left _ (List.mem_append_right _ (h)))))
  unfold f_X7_append at hm
  refine lv_aload_n hx hb dX7_append_0 rfl (lv_at hl 0 rfl) ?_
  refine va_get (D := G) (ci := 7) (v := .ref (ar 0)) (C := RX7) (T := TX7) (N := 7) hx hb hts hi_7 hown hK hP 0 rfl rfl 5 (by decide) (hts (.fieldLink RX7 26 "HubTrains" "reader" "LHubTrains$SetupReader;") (List.mem_of_getElem? (i := 1) rfl)) (fun _ h9 => h9) rfl dX7_append_1 ?_
  refine va_getN (D := G) (ci := 3) (v := .ref (ar 2)) (C := RX3) (T := TX3) (N := 11) hx hb hts hi_3 hown hK hP 102 rfl rfl 0 (by decide) (va_Nw.use rfl (nwf_HubTrains_40 hN.1)) (fun _ h9 => h9) rfl dX7_append_4 ?_
  refine lv_astore (lv' := [(6, .ref (ar 2)), (0, .ref (ah 0)), (1, .int p0), (2, .int p1), (3, .int p2), (4, .int p3), (5, .int p4)]) hx hb dX7_append_7 hl (by decide) rfl (fun ls hl => ?_)
  refine lv_aload hx hb dX7_append_9 (lv_at hl 0 rfl) ?_
  refine va_getN (D := G) (ci := 5) (v := .int (s7.2.2.2.2.1.2.1.1 0)) (C := RX5) (T := TX5) (N := 7) hx hb hts hi_5 hown hK hP 104 rfl rfl 1 (by decide) (va_Nw.use rfl (nwf_HubTrains_44 hN.1)) (fun _ h9 => h9) rfl dX7_append_11 ?_
  refine lv_bipush (v := 20) hx hb dX7_append_14 (by decide) ?_
  refine lv_iadd hx hb dX7_append_16 ?_
  refine lv_sipush (v := 500) hx hb dX7_append_17 (by decide) ?_
  refine lv_icmp_le (tgt := 25) hx hb dX7_append_20 (by decide) (fun c_20 => ?_) (fun c_20 => ?_)
  · have hm := ifp c_20 hm
    refine lv_aload hx hb dX7_append_25 (lv_at hl 0 rfl) ?_
    refine lv_iload_n hx hb dX7_append_27 rfl (lv_at hl 2 rfl) ?_
    obtain ⟨tk28, e_28, hm⟩ := bd1_s hm
    refine zcVv (As := [.int p0]) (rest := []) ⟨hx, hb, hml, hown, hts⟩ (k_X5_store l G K c (ar 2) (ar 3) s7.2.2.2.2.1.2.1 p0 tk28 e_28) (cwV 1 hts gX7_append_X5_store rfl rfl rfl hd_X5_store ⟨Nat.le_of_ble_eq_true rfl, Nat.le_of_ble_eq_true rfl⟩) hK hN hZ hP hD hS hA (va_recv hK hP (ci := 5) (q0 := 104) rfl rfl) [104, 105] rfl (by decide) rfl rfl hl.1 rfl (Nat.le_of_ble_eq_true rfl) dX7_append_28 ⟨Nat.zero_le _, Nat.zero_le _⟩ (fun H locs hP hD hS => ?_)
    have hP : va_P G vwCl (wH c ah ag ar ps (s7.1, s7.2.1, s7.2.2.1, s7.2.2.2.1, (s7.2.2.2.2.1.1, tk28, s7.2.2.2.2.1.2.2), s7.2.2.2.2.2)) H := (congrArg (fun w => va_P G vwCl w H) (zstk7 (c := c) (ah := ah) (ag := ag) (ar := ar) (ps := ps) (s := s7) (k := tk28))).mp hP
    have hD : va_D A (wH c ah ag ar ps (s7.1, s7.2.1, s7.2.2.1, s7.2.2.2.1, (s7.2.2.2.2.1.1, tk28, s7.2.2.2.2.1.2.2), s7.2.2.2.2.2)) := (congrArg (fun w => va_D A w) (zstk7 (c := c) (ah := ah) (ag := ag) (ar := ar) (ps := ps) (s := s7) (k := tk28))).mp hD
    refine lv_aload hx hb dX7_append_31 (lv_at hl 0 rfl) ?_
    refine lv_iload_n hx hb dX7_append_33 rfl (lv_at hl 3 rfl) ?_
    obtain ⟨tk34, e_34, hm⟩ := bd1_s hm
    refine zcVv (As := [.int p1]) (rest := []) ⟨hx, hb, hml, hown, hts⟩ (k_X5_store l G K c (ar 2) (ar 3) tk28 p1 tk34 e_34) (cwV 1 hts gX7_append_X5_store rfl rfl rfl hd_X5_store ⟨Nat.le_of_ble_eq_true rfl, Nat.le_of_ble_eq_true rfl⟩) hK hN hZ hP hD hS hA (va_recv hK hP (ci := 5) (q0 := 104) rfl rfl) [104, 105] rfl (by decide) rfl rfl hl.1 rfl (Nat.le_of_ble_eq_true rfl) dX7_append_34 ⟨Nat.zero_le _, Nat.zero_le _⟩ (fun H locs hP hD hS => ?_)
    have hP : va_P G vwCl (wH c ah ag ar ps (s7.1, s7.2.1, s7.2.2.1, s7.2.2.2.1, (s7.2.2.2.2.1.1, tk34, s7.2.2.2.2.1.2.2), s7.2.2.2.2.2)) H := (congrArg (fun w => va_P G vwCl w H) (zstk7 (c := c) (ah := ah) (ag := ag) (ar := ar) (ps := ps) (s := (s7.1, s7.2.1, s7.2.2.1, s7.2.2.2.1, (s7.2.2.2.2.1.1, tk28, s7.2.2.2.2.1.2.2), s7.2.2.2.2.2)) (k := tk34))).mp hP
    have hD : va_D A (wH c ah ag ar ps (s7.1, s7.2.1, s7.2.2.1, s7.2.2.2.1, (s7.2.2.2.2.1.1, tk34, s7.2.2.2.2.1.2.2), s7.2.2.2.2.2)) := (congrArg (fun w => va_D A w) (zstk7 (c := c) (ah := ah) (ag := ag) (ar := ar) (ps := ps) (s := (s7.1, s7.2.1, s7.2.2.1, s7.2.2.2.1, (s7.2.2.2.2.1.1, tk28, s7.2.2.2.2.1.2.2), s7.2.2.2.2.2)) (k := tk34))).mp hD
    refine lv_aload hx hb dX7_append_37 (lv_at hl 0 rfl) ?_
    refine lv_iload_n hx hb dX7_append_39 rfl (lv_at hl 4 rfl) ?_
    obtain ⟨tk40, e_40, hm⟩ := bd1_s hm
    refine zcVv (As := [.int p2]) (rest := []) ⟨hx, hb, hml, hown, hts⟩ (k_X5_store l G K c (ar 2) (ar 3) tk34 p2 tk40 e_40) (cwV 1 hts gX7_append_X5_store rfl rfl rfl hd_X5_store ⟨Nat.le_of_ble_eq_true rfl, Nat.le_of_ble_eq_true rfl⟩) hK hN hZ hP hD hS hA (va_recv hK hP (ci := 5) (q0 := 104) rfl rfl) [104, 105] rfl (by decide) rfl rfl hl.1 rfl (Nat.le_of_ble_eq_true rfl) dX7_append_40 ⟨Nat.zero_le _, Nat.zero_le _⟩ (fun H locs hP hD hS => ?_)
    have hP : va_P G vwCl (wH c ah ag ar ps (s7.1, s7.2.1, s7.2.2.1, s7.2.2.2.1, (s7.2.2.2.2.1.1, tk40, s7.2.2.2.2.1.2.2), s7.2.2.2.2.2)) H := (congrArg (fun w => va_P G vwCl w H) (zstk7 (c := c) (ah := ah) (ag := ag) (ar := ar) (ps := ps) (s := (s7.1, s7.2.1, s7.2.2.1, s7.2.2.2.1, (s7.2.2.2.2.1.1, tk34, s7.2.2.2.2.1.2.2), s7.2.2.2.2.2)) (k := tk40))).mp hP
    have hD : va_D A (wH c ah ag ar ps (s7.1, s7.2.1, s7.2.2.1, s7.2.2.2.1, (s7.2.2.2.2.1.1, tk40, s7.2.2.2.2.1.2.2), s7.2.2.2.2.2)) := (congrArg (fun w => va_D A w) (zstk7 (c := c) (ah := ah) (ag := ag) (ar := ar) (ps := ps) (s := (s7.1, s7.2.1, s7.2.2.1, s7.2.2.2.1, (s7.2.2.2.2.1.1, tk34, s7.2.2.2.2.1.2.2), s7.2.2.2.2.2)) (k := tk40))).mp hD
    refine lv_aload hx hb dX7_append_43 (lv_at hl 0 rfl) ?_
    refine lv_iload hx hb dX7_append_45 (lv_at hl 5 rfl) ?_
    obtain ⟨tk47, e_47, hm⟩ := bd1_s hm
    refine zcVv (As := [.int p3]) (rest := []) ⟨hx, hb, hml, hown, hts⟩ (k_X5_store l G K c (ar 2) (ar 3) tk40 p3 tk47 e_47) (cwV 1 hts gX7_append_X5_store rfl rfl rfl hd_X5_store ⟨Nat.le_of_ble_eq_true rfl, Nat.le_of_ble_eq_true rfl⟩) hK hN hZ hP hD hS hA (va_recv hK hP (ci := 5) (q0 := 104) rfl rfl) [104, 105] rfl (by decide) rfl rfl hl.1 rfl (Nat.le_of_ble_eq_true rfl) dX7_append_47 ⟨Nat.zero_le _, Nat.zero_le _⟩ (fun H locs hP hD hS => ?_)
    have hP : va_P G vwCl (wH c ah ag ar ps (s7.1, s7.2.1, s7.2.2.1, s7.2.2.2.1, (s7.2.2.2.2.1.1, tk47, s7.2.2.2.2.1.2.2), s7.2.2.2.2.2)) H := (congrArg (fun w => va_P G vwCl w H) (zstk7 (c := c) (ah := ah) (ag := ag) (ar := ar) (ps := ps) (s := (s7.1, s7.2.1, s7.2.2.1, s7.2.2.2.1, (s7.2.2.2.2.1.1, tk40, s7.2.2.2.2.1.2.2), s7.2.2.2.2.2)) (k := tk47))).mp hP
    have hD : va_D A (wH c ah ag ar ps (s7.1, s7.2.1, s7.2.2.1, s7.2.2.2.1, (s7.2.2.2.2.1.1, tk47, s7.2.2.2.2.1.2.2), s7.2.2.2.2.2)) := (congrArg (fun w => va_D A w) (zstk7 (c := c) (ah := ah) (ag := ag) (ar := ar) (ps := ps) (s := (s7.1, s7.2.1, s7.2.2.1, s7.2.2.2.1, (s7.2.2.2.2.1.1, tk40, s7.2.2.2.2.1.2.2), s7.2.2.2.2.2)) (k := tk47))).mp hD
    refine lv_aload hx hb dX7_append_50 (lv_at hl 0 rfl) ?_
    refine lv_iload hx hb dX7_append_52 (lv_at hl 6 rfl) ?_
    obtain ⟨tk54, e_54, hm⟩ := bd1_s hm
    refine zcVv (As := [.int p4]) (rest := []) ⟨hx, hb, hml, hown, hts⟩ (k_X5_store l G K c (ar 2) (ar 3) tk47 p4 tk54 e_54) (cwV 1 hts gX7_append_X5_store rfl rfl rfl hd_X5_store ⟨Nat.le_of_ble_eq_true rfl, Nat.le_of_ble_eq_true rfl⟩) hK hN hZ hP hD hS hA (va_recv hK hP (ci := 5) (q0 := 104) rfl rfl) [104, 105] rfl (by decide) rfl rfl hl.1 rfl (Nat.le_of_ble_eq_true rfl) dX7_append_54 ⟨Nat.zero_le _, Nat.zero_le _⟩ (fun H locs hP hD hS => ?_)
    have hP : va_P G vwCl (wH c ah ag ar ps (s7.1, s7.2.1, s7.2.2.1, s7.2.2.2.1, (s7.2.2.2.2.1.1, tk54, s7.2.2.2.2.1.2.2), s7.2.2.2.2.2)) H := (congrArg (fun w => va_P G vwCl w H) (zstk7 (c := c) (ah := ah) (ag := ag) (ar := ar) (ps := ps) (s := (s7.1, s7.2.1, s7.2.2.1, s7.2.2.2.1, (s7.2.2.2.2.1.1, tk47, s7.2.2.2.2.1.2.2), s7.2.2.2.2.2)) (k := tk54))).mp hP
    have hD : va_D A (wH c ah ag ar ps (s7.1, s7.2.1, s7.2.2.1, s7.2.2.2.1, (s7.2.2.2.2.1.1, tk54, s7.2.2.2.2.1.2.2), s7.2.2.2.2.2)) := (congrArg (fun w => va_D A w) (zstk7 (c := c) (ah := ah) (ag := ag) (ar := ar) (ps := ps) (s := (s7.1, s7.2.1, s7.2.2.1, s7.2.2.2.1, (s7.2.2.2.2.1.1, tk47, s7.2.2.2.2.1.2.2), s7.2.2.2.2.2)) (k := tk54))).mp hD
    refine lv_aload hx hb dX7_append_57 (lv_at hl 0 rfl) ?_
    refine va_getN (D := G) (ci := 5) (v := .int (tk54.1 0)) (C := RX5) (T := TX5) (N := 7) hx hb hts hi_5 hown hK hP 104 rfl rfl 1 (by decide) (va_Nw.use rfl (nwf_HubTrains_44 hN.1)) (fun _ h9 => h9) rfl dX7_append_59 ?_
    exact hend H locs ls _ _ _ rfl (Prod.mk.inj (Option.some.inj hm)).1 (zc1 (fun (z0 : HS) => (wH c ah ag ar ps z0 : va_W)) (Prod.mk.inj (Option.some.inj hm)).2) hP hD hS dX7_append_62
  · have hm := ifn c_20 hm
    refine lv_iconst (v := (-1)) hx hb dX7_append_23 (by decide) ?_
    exact hend H locs ls _ _ _ rfl (Prod.mk.inj (Option.some.inj hm)).1 (zc1 (fun (z0 : HS) => (wH c ah ag ar ps z0 : va_W)) (Prod.mk.inj (Option.some.inj hm)).2) hP hD hS dX7_append_24


def f_X7_errorOffset (s7 : HS) : Option Int32 :=
  some ((s7.2.2.2.2.1.1.1 7))

abbrev rm_X7_errorOffset : Room := { frames := 0, cells := 0, slots := 0, locals := 0 }
theorem hd_X7_errorOffset : yX7_errorOffset.cls = RX7 ∧ yX7_errorOffset.cls ≠ "java/lang/invoke/MethodHandle" ∧ yX7_errorOffset.cls ≠ "java/lang/invoke/VarHandle" ∧ (parseMethodDescriptor yX7_errorOffset.desc).map (fun d => d.parameters.length) = some 0 := by decide +kernel
set_option maxHeartbeats 4000000 in
set_option maxRecDepth 100000 in
theorem k_X7_errorOffset (l : Launch) (G : va_G) (K : (Nat → Nat) × (Nat → Nat)) (c : Nat → ClassId) (ah : Nat → Nat) (ag : Nat → Nat → Nat) (ar : Nat → Nat) (ps : PS) (s7 : HS) (r : Int32) (hm : f_X7_errorOffset s7 = some (r)) : zMi l yX7_errorOffset wsX7_errorOffset (rm_X7_errorOffset) G K (TY c) [.ref (ah 0)] (wH c ah ag ar ps s7) (wH c ah ag ar ps s7) r := by
  refine zMi.of (cc := cX7_errorOffset) (maxL := 1) (lv := [(0, .ref (ah 0))]) (by decide) rfl (Nat.le_of_ble_eq_true rfl) rfl ?_
  intro p e s m args below meth c1 A Q H locs hx hb hml hown hts hK hN hZ hP hD hA hS hend ls hl
  have hown : s.vm.findClass RX7 = some m.cls := hown
  have hi_3 : ∀ w ∈ wsX30, w ∈ wsX7_errorOffset := (fun w h => List.mem_cons_of_mem _ (List.mem_append_right _ (h)))
  have hi_7 : ∀ w ∈ wsX70, w ∈ wsX7_errorOffset := (fun w h => List.mem_cons_of_mem _ (List.mem_append_left _ (List.mem_append_right _ (h))))
  unfold f_X7_errorOffset at hm
  refine lv_aload_n hx hb dX7_errorOffset_0 rfl (lv_at hl 0 rfl) ?_
  refine va_get (D := G) (ci := 7) (v := .ref (ar 0)) (C := RX7) (T := TX7) (N := 7) hx hb hts hi_7 hown hK hP 0 rfl rfl 5 (by decide) (hts (.fieldLink RX7 26 "HubTrains" "reader" "LHubTrains$SetupReader;") (List.mem_of_getElem? (i := 1) rfl)) (fun _ h9 => h9) rfl dX7_errorOffset_1 ?_
  refine va_getN (D := G) (ci := 3) (v := .int (s7.2.2.2.2.1.1.1 7)) (C := RX3) (T := TX3) (N := 11) hx hb hts hi_3 hown hK hP 102 rfl rfl 10 (by decide) (va_Nw.use rfl (nwf_HubTrains_79 hN.1)) (fun _ h9 => h9) rfl dX7_errorOffset_4 ?_
  exact hend H locs ls _ _ _ rfl (Option.some.inj hm) rfl hP hD hS dX7_errorOffset_7


def f_X7_state (s7 : HS) (p0 : Int32) : Option Int32 :=
  bd1 (f_X7_checkWhat p0 13) fun (_ : Unit) => bd1 (f_X1_stateNumber s7.2.1 p0) fun (r11 : Int32) => some (r11)

abbrev rm_X7_state : Room := { frames := 7, cells := 0, slots := 0, locals := 151 }
theorem hd_X7_state : yX7_state.cls = RX7 ∧ yX7_state.cls ≠ "java/lang/invoke/MethodHandle" ∧ yX7_state.cls ≠ "java/lang/invoke/VarHandle" ∧ (parseMethodDescriptor yX7_state.desc).map (fun d => d.parameters.length) = some 1 := by decide +kernel
set_option maxHeartbeats 4000000 in
set_option maxRecDepth 100000 in
theorem k_X7_state (l : Launch) (G : va_G) (K : (Nat → Nat) × (Nat → Nat)) (c : Nat → ClassId) (ah : Nat → Nat) (ag : Nat → Nat → Nat) (ar : Nat → Nat) (ps : PS) (s7 : HS) (p0 : Int32) (r : Int32) (hm : f_X7_state s7 p0 = some (r)) : zMi l yX7_state wsX7_state (rm_X7_state) G K (TY c) [.ref (ah 0), .int p0] (wH c ah ag ar ps s7) (wH c ah ag ar ps s7) r := by
  refine zMi.of (cc := cX7_state) (maxL := 2) (lv := [(0, .ref (ah 0)), (1, .int p0)]) (by decide) rfl (Nat.le_of_ble_eq_true rfl) rfl ?_
  intro p e s m args below meth c1 A Q H locs hx hb hml hown hts hK hN hZ hP hD hA hS hend ls hl
  have hown : s.vm.findClass RX7 = some m.cls := hown
  have hi_7 : ∀ w ∈ wsX70, w ∈ wsX7_state := (fun w h => List.mem_cons_of_mem _ (List.mem_append_left _ (List.mem_append_left _ (List.mem_append_left _ (List.mem_append_left _ (List.mem_append_right _ (h)))))))
  unfold f_X7_state at hm
  refine lv_iload_n hx hb dX7_state_0 rfl (lv_at hl 1 rfl) ?_
  refine lv_bipush (v := 13) hx hb dX7_state_1 (by decide) ?_
  obtain ⟨e_u3, e_3, hm⟩ := bd1_s hm
  refine zcSv (As := [.int p0, .int 13]) (rest := []) ⟨hx, hb, hml, hown, hts⟩ (k_X7_checkWhat l G K c p0 13 e_3) (va_cwS 2 hts gX7_state_X7_checkWhat rfl rfl rfl hd_X7_checkWhat.2 ⟨Nat.le_of_ble_eq_true rfl, Nat.le_of_ble_eq_true rfl⟩) hK hN hZ hP hD hS hA [] rfl (by decide) rfl rfl hl.1 rfl (Nat.le_of_ble_eq_true rfl) dX7_state_3 ⟨Nat.zero_le _, Nat.zero_le _⟩ (fun H locs hP hD hS => ?_)
  have hP : va_P G vwCl (wH c ah ag ar ps s7) H := (congrArg (fun w => va_P G vwCl w H) (zset_id _ _ _ rfl)).mp hP
  have hD : va_D A (wH c ah ag ar ps s7) := (congrArg (fun w => va_D A w) (zset_id _ _ _ rfl)).mp hD
  refine lv_aload_n hx hb dX7_state_6 rfl (lv_at hl 0 rfl) ?_
  refine va_get (D := G) (ci := 7) (v := .ref (ag 0 0)) (C := RX7) (T := TX7) (N := 7) hx hb hts hi_7 hown hK hP 0 rfl rfl 0 (by decide) (hts (.fieldLink RX7 10 "HubTrains" "game" "LHubTrains$Game;") (List.mem_of_getElem? (i := 1) rfl)) (fun _ h9 => h9) rfl dX7_state_7 ?_
  refine lv_iload_n hx hb dX7_state_10 rfl (lv_at hl 1 rfl) ?_
  obtain ⟨r11, e_11, hm⟩ := bd1_s hm
  refine zcVi (As := [.int p0]) (rest := []) ⟨hx, hb, hml, hown, hts⟩ (k_X1_stateNumber l G K c (ag 0) s7.2.1 p0 r11 e_11) (cwV 1 hts gX7_state_X1_stateNumber rfl rfl rfl hd_X1_stateNumber ⟨Nat.le_of_ble_eq_true rfl, Nat.le_of_ble_eq_true rfl⟩) hK hN hZ hP hD hS hA (va_recv hK hP (ci := 1) (q0 := 2) rfl rfl) [2, 3, 4, 5, 6, 7, 8, 9, 10, 11] rfl (by decide) rfl rfl hl.1 rfl (Nat.le_of_ble_eq_true rfl) dX7_state_11 ⟨Nat.zero_le _, Nat.zero_le _⟩ (fun H locs hP hD hS => ?_)
  have hP : va_P G vwCl (wH c ah ag ar ps s7) H := (congrArg (fun w => va_P G vwCl w H) (zset_id _ _ _ rfl)).mp hP
  have hD : va_D A (wH c ah ag ar ps s7) := (congrArg (fun w => va_D A w) (zset_id _ _ _ rfl)).mp hD
  exact hend H locs ls _ _ _ rfl (Option.some.inj hm) rfl hP hD hS dX7_state_14


def f_X7_player (s7 : HS) (p0 : Int32) (p1 : Int32) : Option Int32 :=
  bd1 (f_X7_checkPlayer s7 p0) fun (_ : Unit) => bd1 (f_X7_checkWhat p1 4) fun (_ : Unit) => bd1 (f_X1_playerNumber s7.2.1 p0 p1) fun (r16 : Int32) => some (r16)

abbrev rm_X7_player : Room := { frames := 7, cells := 0, slots := 0, locals := 153 }
theorem hd_X7_player : yX7_player.cls = RX7 ∧ yX7_player.cls ≠ "java/lang/invoke/MethodHandle" ∧ yX7_player.cls ≠ "java/lang/invoke/VarHandle" ∧ (parseMethodDescriptor yX7_player.desc).map (fun d => d.parameters.length) = some 2 := by decide +kernel
set_option maxHeartbeats 4000000 in
set_option maxRecDepth 100000 in
theorem k_X7_player (l : Launch) (G : va_G) (K : (Nat → Nat) × (Nat → Nat)) (c : Nat → ClassId) (ah : Nat → Nat) (ag : Nat → Nat → Nat) (ar : Nat → Nat) (ps : PS) (s7 : HS) (p0 : Int32) (p1 : Int32) (r : Int32) (hm : f_X7_player s7 p0 p1 = some (r)) : zMi l yX7_player wsX7_player (rm_X7_player) G K (TY c) [.ref (ah 0), .int p0, .int p1] (wH c ah ag ar ps s7) (wH c ah ag ar ps s7) r := by
  refine zMi.of (cc := cX7_player) (maxL := 3) (lv := [(0, .ref (ah 0)), (1, .int p0), (2, .int p1)]) (by decide) rfl (Nat.le_of_ble_eq_true rfl) rfl ?_
  intro p e s m args below meth c1 A Q H locs hx hb hml hown hts hK hN hZ hP hD hA hS hend ls hl
  have hown : s.vm.findClass RX7 = some m.cls := hown
  have hi_7 : ∀ w ∈ wsX70, w ∈ wsX7_player := (fun w h => List.mem_cons_of_mem _ (List.mem_append_left _ (List.mem_append_left _ (List.mem_append_left _ (List.mem_append_left _ (List.mem_append_right _ (h)))))))
  unfold f_X7_player at hm
  refine lv_aload_n hx hb dX7_player_0 rfl (lv_at hl 0 rfl) ?_
  refine lv_iload_n hx hb dX7_player_1 rfl (lv_at hl 1 rfl) ?_
  obtain ⟨e_u2, e_2, hm⟩ := bd1_s hm
  refine zcWv (As := [.int p0]) (rest := []) ⟨hx, hb, hml, hown, hts⟩ (k_X7_checkPlayer l G K c ah ag ar ps s7 p0 e_2) (cwV 1 hts gX7_player_X7_checkPlayer rfl rfl rfl hd_X7_checkPlayer ⟨Nat.le_of_ble_eq_true rfl, Nat.le_of_ble_eq_true rfl⟩) hK hN hZ hP hD hS hA (va_recv hK hP (ci := 7) (q0 := 0) rfl rfl) rfl hl.1 rfl (Nat.le_of_ble_eq_true rfl) dX7_player_2 ⟨Nat.zero_le _, Nat.zero_le _⟩ (fun H locs hP hD hS => ?_)
  have hP : va_P G vwCl (wH c ah ag ar ps s7) H := hP
  have hD : va_D A (wH c ah ag ar ps s7) := hD
  refine lv_iload_n hx hb dX7_player_5 rfl (lv_at hl 2 rfl) ?_
  refine lv_iconst (v := 4) hx hb dX7_player_6 (by decide) ?_
  obtain ⟨e_u7, e_7, hm⟩ := bd1_s hm
  refine zcSv (As := [.int p1, .int 4]) (rest := []) ⟨hx, hb, hml, hown, hts⟩ (k_X7_checkWhat l G K c p1 4 e_7) (va_cwS 2 hts gX7_player_X7_checkWhat rfl rfl rfl hd_X7_checkWhat.2 ⟨Nat.le_of_ble_eq_true rfl, Nat.le_of_ble_eq_true rfl⟩) hK hN hZ hP hD hS hA [] rfl (by decide) rfl rfl hl.1 rfl (Nat.le_of_ble_eq_true rfl) dX7_player_7 ⟨Nat.zero_le _, Nat.zero_le _⟩ (fun H locs hP hD hS => ?_)
  have hP : va_P G vwCl (wH c ah ag ar ps s7) H := (congrArg (fun w => va_P G vwCl w H) (zset_id _ _ _ rfl)).mp hP
  have hD : va_D A (wH c ah ag ar ps s7) := (congrArg (fun w => va_D A w) (zset_id _ _ _ rfl)).mp hD
  refine lv_aload_n hx hb dX7_player_10 rfl (lv_at hl 0 rfl) ?_
  refine va_get (D := G) (ci := 7) (v := .ref (ag 0 0)) (C := RX7) (T := TX7) (N := 7) hx hb hts hi_7 hown hK hP 0 rfl rfl 0 (by decide) (hts (.fieldLink RX7 10 "HubTrains" "game" "LHubTrains$Game;") (List.mem_of_getElem? (i := 1) rfl)) (fun _ h9 => h9) rfl dX7_player_11 ?_
  refine lv_iload_n hx hb dX7_player_14 rfl (lv_at hl 1 rfl) ?_
  refine lv_iload_n hx hb dX7_player_15 rfl (lv_at hl 2 rfl) ?_
  obtain ⟨r16, e_16, hm⟩ := bd1_s hm
  refine zcVi (As := [.int p0, .int p1]) (rest := []) ⟨hx, hb, hml, hown, hts⟩ (k_X1_playerNumber l G K c (ag 0) s7.2.1 p0 p1 r16 e_16) (cwV 2 hts gX7_player_X1_playerNumber rfl rfl rfl hd_X1_playerNumber ⟨Nat.le_of_ble_eq_true rfl, Nat.le_of_ble_eq_true rfl⟩) hK hN hZ hP hD hS hA (va_recv hK hP (ci := 1) (q0 := 2) rfl rfl) [2, 3, 4, 5, 6, 7, 8, 9, 10, 11] rfl (by decide) rfl rfl hl.1 rfl (Nat.le_of_ble_eq_true rfl) dX7_player_16 ⟨Nat.zero_le _, Nat.zero_le _⟩ (fun H locs hP hD hS => ?_)
  have hP : va_P G vwCl (wH c ah ag ar ps s7) H := (congrArg (fun w => va_P G vwCl w H) (zset_id _ _ _ rfl)).mp hP
  have hD : va_D A (wH c ah ag ar ps s7) := (congrArg (fun w => va_D A w) (zset_id _ _ _ rfl)).mp hD
  exact hend H locs ls _ _ _ rfl (Option.some.inj hm) rfl hP hD hS dX7_player_19


def f_X7_tile (s7 : HS) (p0 : Int32) (p1 : Int32) : Option Int32 :=
  bd1 (f_X7_checkPlayer s7 p0) fun (_ : Unit) => bd1 (f_X1_tileInHand s7.2.1 p0 p1) fun (r11 : Int32) => if r11 = (-1) then (none) else (some (r11))

abbrev rm_X7_tile : Room := { frames := 2, cells := 0, slots := 0, locals := 45 }
theorem hd_X7_tile : yX7_tile.cls = RX7 ∧ yX7_tile.cls ≠ "java/lang/invoke/MethodHandle" ∧ yX7_tile.cls ≠ "java/lang/invoke/VarHandle" ∧ (parseMethodDescriptor yX7_tile.desc).map (fun d => d.parameters.length) = some 2 := by decide +kernel
set_option maxHeartbeats 4000000 in
set_option maxRecDepth 100000 in
theorem k_X7_tile (l : Launch) (G : va_G) (K : (Nat → Nat) × (Nat → Nat)) (c : Nat → ClassId) (ah : Nat → Nat) (ag : Nat → Nat → Nat) (ar : Nat → Nat) (ps : PS) (s7 : HS) (p0 : Int32) (p1 : Int32) (r : Int32) (hm : f_X7_tile s7 p0 p1 = some (r)) : zMi l yX7_tile wsX7_tile (rm_X7_tile) G K (TY c) [.ref (ah 0), .int p0, .int p1] (wH c ah ag ar ps s7) (wH c ah ag ar ps s7) r := by
  refine zMi.of (cc := cX7_tile) (maxL := 4) (lv := [(0, .ref (ah 0)), (1, .int p0), (2, .int p1)]) (by decide) rfl (Nat.le_of_ble_eq_true rfl) rfl ?_
  intro p e s m args below meth c1 A Q H locs hx hb hml hown hts hK hN hZ hP hD hA hS hend ls hl
  have hown : s.vm.findClass RX7 = some m.cls := hown
  have hi_7 : ∀ w ∈ wsX70, w ∈ wsX7_tile := (fun w h => List.mem_cons_of_mem _ (List.mem_append_left _ (List.mem_append_left _ (List.mem_append_left _ (List.mem_append_right _ (h))))))
  unfold f_X7_tile at hm
  refine lv_aload_n hx hb dX7_tile_0 rfl (lv_at hl 0 rfl) ?_
  refine lv_iload_n hx hb dX7_tile_1 rfl (lv_at hl 1 rfl) ?_
  obtain ⟨e_u2, e_2, hm⟩ := bd1_s hm
  refine zcWv (As := [.int p0]) (rest := []) ⟨hx, hb, hml, hown, hts⟩ (k_X7_checkPlayer l G K c ah ag ar ps s7 p0 e_2) (cwV 1 hts gX7_tile_X7_checkPlayer rfl rfl rfl hd_X7_checkPlayer ⟨Nat.le_of_ble_eq_true rfl, Nat.le_of_ble_eq_true rfl⟩) hK hN hZ hP hD hS hA (va_recv hK hP (ci := 7) (q0 := 0) rfl rfl) rfl hl.1 rfl (Nat.le_of_ble_eq_true rfl) dX7_tile_2 ⟨Nat.zero_le _, Nat.zero_le _⟩ (fun H locs hP hD hS => ?_)
  have hP : va_P G vwCl (wH c ah ag ar ps s7) H := hP
  have hD : va_D A (wH c ah ag ar ps s7) := hD
  refine lv_aload_n hx hb dX7_tile_5 rfl (lv_at hl 0 rfl) ?_
  refine va_get (D := G) (ci := 7) (v := .ref (ag 0 0)) (C := RX7) (T := TX7) (N := 7) hx hb hts hi_7 hown hK hP 0 rfl rfl 0 (by decide) (hts (.fieldLink RX7 10 "HubTrains" "game" "LHubTrains$Game;") (List.mem_of_getElem? (i := 3) rfl)) (fun _ h9 => h9) rfl dX7_tile_6 ?_
  refine lv_iload_n hx hb dX7_tile_9 rfl (lv_at hl 1 rfl) ?_
  refine lv_iload_n hx hb dX7_tile_10 rfl (lv_at hl 2 rfl) ?_
  obtain ⟨r11, e_11, hm⟩ := bd1_s hm
  refine zcVi (As := [.int p0, .int p1]) (rest := []) ⟨hx, hb, hml, hown, hts⟩ (k_X1_tileInHand l G K c (ag 0) s7.2.1 p0 p1 r11 e_11) (cwV 2 hts gX7_tile_X1_tileInHand rfl rfl rfl hd_X1_tileInHand ⟨Nat.le_of_ble_eq_true rfl, Nat.le_of_ble_eq_true rfl⟩) hK hN hZ hP hD hS hA (va_recv hK hP (ci := 1) (q0 := 2) rfl rfl) [2, 3, 4, 5, 6, 7, 8, 9, 10, 11] rfl (by decide) rfl rfl hl.1 rfl (Nat.le_of_ble_eq_true rfl) dX7_tile_11 ⟨Nat.zero_le _, Nat.zero_le _⟩ (fun H locs hP hD hS => ?_)
  have hP : va_P G vwCl (wH c ah ag ar ps s7) H := (congrArg (fun w => va_P G vwCl w H) (zset_id _ _ _ rfl)).mp hP
  have hD : va_D A (wH c ah ag ar ps s7) := (congrArg (fun w => va_D A w) (zset_id _ _ _ rfl)).mp hD
  refine lv_istore_n (lv' := [(3, .int r11), (0, .ref (ah 0)), (1, .int p0), (2, .int p1)]) hx hb dX7_tile_14 rfl hl (by decide) rfl (fun ls hl => ?_)
  refine lv_iload_n hx hb dX7_tile_15 rfl (lv_at hl 0 rfl) ?_
  refine lv_iconst (v := (-1)) hx hb dX7_tile_16 (by decide) ?_
  refine lv_icmp_ne (tgt := 28) hx hb dX7_tile_17 (by decide) (fun c_17 => ?_) (fun c_17 => ?_)
  · have hm := ifn c_17 hm
    refine lv_iload_n hx hb dX7_tile_28 rfl (lv_at hl 0 rfl) ?_
    exact hend H locs ls _ _ _ rfl (Option.some.inj hm) rfl hP hD hS dX7_tile_29
  · have hm := ifp c_17 hm
    cases hm


def f_X7_train (s7 : HS) (p0 : Int32) (p1 : Int32) : Option Int32 :=
  bd1 (f_X7_checkTrain s7 p0) fun (_ : Unit) => bd1 (f_X7_checkWhat p1 5) fun (_ : Unit) => bd1 (f_X1_trainNumber s7.2.1 p0 p1) fun (r16 : Int32) => some (r16)

abbrev rm_X7_train : Room := { frames := 4, cells := 0, slots := 0, locals := 85 }
theorem hd_X7_train : yX7_train.cls = RX7 ∧ yX7_train.cls ≠ "java/lang/invoke/MethodHandle" ∧ yX7_train.cls ≠ "java/lang/invoke/VarHandle" ∧ (parseMethodDescriptor yX7_train.desc).map (fun d => d.parameters.length) = some 2 := by decide +kernel
set_option maxHeartbeats 4000000 in
set_option maxRecDepth 100000 in
theorem k_X7_train (l : Launch) (G : va_G) (K : (Nat → Nat) × (Nat → Nat)) (c : Nat → ClassId) (ah : Nat → Nat) (ag : Nat → Nat → Nat) (ar : Nat → Nat) (ps : PS) (s7 : HS) (p0 : Int32) (p1 : Int32) (r : Int32) (hm : f_X7_train s7 p0 p1 = some (r)) : zMi l yX7_train wsX7_train (rm_X7_train) G K (TY c) [.ref (ah 0), .int p0, .int p1] (wH c ah ag ar ps s7) (wH c ah ag ar ps s7) r := by
  refine zMi.of (cc := cX7_train) (maxL := 3) (lv := [(0, .ref (ah 0)), (1, .int p0), (2, .int p1)]) (by decide) rfl (Nat.le_of_ble_eq_true rfl) rfl ?_
  intro p e s m args below meth c1 A Q H locs hx hb hml hown hts hK hN hZ hP hD hA hS hend ls hl
  have hown : s.vm.findClass RX7 = some m.cls := hown
  have hi_7 : ∀ w ∈ wsX70, w ∈ wsX7_train := (fun w h => List.mem_cons_of_mem _ (List.mem_append_left _ (List.mem_append_left _ (List.mem_append_left _ (List.mem_append_left _ (List.mem_append_right _ (h)))))))
  unfold f_X7_train at hm
  refine lv_aload_n hx hb dX7_train_0 rfl (lv_at hl 0 rfl) ?_
  refine lv_iload_n hx hb dX7_train_1 rfl (lv_at hl 1 rfl) ?_
  obtain ⟨e_u2, e_2, hm⟩ := bd1_s hm
  refine zcWv (As := [.int p0]) (rest := []) ⟨hx, hb, hml, hown, hts⟩ (k_X7_checkTrain l G K c ah ag ar ps s7 p0 e_2) (cwV 1 hts gX7_train_X7_checkTrain rfl rfl rfl hd_X7_checkTrain ⟨Nat.le_of_ble_eq_true rfl, Nat.le_of_ble_eq_true rfl⟩) hK hN hZ hP hD hS hA (va_recv hK hP (ci := 7) (q0 := 0) rfl rfl) rfl hl.1 rfl (Nat.le_of_ble_eq_true rfl) dX7_train_2 ⟨Nat.zero_le _, Nat.zero_le _⟩ (fun H locs hP hD hS => ?_)
  have hP : va_P G vwCl (wH c ah ag ar ps s7) H := hP
  have hD : va_D A (wH c ah ag ar ps s7) := hD
  refine lv_iload_n hx hb dX7_train_5 rfl (lv_at hl 2 rfl) ?_
  refine lv_iconst (v := 5) hx hb dX7_train_6 (by decide) ?_
  obtain ⟨e_u7, e_7, hm⟩ := bd1_s hm
  refine zcSv (As := [.int p1, .int 5]) (rest := []) ⟨hx, hb, hml, hown, hts⟩ (k_X7_checkWhat l G K c p1 5 e_7) (va_cwS 2 hts gX7_train_X7_checkWhat rfl rfl rfl hd_X7_checkWhat.2 ⟨Nat.le_of_ble_eq_true rfl, Nat.le_of_ble_eq_true rfl⟩) hK hN hZ hP hD hS hA [] rfl (by decide) rfl rfl hl.1 rfl (Nat.le_of_ble_eq_true rfl) dX7_train_7 ⟨Nat.zero_le _, Nat.zero_le _⟩ (fun H locs hP hD hS => ?_)
  have hP : va_P G vwCl (wH c ah ag ar ps s7) H := (congrArg (fun w => va_P G vwCl w H) (zset_id _ _ _ rfl)).mp hP
  have hD : va_D A (wH c ah ag ar ps s7) := (congrArg (fun w => va_D A w) (zset_id _ _ _ rfl)).mp hD
  refine lv_aload_n hx hb dX7_train_10 rfl (lv_at hl 0 rfl) ?_
  refine va_get (D := G) (ci := 7) (v := .ref (ag 0 0)) (C := RX7) (T := TX7) (N := 7) hx hb hts hi_7 hown hK hP 0 rfl rfl 0 (by decide) (hts (.fieldLink RX7 10 "HubTrains" "game" "LHubTrains$Game;") (List.mem_of_getElem? (i := 1) rfl)) (fun _ h9 => h9) rfl dX7_train_11 ?_
  refine lv_iload_n hx hb dX7_train_14 rfl (lv_at hl 1 rfl) ?_
  refine lv_iload_n hx hb dX7_train_15 rfl (lv_at hl 2 rfl) ?_
  obtain ⟨r16, e_16, hm⟩ := bd1_s hm
  refine zcVi (As := [.int p0, .int p1]) (rest := []) ⟨hx, hb, hml, hown, hts⟩ (k_X1_trainNumber l G K c (ag 0) s7.2.1 p0 p1 r16 e_16) (cwV 2 hts gX7_train_X1_trainNumber rfl rfl rfl hd_X1_trainNumber ⟨Nat.le_of_ble_eq_true rfl, Nat.le_of_ble_eq_true rfl⟩) hK hN hZ hP hD hS hA (va_recv hK hP (ci := 1) (q0 := 2) rfl rfl) [2, 3, 4, 5, 6, 7, 8, 9, 10, 11] rfl (by decide) rfl rfl hl.1 rfl (Nat.le_of_ble_eq_true rfl) dX7_train_16 ⟨Nat.zero_le _, Nat.zero_le _⟩ (fun H locs hP hD hS => ?_)
  have hP : va_P G vwCl (wH c ah ag ar ps s7) H := (congrArg (fun w => va_P G vwCl w H) (zset_id _ _ _ rfl)).mp hP
  have hD : va_D A (wH c ah ag ar ps s7) := (congrArg (fun w => va_D A w) (zset_id _ _ _ rfl)).mp hD
  exact hend H locs ls _ _ _ rfl (Option.some.inj hm) rfl hP hD hS dX7_train_19


def f_X7_laid (s7 : HS) (p0 : Int32) (p1 : Int32) : Option Int32 :=
  bd1 (f_X7_checkTrain s7 p0) fun (_ : Unit) => bd1 (f_X6_tileAt s7.2.1.2.2.2 p0 p1) fun (r14 : Int32) => if r14 = (-1) then (none) else (some (r14))

abbrev rm_X7_laid : Room := { frames := 2, cells := 0, slots := 0, locals := 45 }
theorem hd_X7_laid : yX7_laid.cls = RX7 ∧ yX7_laid.cls ≠ "java/lang/invoke/MethodHandle" ∧ yX7_laid.cls ≠ "java/lang/invoke/VarHandle" ∧ (parseMethodDescriptor yX7_laid.desc).map (fun d => d.parameters.length) = some 2 := by decide +kernel
set_option maxHeartbeats 4000000 in
set_option maxRecDepth 100000 in
theorem k_X7_laid (l : Launch) (G : va_G) (K : (Nat → Nat) × (Nat → Nat)) (c : Nat → ClassId) (ah : Nat → Nat) (ag : Nat → Nat → Nat) (ar : Nat → Nat) (ps : PS) (s7 : HS) (p0 : Int32) (p1 : Int32) (r : Int32) (hm : f_X7_laid s7 p0 p1 = some (r)) : zMi l yX7_laid wsX7_laid (rm_X7_laid) G K (TY c) [.ref (ah 0), .int p0, .int p1] (wH c ah ag ar ps s7) (wH c ah ag ar ps s7) r := by
  refine zMi.of (cc := cX7_laid) (maxL := 4) (lv := [(0, .ref (ah 0)), (1, .int p0), (2, .int p1)]) (by decide) rfl (Nat.le_of_ble_eq_true rfl) rfl ?_
  intro p e s m args below meth c1 A Q H locs hx hb hml hown hts hK hN hZ hP hD hA hS hend ls hl
  have hown : s.vm.findClass RX7 = some m.cls := hown
  have hi_1 : ∀ w ∈ wsX10, w ∈ wsX7_laid := (fun w h => List.mem_cons_of_mem _ (List.mem_append_left _ (List.mem_append_left _ (List.mem_append_left _ (List.mem_append_right _ (h))))))
  have hi_7 : ∀ w ∈ wsX70, w ∈ wsX7_laid := (fun w h => List.mem_cons_of_mem _ (List.mem_append_left _ (List.mem_append_left _ (List.mem_append_left _ (List.mem_append_left _ (List.mem_append_right _ (h)))))))
  unfold f_X7_laid at hm
  refine lv_aload_n hx hb dX7_laid_0 rfl (lv_at hl 0 rfl) ?_
  refine lv_iload_n hx hb dX7_laid_1 rfl (lv_at hl 1 rfl) ?_
  obtain ⟨e_u2, e_2, hm⟩ := bd1_s hm
  refine zcWv (As := [.int p0]) (rest := []) ⟨hx, hb, hml, hown, hts⟩ (k_X7_checkTrain l G K c ah ag ar ps s7 p0 e_2) (cwV 1 hts gX7_laid_X7_checkTrain rfl rfl rfl hd_X7_checkTrain ⟨Nat.le_of_ble_eq_true rfl, Nat.le_of_ble_eq_true rfl⟩) hK hN hZ hP hD hS hA (va_recv hK hP (ci := 7) (q0 := 0) rfl rfl) rfl hl.1 rfl (Nat.le_of_ble_eq_true rfl) dX7_laid_2 ⟨Nat.zero_le _, Nat.zero_le _⟩ (fun H locs hP hD hS => ?_)
  have hP : va_P G vwCl (wH c ah ag ar ps s7) H := hP
  have hD : va_D A (wH c ah ag ar ps s7) := hD
  refine lv_aload_n hx hb dX7_laid_5 rfl (lv_at hl 0 rfl) ?_
  refine va_get (D := G) (ci := 7) (v := .ref (ag 0 0)) (C := RX7) (T := TX7) (N := 7) hx hb hts hi_7 hown hK hP 0 rfl rfl 0 (by decide) (hts (.fieldLink RX7 10 "HubTrains" "game" "LHubTrains$Game;") (List.mem_of_getElem? (i := 3) rfl)) (fun _ h9 => h9) rfl dX7_laid_6 ?_
  refine va_getN (D := G) (ci := 1) (v := .ref (ag 0 5)) (C := RX1) (T := TX1) (N := 16) hx hb hts hi_1 hown hK hP 2 rfl rfl 15 (by decide) (va_Nw.use rfl (nwf_HubTrains_108 hN.1)) (fun _ h9 => h9) rfl dX7_laid_9 ?_
  refine lv_iload_n hx hb dX7_laid_12 rfl (lv_at hl 1 rfl) ?_
  refine lv_iload_n hx hb dX7_laid_13 rfl (lv_at hl 2 rfl) ?_
  obtain ⟨r14, e_14, hm⟩ := bd1_s hm
  refine zcVi (As := [.int p0, .int p1]) (rest := []) ⟨hx, hb, hml, hown, hts⟩ (k_X6_tileAt l G K c (ag 0 5) (ag 0 6) (ag 0 7) (ag 0 8) (ag 0 9) s7.2.1.2.2.2 p0 p1 r14 e_14) (cwV 2 hts gX7_laid_X6_tileAt rfl rfl rfl hd_X6_tileAt ⟨Nat.le_of_ble_eq_true rfl, Nat.le_of_ble_eq_true rfl⟩) hK hN hZ hP hD hS hA (va_recv hK hP (ci := 6) (q0 := 7) rfl rfl) [7, 8, 9, 10, 11] rfl (by decide) rfl rfl hl.1 rfl (Nat.le_of_ble_eq_true rfl) dX7_laid_14 ⟨Nat.zero_le _, Nat.zero_le _⟩ (fun H locs hP hD hS => ?_)
  have hP : va_P G vwCl (wH c ah ag ar ps s7) H := (congrArg (fun w => va_P G vwCl w H) (zset_id _ _ _ rfl)).mp hP
  have hD : va_D A (wH c ah ag ar ps s7) := (congrArg (fun w => va_D A w) (zset_id _ _ _ rfl)).mp hD
  refine lv_istore_n (lv' := [(3, .int r14), (0, .ref (ah 0)), (1, .int p0), (2, .int p1)]) hx hb dX7_laid_17 rfl hl (by decide) rfl (fun ls hl => ?_)
  refine lv_iload_n hx hb dX7_laid_18 rfl (lv_at hl 0 rfl) ?_
  refine lv_iconst (v := (-1)) hx hb dX7_laid_19 (by decide) ?_
  refine lv_icmp_ne (tgt := 31) hx hb dX7_laid_20 (by decide) (fun c_20 => ?_) (fun c_20 => ?_)
  · have hm := ifn c_20 hm
    refine lv_iload_n hx hb dX7_laid_31 rfl (lv_at hl 0 rfl) ?_
    exact hend H locs ls _ _ _ rfl (Option.some.inj hm) rfl hP hD hS dX7_laid_32
  · have hm := ifp c_20 hm
    cases hm


def f_X7_why (s7 : HS) (p0 : Int32) (p1 : Int32) : Option Int32 :=
  bd1 (f_X7_checkTrain s7 p1) fun (_ : Unit) => bd1 (f_X7_checkTile s7 p0) fun (_ : Unit) => bd1 (f_X1_obstacle s7.2.1 p0 p1) fun (r16 : Int32) => some (r16)

abbrev rm_X7_why : Room := { frames := 4, cells := 0, slots := 0, locals := 85 }
theorem hd_X7_why : yX7_why.cls = RX7 ∧ yX7_why.cls ≠ "java/lang/invoke/MethodHandle" ∧ yX7_why.cls ≠ "java/lang/invoke/VarHandle" ∧ (parseMethodDescriptor yX7_why.desc).map (fun d => d.parameters.length) = some 2 := by decide +kernel
set_option maxHeartbeats 4000000 in
set_option maxRecDepth 100000 in
theorem k_X7_why (l : Launch) (G : va_G) (K : (Nat → Nat) × (Nat → Nat)) (c : Nat → ClassId) (ah : Nat → Nat) (ag : Nat → Nat → Nat) (ar : Nat → Nat) (ps : PS) (s7 : HS) (p0 : Int32) (p1 : Int32) (r : Int32) (hm : f_X7_why s7 p0 p1 = some (r)) : zMi l yX7_why wsX7_why (rm_X7_why) G K (TY c) [.ref (ah 0), .int p0, .int p1] (wH c ah ag ar ps s7) (wH c ah ag ar ps s7) r := by
  refine zMi.of (cc := cX7_why) (maxL := 3) (lv := [(0, .ref (ah 0)), (1, .int p0), (2, .int p1)]) (by decide) rfl (Nat.le_of_ble_eq_true rfl) rfl ?_
  intro p e s m args below meth c1 A Q H locs hx hb hml hown hts hK hN hZ hP hD hA hS hend ls hl
  have hown : s.vm.findClass RX7 = some m.cls := hown
  have hi_7 : ∀ w ∈ wsX70, w ∈ wsX7_why := (fun w h => List.mem_cons_of_mem _ (List.mem_append_left _ (List.mem_append_left _ (List.mem_append_left _ (List.mem_append_left _ (List.mem_append_right _ (h)))))))
  unfold f_X7_why at hm
  refine lv_aload_n hx hb dX7_why_0 rfl (lv_at hl 0 rfl) ?_
  refine lv_iload_n hx hb dX7_why_1 rfl (lv_at hl 2 rfl) ?_
  obtain ⟨e_u2, e_2, hm⟩ := bd1_s hm
  refine zcWv (As := [.int p1]) (rest := []) ⟨hx, hb, hml, hown, hts⟩ (k_X7_checkTrain l G K c ah ag ar ps s7 p1 e_2) (cwV 1 hts gX7_why_X7_checkTrain rfl rfl rfl hd_X7_checkTrain ⟨Nat.le_of_ble_eq_true rfl, Nat.le_of_ble_eq_true rfl⟩) hK hN hZ hP hD hS hA (va_recv hK hP (ci := 7) (q0 := 0) rfl rfl) rfl hl.1 rfl (Nat.le_of_ble_eq_true rfl) dX7_why_2 ⟨Nat.zero_le _, Nat.zero_le _⟩ (fun H locs hP hD hS => ?_)
  have hP : va_P G vwCl (wH c ah ag ar ps s7) H := hP
  have hD : va_D A (wH c ah ag ar ps s7) := hD
  refine lv_aload_n hx hb dX7_why_5 rfl (lv_at hl 0 rfl) ?_
  refine lv_iload_n hx hb dX7_why_6 rfl (lv_at hl 1 rfl) ?_
  obtain ⟨e_u7, e_7, hm⟩ := bd1_s hm
  refine zcWv (As := [.int p0]) (rest := []) ⟨hx, hb, hml, hown, hts⟩ (k_X7_checkTile l G K c ah ag ar ps s7 p0 e_7) (cwV 1 hts gX7_why_X7_checkTile rfl rfl rfl hd_X7_checkTile ⟨Nat.le_of_ble_eq_true rfl, Nat.le_of_ble_eq_true rfl⟩) hK hN hZ hP hD hS hA (va_recv hK hP (ci := 7) (q0 := 0) rfl rfl) rfl hl.1 rfl (Nat.le_of_ble_eq_true rfl) dX7_why_7 ⟨Nat.zero_le _, Nat.zero_le _⟩ (fun H locs hP hD hS => ?_)
  have hP : va_P G vwCl (wH c ah ag ar ps s7) H := hP
  have hD : va_D A (wH c ah ag ar ps s7) := hD
  refine lv_aload_n hx hb dX7_why_10 rfl (lv_at hl 0 rfl) ?_
  refine va_get (D := G) (ci := 7) (v := .ref (ag 0 0)) (C := RX7) (T := TX7) (N := 7) hx hb hts hi_7 hown hK hP 0 rfl rfl 0 (by decide) (hts (.fieldLink RX7 10 "HubTrains" "game" "LHubTrains$Game;") (List.mem_of_getElem? (i := 1) rfl)) (fun _ h9 => h9) rfl dX7_why_11 ?_
  refine lv_iload_n hx hb dX7_why_14 rfl (lv_at hl 1 rfl) ?_
  refine lv_iload_n hx hb dX7_why_15 rfl (lv_at hl 2 rfl) ?_
  obtain ⟨r16, e_16, hm⟩ := bd1_s hm
  refine zcVi (As := [.int p0, .int p1]) (rest := []) ⟨hx, hb, hml, hown, hts⟩ (k_X1_obstacle l G K c (ag 0) s7.2.1 p0 p1 r16 e_16) (cwV 2 hts gX7_why_X1_obstacle rfl rfl rfl hd_X1_obstacle ⟨Nat.le_of_ble_eq_true rfl, Nat.le_of_ble_eq_true rfl⟩) hK hN hZ hP hD hS hA (va_recv hK hP (ci := 1) (q0 := 2) rfl rfl) [2, 3, 4, 5, 6, 7, 8, 9, 10, 11] rfl (by decide) rfl rfl hl.1 rfl (Nat.le_of_ble_eq_true rfl) dX7_why_16 ⟨Nat.zero_le _, Nat.zero_le _⟩ (fun H locs hP hD hS => ?_)
  have hP : va_P G vwCl (wH c ah ag ar ps s7) H := (congrArg (fun w => va_P G vwCl w H) (zset_id _ _ _ rfl)).mp hP
  have hD : va_D A (wH c ah ag ar ps s7) := (congrArg (fun w => va_D A w) (zset_id _ _ _ rfl)).mp hD
  exact hend H locs ls _ _ _ rfl (Option.some.inj hm) rfl hP hD hS dX7_why_19


def f_X7_best (s7 : HS) (ps : PS) : Option (Int32 × PS) :=
  bd1 (pget ps (s7.2.1.2.1)) fun (qq_4 : Nat × Nat × Nat × SA) => bd2 (f_X1_bestPlay qq_4.2.2.1 (s7.2.1.2.1) s7.2.1 qq_4.2.2.2) fun (r4 : Int32) (f4 : SA) => nmd (pput ps (s7.2.1.2.1) f4) fun (ps_4 : PS) => some (r4, ps_4)

abbrev rm_X7_best : Room := { frames := 5, cells := 0, slots := 0, locals := 126 }
theorem hd_X7_best : yX7_best.cls = RX7 ∧ yX7_best.cls ≠ "java/lang/invoke/MethodHandle" ∧ yX7_best.cls ≠ "java/lang/invoke/VarHandle" ∧ (parseMethodDescriptor yX7_best.desc).map (fun d => d.parameters.length) = some 0 := by decide +kernel
set_option maxHeartbeats 4000000 in
set_option maxRecDepth 100000 in
theorem k_X7_best (l : Launch) (G : va_G) (K : (Nat → Nat) × (Nat → Nat)) (c : Nat → ClassId) (ah : Nat → Nat) (ag : Nat → Nat → Nat) (ar : Nat → Nat) (s7 : HS) (ps : PS) (r : Int32) (ps_r : PS) (hm : f_X7_best s7 ps = some (r, ps_r)) : zMi l yX7_best wsX7_best (rm_X7_best) G K (TY c) [.ref (ah 0)] (wH c ah ag ar ps s7) (wH c ah ag ar ps_r s7) r := by
  refine zMi.of (cc := cX7_best) (maxL := 1) (lv := [(0, .ref (ah 0))]) (by decide) rfl (Nat.le_of_ble_eq_true rfl) rfl ?_
  intro p e s m args below meth c1 A Q H locs hx hb hml hown hts hK hN hZ hP hD hA hS hend ls hl
  have hown : s.vm.findClass RX7 = some m.cls := hown
  have hi_7 : ∀ w ∈ wsX70, w ∈ wsX7_best := (fun w h => List.mem_cons_of_mem _ (List.mem_append_left _ (List.mem_append_left _ (List.mem_append_left _ (List.mem_append_right _ (h))))))
  unfold f_X7_best at hm
  refine lv_aload_n hx hb dX7_best_0 rfl (lv_at hl 0 rfl) ?_
  refine va_get (D := G) (ci := 7) (v := .ref (ag 0 0)) (C := RX7) (T := TX7) (N := 7) hx hb hts hi_7 hown hK hP 0 rfl rfl 0 (by decide) (hts (.fieldLink RX7 10 "HubTrains" "game" "LHubTrains$Game;") (List.mem_of_getElem? (i := 1) rfl)) (fun _ h9 => h9) rfl dX7_best_1 ?_
  obtain ⟨⟨q1_4, q2_4, qn_4, qf_4⟩, eq_4, hm⟩ := bd1_s hm
  obtain ⟨r4, f4, e_4, hm⟩ := bd2_s hm
  refine zcPi eq_4 (As := []) (rest := []) ⟨hx, hb, hml, hown, hts⟩ (k_X1_bestPlay l G K c (ag 0) q1_4 q2_4 qn_4 (s7.2.1.2.1) s7.2.1 qf_4 r4 f4 e_4) (cwV 0 hts gX7_best_X1_bestPlay rfl rfl rfl hd_X1_bestPlay ⟨Nat.le_of_ble_eq_true rfl, Nat.le_of_ble_eq_true rfl⟩) hK hN hZ hP hD hS hA (va_recv hK hP (ci := 1) (q0 := 2) rfl rfl) [2, 3, 4, 5, 6, 7, 8, 9, 10, 11] rfl (by decide) rfl rfl hl.1 rfl (Nat.le_of_ble_eq_true rfl) dX7_best_4 ⟨Nat.zero_le _, Nat.zero_le _⟩ (fun H locs hP hD hS => ?_)
  obtain ⟨ps_4, e_ps_4⟩ : ∃ z : PS, z = pput ps (s7.2.1.2.1) f4 := ⟨_, rfl⟩
  have hP : va_P G vwCl (wH c ah ag ar ps_4 s7) H := by rw [e_ps_4]; exact (congrArg (fun w => va_P G vwCl (w ++ wP c (pput ps (s7.2.1.2.1) f4)) H) (zset_id _ _ _ rfl)).mp hP
  have hD : va_D A (wH c ah ag ar ps_4 s7) := by rw [e_ps_4]; exact (congrArg (fun w => va_D A (w ++ wP c (pput ps (s7.2.1.2.1) f4))) (zset_id _ _ _ rfl)).mp hD
  have hm := nmd_s hm ps_4 e_ps_4
  exact hend H locs ls _ _ _ rfl (Prod.mk.inj (Option.some.inj hm)).1 (zc1 (fun (z1 : PS) => (wH c ah ag ar z1 s7 : va_W)) (Prod.mk.inj (Option.some.inj hm)).2) hP hD hS dX7_best_7


def f_X7_rank (s7 : HS) (ps : PS) (p0 : Int32) (p1 : Int32) : Option (Int32 × PS) :=
  bd1 (f_X7_checkTrain s7 p1) fun (_ : Unit) => bd1 (f_X7_checkTile s7 p0) fun (_ : Unit) => bd1 (f_X1_canPlay s7.2.1 p0 p1) fun (r16 : Int32) => if r16 = 0 then (none) else (bd1 (pget ps (s7.2.1.2.1)) fun (qq_36 : Nat × Nat × Nat × SA) => bd2 (f_X1_rankOf qq_36.2.2.1 (s7.2.1.2.1) s7.2.1 qq_36.2.2.2 p0 p1) fun (r36 : Int32) (f36 : SA) => nmd (pput ps (s7.2.1.2.1) f36) fun (ps_36 : PS) => some (r36, ps_36))

abbrev rm_X7_rank : Room := { frames := 5, cells := 0, slots := 0, locals := 107 }
theorem hd_X7_rank : yX7_rank.cls = RX7 ∧ yX7_rank.cls ≠ "java/lang/invoke/MethodHandle" ∧ yX7_rank.cls ≠ "java/lang/invoke/VarHandle" ∧ (parseMethodDescriptor yX7_rank.desc).map (fun d => d.parameters.length) = some 2 := by decide +kernel
set_option maxHeartbeats 4000000 in
set_option maxRecDepth 100000 in
theorem k_X7_rank (l : Launch) (G : va_G) (K : (Nat → Nat) × (Nat → Nat)) (c : Nat → ClassId) (ah : Nat → Nat) (ag : Nat → Nat → Nat) (ar : Nat → Nat) (s7 : HS) (ps : PS) (p0 : Int32) (p1 : Int32) (r : Int32) (ps_r : PS) (hm : f_X7_rank s7 ps p0 p1 = some (r, ps_r)) : zMi l yX7_rank wsX7_rank (rm_X7_rank) G K (TY c) [.ref (ah 0), .int p0, .int p1] (wH c ah ag ar ps s7) (wH c ah ag ar ps_r s7) r := by
  refine zMi.of (cc := cX7_rank) (maxL := 3) (lv := [(0, .ref (ah 0)), (1, .int p0), (2, .int p1)]) (by decide) rfl (Nat.le_of_ble_eq_true rfl) rfl ?_
  intro p e s m args below meth c1 A Q H locs hx hb hml hown hts hK hN hZ hP hD hA hS hend ls hl
  have hown : s.vm.findClass RX7 = some m.cls := hown
  have hi_7 : ∀ w ∈ wsX70, w ∈ wsX7_rank := (fun w h => List.mem_cons_of_mem _ (List.mem_append_left _ (List.mem_append_left _ (List.mem_append_left _ (List.mem_append_left _ (List.mem_append_left _ (List.mem_append_left _ (List.mem_append_right _ (h)))))))))
  unfold f_X7_rank at hm
  refine lv_aload_n hx hb dX7_rank_0 rfl (lv_at hl 0 rfl) ?_
  refine lv_iload_n hx hb dX7_rank_1 rfl (lv_at hl 2 rfl) ?_
  obtain ⟨e_u2, e_2, hm⟩ := bd1_s hm
  refine zcWv (As := [.int p1]) (rest := []) ⟨hx, hb, hml, hown, hts⟩ (k_X7_checkTrain l G K c ah ag ar ps s7 p1 e_2) (cwV 1 hts gX7_rank_X7_checkTrain rfl rfl rfl hd_X7_checkTrain ⟨Nat.le_of_ble_eq_true rfl, Nat.le_of_ble_eq_true rfl⟩) hK hN hZ hP hD hS hA (va_recv hK hP (ci := 7) (q0 := 0) rfl rfl) rfl hl.1 rfl (Nat.le_of_ble_eq_true rfl) dX7_rank_2 ⟨Nat.zero_le _, Nat.zero_le _⟩ (fun H locs hP hD hS => ?_)
  have hP : va_P G vwCl (wH c ah ag ar ps s7) H := hP
  have hD : va_D A (wH c ah ag ar ps s7) := hD
  refine lv_aload_n hx hb dX7_rank_5 rfl (lv_at hl 0 rfl) ?_
  refine lv_iload_n hx hb dX7_rank_6 rfl (lv_at hl 1 rfl) ?_
  obtain ⟨e_u7, e_7, hm⟩ := bd1_s hm
  refine zcWv (As := [.int p0]) (rest := []) ⟨hx, hb, hml, hown, hts⟩ (k_X7_checkTile l G K c ah ag ar ps s7 p0 e_7) (cwV 1 hts gX7_rank_X7_checkTile rfl rfl rfl hd_X7_checkTile ⟨Nat.le_of_ble_eq_true rfl, Nat.le_of_ble_eq_true rfl⟩) hK hN hZ hP hD hS hA (va_recv hK hP (ci := 7) (q0 := 0) rfl rfl) rfl hl.1 rfl (Nat.le_of_ble_eq_true rfl) dX7_rank_7 ⟨Nat.zero_le _, Nat.zero_le _⟩ (fun H locs hP hD hS => ?_)
  have hP : va_P G vwCl (wH c ah ag ar ps s7) H := hP
  have hD : va_D A (wH c ah ag ar ps s7) := hD
  refine lv_aload_n hx hb dX7_rank_10 rfl (lv_at hl 0 rfl) ?_
  refine va_get (D := G) (ci := 7) (v := .ref (ag 0 0)) (C := RX7) (T := TX7) (N := 7) hx hb hts hi_7 hown hK hP 0 rfl rfl 0 (by decide) (hts (.fieldLink RX7 10 "HubTrains" "game" "LHubTrains$Game;") (List.mem_of_getElem? (i := 3) rfl)) (fun _ h9 => h9) rfl dX7_rank_11 ?_
  refine lv_iload_n hx hb dX7_rank_14 rfl (lv_at hl 1 rfl) ?_
  refine lv_iload_n hx hb dX7_rank_15 rfl (lv_at hl 2 rfl) ?_
  obtain ⟨r16, e_16, hm⟩ := bd1_s hm
  refine zcVi (As := [.int p0, .int p1]) (rest := []) ⟨hx, hb, hml, hown, hts⟩ (k_X1_canPlay l G K c (ag 0) s7.2.1 p0 p1 r16 e_16) (cwV 2 hts gX7_rank_X1_canPlay rfl rfl rfl hd_X1_canPlay ⟨Nat.le_of_ble_eq_true rfl, Nat.le_of_ble_eq_true rfl⟩) hK hN hZ hP hD hS hA (va_recv hK hP (ci := 1) (q0 := 2) rfl rfl) [2, 3, 4, 5, 6, 7, 8, 9, 10, 11] rfl (by decide) rfl rfl hl.1 rfl (Nat.le_of_ble_eq_true rfl) dX7_rank_16 ⟨Nat.zero_le _, Nat.zero_le _⟩ (fun H locs hP hD hS => ?_)
  have hP : va_P G vwCl (wH c ah ag ar ps s7) H := (congrArg (fun w => va_P G vwCl w H) (zset_id _ _ _ rfl)).mp hP
  have hD : va_D A (wH c ah ag ar ps s7) := (congrArg (fun w => va_D A w) (zset_id _ _ _ rfl)).mp hD
  refine lv_if_ne (tgt := 30) hx hb dX7_rank_19 (by decide) (fun c_19 => ?_) (fun c_19 => ?_)
  · have hm := ifn c_19 hm
    refine lv_aload_n hx hb dX7_rank_30 rfl (lv_at hl 0 rfl) ?_
    refine va_get (D := G) (ci := 7) (v := .ref (ag 0 0)) (C := RX7) (T := TX7) (N := 7) hx hb hts hi_7 hown hK hP 0 rfl rfl 0 (by decide) (hts (.fieldLink RX7 10 "HubTrains" "game" "LHubTrains$Game;") (List.mem_of_getElem? (i := 3) rfl)) (fun _ h9 => h9) rfl dX7_rank_31 ?_
    refine lv_iload_n hx hb dX7_rank_34 rfl (lv_at hl 1 rfl) ?_
    refine lv_iload_n hx hb dX7_rank_35 rfl (lv_at hl 2 rfl) ?_
    obtain ⟨⟨q1_36, q2_36, qn_36, qf_36⟩, eq_36, hm⟩ := bd1_s hm
    obtain ⟨r36, f36, e_36, hm⟩ := bd2_s hm
    refine zcPi eq_36 (As := [.int p0, .int p1]) (rest := []) ⟨hx, hb, hml, hown, hts⟩ (k_X1_rankOf l G K c (ag 0) q1_36 q2_36 qn_36 (s7.2.1.2.1) s7.2.1 qf_36 p0 p1 r36 f36 e_36) (cwV 2 hts gX7_rank_X1_rankOf rfl rfl rfl hd_X1_rankOf ⟨Nat.le_of_ble_eq_true rfl, Nat.le_of_ble_eq_true rfl⟩) hK hN hZ hP hD hS hA (va_recv hK hP (ci := 1) (q0 := 2) rfl rfl) [2, 3, 4, 5, 6, 7, 8, 9, 10, 11] rfl (by decide) rfl rfl hl.1 rfl (Nat.le_of_ble_eq_true rfl) dX7_rank_36 ⟨Nat.zero_le _, Nat.zero_le _⟩ (fun H locs hP hD hS => ?_)
    obtain ⟨ps_36, e_ps_36⟩ : ∃ z : PS, z = pput ps (s7.2.1.2.1) f36 := ⟨_, rfl⟩
    have hP : va_P G vwCl (wH c ah ag ar ps_36 s7) H := by rw [e_ps_36]; exact (congrArg (fun w => va_P G vwCl (w ++ wP c (pput ps (s7.2.1.2.1) f36)) H) (zset_id _ _ _ rfl)).mp hP
    have hD : va_D A (wH c ah ag ar ps_36 s7) := by rw [e_ps_36]; exact (congrArg (fun w => va_D A (w ++ wP c (pput ps (s7.2.1.2.1) f36))) (zset_id _ _ _ rfl)).mp hD
    have hm := nmd_s hm ps_36 e_ps_36
    exact hend H locs ls _ _ _ rfl (Prod.mk.inj (Option.some.inj hm)).1 (zc1 (fun (z1 : PS) => (wH c ah ag ar z1 s7 : va_W)) (Prod.mk.inj (Option.some.inj hm)).2) hP hD hS dX7_rank_39
  · have hm := ifp c_19 hm
    cases hm


def f_X7_longest (s7 : HS) (p0 : Int32) : Option (Int32 × HS) :=
  bd1 (f_X7_checkPlayer s7 p0) fun (_ : Unit) => bd2 (f_X7_exploreRows s7 p0) fun (r7 : Int32) (s77 : HS) => if r7 = 0 then (some ((-2), s77)) else (bd1 (f_X2_longestLength s77.2.2.2.2.2) fun (r20 : Int32) => some (r20, s77))

abbrev rm_X7_longest : Room := { frames := 5, cells := 0, slots := 0, locals := 113 }
theorem hd_X7_longest : yX7_longest.cls = RX7 ∧ yX7_longest.cls ≠ "java/lang/invoke/MethodHandle" ∧ yX7_longest.cls ≠ "java/lang/invoke/VarHandle" ∧ (parseMethodDescriptor yX7_longest.desc).map (fun d => d.parameters.length) = some 1 := by decide +kernel
set_option maxHeartbeats 4000000 in
set_option maxRecDepth 100000 in
theorem k_X7_longest (l : Launch) (G : va_G) (K : (Nat → Nat) × (Nat → Nat)) (c : Nat → ClassId) (ah : Nat → Nat) (ag : Nat → Nat → Nat) (ar : Nat → Nat) (ps : PS) (s7 : HS) (p0 : Int32) (r : Int32) (s7_r : HS) (hm : f_X7_longest s7 p0 = some (r, s7_r)) : zMi l yX7_longest wsX7_longest (rm_X7_longest) G K (TY c) [.ref (ah 0), .int p0] (wH c ah ag ar ps s7) (wH c ah ag ar ps s7_r) r := by
  refine zMi.of (cc := cX7_longest) (maxL := 2) (lv := [(0, .ref (ah 0)), (1, .int p0)]) (by decide) rfl (Nat.le_of_ble_eq_true rfl) rfl ?_
  intro p e s m args below meth c1 A Q H locs hx hb hml hown hts hK hN hZ hP hD hA hS hend ls hl
  have hown : s.vm.findClass RX7 = some m.cls := hown
  have hi_7 : ∀ w ∈ wsX70, w ∈ wsX7_longest := (fun w h => List.mem_cons_of_mem _ (List.mem_append_left _ (List.mem_append_left _ (List.mem_append_left _ (List.mem_append_left _ (List.mem_append_right _ (h)))))))
  unfold f_X7_longest at hm
  refine lv_aload_n hx hb dX7_longest_0 rfl (lv_at hl 0 rfl) ?_
  refine lv_iload_n hx hb dX7_longest_1 rfl (lv_at hl 1 rfl) ?_
  obtain ⟨e_u2, e_2, hm⟩ := bd1_s hm
  refine zcWv (As := [.int p0]) (rest := []) ⟨hx, hb, hml, hown, hts⟩ (k_X7_checkPlayer l G K c ah ag ar ps s7 p0 e_2) (cwV 1 hts gX7_longest_X7_checkPlayer rfl rfl rfl hd_X7_checkPlayer ⟨Nat.le_of_ble_eq_true rfl, Nat.le_of_ble_eq_true rfl⟩) hK hN hZ hP hD hS hA (va_recv hK hP (ci := 7) (q0 := 0) rfl rfl) rfl hl.1 rfl (Nat.le_of_ble_eq_true rfl) dX7_longest_2 ⟨Nat.zero_le _, Nat.zero_le _⟩ (fun H locs hP hD hS => ?_)
  have hP : va_P G vwCl (wH c ah ag ar ps s7) H := hP
  have hD : va_D A (wH c ah ag ar ps s7) := hD
  refine lv_aload_n hx hb dX7_longest_5 rfl (lv_at hl 0 rfl) ?_
  refine lv_iload_n hx hb dX7_longest_6 rfl (lv_at hl 1 rfl) ?_
  obtain ⟨r7, s77, e_7, hm⟩ := bd2_s hm
  refine zcWi (As := [.int p0]) (rest := []) ⟨hx, hb, hml, hown, hts⟩ (k_X7_exploreRows l G K c ah ag ar ps s7 p0 r7 s77 e_7) (cwV 1 hts gX7_longest_X7_exploreRows rfl rfl rfl hd_X7_exploreRows ⟨Nat.le_of_ble_eq_true rfl, Nat.le_of_ble_eq_true rfl⟩) hK hN hZ hP hD hS hA (va_recv hK hP (ci := 7) (q0 := 0) rfl rfl) rfl hl.1 rfl (Nat.le_of_ble_eq_true rfl) dX7_longest_7 ⟨Nat.zero_le _, Nat.zero_le _⟩ (fun H locs hP hD hS => ?_)
  have hP : va_P G vwCl (wH c ah ag ar ps s77) H := hP
  have hD : va_D A (wH c ah ag ar ps s77) := hD
  refine lv_if_ne (tgt := 16) hx hb dX7_longest_10 (by decide) (fun c_10 => ?_) (fun c_10 => ?_)
  · have hm := ifn c_10 hm
    refine lv_aload_n hx hb dX7_longest_16 rfl (lv_at hl 0 rfl) ?_
    refine va_get (D := G) (ci := 7) (v := .ref (ah 2)) (C := RX7) (T := TX7) (N := 7) hx hb hts hi_7 hown hK hP 0 rfl rfl 6 (by decide) (hts (.fieldLink RX7 33 "HubTrains" "rows" "LHubTrains$RowSearch;") (List.mem_of_getElem? (i := 1) rfl)) (fun _ h9 => h9) rfl dX7_longest_17 ?_
    obtain ⟨r20, e_20, hm⟩ := bd1_s hm
    refine zcVi (As := []) (rest := []) ⟨hx, hb, hml, hown, hts⟩ (k_X2_longestLength l G K c (ah 2) (ah 3) (ah 4) (ah 5) (ah 6) s77.2.2.2.2.2 r20 e_20) (cwV 0 hts gX7_longest_X2_longestLength rfl rfl rfl hd_X2_longestLength ⟨Nat.le_of_ble_eq_true rfl, Nat.le_of_ble_eq_true rfl⟩) hK hN hZ hP hD hS hA (va_recv hK hP (ci := 2) (q0 := 116) rfl rfl) [116, 117, 118, 119, 120] rfl (by decide) rfl rfl hl.1 rfl (Nat.le_of_ble_eq_true rfl) dX7_longest_20 ⟨Nat.zero_le _, Nat.zero_le _⟩ (fun H locs hP hD hS => ?_)
    have hP : va_P G vwCl (wH c ah ag ar ps s77) H := (congrArg (fun w => va_P G vwCl w H) (zset_id _ _ _ rfl)).mp hP
    have hD : va_D A (wH c ah ag ar ps s77) := (congrArg (fun w => va_D A w) (zset_id _ _ _ rfl)).mp hD
    exact hend H locs ls _ _ _ rfl (Prod.mk.inj (Option.some.inj hm)).1 (zc1 (fun (z0 : HS) => (wH c ah ag ar ps z0 : va_W)) (Prod.mk.inj (Option.some.inj hm)).2) hP hD hS dX7_longest_23
  · have hm := ifp c_10 hm
    refine lv_bipush (v := (-2)) hx hb dX7_longest_13 (by decide) ?_
    exact hend H locs ls _ _ _ rfl (Prod.mk.inj (Option.some.inj hm)).1 (zc1 (fun (z0 : HS) => (wH c ah ag ar ps z0 : va_W)) (Prod.mk.inj (Option.some.inj hm)).2) hP hD hS dX7_longest_15

def f_X7_longestTile_J25 (s0_25 : Int32) (s7_25 : HS) : Option (Int32 × HS) :=
  if s0_25 = (-1) then (none) else (some (s0_25, s7_25))

def f_X7_longestTile (s7 : HS) (p0 : Int32) (p1 : Int32) : Option (Int32 × HS) :=
  bd1 (f_X7_checkPlayer s7 p0) fun (_ : Unit) => bd2 (f_X7_exploreRows s7 p0) fun (r7 : Int32) (s77 : HS) => if r7 = 0 then (f_X7_longestTile_J25 (-1) s77) else (bd2 (f_X2_tileOfFirstLongest s77.2.2.2.2.2 p1) fun (r18 : Int32) (rs18 : SA) => f_X7_longestTile_J25 r18 (s77.1, s77.2.1, s77.2.2.1, s77.2.2.2.1, s77.2.2.2.2.1, rs18))

abbrev rm_X7_longestTile : Room := { frames := 5, cells := 0, slots := 0, locals := 116 }
theorem hd_X7_longestTile : yX7_longestTile.cls = RX7 ∧ yX7_longestTile.cls ≠ "java/lang/invoke/MethodHandle" ∧ yX7_longestTile.cls ≠ "java/lang/invoke/VarHandle" ∧ (parseMethodDescriptor yX7_longestTile.desc).map (fun d => d.parameters.length) = some 2 := by decide +kernel
set_option maxHeartbeats 4000000 in
set_option maxRecDepth 100000 in
theorem k_X7_longestTile (l : Launch) (G : va_G) (K : (Nat → Nat) × (Nat → Nat)) (c : Nat → ClassId) (ah : Nat → Nat) (ag : Nat → Nat → Nat) (ar : Nat → Nat) (ps : PS) (s7 : HS) (p0 : Int32) (p1 : Int32) (r : Int32) (s7_r : HS) (hm : f_X7_longestTile s7 p0 p1 = some (r, s7_r)) : zMi l yX7_longestTile wsX7_longestTile (rm_X7_longestTile) G K (TY c) [.ref (ah 0), .int p0, .int p1] (wH c ah ag ar ps s7) (wH c ah ag ar ps s7_r) r := by
  refine zMi.of (cc := cX7_longestTile) (maxL := 4) (lv := [(0, .ref (ah 0)), (1, .int p0), (2, .int p1)]) (by decide) rfl (Nat.le_of_ble_eq_true rfl) rfl ?_
  intro p e s m args below meth c1 A Q H locs hx hb hml hown hts hK hN hZ hP hD hA hS hend ls hl
  have hown : s.vm.findClass RX7 = some m.cls := hown
  have hi_7 : ∀ w ∈ wsX70, w ∈ wsX7_longestTile := (fun w h => List.mem_cons_of_mem _ (List.mem_append_left _ (List.mem_append_left _ (List.mem_append_left _ (List.mem_append_left _ (List.mem_append_left _ (List.mem_append_right _ (h))))))))
  unfold f_X7_longestTile at hm
  refine lv_aload_n hx hb dX7_longestTile_0 rfl (lv_at hl 0 rfl) ?_
  refine lv_iload_n hx hb dX7_longestTile_1 rfl (lv_at hl 1 rfl) ?_
  obtain ⟨e_u2, e_2, hm⟩ := bd1_s hm
  refine zcWv (As := [.int p0]) (rest := []) ⟨hx, hb, hml, hown, hts⟩ (k_X7_checkPlayer l G K c ah ag ar ps s7 p0 e_2) (cwV 1 hts gX7_longestTile_X7_checkPlayer rfl rfl rfl hd_X7_checkPlayer ⟨Nat.le_of_ble_eq_true rfl, Nat.le_of_ble_eq_true rfl⟩) hK hN hZ hP hD hS hA (va_recv hK hP (ci := 7) (q0 := 0) rfl rfl) rfl hl.1 rfl (Nat.le_of_ble_eq_true rfl) dX7_longestTile_2 ⟨Nat.zero_le _, Nat.zero_le _⟩ (fun H locs hP hD hS => ?_)
  have hP : va_P G vwCl (wH c ah ag ar ps s7) H := hP
  have hD : va_D A (wH c ah ag ar ps s7) := hD
  refine lv_aload_n hx hb dX7_longestTile_5 rfl (lv_at hl 0 rfl) ?_
  refine lv_iload_n hx hb dX7_longestTile_6 rfl (lv_at hl 1 rfl) ?_
  obtain ⟨r7, s77, e_7, hm⟩ := bd2_s hm
  refine zcWi (As := [.int p0]) (rest := []) ⟨hx, hb, hml, hown, hts⟩ (k_X7_exploreRows l G K c ah ag ar ps s7 p0 r7 s77 e_7) (cwV 1 hts gX7_longestTile_X7_exploreRows rfl rfl rfl hd_X7_exploreRows ⟨Nat.le_of_ble_eq_true rfl, Nat.le_of_ble_eq_true rfl⟩) hK hN hZ hP hD hS hA (va_recv hK hP (ci := 7) (q0 := 0) rfl rfl) rfl hl.1 rfl (Nat.le_of_ble_eq_true rfl) dX7_longestTile_7 ⟨Nat.zero_le _, Nat.zero_le _⟩ (fun H locs hP hD hS => ?_)
  have hP : va_P G vwCl (wH c ah ag ar ps s77) H := hP
  have hD : va_D A (wH c ah ag ar ps s77) := hD
  have J_25 : ∀ (s0_25 : Int32) (s7_25 : HS) (H : Heap) (locs : List Loc) (ls : Array Slot), va_P G vwCl (wH c ah ag ar ps s7_25) H → va_D A (wH c ah ag ar ps s7_25) → va_S A s.heap H locs → lv_has ls 4 [] → f_X7_longestTile_J25 s0_25 s7_25 = some (r, s7_r) → W p l e (rm_X7_longestTile) s m args below meth c1 H locs 0 0 Q (F0 m 25 ls [.int s0_25]) := by
    intro s0_25 s7_25 H locs ls hP hD hS hl hm
    unfold f_X7_longestTile_J25 at hm
    refine lv_istore_n (lv' := [(3, .int s0_25)]) hx hb dX7_longestTile_25 rfl hl (by decide) rfl (fun ls hl => ?_)
    refine lv_iload_n hx hb dX7_longestTile_26 rfl (lv_at hl 0 rfl) ?_
    refine lv_iconst (v := (-1)) hx hb dX7_longestTile_27 (by decide) ?_
    refine lv_icmp_ne (tgt := 39) hx hb dX7_longestTile_28 (by decide) (fun c_28 => ?_) (fun c_28 => ?_)
    · have hm := ifn c_28 hm
      refine lv_iload_n hx hb dX7_longestTile_39 rfl (lv_at hl 0 rfl) ?_
      exact hend H locs ls _ _ _ rfl (Prod.mk.inj (Option.some.inj hm)).1 (zc1 (fun (z0 : HS) => (wH c ah ag ar ps z0 : va_W)) (Prod.mk.inj (Option.some.inj hm)).2) hP hD hS dX7_longestTile_40
    · have hm := ifp c_28 hm
      cases hm
  refine lv_if_eq (tgt := 24) hx hb dX7_longestTile_10 (by decide) (fun c_10 => ?_) (fun c_10 => ?_)
  · have hm := ifp c_10 hm
    refine lv_iconst (v := (-1)) hx hb dX7_longestTile_24 (by decide) ?_
    exact J_25 (-1) s77 H locs ls hP hD hS (lv_sub hl [] rfl) hm
  · have hm := ifn c_10 hm
    refine lv_aload_n hx hb dX7_longestTile_13 rfl (lv_at hl 0 rfl) ?_
    refine va_get (D := G) (ci := 7) (v := .ref (ah 2)) (C := RX7) (T := TX7) (N := 7) hx hb hts hi_7 hown hK hP 0 rfl rfl 6 (by decide) (hts (.fieldLink RX7 33 "HubTrains" "rows" "LHubTrains$RowSearch;") (List.mem_of_getElem? (i := 3) rfl)) (fun _ h9 => h9) rfl dX7_longestTile_14 ?_
    refine lv_iload_n hx hb dX7_longestTile_17 rfl (lv_at hl 2 rfl) ?_
    obtain ⟨r18, rs18, e_18, hm⟩ := bd2_s hm
    refine zcVi (As := [.int p1]) (rest := []) ⟨hx, hb, hml, hown, hts⟩ (k_X2_tileOfFirstLongest l G K c (ah 2) (ah 3) (ah 4) (ah 5) (ah 6) s77.2.2.2.2.2 p1 r18 rs18 e_18) (cwV 1 hts gX7_longestTile_X2_tileOfFirstLongest rfl rfl rfl hd_X2_tileOfFirstLongest ⟨Nat.le_of_ble_eq_true rfl, Nat.le_of_ble_eq_true rfl⟩) hK hN hZ hP hD hS hA (va_recv hK hP (ci := 2) (q0 := 116) rfl rfl) [116, 117, 118, 119, 120] rfl (by decide) rfl rfl hl.1 rfl (Nat.le_of_ble_eq_true rfl) dX7_longestTile_18 ⟨Nat.zero_le _, Nat.zero_le _⟩ (fun H locs hP hD hS => ?_)
    have hP : va_P G vwCl (wH c ah ag ar ps (s77.1, s77.2.1, s77.2.2.1, s77.2.2.2.1, s77.2.2.2.2.1, rs18)) H := (congrArg (fun w => va_P G vwCl w H) (zsrw7 (c := c) (ah := ah) (ag := ag) (ar := ar) (ps := ps) (s := s77) (k := rs18))).mp hP
    have hD : va_D A (wH c ah ag ar ps (s77.1, s77.2.1, s77.2.2.1, s77.2.2.2.1, s77.2.2.2.2.1, rs18)) := (congrArg (fun w => va_D A w) (zsrw7 (c := c) (ah := ah) (ag := ag) (ar := ar) (ps := ps) (s := s77) (k := rs18))).mp hD
    refine lv_goto (tgt := 25) hx hb dX7_longestTile_21 (by decide) ?_
    exact J_25 r18 (s77.1, s77.2.1, s77.2.2.1, s77.2.2.2.1, s77.2.2.2.2.1, rs18) H locs ls hP hD hS (lv_sub hl [] rfl) hm


def f_X7_heaviest (s7 : HS) (p0 : Int32) : Option (Int32 × HS) :=
  bd1 (f_X7_checkPlayer s7 p0) fun (_ : Unit) => bd2 (f_X7_exploreRows s7 p0) fun (r7 : Int32) (s77 : HS) => if r7 = 0 then (some ((-2), s77)) else (bd1 (f_X2_mostPips s77.2.2.2.2.2) fun (r20 : Int32) => some (r20, s77))

abbrev rm_X7_heaviest : Room := { frames := 5, cells := 0, slots := 0, locals := 113 }
theorem hd_X7_heaviest : yX7_heaviest.cls = RX7 ∧ yX7_heaviest.cls ≠ "java/lang/invoke/MethodHandle" ∧ yX7_heaviest.cls ≠ "java/lang/invoke/VarHandle" ∧ (parseMethodDescriptor yX7_heaviest.desc).map (fun d => d.parameters.length) = some 1 := by decide +kernel
set_option maxHeartbeats 4000000 in
set_option maxRecDepth 100000 in
theorem k_X7_heaviest (l : Launch) (G : va_G) (K : (Nat → Nat) × (Nat → Nat)) (c : Nat → ClassId) (ah : Nat → Nat) (ag : Nat → Nat → Nat) (ar : Nat → Nat) (ps : PS) (s7 : HS) (p0 : Int32) (r : Int32) (s7_r : HS) (hm : f_X7_heaviest s7 p0 = some (r, s7_r)) : zMi l yX7_heaviest wsX7_heaviest (rm_X7_heaviest) G K (TY c) [.ref (ah 0), .int p0] (wH c ah ag ar ps s7) (wH c ah ag ar ps s7_r) r := by
  refine zMi.of (cc := cX7_heaviest) (maxL := 2) (lv := [(0, .ref (ah 0)), (1, .int p0)]) (by decide) rfl (Nat.le_of_ble_eq_true rfl) rfl ?_
  intro p e s m args below meth c1 A Q H locs hx hb hml hown hts hK hN hZ hP hD hA hS hend ls hl
  have hown : s.vm.findClass RX7 = some m.cls := hown
  have hi_7 : ∀ w ∈ wsX70, w ∈ wsX7_heaviest := (fun w h => List.mem_cons_of_mem _ (List.mem_append_left _ (List.mem_append_left _ (List.mem_append_left _ (List.mem_append_left _ (List.mem_append_right _ (h)))))))
  unfold f_X7_heaviest at hm
  refine lv_aload_n hx hb dX7_heaviest_0 rfl (lv_at hl 0 rfl) ?_
  refine lv_iload_n hx hb dX7_heaviest_1 rfl (lv_at hl 1 rfl) ?_
  obtain ⟨e_u2, e_2, hm⟩ := bd1_s hm
  refine zcWv (As := [.int p0]) (rest := []) ⟨hx, hb, hml, hown, hts⟩ (k_X7_checkPlayer l G K c ah ag ar ps s7 p0 e_2) (cwV 1 hts gX7_heaviest_X7_checkPlayer rfl rfl rfl hd_X7_checkPlayer ⟨Nat.le_of_ble_eq_true rfl, Nat.le_of_ble_eq_true rfl⟩) hK hN hZ hP hD hS hA (va_recv hK hP (ci := 7) (q0 := 0) rfl rfl) rfl hl.1 rfl (Nat.le_of_ble_eq_true rfl) dX7_heaviest_2 ⟨Nat.zero_le _, Nat.zero_le _⟩ (fun H locs hP hD hS => ?_)
  have hP : va_P G vwCl (wH c ah ag ar ps s7) H := hP
  have hD : va_D A (wH c ah ag ar ps s7) := hD
  refine lv_aload_n hx hb dX7_heaviest_5 rfl (lv_at hl 0 rfl) ?_
  refine lv_iload_n hx hb dX7_heaviest_6 rfl (lv_at hl 1 rfl) ?_
  obtain ⟨r7, s77, e_7, hm⟩ := bd2_s hm
  refine zcWi (As := [.int p0]) (rest := []) ⟨hx, hb, hml, hown, hts⟩ (k_X7_exploreRows l G K c ah ag ar ps s7 p0 r7 s77 e_7) (cwV 1 hts gX7_heaviest_X7_exploreRows rfl rfl rfl hd_X7_exploreRows ⟨Nat.le_of_ble_eq_true rfl, Nat.le_of_ble_eq_true rfl⟩) hK hN hZ hP hD hS hA (va_recv hK hP (ci := 7) (q0 := 0) rfl rfl) rfl hl.1 rfl (Nat.le_of_ble_eq_true rfl) dX7_heaviest_7 ⟨Nat.zero_le _, Nat.zero_le _⟩ (fun H locs hP hD hS => ?_)
  have hP : va_P G vwCl (wH c ah ag ar ps s77) H := hP
  have hD : va_D A (wH c ah ag ar ps s77) := hD
  refine lv_if_ne (tgt := 16) hx hb dX7_heaviest_10 (by decide) (fun c_10 => ?_) (fun c_10 => ?_)
  · have hm := ifn c_10 hm
    refine lv_aload_n hx hb dX7_heaviest_16 rfl (lv_at hl 0 rfl) ?_
    refine va_get (D := G) (ci := 7) (v := .ref (ah 2)) (C := RX7) (T := TX7) (N := 7) hx hb hts hi_7 hown hK hP 0 rfl rfl 6 (by decide) (hts (.fieldLink RX7 33 "HubTrains" "rows" "LHubTrains$RowSearch;") (List.mem_of_getElem? (i := 1) rfl)) (fun _ h9 => h9) rfl dX7_heaviest_17 ?_
    obtain ⟨r20, e_20, hm⟩ := bd1_s hm
    refine zcVi (As := []) (rest := []) ⟨hx, hb, hml, hown, hts⟩ (k_X2_mostPips l G K c (ah 2) (ah 3) (ah 4) (ah 5) (ah 6) s77.2.2.2.2.2 r20 e_20) (cwV 0 hts gX7_heaviest_X2_mostPips rfl rfl rfl hd_X2_mostPips ⟨Nat.le_of_ble_eq_true rfl, Nat.le_of_ble_eq_true rfl⟩) hK hN hZ hP hD hS hA (va_recv hK hP (ci := 2) (q0 := 116) rfl rfl) [116, 117, 118, 119, 120] rfl (by decide) rfl rfl hl.1 rfl (Nat.le_of_ble_eq_true rfl) dX7_heaviest_20 ⟨Nat.zero_le _, Nat.zero_le _⟩ (fun H locs hP hD hS => ?_)
    have hP : va_P G vwCl (wH c ah ag ar ps s77) H := (congrArg (fun w => va_P G vwCl w H) (zset_id _ _ _ rfl)).mp hP
    have hD : va_D A (wH c ah ag ar ps s77) := (congrArg (fun w => va_D A w) (zset_id _ _ _ rfl)).mp hD
    exact hend H locs ls _ _ _ rfl (Prod.mk.inj (Option.some.inj hm)).1 (zc1 (fun (z0 : HS) => (wH c ah ag ar ps z0 : va_W)) (Prod.mk.inj (Option.some.inj hm)).2) hP hD hS dX7_heaviest_23
  · have hm := ifp c_10 hm
    refine lv_bipush (v := (-2)) hx hb dX7_heaviest_13 (by decide) ?_
    exact hend H locs ls _ _ _ rfl (Prod.mk.inj (Option.some.inj hm)).1 (zc1 (fun (z0 : HS) => (wH c ah ag ar ps z0 : va_W)) (Prod.mk.inj (Option.some.inj hm)).2) hP hD hS dX7_heaviest_15


