
def t_X7_checkPlayer (s7 : HS) (p0 : Int32) : Option String :=
  if p0 < 0 then (some ("java/lang/IndexOutOfBoundsException")) else (if p0 < (s7.2.1.1.1 1) then (none) else (some ("java/lang/IndexOutOfBoundsException")))

abbrev rmt_X7_checkPlayer : Room := { frames := 6, cells := 1, slots := 6, locals := 81 }
set_option maxHeartbeats 4000000 in
set_option maxRecDepth 100000 in
theorem tk_X7_checkPlayer (l : Launch) (hl0 : l.stackTraces = false) (G : va_G) (K : (Nat → Nat) × (Nat → Nat)) (c : Nat → ClassId) (ah : Nat → Nat) (ag : Nat → Nat → Nat) (ar : Nat → Nat) (ps : PS) (s7 : HS) (p0 : Int32) (E : String) (hm : t_X7_checkPlayer s7 p0 = some (E)) : zXv l yX7_checkPlayer wsX7_checkPlayer rmt_X7_checkPlayer G K (TY c) [.ref (ah 0), .int p0] (wH c ah ag ar ps s7) (wH c ah ag ar ps s7) E := by
  refine zXv.of hl0 (cc := cX7_checkPlayer) (maxL := 2) (lv := [(0, .ref (ah 0)), (1, .int p0)]) ⟨Nat.le_of_ble_eq_true rfl, Nat.le_of_ble_eq_true rfl, rfl, rfl⟩ (by decide) rfl (Nat.le_of_ble_eq_true rfl) rfl ?_
  intro p e s m args below meth c1 A Q H locs hx hb hml hown hts hK hN hZ hXW hP hD hA hS hthr hprop ls hl
  have hown : s.vm.findClass RX7 = some m.cls := hown
  have hi_1 : ∀ w ∈ wsX10, w ∈ wsX7_checkPlayer := (fun w h => List.mem_cons_of_mem _ (List.mem_append_left _ (List.mem_append_right _ (h))))
  have hi_7 : ∀ w ∈ wsX70, w ∈ wsX7_checkPlayer := (fun w h => List.mem_cons_of_mem _ (List.mem_append_left _ (List.mem_append_left _ (List.mem_append_right _ (h)))))
  unfold t_X7_checkPlayer at hm
  refine lv_iload_n hx hb dX7_checkPlayer_0 rfl (lv_at hl 1 rfl) ?_
  refine lv_if_lt (tgt := 15) hx hb dX7_checkPlayer_1 (by decide) (fun c_1 => ?_) (fun c_1 => ?_)
  · have hm := ifp c_1 hm
    have hE := (Option.some.inj hm)
    subst hE
    exact hthr H locs ls _ 224 226 _ (List.mem_of_getElem? (i := 1) rfl) rfl hP hD hS hl.1 (hts (.classLink RX7 224 "java/lang/IndexOutOfBoundsException") (List.mem_of_getElem? (i := 1) rfl)) (hts (.initialized "java/lang/IndexOutOfBoundsException") (List.mem_of_getElem? (i := 2) rfl)) (fun w h => hts w ((fun w h => List.mem_cons_of_mem _ (List.mem_append_right _ (h))) w h)) (by decide +kernel) (by decide +kernel) dX7_checkPlayer_15 dX7_checkPlayer_18 dX7_checkPlayer_19 dX7_checkPlayer_22
  · have hm := ifn c_1 hm
    refine lv_iload_n hx hb dX7_checkPlayer_4 rfl (lv_at hl 1 rfl) ?_
    refine lv_aload_n hx hb dX7_checkPlayer_5 rfl (lv_at hl 0 rfl) ?_
    refine va_get (D := G) (ci := 7) (v := .ref (ag 0 0)) (C := RX7) (T := TX7) (N := 7) hx hb hts hi_7 hown hK hP 0 rfl rfl 0 (by decide) (hts (.fieldLink RX7 10 "HubTrains" "game" "LHubTrains$Game;") (List.mem_of_getElem? (i := 3) rfl)) (fun _ h9 => h9) rfl dX7_checkPlayer_6 ?_
    refine va_getN (D := G) (ci := 1) (v := .int (s7.2.1.1.1 1)) (C := RX1) (T := TX1) (N := 16) hx hb hts hi_1 hown hK hP 2 rfl rfl 1 (by decide) (va_Nw.use rfl (nwf_HubTrains_153 hN.1)) (fun _ h9 => h9) rfl dX7_checkPlayer_9 ?_
    refine lv_icmp_lt (tgt := 23) hx hb dX7_checkPlayer_12 (by decide) (fun c_12 => ?_) (fun c_12 => ?_)
    · have hm := ifp c_12 hm
      cases hm
    · have hm := ifn c_12 hm
      have hE := (Option.some.inj hm)
      subst hE
      exact hthr H locs ls _ 224 226 _ (List.mem_of_getElem? (i := 1) rfl) rfl hP hD hS hl.1 (hts (.classLink RX7 224 "java/lang/IndexOutOfBoundsException") (List.mem_of_getElem? (i := 1) rfl)) (hts (.initialized "java/lang/IndexOutOfBoundsException") (List.mem_of_getElem? (i := 2) rfl)) (fun w h => hts w ((fun w h => List.mem_cons_of_mem _ (List.mem_append_right _ (h))) w h)) (by decide +kernel) (by decide +kernel) dX7_checkPlayer_15 dX7_checkPlayer_18 dX7_checkPlayer_19 dX7_checkPlayer_22


def t_X7_checkTrain (s7 : HS) (p0 : Int32) : Option String :=
  if p0 < 0 then (some ("java/lang/IndexOutOfBoundsException")) else (if p0 ≤ (s7.2.1.1.1 1) then (none) else (some ("java/lang/IndexOutOfBoundsException")))

abbrev rmt_X7_checkTrain : Room := { frames := 6, cells := 1, slots := 6, locals := 81 }
set_option maxHeartbeats 4000000 in
set_option maxRecDepth 100000 in
theorem tk_X7_checkTrain (l : Launch) (hl0 : l.stackTraces = false) (G : va_G) (K : (Nat → Nat) × (Nat → Nat)) (c : Nat → ClassId) (ah : Nat → Nat) (ag : Nat → Nat → Nat) (ar : Nat → Nat) (ps : PS) (s7 : HS) (p0 : Int32) (E : String) (hm : t_X7_checkTrain s7 p0 = some (E)) : zXv l yX7_checkTrain wsX7_checkTrain rmt_X7_checkTrain G K (TY c) [.ref (ah 0), .int p0] (wH c ah ag ar ps s7) (wH c ah ag ar ps s7) E := by
  refine zXv.of hl0 (cc := cX7_checkTrain) (maxL := 2) (lv := [(0, .ref (ah 0)), (1, .int p0)]) ⟨Nat.le_of_ble_eq_true rfl, Nat.le_of_ble_eq_true rfl, rfl, rfl⟩ (by decide) rfl (Nat.le_of_ble_eq_true rfl) rfl ?_
  intro p e s m args below meth c1 A Q H locs hx hb hml hown hts hK hN hZ hXW hP hD hA hS hthr hprop ls hl
  have hown : s.vm.findClass RX7 = some m.cls := hown
  have hi_1 : ∀ w ∈ wsX10, w ∈ wsX7_checkTrain := (fun w h => List.mem_cons_of_mem _ (List.mem_append_left _ (List.mem_append_right _ (h))))
  have hi_7 : ∀ w ∈ wsX70, w ∈ wsX7_checkTrain := (fun w h => List.mem_cons_of_mem _ (List.mem_append_left _ (List.mem_append_left _ (List.mem_append_right _ (h)))))
  unfold t_X7_checkTrain at hm
  refine lv_iload_n hx hb dX7_checkTrain_0 rfl (lv_at hl 1 rfl) ?_
  refine lv_if_lt (tgt := 15) hx hb dX7_checkTrain_1 (by decide) (fun c_1 => ?_) (fun c_1 => ?_)
  · have hm := ifp c_1 hm
    have hE := (Option.some.inj hm)
    subst hE
    exact hthr H locs ls _ 224 226 _ (List.mem_of_getElem? (i := 1) rfl) rfl hP hD hS hl.1 (hts (.classLink RX7 224 "java/lang/IndexOutOfBoundsException") (List.mem_of_getElem? (i := 1) rfl)) (hts (.initialized "java/lang/IndexOutOfBoundsException") (List.mem_of_getElem? (i := 2) rfl)) (fun w h => hts w ((fun w h => List.mem_cons_of_mem _ (List.mem_append_right _ (h))) w h)) (by decide +kernel) (by decide +kernel) dX7_checkTrain_15 dX7_checkTrain_18 dX7_checkTrain_19 dX7_checkTrain_22
  · have hm := ifn c_1 hm
    refine lv_iload_n hx hb dX7_checkTrain_4 rfl (lv_at hl 1 rfl) ?_
    refine lv_aload_n hx hb dX7_checkTrain_5 rfl (lv_at hl 0 rfl) ?_
    refine va_get (D := G) (ci := 7) (v := .ref (ag 0 0)) (C := RX7) (T := TX7) (N := 7) hx hb hts hi_7 hown hK hP 0 rfl rfl 0 (by decide) (hts (.fieldLink RX7 10 "HubTrains" "game" "LHubTrains$Game;") (List.mem_of_getElem? (i := 3) rfl)) (fun _ h9 => h9) rfl dX7_checkTrain_6 ?_
    refine va_getN (D := G) (ci := 1) (v := .int (s7.2.1.1.1 1)) (C := RX1) (T := TX1) (N := 16) hx hb hts hi_1 hown hK hP 2 rfl rfl 1 (by decide) (va_Nw.use rfl (nwf_HubTrains_153 hN.1)) (fun _ h9 => h9) rfl dX7_checkTrain_9 ?_
    refine lv_icmp_le (tgt := 23) hx hb dX7_checkTrain_12 (by decide) (fun c_12 => ?_) (fun c_12 => ?_)
    · have hm := ifp c_12 hm
      cases hm
    · have hm := ifn c_12 hm
      have hE := (Option.some.inj hm)
      subst hE
      exact hthr H locs ls _ 224 226 _ (List.mem_of_getElem? (i := 1) rfl) rfl hP hD hS hl.1 (hts (.classLink RX7 224 "java/lang/IndexOutOfBoundsException") (List.mem_of_getElem? (i := 1) rfl)) (hts (.initialized "java/lang/IndexOutOfBoundsException") (List.mem_of_getElem? (i := 2) rfl)) (fun w h => hts w ((fun w h => List.mem_cons_of_mem _ (List.mem_append_right _ (h))) w h)) (by decide +kernel) (by decide +kernel) dX7_checkTrain_15 dX7_checkTrain_18 dX7_checkTrain_19 dX7_checkTrain_22


def t_X7_checkTile (s7 : HS) (p0 : Int32) : Option String :=
  bd1 (f_X1_isInSet s7.2.1 p0) fun (r5 : Int32) => if r5 = 0 then (some ("java/lang/IllegalArgumentException")) else (none)

abbrev rmt_X7_checkTile : Room := { frames := 6, cells := 1, slots := 6, locals := 81 }
set_option maxHeartbeats 4000000 in
set_option maxRecDepth 100000 in
theorem tk_X7_checkTile (l : Launch) (hl0 : l.stackTraces = false) (G : va_G) (K : (Nat → Nat) × (Nat → Nat)) (c : Nat → ClassId) (ah : Nat → Nat) (ag : Nat → Nat → Nat) (ar : Nat → Nat) (ps : PS) (s7 : HS) (p0 : Int32) (E : String) (hm : t_X7_checkTile s7 p0 = some (E)) : zXv l yX7_checkTile wsX7_checkTile rmt_X7_checkTile G K (TY c) [.ref (ah 0), .int p0] (wH c ah ag ar ps s7) (wH c ah ag ar ps s7) E := by
  refine zXv.of hl0 (cc := cX7_checkTile) (maxL := 2) (lv := [(0, .ref (ah 0)), (1, .int p0)]) ⟨Nat.le_of_ble_eq_true rfl, Nat.le_of_ble_eq_true rfl, rfl, rfl⟩ (by decide) rfl (Nat.le_of_ble_eq_true rfl) rfl ?_
  intro p e s m args below meth c1 A Q H locs hx hb hml hown hts hK hN hZ hXW hP hD hA hS hthr hprop ls hl
  have hown : s.vm.findClass RX7 = some m.cls := hown
  have hi_7 : ∀ w ∈ wsX70, w ∈ wsX7_checkTile := (fun w h => List.mem_cons_of_mem _ (List.mem_append_left _ (List.mem_append_left _ (List.mem_append_right _ (h)))))
  unfold t_X7_checkTile at hm
  refine lv_aload_n hx hb dX7_checkTile_0 rfl (lv_at hl 0 rfl) ?_
  refine va_get (D := G) (ci := 7) (v := .ref (ag 0 0)) (C := RX7) (T := TX7) (N := 7) hx hb hts hi_7 hown hK hP 0 rfl rfl 0 (by decide) (hts (.fieldLink RX7 10 "HubTrains" "game" "LHubTrains$Game;") (List.mem_of_getElem? (i := 3) rfl)) (fun _ h9 => h9) rfl dX7_checkTile_1 ?_
  refine lv_iload_n hx hb dX7_checkTile_4 rfl (lv_at hl 1 rfl) ?_
  obtain ⟨r5, e_5, hm⟩ := bd1_s hm
  refine zcVi (As := [.int p0]) (rest := []) ⟨hx, hb, hml, hown, hts⟩ (k_X1_isInSet l G K c (ag 0) s7.2.1 p0 r5 e_5) (cwV 1 hts gX7_checkTile_X1_isInSet rfl rfl rfl hd_X1_isInSet ⟨Nat.le_of_ble_eq_true rfl, Nat.le_of_ble_eq_true rfl⟩) hK hN hZ hP hD hS hA (va_recv hK hP (ci := 1) (q0 := 2) rfl rfl) [2, 3, 4, 5, 6, 7, 8, 9, 10, 11] rfl (by decide) rfl rfl hl.1 rfl (Nat.le_of_ble_eq_true rfl) dX7_checkTile_5 ⟨Nat.zero_le _, Nat.zero_le _⟩ (fun H locs hP hD hS => ?_)
  have hP : va_P G vwCl (wH c ah ag ar ps s7) H := (congrArg (fun w => va_P G vwCl w H) (zset_id _ _ _ rfl)).mp hP
  have hD : va_D A (wH c ah ag ar ps s7) := (congrArg (fun w => va_D A w) (zset_id _ _ _ rfl)).mp hD
  refine lv_if_ne (tgt := 19) hx hb dX7_checkTile_8 (by decide) (fun c_8 => ?_) (fun c_8 => ?_)
  · have hm := ifn c_8 hm
    cases hm
  · have hm := ifp c_8 hm
    have hE := (Option.some.inj hm)
    subst hE
    exact hthr H locs ls _ 54 56 _ (List.mem_of_getElem? (i := 0) rfl) rfl hP hD hS hl.1 (hts (.classLink RX7 54 "java/lang/IllegalArgumentException") (List.mem_of_getElem? (i := 1) rfl)) (hts (.initialized "java/lang/IllegalArgumentException") (List.mem_of_getElem? (i := 2) rfl)) (fun w h => hts w ((fun w h => List.mem_cons_of_mem _ (List.mem_append_right _ (h))) w h)) (by decide +kernel) (by decide +kernel) dX7_checkTile_11 dX7_checkTile_14 dX7_checkTile_15 dX7_checkTile_18


def t_X7_checkWhat (p0 : Int32) (p1 : Int32) : Option String :=
  if p0 < 0 then (some ("java/lang/IllegalArgumentException")) else (if p0 < p1 then (none) else (some ("java/lang/IllegalArgumentException")))

abbrev rmt_X7_checkWhat : Room := { frames := 6, cells := 1, slots := 6, locals := 81 }
set_option maxHeartbeats 4000000 in
set_option maxRecDepth 100000 in
theorem tk_X7_checkWhat (l : Launch) (hl0 : l.stackTraces = false) (G : va_G) (K : (Nat → Nat) × (Nat → Nat)) (c : Nat → ClassId) (p0 : Int32) (p1 : Int32) (E : String) (hm : t_X7_checkWhat p0 p1 = some (E)) : zXv l yX7_checkWhat wsX7_checkWhat rmt_X7_checkWhat G K (TY c) [.int p0, .int p1] ([]) ([]) E := by
  refine zXv.of hl0 (cc := cX7_checkWhat) (maxL := 2) (lv := [(0, .int p0), (1, .int p1)]) ⟨Nat.le_of_ble_eq_true rfl, Nat.le_of_ble_eq_true rfl, rfl, rfl⟩ (by decide) rfl (Nat.le_of_ble_eq_true rfl) rfl ?_
  intro p e s m args below meth c1 A Q H locs hx hb hml hown hts hK hN hZ hXW hP hD hA hS hthr hprop ls hl
  have hown : s.vm.findClass RX7 = some m.cls := hown
  unfold t_X7_checkWhat at hm
  refine lv_iload_n hx hb dX7_checkWhat_0 rfl (lv_at hl 0 rfl) ?_
  refine lv_if_lt (tgt := 9) hx hb dX7_checkWhat_1 (by decide) (fun c_1 => ?_) (fun c_1 => ?_)
  · have hm := ifp c_1 hm
    have hE := (Option.some.inj hm)
    subst hE
    exact hthr H locs ls _ 54 56 _ (List.mem_of_getElem? (i := 0) rfl) rfl hP hD hS hl.1 (hts (.classLink RX7 54 "java/lang/IllegalArgumentException") (List.mem_of_getElem? (i := 1) rfl)) (hts (.initialized "java/lang/IllegalArgumentException") (List.mem_of_getElem? (i := 2) rfl)) (fun w h => hts w ((fun w h => List.mem_cons_of_mem _ (List.mem_append_right _ (h))) w h)) (by decide +kernel) (by decide +kernel) dX7_checkWhat_9 dX7_checkWhat_12 dX7_checkWhat_13 dX7_checkWhat_16
  · have hm := ifn c_1 hm
    refine lv_iload_n hx hb dX7_checkWhat_4 rfl (lv_at hl 0 rfl) ?_
    refine lv_iload_n hx hb dX7_checkWhat_5 rfl (lv_at hl 1 rfl) ?_
    refine lv_icmp_lt (tgt := 17) hx hb dX7_checkWhat_6 (by decide) (fun c_6 => ?_) (fun c_6 => ?_)
    · have hm := ifp c_6 hm
      cases hm
    · have hm := ifn c_6 hm
      have hE := (Option.some.inj hm)
      subst hE
      exact hthr H locs ls _ 54 56 _ (List.mem_of_getElem? (i := 0) rfl) rfl hP hD hS hl.1 (hts (.classLink RX7 54 "java/lang/IllegalArgumentException") (List.mem_of_getElem? (i := 1) rfl)) (hts (.initialized "java/lang/IllegalArgumentException") (List.mem_of_getElem? (i := 2) rfl)) (fun w h => hts w ((fun w h => List.mem_cons_of_mem _ (List.mem_append_right _ (h))) w h)) (by decide +kernel) (by decide +kernel) dX7_checkWhat_9 dX7_checkWhat_12 dX7_checkWhat_13 dX7_checkWhat_16


def t_X7_checkAllowed (p0 : Int32) : Option String :=
  if p0 = 0 then (some ("java/lang/IllegalStateException")) else (none)

abbrev rmt_X7_checkAllowed : Room := { frames := 6, cells := 1, slots := 6, locals := 81 }
set_option maxHeartbeats 4000000 in
set_option maxRecDepth 100000 in
theorem tk_X7_checkAllowed (l : Launch) (hl0 : l.stackTraces = false) (G : va_G) (K : (Nat → Nat) × (Nat → Nat)) (c : Nat → ClassId) (p0 : Int32) (E : String) (hm : t_X7_checkAllowed p0 = some (E)) : zXv l yX7_checkAllowed wsX7_checkAllowed rmt_X7_checkAllowed G K (TY c) [.int p0] ([]) ([]) E := by
  refine zXv.of hl0 (cc := cX7_checkAllowed) (maxL := 1) (lv := [(0, .int p0)]) ⟨Nat.le_of_ble_eq_true rfl, Nat.le_of_ble_eq_true rfl, rfl, rfl⟩ (by decide) rfl (Nat.le_of_ble_eq_true rfl) rfl ?_
  intro p e s m args below meth c1 A Q H locs hx hb hml hown hts hK hN hZ hXW hP hD hA hS hthr hprop ls hl
  have hown : s.vm.findClass RX7 = some m.cls := hown
  unfold t_X7_checkAllowed at hm
  refine lv_iload_n hx hb dX7_checkAllowed_0 rfl (lv_at hl 0 rfl) ?_
  refine lv_if_ne (tgt := 12) hx hb dX7_checkAllowed_1 (by decide) (fun c_1 => ?_) (fun c_1 => ?_)
  · have hm := ifn c_1 hm
    cases hm
  · have hm := ifp c_1 hm
    have hE := (Option.some.inj hm)
    subst hE
    exact hthr H locs ls _ 230 232 _ (List.mem_of_getElem? (i := 3) rfl) rfl hP hD hS hl.1 (hts (.classLink RX7 230 "java/lang/IllegalStateException") (List.mem_of_getElem? (i := 1) rfl)) (hts (.initialized "java/lang/IllegalStateException") (List.mem_of_getElem? (i := 2) rfl)) (fun w h => hts w ((fun w h => List.mem_cons_of_mem _ (List.mem_append_right _ (h))) w h)) (by decide +kernel) (by decide +kernel) dX7_checkAllowed_4 dX7_checkAllowed_7 dX7_checkAllowed_8 dX7_checkAllowed_11


def t_X7_load (s7 : HS) (p0 : Int32) : Option String :=
  if p0 < 0 then (some ("java/lang/IllegalArgumentException")) else (if p0 ≤ (s7.2.2.2.2.1.2.1.1 0) then (none) else (some ("java/lang/IllegalArgumentException")))

abbrev rmt_X7_load : Room := { frames := 6, cells := 1, slots := 6, locals := 81 }
set_option maxHeartbeats 4000000 in
set_option maxRecDepth 100000 in
theorem tk_X7_load (l : Launch) (hl0 : l.stackTraces = false) (G : va_G) (K : (Nat → Nat) × (Nat → Nat)) (c : Nat → ClassId) (ah : Nat → Nat) (ag : Nat → Nat → Nat) (ar : Nat → Nat) (ps : PS) (s7 : HS) (p0 : Int32) (E : String) (hm : t_X7_load s7 p0 = some (E)) : zXi l yX7_load wsX7_load rmt_X7_load G K (TY c) [.ref (ah 0), .int p0] (wH c ah ag ar ps s7) (wH c ah ag ar ps s7) E := by
  refine zXi.of hl0 (cc := cX7_load) (maxL := 3) (lv := [(0, .ref (ah 0)), (1, .int p0)]) ⟨Nat.le_of_ble_eq_true rfl, Nat.le_of_ble_eq_true rfl, rfl, rfl⟩ (by decide) rfl (Nat.le_of_ble_eq_true rfl) rfl ?_
  intro p e s m args below meth c1 A Q H locs hx hb hml hown hts hK hN hZ hXW hP hD hA hS hthr hprop ls hl
  have hown : s.vm.findClass RX7 = some m.cls := hown
  have hi_3 : ∀ w ∈ wsX30, w ∈ wsX7_load := (fun w h => List.mem_cons_of_mem _ (List.mem_append_left _ (List.mem_append_left _ (List.mem_append_left _ (List.mem_append_left _ (List.mem_append_left _ (List.mem_append_left _ (List.mem_append_left _ (List.mem_append_right _ (h))))))))))
  have hi_5 : ∀ w ∈ wsX50, w ∈ wsX7_load := (fun w h => List.mem_cons_of_mem _ (List.mem_append_left _ (List.mem_append_left _ (List.mem_append_left _ (List.mem_append_left _ (List.mem_append_left _ (List.mem_append_left _ (List.mem_append_right _ (h)))))))))
  have hi_7 : ∀ w ∈ wsX70, w ∈ wsX7_load := (fun w h => List.mem_cons_of_mem _ (List.mem_append_left _ (List.mem_append_left _ (List.mem_append_left _ (List.mem_append_left _ (List.mem_append_left _ (List.mem_append_left _ (List.mem_append_left _ (List.mem_append_left _ (List.mem_append_right _ (h)))))))))))
  unfold t_X7_load at hm
  refine lv_iload_n hx hb dX7_load_0 rfl (lv_at hl 1 rfl) ?_
  refine lv_if_lt (tgt := 18) hx hb dX7_load_1 (by decide) (fun c_1 => ?_) (fun c_1 => ?_)
  · have hm := ifp c_1 hm
    have hE := (Option.some.inj hm)
    subst hE
    exact hthr H locs ls _ 54 56 _ (List.mem_of_getElem? (i := 0) rfl) rfl hP hD hS hl.1 (hts (.classLink RX7 54 "java/lang/IllegalArgumentException") (List.mem_of_getElem? (i := 1) rfl)) (hts (.initialized "java/lang/IllegalArgumentException") (List.mem_of_getElem? (i := 2) rfl)) (fun w h => hts w ((fun w h => List.mem_cons_of_mem _ (List.mem_append_right _ (h))) w h)) (by decide +kernel) (by decide +kernel) dX7_load_18 dX7_load_21 dX7_load_22 dX7_load_25
  · have hm := ifn c_1 hm
    refine lv_iload_n hx hb dX7_load_4 rfl (lv_at hl 1 rfl) ?_
    refine lv_aload_n hx hb dX7_load_5 rfl (lv_at hl 0 rfl) ?_
    refine va_get (D := G) (ci := 7) (v := .ref (ar 0)) (C := RX7) (T := TX7) (N := 7) hx hb hts hi_7 hown hK hP 0 rfl rfl 5 (by decide) (hts (.fieldLink RX7 26 "HubTrains" "reader" "LHubTrains$SetupReader;") (List.mem_of_getElem? (i := 3) rfl)) (fun _ h9 => h9) rfl dX7_load_6 ?_
    refine va_getN (D := G) (ci := 3) (v := .ref (ar 2)) (C := RX3) (T := TX3) (N := 11) hx hb hts hi_3 hown hK hP 102 rfl rfl 0 (by decide) (va_Nw.use rfl (nwf_HubTrains_40 hN.1)) (fun _ h9 => h9) rfl dX7_load_9 ?_
    refine va_getN (D := G) (ci := 5) (v := .int (s7.2.2.2.2.1.2.1.1 0)) (C := RX5) (T := TX5) (N := 7) hx hb hts hi_5 hown hK hP 104 rfl rfl 1 (by decide) (va_Nw.use rfl (nwf_HubTrains_44 hN.1)) (fun _ h9 => h9) rfl dX7_load_12 ?_
    refine lv_icmp_le (tgt := 26) hx hb dX7_load_15 (by decide) (fun c_15 => ?_) (fun c_15 => ?_)
    · have hm := ifp c_15 hm
      cases hm
    · have hm := ifn c_15 hm
      have hE := (Option.some.inj hm)
      subst hE
      exact hthr H locs ls _ 54 56 _ (List.mem_of_getElem? (i := 0) rfl) rfl hP hD hS hl.1 (hts (.classLink RX7 54 "java/lang/IllegalArgumentException") (List.mem_of_getElem? (i := 1) rfl)) (hts (.initialized "java/lang/IllegalArgumentException") (List.mem_of_getElem? (i := 2) rfl)) (fun w h => hts w ((fun w h => List.mem_cons_of_mem _ (List.mem_append_right _ (h))) w h)) (by decide +kernel) (by decide +kernel) dX7_load_18 dX7_load_21 dX7_load_22 dX7_load_25


def t_X7_state (s7 : HS) (p0 : Int32) : Option String :=
  th (t_X7_checkWhat p0 13) <| bd1 (f_X7_checkWhat p0 13) fun (_ : Unit) => none

abbrev rmt_X7_state : Room := { frames := 7, cells := 1, slots := 6, locals := 102 }
set_option maxHeartbeats 4000000 in
set_option maxRecDepth 100000 in
theorem tk_X7_state (l : Launch) (hl0 : l.stackTraces = false) (G : va_G) (K : (Nat → Nat) × (Nat → Nat)) (c : Nat → ClassId) (ah : Nat → Nat) (ag : Nat → Nat → Nat) (ar : Nat → Nat) (ps : PS) (s7 : HS) (p0 : Int32) (E : String) (hm : t_X7_state s7 p0 = some (E)) : zXi l yX7_state wsX7_state rmt_X7_state G K (TY c) [.ref (ah 0), .int p0] (wH c ah ag ar ps s7) (wH c ah ag ar ps s7) E := by
  refine zXi.of hl0 (cc := cX7_state) (maxL := 2) (lv := [(0, .ref (ah 0)), (1, .int p0)]) ⟨Nat.le_of_ble_eq_true rfl, Nat.le_of_ble_eq_true rfl, rfl, rfl⟩ (by decide) rfl (Nat.le_of_ble_eq_true rfl) rfl ?_
  intro p e s m args below meth c1 A Q H locs hx hb hml hown hts hK hN hZ hXW hP hD hA hS hthr hprop ls hl
  have hown : s.vm.findClass RX7 = some m.cls := hown
  unfold t_X7_state at hm
  refine lv_iload_n hx hb dX7_state_0 rfl (lv_at hl 1 rfl) ?_
  refine lv_bipush (v := 13) hx hb dX7_state_1 (by decide) ?_
  rcases th_s hm with hE | hm
  · refine zcXSv (E := E) (As := [.int p0, .int 13]) (rest := []) ⟨hx, hb, hml, hown, hts⟩ (tk_X7_checkWhat l hl0 G K c p0 13 E hE) (va_cwS 2 hts gX7_state_X7_checkWhat rfl rfl rfl hd_X7_checkWhat.2 ⟨Nat.le_of_ble_eq_true rfl, Nat.le_of_ble_eq_true rfl⟩) hK hN hZ hXW hP hD hS hA rfl hl.1 rfl (Nat.le_of_ble_eq_true rfl) dX7_state_3 ⟨Nat.le_of_ble_eq_true rfl, Nat.le_of_ble_eq_true rfl⟩ (fun H locs q ce hP hD hS hq hce hcl => hprop H locs ls _ _ q ce _ rfl hP hD hS hq hce hcl)
  · obtain ⟨e_u3, e_3, hm⟩ := bd1_s hm
    refine zcSv (As := [.int p0, .int 13]) (rest := []) ⟨hx, hb, hml, hown, hts⟩ (k_X7_checkWhat l G K c p0 13 e_3) (va_cwS 2 hts gX7_state_X7_checkWhat rfl rfl rfl hd_X7_checkWhat.2 ⟨Nat.le_of_ble_eq_true rfl, Nat.le_of_ble_eq_true rfl⟩) hK hN hZ hP hD hS hA [] rfl (by decide) rfl rfl hl.1 rfl (Nat.le_of_ble_eq_true rfl) dX7_state_3 ⟨Nat.zero_le _, Nat.zero_le _⟩ (fun H locs hP hD hS => ?_)
    have hP : va_P G vwCl (wH c ah ag ar ps s7) H := (congrArg (fun w => va_P G vwCl w H) (zset_id _ _ _ rfl)).mp hP
    have hD : va_D A (wH c ah ag ar ps s7) := (congrArg (fun w => va_D A w) (zset_id _ _ _ rfl)).mp hD
    cases hm


def t_X7_player (s7 : HS) (p0 : Int32) (p1 : Int32) : Option String :=
  th (t_X7_checkPlayer s7 p0) <| bd1 (f_X7_checkPlayer s7 p0) fun (_ : Unit) => th (t_X7_checkWhat p1 4) <| bd1 (f_X7_checkWhat p1 4) fun (_ : Unit) => none

abbrev rmt_X7_player : Room := { frames := 7, cells := 1, slots := 6, locals := 102 }
set_option maxHeartbeats 4000000 in
set_option maxRecDepth 100000 in
theorem tk_X7_player (l : Launch) (hl0 : l.stackTraces = false) (G : va_G) (K : (Nat → Nat) × (Nat → Nat)) (c : Nat → ClassId) (ah : Nat → Nat) (ag : Nat → Nat → Nat) (ar : Nat → Nat) (ps : PS) (s7 : HS) (p0 : Int32) (p1 : Int32) (E : String) (hm : t_X7_player s7 p0 p1 = some (E)) : zXi l yX7_player wsX7_player rmt_X7_player G K (TY c) [.ref (ah 0), .int p0, .int p1] (wH c ah ag ar ps s7) (wH c ah ag ar ps s7) E := by
  refine zXi.of hl0 (cc := cX7_player) (maxL := 3) (lv := [(0, .ref (ah 0)), (1, .int p0), (2, .int p1)]) ⟨Nat.le_of_ble_eq_true rfl, Nat.le_of_ble_eq_true rfl, rfl, rfl⟩ (by decide) rfl (Nat.le_of_ble_eq_true rfl) rfl ?_
  intro p e s m args below meth c1 A Q H locs hx hb hml hown hts hK hN hZ hXW hP hD hA hS hthr hprop ls hl
  have hown : s.vm.findClass RX7 = some m.cls := hown
  unfold t_X7_player at hm
  refine lv_aload_n hx hb dX7_player_0 rfl (lv_at hl 0 rfl) ?_
  refine lv_iload_n hx hb dX7_player_1 rfl (lv_at hl 1 rfl) ?_
  rcases th_s hm with hE | hm
  · refine zcXVv (E := E) (As := [.int p0]) (rest := []) ⟨hx, hb, hml, hown, hts⟩ (tk_X7_checkPlayer l hl0 G K c ah ag ar ps s7 p0 E hE) (cwV 1 hts gX7_player_X7_checkPlayer rfl rfl rfl hd_X7_checkPlayer ⟨Nat.le_of_ble_eq_true rfl, Nat.le_of_ble_eq_true rfl⟩) hK hN hZ hXW hP hD hS hA (va_recv hK hP (ci := 7) (q0 := 0) rfl rfl) rfl hl.1 rfl (Nat.le_of_ble_eq_true rfl) dX7_player_2 ⟨Nat.le_of_ble_eq_true rfl, Nat.le_of_ble_eq_true rfl⟩ (fun H locs q ce hP hD hS hq hce hcl => hprop H locs ls _ _ q ce _ rfl hP hD hS hq hce hcl)
  · obtain ⟨e_u2, e_2, hm⟩ := bd1_s hm
    refine zcWv (As := [.int p0]) (rest := []) ⟨hx, hb, hml, hown, hts⟩ (k_X7_checkPlayer l G K c ah ag ar ps s7 p0 e_2) (cwV 1 hts gX7_player_X7_checkPlayer rfl rfl rfl hd_X7_checkPlayer ⟨Nat.le_of_ble_eq_true rfl, Nat.le_of_ble_eq_true rfl⟩) hK hN hZ hP hD hS hA (va_recv hK hP (ci := 7) (q0 := 0) rfl rfl) rfl hl.1 rfl (Nat.le_of_ble_eq_true rfl) dX7_player_2 ⟨Nat.zero_le _, Nat.zero_le _⟩ (fun H locs hP hD hS => ?_)
    have hP : va_P G vwCl (wH c ah ag ar ps s7) H := hP
    have hD : va_D A (wH c ah ag ar ps s7) := hD
    refine lv_iload_n hx hb dX7_player_5 rfl (lv_at hl 2 rfl) ?_
    refine lv_iconst (v := 4) hx hb dX7_player_6 (by decide) ?_
    rcases th_s hm with hE | hm
    · refine zcXSv (E := E) (As := [.int p1, .int 4]) (rest := []) ⟨hx, hb, hml, hown, hts⟩ (tk_X7_checkWhat l hl0 G K c p1 4 E hE) (va_cwS 2 hts gX7_player_X7_checkWhat rfl rfl rfl hd_X7_checkWhat.2 ⟨Nat.le_of_ble_eq_true rfl, Nat.le_of_ble_eq_true rfl⟩) hK hN hZ hXW hP hD hS hA rfl hl.1 rfl (Nat.le_of_ble_eq_true rfl) dX7_player_7 ⟨Nat.le_of_ble_eq_true rfl, Nat.le_of_ble_eq_true rfl⟩ (fun H locs q ce hP hD hS hq hce hcl => hprop H locs ls _ _ q ce _ rfl hP hD hS hq hce hcl)
    · obtain ⟨e_u7, e_7, hm⟩ := bd1_s hm
      refine zcSv (As := [.int p1, .int 4]) (rest := []) ⟨hx, hb, hml, hown, hts⟩ (k_X7_checkWhat l G K c p1 4 e_7) (va_cwS 2 hts gX7_player_X7_checkWhat rfl rfl rfl hd_X7_checkWhat.2 ⟨Nat.le_of_ble_eq_true rfl, Nat.le_of_ble_eq_true rfl⟩) hK hN hZ hP hD hS hA [] rfl (by decide) rfl rfl hl.1 rfl (Nat.le_of_ble_eq_true rfl) dX7_player_7 ⟨Nat.zero_le _, Nat.zero_le _⟩ (fun H locs hP hD hS => ?_)
      have hP : va_P G vwCl (wH c ah ag ar ps s7) H := (congrArg (fun w => va_P G vwCl w H) (zset_id _ _ _ rfl)).mp hP
      have hD : va_D A (wH c ah ag ar ps s7) := (congrArg (fun w => va_D A w) (zset_id _ _ _ rfl)).mp hD
      cases hm


def t_X7_tile (s7 : HS) (p0 : Int32) (p1 : Int32) : Option String :=
  th (t_X7_checkPlayer s7 p0) <| bd1 (f_X7_checkPlayer s7 p0) fun (_ : Unit) => bd1 (f_X1_tileInHand s7.2.1 p0 p1) fun (r11 : Int32) => if r11 = (-1) then (some ("java/util/NoSuchElementException")) else (none)

abbrev rmt_X7_tile : Room := { frames := 7, cells := 1, slots := 6, locals := 102 }
set_option maxHeartbeats 4000000 in
set_option maxRecDepth 100000 in
theorem tk_X7_tile (l : Launch) (hl0 : l.stackTraces = false) (G : va_G) (K : (Nat → Nat) × (Nat → Nat)) (c : Nat → ClassId) (ah : Nat → Nat) (ag : Nat → Nat → Nat) (ar : Nat → Nat) (ps : PS) (s7 : HS) (p0 : Int32) (p1 : Int32) (E : String) (hm : t_X7_tile s7 p0 p1 = some (E)) : zXi l yX7_tile wsX7_tile rmt_X7_tile G K (TY c) [.ref (ah 0), .int p0, .int p1] (wH c ah ag ar ps s7) (wH c ah ag ar ps s7) E := by
  refine zXi.of hl0 (cc := cX7_tile) (maxL := 4) (lv := [(0, .ref (ah 0)), (1, .int p0), (2, .int p1)]) ⟨Nat.le_of_ble_eq_true rfl, Nat.le_of_ble_eq_true rfl, rfl, rfl⟩ (by decide) rfl (Nat.le_of_ble_eq_true rfl) rfl ?_
  intro p e s m args below meth c1 A Q H locs hx hb hml hown hts hK hN hZ hXW hP hD hA hS hthr hprop ls hl
  have hown : s.vm.findClass RX7 = some m.cls := hown
  have hi_7 : ∀ w ∈ wsX70, w ∈ wsX7_tile := (fun w h => List.mem_cons_of_mem _ (List.mem_append_left _ (List.mem_append_left _ (List.mem_append_left _ (List.mem_append_right _ (h))))))
  unfold t_X7_tile at hm
  refine lv_aload_n hx hb dX7_tile_0 rfl (lv_at hl 0 rfl) ?_
  refine lv_iload_n hx hb dX7_tile_1 rfl (lv_at hl 1 rfl) ?_
  rcases th_s hm with hE | hm
  · refine zcXVv (E := E) (As := [.int p0]) (rest := []) ⟨hx, hb, hml, hown, hts⟩ (tk_X7_checkPlayer l hl0 G K c ah ag ar ps s7 p0 E hE) (cwV 1 hts gX7_tile_X7_checkPlayer rfl rfl rfl hd_X7_checkPlayer ⟨Nat.le_of_ble_eq_true rfl, Nat.le_of_ble_eq_true rfl⟩) hK hN hZ hXW hP hD hS hA (va_recv hK hP (ci := 7) (q0 := 0) rfl rfl) rfl hl.1 rfl (Nat.le_of_ble_eq_true rfl) dX7_tile_2 ⟨Nat.le_of_ble_eq_true rfl, Nat.le_of_ble_eq_true rfl⟩ (fun H locs q ce hP hD hS hq hce hcl => hprop H locs ls _ _ q ce _ rfl hP hD hS hq hce hcl)
  · obtain ⟨e_u2, e_2, hm⟩ := bd1_s hm
    refine zcWv (As := [.int p0]) (rest := []) ⟨hx, hb, hml, hown, hts⟩ (k_X7_checkPlayer l G K c ah ag ar ps s7 p0 e_2) (cwV 1 hts gX7_tile_X7_checkPlayer rfl rfl rfl hd_X7_checkPlayer ⟨Nat.le_of_ble_eq_true rfl, Nat.le_of_ble_eq_true rfl⟩) hK hN hZ hP hD hS hA (va_recv hK hP (ci := 7) (q0 := 0) rfl rfl) rfl hl.1 rfl (Nat.le_of_ble_eq_true rfl) dX7_tile_2 ⟨Nat.zero_le _, Nat.zero_le _⟩ (fun H locs hP hD hS => ?_)
    have hP : va_P G vwCl (wH c ah ag ar ps s7) H := hP
    have hD : va_D A (wH c ah ag ar ps s7) := hD
    refine lv_aload_n hx hb dX7_tile_5 rfl (lv_at hl 0 rfl) ?_
    refine va_get (D := G) (ci := 7) (v := .ref (ag 0 0)) (C := RX7) (T := TX7) (N := 7) hx hb hts hi_7 hown hK hP 0 rfl rfl 0 (by decide) (hts (.fieldLink RX7 10 "HubTrains" "game" "LHubTrains$Game;") (List.mem_of_getElem? (i := 3) rfl)) (fun _ h9 => h9) rfl dX7_tile_6 ?_
    refine lv_iload_n hx hb dX7_tile_9 rfl (lv_at hl 1 rfl) ?_
    refine lv_iload_n hx hb dX7_tile_10 rfl (lv_at hl 2 rfl) ?_
    obtain ⟨r11, e_11, hm⟩ := bd1_s hm
    refine zcVi (As := [.int p0, .int p1]) (rest := []) ⟨hx, hb, hml, hown, hts⟩ (k_X1_tileInHand l G K c (ag 0) s7.2.1 p0 p1 r11 e_11) (cwV 2 hts gX7_tile_X1_tileInHand rfl rfl rfl hd_X1_tileInHand ⟨Nat.le_of_ble_eq_true rfl, Nat.le_of_ble_eq_true rfl⟩) hK hN hZ hP hD hS hA (va_recv hK hP (ci := 1) (q0 := 2) rfl rfl) [2, 3, 4, 5, 6, 7, 8, 9, 10, 11] rfl (by decide) rfl rfl hl.1 rfl (Nat.le_of_ble_eq_true rfl) dX7_tile_11 ⟨Nat.zero_le _, Nat.zero_le _⟩ (fun H locs hP hD hS => ?_)
    have hP : va_P G vwCl (wH c ah ag ar ps s7) H := (congrArg (fun w => va_P G vwCl w H) (zset_id _ _ _ rfl)).mp hP
    have hD : va_D A (wH c ah ag ar ps s7) := (congrArg (fun w => va_D A w) (zset_id _ _ _ rfl)).mp hD
    refine lv_istore_n (lv' := [(3, .int r11), (0, .ref (ah 0)), (1, .int p0), (2, .int p1)]) hx hb dX7_tile_14 rfl hl (by decide) rfl (fun ls hl => ?_)
    refine lv_iload_n hx hb dX7_tile_15 rfl (lv_at hl 0 rfl) ?_
    refine lv_iconst (v := (-1)) hx hb dX7_tile_16 (by decide) ?_
    refine lv_icmp_ne (tgt := 28) hx hb dX7_tile_17 (by decide) (fun c_17 => ?_) (fun c_17 => ?_)
    · have hm := ifn c_17 hm
      cases hm
    · have hm := ifp c_17 hm
      have hE := (Option.some.inj hm)
      subst hE
      exact hthr H locs ls _ 99 101 _ (List.mem_of_getElem? (i := 2) rfl) rfl hP hD hS hl.1 (hts (.classLink RX7 99 "java/util/NoSuchElementException") (List.mem_of_getElem? (i := 1) rfl)) (hts (.initialized "java/util/NoSuchElementException") (List.mem_of_getElem? (i := 2) rfl)) (fun w h => hts w ((fun w h => List.mem_cons_of_mem _ (List.mem_append_left _ (List.mem_append_right _ (h)))) w h)) (by decide +kernel) (by decide +kernel) dX7_tile_20 dX7_tile_23 dX7_tile_24 dX7_tile_27


def t_X7_train (s7 : HS) (p0 : Int32) (p1 : Int32) : Option String :=
  th (t_X7_checkTrain s7 p0) <| bd1 (f_X7_checkTrain s7 p0) fun (_ : Unit) => th (t_X7_checkWhat p1 5) <| bd1 (f_X7_checkWhat p1 5) fun (_ : Unit) => none

abbrev rmt_X7_train : Room := { frames := 7, cells := 1, slots := 6, locals := 102 }
set_option maxHeartbeats 4000000 in
set_option maxRecDepth 100000 in
theorem tk_X7_train (l : Launch) (hl0 : l.stackTraces = false) (G : va_G) (K : (Nat → Nat) × (Nat → Nat)) (c : Nat → ClassId) (ah : Nat → Nat) (ag : Nat → Nat → Nat) (ar : Nat → Nat) (ps : PS) (s7 : HS) (p0 : Int32) (p1 : Int32) (E : String) (hm : t_X7_train s7 p0 p1 = some (E)) : zXi l yX7_train wsX7_train rmt_X7_train G K (TY c) [.ref (ah 0), .int p0, .int p1] (wH c ah ag ar ps s7) (wH c ah ag ar ps s7) E := by
  refine zXi.of hl0 (cc := cX7_train) (maxL := 3) (lv := [(0, .ref (ah 0)), (1, .int p0), (2, .int p1)]) ⟨Nat.le_of_ble_eq_true rfl, Nat.le_of_ble_eq_true rfl, rfl, rfl⟩ (by decide) rfl (Nat.le_of_ble_eq_true rfl) rfl ?_
  intro p e s m args below meth c1 A Q H locs hx hb hml hown hts hK hN hZ hXW hP hD hA hS hthr hprop ls hl
  have hown : s.vm.findClass RX7 = some m.cls := hown
  unfold t_X7_train at hm
  refine lv_aload_n hx hb dX7_train_0 rfl (lv_at hl 0 rfl) ?_
  refine lv_iload_n hx hb dX7_train_1 rfl (lv_at hl 1 rfl) ?_
  rcases th_s hm with hE | hm
  · refine zcXVv (E := E) (As := [.int p0]) (rest := []) ⟨hx, hb, hml, hown, hts⟩ (tk_X7_checkTrain l hl0 G K c ah ag ar ps s7 p0 E hE) (cwV 1 hts gX7_train_X7_checkTrain rfl rfl rfl hd_X7_checkTrain ⟨Nat.le_of_ble_eq_true rfl, Nat.le_of_ble_eq_true rfl⟩) hK hN hZ hXW hP hD hS hA (va_recv hK hP (ci := 7) (q0 := 0) rfl rfl) rfl hl.1 rfl (Nat.le_of_ble_eq_true rfl) dX7_train_2 ⟨Nat.le_of_ble_eq_true rfl, Nat.le_of_ble_eq_true rfl⟩ (fun H locs q ce hP hD hS hq hce hcl => hprop H locs ls _ _ q ce _ rfl hP hD hS hq hce hcl)
  · obtain ⟨e_u2, e_2, hm⟩ := bd1_s hm
    refine zcWv (As := [.int p0]) (rest := []) ⟨hx, hb, hml, hown, hts⟩ (k_X7_checkTrain l G K c ah ag ar ps s7 p0 e_2) (cwV 1 hts gX7_train_X7_checkTrain rfl rfl rfl hd_X7_checkTrain ⟨Nat.le_of_ble_eq_true rfl, Nat.le_of_ble_eq_true rfl⟩) hK hN hZ hP hD hS hA (va_recv hK hP (ci := 7) (q0 := 0) rfl rfl) rfl hl.1 rfl (Nat.le_of_ble_eq_true rfl) dX7_train_2 ⟨Nat.zero_le _, Nat.zero_le _⟩ (fun H locs hP hD hS => ?_)
    have hP : va_P G vwCl (wH c ah ag ar ps s7) H := hP
    have hD : va_D A (wH c ah ag ar ps s7) := hD
    refine lv_iload_n hx hb dX7_train_5 rfl (lv_at hl 2 rfl) ?_
    refine lv_iconst (v := 5) hx hb dX7_train_6 (by decide) ?_
    rcases th_s hm with hE | hm
    · refine zcXSv (E := E) (As := [.int p1, .int 5]) (rest := []) ⟨hx, hb, hml, hown, hts⟩ (tk_X7_checkWhat l hl0 G K c p1 5 E hE) (va_cwS 2 hts gX7_train_X7_checkWhat rfl rfl rfl hd_X7_checkWhat.2 ⟨Nat.le_of_ble_eq_true rfl, Nat.le_of_ble_eq_true rfl⟩) hK hN hZ hXW hP hD hS hA rfl hl.1 rfl (Nat.le_of_ble_eq_true rfl) dX7_train_7 ⟨Nat.le_of_ble_eq_true rfl, Nat.le_of_ble_eq_true rfl⟩ (fun H locs q ce hP hD hS hq hce hcl => hprop H locs ls _ _ q ce _ rfl hP hD hS hq hce hcl)
    · obtain ⟨e_u7, e_7, hm⟩ := bd1_s hm
      refine zcSv (As := [.int p1, .int 5]) (rest := []) ⟨hx, hb, hml, hown, hts⟩ (k_X7_checkWhat l G K c p1 5 e_7) (va_cwS 2 hts gX7_train_X7_checkWhat rfl rfl rfl hd_X7_checkWhat.2 ⟨Nat.le_of_ble_eq_true rfl, Nat.le_of_ble_eq_true rfl⟩) hK hN hZ hP hD hS hA [] rfl (by decide) rfl rfl hl.1 rfl (Nat.le_of_ble_eq_true rfl) dX7_train_7 ⟨Nat.zero_le _, Nat.zero_le _⟩ (fun H locs hP hD hS => ?_)
      have hP : va_P G vwCl (wH c ah ag ar ps s7) H := (congrArg (fun w => va_P G vwCl w H) (zset_id _ _ _ rfl)).mp hP
      have hD : va_D A (wH c ah ag ar ps s7) := (congrArg (fun w => va_D A w) (zset_id _ _ _ rfl)).mp hD
      cases hm


def t_X7_laid (s7 : HS) (p0 : Int32) (p1 : Int32) : Option String :=
  th (t_X7_checkTrain s7 p0) <| bd1 (f_X7_checkTrain s7 p0) fun (_ : Unit) => bd1 (f_X6_tileAt s7.2.1.2.2.2 p0 p1) fun (r14 : Int32) => if r14 = (-1) then (some ("java/util/NoSuchElementException")) else (none)

abbrev rmt_X7_laid : Room := { frames := 7, cells := 1, slots := 6, locals := 102 }
set_option maxHeartbeats 4000000 in
set_option maxRecDepth 100000 in
theorem tk_X7_laid (l : Launch) (hl0 : l.stackTraces = false) (G : va_G) (K : (Nat → Nat) × (Nat → Nat)) (c : Nat → ClassId) (ah : Nat → Nat) (ag : Nat → Nat → Nat) (ar : Nat → Nat) (ps : PS) (s7 : HS) (p0 : Int32) (p1 : Int32) (E : String) (hm : t_X7_laid s7 p0 p1 = some (E)) : zXi l yX7_laid wsX7_laid rmt_X7_laid G K (TY c) [.ref (ah 0), .int p0, .int p1] (wH c ah ag ar ps s7) (wH c ah ag ar ps s7) E := by
  refine zXi.of hl0 (cc := cX7_laid) (maxL := 4) (lv := [(0, .ref (ah 0)), (1, .int p0), (2, .int p1)]) ⟨Nat.le_of_ble_eq_true rfl, Nat.le_of_ble_eq_true rfl, rfl, rfl⟩ (by decide) rfl (Nat.le_of_ble_eq_true rfl) rfl ?_
  intro p e s m args below meth c1 A Q H locs hx hb hml hown hts hK hN hZ hXW hP hD hA hS hthr hprop ls hl
  have hown : s.vm.findClass RX7 = some m.cls := hown
  have hi_1 : ∀ w ∈ wsX10, w ∈ wsX7_laid := (fun w h => List.mem_cons_of_mem _ (List.mem_append_left _ (List.mem_append_left _ (List.mem_append_left _ (List.mem_append_right _ (h))))))
  have hi_7 : ∀ w ∈ wsX70, w ∈ wsX7_laid := (fun w h => List.mem_cons_of_mem _ (List.mem_append_left _ (List.mem_append_left _ (List.mem_append_left _ (List.mem_append_left _ (List.mem_append_right _ (h)))))))
  unfold t_X7_laid at hm
  refine lv_aload_n hx hb dX7_laid_0 rfl (lv_at hl 0 rfl) ?_
  refine lv_iload_n hx hb dX7_laid_1 rfl (lv_at hl 1 rfl) ?_
  rcases th_s hm with hE | hm
  · refine zcXVv (E := E) (As := [.int p0]) (rest := []) ⟨hx, hb, hml, hown, hts⟩ (tk_X7_checkTrain l hl0 G K c ah ag ar ps s7 p0 E hE) (cwV 1 hts gX7_laid_X7_checkTrain rfl rfl rfl hd_X7_checkTrain ⟨Nat.le_of_ble_eq_true rfl, Nat.le_of_ble_eq_true rfl⟩) hK hN hZ hXW hP hD hS hA (va_recv hK hP (ci := 7) (q0 := 0) rfl rfl) rfl hl.1 rfl (Nat.le_of_ble_eq_true rfl) dX7_laid_2 ⟨Nat.le_of_ble_eq_true rfl, Nat.le_of_ble_eq_true rfl⟩ (fun H locs q ce hP hD hS hq hce hcl => hprop H locs ls _ _ q ce _ rfl hP hD hS hq hce hcl)
  · obtain ⟨e_u2, e_2, hm⟩ := bd1_s hm
    refine zcWv (As := [.int p0]) (rest := []) ⟨hx, hb, hml, hown, hts⟩ (k_X7_checkTrain l G K c ah ag ar ps s7 p0 e_2) (cwV 1 hts gX7_laid_X7_checkTrain rfl rfl rfl hd_X7_checkTrain ⟨Nat.le_of_ble_eq_true rfl, Nat.le_of_ble_eq_true rfl⟩) hK hN hZ hP hD hS hA (va_recv hK hP (ci := 7) (q0 := 0) rfl rfl) rfl hl.1 rfl (Nat.le_of_ble_eq_true rfl) dX7_laid_2 ⟨Nat.zero_le _, Nat.zero_le _⟩ (fun H locs hP hD hS => ?_)
    have hP : va_P G vwCl (wH c ah ag ar ps s7) H := hP
    have hD : va_D A (wH c ah ag ar ps s7) := hD
    refine lv_aload_n hx hb dX7_laid_5 rfl (lv_at hl 0 rfl) ?_
    refine va_get (D := G) (ci := 7) (v := .ref (ag 0 0)) (C := RX7) (T := TX7) (N := 7) hx hb hts hi_7 hown hK hP 0 rfl rfl 0 (by decide) (hts (.fieldLink RX7 10 "HubTrains" "game" "LHubTrains$Game;") (List.mem_of_getElem? (i := 3) rfl)) (fun _ h9 => h9) rfl dX7_laid_6 ?_
    refine va_getN (D := G) (ci := 1) (v := .ref (ag 0 5)) (C := RX1) (T := TX1) (N := 16) hx hb hts hi_1 hown hK hP 2 rfl rfl 15 (by decide) (va_Nw.use rfl (nwf_HubTrains_108 hN.1)) (fun _ h9 => h9) rfl dX7_laid_9 ?_
    refine lv_iload_n hx hb dX7_laid_12 rfl (lv_at hl 1 rfl) ?_
    refine lv_iload_n hx hb dX7_laid_13 rfl (lv_at hl 2 rfl) ?_
    obtain ⟨r14, e_14, hm⟩ := bd1_s hm
    refine zcVi (As := [.int p0, .int p1]) (rest := []) ⟨hx, hb, hml, hown, hts⟩ (k_X6_tileAt l G K c (ag 0 5) (ag 0 6) (ag 0 7) (ag 0 8) (ag 0 9) s7.2.1.2.2.2 p0 p1 r14 e_14) (cwV 2 hts gX7_laid_X6_tileAt rfl rfl rfl hd_X6_tileAt ⟨Nat.le_of_ble_eq_true rfl, Nat.le_of_ble_eq_true rfl⟩) hK hN hZ hP hD hS hA (va_recv hK hP (ci := 6) (q0 := 7) rfl rfl) [7, 8, 9, 10, 11] rfl (by decide) rfl rfl hl.1 rfl (Nat.le_of_ble_eq_true rfl) dX7_laid_14 ⟨Nat.zero_le _, Nat.zero_le _⟩ (fun H locs hP hD hS => ?_)
    have hP : va_P G vwCl (wH c ah ag ar ps s7) H := (congrArg (fun w => va_P G vwCl w H) (zset_id _ _ _ rfl)).mp hP
    have hD : va_D A (wH c ah ag ar ps s7) := (congrArg (fun w => va_D A w) (zset_id _ _ _ rfl)).mp hD
    refine lv_istore_n (lv' := [(3, .int r14), (0, .ref (ah 0)), (1, .int p0), (2, .int p1)]) hx hb dX7_laid_17 rfl hl (by decide) rfl (fun ls hl => ?_)
    refine lv_iload_n hx hb dX7_laid_18 rfl (lv_at hl 0 rfl) ?_
    refine lv_iconst (v := (-1)) hx hb dX7_laid_19 (by decide) ?_
    refine lv_icmp_ne (tgt := 31) hx hb dX7_laid_20 (by decide) (fun c_20 => ?_) (fun c_20 => ?_)
    · have hm := ifn c_20 hm
      cases hm
    · have hm := ifp c_20 hm
      have hE := (Option.some.inj hm)
      subst hE
      exact hthr H locs ls _ 99 101 _ (List.mem_of_getElem? (i := 2) rfl) rfl hP hD hS hl.1 (hts (.classLink RX7 99 "java/util/NoSuchElementException") (List.mem_of_getElem? (i := 1) rfl)) (hts (.initialized "java/util/NoSuchElementException") (List.mem_of_getElem? (i := 2) rfl)) (fun w h => hts w ((fun w h => List.mem_cons_of_mem _ (List.mem_append_left _ (List.mem_append_right _ (h)))) w h)) (by decide +kernel) (by decide +kernel) dX7_laid_23 dX7_laid_26 dX7_laid_27 dX7_laid_30


def t_X7_why (s7 : HS) (p0 : Int32) (p1 : Int32) : Option String :=
  th (t_X7_checkTrain s7 p1) <| bd1 (f_X7_checkTrain s7 p1) fun (_ : Unit) => th (t_X7_checkTile s7 p0) <| bd1 (f_X7_checkTile s7 p0) fun (_ : Unit) => none

abbrev rmt_X7_why : Room := { frames := 7, cells := 1, slots := 6, locals := 102 }
set_option maxHeartbeats 4000000 in
set_option maxRecDepth 100000 in
theorem tk_X7_why (l : Launch) (hl0 : l.stackTraces = false) (G : va_G) (K : (Nat → Nat) × (Nat → Nat)) (c : Nat → ClassId) (ah : Nat → Nat) (ag : Nat → Nat → Nat) (ar : Nat → Nat) (ps : PS) (s7 : HS) (p0 : Int32) (p1 : Int32) (E : String) (hm : t_X7_why s7 p0 p1 = some (E)) : zXi l yX7_why wsX7_why rmt_X7_why G K (TY c) [.ref (ah 0), .int p0, .int p1] (wH c ah ag ar ps s7) (wH c ah ag ar ps s7) E := by
  refine zXi.of hl0 (cc := cX7_why) (maxL := 3) (lv := [(0, .ref (ah 0)), (1, .int p0), (2, .int p1)]) ⟨Nat.le_of_ble_eq_true rfl, Nat.le_of_ble_eq_true rfl, rfl, rfl⟩ (by decide) rfl (Nat.le_of_ble_eq_true rfl) rfl ?_
  intro p e s m args below meth c1 A Q H locs hx hb hml hown hts hK hN hZ hXW hP hD hA hS hthr hprop ls hl
  have hown : s.vm.findClass RX7 = some m.cls := hown
  unfold t_X7_why at hm
  refine lv_aload_n hx hb dX7_why_0 rfl (lv_at hl 0 rfl) ?_
  refine lv_iload_n hx hb dX7_why_1 rfl (lv_at hl 2 rfl) ?_
  rcases th_s hm with hE | hm
  · refine zcXVv (E := E) (As := [.int p1]) (rest := []) ⟨hx, hb, hml, hown, hts⟩ (tk_X7_checkTrain l hl0 G K c ah ag ar ps s7 p1 E hE) (cwV 1 hts gX7_why_X7_checkTrain rfl rfl rfl hd_X7_checkTrain ⟨Nat.le_of_ble_eq_true rfl, Nat.le_of_ble_eq_true rfl⟩) hK hN hZ hXW hP hD hS hA (va_recv hK hP (ci := 7) (q0 := 0) rfl rfl) rfl hl.1 rfl (Nat.le_of_ble_eq_true rfl) dX7_why_2 ⟨Nat.le_of_ble_eq_true rfl, Nat.le_of_ble_eq_true rfl⟩ (fun H locs q ce hP hD hS hq hce hcl => hprop H locs ls _ _ q ce _ rfl hP hD hS hq hce hcl)
  · obtain ⟨e_u2, e_2, hm⟩ := bd1_s hm
    refine zcWv (As := [.int p1]) (rest := []) ⟨hx, hb, hml, hown, hts⟩ (k_X7_checkTrain l G K c ah ag ar ps s7 p1 e_2) (cwV 1 hts gX7_why_X7_checkTrain rfl rfl rfl hd_X7_checkTrain ⟨Nat.le_of_ble_eq_true rfl, Nat.le_of_ble_eq_true rfl⟩) hK hN hZ hP hD hS hA (va_recv hK hP (ci := 7) (q0 := 0) rfl rfl) rfl hl.1 rfl (Nat.le_of_ble_eq_true rfl) dX7_why_2 ⟨Nat.zero_le _, Nat.zero_le _⟩ (fun H locs hP hD hS => ?_)
    have hP : va_P G vwCl (wH c ah ag ar ps s7) H := hP
    have hD : va_D A (wH c ah ag ar ps s7) := hD
    refine lv_aload_n hx hb dX7_why_5 rfl (lv_at hl 0 rfl) ?_
    refine lv_iload_n hx hb dX7_why_6 rfl (lv_at hl 1 rfl) ?_
    rcases th_s hm with hE | hm
    · refine zcXVv (E := E) (As := [.int p0]) (rest := []) ⟨hx, hb, hml, hown, hts⟩ (tk_X7_checkTile l hl0 G K c ah ag ar ps s7 p0 E hE) (cwV 1 hts gX7_why_X7_checkTile rfl rfl rfl hd_X7_checkTile ⟨Nat.le_of_ble_eq_true rfl, Nat.le_of_ble_eq_true rfl⟩) hK hN hZ hXW hP hD hS hA (va_recv hK hP (ci := 7) (q0 := 0) rfl rfl) rfl hl.1 rfl (Nat.le_of_ble_eq_true rfl) dX7_why_7 ⟨Nat.le_of_ble_eq_true rfl, Nat.le_of_ble_eq_true rfl⟩ (fun H locs q ce hP hD hS hq hce hcl => hprop H locs ls _ _ q ce _ rfl hP hD hS hq hce hcl)
    · obtain ⟨e_u7, e_7, hm⟩ := bd1_s hm
      refine zcWv (As := [.int p0]) (rest := []) ⟨hx, hb, hml, hown, hts⟩ (k_X7_checkTile l G K c ah ag ar ps s7 p0 e_7) (cwV 1 hts gX7_why_X7_checkTile rfl rfl rfl hd_X7_checkTile ⟨Nat.le_of_ble_eq_true rfl, Nat.le_of_ble_eq_true rfl⟩) hK hN hZ hP hD hS hA (va_recv hK hP (ci := 7) (q0 := 0) rfl rfl) rfl hl.1 rfl (Nat.le_of_ble_eq_true rfl) dX7_why_7 ⟨Nat.zero_le _, Nat.zero_le _⟩ (fun H locs hP hD hS => ?_)
      have hP : va_P G vwCl (wH c ah ag ar ps s7) H := hP
      have hD : va_D A (wH c ah ag ar ps s7) := hD
      cases hm


def t_X7_rank (s7 : HS) (ps : PS) (p0 : Int32) (p1 : Int32) : Option String :=
  th (t_X7_checkTrain s7 p1) <| bd1 (f_X7_checkTrain s7 p1) fun (_ : Unit) => th (t_X7_checkTile s7 p0) <| bd1 (f_X7_checkTile s7 p0) fun (_ : Unit) => bd1 (f_X1_canPlay s7.2.1 p0 p1) fun (r16 : Int32) => if r16 = 0 then (some ("java/util/NoSuchElementException")) else (none)

abbrev rmt_X7_rank : Room := { frames := 7, cells := 1, slots := 6, locals := 107 }
set_option maxHeartbeats 4000000 in
set_option maxRecDepth 100000 in
theorem tk_X7_rank (l : Launch) (hl0 : l.stackTraces = false) (G : va_G) (K : (Nat → Nat) × (Nat → Nat)) (c : Nat → ClassId) (ah : Nat → Nat) (ag : Nat → Nat → Nat) (ar : Nat → Nat) (s7 : HS) (ps : PS) (p0 : Int32) (p1 : Int32) (E : String) (hm : t_X7_rank s7 ps p0 p1 = some (E)) : zXi l yX7_rank wsX7_rank rmt_X7_rank G K (TY c) [.ref (ah 0), .int p0, .int p1] (wH c ah ag ar ps s7) (wH c ah ag ar ps s7) E := by
  refine zXi.of hl0 (cc := cX7_rank) (maxL := 3) (lv := [(0, .ref (ah 0)), (1, .int p0), (2, .int p1)]) ⟨Nat.le_of_ble_eq_true rfl, Nat.le_of_ble_eq_true rfl, rfl, rfl⟩ (by decide) rfl (Nat.le_of_ble_eq_true rfl) rfl ?_
  intro p e s m args below meth c1 A Q H locs hx hb hml hown hts hK hN hZ hXW hP hD hA hS hthr hprop ls hl
  have hown : s.vm.findClass RX7 = some m.cls := hown
  have hi_7 : ∀ w ∈ wsX70, w ∈ wsX7_rank := (fun w h => List.mem_cons_of_mem _ (List.mem_append_left _ (List.mem_append_left _ (List.mem_append_left _ (List.mem_append_left _ (List.mem_append_left _ (List.mem_append_left _ (List.mem_append_right _ (h)))))))))
  unfold t_X7_rank at hm
  refine lv_aload_n hx hb dX7_rank_0 rfl (lv_at hl 0 rfl) ?_
  refine lv_iload_n hx hb dX7_rank_1 rfl (lv_at hl 2 rfl) ?_
  rcases th_s hm with hE | hm
  · refine zcXVv (E := E) (As := [.int p1]) (rest := []) ⟨hx, hb, hml, hown, hts⟩ (tk_X7_checkTrain l hl0 G K c ah ag ar ps s7 p1 E hE) (cwV 1 hts gX7_rank_X7_checkTrain rfl rfl rfl hd_X7_checkTrain ⟨Nat.le_of_ble_eq_true rfl, Nat.le_of_ble_eq_true rfl⟩) hK hN hZ hXW hP hD hS hA (va_recv hK hP (ci := 7) (q0 := 0) rfl rfl) rfl hl.1 rfl (Nat.le_of_ble_eq_true rfl) dX7_rank_2 ⟨Nat.le_of_ble_eq_true rfl, Nat.le_of_ble_eq_true rfl⟩ (fun H locs q ce hP hD hS hq hce hcl => hprop H locs ls _ _ q ce _ rfl hP hD hS hq hce hcl)
  · obtain ⟨e_u2, e_2, hm⟩ := bd1_s hm
    refine zcWv (As := [.int p1]) (rest := []) ⟨hx, hb, hml, hown, hts⟩ (k_X7_checkTrain l G K c ah ag ar ps s7 p1 e_2) (cwV 1 hts gX7_rank_X7_checkTrain rfl rfl rfl hd_X7_checkTrain ⟨Nat.le_of_ble_eq_true rfl, Nat.le_of_ble_eq_true rfl⟩) hK hN hZ hP hD hS hA (va_recv hK hP (ci := 7) (q0 := 0) rfl rfl) rfl hl.1 rfl (Nat.le_of_ble_eq_true rfl) dX7_rank_2 ⟨Nat.zero_le _, Nat.zero_le _⟩ (fun H locs hP hD hS => ?_)
    have hP : va_P G vwCl (wH c ah ag ar ps s7) H := hP
    have hD : va_D A (wH c ah ag ar ps s7) := hD
    refine lv_aload_n hx hb dX7_rank_5 rfl (lv_at hl 0 rfl) ?_
    refine lv_iload_n hx hb dX7_rank_6 rfl (lv_at hl 1 rfl) ?_
    rcases th_s hm with hE | hm
    · refine zcXVv (E := E) (As := [.int p0]) (rest := []) ⟨hx, hb, hml, hown, hts⟩ (tk_X7_checkTile l hl0 G K c ah ag ar ps s7 p0 E hE) (cwV 1 hts gX7_rank_X7_checkTile rfl rfl rfl hd_X7_checkTile ⟨Nat.le_of_ble_eq_true rfl, Nat.le_of_ble_eq_true rfl⟩) hK hN hZ hXW hP hD hS hA (va_recv hK hP (ci := 7) (q0 := 0) rfl rfl) rfl hl.1 rfl (Nat.le_of_ble_eq_true rfl) dX7_rank_7 ⟨Nat.le_of_ble_eq_true rfl, Nat.le_of_ble_eq_true rfl⟩ (fun H locs q ce hP hD hS hq hce hcl => hprop H locs ls _ _ q ce _ rfl hP hD hS hq hce hcl)
    · obtain ⟨e_u7, e_7, hm⟩ := bd1_s hm
      refine zcWv (As := [.int p0]) (rest := []) ⟨hx, hb, hml, hown, hts⟩ (k_X7_checkTile l G K c ah ag ar ps s7 p0 e_7) (cwV 1 hts gX7_rank_X7_checkTile rfl rfl rfl hd_X7_checkTile ⟨Nat.le_of_ble_eq_true rfl, Nat.le_of_ble_eq_true rfl⟩) hK hN hZ hP hD hS hA (va_recv hK hP (ci := 7) (q0 := 0) rfl rfl) rfl hl.1 rfl (Nat.le_of_ble_eq_true rfl) dX7_rank_7 ⟨Nat.zero_le _, Nat.zero_le _⟩ (fun H locs hP hD hS => ?_)
      have hP : va_P G vwCl (wH c ah ag ar ps s7) H := hP
      have hD : va_D A (wH c ah ag ar ps s7) := hD
      refine lv_aload_n hx hb dX7_rank_10 rfl (lv_at hl 0 rfl) ?_
      refine va_get (D := G) (ci := 7) (v := .ref (ag 0 0)) (C := RX7) (T := TX7) (N := 7) hx hb hts hi_7 hown hK hP 0 rfl rfl 0 (by decide) (hts (.fieldLink RX7 10 "HubTrains" "game" "LHubTrains$Game;") (List.mem_of_getElem? (i := 3) rfl)) (fun _ h9 => h9) rfl dX7_rank_11 ?_
      refine lv_iload_n hx hb dX7_rank_14 rfl (lv_at hl 1 rfl) ?_
      refine lv_iload_n hx hb dX7_rank_15 rfl (lv_at hl 2 rfl) ?_
      obtain ⟨r16, e_16, hm⟩ := bd1_s hm
      refine zcVi (As := [.int p0, .int p1]) (rest := []) ⟨hx, hb, hml, hown, hts⟩ (k_X1_canPlay l G K c (ag 0) s7.2.1 p0 p1 r16 e_16) (cwV 2 hts gX7_rank_X1_canPlay rfl rfl rfl hd_X1_canPlay ⟨Nat.le_of_ble_eq_true rfl, Nat.le_of_ble_eq_true rfl⟩) hK hN hZ hP hD hS hA (va_recv hK hP (ci := 1) (q0 := 2) rfl rfl) [2, 3, 4, 5, 6, 7, 8, 9, 10, 11] rfl (by decide) rfl rfl hl.1 rfl (Nat.le_of_ble_eq_true rfl) dX7_rank_16 ⟨Nat.zero_le _, Nat.zero_le _⟩ (fun H locs hP hD hS => ?_)
      have hP : va_P G vwCl (wH c ah ag ar ps s7) H := (congrArg (fun w => va_P G vwCl w H) (zset_id _ _ _ rfl)).mp hP
      have hD : va_D A (wH c ah ag ar ps s7) := (congrArg (fun w => va_D A w) (zset_id _ _ _ rfl)).mp hD
      refine lv_if_ne (tgt := 30) hx hb dX7_rank_19 (by decide) (fun c_19 => ?_) (fun c_19 => ?_)
      · have hm := ifn c_19 hm
        cases hm
      · have hm := ifp c_19 hm
        have hE := (Option.some.inj hm)
        subst hE
        exact hthr H locs ls _ 99 101 _ (List.mem_of_getElem? (i := 2) rfl) rfl hP hD hS hl.1 (hts (.classLink RX7 99 "java/util/NoSuchElementException") (List.mem_of_getElem? (i := 1) rfl)) (hts (.initialized "java/util/NoSuchElementException") (List.mem_of_getElem? (i := 2) rfl)) (fun w h => hts w ((fun w h => List.mem_cons_of_mem _ (List.mem_append_left _ (List.mem_append_left _ (List.mem_append_right _ (h))))) w h)) (by decide +kernel) (by decide +kernel) dX7_rank_22 dX7_rank_25 dX7_rank_26 dX7_rank_29


def t_X7_longest (s7 : HS) (p0 : Int32) : Option String :=
  th (t_X7_checkPlayer s7 p0) <| bd1 (f_X7_checkPlayer s7 p0) fun (_ : Unit) => none

abbrev rmt_X7_longest : Room := { frames := 7, cells := 1, slots := 6, locals := 102 }
set_option maxHeartbeats 4000000 in
set_option maxRecDepth 100000 in
theorem tk_X7_longest (l : Launch) (hl0 : l.stackTraces = false) (G : va_G) (K : (Nat → Nat) × (Nat → Nat)) (c : Nat → ClassId) (ah : Nat → Nat) (ag : Nat → Nat → Nat) (ar : Nat → Nat) (ps : PS) (s7 : HS) (p0 : Int32) (E : String) (hm : t_X7_longest s7 p0 = some (E)) : zXi l yX7_longest wsX7_longest rmt_X7_longest G K (TY c) [.ref (ah 0), .int p0] (wH c ah ag ar ps s7) (wH c ah ag ar ps s7) E := by
  refine zXi.of hl0 (cc := cX7_longest) (maxL := 2) (lv := [(0, .ref (ah 0)), (1, .int p0)]) ⟨Nat.le_of_ble_eq_true rfl, Nat.le_of_ble_eq_true rfl, rfl, rfl⟩ (by decide) rfl (Nat.le_of_ble_eq_true rfl) rfl ?_
  intro p e s m args below meth c1 A Q H locs hx hb hml hown hts hK hN hZ hXW hP hD hA hS hthr hprop ls hl
  have hown : s.vm.findClass RX7 = some m.cls := hown
  unfold t_X7_longest at hm
  refine lv_aload_n hx hb dX7_longest_0 rfl (lv_at hl 0 rfl) ?_
  refine lv_iload_n hx hb dX7_longest_1 rfl (lv_at hl 1 rfl) ?_
  rcases th_s hm with hE | hm
  · refine zcXVv (E := E) (As := [.int p0]) (rest := []) ⟨hx, hb, hml, hown, hts⟩ (tk_X7_checkPlayer l hl0 G K c ah ag ar ps s7 p0 E hE) (cwV 1 hts gX7_longest_X7_checkPlayer rfl rfl rfl hd_X7_checkPlayer ⟨Nat.le_of_ble_eq_true rfl, Nat.le_of_ble_eq_true rfl⟩) hK hN hZ hXW hP hD hS hA (va_recv hK hP (ci := 7) (q0 := 0) rfl rfl) rfl hl.1 rfl (Nat.le_of_ble_eq_true rfl) dX7_longest_2 ⟨Nat.le_of_ble_eq_true rfl, Nat.le_of_ble_eq_true rfl⟩ (fun H locs q ce hP hD hS hq hce hcl => hprop H locs ls _ _ q ce _ rfl hP hD hS hq hce hcl)
  · obtain ⟨e_u2, e_2, hm⟩ := bd1_s hm
    refine zcWv (As := [.int p0]) (rest := []) ⟨hx, hb, hml, hown, hts⟩ (k_X7_checkPlayer l G K c ah ag ar ps s7 p0 e_2) (cwV 1 hts gX7_longest_X7_checkPlayer rfl rfl rfl hd_X7_checkPlayer ⟨Nat.le_of_ble_eq_true rfl, Nat.le_of_ble_eq_true rfl⟩) hK hN hZ hP hD hS hA (va_recv hK hP (ci := 7) (q0 := 0) rfl rfl) rfl hl.1 rfl (Nat.le_of_ble_eq_true rfl) dX7_longest_2 ⟨Nat.zero_le _, Nat.zero_le _⟩ (fun H locs hP hD hS => ?_)
    have hP : va_P G vwCl (wH c ah ag ar ps s7) H := hP
    have hD : va_D A (wH c ah ag ar ps s7) := hD
    cases hm

def t_X7_longestTile_J25 (s0_25 : Int32) (s7_25 : HS) : Option (String × HS) :=
  if s0_25 = (-1) then (some ("java/util/NoSuchElementException", s7_25)) else (none)

def t_X7_longestTile (s7 : HS) (p0 : Int32) (p1 : Int32) : Option (String × HS) :=
  th ((t_X7_checkPlayer s7 p0).map (fun E => (E, s7))) <| bd1 (f_X7_checkPlayer s7 p0) fun (_ : Unit) => bd2 (f_X7_exploreRows s7 p0) fun (r7 : Int32) (s77 : HS) => if r7 = 0 then (t_X7_longestTile_J25 (-1) s77) else (bd2 (f_X2_tileOfFirstLongest s77.2.2.2.2.2 p1) fun (r18 : Int32) (rs18 : SA) => t_X7_longestTile_J25 r18 (s77.1, s77.2.1, s77.2.2.1, s77.2.2.2.1, s77.2.2.2.2.1, rs18))

abbrev rmt_X7_longestTile : Room := { frames := 7, cells := 1, slots := 6, locals := 116 }
set_option maxHeartbeats 4000000 in
set_option maxRecDepth 100000 in
theorem tk_X7_longestTile (l : Launch) (hl0 : l.stackTraces = false) (G : va_G) (K : (Nat → Nat) × (Nat → Nat)) (c : Nat → ClassId) (ah : Nat → Nat) (ag : Nat → Nat → Nat) (ar : Nat → Nat) (ps : PS) (s7 : HS) (p0 : Int32) (p1 : Int32) (E : String) (s7_r : HS) (hm : t_X7_longestTile s7 p0 p1 = some (E, s7_r)) : zXi l yX7_longestTile wsX7_longestTile rmt_X7_longestTile G K (TY c) [.ref (ah 0), .int p0, .int p1] (wH c ah ag ar ps s7) (wH c ah ag ar ps s7_r) E := by
  refine zXi.of hl0 (cc := cX7_longestTile) (maxL := 4) (lv := [(0, .ref (ah 0)), (1, .int p0), (2, .int p1)]) ⟨Nat.le_of_ble_eq_true rfl, Nat.le_of_ble_eq_true rfl, rfl, rfl⟩ (by decide) rfl (Nat.le_of_ble_eq_true rfl) rfl ?_
  intro p e s m args below meth c1 A Q H locs hx hb hml hown hts hK hN hZ hXW hP hD hA hS hthr hprop ls hl
  have hown : s.vm.findClass RX7 = some m.cls := hown
  have hi_7 : ∀ w ∈ wsX70, w ∈ wsX7_longestTile := (fun w h => List.mem_cons_of_mem _ (List.mem_append_left _ (List.mem_append_left _ (List.mem_append_left _ (List.mem_append_left _ (List.mem_append_left _ (List.mem_append_right _ (h))))))))
  unfold t_X7_longestTile at hm
  refine lv_aload_n hx hb dX7_longestTile_0 rfl (lv_at hl 0 rfl) ?_
  refine lv_iload_n hx hb dX7_longestTile_1 rfl (lv_at hl 1 rfl) ?_
  rcases th_s hm with hE | hm
  · obtain ⟨E2, hE9, hE3⟩ := Option.map_eq_some_iff.mp hE
    have hW := (zc1 (fun (z0 : HS) => (wH c ah ag ar ps z0 : va_W)) (Prod.mk.inj hE3).2)
    have hE4 := (Prod.mk.inj hE3).1
    subst hE4
    refine zcXVv (E := E2) (As := [.int p0]) (rest := []) ⟨hx, hb, hml, hown, hts⟩ (tk_X7_checkPlayer l hl0 G K c ah ag ar ps s7 p0 E2 hE9) (cwV 1 hts gX7_longestTile_X7_checkPlayer rfl rfl rfl hd_X7_checkPlayer ⟨Nat.le_of_ble_eq_true rfl, Nat.le_of_ble_eq_true rfl⟩) hK hN hZ hXW hP hD hS hA (va_recv hK hP (ci := 7) (q0 := 0) rfl rfl) rfl hl.1 rfl (Nat.le_of_ble_eq_true rfl) dX7_longestTile_2 ⟨Nat.le_of_ble_eq_true rfl, Nat.le_of_ble_eq_true rfl⟩ (fun H locs q ce hP hD hS hq hce hcl => hprop H locs ls _ _ q ce _ hW hP hD hS hq hce hcl)
  · obtain ⟨e_u2, e_2, hm⟩ := bd1_s hm
    refine zcWv (As := [.int p0]) (rest := []) ⟨hx, hb, hml, hown, hts⟩ (k_X7_checkPlayer l G K c ah ag ar ps s7 p0 e_2) (cwV 1 hts gX7_longestTile_X7_checkPlayer rfl rfl rfl hd_X7_checkPlayer ⟨Nat.le_of_ble_eq_true rfl, Nat.le_of_ble_eq_true rfl⟩) hK hN hZ hP hD hS hA (va_recv hK hP (ci := 7) (q0 := 0) rfl rfl) rfl hl.1 rfl (Nat.le_of_ble_eq_true rfl) dX7_longestTile_2 ⟨Nat.zero_le _, Nat.zero_le _⟩ (fun H locs hP hD hS => ?_)
    have hP : va_P G vwCl (wH c ah ag ar ps s7) H := hP
    have hD : va_D A (wH c ah ag ar ps s7) := hD
    refine lv_aload_n hx hb dX7_longestTile_5 rfl (lv_at hl 0 rfl) ?_
    refine lv_iload_n hx hb dX7_longestTile_6 rfl (lv_at hl 1 rfl) ?_
    obtain ⟨r7, s77, e_7, hm⟩ := bd2_s hm
    refine zcWi (As := [.int p0]) (rest := []) ⟨hx, hb, hml, hown, hts⟩ (k_X7_exploreRows l G K c ah ag ar ps s7 p0 r7 s77 e_7) (cwV 1 hts gX7_longestTile_X7_exploreRows rfl rfl rfl hd_X7_exploreRows ⟨Nat.le_of_ble_eq_true rfl, Nat.le_of_ble_eq_true rfl⟩) hK hN hZ hP hD hS hA (va_recv hK hP (ci := 7) (q0 := 0) rfl rfl) rfl hl.1 rfl (Nat.le_of_ble_eq_true rfl) dX7_longestTile_7 ⟨Nat.zero_le _, Nat.zero_le _⟩ (fun H locs hP hD hS => ?_)
    have hP : va_P G vwCl (wH c ah ag ar ps s77) H := hP
    have hD : va_D A (wH c ah ag ar ps s77) := hD
    have J_25 : ∀ (s0_25 : Int32) (s7_25 : HS) (H : Heap) (locs : List Loc) (ls : Array Slot), va_P G vwCl (wH c ah ag ar ps s7_25) H → va_D A (wH c ah ag ar ps s7_25) → va_S A s.heap H locs → lv_has ls 4 [] → t_X7_longestTile_J25 s0_25 s7_25 = some (E, s7_r) → W p l e (rmt_X7_longestTile) s m args below meth c1 H locs 0 0 Q (F0 m 25 ls [.int s0_25]) := by
      intro s0_25 s7_25 H locs ls hP hD hS hl hm
      unfold t_X7_longestTile_J25 at hm
      refine lv_istore_n (lv' := [(3, .int s0_25)]) hx hb dX7_longestTile_25 rfl hl (by decide) rfl (fun ls hl => ?_)
      refine lv_iload_n hx hb dX7_longestTile_26 rfl (lv_at hl 0 rfl) ?_
      refine lv_iconst (v := (-1)) hx hb dX7_longestTile_27 (by decide) ?_
      refine lv_icmp_ne (tgt := 39) hx hb dX7_longestTile_28 (by decide) (fun c_28 => ?_) (fun c_28 => ?_)
      · have hm := ifn c_28 hm
        cases hm
      · have hm := ifp c_28 hm
        have hE := (Prod.mk.inj (Option.some.inj hm)).1
        have hW := (zc1 (fun (z0 : HS) => (wH c ah ag ar ps z0 : va_W)) (Prod.mk.inj (Option.some.inj hm)).2)
        subst hE
        exact hthr H locs ls _ 99 101 _ (List.mem_of_getElem? (i := 2) rfl) hW hP hD hS hl.1 (hts (.classLink RX7 99 "java/util/NoSuchElementException") (List.mem_of_getElem? (i := 1) rfl)) (hts (.initialized "java/util/NoSuchElementException") (List.mem_of_getElem? (i := 2) rfl)) (fun w h => hts w ((fun w h => List.mem_cons_of_mem _ (List.mem_append_left _ (List.mem_append_right _ (h)))) w h)) (by decide +kernel) (by decide +kernel) dX7_longestTile_31 dX7_longestTile_34 dX7_longestTile_35 dX7_longestTile_38
    refine lv_if_eq (tgt := 24) hx hb dX7_longestTile_10 (by decide) (fun c_10 => ?_) (fun c_10 => ?_)
    · have hm := ifp c_10 hm
      refine lv_iconst (v := (-1)) hx hb dX7_longestTile_24 (by decide) ?_
      exact J_25 (-1) s77 H locs ls hP hD hS (lv_sub hl [] rfl) hm
    · have hm := ifn c_10 hm
      refine lv_aload_n hx hb dX7_longestTile_13 rfl (lv_at hl 0 rfl) ?_
      refine va_get (D := G) (ci := 7) (v := .ref (ah 2)) (C := RX7) (T := TX7) (N := 7) hx hb hts hi_7 hown hK hP 0 rfl rfl 6 (by decide) (hts (.fieldLink RX7 33 "HubTrains" "rows" "LHubTrains$RowSearch;") (List.mem_of_getElem? (i := 3) rfl)) (fun _ h9 => h9) rfl dX7_longestTile_14 ?_
      refine lv_iload_n hx hb dX7_longestTile_17 rfl (lv_at hl 2 rfl) ?_
      obtain ⟨r18, rs18, e_18, hm⟩ := bd2_s hm
      refine zcVi (As := [.int p1]) (rest := []) ⟨hx, hb, hml, hown, hts⟩ (k_X2_tileOfFirstLongest l G K c (ah 2) (ah 3) (ah 4) (ah 5) (ah 6) s77.2.2.2.2.2 p1 r18 rs18 e_18) (cwV 1 hts gX7_longestTile_X2_tileOfFirstLongest rfl rfl rfl hd_X2_tileOfFirstLongest ⟨Nat.le_of_ble_eq_true rfl, Nat.le_of_ble_eq_true rfl⟩) hK hN hZ hP hD hS hA (va_recv hK hP (ci := 2) (q0 := 116) rfl rfl) [116, 117, 118, 119, 120] rfl (by decide) rfl rfl hl.1 rfl (Nat.le_of_ble_eq_true rfl) dX7_longestTile_18 ⟨Nat.zero_le _, Nat.zero_le _⟩ (fun H locs hP hD hS => ?_)
      have hP : va_P G vwCl (wH c ah ag ar ps (s77.1, s77.2.1, s77.2.2.1, s77.2.2.2.1, s77.2.2.2.2.1, rs18)) H := (congrArg (fun w => va_P G vwCl w H) (zsrw7 (c := c) (ah := ah) (ag := ag) (ar := ar) (ps := ps) (s := s77) (k := rs18))).mp hP
      have hD : va_D A (wH c ah ag ar ps (s77.1, s77.2.1, s77.2.2.1, s77.2.2.2.1, s77.2.2.2.2.1, rs18)) := (congrArg (fun w => va_D A w) (zsrw7 (c := c) (ah := ah) (ag := ag) (ar := ar) (ps := ps) (s := s77) (k := rs18))).mp hD
      refine lv_goto (tgt := 25) hx hb dX7_longestTile_21 (by decide) ?_
      exact J_25 r18 (s77.1, s77.2.1, s77.2.2.1, s77.2.2.2.1, s77.2.2.2.2.1, rs18) H locs ls hP hD hS (lv_sub hl [] rfl) hm


def t_X7_heaviest (s7 : HS) (p0 : Int32) : Option String :=
  th (t_X7_checkPlayer s7 p0) <| bd1 (f_X7_checkPlayer s7 p0) fun (_ : Unit) => none

abbrev rmt_X7_heaviest : Room := { frames := 7, cells := 1, slots := 6, locals := 102 }
set_option maxHeartbeats 4000000 in
set_option maxRecDepth 100000 in
theorem tk_X7_heaviest (l : Launch) (hl0 : l.stackTraces = false) (G : va_G) (K : (Nat → Nat) × (Nat → Nat)) (c : Nat → ClassId) (ah : Nat → Nat) (ag : Nat → Nat → Nat) (ar : Nat → Nat) (ps : PS) (s7 : HS) (p0 : Int32) (E : String) (hm : t_X7_heaviest s7 p0 = some (E)) : zXi l yX7_heaviest wsX7_heaviest rmt_X7_heaviest G K (TY c) [.ref (ah 0), .int p0] (wH c ah ag ar ps s7) (wH c ah ag ar ps s7) E := by
  refine zXi.of hl0 (cc := cX7_heaviest) (maxL := 2) (lv := [(0, .ref (ah 0)), (1, .int p0)]) ⟨Nat.le_of_ble_eq_true rfl, Nat.le_of_ble_eq_true rfl, rfl, rfl⟩ (by decide) rfl (Nat.le_of_ble_eq_true rfl) rfl ?_
  intro p e s m args below meth c1 A Q H locs hx hb hml hown hts hK hN hZ hXW hP hD hA hS hthr hprop ls hl
  have hown : s.vm.findClass RX7 = some m.cls := hown
  unfold t_X7_heaviest at hm
  refine lv_aload_n hx hb dX7_heaviest_0 rfl (lv_at hl 0 rfl) ?_
  refine lv_iload_n hx hb dX7_heaviest_1 rfl (lv_at hl 1 rfl) ?_
  rcases th_s hm with hE | hm
  · refine zcXVv (E := E) (As := [.int p0]) (rest := []) ⟨hx, hb, hml, hown, hts⟩ (tk_X7_checkPlayer l hl0 G K c ah ag ar ps s7 p0 E hE) (cwV 1 hts gX7_heaviest_X7_checkPlayer rfl rfl rfl hd_X7_checkPlayer ⟨Nat.le_of_ble_eq_true rfl, Nat.le_of_ble_eq_true rfl⟩) hK hN hZ hXW hP hD hS hA (va_recv hK hP (ci := 7) (q0 := 0) rfl rfl) rfl hl.1 rfl (Nat.le_of_ble_eq_true rfl) dX7_heaviest_2 ⟨Nat.le_of_ble_eq_true rfl, Nat.le_of_ble_eq_true rfl⟩ (fun H locs q ce hP hD hS hq hce hcl => hprop H locs ls _ _ q ce _ rfl hP hD hS hq hce hcl)
  · obtain ⟨e_u2, e_2, hm⟩ := bd1_s hm
    refine zcWv (As := [.int p0]) (rest := []) ⟨hx, hb, hml, hown, hts⟩ (k_X7_checkPlayer l G K c ah ag ar ps s7 p0 e_2) (cwV 1 hts gX7_heaviest_X7_checkPlayer rfl rfl rfl hd_X7_checkPlayer ⟨Nat.le_of_ble_eq_true rfl, Nat.le_of_ble_eq_true rfl⟩) hK hN hZ hP hD hS hA (va_recv hK hP (ci := 7) (q0 := 0) rfl rfl) rfl hl.1 rfl (Nat.le_of_ble_eq_true rfl) dX7_heaviest_2 ⟨Nat.zero_le _, Nat.zero_le _⟩ (fun H locs hP hD hS => ?_)
    have hP : va_P G vwCl (wH c ah ag ar ps s7) H := hP
    have hD : va_D A (wH c ah ag ar ps s7) := hD
    cases hm


def t_X7_play (s7 : HS) (p0 : Int32) (p1 : Int32) : Option String :=
  th (t_X7_checkTrain s7 p1) <| bd1 (f_X7_checkTrain s7 p1) fun (_ : Unit) => th (t_X7_checkTile s7 p0) <| bd1 (f_X7_checkTile s7 p0) fun (_ : Unit) => bd1 (f_X1_canPlay s7.2.1 p0 p1) fun (r16 : Int32) => th (t_X7_checkAllowed r16) <| bd1 (f_X7_checkAllowed r16) fun (_ : Unit) => none

abbrev rmt_X7_play : Room := { frames := 7, cells := 1, slots := 6, locals := 107 }
set_option maxHeartbeats 4000000 in
set_option maxRecDepth 100000 in
theorem tk_X7_play (l : Launch) (hl0 : l.stackTraces = false) (G : va_G) (K : (Nat → Nat) × (Nat → Nat)) (c : Nat → ClassId) (ah : Nat → Nat) (ag : Nat → Nat → Nat) (ar : Nat → Nat) (ps : PS) (s7 : HS) (p0 : Int32) (p1 : Int32) (E : String) (hm : t_X7_play s7 p0 p1 = some (E)) : zXi l yX7_play wsX7_play rmt_X7_play G K (TY c) [.ref (ah 0), .int p0, .int p1] (wH c ah ag ar ps s7) (wH c ah ag ar ps s7) E := by
  refine zXi.of hl0 (cc := cX7_play) (maxL := 3) (lv := [(0, .ref (ah 0)), (1, .int p0), (2, .int p1)]) ⟨Nat.le_of_ble_eq_true rfl, Nat.le_of_ble_eq_true rfl, rfl, rfl⟩ (by decide) rfl (Nat.le_of_ble_eq_true rfl) rfl ?_
  intro p e s m args below meth c1 A Q H locs hx hb hml hown hts hK hN hZ hXW hP hD hA hS hthr hprop ls hl
  have hown : s.vm.findClass RX7 = some m.cls := hown
  have hi_7 : ∀ w ∈ wsX70, w ∈ wsX7_play := (fun w h => List.mem_cons_of_mem _ (List.mem_append_left _ (List.mem_append_left _ (List.mem_append_left _ (List.mem_append_left _ (List.mem_append_left _ (List.mem_append_left _ (List.mem_append_right _ (h)))))))))
  unfold t_X7_play at hm
  refine lv_aload_n hx hb dX7_play_0 rfl (lv_at hl 0 rfl) ?_
  refine lv_iload_n hx hb dX7_play_1 rfl (lv_at hl 2 rfl) ?_
  rcases th_s hm with hE | hm
  · refine zcXVv (E := E) (As := [.int p1]) (rest := []) ⟨hx, hb, hml, hown, hts⟩ (tk_X7_checkTrain l hl0 G K c ah ag ar ps s7 p1 E hE) (cwV 1 hts gX7_play_X7_checkTrain rfl rfl rfl hd_X7_checkTrain ⟨Nat.le_of_ble_eq_true rfl, Nat.le_of_ble_eq_true rfl⟩) hK hN hZ hXW hP hD hS hA (va_recv hK hP (ci := 7) (q0 := 0) rfl rfl) rfl hl.1 rfl (Nat.le_of_ble_eq_true rfl) dX7_play_2 ⟨Nat.le_of_ble_eq_true rfl, Nat.le_of_ble_eq_true rfl⟩ (fun H locs q ce hP hD hS hq hce hcl => hprop H locs ls _ _ q ce _ rfl hP hD hS hq hce hcl)
  · obtain ⟨e_u2, e_2, hm⟩ := bd1_s hm
    refine zcWv (As := [.int p1]) (rest := []) ⟨hx, hb, hml, hown, hts⟩ (k_X7_checkTrain l G K c ah ag ar ps s7 p1 e_2) (cwV 1 hts gX7_play_X7_checkTrain rfl rfl rfl hd_X7_checkTrain ⟨Nat.le_of_ble_eq_true rfl, Nat.le_of_ble_eq_true rfl⟩) hK hN hZ hP hD hS hA (va_recv hK hP (ci := 7) (q0 := 0) rfl rfl) rfl hl.1 rfl (Nat.le_of_ble_eq_true rfl) dX7_play_2 ⟨Nat.zero_le _, Nat.zero_le _⟩ (fun H locs hP hD hS => ?_)
    have hP : va_P G vwCl (wH c ah ag ar ps s7) H := hP
    have hD : va_D A (wH c ah ag ar ps s7) := hD
    refine lv_aload_n hx hb dX7_play_5 rfl (lv_at hl 0 rfl) ?_
    refine lv_iload_n hx hb dX7_play_6 rfl (lv_at hl 1 rfl) ?_
    rcases th_s hm with hE | hm
    · refine zcXVv (E := E) (As := [.int p0]) (rest := []) ⟨hx, hb, hml, hown, hts⟩ (tk_X7_checkTile l hl0 G K c ah ag ar ps s7 p0 E hE) (cwV 1 hts gX7_play_X7_checkTile rfl rfl rfl hd_X7_checkTile ⟨Nat.le_of_ble_eq_true rfl, Nat.le_of_ble_eq_true rfl⟩) hK hN hZ hXW hP hD hS hA (va_recv hK hP (ci := 7) (q0 := 0) rfl rfl) rfl hl.1 rfl (Nat.le_of_ble_eq_true rfl) dX7_play_7 ⟨Nat.le_of_ble_eq_true rfl, Nat.le_of_ble_eq_true rfl⟩ (fun H locs q ce hP hD hS hq hce hcl => hprop H locs ls _ _ q ce _ rfl hP hD hS hq hce hcl)
    · obtain ⟨e_u7, e_7, hm⟩ := bd1_s hm
      refine zcWv (As := [.int p0]) (rest := []) ⟨hx, hb, hml, hown, hts⟩ (k_X7_checkTile l G K c ah ag ar ps s7 p0 e_7) (cwV 1 hts gX7_play_X7_checkTile rfl rfl rfl hd_X7_checkTile ⟨Nat.le_of_ble_eq_true rfl, Nat.le_of_ble_eq_true rfl⟩) hK hN hZ hP hD hS hA (va_recv hK hP (ci := 7) (q0 := 0) rfl rfl) rfl hl.1 rfl (Nat.le_of_ble_eq_true rfl) dX7_play_7 ⟨Nat.zero_le _, Nat.zero_le _⟩ (fun H locs hP hD hS => ?_)
      have hP : va_P G vwCl (wH c ah ag ar ps s7) H := hP
      have hD : va_D A (wH c ah ag ar ps s7) := hD
      refine lv_aload_n hx hb dX7_play_10 rfl (lv_at hl 0 rfl) ?_
      refine va_get (D := G) (ci := 7) (v := .ref (ag 0 0)) (C := RX7) (T := TX7) (N := 7) hx hb hts hi_7 hown hK hP 0 rfl rfl 0 (by decide) (hts (.fieldLink RX7 10 "HubTrains" "game" "LHubTrains$Game;") (List.mem_of_getElem? (i := 1) rfl)) (fun _ h9 => h9) rfl dX7_play_11 ?_
      refine lv_iload_n hx hb dX7_play_14 rfl (lv_at hl 1 rfl) ?_
      refine lv_iload_n hx hb dX7_play_15 rfl (lv_at hl 2 rfl) ?_
      obtain ⟨r16, e_16, hm⟩ := bd1_s hm
      refine zcVi (As := [.int p0, .int p1]) (rest := []) ⟨hx, hb, hml, hown, hts⟩ (k_X1_canPlay l G K c (ag 0) s7.2.1 p0 p1 r16 e_16) (cwV 2 hts gX7_play_X1_canPlay rfl rfl rfl hd_X1_canPlay ⟨Nat.le_of_ble_eq_true rfl, Nat.le_of_ble_eq_true rfl⟩) hK hN hZ hP hD hS hA (va_recv hK hP (ci := 1) (q0 := 2) rfl rfl) [2, 3, 4, 5, 6, 7, 8, 9, 10, 11] rfl (by decide) rfl rfl hl.1 rfl (Nat.le_of_ble_eq_true rfl) dX7_play_16 ⟨Nat.zero_le _, Nat.zero_le _⟩ (fun H locs hP hD hS => ?_)
      have hP : va_P G vwCl (wH c ah ag ar ps s7) H := (congrArg (fun w => va_P G vwCl w H) (zset_id _ _ _ rfl)).mp hP
      have hD : va_D A (wH c ah ag ar ps s7) := (congrArg (fun w => va_D A w) (zset_id _ _ _ rfl)).mp hD
      rcases th_s hm with hE | hm
      · refine zcXSv (E := E) (As := [.int r16]) (rest := []) ⟨hx, hb, hml, hown, hts⟩ (tk_X7_checkAllowed l hl0 G K c r16 E hE) (va_cwS 1 hts gX7_play_X7_checkAllowed rfl rfl rfl hd_X7_checkAllowed.2 ⟨Nat.le_of_ble_eq_true rfl, Nat.le_of_ble_eq_true rfl⟩) hK hN hZ hXW hP hD hS hA rfl hl.1 rfl (Nat.le_of_ble_eq_true rfl) dX7_play_19 ⟨Nat.le_of_ble_eq_true rfl, Nat.le_of_ble_eq_true rfl⟩ (fun H locs q ce hP hD hS hq hce hcl => hprop H locs ls _ _ q ce _ rfl hP hD hS hq hce hcl)
      · obtain ⟨e_u19, e_19, hm⟩ := bd1_s hm
        refine zcSv (As := [.int r16]) (rest := []) ⟨hx, hb, hml, hown, hts⟩ (k_X7_checkAllowed l G K c r16 e_19) (va_cwS 1 hts gX7_play_X7_checkAllowed rfl rfl rfl hd_X7_checkAllowed.2 ⟨Nat.le_of_ble_eq_true rfl, Nat.le_of_ble_eq_true rfl⟩) hK hN hZ hP hD hS hA [] rfl (by decide) rfl rfl hl.1 rfl (Nat.le_of_ble_eq_true rfl) dX7_play_19 ⟨Nat.zero_le _, Nat.zero_le _⟩ (fun H locs hP hD hS => ?_)
        have hP : va_P G vwCl (wH c ah ag ar ps s7) H := (congrArg (fun w => va_P G vwCl w H) (zset_id _ _ _ rfl)).mp hP
        have hD : va_D A (wH c ah ag ar ps s7) := (congrArg (fun w => va_D A w) (zset_id _ _ _ rfl)).mp hD
        cases hm


def t_X7_draw (s7 : HS) : Option String :=
  bd1 (f_X1_mayDraw s7.2.1) fun (r4 : Int32) => th (t_X7_checkAllowed r4) <| bd1 (f_X7_checkAllowed r4) fun (_ : Unit) => none

abbrev rmt_X7_draw : Room := { frames := 7, cells := 1, slots := 6, locals := 150 }
set_option maxHeartbeats 4000000 in
set_option maxRecDepth 100000 in
theorem tk_X7_draw (l : Launch) (hl0 : l.stackTraces = false) (G : va_G) (K : (Nat → Nat) × (Nat → Nat)) (c : Nat → ClassId) (ah : Nat → Nat) (ag : Nat → Nat → Nat) (ar : Nat → Nat) (ps : PS) (s7 : HS) (E : String) (hm : t_X7_draw s7 = some (E)) : zXi l yX7_draw wsX7_draw rmt_X7_draw G K (TY c) [.ref (ah 0)] (wH c ah ag ar ps s7) (wH c ah ag ar ps s7) E := by
  refine zXi.of hl0 (cc := cX7_draw) (maxL := 1) (lv := [(0, .ref (ah 0))]) ⟨Nat.le_of_ble_eq_true rfl, Nat.le_of_ble_eq_true rfl, rfl, rfl⟩ (by decide) rfl (Nat.le_of_ble_eq_true rfl) rfl ?_
  intro p e s m args below meth c1 A Q H locs hx hb hml hown hts hK hN hZ hXW hP hD hA hS hthr hprop ls hl
  have hown : s.vm.findClass RX7 = some m.cls := hown
  have hi_7 : ∀ w ∈ wsX70, w ∈ wsX7_draw := (fun w h => List.mem_cons_of_mem _ (List.mem_append_left _ (List.mem_append_left _ (List.mem_append_left _ (List.mem_append_left _ (List.mem_append_right _ (h)))))))
  unfold t_X7_draw at hm
  refine lv_aload_n hx hb dX7_draw_0 rfl (lv_at hl 0 rfl) ?_
  refine va_get (D := G) (ci := 7) (v := .ref (ag 0 0)) (C := RX7) (T := TX7) (N := 7) hx hb hts hi_7 hown hK hP 0 rfl rfl 0 (by decide) (hts (.fieldLink RX7 10 "HubTrains" "game" "LHubTrains$Game;") (List.mem_of_getElem? (i := 1) rfl)) (fun _ h9 => h9) rfl dX7_draw_1 ?_
  obtain ⟨r4, e_4, hm⟩ := bd1_s hm
  refine zcVi (As := []) (rest := []) ⟨hx, hb, hml, hown, hts⟩ (k_X1_mayDraw l G K c (ag 0) s7.2.1 r4 e_4) (cwV 0 hts gX7_draw_X1_mayDraw rfl rfl rfl hd_X1_mayDraw ⟨Nat.le_of_ble_eq_true rfl, Nat.le_of_ble_eq_true rfl⟩) hK hN hZ hP hD hS hA (va_recv hK hP (ci := 1) (q0 := 2) rfl rfl) [2, 3, 4, 5, 6, 7, 8, 9, 10, 11] rfl (by decide) rfl rfl hl.1 rfl (Nat.le_of_ble_eq_true rfl) dX7_draw_4 ⟨Nat.zero_le _, Nat.zero_le _⟩ (fun H locs hP hD hS => ?_)
  have hP : va_P G vwCl (wH c ah ag ar ps s7) H := (congrArg (fun w => va_P G vwCl w H) (zset_id _ _ _ rfl)).mp hP
  have hD : va_D A (wH c ah ag ar ps s7) := (congrArg (fun w => va_D A w) (zset_id _ _ _ rfl)).mp hD
  rcases th_s hm with hE | hm
  · refine zcXSv (E := E) (As := [.int r4]) (rest := []) ⟨hx, hb, hml, hown, hts⟩ (tk_X7_checkAllowed l hl0 G K c r4 E hE) (va_cwS 1 hts gX7_draw_X7_checkAllowed rfl rfl rfl hd_X7_checkAllowed.2 ⟨Nat.le_of_ble_eq_true rfl, Nat.le_of_ble_eq_true rfl⟩) hK hN hZ hXW hP hD hS hA rfl hl.1 rfl (Nat.le_of_ble_eq_true rfl) dX7_draw_7 ⟨Nat.le_of_ble_eq_true rfl, Nat.le_of_ble_eq_true rfl⟩ (fun H locs q ce hP hD hS hq hce hcl => hprop H locs ls _ _ q ce _ rfl hP hD hS hq hce hcl)
  · obtain ⟨e_u7, e_7, hm⟩ := bd1_s hm
    refine zcSv (As := [.int r4]) (rest := []) ⟨hx, hb, hml, hown, hts⟩ (k_X7_checkAllowed l G K c r4 e_7) (va_cwS 1 hts gX7_draw_X7_checkAllowed rfl rfl rfl hd_X7_checkAllowed.2 ⟨Nat.le_of_ble_eq_true rfl, Nat.le_of_ble_eq_true rfl⟩) hK hN hZ hP hD hS hA [] rfl (by decide) rfl rfl hl.1 rfl (Nat.le_of_ble_eq_true rfl) dX7_draw_7 ⟨Nat.zero_le _, Nat.zero_le _⟩ (fun H locs hP hD hS => ?_)
    have hP : va_P G vwCl (wH c ah ag ar ps s7) H := (congrArg (fun w => va_P G vwCl w H) (zset_id _ _ _ rfl)).mp hP
    have hD : va_D A (wH c ah ag ar ps s7) := (congrArg (fun w => va_D A w) (zset_id _ _ _ rfl)).mp hD
    cases hm


def t_X7_pass (s7 : HS) : Option String :=
  bd1 (f_X1_mayPass s7.2.1) fun (r4 : Int32) => th (t_X7_checkAllowed r4) <| bd1 (f_X7_checkAllowed r4) fun (_ : Unit) => none

abbrev rmt_X7_pass : Room := { frames := 7, cells := 1, slots := 6, locals := 150 }
set_option maxHeartbeats 4000000 in
set_option maxRecDepth 100000 in
theorem tk_X7_pass (l : Launch) (hl0 : l.stackTraces = false) (G : va_G) (K : (Nat → Nat) × (Nat → Nat)) (c : Nat → ClassId) (ah : Nat → Nat) (ag : Nat → Nat → Nat) (ar : Nat → Nat) (ps : PS) (s7 : HS) (E : String) (hm : t_X7_pass s7 = some (E)) : zXi l yX7_pass wsX7_pass rmt_X7_pass G K (TY c) [.ref (ah 0)] (wH c ah ag ar ps s7) (wH c ah ag ar ps s7) E := by
  refine zXi.of hl0 (cc := cX7_pass) (maxL := 1) (lv := [(0, .ref (ah 0))]) ⟨Nat.le_of_ble_eq_true rfl, Nat.le_of_ble_eq_true rfl, rfl, rfl⟩ (by decide) rfl (Nat.le_of_ble_eq_true rfl) rfl ?_
  intro p e s m args below meth c1 A Q H locs hx hb hml hown hts hK hN hZ hXW hP hD hA hS hthr hprop ls hl
  have hown : s.vm.findClass RX7 = some m.cls := hown
  have hi_7 : ∀ w ∈ wsX70, w ∈ wsX7_pass := (fun w h => List.mem_cons_of_mem _ (List.mem_append_left _ (List.mem_append_left _ (List.mem_append_left _ (List.mem_append_left _ (List.mem_append_right _ (h)))))))
  unfold t_X7_pass at hm
  refine lv_aload_n hx hb dX7_pass_0 rfl (lv_at hl 0 rfl) ?_
  refine va_get (D := G) (ci := 7) (v := .ref (ag 0 0)) (C := RX7) (T := TX7) (N := 7) hx hb hts hi_7 hown hK hP 0 rfl rfl 0 (by decide) (hts (.fieldLink RX7 10 "HubTrains" "game" "LHubTrains$Game;") (List.mem_of_getElem? (i := 1) rfl)) (fun _ h9 => h9) rfl dX7_pass_1 ?_
  obtain ⟨r4, e_4, hm⟩ := bd1_s hm
  refine zcVi (As := []) (rest := []) ⟨hx, hb, hml, hown, hts⟩ (k_X1_mayPass l G K c (ag 0) s7.2.1 r4 e_4) (cwV 0 hts gX7_pass_X1_mayPass rfl rfl rfl hd_X1_mayPass ⟨Nat.le_of_ble_eq_true rfl, Nat.le_of_ble_eq_true rfl⟩) hK hN hZ hP hD hS hA (va_recv hK hP (ci := 1) (q0 := 2) rfl rfl) [2, 3, 4, 5, 6, 7, 8, 9, 10, 11] rfl (by decide) rfl rfl hl.1 rfl (Nat.le_of_ble_eq_true rfl) dX7_pass_4 ⟨Nat.zero_le _, Nat.zero_le _⟩ (fun H locs hP hD hS => ?_)
  have hP : va_P G vwCl (wH c ah ag ar ps s7) H := (congrArg (fun w => va_P G vwCl w H) (zset_id _ _ _ rfl)).mp hP
  have hD : va_D A (wH c ah ag ar ps s7) := (congrArg (fun w => va_D A w) (zset_id _ _ _ rfl)).mp hD
  rcases th_s hm with hE | hm
  · refine zcXSv (E := E) (As := [.int r4]) (rest := []) ⟨hx, hb, hml, hown, hts⟩ (tk_X7_checkAllowed l hl0 G K c r4 E hE) (va_cwS 1 hts gX7_pass_X7_checkAllowed rfl rfl rfl hd_X7_checkAllowed.2 ⟨Nat.le_of_ble_eq_true rfl, Nat.le_of_ble_eq_true rfl⟩) hK hN hZ hXW hP hD hS hA rfl hl.1 rfl (Nat.le_of_ble_eq_true rfl) dX7_pass_7 ⟨Nat.le_of_ble_eq_true rfl, Nat.le_of_ble_eq_true rfl⟩ (fun H locs q ce hP hD hS hq hce hcl => hprop H locs ls _ _ q ce _ rfl hP hD hS hq hce hcl)
  · obtain ⟨e_u7, e_7, hm⟩ := bd1_s hm
    refine zcSv (As := [.int r4]) (rest := []) ⟨hx, hb, hml, hown, hts⟩ (k_X7_checkAllowed l G K c r4 e_7) (va_cwS 1 hts gX7_pass_X7_checkAllowed rfl rfl rfl hd_X7_checkAllowed.2 ⟨Nat.le_of_ble_eq_true rfl, Nat.le_of_ble_eq_true rfl⟩) hK hN hZ hP hD hS hA [] rfl (by decide) rfl rfl hl.1 rfl (Nat.le_of_ble_eq_true rfl) dX7_pass_7 ⟨Nat.zero_le _, Nat.zero_le _⟩ (fun H locs hP hD hS => ?_)
    have hP : va_P G vwCl (wH c ah ag ar ps s7) H := (congrArg (fun w => va_P G vwCl w H) (zset_id _ _ _ rfl)).mp hP
    have hD : va_D A (wH c ah ag ar ps s7) := (congrArg (fun w => va_D A w) (zset_id _ _ _ rfl)).mp hD
    cases hm


def t_X7_auto (s7 : HS) (ps : PS) (p0 : Int32) : Option String :=
  if p0 < 1 then (some ("java/lang/IllegalArgumentException")) else (if p0 ≤ 200 then (none) else (some ("java/lang/IllegalArgumentException")))

abbrev rmt_X7_auto : Room := { frames := 6, cells := 1, slots := 6, locals := 81 }
set_option maxHeartbeats 4000000 in
set_option maxRecDepth 100000 in
theorem tk_X7_auto (l : Launch) (hl0 : l.stackTraces = false) (G : va_G) (K : (Nat → Nat) × (Nat → Nat)) (c : Nat → ClassId) (ah : Nat → Nat) (ag : Nat → Nat → Nat) (ar : Nat → Nat) (s7 : HS) (ps : PS) (p0 : Int32) (E : String) (hm : t_X7_auto s7 ps p0 = some (E)) : zXi l yX7_auto wsX7_auto rmt_X7_auto G K (TY c) [.ref (ah 0), .int p0] (wH c ah ag ar ps s7) (wH c ah ag ar ps s7) E := by
  refine zXi.of hl0 (cc := cX7_auto) (maxL := 2) (lv := [(0, .ref (ah 0)), (1, .int p0)]) ⟨Nat.le_of_ble_eq_true rfl, Nat.le_of_ble_eq_true rfl, rfl, rfl⟩ (by decide) rfl (Nat.le_of_ble_eq_true rfl) rfl ?_
  intro p e s m args below meth c1 A Q H locs hx hb hml hown hts hK hN hZ hXW hP hD hA hS hthr hprop ls hl
  have hown : s.vm.findClass RX7 = some m.cls := hown
  unfold t_X7_auto at hm
  refine lv_iload_n hx hb dX7_auto_0 rfl (lv_at hl 1 rfl) ?_
  refine lv_iconst (v := 1) hx hb dX7_auto_1 (by decide) ?_
  refine lv_icmp_lt (tgt := 12) hx hb dX7_auto_2 (by decide) (fun c_2 => ?_) (fun c_2 => ?_)
  · have hm := ifp c_2 hm
    have hE := (Option.some.inj hm)
    subst hE
    exact hthr H locs ls _ 54 56 _ (List.mem_of_getElem? (i := 0) rfl) rfl hP hD hS hl.1 (hts (.classLink RX7 54 "java/lang/IllegalArgumentException") (List.mem_of_getElem? (i := 1) rfl)) (hts (.initialized "java/lang/IllegalArgumentException") (List.mem_of_getElem? (i := 2) rfl)) (fun w h => hts w ((fun w h => List.mem_cons_of_mem _ (List.mem_append_right _ (h))) w h)) (by decide +kernel) (by decide +kernel) dX7_auto_12 dX7_auto_15 dX7_auto_16 dX7_auto_19
  · have hm := ifn c_2 hm
    refine lv_iload_n hx hb dX7_auto_5 rfl (lv_at hl 1 rfl) ?_
    refine lv_sipush (v := 200) hx hb dX7_auto_6 (by decide) ?_
    refine lv_icmp_le (tgt := 20) hx hb dX7_auto_9 (by decide) (fun c_9 => ?_) (fun c_9 => ?_)
    · have hm := ifp c_9 hm
      cases hm
    · have hm := ifn c_9 hm
      have hE := (Option.some.inj hm)
      subst hE
      exact hthr H locs ls _ 54 56 _ (List.mem_of_getElem? (i := 0) rfl) rfl hP hD hS hl.1 (hts (.classLink RX7 54 "java/lang/IllegalArgumentException") (List.mem_of_getElem? (i := 1) rfl)) (hts (.initialized "java/lang/IllegalArgumentException") (List.mem_of_getElem? (i := 2) rfl)) (fun w h => hts w ((fun w h => List.mem_cons_of_mem _ (List.mem_append_right _ (h))) w h)) (by decide +kernel) (by decide +kernel) dX7_auto_12 dX7_auto_15 dX7_auto_16 dX7_auto_19


def t_X7_deal (s7 : HS) (p0 : Int32) (p1 : Int32) : Option String :=
  if p0 < 0 then (some ("java/lang/IllegalArgumentException")) else (if (s7.2.1.1.1 0) < p0 then (some ("java/lang/IllegalArgumentException")) else (if p1 < 0 then (some ("java/lang/IllegalArgumentException")) else (if p1 ≤ 9999 then (th (t_X7_checkAllowed (s7.2.1.1.1 8)) <| bd1 (f_X7_checkAllowed (s7.2.1.1.1 8)) fun (_ : Unit) => none) else (some ("java/lang/IllegalArgumentException")))))

abbrev rmt_X7_deal : Room := { frames := 7, cells := 1, slots := 6, locals := 101 }
set_option maxHeartbeats 4000000 in
set_option maxRecDepth 100000 in
theorem tk_X7_deal (l : Launch) (hl0 : l.stackTraces = false) (G : va_G) (K : (Nat → Nat) × (Nat → Nat)) (c : Nat → ClassId) (ah : Nat → Nat) (ag : Nat → Nat → Nat) (ar : Nat → Nat) (ps : PS) (s7 : HS) (p0 : Int32) (p1 : Int32) (E : String) (hm : t_X7_deal s7 p0 p1 = some (E)) : zXi l yX7_deal wsX7_deal rmt_X7_deal G K (TY c) [.ref (ah 0), .int p0, .int p1] (wH c ah ag ar ps s7) (wH c ah ag ar ps s7) E := by
  refine zXi.of hl0 (cc := cX7_deal) (maxL := 3) (lv := [(0, .ref (ah 0)), (1, .int p0), (2, .int p1)]) ⟨Nat.le_of_ble_eq_true rfl, Nat.le_of_ble_eq_true rfl, rfl, rfl⟩ (by decide) rfl (Nat.le_of_ble_eq_true rfl) rfl ?_
  intro p e s m args below meth c1 A Q H locs hx hb hml hown hts hK hN hZ hXW hP hD hA hS hthr hprop ls hl
  have hown : s.vm.findClass RX7 = some m.cls := hown
  have hi_1 : ∀ w ∈ wsX10, w ∈ wsX7_deal := (fun w h => List.mem_cons_of_mem _ (List.mem_append_left _ (List.mem_append_left _ (List.mem_append_left _ (List.mem_append_left _ (List.mem_append_right _ (h)))))))
  have hi_7 : ∀ w ∈ wsX70, w ∈ wsX7_deal := (fun w h => List.mem_cons_of_mem _ (List.mem_append_left _ (List.mem_append_left _ (List.mem_append_left _ (List.mem_append_left _ (List.mem_append_left _ (List.mem_append_right _ (h))))))))
  unfold t_X7_deal at hm
  refine lv_iload_n hx hb dX7_deal_0 rfl (lv_at hl 1 rfl) ?_
  refine lv_if_lt (tgt := 26) hx hb dX7_deal_1 (by decide) (fun c_1 => ?_) (fun c_1 => ?_)
  · have hm := ifp c_1 hm
    have hE := (Option.some.inj hm)
    subst hE
    exact hthr H locs ls _ 54 56 _ (List.mem_of_getElem? (i := 0) rfl) rfl hP hD hS hl.1 (hts (.classLink RX7 54 "java/lang/IllegalArgumentException") (List.mem_of_getElem? (i := 1) rfl)) (hts (.initialized "java/lang/IllegalArgumentException") (List.mem_of_getElem? (i := 2) rfl)) (fun w h => hts w ((fun w h => List.mem_cons_of_mem _ (List.mem_append_left _ (List.mem_append_right _ (h)))) w h)) (by decide +kernel) (by decide +kernel) dX7_deal_26 dX7_deal_29 dX7_deal_30 dX7_deal_33
  · have hm := ifn c_1 hm
    refine lv_iload_n hx hb dX7_deal_4 rfl (lv_at hl 1 rfl) ?_
    refine lv_aload_n hx hb dX7_deal_5 rfl (lv_at hl 0 rfl) ?_
    refine va_get (D := G) (ci := 7) (v := .ref (ag 0 0)) (C := RX7) (T := TX7) (N := 7) hx hb hts hi_7 hown hK hP 0 rfl rfl 0 (by decide) (hts (.fieldLink RX7 10 "HubTrains" "game" "LHubTrains$Game;") (List.mem_of_getElem? (i := 3) rfl)) (fun _ h9 => h9) rfl dX7_deal_6 ?_
    refine va_getN (D := G) (ci := 1) (v := .int (s7.2.1.1.1 0)) (C := RX1) (T := TX1) (N := 16) hx hb hts hi_1 hown hK hP 2 rfl rfl 0 (by decide) (va_Nw.use rfl (nwf_HubTrains_188 hN.1)) (fun _ h9 => h9) rfl dX7_deal_9 ?_
    refine lv_icmp_gt (tgt := 26) hx hb dX7_deal_12 (by decide) (fun c_12 => ?_) (fun c_12 => ?_)
    · have hm := ifp c_12 hm
      have hE := (Option.some.inj hm)
      subst hE
      exact hthr H locs ls _ 54 56 _ (List.mem_of_getElem? (i := 0) rfl) rfl hP hD hS hl.1 (hts (.classLink RX7 54 "java/lang/IllegalArgumentException") (List.mem_of_getElem? (i := 1) rfl)) (hts (.initialized "java/lang/IllegalArgumentException") (List.mem_of_getElem? (i := 2) rfl)) (fun w h => hts w ((fun w h => List.mem_cons_of_mem _ (List.mem_append_left _ (List.mem_append_right _ (h)))) w h)) (by decide +kernel) (by decide +kernel) dX7_deal_26 dX7_deal_29 dX7_deal_30 dX7_deal_33
    · have hm := ifn c_12 hm
      refine lv_iload_n hx hb dX7_deal_15 rfl (lv_at hl 2 rfl) ?_
      refine lv_if_lt (tgt := 26) hx hb dX7_deal_16 (by decide) (fun c_16 => ?_) (fun c_16 => ?_)
      · have hm := ifp c_16 hm
        have hE := (Option.some.inj hm)
        subst hE
        exact hthr H locs ls _ 54 56 _ (List.mem_of_getElem? (i := 0) rfl) rfl hP hD hS hl.1 (hts (.classLink RX7 54 "java/lang/IllegalArgumentException") (List.mem_of_getElem? (i := 1) rfl)) (hts (.initialized "java/lang/IllegalArgumentException") (List.mem_of_getElem? (i := 2) rfl)) (fun w h => hts w ((fun w h => List.mem_cons_of_mem _ (List.mem_append_left _ (List.mem_append_right _ (h)))) w h)) (by decide +kernel) (by decide +kernel) dX7_deal_26 dX7_deal_29 dX7_deal_30 dX7_deal_33
      · have hm := ifn c_16 hm
        refine lv_iload_n hx hb dX7_deal_19 rfl (lv_at hl 2 rfl) ?_
        refine lv_sipush (v := 9999) hx hb dX7_deal_20 (by decide) ?_
        refine lv_icmp_le (tgt := 34) hx hb dX7_deal_23 (by decide) (fun c_23 => ?_) (fun c_23 => ?_)
        · have hm := ifp c_23 hm
          refine lv_aload_n hx hb dX7_deal_34 rfl (lv_at hl 0 rfl) ?_
          refine va_get (D := G) (ci := 7) (v := .ref (ag 0 0)) (C := RX7) (T := TX7) (N := 7) hx hb hts hi_7 hown hK hP 0 rfl rfl 0 (by decide) (hts (.fieldLink RX7 10 "HubTrains" "game" "LHubTrains$Game;") (List.mem_of_getElem? (i := 3) rfl)) (fun _ h9 => h9) rfl dX7_deal_35 ?_
          refine va_getN (D := G) (ci := 1) (v := .int (s7.2.1.1.1 8)) (C := RX1) (T := TX1) (N := 16) hx hb hts hi_1 hown hK hP 2 rfl rfl 8 (by decide) (va_Nw.use rfl (nwf_HubTrains_191 hN.1)) (fun _ h9 => h9) rfl dX7_deal_38 ?_
          rcases th_s hm with hE | hm
          · refine zcXSv (E := E) (As := [.int (s7.2.1.1.1 8)]) (rest := []) ⟨hx, hb, hml, hown, hts⟩ (tk_X7_checkAllowed l hl0 G K c (s7.2.1.1.1 8) E hE) (va_cwS 1 hts gX7_deal_X7_checkAllowed rfl rfl rfl hd_X7_checkAllowed.2 ⟨Nat.le_of_ble_eq_true rfl, Nat.le_of_ble_eq_true rfl⟩) hK hN hZ hXW hP hD hS hA rfl hl.1 rfl (Nat.le_of_ble_eq_true rfl) dX7_deal_41 ⟨Nat.le_of_ble_eq_true rfl, Nat.le_of_ble_eq_true rfl⟩ (fun H locs q ce hP hD hS hq hce hcl => hprop H locs ls _ _ q ce _ rfl hP hD hS hq hce hcl)
          · obtain ⟨e_u41, e_41, hm⟩ := bd1_s hm
            refine zcSv (As := [.int (s7.2.1.1.1 8)]) (rest := []) ⟨hx, hb, hml, hown, hts⟩ (k_X7_checkAllowed l G K c (s7.2.1.1.1 8) e_41) (va_cwS 1 hts gX7_deal_X7_checkAllowed rfl rfl rfl hd_X7_checkAllowed.2 ⟨Nat.le_of_ble_eq_true rfl, Nat.le_of_ble_eq_true rfl⟩) hK hN hZ hP hD hS hA [] rfl (by decide) rfl rfl hl.1 rfl (Nat.le_of_ble_eq_true rfl) dX7_deal_41 ⟨Nat.zero_le _, Nat.zero_le _⟩ (fun H locs hP hD hS => ?_)
            have hP : va_P G vwCl (wH c ah ag ar ps s7) H := (congrArg (fun w => va_P G vwCl w H) (zset_id _ _ _ rfl)).mp hP
            have hD : va_D A (wH c ah ag ar ps s7) := (congrArg (fun w => va_D A w) (zset_id _ _ _ rfl)).mp hD
            cases hm
        · have hm := ifn c_23 hm
          have hE := (Option.some.inj hm)
          subst hE
          exact hthr H locs ls _ 54 56 _ (List.mem_of_getElem? (i := 0) rfl) rfl hP hD hS hl.1 (hts (.classLink RX7 54 "java/lang/IllegalArgumentException") (List.mem_of_getElem? (i := 1) rfl)) (hts (.initialized "java/lang/IllegalArgumentException") (List.mem_of_getElem? (i := 2) rfl)) (fun w h => hts w ((fun w h => List.mem_cons_of_mem _ (List.mem_append_left _ (List.mem_append_right _ (h)))) w h)) (by decide +kernel) (by decide +kernel) dX7_deal_26 dX7_deal_29 dX7_deal_30 dX7_deal_33
