def f_X3_read_J114 (v2_65 : Int32) (rd_65 : RS) : Option (Int32 × RS) :=
  if v2_65 = 0 then (some ((rd_65.1.1 6), (rd_65.1, (ss rd_65.2.1 0 0), rd_65.2.2))) else (if (rd_65.1.1 3) = 0 then (some ((rd_65.1.1 6), (rd_65.1, (ss rd_65.2.1 0 0), rd_65.2.2))) else (none))

def f_X3_read_B65  (rec_65 : Int32 → Int32 → RS → Option (Int32 × RS)) (v2_65 : Int32) (v3_65 : Int32) (rd_65 : RS) : Option (Int32 × RS) :=
  if v2_65 = 0 then (f_X3_read_J114 v2_65 rd_65) else (if (rd_65.2.1.1 2) = 0 then (f_X3_read_J114 v2_65 rd_65) else (if (500 : Int32) ≤ v3_65 then (f_X3_read_J114 v2_65 rd_65) else (bd2 (f_X3_readStatement rd_65) fun (r87 : Int32) (rd87 : RS) => if r87 = 0 then (rec_65 0 (v3_65 + 1) rd87) else (bd2 (f_X3_takeSign rd87 59) fun (r96 : Int32) (rd96 : RS) => if r96 = 0 then (rec_65 0 (v3_65 + 1) rd96) else (rec_65 1 (v3_65 + 1) rd96)))))

def f_X3_read (rd : RS) (p0 : Int32) : Option (Int32 × RS) :=
  bd1 (f_X1_clearHands rd.2.2) fun (g4 : GS) => bd1 (f_X5_begin rd.2.1 p0) fun (tk55 : SA) => bd2 (f_X3_readHead ((ss (ss (ss (ss (ss (ss (ss rd.1 1 0) 2 0) 3 0) 5 0) 4 0) 6 0) 7 (-1)), tk55, (g4.1, none, g4.2.2.1, g4.2.2.2))) fun (r59 : Int32) (rd59 : RS) => itr3 f_X3_read_B65 FUEL r59 0 rd59

abbrev rm_X3_read : Room := { frames := 106, cells := 0, slots := 0, locals := 4156 }
theorem hd_X3_read : yX3_read.cls = RX3 ∧ yX3_read.cls ≠ "java/lang/invoke/MethodHandle" ∧ yX3_read.cls ≠ "java/lang/invoke/VarHandle" ∧ (parseMethodDescriptor yX3_read.desc).map (fun d => d.parameters.length) = some 1 := by decide +kernel
set_option maxHeartbeats 4000000 in
set_option maxRecDepth 100000 in
theorem k_X3_read (l : Launch) (G : va_G) (K : (Nat → Nat) × (Nat → Nat)) (c : Nat → ClassId) (ard : Nat → Nat) (rd : RS) (p0 : Int32) (r : Int32) (rd_r : RS) (hm : f_X3_read rd p0 = some (r, rd_r)) : zMi l yX3_read wsX3_read (rm_X3_read) G K (TY c) [.ref (ard 0), .int p0] (wR c ard rd) (wR c ard rd_r) r := by
  refine zMi.of (cc := cX3_read) (maxL := 4) (lv := [(0, .ref (ard 0)), (1, .int p0)]) (by decide) rfl (Nat.le_of_ble_eq_true rfl) rfl ?_
  intro p e s m args below meth c1 A Q H locs hx hb hml hown hts hK hN hZ hP hD hA hS hend ls hl
  have hown : s.vm.findClass RX3 = some m.cls := hown
  have hi_1 : ∀ w ∈ wsX10, w ∈ wsX3_read := (fun w h => List.mem_cons_of_mem _ (List.mem_append_left _ (List.mem_append_left _ (List.mem_append_left _ (List.mem_append_right _ (h))))))
  have hi_3 : ∀ w ∈ wsX30, w ∈ wsX3_read := (fun w h => List.mem_cons_of_mem _ (List.mem_append_left _ (List.mem_append_left _ (List.mem_append_left _ (List.mem_append_left _ (List.mem_append_right _ (h)))))))
  have hi_5 : ∀ w ∈ wsX50, w ∈ wsX3_read := (fun w h => List.mem_cons_of_mem _ (List.mem_append_left _ (List.mem_append_left _ (List.mem_append_right _ (h)))))
  unfold f_X3_read at hm
  refine lv_aload_n hx hb dX3_read_0 rfl (lv_at hl 0 rfl) ?_
  refine va_get (D := G) (ci := 3) (v := .ref (ard 4)) (C := RX3) (T := TX3) (N := 11) hx hb hts hi_3 hown hK hP 0 rfl rfl 1 (by decide) (hts (.fieldLink RX3 21 "HubTrains$SetupReader" "game" "LHubTrains$Game;") (List.mem_of_getElem? (i := 1) rfl)) (fun _ h9 => h9) rfl dX3_read_1 ?_
  obtain ⟨g4, e_4, hm⟩ := bd1_s hm
  refine zcVv (As := []) (rest := []) ⟨hx, hb, hml, hown, hts⟩ (k_X1_clearHands l G K c (fun i => ard (i + 4)) rd.2.2 g4 e_4) (cwV 0 hts gX3_read_X1_clearHands rfl rfl rfl hd_X1_clearHands ⟨Nat.le_of_ble_eq_true rfl, Nat.le_of_ble_eq_true rfl⟩) hK hN hZ hP hD hS hA (va_recv hK hP (ci := 1) (q0 := 4) rfl rfl) [4, 5, 6, 7, 8, 9, 10, 11, 12, 13] rfl (by decide) rfl rfl hl.1 rfl (Nat.le_of_ble_eq_true rfl) dX3_read_4 ⟨Nat.zero_le _, Nat.zero_le _⟩ (fun H locs hP hD hS => ?_)
  have hP : va_P G vwCl (wR c ard (rd.1, rd.2.1, g4)) H := hP
  have hD : va_D A (wR c ard (rd.1, rd.2.1, g4)) := hD
  refine lv_aload_n hx hb dX3_read_7 rfl (lv_at hl 0 rfl) ?_
  refine va_get (D := G) (ci := 3) (v := .ref (ard 4)) (C := RX3) (T := TX3) (N := 11) hx hb hts hi_3 hown hK hP 0 rfl rfl 1 (by decide) (hts (.fieldLink RX3 21 "HubTrains$SetupReader" "game" "LHubTrains$Game;") (List.mem_of_getElem? (i := 1) rfl)) (fun _ h9 => h9) rfl dX3_read_8 ?_
  refine lv_null hx hb dX3_read_11 ?_
  refine va_putN (D := G) (ci := 1) (v := .null) (C := RX1) (T := TX1) (N := 16) hx hb hts hi_1 tyX1 tyX1_ok nmX1 hown hK hP hD hS 4 rfl rfl 11 (by decide) (va_Nw.use rfl (nwf_HubTrains_SetupReader_36 hN.1)) (fun _ h9 => h9) rfl (tyX1_ok 11 (by decide)) rfl rfl (Nat.le_of_ble_eq_true rfl) dX3_read_12 (fun H locs hP hD hS => ?_)
  have hP : va_P G vwCl (wR c ard (rd.1, rd.2.1, (g4.1, none, g4.2.2.1, g4.2.2.2))) H := hP
  have hD : va_D A (wR c ard (rd.1, rd.2.1, (g4.1, none, g4.2.2.1, g4.2.2.2))) := hD
  refine lv_aload_n hx hb dX3_read_15 rfl (lv_at hl 0 rfl) ?_
  refine lv_iconst (v := 0) hx hb dX3_read_16 (by decide) ?_
  refine va_put (D := G) (ci := 3) (v := .int 0) (C := RX3) (T := TX3) (N := 11) hx hb hts hi_3 tyX3 tyX3_ok nmX3 hown hK hP hD hS 0 rfl rfl 3 (by decide) (hts (.fieldLink RX3 40 "HubTrains$SetupReader" "hubTold" "Z") (List.mem_of_getElem? (i := 2) rfl)) (fun _ h9 => h9) rfl (tyX3_ok 3 (by decide)) (by decide) (by decide) (Nat.le_of_ble_eq_true rfl) dX3_read_17 (fun H locs hP hD hS => ?_)
  have hP : va_P G vwCl (wR c ard ((ss rd.1 1 0), rd.2.1, (g4.1, none, g4.2.2.1, g4.2.2.2))) H := hP
  have hD : va_D A (wR c ard ((ss rd.1 1 0), rd.2.1, (g4.1, none, g4.2.2.1, g4.2.2.2))) := hD
  refine lv_aload_n hx hb dX3_read_20 rfl (lv_at hl 0 rfl) ?_
  refine lv_iconst (v := 0) hx hb dX3_read_21 (by decide) ?_
  refine va_put (D := G) (ci := 3) (v := .int 0) (C := RX3) (T := TX3) (N := 11) hx hb hts hi_3 tyX3 tyX3_ok nmX3 hown hK hP hD hS 0 rfl rfl 4 (by decide) (hts (.fieldLink RX3 44 "HubTrains$SetupReader" "seedTold" "Z") (List.mem_of_getElem? (i := 3) rfl)) (fun _ h9 => h9) rfl (tyX3_ok 4 (by decide)) (by decide) (by decide) (Nat.le_of_ble_eq_true rfl) dX3_read_22 (fun H locs hP hD hS => ?_)
  have hP : va_P G vwCl (wR c ard ((ss (ss rd.1 1 0) 2 0), rd.2.1, (g4.1, none, g4.2.2.1, g4.2.2.2))) H := hP
  have hD : va_D A (wR c ard ((ss (ss rd.1 1 0) 2 0), rd.2.1, (g4.1, none, g4.2.2.1, g4.2.2.2))) := hD
  refine lv_aload_n hx hb dX3_read_25 rfl (lv_at hl 0 rfl) ?_
  refine lv_iconst (v := 0) hx hb dX3_read_26 (by decide) ?_
  refine va_put (D := G) (ci := 3) (v := .int 0) (C := RX3) (T := TX3) (N := 11) hx hb hts hi_3 tyX3 tyX3_ok nmX3 hown hK hP hD hS 0 rfl rfl 5 (by decide) (hts (.fieldLink RX3 47 "HubTrains$SetupReader" "rankTold" "Z") (List.mem_of_getElem? (i := 4) rfl)) (fun _ h9 => h9) rfl (tyX3_ok 5 (by decide)) (by decide) (by decide) (Nat.le_of_ble_eq_true rfl) dX3_read_27 (fun H locs hP hD hS => ?_)
  have hP : va_P G vwCl (wR c ard ((ss (ss (ss rd.1 1 0) 2 0) 3 0), rd.2.1, (g4.1, none, g4.2.2.1, g4.2.2.2))) H := hP
  have hD : va_D A (wR c ard ((ss (ss (ss rd.1 1 0) 2 0) 3 0), rd.2.1, (g4.1, none, g4.2.2.1, g4.2.2.2))) := hD
  refine lv_aload_n hx hb dX3_read_30 rfl (lv_at hl 0 rfl) ?_
  refine lv_iconst (v := 0) hx hb dX3_read_31 (by decide) ?_
  refine va_put (D := G) (ci := 3) (v := .int 0) (C := RX3) (T := TX3) (N := 11) hx hb hts hi_3 tyX3 tyX3_ok nmX3 hown hK hP hD hS 0 rfl rfl 8 (by decide) (hts (.fieldLink RX3 50 "HubTrains$SetupReader" "stepCount" "I") (List.mem_of_getElem? (i := 5) rfl)) (fun _ h9 => h9) rfl (tyX3_ok 8 (by decide)) rfl rfl (Nat.le_of_ble_eq_true rfl) dX3_read_32 (fun H locs hP hD hS => ?_)
  have hP : va_P G vwCl (wR c ard ((ss (ss (ss (ss rd.1 1 0) 2 0) 3 0) 5 0), rd.2.1, (g4.1, none, g4.2.2.1, g4.2.2.2))) H := hP
  have hD : va_D A (wR c ard ((ss (ss (ss (ss rd.1 1 0) 2 0) 3 0) 5 0), rd.2.1, (g4.1, none, g4.2.2.1, g4.2.2.2))) := hD
  refine lv_aload_n hx hb dX3_read_35 rfl (lv_at hl 0 rfl) ?_
  refine lv_iconst (v := 0) hx hb dX3_read_36 (by decide) ?_
  refine va_put (D := G) (ci := 3) (v := .int 0) (C := RX3) (T := TX3) (N := 11) hx hb hts hi_3 tyX3 tyX3_ok nmX3 hown hK hP hD hS 0 rfl rfl 6 (by decide) (hts (.fieldLink RX3 53 "HubTrains$SetupReader" "tilesGiven" "Z") (List.mem_of_getElem? (i := 6) rfl)) (fun _ h9 => h9) rfl (tyX3_ok 6 (by decide)) (by decide) (by decide) (Nat.le_of_ble_eq_true rfl) dX3_read_37 (fun H locs hP hD hS => ?_)
  have hP : va_P G vwCl (wR c ard ((ss (ss (ss (ss (ss rd.1 1 0) 2 0) 3 0) 5 0) 4 0), rd.2.1, (g4.1, none, g4.2.2.1, g4.2.2.2))) H := hP
  have hD : va_D A (wR c ard ((ss (ss (ss (ss (ss rd.1 1 0) 2 0) 3 0) 5 0) 4 0), rd.2.1, (g4.1, none, g4.2.2.1, g4.2.2.2))) := hD
  refine lv_aload_n hx hb dX3_read_40 rfl (lv_at hl 0 rfl) ?_
  refine lv_iconst (v := 0) hx hb dX3_read_41 (by decide) ?_
  refine va_put (D := G) (ci := 3) (v := .int 0) (C := RX3) (T := TX3) (N := 11) hx hb hts hi_3 tyX3 tyX3_ok nmX3 hown hK hP hD hS 0 rfl rfl 9 (by decide) (hts (.fieldLink RX3 56 "HubTrains$SetupReader" "error" "I") (List.mem_of_getElem? (i := 7) rfl)) (fun _ h9 => h9) rfl (tyX3_ok 9 (by decide)) rfl rfl (Nat.le_of_ble_eq_true rfl) dX3_read_42 (fun H locs hP hD hS => ?_)
  have hP : va_P G vwCl (wR c ard ((ss (ss (ss (ss (ss (ss rd.1 1 0) 2 0) 3 0) 5 0) 4 0) 6 0), rd.2.1, (g4.1, none, g4.2.2.1, g4.2.2.2))) H := hP
  have hD : va_D A (wR c ard ((ss (ss (ss (ss (ss (ss rd.1 1 0) 2 0) 3 0) 5 0) 4 0) 6 0), rd.2.1, (g4.1, none, g4.2.2.1, g4.2.2.2))) := hD
  refine lv_aload_n hx hb dX3_read_45 rfl (lv_at hl 0 rfl) ?_
  refine lv_iconst (v := (-1)) hx hb dX3_read_46 (by decide) ?_
  refine va_put (D := G) (ci := 3) (v := .int (-1)) (C := RX3) (T := TX3) (N := 11) hx hb hts hi_3 tyX3 tyX3_ok nmX3 hown hK hP hD hS 0 rfl rfl 10 (by decide) (hts (.fieldLink RX3 29 "HubTrains$SetupReader" "errorOffset" "I") (List.mem_of_getElem? (i := 8) rfl)) (fun _ h9 => h9) rfl (tyX3_ok 10 (by decide)) rfl rfl (Nat.le_of_ble_eq_true rfl) dX3_read_47 (fun H locs hP hD hS => ?_)
  have hP : va_P G vwCl (wR c ard ((ss (ss (ss (ss (ss (ss (ss rd.1 1 0) 2 0) 3 0) 5 0) 4 0) 6 0) 7 (-1)), rd.2.1, (g4.1, none, g4.2.2.1, g4.2.2.2))) H := hP
  have hD : va_D A (wR c ard ((ss (ss (ss (ss (ss (ss (ss rd.1 1 0) 2 0) 3 0) 5 0) 4 0) 6 0) 7 (-1)), rd.2.1, (g4.1, none, g4.2.2.1, g4.2.2.2))) := hD
  refine lv_aload_n hx hb dX3_read_50 rfl (lv_at hl 0 rfl) ?_
  refine va_get (D := G) (ci := 3) (v := .ref (ard 2)) (C := RX3) (T := TX3) (N := 11) hx hb hts hi_3 hown hK hP 0 rfl rfl 0 (by decide) (hts (.fieldLink RX3 12 "HubTrains$SetupReader" "tokens" "LHubTrains$Tokens;") (List.mem_of_getElem? (i := 9) rfl)) (fun _ h9 => h9) rfl dX3_read_51 ?_
  refine lv_iload_n hx hb dX3_read_54 rfl (lv_at hl 1 rfl) ?_
  obtain ⟨tk55, e_55, hm⟩ := bd1_s hm
  refine zcVv (As := [.int p0]) (rest := []) ⟨hx, hb, hml, hown, hts⟩ (k_X5_begin l G K c (ard 2) (ard 3) rd.2.1 p0 tk55 e_55) (cwV 1 hts gX3_read_X5_begin rfl rfl rfl hd_X5_begin ⟨Nat.le_of_ble_eq_true rfl, Nat.le_of_ble_eq_true rfl⟩) hK hN hZ hP hD hS hA (va_recv hK hP (ci := 5) (q0 := 2) rfl rfl) [2, 3] rfl (by decide) rfl rfl hl.1 rfl (Nat.le_of_ble_eq_true rfl) dX3_read_55 ⟨Nat.zero_le _, Nat.zero_le _⟩ (fun H locs hP hD hS => ?_)
  have hP : va_P G vwCl (wR c ard ((ss (ss (ss (ss (ss (ss (ss rd.1 1 0) 2 0) 3 0) 5 0) 4 0) 6 0) 7 (-1)), tk55, (g4.1, none, g4.2.2.1, g4.2.2.2))) H := hP
  have hD : va_D A (wR c ard ((ss (ss (ss (ss (ss (ss (ss rd.1 1 0) 2 0) 3 0) 5 0) 4 0) 6 0) 7 (-1)), tk55, (g4.1, none, g4.2.2.1, g4.2.2.2))) := hD
  refine lv_aload_n hx hb dX3_read_58 rfl (lv_at hl 0 rfl) ?_
  obtain ⟨r59, rd59, e_59, hm⟩ := bd2_s hm
  refine zcWi (As := []) (rest := []) ⟨hx, hb, hml, hown, hts⟩ (k_X3_readHead l G K c ard ((ss (ss (ss (ss (ss (ss (ss rd.1 1 0) 2 0) 3 0) 5 0) 4 0) 6 0) 7 (-1)), tk55, (g4.1, none, g4.2.2.1, g4.2.2.2)) r59 rd59 e_59) (cwV 0 hts gX3_read_X3_readHead rfl rfl rfl hd_X3_readHead ⟨Nat.le_of_ble_eq_true rfl, Nat.le_of_ble_eq_true rfl⟩) hK hN hZ hP hD hS hA (va_recv hK hP (ci := 3) (q0 := 0) rfl rfl) rfl hl.1 rfl (Nat.le_of_ble_eq_true rfl) dX3_read_59 ⟨Nat.zero_le _, Nat.zero_le _⟩ (fun H locs hP hD hS => ?_)
  have hP : va_P G vwCl (wR c ard rd59) H := hP
  have hD : va_D A (wR c ard rd59) := hD
  refine lv_istore_n (lv' := [(2, .int r59), (0, .ref (ard 0)), (1, .int p0)]) hx hb dX3_read_62 rfl hl (by decide) rfl (fun ls hl => ?_)
  refine lv_iconst (v := 0) hx hb dX3_read_63 (by decide) ?_
  refine lv_istore_n (lv' := [(3, .int 0), (2, .int r59), (0, .ref (ard 0)), (1, .int p0)]) hx hb dX3_read_64 rfl hl (by decide) rfl (fun ls hl => ?_)
  have L_65 : ∀ (n_65 : Nat) (v2_65 : Int32) (v3_65 : Int32) (rd_65 : RS) (H : Heap) (locs : List Loc) (ls : Array Slot), va_P G vwCl (wR c ard rd_65) H → va_D A (wR c ard rd_65) → va_S A s.heap H locs → lv_has ls 4 [(0, .ref (ard 0)), (2, .int v2_65), (3, .int v3_65)] → itr3 f_X3_read_B65 n_65 v2_65 v3_65 rd_65 = some (r, rd_r) → W p l e (rm_X3_read) s m args below meth c1 H locs 0 0 Q (F0 m 65 ls []) := by
    intro n_65
    induction n_65 with
    | zero => intro v2_65 v3_65 rd_65 H locs ls hP hD hS hl hm; exact (itr3_0 hm).elim
    | succ n_65 ih_65 =>
      intro v2_65 v3_65 rd_65 H locs ls hP hD hS hl hm
      have hm := itr3_s hm
      unfold f_X3_read_B65 at hm
      refine lv_iload_n hx hb dX3_read_65 rfl (lv_at hl 1 rfl) ?_
      have J_114 : ∀ (H : Heap) (locs : List Loc) (ls : Array Slot), va_P G vwCl (wR c ard rd_65) H → va_D A (wR c ard rd_65) → va_S A s.heap H locs → lv_has ls 4 [(0, .ref (ard 0)), (2, .int v2_65)] → f_X3_read_J114 v2_65 rd_65 = some (r, rd_r) → W p l e (rm_X3_read) s m args below meth c1 H locs 0 0 Q (F0 m 114 ls []) := by
        intro  H locs ls hP hD hS hl hm
        unfold f_X3_read_J114 at hm
        refine lv_iload_n hx hb dX3_read_114 rfl (lv_at hl 1 rfl) ?_
        refine lv_if_eq (tgt := 147) hx hb dX3_read_115 (by decide) (fun c_115 => ?_) (fun c_115 => ?_)
        · have hm := ifp c_115 hm
          refine lv_aload_n hx hb dX3_read_147 rfl (lv_at hl 0 rfl) ?_
          refine va_get (D := G) (ci := 3) (v := .ref (ard 2)) (C := RX3) (T := TX3) (N := 11) hx hb hts hi_3 hown hK hP 0 rfl rfl 0 (by decide) (hts (.fieldLink RX3 12 "HubTrains$SetupReader" "tokens" "LHubTrains$Tokens;") (List.mem_of_getElem? (i := 9) rfl)) (fun _ h9 => h9) rfl dX3_read_148 ?_
          refine lv_iconst (v := 0) hx hb dX3_read_151 (by decide) ?_
          refine va_putN (D := G) (ci := 5) (v := .int 0) (C := RX5) (T := TX5) (N := 7) hx hb hts hi_5 tyX5 tyX5_ok nmX5 hown hK hP hD hS 2 rfl rfl 1 (by decide) (va_Nw.use rfl (nwf_HubTrains_SetupReader_82 hN.1)) (fun _ h9 => h9) rfl (tyX5_ok 1 (by decide)) rfl rfl (Nat.le_of_ble_eq_true rfl) dX3_read_152 (fun H locs hP hD hS => ?_)
          have hP : va_P G vwCl (wR c ard (rd_65.1, (ss rd_65.2.1 0 0), rd_65.2.2)) H := hP
          have hD : va_D A (wR c ard (rd_65.1, (ss rd_65.2.1 0 0), rd_65.2.2)) := hD
          refine lv_aload_n hx hb dX3_read_155 rfl (lv_at hl 0 rfl) ?_
          refine va_get (D := G) (ci := 3) (v := .int (rd_65.1.1 6)) (C := RX3) (T := TX3) (N := 11) hx hb hts hi_3 hown hK hP 0 rfl rfl 9 (by decide) (hts (.fieldLink RX3 56 "HubTrains$SetupReader" "error" "I") (List.mem_of_getElem? (i := 7) rfl)) (fun _ h9 => h9) rfl dX3_read_156 ?_
          exact hend H locs ls _ _ _ rfl (Prod.mk.inj (Option.some.inj hm)).1 (zc1 (fun (z0 : RS) => (wR c ard z0 : va_W)) (Prod.mk.inj (Option.some.inj hm)).2) hP hD hS dX3_read_159
        · have hm := ifn c_115 hm
          refine lv_aload_n hx hb dX3_read_118 rfl (lv_at hl 0 rfl) ?_
          refine va_get (D := G) (ci := 3) (v := .int (rd_65.1.1 3)) (C := RX3) (T := TX3) (N := 11) hx hb hts hi_3 hown hK hP 0 rfl rfl 5 (by decide) (hts (.fieldLink RX3 47 "HubTrains$SetupReader" "rankTold" "Z") (List.mem_of_getElem? (i := 4) rfl)) (fun _ h9 => h9) rfl dX3_read_119 ?_
          refine lv_if_eq (tgt := 147) hx hb dX3_read_122 (by decide) (fun c_122 => ?_) (fun c_122 => ?_)
          · have hm := ifp c_122 hm
            refine lv_aload_n hx hb dX3_read_147 rfl (lv_at hl 0 rfl) ?_
            refine va_get (D := G) (ci := 3) (v := .ref (ard 2)) (C := RX3) (T := TX3) (N := 11) hx hb hts hi_3 hown hK hP 0 rfl rfl 0 (by decide) (hts (.fieldLink RX3 12 "HubTrains$SetupReader" "tokens" "LHubTrains$Tokens;") (List.mem_of_getElem? (i := 9) rfl)) (fun _ h9 => h9) rfl dX3_read_148 ?_
            refine lv_iconst (v := 0) hx hb dX3_read_151 (by decide) ?_
            refine va_putN (D := G) (ci := 5) (v := .int 0) (C := RX5) (T := TX5) (N := 7) hx hb hts hi_5 tyX5 tyX5_ok nmX5 hown hK hP hD hS 2 rfl rfl 1 (by decide) (va_Nw.use rfl (nwf_HubTrains_SetupReader_82 hN.1)) (fun _ h9 => h9) rfl (tyX5_ok 1 (by decide)) rfl rfl (Nat.le_of_ble_eq_true rfl) dX3_read_152 (fun H locs hP hD hS => ?_)
            have hP : va_P G vwCl (wR c ard (rd_65.1, (ss rd_65.2.1 0 0), rd_65.2.2)) H := hP
            have hD : va_D A (wR c ard (rd_65.1, (ss rd_65.2.1 0 0), rd_65.2.2)) := hD
            refine lv_aload_n hx hb dX3_read_155 rfl (lv_at hl 0 rfl) ?_
            refine va_get (D := G) (ci := 3) (v := .int (rd_65.1.1 6)) (C := RX3) (T := TX3) (N := 11) hx hb hts hi_3 hown hK hP 0 rfl rfl 9 (by decide) (hts (.fieldLink RX3 56 "HubTrains$SetupReader" "error" "I") (List.mem_of_getElem? (i := 7) rfl)) (fun _ h9 => h9) rfl dX3_read_156 ?_
            exact hend H locs ls _ _ _ rfl (Prod.mk.inj (Option.some.inj hm)).1 (zc1 (fun (z0 : RS) => (wR c ard z0 : va_W)) (Prod.mk.inj (Option.some.inj hm)).2) hP hD hS dX3_read_159
          · have hm := ifn c_122 hm
            refine lv_aload_n hx hb dX3_read_125 rfl (lv_at hl 0 rfl) ?_
            refine va_get (D := G) (ci := 3) (v := .ref (ard 4)) (C := RX3) (T := TX3) (N := 11) hx hb hts hi_3 hown hK hP 0 rfl rfl 1 (by decide) (hts (.fieldLink RX3 21 "HubTrains$SetupReader" "game" "LHubTrains$Game;") (List.mem_of_getElem? (i := 1) rfl)) (fun _ h9 => h9) rfl dX3_read_126 ?_
            cases hm
      refine lv_if_eq (tgt := 114) hx hb dX3_read_66 (by decide) (fun c_66 => ?_) (fun c_66 => ?_)
      · have hm := ifp c_66 hm
        exact J_114 H locs ls hP hD hS (lv_sub hl [0, 1] rfl) hm
      · have hm := ifn c_66 hm
        refine lv_aload_n hx hb dX3_read_69 rfl (lv_at hl 0 rfl) ?_
        refine va_get (D := G) (ci := 3) (v := .ref (ard 2)) (C := RX3) (T := TX3) (N := 11) hx hb hts hi_3 hown hK hP 0 rfl rfl 0 (by decide) (hts (.fieldLink RX3 12 "HubTrains$SetupReader" "tokens" "LHubTrains$Tokens;") (List.mem_of_getElem? (i := 9) rfl)) (fun _ h9 => h9) rfl dX3_read_70 ?_
        refine va_getN (D := G) (ci := 5) (v := .int (rd_65.2.1.1 2)) (C := RX5) (T := TX5) (N := 7) hx hb hts hi_5 hown hK hP 2 rfl rfl 3 (by decide) (va_Nw.use rfl (nwf_HubTrains_SetupReader_67 hN.1)) (fun _ h9 => h9) rfl dX3_read_73 ?_
        refine lv_if_eq (tgt := 114) hx hb dX3_read_76 (by decide) (fun c_76 => ?_) (fun c_76 => ?_)
        · have hm := ifp c_76 hm
          exact J_114 H locs ls hP hD hS (lv_sub hl [0, 1] rfl) hm
        · have hm := ifn c_76 hm
          refine lv_iload_n hx hb dX3_read_79 rfl (lv_at hl 2 rfl) ?_
          refine lv_sipush (v := 500) hx hb dX3_read_80 (by decide) ?_
          refine lv_icmp_ge (tgt := 114) hx hb dX3_read_83 (by decide) (fun c_83 => ?_) (fun c_83 => ?_)
          · have hm := ifp c_83 hm
            exact J_114 H locs ls hP hD hS (lv_sub hl [0, 1] rfl) hm
          · have hm := ifn c_83 hm
            refine lv_aload_n hx hb dX3_read_86 rfl (lv_at hl 0 rfl) ?_
            obtain ⟨r87, rd87, e_87, hm⟩ := bd2_s hm
            refine zcWi (As := []) (rest := []) ⟨hx, hb, hml, hown, hts⟩ (k_X3_readStatement l G K c ard rd_65 r87 rd87 e_87) (cwV 0 hts gX3_read_X3_readStatement rfl rfl rfl hd_X3_readStatement ⟨Nat.le_of_ble_eq_true rfl, Nat.le_of_ble_eq_true rfl⟩) hK hN hZ hP hD hS hA (va_recv hK hP (ci := 3) (q0 := 0) rfl rfl) rfl hl.1 rfl (Nat.le_of_ble_eq_true rfl) dX3_read_87 ⟨Nat.zero_le _, Nat.zero_le _⟩ (fun H locs hP hD hS => ?_)
            have hP : va_P G vwCl (wR c ard rd87) H := hP
            have hD : va_D A (wR c ard rd87) := hD
            refine lv_if_eq (tgt := 106) hx hb dX3_read_90 (by decide) (fun c_90 => ?_) (fun c_90 => ?_)
            · have hm := ifp c_90 hm
              refine lv_iconst (v := 0) hx hb dX3_read_106 (by decide) ?_
              refine lv_istore_n (lv' := [(2, .int 0), (0, .ref (ard 0)), (3, .int v3_65)]) hx hb dX3_read_107 rfl hl (by decide) rfl (fun ls hl => ?_)
              refine lv_iinc (k := 2) (v := (v3_65 + 1)) (lv' := [(3, .int (v3_65 + 1)), (2, .int 0), (0, .ref (ard 0))]) hx hb dX3_read_108 hl rfl rfl (by decide) rfl (fun ls hl => ?_)
              refine lv_goto (tgt := 65) hx hb dX3_read_111 (by decide) ?_
              exact ih_65 0 (v3_65 + 1) rd87 H locs ls hP hD hS (lv_sub hl [2, 1, 0] rfl) hm
            · have hm := ifn c_90 hm
              refine lv_aload_n hx hb dX3_read_93 rfl (lv_at hl 0 rfl) ?_
              refine lv_bipush (v := 59) hx hb dX3_read_94 (by decide) ?_
              obtain ⟨r96, rd96, e_96, hm⟩ := bd2_s hm
              refine zcWi (As := [.int 59]) (rest := []) ⟨hx, hb, hml, hown, hts⟩ (k_X3_takeSign l G K c ard rd87 59 r96 rd96 e_96) (cwV 1 hts gX3_read_X3_takeSign rfl rfl rfl hd_X3_takeSign ⟨Nat.le_of_ble_eq_true rfl, Nat.le_of_ble_eq_true rfl⟩) hK hN hZ hP hD hS hA (va_recv hK hP (ci := 3) (q0 := 0) rfl rfl) rfl hl.1 rfl (Nat.le_of_ble_eq_true rfl) dX3_read_96 ⟨Nat.zero_le _, Nat.zero_le _⟩ (fun H locs hP hD hS => ?_)
              have hP : va_P G vwCl (wR c ard rd96) H := hP
              have hD : va_D A (wR c ard rd96) := hD
              refine lv_if_eq (tgt := 106) hx hb dX3_read_99 (by decide) (fun c_99 => ?_) (fun c_99 => ?_)
              · have hm := ifp c_99 hm
                refine lv_iconst (v := 0) hx hb dX3_read_106 (by decide) ?_
                refine lv_istore_n (lv' := [(2, .int 0), (0, .ref (ard 0)), (3, .int v3_65)]) hx hb dX3_read_107 rfl hl (by decide) rfl (fun ls hl => ?_)
                refine lv_iinc (k := 2) (v := (v3_65 + 1)) (lv' := [(3, .int (v3_65 + 1)), (2, .int 0), (0, .ref (ard 0))]) hx hb dX3_read_108 hl rfl rfl (by decide) rfl (fun ls hl => ?_)
                refine lv_goto (tgt := 65) hx hb dX3_read_111 (by decide) ?_
                exact ih_65 0 (v3_65 + 1) rd96 H locs ls hP hD hS (lv_sub hl [2, 1, 0] rfl) hm
              · have hm := ifn c_99 hm
                refine lv_iconst (v := 1) hx hb dX3_read_102 (by decide) ?_
                refine lv_goto (tgt := 107) hx hb dX3_read_103 (by decide) ?_
                refine lv_istore_n (lv' := [(2, .int 1), (0, .ref (ard 0)), (3, .int v3_65)]) hx hb dX3_read_107 rfl hl (by decide) rfl (fun ls hl => ?_)
                refine lv_iinc (k := 2) (v := (v3_65 + 1)) (lv' := [(3, .int (v3_65 + 1)), (2, .int 1), (0, .ref (ard 0))]) hx hb dX3_read_108 hl rfl rfl (by decide) rfl (fun ls hl => ?_)
                refine lv_goto (tgt := 65) hx hb dX3_read_111 (by decide) ?_
                exact ih_65 1 (v3_65 + 1) rd96 H locs ls hP hD hS (lv_sub hl [2, 1, 0] rfl) hm
  exact L_65 FUEL r59 0 rd59 H locs ls hP hD hS (lv_sub hl [2, 1, 0] rfl) hm

def g_X3_read_J114 (v2_65 : Int32) (rd_65 : RS) : Option RS :=
  if v2_65 = 0 then (none) else (if (rd_65.1.1 3) = 0 then (none) else (some (rd_65)))

def g_X3_read_B65  (rec_65 : Int32 → Int32 → RS → Option RS) (v2_65 : Int32) (v3_65 : Int32) (rd_65 : RS) : Option RS :=
  if v2_65 = 0 then (g_X3_read_J114 v2_65 rd_65) else (if (rd_65.2.1.1 2) = 0 then (g_X3_read_J114 v2_65 rd_65) else (if (500 : Int32) ≤ v3_65 then (g_X3_read_J114 v2_65 rd_65) else (bd2 (f_X3_readStatement rd_65) fun (r87 : Int32) (rd87 : RS) => if r87 = 0 then (rec_65 0 (v3_65 + 1) rd87) else (bd2 (f_X3_takeSign rd87 59) fun (r96 : Int32) (rd96 : RS) => if r96 = 0 then (rec_65 0 (v3_65 + 1) rd96) else (rec_65 1 (v3_65 + 1) rd96)))))

def g_X3_read (rd : RS) (p0 : Int32) : Option RS :=
  bd1 (f_X1_clearHands rd.2.2) fun (g4 : GS) => bd1 (f_X5_begin rd.2.1 p0) fun (tk55 : SA) => bd2 (f_X3_readHead ((ss (ss (ss (ss (ss (ss (ss rd.1 1 0) 2 0) 3 0) 5 0) 4 0) 6 0) 7 (-1)), tk55, (g4.1, none, g4.2.2.1, g4.2.2.2))) fun (r59 : Int32) (rd59 : RS) => itr3 g_X3_read_B65 FUEL r59 0 rd59

/-- the reader behind a text with a rank -/
def hF (rd1 : RS) (fa : Nat) : RS := (rd1.1, (ss rd1.2.1 0 0), (rd1.2.2.1, (some fa), rd1.2.2.2.2.1, rd1.2.2.2.2.2))
abbrev rmf_X3_read : Room := { frames := 106, cells := 3, slots := 518, locals := 4156 }
set_option maxHeartbeats 4000000 in
set_option maxRecDepth 100000 in
theorem kf_X3_read (l : Launch) (G : va_G) (K : (Nat → Nat) × (Nat → Nat)) (c : Nat → ClassId) (ard : Nat → Nat) (rd : RS) (p0 : Int32) (rd1 : RS) (hm : g_X3_read rd p0 = some rd1) (h0 : ¬ (rd1.1.1 5) < 0) (hlt : (rd1.1.1 5) < 500) : zAi l yX3_read wsX3_read rmf_X3_read G K (TY c) [.ref (ard 0), .int p0] (wR c ard rd) (fun a => wR c ard (hF rd1 (a 0)) ++ wF c (a 0) (a 1) (a 2) (rd1.1.1 5).toNatClampNeg (sF (rd1.1.2 0) (rd1.1.1 5))) (rd1.1.1 6) 3 518 := by
  refine zAi.of (cc := cX3_read) (maxL := 4) (lv := [(0, .ref (ard 0)), (1, .int p0)]) (by decide) rfl (Nat.le_of_ble_eq_true rfl) rfl ?_
  intro p e s m args below meth c1 A Q H locs hx hb hml hown hts hK hN hZ hXA hP hD hA hS hend ls hl
  have hown : s.vm.findClass RX3 = some m.cls := hown
  have hi_0 : ∀ w ∈ wsX00, w ∈ wsX3_read := (fun w h => List.mem_cons_of_mem _ (List.mem_append_left _ (List.mem_append_right _ (h))))
  have hi_1 : ∀ w ∈ wsX10, w ∈ wsX3_read := (fun w h => List.mem_cons_of_mem _ (List.mem_append_left _ (List.mem_append_left _ (List.mem_append_left _ (List.mem_append_right _ (h))))))
  have hi_3 : ∀ w ∈ wsX30, w ∈ wsX3_read := (fun w h => List.mem_cons_of_mem _ (List.mem_append_left _ (List.mem_append_left _ (List.mem_append_left _ (List.mem_append_left _ (List.mem_append_right _ (h)))))))
  have hi_5 : ∀ w ∈ wsX50, w ∈ wsX3_read := (fun w h => List.mem_cons_of_mem _ (List.mem_append_left _ (List.mem_append_left _ (List.mem_append_right _ (h)))))
  have hfor : ∀ (H : Heap) (locs : List Loc) (ls : Array Slot) (Wx : va_W), Wx = wR c ard rd1 → va_P G vwCl Wx H → va_D A Wx → va_S A s.heap H locs → lv_has ls 4 [(0, .ref (ard 0))] → W p l e rmf_X3_read s m args below meth c1 H locs 0 0 Q (F0 m 129 ls [.ref (ard 4)]) := by
    intro H locs ls Wx hW hP hD hS hl
    subst hW
    refine va_new (ci := 0) (fs := [.null, .null]) (C := RX0) (T := TX0) (N := 2) hx hb hts hi_0 tyX0 tyX0_ok hown (hts (.classLink RX3 77 RX0) (List.mem_of_getElem? (i := 10) rfl)) (hts (.instantiable RX0 2) (List.mem_of_getElem? (i := 11) rfl)) (hts (.initialized RX0) (List.mem_of_getElem? (i := 12) rfl)) hK hP hD hS hA rfl (fun j hj => by rcases (show j = 0 ∨ j = 1 by omega) with rfl | rfl <;> rfl) (Nat.le_of_ble_eq_true rfl) (Nat.le_of_ble_eq_true rfl) dX3_read_129 (fun o H hP hD hS => ?_)
    have hP : va_P G vwCl (wR c ard rd1 ++ [(o, .inr (0, [.null, .null]))]) H := hP
    have hD : va_D A (wR c ard rd1 ++ [(o, .inr (0, [.null, .null]))]) := hD
    refine W.widen (k := 1) (n := 2) (Nat.le_refl _) (Nat.le_refl _) ?_
    refine lv_dup hx hb dX3_read_132 rfl ?_
    refine lv_aload_n hx hb dX3_read_133 rfl (lv_at hl 0 rfl) ?_
    refine va_get (D := G) (ci := 3) (v := .ref (ard 1)) (C := RX3) (T := TX3) (N := 11) hx hb hts hi_3 hown hK hP 0 rfl rfl 7 (by decide) (hts (.fieldLink RX3 25 "HubTrains$SetupReader" "steps" "[I") (List.mem_of_getElem? (i := 13) rfl)) (fun _ h9 => h9) rfl dX3_read_134 ?_
    refine lv_aload_n hx hb dX3_read_137 rfl (lv_at hl 0 rfl) ?_
    refine va_get (D := G) (ci := 3) (v := .int (rd1.1.1 5)) (C := RX3) (T := TX3) (N := 11) hx hb hts hi_3 hown hK hP 0 rfl rfl 8 (by decide) (hts (.fieldLink RX3 50 "HubTrains$SetupReader" "stepCount" "I") (List.mem_of_getElem? (i := 5) rfl)) (fun _ h9 => h9) rfl dX3_read_138 ?_
    refine zcI (As := [.ref (ard 1), .int (rd1.1.1 5)]) (rest := [.ref o, .ref (ard 4)]) (wr := [0, 2, 3, 4, 5, 6, 7, 8, 9, 10, 11, 12, 13].filterMap (fun i => (wR c ard rd1)[i]?)) (W1 := fun a => [(ard 1, .inl (c 0, 500, .inl (rd1.1.2 0)))] ++ wF c (a 0) (a 1) (a 2) (rd1.1.1 5).toNatClampNeg (sF (rd1.1.2 0) (rd1.1.1 5))) ⟨hx, hb, hml, hown, hts⟩ (k_X0_init l G K c o (ard 1) (rd1.1.2 0) (rd1.1.1 5) h0 hlt) (cwI 2 hts gX3_read_X0_init rfl rfl rfl (hts (.initialized RX0) (List.mem_of_getElem? (i := 12) rfl)) (hts (.methodLink RX3 79 yX0_init) (List.mem_of_getElem? (i := 193) rfl)) (hts (.instanceMethod yX0_init) (List.mem_of_getElem? (i := 194) rfl)) rfl hd_X0_init.2 ⟨Nat.le_of_ble_eq_true rfl, Nat.le_of_ble_eq_true rfl⟩) hK hN hZ hXA hP hD hS hA [14, 1] [0, 2, 3, 4, 5, 6, 7, 8, 9, 10, 11, 12, 13] rfl rfl (by decide) (by decide) (by decide) rfl hl.1 rfl (Nat.le_of_ble_eq_true rfl) dX3_read_141 ⟨Nat.le_of_ble_eq_true rfl, Nat.le_of_ble_eq_true rfl⟩ (fun a141 H locs hok hP9 hD9 hS => ?_)
    replace hok : a141 0 = o := hok
    subst hok
    have hP := hP9.sub (ws' := wR c ard rd1 ++ wF c (a141 0) (a141 1) (a141 2) (rd1.1.1 5).toNatClampNeg (sF (rd1.1.2 0) (rd1.1.1 5))) [0, 13, 1, 2, 3, 4, 5, 6, 7, 8, 9, 10, 11, 12, 14, 15, 16] rfl
    have hD := hD9.sub (ws' := wR c ard rd1 ++ wF c (a141 0) (a141 1) (a141 2) (rd1.1.1 5).toNatClampNeg (sF (rd1.1.2 0) (rd1.1.1 5))) [0, 13, 1, 2, 3, 4, 5, 6, 7, 8, 9, 10, 11, 12, 14, 15, 16] (by decide) rfl
    refine va_putN (D := G) (ci := 1) (v := .ref (a141 0)) (C := RX1) (T := TX1) (N := 16) hx hb hts hi_1 tyX1 tyX1_ok nmX1 hown hK hP hD hS 4 rfl rfl 11 (by decide) (va_Nw.use rfl (nwf_HubTrains_SetupReader_36 hN.1)) (fun _ h9 => h9) rfl (tyX1_ok 11 (by decide)) rfl rfl (Nat.le_of_ble_eq_true rfl) dX3_read_144 (fun H locs hP hD hS => ?_)
    have hP : va_P G vwCl (wR c ard (rd1.1, rd1.2.1, (rd1.2.2.1, (some (a141 0)), rd1.2.2.2.2.1, rd1.2.2.2.2.2)) ++ wF c (a141 0) (a141 1) (a141 2) (rd1.1.1 5).toNatClampNeg (sF (rd1.1.2 0) (rd1.1.1 5))) H := hP
    have hD : va_D A (wR c ard (rd1.1, rd1.2.1, (rd1.2.2.1, (some (a141 0)), rd1.2.2.2.2.1, rd1.2.2.2.2.2)) ++ wF c (a141 0) (a141 1) (a141 2) (rd1.1.1 5).toNatClampNeg (sF (rd1.1.2 0) (rd1.1.1 5))) := hD
    refine lv_aload_n hx hb dX3_read_147 rfl (lv_at hl 0 rfl) ?_
    refine va_get (D := G) (ci := 3) (v := .ref (ard 2)) (C := RX3) (T := TX3) (N := 11) hx hb hts hi_3 hown hK hP 0 rfl rfl 0 (by decide) (hts (.fieldLink RX3 12 "HubTrains$SetupReader" "tokens" "LHubTrains$Tokens;") (List.mem_of_getElem? (i := 9) rfl)) (fun _ h9 => h9) rfl dX3_read_148 ?_
    refine lv_iconst (v := 0) hx hb dX3_read_151 (by decide) ?_
    refine va_putN (D := G) (ci := 5) (v := .int 0) (C := RX5) (T := TX5) (N := 7) hx hb hts hi_5 tyX5 tyX5_ok nmX5 hown hK hP hD hS 2 rfl rfl 1 (by decide) (va_Nw.use rfl (nwf_HubTrains_SetupReader_82 hN.1)) (fun _ h9 => h9) rfl (tyX5_ok 1 (by decide)) rfl rfl (Nat.le_of_ble_eq_true rfl) dX3_read_152 (fun H locs hP hD hS => ?_)
    have hP : va_P G vwCl (wR c ard (rd1.1, (ss rd1.2.1 0 0), (rd1.2.2.1, (some (a141 0)), rd1.2.2.2.2.1, rd1.2.2.2.2.2)) ++ wF c (a141 0) (a141 1) (a141 2) (rd1.1.1 5).toNatClampNeg (sF (rd1.1.2 0) (rd1.1.1 5))) H := hP
    have hD : va_D A (wR c ard (rd1.1, (ss rd1.2.1 0 0), (rd1.2.2.1, (some (a141 0)), rd1.2.2.2.2.1, rd1.2.2.2.2.2)) ++ wF c (a141 0) (a141 1) (a141 2) (rd1.1.1 5).toNatClampNeg (sF (rd1.1.2 0) (rd1.1.1 5))) := hD
    refine lv_aload_n hx hb dX3_read_155 rfl (lv_at hl 0 rfl) ?_
    refine va_get (D := G) (ci := 3) (v := .int (rd1.1.1 6)) (C := RX3) (T := TX3) (N := 11) hx hb hts hi_3 hown hK hP 0 rfl rfl 9 (by decide) (hts (.fieldLink RX3 56 "HubTrains$SetupReader" "error" "I") (List.mem_of_getElem? (i := 7) rfl)) (fun _ h9 => h9) rfl dX3_read_156 ?_
    exact hend H locs ls _ a141 hP hD hS dX3_read_159
  unfold g_X3_read at hm
  refine lv_aload_n hx hb dX3_read_0 rfl (lv_at hl 0 rfl) ?_
  refine va_get (D := G) (ci := 3) (v := .ref (ard 4)) (C := RX3) (T := TX3) (N := 11) hx hb hts hi_3 hown hK hP 0 rfl rfl 1 (by decide) (hts (.fieldLink RX3 21 "HubTrains$SetupReader" "game" "LHubTrains$Game;") (List.mem_of_getElem? (i := 1) rfl)) (fun _ h9 => h9) rfl dX3_read_1 ?_
  obtain ⟨g4, e_4, hm⟩ := bd1_s hm
  refine zcVv (As := []) (rest := []) ⟨hx, hb, hml, hown, hts⟩ (k_X1_clearHands l G K c (fun i => ard (i + 4)) rd.2.2 g4 e_4) (cwV 0 hts gX3_read_X1_clearHands rfl rfl rfl hd_X1_clearHands ⟨Nat.le_of_ble_eq_true rfl, Nat.le_of_ble_eq_true rfl⟩) hK hN hZ hP hD hS hA (va_recv hK hP (ci := 1) (q0 := 4) rfl rfl) [4, 5, 6, 7, 8, 9, 10, 11, 12, 13] rfl (by decide) rfl rfl hl.1 rfl (Nat.le_of_ble_eq_true rfl) dX3_read_4 ⟨Nat.zero_le _, Nat.zero_le _⟩ (fun H locs hP hD hS => ?_)
  have hP : va_P G vwCl (wR c ard (rd.1, rd.2.1, g4)) H := hP
  have hD : va_D A (wR c ard (rd.1, rd.2.1, g4)) := hD
  refine lv_aload_n hx hb dX3_read_7 rfl (lv_at hl 0 rfl) ?_
  refine va_get (D := G) (ci := 3) (v := .ref (ard 4)) (C := RX3) (T := TX3) (N := 11) hx hb hts hi_3 hown hK hP 0 rfl rfl 1 (by decide) (hts (.fieldLink RX3 21 "HubTrains$SetupReader" "game" "LHubTrains$Game;") (List.mem_of_getElem? (i := 1) rfl)) (fun _ h9 => h9) rfl dX3_read_8 ?_
  refine lv_null hx hb dX3_read_11 ?_
  refine va_putN (D := G) (ci := 1) (v := .null) (C := RX1) (T := TX1) (N := 16) hx hb hts hi_1 tyX1 tyX1_ok nmX1 hown hK hP hD hS 4 rfl rfl 11 (by decide) (va_Nw.use rfl (nwf_HubTrains_SetupReader_36 hN.1)) (fun _ h9 => h9) rfl (tyX1_ok 11 (by decide)) rfl rfl (Nat.le_of_ble_eq_true rfl) dX3_read_12 (fun H locs hP hD hS => ?_)
  have hP : va_P G vwCl (wR c ard (rd.1, rd.2.1, (g4.1, none, g4.2.2.1, g4.2.2.2))) H := hP
  have hD : va_D A (wR c ard (rd.1, rd.2.1, (g4.1, none, g4.2.2.1, g4.2.2.2))) := hD
  refine lv_aload_n hx hb dX3_read_15 rfl (lv_at hl 0 rfl) ?_
  refine lv_iconst (v := 0) hx hb dX3_read_16 (by decide) ?_
  refine va_put (D := G) (ci := 3) (v := .int 0) (C := RX3) (T := TX3) (N := 11) hx hb hts hi_3 tyX3 tyX3_ok nmX3 hown hK hP hD hS 0 rfl rfl 3 (by decide) (hts (.fieldLink RX3 40 "HubTrains$SetupReader" "hubTold" "Z") (List.mem_of_getElem? (i := 2) rfl)) (fun _ h9 => h9) rfl (tyX3_ok 3 (by decide)) (by decide) (by decide) (Nat.le_of_ble_eq_true rfl) dX3_read_17 (fun H locs hP hD hS => ?_)
  have hP : va_P G vwCl (wR c ard ((ss rd.1 1 0), rd.2.1, (g4.1, none, g4.2.2.1, g4.2.2.2))) H := hP
  have hD : va_D A (wR c ard ((ss rd.1 1 0), rd.2.1, (g4.1, none, g4.2.2.1, g4.2.2.2))) := hD
  refine lv_aload_n hx hb dX3_read_20 rfl (lv_at hl 0 rfl) ?_
  refine lv_iconst (v := 0) hx hb dX3_read_21 (by decide) ?_
  refine va_put (D := G) (ci := 3) (v := .int 0) (C := RX3) (T := TX3) (N := 11) hx hb hts hi_3 tyX3 tyX3_ok nmX3 hown hK hP hD hS 0 rfl rfl 4 (by decide) (hts (.fieldLink RX3 44 "HubTrains$SetupReader" "seedTold" "Z") (List.mem_of_getElem? (i := 3) rfl)) (fun _ h9 => h9) rfl (tyX3_ok 4 (by decide)) (by decide) (by decide) (Nat.le_of_ble_eq_true rfl) dX3_read_22 (fun H locs hP hD hS => ?_)
  have hP : va_P G vwCl (wR c ard ((ss (ss rd.1 1 0) 2 0), rd.2.1, (g4.1, none, g4.2.2.1, g4.2.2.2))) H := hP
  have hD : va_D A (wR c ard ((ss (ss rd.1 1 0) 2 0), rd.2.1, (g4.1, none, g4.2.2.1, g4.2.2.2))) := hD
  refine lv_aload_n hx hb dX3_read_25 rfl (lv_at hl 0 rfl) ?_
  refine lv_iconst (v := 0) hx hb dX3_read_26 (by decide) ?_
  refine va_put (D := G) (ci := 3) (v := .int 0) (C := RX3) (T := TX3) (N := 11) hx hb hts hi_3 tyX3 tyX3_ok nmX3 hown hK hP hD hS 0 rfl rfl 5 (by decide) (hts (.fieldLink RX3 47 "HubTrains$SetupReader" "rankTold" "Z") (List.mem_of_getElem? (i := 4) rfl)) (fun _ h9 => h9) rfl (tyX3_ok 5 (by decide)) (by decide) (by decide) (Nat.le_of_ble_eq_true rfl) dX3_read_27 (fun H locs hP hD hS => ?_)
  have hP : va_P G vwCl (wR c ard ((ss (ss (ss rd.1 1 0) 2 0) 3 0), rd.2.1, (g4.1, none, g4.2.2.1, g4.2.2.2))) H := hP
  have hD : va_D A (wR c ard ((ss (ss (ss rd.1 1 0) 2 0) 3 0), rd.2.1, (g4.1, none, g4.2.2.1, g4.2.2.2))) := hD
  refine lv_aload_n hx hb dX3_read_30 rfl (lv_at hl 0 rfl) ?_
  refine lv_iconst (v := 0) hx hb dX3_read_31 (by decide) ?_
  refine va_put (D := G) (ci := 3) (v := .int 0) (C := RX3) (T := TX3) (N := 11) hx hb hts hi_3 tyX3 tyX3_ok nmX3 hown hK hP hD hS 0 rfl rfl 8 (by decide) (hts (.fieldLink RX3 50 "HubTrains$SetupReader" "stepCount" "I") (List.mem_of_getElem? (i := 5) rfl)) (fun _ h9 => h9) rfl (tyX3_ok 8 (by decide)) rfl rfl (Nat.le_of_ble_eq_true rfl) dX3_read_32 (fun H locs hP hD hS => ?_)
  have hP : va_P G vwCl (wR c ard ((ss (ss (ss (ss rd.1 1 0) 2 0) 3 0) 5 0), rd.2.1, (g4.1, none, g4.2.2.1, g4.2.2.2))) H := hP
  have hD : va_D A (wR c ard ((ss (ss (ss (ss rd.1 1 0) 2 0) 3 0) 5 0), rd.2.1, (g4.1, none, g4.2.2.1, g4.2.2.2))) := hD
  refine lv_aload_n hx hb dX3_read_35 rfl (lv_at hl 0 rfl) ?_
  refine lv_iconst (v := 0) hx hb dX3_read_36 (by decide) ?_
  refine va_put (D := G) (ci := 3) (v := .int 0) (C := RX3) (T := TX3) (N := 11) hx hb hts hi_3 tyX3 tyX3_ok nmX3 hown hK hP hD hS 0 rfl rfl 6 (by decide) (hts (.fieldLink RX3 53 "HubTrains$SetupReader" "tilesGiven" "Z") (List.mem_of_getElem? (i := 6) rfl)) (fun _ h9 => h9) rfl (tyX3_ok 6 (by decide)) (by decide) (by decide) (Nat.le_of_ble_eq_true rfl) dX3_read_37 (fun H locs hP hD hS => ?_)
  have hP : va_P G vwCl (wR c ard ((ss (ss (ss (ss (ss rd.1 1 0) 2 0) 3 0) 5 0) 4 0), rd.2.1, (g4.1, none, g4.2.2.1, g4.2.2.2))) H := hP
  have hD : va_D A (wR c ard ((ss (ss (ss (ss (ss rd.1 1 0) 2 0) 3 0) 5 0) 4 0), rd.2.1, (g4.1, none, g4.2.2.1, g4.2.2.2))) := hD
  refine lv_aload_n hx hb dX3_read_40 rfl (lv_at hl 0 rfl) ?_
  refine lv_iconst (v := 0) hx hb dX3_read_41 (by decide) ?_
  refine va_put (D := G) (ci := 3) (v := .int 0) (C := RX3) (T := TX3) (N := 11) hx hb hts hi_3 tyX3 tyX3_ok nmX3 hown hK hP hD hS 0 rfl rfl 9 (by decide) (hts (.fieldLink RX3 56 "HubTrains$SetupReader" "error" "I") (List.mem_of_getElem? (i := 7) rfl)) (fun _ h9 => h9) rfl (tyX3_ok 9 (by decide)) rfl rfl (Nat.le_of_ble_eq_true rfl) dX3_read_42 (fun H locs hP hD hS => ?_)
  have hP : va_P G vwCl (wR c ard ((ss (ss (ss (ss (ss (ss rd.1 1 0) 2 0) 3 0) 5 0) 4 0) 6 0), rd.2.1, (g4.1, none, g4.2.2.1, g4.2.2.2))) H := hP
  have hD : va_D A (wR c ard ((ss (ss (ss (ss (ss (ss rd.1 1 0) 2 0) 3 0) 5 0) 4 0) 6 0), rd.2.1, (g4.1, none, g4.2.2.1, g4.2.2.2))) := hD
  refine lv_aload_n hx hb dX3_read_45 rfl (lv_at hl 0 rfl) ?_
  refine lv_iconst (v := (-1)) hx hb dX3_read_46 (by decide) ?_
  refine va_put (D := G) (ci := 3) (v := .int (-1)) (C := RX3) (T := TX3) (N := 11) hx hb hts hi_3 tyX3 tyX3_ok nmX3 hown hK hP hD hS 0 rfl rfl 10 (by decide) (hts (.fieldLink RX3 29 "HubTrains$SetupReader" "errorOffset" "I") (List.mem_of_getElem? (i := 8) rfl)) (fun _ h9 => h9) rfl (tyX3_ok 10 (by decide)) rfl rfl (Nat.le_of_ble_eq_true rfl) dX3_read_47 (fun H locs hP hD hS => ?_)
  have hP : va_P G vwCl (wR c ard ((ss (ss (ss (ss (ss (ss (ss rd.1 1 0) 2 0) 3 0) 5 0) 4 0) 6 0) 7 (-1)), rd.2.1, (g4.1, none, g4.2.2.1, g4.2.2.2))) H := hP
  have hD : va_D A (wR c ard ((ss (ss (ss (ss (ss (ss (ss rd.1 1 0) 2 0) 3 0) 5 0) 4 0) 6 0) 7 (-1)), rd.2.1, (g4.1, none, g4.2.2.1, g4.2.2.2))) := hD
  refine lv_aload_n hx hb dX3_read_50 rfl (lv_at hl 0 rfl) ?_
  refine va_get (D := G) (ci := 3) (v := .ref (ard 2)) (C := RX3) (T := TX3) (N := 11) hx hb hts hi_3 hown hK hP 0 rfl rfl 0 (by decide) (hts (.fieldLink RX3 12 "HubTrains$SetupReader" "tokens" "LHubTrains$Tokens;") (List.mem_of_getElem? (i := 9) rfl)) (fun _ h9 => h9) rfl dX3_read_51 ?_
  refine lv_iload_n hx hb dX3_read_54 rfl (lv_at hl 1 rfl) ?_
  obtain ⟨tk55, e_55, hm⟩ := bd1_s hm
  refine zcVv (As := [.int p0]) (rest := []) ⟨hx, hb, hml, hown, hts⟩ (k_X5_begin l G K c (ard 2) (ard 3) rd.2.1 p0 tk55 e_55) (cwV 1 hts gX3_read_X5_begin rfl rfl rfl hd_X5_begin ⟨Nat.le_of_ble_eq_true rfl, Nat.le_of_ble_eq_true rfl⟩) hK hN hZ hP hD hS hA (va_recv hK hP (ci := 5) (q0 := 2) rfl rfl) [2, 3] rfl (by decide) rfl rfl hl.1 rfl (Nat.le_of_ble_eq_true rfl) dX3_read_55 ⟨Nat.zero_le _, Nat.zero_le _⟩ (fun H locs hP hD hS => ?_)
  have hP : va_P G vwCl (wR c ard ((ss (ss (ss (ss (ss (ss (ss rd.1 1 0) 2 0) 3 0) 5 0) 4 0) 6 0) 7 (-1)), tk55, (g4.1, none, g4.2.2.1, g4.2.2.2))) H := hP
  have hD : va_D A (wR c ard ((ss (ss (ss (ss (ss (ss (ss rd.1 1 0) 2 0) 3 0) 5 0) 4 0) 6 0) 7 (-1)), tk55, (g4.1, none, g4.2.2.1, g4.2.2.2))) := hD
  refine lv_aload_n hx hb dX3_read_58 rfl (lv_at hl 0 rfl) ?_
  obtain ⟨r59, rd59, e_59, hm⟩ := bd2_s hm
  refine zcWi (As := []) (rest := []) ⟨hx, hb, hml, hown, hts⟩ (k_X3_readHead l G K c ard ((ss (ss (ss (ss (ss (ss (ss rd.1 1 0) 2 0) 3 0) 5 0) 4 0) 6 0) 7 (-1)), tk55, (g4.1, none, g4.2.2.1, g4.2.2.2)) r59 rd59 e_59) (cwV 0 hts gX3_read_X3_readHead rfl rfl rfl hd_X3_readHead ⟨Nat.le_of_ble_eq_true rfl, Nat.le_of_ble_eq_true rfl⟩) hK hN hZ hP hD hS hA (va_recv hK hP (ci := 3) (q0 := 0) rfl rfl) rfl hl.1 rfl (Nat.le_of_ble_eq_true rfl) dX3_read_59 ⟨Nat.zero_le _, Nat.zero_le _⟩ (fun H locs hP hD hS => ?_)
  have hP : va_P G vwCl (wR c ard rd59) H := hP
  have hD : va_D A (wR c ard rd59) := hD
  refine lv_istore_n (lv' := [(2, .int r59), (0, .ref (ard 0)), (1, .int p0)]) hx hb dX3_read_62 rfl hl (by decide) rfl (fun ls hl => ?_)
  refine lv_iconst (v := 0) hx hb dX3_read_63 (by decide) ?_
  refine lv_istore_n (lv' := [(3, .int 0), (2, .int r59), (0, .ref (ard 0)), (1, .int p0)]) hx hb dX3_read_64 rfl hl (by decide) rfl (fun ls hl => ?_)
  have L_65 : ∀ (n_65 : Nat) (v2_65 : Int32) (v3_65 : Int32) (rd_65 : RS) (H : Heap) (locs : List Loc) (ls : Array Slot), va_P G vwCl (wR c ard rd_65) H → va_D A (wR c ard rd_65) → va_S A s.heap H locs → lv_has ls 4 [(0, .ref (ard 0)), (2, .int v2_65), (3, .int v3_65)] → itr3 g_X3_read_B65 n_65 v2_65 v3_65 rd_65 = some rd1 → W p l e rmf_X3_read s m args below meth c1 H locs 0 0 Q (F0 m 65 ls []) := by
    intro n_65
    induction n_65 with
    | zero => intro v2_65 v3_65 rd_65 H locs ls hP hD hS hl hm; exact (itr3_0 hm).elim
    | succ n_65 ih_65 =>
      intro v2_65 v3_65 rd_65 H locs ls hP hD hS hl hm
      have hm := itr3_s hm
      unfold g_X3_read_B65 at hm
      refine lv_iload_n hx hb dX3_read_65 rfl (lv_at hl 1 rfl) ?_
      have J_114 : ∀ (H : Heap) (locs : List Loc) (ls : Array Slot), va_P G vwCl (wR c ard rd_65) H → va_D A (wR c ard rd_65) → va_S A s.heap H locs → lv_has ls 4 [(0, .ref (ard 0)), (2, .int v2_65)] → g_X3_read_J114 v2_65 rd_65 = some rd1 → W p l e rmf_X3_read s m args below meth c1 H locs 0 0 Q (F0 m 114 ls []) := by
        intro  H locs ls hP hD hS hl hm
        unfold g_X3_read_J114 at hm
        refine lv_iload_n hx hb dX3_read_114 rfl (lv_at hl 1 rfl) ?_
        refine lv_if_eq (tgt := 147) hx hb dX3_read_115 (by decide) (fun c_115 => ?_) (fun c_115 => ?_)
        · have hm := ifp c_115 hm
          refine lv_aload_n hx hb dX3_read_147 rfl (lv_at hl 0 rfl) ?_
          refine va_get (D := G) (ci := 3) (v := .ref (ard 2)) (C := RX3) (T := TX3) (N := 11) hx hb hts hi_3 hown hK hP 0 rfl rfl 0 (by decide) (hts (.fieldLink RX3 12 "HubTrains$SetupReader" "tokens" "LHubTrains$Tokens;") (List.mem_of_getElem? (i := 9) rfl)) (fun _ h9 => h9) rfl dX3_read_148 ?_
          refine lv_iconst (v := 0) hx hb dX3_read_151 (by decide) ?_
          refine va_putN (D := G) (ci := 5) (v := .int 0) (C := RX5) (T := TX5) (N := 7) hx hb hts hi_5 tyX5 tyX5_ok nmX5 hown hK hP hD hS 2 rfl rfl 1 (by decide) (va_Nw.use rfl (nwf_HubTrains_SetupReader_82 hN.1)) (fun _ h9 => h9) rfl (tyX5_ok 1 (by decide)) rfl rfl (Nat.le_of_ble_eq_true rfl) dX3_read_152 (fun H locs hP hD hS => ?_)
          have hP : va_P G vwCl (wR c ard (rd_65.1, (ss rd_65.2.1 0 0), rd_65.2.2)) H := hP
          have hD : va_D A (wR c ard (rd_65.1, (ss rd_65.2.1 0 0), rd_65.2.2)) := hD
          refine lv_aload_n hx hb dX3_read_155 rfl (lv_at hl 0 rfl) ?_
          refine va_get (D := G) (ci := 3) (v := .int (rd_65.1.1 6)) (C := RX3) (T := TX3) (N := 11) hx hb hts hi_3 hown hK hP 0 rfl rfl 9 (by decide) (hts (.fieldLink RX3 56 "HubTrains$SetupReader" "error" "I") (List.mem_of_getElem? (i := 7) rfl)) (fun _ h9 => h9) rfl dX3_read_156 ?_
          cases hm
        · have hm := ifn c_115 hm
          refine lv_aload_n hx hb dX3_read_118 rfl (lv_at hl 0 rfl) ?_
          refine va_get (D := G) (ci := 3) (v := .int (rd_65.1.1 3)) (C := RX3) (T := TX3) (N := 11) hx hb hts hi_3 hown hK hP 0 rfl rfl 5 (by decide) (hts (.fieldLink RX3 47 "HubTrains$SetupReader" "rankTold" "Z") (List.mem_of_getElem? (i := 4) rfl)) (fun _ h9 => h9) rfl dX3_read_119 ?_
          refine lv_if_eq (tgt := 147) hx hb dX3_read_122 (by decide) (fun c_122 => ?_) (fun c_122 => ?_)
          · have hm := ifp c_122 hm
            refine lv_aload_n hx hb dX3_read_147 rfl (lv_at hl 0 rfl) ?_
            refine va_get (D := G) (ci := 3) (v := .ref (ard 2)) (C := RX3) (T := TX3) (N := 11) hx hb hts hi_3 hown hK hP 0 rfl rfl 0 (by decide) (hts (.fieldLink RX3 12 "HubTrains$SetupReader" "tokens" "LHubTrains$Tokens;") (List.mem_of_getElem? (i := 9) rfl)) (fun _ h9 => h9) rfl dX3_read_148 ?_
            refine lv_iconst (v := 0) hx hb dX3_read_151 (by decide) ?_
            refine va_putN (D := G) (ci := 5) (v := .int 0) (C := RX5) (T := TX5) (N := 7) hx hb hts hi_5 tyX5 tyX5_ok nmX5 hown hK hP hD hS 2 rfl rfl 1 (by decide) (va_Nw.use rfl (nwf_HubTrains_SetupReader_82 hN.1)) (fun _ h9 => h9) rfl (tyX5_ok 1 (by decide)) rfl rfl (Nat.le_of_ble_eq_true rfl) dX3_read_152 (fun H locs hP hD hS => ?_)
            have hP : va_P G vwCl (wR c ard (rd_65.1, (ss rd_65.2.1 0 0), rd_65.2.2)) H := hP
            have hD : va_D A (wR c ard (rd_65.1, (ss rd_65.2.1 0 0), rd_65.2.2)) := hD
            refine lv_aload_n hx hb dX3_read_155 rfl (lv_at hl 0 rfl) ?_
            refine va_get (D := G) (ci := 3) (v := .int (rd_65.1.1 6)) (C := RX3) (T := TX3) (N := 11) hx hb hts hi_3 hown hK hP 0 rfl rfl 9 (by decide) (hts (.fieldLink RX3 56 "HubTrains$SetupReader" "error" "I") (List.mem_of_getElem? (i := 7) rfl)) (fun _ h9 => h9) rfl dX3_read_156 ?_
            cases hm
          · have hm := ifn c_122 hm
            refine lv_aload_n hx hb dX3_read_125 rfl (lv_at hl 0 rfl) ?_
            refine va_get (D := G) (ci := 3) (v := .ref (ard 4)) (C := RX3) (T := TX3) (N := 11) hx hb hts hi_3 hown hK hP 0 rfl rfl 1 (by decide) (hts (.fieldLink RX3 21 "HubTrains$SetupReader" "game" "LHubTrains$Game;") (List.mem_of_getElem? (i := 1) rfl)) (fun _ h9 => h9) rfl dX3_read_126 ?_
            exact hfor H locs ls _ (zc1 (fun (z0 : RS) => (wR c ard z0 : va_W)) (Option.some.inj hm)) hP hD hS (lv_sub hl [0] rfl)
      refine lv_if_eq (tgt := 114) hx hb dX3_read_66 (by decide) (fun c_66 => ?_) (fun c_66 => ?_)
      · have hm := ifp c_66 hm
        exact J_114 H locs ls hP hD hS (lv_sub hl [0, 1] rfl) hm
      · have hm := ifn c_66 hm
        refine lv_aload_n hx hb dX3_read_69 rfl (lv_at hl 0 rfl) ?_
        refine va_get (D := G) (ci := 3) (v := .ref (ard 2)) (C := RX3) (T := TX3) (N := 11) hx hb hts hi_3 hown hK hP 0 rfl rfl 0 (by decide) (hts (.fieldLink RX3 12 "HubTrains$SetupReader" "tokens" "LHubTrains$Tokens;") (List.mem_of_getElem? (i := 9) rfl)) (fun _ h9 => h9) rfl dX3_read_70 ?_
        refine va_getN (D := G) (ci := 5) (v := .int (rd_65.2.1.1 2)) (C := RX5) (T := TX5) (N := 7) hx hb hts hi_5 hown hK hP 2 rfl rfl 3 (by decide) (va_Nw.use rfl (nwf_HubTrains_SetupReader_67 hN.1)) (fun _ h9 => h9) rfl dX3_read_73 ?_
        refine lv_if_eq (tgt := 114) hx hb dX3_read_76 (by decide) (fun c_76 => ?_) (fun c_76 => ?_)
        · have hm := ifp c_76 hm
          exact J_114 H locs ls hP hD hS (lv_sub hl [0, 1] rfl) hm
        · have hm := ifn c_76 hm
          refine lv_iload_n hx hb dX3_read_79 rfl (lv_at hl 2 rfl) ?_
          refine lv_sipush (v := 500) hx hb dX3_read_80 (by decide) ?_
          refine lv_icmp_ge (tgt := 114) hx hb dX3_read_83 (by decide) (fun c_83 => ?_) (fun c_83 => ?_)
          · have hm := ifp c_83 hm
            exact J_114 H locs ls hP hD hS (lv_sub hl [0, 1] rfl) hm
          · have hm := ifn c_83 hm
            refine lv_aload_n hx hb dX3_read_86 rfl (lv_at hl 0 rfl) ?_
            obtain ⟨r87, rd87, e_87, hm⟩ := bd2_s hm
            refine zcWi (As := []) (rest := []) ⟨hx, hb, hml, hown, hts⟩ (k_X3_readStatement l G K c ard rd_65 r87 rd87 e_87) (cwV 0 hts gX3_read_X3_readStatement rfl rfl rfl hd_X3_readStatement ⟨Nat.le_of_ble_eq_true rfl, Nat.le_of_ble_eq_true rfl⟩) hK hN hZ hP hD hS hA (va_recv hK hP (ci := 3) (q0 := 0) rfl rfl) rfl hl.1 rfl (Nat.le_of_ble_eq_true rfl) dX3_read_87 ⟨Nat.zero_le _, Nat.zero_le _⟩ (fun H locs hP hD hS => ?_)
            have hP : va_P G vwCl (wR c ard rd87) H := hP
            have hD : va_D A (wR c ard rd87) := hD
            refine lv_if_eq (tgt := 106) hx hb dX3_read_90 (by decide) (fun c_90 => ?_) (fun c_90 => ?_)
            · have hm := ifp c_90 hm
              refine lv_iconst (v := 0) hx hb dX3_read_106 (by decide) ?_
              refine lv_istore_n (lv' := [(2, .int 0), (0, .ref (ard 0)), (3, .int v3_65)]) hx hb dX3_read_107 rfl hl (by decide) rfl (fun ls hl => ?_)
              refine lv_iinc (k := 2) (v := (v3_65 + 1)) (lv' := [(3, .int (v3_65 + 1)), (2, .int 0), (0, .ref (ard 0))]) hx hb dX3_read_108 hl rfl rfl (by decide) rfl (fun ls hl => ?_)
              refine lv_goto (tgt := 65) hx hb dX3_read_111 (by decide) ?_
              exact ih_65 0 (v3_65 + 1) rd87 H locs ls hP hD hS (lv_sub hl [2, 1, 0] rfl) hm
            · have hm := ifn c_90 hm
              refine lv_aload_n hx hb dX3_read_93 rfl (lv_at hl 0 rfl) ?_
              refine lv_bipush (v := 59) hx hb dX3_read_94 (by decide) ?_
              obtain ⟨r96, rd96, e_96, hm⟩ := bd2_s hm
              refine zcWi (As := [.int 59]) (rest := []) ⟨hx, hb, hml, hown, hts⟩ (k_X3_takeSign l G K c ard rd87 59 r96 rd96 e_96) (cwV 1 hts gX3_read_X3_takeSign rfl rfl rfl hd_X3_takeSign ⟨Nat.le_of_ble_eq_true rfl, Nat.le_of_ble_eq_true rfl⟩) hK hN hZ hP hD hS hA (va_recv hK hP (ci := 3) (q0 := 0) rfl rfl) rfl hl.1 rfl (Nat.le_of_ble_eq_true rfl) dX3_read_96 ⟨Nat.zero_le _, Nat.zero_le _⟩ (fun H locs hP hD hS => ?_)
              have hP : va_P G vwCl (wR c ard rd96) H := hP
              have hD : va_D A (wR c ard rd96) := hD
              refine lv_if_eq (tgt := 106) hx hb dX3_read_99 (by decide) (fun c_99 => ?_) (fun c_99 => ?_)
              · have hm := ifp c_99 hm
                refine lv_iconst (v := 0) hx hb dX3_read_106 (by decide) ?_
                refine lv_istore_n (lv' := [(2, .int 0), (0, .ref (ard 0)), (3, .int v3_65)]) hx hb dX3_read_107 rfl hl (by decide) rfl (fun ls hl => ?_)
                refine lv_iinc (k := 2) (v := (v3_65 + 1)) (lv' := [(3, .int (v3_65 + 1)), (2, .int 0), (0, .ref (ard 0))]) hx hb dX3_read_108 hl rfl rfl (by decide) rfl (fun ls hl => ?_)
                refine lv_goto (tgt := 65) hx hb dX3_read_111 (by decide) ?_
                exact ih_65 0 (v3_65 + 1) rd96 H locs ls hP hD hS (lv_sub hl [2, 1, 0] rfl) hm
              · have hm := ifn c_99 hm
                refine lv_iconst (v := 1) hx hb dX3_read_102 (by decide) ?_
                refine lv_goto (tgt := 107) hx hb dX3_read_103 (by decide) ?_
                refine lv_istore_n (lv' := [(2, .int 1), (0, .ref (ard 0)), (3, .int v3_65)]) hx hb dX3_read_107 rfl hl (by decide) rfl (fun ls hl => ?_)
                refine lv_iinc (k := 2) (v := (v3_65 + 1)) (lv' := [(3, .int (v3_65 + 1)), (2, .int 1), (0, .ref (ard 0))]) hx hb dX3_read_108 hl rfl rfl (by decide) rfl (fun ls hl => ?_)
                refine lv_goto (tgt := 65) hx hb dX3_read_111 (by decide) ?_
                exact ih_65 1 (v3_65 + 1) rd96 H locs ls hP hD hS (lv_sub hl [2, 1, 0] rfl) hm
  exact L_65 FUEL r59 0 rd59 H locs ls hP hD hS (lv_sub hl [2, 1, 0] rfl) hm
