theorem hd_X3_readSum : yX3_readSum.cls = RX3 ∧ yX3_readSum.cls ≠ "java/lang/invoke/MethodHandle" ∧ yX3_readSum.cls ≠ "java/lang/invoke/VarHandle" ∧ (parseMethodDescriptor yX3_readSum.desc).map (fun d => d.parameters.length) = some 1 := by decide +kernel

def f_X3_readFactor (SN : RS → Int32 → Option (Int32 × RS)) (rd : RS) (p0 : Int32) : Option (Int32 × RS) :=
  bd1 (f_X5_isSign rd.2.1 40) fun (r6 : Int32) => if r6 = 0 then (bd1 (f_X5_isNumber rd.2.1) fun (r67 : Int32) => if r67 = 0 then (bd1 (f_X3_variableHere rd) fun (r97 : Int32) => if r97 = 0 then (bd2 (f_X3_fail rd (-2) (rd.2.1.1 3)) fun (r115 : Int32) (rd115 : RS) => gd (isb r115) <| some (r115, rd115)) else (bd1 (f_X5_advance rd.2.1) fun (tk123 : SA) => bd1 (f_X3_addStep (rd.1, tk123, rd.2.2) r97) fun (rd128 : RS) => some (1, rd128))) else (bd2 (f_X3_takeNumber rd 0 9999) fun (r78 : Int32) (rd78 : RS) => if r78 = 0 then (some (0, rd78)) else (bd1 (f_X3_addStep rd78 (rd78.1.1 0)) fun (rd91 : RS) => some (1, rd91)))) else (if p0 < 4 then (bd1 (f_X5_advance rd.2.1) fun (tk35 : SA) => bd2 (SN (rd.1, tk35, rd.2.2) (p0 + 1)) fun (r42 : Int32) (rd42 : RS) => if r42 = 0 then (some (0, rd42)) else (bd2 (f_X3_takeSign rd42 41) fun (r51 : Int32) (rd51 : RS) => if r51 = 0 then (some (0, rd51)) else (some (1, rd51)))) else (bd2 (f_X3_fail rd (-6) (rd.2.1.1 3)) fun (r27 : Int32) (rd27 : RS) => gd (isb r27) <| some (r27, rd27)))

abbrev rm_X3_readFactor (FF LL : Nat) : Room := { frames := FF + 11, cells := 0, slots := 0, locals := LL + 468 }
theorem hd_X3_readFactor : yX3_readFactor.cls = RX3 ∧ yX3_readFactor.cls ≠ "java/lang/invoke/MethodHandle" ∧ yX3_readFactor.cls ≠ "java/lang/invoke/VarHandle" ∧ (parseMethodDescriptor yX3_readFactor.desc).map (fun d => d.parameters.length) = some 1 := by decide +kernel
set_option maxHeartbeats 4000000 in
set_option maxRecDepth 100000 in
theorem k_X3_readFactor (l : Launch) (G : va_G) (K : (Nat → Nat) × (Nat → Nat)) (c : Nat → ClassId) (SN : RS → Int32 → Option (Int32 × RS)) (FF : Nat) (LL : Nat) (hSN : ∀ (ard : Nat → Nat) (rd : RS) (p0 : Int32) (r : Int32) (rd_r : RS), SN rd p0 = some (r, rd_r) → zMi l yX3_readSum wsX3_readSum { frames := FF, cells := 0, slots := 0, locals := LL } G K (TY c) [.ref (ard 0), .int p0] (wR c ard rd) (wR c ard rd_r) r) (ard : Nat → Nat) (rd : RS) (p0 : Int32) (r : Int32) (rd_r : RS) (hm : f_X3_readFactor SN rd p0 = some (r, rd_r)) : zMi l yX3_readFactor wsX3_readFactor (rm_X3_readFactor FF LL) G K (TY c) [.ref (ard 0), .int p0] (wR c ard rd) (wR c ard rd_r) r := by
  refine zMi.of (cc := cX3_readFactor) (maxL := 3) (lv := [(0, .ref (ard 0)), (1, .int p0)]) (by decide) rfl (Nat.le_of_ble_eq_true rfl) rfl ?_
  intro p e s m args below meth c1 A Q H locs hx hb hml hown hts hK hN hZ hP hD hA hS hend ls hl
  have hown : s.vm.findClass RX3 = some m.cls := hown
  have hi_3 : ∀ w ∈ wsX30, w ∈ wsX3_readFactor := (fun w h => List.mem_cons_of_mem _ (List.mem_append_left _ (List.mem_append_left _ (List.mem_append_right _ (h)))))
  have hi_5 : ∀ w ∈ wsX50, w ∈ wsX3_readFactor := (fun w h => List.mem_cons_of_mem _ (List.mem_append_left _ (List.mem_append_right _ (h))))
  unfold f_X3_readFactor at hm
  refine lv_aload_n hx hb dX3_readFactor_0 rfl (lv_at hl 0 rfl) ?_
  refine va_get (D := G) (ci := 3) (v := .ref (ard 2)) (C := RX3) (T := TX3) (N := 11) hx hb hts hi_3 hown hK hP 0 rfl rfl 0 (by decide) (hts (.fieldLink RX3 12 "HubTrains$SetupReader" "tokens" "LHubTrains$Tokens;") (List.mem_of_getElem? (i := 1) rfl)) (fun _ h9 => h9) rfl dX3_readFactor_1 ?_
  refine lv_bipush (v := 40) hx hb dX3_readFactor_4 (by decide) ?_
  obtain ⟨r6, e_6, hm⟩ := bd1_s hm
  refine zcVi (As := [.int 40]) (rest := []) ⟨hx, hb, hml, hown, hts⟩ (k_X5_isSign l G K c (ard 2) (ard 3) rd.2.1 40 r6 e_6) (cwV 1 hts gX3_readFactor_X5_isSign rfl rfl rfl hd_X5_isSign ⟨by dsimp only [rm_X3_readFactor, rm_X5_isSign]; omega, by dsimp only [rm_X3_readFactor, rm_X5_isSign]; omega⟩) hK hN hZ hP hD hS hA (va_recv hK hP (ci := 5) (q0 := 2) rfl rfl) [2, 3] rfl (by decide) rfl rfl hl.1 rfl (Nat.le_of_ble_eq_true rfl) dX3_readFactor_6 ⟨Nat.zero_le _, Nat.zero_le _⟩ (fun H locs hP hD hS => ?_)
  have hP : va_P G vwCl (wR c ard rd) H := hP
  have hD : va_D A (wR c ard rd) := hD
  refine lv_if_eq (tgt := 63) hx hb dX3_readFactor_9 (by decide) (fun c_9 => ?_) (fun c_9 => ?_)
  · have hm := ifp c_9 hm
    refine lv_aload_n hx hb dX3_readFactor_63 rfl (lv_at hl 0 rfl) ?_
    refine va_get (D := G) (ci := 3) (v := .ref (ard 2)) (C := RX3) (T := TX3) (N := 11) hx hb hts hi_3 hown hK hP 0 rfl rfl 0 (by decide) (hts (.fieldLink RX3 12 "HubTrains$SetupReader" "tokens" "LHubTrains$Tokens;") (List.mem_of_getElem? (i := 1) rfl)) (fun _ h9 => h9) rfl dX3_readFactor_64 ?_
    obtain ⟨r67, e_67, hm⟩ := bd1_s hm
    refine zcVi (As := []) (rest := []) ⟨hx, hb, hml, hown, hts⟩ (k_X5_isNumber l G K c (ard 2) (ard 3) rd.2.1 r67 e_67) (cwV 0 hts gX3_readFactor_X5_isNumber rfl rfl rfl hd_X5_isNumber ⟨by dsimp only [rm_X3_readFactor, rm_X5_isNumber]; omega, by dsimp only [rm_X3_readFactor, rm_X5_isNumber]; omega⟩) hK hN hZ hP hD hS hA (va_recv hK hP (ci := 5) (q0 := 2) rfl rfl) [2, 3] rfl (by decide) rfl rfl hl.1 rfl (Nat.le_of_ble_eq_true rfl) dX3_readFactor_67 ⟨Nat.zero_le _, Nat.zero_le _⟩ (fun H locs hP hD hS => ?_)
    have hP : va_P G vwCl (wR c ard rd) H := hP
    have hD : va_D A (wR c ard rd) := hD
    refine lv_if_eq (tgt := 96) hx hb dX3_readFactor_70 (by decide) (fun c_70 => ?_) (fun c_70 => ?_)
    · have hm := ifp c_70 hm
      refine lv_aload_n hx hb dX3_readFactor_96 rfl (lv_at hl 0 rfl) ?_
      obtain ⟨r97, e_97, hm⟩ := bd1_s hm
      refine zcWi (As := []) (rest := []) ⟨hx, hb, hml, hown, hts⟩ (k_X3_variableHere l G K c ard rd r97 e_97) (cwV 0 hts gX3_readFactor_X3_variableHere rfl rfl rfl hd_X3_variableHere ⟨by dsimp only [rm_X3_readFactor, rm_X3_variableHere]; omega, by dsimp only [rm_X3_readFactor, rm_X3_variableHere]; omega⟩) hK hN hZ hP hD hS hA (va_recv hK hP (ci := 3) (q0 := 0) rfl rfl) rfl hl.1 rfl (Nat.le_of_ble_eq_true rfl) dX3_readFactor_97 ⟨Nat.zero_le _, Nat.zero_le _⟩ (fun H locs hP hD hS => ?_)
      have hP : va_P G vwCl (wR c ard rd) H := hP
      have hD : va_D A (wR c ard rd) := hD
      refine lv_istore_n (lv' := [(2, .int r97), (0, .ref (ard 0)), (1, .int p0)]) hx hb dX3_readFactor_100 rfl hl (by decide) rfl (fun ls hl => ?_)
      refine lv_iload_n hx hb dX3_readFactor_101 rfl (lv_at hl 0 rfl) ?_
      refine lv_if_ne (tgt := 119) hx hb dX3_readFactor_102 (by decide) (fun c_102 => ?_) (fun c_102 => ?_)
      · have hm := ifn c_102 hm
        refine lv_aload_n hx hb dX3_readFactor_119 rfl (lv_at hl 1 rfl) ?_
        refine va_get (D := G) (ci := 3) (v := .ref (ard 2)) (C := RX3) (T := TX3) (N := 11) hx hb hts hi_3 hown hK hP 0 rfl rfl 0 (by decide) (hts (.fieldLink RX3 12 "HubTrains$SetupReader" "tokens" "LHubTrains$Tokens;") (List.mem_of_getElem? (i := 1) rfl)) (fun _ h9 => h9) rfl dX3_readFactor_120 ?_
        obtain ⟨tk123, e_123, hm⟩ := bd1_s hm
        refine zcVv (As := []) (rest := []) ⟨hx, hb, hml, hown, hts⟩ (k_X5_advance l G K c (ard 2) (ard 3) rd.2.1 tk123 e_123) (cwV 0 hts gX3_readFactor_X5_advance rfl rfl rfl hd_X5_advance ⟨by dsimp only [rm_X3_readFactor, rm_X5_advance]; omega, by dsimp only [rm_X3_readFactor, rm_X5_advance]; omega⟩) hK hN hZ hP hD hS hA (va_recv hK hP (ci := 5) (q0 := 2) rfl rfl) [2, 3] rfl (by decide) rfl rfl hl.1 rfl (Nat.le_of_ble_eq_true rfl) dX3_readFactor_123 ⟨Nat.zero_le _, Nat.zero_le _⟩ (fun H locs hP hD hS => ?_)
        have hP : va_P G vwCl (wR c ard (rd.1, tk123, rd.2.2)) H := hP
        have hD : va_D A (wR c ard (rd.1, tk123, rd.2.2)) := hD
        refine lv_aload_n hx hb dX3_readFactor_126 rfl (lv_at hl 1 rfl) ?_
        refine lv_iload_n hx hb dX3_readFactor_127 rfl (lv_at hl 0 rfl) ?_
        obtain ⟨rd128, e_128, hm⟩ := bd1_s hm
        refine zcWv (As := [.int r97]) (rest := []) ⟨hx, hb, hml, hown, hts⟩ (k_X3_addStep l G K c ard (rd.1, tk123, rd.2.2) r97 rd128 e_128) (cwV 1 hts gX3_readFactor_X3_addStep rfl rfl rfl hd_X3_addStep ⟨by dsimp only [rm_X3_readFactor, rm_X3_addStep]; omega, by dsimp only [rm_X3_readFactor, rm_X3_addStep]; omega⟩) hK hN hZ hP hD hS hA (va_recv hK hP (ci := 3) (q0 := 0) rfl rfl) rfl hl.1 rfl (Nat.le_of_ble_eq_true rfl) dX3_readFactor_128 ⟨Nat.zero_le _, Nat.zero_le _⟩ (fun H locs hP hD hS => ?_)
        have hP : va_P G vwCl (wR c ard rd128) H := hP
        have hD : va_D A (wR c ard rd128) := hD
        refine lv_iconst (v := 1) hx hb dX3_readFactor_131 (by decide) ?_
        exact hend H locs ls _ _ _ (by decide) (Prod.mk.inj (Option.some.inj hm)).1 (zc1 (fun (z0 : RS) => (wR c ard z0 : va_W)) (Prod.mk.inj (Option.some.inj hm)).2) hP hD hS dX3_readFactor_132
      · have hm := ifp c_102 hm
        refine lv_aload_n hx hb dX3_readFactor_105 rfl (lv_at hl 1 rfl) ?_
        refine lv_bipush (v := (-2)) hx hb dX3_readFactor_106 (by decide) ?_
        refine lv_aload_n hx hb dX3_readFactor_108 rfl (lv_at hl 1 rfl) ?_
        refine va_get (D := G) (ci := 3) (v := .ref (ard 2)) (C := RX3) (T := TX3) (N := 11) hx hb hts hi_3 hown hK hP 0 rfl rfl 0 (by decide) (hts (.fieldLink RX3 12 "HubTrains$SetupReader" "tokens" "LHubTrains$Tokens;") (List.mem_of_getElem? (i := 1) rfl)) (fun _ h9 => h9) rfl dX3_readFactor_109 ?_
        refine va_getN (D := G) (ci := 5) (v := .int (rd.2.1.1 3)) (C := RX5) (T := TX5) (N := 7) hx hb hts hi_5 hown hK hP 2 rfl rfl 4 (by decide) (va_Nw.use rfl (nwf_HubTrains_SetupReader_91 hN.1)) (fun _ h9 => h9) rfl dX3_readFactor_112 ?_
        obtain ⟨r115, rd115, e_115, hm⟩ := bd2_s hm
        refine zcWi (As := [.int (-2), .int (rd.2.1.1 3)]) (rest := []) ⟨hx, hb, hml, hown, hts⟩ (k_X3_fail l G K c ard rd (-2) (rd.2.1.1 3) r115 rd115 e_115) (cwV 2 hts gX3_readFactor_X3_fail rfl rfl rfl hd_X3_fail ⟨by dsimp only [rm_X3_readFactor, rm_X3_fail]; omega, by dsimp only [rm_X3_readFactor, rm_X3_fail]; omega⟩) hK hN hZ hP hD hS hA (va_recv hK hP (ci := 3) (q0 := 0) rfl rfl) rfl hl.1 rfl (Nat.le_of_ble_eq_true rfl) dX3_readFactor_115 ⟨Nat.zero_le _, Nat.zero_le _⟩ (fun H locs hP hD hS => ?_)
        have hP : va_P G vwCl (wR c ard rd115) H := hP
        have hD : va_D A (wR c ard rd115) := hD
        obtain ⟨h_118, hm⟩ := gd_s hm
        exact hend H locs ls _ _ _ (isb_n h_118) (Prod.mk.inj (Option.some.inj hm)).1 (zc1 (fun (z0 : RS) => (wR c ard z0 : va_W)) (Prod.mk.inj (Option.some.inj hm)).2) hP hD hS dX3_readFactor_118
    · have hm := ifn c_70 hm
      refine lv_aload_n hx hb dX3_readFactor_73 rfl (lv_at hl 0 rfl) ?_
      refine lv_iconst (v := 0) hx hb dX3_readFactor_74 (by decide) ?_
      refine lv_sipush (v := 9999) hx hb dX3_readFactor_75 (by decide) ?_
      obtain ⟨r78, rd78, e_78, hm⟩ := bd2_s hm
      refine zcWi (As := [.int 0, .int 9999]) (rest := []) ⟨hx, hb, hml, hown, hts⟩ (k_X3_takeNumber l G K c ard rd 0 9999 r78 rd78 e_78) (cwV 2 hts gX3_readFactor_X3_takeNumber rfl rfl rfl hd_X3_takeNumber ⟨by dsimp only [rm_X3_readFactor, rm_X3_takeNumber]; omega, by dsimp only [rm_X3_readFactor, rm_X3_takeNumber]; omega⟩) hK hN hZ hP hD hS hA (va_recv hK hP (ci := 3) (q0 := 0) rfl rfl) rfl hl.1 rfl (Nat.le_of_ble_eq_true rfl) dX3_readFactor_78 ⟨Nat.zero_le _, Nat.zero_le _⟩ (fun H locs hP hD hS => ?_)
      have hP : va_P G vwCl (wR c ard rd78) H := hP
      have hD : va_D A (wR c ard rd78) := hD
      refine lv_if_ne (tgt := 86) hx hb dX3_readFactor_81 (by decide) (fun c_81 => ?_) (fun c_81 => ?_)
      · have hm := ifn c_81 hm
        refine lv_aload_n hx hb dX3_readFactor_86 rfl (lv_at hl 0 rfl) ?_
        refine lv_aload_n hx hb dX3_readFactor_87 rfl (lv_at hl 0 rfl) ?_
        refine va_get (D := G) (ci := 3) (v := .int (rd78.1.1 0)) (C := RX3) (T := TX3) (N := 11) hx hb hts hi_3 hown hK hP 0 rfl rfl 2 (by decide) (hts (.fieldLink RX3 104 "HubTrains$SetupReader" "number" "I") (List.mem_of_getElem? (i := 2) rfl)) (fun _ h9 => h9) rfl dX3_readFactor_88 ?_
        obtain ⟨rd91, e_91, hm⟩ := bd1_s hm
        refine zcWv (As := [.int (rd78.1.1 0)]) (rest := []) ⟨hx, hb, hml, hown, hts⟩ (k_X3_addStep l G K c ard rd78 (rd78.1.1 0) rd91 e_91) (cwV 1 hts gX3_readFactor_X3_addStep rfl rfl rfl hd_X3_addStep ⟨by dsimp only [rm_X3_readFactor, rm_X3_addStep]; omega, by dsimp only [rm_X3_readFactor, rm_X3_addStep]; omega⟩) hK hN hZ hP hD hS hA (va_recv hK hP (ci := 3) (q0 := 0) rfl rfl) rfl hl.1 rfl (Nat.le_of_ble_eq_true rfl) dX3_readFactor_91 ⟨Nat.zero_le _, Nat.zero_le _⟩ (fun H locs hP hD hS => ?_)
        have hP : va_P G vwCl (wR c ard rd91) H := hP
        have hD : va_D A (wR c ard rd91) := hD
        refine lv_iconst (v := 1) hx hb dX3_readFactor_94 (by decide) ?_
        exact hend H locs ls _ _ _ (by decide) (Prod.mk.inj (Option.some.inj hm)).1 (zc1 (fun (z0 : RS) => (wR c ard z0 : va_W)) (Prod.mk.inj (Option.some.inj hm)).2) hP hD hS dX3_readFactor_95
      · have hm := ifp c_81 hm
        refine lv_iconst (v := 0) hx hb dX3_readFactor_84 (by decide) ?_
        exact hend H locs ls _ _ _ (by decide) (Prod.mk.inj (Option.some.inj hm)).1 (zc1 (fun (z0 : RS) => (wR c ard z0 : va_W)) (Prod.mk.inj (Option.some.inj hm)).2) hP hD hS dX3_readFactor_85
  · have hm := ifn c_9 hm
    refine lv_iload_n hx hb dX3_readFactor_12 rfl (lv_at hl 1 rfl) ?_
    refine lv_iconst (v := 4) hx hb dX3_readFactor_13 (by decide) ?_
    refine lv_icmp_lt (tgt := 31) hx hb dX3_readFactor_14 (by decide) (fun c_14 => ?_) (fun c_14 => ?_)
    · have hm := ifp c_14 hm
      refine lv_aload_n hx hb dX3_readFactor_31 rfl (lv_at hl 0 rfl) ?_
      refine va_get (D := G) (ci := 3) (v := .ref (ard 2)) (C := RX3) (T := TX3) (N := 11) hx hb hts hi_3 hown hK hP 0 rfl rfl 0 (by decide) (hts (.fieldLink RX3 12 "HubTrains$SetupReader" "tokens" "LHubTrains$Tokens;") (List.mem_of_getElem? (i := 1) rfl)) (fun _ h9 => h9) rfl dX3_readFactor_32 ?_
      obtain ⟨tk35, e_35, hm⟩ := bd1_s hm
      refine zcVv (As := []) (rest := []) ⟨hx, hb, hml, hown, hts⟩ (k_X5_advance l G K c (ard 2) (ard 3) rd.2.1 tk35 e_35) (cwV 0 hts gX3_readFactor_X5_advance rfl rfl rfl hd_X5_advance ⟨by dsimp only [rm_X3_readFactor, rm_X5_advance]; omega, by dsimp only [rm_X3_readFactor, rm_X5_advance]; omega⟩) hK hN hZ hP hD hS hA (va_recv hK hP (ci := 5) (q0 := 2) rfl rfl) [2, 3] rfl (by decide) rfl rfl hl.1 rfl (Nat.le_of_ble_eq_true rfl) dX3_readFactor_35 ⟨Nat.zero_le _, Nat.zero_le _⟩ (fun H locs hP hD hS => ?_)
      have hP : va_P G vwCl (wR c ard (rd.1, tk35, rd.2.2)) H := hP
      have hD : va_D A (wR c ard (rd.1, tk35, rd.2.2)) := hD
      refine lv_aload_n hx hb dX3_readFactor_38 rfl (lv_at hl 0 rfl) ?_
      refine lv_iload_n hx hb dX3_readFactor_39 rfl (lv_at hl 1 rfl) ?_
      refine lv_iconst (v := 1) hx hb dX3_readFactor_40 (by decide) ?_
      refine lv_iadd hx hb dX3_readFactor_41 ?_
      obtain ⟨r42, rd42, e_42, hm⟩ := bd2_s hm
      refine zcWi (As := [.int (p0 + 1)]) (rest := []) ⟨hx, hb, hml, hown, hts⟩ (hSN ard (rd.1, tk35, rd.2.2) (p0 + 1) r42 rd42 e_42) (cwV 1 hts gX3_readFactor_X3_readSum rfl rfl rfl hd_X3_readSum ⟨by dsimp only [rm_X3_readFactor]; omega, by dsimp only [rm_X3_readFactor]; omega⟩) hK hN hZ hP hD hS hA (va_recv hK hP (ci := 3) (q0 := 0) rfl rfl) rfl hl.1 rfl (Nat.le_of_ble_eq_true rfl) dX3_readFactor_42 ⟨Nat.zero_le _, Nat.zero_le _⟩ (fun H locs hP hD hS => ?_)
      have hP : va_P G vwCl (wR c ard rd42) H := hP
      have hD : va_D A (wR c ard rd42) := hD
      refine lv_if_eq (tgt := 61) hx hb dX3_readFactor_45 (by decide) (fun c_45 => ?_) (fun c_45 => ?_)
      · have hm := ifp c_45 hm
        refine lv_iconst (v := 0) hx hb dX3_readFactor_61 (by decide) ?_
        exact hend H locs ls _ _ _ (by decide) (Prod.mk.inj (Option.some.inj hm)).1 (zc1 (fun (z0 : RS) => (wR c ard z0 : va_W)) (Prod.mk.inj (Option.some.inj hm)).2) hP hD hS dX3_readFactor_62
      · have hm := ifn c_45 hm
        refine lv_aload_n hx hb dX3_readFactor_48 rfl (lv_at hl 0 rfl) ?_
        refine lv_bipush (v := 41) hx hb dX3_readFactor_49 (by decide) ?_
        obtain ⟨r51, rd51, e_51, hm⟩ := bd2_s hm
        refine zcWi (As := [.int 41]) (rest := []) ⟨hx, hb, hml, hown, hts⟩ (k_X3_takeSign l G K c ard rd42 41 r51 rd51 e_51) (cwV 1 hts gX3_readFactor_X3_takeSign rfl rfl rfl hd_X3_takeSign ⟨by dsimp only [rm_X3_readFactor, rm_X3_takeSign]; omega, by dsimp only [rm_X3_readFactor, rm_X3_takeSign]; omega⟩) hK hN hZ hP hD hS hA (va_recv hK hP (ci := 3) (q0 := 0) rfl rfl) rfl hl.1 rfl (Nat.le_of_ble_eq_true rfl) dX3_readFactor_51 ⟨Nat.zero_le _, Nat.zero_le _⟩ (fun H locs hP hD hS => ?_)
        have hP : va_P G vwCl (wR c ard rd51) H := hP
        have hD : va_D A (wR c ard rd51) := hD
        refine lv_if_eq (tgt := 61) hx hb dX3_readFactor_54 (by decide) (fun c_54 => ?_) (fun c_54 => ?_)
        · have hm := ifp c_54 hm
          refine lv_iconst (v := 0) hx hb dX3_readFactor_61 (by decide) ?_
          exact hend H locs ls _ _ _ (by decide) (Prod.mk.inj (Option.some.inj hm)).1 (zc1 (fun (z0 : RS) => (wR c ard z0 : va_W)) (Prod.mk.inj (Option.some.inj hm)).2) hP hD hS dX3_readFactor_62
        · have hm := ifn c_54 hm
          refine lv_iconst (v := 1) hx hb dX3_readFactor_57 (by decide) ?_
          refine lv_goto (tgt := 62) hx hb dX3_readFactor_58 (by decide) ?_
          exact hend H locs ls _ _ _ (by decide) (Prod.mk.inj (Option.some.inj hm)).1 (zc1 (fun (z0 : RS) => (wR c ard z0 : va_W)) (Prod.mk.inj (Option.some.inj hm)).2) hP hD hS dX3_readFactor_62
    · have hm := ifn c_14 hm
      refine lv_aload_n hx hb dX3_readFactor_17 rfl (lv_at hl 0 rfl) ?_
      refine lv_bipush (v := (-6)) hx hb dX3_readFactor_18 (by decide) ?_
      refine lv_aload_n hx hb dX3_readFactor_20 rfl (lv_at hl 0 rfl) ?_
      refine va_get (D := G) (ci := 3) (v := .ref (ard 2)) (C := RX3) (T := TX3) (N := 11) hx hb hts hi_3 hown hK hP 0 rfl rfl 0 (by decide) (hts (.fieldLink RX3 12 "HubTrains$SetupReader" "tokens" "LHubTrains$Tokens;") (List.mem_of_getElem? (i := 1) rfl)) (fun _ h9 => h9) rfl dX3_readFactor_21 ?_
      refine va_getN (D := G) (ci := 5) (v := .int (rd.2.1.1 3)) (C := RX5) (T := TX5) (N := 7) hx hb hts hi_5 hown hK hP 2 rfl rfl 4 (by decide) (va_Nw.use rfl (nwf_HubTrains_SetupReader_91 hN.1)) (fun _ h9 => h9) rfl dX3_readFactor_24 ?_
      obtain ⟨r27, rd27, e_27, hm⟩ := bd2_s hm
      refine zcWi (As := [.int (-6), .int (rd.2.1.1 3)]) (rest := []) ⟨hx, hb, hml, hown, hts⟩ (k_X3_fail l G K c ard rd (-6) (rd.2.1.1 3) r27 rd27 e_27) (cwV 2 hts gX3_readFactor_X3_fail rfl rfl rfl hd_X3_fail ⟨by dsimp only [rm_X3_readFactor, rm_X3_fail]; omega, by dsimp only [rm_X3_readFactor, rm_X3_fail]; omega⟩) hK hN hZ hP hD hS hA (va_recv hK hP (ci := 3) (q0 := 0) rfl rfl) rfl hl.1 rfl (Nat.le_of_ble_eq_true rfl) dX3_readFactor_27 ⟨Nat.zero_le _, Nat.zero_le _⟩ (fun H locs hP hD hS => ?_)
      have hP : va_P G vwCl (wR c ard rd27) H := hP
      have hD : va_D A (wR c ard rd27) := hD
      obtain ⟨h_30, hm⟩ := gd_s hm
      exact hend H locs ls _ _ _ (isb_n h_30) (Prod.mk.inj (Option.some.inj hm)).1 (zc1 (fun (z0 : RS) => (wR c ard z0 : va_W)) (Prod.mk.inj (Option.some.inj hm)).2) hP hD hS dX3_readFactor_30

def f_X3_readTerm_J62 (p0 : Int32) (SN : RS → Int32 → Option (Int32 × RS)) (rec_8 : Int32 → Int32 → RS → Option (Int32 × RS)) (v3_8 : Int32) (rd_8 : RS) (s0_62 : Int32) : Option (Int32 × RS) :=
  bd1 (f_X5_advance rd_8.2.1) fun (tk68 : SA) => bd2 (f_X3_readFactor SN (rd_8.1, tk68, rd_8.2.2) p0) fun (r73 : Int32) (rd73 : RS) => bd1 (f_X3_addStep rd73 s0_62) fun (rd80 : RS) => rec_8 r73 (v3_8 + 1) rd80

def f_X3_readTerm_J36 (p0 : Int32) (SN : RS → Int32 → Option (Int32 × RS)) (rec_8 : Int32 → Int32 → RS → Option (Int32 × RS)) (v2_8 : Int32) (v3_8 : Int32) (rd_8 : RS) : Option (Int32 × RS) :=
  if (500 : Int32) ≤ v3_8 then (gd (isb v2_8) <| some (v2_8, rd_8)) else (bd1 (f_X5_isSign rd_8.2.1 42) fun (r49 : Int32) => if r49 = 0 then (f_X3_readTerm_J62 p0 SN rec_8 v3_8 rd_8 (-9)) else (f_X3_readTerm_J62 p0 SN rec_8 v3_8 rd_8 (-8)))

def f_X3_readTerm_B8 (p0 : Int32) (SN : RS → Int32 → Option (Int32 × RS)) (rec_8 : Int32 → Int32 → RS → Option (Int32 × RS)) (v2_8 : Int32) (v3_8 : Int32) (rd_8 : RS) : Option (Int32 × RS) :=
  if v2_8 = 0 then (gd (isb v2_8) <| some (v2_8, rd_8)) else (bd1 (f_X5_isSign rd_8.2.1 42) fun (r18 : Int32) => if r18 = 0 then (bd1 (f_X5_isSign rd_8.2.1 47) fun (r30 : Int32) => if r30 = 0 then (gd (isb v2_8) <| some (v2_8, rd_8)) else (f_X3_readTerm_J36 p0 SN rec_8 v2_8 v3_8 rd_8)) else (f_X3_readTerm_J36 p0 SN rec_8 v2_8 v3_8 rd_8))

def f_X3_readTerm (SN : RS → Int32 → Option (Int32 × RS)) (rd : RS) (p0 : Int32) : Option (Int32 × RS) :=
  bd2 (f_X3_readFactor SN rd p0) fun (r2 : Int32) (rd2 : RS) => itr3 (f_X3_readTerm_B8 p0 SN) FUEL r2 0 rd2

abbrev rm_X3_readTerm (FF LL : Nat) : Room := { frames := FF + 12, cells := 0, slots := 0, locals := LL + 490 }
theorem hd_X3_readTerm : yX3_readTerm.cls = RX3 ∧ yX3_readTerm.cls ≠ "java/lang/invoke/MethodHandle" ∧ yX3_readTerm.cls ≠ "java/lang/invoke/VarHandle" ∧ (parseMethodDescriptor yX3_readTerm.desc).map (fun d => d.parameters.length) = some 1 := by decide +kernel
set_option maxHeartbeats 4000000 in
set_option maxRecDepth 100000 in
theorem k_X3_readTerm (l : Launch) (G : va_G) (K : (Nat → Nat) × (Nat → Nat)) (c : Nat → ClassId) (SN : RS → Int32 → Option (Int32 × RS)) (FF : Nat) (LL : Nat) (hSN : ∀ (ard : Nat → Nat) (rd : RS) (p0 : Int32) (r : Int32) (rd_r : RS), SN rd p0 = some (r, rd_r) → zMi l yX3_readSum wsX3_readSum { frames := FF, cells := 0, slots := 0, locals := LL } G K (TY c) [.ref (ard 0), .int p0] (wR c ard rd) (wR c ard rd_r) r) (ard : Nat → Nat) (rd : RS) (p0 : Int32) (r : Int32) (rd_r : RS) (hm : f_X3_readTerm SN rd p0 = some (r, rd_r)) : zMi l yX3_readTerm wsX3_readTerm (rm_X3_readTerm FF LL) G K (TY c) [.ref (ard 0), .int p0] (wR c ard rd) (wR c ard rd_r) r := by
  refine zMi.of (cc := cX3_readTerm) (maxL := 5) (lv := [(0, .ref (ard 0)), (1, .int p0)]) (by decide) rfl (Nat.le_of_ble_eq_true rfl) rfl ?_
  intro p e s m args below meth c1 A Q H locs hx hb hml hown hts hK hN hZ hP hD hA hS hend ls hl
  have hown : s.vm.findClass RX3 = some m.cls := hown
  have hi_3 : ∀ w ∈ wsX30, w ∈ wsX3_readTerm := (fun w h => List.mem_cons_of_mem _ (List.mem_append_left _ (List.mem_append_left _ (List.mem_append_right _ (h)))))
  unfold f_X3_readTerm at hm
  refine lv_aload_n hx hb dX3_readTerm_0 rfl (lv_at hl 0 rfl) ?_
  refine lv_iload_n hx hb dX3_readTerm_1 rfl (lv_at hl 1 rfl) ?_
  obtain ⟨r2, rd2, e_2, hm⟩ := bd2_s hm
  refine zcWi (As := [.int p0]) (rest := []) ⟨hx, hb, hml, hown, hts⟩ (k_X3_readFactor l G K c SN FF LL hSN ard rd p0 r2 rd2 e_2) (cwV 1 hts gX3_readTerm_X3_readFactor rfl rfl rfl hd_X3_readFactor ⟨by dsimp only [rm_X3_readTerm, rm_X3_readFactor]; omega, by dsimp only [rm_X3_readTerm, rm_X3_readFactor]; omega⟩) hK hN hZ hP hD hS hA (va_recv hK hP (ci := 3) (q0 := 0) rfl rfl) rfl hl.1 rfl (Nat.le_of_ble_eq_true rfl) dX3_readTerm_2 ⟨Nat.zero_le _, Nat.zero_le _⟩ (fun H locs hP hD hS => ?_)
  have hP : va_P G vwCl (wR c ard rd2) H := hP
  have hD : va_D A (wR c ard rd2) := hD
  refine lv_istore_n (lv' := [(2, .int r2), (0, .ref (ard 0)), (1, .int p0)]) hx hb dX3_readTerm_5 rfl hl (by decide) rfl (fun ls hl => ?_)
  refine lv_iconst (v := 0) hx hb dX3_readTerm_6 (by decide) ?_
  refine lv_istore_n (lv' := [(3, .int 0), (2, .int r2), (0, .ref (ard 0)), (1, .int p0)]) hx hb dX3_readTerm_7 rfl hl (by decide) rfl (fun ls hl => ?_)
  have L_8 : ∀ (n_8 : Nat) (v2_8 : Int32) (v3_8 : Int32) (rd_8 : RS) (H : Heap) (locs : List Loc) (ls : Array Slot), va_P G vwCl (wR c ard rd_8) H → va_D A (wR c ard rd_8) → va_S A s.heap H locs → lv_has ls 5 [(0, .ref (ard 0)), (1, .int p0), (2, .int v2_8), (3, .int v3_8)] → itr3 (f_X3_readTerm_B8 p0 SN) n_8 v2_8 v3_8 rd_8 = some (r, rd_r) → W p l e (rm_X3_readTerm FF LL) s m args below meth c1 H locs 0 0 Q (F0 m 8 ls []) := by
    intro n_8
    induction n_8 with
    | zero => intro v2_8 v3_8 rd_8 H locs ls hP hD hS hl hm; exact (itr3_0 hm).elim
    | succ n_8 ih_8 =>
      intro v2_8 v3_8 rd_8 H locs ls hP hD hS hl hm
      have hm := itr3_s hm
      unfold f_X3_readTerm_B8 at hm
      refine lv_iload_n hx hb dX3_readTerm_8 rfl (lv_at hl 2 rfl) ?_
      refine lv_if_eq (tgt := 89) hx hb dX3_readTerm_9 (by decide) (fun c_9 => ?_) (fun c_9 => ?_)
      · have hm := ifp c_9 hm
        refine lv_iload_n hx hb dX3_readTerm_89 rfl (lv_at hl 2 rfl) ?_
        obtain ⟨h_90, hm⟩ := gd_s hm
        exact hend H locs ls _ _ _ (isb_n h_90) (Prod.mk.inj (Option.some.inj hm)).1 (zc1 (fun (z0 : RS) => (wR c ard z0 : va_W)) (Prod.mk.inj (Option.some.inj hm)).2) hP hD hS dX3_readTerm_90
      · have hm := ifn c_9 hm
        refine lv_aload_n hx hb dX3_readTerm_12 rfl (lv_at hl 0 rfl) ?_
        refine va_get (D := G) (ci := 3) (v := .ref (ard 2)) (C := RX3) (T := TX3) (N := 11) hx hb hts hi_3 hown hK hP 0 rfl rfl 0 (by decide) (hts (.fieldLink RX3 12 "HubTrains$SetupReader" "tokens" "LHubTrains$Tokens;") (List.mem_of_getElem? (i := 1) rfl)) (fun _ h9 => h9) rfl dX3_readTerm_13 ?_
        refine lv_bipush (v := 42) hx hb dX3_readTerm_16 (by decide) ?_
        obtain ⟨r18, e_18, hm⟩ := bd1_s hm
        refine zcVi (As := [.int 42]) (rest := []) ⟨hx, hb, hml, hown, hts⟩ (k_X5_isSign l G K c (ard 2) (ard 3) rd_8.2.1 42 r18 e_18) (cwV 1 hts gX3_readTerm_X5_isSign rfl rfl rfl hd_X5_isSign ⟨by dsimp only [rm_X3_readTerm, rm_X5_isSign]; omega, by dsimp only [rm_X3_readTerm, rm_X5_isSign]; omega⟩) hK hN hZ hP hD hS hA (va_recv hK hP (ci := 5) (q0 := 2) rfl rfl) [2, 3] rfl (by decide) rfl rfl hl.1 rfl (Nat.le_of_ble_eq_true rfl) dX3_readTerm_18 ⟨Nat.zero_le _, Nat.zero_le _⟩ (fun H locs hP hD hS => ?_)
        have hP : va_P G vwCl (wR c ard rd_8) H := hP
        have hD : va_D A (wR c ard rd_8) := hD
        have J_36 : ∀ (H : Heap) (locs : List Loc) (ls : Array Slot), va_P G vwCl (wR c ard rd_8) H → va_D A (wR c ard rd_8) → va_S A s.heap H locs → lv_has ls 5 [(0, .ref (ard 0)), (1, .int p0), (2, .int v2_8), (3, .int v3_8)] → f_X3_readTerm_J36 p0 SN (itr3 (f_X3_readTerm_B8 p0 SN) n_8) v2_8 v3_8 rd_8 = some (r, rd_r) → W p l e (rm_X3_readTerm FF LL) s m args below meth c1 H locs 0 0 Q (F0 m 36 ls []) := by
          intro  H locs ls hP hD hS hl hm
          unfold f_X3_readTerm_J36 at hm
          refine lv_iload_n hx hb dX3_readTerm_36 rfl (lv_at hl 3 rfl) ?_
          refine lv_sipush (v := 500) hx hb dX3_readTerm_37 (by decide) ?_
          refine lv_icmp_ge (tgt := 89) hx hb dX3_readTerm_40 (by decide) (fun c_40 => ?_) (fun c_40 => ?_)
          · have hm := ifp c_40 hm
            refine lv_iload_n hx hb dX3_readTerm_89 rfl (lv_at hl 2 rfl) ?_
            obtain ⟨h_90, hm⟩ := gd_s hm
            exact hend H locs ls _ _ _ (isb_n h_90) (Prod.mk.inj (Option.some.inj hm)).1 (zc1 (fun (z0 : RS) => (wR c ard z0 : va_W)) (Prod.mk.inj (Option.some.inj hm)).2) hP hD hS dX3_readTerm_90
          · have hm := ifn c_40 hm
            refine lv_aload_n hx hb dX3_readTerm_43 rfl (lv_at hl 0 rfl) ?_
            refine va_get (D := G) (ci := 3) (v := .ref (ard 2)) (C := RX3) (T := TX3) (N := 11) hx hb hts hi_3 hown hK hP 0 rfl rfl 0 (by decide) (hts (.fieldLink RX3 12 "HubTrains$SetupReader" "tokens" "LHubTrains$Tokens;") (List.mem_of_getElem? (i := 1) rfl)) (fun _ h9 => h9) rfl dX3_readTerm_44 ?_
            refine lv_bipush (v := 42) hx hb dX3_readTerm_47 (by decide) ?_
            obtain ⟨r49, e_49, hm⟩ := bd1_s hm
            refine zcVi (As := [.int 42]) (rest := []) ⟨hx, hb, hml, hown, hts⟩ (k_X5_isSign l G K c (ard 2) (ard 3) rd_8.2.1 42 r49 e_49) (cwV 1 hts gX3_readTerm_X5_isSign rfl rfl rfl hd_X5_isSign ⟨by dsimp only [rm_X3_readTerm, rm_X5_isSign]; omega, by dsimp only [rm_X3_readTerm, rm_X5_isSign]; omega⟩) hK hN hZ hP hD hS hA (va_recv hK hP (ci := 5) (q0 := 2) rfl rfl) [2, 3] rfl (by decide) rfl rfl hl.1 rfl (Nat.le_of_ble_eq_true rfl) dX3_readTerm_49 ⟨Nat.zero_le _, Nat.zero_le _⟩ (fun H locs hP hD hS => ?_)
            have hP : va_P G vwCl (wR c ard rd_8) H := hP
            have hD : va_D A (wR c ard rd_8) := hD
            have J_62 : ∀ (s0_62 : Int32) (H : Heap) (locs : List Loc) (ls : Array Slot), va_P G vwCl (wR c ard rd_8) H → va_D A (wR c ard rd_8) → va_S A s.heap H locs → lv_has ls 5 [(0, .ref (ard 0)), (1, .int p0), (3, .int v3_8)] → f_X3_readTerm_J62 p0 SN (itr3 (f_X3_readTerm_B8 p0 SN) n_8) v3_8 rd_8 s0_62 = some (r, rd_r) → W p l e (rm_X3_readTerm FF LL) s m args below meth c1 H locs 0 0 Q (F0 m 62 ls [.int s0_62]) := by
              intro s0_62 H locs ls hP hD hS hl hm
              unfold f_X3_readTerm_J62 at hm
              refine lv_istore (lv' := [(4, .int s0_62), (0, .ref (ard 0)), (1, .int p0), (3, .int v3_8)]) hx hb dX3_readTerm_62 hl (by decide) rfl (fun ls hl => ?_)
              refine lv_aload_n hx hb dX3_readTerm_64 rfl (lv_at hl 1 rfl) ?_
              refine va_get (D := G) (ci := 3) (v := .ref (ard 2)) (C := RX3) (T := TX3) (N := 11) hx hb hts hi_3 hown hK hP 0 rfl rfl 0 (by decide) (hts (.fieldLink RX3 12 "HubTrains$SetupReader" "tokens" "LHubTrains$Tokens;") (List.mem_of_getElem? (i := 1) rfl)) (fun _ h9 => h9) rfl dX3_readTerm_65 ?_
              obtain ⟨tk68, e_68, hm⟩ := bd1_s hm
              refine zcVv (As := []) (rest := []) ⟨hx, hb, hml, hown, hts⟩ (k_X5_advance l G K c (ard 2) (ard 3) rd_8.2.1 tk68 e_68) (cwV 0 hts gX3_readTerm_X5_advance rfl rfl rfl hd_X5_advance ⟨by dsimp only [rm_X3_readTerm, rm_X5_advance]; omega, by dsimp only [rm_X3_readTerm, rm_X5_advance]; omega⟩) hK hN hZ hP hD hS hA (va_recv hK hP (ci := 5) (q0 := 2) rfl rfl) [2, 3] rfl (by decide) rfl rfl hl.1 rfl (Nat.le_of_ble_eq_true rfl) dX3_readTerm_68 ⟨Nat.zero_le _, Nat.zero_le _⟩ (fun H locs hP hD hS => ?_)
              have hP : va_P G vwCl (wR c ard (rd_8.1, tk68, rd_8.2.2)) H := hP
              have hD : va_D A (wR c ard (rd_8.1, tk68, rd_8.2.2)) := hD
              refine lv_aload_n hx hb dX3_readTerm_71 rfl (lv_at hl 1 rfl) ?_
              refine lv_iload_n hx hb dX3_readTerm_72 rfl (lv_at hl 2 rfl) ?_
              obtain ⟨r73, rd73, e_73, hm⟩ := bd2_s hm
              refine zcWi (As := [.int p0]) (rest := []) ⟨hx, hb, hml, hown, hts⟩ (k_X3_readFactor l G K c SN FF LL hSN ard (rd_8.1, tk68, rd_8.2.2) p0 r73 rd73 e_73) (cwV 1 hts gX3_readTerm_X3_readFactor rfl rfl rfl hd_X3_readFactor ⟨by dsimp only [rm_X3_readTerm, rm_X3_readFactor]; omega, by dsimp only [rm_X3_readTerm, rm_X3_readFactor]; omega⟩) hK hN hZ hP hD hS hA (va_recv hK hP (ci := 3) (q0 := 0) rfl rfl) rfl hl.1 rfl (Nat.le_of_ble_eq_true rfl) dX3_readTerm_73 ⟨Nat.zero_le _, Nat.zero_le _⟩ (fun H locs hP hD hS => ?_)
              have hP : va_P G vwCl (wR c ard rd73) H := hP
              have hD : va_D A (wR c ard rd73) := hD
              refine lv_istore_n (lv' := [(2, .int r73), (4, .int s0_62), (0, .ref (ard 0)), (1, .int p0), (3, .int v3_8)]) hx hb dX3_readTerm_76 rfl hl (by decide) rfl (fun ls hl => ?_)
              refine lv_aload_n hx hb dX3_readTerm_77 rfl (lv_at hl 2 rfl) ?_
              refine lv_iload hx hb dX3_readTerm_78 (lv_at hl 1 rfl) ?_
              obtain ⟨rd80, e_80, hm⟩ := bd1_s hm
              refine zcWv (As := [.int s0_62]) (rest := []) ⟨hx, hb, hml, hown, hts⟩ (k_X3_addStep l G K c ard rd73 s0_62 rd80 e_80) (cwV 1 hts gX3_readTerm_X3_addStep rfl rfl rfl hd_X3_addStep ⟨by dsimp only [rm_X3_readTerm, rm_X3_addStep]; omega, by dsimp only [rm_X3_readTerm, rm_X3_addStep]; omega⟩) hK hN hZ hP hD hS hA (va_recv hK hP (ci := 3) (q0 := 0) rfl rfl) rfl hl.1 rfl (Nat.le_of_ble_eq_true rfl) dX3_readTerm_80 ⟨Nat.zero_le _, Nat.zero_le _⟩ (fun H locs hP hD hS => ?_)
              have hP : va_P G vwCl (wR c ard rd80) H := hP
              have hD : va_D A (wR c ard rd80) := hD
              refine lv_iinc (k := 4) (v := (v3_8 + 1)) (lv' := [(3, .int (v3_8 + 1)), (2, .int r73), (4, .int s0_62), (0, .ref (ard 0)), (1, .int p0)]) hx hb dX3_readTerm_83 hl rfl rfl (by decide) rfl (fun ls hl => ?_)
              refine lv_goto (tgt := 8) hx hb dX3_readTerm_86 (by decide) ?_
              exact ih_8 r73 (v3_8 + 1) rd80 H locs ls hP hD hS (lv_sub hl [3, 4, 1, 0] rfl) hm
            refine lv_if_eq (tgt := 60) hx hb dX3_readTerm_52 (by decide) (fun c_52 => ?_) (fun c_52 => ?_)
            · have hm := ifp c_52 hm
              refine lv_bipush (v := (-9)) hx hb dX3_readTerm_60 (by decide) ?_
              exact J_62 (-9) H locs ls hP hD hS (lv_sub hl [0, 1, 3] rfl) hm
            · have hm := ifn c_52 hm
              refine lv_bipush (v := (-8)) hx hb dX3_readTerm_55 (by decide) ?_
              refine lv_goto (tgt := 62) hx hb dX3_readTerm_57 (by decide) ?_
              exact J_62 (-8) H locs ls hP hD hS (lv_sub hl [0, 1, 3] rfl) hm
        refine lv_if_ne (tgt := 36) hx hb dX3_readTerm_21 (by decide) (fun c_21 => ?_) (fun c_21 => ?_)
        · have hm := ifn c_21 hm
          exact J_36 H locs ls hP hD hS (lv_sub hl [0, 1, 2, 3] rfl) hm
        · have hm := ifp c_21 hm
          refine lv_aload_n hx hb dX3_readTerm_24 rfl (lv_at hl 0 rfl) ?_
          refine va_get (D := G) (ci := 3) (v := .ref (ard 2)) (C := RX3) (T := TX3) (N := 11) hx hb hts hi_3 hown hK hP 0 rfl rfl 0 (by decide) (hts (.fieldLink RX3 12 "HubTrains$SetupReader" "tokens" "LHubTrains$Tokens;") (List.mem_of_getElem? (i := 1) rfl)) (fun _ h9 => h9) rfl dX3_readTerm_25 ?_
          refine lv_bipush (v := 47) hx hb dX3_readTerm_28 (by decide) ?_
          obtain ⟨r30, e_30, hm⟩ := bd1_s hm
          refine zcVi (As := [.int 47]) (rest := []) ⟨hx, hb, hml, hown, hts⟩ (k_X5_isSign l G K c (ard 2) (ard 3) rd_8.2.1 47 r30 e_30) (cwV 1 hts gX3_readTerm_X5_isSign rfl rfl rfl hd_X5_isSign ⟨by dsimp only [rm_X3_readTerm, rm_X5_isSign]; omega, by dsimp only [rm_X3_readTerm, rm_X5_isSign]; omega⟩) hK hN hZ hP hD hS hA (va_recv hK hP (ci := 5) (q0 := 2) rfl rfl) [2, 3] rfl (by decide) rfl rfl hl.1 rfl (Nat.le_of_ble_eq_true rfl) dX3_readTerm_30 ⟨Nat.zero_le _, Nat.zero_le _⟩ (fun H locs hP hD hS => ?_)
          have hP : va_P G vwCl (wR c ard rd_8) H := hP
          have hD : va_D A (wR c ard rd_8) := hD
          refine lv_if_eq (tgt := 89) hx hb dX3_readTerm_33 (by decide) (fun c_33 => ?_) (fun c_33 => ?_)
          · have hm := ifp c_33 hm
            refine lv_iload_n hx hb dX3_readTerm_89 rfl (lv_at hl 2 rfl) ?_
            obtain ⟨h_90, hm⟩ := gd_s hm
            exact hend H locs ls _ _ _ (isb_n h_90) (Prod.mk.inj (Option.some.inj hm)).1 (zc1 (fun (z0 : RS) => (wR c ard z0 : va_W)) (Prod.mk.inj (Option.some.inj hm)).2) hP hD hS dX3_readTerm_90
          · have hm := ifn c_33 hm
            exact J_36 H locs ls hP hD hS (lv_sub hl [0, 1, 2, 3] rfl) hm
  exact L_8 FUEL r2 0 rd2 H locs ls hP hD hS (lv_sub hl [2, 3, 1, 0] rfl) hm

def f_X3_readSum_J62 (p0 : Int32) (SN : RS → Int32 → Option (Int32 × RS)) (rec_8 : Int32 → Int32 → RS → Option (Int32 × RS)) (v3_8 : Int32) (rd_8 : RS) (s0_62 : Int32) : Option (Int32 × RS) :=
  bd1 (f_X5_advance rd_8.2.1) fun (tk68 : SA) => bd2 (f_X3_readTerm SN (rd_8.1, tk68, rd_8.2.2) p0) fun (r73 : Int32) (rd73 : RS) => bd1 (f_X3_addStep rd73 s0_62) fun (rd80 : RS) => rec_8 r73 (v3_8 + 1) rd80

def f_X3_readSum_J36 (p0 : Int32) (SN : RS → Int32 → Option (Int32 × RS)) (rec_8 : Int32 → Int32 → RS → Option (Int32 × RS)) (v2_8 : Int32) (v3_8 : Int32) (rd_8 : RS) : Option (Int32 × RS) :=
  if (500 : Int32) ≤ v3_8 then (gd (isb v2_8) <| some (v2_8, rd_8)) else (bd1 (f_X5_isSign rd_8.2.1 43) fun (r49 : Int32) => if r49 = 0 then (f_X3_readSum_J62 p0 SN rec_8 v3_8 rd_8 (-7)) else (f_X3_readSum_J62 p0 SN rec_8 v3_8 rd_8 (-6)))

def f_X3_readSum_B8 (p0 : Int32) (SN : RS → Int32 → Option (Int32 × RS)) (rec_8 : Int32 → Int32 → RS → Option (Int32 × RS)) (v2_8 : Int32) (v3_8 : Int32) (rd_8 : RS) : Option (Int32 × RS) :=
  if v2_8 = 0 then (gd (isb v2_8) <| some (v2_8, rd_8)) else (bd1 (f_X5_isSign rd_8.2.1 43) fun (r18 : Int32) => if r18 = 0 then (bd1 (f_X5_isSign rd_8.2.1 45) fun (r30 : Int32) => if r30 = 0 then (gd (isb v2_8) <| some (v2_8, rd_8)) else (f_X3_readSum_J36 p0 SN rec_8 v2_8 v3_8 rd_8)) else (f_X3_readSum_J36 p0 SN rec_8 v2_8 v3_8 rd_8))

def f_X3_readSum (SN : RS → Int32 → Option (Int32 × RS)) (rd : RS) (p0 : Int32) : Option (Int32 × RS) :=
  bd2 (f_X3_readTerm SN rd p0) fun (r2 : Int32) (rd2 : RS) => itr3 (f_X3_readSum_B8 p0 SN) FUEL r2 0 rd2

abbrev rm_X3_readSum (FF LL : Nat) : Room := { frames := FF + 13, cells := 0, slots := 0, locals := LL + 514 }
theorem hd2_X3_readSum : yX3_readSum.cls = RX3 ∧ yX3_readSum.cls ≠ "java/lang/invoke/MethodHandle" ∧ yX3_readSum.cls ≠ "java/lang/invoke/VarHandle" ∧ (parseMethodDescriptor yX3_readSum.desc).map (fun d => d.parameters.length) = some 1 := by decide +kernel
set_option maxHeartbeats 4000000 in
set_option maxRecDepth 100000 in
theorem k_X3_readSum (l : Launch) (G : va_G) (K : (Nat → Nat) × (Nat → Nat)) (c : Nat → ClassId) (SN : RS → Int32 → Option (Int32 × RS)) (FF : Nat) (LL : Nat) (hSN : ∀ (ard : Nat → Nat) (rd : RS) (p0 : Int32) (r : Int32) (rd_r : RS), SN rd p0 = some (r, rd_r) → zMi l yX3_readSum wsX3_readSum { frames := FF, cells := 0, slots := 0, locals := LL } G K (TY c) [.ref (ard 0), .int p0] (wR c ard rd) (wR c ard rd_r) r) (ard : Nat → Nat) (rd : RS) (p0 : Int32) (r : Int32) (rd_r : RS) (hm : f_X3_readSum SN rd p0 = some (r, rd_r)) : zMi l yX3_readSum wsX3_readSum (rm_X3_readSum FF LL) G K (TY c) [.ref (ard 0), .int p0] (wR c ard rd) (wR c ard rd_r) r := by
  refine zMi.of (cc := cX3_readSum) (maxL := 5) (lv := [(0, .ref (ard 0)), (1, .int p0)]) (by decide) rfl (Nat.le_of_ble_eq_true rfl) rfl ?_
  intro p e s m args below meth c1 A Q H locs hx hb hml hown hts hK hN hZ hP hD hA hS hend ls hl
  have hown : s.vm.findClass RX3 = some m.cls := hown
  have hi_3 : ∀ w ∈ wsX30, w ∈ wsX3_readSum := (fun w h => List.mem_cons_of_mem _ (List.mem_append_left _ (List.mem_append_left _ (List.mem_append_right _ (h)))))
  unfold f_X3_readSum at hm
  refine lv_aload_n hx hb dX3_readSum_0 rfl (lv_at hl 0 rfl) ?_
  refine lv_iload_n hx hb dX3_readSum_1 rfl (lv_at hl 1 rfl) ?_
  obtain ⟨r2, rd2, e_2, hm⟩ := bd2_s hm
  refine zcWi (As := [.int p0]) (rest := []) ⟨hx, hb, hml, hown, hts⟩ (k_X3_readTerm l G K c SN FF LL hSN ard rd p0 r2 rd2 e_2) (cwV 1 hts gX3_readSum_X3_readTerm rfl rfl rfl hd_X3_readTerm ⟨by dsimp only [rm_X3_readSum, rm_X3_readTerm]; omega, by dsimp only [rm_X3_readSum, rm_X3_readTerm]; omega⟩) hK hN hZ hP hD hS hA (va_recv hK hP (ci := 3) (q0 := 0) rfl rfl) rfl hl.1 rfl (Nat.le_of_ble_eq_true rfl) dX3_readSum_2 ⟨Nat.zero_le _, Nat.zero_le _⟩ (fun H locs hP hD hS => ?_)
  have hP : va_P G vwCl (wR c ard rd2) H := hP
  have hD : va_D A (wR c ard rd2) := hD
  refine lv_istore_n (lv' := [(2, .int r2), (0, .ref (ard 0)), (1, .int p0)]) hx hb dX3_readSum_5 rfl hl (by decide) rfl (fun ls hl => ?_)
  refine lv_iconst (v := 0) hx hb dX3_readSum_6 (by decide) ?_
  refine lv_istore_n (lv' := [(3, .int 0), (2, .int r2), (0, .ref (ard 0)), (1, .int p0)]) hx hb dX3_readSum_7 rfl hl (by decide) rfl (fun ls hl => ?_)
  have L_8 : ∀ (n_8 : Nat) (v2_8 : Int32) (v3_8 : Int32) (rd_8 : RS) (H : Heap) (locs : List Loc) (ls : Array Slot), va_P G vwCl (wR c ard rd_8) H → va_D A (wR c ard rd_8) → va_S A s.heap H locs → lv_has ls 5 [(0, .ref (ard 0)), (1, .int p0), (2, .int v2_8), (3, .int v3_8)] → itr3 (f_X3_readSum_B8 p0 SN) n_8 v2_8 v3_8 rd_8 = some (r, rd_r) → W p l e (rm_X3_readSum FF LL) s m args below meth c1 H locs 0 0 Q (F0 m 8 ls []) := by
    intro n_8
    induction n_8 with
    | zero => intro v2_8 v3_8 rd_8 H locs ls hP hD hS hl hm; exact (itr3_0 hm).elim
    | succ n_8 ih_8 =>
      intro v2_8 v3_8 rd_8 H locs ls hP hD hS hl hm
      have hm := itr3_s hm
      unfold f_X3_readSum_B8 at hm
      refine lv_iload_n hx hb dX3_readSum_8 rfl (lv_at hl 2 rfl) ?_
      refine lv_if_eq (tgt := 89) hx hb dX3_readSum_9 (by decide) (fun c_9 => ?_) (fun c_9 => ?_)
      · have hm := ifp c_9 hm
        refine lv_iload_n hx hb dX3_readSum_89 rfl (lv_at hl 2 rfl) ?_
        obtain ⟨h_90, hm⟩ := gd_s hm
        exact hend H locs ls _ _ _ (isb_n h_90) (Prod.mk.inj (Option.some.inj hm)).1 (zc1 (fun (z0 : RS) => (wR c ard z0 : va_W)) (Prod.mk.inj (Option.some.inj hm)).2) hP hD hS dX3_readSum_90
      · have hm := ifn c_9 hm
        refine lv_aload_n hx hb dX3_readSum_12 rfl (lv_at hl 0 rfl) ?_
        refine va_get (D := G) (ci := 3) (v := .ref (ard 2)) (C := RX3) (T := TX3) (N := 11) hx hb hts hi_3 hown hK hP 0 rfl rfl 0 (by decide) (hts (.fieldLink RX3 12 "HubTrains$SetupReader" "tokens" "LHubTrains$Tokens;") (List.mem_of_getElem? (i := 1) rfl)) (fun _ h9 => h9) rfl dX3_readSum_13 ?_
        refine lv_bipush (v := 43) hx hb dX3_readSum_16 (by decide) ?_
        obtain ⟨r18, e_18, hm⟩ := bd1_s hm
        refine zcVi (As := [.int 43]) (rest := []) ⟨hx, hb, hml, hown, hts⟩ (k_X5_isSign l G K c (ard 2) (ard 3) rd_8.2.1 43 r18 e_18) (cwV 1 hts gX3_readSum_X5_isSign rfl rfl rfl hd_X5_isSign ⟨by dsimp only [rm_X3_readSum, rm_X5_isSign]; omega, by dsimp only [rm_X3_readSum, rm_X5_isSign]; omega⟩) hK hN hZ hP hD hS hA (va_recv hK hP (ci := 5) (q0 := 2) rfl rfl) [2, 3] rfl (by decide) rfl rfl hl.1 rfl (Nat.le_of_ble_eq_true rfl) dX3_readSum_18 ⟨Nat.zero_le _, Nat.zero_le _⟩ (fun H locs hP hD hS => ?_)
        have hP : va_P G vwCl (wR c ard rd_8) H := hP
        have hD : va_D A (wR c ard rd_8) := hD
        have J_36 : ∀ (H : Heap) (locs : List Loc) (ls : Array Slot), va_P G vwCl (wR c ard rd_8) H → va_D A (wR c ard rd_8) → va_S A s.heap H locs → lv_has ls 5 [(0, .ref (ard 0)), (1, .int p0), (2, .int v2_8), (3, .int v3_8)] → f_X3_readSum_J36 p0 SN (itr3 (f_X3_readSum_B8 p0 SN) n_8) v2_8 v3_8 rd_8 = some (r, rd_r) → W p l e (rm_X3_readSum FF LL) s m args below meth c1 H locs 0 0 Q (F0 m 36 ls []) := by
          intro  H locs ls hP hD hS hl hm
          unfold f_X3_readSum_J36 at hm
          refine lv_iload_n hx hb dX3_readSum_36 rfl (lv_at hl 3 rfl) ?_
          refine lv_sipush (v := 500) hx hb dX3_readSum_37 (by decide) ?_
          refine lv_icmp_ge (tgt := 89) hx hb dX3_readSum_40 (by decide) (fun c_40 => ?_) (fun c_40 => ?_)
          · have hm := ifp c_40 hm
            refine lv_iload_n hx hb dX3_readSum_89 rfl (lv_at hl 2 rfl) ?_
            obtain ⟨h_90, hm⟩ := gd_s hm
            exact hend H locs ls _ _ _ (isb_n h_90) (Prod.mk.inj (Option.some.inj hm)).1 (zc1 (fun (z0 : RS) => (wR c ard z0 : va_W)) (Prod.mk.inj (Option.some.inj hm)).2) hP hD hS dX3_readSum_90
          · have hm := ifn c_40 hm
            refine lv_aload_n hx hb dX3_readSum_43 rfl (lv_at hl 0 rfl) ?_
            refine va_get (D := G) (ci := 3) (v := .ref (ard 2)) (C := RX3) (T := TX3) (N := 11) hx hb hts hi_3 hown hK hP 0 rfl rfl 0 (by decide) (hts (.fieldLink RX3 12 "HubTrains$SetupReader" "tokens" "LHubTrains$Tokens;") (List.mem_of_getElem? (i := 1) rfl)) (fun _ h9 => h9) rfl dX3_readSum_44 ?_
            refine lv_bipush (v := 43) hx hb dX3_readSum_47 (by decide) ?_
            obtain ⟨r49, e_49, hm⟩ := bd1_s hm
            refine zcVi (As := [.int 43]) (rest := []) ⟨hx, hb, hml, hown, hts⟩ (k_X5_isSign l G K c (ard 2) (ard 3) rd_8.2.1 43 r49 e_49) (cwV 1 hts gX3_readSum_X5_isSign rfl rfl rfl hd_X5_isSign ⟨by dsimp only [rm_X3_readSum, rm_X5_isSign]; omega, by dsimp only [rm_X3_readSum, rm_X5_isSign]; omega⟩) hK hN hZ hP hD hS hA (va_recv hK hP (ci := 5) (q0 := 2) rfl rfl) [2, 3] rfl (by decide) rfl rfl hl.1 rfl (Nat.le_of_ble_eq_true rfl) dX3_readSum_49 ⟨Nat.zero_le _, Nat.zero_le _⟩ (fun H locs hP hD hS => ?_)
            have hP : va_P G vwCl (wR c ard rd_8) H := hP
            have hD : va_D A (wR c ard rd_8) := hD
            have J_62 : ∀ (s0_62 : Int32) (H : Heap) (locs : List Loc) (ls : Array Slot), va_P G vwCl (wR c ard rd_8) H → va_D A (wR c ard rd_8) → va_S A s.heap H locs → lv_has ls 5 [(0, .ref (ard 0)), (1, .int p0), (3, .int v3_8)] → f_X3_readSum_J62 p0 SN (itr3 (f_X3_readSum_B8 p0 SN) n_8) v3_8 rd_8 s0_62 = some (r, rd_r) → W p l e (rm_X3_readSum FF LL) s m args below meth c1 H locs 0 0 Q (F0 m 62 ls [.int s0_62]) := by
              intro s0_62 H locs ls hP hD hS hl hm
              unfold f_X3_readSum_J62 at hm
              refine lv_istore (lv' := [(4, .int s0_62), (0, .ref (ard 0)), (1, .int p0), (3, .int v3_8)]) hx hb dX3_readSum_62 hl (by decide) rfl (fun ls hl => ?_)
              refine lv_aload_n hx hb dX3_readSum_64 rfl (lv_at hl 1 rfl) ?_
              refine va_get (D := G) (ci := 3) (v := .ref (ard 2)) (C := RX3) (T := TX3) (N := 11) hx hb hts hi_3 hown hK hP 0 rfl rfl 0 (by decide) (hts (.fieldLink RX3 12 "HubTrains$SetupReader" "tokens" "LHubTrains$Tokens;") (List.mem_of_getElem? (i := 1) rfl)) (fun _ h9 => h9) rfl dX3_readSum_65 ?_
              obtain ⟨tk68, e_68, hm⟩ := bd1_s hm
              refine zcVv (As := []) (rest := []) ⟨hx, hb, hml, hown, hts⟩ (k_X5_advance l G K c (ard 2) (ard 3) rd_8.2.1 tk68 e_68) (cwV 0 hts gX3_readSum_X5_advance rfl rfl rfl hd_X5_advance ⟨by dsimp only [rm_X3_readSum, rm_X5_advance]; omega, by dsimp only [rm_X3_readSum, rm_X5_advance]; omega⟩) hK hN hZ hP hD hS hA (va_recv hK hP (ci := 5) (q0 := 2) rfl rfl) [2, 3] rfl (by decide) rfl rfl hl.1 rfl (Nat.le_of_ble_eq_true rfl) dX3_readSum_68 ⟨Nat.zero_le _, Nat.zero_le _⟩ (fun H locs hP hD hS => ?_)
              have hP : va_P G vwCl (wR c ard (rd_8.1, tk68, rd_8.2.2)) H := hP
              have hD : va_D A (wR c ard (rd_8.1, tk68, rd_8.2.2)) := hD
              refine lv_aload_n hx hb dX3_readSum_71 rfl (lv_at hl 1 rfl) ?_
              refine lv_iload_n hx hb dX3_readSum_72 rfl (lv_at hl 2 rfl) ?_
              obtain ⟨r73, rd73, e_73, hm⟩ := bd2_s hm
              refine zcWi (As := [.int p0]) (rest := []) ⟨hx, hb, hml, hown, hts⟩ (k_X3_readTerm l G K c SN FF LL hSN ard (rd_8.1, tk68, rd_8.2.2) p0 r73 rd73 e_73) (cwV 1 hts gX3_readSum_X3_readTerm rfl rfl rfl hd_X3_readTerm ⟨by dsimp only [rm_X3_readSum, rm_X3_readTerm]; omega, by dsimp only [rm_X3_readSum, rm_X3_readTerm]; omega⟩) hK hN hZ hP hD hS hA (va_recv hK hP (ci := 3) (q0 := 0) rfl rfl) rfl hl.1 rfl (Nat.le_of_ble_eq_true rfl) dX3_readSum_73 ⟨Nat.zero_le _, Nat.zero_le _⟩ (fun H locs hP hD hS => ?_)
              have hP : va_P G vwCl (wR c ard rd73) H := hP
              have hD : va_D A (wR c ard rd73) := hD
              refine lv_istore_n (lv' := [(2, .int r73), (4, .int s0_62), (0, .ref (ard 0)), (1, .int p0), (3, .int v3_8)]) hx hb dX3_readSum_76 rfl hl (by decide) rfl (fun ls hl => ?_)
              refine lv_aload_n hx hb dX3_readSum_77 rfl (lv_at hl 2 rfl) ?_
              refine lv_iload hx hb dX3_readSum_78 (lv_at hl 1 rfl) ?_
              obtain ⟨rd80, e_80, hm⟩ := bd1_s hm
              refine zcWv (As := [.int s0_62]) (rest := []) ⟨hx, hb, hml, hown, hts⟩ (k_X3_addStep l G K c ard rd73 s0_62 rd80 e_80) (cwV 1 hts gX3_readSum_X3_addStep rfl rfl rfl hd_X3_addStep ⟨by dsimp only [rm_X3_readSum, rm_X3_addStep]; omega, by dsimp only [rm_X3_readSum, rm_X3_addStep]; omega⟩) hK hN hZ hP hD hS hA (va_recv hK hP (ci := 3) (q0 := 0) rfl rfl) rfl hl.1 rfl (Nat.le_of_ble_eq_true rfl) dX3_readSum_80 ⟨Nat.zero_le _, Nat.zero_le _⟩ (fun H locs hP hD hS => ?_)
              have hP : va_P G vwCl (wR c ard rd80) H := hP
              have hD : va_D A (wR c ard rd80) := hD
              refine lv_iinc (k := 4) (v := (v3_8 + 1)) (lv' := [(3, .int (v3_8 + 1)), (2, .int r73), (4, .int s0_62), (0, .ref (ard 0)), (1, .int p0)]) hx hb dX3_readSum_83 hl rfl rfl (by decide) rfl (fun ls hl => ?_)
              refine lv_goto (tgt := 8) hx hb dX3_readSum_86 (by decide) ?_
              exact ih_8 r73 (v3_8 + 1) rd80 H locs ls hP hD hS (lv_sub hl [3, 4, 1, 0] rfl) hm
            refine lv_if_eq (tgt := 60) hx hb dX3_readSum_52 (by decide) (fun c_52 => ?_) (fun c_52 => ?_)
            · have hm := ifp c_52 hm
              refine lv_bipush (v := (-7)) hx hb dX3_readSum_60 (by decide) ?_
              exact J_62 (-7) H locs ls hP hD hS (lv_sub hl [0, 1, 3] rfl) hm
            · have hm := ifn c_52 hm
              refine lv_bipush (v := (-6)) hx hb dX3_readSum_55 (by decide) ?_
              refine lv_goto (tgt := 62) hx hb dX3_readSum_57 (by decide) ?_
              exact J_62 (-6) H locs ls hP hD hS (lv_sub hl [0, 1, 3] rfl) hm
        refine lv_if_ne (tgt := 36) hx hb dX3_readSum_21 (by decide) (fun c_21 => ?_) (fun c_21 => ?_)
        · have hm := ifn c_21 hm
          exact J_36 H locs ls hP hD hS (lv_sub hl [0, 1, 2, 3] rfl) hm
        · have hm := ifp c_21 hm
          refine lv_aload_n hx hb dX3_readSum_24 rfl (lv_at hl 0 rfl) ?_
          refine va_get (D := G) (ci := 3) (v := .ref (ard 2)) (C := RX3) (T := TX3) (N := 11) hx hb hts hi_3 hown hK hP 0 rfl rfl 0 (by decide) (hts (.fieldLink RX3 12 "HubTrains$SetupReader" "tokens" "LHubTrains$Tokens;") (List.mem_of_getElem? (i := 1) rfl)) (fun _ h9 => h9) rfl dX3_readSum_25 ?_
          refine lv_bipush (v := 45) hx hb dX3_readSum_28 (by decide) ?_
          obtain ⟨r30, e_30, hm⟩ := bd1_s hm
          refine zcVi (As := [.int 45]) (rest := []) ⟨hx, hb, hml, hown, hts⟩ (k_X5_isSign l G K c (ard 2) (ard 3) rd_8.2.1 45 r30 e_30) (cwV 1 hts gX3_readSum_X5_isSign rfl rfl rfl hd_X5_isSign ⟨by dsimp only [rm_X3_readSum, rm_X5_isSign]; omega, by dsimp only [rm_X3_readSum, rm_X5_isSign]; omega⟩) hK hN hZ hP hD hS hA (va_recv hK hP (ci := 5) (q0 := 2) rfl rfl) [2, 3] rfl (by decide) rfl rfl hl.1 rfl (Nat.le_of_ble_eq_true rfl) dX3_readSum_30 ⟨Nat.zero_le _, Nat.zero_le _⟩ (fun H locs hP hD hS => ?_)
          have hP : va_P G vwCl (wR c ard rd_8) H := hP
          have hD : va_D A (wR c ard rd_8) := hD
          refine lv_if_eq (tgt := 89) hx hb dX3_readSum_33 (by decide) (fun c_33 => ?_) (fun c_33 => ?_)
          · have hm := ifp c_33 hm
            refine lv_iload_n hx hb dX3_readSum_89 rfl (lv_at hl 2 rfl) ?_
            obtain ⟨h_90, hm⟩ := gd_s hm
            exact hend H locs ls _ _ _ (isb_n h_90) (Prod.mk.inj (Option.some.inj hm)).1 (zc1 (fun (z0 : RS) => (wR c ard z0 : va_W)) (Prod.mk.inj (Option.some.inj hm)).2) hP hD hS dX3_readSum_90
          · have hm := ifn c_33 hm
            exact J_36 H locs ls hP hD hS (lv_sub hl [0, 1, 2, 3] rfl) hm
  exact L_8 FUEL r2 0 rd2 H locs ls hP hD hS (lv_sub hl [2, 3, 1, 0] rfl) hm

def sumN : Nat → RS → Int32 → Option (Int32 × RS)
  | 0 => fun _ _ => none
  | n + 1 => f_X3_readSum (sumN n)
theorem k_sumN (l : Launch) (G : va_G) (K : (Nat → Nat) × (Nat → Nat)) (c : Nat → ClassId) : ∀ (n : Nat) (ard : Nat → Nat) (rd : RS) (p0 : Int32) (r : Int32) (rd_r : RS), sumN n rd p0 = some (r, rd_r) → zMi l yX3_readSum wsX3_readSum { frames := 13 * n, cells := 0, slots := 0, locals := 514 * n } G K (TY c) [.ref (ard 0), .int p0] (wR c ard rd) (wR c ard rd_r) r
  | 0, _, _, _, _, _, h => by cases h
  | n + 1, ard, rd, p0, r, rd_r, h => k_X3_readSum l G K c (sumN n) (13 * n) (514 * n) (k_sumN l G K c n) ard rd p0 r rd_r h

def f_X3_readStatement_J109 (rd : RS) : Option (Int32 × RS) :=
  bd2 (f_X3_fail rd (-2) (rd.2.1.1 3)) fun (r119 : Int32) (rd119 : RS) => gd (isb r119) <| some (r119, rd119)

def f_X3_readStatement_J55 (rd : RS) : Option (Int32 × RS) :=
  bd1 (f_X5_isWord rd.2.1 3) fun (r61 : Int32) => if r61 = 0 then (bd1 (f_X5_isWord rd.2.1 4) fun (r78 : Int32) => if r78 = 0 then (f_X3_readStatement_J109 rd) else (if (rd.1.1 3) = 0 then (bd1 (f_X5_advance rd.2.1) fun (tk100 : SA) => bd2 (sumN 8 ((ss rd.1 3 1), tk100, rd.2.2) 0) fun (r105 : Int32) (rd105 : RS) => gd (isb r105) <| some (r105, rd105)) else (f_X3_readStatement_J109 rd))) else (bd2 (f_X3_readGive rd) fun (r68 : Int32) (rd68 : RS) => gd (isb r68) <| some (r68, rd68))

def f_X3_readStatement_J31 (rd : RS) : Option (Int32 × RS) :=
  bd1 (f_X5_isWord rd.2.1 2) fun (r37 : Int32) => if r37 = 0 then (f_X3_readStatement_J55 rd) else (if (rd.1.1 2) = 0 then (bd2 (f_X3_readSeed rd) fun (r51 : Int32) (rd51 : RS) => gd (isb r51) <| some (r51, rd51)) else (f_X3_readStatement_J55 rd))

def f_X3_readStatement (rd : RS) : Option (Int32 × RS) :=
  bd1 (f_X5_isWord rd.2.1 1) fun (r6 : Int32) => if r6 = 0 then (f_X3_readStatement_J31 rd) else (if (rd.1.1 1) = 0 then (if (rd.1.1 4) = 0 then (bd2 (f_X3_readHub rd) fun (r27 : Int32) (rd27 : RS) => gd (isb r27) <| some (r27, rd27)) else (f_X3_readStatement_J31 rd)) else (f_X3_readStatement_J31 rd))

abbrev rm_X3_readStatement : Room := { frames := 105, cells := 0, slots := 0, locals := 4136 }
theorem hd_X3_readStatement : yX3_readStatement.cls = RX3 ∧ yX3_readStatement.cls ≠ "java/lang/invoke/MethodHandle" ∧ yX3_readStatement.cls ≠ "java/lang/invoke/VarHandle" ∧ (parseMethodDescriptor yX3_readStatement.desc).map (fun d => d.parameters.length) = some 0 := by decide +kernel
set_option maxHeartbeats 4000000 in
set_option maxRecDepth 100000 in
theorem k_X3_readStatement (l : Launch) (G : va_G) (K : (Nat → Nat) × (Nat → Nat)) (c : Nat → ClassId) (ard : Nat → Nat) (rd : RS) (r : Int32) (rd_r : RS) (hm : f_X3_readStatement rd = some (r, rd_r)) : zMi l yX3_readStatement wsX3_readStatement (rm_X3_readStatement) G K (TY c) [.ref (ard 0)] (wR c ard rd) (wR c ard rd_r) r := by
  refine zMi.of (cc := cX3_readStatement) (maxL := 1) (lv := [(0, .ref (ard 0))]) (by decide) rfl (Nat.le_of_ble_eq_true rfl) rfl ?_
  intro p e s m args below meth c1 A Q H locs hx hb hml hown hts hK hN hZ hP hD hA hS hend ls hl
  have hown : s.vm.findClass RX3 = some m.cls := hown
  have hi_3 : ∀ w ∈ wsX30, w ∈ wsX3_readStatement := (fun w h => List.mem_cons_of_mem _ (List.mem_append_left _ (List.mem_append_left _ (List.mem_append_left _ (List.mem_append_right _ (h))))))
  have hi_5 : ∀ w ∈ wsX50, w ∈ wsX3_readStatement := (fun w h => List.mem_cons_of_mem _ (List.mem_append_left _ (List.mem_append_left _ (List.mem_append_right _ (h)))))
  unfold f_X3_readStatement at hm
  refine lv_aload_n hx hb dX3_readStatement_0 rfl (lv_at hl 0 rfl) ?_
  refine va_get (D := G) (ci := 3) (v := .ref (ard 2)) (C := RX3) (T := TX3) (N := 11) hx hb hts hi_3 hown hK hP 0 rfl rfl 0 (by decide) (hts (.fieldLink RX3 12 "HubTrains$SetupReader" "tokens" "LHubTrains$Tokens;") (List.mem_of_getElem? (i := 1) rfl)) (fun _ h9 => h9) rfl dX3_readStatement_1 ?_
  refine va_ldcS hx hb hown (nws_HubTrains_SetupReader_122 hN.2.2) dX3_readStatement_4 ?_
  obtain ⟨r6, e_6, hm⟩ := bd1_s hm
  refine zcVi (As := [.ref (K.1 1)]) (rest := []) ⟨hx, hb, hml, hown, hts⟩ (k_X5_isWord l G K c (ard 2) (ard 3) rd.2.1 1 r6 e_6) (cwV 1 hts gX3_readStatement_X5_isWord rfl rfl rfl hd_X5_isWord ⟨Nat.le_of_ble_eq_true rfl, Nat.le_of_ble_eq_true rfl⟩) hK hN hZ hP hD hS hA (va_recv hK hP (ci := 5) (q0 := 2) rfl rfl) [2, 3] rfl (by decide) rfl rfl hl.1 rfl (Nat.le_of_ble_eq_true rfl) dX3_readStatement_6 ⟨Nat.zero_le _, Nat.zero_le _⟩ (fun H locs hP hD hS => ?_)
  have hP : va_P G vwCl (wR c ard rd) H := hP
  have hD : va_D A (wR c ard rd) := hD
  have J_31 : ∀ (H : Heap) (locs : List Loc) (ls : Array Slot), va_P G vwCl (wR c ard rd) H → va_D A (wR c ard rd) → va_S A s.heap H locs → lv_has ls 1 [(0, .ref (ard 0))] → f_X3_readStatement_J31 rd = some (r, rd_r) → W p l e (rm_X3_readStatement) s m args below meth c1 H locs 0 0 Q (F0 m 31 ls []) := by
    intro  H locs ls hP hD hS hl hm
    unfold f_X3_readStatement_J31 at hm
    refine lv_aload_n hx hb dX3_readStatement_31 rfl (lv_at hl 0 rfl) ?_
    refine va_get (D := G) (ci := 3) (v := .ref (ard 2)) (C := RX3) (T := TX3) (N := 11) hx hb hts hi_3 hown hK hP 0 rfl rfl 0 (by decide) (hts (.fieldLink RX3 12 "HubTrains$SetupReader" "tokens" "LHubTrains$Tokens;") (List.mem_of_getElem? (i := 1) rfl)) (fun _ h9 => h9) rfl dX3_readStatement_32 ?_
    refine va_ldcS hx hb hown (nws_HubTrains_SetupReader_126 hN.2.2) dX3_readStatement_35 ?_
    obtain ⟨r37, e_37, hm⟩ := bd1_s hm
    refine zcVi (As := [.ref (K.1 2)]) (rest := []) ⟨hx, hb, hml, hown, hts⟩ (k_X5_isWord l G K c (ard 2) (ard 3) rd.2.1 2 r37 e_37) (cwV 1 hts gX3_readStatement_X5_isWord rfl rfl rfl hd_X5_isWord ⟨Nat.le_of_ble_eq_true rfl, Nat.le_of_ble_eq_true rfl⟩) hK hN hZ hP hD hS hA (va_recv hK hP (ci := 5) (q0 := 2) rfl rfl) [2, 3] rfl (by decide) rfl rfl hl.1 rfl (Nat.le_of_ble_eq_true rfl) dX3_readStatement_37 ⟨Nat.zero_le _, Nat.zero_le _⟩ (fun H locs hP hD hS => ?_)
    have hP : va_P G vwCl (wR c ard rd) H := hP
    have hD : va_D A (wR c ard rd) := hD
    have J_55 : ∀ (H : Heap) (locs : List Loc) (ls : Array Slot), va_P G vwCl (wR c ard rd) H → va_D A (wR c ard rd) → va_S A s.heap H locs → lv_has ls 1 [(0, .ref (ard 0))] → f_X3_readStatement_J55 rd = some (r, rd_r) → W p l e (rm_X3_readStatement) s m args below meth c1 H locs 0 0 Q (F0 m 55 ls []) := by
      intro  H locs ls hP hD hS hl hm
      unfold f_X3_readStatement_J55 at hm
      refine lv_aload_n hx hb dX3_readStatement_55 rfl (lv_at hl 0 rfl) ?_
      refine va_get (D := G) (ci := 3) (v := .ref (ard 2)) (C := RX3) (T := TX3) (N := 11) hx hb hts hi_3 hown hK hP 0 rfl rfl 0 (by decide) (hts (.fieldLink RX3 12 "HubTrains$SetupReader" "tokens" "LHubTrains$Tokens;") (List.mem_of_getElem? (i := 1) rfl)) (fun _ h9 => h9) rfl dX3_readStatement_56 ?_
      refine va_ldcS hx hb hown (nws_HubTrains_SetupReader_130 hN.2.2) dX3_readStatement_59 ?_
      obtain ⟨r61, e_61, hm⟩ := bd1_s hm
      refine zcVi (As := [.ref (K.1 3)]) (rest := []) ⟨hx, hb, hml, hown, hts⟩ (k_X5_isWord l G K c (ard 2) (ard 3) rd.2.1 3 r61 e_61) (cwV 1 hts gX3_readStatement_X5_isWord rfl rfl rfl hd_X5_isWord ⟨Nat.le_of_ble_eq_true rfl, Nat.le_of_ble_eq_true rfl⟩) hK hN hZ hP hD hS hA (va_recv hK hP (ci := 5) (q0 := 2) rfl rfl) [2, 3] rfl (by decide) rfl rfl hl.1 rfl (Nat.le_of_ble_eq_true rfl) dX3_readStatement_61 ⟨Nat.zero_le _, Nat.zero_le _⟩ (fun H locs hP hD hS => ?_)
      have hP : va_P G vwCl (wR c ard rd) H := hP
      have hD : va_D A (wR c ard rd) := hD
      refine lv_if_eq (tgt := 72) hx hb dX3_readStatement_64 (by decide) (fun c_64 => ?_) (fun c_64 => ?_)
      · have hm := ifp c_64 hm
        refine lv_aload_n hx hb dX3_readStatement_72 rfl (lv_at hl 0 rfl) ?_
        refine va_get (D := G) (ci := 3) (v := .ref (ard 2)) (C := RX3) (T := TX3) (N := 11) hx hb hts hi_3 hown hK hP 0 rfl rfl 0 (by decide) (hts (.fieldLink RX3 12 "HubTrains$SetupReader" "tokens" "LHubTrains$Tokens;") (List.mem_of_getElem? (i := 1) rfl)) (fun _ h9 => h9) rfl dX3_readStatement_73 ?_
        refine va_ldcS hx hb hown (nws_HubTrains_SetupReader_135 hN.2.2) dX3_readStatement_76 ?_
        obtain ⟨r78, e_78, hm⟩ := bd1_s hm
        refine zcVi (As := [.ref (K.1 4)]) (rest := []) ⟨hx, hb, hml, hown, hts⟩ (k_X5_isWord l G K c (ard 2) (ard 3) rd.2.1 4 r78 e_78) (cwV 1 hts gX3_readStatement_X5_isWord rfl rfl rfl hd_X5_isWord ⟨Nat.le_of_ble_eq_true rfl, Nat.le_of_ble_eq_true rfl⟩) hK hN hZ hP hD hS hA (va_recv hK hP (ci := 5) (q0 := 2) rfl rfl) [2, 3] rfl (by decide) rfl rfl hl.1 rfl (Nat.le_of_ble_eq_true rfl) dX3_readStatement_78 ⟨Nat.zero_le _, Nat.zero_le _⟩ (fun H locs hP hD hS => ?_)
        have hP : va_P G vwCl (wR c ard rd) H := hP
        have hD : va_D A (wR c ard rd) := hD
        have J_109 : ∀ (H : Heap) (locs : List Loc) (ls : Array Slot), va_P G vwCl (wR c ard rd) H → va_D A (wR c ard rd) → va_S A s.heap H locs → lv_has ls 1 [(0, .ref (ard 0))] → f_X3_readStatement_J109 rd = some (r, rd_r) → W p l e (rm_X3_readStatement) s m args below meth c1 H locs 0 0 Q (F0 m 109 ls []) := by
          intro  H locs ls hP hD hS hl hm
          unfold f_X3_readStatement_J109 at hm
          refine lv_aload_n hx hb dX3_readStatement_109 rfl (lv_at hl 0 rfl) ?_
          refine lv_bipush (v := (-2)) hx hb dX3_readStatement_110 (by decide) ?_
          refine lv_aload_n hx hb dX3_readStatement_112 rfl (lv_at hl 0 rfl) ?_
          refine va_get (D := G) (ci := 3) (v := .ref (ard 2)) (C := RX3) (T := TX3) (N := 11) hx hb hts hi_3 hown hK hP 0 rfl rfl 0 (by decide) (hts (.fieldLink RX3 12 "HubTrains$SetupReader" "tokens" "LHubTrains$Tokens;") (List.mem_of_getElem? (i := 1) rfl)) (fun _ h9 => h9) rfl dX3_readStatement_113 ?_
          refine va_getN (D := G) (ci := 5) (v := .int (rd.2.1.1 3)) (C := RX5) (T := TX5) (N := 7) hx hb hts hi_5 hown hK hP 2 rfl rfl 4 (by decide) (va_Nw.use rfl (nwf_HubTrains_SetupReader_91 hN.1)) (fun _ h9 => h9) rfl dX3_readStatement_116 ?_
          obtain ⟨r119, rd119, e_119, hm⟩ := bd2_s hm
          refine zcWi (As := [.int (-2), .int (rd.2.1.1 3)]) (rest := []) ⟨hx, hb, hml, hown, hts⟩ (k_X3_fail l G K c ard rd (-2) (rd.2.1.1 3) r119 rd119 e_119) (cwV 2 hts gX3_readStatement_X3_fail rfl rfl rfl hd_X3_fail ⟨Nat.le_of_ble_eq_true rfl, Nat.le_of_ble_eq_true rfl⟩) hK hN hZ hP hD hS hA (va_recv hK hP (ci := 3) (q0 := 0) rfl rfl) rfl hl.1 rfl (Nat.le_of_ble_eq_true rfl) dX3_readStatement_119 ⟨Nat.zero_le _, Nat.zero_le _⟩ (fun H locs hP hD hS => ?_)
          have hP : va_P G vwCl (wR c ard rd119) H := hP
          have hD : va_D A (wR c ard rd119) := hD
          obtain ⟨h_122, hm⟩ := gd_s hm
          exact hend H locs ls _ _ _ (isb_n h_122) (Prod.mk.inj (Option.some.inj hm)).1 (zc1 (fun (z0 : RS) => (wR c ard z0 : va_W)) (Prod.mk.inj (Option.some.inj hm)).2) hP hD hS dX3_readStatement_122
        refine lv_if_eq (tgt := 109) hx hb dX3_readStatement_81 (by decide) (fun c_81 => ?_) (fun c_81 => ?_)
        · have hm := ifp c_81 hm
          exact J_109 H locs ls hP hD hS (lv_sub hl [0] rfl) hm
        · have hm := ifn c_81 hm
          refine lv_aload_n hx hb dX3_readStatement_84 rfl (lv_at hl 0 rfl) ?_
          refine va_get (D := G) (ci := 3) (v := .int (rd.1.1 3)) (C := RX3) (T := TX3) (N := 11) hx hb hts hi_3 hown hK hP 0 rfl rfl 5 (by decide) (hts (.fieldLink RX3 47 "HubTrains$SetupReader" "rankTold" "Z") (List.mem_of_getElem? (i := 5) rfl)) (fun _ h9 => h9) rfl dX3_readStatement_85 ?_
          refine lv_if_ne (tgt := 109) hx hb dX3_readStatement_88 (by decide) (fun c_88 => ?_) (fun c_88 => ?_)
          · have hm := ifn c_88 hm
            exact J_109 H locs ls hP hD hS (lv_sub hl [0] rfl) hm
          · have hm := ifp c_88 hm
            refine lv_aload_n hx hb dX3_readStatement_91 rfl (lv_at hl 0 rfl) ?_
            refine lv_iconst (v := 1) hx hb dX3_readStatement_92 (by decide) ?_
            refine va_put (D := G) (ci := 3) (v := .int 1) (C := RX3) (T := TX3) (N := 11) hx hb hts hi_3 tyX3 tyX3_ok nmX3 hown hK hP hD hS 0 rfl rfl 5 (by decide) (hts (.fieldLink RX3 47 "HubTrains$SetupReader" "rankTold" "Z") (List.mem_of_getElem? (i := 5) rfl)) (fun _ h9 => h9) rfl (tyX3_ok 5 (by decide)) (by decide) (by decide) (Nat.le_of_ble_eq_true rfl) dX3_readStatement_93 (fun H locs hP hD hS => ?_)
            have hP : va_P G vwCl (wR c ard ((ss rd.1 3 1), rd.2.1, rd.2.2)) H := hP
            have hD : va_D A (wR c ard ((ss rd.1 3 1), rd.2.1, rd.2.2)) := hD
            refine lv_aload_n hx hb dX3_readStatement_96 rfl (lv_at hl 0 rfl) ?_
            refine va_get (D := G) (ci := 3) (v := .ref (ard 2)) (C := RX3) (T := TX3) (N := 11) hx hb hts hi_3 hown hK hP 0 rfl rfl 0 (by decide) (hts (.fieldLink RX3 12 "HubTrains$SetupReader" "tokens" "LHubTrains$Tokens;") (List.mem_of_getElem? (i := 1) rfl)) (fun _ h9 => h9) rfl dX3_readStatement_97 ?_
            obtain ⟨tk100, e_100, hm⟩ := bd1_s hm
            refine zcVv (As := []) (rest := []) ⟨hx, hb, hml, hown, hts⟩ (k_X5_advance l G K c (ard 2) (ard 3) rd.2.1 tk100 e_100) (cwV 0 hts gX3_readStatement_X5_advance rfl rfl rfl hd_X5_advance ⟨Nat.le_of_ble_eq_true rfl, Nat.le_of_ble_eq_true rfl⟩) hK hN hZ hP hD hS hA (va_recv hK hP (ci := 5) (q0 := 2) rfl rfl) [2, 3] rfl (by decide) rfl rfl hl.1 rfl (Nat.le_of_ble_eq_true rfl) dX3_readStatement_100 ⟨Nat.zero_le _, Nat.zero_le _⟩ (fun H locs hP hD hS => ?_)
            have hP : va_P G vwCl (wR c ard ((ss rd.1 3 1), tk100, rd.2.2)) H := hP
            have hD : va_D A (wR c ard ((ss rd.1 3 1), tk100, rd.2.2)) := hD
            refine lv_aload_n hx hb dX3_readStatement_103 rfl (lv_at hl 0 rfl) ?_
            refine lv_iconst (v := 0) hx hb dX3_readStatement_104 (by decide) ?_
            obtain ⟨r105, rd105, e_105, hm⟩ := bd2_s hm
            refine zcWi (As := [.int 0]) (rest := []) ⟨hx, hb, hml, hown, hts⟩ (k_sumN l G K c 8 ard ((ss rd.1 3 1), tk100, rd.2.2) 0 r105 rd105 e_105) (cwV 1 hts gX3_readStatement_X3_readSum rfl rfl rfl hd_X3_readSum ⟨Nat.le_of_ble_eq_true rfl, Nat.le_of_ble_eq_true rfl⟩) hK hN hZ hP hD hS hA (va_recv hK hP (ci := 3) (q0 := 0) rfl rfl) rfl hl.1 rfl (Nat.le_of_ble_eq_true rfl) dX3_readStatement_105 ⟨Nat.zero_le _, Nat.zero_le _⟩ (fun H locs hP hD hS => ?_)
            have hP : va_P G vwCl (wR c ard rd105) H := hP
            have hD : va_D A (wR c ard rd105) := hD
            obtain ⟨h_108, hm⟩ := gd_s hm
            exact hend H locs ls _ _ _ (isb_n h_108) (Prod.mk.inj (Option.some.inj hm)).1 (zc1 (fun (z0 : RS) => (wR c ard z0 : va_W)) (Prod.mk.inj (Option.some.inj hm)).2) hP hD hS dX3_readStatement_108
      · have hm := ifn c_64 hm
        refine lv_aload_n hx hb dX3_readStatement_67 rfl (lv_at hl 0 rfl) ?_
        obtain ⟨r68, rd68, e_68, hm⟩ := bd2_s hm
        refine zcWi (As := []) (rest := []) ⟨hx, hb, hml, hown, hts⟩ (k_X3_readGive l G K c ard rd r68 rd68 e_68) (cwV 0 hts gX3_readStatement_X3_readGive rfl rfl rfl hd_X3_readGive ⟨Nat.le_of_ble_eq_true rfl, Nat.le_of_ble_eq_true rfl⟩) hK hN hZ hP hD hS hA (va_recv hK hP (ci := 3) (q0 := 0) rfl rfl) rfl hl.1 rfl (Nat.le_of_ble_eq_true rfl) dX3_readStatement_68 ⟨Nat.zero_le _, Nat.zero_le _⟩ (fun H locs hP hD hS => ?_)
        have hP : va_P G vwCl (wR c ard rd68) H := hP
        have hD : va_D A (wR c ard rd68) := hD
        obtain ⟨h_71, hm⟩ := gd_s hm
        exact hend H locs ls _ _ _ (isb_n h_71) (Prod.mk.inj (Option.some.inj hm)).1 (zc1 (fun (z0 : RS) => (wR c ard z0 : va_W)) (Prod.mk.inj (Option.some.inj hm)).2) hP hD hS dX3_readStatement_71
    refine lv_if_eq (tgt := 55) hx hb dX3_readStatement_40 (by decide) (fun c_40 => ?_) (fun c_40 => ?_)
    · have hm := ifp c_40 hm
      exact J_55 H locs ls hP hD hS (lv_sub hl [0] rfl) hm
    · have hm := ifn c_40 hm
      refine lv_aload_n hx hb dX3_readStatement_43 rfl (lv_at hl 0 rfl) ?_
      refine va_get (D := G) (ci := 3) (v := .int (rd.1.1 2)) (C := RX3) (T := TX3) (N := 11) hx hb hts hi_3 hown hK hP 0 rfl rfl 4 (by decide) (hts (.fieldLink RX3 44 "HubTrains$SetupReader" "seedTold" "Z") (List.mem_of_getElem? (i := 4) rfl)) (fun _ h9 => h9) rfl dX3_readStatement_44 ?_
      refine lv_if_ne (tgt := 55) hx hb dX3_readStatement_47 (by decide) (fun c_47 => ?_) (fun c_47 => ?_)
      · have hm := ifn c_47 hm
        exact J_55 H locs ls hP hD hS (lv_sub hl [0] rfl) hm
      · have hm := ifp c_47 hm
        refine lv_aload_n hx hb dX3_readStatement_50 rfl (lv_at hl 0 rfl) ?_
        obtain ⟨r51, rd51, e_51, hm⟩ := bd2_s hm
        refine zcWi (As := []) (rest := []) ⟨hx, hb, hml, hown, hts⟩ (k_X3_readSeed l G K c ard rd r51 rd51 e_51) (cwV 0 hts gX3_readStatement_X3_readSeed rfl rfl rfl hd_X3_readSeed ⟨Nat.le_of_ble_eq_true rfl, Nat.le_of_ble_eq_true rfl⟩) hK hN hZ hP hD hS hA (va_recv hK hP (ci := 3) (q0 := 0) rfl rfl) rfl hl.1 rfl (Nat.le_of_ble_eq_true rfl) dX3_readStatement_51 ⟨Nat.zero_le _, Nat.zero_le _⟩ (fun H locs hP hD hS => ?_)
        have hP : va_P G vwCl (wR c ard rd51) H := hP
        have hD : va_D A (wR c ard rd51) := hD
        obtain ⟨h_54, hm⟩ := gd_s hm
        exact hend H locs ls _ _ _ (isb_n h_54) (Prod.mk.inj (Option.some.inj hm)).1 (zc1 (fun (z0 : RS) => (wR c ard z0 : va_W)) (Prod.mk.inj (Option.some.inj hm)).2) hP hD hS dX3_readStatement_54
  refine lv_if_eq (tgt := 31) hx hb dX3_readStatement_9 (by decide) (fun c_9 => ?_) (fun c_9 => ?_)
  · have hm := ifp c_9 hm
    exact J_31 H locs ls hP hD hS (lv_sub hl [0] rfl) hm
  · have hm := ifn c_9 hm
    refine lv_aload_n hx hb dX3_readStatement_12 rfl (lv_at hl 0 rfl) ?_
    refine va_get (D := G) (ci := 3) (v := .int (rd.1.1 1)) (C := RX3) (T := TX3) (N := 11) hx hb hts hi_3 hown hK hP 0 rfl rfl 3 (by decide) (hts (.fieldLink RX3 40 "HubTrains$SetupReader" "hubTold" "Z") (List.mem_of_getElem? (i := 2) rfl)) (fun _ h9 => h9) rfl dX3_readStatement_13 ?_
    refine lv_if_ne (tgt := 31) hx hb dX3_readStatement_16 (by decide) (fun c_16 => ?_) (fun c_16 => ?_)
    · have hm := ifn c_16 hm
      exact J_31 H locs ls hP hD hS (lv_sub hl [0] rfl) hm
    · have hm := ifp c_16 hm
      refine lv_aload_n hx hb dX3_readStatement_19 rfl (lv_at hl 0 rfl) ?_
      refine va_get (D := G) (ci := 3) (v := .int (rd.1.1 4)) (C := RX3) (T := TX3) (N := 11) hx hb hts hi_3 hown hK hP 0 rfl rfl 6 (by decide) (hts (.fieldLink RX3 53 "HubTrains$SetupReader" "tilesGiven" "Z") (List.mem_of_getElem? (i := 3) rfl)) (fun _ h9 => h9) rfl dX3_readStatement_20 ?_
      refine lv_if_ne (tgt := 31) hx hb dX3_readStatement_23 (by decide) (fun c_23 => ?_) (fun c_23 => ?_)
      · have hm := ifn c_23 hm
        exact J_31 H locs ls hP hD hS (lv_sub hl [0] rfl) hm
      · have hm := ifp c_23 hm
        refine lv_aload_n hx hb dX3_readStatement_26 rfl (lv_at hl 0 rfl) ?_
        obtain ⟨r27, rd27, e_27, hm⟩ := bd2_s hm
        refine zcWi (As := []) (rest := []) ⟨hx, hb, hml, hown, hts⟩ (k_X3_readHub l G K c ard rd r27 rd27 e_27) (cwV 0 hts gX3_readStatement_X3_readHub rfl rfl rfl hd_X3_readHub ⟨Nat.le_of_ble_eq_true rfl, Nat.le_of_ble_eq_true rfl⟩) hK hN hZ hP hD hS hA (va_recv hK hP (ci := 3) (q0 := 0) rfl rfl) rfl hl.1 rfl (Nat.le_of_ble_eq_true rfl) dX3_readStatement_27 ⟨Nat.zero_le _, Nat.zero_le _⟩ (fun H locs hP hD hS => ?_)
        have hP : va_P G vwCl (wR c ard rd27) H := hP
        have hD : va_D A (wR c ard rd27) := hD
        obtain ⟨h_30, hm⟩ := gd_s hm
        exact hend H locs ls _ _ _ (isb_n h_30) (Prod.mk.inj (Option.some.inj hm)).1 (zc1 (fun (z0 : RS) => (wR c ard z0 : va_W)) (Prod.mk.inj (Option.some.inj hm)).2) hP hD hS dX3_readStatement_30
