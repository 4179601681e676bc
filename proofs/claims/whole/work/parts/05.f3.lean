def f_X8_once_J19 (p0 : Int32) (x_19 : MS) : Option MS :=
  nmd ((x_19.1.1 10) ||| ((1 : Int32) <<< (p0 &&& 31))) fun (y28 : Int32) => some (((ss x_19.1 10 y28), x_19.2))

def f_X8_once (x : MS) (p0 : Int32) (p1 : Int32) : Option MS :=
  if (((x.1.1 10) >>> (p0 &&& 31)) &&& 1) = 1 then (bd1 (f_X8_report x (-2) p1) fun (x16 : MS) => f_X8_once_J19 p0 x16) else (f_X8_once_J19 p0 x)

abbrev rm_X8_once : Room := { frames := 1, cells := 0, slots := 0, locals := 22 }
theorem hd_X8_once : yX8_once.cls = RX8 ∧ yX8_once.cls ≠ "java/lang/invoke/MethodHandle" ∧ yX8_once.cls ≠ "java/lang/invoke/VarHandle" ∧ (parseMethodDescriptor yX8_once.desc).map (fun d => d.parameters.length) = some 2 := by decide +kernel
set_option maxHeartbeats 4000000 in
set_option maxRecDepth 100000 in
theorem k_X8_once (l : Launch) (G : va_G) (K : (Nat → Nat) × (Nat → Nat)) (c : Nat → ClassId) (ax : Nat → Nat) (x : MS) (p0 : Int32) (p1 : Int32) (x_r : MS) (hm : f_X8_once x p0 p1 = some (x_r)) : zMv l yX8_once wsX8_once (rm_X8_once) G K (TY c) [.ref (ax 0), .int p0, .int p1] (wM c ax x) (wM c ax x_r) := by
  refine zMv.of (cc := cX8_once) (maxL := 3) (lv := [(0, .ref (ax 0)), (1, .int p0), (2, .int p1)]) (by decide) rfl (Nat.le_of_ble_eq_true rfl) rfl ?_
  intro p e s m args below meth c1 A Q H locs hx hb hml hown hts hK hN hZ hP hD hA hS hend ls hl
  have hown : s.vm.findClass RX8 = some m.cls := hown
  have hi_8 : ∀ w ∈ wsX80, w ∈ wsX8_once := (fun w h => List.mem_cons_of_mem _ (List.mem_append_right _ (h)))
  unfold f_X8_once at hm
  refine lv_aload_n hx hb dX8_once_0 rfl (lv_at hl 0 rfl) ?_
  refine va_get (D := G) (ci := 8) (v := .int (x.1.1 10)) (C := RX8) (T := TX8) (N := 22) hx hb hts hi_8 hown hK hP 0 rfl rfl 15 (by decide) (hts (.fieldLink RX8 160 "HubTrainsModel" "seen" "I") (List.mem_of_getElem? (i := 1) rfl)) (fun _ h9 => h9) rfl dX8_once_1 ?_
  refine lv_iload_n hx hb dX8_once_4 rfl (lv_at hl 1 rfl) ?_
  refine lv_ishr hx hb dX8_once_5 ?_
  refine lv_iconst (v := 1) hx hb dX8_once_6 (by decide) ?_
  refine lv_iand hx hb dX8_once_7 ?_
  refine lv_iconst (v := 1) hx hb dX8_once_8 (by decide) ?_
  have J_19 : ∀ (x_19 : MS) (H : Heap) (locs : List Loc) (ls : Array Slot), va_P G vwCl (wM c ax x_19) H → va_D A (wM c ax x_19) → va_S A s.heap H locs → lv_has ls 3 [(0, .ref (ax 0)), (1, .int p0)] → f_X8_once_J19 p0 x_19 = some (x_r) → W p l e (rm_X8_once) s m args below meth c1 H locs 0 0 Q (F0 m 19 ls []) := by
    intro x_19 H locs ls hP hD hS hl hm
    unfold f_X8_once_J19 at hm
    refine lv_aload_n hx hb dX8_once_19 rfl (lv_at hl 0 rfl) ?_
    refine lv_dup hx hb dX8_once_20 rfl ?_
    refine va_get (D := G) (ci := 8) (v := .int (x_19.1.1 10)) (C := RX8) (T := TX8) (N := 22) hx hb hts hi_8 hown hK hP 0 rfl rfl 15 (by decide) (hts (.fieldLink RX8 160 "HubTrainsModel" "seen" "I") (List.mem_of_getElem? (i := 1) rfl)) (fun _ h9 => h9) rfl dX8_once_21 ?_
    refine lv_iconst (v := 1) hx hb dX8_once_24 (by decide) ?_
    refine lv_iload_n hx hb dX8_once_25 rfl (lv_at hl 1 rfl) ?_
    refine lv_ishl hx hb dX8_once_26 ?_
    refine lv_ior hx hb dX8_once_27 ?_
    refine lv_topi (fun y28 e_y28 => ?_)
    have hm := nmd_s hm y28 e_y28
    refine va_put (D := G) (ci := 8) (v := .int y28) (C := RX8) (T := TX8) (N := 22) hx hb hts hi_8 tyX8 tyX8_ok nmX8 hown hK hP hD hS 0 rfl rfl 15 (by decide) (hts (.fieldLink RX8 160 "HubTrainsModel" "seen" "I") (List.mem_of_getElem? (i := 1) rfl)) (fun _ h9 => h9) rfl (tyX8_ok 15 (by decide)) rfl rfl (Nat.le_of_ble_eq_true rfl) dX8_once_28 (fun H locs hP hD hS => ?_)
    have hP : va_P G vwCl (wM c ax ((ss x_19.1 10 y28), x_19.2)) H := hP
    have hD : va_D A (wM c ax ((ss x_19.1 10 y28), x_19.2)) := hD
    exact hend H locs ls _ _ (zc1 (fun (z0 : MS) => (wM c ax z0 : va_W)) (Option.some.inj hm)) hP hD hS dX8_once_31
  refine lv_icmp_ne (tgt := 19) hx hb dX8_once_9 (by decide) (fun c_9 => ?_) (fun c_9 => ?_)
  · have hm := ifn c_9 hm
    exact J_19 x H locs ls hP hD hS (lv_sub hl [0, 1] rfl) hm
  · have hm := ifp c_9 hm
    refine lv_aload_n hx hb dX8_once_12 rfl (lv_at hl 0 rfl) ?_
    refine lv_bipush (v := (-2)) hx hb dX8_once_13 (by decide) ?_
    refine lv_iload_n hx hb dX8_once_15 rfl (lv_at hl 2 rfl) ?_
    obtain ⟨x16, e_16, hm⟩ := bd1_s hm
    refine zcWv (As := [.int (-2), .int p1]) (rest := []) ⟨hx, hb, hml, hown, hts⟩ (k_X8_report l G K c ax x (-2) p1 x16 e_16) (cwV 2 hts gX8_once_X8_report rfl rfl rfl hd_X8_report ⟨Nat.le_of_ble_eq_true rfl, Nat.le_of_ble_eq_true rfl⟩) hK hN hZ hP hD hS hA (va_recv hK hP (ci := 8) (q0 := 0) rfl rfl) rfl hl.1 rfl (Nat.le_of_ble_eq_true rfl) dX8_once_16 ⟨Nat.zero_le _, Nat.zero_le _⟩ (fun H locs hP hD hS => ?_)
    have hP : va_P G vwCl (wM c ax x16) H := hP
    have hD : va_D A (wM c ax x16) := hD
    exact J_19 x16 H locs ls hP hD hS (lv_sub hl [0, 1] rfl) hm

def f_X8_readTile_J117 (p0 : Int32) (r39 : Int32) (x_117 : MS) : Option MS :=
  bd1 (f_X8_isGood x_117) fun (r118 : Int32) => if r118 = 0 then (some (x_117)) else (gd (inb (19 + r39) 1464) <| nmd (upd (x_117.1.2 2) (19 + r39).toNatClampNeg p0) fun (w134 : Nat → Int32) => some (((sa x_117.1 2 w134), x_117.2)))

def f_X8_readTile_J86 (p0 : Int32) (x8 : MS) (r39 : Int32) (x_86 : MS) : Option MS :=
  bd1 (f_X8_isGood x_86) fun (r87 : Int32) => if r87 = 0 then (f_X8_readTile_J117 p0 r39 x_86) else (bd1 (f_X8_handOf 1464 (x_86.1.2 2) p0) fun (r98 : Int32) => gd (inb 2 1464) <| if r98 = ((x_86.1.2 2) (2 : Int32).toNatClampNeg) then (bd1 (f_X8_report x_86 (-5) (x8.1.1 8)) fun (x114 : MS) => f_X8_readTile_J117 p0 r39 x114) else (f_X8_readTile_J117 p0 r39 x_86))

def f_X8_readTile_J79 (p0 : Int32) (x8 : MS) (x31 : MS) (r39 : Int32) : Option MS :=
  bd1 (f_X8_report x31 (-4) (x8.1.1 8)) fun (x83 : MS) => f_X8_readTile_J86 p0 x8 r39 x83

def f_X8_readTile (x : MS) (p0 : Int32) : Option MS :=
  gd (inb 0 1464) <| bd2 (f_X8_number x 0 ((x.1.2 2) (0 : Int32).toNatClampNeg)) fun (r8 : Int32) (x8 : MS) => bd1 (f_X8_expect x8 45) fun (x20 : MS) => gd (inb 0 1464) <| bd2 (f_X8_number x20 0 ((x20.1.2 2) (0 : Int32).toNatClampNeg)) fun (r31 : Int32) (x31 : MS) => bd1 (f_X8_codeOf r8 r31) fun (r39 : Int32) => bd1 (f_X8_isGood x31) fun (r45 : Int32) => if r45 = 0 then (f_X8_readTile_J86 p0 x8 r39 x31) else (gd (inb (19 + r39) 1464) <| if ((x31.1.2 2) (19 + r39).toNatClampNeg) = (-1) then (gd (inb 3 1464) <| if r39 = (11 * ((x31.1.2 2) (3 : Int32).toNatClampNeg)) then (f_X8_readTile_J79 p0 x8 x31 r39) else (f_X8_readTile_J86 p0 x8 r39 x31)) else (f_X8_readTile_J79 p0 x8 x31 r39))

abbrev rm_X8_readTile : Room := { frames := 3, cells := 0, slots := 0, locals := 65 }
theorem hd_X8_readTile : yX8_readTile.cls = RX8 ∧ yX8_readTile.cls ≠ "java/lang/invoke/MethodHandle" ∧ yX8_readTile.cls ≠ "java/lang/invoke/VarHandle" ∧ (parseMethodDescriptor yX8_readTile.desc).map (fun d => d.parameters.length) = some 1 := by decide +kernel
set_option maxHeartbeats 4000000 in
set_option maxRecDepth 100000 in
theorem k_X8_readTile (l : Launch) (G : va_G) (K : (Nat → Nat) × (Nat → Nat)) (c : Nat → ClassId) (ax : Nat → Nat) (x : MS) (p0 : Int32) (x_r : MS) (hm : f_X8_readTile x p0 = some (x_r)) : zMv l yX8_readTile wsX8_readTile (rm_X8_readTile) G K (TY c) [.ref (ax 0), .int p0] (wM c ax x) (wM c ax x_r) := by
  refine zMv.of (cc := cX8_readTile) (maxL := 6) (lv := [(0, .ref (ax 0)), (1, .int p0)]) (by decide) rfl (Nat.le_of_ble_eq_true rfl) rfl ?_
  intro p e s m args below meth c1 A Q H locs hx hb hml hown hts hK hN hZ hP hD hA hS hend ls hl
  have hown : s.vm.findClass RX8 = some m.cls := hown
  have hi_8 : ∀ w ∈ wsX80, w ∈ wsX8_readTile := (fun w h => List.mem_cons_of_mem _ (List.mem_append_right _ (h)))
  unfold f_X8_readTile at hm
  refine lv_aload_n hx hb dX8_readTile_0 rfl (lv_at hl 0 rfl) ?_
  refine lv_iconst (v := 0) hx hb dX8_readTile_1 (by decide) ?_
  refine lv_aload_n hx hb dX8_readTile_2 rfl (lv_at hl 0 rfl) ?_
  refine va_get (D := G) (ci := 8) (v := .ref (ax 3)) (C := RX8) (T := TX8) (N := 22) hx hb hts hi_8 hown hK hP 0 rfl rfl 9 (by decide) (hts (.fieldLink RX8 20 "HubTrainsModel" "draft" "[I") (List.mem_of_getElem? (i := 1) rfl)) (fun _ h9 => h9) rfl dX8_readTile_3 ?_
  refine lv_iconst (v := 0) hx hb dX8_readTile_6 (by decide) ?_
  obtain ⟨h_7, hm⟩ := gd_s hm
  refine va_iald (D := G) hx hb hK hP 3 0 rfl rfl (inb_s h_7) dX8_readTile_7 ?_
  obtain ⟨r8, x8, e_8, hm⟩ := bd2_s hm
  refine zcWi (As := [.int 0, .int ((x.1.2 2) (0 : Int32).toNatClampNeg)]) (rest := []) ⟨hx, hb, hml, hown, hts⟩ (k_X8_number l G K c ax x 0 ((x.1.2 2) (0 : Int32).toNatClampNeg) r8 x8 e_8) (cwV 2 hts gX8_readTile_X8_number rfl rfl rfl hd_X8_number ⟨Nat.le_of_ble_eq_true rfl, Nat.le_of_ble_eq_true rfl⟩) hK hN hZ hP hD hS hA (va_recv hK hP (ci := 8) (q0 := 0) rfl rfl) rfl hl.1 rfl (Nat.le_of_ble_eq_true rfl) dX8_readTile_8 ⟨Nat.zero_le _, Nat.zero_le _⟩ (fun H locs hP hD hS => ?_)
  have hP : va_P G vwCl (wM c ax x8) H := hP
  have hD : va_D A (wM c ax x8) := hD
  refine lv_istore_n (lv' := [(2, .int r8), (0, .ref (ax 0)), (1, .int p0)]) hx hb dX8_readTile_11 rfl hl (by decide) rfl (fun ls hl => ?_)
  refine lv_aload_n hx hb dX8_readTile_12 rfl (lv_at hl 1 rfl) ?_
  refine va_get (D := G) (ci := 8) (v := .int (x8.1.1 8)) (C := RX8) (T := TX8) (N := 22) hx hb hts hi_8 hown hK hP 0 rfl rfl 13 (by decide) (hts (.fieldLink RX8 120 "HubTrainsModel" "numberStart" "I") (List.mem_of_getElem? (i := 2) rfl)) (fun _ h9 => h9) rfl dX8_readTile_13 ?_
  refine lv_istore_n (lv' := [(3, .int (x8.1.1 8)), (2, .int r8), (0, .ref (ax 0)), (1, .int p0)]) hx hb dX8_readTile_16 rfl hl (by decide) rfl (fun ls hl => ?_)
  refine lv_aload_n hx hb dX8_readTile_17 rfl (lv_at hl 2 rfl) ?_
  refine lv_bipush (v := 45) hx hb dX8_readTile_18 (by decide) ?_
  obtain ⟨x20, e_20, hm⟩ := bd1_s hm
  refine zcWv (As := [.int 45]) (rest := []) ⟨hx, hb, hml, hown, hts⟩ (k_X8_expect l G K c ax x8 45 x20 e_20) (cwV 1 hts gX8_readTile_X8_expect rfl rfl rfl hd_X8_expect ⟨Nat.le_of_ble_eq_true rfl, Nat.le_of_ble_eq_true rfl⟩) hK hN hZ hP hD hS hA (va_recv hK hP (ci := 8) (q0 := 0) rfl rfl) rfl hl.1 rfl (Nat.le_of_ble_eq_true rfl) dX8_readTile_20 ⟨Nat.zero_le _, Nat.zero_le _⟩ (fun H locs hP hD hS => ?_)
  have hP : va_P G vwCl (wM c ax x20) H := hP
  have hD : va_D A (wM c ax x20) := hD
  refine lv_aload_n hx hb dX8_readTile_23 rfl (lv_at hl 2 rfl) ?_
  refine lv_iconst (v := 0) hx hb dX8_readTile_24 (by decide) ?_
  refine lv_aload_n hx hb dX8_readTile_25 rfl (lv_at hl 2 rfl) ?_
  refine va_get (D := G) (ci := 8) (v := .ref (ax 3)) (C := RX8) (T := TX8) (N := 22) hx hb hts hi_8 hown hK hP 0 rfl rfl 9 (by decide) (hts (.fieldLink RX8 20 "HubTrainsModel" "draft" "[I") (List.mem_of_getElem? (i := 1) rfl)) (fun _ h9 => h9) rfl dX8_readTile_26 ?_
  refine lv_iconst (v := 0) hx hb dX8_readTile_29 (by decide) ?_
  obtain ⟨h_30, hm⟩ := gd_s hm
  refine va_iald (D := G) hx hb hK hP 3 0 rfl rfl (inb_s h_30) dX8_readTile_30 ?_
  obtain ⟨r31, x31, e_31, hm⟩ := bd2_s hm
  refine zcWi (As := [.int 0, .int ((x20.1.2 2) (0 : Int32).toNatClampNeg)]) (rest := []) ⟨hx, hb, hml, hown, hts⟩ (k_X8_number l G K c ax x20 0 ((x20.1.2 2) (0 : Int32).toNatClampNeg) r31 x31 e_31) (cwV 2 hts gX8_readTile_X8_number rfl rfl rfl hd_X8_number ⟨Nat.le_of_ble_eq_true rfl, Nat.le_of_ble_eq_true rfl⟩) hK hN hZ hP hD hS hA (va_recv hK hP (ci := 8) (q0 := 0) rfl rfl) rfl hl.1 rfl (Nat.le_of_ble_eq_true rfl) dX8_readTile_31 ⟨Nat.zero_le _, Nat.zero_le _⟩ (fun H locs hP hD hS => ?_)
  have hP : va_P G vwCl (wM c ax x31) H := hP
  have hD : va_D A (wM c ax x31) := hD
  refine lv_istore (lv' := [(4, .int r31), (3, .int (x8.1.1 8)), (2, .int r8), (0, .ref (ax 0)), (1, .int p0)]) hx hb dX8_readTile_34 hl (by decide) rfl (fun ls hl => ?_)
  refine lv_iload_n hx hb dX8_readTile_36 rfl (lv_at hl 2 rfl) ?_
  refine lv_iload hx hb dX8_readTile_37 (lv_at hl 0 rfl) ?_
  obtain ⟨r39, e_39, hm⟩ := bd1_s hm
  refine zcSi (As := [.int r8, .int r31]) (rest := []) ⟨hx, hb, hml, hown, hts⟩ (k_X8_codeOf l G K c r8 r31 r39 e_39) (va_cwS 2 hts gX8_readTile_X8_codeOf rfl rfl rfl hd_X8_codeOf.2 ⟨Nat.le_of_ble_eq_true rfl, Nat.le_of_ble_eq_true rfl⟩) hK hN hZ hP hD hS hA [] rfl (by decide) rfl rfl hl.1 rfl (Nat.le_of_ble_eq_true rfl) dX8_readTile_39 ⟨Nat.zero_le _, Nat.zero_le _⟩ (fun H locs hP hD hS => ?_)
  have hP : va_P G vwCl (wM c ax x31) H := hP
  have hD : va_D A (wM c ax x31) := hD
  refine lv_istore (lv' := [(5, .int r39), (4, .int r31), (3, .int (x8.1.1 8)), (2, .int r8), (0, .ref (ax 0)), (1, .int p0)]) hx hb dX8_readTile_42 hl (by decide) rfl (fun ls hl => ?_)
  refine lv_aload_n hx hb dX8_readTile_44 rfl (lv_at hl 4 rfl) ?_
  obtain ⟨r45, e_45, hm⟩ := bd1_s hm
  refine zcWi (As := []) (rest := []) ⟨hx, hb, hml, hown, hts⟩ (k_X8_isGood l G K c ax x31 r45 e_45) (cwV 0 hts gX8_readTile_X8_isGood rfl rfl rfl hd_X8_isGood ⟨Nat.le_of_ble_eq_true rfl, Nat.le_of_ble_eq_true rfl⟩) hK hN hZ hP hD hS hA (va_recv hK hP (ci := 8) (q0 := 0) rfl rfl) rfl hl.1 rfl (Nat.le_of_ble_eq_true rfl) dX8_readTile_45 ⟨Nat.zero_le _, Nat.zero_le _⟩ (fun H locs hP hD hS => ?_)
  have hP : va_P G vwCl (wM c ax x31) H := hP
  have hD : va_D A (wM c ax x31) := hD
  have J_86 : ∀ (x_86 : MS) (H : Heap) (locs : List Loc) (ls : Array Slot), va_P G vwCl (wM c ax x_86) H → va_D A (wM c ax x_86) → va_S A s.heap H locs → lv_has ls 6 [(0, .ref (ax 0)), (1, .int p0), (3, .int (x8.1.1 8)), (5, .int r39)] → f_X8_readTile_J86 p0 x8 r39 x_86 = some (x_r) → W p l e (rm_X8_readTile) s m args below meth c1 H locs 0 0 Q (F0 m 86 ls []) := by
    intro x_86 H locs ls hP hD hS hl hm
    unfold f_X8_readTile_J86 at hm
    refine lv_aload_n hx hb dX8_readTile_86 rfl (lv_at hl 0 rfl) ?_
    obtain ⟨r87, e_87, hm⟩ := bd1_s hm
    refine zcWi (As := []) (rest := []) ⟨hx, hb, hml, hown, hts⟩ (k_X8_isGood l G K c ax x_86 r87 e_87) (cwV 0 hts gX8_readTile_X8_isGood rfl rfl rfl hd_X8_isGood ⟨Nat.le_of_ble_eq_true rfl, Nat.le_of_ble_eq_true rfl⟩) hK hN hZ hP hD hS hA (va_recv hK hP (ci := 8) (q0 := 0) rfl rfl) rfl hl.1 rfl (Nat.le_of_ble_eq_true rfl) dX8_readTile_87 ⟨Nat.zero_le _, Nat.zero_le _⟩ (fun H locs hP hD hS => ?_)
    have hP : va_P G vwCl (wM c ax x_86) H := hP
    have hD : va_D A (wM c ax x_86) := hD
    have J_117 : ∀ (x_117 : MS) (H : Heap) (locs : List Loc) (ls : Array Slot), va_P G vwCl (wM c ax x_117) H → va_D A (wM c ax x_117) → va_S A s.heap H locs → lv_has ls 6 [(0, .ref (ax 0)), (1, .int p0), (5, .int r39)] → f_X8_readTile_J117 p0 r39 x_117 = some (x_r) → W p l e (rm_X8_readTile) s m args below meth c1 H locs 0 0 Q (F0 m 117 ls []) := by
      intro x_117 H locs ls hP hD hS hl hm
      unfold f_X8_readTile_J117 at hm
      refine lv_aload_n hx hb dX8_readTile_117 rfl (lv_at hl 0 rfl) ?_
      obtain ⟨r118, e_118, hm⟩ := bd1_s hm
      refine zcWi (As := []) (rest := []) ⟨hx, hb, hml, hown, hts⟩ (k_X8_isGood l G K c ax x_117 r118 e_118) (cwV 0 hts gX8_readTile_X8_isGood rfl rfl rfl hd_X8_isGood ⟨Nat.le_of_ble_eq_true rfl, Nat.le_of_ble_eq_true rfl⟩) hK hN hZ hP hD hS hA (va_recv hK hP (ci := 8) (q0 := 0) rfl rfl) rfl hl.1 rfl (Nat.le_of_ble_eq_true rfl) dX8_readTile_118 ⟨Nat.zero_le _, Nat.zero_le _⟩ (fun H locs hP hD hS => ?_)
      have hP : va_P G vwCl (wM c ax x_117) H := hP
      have hD : va_D A (wM c ax x_117) := hD
      refine lv_if_eq (tgt := 135) hx hb dX8_readTile_121 (by decide) (fun c_121 => ?_) (fun c_121 => ?_)
      · have hm := ifp c_121 hm
        exact hend H locs ls _ _ (zc1 (fun (z0 : MS) => (wM c ax z0 : va_W)) (Option.some.inj hm)) hP hD hS dX8_readTile_135
      · have hm := ifn c_121 hm
        refine lv_aload_n hx hb dX8_readTile_124 rfl (lv_at hl 0 rfl) ?_
        refine va_get (D := G) (ci := 8) (v := .ref (ax 3)) (C := RX8) (T := TX8) (N := 22) hx hb hts hi_8 hown hK hP 0 rfl rfl 9 (by decide) (hts (.fieldLink RX8 20 "HubTrainsModel" "draft" "[I") (List.mem_of_getElem? (i := 1) rfl)) (fun _ h9 => h9) rfl dX8_readTile_125 ?_
        refine lv_bipush (v := 19) hx hb dX8_readTile_128 (by decide) ?_
        refine lv_iload hx hb dX8_readTile_130 (lv_at hl 2 rfl) ?_
        refine lv_iadd hx hb dX8_readTile_132 ?_
        refine lv_iload_n hx hb dX8_readTile_133 rfl (lv_at hl 1 rfl) ?_
        obtain ⟨h_134, hm⟩ := gd_s hm
        refine va_iast (D := G) hx hb hK hP hD hS 3 0 rfl rfl (inb_s h_134) dX8_readTile_134 (fun H locs hP hD hS => ?_)
        obtain ⟨w134, e_w134⟩ : ∃ z : Nat → Int32, z = upd (x_117.1.2 2) (19 + r39).toNatClampNeg p0 := ⟨_, rfl⟩
        have hP : va_P G vwCl (wM c ax ((sa x_117.1 2 w134), x_117.2)) H := by rw [e_w134]; exact hP
        have hD : va_D A (wM c ax ((sa x_117.1 2 w134), x_117.2)) := by rw [e_w134]; exact hD
        have hm := nmd_s hm w134 e_w134
        exact hend H locs ls _ _ (zc1 (fun (z0 : MS) => (wM c ax z0 : va_W)) (Option.some.inj hm)) hP hD hS dX8_readTile_135
    refine lv_if_eq (tgt := 117) hx hb dX8_readTile_90 (by decide) (fun c_90 => ?_) (fun c_90 => ?_)
    · have hm := ifp c_90 hm
      exact J_117 x_86 H locs ls hP hD hS (lv_sub hl [0, 1, 3] rfl) hm
    · have hm := ifn c_90 hm
      refine lv_aload_n hx hb dX8_readTile_93 rfl (lv_at hl 0 rfl) ?_
      refine va_get (D := G) (ci := 8) (v := .ref (ax 3)) (C := RX8) (T := TX8) (N := 22) hx hb hts hi_8 hown hK hP 0 rfl rfl 9 (by decide) (hts (.fieldLink RX8 20 "HubTrainsModel" "draft" "[I") (List.mem_of_getElem? (i := 1) rfl)) (fun _ h9 => h9) rfl dX8_readTile_94 ?_
      refine lv_iload_n hx hb dX8_readTile_97 rfl (lv_at hl 1 rfl) ?_
      obtain ⟨r98, e_98, hm⟩ := bd1_s hm
      refine zcSi (As := [.ref (ax 3), .int p0]) (rest := []) ⟨hx, hb, hml, hown, hts⟩ (k_X8_handOf l G K c (ax 3) 1464 (x_86.1.2 2) p0 r98 e_98) (va_cwS 2 hts gX8_readTile_X8_handOf rfl rfl rfl hd_X8_handOf.2 ⟨Nat.le_of_ble_eq_true rfl, Nat.le_of_ble_eq_true rfl⟩) hK hN hZ hP hD hS hA [3] rfl (by decide) rfl rfl hl.1 rfl (Nat.le_of_ble_eq_true rfl) dX8_readTile_98 ⟨Nat.zero_le _, Nat.zero_le _⟩ (fun H locs hP hD hS => ?_)
      have hP : va_P G vwCl (wM c ax x_86) H := hP
      have hD : va_D A (wM c ax x_86) := hD
      refine lv_aload_n hx hb dX8_readTile_101 rfl (lv_at hl 0 rfl) ?_
      refine va_get (D := G) (ci := 8) (v := .ref (ax 3)) (C := RX8) (T := TX8) (N := 22) hx hb hts hi_8 hown hK hP 0 rfl rfl 9 (by decide) (hts (.fieldLink RX8 20 "HubTrainsModel" "draft" "[I") (List.mem_of_getElem? (i := 1) rfl)) (fun _ h9 => h9) rfl dX8_readTile_102 ?_
      refine lv_iconst (v := 2) hx hb dX8_readTile_105 (by decide) ?_
      obtain ⟨h_106, hm⟩ := gd_s hm
      refine va_iald (D := G) hx hb hK hP 3 0 rfl rfl (inb_s h_106) dX8_readTile_106 ?_
      refine lv_icmp_ne (tgt := 117) hx hb dX8_readTile_107 (by decide) (fun c_107 => ?_) (fun c_107 => ?_)
      · have hm := ifn c_107 hm
        exact J_117 x_86 H locs ls hP hD hS (lv_sub hl [0, 1, 3] rfl) hm
      · have hm := ifp c_107 hm
        refine lv_aload_n hx hb dX8_readTile_110 rfl (lv_at hl 0 rfl) ?_
        refine lv_bipush (v := (-5)) hx hb dX8_readTile_111 (by decide) ?_
        refine lv_iload_n hx hb dX8_readTile_113 rfl (lv_at hl 2 rfl) ?_
        obtain ⟨x114, e_114, hm⟩ := bd1_s hm
        refine zcWv (As := [.int (-5), .int (x8.1.1 8)]) (rest := []) ⟨hx, hb, hml, hown, hts⟩ (k_X8_report l G K c ax x_86 (-5) (x8.1.1 8) x114 e_114) (cwV 2 hts gX8_readTile_X8_report rfl rfl rfl hd_X8_report ⟨Nat.le_of_ble_eq_true rfl, Nat.le_of_ble_eq_true rfl⟩) hK hN hZ hP hD hS hA (va_recv hK hP (ci := 8) (q0 := 0) rfl rfl) rfl hl.1 rfl (Nat.le_of_ble_eq_true rfl) dX8_readTile_114 ⟨Nat.zero_le _, Nat.zero_le _⟩ (fun H locs hP hD hS => ?_)
        have hP : va_P G vwCl (wM c ax x114) H := hP
        have hD : va_D A (wM c ax x114) := hD
        exact J_117 x114 H locs ls hP hD hS (lv_sub hl [0, 1, 3] rfl) hm
  refine lv_if_eq (tgt := 86) hx hb dX8_readTile_48 (by decide) (fun c_48 => ?_) (fun c_48 => ?_)
  · have hm := ifp c_48 hm
    exact J_86 x31 H locs ls hP hD hS (lv_sub hl [4, 5, 2, 0] rfl) hm
  · have hm := ifn c_48 hm
    refine lv_aload_n hx hb dX8_readTile_51 rfl (lv_at hl 4 rfl) ?_
    refine va_get (D := G) (ci := 8) (v := .ref (ax 3)) (C := RX8) (T := TX8) (N := 22) hx hb hts hi_8 hown hK hP 0 rfl rfl 9 (by decide) (hts (.fieldLink RX8 20 "HubTrainsModel" "draft" "[I") (List.mem_of_getElem? (i := 1) rfl)) (fun _ h9 => h9) rfl dX8_readTile_52 ?_
    refine lv_bipush (v := 19) hx hb dX8_readTile_55 (by decide) ?_
    refine lv_iload hx hb dX8_readTile_57 (lv_at hl 0 rfl) ?_
    refine lv_iadd hx hb dX8_readTile_59 ?_
    obtain ⟨h_60, hm⟩ := gd_s hm
    refine va_iald (D := G) hx hb hK hP 3 0 rfl rfl (inb_s h_60) dX8_readTile_60 ?_
    refine lv_iconst (v := (-1)) hx hb dX8_readTile_61 (by decide) ?_
    have J_79 : ∀ (H : Heap) (locs : List Loc) (ls : Array Slot), va_P G vwCl (wM c ax x31) H → va_D A (wM c ax x31) → va_S A s.heap H locs → lv_has ls 6 [(0, .ref (ax 0)), (1, .int p0), (3, .int (x8.1.1 8)), (5, .int r39)] → f_X8_readTile_J79 p0 x8 x31 r39 = some (x_r) → W p l e (rm_X8_readTile) s m args below meth c1 H locs 0 0 Q (F0 m 79 ls []) := by
      intro  H locs ls hP hD hS hl hm
      unfold f_X8_readTile_J79 at hm
      refine lv_aload_n hx hb dX8_readTile_79 rfl (lv_at hl 0 rfl) ?_
      refine lv_bipush (v := (-4)) hx hb dX8_readTile_80 (by decide) ?_
      refine lv_iload_n hx hb dX8_readTile_82 rfl (lv_at hl 2 rfl) ?_
      obtain ⟨x83, e_83, hm⟩ := bd1_s hm
      refine zcWv (As := [.int (-4), .int (x8.1.1 8)]) (rest := []) ⟨hx, hb, hml, hown, hts⟩ (k_X8_report l G K c ax x31 (-4) (x8.1.1 8) x83 e_83) (cwV 2 hts gX8_readTile_X8_report rfl rfl rfl hd_X8_report ⟨Nat.le_of_ble_eq_true rfl, Nat.le_of_ble_eq_true rfl⟩) hK hN hZ hP hD hS hA (va_recv hK hP (ci := 8) (q0 := 0) rfl rfl) rfl hl.1 rfl (Nat.le_of_ble_eq_true rfl) dX8_readTile_83 ⟨Nat.zero_le _, Nat.zero_le _⟩ (fun H locs hP hD hS => ?_)
      have hP : va_P G vwCl (wM c ax x83) H := hP
      have hD : va_D A (wM c ax x83) := hD
      exact J_86 x83 H locs ls hP hD hS (lv_sub hl [0, 1, 2, 3] rfl) hm
    refine lv_icmp_ne (tgt := 79) hx hb dX8_readTile_62 (by decide) (fun c_62 => ?_) (fun c_62 => ?_)
    · have hm := ifn c_62 hm
      exact J_79 H locs ls hP hD hS (lv_sub hl [4, 5, 2, 0] rfl) hm
    · have hm := ifp c_62 hm
      refine lv_iload hx hb dX8_readTile_65 (lv_at hl 0 rfl) ?_
      refine lv_bipush (v := 11) hx hb dX8_readTile_67 (by decide) ?_
      refine lv_aload_n hx hb dX8_readTile_69 rfl (lv_at hl 4 rfl) ?_
      refine va_get (D := G) (ci := 8) (v := .ref (ax 3)) (C := RX8) (T := TX8) (N := 22) hx hb hts hi_8 hown hK hP 0 rfl rfl 9 (by decide) (hts (.fieldLink RX8 20 "HubTrainsModel" "draft" "[I") (List.mem_of_getElem? (i := 1) rfl)) (fun _ h9 => h9) rfl dX8_readTile_70 ?_
      refine lv_iconst (v := 3) hx hb dX8_readTile_73 (by decide) ?_
      obtain ⟨h_74, hm⟩ := gd_s hm
      refine va_iald (D := G) hx hb hK hP 3 0 rfl rfl (inb_s h_74) dX8_readTile_74 ?_
      refine lv_imul hx hb dX8_readTile_75 ?_
      refine lv_icmp_ne (tgt := 86) hx hb dX8_readTile_76 (by decide) (fun c_76 => ?_) (fun c_76 => ?_)
      · have hm := ifn c_76 hm
        exact J_86 x31 H locs ls hP hD hS (lv_sub hl [4, 5, 2, 0] rfl) hm
      · have hm := ifp c_76 hm
        exact J_79 H locs ls hP hD hS (lv_sub hl [4, 5, 2, 0] rfl) hm

def f_X8_readGive_B19 (r10 : Int32) (rec_19 : MS → Option MS) (x_19 : MS) : Option MS :=
  bd1 (f_X8_readTile x_19 r10) fun (x21 : MS) => bd1 (f_X8_isGood x21) fun (r25 : Int32) => if r25 = 0 then (some (x21)) else (bd2 (f_X8_ahead x21) fun (r32 : Int32) (x32 : MS) => bd1 (f_X8_isDigit r32) fun (r35 : Int32) => if r35 = 0 then (some (x32)) else (rec_19 x32))

def f_X8_readGive (x : MS) : Option MS :=
  gd (inb 1 1464) <| bd2 (f_X8_number x 0 (((x.1.2 2) (1 : Int32).toNatClampNeg) - 1)) fun (r10 : Int32) (x10 : MS) => itr1 (f_X8_readGive_B19 r10) FUEL ((ss x10.1 11 1), x10.2)

abbrev rm_X8_readGive : Room := { frames := 4, cells := 0, slots := 0, locals := 90 }
theorem hd_X8_readGive : yX8_readGive.cls = RX8 ∧ yX8_readGive.cls ≠ "java/lang/invoke/MethodHandle" ∧ yX8_readGive.cls ≠ "java/lang/invoke/VarHandle" ∧ (parseMethodDescriptor yX8_readGive.desc).map (fun d => d.parameters.length) = some 0 := by decide +kernel
set_option maxHeartbeats 4000000 in
set_option maxRecDepth 100000 in
theorem k_X8_readGive (l : Launch) (G : va_G) (K : (Nat → Nat) × (Nat → Nat)) (c : Nat → ClassId) (ax : Nat → Nat) (x : MS) (x_r : MS) (hm : f_X8_readGive x = some (x_r)) : zMv l yX8_readGive wsX8_readGive (rm_X8_readGive) G K (TY c) [.ref (ax 0)] (wM c ax x) (wM c ax x_r) := by
  refine zMv.of (cc := cX8_readGive) (maxL := 2) (lv := [(0, .ref (ax 0))]) (by decide) rfl (Nat.le_of_ble_eq_true rfl) rfl ?_
  intro p e s m args below meth c1 A Q H locs hx hb hml hown hts hK hN hZ hP hD hA hS hend ls hl
  have hown : s.vm.findClass RX8 = some m.cls := hown
  have hi_8 : ∀ w ∈ wsX80, w ∈ wsX8_readGive := (fun w h => List.mem_cons_of_mem _ (List.mem_append_right _ (h)))
  unfold f_X8_readGive at hm
  refine lv_aload_n hx hb dX8_readGive_0 rfl (lv_at hl 0 rfl) ?_
  refine lv_iconst (v := 0) hx hb dX8_readGive_1 (by decide) ?_
  refine lv_aload_n hx hb dX8_readGive_2 rfl (lv_at hl 0 rfl) ?_
  refine va_get (D := G) (ci := 8) (v := .ref (ax 3)) (C := RX8) (T := TX8) (N := 22) hx hb hts hi_8 hown hK hP 0 rfl rfl 9 (by decide) (hts (.fieldLink RX8 20 "HubTrainsModel" "draft" "[I") (List.mem_of_getElem? (i := 1) rfl)) (fun _ h9 => h9) rfl dX8_readGive_3 ?_
  refine lv_iconst (v := 1) hx hb dX8_readGive_6 (by decide) ?_
  obtain ⟨h_7, hm⟩ := gd_s hm
  refine va_iald (D := G) hx hb hK hP 3 0 rfl rfl (inb_s h_7) dX8_readGive_7 ?_
  refine lv_iconst (v := 1) hx hb dX8_readGive_8 (by decide) ?_
  refine lv_isub hx hb dX8_readGive_9 ?_
  obtain ⟨r10, x10, e_10, hm⟩ := bd2_s hm
  refine zcWi (As := [.int 0, .int (((x.1.2 2) (1 : Int32).toNatClampNeg) - 1)]) (rest := []) ⟨hx, hb, hml, hown, hts⟩ (k_X8_number l G K c ax x 0 (((x.1.2 2) (1 : Int32).toNatClampNeg) - 1) r10 x10 e_10) (cwV 2 hts gX8_readGive_X8_number rfl rfl rfl hd_X8_number ⟨Nat.le_of_ble_eq_true rfl, Nat.le_of_ble_eq_true rfl⟩) hK hN hZ hP hD hS hA (va_recv hK hP (ci := 8) (q0 := 0) rfl rfl) rfl hl.1 rfl (Nat.le_of_ble_eq_true rfl) dX8_readGive_10 ⟨Nat.zero_le _, Nat.zero_le _⟩ (fun H locs hP hD hS => ?_)
  have hP : va_P G vwCl (wM c ax x10) H := hP
  have hD : va_D A (wM c ax x10) := hD
  refine lv_istore_n (lv' := [(1, .int r10), (0, .ref (ax 0))]) hx hb dX8_readGive_13 rfl hl (by decide) rfl (fun ls hl => ?_)
  refine lv_aload_n hx hb dX8_readGive_14 rfl (lv_at hl 1 rfl) ?_
  refine lv_iconst (v := 1) hx hb dX8_readGive_15 (by decide) ?_
  refine va_put (D := G) (ci := 8) (v := .int 1) (C := RX8) (T := TX8) (N := 22) hx hb hts hi_8 tyX8 tyX8_ok nmX8 hown hK hP hD hS 0 rfl rfl 16 (by decide) (hts (.fieldLink RX8 166 "HubTrainsModel" "isGiven" "Z") (List.mem_of_getElem? (i := 2) rfl)) (fun _ h9 => h9) rfl (tyX8_ok 16 (by decide)) (by decide) (by decide) (Nat.le_of_ble_eq_true rfl) dX8_readGive_16 (fun H locs hP hD hS => ?_)
  have hP : va_P G vwCl (wM c ax ((ss x10.1 11 1), x10.2)) H := hP
  have hD : va_D A (wM c ax ((ss x10.1 11 1), x10.2)) := hD
  have L_19 : ∀ (n_19 : Nat) (x_19 : MS) (H : Heap) (locs : List Loc) (ls : Array Slot), va_P G vwCl (wM c ax x_19) H → va_D A (wM c ax x_19) → va_S A s.heap H locs → lv_has ls 2 [(0, .ref (ax 0)), (1, .int r10)] → itr1 (f_X8_readGive_B19 r10) n_19 x_19 = some (x_r) → W p l e (rm_X8_readGive) s m args below meth c1 H locs 0 0 Q (F0 m 19 ls []) := by
    intro n_19
    induction n_19 with
    | zero => intro x_19 H locs ls hP hD hS hl hm; exact (itr1_0 hm).elim
    | succ n_19 ih_19 =>
      intro x_19 H locs ls hP hD hS hl hm
      have hm := itr1_s hm
      unfold f_X8_readGive_B19 at hm
      refine lv_aload_n hx hb dX8_readGive_19 rfl (lv_at hl 0 rfl) ?_
      refine lv_iload_n hx hb dX8_readGive_20 rfl (lv_at hl 1 rfl) ?_
      obtain ⟨x21, e_21, hm⟩ := bd1_s hm
      refine zcWv (As := [.int r10]) (rest := []) ⟨hx, hb, hml, hown, hts⟩ (k_X8_readTile l G K c ax x_19 r10 x21 e_21) (cwV 1 hts gX8_readGive_X8_readTile rfl rfl rfl hd_X8_readTile ⟨Nat.le_of_ble_eq_true rfl, Nat.le_of_ble_eq_true rfl⟩) hK hN hZ hP hD hS hA (va_recv hK hP (ci := 8) (q0 := 0) rfl rfl) rfl hl.1 rfl (Nat.le_of_ble_eq_true rfl) dX8_readGive_21 ⟨Nat.zero_le _, Nat.zero_le _⟩ (fun H locs hP hD hS => ?_)
      have hP : va_P G vwCl (wM c ax x21) H := hP
      have hD : va_D A (wM c ax x21) := hD
      refine lv_aload_n hx hb dX8_readGive_24 rfl (lv_at hl 0 rfl) ?_
      obtain ⟨r25, e_25, hm⟩ := bd1_s hm
      refine zcWi (As := []) (rest := []) ⟨hx, hb, hml, hown, hts⟩ (k_X8_isGood l G K c ax x21 r25 e_25) (cwV 0 hts gX8_readGive_X8_isGood rfl rfl rfl hd_X8_isGood ⟨Nat.le_of_ble_eq_true rfl, Nat.le_of_ble_eq_true rfl⟩) hK hN hZ hP hD hS hA (va_recv hK hP (ci := 8) (q0 := 0) rfl rfl) rfl hl.1 rfl (Nat.le_of_ble_eq_true rfl) dX8_readGive_25 ⟨Nat.zero_le _, Nat.zero_le _⟩ (fun H locs hP hD hS => ?_)
      have hP : va_P G vwCl (wM c ax x21) H := hP
      have hD : va_D A (wM c ax x21) := hD
      refine lv_if_eq (tgt := 41) hx hb dX8_readGive_28 (by decide) (fun c_28 => ?_) (fun c_28 => ?_)
      · have hm := ifp c_28 hm
        exact hend H locs ls _ _ (zc1 (fun (z0 : MS) => (wM c ax z0 : va_W)) (Option.some.inj hm)) hP hD hS dX8_readGive_41
      · have hm := ifn c_28 hm
        refine lv_aload_n hx hb dX8_readGive_31 rfl (lv_at hl 0 rfl) ?_
        obtain ⟨r32, x32, e_32, hm⟩ := bd2_s hm
        refine zcWi (As := []) (rest := []) ⟨hx, hb, hml, hown, hts⟩ (k_X8_ahead l G K c ax x21 r32 x32 e_32) (cwV 0 hts gX8_readGive_X8_ahead rfl rfl rfl hd_X8_ahead ⟨Nat.le_of_ble_eq_true rfl, Nat.le_of_ble_eq_true rfl⟩) hK hN hZ hP hD hS hA (va_recv hK hP (ci := 8) (q0 := 0) rfl rfl) rfl hl.1 rfl (Nat.le_of_ble_eq_true rfl) dX8_readGive_32 ⟨Nat.zero_le _, Nat.zero_le _⟩ (fun H locs hP hD hS => ?_)
        have hP : va_P G vwCl (wM c ax x32) H := hP
        have hD : va_D A (wM c ax x32) := hD
        obtain ⟨r35, e_35, hm⟩ := bd1_s hm
        refine zcSi (As := [.int r32]) (rest := []) ⟨hx, hb, hml, hown, hts⟩ (k_X8_isDigit l G K c r32 r35 e_35) (va_cwS 1 hts gX8_readGive_X8_isDigit rfl rfl rfl hd_X8_isDigit.2 ⟨Nat.le_of_ble_eq_true rfl, Nat.le_of_ble_eq_true rfl⟩) hK hN hZ hP hD hS hA [] rfl (by decide) rfl rfl hl.1 rfl (Nat.le_of_ble_eq_true rfl) dX8_readGive_35 ⟨Nat.zero_le _, Nat.zero_le _⟩ (fun H locs hP hD hS => ?_)
        have hP : va_P G vwCl (wM c ax x32) H := hP
        have hD : va_D A (wM c ax x32) := hD
        refine lv_if_ne (tgt := 19) hx hb dX8_readGive_38 (by decide) (fun c_38 => ?_) (fun c_38 => ?_)
        · have hm := ifn c_38 hm
          exact ih_19 x32 H locs ls hP hD hS (lv_sub hl [0, 1] rfl) hm
        · have hm := ifp c_38 hm
          exact hend H locs ls _ _ (zc1 (fun (z0 : MS) => (wM c ax z0 : va_W)) (Option.some.inj hm)) hP hD hS dX8_readGive_41
  exact L_19 FUEL ((ss x10.1 11 1), x10.2) H locs ls hP hD hS (lv_sub hl [1, 0] rfl) hm


def f_X8_errorOffset (x : MS) : Option (Int32 × MS) :=
  some ((x.1.1 6), ((ss x.1 0 0), x.2))

abbrev rm_X8_errorOffset : Room := { frames := 0, cells := 0, slots := 0, locals := 0 }
theorem hd_X8_errorOffset : yX8_errorOffset.cls = RX8 ∧ yX8_errorOffset.cls ≠ "java/lang/invoke/MethodHandle" ∧ yX8_errorOffset.cls ≠ "java/lang/invoke/VarHandle" ∧ (parseMethodDescriptor yX8_errorOffset.desc).map (fun d => d.parameters.length) = some 0 := by decide +kernel
set_option maxHeartbeats 4000000 in
set_option maxRecDepth 100000 in
theorem k_X8_errorOffset (l : Launch) (G : va_G) (K : (Nat → Nat) × (Nat → Nat)) (c : Nat → ClassId) (ax : Nat → Nat) (x : MS) (r : Int32) (x_r : MS) (hm : f_X8_errorOffset x = some (r, x_r)) : zMi l yX8_errorOffset wsX8_errorOffset (rm_X8_errorOffset) G K (TY c) [.ref (ax 0)] (wM c ax x) (wM c ax x_r) r := by
  refine zMi.of (cc := cX8_errorOffset) (maxL := 1) (lv := [(0, .ref (ax 0))]) (by decide) rfl (Nat.le_of_ble_eq_true rfl) rfl ?_
  intro p e s m args below meth c1 A Q H locs hx hb hml hown hts hK hN hZ hP hD hA hS hend ls hl
  have hown : s.vm.findClass RX8 = some m.cls := hown
  have hi_8 : ∀ w ∈ wsX80, w ∈ wsX8_errorOffset := (fun w h => List.mem_cons_of_mem _ (List.mem_append_right _ (h)))
  unfold f_X8_errorOffset at hm
  refine lv_aload_n hx hb dX8_errorOffset_0 rfl (lv_at hl 0 rfl) ?_
  refine lv_iconst (v := 0) hx hb dX8_errorOffset_1 (by decide) ?_
  refine va_put (D := G) (ci := 8) (v := .int 0) (C := RX8) (T := TX8) (N := 22) hx hb hts hi_8 tyX8 tyX8_ok nmX8 hown hK hP hD hS 0 rfl rfl 0 (by decide) (hts (.fieldLink RX8 53 "HubTrainsModel" "thrown" "I") (List.mem_of_getElem? (i := 1) rfl)) (fun _ h9 => h9) rfl (tyX8_ok 0 (by decide)) rfl rfl (Nat.le_of_ble_eq_true rfl) dX8_errorOffset_2 (fun H locs hP hD hS => ?_)
  have hP : va_P G vwCl (wM c ax ((ss x.1 0 0), x.2)) H := hP
  have hD : va_D A (wM c ax ((ss x.1 0 0), x.2)) := hD
  refine lv_aload_n hx hb dX8_errorOffset_5 rfl (lv_at hl 0 rfl) ?_
  refine va_get (D := G) (ci := 8) (v := .int (x.1.1 6)) (C := RX8) (T := TX8) (N := 22) hx hb hts hi_8 hown hK hP 0 rfl rfl 7 (by decide) (hts (.fieldLink RX8 13 "HubTrainsModel" "errorOffset" "I") (List.mem_of_getElem? (i := 2) rfl)) (fun _ h9 => h9) rfl dX8_errorOffset_6 ?_
  exact hend H locs ls _ _ _ rfl (Prod.mk.inj (Option.some.inj hm)).1 (zc1 (fun (z0 : MS) => (wM c ax z0 : va_W)) (Prod.mk.inj (Option.some.inj hm)).2) hP hD hS dX8_errorOffset_9


def f_X8_ofTrain (x : MS) (p0 : Int32) (p1 : Int32) : Option Int32 :=
  bd1 (f_X8_trainAt p0) fun (r5 : Int32) => gd (inb (r5 + p1) 1464) <| some (((x.1.2 1) (r5 + p1).toNatClampNeg))

abbrev rm_X8_ofTrain : Room := { frames := 1, cells := 0, slots := 0, locals := 20 }
theorem hd_X8_ofTrain : yX8_ofTrain.cls = RX8 ∧ yX8_ofTrain.cls ≠ "java/lang/invoke/MethodHandle" ∧ yX8_ofTrain.cls ≠ "java/lang/invoke/VarHandle" ∧ (parseMethodDescriptor yX8_ofTrain.desc).map (fun d => d.parameters.length) = some 2 := by decide +kernel
set_option maxHeartbeats 4000000 in
set_option maxRecDepth 100000 in
theorem k_X8_ofTrain (l : Launch) (G : va_G) (K : (Nat → Nat) × (Nat → Nat)) (c : Nat → ClassId) (ax : Nat → Nat) (x : MS) (p0 : Int32) (p1 : Int32) (r : Int32) (hm : f_X8_ofTrain x p0 p1 = some (r)) : zMi l yX8_ofTrain wsX8_ofTrain (rm_X8_ofTrain) G K (TY c) [.ref (ax 0), .int p0, .int p1] (wM c ax x) (wM c ax x) r := by
  refine zMi.of (cc := cX8_ofTrain) (maxL := 3) (lv := [(0, .ref (ax 0)), (1, .int p0), (2, .int p1)]) (by decide) rfl (Nat.le_of_ble_eq_true rfl) rfl ?_
  intro p e s m args below meth c1 A Q H locs hx hb hml hown hts hK hN hZ hP hD hA hS hend ls hl
  have hown : s.vm.findClass RX8 = some m.cls := hown
  have hi_8 : ∀ w ∈ wsX80, w ∈ wsX8_ofTrain := (fun w h => List.mem_cons_of_mem _ (List.mem_append_right _ (h)))
  unfold f_X8_ofTrain at hm
  refine lv_aload_n hx hb dX8_ofTrain_0 rfl (lv_at hl 0 rfl) ?_
  refine va_get (D := G) (ci := 8) (v := .ref (ax 2)) (C := RX8) (T := TX8) (N := 22) hx hb hts hi_8 hown hK hP 0 rfl rfl 8 (by decide) (hts (.fieldLink RX8 17 "HubTrainsModel" "data" "[I") (List.mem_of_getElem? (i := 1) rfl)) (fun _ h9 => h9) rfl dX8_ofTrain_1 ?_
  refine lv_iload_n hx hb dX8_ofTrain_4 rfl (lv_at hl 1 rfl) ?_
  obtain ⟨r5, e_5, hm⟩ := bd1_s hm
  refine zcSi (As := [.int p0]) (rest := [.ref (ax 2)]) ⟨hx, hb, hml, hown, hts⟩ (k_X8_trainAt l G K c p0 r5 e_5) (va_cwS 1 hts gX8_ofTrain_X8_trainAt rfl rfl rfl hd_X8_trainAt.2 ⟨Nat.le_of_ble_eq_true rfl, Nat.le_of_ble_eq_true rfl⟩) hK hN hZ hP hD hS hA [] rfl (by decide) rfl rfl hl.1 rfl (Nat.le_of_ble_eq_true rfl) dX8_ofTrain_5 ⟨Nat.zero_le _, Nat.zero_le _⟩ (fun H locs hP hD hS => ?_)
  have hP : va_P G vwCl (wM c ax x) H := hP
  have hD : va_D A (wM c ax x) := hD
  refine lv_iload_n hx hb dX8_ofTrain_8 rfl (lv_at hl 2 rfl) ?_
  refine lv_iadd hx hb dX8_ofTrain_9 ?_
  obtain ⟨h_10, hm⟩ := gd_s hm
  refine va_iald (D := G) hx hb hK hP 2 0 rfl rfl (inb_s h_10) dX8_ofTrain_10 ?_
  exact hend H locs ls _ _ _ rfl (Option.some.inj hm) rfl hP hD hS dX8_ofTrain_11


def f_X8_hand (x : MS) (p0 : Int32) : Option Int32 :=
  bd1 (f_X8_handOf 1464 (x.1.2 1) p0) fun (r5 : Int32) => some (r5)

abbrev rm_X8_hand : Room := { frames := 1, cells := 0, slots := 0, locals := 23 }
theorem hd_X8_hand : yX8_hand.cls = RX8 ∧ yX8_hand.cls ≠ "java/lang/invoke/MethodHandle" ∧ yX8_hand.cls ≠ "java/lang/invoke/VarHandle" ∧ (parseMethodDescriptor yX8_hand.desc).map (fun d => d.parameters.length) = some 1 := by decide +kernel
set_option maxHeartbeats 4000000 in
set_option maxRecDepth 100000 in
theorem k_X8_hand (l : Launch) (G : va_G) (K : (Nat → Nat) × (Nat → Nat)) (c : Nat → ClassId) (ax : Nat → Nat) (x : MS) (p0 : Int32) (r : Int32) (hm : f_X8_hand x p0 = some (r)) : zMi l yX8_hand wsX8_hand (rm_X8_hand) G K (TY c) [.ref (ax 0), .int p0] (wM c ax x) (wM c ax x) r := by
  refine zMi.of (cc := cX8_hand) (maxL := 2) (lv := [(0, .ref (ax 0)), (1, .int p0)]) (by decide) rfl (Nat.le_of_ble_eq_true rfl) rfl ?_
  intro p e s m args below meth c1 A Q H locs hx hb hml hown hts hK hN hZ hP hD hA hS hend ls hl
  have hown : s.vm.findClass RX8 = some m.cls := hown
  have hi_8 : ∀ w ∈ wsX80, w ∈ wsX8_hand := (fun w h => List.mem_cons_of_mem _ (List.mem_append_right _ (h)))
  unfold f_X8_hand at hm
  refine lv_aload_n hx hb dX8_hand_0 rfl (lv_at hl 0 rfl) ?_
  refine va_get (D := G) (ci := 8) (v := .ref (ax 2)) (C := RX8) (T := TX8) (N := 22) hx hb hts hi_8 hown hK hP 0 rfl rfl 8 (by decide) (hts (.fieldLink RX8 17 "HubTrainsModel" "data" "[I") (List.mem_of_getElem? (i := 1) rfl)) (fun _ h9 => h9) rfl dX8_hand_1 ?_
  refine lv_iload_n hx hb dX8_hand_4 rfl (lv_at hl 1 rfl) ?_
  obtain ⟨r5, e_5, hm⟩ := bd1_s hm
  refine zcSi (As := [.ref (ax 2), .int p0]) (rest := []) ⟨hx, hb, hml, hown, hts⟩ (k_X8_handOf l G K c (ax 2) 1464 (x.1.2 1) p0 r5 e_5) (va_cwS 2 hts gX8_hand_X8_handOf rfl rfl rfl hd_X8_handOf.2 ⟨Nat.le_of_ble_eq_true rfl, Nat.le_of_ble_eq_true rfl⟩) hK hN hZ hP hD hS hA [2] rfl (by decide) rfl rfl hl.1 rfl (Nat.le_of_ble_eq_true rfl) dX8_hand_5 ⟨Nat.zero_le _, Nat.zero_le _⟩ (fun H locs hP hD hS => ?_)
  have hP : va_P G vwCl (wM c ax x) H := hP
  have hD : va_D A (wM c ax x) := hD
  exact hend H locs ls _ _ _ rfl (Option.some.inj hm) rfl hP hD hS dX8_hand_8


def f_X8_isInHand (x : MS) (p0 : Int32) (p1 : Int32) : Option Int32 :=
  gd (inb (19 + p1) 1464) <| if ((x.1.2 1) (19 + p1).toNatClampNeg) = p0 then (some (1)) else (some (0))

abbrev rm_X8_isInHand : Room := { frames := 0, cells := 0, slots := 0, locals := 0 }
theorem hd_X8_isInHand : yX8_isInHand.cls = RX8 ∧ yX8_isInHand.cls ≠ "java/lang/invoke/MethodHandle" ∧ yX8_isInHand.cls ≠ "java/lang/invoke/VarHandle" ∧ (parseMethodDescriptor yX8_isInHand.desc).map (fun d => d.parameters.length) = some 2 := by decide +kernel
set_option maxHeartbeats 4000000 in
set_option maxRecDepth 100000 in
theorem k_X8_isInHand (l : Launch) (G : va_G) (K : (Nat → Nat) × (Nat → Nat)) (c : Nat → ClassId) (ax : Nat → Nat) (x : MS) (p0 : Int32) (p1 : Int32) (r : Int32) (hm : f_X8_isInHand x p0 p1 = some (r)) : zMi l yX8_isInHand wsX8_isInHand (rm_X8_isInHand) G K (TY c) [.ref (ax 0), .int p0, .int p1] (wM c ax x) (wM c ax x) r := by
  refine zMi.of (cc := cX8_isInHand) (maxL := 3) (lv := [(0, .ref (ax 0)), (1, .int p0), (2, .int p1)]) (by decide) rfl (Nat.le_of_ble_eq_true rfl) rfl ?_
  intro p e s m args below meth c1 A Q H locs hx hb hml hown hts hK hN hZ hP hD hA hS hend ls hl
  have hown : s.vm.findClass RX8 = some m.cls := hown
  have hi_8 : ∀ w ∈ wsX80, w ∈ wsX8_isInHand := (fun w h => List.mem_cons_of_mem _ (List.mem_append_right _ (h)))
  unfold f_X8_isInHand at hm
  refine lv_aload_n hx hb dX8_isInHand_0 rfl (lv_at hl 0 rfl) ?_
  refine va_get (D := G) (ci := 8) (v := .ref (ax 2)) (C := RX8) (T := TX8) (N := 22) hx hb hts hi_8 hown hK hP 0 rfl rfl 8 (by decide) (hts (.fieldLink RX8 17 "HubTrainsModel" "data" "[I") (List.mem_of_getElem? (i := 1) rfl)) (fun _ h9 => h9) rfl dX8_isInHand_1 ?_
  refine lv_bipush (v := 19) hx hb dX8_isInHand_4 (by decide) ?_
  refine lv_iload_n hx hb dX8_isInHand_6 rfl (lv_at hl 2 rfl) ?_
  refine lv_iadd hx hb dX8_isInHand_7 ?_
  obtain ⟨h_8, hm⟩ := gd_s hm
  refine va_iald (D := G) hx hb hK hP 2 0 rfl rfl (inb_s h_8) dX8_isInHand_8 ?_
  refine lv_iload_n hx hb dX8_isInHand_9 rfl (lv_at hl 1 rfl) ?_
  refine lv_icmp_ne (tgt := 17) hx hb dX8_isInHand_10 (by decide) (fun c_10 => ?_) (fun c_10 => ?_)
  · have hm := ifn c_10 hm
    refine lv_iconst (v := 0) hx hb dX8_isInHand_17 (by decide) ?_
    exact hend H locs ls _ _ _ (by decide) (Option.some.inj hm) rfl hP hD hS dX8_isInHand_18
  · have hm := ifp c_10 hm
    refine lv_iconst (v := 1) hx hb dX8_isInHand_13 (by decide) ?_
    refine lv_goto (tgt := 18) hx hb dX8_isInHand_14 (by decide) ?_
    exact hend H locs ls _ _ _ (by decide) (Option.some.inj hm) rfl hP hD hS dX8_isInHand_18


def f_X8_fits (p0 : Int32) (p1 : Int32) : Option Int32 :=
  if (p0 / 10) = p1 then (some (1)) else (if (p0 - p0 / 10 * 10) = p1 then (some (1)) else (some (0)))

abbrev rm_X8_fits : Room := { frames := 0, cells := 0, slots := 0, locals := 0 }
theorem hd_X8_fits : yX8_fits.cls = RX8 ∧ yX8_fits.cls ≠ "java/lang/invoke/MethodHandle" ∧ yX8_fits.cls ≠ "java/lang/invoke/VarHandle" ∧ (parseMethodDescriptor yX8_fits.desc).map (fun d => d.parameters.length) = some 2 := by decide +kernel
set_option maxHeartbeats 4000000 in
set_option maxRecDepth 100000 in
theorem k_X8_fits (l : Launch) (G : va_G) (K : (Nat → Nat) × (Nat → Nat)) (c : Nat → ClassId) (p0 : Int32) (p1 : Int32) (r : Int32) (hm : f_X8_fits p0 p1 = some (r)) : zMi l yX8_fits wsX8_fits (rm_X8_fits) G K (TY c) [.int p0, .int p1] ([]) ([]) r := by
  refine zMi.of (cc := cX8_fits) (maxL := 2) (lv := [(0, .int p0), (1, .int p1)]) (by decide) rfl (Nat.le_of_ble_eq_true rfl) rfl ?_
  intro p e s m args below meth c1 A Q H locs hx hb hml hown hts hK hN hZ hP hD hA hS hend ls hl
  have hown : s.vm.findClass RX8 = some m.cls := hown
  unfold f_X8_fits at hm
  refine lv_iload_n hx hb dX8_fits_0 rfl (lv_at hl 0 rfl) ?_
  refine lv_bipush (v := 10) hx hb dX8_fits_1 (by decide) ?_
  refine lv_idiv hx hb dX8_fits_3 (by decide) ?_
  refine lv_iload_n hx hb dX8_fits_4 rfl (lv_at hl 1 rfl) ?_
  refine lv_icmp_eq (tgt := 16) hx hb dX8_fits_5 (by decide) (fun c_5 => ?_) (fun c_5 => ?_)
  · have hm := ifp c_5 hm
    refine lv_iconst (v := 1) hx hb dX8_fits_16 (by decide) ?_
    refine lv_goto (tgt := 21) hx hb dX8_fits_17 (by decide) ?_
    exact hend H locs ls _ _ _ (by decide) (Option.some.inj hm) rfl hP hD hS dX8_fits_21
  · have hm := ifn c_5 hm
    refine lv_iload_n hx hb dX8_fits_8 rfl (lv_at hl 0 rfl) ?_
    refine lv_bipush (v := 10) hx hb dX8_fits_9 (by decide) ?_
    refine lv_irem hx hb dX8_fits_11 (by decide) ?_
    refine lv_iload_n hx hb dX8_fits_12 rfl (lv_at hl 1 rfl) ?_
    refine lv_icmp_ne (tgt := 20) hx hb dX8_fits_13 (by decide) (fun c_13 => ?_) (fun c_13 => ?_)
    · have hm := ifn c_13 hm
      refine lv_iconst (v := 0) hx hb dX8_fits_20 (by decide) ?_
      exact hend H locs ls _ _ _ (by decide) (Option.some.inj hm) rfl hP hD hS dX8_fits_21
    · have hm := ifp c_13 hm
      refine lv_iconst (v := 1) hx hb dX8_fits_16 (by decide) ?_
      refine lv_goto (tgt := 21) hx hb dX8_fits_17 (by decide) ?_
      exact hend H locs ls _ _ _ (by decide) (Option.some.inj hm) rfl hP hD hS dX8_fits_21

def f_X8_refusal_J85 (x : MS) (p0 : Int32) (p1 : Int32) : Option Int32 :=
  bd1 (f_X8_ofTrain x p1 1) fun (r89 : Int32) => bd1 (f_X8_fits p0 r89) fun (r92 : Int32) => if r92 = 0 then (some (5)) else (some (0))

def f_X8_refusal_J53 (x : MS) (p0 : Int32) (p1 : Int32) : Option Int32 :=
  gd (inb 6 1464) <| if ((x.1.2 1) (6 : Int32).toNatClampNeg) = (-1) then (gd (inb 4 1464) <| if p1 = ((x.1.2 1) (4 : Int32).toNatClampNeg) then (f_X8_refusal_J85 x p0 p1) else (bd1 (f_X8_ofTrain x p1 2) fun (r77 : Int32) => if r77 = 0 then (some (4)) else (f_X8_refusal_J85 x p0 p1))) else (f_X8_refusal_J85 x p0 p1)

def f_X8_refusal (x : MS) (p0 : Int32) (p1 : Int32) : Option Int32 :=
  gd (inb 8 1464) <| if ((x.1.2 1) (8 : Int32).toNatClampNeg) = 1 then (some (1)) else (gd (inb 4 1464) <| bd1 (f_X8_isInHand x ((x.1.2 1) (4 : Int32).toNatClampNeg) p0) fun (r21 : Int32) => if r21 = 0 then (some (2)) else (gd (inb 6 1464) <| if ((x.1.2 1) (6 : Int32).toNatClampNeg) = (-1) then (f_X8_refusal_J53 x p0 p1) else (gd (inb 6 1464) <| if ((x.1.2 1) (6 : Int32).toNatClampNeg) = p1 then (f_X8_refusal_J53 x p0 p1) else (some (3)))))

abbrev rm_X8_refusal : Room := { frames := 2, cells := 0, slots := 0, locals := 42 }
theorem hd_X8_refusal : yX8_refusal.cls = RX8 ∧ yX8_refusal.cls ≠ "java/lang/invoke/MethodHandle" ∧ yX8_refusal.cls ≠ "java/lang/invoke/VarHandle" ∧ (parseMethodDescriptor yX8_refusal.desc).map (fun d => d.parameters.length) = some 2 := by decide +kernel
set_option maxHeartbeats 4000000 in
set_option maxRecDepth 100000 in
theorem k_X8_refusal (l : Launch) (G : va_G) (K : (Nat → Nat) × (Nat → Nat)) (c : Nat → ClassId) (ax : Nat → Nat) (x : MS) (p0 : Int32) (p1 : Int32) (r : Int32) (hm : f_X8_refusal x p0 p1 = some (r)) : zMi l yX8_refusal wsX8_refusal (rm_X8_refusal) G K (TY c) [.ref (ax 0), .int p0, .int p1] (wM c ax x) (wM c ax x) r := by
  refine zMi.of (cc := cX8_refusal) (maxL := 3) (lv := [(0, .ref (ax 0)), (1, .int p0), (2, .int p1)]) (by decide) rfl (Nat.le_of_ble_eq_true rfl) rfl ?_
  intro p e s m args below meth c1 A Q H locs hx hb hml hown hts hK hN hZ hP hD hA hS hend ls hl
  have hown : s.vm.findClass RX8 = some m.cls := hown
  have hi_8 : ∀ w ∈ wsX80, w ∈ wsX8_refusal := (fun w h => List.mem_cons_of_mem _ (List.mem_append_right _ (h)))
  unfold f_X8_refusal at hm
  refine lv_aload_n hx hb dX8_refusal_0 rfl (lv_at hl 0 rfl) ?_
  refine va_get (D := G) (ci := 8) (v := .ref (ax 2)) (C := RX8) (T := TX8) (N := 22) hx hb hts hi_8 hown hK hP 0 rfl rfl 8 (by decide) (hts (.fieldLink RX8 17 "HubTrainsModel" "data" "[I") (List.mem_of_getElem? (i := 1) rfl)) (fun _ h9 => h9) rfl dX8_refusal_1 ?_
  refine lv_bipush (v := 8) hx hb dX8_refusal_4 (by decide) ?_
  obtain ⟨h_6, hm⟩ := gd_s hm
  refine va_iald (D := G) hx hb hK hP 2 0 rfl rfl (inb_s h_6) dX8_refusal_6 ?_
  refine lv_iconst (v := 1) hx hb dX8_refusal_7 (by decide) ?_
  refine lv_icmp_ne (tgt := 13) hx hb dX8_refusal_8 (by decide) (fun c_8 => ?_) (fun c_8 => ?_)
  · have hm := ifn c_8 hm
    refine lv_aload_n hx hb dX8_refusal_13 rfl (lv_at hl 0 rfl) ?_
    refine lv_aload_n hx hb dX8_refusal_14 rfl (lv_at hl 0 rfl) ?_
    refine va_get (D := G) (ci := 8) (v := .ref (ax 2)) (C := RX8) (T := TX8) (N := 22) hx hb hts hi_8 hown hK hP 0 rfl rfl 8 (by decide) (hts (.fieldLink RX8 17 "HubTrainsModel" "data" "[I") (List.mem_of_getElem? (i := 1) rfl)) (fun _ h9 => h9) rfl dX8_refusal_15 ?_
    refine lv_iconst (v := 4) hx hb dX8_refusal_18 (by decide) ?_
    obtain ⟨h_19, hm⟩ := gd_s hm
    refine va_iald (D := G) hx hb hK hP 2 0 rfl rfl (inb_s h_19) dX8_refusal_19 ?_
    refine lv_iload_n hx hb dX8_refusal_20 rfl (lv_at hl 1 rfl) ?_
    obtain ⟨r21, e_21, hm⟩ := bd1_s hm
    refine zcWi (As := [.int ((x.1.2 1) (4 : Int32).toNatClampNeg), .int p0]) (rest := []) ⟨hx, hb, hml, hown, hts⟩ (k_X8_isInHand l G K c ax x ((x.1.2 1) (4 : Int32).toNatClampNeg) p0 r21 e_21) (cwV 2 hts gX8_refusal_X8_isInHand rfl rfl rfl hd_X8_isInHand ⟨Nat.le_of_ble_eq_true rfl, Nat.le_of_ble_eq_true rfl⟩) hK hN hZ hP hD hS hA (va_recv hK hP (ci := 8) (q0 := 0) rfl rfl) rfl hl.1 rfl (Nat.le_of_ble_eq_true rfl) dX8_refusal_21 ⟨Nat.zero_le _, Nat.zero_le _⟩ (fun H locs hP hD hS => ?_)
    have hP : va_P G vwCl (wM c ax x) H := hP
    have hD : va_D A (wM c ax x) := hD
    refine lv_if_ne (tgt := 29) hx hb dX8_refusal_24 (by decide) (fun c_24 => ?_) (fun c_24 => ?_)
    · have hm := ifn c_24 hm
      refine lv_aload_n hx hb dX8_refusal_29 rfl (lv_at hl 0 rfl) ?_
      refine va_get (D := G) (ci := 8) (v := .ref (ax 2)) (C := RX8) (T := TX8) (N := 22) hx hb hts hi_8 hown hK hP 0 rfl rfl 8 (by decide) (hts (.fieldLink RX8 17 "HubTrainsModel" "data" "[I") (List.mem_of_getElem? (i := 1) rfl)) (fun _ h9 => h9) rfl dX8_refusal_30 ?_
      refine lv_bipush (v := 6) hx hb dX8_refusal_33 (by decide) ?_
      obtain ⟨h_35, hm⟩ := gd_s hm
      refine va_iald (D := G) hx hb hK hP 2 0 rfl rfl (inb_s h_35) dX8_refusal_35 ?_
      refine lv_iconst (v := (-1)) hx hb dX8_refusal_36 (by decide) ?_
      have J_53 : ∀ (H : Heap) (locs : List Loc) (ls : Array Slot), va_P G vwCl (wM c ax x) H → va_D A (wM c ax x) → va_S A s.heap H locs → lv_has ls 3 [(0, .ref (ax 0)), (1, .int p0), (2, .int p1)] → f_X8_refusal_J53 x p0 p1 = some (r) → W p l e (rm_X8_refusal) s m args below meth c1 H locs 0 0 Q (F0 m 53 ls []) := by
        intro  H locs ls hP hD hS hl hm
        unfold f_X8_refusal_J53 at hm
        refine lv_aload_n hx hb dX8_refusal_53 rfl (lv_at hl 0 rfl) ?_
        refine va_get (D := G) (ci := 8) (v := .ref (ax 2)) (C := RX8) (T := TX8) (N := 22) hx hb hts hi_8 hown hK hP 0 rfl rfl 8 (by decide) (hts (.fieldLink RX8 17 "HubTrainsModel" "data" "[I") (List.mem_of_getElem? (i := 1) rfl)) (fun _ h9 => h9) rfl dX8_refusal_54 ?_
        refine lv_bipush (v := 6) hx hb dX8_refusal_57 (by decide) ?_
        obtain ⟨h_59, hm⟩ := gd_s hm
        refine va_iald (D := G) hx hb hK hP 2 0 rfl rfl (inb_s h_59) dX8_refusal_59 ?_
        refine lv_iconst (v := (-1)) hx hb dX8_refusal_60 (by decide) ?_
        have J_85 : ∀ (H : Heap) (locs : List Loc) (ls : Array Slot), va_P G vwCl (wM c ax x) H → va_D A (wM c ax x) → va_S A s.heap H locs → lv_has ls 3 [(0, .ref (ax 0)), (1, .int p0), (2, .int p1)] → f_X8_refusal_J85 x p0 p1 = some (r) → W p l e (rm_X8_refusal) s m args below meth c1 H locs 0 0 Q (F0 m 85 ls []) := by
          intro  H locs ls hP hD hS hl hm
          unfold f_X8_refusal_J85 at hm
          refine lv_iload_n hx hb dX8_refusal_85 rfl (lv_at hl 1 rfl) ?_
          refine lv_aload_n hx hb dX8_refusal_86 rfl (lv_at hl 0 rfl) ?_
          refine lv_iload_n hx hb dX8_refusal_87 rfl (lv_at hl 2 rfl) ?_
          refine lv_iconst (v := 1) hx hb dX8_refusal_88 (by decide) ?_
          obtain ⟨r89, e_89, hm⟩ := bd1_s hm
          refine zcWi (As := [.int p1, .int 1]) (rest := [.int p0]) ⟨hx, hb, hml, hown, hts⟩ (k_X8_ofTrain l G K c ax x p1 1 r89 e_89) (cwV 2 hts gX8_refusal_X8_ofTrain rfl rfl rfl hd_X8_ofTrain ⟨Nat.le_of_ble_eq_true rfl, Nat.le_of_ble_eq_true rfl⟩) hK hN hZ hP hD hS hA (va_recv hK hP (ci := 8) (q0 := 0) rfl rfl) rfl hl.1 rfl (Nat.le_of_ble_eq_true rfl) dX8_refusal_89 ⟨Nat.zero_le _, Nat.zero_le _⟩ (fun H locs hP hD hS => ?_)
          have hP : va_P G vwCl (wM c ax x) H := hP
          have hD : va_D A (wM c ax x) := hD
          obtain ⟨r92, e_92, hm⟩ := bd1_s hm
          refine zcSi (As := [.int p0, .int r89]) (rest := []) ⟨hx, hb, hml, hown, hts⟩ (k_X8_fits l G K c p0 r89 r92 e_92) (va_cwS 2 hts gX8_refusal_X8_fits rfl rfl rfl hd_X8_fits.2 ⟨Nat.le_of_ble_eq_true rfl, Nat.le_of_ble_eq_true rfl⟩) hK hN hZ hP hD hS hA [] rfl (by decide) rfl rfl hl.1 rfl (Nat.le_of_ble_eq_true rfl) dX8_refusal_92 ⟨Nat.zero_le _, Nat.zero_le _⟩ (fun H locs hP hD hS => ?_)
          have hP : va_P G vwCl (wM c ax x) H := hP
          have hD : va_D A (wM c ax x) := hD
          refine lv_if_eq (tgt := 102) hx hb dX8_refusal_95 (by decide) (fun c_95 => ?_) (fun c_95 => ?_)
          · have hm := ifp c_95 hm
            refine lv_iconst (v := 5) hx hb dX8_refusal_102 (by decide) ?_
            exact hend H locs ls _ _ _ rfl (Option.some.inj hm) rfl hP hD hS dX8_refusal_103
          · have hm := ifn c_95 hm
            refine lv_iconst (v := 0) hx hb dX8_refusal_98 (by decide) ?_
            refine lv_goto (tgt := 103) hx hb dX8_refusal_99 (by decide) ?_
            exact hend H locs ls _ _ _ rfl (Option.some.inj hm) rfl hP hD hS dX8_refusal_103
        refine lv_icmp_ne (tgt := 85) hx hb dX8_refusal_61 (by decide) (fun c_61 => ?_) (fun c_61 => ?_)
        · have hm := ifn c_61 hm
          exact J_85 H locs ls hP hD hS (lv_sub hl [0, 1, 2] rfl) hm
        · have hm := ifp c_61 hm
          refine lv_iload_n hx hb dX8_refusal_64 rfl (lv_at hl 2 rfl) ?_
          refine lv_aload_n hx hb dX8_refusal_65 rfl (lv_at hl 0 rfl) ?_
          refine va_get (D := G) (ci := 8) (v := .ref (ax 2)) (C := RX8) (T := TX8) (N := 22) hx hb hts hi_8 hown hK hP 0 rfl rfl 8 (by decide) (hts (.fieldLink RX8 17 "HubTrainsModel" "data" "[I") (List.mem_of_getElem? (i := 1) rfl)) (fun _ h9 => h9) rfl dX8_refusal_66 ?_
          refine lv_iconst (v := 4) hx hb dX8_refusal_69 (by decide) ?_
          obtain ⟨h_70, hm⟩ := gd_s hm
          refine va_iald (D := G) hx hb hK hP 2 0 rfl rfl (inb_s h_70) dX8_refusal_70 ?_
          refine lv_icmp_eq (tgt := 85) hx hb dX8_refusal_71 (by decide) (fun c_71 => ?_) (fun c_71 => ?_)
          · have hm := ifp c_71 hm
            exact J_85 H locs ls hP hD hS (lv_sub hl [0, 1, 2] rfl) hm
          · have hm := ifn c_71 hm
            refine lv_aload_n hx hb dX8_refusal_74 rfl (lv_at hl 0 rfl) ?_
            refine lv_iload_n hx hb dX8_refusal_75 rfl (lv_at hl 2 rfl) ?_
            refine lv_iconst (v := 2) hx hb dX8_refusal_76 (by decide) ?_
            obtain ⟨r77, e_77, hm⟩ := bd1_s hm
            refine zcWi (As := [.int p1, .int 2]) (rest := []) ⟨hx, hb, hml, hown, hts⟩ (k_X8_ofTrain l G K c ax x p1 2 r77 e_77) (cwV 2 hts gX8_refusal_X8_ofTrain rfl rfl rfl hd_X8_ofTrain ⟨Nat.le_of_ble_eq_true rfl, Nat.le_of_ble_eq_true rfl⟩) hK hN hZ hP hD hS hA (va_recv hK hP (ci := 8) (q0 := 0) rfl rfl) rfl hl.1 rfl (Nat.le_of_ble_eq_true rfl) dX8_refusal_77 ⟨Nat.zero_le _, Nat.zero_le _⟩ (fun H locs hP hD hS => ?_)
            have hP : va_P G vwCl (wM c ax x) H := hP
            have hD : va_D A (wM c ax x) := hD
            refine lv_if_ne (tgt := 85) hx hb dX8_refusal_80 (by decide) (fun c_80 => ?_) (fun c_80 => ?_)
            · have hm := ifn c_80 hm
              exact J_85 H locs ls hP hD hS (lv_sub hl [0, 1, 2] rfl) hm
            · have hm := ifp c_80 hm
              refine lv_iconst (v := 4) hx hb dX8_refusal_83 (by decide) ?_
              exact hend H locs ls _ _ _ rfl (Option.some.inj hm) rfl hP hD hS dX8_refusal_84
      refine lv_icmp_eq (tgt := 53) hx hb dX8_refusal_37 (by decide) (fun c_37 => ?_) (fun c_37 => ?_)
      · have hm := ifp c_37 hm
        exact J_53 H locs ls hP hD hS (lv_sub hl [0, 1, 2] rfl) hm
      · have hm := ifn c_37 hm
        refine lv_aload_n hx hb dX8_refusal_40 rfl (lv_at hl 0 rfl) ?_
        refine va_get (D := G) (ci := 8) (v := .ref (ax 2)) (C := RX8) (T := TX8) (N := 22) hx hb hts hi_8 hown hK hP 0 rfl rfl 8 (by decide) (hts (.fieldLink RX8 17 "HubTrainsModel" "data" "[I") (List.mem_of_getElem? (i := 1) rfl)) (fun _ h9 => h9) rfl dX8_refusal_41 ?_
        refine lv_bipush (v := 6) hx hb dX8_refusal_44 (by decide) ?_
        obtain ⟨h_46, hm⟩ := gd_s hm
        refine va_iald (D := G) hx hb hK hP 2 0 rfl rfl (inb_s h_46) dX8_refusal_46 ?_
        refine lv_iload_n hx hb dX8_refusal_47 rfl (lv_at hl 2 rfl) ?_
        refine lv_icmp_eq (tgt := 53) hx hb dX8_refusal_48 (by decide) (fun c_48 => ?_) (fun c_48 => ?_)
        · have hm := ifp c_48 hm
          exact J_53 H locs ls hP hD hS (lv_sub hl [0, 1, 2] rfl) hm
        · have hm := ifn c_48 hm
          refine lv_iconst (v := 3) hx hb dX8_refusal_51 (by decide) ?_
          exact hend H locs ls _ _ _ rfl (Option.some.inj hm) rfl hP hD hS dX8_refusal_52
    · have hm := ifp c_24 hm
      refine lv_iconst (v := 2) hx hb dX8_refusal_27 (by decide) ?_
      exact hend H locs ls _ _ _ rfl (Option.some.inj hm) rfl hP hD hS dX8_refusal_28
  · have hm := ifp c_8 hm
    refine lv_iconst (v := 1) hx hb dX8_refusal_11 (by decide) ?_
    exact hend H locs ls _ _ _ rfl (Option.some.inj hm) rfl hP hD hS dX8_refusal_12

def f_X8_plays_B12 (x : MS) (rec_4 : Int32 → Int32 → Option Int32) (v2_4 : Int32) (rec_12 : Int32 → Int32 → Option Int32) (v1_12 : Int32) (v3_12 : Int32) : Option Int32 :=
  gd (inb 1 1464) <| if ((x.1.2 1) (1 : Int32).toNatClampNeg) < v3_12 then (rec_4 v1_12 (v2_4 + 1)) else (bd1 (f_X8_refusal x v2_4 v3_12) fun (r26 : Int32) => if r26 = 0 then (rec_12 (v1_12 + 1) (v3_12 + 1)) else (rec_12 (v1_12 + 0) (v3_12 + 1)))

def f_X8_plays_B4 (x : MS) (rec_4 : Int32 → Int32 → Option Int32) (v1_4 : Int32) (v2_4 : Int32) : Option Int32 :=
  if (100 : Int32) ≤ v2_4 then (some (v1_4)) else (itr2 (f_X8_plays_B12 x rec_4 v2_4) FUEL v1_4 0)

def f_X8_plays (x : MS) : Option Int32 :=
  itr2 (f_X8_plays_B4 x) FUEL 0 0

abbrev rm_X8_plays : Room := { frames := 3, cells := 0, slots := 0, locals := 64 }
theorem hd_X8_plays : yX8_plays.cls = RX8 ∧ yX8_plays.cls ≠ "java/lang/invoke/MethodHandle" ∧ yX8_plays.cls ≠ "java/lang/invoke/VarHandle" ∧ (parseMethodDescriptor yX8_plays.desc).map (fun d => d.parameters.length) = some 0 := by decide +kernel
set_option maxHeartbeats 4000000 in
set_option maxRecDepth 100000 in
theorem k_X8_plays (l : Launch) (G : va_G) (K : (Nat → Nat) × (Nat → Nat)) (c : Nat → ClassId) (ax : Nat → Nat) (x : MS) (r : Int32) (hm : f_X8_plays x = some (r)) : zMi l yX8_plays wsX8_plays (rm_X8_plays) G K (TY c) [.ref (ax 0)] (wM c ax x) (wM c ax x) r := by
  refine zMi.of (cc := cX8_plays) (maxL := 4) (lv := [(0, .ref (ax 0))]) (by decide) rfl (Nat.le_of_ble_eq_true rfl) rfl ?_
  intro p e s m args below meth c1 A Q H locs hx hb hml hown hts hK hN hZ hP hD hA hS hend ls hl
  have hown : s.vm.findClass RX8 = some m.cls := hown
  have hi_8 : ∀ w ∈ wsX80, w ∈ wsX8_plays := (fun w h => List.mem_cons_of_mem _ (List.mem_append_right _ (h)))
  unfold f_X8_plays at hm
  refine lv_iconst (v := 0) hx hb dX8_plays_0 (by decide) ?_
  refine lv_istore_n (lv' := [(1, .int 0), (0, .ref (ax 0))]) hx hb dX8_plays_1 rfl hl (by decide) rfl (fun ls hl => ?_)
  refine lv_iconst (v := 0) hx hb dX8_plays_2 (by decide) ?_
  refine lv_istore_n (lv' := [(2, .int 0), (1, .int 0), (0, .ref (ax 0))]) hx hb dX8_plays_3 rfl hl (by decide) rfl (fun ls hl => ?_)
  have L_4 : ∀ (n_4 : Nat) (v1_4 : Int32) (v2_4 : Int32) (H : Heap) (locs : List Loc) (ls : Array Slot), va_P G vwCl (wM c ax x) H → va_D A (wM c ax x) → va_S A s.heap H locs → lv_has ls 4 [(0, .ref (ax 0)), (1, .int v1_4), (2, .int v2_4)] → itr2 (f_X8_plays_B4 x) n_4 v1_4 v2_4 = some (r) → W p l e (rm_X8_plays) s m args below meth c1 H locs 0 0 Q (F0 m 4 ls []) := by
    intro n_4
    induction n_4 with
    | zero => intro v1_4 v2_4 H locs ls hP hD hS hl hm; exact (itr2_0 hm).elim
    | succ n_4 ih_4 =>
      intro v1_4 v2_4 H locs ls hP hD hS hl hm
      have hm := itr2_s hm
      unfold f_X8_plays_B4 at hm
      refine lv_iload_n hx hb dX8_plays_4 rfl (lv_at hl 2 rfl) ?_
      refine lv_bipush (v := 100) hx hb dX8_plays_5 (by decide) ?_
      refine lv_icmp_ge (tgt := 51) hx hb dX8_plays_7 (by decide) (fun c_7 => ?_) (fun c_7 => ?_)
      · have hm := ifp c_7 hm
        refine lv_iload_n hx hb dX8_plays_51 rfl (lv_at hl 1 rfl) ?_
        exact hend H locs ls _ _ _ rfl (Option.some.inj hm) rfl hP hD hS dX8_plays_52
      · have hm := ifn c_7 hm
        refine lv_iconst (v := 0) hx hb dX8_plays_10 (by decide) ?_
        refine lv_istore_n (lv' := [(3, .int 0), (0, .ref (ax 0)), (1, .int v1_4), (2, .int v2_4)]) hx hb dX8_plays_11 rfl hl (by decide) rfl (fun ls hl => ?_)
        have L_12 : ∀ (n_12 : Nat) (v1_12 : Int32) (v3_12 : Int32) (H : Heap) (locs : List Loc) (ls : Array Slot), va_P G vwCl (wM c ax x) H → va_D A (wM c ax x) → va_S A s.heap H locs → lv_has ls 4 [(0, .ref (ax 0)), (1, .int v1_12), (2, .int v2_4), (3, .int v3_12)] → itr2 (f_X8_plays_B12 x (itr2 (f_X8_plays_B4 x) n_4) v2_4) n_12 v1_12 v3_12 = some (r) → W p l e (rm_X8_plays) s m args below meth c1 H locs 0 0 Q (F0 m 12 ls []) := by
          intro n_12
          induction n_12 with
          | zero => intro v1_12 v3_12 H locs ls hP hD hS hl hm; exact (itr2_0 hm).elim
          | succ n_12 ih_12 =>
            intro v1_12 v3_12 H locs ls hP hD hS hl hm
            have hm := itr2_s hm
            unfold f_X8_plays_B12 at hm
            refine lv_iload_n hx hb dX8_plays_12 rfl (lv_at hl 3 rfl) ?_
            refine lv_aload_n hx hb dX8_plays_13 rfl (lv_at hl 0 rfl) ?_
            refine va_get (D := G) (ci := 8) (v := .ref (ax 2)) (C := RX8) (T := TX8) (N := 22) hx hb hts hi_8 hown hK hP 0 rfl rfl 8 (by decide) (hts (.fieldLink RX8 17 "HubTrainsModel" "data" "[I") (List.mem_of_getElem? (i := 1) rfl)) (fun _ h9 => h9) rfl dX8_plays_14 ?_
            refine lv_iconst (v := 1) hx hb dX8_plays_17 (by decide) ?_
            obtain ⟨h_18, hm⟩ := gd_s hm
            refine va_iald (D := G) hx hb hK hP 2 0 rfl rfl (inb_s h_18) dX8_plays_18 ?_
            refine lv_icmp_gt (tgt := 45) hx hb dX8_plays_19 (by decide) (fun c_19 => ?_) (fun c_19 => ?_)
            · have hm := ifp c_19 hm
              refine lv_iinc (k := 2) (v := (v2_4 + 1)) (lv' := [(2, .int (v2_4 + 1)), (0, .ref (ax 0)), (1, .int v1_12), (3, .int v3_12)]) hx hb dX8_plays_45 hl rfl rfl (by decide) rfl (fun ls hl => ?_)
              refine lv_goto (tgt := 4) hx hb dX8_plays_48 (by decide) ?_
              exact ih_4 v1_12 (v2_4 + 1) H locs ls hP hD hS (lv_sub hl [1, 2, 0] rfl) hm
            · have hm := ifn c_19 hm
              refine lv_iload_n hx hb dX8_plays_22 rfl (lv_at hl 1 rfl) ?_
              refine lv_aload_n hx hb dX8_plays_23 rfl (lv_at hl 0 rfl) ?_
              refine lv_iload_n hx hb dX8_plays_24 rfl (lv_at hl 2 rfl) ?_
              refine lv_iload_n hx hb dX8_plays_25 rfl (lv_at hl 3 rfl) ?_
              obtain ⟨r26, e_26, hm⟩ := bd1_s hm
              refine zcWi (As := [.int v2_4, .int v3_12]) (rest := [.int v1_12]) ⟨hx, hb, hml, hown, hts⟩ (k_X8_refusal l G K c ax x v2_4 v3_12 r26 e_26) (cwV 2 hts gX8_plays_X8_refusal rfl rfl rfl hd_X8_refusal ⟨Nat.le_of_ble_eq_true rfl, Nat.le_of_ble_eq_true rfl⟩) hK hN hZ hP hD hS hA (va_recv hK hP (ci := 8) (q0 := 0) rfl rfl) rfl hl.1 rfl (Nat.le_of_ble_eq_true rfl) dX8_plays_26 ⟨Nat.zero_le _, Nat.zero_le _⟩ (fun H locs hP hD hS => ?_)
              have hP : va_P G vwCl (wM c ax x) H := hP
              have hD : va_D A (wM c ax x) := hD
              refine lv_if_ne (tgt := 36) hx hb dX8_plays_29 (by decide) (fun c_29 => ?_) (fun c_29 => ?_)
              · have hm := ifn c_29 hm
                refine lv_iconst (v := 0) hx hb dX8_plays_36 (by decide) ?_
                refine lv_iadd hx hb dX8_plays_37 ?_
                refine lv_istore_n (lv' := [(1, .int (v1_12 + 0)), (0, .ref (ax 0)), (2, .int v2_4), (3, .int v3_12)]) hx hb dX8_plays_38 rfl hl (by decide) rfl (fun ls hl => ?_)
                refine lv_iinc (k := 3) (v := (v3_12 + 1)) (lv' := [(3, .int (v3_12 + 1)), (1, .int (v1_12 + 0)), (0, .ref (ax 0)), (2, .int v2_4)]) hx hb dX8_plays_39 hl rfl rfl (by decide) rfl (fun ls hl => ?_)
                refine lv_goto (tgt := 12) hx hb dX8_plays_42 (by decide) ?_
                exact ih_12 (v1_12 + 0) (v3_12 + 1) H locs ls hP hD hS (lv_sub hl [2, 1, 3, 0] rfl) hm
              · have hm := ifp c_29 hm
                refine lv_iconst (v := 1) hx hb dX8_plays_32 (by decide) ?_
                refine lv_goto (tgt := 37) hx hb dX8_plays_33 (by decide) ?_
                refine lv_iadd hx hb dX8_plays_37 ?_
                refine lv_istore_n (lv' := [(1, .int (v1_12 + 1)), (0, .ref (ax 0)), (2, .int v2_4), (3, .int v3_12)]) hx hb dX8_plays_38 rfl hl (by decide) rfl (fun ls hl => ?_)
                refine lv_iinc (k := 3) (v := (v3_12 + 1)) (lv' := [(3, .int (v3_12 + 1)), (1, .int (v1_12 + 1)), (0, .ref (ax 0)), (2, .int v2_4)]) hx hb dX8_plays_39 hl rfl rfl (by decide) rfl (fun ls hl => ?_)
                refine lv_goto (tgt := 12) hx hb dX8_plays_42 (by decide) ?_
                exact ih_12 (v1_12 + 1) (v3_12 + 1) H locs ls hP hD hS (lv_sub hl [2, 1, 3, 0] rfl) hm
        exact L_12 FUEL v1_4 0 H locs ls hP hD hS (lv_sub hl [1, 2, 3, 0] rfl) hm
  exact L_4 FUEL 0 0 H locs ls hP hD hS (lv_sub hl [2, 1, 0] rfl) hm


def f_X8_mayDraw (x : MS) : Option Int32 :=
  gd (inb 8 1464) <| if ((x.1.2 1) (8 : Int32).toNatClampNeg) = 0 then (gd (inb 5 1464) <| if ((x.1.2 1) (5 : Int32).toNatClampNeg) = 0 then (gd (inb 7 1464) <| if ((x.1.2 1) (7 : Int32).toNatClampNeg) ≤ 0 then (some (0)) else (bd1 (f_X8_plays x) fun (r30 : Int32) => if r30 = 0 then (some (1)) else (some (0)))) else (some (0))) else (some (0))

abbrev rm_X8_mayDraw : Room := { frames := 4, cells := 0, slots := 0, locals := 87 }
theorem hd_X8_mayDraw : yX8_mayDraw.cls = RX8 ∧ yX8_mayDraw.cls ≠ "java/lang/invoke/MethodHandle" ∧ yX8_mayDraw.cls ≠ "java/lang/invoke/VarHandle" ∧ (parseMethodDescriptor yX8_mayDraw.desc).map (fun d => d.parameters.length) = some 0 := by decide +kernel
set_option maxHeartbeats 4000000 in
set_option maxRecDepth 100000 in
theorem k_X8_mayDraw (l : Launch) (G : va_G) (K : (Nat → Nat) × (Nat → Nat)) (c : Nat → ClassId) (ax : Nat → Nat) (x : MS) (r : Int32) (hm : f_X8_mayDraw x = some (r)) : zMi l yX8_mayDraw wsX8_mayDraw (rm_X8_mayDraw) G K (TY c) [.ref (ax 0)] (wM c ax x) (wM c ax x) r := by
  refine zMi.of (cc := cX8_mayDraw) (maxL := 1) (lv := [(0, .ref (ax 0))]) (by decide) rfl (Nat.le_of_ble_eq_true rfl) rfl ?_
  intro p e s m args below meth c1 A Q H locs hx hb hml hown hts hK hN hZ hP hD hA hS hend ls hl
  have hown : s.vm.findClass RX8 = some m.cls := hown
  have hi_8 : ∀ w ∈ wsX80, w ∈ wsX8_mayDraw := (fun w h => List.mem_cons_of_mem _ (List.mem_append_right _ (h)))
  unfold f_X8_mayDraw at hm
  refine lv_aload_n hx hb dX8_mayDraw_0 rfl (lv_at hl 0 rfl) ?_
  refine va_get (D := G) (ci := 8) (v := .ref (ax 2)) (C := RX8) (T := TX8) (N := 22) hx hb hts hi_8 hown hK hP 0 rfl rfl 8 (by decide) (hts (.fieldLink RX8 17 "HubTrainsModel" "data" "[I") (List.mem_of_getElem? (i := 1) rfl)) (fun _ h9 => h9) rfl dX8_mayDraw_1 ?_
  refine lv_bipush (v := 8) hx hb dX8_mayDraw_4 (by decide) ?_
  obtain ⟨h_6, hm⟩ := gd_s hm
  refine va_iald (D := G) hx hb hK hP 2 0 rfl rfl (inb_s h_6) dX8_mayDraw_6 ?_
  refine lv_if_ne (tgt := 40) hx hb dX8_mayDraw_7 (by decide) (fun c_7 => ?_) (fun c_7 => ?_)
  · have hm := ifn c_7 hm
    refine lv_iconst (v := 0) hx hb dX8_mayDraw_40 (by decide) ?_
    exact hend H locs ls _ _ _ (by decide) (Option.some.inj hm) rfl hP hD hS dX8_mayDraw_41
  · have hm := ifp c_7 hm
    refine lv_aload_n hx hb dX8_mayDraw_10 rfl (lv_at hl 0 rfl) ?_
    refine va_get (D := G) (ci := 8) (v := .ref (ax 2)) (C := RX8) (T := TX8) (N := 22) hx hb hts hi_8 hown hK hP 0 rfl rfl 8 (by decide) (hts (.fieldLink RX8 17 "HubTrainsModel" "data" "[I") (List.mem_of_getElem? (i := 1) rfl)) (fun _ h9 => h9) rfl dX8_mayDraw_11 ?_
    refine lv_iconst (v := 5) hx hb dX8_mayDraw_14 (by decide) ?_
    obtain ⟨h_15, hm⟩ := gd_s hm
    refine va_iald (D := G) hx hb hK hP 2 0 rfl rfl (inb_s h_15) dX8_mayDraw_15 ?_
    refine lv_if_ne (tgt := 40) hx hb dX8_mayDraw_16 (by decide) (fun c_16 => ?_) (fun c_16 => ?_)
    · have hm := ifn c_16 hm
      refine lv_iconst (v := 0) hx hb dX8_mayDraw_40 (by decide) ?_
      exact hend H locs ls _ _ _ (by decide) (Option.some.inj hm) rfl hP hD hS dX8_mayDraw_41
    · have hm := ifp c_16 hm
      refine lv_aload_n hx hb dX8_mayDraw_19 rfl (lv_at hl 0 rfl) ?_
      refine va_get (D := G) (ci := 8) (v := .ref (ax 2)) (C := RX8) (T := TX8) (N := 22) hx hb hts hi_8 hown hK hP 0 rfl rfl 8 (by decide) (hts (.fieldLink RX8 17 "HubTrainsModel" "data" "[I") (List.mem_of_getElem? (i := 1) rfl)) (fun _ h9 => h9) rfl dX8_mayDraw_20 ?_
      refine lv_bipush (v := 7) hx hb dX8_mayDraw_23 (by decide) ?_
      obtain ⟨h_25, hm⟩ := gd_s hm
      refine va_iald (D := G) hx hb hK hP 2 0 rfl rfl (inb_s h_25) dX8_mayDraw_25 ?_
      refine lv_if_le (tgt := 40) hx hb dX8_mayDraw_26 (by decide) (fun c_26 => ?_) (fun c_26 => ?_)
      · have hm := ifp c_26 hm
        refine lv_iconst (v := 0) hx hb dX8_mayDraw_40 (by decide) ?_
        exact hend H locs ls _ _ _ (by decide) (Option.some.inj hm) rfl hP hD hS dX8_mayDraw_41
      · have hm := ifn c_26 hm
        refine lv_aload_n hx hb dX8_mayDraw_29 rfl (lv_at hl 0 rfl) ?_
        obtain ⟨r30, e_30, hm⟩ := bd1_s hm
        refine zcWi (As := []) (rest := []) ⟨hx, hb, hml, hown, hts⟩ (k_X8_plays l G K c ax x r30 e_30) (cwV 0 hts gX8_mayDraw_X8_plays rfl rfl rfl hd_X8_plays ⟨Nat.le_of_ble_eq_true rfl, Nat.le_of_ble_eq_true rfl⟩) hK hN hZ hP hD hS hA (va_recv hK hP (ci := 8) (q0 := 0) rfl rfl) rfl hl.1 rfl (Nat.le_of_ble_eq_true rfl) dX8_mayDraw_30 ⟨Nat.zero_le _, Nat.zero_le _⟩ (fun H locs hP hD hS => ?_)
        have hP : va_P G vwCl (wM c ax x) H := hP
        have hD : va_D A (wM c ax x) := hD
        refine lv_if_ne (tgt := 40) hx hb dX8_mayDraw_33 (by decide) (fun c_33 => ?_) (fun c_33 => ?_)
        · have hm := ifn c_33 hm
          refine lv_iconst (v := 0) hx hb dX8_mayDraw_40 (by decide) ?_
          exact hend H locs ls _ _ _ (by decide) (Option.some.inj hm) rfl hP hD hS dX8_mayDraw_41
        · have hm := ifp c_33 hm
          refine lv_iconst (v := 1) hx hb dX8_mayDraw_36 (by decide) ?_
          refine lv_goto (tgt := 41) hx hb dX8_mayDraw_37 (by decide) ?_
          exact hend H locs ls _ _ _ (by decide) (Option.some.inj hm) rfl hP hD hS dX8_mayDraw_41

def f_X8_mayPass_J30 (x : MS) : Option Int32 :=
  bd1 (f_X8_plays x) fun (r31 : Int32) => if r31 = 0 then (some (1)) else (some (0))

def f_X8_mayPass (x : MS) : Option Int32 :=
  gd (inb 8 1464) <| if ((x.1.2 1) (8 : Int32).toNatClampNeg) = 0 then (gd (inb 5 1464) <| if ((x.1.2 1) (5 : Int32).toNatClampNeg) = 1 then (f_X8_mayPass_J30 x) else (gd (inb 7 1464) <| if ((x.1.2 1) (7 : Int32).toNatClampNeg) = 0 then (f_X8_mayPass_J30 x) else (some (0)))) else (some (0))

abbrev rm_X8_mayPass : Room := { frames := 4, cells := 0, slots := 0, locals := 87 }
theorem hd_X8_mayPass : yX8_mayPass.cls = RX8 ∧ yX8_mayPass.cls ≠ "java/lang/invoke/MethodHandle" ∧ yX8_mayPass.cls ≠ "java/lang/invoke/VarHandle" ∧ (parseMethodDescriptor yX8_mayPass.desc).map (fun d => d.parameters.length) = some 0 := by decide +kernel
set_option maxHeartbeats 4000000 in
set_option maxRecDepth 100000 in
theorem k_X8_mayPass (l : Launch) (G : va_G) (K : (Nat → Nat) × (Nat → Nat)) (c : Nat → ClassId) (ax : Nat → Nat) (x : MS) (r : Int32) (hm : f_X8_mayPass x = some (r)) : zMi l yX8_mayPass wsX8_mayPass (rm_X8_mayPass) G K (TY c) [.ref (ax 0)] (wM c ax x) (wM c ax x) r := by
  refine zMi.of (cc := cX8_mayPass) (maxL := 1) (lv := [(0, .ref (ax 0))]) (by decide) rfl (Nat.le_of_ble_eq_true rfl) rfl ?_
  intro p e s m args below meth c1 A Q H locs hx hb hml hown hts hK hN hZ hP hD hA hS hend ls hl
  have hown : s.vm.findClass RX8 = some m.cls := hown
  have hi_8 : ∀ w ∈ wsX80, w ∈ wsX8_mayPass := (fun w h => List.mem_cons_of_mem _ (List.mem_append_right _ (h)))
  unfold f_X8_mayPass at hm
  refine lv_aload_n hx hb dX8_mayPass_0 rfl (lv_at hl 0 rfl) ?_
  refine va_get (D := G) (ci := 8) (v := .ref (ax 2)) (C := RX8) (T := TX8) (N := 22) hx hb hts hi_8 hown hK hP 0 rfl rfl 8 (by decide) (hts (.fieldLink RX8 17 "HubTrainsModel" "data" "[I") (List.mem_of_getElem? (i := 1) rfl)) (fun _ h9 => h9) rfl dX8_mayPass_1 ?_
  refine lv_bipush (v := 8) hx hb dX8_mayPass_4 (by decide) ?_
  obtain ⟨h_6, hm⟩ := gd_s hm
  refine va_iald (D := G) hx hb hK hP 2 0 rfl rfl (inb_s h_6) dX8_mayPass_6 ?_
  refine lv_if_ne (tgt := 41) hx hb dX8_mayPass_7 (by decide) (fun c_7 => ?_) (fun c_7 => ?_)
  · have hm := ifn c_7 hm
    refine lv_iconst (v := 0) hx hb dX8_mayPass_41 (by decide) ?_
    exact hend H locs ls _ _ _ (by decide) (Option.some.inj hm) rfl hP hD hS dX8_mayPass_42
  · have hm := ifp c_7 hm
    refine lv_aload_n hx hb dX8_mayPass_10 rfl (lv_at hl 0 rfl) ?_
    refine va_get (D := G) (ci := 8) (v := .ref (ax 2)) (C := RX8) (T := TX8) (N := 22) hx hb hts hi_8 hown hK hP 0 rfl rfl 8 (by decide) (hts (.fieldLink RX8 17 "HubTrainsModel" "data" "[I") (List.mem_of_getElem? (i := 1) rfl)) (fun _ h9 => h9) rfl dX8_mayPass_11 ?_
    refine lv_iconst (v := 5) hx hb dX8_mayPass_14 (by decide) ?_
    obtain ⟨h_15, hm⟩ := gd_s hm
    refine va_iald (D := G) hx hb hK hP 2 0 rfl rfl (inb_s h_15) dX8_mayPass_15 ?_
    refine lv_iconst (v := 1) hx hb dX8_mayPass_16 (by decide) ?_
    have J_30 : ∀ (H : Heap) (locs : List Loc) (ls : Array Slot), va_P G vwCl (wM c ax x) H → va_D A (wM c ax x) → va_S A s.heap H locs → lv_has ls 1 [(0, .ref (ax 0))] → f_X8_mayPass_J30 x = some (r) → W p l e (rm_X8_mayPass) s m args below meth c1 H locs 0 0 Q (F0 m 30 ls []) := by
      intro  H locs ls hP hD hS hl hm
      unfold f_X8_mayPass_J30 at hm
      refine lv_aload_n hx hb dX8_mayPass_30 rfl (lv_at hl 0 rfl) ?_
      obtain ⟨r31, e_31, hm⟩ := bd1_s hm
      refine zcWi (As := []) (rest := []) ⟨hx, hb, hml, hown, hts⟩ (k_X8_plays l G K c ax x r31 e_31) (cwV 0 hts gX8_mayPass_X8_plays rfl rfl rfl hd_X8_plays ⟨Nat.le_of_ble_eq_true rfl, Nat.le_of_ble_eq_true rfl⟩) hK hN hZ hP hD hS hA (va_recv hK hP (ci := 8) (q0 := 0) rfl rfl) rfl hl.1 rfl (Nat.le_of_ble_eq_true rfl) dX8_mayPass_31 ⟨Nat.zero_le _, Nat.zero_le _⟩ (fun H locs hP hD hS => ?_)
      have hP : va_P G vwCl (wM c ax x) H := hP
      have hD : va_D A (wM c ax x) := hD
      refine lv_if_ne (tgt := 41) hx hb dX8_mayPass_34 (by decide) (fun c_34 => ?_) (fun c_34 => ?_)
      · have hm := ifn c_34 hm
        refine lv_iconst (v := 0) hx hb dX8_mayPass_41 (by decide) ?_
        exact hend H locs ls _ _ _ (by decide) (Option.some.inj hm) rfl hP hD hS dX8_mayPass_42
      · have hm := ifp c_34 hm
        refine lv_iconst (v := 1) hx hb dX8_mayPass_37 (by decide) ?_
        refine lv_goto (tgt := 42) hx hb dX8_mayPass_38 (by decide) ?_
        exact hend H locs ls _ _ _ (by decide) (Option.some.inj hm) rfl hP hD hS dX8_mayPass_42
    refine lv_icmp_eq (tgt := 30) hx hb dX8_mayPass_17 (by decide) (fun c_17 => ?_) (fun c_17 => ?_)
    · have hm := ifp c_17 hm
      exact J_30 H locs ls hP hD hS (lv_sub hl [0] rfl) hm
    · have hm := ifn c_17 hm
      refine lv_aload_n hx hb dX8_mayPass_20 rfl (lv_at hl 0 rfl) ?_
      refine va_get (D := G) (ci := 8) (v := .ref (ax 2)) (C := RX8) (T := TX8) (N := 22) hx hb hts hi_8 hown hK hP 0 rfl rfl 8 (by decide) (hts (.fieldLink RX8 17 "HubTrainsModel" "data" "[I") (List.mem_of_getElem? (i := 1) rfl)) (fun _ h9 => h9) rfl dX8_mayPass_21 ?_
      refine lv_bipush (v := 7) hx hb dX8_mayPass_24 (by decide) ?_
      obtain ⟨h_26, hm⟩ := gd_s hm
      refine va_iald (D := G) hx hb hK hP 2 0 rfl rfl (inb_s h_26) dX8_mayPass_26 ?_
      refine lv_if_ne (tgt := 41) hx hb dX8_mayPass_27 (by decide) (fun c_27 => ?_) (fun c_27 => ?_)
      · have hm := ifn c_27 hm
        refine lv_iconst (v := 0) hx hb dX8_mayPass_41 (by decide) ?_
        exact hend H locs ls _ _ _ (by decide) (Option.some.inj hm) rfl hP hD hS dX8_mayPass_42
      · have hm := ifp c_27 hm
        exact J_30 H locs ls hP hD hS (lv_sub hl [0] rfl) hm
