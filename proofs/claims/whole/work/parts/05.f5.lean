def f_X8_playNow_J128 (p0 : Int32) (x_102 : MS) (w109 : Nat → Int32) (s0_128 : Int32) : Option MS :=
  gd (inb 6 1464) <| nmd (upd w109 (6 : Int32).toNatClampNeg s0_128) fun (w128 : Nat → Int32) => gd (inb 4 1464) <| bd1 (f_X8_hand ((sa x_102.1 1 w128), x_102.2) (w128 (4 : Int32).toNatClampNeg)) fun (r136 : Int32) => if r136 = 0 then (bd1 (f_X8_endRound ((sa x_102.1 1 w128), x_102.2)) fun (x143 : MS) => some (x143)) else (bd1 (f_X8_isDouble p0) fun (r150 : Int32) => if r150 = 0 then (bd1 (f_X8_nextTurn ((sa x_102.1 1 w128), x_102.2)) fun (x167 : MS) => some (x167)) else (gd (inb 5 1464) <| nmd (upd w128 (5 : Int32).toNatClampNeg 0) fun (w162 : Nat → Int32) => some (((sa x_102.1 1 w162), x_102.2))))

def f_X8_playNow_J102 (p0 : Int32) (p1 : Int32) (x_102 : MS) : Option MS :=
  gd (inb 10 1464) <| nmd (upd (x_102.1.2 1) (10 : Int32).toNatClampNeg 0) fun (w109 : Nat → Int32) => bd1 (f_X8_isDouble p0) fun (r117 : Int32) => if r117 = 0 then (f_X8_playNow_J128 p0 x_102 w109 (-1)) else (f_X8_playNow_J128 p0 x_102 w109 p1)

def f_X8_playNow_J82 (x : MS) (p0 : Int32) (p1 : Int32) (r1 : Int32) (w54 : Nat → Int32) (s0_82 : Int32) : Option MS :=
  gd (inb (r1 + 1) 1464) <| nmd (upd w54 (r1 + 1).toNatClampNeg s0_82) fun (w82 : Nat → Int32) => gd (inb 4 1464) <| if p1 = (w82 (4 : Int32).toNatClampNeg) then (gd (inb (r1 + 2) 1464) <| nmd (upd w82 (r1 + 2).toNatClampNeg 0) fun (w101 : Nat → Int32) => f_X8_playNow_J102 p0 p1 ((sa x.1 1 w101), x.2)) else (f_X8_playNow_J102 p0 p1 ((sa x.1 1 w82), x.2))

def f_X8_playNow (x : MS) (p0 : Int32) (p1 : Int32) : Option MS :=
  bd1 (f_X8_trainAt p1) fun (r1 : Int32) => gd (inb (r1 + 1) 1464) <| nmd ((x.1.2 1) (r1 + 1).toNatClampNeg) fun (x4_13 : Int32) => gd (inb (19 + p0) 1464) <| nmd (upd (x.1.2 1) (19 + p0).toNatClampNeg (-1)) fun (w24 : Nat → Int32) => gd (inb (r1 + 0) 1464) <| gd (inb ((r1 + 3) + (w24 (r1 + 0).toNatClampNeg)) 1464) <| nmd (upd w24 ((r1 + 3) + (w24 (r1 + 0).toNatClampNeg)).toNatClampNeg p0) fun (w42 : Nat → Int32) => gd (inb (r1 + 0) 1464) <| gd (inb (r1 + 0) 1464) <| nmd (upd w42 (r1 + 0).toNatClampNeg ((w42 (r1 + 0).toNatClampNeg) + 1)) fun (w54 : Nat → Int32) => if (p0 / 10) = x4_13 then (f_X8_playNow_J82 x p0 p1 r1 w54 (p0 - p0 / 10 * 10)) else (f_X8_playNow_J82 x p0 p1 r1 w54 (p0 / 10))

abbrev rm_X8_playNow : Room := { frames := 3, cells := 0, slots := 0, locals := 66 }
theorem hd_X8_playNow : yX8_playNow.cls = RX8 ∧ yX8_playNow.cls ≠ "java/lang/invoke/MethodHandle" ∧ yX8_playNow.cls ≠ "java/lang/invoke/VarHandle" ∧ (parseMethodDescriptor yX8_playNow.desc).map (fun d => d.parameters.length) = some 2 := by decide +kernel
set_option maxHeartbeats 4000000 in
set_option maxRecDepth 100000 in
theorem k_X8_playNow (l : Launch) (G : va_G) (K : (Nat → Nat) × (Nat → Nat)) (c : Nat → ClassId) (ax : Nat → Nat) (x : MS) (p0 : Int32) (p1 : Int32) (x_r : MS) (hm : f_X8_playNow x p0 p1 = some (x_r)) : zMv l yX8_playNow wsX8_playNow (rm_X8_playNow) G K (TY c) [.ref (ax 0), .int p0, .int p1] (wM c ax x) (wM c ax x_r) := by
  refine zMv.of (cc := cX8_playNow) (maxL := 5) (lv := [(0, .ref (ax 0)), (1, .int p0), (2, .int p1)]) (by decide) rfl (Nat.le_of_ble_eq_true rfl) rfl ?_
  intro p e s m args below meth c1 A Q H locs hx hb hml hown hts hK hN hZ hP hD hA hS hend ls hl
  have hown : s.vm.findClass RX8 = some m.cls := hown
  have hi_8 : ∀ w ∈ wsX80, w ∈ wsX8_playNow := (fun w h => List.mem_cons_of_mem _ (List.mem_append_right _ (h)))
  unfold f_X8_playNow at hm
  refine lv_iload_n hx hb dX8_playNow_0 rfl (lv_at hl 2 rfl) ?_
  obtain ⟨r1, e_1, hm⟩ := bd1_s hm
  refine zcSi (As := [.int p1]) (rest := []) ⟨hx, hb, hml, hown, hts⟩ (k_X8_trainAt l G K c p1 r1 e_1) (va_cwS 1 hts gX8_playNow_X8_trainAt rfl rfl rfl hd_X8_trainAt.2 ⟨Nat.le_of_ble_eq_true rfl, Nat.le_of_ble_eq_true rfl⟩) hK hN hZ hP hD hS hA [] rfl (by decide) rfl rfl hl.1 rfl (Nat.le_of_ble_eq_true rfl) dX8_playNow_1 ⟨Nat.zero_le _, Nat.zero_le _⟩ (fun H locs hP hD hS => ?_)
  have hP : va_P G vwCl (wM c ax x) H := hP
  have hD : va_D A (wM c ax x) := hD
  refine lv_istore_n (lv' := [(3, .int r1), (0, .ref (ax 0)), (1, .int p0), (2, .int p1)]) hx hb dX8_playNow_4 rfl hl (by decide) rfl (fun ls hl => ?_)
  refine lv_aload_n hx hb dX8_playNow_5 rfl (lv_at hl 1 rfl) ?_
  refine va_get (D := G) (ci := 8) (v := .ref (ax 2)) (C := RX8) (T := TX8) (N := 22) hx hb hts hi_8 hown hK hP 0 rfl rfl 8 (by decide) (hts (.fieldLink RX8 17 "HubTrainsModel" "data" "[I") (List.mem_of_getElem? (i := 1) rfl)) (fun _ h9 => h9) rfl dX8_playNow_6 ?_
  refine lv_iload_n hx hb dX8_playNow_9 rfl (lv_at hl 0 rfl) ?_
  refine lv_iconst (v := 1) hx hb dX8_playNow_10 (by decide) ?_
  refine lv_iadd hx hb dX8_playNow_11 ?_
  obtain ⟨h_12, hm⟩ := gd_s hm
  refine va_iald (D := G) hx hb hK hP 2 0 rfl rfl (inb_s h_12) dX8_playNow_12 ?_
  refine lv_topi (fun x4_13 e_x4_13 => ?_)
  have hm := nmd_s hm x4_13 e_x4_13
  refine lv_istore (lv' := [(4, .int x4_13), (3, .int r1), (0, .ref (ax 0)), (1, .int p0), (2, .int p1)]) hx hb dX8_playNow_13 hl (by decide) rfl (fun ls hl => ?_)
  refine lv_aload_n hx hb dX8_playNow_15 rfl (lv_at hl 2 rfl) ?_
  refine va_get (D := G) (ci := 8) (v := .ref (ax 2)) (C := RX8) (T := TX8) (N := 22) hx hb hts hi_8 hown hK hP 0 rfl rfl 8 (by decide) (hts (.fieldLink RX8 17 "HubTrainsModel" "data" "[I") (List.mem_of_getElem? (i := 1) rfl)) (fun _ h9 => h9) rfl dX8_playNow_16 ?_
  refine lv_bipush (v := 19) hx hb dX8_playNow_19 (by decide) ?_
  refine lv_iload_n hx hb dX8_playNow_21 rfl (lv_at hl 3 rfl) ?_
  refine lv_iadd hx hb dX8_playNow_22 ?_
  refine lv_iconst (v := (-1)) hx hb dX8_playNow_23 (by decide) ?_
  obtain ⟨h_24, hm⟩ := gd_s hm
  refine va_iast (D := G) hx hb hK hP hD hS 2 0 rfl rfl (inb_s h_24) dX8_playNow_24 (fun H locs hP hD hS => ?_)
  obtain ⟨w24, e_w24⟩ : ∃ z : Nat → Int32, z = upd (x.1.2 1) (19 + p0).toNatClampNeg (-1) := ⟨_, rfl⟩
  have hP : va_P G vwCl (wM c ax ((sa x.1 1 w24), x.2)) H := by rw [e_w24]; exact hP
  have hD : va_D A (wM c ax ((sa x.1 1 w24), x.2)) := by rw [e_w24]; exact hD
  have hm := nmd_s hm w24 e_w24
  refine lv_aload_n hx hb dX8_playNow_25 rfl (lv_at hl 2 rfl) ?_
  refine va_get (D := G) (ci := 8) (v := .ref (ax 2)) (C := RX8) (T := TX8) (N := 22) hx hb hts hi_8 hown hK hP 0 rfl rfl 8 (by decide) (hts (.fieldLink RX8 17 "HubTrainsModel" "data" "[I") (List.mem_of_getElem? (i := 1) rfl)) (fun _ h9 => h9) rfl dX8_playNow_26 ?_
  refine lv_iload_n hx hb dX8_playNow_29 rfl (lv_at hl 1 rfl) ?_
  refine lv_iconst (v := 3) hx hb dX8_playNow_30 (by decide) ?_
  refine lv_iadd hx hb dX8_playNow_31 ?_
  refine lv_aload_n hx hb dX8_playNow_32 rfl (lv_at hl 2 rfl) ?_
  refine va_get (D := G) (ci := 8) (v := .ref (ax 2)) (C := RX8) (T := TX8) (N := 22) hx hb hts hi_8 hown hK hP 0 rfl rfl 8 (by decide) (hts (.fieldLink RX8 17 "HubTrainsModel" "data" "[I") (List.mem_of_getElem? (i := 1) rfl)) (fun _ h9 => h9) rfl dX8_playNow_33 ?_
  refine lv_iload_n hx hb dX8_playNow_36 rfl (lv_at hl 1 rfl) ?_
  refine lv_iconst (v := 0) hx hb dX8_playNow_37 (by decide) ?_
  refine lv_iadd hx hb dX8_playNow_38 ?_
  obtain ⟨h_39, hm⟩ := gd_s hm
  refine va_iald (D := G) hx hb hK hP 2 0 rfl rfl (inb_s h_39) dX8_playNow_39 ?_
  refine lv_iadd hx hb dX8_playNow_40 ?_
  refine lv_iload_n hx hb dX8_playNow_41 rfl (lv_at hl 3 rfl) ?_
  obtain ⟨h_42, hm⟩ := gd_s hm
  refine va_iast (D := G) hx hb hK hP hD hS 2 0 rfl rfl (inb_s h_42) dX8_playNow_42 (fun H locs hP hD hS => ?_)
  obtain ⟨w42, e_w42⟩ : ∃ z : Nat → Int32, z = upd w24 ((r1 + 3) + (w24 (r1 + 0).toNatClampNeg)).toNatClampNeg p0 := ⟨_, rfl⟩
  have hP : va_P G vwCl (wM c ax ((sa x.1 1 w42), x.2)) H := by rw [e_w42]; exact hP
  have hD : va_D A (wM c ax ((sa x.1 1 w42), x.2)) := by rw [e_w42]; exact hD
  have hm := nmd_s hm w42 e_w42
  refine lv_aload_n hx hb dX8_playNow_43 rfl (lv_at hl 2 rfl) ?_
  refine va_get (D := G) (ci := 8) (v := .ref (ax 2)) (C := RX8) (T := TX8) (N := 22) hx hb hts hi_8 hown hK hP 0 rfl rfl 8 (by decide) (hts (.fieldLink RX8 17 "HubTrainsModel" "data" "[I") (List.mem_of_getElem? (i := 1) rfl)) (fun _ h9 => h9) rfl dX8_playNow_44 ?_
  refine lv_iload_n hx hb dX8_playNow_47 rfl (lv_at hl 1 rfl) ?_
  refine lv_iconst (v := 0) hx hb dX8_playNow_48 (by decide) ?_
  refine lv_iadd hx hb dX8_playNow_49 ?_
  refine lv_dup2_11 hx hb dX8_playNow_50 rfl rfl ?_
  obtain ⟨h_51, hm⟩ := gd_s hm
  refine va_iald (D := G) hx hb hK hP 2 0 rfl rfl (inb_s h_51) dX8_playNow_51 ?_
  refine lv_iconst (v := 1) hx hb dX8_playNow_52 (by decide) ?_
  refine lv_iadd hx hb dX8_playNow_53 ?_
  obtain ⟨h_54, hm⟩ := gd_s hm
  refine va_iast (D := G) hx hb hK hP hD hS 2 0 rfl rfl (inb_s h_54) dX8_playNow_54 (fun H locs hP hD hS => ?_)
  obtain ⟨w54, e_w54⟩ : ∃ z : Nat → Int32, z = upd w42 (r1 + 0).toNatClampNeg ((w42 (r1 + 0).toNatClampNeg) + 1) := ⟨_, rfl⟩
  have hP : va_P G vwCl (wM c ax ((sa x.1 1 w54), x.2)) H := by rw [e_w54]; exact hP
  have hD : va_D A (wM c ax ((sa x.1 1 w54), x.2)) := by rw [e_w54]; exact hD
  have hm := nmd_s hm w54 e_w54
  refine lv_aload_n hx hb dX8_playNow_55 rfl (lv_at hl 2 rfl) ?_
  refine va_get (D := G) (ci := 8) (v := .ref (ax 2)) (C := RX8) (T := TX8) (N := 22) hx hb hts hi_8 hown hK hP 0 rfl rfl 8 (by decide) (hts (.fieldLink RX8 17 "HubTrainsModel" "data" "[I") (List.mem_of_getElem? (i := 1) rfl)) (fun _ h9 => h9) rfl dX8_playNow_56 ?_
  refine lv_iload_n hx hb dX8_playNow_59 rfl (lv_at hl 1 rfl) ?_
  refine lv_iconst (v := 1) hx hb dX8_playNow_60 (by decide) ?_
  refine lv_iadd hx hb dX8_playNow_61 ?_
  refine lv_iload_n hx hb dX8_playNow_62 rfl (lv_at hl 3 rfl) ?_
  refine lv_bipush (v := 10) hx hb dX8_playNow_63 (by decide) ?_
  refine lv_idiv hx hb dX8_playNow_65 (by decide) ?_
  refine lv_iload hx hb dX8_playNow_66 (lv_at hl 0 rfl) ?_
  have J_82 : ∀ (s0_82 : Int32) (H : Heap) (locs : List Loc) (ls : Array Slot), va_P G vwCl (wM c ax ((sa x.1 1 w54), x.2)) H → va_D A (wM c ax ((sa x.1 1 w54), x.2)) → va_S A s.heap H locs → lv_has ls 5 [(0, .ref (ax 0)), (1, .int p0), (2, .int p1), (3, .int r1)] → f_X8_playNow_J82 x p0 p1 r1 w54 s0_82 = some (x_r) → W p l e (rm_X8_playNow) s m args below meth c1 H locs 0 0 Q (F0 m 82 ls [.int s0_82, .int (r1 + 1), .ref (ax 2)]) := by
    intro s0_82 H locs ls hP hD hS hl hm
    unfold f_X8_playNow_J82 at hm
    obtain ⟨h_82, hm⟩ := gd_s hm
    refine va_iast (D := G) hx hb hK hP hD hS 2 0 rfl rfl (inb_s h_82) dX8_playNow_82 (fun H locs hP hD hS => ?_)
    obtain ⟨w82, e_w82⟩ : ∃ z : Nat → Int32, z = upd w54 (r1 + 1).toNatClampNeg s0_82 := ⟨_, rfl⟩
    have hP : va_P G vwCl (wM c ax ((sa x.1 1 w82), x.2)) H := by rw [e_w82]; exact hP
    have hD : va_D A (wM c ax ((sa x.1 1 w82), x.2)) := by rw [e_w82]; exact hD
    have hm := nmd_s hm w82 e_w82
    refine lv_iload_n hx hb dX8_playNow_83 rfl (lv_at hl 2 rfl) ?_
    refine lv_aload_n hx hb dX8_playNow_84 rfl (lv_at hl 0 rfl) ?_
    refine va_get (D := G) (ci := 8) (v := .ref (ax 2)) (C := RX8) (T := TX8) (N := 22) hx hb hts hi_8 hown hK hP 0 rfl rfl 8 (by decide) (hts (.fieldLink RX8 17 "HubTrainsModel" "data" "[I") (List.mem_of_getElem? (i := 1) rfl)) (fun _ h9 => h9) rfl dX8_playNow_85 ?_
    refine lv_iconst (v := 4) hx hb dX8_playNow_88 (by decide) ?_
    obtain ⟨h_89, hm⟩ := gd_s hm
    refine va_iald (D := G) hx hb hK hP 2 0 rfl rfl (inb_s h_89) dX8_playNow_89 ?_
    have J_102 : ∀ (x_102 : MS) (H : Heap) (locs : List Loc) (ls : Array Slot), va_P G vwCl (wM c ax x_102) H → va_D A (wM c ax x_102) → va_S A s.heap H locs → lv_has ls 5 [(0, .ref (ax 0)), (1, .int p0), (2, .int p1)] → f_X8_playNow_J102 p0 p1 x_102 = some (x_r) → W p l e (rm_X8_playNow) s m args below meth c1 H locs 0 0 Q (F0 m 102 ls []) := by
      intro x_102 H locs ls hP hD hS hl hm
      unfold f_X8_playNow_J102 at hm
      refine lv_aload_n hx hb dX8_playNow_102 rfl (lv_at hl 0 rfl) ?_
      refine va_get (D := G) (ci := 8) (v := .ref (ax 2)) (C := RX8) (T := TX8) (N := 22) hx hb hts hi_8 hown hK hP 0 rfl rfl 8 (by decide) (hts (.fieldLink RX8 17 "HubTrainsModel" "data" "[I") (List.mem_of_getElem? (i := 1) rfl)) (fun _ h9 => h9) rfl dX8_playNow_103 ?_
      refine lv_bipush (v := 10) hx hb dX8_playNow_106 (by decide) ?_
      refine lv_iconst (v := 0) hx hb dX8_playNow_108 (by decide) ?_
      obtain ⟨h_109, hm⟩ := gd_s hm
      refine va_iast (D := G) hx hb hK hP hD hS 2 0 rfl rfl (inb_s h_109) dX8_playNow_109 (fun H locs hP hD hS => ?_)
      obtain ⟨w109, e_w109⟩ : ∃ z : Nat → Int32, z = upd (x_102.1.2 1) (10 : Int32).toNatClampNeg 0 := ⟨_, rfl⟩
      have hP : va_P G vwCl (wM c ax ((sa x_102.1 1 w109), x_102.2)) H := by rw [e_w109]; exact hP
      have hD : va_D A (wM c ax ((sa x_102.1 1 w109), x_102.2)) := by rw [e_w109]; exact hD
      have hm := nmd_s hm w109 e_w109
      refine lv_aload_n hx hb dX8_playNow_110 rfl (lv_at hl 0 rfl) ?_
      refine va_get (D := G) (ci := 8) (v := .ref (ax 2)) (C := RX8) (T := TX8) (N := 22) hx hb hts hi_8 hown hK hP 0 rfl rfl 8 (by decide) (hts (.fieldLink RX8 17 "HubTrainsModel" "data" "[I") (List.mem_of_getElem? (i := 1) rfl)) (fun _ h9 => h9) rfl dX8_playNow_111 ?_
      refine lv_bipush (v := 6) hx hb dX8_playNow_114 (by decide) ?_
      refine lv_iload_n hx hb dX8_playNow_116 rfl (lv_at hl 1 rfl) ?_
      obtain ⟨r117, e_117, hm⟩ := bd1_s hm
      refine zcSi (As := [.int p0]) (rest := [.int 6, .ref (ax 2)]) ⟨hx, hb, hml, hown, hts⟩ (k_X8_isDouble l G K c p0 r117 e_117) (va_cwS 1 hts gX8_playNow_X8_isDouble rfl rfl rfl hd_X8_isDouble.2 ⟨Nat.le_of_ble_eq_true rfl, Nat.le_of_ble_eq_true rfl⟩) hK hN hZ hP hD hS hA [] rfl (by decide) rfl rfl hl.1 rfl (Nat.le_of_ble_eq_true rfl) dX8_playNow_117 ⟨Nat.zero_le _, Nat.zero_le _⟩ (fun H locs hP hD hS => ?_)
      have hP : va_P G vwCl (wM c ax ((sa x_102.1 1 w109), x_102.2)) H := hP
      have hD : va_D A (wM c ax ((sa x_102.1 1 w109), x_102.2)) := hD
      have J_128 : ∀ (s0_128 : Int32) (H : Heap) (locs : List Loc) (ls : Array Slot), va_P G vwCl (wM c ax ((sa x_102.1 1 w109), x_102.2)) H → va_D A (wM c ax ((sa x_102.1 1 w109), x_102.2)) → va_S A s.heap H locs → lv_has ls 5 [(0, .ref (ax 0)), (1, .int p0)] → f_X8_playNow_J128 p0 x_102 w109 s0_128 = some (x_r) → W p l e (rm_X8_playNow) s m args below meth c1 H locs 0 0 Q (F0 m 128 ls [.int s0_128, .int 6, .ref (ax 2)]) := by
        intro s0_128 H locs ls hP hD hS hl hm
        unfold f_X8_playNow_J128 at hm
        obtain ⟨h_128, hm⟩ := gd_s hm
        refine va_iast (D := G) hx hb hK hP hD hS 2 0 rfl rfl (inb_s h_128) dX8_playNow_128 (fun H locs hP hD hS => ?_)
        obtain ⟨w128, e_w128⟩ : ∃ z : Nat → Int32, z = upd w109 (6 : Int32).toNatClampNeg s0_128 := ⟨_, rfl⟩
        have hP : va_P G vwCl (wM c ax ((sa x_102.1 1 w128), x_102.2)) H := by rw [e_w128]; exact hP
        have hD : va_D A (wM c ax ((sa x_102.1 1 w128), x_102.2)) := by rw [e_w128]; exact hD
        have hm := nmd_s hm w128 e_w128
        refine lv_aload_n hx hb dX8_playNow_129 rfl (lv_at hl 0 rfl) ?_
        refine lv_aload_n hx hb dX8_playNow_130 rfl (lv_at hl 0 rfl) ?_
        refine va_get (D := G) (ci := 8) (v := .ref (ax 2)) (C := RX8) (T := TX8) (N := 22) hx hb hts hi_8 hown hK hP 0 rfl rfl 8 (by decide) (hts (.fieldLink RX8 17 "HubTrainsModel" "data" "[I") (List.mem_of_getElem? (i := 1) rfl)) (fun _ h9 => h9) rfl dX8_playNow_131 ?_
        refine lv_iconst (v := 4) hx hb dX8_playNow_134 (by decide) ?_
        obtain ⟨h_135, hm⟩ := gd_s hm
        refine va_iald (D := G) hx hb hK hP 2 0 rfl rfl (inb_s h_135) dX8_playNow_135 ?_
        obtain ⟨r136, e_136, hm⟩ := bd1_s hm
        refine zcWi (As := [.int (w128 (4 : Int32).toNatClampNeg)]) (rest := []) ⟨hx, hb, hml, hown, hts⟩ (k_X8_hand l G K c ax ((sa x_102.1 1 w128), x_102.2) (w128 (4 : Int32).toNatClampNeg) r136 e_136) (cwV 1 hts gX8_playNow_X8_hand rfl rfl rfl hd_X8_hand ⟨Nat.le_of_ble_eq_true rfl, Nat.le_of_ble_eq_true rfl⟩) hK hN hZ hP hD hS hA (va_recv hK hP (ci := 8) (q0 := 0) rfl rfl) rfl hl.1 rfl (Nat.le_of_ble_eq_true rfl) dX8_playNow_136 ⟨Nat.zero_le _, Nat.zero_le _⟩ (fun H locs hP hD hS => ?_)
        have hP : va_P G vwCl (wM c ax ((sa x_102.1 1 w128), x_102.2)) H := hP
        have hD : va_D A (wM c ax ((sa x_102.1 1 w128), x_102.2)) := hD
        refine lv_if_ne (tgt := 149) hx hb dX8_playNow_139 (by decide) (fun c_139 => ?_) (fun c_139 => ?_)
        · have hm := ifn c_139 hm
          refine lv_iload_n hx hb dX8_playNow_149 rfl (lv_at hl 1 rfl) ?_
          obtain ⟨r150, e_150, hm⟩ := bd1_s hm
          refine zcSi (As := [.int p0]) (rest := []) ⟨hx, hb, hml, hown, hts⟩ (k_X8_isDouble l G K c p0 r150 e_150) (va_cwS 1 hts gX8_playNow_X8_isDouble rfl rfl rfl hd_X8_isDouble.2 ⟨Nat.le_of_ble_eq_true rfl, Nat.le_of_ble_eq_true rfl⟩) hK hN hZ hP hD hS hA [] rfl (by decide) rfl rfl hl.1 rfl (Nat.le_of_ble_eq_true rfl) dX8_playNow_150 ⟨Nat.zero_le _, Nat.zero_le _⟩ (fun H locs hP hD hS => ?_)
          have hP : va_P G vwCl (wM c ax ((sa x_102.1 1 w128), x_102.2)) H := hP
          have hD : va_D A (wM c ax ((sa x_102.1 1 w128), x_102.2)) := hD
          refine lv_if_eq (tgt := 166) hx hb dX8_playNow_153 (by decide) (fun c_153 => ?_) (fun c_153 => ?_)
          · have hm := ifp c_153 hm
            refine lv_aload_n hx hb dX8_playNow_166 rfl (lv_at hl 0 rfl) ?_
            obtain ⟨x167, e_167, hm⟩ := bd1_s hm
            refine zcWv (As := []) (rest := []) ⟨hx, hb, hml, hown, hts⟩ (k_X8_nextTurn l G K c ax ((sa x_102.1 1 w128), x_102.2) x167 e_167) (cwV 0 hts gX8_playNow_X8_nextTurn rfl rfl rfl hd_X8_nextTurn ⟨Nat.le_of_ble_eq_true rfl, Nat.le_of_ble_eq_true rfl⟩) hK hN hZ hP hD hS hA (va_recv hK hP (ci := 8) (q0 := 0) rfl rfl) rfl hl.1 rfl (Nat.le_of_ble_eq_true rfl) dX8_playNow_167 ⟨Nat.zero_le _, Nat.zero_le _⟩ (fun H locs hP hD hS => ?_)
            have hP : va_P G vwCl (wM c ax x167) H := hP
            have hD : va_D A (wM c ax x167) := hD
            exact hend H locs ls _ _ (zc1 (fun (z0 : MS) => (wM c ax z0 : va_W)) (Option.some.inj hm)) hP hD hS dX8_playNow_170
          · have hm := ifn c_153 hm
            refine lv_aload_n hx hb dX8_playNow_156 rfl (lv_at hl 0 rfl) ?_
            refine va_get (D := G) (ci := 8) (v := .ref (ax 2)) (C := RX8) (T := TX8) (N := 22) hx hb hts hi_8 hown hK hP 0 rfl rfl 8 (by decide) (hts (.fieldLink RX8 17 "HubTrainsModel" "data" "[I") (List.mem_of_getElem? (i := 1) rfl)) (fun _ h9 => h9) rfl dX8_playNow_157 ?_
            refine lv_iconst (v := 5) hx hb dX8_playNow_160 (by decide) ?_
            refine lv_iconst (v := 0) hx hb dX8_playNow_161 (by decide) ?_
            obtain ⟨h_162, hm⟩ := gd_s hm
            refine va_iast (D := G) hx hb hK hP hD hS 2 0 rfl rfl (inb_s h_162) dX8_playNow_162 (fun H locs hP hD hS => ?_)
            obtain ⟨w162, e_w162⟩ : ∃ z : Nat → Int32, z = upd w128 (5 : Int32).toNatClampNeg 0 := ⟨_, rfl⟩
            have hP : va_P G vwCl (wM c ax ((sa x_102.1 1 w162), x_102.2)) H := by rw [e_w162]; exact hP
            have hD : va_D A (wM c ax ((sa x_102.1 1 w162), x_102.2)) := by rw [e_w162]; exact hD
            have hm := nmd_s hm w162 e_w162
            refine lv_goto (tgt := 170) hx hb dX8_playNow_163 (by decide) ?_
            exact hend H locs ls _ _ (zc1 (fun (z0 : MS) => (wM c ax z0 : va_W)) (Option.some.inj hm)) hP hD hS dX8_playNow_170
        · have hm := ifp c_139 hm
          refine lv_aload_n hx hb dX8_playNow_142 rfl (lv_at hl 0 rfl) ?_
          obtain ⟨x143, e_143, hm⟩ := bd1_s hm
          refine zcWv (As := []) (rest := []) ⟨hx, hb, hml, hown, hts⟩ (k_X8_endRound l G K c ax ((sa x_102.1 1 w128), x_102.2) x143 e_143) (cwV 0 hts gX8_playNow_X8_endRound rfl rfl rfl hd_X8_endRound ⟨Nat.le_of_ble_eq_true rfl, Nat.le_of_ble_eq_true rfl⟩) hK hN hZ hP hD hS hA (va_recv hK hP (ci := 8) (q0 := 0) rfl rfl) rfl hl.1 rfl (Nat.le_of_ble_eq_true rfl) dX8_playNow_143 ⟨Nat.zero_le _, Nat.zero_le _⟩ (fun H locs hP hD hS => ?_)
          have hP : va_P G vwCl (wM c ax x143) H := hP
          have hD : va_D A (wM c ax x143) := hD
          refine lv_goto (tgt := 170) hx hb dX8_playNow_146 (by decide) ?_
          exact hend H locs ls _ _ (zc1 (fun (z0 : MS) => (wM c ax z0 : va_W)) (Option.some.inj hm)) hP hD hS dX8_playNow_170
      refine lv_if_eq (tgt := 127) hx hb dX8_playNow_120 (by decide) (fun c_120 => ?_) (fun c_120 => ?_)
      · have hm := ifp c_120 hm
        refine lv_iconst (v := (-1)) hx hb dX8_playNow_127 (by decide) ?_
        exact J_128 (-1) H locs ls hP hD hS (lv_sub hl [0, 1] rfl) hm
      · have hm := ifn c_120 hm
        refine lv_iload_n hx hb dX8_playNow_123 rfl (lv_at hl 2 rfl) ?_
        refine lv_goto (tgt := 128) hx hb dX8_playNow_124 (by decide) ?_
        exact J_128 p1 H locs ls hP hD hS (lv_sub hl [0, 1] rfl) hm
    refine lv_icmp_ne (tgt := 102) hx hb dX8_playNow_90 (by decide) (fun c_90 => ?_) (fun c_90 => ?_)
    · have hm := ifn c_90 hm
      exact J_102 ((sa x.1 1 w82), x.2) H locs ls hP hD hS (lv_sub hl [0, 1, 2] rfl) hm
    · have hm := ifp c_90 hm
      refine lv_aload_n hx hb dX8_playNow_93 rfl (lv_at hl 0 rfl) ?_
      refine va_get (D := G) (ci := 8) (v := .ref (ax 2)) (C := RX8) (T := TX8) (N := 22) hx hb hts hi_8 hown hK hP 0 rfl rfl 8 (by decide) (hts (.fieldLink RX8 17 "HubTrainsModel" "data" "[I") (List.mem_of_getElem? (i := 1) rfl)) (fun _ h9 => h9) rfl dX8_playNow_94 ?_
      refine lv_iload_n hx hb dX8_playNow_97 rfl (lv_at hl 3 rfl) ?_
      refine lv_iconst (v := 2) hx hb dX8_playNow_98 (by decide) ?_
      refine lv_iadd hx hb dX8_playNow_99 ?_
      refine lv_iconst (v := 0) hx hb dX8_playNow_100 (by decide) ?_
      obtain ⟨h_101, hm⟩ := gd_s hm
      refine va_iast (D := G) hx hb hK hP hD hS 2 0 rfl rfl (inb_s h_101) dX8_playNow_101 (fun H locs hP hD hS => ?_)
      obtain ⟨w101, e_w101⟩ : ∃ z : Nat → Int32, z = upd w82 (r1 + 2).toNatClampNeg 0 := ⟨_, rfl⟩
      have hP : va_P G vwCl (wM c ax ((sa x.1 1 w101), x.2)) H := by rw [e_w101]; exact hP
      have hD : va_D A (wM c ax ((sa x.1 1 w101), x.2)) := by rw [e_w101]; exact hD
      have hm := nmd_s hm w101 e_w101
      exact J_102 ((sa x.1 1 w101), x.2) H locs ls hP hD hS (lv_sub hl [0, 1, 2] rfl) hm
  refine lv_icmp_ne (tgt := 78) hx hb dX8_playNow_68 (by decide) (fun c_68 => ?_) (fun c_68 => ?_)
  · have hm := ifn c_68 hm
    refine lv_iload_n hx hb dX8_playNow_78 rfl (lv_at hl 3 rfl) ?_
    refine lv_bipush (v := 10) hx hb dX8_playNow_79 (by decide) ?_
    refine lv_idiv hx hb dX8_playNow_81 (by decide) ?_
    exact J_82 (p0 / 10) H locs ls hP hD hS (lv_sub hl [2, 3, 4, 1] rfl) hm
  · have hm := ifp c_68 hm
    refine lv_iload_n hx hb dX8_playNow_71 rfl (lv_at hl 3 rfl) ?_
    refine lv_bipush (v := 10) hx hb dX8_playNow_72 (by decide) ?_
    refine lv_irem hx hb dX8_playNow_74 (by decide) ?_
    refine lv_goto (tgt := 82) hx hb dX8_playNow_75 (by decide) ?_
    exact J_82 (p0 - p0 / 10 * 10) H locs ls hP hD hS (lv_sub hl [2, 3, 4, 1] rfl) hm


def f_X8_drawNow (x : MS) : Option (Int32 × MS) :=
  gd (inb 12 1464) <| gd (inb (119 + ((x.1.2 1) (12 : Int32).toNatClampNeg)) 1464) <| nmd ((x.1.2 1) (119 + ((x.1.2 1) (12 : Int32).toNatClampNeg)).toNatClampNeg) fun (x1_15 : Int32) => gd (inb 4 1464) <| gd (inb (19 + x1_15) 1464) <| nmd (upd (x.1.2 1) (19 + x1_15).toNatClampNeg ((x.1.2 1) (4 : Int32).toNatClampNeg)) fun (w30 : Nat → Int32) => gd (inb 12 1464) <| gd (inb 12 1464) <| nmd (upd w30 (12 : Int32).toNatClampNeg ((w30 (12 : Int32).toNatClampNeg) + 1)) fun (w41 : Nat → Int32) => gd (inb 7 1464) <| gd (inb 7 1464) <| nmd (upd w41 (7 : Int32).toNatClampNeg ((w41 (7 : Int32).toNatClampNeg) - 1)) fun (w52 : Nat → Int32) => gd (inb 5 1464) <| nmd (upd w52 (5 : Int32).toNatClampNeg 1) fun (w59 : Nat → Int32) => gd (inb 10 1464) <| nmd (upd w59 (10 : Int32).toNatClampNeg 0) fun (w67 : Nat → Int32) => some (x1_15, ((sa x.1 1 w67), x.2))

abbrev rm_X8_drawNow : Room := { frames := 0, cells := 0, slots := 0, locals := 0 }
theorem hd_X8_drawNow : yX8_drawNow.cls = RX8 ∧ yX8_drawNow.cls ≠ "java/lang/invoke/MethodHandle" ∧ yX8_drawNow.cls ≠ "java/lang/invoke/VarHandle" ∧ (parseMethodDescriptor yX8_drawNow.desc).map (fun d => d.parameters.length) = some 0 := by decide +kernel
set_option maxHeartbeats 4000000 in
set_option maxRecDepth 100000 in
theorem k_X8_drawNow (l : Launch) (G : va_G) (K : (Nat → Nat) × (Nat → Nat)) (c : Nat → ClassId) (ax : Nat → Nat) (x : MS) (r : Int32) (x_r : MS) (hm : f_X8_drawNow x = some (r, x_r)) : zMi l yX8_drawNow wsX8_drawNow (rm_X8_drawNow) G K (TY c) [.ref (ax 0)] (wM c ax x) (wM c ax x_r) r := by
  refine zMi.of (cc := cX8_drawNow) (maxL := 2) (lv := [(0, .ref (ax 0))]) (by decide) rfl (Nat.le_of_ble_eq_true rfl) rfl ?_
  intro p e s m args below meth c1 A Q H locs hx hb hml hown hts hK hN hZ hP hD hA hS hend ls hl
  have hown : s.vm.findClass RX8 = some m.cls := hown
  have hi_8 : ∀ w ∈ wsX80, w ∈ wsX8_drawNow := (fun w h => List.mem_cons_of_mem _ (List.mem_append_right _ (h)))
  unfold f_X8_drawNow at hm
  refine lv_aload_n hx hb dX8_drawNow_0 rfl (lv_at hl 0 rfl) ?_
  refine va_get (D := G) (ci := 8) (v := .ref (ax 2)) (C := RX8) (T := TX8) (N := 22) hx hb hts hi_8 hown hK hP 0 rfl rfl 8 (by decide) (hts (.fieldLink RX8 17 "HubTrainsModel" "data" "[I") (List.mem_of_getElem? (i := 1) rfl)) (fun _ h9 => h9) rfl dX8_drawNow_1 ?_
  refine lv_bipush (v := 119) hx hb dX8_drawNow_4 (by decide) ?_
  refine lv_aload_n hx hb dX8_drawNow_6 rfl (lv_at hl 0 rfl) ?_
  refine va_get (D := G) (ci := 8) (v := .ref (ax 2)) (C := RX8) (T := TX8) (N := 22) hx hb hts hi_8 hown hK hP 0 rfl rfl 8 (by decide) (hts (.fieldLink RX8 17 "HubTrainsModel" "data" "[I") (List.mem_of_getElem? (i := 1) rfl)) (fun _ h9 => h9) rfl dX8_drawNow_7 ?_
  refine lv_bipush (v := 12) hx hb dX8_drawNow_10 (by decide) ?_
  obtain ⟨h_12, hm⟩ := gd_s hm
  refine va_iald (D := G) hx hb hK hP 2 0 rfl rfl (inb_s h_12) dX8_drawNow_12 ?_
  refine lv_iadd hx hb dX8_drawNow_13 ?_
  obtain ⟨h_14, hm⟩ := gd_s hm
  refine va_iald (D := G) hx hb hK hP 2 0 rfl rfl (inb_s h_14) dX8_drawNow_14 ?_
  refine lv_topi (fun x1_15 e_x1_15 => ?_)
  have hm := nmd_s hm x1_15 e_x1_15
  refine lv_istore_n (lv' := [(1, .int x1_15), (0, .ref (ax 0))]) hx hb dX8_drawNow_15 rfl hl (by decide) rfl (fun ls hl => ?_)
  refine lv_aload_n hx hb dX8_drawNow_16 rfl (lv_at hl 1 rfl) ?_
  refine va_get (D := G) (ci := 8) (v := .ref (ax 2)) (C := RX8) (T := TX8) (N := 22) hx hb hts hi_8 hown hK hP 0 rfl rfl 8 (by decide) (hts (.fieldLink RX8 17 "HubTrainsModel" "data" "[I") (List.mem_of_getElem? (i := 1) rfl)) (fun _ h9 => h9) rfl dX8_drawNow_17 ?_
  refine lv_bipush (v := 19) hx hb dX8_drawNow_20 (by decide) ?_
  refine lv_iload_n hx hb dX8_drawNow_22 rfl (lv_at hl 0 rfl) ?_
  refine lv_iadd hx hb dX8_drawNow_23 ?_
  refine lv_aload_n hx hb dX8_drawNow_24 rfl (lv_at hl 1 rfl) ?_
  refine va_get (D := G) (ci := 8) (v := .ref (ax 2)) (C := RX8) (T := TX8) (N := 22) hx hb hts hi_8 hown hK hP 0 rfl rfl 8 (by decide) (hts (.fieldLink RX8 17 "HubTrainsModel" "data" "[I") (List.mem_of_getElem? (i := 1) rfl)) (fun _ h9 => h9) rfl dX8_drawNow_25 ?_
  refine lv_iconst (v := 4) hx hb dX8_drawNow_28 (by decide) ?_
  obtain ⟨h_29, hm⟩ := gd_s hm
  refine va_iald (D := G) hx hb hK hP 2 0 rfl rfl (inb_s h_29) dX8_drawNow_29 ?_
  obtain ⟨h_30, hm⟩ := gd_s hm
  refine va_iast (D := G) hx hb hK hP hD hS 2 0 rfl rfl (inb_s h_30) dX8_drawNow_30 (fun H locs hP hD hS => ?_)
  obtain ⟨w30, e_w30⟩ : ∃ z : Nat → Int32, z = upd (x.1.2 1) (19 + x1_15).toNatClampNeg ((x.1.2 1) (4 : Int32).toNatClampNeg) := ⟨_, rfl⟩
  have hP : va_P G vwCl (wM c ax ((sa x.1 1 w30), x.2)) H := by rw [e_w30]; exact hP
  have hD : va_D A (wM c ax ((sa x.1 1 w30), x.2)) := by rw [e_w30]; exact hD
  have hm := nmd_s hm w30 e_w30
  refine lv_aload_n hx hb dX8_drawNow_31 rfl (lv_at hl 1 rfl) ?_
  refine va_get (D := G) (ci := 8) (v := .ref (ax 2)) (C := RX8) (T := TX8) (N := 22) hx hb hts hi_8 hown hK hP 0 rfl rfl 8 (by decide) (hts (.fieldLink RX8 17 "HubTrainsModel" "data" "[I") (List.mem_of_getElem? (i := 1) rfl)) (fun _ h9 => h9) rfl dX8_drawNow_32 ?_
  refine lv_bipush (v := 12) hx hb dX8_drawNow_35 (by decide) ?_
  refine lv_dup2_11 hx hb dX8_drawNow_37 rfl rfl ?_
  obtain ⟨h_38, hm⟩ := gd_s hm
  refine va_iald (D := G) hx hb hK hP 2 0 rfl rfl (inb_s h_38) dX8_drawNow_38 ?_
  refine lv_iconst (v := 1) hx hb dX8_drawNow_39 (by decide) ?_
  refine lv_iadd hx hb dX8_drawNow_40 ?_
  obtain ⟨h_41, hm⟩ := gd_s hm
  refine va_iast (D := G) hx hb hK hP hD hS 2 0 rfl rfl (inb_s h_41) dX8_drawNow_41 (fun H locs hP hD hS => ?_)
  obtain ⟨w41, e_w41⟩ : ∃ z : Nat → Int32, z = upd w30 (12 : Int32).toNatClampNeg ((w30 (12 : Int32).toNatClampNeg) + 1) := ⟨_, rfl⟩
  have hP : va_P G vwCl (wM c ax ((sa x.1 1 w41), x.2)) H := by rw [e_w41]; exact hP
  have hD : va_D A (wM c ax ((sa x.1 1 w41), x.2)) := by rw [e_w41]; exact hD
  have hm := nmd_s hm w41 e_w41
  refine lv_aload_n hx hb dX8_drawNow_42 rfl (lv_at hl 1 rfl) ?_
  refine va_get (D := G) (ci := 8) (v := .ref (ax 2)) (C := RX8) (T := TX8) (N := 22) hx hb hts hi_8 hown hK hP 0 rfl rfl 8 (by decide) (hts (.fieldLink RX8 17 "HubTrainsModel" "data" "[I") (List.mem_of_getElem? (i := 1) rfl)) (fun _ h9 => h9) rfl dX8_drawNow_43 ?_
  refine lv_bipush (v := 7) hx hb dX8_drawNow_46 (by decide) ?_
  refine lv_dup2_11 hx hb dX8_drawNow_48 rfl rfl ?_
  obtain ⟨h_49, hm⟩ := gd_s hm
  refine va_iald (D := G) hx hb hK hP 2 0 rfl rfl (inb_s h_49) dX8_drawNow_49 ?_
  refine lv_iconst (v := 1) hx hb dX8_drawNow_50 (by decide) ?_
  refine lv_isub hx hb dX8_drawNow_51 ?_
  obtain ⟨h_52, hm⟩ := gd_s hm
  refine va_iast (D := G) hx hb hK hP hD hS 2 0 rfl rfl (inb_s h_52) dX8_drawNow_52 (fun H locs hP hD hS => ?_)
  obtain ⟨w52, e_w52⟩ : ∃ z : Nat → Int32, z = upd w41 (7 : Int32).toNatClampNeg ((w41 (7 : Int32).toNatClampNeg) - 1) := ⟨_, rfl⟩
  have hP : va_P G vwCl (wM c ax ((sa x.1 1 w52), x.2)) H := by rw [e_w52]; exact hP
  have hD : va_D A (wM c ax ((sa x.1 1 w52), x.2)) := by rw [e_w52]; exact hD
  have hm := nmd_s hm w52 e_w52
  refine lv_aload_n hx hb dX8_drawNow_53 rfl (lv_at hl 1 rfl) ?_
  refine va_get (D := G) (ci := 8) (v := .ref (ax 2)) (C := RX8) (T := TX8) (N := 22) hx hb hts hi_8 hown hK hP 0 rfl rfl 8 (by decide) (hts (.fieldLink RX8 17 "HubTrainsModel" "data" "[I") (List.mem_of_getElem? (i := 1) rfl)) (fun _ h9 => h9) rfl dX8_drawNow_54 ?_
  refine lv_iconst (v := 5) hx hb dX8_drawNow_57 (by decide) ?_
  refine lv_iconst (v := 1) hx hb dX8_drawNow_58 (by decide) ?_
  obtain ⟨h_59, hm⟩ := gd_s hm
  refine va_iast (D := G) hx hb hK hP hD hS 2 0 rfl rfl (inb_s h_59) dX8_drawNow_59 (fun H locs hP hD hS => ?_)
  obtain ⟨w59, e_w59⟩ : ∃ z : Nat → Int32, z = upd w52 (5 : Int32).toNatClampNeg 1 := ⟨_, rfl⟩
  have hP : va_P G vwCl (wM c ax ((sa x.1 1 w59), x.2)) H := by rw [e_w59]; exact hP
  have hD : va_D A (wM c ax ((sa x.1 1 w59), x.2)) := by rw [e_w59]; exact hD
  have hm := nmd_s hm w59 e_w59
  refine lv_aload_n hx hb dX8_drawNow_60 rfl (lv_at hl 1 rfl) ?_
  refine va_get (D := G) (ci := 8) (v := .ref (ax 2)) (C := RX8) (T := TX8) (N := 22) hx hb hts hi_8 hown hK hP 0 rfl rfl 8 (by decide) (hts (.fieldLink RX8 17 "HubTrainsModel" "data" "[I") (List.mem_of_getElem? (i := 1) rfl)) (fun _ h9 => h9) rfl dX8_drawNow_61 ?_
  refine lv_bipush (v := 10) hx hb dX8_drawNow_64 (by decide) ?_
  refine lv_iconst (v := 0) hx hb dX8_drawNow_66 (by decide) ?_
  obtain ⟨h_67, hm⟩ := gd_s hm
  refine va_iast (D := G) hx hb hK hP hD hS 2 0 rfl rfl (inb_s h_67) dX8_drawNow_67 (fun H locs hP hD hS => ?_)
  obtain ⟨w67, e_w67⟩ : ∃ z : Nat → Int32, z = upd w59 (10 : Int32).toNatClampNeg 0 := ⟨_, rfl⟩
  have hP : va_P G vwCl (wM c ax ((sa x.1 1 w67), x.2)) H := by rw [e_w67]; exact hP
  have hD : va_D A (wM c ax ((sa x.1 1 w67), x.2)) := by rw [e_w67]; exact hD
  have hm := nmd_s hm w67 e_w67
  refine lv_iload_n hx hb dX8_drawNow_68 rfl (lv_at hl 0 rfl) ?_
  exact hend H locs ls _ _ _ rfl (Prod.mk.inj (Option.some.inj hm)).1 (zc1 (fun (z0 : MS) => (wM c ax z0 : va_W)) (Prod.mk.inj (Option.some.inj hm)).2) hP hD hS dX8_drawNow_69


def f_X8_passNow (x : MS) : Option MS :=
  gd (inb 4 1464) <| bd1 (f_X8_trainAt ((x.1.2 1) (4 : Int32).toNatClampNeg)) fun (r10 : Int32) => gd (inb (r10 + 2) 1464) <| nmd (upd (x.1.2 1) (r10 + 2).toNatClampNeg 1) fun (w16 : Nat → Int32) => gd (inb 10 1464) <| gd (inb 10 1464) <| nmd (upd w16 (10 : Int32).toNatClampNeg ((w16 (10 : Int32).toNatClampNeg) + 1)) fun (w27 : Nat → Int32) => gd (inb 10 1464) <| gd (inb 1 1464) <| if (w27 (10 : Int32).toNatClampNeg) = (w27 (1 : Int32).toNatClampNeg) then (bd1 (f_X8_endRound ((sa x.1 1 w27), x.2)) fun (x45 : MS) => some (x45)) else (bd1 (f_X8_nextTurn ((sa x.1 1 w27), x.2)) fun (x52 : MS) => some (x52))

abbrev rm_X8_passNow : Room := { frames := 3, cells := 0, slots := 0, locals := 66 }
theorem hd_X8_passNow : yX8_passNow.cls = RX8 ∧ yX8_passNow.cls ≠ "java/lang/invoke/MethodHandle" ∧ yX8_passNow.cls ≠ "java/lang/invoke/VarHandle" ∧ (parseMethodDescriptor yX8_passNow.desc).map (fun d => d.parameters.length) = some 0 := by decide +kernel
set_option maxHeartbeats 4000000 in
set_option maxRecDepth 100000 in
theorem k_X8_passNow (l : Launch) (G : va_G) (K : (Nat → Nat) × (Nat → Nat)) (c : Nat → ClassId) (ax : Nat → Nat) (x : MS) (x_r : MS) (hm : f_X8_passNow x = some (x_r)) : zMv l yX8_passNow wsX8_passNow (rm_X8_passNow) G K (TY c) [.ref (ax 0)] (wM c ax x) (wM c ax x_r) := by
  refine zMv.of (cc := cX8_passNow) (maxL := 1) (lv := [(0, .ref (ax 0))]) (by decide) rfl (Nat.le_of_ble_eq_true rfl) rfl ?_
  intro p e s m args below meth c1 A Q H locs hx hb hml hown hts hK hN hZ hP hD hA hS hend ls hl
  have hown : s.vm.findClass RX8 = some m.cls := hown
  have hi_8 : ∀ w ∈ wsX80, w ∈ wsX8_passNow := (fun w h => List.mem_cons_of_mem _ (List.mem_append_right _ (h)))
  unfold f_X8_passNow at hm
  refine lv_aload_n hx hb dX8_passNow_0 rfl (lv_at hl 0 rfl) ?_
  refine va_get (D := G) (ci := 8) (v := .ref (ax 2)) (C := RX8) (T := TX8) (N := 22) hx hb hts hi_8 hown hK hP 0 rfl rfl 8 (by decide) (hts (.fieldLink RX8 17 "HubTrainsModel" "data" "[I") (List.mem_of_getElem? (i := 1) rfl)) (fun _ h9 => h9) rfl dX8_passNow_1 ?_
  refine lv_aload_n hx hb dX8_passNow_4 rfl (lv_at hl 0 rfl) ?_
  refine va_get (D := G) (ci := 8) (v := .ref (ax 2)) (C := RX8) (T := TX8) (N := 22) hx hb hts hi_8 hown hK hP 0 rfl rfl 8 (by decide) (hts (.fieldLink RX8 17 "HubTrainsModel" "data" "[I") (List.mem_of_getElem? (i := 1) rfl)) (fun _ h9 => h9) rfl dX8_passNow_5 ?_
  refine lv_iconst (v := 4) hx hb dX8_passNow_8 (by decide) ?_
  obtain ⟨h_9, hm⟩ := gd_s hm
  refine va_iald (D := G) hx hb hK hP 2 0 rfl rfl (inb_s h_9) dX8_passNow_9 ?_
  obtain ⟨r10, e_10, hm⟩ := bd1_s hm
  refine zcSi (As := [.int ((x.1.2 1) (4 : Int32).toNatClampNeg)]) (rest := [.ref (ax 2)]) ⟨hx, hb, hml, hown, hts⟩ (k_X8_trainAt l G K c ((x.1.2 1) (4 : Int32).toNatClampNeg) r10 e_10) (va_cwS 1 hts gX8_passNow_X8_trainAt rfl rfl rfl hd_X8_trainAt.2 ⟨Nat.le_of_ble_eq_true rfl, Nat.le_of_ble_eq_true rfl⟩) hK hN hZ hP hD hS hA [] rfl (by decide) rfl rfl hl.1 rfl (Nat.le_of_ble_eq_true rfl) dX8_passNow_10 ⟨Nat.zero_le _, Nat.zero_le _⟩ (fun H locs hP hD hS => ?_)
  have hP : va_P G vwCl (wM c ax x) H := hP
  have hD : va_D A (wM c ax x) := hD
  refine lv_iconst (v := 2) hx hb dX8_passNow_13 (by decide) ?_
  refine lv_iadd hx hb dX8_passNow_14 ?_
  refine lv_iconst (v := 1) hx hb dX8_passNow_15 (by decide) ?_
  obtain ⟨h_16, hm⟩ := gd_s hm
  refine va_iast (D := G) hx hb hK hP hD hS 2 0 rfl rfl (inb_s h_16) dX8_passNow_16 (fun H locs hP hD hS => ?_)
  obtain ⟨w16, e_w16⟩ : ∃ z : Nat → Int32, z = upd (x.1.2 1) (r10 + 2).toNatClampNeg 1 := ⟨_, rfl⟩
  have hP : va_P G vwCl (wM c ax ((sa x.1 1 w16), x.2)) H := by rw [e_w16]; exact hP
  have hD : va_D A (wM c ax ((sa x.1 1 w16), x.2)) := by rw [e_w16]; exact hD
  have hm := nmd_s hm w16 e_w16
  refine lv_aload_n hx hb dX8_passNow_17 rfl (lv_at hl 0 rfl) ?_
  refine va_get (D := G) (ci := 8) (v := .ref (ax 2)) (C := RX8) (T := TX8) (N := 22) hx hb hts hi_8 hown hK hP 0 rfl rfl 8 (by decide) (hts (.fieldLink RX8 17 "HubTrainsModel" "data" "[I") (List.mem_of_getElem? (i := 1) rfl)) (fun _ h9 => h9) rfl dX8_passNow_18 ?_
  refine lv_bipush (v := 10) hx hb dX8_passNow_21 (by decide) ?_
  refine lv_dup2_11 hx hb dX8_passNow_23 rfl rfl ?_
  obtain ⟨h_24, hm⟩ := gd_s hm
  refine va_iald (D := G) hx hb hK hP 2 0 rfl rfl (inb_s h_24) dX8_passNow_24 ?_
  refine lv_iconst (v := 1) hx hb dX8_passNow_25 (by decide) ?_
  refine lv_iadd hx hb dX8_passNow_26 ?_
  obtain ⟨h_27, hm⟩ := gd_s hm
  refine va_iast (D := G) hx hb hK hP hD hS 2 0 rfl rfl (inb_s h_27) dX8_passNow_27 (fun H locs hP hD hS => ?_)
  obtain ⟨w27, e_w27⟩ : ∃ z : Nat → Int32, z = upd w16 (10 : Int32).toNatClampNeg ((w16 (10 : Int32).toNatClampNeg) + 1) := ⟨_, rfl⟩
  have hP : va_P G vwCl (wM c ax ((sa x.1 1 w27), x.2)) H := by rw [e_w27]; exact hP
  have hD : va_D A (wM c ax ((sa x.1 1 w27), x.2)) := by rw [e_w27]; exact hD
  have hm := nmd_s hm w27 e_w27
  refine lv_aload_n hx hb dX8_passNow_28 rfl (lv_at hl 0 rfl) ?_
  refine va_get (D := G) (ci := 8) (v := .ref (ax 2)) (C := RX8) (T := TX8) (N := 22) hx hb hts hi_8 hown hK hP 0 rfl rfl 8 (by decide) (hts (.fieldLink RX8 17 "HubTrainsModel" "data" "[I") (List.mem_of_getElem? (i := 1) rfl)) (fun _ h9 => h9) rfl dX8_passNow_29 ?_
  refine lv_bipush (v := 10) hx hb dX8_passNow_32 (by decide) ?_
  obtain ⟨h_34, hm⟩ := gd_s hm
  refine va_iald (D := G) hx hb hK hP 2 0 rfl rfl (inb_s h_34) dX8_passNow_34 ?_
  refine lv_aload_n hx hb dX8_passNow_35 rfl (lv_at hl 0 rfl) ?_
  refine va_get (D := G) (ci := 8) (v := .ref (ax 2)) (C := RX8) (T := TX8) (N := 22) hx hb hts hi_8 hown hK hP 0 rfl rfl 8 (by decide) (hts (.fieldLink RX8 17 "HubTrainsModel" "data" "[I") (List.mem_of_getElem? (i := 1) rfl)) (fun _ h9 => h9) rfl dX8_passNow_36 ?_
  refine lv_iconst (v := 1) hx hb dX8_passNow_39 (by decide) ?_
  obtain ⟨h_40, hm⟩ := gd_s hm
  refine va_iald (D := G) hx hb hK hP 2 0 rfl rfl (inb_s h_40) dX8_passNow_40 ?_
  refine lv_icmp_ne (tgt := 51) hx hb dX8_passNow_41 (by decide) (fun c_41 => ?_) (fun c_41 => ?_)
  · have hm := ifn c_41 hm
    refine lv_aload_n hx hb dX8_passNow_51 rfl (lv_at hl 0 rfl) ?_
    obtain ⟨x52, e_52, hm⟩ := bd1_s hm
    refine zcWv (As := []) (rest := []) ⟨hx, hb, hml, hown, hts⟩ (k_X8_nextTurn l G K c ax ((sa x.1 1 w27), x.2) x52 e_52) (cwV 0 hts gX8_passNow_X8_nextTurn rfl rfl rfl hd_X8_nextTurn ⟨Nat.le_of_ble_eq_true rfl, Nat.le_of_ble_eq_true rfl⟩) hK hN hZ hP hD hS hA (va_recv hK hP (ci := 8) (q0 := 0) rfl rfl) rfl hl.1 rfl (Nat.le_of_ble_eq_true rfl) dX8_passNow_52 ⟨Nat.zero_le _, Nat.zero_le _⟩ (fun H locs hP hD hS => ?_)
    have hP : va_P G vwCl (wM c ax x52) H := hP
    have hD : va_D A (wM c ax x52) := hD
    exact hend H locs ls _ _ (zc1 (fun (z0 : MS) => (wM c ax z0 : va_W)) (Option.some.inj hm)) hP hD hS dX8_passNow_55
  · have hm := ifp c_41 hm
    refine lv_aload_n hx hb dX8_passNow_44 rfl (lv_at hl 0 rfl) ?_
    obtain ⟨x45, e_45, hm⟩ := bd1_s hm
    refine zcWv (As := []) (rest := []) ⟨hx, hb, hml, hown, hts⟩ (k_X8_endRound l G K c ax ((sa x.1 1 w27), x.2) x45 e_45) (cwV 0 hts gX8_passNow_X8_endRound rfl rfl rfl hd_X8_endRound ⟨Nat.le_of_ble_eq_true rfl, Nat.le_of_ble_eq_true rfl⟩) hK hN hZ hP hD hS hA (va_recv hK hP (ci := 8) (q0 := 0) rfl rfl) rfl hl.1 rfl (Nat.le_of_ble_eq_true rfl) dX8_passNow_45 ⟨Nat.zero_le _, Nat.zero_le _⟩ (fun H locs hP hD hS => ?_)
    have hP : va_P G vwCl (wM c ax x45) H := hP
    have hD : va_D A (wM c ax x45) := hD
    refine lv_goto (tgt := 55) hx hb dX8_passNow_48 (by decide) ?_
    exact hend H locs ls _ _ (zc1 (fun (z0 : MS) => (wM c ax z0 : va_W)) (Option.some.inj hm)) hP hD hS dX8_passNow_55


def f_X8_stepByRank (x : MS) : Option MS :=
  bd2 (f_X8_bestPlay x) fun (r1 : Int32) (x1 : MS) => if r1 = (-1) then (bd1 (f_X8_mayDraw x1) fun (r26 : Int32) => if r26 = 0 then (bd1 (f_X8_passNow x1) fun (x41 : MS) => some (x41)) else (bd2 (f_X8_drawNow x1) fun (r33 : Int32) (x33 : MS) => some (x33))) else (bd1 (f_X8_playNow x1 (r1 / 10) (r1 - r1 / 10 * 10)) fun (x19 : MS) => some (x19))

abbrev rm_X8_stepByRank : Room := { frames := 5, cells := 0, slots := 0, locals := 117 }
theorem hd_X8_stepByRank : yX8_stepByRank.cls = RX8 ∧ yX8_stepByRank.cls ≠ "java/lang/invoke/MethodHandle" ∧ yX8_stepByRank.cls ≠ "java/lang/invoke/VarHandle" ∧ (parseMethodDescriptor yX8_stepByRank.desc).map (fun d => d.parameters.length) = some 0 := by decide +kernel
set_option maxHeartbeats 4000000 in
set_option maxRecDepth 100000 in
theorem k_X8_stepByRank (l : Launch) (G : va_G) (K : (Nat → Nat) × (Nat → Nat)) (c : Nat → ClassId) (ax : Nat → Nat) (x : MS) (x_r : MS) (hm : f_X8_stepByRank x = some (x_r)) : zMv l yX8_stepByRank wsX8_stepByRank (rm_X8_stepByRank) G K (TY c) [.ref (ax 0)] (wM c ax x) (wM c ax x_r) := by
  refine zMv.of (cc := cX8_stepByRank) (maxL := 2) (lv := [(0, .ref (ax 0))]) (by decide) rfl (Nat.le_of_ble_eq_true rfl) rfl ?_
  intro p e s m args below meth c1 A Q H locs hx hb hml hown hts hK hN hZ hP hD hA hS hend ls hl
  have hown : s.vm.findClass RX8 = some m.cls := hown
  unfold f_X8_stepByRank at hm
  refine lv_aload_n hx hb dX8_stepByRank_0 rfl (lv_at hl 0 rfl) ?_
  obtain ⟨r1, x1, e_1, hm⟩ := bd2_s hm
  refine zcWi (As := []) (rest := []) ⟨hx, hb, hml, hown, hts⟩ (k_X8_bestPlay l G K c ax x r1 x1 e_1) (cwV 0 hts gX8_stepByRank_X8_bestPlay rfl rfl rfl hd_X8_bestPlay ⟨Nat.le_of_ble_eq_true rfl, Nat.le_of_ble_eq_true rfl⟩) hK hN hZ hP hD hS hA (va_recv hK hP (ci := 8) (q0 := 0) rfl rfl) rfl hl.1 rfl (Nat.le_of_ble_eq_true rfl) dX8_stepByRank_1 ⟨Nat.zero_le _, Nat.zero_le _⟩ (fun H locs hP hD hS => ?_)
  have hP : va_P G vwCl (wM c ax x1) H := hP
  have hD : va_D A (wM c ax x1) := hD
  refine lv_istore_n (lv' := [(1, .int r1), (0, .ref (ax 0))]) hx hb dX8_stepByRank_4 rfl hl (by decide) rfl (fun ls hl => ?_)
  refine lv_iload_n hx hb dX8_stepByRank_5 rfl (lv_at hl 0 rfl) ?_
  refine lv_iconst (v := (-1)) hx hb dX8_stepByRank_6 (by decide) ?_
  refine lv_icmp_eq (tgt := 25) hx hb dX8_stepByRank_7 (by decide) (fun c_7 => ?_) (fun c_7 => ?_)
  · have hm := ifp c_7 hm
    refine lv_aload_n hx hb dX8_stepByRank_25 rfl (lv_at hl 1 rfl) ?_
    obtain ⟨r26, e_26, hm⟩ := bd1_s hm
    refine zcWi (As := []) (rest := []) ⟨hx, hb, hml, hown, hts⟩ (k_X8_mayDraw l G K c ax x1 r26 e_26) (cwV 0 hts gX8_stepByRank_X8_mayDraw rfl rfl rfl hd_X8_mayDraw ⟨Nat.le_of_ble_eq_true rfl, Nat.le_of_ble_eq_true rfl⟩) hK hN hZ hP hD hS hA (va_recv hK hP (ci := 8) (q0 := 0) rfl rfl) rfl hl.1 rfl (Nat.le_of_ble_eq_true rfl) dX8_stepByRank_26 ⟨Nat.zero_le _, Nat.zero_le _⟩ (fun H locs hP hD hS => ?_)
    have hP : va_P G vwCl (wM c ax x1) H := hP
    have hD : va_D A (wM c ax x1) := hD
    refine lv_if_eq (tgt := 40) hx hb dX8_stepByRank_29 (by decide) (fun c_29 => ?_) (fun c_29 => ?_)
    · have hm := ifp c_29 hm
      refine lv_aload_n hx hb dX8_stepByRank_40 rfl (lv_at hl 1 rfl) ?_
      obtain ⟨x41, e_41, hm⟩ := bd1_s hm
      refine zcWv (As := []) (rest := []) ⟨hx, hb, hml, hown, hts⟩ (k_X8_passNow l G K c ax x1 x41 e_41) (cwV 0 hts gX8_stepByRank_X8_passNow rfl rfl rfl hd_X8_passNow ⟨Nat.le_of_ble_eq_true rfl, Nat.le_of_ble_eq_true rfl⟩) hK hN hZ hP hD hS hA (va_recv hK hP (ci := 8) (q0 := 0) rfl rfl) rfl hl.1 rfl (Nat.le_of_ble_eq_true rfl) dX8_stepByRank_41 ⟨Nat.zero_le _, Nat.zero_le _⟩ (fun H locs hP hD hS => ?_)
      have hP : va_P G vwCl (wM c ax x41) H := hP
      have hD : va_D A (wM c ax x41) := hD
      exact hend H locs ls _ _ (zc1 (fun (z0 : MS) => (wM c ax z0 : va_W)) (Option.some.inj hm)) hP hD hS dX8_stepByRank_44
    · have hm := ifn c_29 hm
      refine lv_aload_n hx hb dX8_stepByRank_32 rfl (lv_at hl 1 rfl) ?_
      obtain ⟨r33, x33, e_33, hm⟩ := bd2_s hm
      refine zcWi (As := []) (rest := []) ⟨hx, hb, hml, hown, hts⟩ (k_X8_drawNow l G K c ax x1 r33 x33 e_33) (cwV 0 hts gX8_stepByRank_X8_drawNow rfl rfl rfl hd_X8_drawNow ⟨Nat.le_of_ble_eq_true rfl, Nat.le_of_ble_eq_true rfl⟩) hK hN hZ hP hD hS hA (va_recv hK hP (ci := 8) (q0 := 0) rfl rfl) rfl hl.1 rfl (Nat.le_of_ble_eq_true rfl) dX8_stepByRank_33 ⟨Nat.zero_le _, Nat.zero_le _⟩ (fun H locs hP hD hS => ?_)
      have hP : va_P G vwCl (wM c ax x33) H := hP
      have hD : va_D A (wM c ax x33) := hD
      refine lv_pop hx hb dX8_stepByRank_36 rfl ?_
      refine lv_goto (tgt := 44) hx hb dX8_stepByRank_37 (by decide) ?_
      exact hend H locs ls _ _ (zc1 (fun (z0 : MS) => (wM c ax z0 : va_W)) (Option.some.inj hm)) hP hD hS dX8_stepByRank_44
  · have hm := ifn c_7 hm
    refine lv_aload_n hx hb dX8_stepByRank_10 rfl (lv_at hl 1 rfl) ?_
    refine lv_iload_n hx hb dX8_stepByRank_11 rfl (lv_at hl 0 rfl) ?_
    refine lv_bipush (v := 10) hx hb dX8_stepByRank_12 (by decide) ?_
    refine lv_idiv hx hb dX8_stepByRank_14 (by decide) ?_
    refine lv_iload_n hx hb dX8_stepByRank_15 rfl (lv_at hl 0 rfl) ?_
    refine lv_bipush (v := 10) hx hb dX8_stepByRank_16 (by decide) ?_
    refine lv_irem hx hb dX8_stepByRank_18 (by decide) ?_
    obtain ⟨x19, e_19, hm⟩ := bd1_s hm
    refine zcWv (As := [.int (r1 / 10), .int (r1 - r1 / 10 * 10)]) (rest := []) ⟨hx, hb, hml, hown, hts⟩ (k_X8_playNow l G K c ax x1 (r1 / 10) (r1 - r1 / 10 * 10) x19 e_19) (cwV 2 hts gX8_stepByRank_X8_playNow rfl rfl rfl hd_X8_playNow ⟨Nat.le_of_ble_eq_true rfl, Nat.le_of_ble_eq_true rfl⟩) hK hN hZ hP hD hS hA (va_recv hK hP (ci := 8) (q0 := 0) rfl rfl) rfl hl.1 rfl (Nat.le_of_ble_eq_true rfl) dX8_stepByRank_19 ⟨Nat.zero_le _, Nat.zero_le _⟩ (fun H locs hP hD hS => ?_)
    have hP : va_P G vwCl (wM c ax x19) H := hP
    have hD : va_D A (wM c ax x19) := hD
    refine lv_goto (tgt := 44) hx hb dX8_stepByRank_22 (by decide) ?_
    exact hend H locs ls _ _ (zc1 (fun (z0 : MS) => (wM c ax z0 : va_W)) (Option.some.inj hm)) hP hD hS dX8_stepByRank_44

def f_X8_goOn_B2 (p0 : Int32) (rec_2 : Int32 → MS → Option (Int32 × MS)) (v2_2 : Int32) (x_2 : MS) : Option (Int32 × MS) :=
  if p0 ≤ v2_2 then (some (v2_2, x_2)) else (gd (inb 8 1464) <| if ((x_2.1.2 1) (8 : Int32).toNatClampNeg) = 0 then (bd1 (f_X8_stepByRank x_2) fun (x18 : MS) => rec_2 (v2_2 + 1) x18) else (some (v2_2, x_2)))

def f_X8_goOn (x : MS) (p0 : Int32) : Option (Int32 × MS) :=
  itr2 (f_X8_goOn_B2 p0) FUEL 0 x

abbrev rm_X8_goOn : Room := { frames := 6, cells := 0, slots := 0, locals := 138 }
theorem hd_X8_goOn : yX8_goOn.cls = RX8 ∧ yX8_goOn.cls ≠ "java/lang/invoke/MethodHandle" ∧ yX8_goOn.cls ≠ "java/lang/invoke/VarHandle" ∧ (parseMethodDescriptor yX8_goOn.desc).map (fun d => d.parameters.length) = some 1 := by decide +kernel
set_option maxHeartbeats 4000000 in
set_option maxRecDepth 100000 in
theorem k_X8_goOn (l : Launch) (G : va_G) (K : (Nat → Nat) × (Nat → Nat)) (c : Nat → ClassId) (ax : Nat → Nat) (x : MS) (p0 : Int32) (r : Int32) (x_r : MS) (hm : f_X8_goOn x p0 = some (r, x_r)) : zMi l yX8_goOn wsX8_goOn (rm_X8_goOn) G K (TY c) [.ref (ax 0), .int p0] (wM c ax x) (wM c ax x_r) r := by
  refine zMi.of (cc := cX8_goOn) (maxL := 3) (lv := [(0, .ref (ax 0)), (1, .int p0)]) (by decide) rfl (Nat.le_of_ble_eq_true rfl) rfl ?_
  intro p e s m args below meth c1 A Q H locs hx hb hml hown hts hK hN hZ hP hD hA hS hend ls hl
  have hown : s.vm.findClass RX8 = some m.cls := hown
  have hi_8 : ∀ w ∈ wsX80, w ∈ wsX8_goOn := (fun w h => List.mem_cons_of_mem _ (List.mem_append_right _ (h)))
  unfold f_X8_goOn at hm
  refine lv_iconst (v := 0) hx hb dX8_goOn_0 (by decide) ?_
  refine lv_istore_n (lv' := [(2, .int 0), (0, .ref (ax 0)), (1, .int p0)]) hx hb dX8_goOn_1 rfl hl (by decide) rfl (fun ls hl => ?_)
  have L_2 : ∀ (n_2 : Nat) (v2_2 : Int32) (x_2 : MS) (H : Heap) (locs : List Loc) (ls : Array Slot), va_P G vwCl (wM c ax x_2) H → va_D A (wM c ax x_2) → va_S A s.heap H locs → lv_has ls 3 [(0, .ref (ax 0)), (1, .int p0), (2, .int v2_2)] → itr2 (f_X8_goOn_B2 p0) n_2 v2_2 x_2 = some (r, x_r) → W p l e (rm_X8_goOn) s m args below meth c1 H locs 0 0 Q (F0 m 2 ls []) := by
    intro n_2
    induction n_2 with
    | zero => intro v2_2 x_2 H locs ls hP hD hS hl hm; exact (itr2_0 hm).elim
    | succ n_2 ih_2 =>
      intro v2_2 x_2 H locs ls hP hD hS hl hm
      have hm := itr2_s hm
      unfold f_X8_goOn_B2 at hm
      refine lv_iload_n hx hb dX8_goOn_2 rfl (lv_at hl 2 rfl) ?_
      refine lv_iload_n hx hb dX8_goOn_3 rfl (lv_at hl 1 rfl) ?_
      refine lv_icmp_ge (tgt := 27) hx hb dX8_goOn_4 (by decide) (fun c_4 => ?_) (fun c_4 => ?_)
      · have hm := ifp c_4 hm
        refine lv_iload_n hx hb dX8_goOn_27 rfl (lv_at hl 2 rfl) ?_
        exact hend H locs ls _ _ _ rfl (Prod.mk.inj (Option.some.inj hm)).1 (zc1 (fun (z0 : MS) => (wM c ax z0 : va_W)) (Prod.mk.inj (Option.some.inj hm)).2) hP hD hS dX8_goOn_28
      · have hm := ifn c_4 hm
        refine lv_aload_n hx hb dX8_goOn_7 rfl (lv_at hl 0 rfl) ?_
        refine va_get (D := G) (ci := 8) (v := .ref (ax 2)) (C := RX8) (T := TX8) (N := 22) hx hb hts hi_8 hown hK hP 0 rfl rfl 8 (by decide) (hts (.fieldLink RX8 17 "HubTrainsModel" "data" "[I") (List.mem_of_getElem? (i := 1) rfl)) (fun _ h9 => h9) rfl dX8_goOn_8 ?_
        refine lv_bipush (v := 8) hx hb dX8_goOn_11 (by decide) ?_
        obtain ⟨h_13, hm⟩ := gd_s hm
        refine va_iald (D := G) hx hb hK hP 2 0 rfl rfl (inb_s h_13) dX8_goOn_13 ?_
        refine lv_if_ne (tgt := 27) hx hb dX8_goOn_14 (by decide) (fun c_14 => ?_) (fun c_14 => ?_)
        · have hm := ifn c_14 hm
          refine lv_iload_n hx hb dX8_goOn_27 rfl (lv_at hl 2 rfl) ?_
          exact hend H locs ls _ _ _ rfl (Prod.mk.inj (Option.some.inj hm)).1 (zc1 (fun (z0 : MS) => (wM c ax z0 : va_W)) (Prod.mk.inj (Option.some.inj hm)).2) hP hD hS dX8_goOn_28
        · have hm := ifp c_14 hm
          refine lv_aload_n hx hb dX8_goOn_17 rfl (lv_at hl 0 rfl) ?_
          obtain ⟨x18, e_18, hm⟩ := bd1_s hm
          refine zcWv (As := []) (rest := []) ⟨hx, hb, hml, hown, hts⟩ (k_X8_stepByRank l G K c ax x_2 x18 e_18) (cwV 0 hts gX8_goOn_X8_stepByRank rfl rfl rfl hd_X8_stepByRank ⟨Nat.le_of_ble_eq_true rfl, Nat.le_of_ble_eq_true rfl⟩) hK hN hZ hP hD hS hA (va_recv hK hP (ci := 8) (q0 := 0) rfl rfl) rfl hl.1 rfl (Nat.le_of_ble_eq_true rfl) dX8_goOn_18 ⟨Nat.zero_le _, Nat.zero_le _⟩ (fun H locs hP hD hS => ?_)
          have hP : va_P G vwCl (wM c ax x18) H := hP
          have hD : va_D A (wM c ax x18) := hD
          refine lv_iinc (k := 2) (v := (v2_2 + 1)) (lv' := [(2, .int (v2_2 + 1)), (0, .ref (ax 0)), (1, .int p0)]) hx hb dX8_goOn_21 hl rfl rfl (by decide) rfl (fun ls hl => ?_)
          refine lv_goto (tgt := 2) hx hb dX8_goOn_24 (by decide) ?_
          exact ih_2 (v2_2 + 1) x18 H locs ls hP hD hS (lv_sub hl [1, 2, 0] rfl) hm
  exact L_2 FUEL 0 x H locs ls hP hD hS (lv_sub hl [1, 2, 0] rfl) hm
