def f_X8_remember_J53 (x_53 : MS) : Option MS :=
  gd (inb (x_53.1.1 7) 8) <| bd1 (f_X8_copy 1464 1464 (x_53.1.2 1) (x_53.1.2 (10 + (x_53.1.1 7).toNatClampNeg)) 1464) fun (h69 : Nat → Int32) => nmd (((sa x_53.1 (10 + (x_53.1.1 7).toNatClampNeg) h69), x_53.2)) fun (x_69 : MS) => some (((ss x_69.1 7 ((x_69.1.1 7) + 1)), x_69.2))

def f_X8_remember_B11  (rec_11 : Int32 → MS → Option MS) (v1_11 : Int32) (x_11 : MS) : Option MS :=
  if (8 : Int32) ≤ v1_11 then (f_X8_remember_J53 ((ss x_11.1 7 ((x_11.1.1 7) - 1)), x_11.2)) else (gd (inb v1_11 8) <| gd (inb (v1_11 - 1) 8) <| gd (decide (¬ 10 + v1_11.toNatClampNeg = 10 + (v1_11 - 1).toNatClampNeg)) <| bd1 (f_X8_copy 1464 1464 (x_11.1.2 (10 + v1_11.toNatClampNeg)) (x_11.1.2 (10 + (v1_11 - 1).toNatClampNeg)) 1464) fun (h34 : Nat → Int32) => nmd (((sa x_11.1 (10 + (v1_11 - 1).toNatClampNeg) h34), x_11.2)) fun (x_34 : MS) => rec_11 (v1_11 + 1) x_34)

def f_X8_remember (x : MS) : Option MS :=
  if (x.1.1 7) = 8 then (itr2 f_X8_remember_B11 FUEL 1 x) else (f_X8_remember_J53 x)

abbrev rm_X8_remember : Room := { frames := 1, cells := 0, slots := 0, locals := 23 }
theorem hd_X8_remember : yX8_remember.cls = RX8 ∧ yX8_remember.cls ≠ "java/lang/invoke/MethodHandle" ∧ yX8_remember.cls ≠ "java/lang/invoke/VarHandle" ∧ (parseMethodDescriptor yX8_remember.desc).map (fun d => d.parameters.length) = some 0 := by decide +kernel
set_option maxHeartbeats 4000000 in
set_option maxRecDepth 100000 in
theorem k_X8_remember (l : Launch) (G : va_G) (K : (Nat → Nat) × (Nat → Nat)) (c : Nat → ClassId) (ax : Nat → Nat) (x : MS) (x_r : MS) (hm : f_X8_remember x = some (x_r)) : zMv l yX8_remember wsX8_remember (rm_X8_remember) G K (TY c) [.ref (ax 0)] (wM c ax x) (wM c ax x_r) := by
  refine zMv.of (cc := cX8_remember) (maxL := 2) (lv := [(0, .ref (ax 0))]) (by decide) rfl (Nat.le_of_ble_eq_true rfl) rfl ?_
  intro p e s m args below meth c1 A Q H locs hx hb hml hown hts hK hN hZ hP hD hA hS hend ls hl
  have hown : s.vm.findClass RX8 = some m.cls := hown
  have hi_8 : ∀ w ∈ wsX80, w ∈ wsX8_remember := (fun w h => List.mem_cons_of_mem _ (List.mem_append_right _ (h)))
  unfold f_X8_remember at hm
  refine lv_aload_n hx hb dX8_remember_0 rfl (lv_at hl 0 rfl) ?_
  refine va_get (D := G) (ci := 8) (v := .int (x.1.1 7)) (C := RX8) (T := TX8) (N := 22) hx hb hts hi_8 hown hK hP 0 rfl rfl 12 (by decide) (hts (.fieldLink RX8 323 "HubTrainsModel" "undoDepth" "I") (List.mem_of_getElem? (i := 1) rfl)) (fun _ h9 => h9) rfl dX8_remember_1 ?_
  refine lv_bipush (v := 8) hx hb dX8_remember_4 (by decide) ?_
  have J_53 : ∀ (x_53 : MS) (H : Heap) (locs : List Loc) (ls : Array Slot), va_P G vwCl (wM c ax x_53) H → va_D A (wM c ax x_53) → va_S A s.heap H locs → lv_has ls 2 [(0, .ref (ax 0))] → f_X8_remember_J53 x_53 = some (x_r) → W p l e (rm_X8_remember) s m args below meth c1 H locs 0 0 Q (F0 m 53 ls []) := by
    intro x_53 H locs ls hP hD hS hl hm
    unfold f_X8_remember_J53 at hm
    refine lv_aload_n hx hb dX8_remember_53 rfl (lv_at hl 0 rfl) ?_
    refine va_get (D := G) (ci := 8) (v := .ref (ax 2)) (C := RX8) (T := TX8) (N := 22) hx hb hts hi_8 hown hK hP 0 rfl rfl 8 (by decide) (hts (.fieldLink RX8 17 "HubTrainsModel" "data" "[I") (List.mem_of_getElem? (i := 3) rfl)) (fun _ h9 => h9) rfl dX8_remember_54 ?_
    refine lv_aload_n hx hb dX8_remember_57 rfl (lv_at hl 0 rfl) ?_
    refine va_get (D := G) (ci := 8) (v := .ref (ax 5)) (C := RX8) (T := TX8) (N := 22) hx hb hts hi_8 hown hK hP 0 rfl rfl 11 (by decide) (hts (.fieldLink RX8 28 "HubTrainsModel" "history" "[[I") (List.mem_of_getElem? (i := 2) rfl)) (fun _ h9 => h9) rfl dX8_remember_58 ?_
    refine lv_aload_n hx hb dX8_remember_61 rfl (lv_at hl 0 rfl) ?_
    refine va_get (D := G) (ci := 8) (v := .int (x_53.1.1 7)) (C := RX8) (T := TX8) (N := 22) hx hb hts hi_8 hown hK hP 0 rfl rfl 12 (by decide) (hts (.fieldLink RX8 323 "HubTrainsModel" "undoDepth" "I") (List.mem_of_getElem? (i := 1) rfl)) (fun _ h9 => h9) rfl dX8_remember_62 ?_
    obtain ⟨h_65, hm⟩ := gd_s hm
    refine za_hist hx hb hK hP (inb_s h_65) dX8_remember_65 ?_
    refine lv_sipush (v := 1464) hx hb dX8_remember_66 (by decide) ?_
    obtain ⟨h69, e_69, hm⟩ := bd1_s hm
    refine zcSv (As := [.ref (ax 2), .ref (ax (10 + (x_53.1.1 7).toNatClampNeg)), .int 1464]) (rest := []) ⟨hx, hb, hml, hown, hts⟩ (k_X8_copy l G K c (ax 2) (ax (10 + (x_53.1.1 7).toNatClampNeg)) 1464 1464 (x_53.1.2 1) (x_53.1.2 (10 + (x_53.1.1 7).toNatClampNeg)) 1464 h69 e_69) (va_cwS 3 hts gX8_remember_X8_copy rfl rfl rfl hd_X8_copy.2 ⟨Nat.le_of_ble_eq_true rfl, Nat.le_of_ble_eq_true rfl⟩) hK hN hZ hP hD hS hA [2, 10 + (x_53.1.1 7).toNatClampNeg] (zmap2 rfl (wM_get (inb_lt h_65))) (znd2 (by omega)) rfl rfl hl.1 rfl (Nat.le_of_ble_eq_true rfl) dX8_remember_69 ⟨Nat.zero_le _, Nat.zero_le _⟩ (fun H locs hP hD hS => ?_)
    obtain ⟨x_69, e_x_69⟩ : ∃ z : MS, z = ((sa x_53.1 (10 + (x_53.1.1 7).toNatClampNeg) h69), x_53.2) := ⟨_, rfl⟩
    have hP : va_P G vwCl (wM c ax x_69) H := by rw [e_x_69]; exact (congrArg (fun w => va_P G vwCl w H) (zset_sd (inb_lt h_65))).mp hP
    have hD : va_D A (wM c ax x_69) := by rw [e_x_69]; exact (congrArg (fun w => va_D A w) (zset_sd (inb_lt h_65))).mp hD
    have hm := nmd_s hm x_69 e_x_69
    refine lv_aload_n hx hb dX8_remember_72 rfl (lv_at hl 0 rfl) ?_
    refine lv_dup hx hb dX8_remember_73 rfl ?_
    refine va_get (D := G) (ci := 8) (v := .int (x_69.1.1 7)) (C := RX8) (T := TX8) (N := 22) hx hb hts hi_8 hown hK hP 0 rfl rfl 12 (by decide) (hts (.fieldLink RX8 323 "HubTrainsModel" "undoDepth" "I") (List.mem_of_getElem? (i := 1) rfl)) (fun _ h9 => h9) rfl dX8_remember_74 ?_
    refine lv_iconst (v := 1) hx hb dX8_remember_77 (by decide) ?_
    refine lv_iadd hx hb dX8_remember_78 ?_
    refine va_put (D := G) (ci := 8) (v := .int ((x_69.1.1 7) + 1)) (C := RX8) (T := TX8) (N := 22) hx hb hts hi_8 tyX8 tyX8_ok nmX8 hown hK hP hD hS 0 rfl rfl 12 (by decide) (hts (.fieldLink RX8 323 "HubTrainsModel" "undoDepth" "I") (List.mem_of_getElem? (i := 1) rfl)) (fun _ h9 => h9) rfl (tyX8_ok 12 (by decide)) rfl rfl (Nat.le_of_ble_eq_true rfl) dX8_remember_79 (fun H locs hP hD hS => ?_)
    have hP : va_P G vwCl (wM c ax ((ss x_69.1 7 ((x_69.1.1 7) + 1)), x_69.2)) H := hP
    have hD : va_D A (wM c ax ((ss x_69.1 7 ((x_69.1.1 7) + 1)), x_69.2)) := hD
    exact hend H locs ls _ _ (zc1 (fun (z0 : MS) => (wM c ax z0 : va_W)) (Option.some.inj hm)) hP hD hS dX8_remember_82
  refine lv_icmp_ne (tgt := 53) hx hb dX8_remember_6 (by decide) (fun c_6 => ?_) (fun c_6 => ?_)
  · have hm := ifn c_6 hm
    exact J_53 x H locs ls hP hD hS (lv_sub hl [0] rfl) hm
  · have hm := ifp c_6 hm
    refine lv_iconst (v := 1) hx hb dX8_remember_9 (by decide) ?_
    refine lv_istore_n (lv' := [(1, .int 1), (0, .ref (ax 0))]) hx hb dX8_remember_10 rfl hl (by decide) rfl (fun ls hl => ?_)
    have L_11 : ∀ (n_11 : Nat) (v1_11 : Int32) (x_11 : MS) (H : Heap) (locs : List Loc) (ls : Array Slot), va_P G vwCl (wM c ax x_11) H → va_D A (wM c ax x_11) → va_S A s.heap H locs → lv_has ls 2 [(0, .ref (ax 0)), (1, .int v1_11)] → itr2 f_X8_remember_B11 n_11 v1_11 x_11 = some (x_r) → W p l e (rm_X8_remember) s m args below meth c1 H locs 0 0 Q (F0 m 11 ls []) := by
      intro n_11
      induction n_11 with
      | zero => intro v1_11 x_11 H locs ls hP hD hS hl hm; exact (itr2_0 hm).elim
      | succ n_11 ih_11 =>
        intro v1_11 x_11 H locs ls hP hD hS hl hm
        have hm := itr2_s hm
        unfold f_X8_remember_B11 at hm
        refine lv_iload_n hx hb dX8_remember_11 rfl (lv_at hl 1 rfl) ?_
        refine lv_bipush (v := 8) hx hb dX8_remember_12 (by decide) ?_
        refine lv_icmp_ge (tgt := 43) hx hb dX8_remember_14 (by decide) (fun c_14 => ?_) (fun c_14 => ?_)
        · have hm := ifp c_14 hm
          refine lv_aload_n hx hb dX8_remember_43 rfl (lv_at hl 0 rfl) ?_
          refine lv_dup hx hb dX8_remember_44 rfl ?_
          refine va_get (D := G) (ci := 8) (v := .int (x_11.1.1 7)) (C := RX8) (T := TX8) (N := 22) hx hb hts hi_8 hown hK hP 0 rfl rfl 12 (by decide) (hts (.fieldLink RX8 323 "HubTrainsModel" "undoDepth" "I") (List.mem_of_getElem? (i := 1) rfl)) (fun _ h9 => h9) rfl dX8_remember_45 ?_
          refine lv_iconst (v := 1) hx hb dX8_remember_48 (by decide) ?_
          refine lv_isub hx hb dX8_remember_49 ?_
          refine va_put (D := G) (ci := 8) (v := .int ((x_11.1.1 7) - 1)) (C := RX8) (T := TX8) (N := 22) hx hb hts hi_8 tyX8 tyX8_ok nmX8 hown hK hP hD hS 0 rfl rfl 12 (by decide) (hts (.fieldLink RX8 323 "HubTrainsModel" "undoDepth" "I") (List.mem_of_getElem? (i := 1) rfl)) (fun _ h9 => h9) rfl (tyX8_ok 12 (by decide)) rfl rfl (Nat.le_of_ble_eq_true rfl) dX8_remember_50 (fun H locs hP hD hS => ?_)
          have hP : va_P G vwCl (wM c ax ((ss x_11.1 7 ((x_11.1.1 7) - 1)), x_11.2)) H := hP
          have hD : va_D A (wM c ax ((ss x_11.1 7 ((x_11.1.1 7) - 1)), x_11.2)) := hD
          exact J_53 ((ss x_11.1 7 ((x_11.1.1 7) - 1)), x_11.2) H locs ls hP hD hS (lv_sub hl [0] rfl) hm
        · have hm := ifn c_14 hm
          refine lv_aload_n hx hb dX8_remember_17 rfl (lv_at hl 0 rfl) ?_
          refine va_get (D := G) (ci := 8) (v := .ref (ax 5)) (C := RX8) (T := TX8) (N := 22) hx hb hts hi_8 hown hK hP 0 rfl rfl 11 (by decide) (hts (.fieldLink RX8 28 "HubTrainsModel" "history" "[[I") (List.mem_of_getElem? (i := 2) rfl)) (fun _ h9 => h9) rfl dX8_remember_18 ?_
          refine lv_iload_n hx hb dX8_remember_21 rfl (lv_at hl 1 rfl) ?_
          obtain ⟨h_22, hm⟩ := gd_s hm
          refine za_hist hx hb hK hP (inb_s h_22) dX8_remember_22 ?_
          refine lv_aload_n hx hb dX8_remember_23 rfl (lv_at hl 0 rfl) ?_
          refine va_get (D := G) (ci := 8) (v := .ref (ax 5)) (C := RX8) (T := TX8) (N := 22) hx hb hts hi_8 hown hK hP 0 rfl rfl 11 (by decide) (hts (.fieldLink RX8 28 "HubTrainsModel" "history" "[[I") (List.mem_of_getElem? (i := 2) rfl)) (fun _ h9 => h9) rfl dX8_remember_24 ?_
          refine lv_iload_n hx hb dX8_remember_27 rfl (lv_at hl 1 rfl) ?_
          refine lv_iconst (v := 1) hx hb dX8_remember_28 (by decide) ?_
          refine lv_isub hx hb dX8_remember_29 ?_
          obtain ⟨h_30, hm⟩ := gd_s hm
          refine za_hist hx hb hK hP (inb_s h_30) dX8_remember_30 ?_
          refine lv_sipush (v := 1464) hx hb dX8_remember_31 (by decide) ?_
          obtain ⟨hne_34, hm⟩ := gd_s hm
          obtain ⟨h34, e_34, hm⟩ := bd1_s hm
          refine zcSv (As := [.ref (ax (10 + v1_11.toNatClampNeg)), .ref (ax (10 + (v1_11 - 1).toNatClampNeg)), .int 1464]) (rest := []) ⟨hx, hb, hml, hown, hts⟩ (k_X8_copy l G K c (ax (10 + v1_11.toNatClampNeg)) (ax (10 + (v1_11 - 1).toNatClampNeg)) 1464 1464 (x_11.1.2 (10 + v1_11.toNatClampNeg)) (x_11.1.2 (10 + (v1_11 - 1).toNatClampNeg)) 1464 h34 e_34) (va_cwS 3 hts gX8_remember_X8_copy rfl rfl rfl hd_X8_copy.2 ⟨Nat.le_of_ble_eq_true rfl, Nat.le_of_ble_eq_true rfl⟩) hK hN hZ hP hD hS hA [10 + v1_11.toNatClampNeg, 10 + (v1_11 - 1).toNatClampNeg] (zmap2 (wM_get (inb_lt h_22)) (wM_get (inb_lt h_30))) (znd2 (of_decide_eq_true hne_34)) rfl rfl hl.1 rfl (Nat.le_of_ble_eq_true rfl) dX8_remember_34 ⟨Nat.zero_le _, Nat.zero_le _⟩ (fun H locs hP hD hS => ?_)
          obtain ⟨x_34, e_x_34⟩ : ∃ z : MS, z = ((sa x_11.1 (10 + (v1_11 - 1).toNatClampNeg) h34), x_11.2) := ⟨_, rfl⟩
          have hP : va_P G vwCl (wM c ax x_34) H := by rw [e_x_34]; exact (congrArg (fun w => va_P G vwCl w H) (zset_dd (inb_lt h_22) (inb_lt h_30))).mp hP
          have hD : va_D A (wM c ax x_34) := by rw [e_x_34]; exact (congrArg (fun w => va_D A w) (zset_dd (inb_lt h_22) (inb_lt h_30))).mp hD
          have hm := nmd_s hm x_34 e_x_34
          refine lv_iinc (k := 1) (v := (v1_11 + 1)) (lv' := [(1, .int (v1_11 + 1)), (0, .ref (ax 0))]) hx hb dX8_remember_37 hl rfl rfl (by decide) rfl (fun ls hl => ?_)
          refine lv_goto (tgt := 11) hx hb dX8_remember_40 (by decide) ?_
          exact ih_11 (v1_11 + 1) x_34 H locs ls hP hD hS (lv_sub hl [1, 0] rfl) hm
    exact L_11 FUEL 1 x H locs ls hP hD hS (lv_sub hl [1, 0] rfl) hm


def f_X8_undo (x : MS) : Option (Int32 × MS) :=
  if (x.1.1 7) = 0 then (some ((-1), ((ss x.1 0 0), x.2))) else (gd (inb ((x.1.1 7) - 1) 8) <| bd1 (f_X8_copy 1464 1464 (((ss (ss x.1 0 0) 7 ((x.1.1 7) - 1)), x.2).1.2 (10 + ((x.1.1 7) - 1).toNatClampNeg)) (((ss (ss x.1 0 0) 7 ((x.1.1 7) - 1)), x.2).1.2 1) 1464) fun (h40 : Nat → Int32) => nmd (((sa ((ss (ss x.1 0 0) 7 ((x.1.1 7) - 1)), x.2).1 (1) h40), ((ss (ss x.1 0 0) 7 ((x.1.1 7) - 1)), x.2).2)) fun (x_40 : MS) => some ((x_40.1.1 7), x_40))

abbrev rm_X8_undo : Room := { frames := 1, cells := 0, slots := 0, locals := 23 }
theorem hd_X8_undo : yX8_undo.cls = RX8 ∧ yX8_undo.cls ≠ "java/lang/invoke/MethodHandle" ∧ yX8_undo.cls ≠ "java/lang/invoke/VarHandle" ∧ (parseMethodDescriptor yX8_undo.desc).map (fun d => d.parameters.length) = some 0 := by decide +kernel
set_option maxHeartbeats 4000000 in
set_option maxRecDepth 100000 in
theorem k_X8_undo (l : Launch) (G : va_G) (K : (Nat → Nat) × (Nat → Nat)) (c : Nat → ClassId) (ax : Nat → Nat) (x : MS) (r : Int32) (x_r : MS) (hm : f_X8_undo x = some (r, x_r)) : zMi l yX8_undo wsX8_undo (rm_X8_undo) G K (TY c) [.ref (ax 0)] (wM c ax x) (wM c ax x_r) r := by
  refine zMi.of (cc := cX8_undo) (maxL := 1) (lv := [(0, .ref (ax 0))]) (by decide) rfl (Nat.le_of_ble_eq_true rfl) rfl ?_
  intro p e s m args below meth c1 A Q H locs hx hb hml hown hts hK hN hZ hP hD hA hS hend ls hl
  have hown : s.vm.findClass RX8 = some m.cls := hown
  have hi_8 : ∀ w ∈ wsX80, w ∈ wsX8_undo := (fun w h => List.mem_cons_of_mem _ (List.mem_append_right _ (h)))
  unfold f_X8_undo at hm
  refine lv_aload_n hx hb dX8_undo_0 rfl (lv_at hl 0 rfl) ?_
  refine lv_iconst (v := 0) hx hb dX8_undo_1 (by decide) ?_
  refine va_put (D := G) (ci := 8) (v := .int 0) (C := RX8) (T := TX8) (N := 22) hx hb hts hi_8 tyX8 tyX8_ok nmX8 hown hK hP hD hS 0 rfl rfl 0 (by decide) (hts (.fieldLink RX8 53 "HubTrainsModel" "thrown" "I") (List.mem_of_getElem? (i := 1) rfl)) (fun _ h9 => h9) rfl (tyX8_ok 0 (by decide)) rfl rfl (Nat.le_of_ble_eq_true rfl) dX8_undo_2 (fun H locs hP hD hS => ?_)
  have hP : va_P G vwCl (wM c ax ((ss x.1 0 0), x.2)) H := hP
  have hD : va_D A (wM c ax ((ss x.1 0 0), x.2)) := hD
  refine lv_aload_n hx hb dX8_undo_5 rfl (lv_at hl 0 rfl) ?_
  refine va_get (D := G) (ci := 8) (v := .int (x.1.1 7)) (C := RX8) (T := TX8) (N := 22) hx hb hts hi_8 hown hK hP 0 rfl rfl 12 (by decide) (hts (.fieldLink RX8 323 "HubTrainsModel" "undoDepth" "I") (List.mem_of_getElem? (i := 2) rfl)) (fun _ h9 => h9) rfl dX8_undo_6 ?_
  refine lv_if_ne (tgt := 14) hx hb dX8_undo_9 (by decide) (fun c_9 => ?_) (fun c_9 => ?_)
  · have hm := ifn c_9 hm
    refine lv_aload_n hx hb dX8_undo_14 rfl (lv_at hl 0 rfl) ?_
    refine lv_dup hx hb dX8_undo_15 rfl ?_
    refine va_get (D := G) (ci := 8) (v := .int (x.1.1 7)) (C := RX8) (T := TX8) (N := 22) hx hb hts hi_8 hown hK hP 0 rfl rfl 12 (by decide) (hts (.fieldLink RX8 323 "HubTrainsModel" "undoDepth" "I") (List.mem_of_getElem? (i := 2) rfl)) (fun _ h9 => h9) rfl dX8_undo_16 ?_
    refine lv_iconst (v := 1) hx hb dX8_undo_19 (by decide) ?_
    refine lv_isub hx hb dX8_undo_20 ?_
    refine va_put (D := G) (ci := 8) (v := .int ((x.1.1 7) - 1)) (C := RX8) (T := TX8) (N := 22) hx hb hts hi_8 tyX8 tyX8_ok nmX8 hown hK hP hD hS 0 rfl rfl 12 (by decide) (hts (.fieldLink RX8 323 "HubTrainsModel" "undoDepth" "I") (List.mem_of_getElem? (i := 2) rfl)) (fun _ h9 => h9) rfl (tyX8_ok 12 (by decide)) rfl rfl (Nat.le_of_ble_eq_true rfl) dX8_undo_21 (fun H locs hP hD hS => ?_)
    have hP : va_P G vwCl (wM c ax ((ss (ss x.1 0 0) 7 ((x.1.1 7) - 1)), x.2)) H := hP
    have hD : va_D A (wM c ax ((ss (ss x.1 0 0) 7 ((x.1.1 7) - 1)), x.2)) := hD
    refine lv_aload_n hx hb dX8_undo_24 rfl (lv_at hl 0 rfl) ?_
    refine va_get (D := G) (ci := 8) (v := .ref (ax 5)) (C := RX8) (T := TX8) (N := 22) hx hb hts hi_8 hown hK hP 0 rfl rfl 11 (by decide) (hts (.fieldLink RX8 28 "HubTrainsModel" "history" "[[I") (List.mem_of_getElem? (i := 3) rfl)) (fun _ h9 => h9) rfl dX8_undo_25 ?_
    refine lv_aload_n hx hb dX8_undo_28 rfl (lv_at hl 0 rfl) ?_
    refine va_get (D := G) (ci := 8) (v := .int ((x.1.1 7) - 1)) (C := RX8) (T := TX8) (N := 22) hx hb hts hi_8 hown hK hP 0 rfl rfl 12 (by decide) (hts (.fieldLink RX8 323 "HubTrainsModel" "undoDepth" "I") (List.mem_of_getElem? (i := 2) rfl)) (fun _ h9 => h9) rfl dX8_undo_29 ?_
    obtain ⟨h_32, hm⟩ := gd_s hm
    refine za_hist hx hb hK hP (inb_s h_32) dX8_undo_32 ?_
    refine lv_aload_n hx hb dX8_undo_33 rfl (lv_at hl 0 rfl) ?_
    refine va_get (D := G) (ci := 8) (v := .ref (ax 2)) (C := RX8) (T := TX8) (N := 22) hx hb hts hi_8 hown hK hP 0 rfl rfl 8 (by decide) (hts (.fieldLink RX8 17 "HubTrainsModel" "data" "[I") (List.mem_of_getElem? (i := 4) rfl)) (fun _ h9 => h9) rfl dX8_undo_34 ?_
    refine lv_sipush (v := 1464) hx hb dX8_undo_37 (by decide) ?_
    obtain ⟨h40, e_40, hm⟩ := bd1_s hm
    refine zcSv (As := [.ref (ax (10 + ((x.1.1 7) - 1).toNatClampNeg)), .ref (ax 2), .int 1464]) (rest := []) ⟨hx, hb, hml, hown, hts⟩ (k_X8_copy l G K c (ax (10 + ((x.1.1 7) - 1).toNatClampNeg)) (ax 2) 1464 1464 (((ss (ss x.1 0 0) 7 ((x.1.1 7) - 1)), x.2).1.2 (10 + ((x.1.1 7) - 1).toNatClampNeg)) (((ss (ss x.1 0 0) 7 ((x.1.1 7) - 1)), x.2).1.2 1) 1464 h40 e_40) (va_cwS 3 hts gX8_undo_X8_copy rfl rfl rfl hd_X8_copy.2 ⟨Nat.le_of_ble_eq_true rfl, Nat.le_of_ble_eq_true rfl⟩) hK hN hZ hP hD hS hA [10 + ((x.1.1 7) - 1).toNatClampNeg, 2] (zmap2 (wM_get (inb_lt h_32)) rfl) (znd2 (by omega)) rfl rfl hl.1 rfl (Nat.le_of_ble_eq_true rfl) dX8_undo_40 ⟨Nat.zero_le _, Nat.zero_le _⟩ (fun H locs hP hD hS => ?_)
    obtain ⟨x_40, e_x_40⟩ : ∃ z : MS, z = ((sa ((ss (ss x.1 0 0) 7 ((x.1.1 7) - 1)), x.2).1 (1) h40), ((ss (ss x.1 0 0) 7 ((x.1.1 7) - 1)), x.2).2) := ⟨_, rfl⟩
    have hP : va_P G vwCl (wM c ax x_40) H := by rw [e_x_40]; exact (congrArg (fun w => va_P G vwCl w H) (zset_ds (inb_lt h_32))).mp hP
    have hD : va_D A (wM c ax x_40) := by rw [e_x_40]; exact (congrArg (fun w => va_D A w) (zset_ds (inb_lt h_32))).mp hD
    have hm := nmd_s hm x_40 e_x_40
    refine lv_aload_n hx hb dX8_undo_43 rfl (lv_at hl 0 rfl) ?_
    refine va_get (D := G) (ci := 8) (v := .int (x_40.1.1 7)) (C := RX8) (T := TX8) (N := 22) hx hb hts hi_8 hown hK hP 0 rfl rfl 12 (by decide) (hts (.fieldLink RX8 323 "HubTrainsModel" "undoDepth" "I") (List.mem_of_getElem? (i := 2) rfl)) (fun _ h9 => h9) rfl dX8_undo_44 ?_
    exact hend H locs ls _ _ _ rfl (Prod.mk.inj (Option.some.inj hm)).1 (zc1 (fun (z0 : MS) => (wM c ax z0 : va_W)) (Prod.mk.inj (Option.some.inj hm)).2) hP hD hS dX8_undo_47
  · have hm := ifp c_9 hm
    refine lv_iconst (v := (-1)) hx hb dX8_undo_12 (by decide) ?_
    exact hend H locs ls _ _ _ rfl (Prod.mk.inj (Option.some.inj hm)).1 (zc1 (fun (z0 : MS) => (wM c ax z0 : va_W)) (Prod.mk.inj (Option.some.inj hm)).2) hP hD hS dX8_undo_13

def f_X8_play_J29 (p0 : Int32) (p1 : Int32) (x8 : MS) (s0_29 : Int32) : Option (Int32 × MS) :=
  bd2 (f_X8_fails x8 s0_29 3) fun (r30 : Int32) (x30 : MS) => if r30 = 0 then (bd1 (f_X8_remember x30) fun (x39 : MS) => bd1 (f_X8_playNow x39 p0 p1) fun (x45 : MS) => bd1 (f_X8_ofTrain x45 p1 1) fun (r51 : Int32) => some (r51, x45)) else (some (0, x30))

def f_X8_play (x : MS) (p0 : Int32) (p1 : Int32) : Option (Int32 × MS) :=
  bd2 (f_X8_noTileOn ((ss x.1 0 0), x.2) p0 p1) fun (r8 : Int32) (x8 : MS) => if r8 = 0 then (bd1 (f_X8_refusal x8 p0 p1) fun (r18 : Int32) => if r18 = 0 then (f_X8_play_J29 p0 p1 x8 0) else (f_X8_play_J29 p0 p1 x8 1)) else (some (0, x8))

abbrev rm_X8_play : Room := { frames := 4, cells := 0, slots := 0, locals := 90 }
theorem hd_X8_play : yX8_play.cls = RX8 ∧ yX8_play.cls ≠ "java/lang/invoke/MethodHandle" ∧ yX8_play.cls ≠ "java/lang/invoke/VarHandle" ∧ (parseMethodDescriptor yX8_play.desc).map (fun d => d.parameters.length) = some 2 := by decide +kernel
set_option maxHeartbeats 4000000 in
set_option maxRecDepth 100000 in
theorem k_X8_play (l : Launch) (G : va_G) (K : (Nat → Nat) × (Nat → Nat)) (c : Nat → ClassId) (ax : Nat → Nat) (x : MS) (p0 : Int32) (p1 : Int32) (r : Int32) (x_r : MS) (hm : f_X8_play x p0 p1 = some (r, x_r)) : zMi l yX8_play wsX8_play (rm_X8_play) G K (TY c) [.ref (ax 0), .int p0, .int p1] (wM c ax x) (wM c ax x_r) r := by
  refine zMi.of (cc := cX8_play) (maxL := 3) (lv := [(0, .ref (ax 0)), (1, .int p0), (2, .int p1)]) (by decide) rfl (Nat.le_of_ble_eq_true rfl) rfl ?_
  intro p e s m args below meth c1 A Q H locs hx hb hml hown hts hK hN hZ hP hD hA hS hend ls hl
  have hown : s.vm.findClass RX8 = some m.cls := hown
  have hi_8 : ∀ w ∈ wsX80, w ∈ wsX8_play := (fun w h => List.mem_cons_of_mem _ (List.mem_append_right _ (h)))
  unfold f_X8_play at hm
  refine lv_aload_n hx hb dX8_play_0 rfl (lv_at hl 0 rfl) ?_
  refine lv_iconst (v := 0) hx hb dX8_play_1 (by decide) ?_
  refine va_put (D := G) (ci := 8) (v := .int 0) (C := RX8) (T := TX8) (N := 22) hx hb hts hi_8 tyX8 tyX8_ok nmX8 hown hK hP hD hS 0 rfl rfl 0 (by decide) (hts (.fieldLink RX8 53 "HubTrainsModel" "thrown" "I") (List.mem_of_getElem? (i := 1) rfl)) (fun _ h9 => h9) rfl (tyX8_ok 0 (by decide)) rfl rfl (Nat.le_of_ble_eq_true rfl) dX8_play_2 (fun H locs hP hD hS => ?_)
  have hP : va_P G vwCl (wM c ax ((ss x.1 0 0), x.2)) H := hP
  have hD : va_D A (wM c ax ((ss x.1 0 0), x.2)) := hD
  refine lv_aload_n hx hb dX8_play_5 rfl (lv_at hl 0 rfl) ?_
  refine lv_iload_n hx hb dX8_play_6 rfl (lv_at hl 1 rfl) ?_
  refine lv_iload_n hx hb dX8_play_7 rfl (lv_at hl 2 rfl) ?_
  obtain ⟨r8, x8, e_8, hm⟩ := bd2_s hm
  refine zcWi (As := [.int p0, .int p1]) (rest := []) ⟨hx, hb, hml, hown, hts⟩ (k_X8_noTileOn l G K c ax ((ss x.1 0 0), x.2) p0 p1 r8 x8 e_8) (cwV 2 hts gX8_play_X8_noTileOn rfl rfl rfl hd_X8_noTileOn ⟨Nat.le_of_ble_eq_true rfl, Nat.le_of_ble_eq_true rfl⟩) hK hN hZ hP hD hS hA (va_recv hK hP (ci := 8) (q0 := 0) rfl rfl) rfl hl.1 rfl (Nat.le_of_ble_eq_true rfl) dX8_play_8 ⟨Nat.zero_le _, Nat.zero_le _⟩ (fun H locs hP hD hS => ?_)
  have hP : va_P G vwCl (wM c ax x8) H := hP
  have hD : va_D A (wM c ax x8) := hD
  refine lv_if_ne (tgt := 36) hx hb dX8_play_11 (by decide) (fun c_11 => ?_) (fun c_11 => ?_)
  · have hm := ifn c_11 hm
    refine lv_iconst (v := 0) hx hb dX8_play_36 (by decide) ?_
    exact hend H locs ls _ _ _ rfl (Prod.mk.inj (Option.some.inj hm)).1 (zc1 (fun (z0 : MS) => (wM c ax z0 : va_W)) (Prod.mk.inj (Option.some.inj hm)).2) hP hD hS dX8_play_37
  · have hm := ifp c_11 hm
    refine lv_aload_n hx hb dX8_play_14 rfl (lv_at hl 0 rfl) ?_
    refine lv_aload_n hx hb dX8_play_15 rfl (lv_at hl 0 rfl) ?_
    refine lv_iload_n hx hb dX8_play_16 rfl (lv_at hl 1 rfl) ?_
    refine lv_iload_n hx hb dX8_play_17 rfl (lv_at hl 2 rfl) ?_
    obtain ⟨r18, e_18, hm⟩ := bd1_s hm
    refine zcWi (As := [.int p0, .int p1]) (rest := [.ref (ax 0)]) ⟨hx, hb, hml, hown, hts⟩ (k_X8_refusal l G K c ax x8 p0 p1 r18 e_18) (cwV 2 hts gX8_play_X8_refusal rfl rfl rfl hd_X8_refusal ⟨Nat.le_of_ble_eq_true rfl, Nat.le_of_ble_eq_true rfl⟩) hK hN hZ hP hD hS hA (va_recv hK hP (ci := 8) (q0 := 0) rfl rfl) rfl hl.1 rfl (Nat.le_of_ble_eq_true rfl) dX8_play_18 ⟨Nat.zero_le _, Nat.zero_le _⟩ (fun H locs hP hD hS => ?_)
    have hP : va_P G vwCl (wM c ax x8) H := hP
    have hD : va_D A (wM c ax x8) := hD
    have J_29 : ∀ (s0_29 : Int32) (H : Heap) (locs : List Loc) (ls : Array Slot), va_P G vwCl (wM c ax x8) H → va_D A (wM c ax x8) → va_S A s.heap H locs → lv_has ls 3 [(0, .ref (ax 0)), (1, .int p0), (2, .int p1)] → f_X8_play_J29 p0 p1 x8 s0_29 = some (r, x_r) → W p l e (rm_X8_play) s m args below meth c1 H locs 0 0 Q (F0 m 29 ls [.int s0_29, .ref (ax 0)]) := by
      intro s0_29 H locs ls hP hD hS hl hm
      unfold f_X8_play_J29 at hm
      refine lv_iconst (v := 3) hx hb dX8_play_29 (by decide) ?_
      obtain ⟨r30, x30, e_30, hm⟩ := bd2_s hm
      refine zcWi (As := [.int s0_29, .int 3]) (rest := []) ⟨hx, hb, hml, hown, hts⟩ (k_X8_fails l G K c ax x8 s0_29 3 r30 x30 e_30) (cwV 2 hts gX8_play_X8_fails rfl rfl rfl hd_X8_fails ⟨Nat.le_of_ble_eq_true rfl, Nat.le_of_ble_eq_true rfl⟩) hK hN hZ hP hD hS hA (va_recv hK hP (ci := 8) (q0 := 0) rfl rfl) rfl hl.1 rfl (Nat.le_of_ble_eq_true rfl) dX8_play_30 ⟨Nat.zero_le _, Nat.zero_le _⟩ (fun H locs hP hD hS => ?_)
      have hP : va_P G vwCl (wM c ax x30) H := hP
      have hD : va_D A (wM c ax x30) := hD
      refine lv_if_eq (tgt := 38) hx hb dX8_play_33 (by decide) (fun c_33 => ?_) (fun c_33 => ?_)
      · have hm := ifp c_33 hm
        refine lv_aload_n hx hb dX8_play_38 rfl (lv_at hl 0 rfl) ?_
        obtain ⟨x39, e_39, hm⟩ := bd1_s hm
        refine zcWv (As := []) (rest := []) ⟨hx, hb, hml, hown, hts⟩ (k_X8_remember l G K c ax x30 x39 e_39) (cwV 0 hts gX8_play_X8_remember rfl rfl rfl hd_X8_remember ⟨Nat.le_of_ble_eq_true rfl, Nat.le_of_ble_eq_true rfl⟩) hK hN hZ hP hD hS hA (va_recv hK hP (ci := 8) (q0 := 0) rfl rfl) rfl hl.1 rfl (Nat.le_of_ble_eq_true rfl) dX8_play_39 ⟨Nat.zero_le _, Nat.zero_le _⟩ (fun H locs hP hD hS => ?_)
        have hP : va_P G vwCl (wM c ax x39) H := hP
        have hD : va_D A (wM c ax x39) := hD
        refine lv_aload_n hx hb dX8_play_42 rfl (lv_at hl 0 rfl) ?_
        refine lv_iload_n hx hb dX8_play_43 rfl (lv_at hl 1 rfl) ?_
        refine lv_iload_n hx hb dX8_play_44 rfl (lv_at hl 2 rfl) ?_
        obtain ⟨x45, e_45, hm⟩ := bd1_s hm
        refine zcWv (As := [.int p0, .int p1]) (rest := []) ⟨hx, hb, hml, hown, hts⟩ (k_X8_playNow l G K c ax x39 p0 p1 x45 e_45) (cwV 2 hts gX8_play_X8_playNow rfl rfl rfl hd_X8_playNow ⟨Nat.le_of_ble_eq_true rfl, Nat.le_of_ble_eq_true rfl⟩) hK hN hZ hP hD hS hA (va_recv hK hP (ci := 8) (q0 := 0) rfl rfl) rfl hl.1 rfl (Nat.le_of_ble_eq_true rfl) dX8_play_45 ⟨Nat.zero_le _, Nat.zero_le _⟩ (fun H locs hP hD hS => ?_)
        have hP : va_P G vwCl (wM c ax x45) H := hP
        have hD : va_D A (wM c ax x45) := hD
        refine lv_aload_n hx hb dX8_play_48 rfl (lv_at hl 0 rfl) ?_
        refine lv_iload_n hx hb dX8_play_49 rfl (lv_at hl 2 rfl) ?_
        refine lv_iconst (v := 1) hx hb dX8_play_50 (by decide) ?_
        obtain ⟨r51, e_51, hm⟩ := bd1_s hm
        refine zcWi (As := [.int p1, .int 1]) (rest := []) ⟨hx, hb, hml, hown, hts⟩ (k_X8_ofTrain l G K c ax x45 p1 1 r51 e_51) (cwV 2 hts gX8_play_X8_ofTrain rfl rfl rfl hd_X8_ofTrain ⟨Nat.le_of_ble_eq_true rfl, Nat.le_of_ble_eq_true rfl⟩) hK hN hZ hP hD hS hA (va_recv hK hP (ci := 8) (q0 := 0) rfl rfl) rfl hl.1 rfl (Nat.le_of_ble_eq_true rfl) dX8_play_51 ⟨Nat.zero_le _, Nat.zero_le _⟩ (fun H locs hP hD hS => ?_)
        have hP : va_P G vwCl (wM c ax x45) H := hP
        have hD : va_D A (wM c ax x45) := hD
        exact hend H locs ls _ _ _ rfl (Prod.mk.inj (Option.some.inj hm)).1 (zc1 (fun (z0 : MS) => (wM c ax z0 : va_W)) (Prod.mk.inj (Option.some.inj hm)).2) hP hD hS dX8_play_54
      · have hm := ifn c_33 hm
        refine lv_iconst (v := 0) hx hb dX8_play_36 (by decide) ?_
        exact hend H locs ls _ _ _ rfl (Prod.mk.inj (Option.some.inj hm)).1 (zc1 (fun (z0 : MS) => (wM c ax z0 : va_W)) (Prod.mk.inj (Option.some.inj hm)).2) hP hD hS dX8_play_37
    refine lv_if_eq (tgt := 28) hx hb dX8_play_21 (by decide) (fun c_21 => ?_) (fun c_21 => ?_)
    · have hm := ifp c_21 hm
      refine lv_iconst (v := 0) hx hb dX8_play_28 (by decide) ?_
      exact J_29 0 H locs ls hP hD hS (lv_sub hl [0, 1, 2] rfl) hm
    · have hm := ifn c_21 hm
      refine lv_iconst (v := 1) hx hb dX8_play_24 (by decide) ?_
      refine lv_goto (tgt := 29) hx hb dX8_play_25 (by decide) ?_
      exact J_29 1 H locs ls hP hD hS (lv_sub hl [0, 1, 2] rfl) hm

def f_X8_draw_J18 (x : MS) (s0_18 : Int32) : Option (Int32 × MS) :=
  bd2 (f_X8_fails ((ss x.1 0 0), x.2) s0_18 1) fun (r19 : Int32) (x19 : MS) => if r19 = 0 then (bd1 (f_X8_remember x19) fun (x28 : MS) => bd2 (f_X8_drawNow x28) fun (r32 : Int32) (x32 : MS) => some (r32, x32)) else (some (0, x19))

def f_X8_draw (x : MS) : Option (Int32 × MS) :=
  bd1 (f_X8_mayDraw ((ss x.1 0 0), x.2)) fun (r7 : Int32) => if r7 = 0 then (f_X8_draw_J18 x 1) else (f_X8_draw_J18 x 0)

abbrev rm_X8_draw : Room := { frames := 5, cells := 0, slots := 0, locals := 107 }
theorem hd_X8_draw : yX8_draw.cls = RX8 ∧ yX8_draw.cls ≠ "java/lang/invoke/MethodHandle" ∧ yX8_draw.cls ≠ "java/lang/invoke/VarHandle" ∧ (parseMethodDescriptor yX8_draw.desc).map (fun d => d.parameters.length) = some 0 := by decide +kernel
set_option maxHeartbeats 4000000 in
set_option maxRecDepth 100000 in
theorem k_X8_draw (l : Launch) (G : va_G) (K : (Nat → Nat) × (Nat → Nat)) (c : Nat → ClassId) (ax : Nat → Nat) (x : MS) (r : Int32) (x_r : MS) (hm : f_X8_draw x = some (r, x_r)) : zMi l yX8_draw wsX8_draw (rm_X8_draw) G K (TY c) [.ref (ax 0)] (wM c ax x) (wM c ax x_r) r := by
  refine zMi.of (cc := cX8_draw) (maxL := 1) (lv := [(0, .ref (ax 0))]) (by decide) rfl (Nat.le_of_ble_eq_true rfl) rfl ?_
  intro p e s m args below meth c1 A Q H locs hx hb hml hown hts hK hN hZ hP hD hA hS hend ls hl
  have hown : s.vm.findClass RX8 = some m.cls := hown
  have hi_8 : ∀ w ∈ wsX80, w ∈ wsX8_draw := (fun w h => List.mem_cons_of_mem _ (List.mem_append_right _ (h)))
  unfold f_X8_draw at hm
  refine lv_aload_n hx hb dX8_draw_0 rfl (lv_at hl 0 rfl) ?_
  refine lv_iconst (v := 0) hx hb dX8_draw_1 (by decide) ?_
  refine va_put (D := G) (ci := 8) (v := .int 0) (C := RX8) (T := TX8) (N := 22) hx hb hts hi_8 tyX8 tyX8_ok nmX8 hown hK hP hD hS 0 rfl rfl 0 (by decide) (hts (.fieldLink RX8 53 "HubTrainsModel" "thrown" "I") (List.mem_of_getElem? (i := 1) rfl)) (fun _ h9 => h9) rfl (tyX8_ok 0 (by decide)) rfl rfl (Nat.le_of_ble_eq_true rfl) dX8_draw_2 (fun H locs hP hD hS => ?_)
  have hP : va_P G vwCl (wM c ax ((ss x.1 0 0), x.2)) H := hP
  have hD : va_D A (wM c ax ((ss x.1 0 0), x.2)) := hD
  refine lv_aload_n hx hb dX8_draw_5 rfl (lv_at hl 0 rfl) ?_
  refine lv_aload_n hx hb dX8_draw_6 rfl (lv_at hl 0 rfl) ?_
  obtain ⟨r7, e_7, hm⟩ := bd1_s hm
  refine zcWi (As := []) (rest := [.ref (ax 0)]) ⟨hx, hb, hml, hown, hts⟩ (k_X8_mayDraw l G K c ax ((ss x.1 0 0), x.2) r7 e_7) (cwV 0 hts gX8_draw_X8_mayDraw rfl rfl rfl hd_X8_mayDraw ⟨Nat.le_of_ble_eq_true rfl, Nat.le_of_ble_eq_true rfl⟩) hK hN hZ hP hD hS hA (va_recv hK hP (ci := 8) (q0 := 0) rfl rfl) rfl hl.1 rfl (Nat.le_of_ble_eq_true rfl) dX8_draw_7 ⟨Nat.zero_le _, Nat.zero_le _⟩ (fun H locs hP hD hS => ?_)
  have hP : va_P G vwCl (wM c ax ((ss x.1 0 0), x.2)) H := hP
  have hD : va_D A (wM c ax ((ss x.1 0 0), x.2)) := hD
  have J_18 : ∀ (s0_18 : Int32) (H : Heap) (locs : List Loc) (ls : Array Slot), va_P G vwCl (wM c ax ((ss x.1 0 0), x.2)) H → va_D A (wM c ax ((ss x.1 0 0), x.2)) → va_S A s.heap H locs → lv_has ls 1 [(0, .ref (ax 0))] → f_X8_draw_J18 x s0_18 = some (r, x_r) → W p l e (rm_X8_draw) s m args below meth c1 H locs 0 0 Q (F0 m 18 ls [.int s0_18, .ref (ax 0)]) := by
    intro s0_18 H locs ls hP hD hS hl hm
    unfold f_X8_draw_J18 at hm
    refine lv_iconst (v := 1) hx hb dX8_draw_18 (by decide) ?_
    obtain ⟨r19, x19, e_19, hm⟩ := bd2_s hm
    refine zcWi (As := [.int s0_18, .int 1]) (rest := []) ⟨hx, hb, hml, hown, hts⟩ (k_X8_fails l G K c ax ((ss x.1 0 0), x.2) s0_18 1 r19 x19 e_19) (cwV 2 hts gX8_draw_X8_fails rfl rfl rfl hd_X8_fails ⟨Nat.le_of_ble_eq_true rfl, Nat.le_of_ble_eq_true rfl⟩) hK hN hZ hP hD hS hA (va_recv hK hP (ci := 8) (q0 := 0) rfl rfl) rfl hl.1 rfl (Nat.le_of_ble_eq_true rfl) dX8_draw_19 ⟨Nat.zero_le _, Nat.zero_le _⟩ (fun H locs hP hD hS => ?_)
    have hP : va_P G vwCl (wM c ax x19) H := hP
    have hD : va_D A (wM c ax x19) := hD
    refine lv_if_eq (tgt := 27) hx hb dX8_draw_22 (by decide) (fun c_22 => ?_) (fun c_22 => ?_)
    · have hm := ifp c_22 hm
      refine lv_aload_n hx hb dX8_draw_27 rfl (lv_at hl 0 rfl) ?_
      obtain ⟨x28, e_28, hm⟩ := bd1_s hm
      refine zcWv (As := []) (rest := []) ⟨hx, hb, hml, hown, hts⟩ (k_X8_remember l G K c ax x19 x28 e_28) (cwV 0 hts gX8_draw_X8_remember rfl rfl rfl hd_X8_remember ⟨Nat.le_of_ble_eq_true rfl, Nat.le_of_ble_eq_true rfl⟩) hK hN hZ hP hD hS hA (va_recv hK hP (ci := 8) (q0 := 0) rfl rfl) rfl hl.1 rfl (Nat.le_of_ble_eq_true rfl) dX8_draw_28 ⟨Nat.zero_le _, Nat.zero_le _⟩ (fun H locs hP hD hS => ?_)
      have hP : va_P G vwCl (wM c ax x28) H := hP
      have hD : va_D A (wM c ax x28) := hD
      refine lv_aload_n hx hb dX8_draw_31 rfl (lv_at hl 0 rfl) ?_
      obtain ⟨r32, x32, e_32, hm⟩ := bd2_s hm
      refine zcWi (As := []) (rest := []) ⟨hx, hb, hml, hown, hts⟩ (k_X8_drawNow l G K c ax x28 r32 x32 e_32) (cwV 0 hts gX8_draw_X8_drawNow rfl rfl rfl hd_X8_drawNow ⟨Nat.le_of_ble_eq_true rfl, Nat.le_of_ble_eq_true rfl⟩) hK hN hZ hP hD hS hA (va_recv hK hP (ci := 8) (q0 := 0) rfl rfl) rfl hl.1 rfl (Nat.le_of_ble_eq_true rfl) dX8_draw_32 ⟨Nat.zero_le _, Nat.zero_le _⟩ (fun H locs hP hD hS => ?_)
      have hP : va_P G vwCl (wM c ax x32) H := hP
      have hD : va_D A (wM c ax x32) := hD
      exact hend H locs ls _ _ _ rfl (Prod.mk.inj (Option.some.inj hm)).1 (zc1 (fun (z0 : MS) => (wM c ax z0 : va_W)) (Prod.mk.inj (Option.some.inj hm)).2) hP hD hS dX8_draw_35
    · have hm := ifn c_22 hm
      refine lv_iconst (v := 0) hx hb dX8_draw_25 (by decide) ?_
      exact hend H locs ls _ _ _ rfl (Prod.mk.inj (Option.some.inj hm)).1 (zc1 (fun (z0 : MS) => (wM c ax z0 : va_W)) (Prod.mk.inj (Option.some.inj hm)).2) hP hD hS dX8_draw_26
  refine lv_if_ne (tgt := 17) hx hb dX8_draw_10 (by decide) (fun c_10 => ?_) (fun c_10 => ?_)
  · have hm := ifn c_10 hm
    refine lv_iconst (v := 0) hx hb dX8_draw_17 (by decide) ?_
    exact J_18 0 H locs ls hP hD hS (lv_sub hl [0] rfl) hm
  · have hm := ifp c_10 hm
    refine lv_iconst (v := 1) hx hb dX8_draw_13 (by decide) ?_
    refine lv_goto (tgt := 18) hx hb dX8_draw_14 (by decide) ?_
    exact J_18 1 H locs ls hP hD hS (lv_sub hl [0] rfl) hm

def f_X8_pass_J18 (x : MS) (s0_18 : Int32) : Option (Int32 × MS) :=
  bd2 (f_X8_fails ((ss x.1 0 0), x.2) s0_18 1) fun (r19 : Int32) (x19 : MS) => if r19 = 0 then (bd1 (f_X8_remember x19) fun (x28 : MS) => bd1 (f_X8_passNow x28) fun (x32 : MS) => gd (inb 4 1464) <| some (((x32.1.2 1) (4 : Int32).toNatClampNeg), x32)) else (some (0, x19))

def f_X8_pass (x : MS) : Option (Int32 × MS) :=
  bd1 (f_X8_mayPass ((ss x.1 0 0), x.2)) fun (r7 : Int32) => if r7 = 0 then (f_X8_pass_J18 x 1) else (f_X8_pass_J18 x 0)

abbrev rm_X8_pass : Room := { frames := 5, cells := 0, slots := 0, locals := 107 }
theorem hd_X8_pass : yX8_pass.cls = RX8 ∧ yX8_pass.cls ≠ "java/lang/invoke/MethodHandle" ∧ yX8_pass.cls ≠ "java/lang/invoke/VarHandle" ∧ (parseMethodDescriptor yX8_pass.desc).map (fun d => d.parameters.length) = some 0 := by decide +kernel
set_option maxHeartbeats 4000000 in
set_option maxRecDepth 100000 in
theorem k_X8_pass (l : Launch) (G : va_G) (K : (Nat → Nat) × (Nat → Nat)) (c : Nat → ClassId) (ax : Nat → Nat) (x : MS) (r : Int32) (x_r : MS) (hm : f_X8_pass x = some (r, x_r)) : zMi l yX8_pass wsX8_pass (rm_X8_pass) G K (TY c) [.ref (ax 0)] (wM c ax x) (wM c ax x_r) r := by
  refine zMi.of (cc := cX8_pass) (maxL := 1) (lv := [(0, .ref (ax 0))]) (by decide) rfl (Nat.le_of_ble_eq_true rfl) rfl ?_
  intro p e s m args below meth c1 A Q H locs hx hb hml hown hts hK hN hZ hP hD hA hS hend ls hl
  have hown : s.vm.findClass RX8 = some m.cls := hown
  have hi_8 : ∀ w ∈ wsX80, w ∈ wsX8_pass := (fun w h => List.mem_cons_of_mem _ (List.mem_append_right _ (h)))
  unfold f_X8_pass at hm
  refine lv_aload_n hx hb dX8_pass_0 rfl (lv_at hl 0 rfl) ?_
  refine lv_iconst (v := 0) hx hb dX8_pass_1 (by decide) ?_
  refine va_put (D := G) (ci := 8) (v := .int 0) (C := RX8) (T := TX8) (N := 22) hx hb hts hi_8 tyX8 tyX8_ok nmX8 hown hK hP hD hS 0 rfl rfl 0 (by decide) (hts (.fieldLink RX8 53 "HubTrainsModel" "thrown" "I") (List.mem_of_getElem? (i := 1) rfl)) (fun _ h9 => h9) rfl (tyX8_ok 0 (by decide)) rfl rfl (Nat.le_of_ble_eq_true rfl) dX8_pass_2 (fun H locs hP hD hS => ?_)
  have hP : va_P G vwCl (wM c ax ((ss x.1 0 0), x.2)) H := hP
  have hD : va_D A (wM c ax ((ss x.1 0 0), x.2)) := hD
  refine lv_aload_n hx hb dX8_pass_5 rfl (lv_at hl 0 rfl) ?_
  refine lv_aload_n hx hb dX8_pass_6 rfl (lv_at hl 0 rfl) ?_
  obtain ⟨r7, e_7, hm⟩ := bd1_s hm
  refine zcWi (As := []) (rest := [.ref (ax 0)]) ⟨hx, hb, hml, hown, hts⟩ (k_X8_mayPass l G K c ax ((ss x.1 0 0), x.2) r7 e_7) (cwV 0 hts gX8_pass_X8_mayPass rfl rfl rfl hd_X8_mayPass ⟨Nat.le_of_ble_eq_true rfl, Nat.le_of_ble_eq_true rfl⟩) hK hN hZ hP hD hS hA (va_recv hK hP (ci := 8) (q0 := 0) rfl rfl) rfl hl.1 rfl (Nat.le_of_ble_eq_true rfl) dX8_pass_7 ⟨Nat.zero_le _, Nat.zero_le _⟩ (fun H locs hP hD hS => ?_)
  have hP : va_P G vwCl (wM c ax ((ss x.1 0 0), x.2)) H := hP
  have hD : va_D A (wM c ax ((ss x.1 0 0), x.2)) := hD
  have J_18 : ∀ (s0_18 : Int32) (H : Heap) (locs : List Loc) (ls : Array Slot), va_P G vwCl (wM c ax ((ss x.1 0 0), x.2)) H → va_D A (wM c ax ((ss x.1 0 0), x.2)) → va_S A s.heap H locs → lv_has ls 1 [(0, .ref (ax 0))] → f_X8_pass_J18 x s0_18 = some (r, x_r) → W p l e (rm_X8_pass) s m args below meth c1 H locs 0 0 Q (F0 m 18 ls [.int s0_18, .ref (ax 0)]) := by
    intro s0_18 H locs ls hP hD hS hl hm
    unfold f_X8_pass_J18 at hm
    refine lv_iconst (v := 1) hx hb dX8_pass_18 (by decide) ?_
    obtain ⟨r19, x19, e_19, hm⟩ := bd2_s hm
    refine zcWi (As := [.int s0_18, .int 1]) (rest := []) ⟨hx, hb, hml, hown, hts⟩ (k_X8_fails l G K c ax ((ss x.1 0 0), x.2) s0_18 1 r19 x19 e_19) (cwV 2 hts gX8_pass_X8_fails rfl rfl rfl hd_X8_fails ⟨Nat.le_of_ble_eq_true rfl, Nat.le_of_ble_eq_true rfl⟩) hK hN hZ hP hD hS hA (va_recv hK hP (ci := 8) (q0 := 0) rfl rfl) rfl hl.1 rfl (Nat.le_of_ble_eq_true rfl) dX8_pass_19 ⟨Nat.zero_le _, Nat.zero_le _⟩ (fun H locs hP hD hS => ?_)
    have hP : va_P G vwCl (wM c ax x19) H := hP
    have hD : va_D A (wM c ax x19) := hD
    refine lv_if_eq (tgt := 27) hx hb dX8_pass_22 (by decide) (fun c_22 => ?_) (fun c_22 => ?_)
    · have hm := ifp c_22 hm
      refine lv_aload_n hx hb dX8_pass_27 rfl (lv_at hl 0 rfl) ?_
      obtain ⟨x28, e_28, hm⟩ := bd1_s hm
      refine zcWv (As := []) (rest := []) ⟨hx, hb, hml, hown, hts⟩ (k_X8_remember l G K c ax x19 x28 e_28) (cwV 0 hts gX8_pass_X8_remember rfl rfl rfl hd_X8_remember ⟨Nat.le_of_ble_eq_true rfl, Nat.le_of_ble_eq_true rfl⟩) hK hN hZ hP hD hS hA (va_recv hK hP (ci := 8) (q0 := 0) rfl rfl) rfl hl.1 rfl (Nat.le_of_ble_eq_true rfl) dX8_pass_28 ⟨Nat.zero_le _, Nat.zero_le _⟩ (fun H locs hP hD hS => ?_)
      have hP : va_P G vwCl (wM c ax x28) H := hP
      have hD : va_D A (wM c ax x28) := hD
      refine lv_aload_n hx hb dX8_pass_31 rfl (lv_at hl 0 rfl) ?_
      obtain ⟨x32, e_32, hm⟩ := bd1_s hm
      refine zcWv (As := []) (rest := []) ⟨hx, hb, hml, hown, hts⟩ (k_X8_passNow l G K c ax x28 x32 e_32) (cwV 0 hts gX8_pass_X8_passNow rfl rfl rfl hd_X8_passNow ⟨Nat.le_of_ble_eq_true rfl, Nat.le_of_ble_eq_true rfl⟩) hK hN hZ hP hD hS hA (va_recv hK hP (ci := 8) (q0 := 0) rfl rfl) rfl hl.1 rfl (Nat.le_of_ble_eq_true rfl) dX8_pass_32 ⟨Nat.zero_le _, Nat.zero_le _⟩ (fun H locs hP hD hS => ?_)
      have hP : va_P G vwCl (wM c ax x32) H := hP
      have hD : va_D A (wM c ax x32) := hD
      refine lv_aload_n hx hb dX8_pass_35 rfl (lv_at hl 0 rfl) ?_
      refine va_get (D := G) (ci := 8) (v := .ref (ax 2)) (C := RX8) (T := TX8) (N := 22) hx hb hts hi_8 hown hK hP 0 rfl rfl 8 (by decide) (hts (.fieldLink RX8 17 "HubTrainsModel" "data" "[I") (List.mem_of_getElem? (i := 2) rfl)) (fun _ h9 => h9) rfl dX8_pass_36 ?_
      refine lv_iconst (v := 4) hx hb dX8_pass_39 (by decide) ?_
      obtain ⟨h_40, hm⟩ := gd_s hm
      refine va_iald (D := G) hx hb hK hP 2 0 rfl rfl (inb_s h_40) dX8_pass_40 ?_
      exact hend H locs ls _ _ _ rfl (Prod.mk.inj (Option.some.inj hm)).1 (zc1 (fun (z0 : MS) => (wM c ax z0 : va_W)) (Prod.mk.inj (Option.some.inj hm)).2) hP hD hS dX8_pass_41
    · have hm := ifn c_22 hm
      refine lv_iconst (v := 0) hx hb dX8_pass_25 (by decide) ?_
      exact hend H locs ls _ _ _ rfl (Prod.mk.inj (Option.some.inj hm)).1 (zc1 (fun (z0 : MS) => (wM c ax z0 : va_W)) (Prod.mk.inj (Option.some.inj hm)).2) hP hD hS dX8_pass_26
  refine lv_if_ne (tgt := 17) hx hb dX8_pass_10 (by decide) (fun c_10 => ?_) (fun c_10 => ?_)
  · have hm := ifn c_10 hm
    refine lv_iconst (v := 0) hx hb dX8_pass_17 (by decide) ?_
    exact J_18 0 H locs ls hP hD hS (lv_sub hl [0] rfl) hm
  · have hm := ifp c_10 hm
    refine lv_iconst (v := 1) hx hb dX8_pass_13 (by decide) ?_
    refine lv_goto (tgt := 18) hx hb dX8_pass_14 (by decide) ?_
    exact J_18 1 H locs ls hP hD hS (lv_sub hl [0] rfl) hm

def f_X8_auto_J22 (x : MS) (p0 : Int32) (s0_22 : Int32) : Option (Int32 × MS) :=
  bd2 (f_X8_fails ((ss x.1 0 0), x.2) s0_22 1) fun (r23 : Int32) (x23 : MS) => if r23 = 0 then (bd1 (f_X8_remember x23) fun (x32 : MS) => bd2 (f_X8_goOn x32 p0) fun (r37 : Int32) (x37 : MS) => some (r37, x37)) else (some (0, x23))

def f_X8_auto (x : MS) (p0 : Int32) : Option (Int32 × MS) :=
  bd1 (f_X8_in p0 1 200) fun (r11 : Int32) => if r11 = 0 then (f_X8_auto_J22 x p0 1) else (f_X8_auto_J22 x p0 0)

abbrev rm_X8_auto : Room := { frames := 7, cells := 0, slots := 0, locals := 160 }
theorem hd_X8_auto : yX8_auto.cls = RX8 ∧ yX8_auto.cls ≠ "java/lang/invoke/MethodHandle" ∧ yX8_auto.cls ≠ "java/lang/invoke/VarHandle" ∧ (parseMethodDescriptor yX8_auto.desc).map (fun d => d.parameters.length) = some 1 := by decide +kernel
set_option maxHeartbeats 4000000 in
set_option maxRecDepth 100000 in
theorem k_X8_auto (l : Launch) (G : va_G) (K : (Nat → Nat) × (Nat → Nat)) (c : Nat → ClassId) (ax : Nat → Nat) (x : MS) (p0 : Int32) (r : Int32) (x_r : MS) (hm : f_X8_auto x p0 = some (r, x_r)) : zMi l yX8_auto wsX8_auto (rm_X8_auto) G K (TY c) [.ref (ax 0), .int p0] (wM c ax x) (wM c ax x_r) r := by
  refine zMi.of (cc := cX8_auto) (maxL := 2) (lv := [(0, .ref (ax 0)), (1, .int p0)]) (by decide) rfl (Nat.le_of_ble_eq_true rfl) rfl ?_
  intro p e s m args below meth c1 A Q H locs hx hb hml hown hts hK hN hZ hP hD hA hS hend ls hl
  have hown : s.vm.findClass RX8 = some m.cls := hown
  have hi_8 : ∀ w ∈ wsX80, w ∈ wsX8_auto := (fun w h => List.mem_cons_of_mem _ (List.mem_append_right _ (h)))
  unfold f_X8_auto at hm
  refine lv_aload_n hx hb dX8_auto_0 rfl (lv_at hl 0 rfl) ?_
  refine lv_iconst (v := 0) hx hb dX8_auto_1 (by decide) ?_
  refine va_put (D := G) (ci := 8) (v := .int 0) (C := RX8) (T := TX8) (N := 22) hx hb hts hi_8 tyX8 tyX8_ok nmX8 hown hK hP hD hS 0 rfl rfl 0 (by decide) (hts (.fieldLink RX8 53 "HubTrainsModel" "thrown" "I") (List.mem_of_getElem? (i := 1) rfl)) (fun _ h9 => h9) rfl (tyX8_ok 0 (by decide)) rfl rfl (Nat.le_of_ble_eq_true rfl) dX8_auto_2 (fun H locs hP hD hS => ?_)
  have hP : va_P G vwCl (wM c ax ((ss x.1 0 0), x.2)) H := hP
  have hD : va_D A (wM c ax ((ss x.1 0 0), x.2)) := hD
  refine lv_aload_n hx hb dX8_auto_5 rfl (lv_at hl 0 rfl) ?_
  refine lv_iload_n hx hb dX8_auto_6 rfl (lv_at hl 1 rfl) ?_
  refine lv_iconst (v := 1) hx hb dX8_auto_7 (by decide) ?_
  refine lv_sipush (v := 200) hx hb dX8_auto_8 (by decide) ?_
  obtain ⟨r11, e_11, hm⟩ := bd1_s hm
  refine zcSi (As := [.int p0, .int 1, .int 200]) (rest := [.ref (ax 0)]) ⟨hx, hb, hml, hown, hts⟩ (k_X8_in l G K c p0 1 200 r11 e_11) (va_cwS 3 hts gX8_auto_X8_in rfl rfl rfl hd_X8_in.2 ⟨Nat.le_of_ble_eq_true rfl, Nat.le_of_ble_eq_true rfl⟩) hK hN hZ hP hD hS hA [] rfl (by decide) rfl rfl hl.1 rfl (Nat.le_of_ble_eq_true rfl) dX8_auto_11 ⟨Nat.zero_le _, Nat.zero_le _⟩ (fun H locs hP hD hS => ?_)
  have hP : va_P G vwCl (wM c ax ((ss x.1 0 0), x.2)) H := hP
  have hD : va_D A (wM c ax ((ss x.1 0 0), x.2)) := hD
  have J_22 : ∀ (s0_22 : Int32) (H : Heap) (locs : List Loc) (ls : Array Slot), va_P G vwCl (wM c ax ((ss x.1 0 0), x.2)) H → va_D A (wM c ax ((ss x.1 0 0), x.2)) → va_S A s.heap H locs → lv_has ls 2 [(0, .ref (ax 0)), (1, .int p0)] → f_X8_auto_J22 x p0 s0_22 = some (r, x_r) → W p l e (rm_X8_auto) s m args below meth c1 H locs 0 0 Q (F0 m 22 ls [.int s0_22, .ref (ax 0)]) := by
    intro s0_22 H locs ls hP hD hS hl hm
    unfold f_X8_auto_J22 at hm
    refine lv_iconst (v := 1) hx hb dX8_auto_22 (by decide) ?_
    obtain ⟨r23, x23, e_23, hm⟩ := bd2_s hm
    refine zcWi (As := [.int s0_22, .int 1]) (rest := []) ⟨hx, hb, hml, hown, hts⟩ (k_X8_fails l G K c ax ((ss x.1 0 0), x.2) s0_22 1 r23 x23 e_23) (cwV 2 hts gX8_auto_X8_fails rfl rfl rfl hd_X8_fails ⟨Nat.le_of_ble_eq_true rfl, Nat.le_of_ble_eq_true rfl⟩) hK hN hZ hP hD hS hA (va_recv hK hP (ci := 8) (q0 := 0) rfl rfl) rfl hl.1 rfl (Nat.le_of_ble_eq_true rfl) dX8_auto_23 ⟨Nat.zero_le _, Nat.zero_le _⟩ (fun H locs hP hD hS => ?_)
    have hP : va_P G vwCl (wM c ax x23) H := hP
    have hD : va_D A (wM c ax x23) := hD
    refine lv_if_eq (tgt := 31) hx hb dX8_auto_26 (by decide) (fun c_26 => ?_) (fun c_26 => ?_)
    · have hm := ifp c_26 hm
      refine lv_aload_n hx hb dX8_auto_31 rfl (lv_at hl 0 rfl) ?_
      obtain ⟨x32, e_32, hm⟩ := bd1_s hm
      refine zcWv (As := []) (rest := []) ⟨hx, hb, hml, hown, hts⟩ (k_X8_remember l G K c ax x23 x32 e_32) (cwV 0 hts gX8_auto_X8_remember rfl rfl rfl hd_X8_remember ⟨Nat.le_of_ble_eq_true rfl, Nat.le_of_ble_eq_true rfl⟩) hK hN hZ hP hD hS hA (va_recv hK hP (ci := 8) (q0 := 0) rfl rfl) rfl hl.1 rfl (Nat.le_of_ble_eq_true rfl) dX8_auto_32 ⟨Nat.zero_le _, Nat.zero_le _⟩ (fun H locs hP hD hS => ?_)
      have hP : va_P G vwCl (wM c ax x32) H := hP
      have hD : va_D A (wM c ax x32) := hD
      refine lv_aload_n hx hb dX8_auto_35 rfl (lv_at hl 0 rfl) ?_
      refine lv_iload_n hx hb dX8_auto_36 rfl (lv_at hl 1 rfl) ?_
      obtain ⟨r37, x37, e_37, hm⟩ := bd2_s hm
      refine zcWi (As := [.int p0]) (rest := []) ⟨hx, hb, hml, hown, hts⟩ (k_X8_goOn l G K c ax x32 p0 r37 x37 e_37) (cwV 1 hts gX8_auto_X8_goOn rfl rfl rfl hd_X8_goOn ⟨Nat.le_of_ble_eq_true rfl, Nat.le_of_ble_eq_true rfl⟩) hK hN hZ hP hD hS hA (va_recv hK hP (ci := 8) (q0 := 0) rfl rfl) rfl hl.1 rfl (Nat.le_of_ble_eq_true rfl) dX8_auto_37 ⟨Nat.zero_le _, Nat.zero_le _⟩ (fun H locs hP hD hS => ?_)
      have hP : va_P G vwCl (wM c ax x37) H := hP
      have hD : va_D A (wM c ax x37) := hD
      exact hend H locs ls _ _ _ rfl (Prod.mk.inj (Option.some.inj hm)).1 (zc1 (fun (z0 : MS) => (wM c ax z0 : va_W)) (Prod.mk.inj (Option.some.inj hm)).2) hP hD hS dX8_auto_40
    · have hm := ifn c_26 hm
      refine lv_iconst (v := 0) hx hb dX8_auto_29 (by decide) ?_
      exact hend H locs ls _ _ _ rfl (Prod.mk.inj (Option.some.inj hm)).1 (zc1 (fun (z0 : MS) => (wM c ax z0 : va_W)) (Prod.mk.inj (Option.some.inj hm)).2) hP hD hS dX8_auto_30
  refine lv_if_ne (tgt := 21) hx hb dX8_auto_14 (by decide) (fun c_14 => ?_) (fun c_14 => ?_)
  · have hm := ifn c_14 hm
    refine lv_iconst (v := 0) hx hb dX8_auto_21 (by decide) ?_
    exact J_22 0 H locs ls hP hD hS (lv_sub hl [0, 1] rfl) hm
  · have hm := ifp c_14 hm
    refine lv_iconst (v := 1) hx hb dX8_auto_17 (by decide) ?_
    refine lv_goto (tgt := 22) hx hb dX8_auto_18 (by decide) ?_
    exact J_22 1 H locs ls hP hD hS (lv_sub hl [0, 1] rfl) hm

def f_X8_deal__B74 (p0 : Int32) (p1 : Int32) (rec_74 : Int32 → MS → Option (Int32 × MS)) (v3_74 : Int32) (x_74 : MS) : Option (Int32 × MS) :=
  if (100 : Int32) ≤ v3_74 then (gd (inb 3 1464) <| nmd (upd (x_74.1.2 1) (3 : Int32).toNatClampNeg p0) fun (w102 : Nat → Int32) => gd (inb 11 1464) <| nmd (upd w102 (11 : Int32).toNatClampNeg p1) fun (w110 : Nat → Int32) => bd1 (f_X8_deal 1464 w110) fun (h0115 : Nat → Int32) => gd (inb 7 1464) <| some ((h0115 (7 : Int32).toNatClampNeg), ((sa x_74.1 1 h0115), x_74.2))) else (gd (inb (19 + v3_74) 1464) <| nmd (upd (x_74.1.2 1) (19 + v3_74).toNatClampNeg (-1)) fun (w89 : Nat → Int32) => rec_74 (v3_74 + 1) ((sa x_74.1 1 w89), x_74.2))

def f_X8_deal__J59 (p0 : Int32) (p1 : Int32) (x37 : MS) (s0_59 : Int32) : Option (Int32 × MS) :=
  bd2 (f_X8_fails x37 s0_59 2) fun (r60 : Int32) (x60 : MS) => if r60 = 0 then (bd1 (f_X8_remember x60) fun (x69 : MS) => itr2 (f_X8_deal__B74 p0 p1) FUEL 0 x69) else (some (0, x60))

def f_X8_deal__J36 (x : MS) (p0 : Int32) (p1 : Int32) (s0_36 : Int32) : Option (Int32 × MS) :=
  bd2 (f_X8_fails ((ss x.1 0 0), x.2) s0_36 1) fun (r37 : Int32) (x37 : MS) => if r37 = 0 then (gd (inb 8 1464) <| if ((x37.1.2 1) (8 : Int32).toNatClampNeg) = 0 then (f_X8_deal__J59 p0 p1 x37 1) else (f_X8_deal__J59 p0 p1 x37 0)) else (some (0, x37))

def f_X8_deal_ (x : MS) (p0 : Int32) (p1 : Int32) : Option (Int32 × MS) :=
  gd (inb 0 1464) <| bd1 (f_X8_in p0 0 ((x.1.2 1) (0 : Int32).toNatClampNeg)) fun (r14 : Int32) => if r14 = 0 then (f_X8_deal__J36 x p0 p1 1) else (bd1 (f_X8_in p1 0 9999) fun (r25 : Int32) => if r25 = 0 then (f_X8_deal__J36 x p0 p1 1) else (f_X8_deal__J36 x p0 p1 0))

abbrev rm_X8_deal_ : Room := { frames := 3, cells := 0, slots := 0, locals := 68 }
theorem hd_X8_deal_ : yX8_deal_.cls = RX8 ∧ yX8_deal_.cls ≠ "java/lang/invoke/MethodHandle" ∧ yX8_deal_.cls ≠ "java/lang/invoke/VarHandle" ∧ (parseMethodDescriptor yX8_deal_.desc).map (fun d => d.parameters.length) = some 2 := by decide +kernel
set_option maxHeartbeats 4000000 in
set_option maxRecDepth 100000 in
theorem k_X8_deal_ (l : Launch) (G : va_G) (K : (Nat → Nat) × (Nat → Nat)) (c : Nat → ClassId) (ax : Nat → Nat) (x : MS) (p0 : Int32) (p1 : Int32) (r : Int32) (x_r : MS) (hm : f_X8_deal_ x p0 p1 = some (r, x_r)) : zMi l yX8_deal_ wsX8_deal_ (rm_X8_deal_) G K (TY c) [.ref (ax 0), .int p0, .int p1] (wM c ax x) (wM c ax x_r) r := by
  refine zMi.of (cc := cX8_deal_) (maxL := 4) (lv := [(0, .ref (ax 0)), (1, .int p0), (2, .int p1)]) (by decide) rfl (Nat.le_of_ble_eq_true rfl) rfl ?_
  intro p e s m args below meth c1 A Q H locs hx hb hml hown hts hK hN hZ hP hD hA hS hend ls hl
  have hown : s.vm.findClass RX8 = some m.cls := hown
  have hi_8 : ∀ w ∈ wsX80, w ∈ wsX8_deal_ := (fun w h => List.mem_cons_of_mem _ (List.mem_append_right _ (h)))
  unfold f_X8_deal_ at hm
  refine lv_aload_n hx hb dX8_deal__0 rfl (lv_at hl 0 rfl) ?_
  refine lv_iconst (v := 0) hx hb dX8_deal__1 (by decide) ?_
  refine va_put (D := G) (ci := 8) (v := .int 0) (C := RX8) (T := TX8) (N := 22) hx hb hts hi_8 tyX8 tyX8_ok nmX8 hown hK hP hD hS 0 rfl rfl 0 (by decide) (hts (.fieldLink RX8 53 "HubTrainsModel" "thrown" "I") (List.mem_of_getElem? (i := 1) rfl)) (fun _ h9 => h9) rfl (tyX8_ok 0 (by decide)) rfl rfl (Nat.le_of_ble_eq_true rfl) dX8_deal__2 (fun H locs hP hD hS => ?_)
  have hP : va_P G vwCl (wM c ax ((ss x.1 0 0), x.2)) H := hP
  have hD : va_D A (wM c ax ((ss x.1 0 0), x.2)) := hD
  refine lv_aload_n hx hb dX8_deal__5 rfl (lv_at hl 0 rfl) ?_
  refine lv_iload_n hx hb dX8_deal__6 rfl (lv_at hl 1 rfl) ?_
  refine lv_iconst (v := 0) hx hb dX8_deal__7 (by decide) ?_
  refine lv_aload_n hx hb dX8_deal__8 rfl (lv_at hl 0 rfl) ?_
  refine va_get (D := G) (ci := 8) (v := .ref (ax 2)) (C := RX8) (T := TX8) (N := 22) hx hb hts hi_8 hown hK hP 0 rfl rfl 8 (by decide) (hts (.fieldLink RX8 17 "HubTrainsModel" "data" "[I") (List.mem_of_getElem? (i := 2) rfl)) (fun _ h9 => h9) rfl dX8_deal__9 ?_
  refine lv_iconst (v := 0) hx hb dX8_deal__12 (by decide) ?_
  obtain ⟨h_13, hm⟩ := gd_s hm
  refine va_iald (D := G) hx hb hK hP 2 0 rfl rfl (inb_s h_13) dX8_deal__13 ?_
  obtain ⟨r14, e_14, hm⟩ := bd1_s hm
  refine zcSi (As := [.int p0, .int 0, .int ((x.1.2 1) (0 : Int32).toNatClampNeg)]) (rest := [.ref (ax 0)]) ⟨hx, hb, hml, hown, hts⟩ (k_X8_in l G K c p0 0 ((x.1.2 1) (0 : Int32).toNatClampNeg) r14 e_14) (va_cwS 3 hts gX8_deal__X8_in rfl rfl rfl hd_X8_in.2 ⟨Nat.le_of_ble_eq_true rfl, Nat.le_of_ble_eq_true rfl⟩) hK hN hZ hP hD hS hA [] rfl (by decide) rfl rfl hl.1 rfl (Nat.le_of_ble_eq_true rfl) dX8_deal__14 ⟨Nat.zero_le _, Nat.zero_le _⟩ (fun H locs hP hD hS => ?_)
  have hP : va_P G vwCl (wM c ax ((ss x.1 0 0), x.2)) H := hP
  have hD : va_D A (wM c ax ((ss x.1 0 0), x.2)) := hD
  have J_36 : ∀ (s0_36 : Int32) (H : Heap) (locs : List Loc) (ls : Array Slot), va_P G vwCl (wM c ax ((ss x.1 0 0), x.2)) H → va_D A (wM c ax ((ss x.1 0 0), x.2)) → va_S A s.heap H locs → lv_has ls 4 [(0, .ref (ax 0)), (1, .int p0), (2, .int p1)] → f_X8_deal__J36 x p0 p1 s0_36 = some (r, x_r) → W p l e (rm_X8_deal_) s m args below meth c1 H locs 0 0 Q (F0 m 36 ls [.int s0_36, .ref (ax 0)]) := by
    intro s0_36 H locs ls hP hD hS hl hm
    unfold f_X8_deal__J36 at hm
    refine lv_iconst (v := 1) hx hb dX8_deal__36 (by decide) ?_
    obtain ⟨r37, x37, e_37, hm⟩ := bd2_s hm
    refine zcWi (As := [.int s0_36, .int 1]) (rest := []) ⟨hx, hb, hml, hown, hts⟩ (k_X8_fails l G K c ax ((ss x.1 0 0), x.2) s0_36 1 r37 x37 e_37) (cwV 2 hts gX8_deal__X8_fails rfl rfl rfl hd_X8_fails ⟨Nat.le_of_ble_eq_true rfl, Nat.le_of_ble_eq_true rfl⟩) hK hN hZ hP hD hS hA (va_recv hK hP (ci := 8) (q0 := 0) rfl rfl) rfl hl.1 rfl (Nat.le_of_ble_eq_true rfl) dX8_deal__37 ⟨Nat.zero_le _, Nat.zero_le _⟩ (fun H locs hP hD hS => ?_)
    have hP : va_P G vwCl (wM c ax x37) H := hP
    have hD : va_D A (wM c ax x37) := hD
    refine lv_if_ne (tgt := 66) hx hb dX8_deal__40 (by decide) (fun c_40 => ?_) (fun c_40 => ?_)
    · have hm := ifn c_40 hm
      refine lv_iconst (v := 0) hx hb dX8_deal__66 (by decide) ?_
      exact hend H locs ls _ _ _ rfl (Prod.mk.inj (Option.some.inj hm)).1 (zc1 (fun (z0 : MS) => (wM c ax z0 : va_W)) (Prod.mk.inj (Option.some.inj hm)).2) hP hD hS dX8_deal__67
    · have hm := ifp c_40 hm
      refine lv_aload_n hx hb dX8_deal__43 rfl (lv_at hl 0 rfl) ?_
      refine lv_aload_n hx hb dX8_deal__44 rfl (lv_at hl 0 rfl) ?_
      refine va_get (D := G) (ci := 8) (v := .ref (ax 2)) (C := RX8) (T := TX8) (N := 22) hx hb hts hi_8 hown hK hP 0 rfl rfl 8 (by decide) (hts (.fieldLink RX8 17 "HubTrainsModel" "data" "[I") (List.mem_of_getElem? (i := 2) rfl)) (fun _ h9 => h9) rfl dX8_deal__45 ?_
      refine lv_bipush (v := 8) hx hb dX8_deal__48 (by decide) ?_
      obtain ⟨h_50, hm⟩ := gd_s hm
      refine va_iald (D := G) hx hb hK hP 2 0 rfl rfl (inb_s h_50) dX8_deal__50 ?_
      have J_59 : ∀ (s0_59 : Int32) (H : Heap) (locs : List Loc) (ls : Array Slot), va_P G vwCl (wM c ax x37) H → va_D A (wM c ax x37) → va_S A s.heap H locs → lv_has ls 4 [(0, .ref (ax 0)), (1, .int p0), (2, .int p1)] → f_X8_deal__J59 p0 p1 x37 s0_59 = some (r, x_r) → W p l e (rm_X8_deal_) s m args below meth c1 H locs 0 0 Q (F0 m 59 ls [.int s0_59, .ref (ax 0)]) := by
        intro s0_59 H locs ls hP hD hS hl hm
        unfold f_X8_deal__J59 at hm
        refine lv_iconst (v := 2) hx hb dX8_deal__59 (by decide) ?_
        obtain ⟨r60, x60, e_60, hm⟩ := bd2_s hm
        refine zcWi (As := [.int s0_59, .int 2]) (rest := []) ⟨hx, hb, hml, hown, hts⟩ (k_X8_fails l G K c ax x37 s0_59 2 r60 x60 e_60) (cwV 2 hts gX8_deal__X8_fails rfl rfl rfl hd_X8_fails ⟨Nat.le_of_ble_eq_true rfl, Nat.le_of_ble_eq_true rfl⟩) hK hN hZ hP hD hS hA (va_recv hK hP (ci := 8) (q0 := 0) rfl rfl) rfl hl.1 rfl (Nat.le_of_ble_eq_true rfl) dX8_deal__60 ⟨Nat.zero_le _, Nat.zero_le _⟩ (fun H locs hP hD hS => ?_)
        have hP : va_P G vwCl (wM c ax x60) H := hP
        have hD : va_D A (wM c ax x60) := hD
        refine lv_if_eq (tgt := 68) hx hb dX8_deal__63 (by decide) (fun c_63 => ?_) (fun c_63 => ?_)
        · have hm := ifp c_63 hm
          refine lv_aload_n hx hb dX8_deal__68 rfl (lv_at hl 0 rfl) ?_
          obtain ⟨x69, e_69, hm⟩ := bd1_s hm
          refine zcWv (As := []) (rest := []) ⟨hx, hb, hml, hown, hts⟩ (k_X8_remember l G K c ax x60 x69 e_69) (cwV 0 hts gX8_deal__X8_remember rfl rfl rfl hd_X8_remember ⟨Nat.le_of_ble_eq_true rfl, Nat.le_of_ble_eq_true rfl⟩) hK hN hZ hP hD hS hA (va_recv hK hP (ci := 8) (q0 := 0) rfl rfl) rfl hl.1 rfl (Nat.le_of_ble_eq_true rfl) dX8_deal__69 ⟨Nat.zero_le _, Nat.zero_le _⟩ (fun H locs hP hD hS => ?_)
          have hP : va_P G vwCl (wM c ax x69) H := hP
          have hD : va_D A (wM c ax x69) := hD
          refine lv_iconst (v := 0) hx hb dX8_deal__72 (by decide) ?_
          refine lv_istore_n (lv' := [(3, .int 0), (0, .ref (ax 0)), (1, .int p0), (2, .int p1)]) hx hb dX8_deal__73 rfl hl (by decide) rfl (fun ls hl => ?_)
          have L_74 : ∀ (n_74 : Nat) (v3_74 : Int32) (x_74 : MS) (H : Heap) (locs : List Loc) (ls : Array Slot), va_P G vwCl (wM c ax x_74) H → va_D A (wM c ax x_74) → va_S A s.heap H locs → lv_has ls 4 [(0, .ref (ax 0)), (1, .int p0), (2, .int p1), (3, .int v3_74)] → itr2 (f_X8_deal__B74 p0 p1) n_74 v3_74 x_74 = some (r, x_r) → W p l e (rm_X8_deal_) s m args below meth c1 H locs 0 0 Q (F0 m 74 ls []) := by
            intro n_74
            induction n_74 with
            | zero => intro v3_74 x_74 H locs ls hP hD hS hl hm; exact (itr2_0 hm).elim
            | succ n_74 ih_74 =>
              intro v3_74 x_74 H locs ls hP hD hS hl hm
              have hm := itr2_s hm
              unfold f_X8_deal__B74 at hm
              refine lv_iload_n hx hb dX8_deal__74 rfl (lv_at hl 3 rfl) ?_
              refine lv_bipush (v := 100) hx hb dX8_deal__75 (by decide) ?_
              refine lv_icmp_ge (tgt := 96) hx hb dX8_deal__77 (by decide) (fun c_77 => ?_) (fun c_77 => ?_)
              · have hm := ifp c_77 hm
                refine lv_aload_n hx hb dX8_deal__96 rfl (lv_at hl 0 rfl) ?_
                refine va_get (D := G) (ci := 8) (v := .ref (ax 2)) (C := RX8) (T := TX8) (N := 22) hx hb hts hi_8 hown hK hP 0 rfl rfl 8 (by decide) (hts (.fieldLink RX8 17 "HubTrainsModel" "data" "[I") (List.mem_of_getElem? (i := 2) rfl)) (fun _ h9 => h9) rfl dX8_deal__97 ?_
                refine lv_iconst (v := 3) hx hb dX8_deal__100 (by decide) ?_
                refine lv_iload_n hx hb dX8_deal__101 rfl (lv_at hl 1 rfl) ?_
                obtain ⟨h_102, hm⟩ := gd_s hm
                refine va_iast (D := G) hx hb hK hP hD hS 2 0 rfl rfl (inb_s h_102) dX8_deal__102 (fun H locs hP hD hS => ?_)
                obtain ⟨w102, e_w102⟩ : ∃ z : Nat → Int32, z = upd (x_74.1.2 1) (3 : Int32).toNatClampNeg p0 := ⟨_, rfl⟩
                have hP : va_P G vwCl (wM c ax ((sa x_74.1 1 w102), x_74.2)) H := by rw [e_w102]; exact hP
                have hD : va_D A (wM c ax ((sa x_74.1 1 w102), x_74.2)) := by rw [e_w102]; exact hD
                have hm := nmd_s hm w102 e_w102
                refine lv_aload_n hx hb dX8_deal__103 rfl (lv_at hl 0 rfl) ?_
                refine va_get (D := G) (ci := 8) (v := .ref (ax 2)) (C := RX8) (T := TX8) (N := 22) hx hb hts hi_8 hown hK hP 0 rfl rfl 8 (by decide) (hts (.fieldLink RX8 17 "HubTrainsModel" "data" "[I") (List.mem_of_getElem? (i := 2) rfl)) (fun _ h9 => h9) rfl dX8_deal__104 ?_
                refine lv_bipush (v := 11) hx hb dX8_deal__107 (by decide) ?_
                refine lv_iload_n hx hb dX8_deal__109 rfl (lv_at hl 2 rfl) ?_
                obtain ⟨h_110, hm⟩ := gd_s hm
                refine va_iast (D := G) hx hb hK hP hD hS 2 0 rfl rfl (inb_s h_110) dX8_deal__110 (fun H locs hP hD hS => ?_)
                obtain ⟨w110, e_w110⟩ : ∃ z : Nat → Int32, z = upd w102 (11 : Int32).toNatClampNeg p1 := ⟨_, rfl⟩
                have hP : va_P G vwCl (wM c ax ((sa x_74.1 1 w110), x_74.2)) H := by rw [e_w110]; exact hP
                have hD : va_D A (wM c ax ((sa x_74.1 1 w110), x_74.2)) := by rw [e_w110]; exact hD
                have hm := nmd_s hm w110 e_w110
                refine lv_aload_n hx hb dX8_deal__111 rfl (lv_at hl 0 rfl) ?_
                refine va_get (D := G) (ci := 8) (v := .ref (ax 2)) (C := RX8) (T := TX8) (N := 22) hx hb hts hi_8 hown hK hP 0 rfl rfl 8 (by decide) (hts (.fieldLink RX8 17 "HubTrainsModel" "data" "[I") (List.mem_of_getElem? (i := 2) rfl)) (fun _ h9 => h9) rfl dX8_deal__112 ?_
                obtain ⟨h0115, e_115, hm⟩ := bd1_s hm
                refine zcSv (As := [.ref (ax 2)]) (rest := []) ⟨hx, hb, hml, hown, hts⟩ (k_X8_deal l G K c (ax 2) 1464 w110 h0115 e_115) (va_cwS 1 hts gX8_deal__X8_deal rfl rfl rfl hd_X8_deal.2 ⟨Nat.le_of_ble_eq_true rfl, Nat.le_of_ble_eq_true rfl⟩) hK hN hZ hP hD hS hA [2] rfl (by decide) rfl rfl hl.1 rfl (Nat.le_of_ble_eq_true rfl) dX8_deal__115 ⟨Nat.zero_le _, Nat.zero_le _⟩ (fun H locs hP hD hS => ?_)
                have hP : va_P G vwCl (wM c ax ((sa x_74.1 1 h0115), x_74.2)) H := hP
                have hD : va_D A (wM c ax ((sa x_74.1 1 h0115), x_74.2)) := hD
                refine lv_aload_n hx hb dX8_deal__118 rfl (lv_at hl 0 rfl) ?_
                refine va_get (D := G) (ci := 8) (v := .ref (ax 2)) (C := RX8) (T := TX8) (N := 22) hx hb hts hi_8 hown hK hP 0 rfl rfl 8 (by decide) (hts (.fieldLink RX8 17 "HubTrainsModel" "data" "[I") (List.mem_of_getElem? (i := 2) rfl)) (fun _ h9 => h9) rfl dX8_deal__119 ?_
                refine lv_bipush (v := 7) hx hb dX8_deal__122 (by decide) ?_
                obtain ⟨h_124, hm⟩ := gd_s hm
                refine va_iald (D := G) hx hb hK hP 2 0 rfl rfl (inb_s h_124) dX8_deal__124 ?_
                exact hend H locs ls _ _ _ rfl (Prod.mk.inj (Option.some.inj hm)).1 (zc1 (fun (z0 : MS) => (wM c ax z0 : va_W)) (Prod.mk.inj (Option.some.inj hm)).2) hP hD hS dX8_deal__125
              · have hm := ifn c_77 hm
                refine lv_aload_n hx hb dX8_deal__80 rfl (lv_at hl 0 rfl) ?_
                refine va_get (D := G) (ci := 8) (v := .ref (ax 2)) (C := RX8) (T := TX8) (N := 22) hx hb hts hi_8 hown hK hP 0 rfl rfl 8 (by decide) (hts (.fieldLink RX8 17 "HubTrainsModel" "data" "[I") (List.mem_of_getElem? (i := 2) rfl)) (fun _ h9 => h9) rfl dX8_deal__81 ?_
                refine lv_bipush (v := 19) hx hb dX8_deal__84 (by decide) ?_
                refine lv_iload_n hx hb dX8_deal__86 rfl (lv_at hl 3 rfl) ?_
                refine lv_iadd hx hb dX8_deal__87 ?_
                refine lv_iconst (v := (-1)) hx hb dX8_deal__88 (by decide) ?_
                obtain ⟨h_89, hm⟩ := gd_s hm
                refine va_iast (D := G) hx hb hK hP hD hS 2 0 rfl rfl (inb_s h_89) dX8_deal__89 (fun H locs hP hD hS => ?_)
                obtain ⟨w89, e_w89⟩ : ∃ z : Nat → Int32, z = upd (x_74.1.2 1) (19 + v3_74).toNatClampNeg (-1) := ⟨_, rfl⟩
                have hP : va_P G vwCl (wM c ax ((sa x_74.1 1 w89), x_74.2)) H := by rw [e_w89]; exact hP
                have hD : va_D A (wM c ax ((sa x_74.1 1 w89), x_74.2)) := by rw [e_w89]; exact hD
                have hm := nmd_s hm w89 e_w89
                refine lv_iinc (k := 3) (v := (v3_74 + 1)) (lv' := [(3, .int (v3_74 + 1)), (0, .ref (ax 0)), (1, .int p0), (2, .int p1)]) hx hb dX8_deal__90 hl rfl rfl (by decide) rfl (fun ls hl => ?_)
                refine lv_goto (tgt := 74) hx hb dX8_deal__93 (by decide) ?_
                exact ih_74 (v3_74 + 1) ((sa x_74.1 1 w89), x_74.2) H locs ls hP hD hS (lv_sub hl [1, 2, 3, 0] rfl) hm
          exact L_74 FUEL 0 x69 H locs ls hP hD hS (lv_sub hl [1, 2, 3, 0] rfl) hm
        · have hm := ifn c_63 hm
          refine lv_iconst (v := 0) hx hb dX8_deal__66 (by decide) ?_
          exact hend H locs ls _ _ _ rfl (Prod.mk.inj (Option.some.inj hm)).1 (zc1 (fun (z0 : MS) => (wM c ax z0 : va_W)) (Prod.mk.inj (Option.some.inj hm)).2) hP hD hS dX8_deal__67
      refine lv_if_ne (tgt := 58) hx hb dX8_deal__51 (by decide) (fun c_51 => ?_) (fun c_51 => ?_)
      · have hm := ifn c_51 hm
        refine lv_iconst (v := 0) hx hb dX8_deal__58 (by decide) ?_
        exact J_59 0 H locs ls hP hD hS (lv_sub hl [0, 1, 2] rfl) hm
      · have hm := ifp c_51 hm
        refine lv_iconst (v := 1) hx hb dX8_deal__54 (by decide) ?_
        refine lv_goto (tgt := 59) hx hb dX8_deal__55 (by decide) ?_
        exact J_59 1 H locs ls hP hD hS (lv_sub hl [0, 1, 2] rfl) hm
  refine lv_if_eq (tgt := 31) hx hb dX8_deal__17 (by decide) (fun c_17 => ?_) (fun c_17 => ?_)
  · have hm := ifp c_17 hm
    refine lv_iconst (v := 1) hx hb dX8_deal__31 (by decide) ?_
    refine lv_goto (tgt := 36) hx hb dX8_deal__32 (by decide) ?_
    exact J_36 1 H locs ls hP hD hS (lv_sub hl [0, 1, 2] rfl) hm
  · have hm := ifn c_17 hm
    refine lv_iload_n hx hb dX8_deal__20 rfl (lv_at hl 2 rfl) ?_
    refine lv_iconst (v := 0) hx hb dX8_deal__21 (by decide) ?_
    refine lv_sipush (v := 9999) hx hb dX8_deal__22 (by decide) ?_
    obtain ⟨r25, e_25, hm⟩ := bd1_s hm
    refine zcSi (As := [.int p1, .int 0, .int 9999]) (rest := [.ref (ax 0)]) ⟨hx, hb, hml, hown, hts⟩ (k_X8_in l G K c p1 0 9999 r25 e_25) (va_cwS 3 hts gX8_deal__X8_in rfl rfl rfl hd_X8_in.2 ⟨Nat.le_of_ble_eq_true rfl, Nat.le_of_ble_eq_true rfl⟩) hK hN hZ hP hD hS hA [] rfl (by decide) rfl rfl hl.1 rfl (Nat.le_of_ble_eq_true rfl) dX8_deal__25 ⟨Nat.zero_le _, Nat.zero_le _⟩ (fun H locs hP hD hS => ?_)
    have hP : va_P G vwCl (wM c ax ((ss x.1 0 0), x.2)) H := hP
    have hD : va_D A (wM c ax ((ss x.1 0 0), x.2)) := hD
    refine lv_if_ne (tgt := 35) hx hb dX8_deal__28 (by decide) (fun c_28 => ?_) (fun c_28 => ?_)
    · have hm := ifn c_28 hm
      refine lv_iconst (v := 0) hx hb dX8_deal__35 (by decide) ?_
      exact J_36 0 H locs ls hP hD hS (lv_sub hl [0, 1, 2] rfl) hm
    · have hm := ifp c_28 hm
      refine lv_iconst (v := 1) hx hb dX8_deal__31 (by decide) ?_
      refine lv_goto (tgt := 36) hx hb dX8_deal__32 (by decide) ?_
      exact J_36 1 H locs ls hP hD hS (lv_sub hl [0, 1, 2] rfl) hm
