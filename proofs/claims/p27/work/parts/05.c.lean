def f_X2_acrossTile_J22 (p0 : Int32) (p1 : Int32) (v2_22 : Int32) : Option Int32 :=
  bd1 (f_X7_highNumber p0) fun (r25 : Int32) => if (p1 &&& ((1 : Int32) <<< (r25 &&& 31))) = 0 then (some (v2_22)) else (bd1 (f_X7_lowNumber p0) fun (r36 : Int32) => nmd (v2_22 ||| ((1 : Int32) <<< (r36 &&& 31))) fun (x2_41 : Int32) => some (x2_41))

def f_X2_acrossTile (p0 : Int32) (p1 : Int32) : Option Int32 :=
  bd1 (f_X7_lowNumber p0) fun (r5 : Int32) => if (p1 &&& ((1 : Int32) <<< (r5 &&& 31))) = 0 then (f_X2_acrossTile_J22 p0 p1 0) else (bd1 (f_X7_highNumber p0) fun (r16 : Int32) => nmd (0 ||| ((1 : Int32) <<< (r16 &&& 31))) fun (x2_21 : Int32) => f_X2_acrossTile_J22 p0 p1 x2_21)

abbrev rm_X2_acrossTile : Room := { frames := 1, cells := 0, slots := 0, locals := 20 }
theorem hd_X2_acrossTile : yX2_acrossTile.cls = RX2 ∧ yX2_acrossTile.cls ≠ "java/lang/invoke/MethodHandle" ∧ yX2_acrossTile.cls ≠ "java/lang/invoke/VarHandle" ∧ (parseMethodDescriptor yX2_acrossTile.desc).map (fun d => d.parameters.length) = some 2 := by decide +kernel
set_option maxHeartbeats 4000000 in
set_option maxRecDepth 100000 in
theorem k_X2_acrossTile (l : Launch) (G : va_G) (K : (Nat → Nat) × (Nat → Nat)) (c : Nat → ClassId) (p0 : Int32) (p1 : Int32) (r : Int32) (hm : f_X2_acrossTile p0 p1 = some (r)) : zMi l yX2_acrossTile wsX2_acrossTile (rm_X2_acrossTile) G K (TY c) [.int p0, .int p1] ([]) ([]) r := by
  refine zMi.of (cc := cX2_acrossTile) (maxL := 3) (lv := [(0, .int p0), (1, .int p1)]) (by decide) rfl (Nat.le_of_ble_eq_true rfl) rfl ?_
  intro p e s m args below meth c1 A Q H locs hx hb hml hown hts hK hN hZ hP hD hA hS hend ls hl
  have hown : s.vm.findClass RX2 = some m.cls := hown
  unfold f_X2_acrossTile at hm
  refine lv_iconst (v := 0) hx hb dX2_acrossTile_0 (by decide) ?_
  refine lv_istore_n (lv' := [(2, .int 0), (0, .int p0), (1, .int p1)]) hx hb dX2_acrossTile_1 rfl hl (by decide) rfl (fun ls hl => ?_)
  refine lv_iload_n hx hb dX2_acrossTile_2 rfl (lv_at hl 2 rfl) ?_
  refine lv_iconst (v := 1) hx hb dX2_acrossTile_3 (by decide) ?_
  refine lv_iload_n hx hb dX2_acrossTile_4 rfl (lv_at hl 1 rfl) ?_
  obtain ⟨r5, e_5, hm⟩ := bd1_s hm
  refine zcSNi (As := [.int p0]) (rest := [.int 1, .int p1]) ⟨hx, hb, hml, hown, hts⟩ (k_X7_lowNumber l G K c p0 r5 e_5) ⟨va_cnB 1 hts gX2_acrossTile_X7_lowNumber_n72 rfl rfl rfl (nwm_HubTrains_RowSearch_72 hN.2.1) (hts (.initialized RX7) (List.mem_of_getElem? (i := 2) rfl)) hd_X7_lowNumber.2 ⟨Nat.le_of_ble_eq_true rfl, Nat.le_of_ble_eq_true rfl⟩, (hts (.static yX7_lowNumber) (List.mem_of_getElem? (i := 1) rfl)), trivial⟩ hK hN hZ hP hD hS hA [] rfl (by decide) rfl rfl hl.1 rfl (Nat.le_of_ble_eq_true rfl) dX2_acrossTile_5 ⟨Nat.zero_le _, Nat.zero_le _⟩ (fun H locs hP hD hS => ?_)
  have hP : va_P G vwCl ([]) H := hP
  have hD : va_D A ([]) := hD
  refine lv_ishl hx hb dX2_acrossTile_8 ?_
  refine lv_iand hx hb dX2_acrossTile_9 ?_
  have J_22 : ∀ (v2_22 : Int32) (H : Heap) (locs : List Loc) (ls : Array Slot), va_P G vwCl ([]) H → va_D A ([]) → va_S A s.heap H locs → lv_has ls 3 [(0, .int p0), (1, .int p1), (2, .int v2_22)] → f_X2_acrossTile_J22 p0 p1 v2_22 = some (r) → W p l e (rm_X2_acrossTile) s m args below meth c1 H locs 0 0 Q (F0 m 22 ls []) := by
    intro v2_22 H locs ls hP hD hS hl hm
    unfold f_X2_acrossTile_J22 at hm
    refine lv_iload_n hx hb dX2_acrossTile_22 rfl (lv_at hl 1 rfl) ?_
    refine lv_iconst (v := 1) hx hb dX2_acrossTile_23 (by decide) ?_
    refine lv_iload_n hx hb dX2_acrossTile_24 rfl (lv_at hl 0 rfl) ?_
    obtain ⟨r25, e_25, hm⟩ := bd1_s hm
    refine zcSNi (As := [.int p0]) (rest := [.int 1, .int p1]) ⟨hx, hb, hml, hown, hts⟩ (k_X7_highNumber l G K c p0 r25 e_25) ⟨va_cnB 1 hts gX2_acrossTile_X7_highNumber_n75 rfl rfl rfl (nwm_HubTrains_RowSearch_75 hN.2.1) (hts (.initialized RX7) (List.mem_of_getElem? (i := 2) rfl)) hd_X7_highNumber.2 ⟨Nat.le_of_ble_eq_true rfl, Nat.le_of_ble_eq_true rfl⟩, (hts (.static yX7_highNumber) (List.mem_of_getElem? (i := 4) rfl)), trivial⟩ hK hN hZ hP hD hS hA [] rfl (by decide) rfl rfl hl.1 rfl (Nat.le_of_ble_eq_true rfl) dX2_acrossTile_25 ⟨Nat.zero_le _, Nat.zero_le _⟩ (fun H locs hP hD hS => ?_)
    have hP : va_P G vwCl ([]) H := hP
    have hD : va_D A ([]) := hD
    refine lv_ishl hx hb dX2_acrossTile_28 ?_
    refine lv_iand hx hb dX2_acrossTile_29 ?_
    refine lv_if_eq (tgt := 42) hx hb dX2_acrossTile_30 (by decide) (fun c_30 => ?_) (fun c_30 => ?_)
    · have hm := ifp c_30 hm
      refine lv_iload_n hx hb dX2_acrossTile_42 rfl (lv_at hl 2 rfl) ?_
      exact hend H locs ls _ _ _ rfl (Option.some.inj hm) rfl hP hD hS dX2_acrossTile_43
    · have hm := ifn c_30 hm
      refine lv_iload_n hx hb dX2_acrossTile_33 rfl (lv_at hl 2 rfl) ?_
      refine lv_iconst (v := 1) hx hb dX2_acrossTile_34 (by decide) ?_
      refine lv_iload_n hx hb dX2_acrossTile_35 rfl (lv_at hl 0 rfl) ?_
      obtain ⟨r36, e_36, hm⟩ := bd1_s hm
      refine zcSNi (As := [.int p0]) (rest := [.int 1, .int v2_22]) ⟨hx, hb, hml, hown, hts⟩ (k_X7_lowNumber l G K c p0 r36 e_36) ⟨va_cnB 1 hts gX2_acrossTile_X7_lowNumber_n72 rfl rfl rfl (nwm_HubTrains_RowSearch_72 hN.2.1) (hts (.initialized RX7) (List.mem_of_getElem? (i := 2) rfl)) hd_X7_lowNumber.2 ⟨Nat.le_of_ble_eq_true rfl, Nat.le_of_ble_eq_true rfl⟩, (hts (.static yX7_lowNumber) (List.mem_of_getElem? (i := 1) rfl)), trivial⟩ hK hN hZ hP hD hS hA [] rfl (by decide) rfl rfl hl.1 rfl (Nat.le_of_ble_eq_true rfl) dX2_acrossTile_36 ⟨Nat.zero_le _, Nat.zero_le _⟩ (fun H locs hP hD hS => ?_)
      have hP : va_P G vwCl ([]) H := hP
      have hD : va_D A ([]) := hD
      refine lv_ishl hx hb dX2_acrossTile_39 ?_
      refine lv_ior hx hb dX2_acrossTile_40 ?_
      refine lv_topi (fun x2_41 e_x2_41 => ?_)
      have hm := nmd_s hm x2_41 e_x2_41
      refine lv_istore_n (lv' := [(2, .int x2_41), (0, .int p0), (1, .int p1)]) hx hb dX2_acrossTile_41 rfl hl (by decide) rfl (fun ls hl => ?_)
      refine lv_iload_n hx hb dX2_acrossTile_42 rfl (lv_at hl 0 rfl) ?_
      exact hend H locs ls _ _ _ rfl (Option.some.inj hm) rfl hP hD hS dX2_acrossTile_43
  refine lv_if_eq (tgt := 22) hx hb dX2_acrossTile_10 (by decide) (fun c_10 => ?_) (fun c_10 => ?_)
  · have hm := ifp c_10 hm
    exact J_22 0 H locs ls hP hD hS (lv_sub hl [1, 2, 0] rfl) hm
  · have hm := ifn c_10 hm
    refine lv_iload_n hx hb dX2_acrossTile_13 rfl (lv_at hl 0 rfl) ?_
    refine lv_iconst (v := 1) hx hb dX2_acrossTile_14 (by decide) ?_
    refine lv_iload_n hx hb dX2_acrossTile_15 rfl (lv_at hl 1 rfl) ?_
    obtain ⟨r16, e_16, hm⟩ := bd1_s hm
    refine zcSNi (As := [.int p0]) (rest := [.int 1, .int 0]) ⟨hx, hb, hml, hown, hts⟩ (k_X7_highNumber l G K c p0 r16 e_16) ⟨va_cnB 1 hts gX2_acrossTile_X7_highNumber_n75 rfl rfl rfl (nwm_HubTrains_RowSearch_75 hN.2.1) (hts (.initialized RX7) (List.mem_of_getElem? (i := 2) rfl)) hd_X7_highNumber.2 ⟨Nat.le_of_ble_eq_true rfl, Nat.le_of_ble_eq_true rfl⟩, (hts (.static yX7_highNumber) (List.mem_of_getElem? (i := 4) rfl)), trivial⟩ hK hN hZ hP hD hS hA [] rfl (by decide) rfl rfl hl.1 rfl (Nat.le_of_ble_eq_true rfl) dX2_acrossTile_16 ⟨Nat.zero_le _, Nat.zero_le _⟩ (fun H locs hP hD hS => ?_)
    have hP : va_P G vwCl ([]) H := hP
    have hD : va_D A ([]) := hD
    refine lv_ishl hx hb dX2_acrossTile_19 ?_
    refine lv_ior hx hb dX2_acrossTile_20 ?_
    refine lv_topi (fun x2_21 e_x2_21 => ?_)
    have hm := nmd_s hm x2_21 e_x2_21
    refine lv_istore_n (lv' := [(2, .int x2_21), (0, .int p0), (1, .int p1)]) hx hb dX2_acrossTile_21 rfl hl (by decide) rfl (fun ls hl => ?_)
    exact J_22 x2_21 H locs ls hP hD hS (lv_sub hl [1, 2, 0] rfl) hm

def f_X2_forget_B2  (rec_2 : Int32 → SA → Option SA) (v1_2 : Int32) (rs_2 : SA) : Option SA :=
  if (rs_2.1 2) ≤ v1_2 then (some ((ss (ss rs_2 2 0) 0 0))) else (if (4096 : Int32) ≤ v1_2 then (some ((ss (ss rs_2 2 0) 0 0))) else (bd1 (f_X7_look 4096 (rs_2.2 1) v1_2) fun (r26 : Int32) => bd1 (f_X7_put 4096 (rs_2.2 2) r26 0) fun (h030 : Nat → Int32) => bd1 (f_X7_look 4096 (rs_2.2 1) v1_2) fun (r42 : Int32) => bd1 (f_X7_put 4096 (rs_2.2 3) r42 0) fun (h046 : Nat → Int32) => rec_2 (v1_2 + 1) (sa (sa rs_2 2 h030) 3 h046)))

def f_X2_forget (rs : SA) : Option SA :=
  itr2 f_X2_forget_B2 FUEL 0 rs

abbrev rm_X2_forget : Room := { frames := 1, cells := 0, slots := 0, locals := 22 }
theorem hd_X2_forget : yX2_forget.cls = RX2 ∧ yX2_forget.cls ≠ "java/lang/invoke/MethodHandle" ∧ yX2_forget.cls ≠ "java/lang/invoke/VarHandle" ∧ (parseMethodDescriptor yX2_forget.desc).map (fun d => d.parameters.length) = some 0 := by decide +kernel
set_option maxHeartbeats 4000000 in
set_option maxRecDepth 100000 in
theorem k_X2_forget (l : Launch) (G : va_G) (K : (Nat → Nat) × (Nat → Nat)) (c : Nat → ClassId) (rsa0 : Nat) (rsa1 : Nat) (rsa2 : Nat) (rsa3 : Nat) (rsa4 : Nat) (rs : SA) (rs_r : SA) (hm : f_X2_forget rs = some (rs_r)) : zMv l yX2_forget wsX2_forget (rm_X2_forget) G K (TY c) [.ref rsa0] (wS c rsa0 rsa1 rsa2 rsa3 rsa4 rs) (wS c rsa0 rsa1 rsa2 rsa3 rsa4 rs_r) := by
  refine zMv.of (cc := cX2_forget) (maxL := 2) (lv := [(0, .ref rsa0)]) (by decide) rfl (Nat.le_of_ble_eq_true rfl) rfl ?_
  intro p e s m args below meth c1 A Q H locs hx hb hml hown hts hK hN hZ hP hD hA hS hend ls hl
  have hown : s.vm.findClass RX2 = some m.cls := hown
  have hi_2 : ∀ w ∈ wsX20, w ∈ wsX2_forget := (fun w h => List.mem_cons_of_mem _ (List.mem_append_right _ (h)))
  unfold f_X2_forget at hm
  refine lv_iconst (v := 0) hx hb dX2_forget_0 (by decide) ?_
  refine lv_istore_n (lv' := [(1, .int 0), (0, .ref rsa0)]) hx hb dX2_forget_1 rfl hl (by decide) rfl (fun ls hl => ?_)
  have L_2 : ∀ (n_2 : Nat) (v1_2 : Int32) (rs_2 : SA) (H : Heap) (locs : List Loc) (ls : Array Slot), va_P G vwCl (wS c rsa0 rsa1 rsa2 rsa3 rsa4 rs_2) H → va_D A (wS c rsa0 rsa1 rsa2 rsa3 rsa4 rs_2) → va_S A s.heap H locs → lv_has ls 2 [(0, .ref rsa0), (1, .int v1_2)] → itr2 f_X2_forget_B2 n_2 v1_2 rs_2 = some (rs_r) → W p l e (rm_X2_forget) s m args below meth c1 H locs 0 0 Q (F0 m 2 ls []) := by
    intro n_2
    induction n_2 with
    | zero => intro v1_2 rs_2 H locs ls hP hD hS hl hm; exact (itr2_0 hm).elim
    | succ n_2 ih_2 =>
      intro v1_2 rs_2 H locs ls hP hD hS hl hm
      have hm := itr2_s hm
      unfold f_X2_forget_B2 at hm
      refine lv_iload_n hx hb dX2_forget_2 rfl (lv_at hl 1 rfl) ?_
      refine lv_aload_n hx hb dX2_forget_3 rfl (lv_at hl 0 rfl) ?_
      refine va_get (D := G) (ci := 2) (v := .int (rs_2.1 2)) (C := RX2) (T := TX2) (N := 7) hx hb hts hi_2 hown hK hP 0 rfl rfl 4 (by decide) (hts (.fieldLink RX2 57 "HubTrains$RowSearch" "found" "I") (List.mem_of_getElem? (i := 1) rfl)) (fun _ h9 => h9) rfl dX2_forget_4 ?_
      refine lv_icmp_ge (tgt := 55) hx hb dX2_forget_7 (by decide) (fun c_7 => ?_) (fun c_7 => ?_)
      · have hm := ifp c_7 hm
        refine lv_aload_n hx hb dX2_forget_55 rfl (lv_at hl 0 rfl) ?_
        refine lv_iconst (v := 0) hx hb dX2_forget_56 (by decide) ?_
        refine va_put (D := G) (ci := 2) (v := .int 0) (C := RX2) (T := TX2) (N := 7) hx hb hts hi_2 tyX2 tyX2_ok nmX2 hown hK hP hD hS 0 rfl rfl 4 (by decide) (hts (.fieldLink RX2 57 "HubTrains$RowSearch" "found" "I") (List.mem_of_getElem? (i := 1) rfl)) (fun _ h9 => h9) rfl (tyX2_ok 4 (by decide)) rfl rfl (Nat.le_of_ble_eq_true rfl) dX2_forget_57 (fun H locs hP hD hS => ?_)
        have hP : va_P G vwCl (wS c rsa0 rsa1 rsa2 rsa3 rsa4 (ss rs_2 2 0)) H := hP
        have hD : va_D A (wS c rsa0 rsa1 rsa2 rsa3 rsa4 (ss rs_2 2 0)) := hD
        refine lv_aload_n hx hb dX2_forget_60 rfl (lv_at hl 0 rfl) ?_
        refine lv_iconst (v := 0) hx hb dX2_forget_61 (by decide) ?_
        refine va_put (D := G) (ci := 2) (v := .int 0) (C := RX2) (T := TX2) (N := 7) hx hb hts hi_2 tyX2 tyX2_ok nmX2 hown hK hP hD hS 0 rfl rfl 1 (by decide) (hts (.fieldLink RX2 27 "HubTrains$RowSearch" "size" "I") (List.mem_of_getElem? (i := 5) rfl)) (fun _ h9 => h9) rfl (tyX2_ok 1 (by decide)) rfl rfl (Nat.le_of_ble_eq_true rfl) dX2_forget_62 (fun H locs hP hD hS => ?_)
        have hP : va_P G vwCl (wS c rsa0 rsa1 rsa2 rsa3 rsa4 (ss (ss rs_2 2 0) 0 0)) H := hP
        have hD : va_D A (wS c rsa0 rsa1 rsa2 rsa3 rsa4 (ss (ss rs_2 2 0) 0 0)) := hD
        exact hend H locs ls _ _ (zc1 (fun (z0 : SA) => (wS c rsa0 rsa1 rsa2 rsa3 rsa4 z0 : va_W)) (Option.some.inj hm)) hP hD hS dX2_forget_65
      · have hm := ifn c_7 hm
        refine lv_iload_n hx hb dX2_forget_10 rfl (lv_at hl 1 rfl) ?_
        refine lv_sipush (v := 4096) hx hb dX2_forget_11 (by decide) ?_
        refine lv_icmp_ge (tgt := 55) hx hb dX2_forget_14 (by decide) (fun c_14 => ?_) (fun c_14 => ?_)
        · have hm := ifp c_14 hm
          refine lv_aload_n hx hb dX2_forget_55 rfl (lv_at hl 0 rfl) ?_
          refine lv_iconst (v := 0) hx hb dX2_forget_56 (by decide) ?_
          refine va_put (D := G) (ci := 2) (v := .int 0) (C := RX2) (T := TX2) (N := 7) hx hb hts hi_2 tyX2 tyX2_ok nmX2 hown hK hP hD hS 0 rfl rfl 4 (by decide) (hts (.fieldLink RX2 57 "HubTrains$RowSearch" "found" "I") (List.mem_of_getElem? (i := 1) rfl)) (fun _ h9 => h9) rfl (tyX2_ok 4 (by decide)) rfl rfl (Nat.le_of_ble_eq_true rfl) dX2_forget_57 (fun H locs hP hD hS => ?_)
          have hP : va_P G vwCl (wS c rsa0 rsa1 rsa2 rsa3 rsa4 (ss rs_2 2 0)) H := hP
          have hD : va_D A (wS c rsa0 rsa1 rsa2 rsa3 rsa4 (ss rs_2 2 0)) := hD
          refine lv_aload_n hx hb dX2_forget_60 rfl (lv_at hl 0 rfl) ?_
          refine lv_iconst (v := 0) hx hb dX2_forget_61 (by decide) ?_
          refine va_put (D := G) (ci := 2) (v := .int 0) (C := RX2) (T := TX2) (N := 7) hx hb hts hi_2 tyX2 tyX2_ok nmX2 hown hK hP hD hS 0 rfl rfl 1 (by decide) (hts (.fieldLink RX2 27 "HubTrains$RowSearch" "size" "I") (List.mem_of_getElem? (i := 5) rfl)) (fun _ h9 => h9) rfl (tyX2_ok 1 (by decide)) rfl rfl (Nat.le_of_ble_eq_true rfl) dX2_forget_62 (fun H locs hP hD hS => ?_)
          have hP : va_P G vwCl (wS c rsa0 rsa1 rsa2 rsa3 rsa4 (ss (ss rs_2 2 0) 0 0)) H := hP
          have hD : va_D A (wS c rsa0 rsa1 rsa2 rsa3 rsa4 (ss (ss rs_2 2 0) 0 0)) := hD
          exact hend H locs ls _ _ (zc1 (fun (z0 : SA) => (wS c rsa0 rsa1 rsa2 rsa3 rsa4 z0 : va_W)) (Option.some.inj hm)) hP hD hS dX2_forget_65
        · have hm := ifn c_14 hm
          refine lv_aload_n hx hb dX2_forget_17 rfl (lv_at hl 0 rfl) ?_
          refine va_get (D := G) (ci := 2) (v := .ref rsa3) (C := RX2) (T := TX2) (N := 7) hx hb hts hi_2 hown hK hP 0 rfl rfl 5 (by decide) (hts (.fieldLink RX2 18 "HubTrains$RowSearch" "ends" "[I") (List.mem_of_getElem? (i := 2) rfl)) (fun _ h9 => h9) rfl dX2_forget_18 ?_
          refine lv_aload_n hx hb dX2_forget_21 rfl (lv_at hl 0 rfl) ?_
          refine va_get (D := G) (ci := 2) (v := .ref rsa2) (C := RX2) (T := TX2) (N := 7) hx hb hts hi_2 hown hK hP 0 rfl rfl 3 (by decide) (hts (.fieldLink RX2 15 "HubTrains$RowSearch" "masks" "[I") (List.mem_of_getElem? (i := 3) rfl)) (fun _ h9 => h9) rfl dX2_forget_22 ?_
          refine lv_iload_n hx hb dX2_forget_25 rfl (lv_at hl 1 rfl) ?_
          obtain ⟨r26, e_26, hm⟩ := bd1_s hm
          refine zcSNi (As := [.ref rsa2, .int v1_2]) (rest := [.ref rsa3]) ⟨hx, hb, hml, hown, hts⟩ (k_X7_look l G K c rsa2 4096 (rs_2.2 1) v1_2 r26 e_26) ⟨va_cnB 2 hts gX2_forget_X7_look_n60 rfl rfl rfl (nwm_HubTrains_RowSearch_60 hN.2.1) (hts (.initialized RX7) (List.mem_of_getElem? (i := 7) rfl)) hd_X7_look.2 ⟨Nat.le_of_ble_eq_true rfl, Nat.le_of_ble_eq_true rfl⟩, (hts (.static yX7_look) (List.mem_of_getElem? (i := 6) rfl)), trivial⟩ hK hN hZ hP hD hS hA [2] rfl (by decide) rfl rfl hl.1 rfl (Nat.le_of_ble_eq_true rfl) dX2_forget_26 ⟨Nat.zero_le _, Nat.zero_le _⟩ (fun H locs hP hD hS => ?_)
          have hP : va_P G vwCl (wS c rsa0 rsa1 rsa2 rsa3 rsa4 rs_2) H := hP
          have hD : va_D A (wS c rsa0 rsa1 rsa2 rsa3 rsa4 rs_2) := hD
          refine lv_iconst (v := 0) hx hb dX2_forget_29 (by decide) ?_
          obtain ⟨h030, e_30, hm⟩ := bd1_s hm
          refine zcSNv (As := [.ref rsa3, .int r26, .int 0]) (rest := []) ⟨hx, hb, hml, hown, hts⟩ (k_X7_put l G K c rsa3 4096 (rs_2.2 2) r26 0 h030 e_30) ⟨va_cnB 3 hts gX2_forget_X7_put_n37 rfl rfl rfl (nwm_HubTrains_RowSearch_37 hN.2.1) (hts (.initialized RX7) (List.mem_of_getElem? (i := 7) rfl)) hd_X7_put.2 ⟨Nat.le_of_ble_eq_true rfl, Nat.le_of_ble_eq_true rfl⟩, (hts (.static yX7_put) (List.mem_of_getElem? (i := 9) rfl)), trivial⟩ hK hN hZ hP hD hS hA [3] rfl (by decide) rfl rfl hl.1 rfl (Nat.le_of_ble_eq_true rfl) dX2_forget_30 ⟨Nat.zero_le _, Nat.zero_le _⟩ (fun H locs hP hD hS => ?_)
          have hP : va_P G vwCl (wS c rsa0 rsa1 rsa2 rsa3 rsa4 (sa rs_2 2 h030)) H := hP
          have hD : va_D A (wS c rsa0 rsa1 rsa2 rsa3 rsa4 (sa rs_2 2 h030)) := hD
          refine lv_aload_n hx hb dX2_forget_33 rfl (lv_at hl 0 rfl) ?_
          refine va_get (D := G) (ci := 2) (v := .ref rsa4) (C := RX2) (T := TX2) (N := 7) hx hb hts hi_2 hown hK hP 0 rfl rfl 6 (by decide) (hts (.fieldLink RX2 21 "HubTrains$RowSearch" "hopeful" "[I") (List.mem_of_getElem? (i := 4) rfl)) (fun _ h9 => h9) rfl dX2_forget_34 ?_
          refine lv_aload_n hx hb dX2_forget_37 rfl (lv_at hl 0 rfl) ?_
          refine va_get (D := G) (ci := 2) (v := .ref rsa2) (C := RX2) (T := TX2) (N := 7) hx hb hts hi_2 hown hK hP 0 rfl rfl 3 (by decide) (hts (.fieldLink RX2 15 "HubTrains$RowSearch" "masks" "[I") (List.mem_of_getElem? (i := 3) rfl)) (fun _ h9 => h9) rfl dX2_forget_38 ?_
          refine lv_iload_n hx hb dX2_forget_41 rfl (lv_at hl 1 rfl) ?_
          obtain ⟨r42, e_42, hm⟩ := bd1_s hm
          refine zcSNi (As := [.ref rsa2, .int v1_2]) (rest := [.ref rsa4]) ⟨hx, hb, hml, hown, hts⟩ (k_X7_look l G K c rsa2 4096 (rs_2.2 1) v1_2 r42 e_42) ⟨va_cnB 2 hts gX2_forget_X7_look_n60 rfl rfl rfl (nwm_HubTrains_RowSearch_60 hN.2.1) (hts (.initialized RX7) (List.mem_of_getElem? (i := 7) rfl)) hd_X7_look.2 ⟨Nat.le_of_ble_eq_true rfl, Nat.le_of_ble_eq_true rfl⟩, (hts (.static yX7_look) (List.mem_of_getElem? (i := 6) rfl)), trivial⟩ hK hN hZ hP hD hS hA [2] rfl (by decide) rfl rfl hl.1 rfl (Nat.le_of_ble_eq_true rfl) dX2_forget_42 ⟨Nat.zero_le _, Nat.zero_le _⟩ (fun H locs hP hD hS => ?_)
          have hP : va_P G vwCl (wS c rsa0 rsa1 rsa2 rsa3 rsa4 (sa rs_2 2 h030)) H := hP
          have hD : va_D A (wS c rsa0 rsa1 rsa2 rsa3 rsa4 (sa rs_2 2 h030)) := hD
          refine lv_iconst (v := 0) hx hb dX2_forget_45 (by decide) ?_
          obtain ⟨h046, e_46, hm⟩ := bd1_s hm
          refine zcSNv (As := [.ref rsa4, .int r42, .int 0]) (rest := []) ⟨hx, hb, hml, hown, hts⟩ (k_X7_put l G K c rsa4 4096 (rs_2.2 3) r42 0 h046 e_46) ⟨va_cnB 3 hts gX2_forget_X7_put_n37 rfl rfl rfl (nwm_HubTrains_RowSearch_37 hN.2.1) (hts (.initialized RX7) (List.mem_of_getElem? (i := 7) rfl)) hd_X7_put.2 ⟨Nat.le_of_ble_eq_true rfl, Nat.le_of_ble_eq_true rfl⟩, (hts (.static yX7_put) (List.mem_of_getElem? (i := 9) rfl)), trivial⟩ hK hN hZ hP hD hS hA [4] rfl (by decide) rfl rfl hl.1 rfl (Nat.le_of_ble_eq_true rfl) dX2_forget_46 ⟨Nat.zero_le _, Nat.zero_le _⟩ (fun H locs hP hD hS => ?_)
          have hP : va_P G vwCl (wS c rsa0 rsa1 rsa2 rsa3 rsa4 (sa (sa rs_2 2 h030) 3 h046)) H := hP
          have hD : va_D A (wS c rsa0 rsa1 rsa2 rsa3 rsa4 (sa (sa rs_2 2 h030) 3 h046)) := hD
          refine lv_iinc (k := 1) (v := (v1_2 + 1)) (lv' := [(1, .int (v1_2 + 1)), (0, .ref rsa0)]) hx hb dX2_forget_49 hl rfl rfl (by decide) rfl (fun ls hl => ?_)
          refine lv_goto (tgt := 2) hx hb dX2_forget_52 (by decide) ?_
          exact ih_2 (v1_2 + 1) (sa (sa rs_2 2 h030) 3 h046) H locs ls hP hD hS (lv_sub hl [1, 0] rfl) hm
  exact L_2 FUEL 0 rs H locs ls hP hD hS (lv_sub hl [1, 0] rfl) hm

def f_X2_reach_J45 (p0 : Int32) (p1 : Int32) (r5 : Int32) (rs_45 : SA) : Option SA :=
  bd1 (f_X7_put 4096 (rs_45.2 2) p0 (r5 ||| p1)) fun (h053 : Nat → Int32) => some ((sa rs_45 2 h053))

def f_X2_reach (rs : SA) (p0 : Int32) (p1 : Int32) : Option SA :=
  bd1 (f_X7_look 4096 (rs.2 2) p0) fun (r5 : Int32) => if r5 = 0 then (if (4096 : Int32) ≤ (rs.1 2) then (f_X2_reach_J45 p0 p1 r5 rs) else (bd1 (f_X7_put 4096 (rs.2 1) (rs.1 2) p0) fun (h032 : Nat → Int32) => f_X2_reach_J45 p0 p1 r5 (sa (ss rs 2 ((rs.1 2) + 1)) 1 h032))) else (f_X2_reach_J45 p0 p1 r5 rs)

abbrev rm_X2_reach : Room := { frames := 1, cells := 0, slots := 0, locals := 22 }
theorem hd_X2_reach : yX2_reach.cls = RX2 ∧ yX2_reach.cls ≠ "java/lang/invoke/MethodHandle" ∧ yX2_reach.cls ≠ "java/lang/invoke/VarHandle" ∧ (parseMethodDescriptor yX2_reach.desc).map (fun d => d.parameters.length) = some 2 := by decide +kernel
set_option maxHeartbeats 4000000 in
set_option maxRecDepth 100000 in
theorem k_X2_reach (l : Launch) (G : va_G) (K : (Nat → Nat) × (Nat → Nat)) (c : Nat → ClassId) (rsa0 : Nat) (rsa1 : Nat) (rsa2 : Nat) (rsa3 : Nat) (rsa4 : Nat) (rs : SA) (p0 : Int32) (p1 : Int32) (rs_r : SA) (hm : f_X2_reach rs p0 p1 = some (rs_r)) : zMv l yX2_reach wsX2_reach (rm_X2_reach) G K (TY c) [.ref rsa0, .int p0, .int p1] (wS c rsa0 rsa1 rsa2 rsa3 rsa4 rs) (wS c rsa0 rsa1 rsa2 rsa3 rsa4 rs_r) := by
  refine zMv.of (cc := cX2_reach) (maxL := 4) (lv := [(0, .ref rsa0), (1, .int p0), (2, .int p1)]) (by decide) rfl (Nat.le_of_ble_eq_true rfl) rfl ?_
  intro p e s m args below meth c1 A Q H locs hx hb hml hown hts hK hN hZ hP hD hA hS hend ls hl
  have hown : s.vm.findClass RX2 = some m.cls := hown
  have hi_2 : ∀ w ∈ wsX20, w ∈ wsX2_reach := (fun w h => List.mem_cons_of_mem _ (List.mem_append_right _ (h)))
  unfold f_X2_reach at hm
  refine lv_aload_n hx hb dX2_reach_0 rfl (lv_at hl 0 rfl) ?_
  refine va_get (D := G) (ci := 2) (v := .ref rsa3) (C := RX2) (T := TX2) (N := 7) hx hb hts hi_2 hown hK hP 0 rfl rfl 5 (by decide) (hts (.fieldLink RX2 18 "HubTrains$RowSearch" "ends" "[I") (List.mem_of_getElem? (i := 1) rfl)) (fun _ h9 => h9) rfl dX2_reach_1 ?_
  refine lv_iload_n hx hb dX2_reach_4 rfl (lv_at hl 1 rfl) ?_
  obtain ⟨r5, e_5, hm⟩ := bd1_s hm
  refine zcSNi (As := [.ref rsa3, .int p0]) (rest := []) ⟨hx, hb, hml, hown, hts⟩ (k_X7_look l G K c rsa3 4096 (rs.2 2) p0 r5 e_5) ⟨va_cnB 2 hts gX2_reach_X7_look_n60 rfl rfl rfl (nwm_HubTrains_RowSearch_60 hN.2.1) (hts (.initialized RX7) (List.mem_of_getElem? (i := 5) rfl)) hd_X7_look.2 ⟨Nat.le_of_ble_eq_true rfl, Nat.le_of_ble_eq_true rfl⟩, (hts (.static yX7_look) (List.mem_of_getElem? (i := 4) rfl)), trivial⟩ hK hN hZ hP hD hS hA [3] rfl (by decide) rfl rfl hl.1 rfl (Nat.le_of_ble_eq_true rfl) dX2_reach_5 ⟨Nat.zero_le _, Nat.zero_le _⟩ (fun H locs hP hD hS => ?_)
  have hP : va_P G vwCl (wS c rsa0 rsa1 rsa2 rsa3 rsa4 rs) H := hP
  have hD : va_D A (wS c rsa0 rsa1 rsa2 rsa3 rsa4 rs) := hD
  refine lv_istore_n (lv' := [(3, .int r5), (0, .ref rsa0), (1, .int p0), (2, .int p1)]) hx hb dX2_reach_8 rfl hl (by decide) rfl (fun ls hl => ?_)
  refine lv_iload_n hx hb dX2_reach_9 rfl (lv_at hl 0 rfl) ?_
  have J_45 : ∀ (rs_45 : SA) (H : Heap) (locs : List Loc) (ls : Array Slot), va_P G vwCl (wS c rsa0 rsa1 rsa2 rsa3 rsa4 rs_45) H → va_D A (wS c rsa0 rsa1 rsa2 rsa3 rsa4 rs_45) → va_S A s.heap H locs → lv_has ls 4 [(0, .ref rsa0), (1, .int p0), (2, .int p1), (3, .int r5)] → f_X2_reach_J45 p0 p1 r5 rs_45 = some (rs_r) → W p l e (rm_X2_reach) s m args below meth c1 H locs 0 0 Q (F0 m 45 ls []) := by
    intro rs_45 H locs ls hP hD hS hl hm
    unfold f_X2_reach_J45 at hm
    refine lv_aload_n hx hb dX2_reach_45 rfl (lv_at hl 0 rfl) ?_
    refine va_get (D := G) (ci := 2) (v := .ref rsa3) (C := RX2) (T := TX2) (N := 7) hx hb hts hi_2 hown hK hP 0 rfl rfl 5 (by decide) (hts (.fieldLink RX2 18 "HubTrains$RowSearch" "ends" "[I") (List.mem_of_getElem? (i := 1) rfl)) (fun _ h9 => h9) rfl dX2_reach_46 ?_
    refine lv_iload_n hx hb dX2_reach_49 rfl (lv_at hl 1 rfl) ?_
    refine lv_iload_n hx hb dX2_reach_50 rfl (lv_at hl 3 rfl) ?_
    refine lv_iload_n hx hb dX2_reach_51 rfl (lv_at hl 2 rfl) ?_
    refine lv_ior hx hb dX2_reach_52 ?_
    obtain ⟨h053, e_53, hm⟩ := bd1_s hm
    refine zcSNv (As := [.ref rsa3, .int p0, .int (r5 ||| p1)]) (rest := []) ⟨hx, hb, hml, hown, hts⟩ (k_X7_put l G K c rsa3 4096 (rs_45.2 2) p0 (r5 ||| p1) h053 e_53) ⟨va_cnB 3 hts gX2_reach_X7_put_n37 rfl rfl rfl (nwm_HubTrains_RowSearch_37 hN.2.1) (hts (.initialized RX7) (List.mem_of_getElem? (i := 5) rfl)) hd_X7_put.2 ⟨Nat.le_of_ble_eq_true rfl, Nat.le_of_ble_eq_true rfl⟩, (hts (.static yX7_put) (List.mem_of_getElem? (i := 7) rfl)), trivial⟩ hK hN hZ hP hD hS hA [3] rfl (by decide) rfl rfl hl.1 rfl (Nat.le_of_ble_eq_true rfl) dX2_reach_53 ⟨Nat.zero_le _, Nat.zero_le _⟩ (fun H locs hP hD hS => ?_)
    have hP : va_P G vwCl (wS c rsa0 rsa1 rsa2 rsa3 rsa4 (sa rs_45 2 h053)) H := hP
    have hD : va_D A (wS c rsa0 rsa1 rsa2 rsa3 rsa4 (sa rs_45 2 h053)) := hD
    exact hend H locs ls _ _ (zc1 (fun (z0 : SA) => (wS c rsa0 rsa1 rsa2 rsa3 rsa4 z0 : va_W)) (Option.some.inj hm)) hP hD hS dX2_reach_56
  refine lv_if_ne (tgt := 45) hx hb dX2_reach_10 (by decide) (fun c_10 => ?_) (fun c_10 => ?_)
  · have hm := ifn c_10 hm
    exact J_45 rs H locs ls hP hD hS (lv_sub hl [1, 2, 3, 0] rfl) hm
  · have hm := ifp c_10 hm
    refine lv_aload_n hx hb dX2_reach_13 rfl (lv_at hl 1 rfl) ?_
    refine va_get (D := G) (ci := 2) (v := .int (rs.1 2)) (C := RX2) (T := TX2) (N := 7) hx hb hts hi_2 hown hK hP 0 rfl rfl 4 (by decide) (hts (.fieldLink RX2 57 "HubTrains$RowSearch" "found" "I") (List.mem_of_getElem? (i := 2) rfl)) (fun _ h9 => h9) rfl dX2_reach_14 ?_
    refine lv_sipush (v := 4096) hx hb dX2_reach_17 (by decide) ?_
    refine lv_icmp_ge (tgt := 45) hx hb dX2_reach_20 (by decide) (fun c_20 => ?_) (fun c_20 => ?_)
    · have hm := ifp c_20 hm
      exact J_45 rs H locs ls hP hD hS (lv_sub hl [1, 2, 3, 0] rfl) hm
    · have hm := ifn c_20 hm
      refine lv_aload_n hx hb dX2_reach_23 rfl (lv_at hl 1 rfl) ?_
      refine va_get (D := G) (ci := 2) (v := .ref rsa2) (C := RX2) (T := TX2) (N := 7) hx hb hts hi_2 hown hK hP 0 rfl rfl 3 (by decide) (hts (.fieldLink RX2 15 "HubTrains$RowSearch" "masks" "[I") (List.mem_of_getElem? (i := 3) rfl)) (fun _ h9 => h9) rfl dX2_reach_24 ?_
      refine lv_aload_n hx hb dX2_reach_27 rfl (lv_at hl 1 rfl) ?_
      refine va_get (D := G) (ci := 2) (v := .int (rs.1 2)) (C := RX2) (T := TX2) (N := 7) hx hb hts hi_2 hown hK hP 0 rfl rfl 4 (by decide) (hts (.fieldLink RX2 57 "HubTrains$RowSearch" "found" "I") (List.mem_of_getElem? (i := 2) rfl)) (fun _ h9 => h9) rfl dX2_reach_28 ?_
      refine lv_iload_n hx hb dX2_reach_31 rfl (lv_at hl 2 rfl) ?_
      obtain ⟨h032, e_32, hm⟩ := bd1_s hm
      refine zcSNv (As := [.ref rsa2, .int (rs.1 2), .int p0]) (rest := []) ⟨hx, hb, hml, hown, hts⟩ (k_X7_put l G K c rsa2 4096 (rs.2 1) (rs.1 2) p0 h032 e_32) ⟨va_cnB 3 hts gX2_reach_X7_put_n37 rfl rfl rfl (nwm_HubTrains_RowSearch_37 hN.2.1) (hts (.initialized RX7) (List.mem_of_getElem? (i := 5) rfl)) hd_X7_put.2 ⟨Nat.le_of_ble_eq_true rfl, Nat.le_of_ble_eq_true rfl⟩, (hts (.static yX7_put) (List.mem_of_getElem? (i := 7) rfl)), trivial⟩ hK hN hZ hP hD hS hA [2] rfl (by decide) rfl rfl hl.1 rfl (Nat.le_of_ble_eq_true rfl) dX2_reach_32 ⟨Nat.zero_le _, Nat.zero_le _⟩ (fun H locs hP hD hS => ?_)
      have hP : va_P G vwCl (wS c rsa0 rsa1 rsa2 rsa3 rsa4 (sa rs 1 h032)) H := hP
      have hD : va_D A (wS c rsa0 rsa1 rsa2 rsa3 rsa4 (sa rs 1 h032)) := hD
      refine lv_aload_n hx hb dX2_reach_35 rfl (lv_at hl 1 rfl) ?_
      refine lv_dup hx hb dX2_reach_36 rfl ?_
      refine va_get (D := G) (ci := 2) (v := .int (rs.1 2)) (C := RX2) (T := TX2) (N := 7) hx hb hts hi_2 hown hK hP 0 rfl rfl 4 (by decide) (hts (.fieldLink RX2 57 "HubTrains$RowSearch" "found" "I") (List.mem_of_getElem? (i := 2) rfl)) (fun _ h9 => h9) rfl dX2_reach_37 ?_
      refine lv_iconst (v := 1) hx hb dX2_reach_40 (by decide) ?_
      refine lv_iadd hx hb dX2_reach_41 ?_
      refine va_put (D := G) (ci := 2) (v := .int ((rs.1 2) + 1)) (C := RX2) (T := TX2) (N := 7) hx hb hts hi_2 tyX2 tyX2_ok nmX2 hown hK hP hD hS 0 rfl rfl 4 (by decide) (hts (.fieldLink RX2 57 "HubTrains$RowSearch" "found" "I") (List.mem_of_getElem? (i := 2) rfl)) (fun _ h9 => h9) rfl (tyX2_ok 4 (by decide)) rfl rfl (Nat.le_of_ble_eq_true rfl) dX2_reach_42 (fun H locs hP hD hS => ?_)
      have hP : va_P G vwCl (wS c rsa0 rsa1 rsa2 rsa3 rsa4 (sa (ss rs 2 ((rs.1 2) + 1)) 1 h032)) H := hP
      have hD : va_D A (wS c rsa0 rsa1 rsa2 rsa3 rsa4 (sa (ss rs 2 ((rs.1 2) + 1)) 1 h032)) := hD
      exact J_45 (sa (ss rs 2 ((rs.1 2) + 1)) 1 h032) H locs ls hP hD hS (lv_sub hl [1, 2, 3, 0] rfl) hm

def f_X2_extend_B2 (p0 : Int32) (rec_2 : Int32 → SA → Option SA) (v2_2 : Int32) (rs_2 : SA) : Option SA :=
  if (rs_2.1 0) ≤ v2_2 then (some (rs_2)) else (nmd ((1 : Int32) <<< (v2_2 &&& 31)) fun (x3_13 : Int32) => bd1 (f_X7_look 12 (rs_2.2 0) v2_2) fun (r19 : Int32) => bd1 (f_X7_look 4096 (rs_2.2 2) p0) fun (r27 : Int32) => bd1 (f_X2_acrossTile r19 r27) fun (r30 : Int32) => if (p0 &&& x3_13) = 0 then (if r30 = 0 then (rec_2 (v2_2 + 1) rs_2) else (bd1 (f_X2_reach rs_2 (p0 ||| x3_13) r30) fun (rs52 : SA) => rec_2 (v2_2 + 1) rs52)) else (rec_2 (v2_2 + 1) rs_2))

def f_X2_extend (rs : SA) (p0 : Int32) : Option SA :=
  itr2 (f_X2_extend_B2 p0) FUEL 0 rs

abbrev rm_X2_extend : Room := { frames := 2, cells := 0, slots := 0, locals := 45 }
theorem hd_X2_extend : yX2_extend.cls = RX2 ∧ yX2_extend.cls ≠ "java/lang/invoke/MethodHandle" ∧ yX2_extend.cls ≠ "java/lang/invoke/VarHandle" ∧ (parseMethodDescriptor yX2_extend.desc).map (fun d => d.parameters.length) = some 1 := by decide +kernel
set_option maxHeartbeats 4000000 in
set_option maxRecDepth 100000 in
theorem k_X2_extend (l : Launch) (G : va_G) (K : (Nat → Nat) × (Nat → Nat)) (c : Nat → ClassId) (rsa0 : Nat) (rsa1 : Nat) (rsa2 : Nat) (rsa3 : Nat) (rsa4 : Nat) (rs : SA) (p0 : Int32) (rs_r : SA) (hm : f_X2_extend rs p0 = some (rs_r)) : zMv l yX2_extend wsX2_extend (rm_X2_extend) G K (TY c) [.ref rsa0, .int p0] (wS c rsa0 rsa1 rsa2 rsa3 rsa4 rs) (wS c rsa0 rsa1 rsa2 rsa3 rsa4 rs_r) := by
  refine zMv.of (cc := cX2_extend) (maxL := 5) (lv := [(0, .ref rsa0), (1, .int p0)]) (by decide) rfl (Nat.le_of_ble_eq_true rfl) rfl ?_
  intro p e s m args below meth c1 A Q H locs hx hb hml hown hts hK hN hZ hP hD hA hS hend ls hl
  have hown : s.vm.findClass RX2 = some m.cls := hown
  have hi_2 : ∀ w ∈ wsX20, w ∈ wsX2_extend := (fun w h => List.mem_cons_of_mem _ (List.mem_append_right _ (h)))
  unfold f_X2_extend at hm
  refine lv_iconst (v := 0) hx hb dX2_extend_0 (by decide) ?_
  refine lv_istore_n (lv' := [(2, .int 0), (0, .ref rsa0), (1, .int p0)]) hx hb dX2_extend_1 rfl hl (by decide) rfl (fun ls hl => ?_)
  have L_2 : ∀ (n_2 : Nat) (v2_2 : Int32) (rs_2 : SA) (H : Heap) (locs : List Loc) (ls : Array Slot), va_P G vwCl (wS c rsa0 rsa1 rsa2 rsa3 rsa4 rs_2) H → va_D A (wS c rsa0 rsa1 rsa2 rsa3 rsa4 rs_2) → va_S A s.heap H locs → lv_has ls 5 [(0, .ref rsa0), (1, .int p0), (2, .int v2_2)] → itr2 (f_X2_extend_B2 p0) n_2 v2_2 rs_2 = some (rs_r) → W p l e (rm_X2_extend) s m args below meth c1 H locs 0 0 Q (F0 m 2 ls []) := by
    intro n_2
    induction n_2 with
    | zero => intro v2_2 rs_2 H locs ls hP hD hS hl hm; exact (itr2_0 hm).elim
    | succ n_2 ih_2 =>
      intro v2_2 rs_2 H locs ls hP hD hS hl hm
      have hm := itr2_s hm
      unfold f_X2_extend_B2 at hm
      refine lv_iload_n hx hb dX2_extend_2 rfl (lv_at hl 2 rfl) ?_
      refine lv_aload_n hx hb dX2_extend_3 rfl (lv_at hl 0 rfl) ?_
      refine va_get (D := G) (ci := 2) (v := .int (rs_2.1 0)) (C := RX2) (T := TX2) (N := 7) hx hb hts hi_2 hown hK hP 0 rfl rfl 1 (by decide) (hts (.fieldLink RX2 27 "HubTrains$RowSearch" "size" "I") (List.mem_of_getElem? (i := 1) rfl)) (fun _ h9 => h9) rfl dX2_extend_4 ?_
      refine lv_icmp_ge (tgt := 61) hx hb dX2_extend_7 (by decide) (fun c_7 => ?_) (fun c_7 => ?_)
      · have hm := ifp c_7 hm
        exact hend H locs ls _ _ (zc1 (fun (z0 : SA) => (wS c rsa0 rsa1 rsa2 rsa3 rsa4 z0 : va_W)) (Option.some.inj hm)) hP hD hS dX2_extend_61
      · have hm := ifn c_7 hm
        refine lv_iconst (v := 1) hx hb dX2_extend_10 (by decide) ?_
        refine lv_iload_n hx hb dX2_extend_11 rfl (lv_at hl 2 rfl) ?_
        refine lv_ishl hx hb dX2_extend_12 ?_
        refine lv_topi (fun x3_13 e_x3_13 => ?_)
        have hm := nmd_s hm x3_13 e_x3_13
        refine lv_istore_n (lv' := [(3, .int x3_13), (0, .ref rsa0), (1, .int p0), (2, .int v2_2)]) hx hb dX2_extend_13 rfl hl (by decide) rfl (fun ls hl => ?_)
        refine lv_aload_n hx hb dX2_extend_14 rfl (lv_at hl 1 rfl) ?_
        refine va_get (D := G) (ci := 2) (v := .ref rsa1) (C := RX2) (T := TX2) (N := 7) hx hb hts hi_2 hown hK hP 0 rfl rfl 0 (by decide) (hts (.fieldLink RX2 9 "HubTrains$RowSearch" "tiles" "[I") (List.mem_of_getElem? (i := 2) rfl)) (fun _ h9 => h9) rfl dX2_extend_15 ?_
        refine lv_iload_n hx hb dX2_extend_18 rfl (lv_at hl 3 rfl) ?_
        obtain ⟨r19, e_19, hm⟩ := bd1_s hm
        refine zcSNi (As := [.ref rsa1, .int v2_2]) (rest := []) ⟨hx, hb, hml, hown, hts⟩ (k_X7_look l G K c rsa1 12 (rs_2.2 0) v2_2 r19 e_19) ⟨va_cnB 2 hts gX2_extend_X7_look_n60 rfl rfl rfl (nwm_HubTrains_RowSearch_60 hN.2.1) (hts (.initialized RX7) (List.mem_of_getElem? (i := 5) rfl)) hd_X7_look.2 ⟨Nat.le_of_ble_eq_true rfl, Nat.le_of_ble_eq_true rfl⟩, (hts (.static yX7_look) (List.mem_of_getElem? (i := 4) rfl)), trivial⟩ hK hN hZ hP hD hS hA [1] rfl (by decide) rfl rfl hl.1 rfl (Nat.le_of_ble_eq_true rfl) dX2_extend_19 ⟨Nat.zero_le _, Nat.zero_le _⟩ (fun H locs hP hD hS => ?_)
        have hP : va_P G vwCl (wS c rsa0 rsa1 rsa2 rsa3 rsa4 rs_2) H := hP
        have hD : va_D A (wS c rsa0 rsa1 rsa2 rsa3 rsa4 rs_2) := hD
        refine lv_aload_n hx hb dX2_extend_22 rfl (lv_at hl 1 rfl) ?_
        refine va_get (D := G) (ci := 2) (v := .ref rsa3) (C := RX2) (T := TX2) (N := 7) hx hb hts hi_2 hown hK hP 0 rfl rfl 5 (by decide) (hts (.fieldLink RX2 18 "HubTrains$RowSearch" "ends" "[I") (List.mem_of_getElem? (i := 3) rfl)) (fun _ h9 => h9) rfl dX2_extend_23 ?_
        refine lv_iload_n hx hb dX2_extend_26 rfl (lv_at hl 2 rfl) ?_
        obtain ⟨r27, e_27, hm⟩ := bd1_s hm
        refine zcSNi (As := [.ref rsa3, .int p0]) (rest := [.int r19]) ⟨hx, hb, hml, hown, hts⟩ (k_X7_look l G K c rsa3 4096 (rs_2.2 2) p0 r27 e_27) ⟨va_cnB 2 hts gX2_extend_X7_look_n60 rfl rfl rfl (nwm_HubTrains_RowSearch_60 hN.2.1) (hts (.initialized RX7) (List.mem_of_getElem? (i := 5) rfl)) hd_X7_look.2 ⟨Nat.le_of_ble_eq_true rfl, Nat.le_of_ble_eq_true rfl⟩, (hts (.static yX7_look) (List.mem_of_getElem? (i := 4) rfl)), trivial⟩ hK hN hZ hP hD hS hA [3] rfl (by decide) rfl rfl hl.1 rfl (Nat.le_of_ble_eq_true rfl) dX2_extend_27 ⟨Nat.zero_le _, Nat.zero_le _⟩ (fun H locs hP hD hS => ?_)
        have hP : va_P G vwCl (wS c rsa0 rsa1 rsa2 rsa3 rsa4 rs_2) H := hP
        have hD : va_D A (wS c rsa0 rsa1 rsa2 rsa3 rsa4 rs_2) := hD
        obtain ⟨r30, e_30, hm⟩ := bd1_s hm
        refine zcSi (As := [.int r19, .int r27]) (rest := []) ⟨hx, hb, hml, hown, hts⟩ (k_X2_acrossTile l G K c r19 r27 r30 e_30) (va_cwS 2 hts gX2_extend_X2_acrossTile rfl rfl rfl hd_X2_acrossTile.2 ⟨Nat.le_of_ble_eq_true rfl, Nat.le_of_ble_eq_true rfl⟩) hK hN hZ hP hD hS hA [] rfl (by decide) rfl rfl hl.1 rfl (Nat.le_of_ble_eq_true rfl) dX2_extend_30 ⟨Nat.zero_le _, Nat.zero_le _⟩ (fun H locs hP hD hS => ?_)
        have hP : va_P G vwCl (wS c rsa0 rsa1 rsa2 rsa3 rsa4 rs_2) H := hP
        have hD : va_D A (wS c rsa0 rsa1 rsa2 rsa3 rsa4 rs_2) := hD
        refine lv_istore (lv' := [(4, .int r30), (3, .int x3_13), (0, .ref rsa0), (1, .int p0), (2, .int v2_2)]) hx hb dX2_extend_33 hl (by decide) rfl (fun ls hl => ?_)
        refine lv_iload_n hx hb dX2_extend_35 rfl (lv_at hl 3 rfl) ?_
        refine lv_iload_n hx hb dX2_extend_36 rfl (lv_at hl 1 rfl) ?_
        refine lv_iand hx hb dX2_extend_37 ?_
        refine lv_if_ne (tgt := 55) hx hb dX2_extend_38 (by decide) (fun c_38 => ?_) (fun c_38 => ?_)
        · have hm := ifn c_38 hm
          refine lv_iinc (k := 4) (v := (v2_2 + 1)) (lv' := [(2, .int (v2_2 + 1)), (4, .int r30), (3, .int x3_13), (0, .ref rsa0), (1, .int p0)]) hx hb dX2_extend_55 hl rfl rfl (by decide) rfl (fun ls hl => ?_)
          refine lv_goto (tgt := 2) hx hb dX2_extend_58 (by decide) ?_
          exact ih_2 (v2_2 + 1) rs_2 H locs ls hP hD hS (lv_sub hl [3, 4, 0] rfl) hm
        · have hm := ifp c_38 hm
          refine lv_iload hx hb dX2_extend_41 (lv_at hl 0 rfl) ?_
          refine lv_if_eq (tgt := 55) hx hb dX2_extend_43 (by decide) (fun c_43 => ?_) (fun c_43 => ?_)
          · have hm := ifp c_43 hm
            refine lv_iinc (k := 4) (v := (v2_2 + 1)) (lv' := [(2, .int (v2_2 + 1)), (4, .int r30), (3, .int x3_13), (0, .ref rsa0), (1, .int p0)]) hx hb dX2_extend_55 hl rfl rfl (by decide) rfl (fun ls hl => ?_)
            refine lv_goto (tgt := 2) hx hb dX2_extend_58 (by decide) ?_
            exact ih_2 (v2_2 + 1) rs_2 H locs ls hP hD hS (lv_sub hl [3, 4, 0] rfl) hm
          · have hm := ifn c_43 hm
            refine lv_aload_n hx hb dX2_extend_46 rfl (lv_at hl 2 rfl) ?_
            refine lv_iload_n hx hb dX2_extend_47 rfl (lv_at hl 3 rfl) ?_
            refine lv_iload_n hx hb dX2_extend_48 rfl (lv_at hl 1 rfl) ?_
            refine lv_ior hx hb dX2_extend_49 ?_
            refine lv_iload hx hb dX2_extend_50 (lv_at hl 0 rfl) ?_
            obtain ⟨rs52, e_52, hm⟩ := bd1_s hm
            refine zcVv (As := [.int (p0 ||| x3_13), .int r30]) (rest := []) ⟨hx, hb, hml, hown, hts⟩ (k_X2_reach l G K c rsa0 rsa1 rsa2 rsa3 rsa4 rs_2 (p0 ||| x3_13) r30 rs52 e_52) (cwV 2 hts gX2_extend_X2_reach rfl rfl rfl hd_X2_reach ⟨Nat.le_of_ble_eq_true rfl, Nat.le_of_ble_eq_true rfl⟩) hK hN hZ hP hD hS hA (va_recv hK hP (ci := 2) (q0 := 0) rfl rfl) [0, 1, 2, 3, 4] rfl (by decide) rfl rfl hl.1 rfl (Nat.le_of_ble_eq_true rfl) dX2_extend_52 ⟨Nat.zero_le _, Nat.zero_le _⟩ (fun H locs hP hD hS => ?_)
            have hP : va_P G vwCl (wS c rsa0 rsa1 rsa2 rsa3 rsa4 rs52) H := hP
            have hD : va_D A (wS c rsa0 rsa1 rsa2 rsa3 rsa4 rs52) := hD
            refine lv_iinc (k := 4) (v := (v2_2 + 1)) (lv' := [(2, .int (v2_2 + 1)), (4, .int r30), (3, .int x3_13), (0, .ref rsa0), (1, .int p0)]) hx hb dX2_extend_55 hl rfl rfl (by decide) rfl (fun ls hl => ?_)
            refine lv_goto (tgt := 2) hx hb dX2_extend_58 (by decide) ?_
            exact ih_2 (v2_2 + 1) rs52 H locs ls hP hD hS (lv_sub hl [3, 4, 0] rfl) hm
  exact L_2 FUEL 0 rs H locs ls hP hD hS (lv_sub hl [1, 2, 0] rfl) hm

def f_X2_explore_B83  (rec_83 : Int32 → SA → Option SA) (v3_83 : Int32) (rs_83 : SA) : Option SA :=
  if (rs_83.1 2) ≤ v3_83 then (some (rs_83)) else (if (4096 : Int32) ≤ v3_83 then (some (rs_83)) else (bd1 (f_X7_look 4096 (rs_83.2 1) v3_83) fun (r104 : Int32) => bd1 (f_X2_extend rs_83 r104) fun (rs107 : SA) => rec_83 (v3_83 + 1) rs107))

def f_X2_explore_J58 (g : GS) (p1 : Int32) (rs_6 : SA) : Option SA :=
  bd1 (f_X6_endOf g.2.2.2 p1) fun (r64 : Int32) => bd1 (f_X2_reach (ss rs_6 1 r64) 0 ((1 : Int32) <<< (r64 &&& 31))) fun (rs78 : SA) => itr2 f_X2_explore_B83 FUEL 0 rs78

def f_X2_explore_B6 (g : GS) (p1 : Int32) (rec_6 : Int32 → SA → Option SA) (v3_6 : Int32) (rs_6 : SA) : Option SA :=
  if (100 : Int32) ≤ v3_6 then (f_X2_explore_J58 g p1 rs_6) else (if (12 : Int32) ≤ (rs_6.1 0) then (f_X2_explore_J58 g p1 rs_6) else (bd1 (f_X1_holderOf g v3_6) fun (r23 : Int32) => if r23 = p1 then (bd1 (f_X7_put 12 (rs_6.2 0) (rs_6.1 0) v3_6) fun (h039 : Nat → Int32) => rec_6 (v3_6 + 1) (sa (ss rs_6 0 ((rs_6.1 0) + 1)) 0 h039)) else (rec_6 (v3_6 + 1) rs_6)))

def f_X2_explore (rs : SA) (g : GS) (p1 : Int32) : Option SA :=
  bd1 (f_X2_forget rs) fun (rs1 : SA) => itr2 (f_X2_explore_B6 g p1) FUEL 0 rs1

abbrev rm_X2_explore : Room := { frames := 3, cells := 0, slots := 0, locals := 69 }
theorem hd_X2_explore : yX2_explore.cls = RX2 ∧ yX2_explore.cls ≠ "java/lang/invoke/MethodHandle" ∧ yX2_explore.cls ≠ "java/lang/invoke/VarHandle" ∧ (parseMethodDescriptor yX2_explore.desc).map (fun d => d.parameters.length) = some 2 := by decide +kernel
set_option maxHeartbeats 4000000 in
set_option maxRecDepth 100000 in
theorem k_X2_explore (l : Launch) (G : va_G) (K : (Nat → Nat) × (Nat → Nat)) (c : Nat → ClassId) (rsa0 : Nat) (rsa1 : Nat) (rsa2 : Nat) (rsa3 : Nat) (rsa4 : Nat) (ag : Nat → Nat) (rs : SA) (g : GS) (p1 : Int32) (rs_r : SA) (hm : f_X2_explore rs g p1 = some (rs_r)) : zMv l yX2_explore wsX2_explore (rm_X2_explore) G K (TY c) [.ref rsa0, .ref (ag 0), .int p1] ((wS c rsa0 rsa1 rsa2 rsa3 rsa4 rs) ++ (wG c ag g)) ((wS c rsa0 rsa1 rsa2 rsa3 rsa4 rs_r) ++ (wG c ag g)) := by
  refine zMv.of (cc := cX2_explore) (maxL := 4) (lv := [(0, .ref rsa0), (1, .ref (ag 0)), (2, .int p1)]) (by decide) rfl (Nat.le_of_ble_eq_true rfl) rfl ?_
  intro p e s m args below meth c1 A Q H locs hx hb hml hown hts hK hN hZ hP hD hA hS hend ls hl
  have hown : s.vm.findClass RX2 = some m.cls := hown
  have hi_1 : ∀ w ∈ wsX10, w ∈ wsX2_explore := (fun w h => List.mem_cons_of_mem _ (List.mem_append_left _ (List.mem_append_right _ (h))))
  have hi_2 : ∀ w ∈ wsX20, w ∈ wsX2_explore := (fun w h => List.mem_cons_of_mem _ (List.mem_append_left _ (List.mem_append_left _ (List.mem_append_right _ (h)))))
  unfold f_X2_explore at hm
  refine lv_aload_n hx hb dX2_explore_0 rfl (lv_at hl 0 rfl) ?_
  obtain ⟨rs1, e_1, hm⟩ := bd1_s hm
  refine zcVv (As := []) (rest := []) ⟨hx, hb, hml, hown, hts⟩ (k_X2_forget l G K c rsa0 rsa1 rsa2 rsa3 rsa4 rs rs1 e_1) (cwV 0 hts gX2_explore_X2_forget rfl rfl rfl hd_X2_forget ⟨Nat.le_of_ble_eq_true rfl, Nat.le_of_ble_eq_true rfl⟩) hK hN hZ hP hD hS hA (va_recv hK hP (ci := 2) (q0 := 0) rfl rfl) [0, 1, 2, 3, 4] rfl (by decide) rfl rfl hl.1 rfl (Nat.le_of_ble_eq_true rfl) dX2_explore_1 ⟨Nat.zero_le _, Nat.zero_le _⟩ (fun H locs hP hD hS => ?_)
  have hP : va_P G vwCl ((wS c rsa0 rsa1 rsa2 rsa3 rsa4 rs1) ++ (wG c ag g)) H := hP
  have hD : va_D A ((wS c rsa0 rsa1 rsa2 rsa3 rsa4 rs1) ++ (wG c ag g)) := hD
  refine lv_iconst (v := 0) hx hb dX2_explore_4 (by decide) ?_
  refine lv_istore_n (lv' := [(3, .int 0), (0, .ref rsa0), (1, .ref (ag 0)), (2, .int p1)]) hx hb dX2_explore_5 rfl hl (by decide) rfl (fun ls hl => ?_)
  have L_6 : ∀ (n_6 : Nat) (v3_6 : Int32) (rs_6 : SA) (H : Heap) (locs : List Loc) (ls : Array Slot), va_P G vwCl ((wS c rsa0 rsa1 rsa2 rsa3 rsa4 rs_6) ++ (wG c ag g)) H → va_D A ((wS c rsa0 rsa1 rsa2 rsa3 rsa4 rs_6) ++ (wG c ag g)) → va_S A s.heap H locs → lv_has ls 4 [(0, .ref rsa0), (1, .ref (ag 0)), (2, .int p1), (3, .int v3_6)] → itr2 (f_X2_explore_B6 g p1) n_6 v3_6 rs_6 = some (rs_r) → W p l e (rm_X2_explore) s m args below meth c1 H locs 0 0 Q (F0 m 6 ls []) := by
    intro n_6
    induction n_6 with
    | zero => intro v3_6 rs_6 H locs ls hP hD hS hl hm; exact (itr2_0 hm).elim
    | succ n_6 ih_6 =>
      intro v3_6 rs_6 H locs ls hP hD hS hl hm
      have hm := itr2_s hm
      unfold f_X2_explore_B6 at hm
      refine lv_iload_n hx hb dX2_explore_6 rfl (lv_at hl 3 rfl) ?_
      refine lv_bipush (v := 100) hx hb dX2_explore_7 (by decide) ?_
      have J_58 : ∀ (H : Heap) (locs : List Loc) (ls : Array Slot), va_P G vwCl ((wS c rsa0 rsa1 rsa2 rsa3 rsa4 rs_6) ++ (wG c ag g)) H → va_D A ((wS c rsa0 rsa1 rsa2 rsa3 rsa4 rs_6) ++ (wG c ag g)) → va_S A s.heap H locs → lv_has ls 4 [(0, .ref rsa0), (1, .ref (ag 0)), (2, .int p1)] → f_X2_explore_J58 g p1 rs_6 = some (rs_r) → W p l e (rm_X2_explore) s m args below meth c1 H locs 0 0 Q (F0 m 58 ls []) := by
        intro  H locs ls hP hD hS hl hm
        unfold f_X2_explore_J58 at hm
        refine lv_aload_n hx hb dX2_explore_58 rfl (lv_at hl 0 rfl) ?_
        refine lv_aload_n hx hb dX2_explore_59 rfl (lv_at hl 1 rfl) ?_
        refine va_getN (D := G) (ci := 1) (v := .ref (ag 5)) (C := RX1) (T := TX1) (N := 16) hx hb hts hi_1 hown hK hP 5 rfl rfl 15 (by decide) (va_Nw.use rfl (nwf_HubTrains_RowSearch_41 hN.1)) (fun _ h9 => h9) rfl dX2_explore_60 ?_
        refine lv_iload_n hx hb dX2_explore_63 rfl (lv_at hl 2 rfl) ?_
        obtain ⟨r64, e_64, hm⟩ := bd1_s hm
        refine zcVi (As := [.int p1]) (rest := [.ref rsa0]) ⟨hx, hb, hml, hown, hts⟩ (k_X6_endOf l G K c (ag 5) (ag 6) (ag 7) (ag 8) (ag 9) g.2.2.2 p1 r64 e_64) (cwV 1 hts gX2_explore_X6_endOf rfl rfl rfl hd_X6_endOf ⟨Nat.le_of_ble_eq_true rfl, Nat.le_of_ble_eq_true rfl⟩) hK hN hZ hP hD hS hA (va_recv hK hP (ci := 6) (q0 := 10) rfl rfl) [10, 11, 12, 13, 14] rfl (by decide) rfl rfl hl.1 rfl (Nat.le_of_ble_eq_true rfl) dX2_explore_64 ⟨Nat.zero_le _, Nat.zero_le _⟩ (fun H locs hP hD hS => ?_)
        have hP : va_P G vwCl ((wS c rsa0 rsa1 rsa2 rsa3 rsa4 rs_6) ++ (wG c ag g)) H := hP
        have hD : va_D A ((wS c rsa0 rsa1 rsa2 rsa3 rsa4 rs_6) ++ (wG c ag g)) := hD
        refine va_put (D := G) (ci := 2) (v := .int r64) (C := RX2) (T := TX2) (N := 7) hx hb hts hi_2 tyX2 tyX2_ok nmX2 hown hK hP hD hS 0 rfl rfl 2 (by decide) (hts (.fieldLink RX2 50 "HubTrains$RowSearch" "start" "I") (List.mem_of_getElem? (i := 3) rfl)) (fun _ h9 => h9) rfl (tyX2_ok 2 (by decide)) rfl rfl (Nat.le_of_ble_eq_true rfl) dX2_explore_67 (fun H locs hP hD hS => ?_)
        have hP : va_P G vwCl ((wS c rsa0 rsa1 rsa2 rsa3 rsa4 (ss rs_6 1 r64)) ++ (wG c ag g)) H := hP
        have hD : va_D A ((wS c rsa0 rsa1 rsa2 rsa3 rsa4 (ss rs_6 1 r64)) ++ (wG c ag g)) := hD
        refine lv_aload_n hx hb dX2_explore_70 rfl (lv_at hl 0 rfl) ?_
        refine lv_iconst (v := 0) hx hb dX2_explore_71 (by decide) ?_
        refine lv_iconst (v := 1) hx hb dX2_explore_72 (by decide) ?_
        refine lv_aload_n hx hb dX2_explore_73 rfl (lv_at hl 0 rfl) ?_
        refine va_get (D := G) (ci := 2) (v := .int r64) (C := RX2) (T := TX2) (N := 7) hx hb hts hi_2 hown hK hP 0 rfl rfl 2 (by decide) (hts (.fieldLink RX2 50 "HubTrains$RowSearch" "start" "I") (List.mem_of_getElem? (i := 3) rfl)) (fun _ h9 => h9) rfl dX2_explore_74 ?_
        refine lv_ishl hx hb dX2_explore_77 ?_
        obtain ⟨rs78, e_78, hm⟩ := bd1_s hm
        refine zcVv (As := [.int 0, .int ((1 : Int32) <<< (r64 &&& 31))]) (rest := []) ⟨hx, hb, hml, hown, hts⟩ (k_X2_reach l G K c rsa0 rsa1 rsa2 rsa3 rsa4 (ss rs_6 1 r64) 0 ((1 : Int32) <<< (r64 &&& 31)) rs78 e_78) (cwV 2 hts gX2_explore_X2_reach rfl rfl rfl hd_X2_reach ⟨Nat.le_of_ble_eq_true rfl, Nat.le_of_ble_eq_true rfl⟩) hK hN hZ hP hD hS hA (va_recv hK hP (ci := 2) (q0 := 0) rfl rfl) [0, 1, 2, 3, 4] rfl (by decide) rfl rfl hl.1 rfl (Nat.le_of_ble_eq_true rfl) dX2_explore_78 ⟨Nat.zero_le _, Nat.zero_le _⟩ (fun H locs hP hD hS => ?_)
        have hP : va_P G vwCl ((wS c rsa0 rsa1 rsa2 rsa3 rsa4 rs78) ++ (wG c ag g)) H := hP
        have hD : va_D A ((wS c rsa0 rsa1 rsa2 rsa3 rsa4 rs78) ++ (wG c ag g)) := hD
        refine lv_iconst (v := 0) hx hb dX2_explore_81 (by decide) ?_
        refine lv_istore_n (lv' := [(3, .int 0), (0, .ref rsa0), (1, .ref (ag 0)), (2, .int p1)]) hx hb dX2_explore_82 rfl hl (by decide) rfl (fun ls hl => ?_)
        have L_83 : ∀ (n_83 : Nat) (v3_83 : Int32) (rs_83 : SA) (H : Heap) (locs : List Loc) (ls : Array Slot), va_P G vwCl ((wS c rsa0 rsa1 rsa2 rsa3 rsa4 rs_83) ++ (wG c ag g)) H → va_D A ((wS c rsa0 rsa1 rsa2 rsa3 rsa4 rs_83) ++ (wG c ag g)) → va_S A s.heap H locs → lv_has ls 4 [(0, .ref rsa0), (3, .int v3_83)] → itr2 f_X2_explore_B83 n_83 v3_83 rs_83 = some (rs_r) → W p l e (rm_X2_explore) s m args below meth c1 H locs 0 0 Q (F0 m 83 ls []) := by
          intro n_83
          induction n_83 with
          | zero => intro v3_83 rs_83 H locs ls hP hD hS hl hm; exact (itr2_0 hm).elim
          | succ n_83 ih_83 =>
            intro v3_83 rs_83 H locs ls hP hD hS hl hm
            have hm := itr2_s hm
            unfold f_X2_explore_B83 at hm
            refine lv_iload_n hx hb dX2_explore_83 rfl (lv_at hl 1 rfl) ?_
            refine lv_aload_n hx hb dX2_explore_84 rfl (lv_at hl 0 rfl) ?_
            refine va_get (D := G) (ci := 2) (v := .int (rs_83.1 2)) (C := RX2) (T := TX2) (N := 7) hx hb hts hi_2 hown hK hP 0 rfl rfl 4 (by decide) (hts (.fieldLink RX2 57 "HubTrains$RowSearch" "found" "I") (List.mem_of_getElem? (i := 4) rfl)) (fun _ h9 => h9) rfl dX2_explore_85 ?_
            refine lv_icmp_ge (tgt := 116) hx hb dX2_explore_88 (by decide) (fun c_88 => ?_) (fun c_88 => ?_)
            · have hm := ifp c_88 hm
              exact hend H locs ls _ _ (zc1 (fun (z0 : SA) => ((wS c rsa0 rsa1 rsa2 rsa3 rsa4 z0) ++ (wG c ag g) : va_W)) (Option.some.inj hm)) hP hD hS dX2_explore_116
            · have hm := ifn c_88 hm
              refine lv_iload_n hx hb dX2_explore_91 rfl (lv_at hl 1 rfl) ?_
              refine lv_sipush (v := 4096) hx hb dX2_explore_92 (by decide) ?_
              refine lv_icmp_ge (tgt := 116) hx hb dX2_explore_95 (by decide) (fun c_95 => ?_) (fun c_95 => ?_)
              · have hm := ifp c_95 hm
                exact hend H locs ls _ _ (zc1 (fun (z0 : SA) => ((wS c rsa0 rsa1 rsa2 rsa3 rsa4 z0) ++ (wG c ag g) : va_W)) (Option.some.inj hm)) hP hD hS dX2_explore_116
              · have hm := ifn c_95 hm
                refine lv_aload_n hx hb dX2_explore_98 rfl (lv_at hl 0 rfl) ?_
                refine lv_aload_n hx hb dX2_explore_99 rfl (lv_at hl 0 rfl) ?_
                refine va_get (D := G) (ci := 2) (v := .ref rsa2) (C := RX2) (T := TX2) (N := 7) hx hb hts hi_2 hown hK hP 0 rfl rfl 3 (by decide) (hts (.fieldLink RX2 15 "HubTrains$RowSearch" "masks" "[I") (List.mem_of_getElem? (i := 5) rfl)) (fun _ h9 => h9) rfl dX2_explore_100 ?_
                refine lv_iload_n hx hb dX2_explore_103 rfl (lv_at hl 1 rfl) ?_
                obtain ⟨r104, e_104, hm⟩ := bd1_s hm
                refine zcSNi (As := [.ref rsa2, .int v3_83]) (rest := [.ref rsa0]) ⟨hx, hb, hml, hown, hts⟩ (k_X7_look l G K c rsa2 4096 (rs_83.2 1) v3_83 r104 e_104) ⟨va_cnB 2 hts gX2_explore_X7_look_n60 rfl rfl rfl (nwm_HubTrains_RowSearch_60 hN.2.1) (hts (.initialized RX7) (List.mem_of_getElem? (i := 14) rfl)) hd_X7_look.2 ⟨Nat.le_of_ble_eq_true rfl, Nat.le_of_ble_eq_true rfl⟩, (hts (.static yX7_look) (List.mem_of_getElem? (i := 13) rfl)), trivial⟩ hK hN hZ hP hD hS hA [2] rfl (by decide) rfl rfl hl.1 rfl (Nat.le_of_ble_eq_true rfl) dX2_explore_104 ⟨Nat.zero_le _, Nat.zero_le _⟩ (fun H locs hP hD hS => ?_)
                have hP : va_P G vwCl ((wS c rsa0 rsa1 rsa2 rsa3 rsa4 rs_83) ++ (wG c ag g)) H := hP
                have hD : va_D A ((wS c rsa0 rsa1 rsa2 rsa3 rsa4 rs_83) ++ (wG c ag g)) := hD
                obtain ⟨rs107, e_107, hm⟩ := bd1_s hm
                refine zcVv (As := [.int r104]) (rest := []) ⟨hx, hb, hml, hown, hts⟩ (k_X2_extend l G K c rsa0 rsa1 rsa2 rsa3 rsa4 rs_83 r104 rs107 e_107) (cwV 1 hts gX2_explore_X2_extend rfl rfl rfl hd_X2_extend ⟨Nat.le_of_ble_eq_true rfl, Nat.le_of_ble_eq_true rfl⟩) hK hN hZ hP hD hS hA (va_recv hK hP (ci := 2) (q0 := 0) rfl rfl) [0, 1, 2, 3, 4] rfl (by decide) rfl rfl hl.1 rfl (Nat.le_of_ble_eq_true rfl) dX2_explore_107 ⟨Nat.zero_le _, Nat.zero_le _⟩ (fun H locs hP hD hS => ?_)
                have hP : va_P G vwCl ((wS c rsa0 rsa1 rsa2 rsa3 rsa4 rs107) ++ (wG c ag g)) H := hP
                have hD : va_D A ((wS c rsa0 rsa1 rsa2 rsa3 rsa4 rs107) ++ (wG c ag g)) := hD
                refine lv_iinc (k := 1) (v := (v3_83 + 1)) (lv' := [(3, .int (v3_83 + 1)), (0, .ref rsa0)]) hx hb dX2_explore_110 hl rfl rfl (by decide) rfl (fun ls hl => ?_)
                refine lv_goto (tgt := 83) hx hb dX2_explore_113 (by decide) ?_
                exact ih_83 (v3_83 + 1) rs107 H locs ls hP hD hS (lv_sub hl [1, 0] rfl) hm
        exact L_83 FUEL 0 rs78 H locs ls hP hD hS (lv_sub hl [1, 0] rfl) hm
      refine lv_icmp_ge (tgt := 58) hx hb dX2_explore_9 (by decide) (fun c_9 => ?_) (fun c_9 => ?_)
      · have hm := ifp c_9 hm
        exact J_58 H locs ls hP hD hS (lv_sub hl [0, 1, 2] rfl) hm
      · have hm := ifn c_9 hm
        refine lv_aload_n hx hb dX2_explore_12 rfl (lv_at hl 0 rfl) ?_
        refine va_get (D := G) (ci := 2) (v := .int (rs_6.1 0)) (C := RX2) (T := TX2) (N := 7) hx hb hts hi_2 hown hK hP 0 rfl rfl 1 (by decide) (hts (.fieldLink RX2 27 "HubTrains$RowSearch" "size" "I") (List.mem_of_getElem? (i := 1) rfl)) (fun _ h9 => h9) rfl dX2_explore_13 ?_
        refine lv_bipush (v := 12) hx hb dX2_explore_16 (by decide) ?_
        refine lv_icmp_ge (tgt := 58) hx hb dX2_explore_18 (by decide) (fun c_18 => ?_) (fun c_18 => ?_)
        · have hm := ifp c_18 hm
          exact J_58 H locs ls hP hD hS (lv_sub hl [0, 1, 2] rfl) hm
        · have hm := ifn c_18 hm
          refine lv_aload_n hx hb dX2_explore_21 rfl (lv_at hl 1 rfl) ?_
          refine lv_iload_n hx hb dX2_explore_22 rfl (lv_at hl 3 rfl) ?_
          obtain ⟨r23, e_23, hm⟩ := bd1_s hm
          refine zcVi (As := [.int v3_6]) (rest := []) ⟨hx, hb, hml, hown, hts⟩ (k_X1_holderOf l G K c ag g v3_6 r23 e_23) (cwV 1 hts gX2_explore_X1_holderOf rfl rfl rfl hd_X1_holderOf ⟨Nat.le_of_ble_eq_true rfl, Nat.le_of_ble_eq_true rfl⟩) hK hN hZ hP hD hS hA (va_recv hK hP (ci := 1) (q0 := 5) rfl rfl) [5, 6, 7, 8, 9, 10, 11, 12, 13, 14] rfl (by decide) rfl rfl hl.1 rfl (Nat.le_of_ble_eq_true rfl) dX2_explore_23 ⟨Nat.zero_le _, Nat.zero_le _⟩ (fun H locs hP hD hS => ?_)
          have hP : va_P G vwCl ((wS c rsa0 rsa1 rsa2 rsa3 rsa4 rs_6) ++ (wG c ag g)) H := hP
          have hD : va_D A ((wS c rsa0 rsa1 rsa2 rsa3 rsa4 rs_6) ++ (wG c ag g)) := hD
          refine lv_iload_n hx hb dX2_explore_26 rfl (lv_at hl 2 rfl) ?_
          refine lv_icmp_ne (tgt := 52) hx hb dX2_explore_27 (by decide) (fun c_27 => ?_) (fun c_27 => ?_)
          · have hm := ifn c_27 hm
            refine lv_iinc (k := 3) (v := (v3_6 + 1)) (lv' := [(3, .int (v3_6 + 1)), (0, .ref rsa0), (1, .ref (ag 0)), (2, .int p1)]) hx hb dX2_explore_52 hl rfl rfl (by decide) rfl (fun ls hl => ?_)
            refine lv_goto (tgt := 6) hx hb dX2_explore_55 (by decide) ?_
            exact ih_6 (v3_6 + 1) rs_6 H locs ls hP hD hS (lv_sub hl [1, 2, 3, 0] rfl) hm
          · have hm := ifp c_27 hm
            refine lv_aload_n hx hb dX2_explore_30 rfl (lv_at hl 0 rfl) ?_
            refine va_get (D := G) (ci := 2) (v := .ref rsa1) (C := RX2) (T := TX2) (N := 7) hx hb hts hi_2 hown hK hP 0 rfl rfl 0 (by decide) (hts (.fieldLink RX2 9 "HubTrains$RowSearch" "tiles" "[I") (List.mem_of_getElem? (i := 2) rfl)) (fun _ h9 => h9) rfl dX2_explore_31 ?_
            refine lv_aload_n hx hb dX2_explore_34 rfl (lv_at hl 0 rfl) ?_
            refine va_get (D := G) (ci := 2) (v := .int (rs_6.1 0)) (C := RX2) (T := TX2) (N := 7) hx hb hts hi_2 hown hK hP 0 rfl rfl 1 (by decide) (hts (.fieldLink RX2 27 "HubTrains$RowSearch" "size" "I") (List.mem_of_getElem? (i := 1) rfl)) (fun _ h9 => h9) rfl dX2_explore_35 ?_
            refine lv_iload_n hx hb dX2_explore_38 rfl (lv_at hl 3 rfl) ?_
            obtain ⟨h039, e_39, hm⟩ := bd1_s hm
            refine zcSNv (As := [.ref rsa1, .int (rs_6.1 0), .int v3_6]) (rest := []) ⟨hx, hb, hml, hown, hts⟩ (k_X7_put l G K c rsa1 12 (rs_6.2 0) (rs_6.1 0) v3_6 h039 e_39) ⟨va_cnB 3 hts gX2_explore_X7_put_n37 rfl rfl rfl (nwm_HubTrains_RowSearch_37 hN.2.1) (hts (.initialized RX7) (List.mem_of_getElem? (i := 14) rfl)) hd_X7_put.2 ⟨Nat.le_of_ble_eq_true rfl, Nat.le_of_ble_eq_true rfl⟩, (hts (.static yX7_put) (List.mem_of_getElem? (i := 16) rfl)), trivial⟩ hK hN hZ hP hD hS hA [1] rfl (by decide) rfl rfl hl.1 rfl (Nat.le_of_ble_eq_true rfl) dX2_explore_39 ⟨Nat.zero_le _, Nat.zero_le _⟩ (fun H locs hP hD hS => ?_)
            have hP : va_P G vwCl ((wS c rsa0 rsa1 rsa2 rsa3 rsa4 (sa rs_6 0 h039)) ++ (wG c ag g)) H := hP
            have hD : va_D A ((wS c rsa0 rsa1 rsa2 rsa3 rsa4 (sa rs_6 0 h039)) ++ (wG c ag g)) := hD
            refine lv_aload_n hx hb dX2_explore_42 rfl (lv_at hl 0 rfl) ?_
            refine lv_dup hx hb dX2_explore_43 rfl ?_
            refine va_get (D := G) (ci := 2) (v := .int (rs_6.1 0)) (C := RX2) (T := TX2) (N := 7) hx hb hts hi_2 hown hK hP 0 rfl rfl 1 (by decide) (hts (.fieldLink RX2 27 "HubTrains$RowSearch" "size" "I") (List.mem_of_getElem? (i := 1) rfl)) (fun _ h9 => h9) rfl dX2_explore_44 ?_
            refine lv_iconst (v := 1) hx hb dX2_explore_47 (by decide) ?_
            refine lv_iadd hx hb dX2_explore_48 ?_
            refine va_put (D := G) (ci := 2) (v := .int ((rs_6.1 0) + 1)) (C := RX2) (T := TX2) (N := 7) hx hb hts hi_2 tyX2 tyX2_ok nmX2 hown hK hP hD hS 0 rfl rfl 1 (by decide) (hts (.fieldLink RX2 27 "HubTrains$RowSearch" "size" "I") (List.mem_of_getElem? (i := 1) rfl)) (fun _ h9 => h9) rfl (tyX2_ok 1 (by decide)) rfl rfl (Nat.le_of_ble_eq_true rfl) dX2_explore_49 (fun H locs hP hD hS => ?_)
            have hP : va_P G vwCl ((wS c rsa0 rsa1 rsa2 rsa3 rsa4 (sa (ss rs_6 0 ((rs_6.1 0) + 1)) 0 h039)) ++ (wG c ag g)) H := hP
            have hD : va_D A ((wS c rsa0 rsa1 rsa2 rsa3 rsa4 (sa (ss rs_6 0 ((rs_6.1 0) + 1)) 0 h039)) ++ (wG c ag g)) := hD
            refine lv_iinc (k := 3) (v := (v3_6 + 1)) (lv' := [(3, .int (v3_6 + 1)), (0, .ref rsa0), (1, .ref (ag 0)), (2, .int p1)]) hx hb dX2_explore_52 hl rfl rfl (by decide) rfl (fun ls hl => ?_)
            refine lv_goto (tgt := 6) hx hb dX2_explore_55 (by decide) ?_
            exact ih_6 (v3_6 + 1) (sa (ss rs_6 0 ((rs_6.1 0) + 1)) 0 h039) H locs ls hP hD hS (lv_sub hl [1, 2, 3, 0] rfl) hm
  exact L_6 FUEL 0 rs1 H locs ls hP hD hS (lv_sub hl [1, 2, 3, 0] rfl) hm


def f_X2_longestLength (rs : SA) : Option Int32 :=
  bd1 (f_X7_look 4096 (rs.2 1) ((rs.1 2) - 1)) fun (r10 : Int32) => bd1 (f_J6_bitCount_0f7a4 r10) fun (r13 : Int32) => some (r13)

abbrev rm_X2_longestLength : Room := { frames := 1, cells := 0, slots := 0, locals := 21 }
theorem hd_X2_longestLength : yX2_longestLength.cls = RX2 ∧ yX2_longestLength.cls ≠ "java/lang/invoke/MethodHandle" ∧ yX2_longestLength.cls ≠ "java/lang/invoke/VarHandle" ∧ (parseMethodDescriptor yX2_longestLength.desc).map (fun d => d.parameters.length) = some 0 := by decide +kernel
set_option maxHeartbeats 4000000 in
set_option maxRecDepth 100000 in
theorem k_X2_longestLength (l : Launch) (G : va_G) (K : (Nat → Nat) × (Nat → Nat)) (c : Nat → ClassId) (rsa0 : Nat) (rsa1 : Nat) (rsa2 : Nat) (rsa3 : Nat) (rsa4 : Nat) (rs : SA) (r : Int32) (hm : f_X2_longestLength rs = some (r)) : zMi l yX2_longestLength wsX2_longestLength (rm_X2_longestLength) G K (TY c) [.ref rsa0] (wS c rsa0 rsa1 rsa2 rsa3 rsa4 rs) (wS c rsa0 rsa1 rsa2 rsa3 rsa4 rs) r := by
  refine zMi.of (cc := cX2_longestLength) (maxL := 1) (lv := [(0, .ref rsa0)]) (by decide) rfl (Nat.le_of_ble_eq_true rfl) rfl ?_
  intro p e s m args below meth c1 A Q H locs hx hb hml hown hts hK hN hZ hP hD hA hS hend ls hl
  have hown : s.vm.findClass RX2 = some m.cls := hown
  have hi_2 : ∀ w ∈ wsX20, w ∈ wsX2_longestLength := (fun w h => List.mem_cons_of_mem _ (List.mem_append_right _ (h)))
  unfold f_X2_longestLength at hm
  refine lv_aload_n hx hb dX2_longestLength_0 rfl (lv_at hl 0 rfl) ?_
  refine va_get (D := G) (ci := 2) (v := .ref rsa2) (C := RX2) (T := TX2) (N := 7) hx hb hts hi_2 hown hK hP 0 rfl rfl 3 (by decide) (hts (.fieldLink RX2 15 "HubTrains$RowSearch" "masks" "[I") (List.mem_of_getElem? (i := 1) rfl)) (fun _ h9 => h9) rfl dX2_longestLength_1 ?_
  refine lv_aload_n hx hb dX2_longestLength_4 rfl (lv_at hl 0 rfl) ?_
  refine va_get (D := G) (ci := 2) (v := .int (rs.1 2)) (C := RX2) (T := TX2) (N := 7) hx hb hts hi_2 hown hK hP 0 rfl rfl 4 (by decide) (hts (.fieldLink RX2 57 "HubTrains$RowSearch" "found" "I") (List.mem_of_getElem? (i := 2) rfl)) (fun _ h9 => h9) rfl dX2_longestLength_5 ?_
  refine lv_iconst (v := 1) hx hb dX2_longestLength_8 (by decide) ?_
  refine lv_isub hx hb dX2_longestLength_9 ?_
  obtain ⟨r10, e_10, hm⟩ := bd1_s hm
  refine zcSNi (As := [.ref rsa2, .int ((rs.1 2) - 1)]) (rest := []) ⟨hx, hb, hml, hown, hts⟩ (k_X7_look l G K c rsa2 4096 (rs.2 1) ((rs.1 2) - 1) r10 e_10) ⟨va_cnB 2 hts gX2_longestLength_X7_look_n60 rfl rfl rfl (nwm_HubTrains_RowSearch_60 hN.2.1) (hts (.initialized RX7) (List.mem_of_getElem? (i := 4) rfl)) hd_X7_look.2 ⟨Nat.le_of_ble_eq_true rfl, Nat.le_of_ble_eq_true rfl⟩, (hts (.static yX7_look) (List.mem_of_getElem? (i := 3) rfl)), trivial⟩ hK hN hZ hP hD hS hA [2] rfl (by decide) rfl rfl hl.1 rfl (Nat.le_of_ble_eq_true rfl) dX2_longestLength_10 ⟨Nat.zero_le _, Nat.zero_le _⟩ (fun H locs hP hD hS => ?_)
  have hP : va_P G vwCl (wS c rsa0 rsa1 rsa2 rsa3 rsa4 rs) H := hP
  have hD : va_D A (wS c rsa0 rsa1 rsa2 rsa3 rsa4 rs) := hD
  obtain ⟨r13, e_13, hm⟩ := bd1_s hm
  refine zcSi (As := [.int r10]) (rest := []) ⟨hx, hb, hml, hown, hts⟩ (k_J6_bitCount_0f7a4 l G K c r10 r13 e_13) (va_cwS 1 hts gX2_longestLength_J6_bitCount_0f7a4 rfl rfl rfl hd_J6_bitCount_0f7a4.2 ⟨Nat.le_of_ble_eq_true rfl, Nat.le_of_ble_eq_true rfl⟩) hK hN hZ hP hD hS hA [] rfl (by decide) rfl rfl hl.1 rfl (Nat.le_of_ble_eq_true rfl) dX2_longestLength_13 ⟨Nat.zero_le _, Nat.zero_le _⟩ (fun H locs hP hD hS => ?_)
  have hP : va_P G vwCl (wS c rsa0 rsa1 rsa2 rsa3 rsa4 rs) H := hP
  have hD : va_D A (wS c rsa0 rsa1 rsa2 rsa3 rsa4 rs) := hD
  exact hend H locs ls _ _ _ rfl (Option.some.inj hm) rfl hP hD hS dX2_longestLength_16

def f_X2_pipsOfMask_B4 (rs : SA) (p0 : Int32) (rec_4 : Int32 → Int32 → Option Int32) (v2_4 : Int32) (v3_4 : Int32) : Option Int32 :=
  if (rs.1 0) ≤ v3_4 then (some (v2_4)) else (if (p0 &&& ((1 : Int32) <<< (v3_4 &&& 31))) = 0 then (rec_4 v2_4 (v3_4 + 1)) else (bd1 (f_X7_look 12 (rs.2 0) v3_4) fun (r26 : Int32) => bd1 (f_X7_pipsOf r26) fun (r29 : Int32) => rec_4 (v2_4 + r29) (v3_4 + 1)))

def f_X2_pipsOfMask (rs : SA) (p0 : Int32) : Option Int32 :=
  itr2 (f_X2_pipsOfMask_B4 rs p0) FUEL 0 0

abbrev rm_X2_pipsOfMask : Room := { frames := 2, cells := 0, slots := 0, locals := 40 }
theorem hd_X2_pipsOfMask : yX2_pipsOfMask.cls = RX2 ∧ yX2_pipsOfMask.cls ≠ "java/lang/invoke/MethodHandle" ∧ yX2_pipsOfMask.cls ≠ "java/lang/invoke/VarHandle" ∧ (parseMethodDescriptor yX2_pipsOfMask.desc).map (fun d => d.parameters.length) = some 1 := by decide +kernel
set_option maxHeartbeats 4000000 in
set_option maxRecDepth 100000 in
theorem k_X2_pipsOfMask (l : Launch) (G : va_G) (K : (Nat → Nat) × (Nat → Nat)) (c : Nat → ClassId) (rsa0 : Nat) (rsa1 : Nat) (rsa2 : Nat) (rsa3 : Nat) (rsa4 : Nat) (rs : SA) (p0 : Int32) (r : Int32) (hm : f_X2_pipsOfMask rs p0 = some (r)) : zMi l yX2_pipsOfMask wsX2_pipsOfMask (rm_X2_pipsOfMask) G K (TY c) [.ref rsa0, .int p0] (wS c rsa0 rsa1 rsa2 rsa3 rsa4 rs) (wS c rsa0 rsa1 rsa2 rsa3 rsa4 rs) r := by
  refine zMi.of (cc := cX2_pipsOfMask) (maxL := 4) (lv := [(0, .ref rsa0), (1, .int p0)]) (by decide) rfl (Nat.le_of_ble_eq_true rfl) rfl ?_
  intro p e s m args below meth c1 A Q H locs hx hb hml hown hts hK hN hZ hP hD hA hS hend ls hl
  have hown : s.vm.findClass RX2 = some m.cls := hown
  have hi_2 : ∀ w ∈ wsX20, w ∈ wsX2_pipsOfMask := (fun w h => List.mem_cons_of_mem _ (List.mem_append_right _ (h)))
  unfold f_X2_pipsOfMask at hm
  refine lv_iconst (v := 0) hx hb dX2_pipsOfMask_0 (by decide) ?_
  refine lv_istore_n (lv' := [(2, .int 0), (0, .ref rsa0), (1, .int p0)]) hx hb dX2_pipsOfMask_1 rfl hl (by decide) rfl (fun ls hl => ?_)
  refine lv_iconst (v := 0) hx hb dX2_pipsOfMask_2 (by decide) ?_
  refine lv_istore_n (lv' := [(3, .int 0), (2, .int 0), (0, .ref rsa0), (1, .int p0)]) hx hb dX2_pipsOfMask_3 rfl hl (by decide) rfl (fun ls hl => ?_)
  have L_4 : ∀ (n_4 : Nat) (v2_4 : Int32) (v3_4 : Int32) (H : Heap) (locs : List Loc) (ls : Array Slot), va_P G vwCl (wS c rsa0 rsa1 rsa2 rsa3 rsa4 rs) H → va_D A (wS c rsa0 rsa1 rsa2 rsa3 rsa4 rs) → va_S A s.heap H locs → lv_has ls 4 [(0, .ref rsa0), (1, .int p0), (2, .int v2_4), (3, .int v3_4)] → itr2 (f_X2_pipsOfMask_B4 rs p0) n_4 v2_4 v3_4 = some (r) → W p l e (rm_X2_pipsOfMask) s m args below meth c1 H locs 0 0 Q (F0 m 4 ls []) := by
    intro n_4
    induction n_4 with
    | zero => intro v2_4 v3_4 H locs ls hP hD hS hl hm; exact (itr2_0 hm).elim
    | succ n_4 ih_4 =>
      intro v2_4 v3_4 H locs ls hP hD hS hl hm
      have hm := itr2_s hm
      unfold f_X2_pipsOfMask_B4 at hm
      refine lv_iload_n hx hb dX2_pipsOfMask_4 rfl (lv_at hl 3 rfl) ?_
      refine lv_aload_n hx hb dX2_pipsOfMask_5 rfl (lv_at hl 0 rfl) ?_
      refine va_get (D := G) (ci := 2) (v := .int (rs.1 0)) (C := RX2) (T := TX2) (N := 7) hx hb hts hi_2 hown hK hP 0 rfl rfl 1 (by decide) (hts (.fieldLink RX2 27 "HubTrains$RowSearch" "size" "I") (List.mem_of_getElem? (i := 1) rfl)) (fun _ h9 => h9) rfl dX2_pipsOfMask_6 ?_
      refine lv_icmp_ge (tgt := 40) hx hb dX2_pipsOfMask_9 (by decide) (fun c_9 => ?_) (fun c_9 => ?_)
      · have hm := ifp c_9 hm
        refine lv_iload_n hx hb dX2_pipsOfMask_40 rfl (lv_at hl 2 rfl) ?_
        exact hend H locs ls _ _ _ rfl (Option.some.inj hm) rfl hP hD hS dX2_pipsOfMask_41
      · have hm := ifn c_9 hm
        refine lv_iload_n hx hb dX2_pipsOfMask_12 rfl (lv_at hl 1 rfl) ?_
        refine lv_iconst (v := 1) hx hb dX2_pipsOfMask_13 (by decide) ?_
        refine lv_iload_n hx hb dX2_pipsOfMask_14 rfl (lv_at hl 3 rfl) ?_
        refine lv_ishl hx hb dX2_pipsOfMask_15 ?_
        refine lv_iand hx hb dX2_pipsOfMask_16 ?_
        refine lv_if_eq (tgt := 34) hx hb dX2_pipsOfMask_17 (by decide) (fun c_17 => ?_) (fun c_17 => ?_)
        · have hm := ifp c_17 hm
          refine lv_iinc (k := 3) (v := (v3_4 + 1)) (lv' := [(3, .int (v3_4 + 1)), (0, .ref rsa0), (1, .int p0), (2, .int v2_4)]) hx hb dX2_pipsOfMask_34 hl rfl rfl (by decide) rfl (fun ls hl => ?_)
          refine lv_goto (tgt := 4) hx hb dX2_pipsOfMask_37 (by decide) ?_
          exact ih_4 v2_4 (v3_4 + 1) H locs ls hP hD hS (lv_sub hl [1, 2, 3, 0] rfl) hm
        · have hm := ifn c_17 hm
          refine lv_iload_n hx hb dX2_pipsOfMask_20 rfl (lv_at hl 2 rfl) ?_
          refine lv_aload_n hx hb dX2_pipsOfMask_21 rfl (lv_at hl 0 rfl) ?_
          refine va_get (D := G) (ci := 2) (v := .ref rsa1) (C := RX2) (T := TX2) (N := 7) hx hb hts hi_2 hown hK hP 0 rfl rfl 0 (by decide) (hts (.fieldLink RX2 9 "HubTrains$RowSearch" "tiles" "[I") (List.mem_of_getElem? (i := 2) rfl)) (fun _ h9 => h9) rfl dX2_pipsOfMask_22 ?_
          refine lv_iload_n hx hb dX2_pipsOfMask_25 rfl (lv_at hl 3 rfl) ?_
          obtain ⟨r26, e_26, hm⟩ := bd1_s hm
          refine zcSNi (As := [.ref rsa1, .int v3_4]) (rest := [.int v2_4]) ⟨hx, hb, hml, hown, hts⟩ (k_X7_look l G K c rsa1 12 (rs.2 0) v3_4 r26 e_26) ⟨va_cnB 2 hts gX2_pipsOfMask_X7_look_n60 rfl rfl rfl (nwm_HubTrains_RowSearch_60 hN.2.1) (hts (.initialized RX7) (List.mem_of_getElem? (i := 4) rfl)) hd_X7_look.2 ⟨Nat.le_of_ble_eq_true rfl, Nat.le_of_ble_eq_true rfl⟩, (hts (.static yX7_look) (List.mem_of_getElem? (i := 3) rfl)), trivial⟩ hK hN hZ hP hD hS hA [1] rfl (by decide) rfl rfl hl.1 rfl (Nat.le_of_ble_eq_true rfl) dX2_pipsOfMask_26 ⟨Nat.zero_le _, Nat.zero_le _⟩ (fun H locs hP hD hS => ?_)
          have hP : va_P G vwCl (wS c rsa0 rsa1 rsa2 rsa3 rsa4 rs) H := hP
          have hD : va_D A (wS c rsa0 rsa1 rsa2 rsa3 rsa4 rs) := hD
          obtain ⟨r29, e_29, hm⟩ := bd1_s hm
          refine zcSNi (As := [.int r26]) (rest := [.int v2_4]) ⟨hx, hb, hml, hown, hts⟩ (k_X7_pipsOf l G K c r26 r29 e_29) ⟨va_cnB 1 hts gX2_pipsOfMask_X7_pipsOf_n91 rfl rfl rfl (nwm_HubTrains_RowSearch_91 hN.2.1) (hts (.initialized RX7) (List.mem_of_getElem? (i := 4) rfl)) hd_X7_pipsOf.2 ⟨Nat.le_of_ble_eq_true rfl, Nat.le_of_ble_eq_true rfl⟩, (hts (.static yX7_pipsOf) (List.mem_of_getElem? (i := 6) rfl)), trivial⟩ hK hN hZ hP hD hS hA [] rfl (by decide) rfl rfl hl.1 rfl (Nat.le_of_ble_eq_true rfl) dX2_pipsOfMask_29 ⟨Nat.zero_le _, Nat.zero_le _⟩ (fun H locs hP hD hS => ?_)
          have hP : va_P G vwCl (wS c rsa0 rsa1 rsa2 rsa3 rsa4 rs) H := hP
          have hD : va_D A (wS c rsa0 rsa1 rsa2 rsa3 rsa4 rs) := hD
          refine lv_iadd hx hb dX2_pipsOfMask_32 ?_
          refine lv_istore_n (lv' := [(2, .int (v2_4 + r29)), (0, .ref rsa0), (1, .int p0), (3, .int v3_4)]) hx hb dX2_pipsOfMask_33 rfl hl (by decide) rfl (fun ls hl => ?_)
          refine lv_iinc (k := 3) (v := (v3_4 + 1)) (lv' := [(3, .int (v3_4 + 1)), (2, .int (v2_4 + r29)), (0, .ref rsa0), (1, .int p0)]) hx hb dX2_pipsOfMask_34 hl rfl rfl (by decide) rfl (fun ls hl => ?_)
          refine lv_goto (tgt := 4) hx hb dX2_pipsOfMask_37 (by decide) ?_
          exact ih_4 (v2_4 + r29) (v3_4 + 1) H locs ls hP hD hS (lv_sub hl [2, 3, 1, 0] rfl) hm
  exact L_4 FUEL 0 0 H locs ls hP hD hS (lv_sub hl [2, 3, 1, 0] rfl) hm

def f_X2_mostPips_B4 (rs : SA) (rec_4 : Int32 → Int32 → Option Int32) (v1_4 : Int32) (v2_4 : Int32) : Option Int32 :=
  if (rs.1 2) ≤ v2_4 then (some (v1_4)) else (bd1 (f_X7_look 4096 (rs.2 1) v2_4) fun (r19 : Int32) => bd1 (f_X2_pipsOfMask rs r19) fun (r22 : Int32) => nmd (if v1_4 < r22 then r22 else v1_4) fun (x1_28 : Int32) => rec_4 x1_28 (v2_4 + 1))

def f_X2_mostPips (rs : SA) : Option Int32 :=
  itr2 (f_X2_mostPips_B4 rs) FUEL 0 0

abbrev rm_X2_mostPips : Room := { frames := 3, cells := 0, slots := 0, locals := 63 }
theorem hd_X2_mostPips : yX2_mostPips.cls = RX2 ∧ yX2_mostPips.cls ≠ "java/lang/invoke/MethodHandle" ∧ yX2_mostPips.cls ≠ "java/lang/invoke/VarHandle" ∧ (parseMethodDescriptor yX2_mostPips.desc).map (fun d => d.parameters.length) = some 0 := by decide +kernel
set_option maxHeartbeats 4000000 in
set_option maxRecDepth 100000 in
theorem k_X2_mostPips (l : Launch) (G : va_G) (K : (Nat → Nat) × (Nat → Nat)) (c : Nat → ClassId) (rsa0 : Nat) (rsa1 : Nat) (rsa2 : Nat) (rsa3 : Nat) (rsa4 : Nat) (rs : SA) (r : Int32) (hm : f_X2_mostPips rs = some (r)) : zMi l yX2_mostPips wsX2_mostPips (rm_X2_mostPips) G K (TY c) [.ref rsa0] (wS c rsa0 rsa1 rsa2 rsa3 rsa4 rs) (wS c rsa0 rsa1 rsa2 rsa3 rsa4 rs) r := by
  refine zMi.of (cc := cX2_mostPips) (maxL := 3) (lv := [(0, .ref rsa0)]) (by decide) rfl (Nat.le_of_ble_eq_true rfl) rfl ?_
  intro p e s m args below meth c1 A Q H locs hx hb hml hown hts hK hN hZ hP hD hA hS hend ls hl
  have hown : s.vm.findClass RX2 = some m.cls := hown
  have hi_2 : ∀ w ∈ wsX20, w ∈ wsX2_mostPips := (fun w h => List.mem_cons_of_mem _ (List.mem_append_right _ (h)))
  unfold f_X2_mostPips at hm
  refine lv_iconst (v := 0) hx hb dX2_mostPips_0 (by decide) ?_
  refine lv_istore_n (lv' := [(1, .int 0), (0, .ref rsa0)]) hx hb dX2_mostPips_1 rfl hl (by decide) rfl (fun ls hl => ?_)
  refine lv_iconst (v := 0) hx hb dX2_mostPips_2 (by decide) ?_
  refine lv_istore_n (lv' := [(2, .int 0), (1, .int 0), (0, .ref rsa0)]) hx hb dX2_mostPips_3 rfl hl (by decide) rfl (fun ls hl => ?_)
  have L_4 : ∀ (n_4 : Nat) (v1_4 : Int32) (v2_4 : Int32) (H : Heap) (locs : List Loc) (ls : Array Slot), va_P G vwCl (wS c rsa0 rsa1 rsa2 rsa3 rsa4 rs) H → va_D A (wS c rsa0 rsa1 rsa2 rsa3 rsa4 rs) → va_S A s.heap H locs → lv_has ls 3 [(0, .ref rsa0), (1, .int v1_4), (2, .int v2_4)] → itr2 (f_X2_mostPips_B4 rs) n_4 v1_4 v2_4 = some (r) → W p l e (rm_X2_mostPips) s m args below meth c1 H locs 0 0 Q (F0 m 4 ls []) := by
    intro n_4
    induction n_4 with
    | zero => intro v1_4 v2_4 H locs ls hP hD hS hl hm; exact (itr2_0 hm).elim
    | succ n_4 ih_4 =>
      intro v1_4 v2_4 H locs ls hP hD hS hl hm
      have hm := itr2_s hm
      unfold f_X2_mostPips_B4 at hm
      refine lv_iload_n hx hb dX2_mostPips_4 rfl (lv_at hl 2 rfl) ?_
      refine lv_aload_n hx hb dX2_mostPips_5 rfl (lv_at hl 0 rfl) ?_
      refine va_get (D := G) (ci := 2) (v := .int (rs.1 2)) (C := RX2) (T := TX2) (N := 7) hx hb hts hi_2 hown hK hP 0 rfl rfl 4 (by decide) (hts (.fieldLink RX2 57 "HubTrains$RowSearch" "found" "I") (List.mem_of_getElem? (i := 1) rfl)) (fun _ h9 => h9) rfl dX2_mostPips_6 ?_
      refine lv_icmp_ge (tgt := 35) hx hb dX2_mostPips_9 (by decide) (fun c_9 => ?_) (fun c_9 => ?_)
      · have hm := ifp c_9 hm
        refine lv_iload_n hx hb dX2_mostPips_35 rfl (lv_at hl 1 rfl) ?_
        exact hend H locs ls _ _ _ rfl (Option.some.inj hm) rfl hP hD hS dX2_mostPips_36
      · have hm := ifn c_9 hm
        refine lv_iload_n hx hb dX2_mostPips_12 rfl (lv_at hl 1 rfl) ?_
        refine lv_aload_n hx hb dX2_mostPips_13 rfl (lv_at hl 0 rfl) ?_
        refine lv_aload_n hx hb dX2_mostPips_14 rfl (lv_at hl 0 rfl) ?_
        refine va_get (D := G) (ci := 2) (v := .ref rsa2) (C := RX2) (T := TX2) (N := 7) hx hb hts hi_2 hown hK hP 0 rfl rfl 3 (by decide) (hts (.fieldLink RX2 15 "HubTrains$RowSearch" "masks" "[I") (List.mem_of_getElem? (i := 2) rfl)) (fun _ h9 => h9) rfl dX2_mostPips_15 ?_
        refine lv_iload_n hx hb dX2_mostPips_18 rfl (lv_at hl 2 rfl) ?_
        obtain ⟨r19, e_19, hm⟩ := bd1_s hm
        refine zcSNi (As := [.ref rsa2, .int v2_4]) (rest := [.ref rsa0, .int v1_4]) ⟨hx, hb, hml, hown, hts⟩ (k_X7_look l G K c rsa2 4096 (rs.2 1) v2_4 r19 e_19) ⟨va_cnB 2 hts gX2_mostPips_X7_look_n60 rfl rfl rfl (nwm_HubTrains_RowSearch_60 hN.2.1) (hts (.initialized RX7) (List.mem_of_getElem? (i := 8) rfl)) hd_X7_look.2 ⟨Nat.le_of_ble_eq_true rfl, Nat.le_of_ble_eq_true rfl⟩, (hts (.static yX7_look) (List.mem_of_getElem? (i := 7) rfl)), trivial⟩ hK hN hZ hP hD hS hA [2] rfl (by decide) rfl rfl hl.1 rfl (Nat.le_of_ble_eq_true rfl) dX2_mostPips_19 ⟨Nat.zero_le _, Nat.zero_le _⟩ (fun H locs hP hD hS => ?_)
        have hP : va_P G vwCl (wS c rsa0 rsa1 rsa2 rsa3 rsa4 rs) H := hP
        have hD : va_D A (wS c rsa0 rsa1 rsa2 rsa3 rsa4 rs) := hD
        obtain ⟨r22, e_22, hm⟩ := bd1_s hm
        refine zcVi (As := [.int r19]) (rest := [.int v1_4]) ⟨hx, hb, hml, hown, hts⟩ (k_X2_pipsOfMask l G K c rsa0 rsa1 rsa2 rsa3 rsa4 rs r19 r22 e_22) (cwV 1 hts gX2_mostPips_X2_pipsOfMask rfl rfl rfl hd_X2_pipsOfMask ⟨Nat.le_of_ble_eq_true rfl, Nat.le_of_ble_eq_true rfl⟩) hK hN hZ hP hD hS hA (va_recv hK hP (ci := 2) (q0 := 0) rfl rfl) [0, 1, 2, 3, 4] rfl (by decide) rfl rfl hl.1 rfl (Nat.le_of_ble_eq_true rfl) dX2_mostPips_22 ⟨Nat.zero_le _, Nat.zero_le _⟩ (fun H locs hP hD hS => ?_)
        have hP : va_P G vwCl (wS c rsa0 rsa1 rsa2 rsa3 rsa4 rs) H := hP
        have hD : va_D A (wS c rsa0 rsa1 rsa2 rsa3 rsa4 rs) := hD
        refine va_mmax hx hb (hml.trans hl.1.symm) hown (hts (.methodLink RX2 86 Lib.Math.max.name) (List.mem_of_getElem? (i := 3) rfl)) (hts (.static Lib.Math.max.name) (List.mem_of_getElem? (i := 4) rfl)) (hts (.initialized "java/lang/Math") (List.mem_of_getElem? (i := 5) rfl)) (hts (.code Lib.Math.max.name Lib.Math.max.code 2 (some .int)) (List.mem_of_getElem? (i := 6) rfl)) (Nat.le_of_ble_eq_true rfl) (Nat.le_of_ble_eq_true rfl) (Nat.zero_le _) (Nat.zero_le _) dX2_mostPips_25 ?_
        refine lv_topi (fun x1_28 e_x1_28 => ?_)
        have hm := nmd_s hm x1_28 e_x1_28
        refine lv_istore_n (lv' := [(1, .int x1_28), (0, .ref rsa0), (2, .int v2_4)]) hx hb dX2_mostPips_28 rfl hl (by decide) rfl (fun ls hl => ?_)
        refine lv_iinc (k := 2) (v := (v2_4 + 1)) (lv' := [(2, .int (v2_4 + 1)), (1, .int x1_28), (0, .ref rsa0)]) hx hb dX2_mostPips_29 hl rfl rfl (by decide) rfl (fun ls hl => ?_)
        refine lv_goto (tgt := 4) hx hb dX2_mostPips_32 (by decide) ?_
        exact ih_4 x1_28 (v2_4 + 1) H locs ls hP hD hS (lv_sub hl [2, 1, 0] rfl) hm
  exact L_4 FUEL 0 0 H locs ls hP hD hS (lv_sub hl [2, 1, 0] rfl) hm

def f_X2_hopeOf_B4 (rs : SA) (p0 : Int32) (rec_4 : Int32 → Int32 → Option Int32) (v2_4 : Int32) (v3_4 : Int32) : Option Int32 :=
  if (rs.1 0) ≤ v3_4 then (bd1 (f_X7_look 4096 (rs.2 2) p0) fun (r58 : Int32) => some ((v2_4 &&& r58))) else (if (p0 &&& ((1 : Int32) <<< (v3_4 &&& 31))) = 0 then (bd1 (f_X7_look 12 (rs.2 0) v3_4) fun (r26 : Int32) => bd1 (f_X7_look 4096 (rs.2 3) (p0 ||| ((1 : Int32) <<< (v3_4 &&& 31)))) fun (r38 : Int32) => bd1 (f_X2_acrossTile r26 r38) fun (r41 : Int32) => rec_4 (v2_4 ||| r41) (v3_4 + 1)) else (rec_4 v2_4 (v3_4 + 1)))

def f_X2_hopeOf (rs : SA) (p0 : Int32) : Option Int32 :=
  itr2 (f_X2_hopeOf_B4 rs p0) FUEL 0 0

abbrev rm_X2_hopeOf : Room := { frames := 2, cells := 0, slots := 0, locals := 42 }
theorem hd_X2_hopeOf : yX2_hopeOf.cls = RX2 ∧ yX2_hopeOf.cls ≠ "java/lang/invoke/MethodHandle" ∧ yX2_hopeOf.cls ≠ "java/lang/invoke/VarHandle" ∧ (parseMethodDescriptor yX2_hopeOf.desc).map (fun d => d.parameters.length) = some 1 := by decide +kernel
set_option maxHeartbeats 4000000 in
set_option maxRecDepth 100000 in
theorem k_X2_hopeOf (l : Launch) (G : va_G) (K : (Nat → Nat) × (Nat → Nat)) (c : Nat → ClassId) (rsa0 : Nat) (rsa1 : Nat) (rsa2 : Nat) (rsa3 : Nat) (rsa4 : Nat) (rs : SA) (p0 : Int32) (r : Int32) (hm : f_X2_hopeOf rs p0 = some (r)) : zMi l yX2_hopeOf wsX2_hopeOf (rm_X2_hopeOf) G K (TY c) [.ref rsa0, .int p0] (wS c rsa0 rsa1 rsa2 rsa3 rsa4 rs) (wS c rsa0 rsa1 rsa2 rsa3 rsa4 rs) r := by
  refine zMi.of (cc := cX2_hopeOf) (maxL := 4) (lv := [(0, .ref rsa0), (1, .int p0)]) (by decide) rfl (Nat.le_of_ble_eq_true rfl) rfl ?_
  intro p e s m args below meth c1 A Q H locs hx hb hml hown hts hK hN hZ hP hD hA hS hend ls hl
  have hown : s.vm.findClass RX2 = some m.cls := hown
  have hi_2 : ∀ w ∈ wsX20, w ∈ wsX2_hopeOf := (fun w h => List.mem_cons_of_mem _ (List.mem_append_right _ (h)))
  unfold f_X2_hopeOf at hm
  refine lv_iconst (v := 0) hx hb dX2_hopeOf_0 (by decide) ?_
  refine lv_istore_n (lv' := [(2, .int 0), (0, .ref rsa0), (1, .int p0)]) hx hb dX2_hopeOf_1 rfl hl (by decide) rfl (fun ls hl => ?_)
  refine lv_iconst (v := 0) hx hb dX2_hopeOf_2 (by decide) ?_
  refine lv_istore_n (lv' := [(3, .int 0), (2, .int 0), (0, .ref rsa0), (1, .int p0)]) hx hb dX2_hopeOf_3 rfl hl (by decide) rfl (fun ls hl => ?_)
  have L_4 : ∀ (n_4 : Nat) (v2_4 : Int32) (v3_4 : Int32) (H : Heap) (locs : List Loc) (ls : Array Slot), va_P G vwCl (wS c rsa0 rsa1 rsa2 rsa3 rsa4 rs) H → va_D A (wS c rsa0 rsa1 rsa2 rsa3 rsa4 rs) → va_S A s.heap H locs → lv_has ls 4 [(0, .ref rsa0), (1, .int p0), (2, .int v2_4), (3, .int v3_4)] → itr2 (f_X2_hopeOf_B4 rs p0) n_4 v2_4 v3_4 = some (r) → W p l e (rm_X2_hopeOf) s m args below meth c1 H locs 0 0 Q (F0 m 4 ls []) := by
    intro n_4
    induction n_4 with
    | zero => intro v2_4 v3_4 H locs ls hP hD hS hl hm; exact (itr2_0 hm).elim
    | succ n_4 ih_4 =>
      intro v2_4 v3_4 H locs ls hP hD hS hl hm
      have hm := itr2_s hm
      unfold f_X2_hopeOf_B4 at hm
      refine lv_iload_n hx hb dX2_hopeOf_4 rfl (lv_at hl 3 rfl) ?_
      refine lv_aload_n hx hb dX2_hopeOf_5 rfl (lv_at hl 0 rfl) ?_
      refine va_get (D := G) (ci := 2) (v := .int (rs.1 0)) (C := RX2) (T := TX2) (N := 7) hx hb hts hi_2 hown hK hP 0 rfl rfl 1 (by decide) (hts (.fieldLink RX2 27 "HubTrains$RowSearch" "size" "I") (List.mem_of_getElem? (i := 1) rfl)) (fun _ h9 => h9) rfl dX2_hopeOf_6 ?_
      refine lv_icmp_ge (tgt := 52) hx hb dX2_hopeOf_9 (by decide) (fun c_9 => ?_) (fun c_9 => ?_)
      · have hm := ifp c_9 hm
        refine lv_iload_n hx hb dX2_hopeOf_52 rfl (lv_at hl 2 rfl) ?_
        refine lv_aload_n hx hb dX2_hopeOf_53 rfl (lv_at hl 0 rfl) ?_
        refine va_get (D := G) (ci := 2) (v := .ref rsa3) (C := RX2) (T := TX2) (N := 7) hx hb hts hi_2 hown hK hP 0 rfl rfl 5 (by decide) (hts (.fieldLink RX2 18 "HubTrains$RowSearch" "ends" "[I") (List.mem_of_getElem? (i := 4) rfl)) (fun _ h9 => h9) rfl dX2_hopeOf_54 ?_
        refine lv_iload_n hx hb dX2_hopeOf_57 rfl (lv_at hl 1 rfl) ?_
        obtain ⟨r58, e_58, hm⟩ := bd1_s hm
        refine zcSNi (As := [.ref rsa3, .int p0]) (rest := [.int v2_4]) ⟨hx, hb, hml, hown, hts⟩ (k_X7_look l G K c rsa3 4096 (rs.2 2) p0 r58 e_58) ⟨va_cnB 2 hts gX2_hopeOf_X7_look_n60 rfl rfl rfl (nwm_HubTrains_RowSearch_60 hN.2.1) (hts (.initialized RX7) (List.mem_of_getElem? (i := 6) rfl)) hd_X7_look.2 ⟨Nat.le_of_ble_eq_true rfl, Nat.le_of_ble_eq_true rfl⟩, (hts (.static yX7_look) (List.mem_of_getElem? (i := 5) rfl)), trivial⟩ hK hN hZ hP hD hS hA [3] rfl (by decide) rfl rfl hl.1 rfl (Nat.le_of_ble_eq_true rfl) dX2_hopeOf_58 ⟨Nat.zero_le _, Nat.zero_le _⟩ (fun H locs hP hD hS => ?_)
        have hP : va_P G vwCl (wS c rsa0 rsa1 rsa2 rsa3 rsa4 rs) H := hP
        have hD : va_D A (wS c rsa0 rsa1 rsa2 rsa3 rsa4 rs) := hD
        refine lv_iand hx hb dX2_hopeOf_61 ?_
        exact hend H locs ls _ _ _ rfl (Option.some.inj hm) rfl hP hD hS dX2_hopeOf_62
      · have hm := ifn c_9 hm
        refine lv_iload_n hx hb dX2_hopeOf_12 rfl (lv_at hl 1 rfl) ?_
        refine lv_iconst (v := 1) hx hb dX2_hopeOf_13 (by decide) ?_
        refine lv_iload_n hx hb dX2_hopeOf_14 rfl (lv_at hl 3 rfl) ?_
        refine lv_ishl hx hb dX2_hopeOf_15 ?_
        refine lv_iand hx hb dX2_hopeOf_16 ?_
        refine lv_if_ne (tgt := 46) hx hb dX2_hopeOf_17 (by decide) (fun c_17 => ?_) (fun c_17 => ?_)
        · have hm := ifn c_17 hm
          refine lv_iinc (k := 3) (v := (v3_4 + 1)) (lv' := [(3, .int (v3_4 + 1)), (0, .ref rsa0), (1, .int p0), (2, .int v2_4)]) hx hb dX2_hopeOf_46 hl rfl rfl (by decide) rfl (fun ls hl => ?_)
          refine lv_goto (tgt := 4) hx hb dX2_hopeOf_49 (by decide) ?_
          exact ih_4 v2_4 (v3_4 + 1) H locs ls hP hD hS (lv_sub hl [1, 2, 3, 0] rfl) hm
        · have hm := ifp c_17 hm
          refine lv_iload_n hx hb dX2_hopeOf_20 rfl (lv_at hl 2 rfl) ?_
          refine lv_aload_n hx hb dX2_hopeOf_21 rfl (lv_at hl 0 rfl) ?_
          refine va_get (D := G) (ci := 2) (v := .ref rsa1) (C := RX2) (T := TX2) (N := 7) hx hb hts hi_2 hown hK hP 0 rfl rfl 0 (by decide) (hts (.fieldLink RX2 9 "HubTrains$RowSearch" "tiles" "[I") (List.mem_of_getElem? (i := 2) rfl)) (fun _ h9 => h9) rfl dX2_hopeOf_22 ?_
          refine lv_iload_n hx hb dX2_hopeOf_25 rfl (lv_at hl 3 rfl) ?_
          obtain ⟨r26, e_26, hm⟩ := bd1_s hm
          refine zcSNi (As := [.ref rsa1, .int v3_4]) (rest := [.int v2_4]) ⟨hx, hb, hml, hown, hts⟩ (k_X7_look l G K c rsa1 12 (rs.2 0) v3_4 r26 e_26) ⟨va_cnB 2 hts gX2_hopeOf_X7_look_n60 rfl rfl rfl (nwm_HubTrains_RowSearch_60 hN.2.1) (hts (.initialized RX7) (List.mem_of_getElem? (i := 6) rfl)) hd_X7_look.2 ⟨Nat.le_of_ble_eq_true rfl, Nat.le_of_ble_eq_true rfl⟩, (hts (.static yX7_look) (List.mem_of_getElem? (i := 5) rfl)), trivial⟩ hK hN hZ hP hD hS hA [1] rfl (by decide) rfl rfl hl.1 rfl (Nat.le_of_ble_eq_true rfl) dX2_hopeOf_26 ⟨Nat.zero_le _, Nat.zero_le _⟩ (fun H locs hP hD hS => ?_)
          have hP : va_P G vwCl (wS c rsa0 rsa1 rsa2 rsa3 rsa4 rs) H := hP
          have hD : va_D A (wS c rsa0 rsa1 rsa2 rsa3 rsa4 rs) := hD
          refine lv_aload_n hx hb dX2_hopeOf_29 rfl (lv_at hl 0 rfl) ?_
          refine va_get (D := G) (ci := 2) (v := .ref rsa4) (C := RX2) (T := TX2) (N := 7) hx hb hts hi_2 hown hK hP 0 rfl rfl 6 (by decide) (hts (.fieldLink RX2 21 "HubTrains$RowSearch" "hopeful" "[I") (List.mem_of_getElem? (i := 3) rfl)) (fun _ h9 => h9) rfl dX2_hopeOf_30 ?_
          refine lv_iload_n hx hb dX2_hopeOf_33 rfl (lv_at hl 1 rfl) ?_
          refine lv_iconst (v := 1) hx hb dX2_hopeOf_34 (by decide) ?_
          refine lv_iload_n hx hb dX2_hopeOf_35 rfl (lv_at hl 3 rfl) ?_
          refine lv_ishl hx hb dX2_hopeOf_36 ?_
          refine lv_ior hx hb dX2_hopeOf_37 ?_
          obtain ⟨r38, e_38, hm⟩ := bd1_s hm
          refine zcSNi (As := [.ref rsa4, .int (p0 ||| ((1 : Int32) <<< (v3_4 &&& 31)))]) (rest := [.int r26, .int v2_4]) ⟨hx, hb, hml, hown, hts⟩ (k_X7_look l G K c rsa4 4096 (rs.2 3) (p0 ||| ((1 : Int32) <<< (v3_4 &&& 31))) r38 e_38) ⟨va_cnB 2 hts gX2_hopeOf_X7_look_n60 rfl rfl rfl (nwm_HubTrains_RowSearch_60 hN.2.1) (hts (.initialized RX7) (List.mem_of_getElem? (i := 6) rfl)) hd_X7_look.2 ⟨Nat.le_of_ble_eq_true rfl, Nat.le_of_ble_eq_true rfl⟩, (hts (.static yX7_look) (List.mem_of_getElem? (i := 5) rfl)), trivial⟩ hK hN hZ hP hD hS hA [4] rfl (by decide) rfl rfl hl.1 rfl (Nat.le_of_ble_eq_true rfl) dX2_hopeOf_38 ⟨Nat.zero_le _, Nat.zero_le _⟩ (fun H locs hP hD hS => ?_)
          have hP : va_P G vwCl (wS c rsa0 rsa1 rsa2 rsa3 rsa4 rs) H := hP
          have hD : va_D A (wS c rsa0 rsa1 rsa2 rsa3 rsa4 rs) := hD
          obtain ⟨r41, e_41, hm⟩ := bd1_s hm
          refine zcSi (As := [.int r26, .int r38]) (rest := [.int v2_4]) ⟨hx, hb, hml, hown, hts⟩ (k_X2_acrossTile l G K c r26 r38 r41 e_41) (va_cwS 2 hts gX2_hopeOf_X2_acrossTile rfl rfl rfl hd_X2_acrossTile.2 ⟨Nat.le_of_ble_eq_true rfl, Nat.le_of_ble_eq_true rfl⟩) hK hN hZ hP hD hS hA [] rfl (by decide) rfl rfl hl.1 rfl (Nat.le_of_ble_eq_true rfl) dX2_hopeOf_41 ⟨Nat.zero_le _, Nat.zero_le _⟩ (fun H locs hP hD hS => ?_)
          have hP : va_P G vwCl (wS c rsa0 rsa1 rsa2 rsa3 rsa4 rs) H := hP
          have hD : va_D A (wS c rsa0 rsa1 rsa2 rsa3 rsa4 rs) := hD
          refine lv_ior hx hb dX2_hopeOf_44 ?_
          refine lv_istore_n (lv' := [(2, .int (v2_4 ||| r41)), (0, .ref rsa0), (1, .int p0), (3, .int v3_4)]) hx hb dX2_hopeOf_45 rfl hl (by decide) rfl (fun ls hl => ?_)
          refine lv_iinc (k := 3) (v := (v3_4 + 1)) (lv' := [(3, .int (v3_4 + 1)), (2, .int (v2_4 ||| r41)), (0, .ref rsa0), (1, .int p0)]) hx hb dX2_hopeOf_46 hl rfl rfl (by decide) rfl (fun ls hl => ?_)
          refine lv_goto (tgt := 4) hx hb dX2_hopeOf_49 (by decide) ?_
          exact ih_4 (v2_4 ||| r41) (v3_4 + 1) H locs ls hP hD hS (lv_sub hl [2, 3, 1, 0] rfl) hm
  exact L_4 FUEL 0 0 H locs ls hP hD hS (lv_sub hl [2, 3, 1, 0] rfl) hm

def f_X2_findHopeful_J44 (rec_7 : Int32 → SA → Option SA) (v2_7 : Int32) (rs_7 : SA) (r16 : Int32) (s0_44 : Int32) : Option SA :=
  bd1 (f_X7_put 4096 (rs_7.2 3) r16 s0_44) fun (h053 : Nat → Int32) => rec_7 (v2_7 + (-1)) (sa rs_7 3 h053)

def f_X2_findHopeful_B7 (p0 : Int32) (rec_7 : Int32 → SA → Option SA) (v2_7 : Int32) (rs_7 : SA) : Option SA :=
  if v2_7 < 0 then (some (rs_7)) else (bd1 (f_X7_look 4096 (rs_7.2 1) v2_7) fun (r16 : Int32) => bd1 (f_J6_bitCount_0f7a4 r16) fun (r21 : Int32) => if r21 = p0 then (bd1 (f_X7_look 4096 (rs_7.2 2) r16) fun (r33 : Int32) => f_X2_findHopeful_J44 rec_7 v2_7 rs_7 r16 r33) else (bd1 (f_X2_hopeOf rs_7 r16) fun (r41 : Int32) => f_X2_findHopeful_J44 rec_7 v2_7 rs_7 r16 r41))

def f_X2_findHopeful (rs : SA) (p0 : Int32) : Option SA :=
  itr2 (f_X2_findHopeful_B7 p0) FUEL ((rs.1 2) - 1) rs

abbrev rm_X2_findHopeful : Room := { frames := 3, cells := 0, slots := 0, locals := 65 }
theorem hd_X2_findHopeful : yX2_findHopeful.cls = RX2 ∧ yX2_findHopeful.cls ≠ "java/lang/invoke/MethodHandle" ∧ yX2_findHopeful.cls ≠ "java/lang/invoke/VarHandle" ∧ (parseMethodDescriptor yX2_findHopeful.desc).map (fun d => d.parameters.length) = some 1 := by decide +kernel
set_option maxHeartbeats 4000000 in
set_option maxRecDepth 100000 in
theorem k_X2_findHopeful (l : Launch) (G : va_G) (K : (Nat → Nat) × (Nat → Nat)) (c : Nat → ClassId) (rsa0 : Nat) (rsa1 : Nat) (rsa2 : Nat) (rsa3 : Nat) (rsa4 : Nat) (rs : SA) (p0 : Int32) (rs_r : SA) (hm : f_X2_findHopeful rs p0 = some (rs_r)) : zMv l yX2_findHopeful wsX2_findHopeful (rm_X2_findHopeful) G K (TY c) [.ref rsa0, .int p0] (wS c rsa0 rsa1 rsa2 rsa3 rsa4 rs) (wS c rsa0 rsa1 rsa2 rsa3 rsa4 rs_r) := by
  refine zMv.of (cc := cX2_findHopeful) (maxL := 5) (lv := [(0, .ref rsa0), (1, .int p0)]) (by decide) rfl (Nat.le_of_ble_eq_true rfl) rfl ?_
  intro p e s m args below meth c1 A Q H locs hx hb hml hown hts hK hN hZ hP hD hA hS hend ls hl
  have hown : s.vm.findClass RX2 = some m.cls := hown
  have hi_2 : ∀ w ∈ wsX20, w ∈ wsX2_findHopeful := (fun w h => List.mem_cons_of_mem _ (List.mem_append_right _ (h)))
  unfold f_X2_findHopeful at hm
  refine lv_aload_n hx hb dX2_findHopeful_0 rfl (lv_at hl 0 rfl) ?_
  refine va_get (D := G) (ci := 2) (v := .int (rs.1 2)) (C := RX2) (T := TX2) (N := 7) hx hb hts hi_2 hown hK hP 0 rfl rfl 4 (by decide) (hts (.fieldLink RX2 57 "HubTrains$RowSearch" "found" "I") (List.mem_of_getElem? (i := 1) rfl)) (fun _ h9 => h9) rfl dX2_findHopeful_1 ?_
  refine lv_iconst (v := 1) hx hb dX2_findHopeful_4 (by decide) ?_
  refine lv_isub hx hb dX2_findHopeful_5 ?_
  refine lv_istore_n (lv' := [(2, .int ((rs.1 2) - 1)), (0, .ref rsa0), (1, .int p0)]) hx hb dX2_findHopeful_6 rfl hl (by decide) rfl (fun ls hl => ?_)
  have L_7 : ∀ (n_7 : Nat) (v2_7 : Int32) (rs_7 : SA) (H : Heap) (locs : List Loc) (ls : Array Slot), va_P G vwCl (wS c rsa0 rsa1 rsa2 rsa3 rsa4 rs_7) H → va_D A (wS c rsa0 rsa1 rsa2 rsa3 rsa4 rs_7) → va_S A s.heap H locs → lv_has ls 5 [(0, .ref rsa0), (1, .int p0), (2, .int v2_7)] → itr2 (f_X2_findHopeful_B7 p0) n_7 v2_7 rs_7 = some (rs_r) → W p l e (rm_X2_findHopeful) s m args below meth c1 H locs 0 0 Q (F0 m 7 ls []) := by
    intro n_7
    induction n_7 with
    | zero => intro v2_7 rs_7 H locs ls hP hD hS hl hm; exact (itr2_0 hm).elim
    | succ n_7 ih_7 =>
      intro v2_7 rs_7 H locs ls hP hD hS hl hm
      have hm := itr2_s hm
      unfold f_X2_findHopeful_B7 at hm
      refine lv_iload_n hx hb dX2_findHopeful_7 rfl (lv_at hl 2 rfl) ?_
      refine lv_if_lt (tgt := 62) hx hb dX2_findHopeful_8 (by decide) (fun c_8 => ?_) (fun c_8 => ?_)
      · have hm := ifp c_8 hm
        exact hend H locs ls _ _ (zc1 (fun (z0 : SA) => (wS c rsa0 rsa1 rsa2 rsa3 rsa4 z0 : va_W)) (Option.some.inj hm)) hP hD hS dX2_findHopeful_62
      · have hm := ifn c_8 hm
        refine lv_aload_n hx hb dX2_findHopeful_11 rfl (lv_at hl 0 rfl) ?_
        refine va_get (D := G) (ci := 2) (v := .ref rsa2) (C := RX2) (T := TX2) (N := 7) hx hb hts hi_2 hown hK hP 0 rfl rfl 3 (by decide) (hts (.fieldLink RX2 15 "HubTrains$RowSearch" "masks" "[I") (List.mem_of_getElem? (i := 2) rfl)) (fun _ h9 => h9) rfl dX2_findHopeful_12 ?_
        refine lv_iload_n hx hb dX2_findHopeful_15 rfl (lv_at hl 2 rfl) ?_
        obtain ⟨r16, e_16, hm⟩ := bd1_s hm
        refine zcSNi (As := [.ref rsa2, .int v2_7]) (rest := []) ⟨hx, hb, hml, hown, hts⟩ (k_X7_look l G K c rsa2 4096 (rs_7.2 1) v2_7 r16 e_16) ⟨va_cnB 2 hts gX2_findHopeful_X7_look_n60 rfl rfl rfl (nwm_HubTrains_RowSearch_60 hN.2.1) (hts (.initialized RX7) (List.mem_of_getElem? (i := 6) rfl)) hd_X7_look.2 ⟨Nat.le_of_ble_eq_true rfl, Nat.le_of_ble_eq_true rfl⟩, (hts (.static yX7_look) (List.mem_of_getElem? (i := 5) rfl)), trivial⟩ hK hN hZ hP hD hS hA [2] rfl (by decide) rfl rfl hl.1 rfl (Nat.le_of_ble_eq_true rfl) dX2_findHopeful_16 ⟨Nat.zero_le _, Nat.zero_le _⟩ (fun H locs hP hD hS => ?_)
        have hP : va_P G vwCl (wS c rsa0 rsa1 rsa2 rsa3 rsa4 rs_7) H := hP
        have hD : va_D A (wS c rsa0 rsa1 rsa2 rsa3 rsa4 rs_7) := hD
        refine lv_istore_n (lv' := [(3, .int r16), (0, .ref rsa0), (1, .int p0), (2, .int v2_7)]) hx hb dX2_findHopeful_19 rfl hl (by decide) rfl (fun ls hl => ?_)
        refine lv_iload_n hx hb dX2_findHopeful_20 rfl (lv_at hl 0 rfl) ?_
        obtain ⟨r21, e_21, hm⟩ := bd1_s hm
        refine zcSi (As := [.int r16]) (rest := []) ⟨hx, hb, hml, hown, hts⟩ (k_J6_bitCount_0f7a4 l G K c r16 r21 e_21) (va_cwS 1 hts gX2_findHopeful_J6_bitCount_0f7a4 rfl rfl rfl hd_J6_bitCount_0f7a4.2 ⟨Nat.le_of_ble_eq_true rfl, Nat.le_of_ble_eq_true rfl⟩) hK hN hZ hP hD hS hA [] rfl (by decide) rfl rfl hl.1 rfl (Nat.le_of_ble_eq_true rfl) dX2_findHopeful_21 ⟨Nat.zero_le _, Nat.zero_le _⟩ (fun H locs hP hD hS => ?_)
        have hP : va_P G vwCl (wS c rsa0 rsa1 rsa2 rsa3 rsa4 rs_7) H := hP
        have hD : va_D A (wS c rsa0 rsa1 rsa2 rsa3 rsa4 rs_7) := hD
        refine lv_iload_n hx hb dX2_findHopeful_24 rfl (lv_at hl 2 rfl) ?_
        have J_44 : ∀ (s0_44 : Int32) (H : Heap) (locs : List Loc) (ls : Array Slot), va_P G vwCl (wS c rsa0 rsa1 rsa2 rsa3 rsa4 rs_7) H → va_D A (wS c rsa0 rsa1 rsa2 rsa3 rsa4 rs_7) → va_S A s.heap H locs → lv_has ls 5 [(0, .ref rsa0), (1, .int p0), (2, .int v2_7), (3, .int r16)] → f_X2_findHopeful_J44 (itr2 (f_X2_findHopeful_B7 p0) n_7) v2_7 rs_7 r16 s0_44 = some (rs_r) → W p l e (rm_X2_findHopeful) s m args below meth c1 H locs 0 0 Q (F0 m 44 ls [.int s0_44]) := by
          intro s0_44 H locs ls hP hD hS hl hm
          unfold f_X2_findHopeful_J44 at hm
          refine lv_istore (lv' := [(4, .int s0_44), (0, .ref rsa0), (1, .int p0), (2, .int v2_7), (3, .int r16)]) hx hb dX2_findHopeful_44 hl (by decide) rfl (fun ls hl => ?_)
          refine lv_aload_n hx hb dX2_findHopeful_46 rfl (lv_at hl 1 rfl) ?_
          refine va_get (D := G) (ci := 2) (v := .ref rsa4) (C := RX2) (T := TX2) (N := 7) hx hb hts hi_2 hown hK hP 0 rfl rfl 6 (by decide) (hts (.fieldLink RX2 21 "HubTrains$RowSearch" "hopeful" "[I") (List.mem_of_getElem? (i := 4) rfl)) (fun _ h9 => h9) rfl dX2_findHopeful_47 ?_
          refine lv_iload_n hx hb dX2_findHopeful_50 rfl (lv_at hl 4 rfl) ?_
          refine lv_iload hx hb dX2_findHopeful_51 (lv_at hl 0 rfl) ?_
          obtain ⟨h053, e_53, hm⟩ := bd1_s hm
          refine zcSNv (As := [.ref rsa4, .int r16, .int s0_44]) (rest := []) ⟨hx, hb, hml, hown, hts⟩ (k_X7_put l G K c rsa4 4096 (rs_7.2 3) r16 s0_44 h053 e_53) ⟨va_cnB 3 hts gX2_findHopeful_X7_put_n37 rfl rfl rfl (nwm_HubTrains_RowSearch_37 hN.2.1) (hts (.initialized RX7) (List.mem_of_getElem? (i := 6) rfl)) hd_X7_put.2 ⟨Nat.le_of_ble_eq_true rfl, Nat.le_of_ble_eq_true rfl⟩, (hts (.static yX7_put) (List.mem_of_getElem? (i := 29) rfl)), trivial⟩ hK hN hZ hP hD hS hA [4] rfl (by decide) rfl rfl hl.1 rfl (Nat.le_of_ble_eq_true rfl) dX2_findHopeful_53 ⟨Nat.zero_le _, Nat.zero_le _⟩ (fun H locs hP hD hS => ?_)
          have hP : va_P G vwCl (wS c rsa0 rsa1 rsa2 rsa3 rsa4 (sa rs_7 3 h053)) H := hP
          have hD : va_D A (wS c rsa0 rsa1 rsa2 rsa3 rsa4 (sa rs_7 3 h053)) := hD
          refine lv_iinc (k := 3) (v := (v2_7 + (-1))) (lv' := [(2, .int (v2_7 + (-1))), (4, .int s0_44), (0, .ref rsa0), (1, .int p0), (3, .int r16)]) hx hb dX2_findHopeful_56 hl rfl rfl (by decide) rfl (fun ls hl => ?_)
          refine lv_goto (tgt := 7) hx hb dX2_findHopeful_59 (by decide) ?_
          exact ih_7 (v2_7 + (-1)) (sa rs_7 3 h053) H locs ls hP hD hS (lv_sub hl [2, 3, 0] rfl) hm
        refine lv_icmp_ne (tgt := 39) hx hb dX2_findHopeful_25 (by decide) (fun c_25 => ?_) (fun c_25 => ?_)
        · have hm := ifn c_25 hm
          refine lv_aload_n hx hb dX2_findHopeful_39 rfl (lv_at hl 1 rfl) ?_
          refine lv_iload_n hx hb dX2_findHopeful_40 rfl (lv_at hl 0 rfl) ?_
          obtain ⟨r41, e_41, hm⟩ := bd1_s hm
          refine zcVi (As := [.int r16]) (rest := []) ⟨hx, hb, hml, hown, hts⟩ (k_X2_hopeOf l G K c rsa0 rsa1 rsa2 rsa3 rsa4 rs_7 r16 r41 e_41) (cwV 1 hts gX2_findHopeful_X2_hopeOf rfl rfl rfl hd_X2_hopeOf ⟨Nat.le_of_ble_eq_true rfl, Nat.le_of_ble_eq_true rfl⟩) hK hN hZ hP hD hS hA (va_recv hK hP (ci := 2) (q0 := 0) rfl rfl) [0, 1, 2, 3, 4] rfl (by decide) rfl rfl hl.1 rfl (Nat.le_of_ble_eq_true rfl) dX2_findHopeful_41 ⟨Nat.zero_le _, Nat.zero_le _⟩ (fun H locs hP hD hS => ?_)
          have hP : va_P G vwCl (wS c rsa0 rsa1 rsa2 rsa3 rsa4 rs_7) H := hP
          have hD : va_D A (wS c rsa0 rsa1 rsa2 rsa3 rsa4 rs_7) := hD
          exact J_44 r41 H locs ls hP hD hS (lv_sub hl [1, 2, 3, 0] rfl) hm
        · have hm := ifp c_25 hm
          refine lv_aload_n hx hb dX2_findHopeful_28 rfl (lv_at hl 1 rfl) ?_
          refine va_get (D := G) (ci := 2) (v := .ref rsa3) (C := RX2) (T := TX2) (N := 7) hx hb hts hi_2 hown hK hP 0 rfl rfl 5 (by decide) (hts (.fieldLink RX2 18 "HubTrains$RowSearch" "ends" "[I") (List.mem_of_getElem? (i := 3) rfl)) (fun _ h9 => h9) rfl dX2_findHopeful_29 ?_
          refine lv_iload_n hx hb dX2_findHopeful_32 rfl (lv_at hl 0 rfl) ?_
          obtain ⟨r33, e_33, hm⟩ := bd1_s hm
          refine zcSNi (As := [.ref rsa3, .int r16]) (rest := []) ⟨hx, hb, hml, hown, hts⟩ (k_X7_look l G K c rsa3 4096 (rs_7.2 2) r16 r33 e_33) ⟨va_cnB 2 hts gX2_findHopeful_X7_look_n60 rfl rfl rfl (nwm_HubTrains_RowSearch_60 hN.2.1) (hts (.initialized RX7) (List.mem_of_getElem? (i := 6) rfl)) hd_X7_look.2 ⟨Nat.le_of_ble_eq_true rfl, Nat.le_of_ble_eq_true rfl⟩, (hts (.static yX7_look) (List.mem_of_getElem? (i := 5) rfl)), trivial⟩ hK hN hZ hP hD hS hA [3] rfl (by decide) rfl rfl hl.1 rfl (Nat.le_of_ble_eq_true rfl) dX2_findHopeful_33 ⟨Nat.zero_le _, Nat.zero_le _⟩ (fun H locs hP hD hS => ?_)
          have hP : va_P G vwCl (wS c rsa0 rsa1 rsa2 rsa3 rsa4 rs_7) H := hP
          have hD : va_D A (wS c rsa0 rsa1 rsa2 rsa3 rsa4 rs_7) := hD
          refine lv_goto (tgt := 44) hx hb dX2_findHopeful_36 (by decide) ?_
          exact J_44 r33 H locs ls hP hD hS (lv_sub hl [1, 2, 3, 0] rfl) hm
  exact L_7 FUEL ((rs.1 2) - 1) rs H locs ls hP hD hS (lv_sub hl [1, 2, 0] rfl) hm

def f_X2_firstHopefulTile_B2 (rs : SA) (p0 : Int32) (p1 : Int32) (rec_2 : Int32 → Option Int32) (v3_2 : Int32) : Option Int32 :=
  if (rs.1 0) ≤ v3_2 then (some (0)) else (bd1 (f_X7_look 12 (rs.2 0) v3_2) fun (r15 : Int32) => bd1 (f_X2_acrossTile r15 ((1 : Int32) <<< (p1 &&& 31))) fun (r21 : Int32) => if (p0 &&& ((1 : Int32) <<< (v3_2 &&& 31))) = 0 then (bd1 (f_X7_look 4096 (rs.2 3) (p0 ||| ((1 : Int32) <<< (v3_2 &&& 31)))) fun (r45 : Int32) => if (r21 &&& r45) = 0 then (rec_2 (v3_2 + 1)) else (some (v3_2))) else (rec_2 (v3_2 + 1)))

def f_X2_firstHopefulTile (rs : SA) (p0 : Int32) (p1 : Int32) : Option Int32 :=
  itr1 (f_X2_firstHopefulTile_B2 rs p0 p1) FUEL 0

abbrev rm_X2_firstHopefulTile : Room := { frames := 2, cells := 0, slots := 0, locals := 42 }
theorem hd_X2_firstHopefulTile : yX2_firstHopefulTile.cls = RX2 ∧ yX2_firstHopefulTile.cls ≠ "java/lang/invoke/MethodHandle" ∧ yX2_firstHopefulTile.cls ≠ "java/lang/invoke/VarHandle" ∧ (parseMethodDescriptor yX2_firstHopefulTile.desc).map (fun d => d.parameters.length) = some 2 := by decide +kernel
set_option maxHeartbeats 4000000 in
set_option maxRecDepth 100000 in
theorem k_X2_firstHopefulTile (l : Launch) (G : va_G) (K : (Nat → Nat) × (Nat → Nat)) (c : Nat → ClassId) (rsa0 : Nat) (rsa1 : Nat) (rsa2 : Nat) (rsa3 : Nat) (rsa4 : Nat) (rs : SA) (p0 : Int32) (p1 : Int32) (r : Int32) (hm : f_X2_firstHopefulTile rs p0 p1 = some (r)) : zMi l yX2_firstHopefulTile wsX2_firstHopefulTile (rm_X2_firstHopefulTile) G K (TY c) [.ref rsa0, .int p0, .int p1] (wS c rsa0 rsa1 rsa2 rsa3 rsa4 rs) (wS c rsa0 rsa1 rsa2 rsa3 rsa4 rs) r := by
  refine zMi.of (cc := cX2_firstHopefulTile) (maxL := 5) (lv := [(0, .ref rsa0), (1, .int p0), (2, .int p1)]) (by decide) rfl (Nat.le_of_ble_eq_true rfl) rfl ?_
  intro p e s m args below meth c1 A Q H locs hx hb hml hown hts hK hN hZ hP hD hA hS hend ls hl
  have hown : s.vm.findClass RX2 = some m.cls := hown
  have hi_2 : ∀ w ∈ wsX20, w ∈ wsX2_firstHopefulTile := (fun w h => List.mem_cons_of_mem _ (List.mem_append_right _ (h)))
  unfold f_X2_firstHopefulTile at hm
  refine lv_iconst (v := 0) hx hb dX2_firstHopefulTile_0 (by decide) ?_
  refine lv_istore_n (lv' := [(3, .int 0), (0, .ref rsa0), (1, .int p0), (2, .int p1)]) hx hb dX2_firstHopefulTile_1 rfl hl (by decide) rfl (fun ls hl => ?_)
  have L_2 : ∀ (n_2 : Nat) (v3_2 : Int32) (H : Heap) (locs : List Loc) (ls : Array Slot), va_P G vwCl (wS c rsa0 rsa1 rsa2 rsa3 rsa4 rs) H → va_D A (wS c rsa0 rsa1 rsa2 rsa3 rsa4 rs) → va_S A s.heap H locs → lv_has ls 5 [(0, .ref rsa0), (1, .int p0), (2, .int p1), (3, .int v3_2)] → itr1 (f_X2_firstHopefulTile_B2 rs p0 p1) n_2 v3_2 = some (r) → W p l e (rm_X2_firstHopefulTile) s m args below meth c1 H locs 0 0 Q (F0 m 2 ls []) := by
    intro n_2
    induction n_2 with
    | zero => intro v3_2 H locs ls hP hD hS hl hm; exact (itr1_0 hm).elim
    | succ n_2 ih_2 =>
      intro v3_2 H locs ls hP hD hS hl hm
      have hm := itr1_s hm
      unfold f_X2_firstHopefulTile_B2 at hm
      refine lv_iload_n hx hb dX2_firstHopefulTile_2 rfl (lv_at hl 3 rfl) ?_
      refine lv_aload_n hx hb dX2_firstHopefulTile_3 rfl (lv_at hl 0 rfl) ?_
      refine va_get (D := G) (ci := 2) (v := .int (rs.1 0)) (C := RX2) (T := TX2) (N := 7) hx hb hts hi_2 hown hK hP 0 rfl rfl 1 (by decide) (hts (.fieldLink RX2 27 "HubTrains$RowSearch" "size" "I") (List.mem_of_getElem? (i := 1) rfl)) (fun _ h9 => h9) rfl dX2_firstHopefulTile_4 ?_
      refine lv_icmp_ge (tgt := 60) hx hb dX2_firstHopefulTile_7 (by decide) (fun c_7 => ?_) (fun c_7 => ?_)
      · have hm := ifp c_7 hm
        refine lv_iconst (v := 0) hx hb dX2_firstHopefulTile_60 (by decide) ?_
        exact hend H locs ls _ _ _ rfl (Option.some.inj hm) rfl hP hD hS dX2_firstHopefulTile_61
      · have hm := ifn c_7 hm
        refine lv_aload_n hx hb dX2_firstHopefulTile_10 rfl (lv_at hl 0 rfl) ?_
        refine va_get (D := G) (ci := 2) (v := .ref rsa1) (C := RX2) (T := TX2) (N := 7) hx hb hts hi_2 hown hK hP 0 rfl rfl 0 (by decide) (hts (.fieldLink RX2 9 "HubTrains$RowSearch" "tiles" "[I") (List.mem_of_getElem? (i := 2) rfl)) (fun _ h9 => h9) rfl dX2_firstHopefulTile_11 ?_
        refine lv_iload_n hx hb dX2_firstHopefulTile_14 rfl (lv_at hl 3 rfl) ?_
        obtain ⟨r15, e_15, hm⟩ := bd1_s hm
        refine zcSNi (As := [.ref rsa1, .int v3_2]) (rest := []) ⟨hx, hb, hml, hown, hts⟩ (k_X7_look l G K c rsa1 12 (rs.2 0) v3_2 r15 e_15) ⟨va_cnB 2 hts gX2_firstHopefulTile_X7_look_n60 rfl rfl rfl (nwm_HubTrains_RowSearch_60 hN.2.1) (hts (.initialized RX7) (List.mem_of_getElem? (i := 5) rfl)) hd_X7_look.2 ⟨Nat.le_of_ble_eq_true rfl, Nat.le_of_ble_eq_true rfl⟩, (hts (.static yX7_look) (List.mem_of_getElem? (i := 4) rfl)), trivial⟩ hK hN hZ hP hD hS hA [1] rfl (by decide) rfl rfl hl.1 rfl (Nat.le_of_ble_eq_true rfl) dX2_firstHopefulTile_15 ⟨Nat.zero_le _, Nat.zero_le _⟩ (fun H locs hP hD hS => ?_)
        have hP : va_P G vwCl (wS c rsa0 rsa1 rsa2 rsa3 rsa4 rs) H := hP
        have hD : va_D A (wS c rsa0 rsa1 rsa2 rsa3 rsa4 rs) := hD
        refine lv_iconst (v := 1) hx hb dX2_firstHopefulTile_18 (by decide) ?_
        refine lv_iload_n hx hb dX2_firstHopefulTile_19 rfl (lv_at hl 2 rfl) ?_
        refine lv_ishl hx hb dX2_firstHopefulTile_20 ?_
        obtain ⟨r21, e_21, hm⟩ := bd1_s hm
        refine zcSi (As := [.int r15, .int ((1 : Int32) <<< (p1 &&& 31))]) (rest := []) ⟨hx, hb, hml, hown, hts⟩ (k_X2_acrossTile l G K c r15 ((1 : Int32) <<< (p1 &&& 31)) r21 e_21) (va_cwS 2 hts gX2_firstHopefulTile_X2_acrossTile rfl rfl rfl hd_X2_acrossTile.2 ⟨Nat.le_of_ble_eq_true rfl, Nat.le_of_ble_eq_true rfl⟩) hK hN hZ hP hD hS hA [] rfl (by decide) rfl rfl hl.1 rfl (Nat.le_of_ble_eq_true rfl) dX2_firstHopefulTile_21 ⟨Nat.zero_le _, Nat.zero_le _⟩ (fun H locs hP hD hS => ?_)
        have hP : va_P G vwCl (wS c rsa0 rsa1 rsa2 rsa3 rsa4 rs) H := hP
        have hD : va_D A (wS c rsa0 rsa1 rsa2 rsa3 rsa4 rs) := hD
        refine lv_istore (lv' := [(4, .int r21), (0, .ref rsa0), (1, .int p0), (2, .int p1), (3, .int v3_2)]) hx hb dX2_firstHopefulTile_24 hl (by decide) rfl (fun ls hl => ?_)
        refine lv_iload_n hx hb dX2_firstHopefulTile_26 rfl (lv_at hl 2 rfl) ?_
        refine lv_iconst (v := 1) hx hb dX2_firstHopefulTile_27 (by decide) ?_
        refine lv_iload_n hx hb dX2_firstHopefulTile_28 rfl (lv_at hl 4 rfl) ?_
        refine lv_ishl hx hb dX2_firstHopefulTile_29 ?_
        refine lv_iand hx hb dX2_firstHopefulTile_30 ?_
        refine lv_if_ne (tgt := 54) hx hb dX2_firstHopefulTile_31 (by decide) (fun c_31 => ?_) (fun c_31 => ?_)
        · have hm := ifn c_31 hm
          refine lv_iinc (k := 4) (v := (v3_2 + 1)) (lv' := [(3, .int (v3_2 + 1)), (4, .int r21), (0, .ref rsa0), (1, .int p0), (2, .int p1)]) hx hb dX2_firstHopefulTile_54 hl rfl rfl (by decide) rfl (fun ls hl => ?_)
          refine lv_goto (tgt := 2) hx hb dX2_firstHopefulTile_57 (by decide) ?_
          exact ih_2 (v3_2 + 1) H locs ls hP hD hS (lv_sub hl [2, 3, 4, 0] rfl) hm
        · have hm := ifp c_31 hm
          refine lv_iload hx hb dX2_firstHopefulTile_34 (lv_at hl 0 rfl) ?_
          refine lv_aload_n hx hb dX2_firstHopefulTile_36 rfl (lv_at hl 1 rfl) ?_
          refine va_get (D := G) (ci := 2) (v := .ref rsa4) (C := RX2) (T := TX2) (N := 7) hx hb hts hi_2 hown hK hP 0 rfl rfl 6 (by decide) (hts (.fieldLink RX2 21 "HubTrains$RowSearch" "hopeful" "[I") (List.mem_of_getElem? (i := 3) rfl)) (fun _ h9 => h9) rfl dX2_firstHopefulTile_37 ?_
          refine lv_iload_n hx hb dX2_firstHopefulTile_40 rfl (lv_at hl 2 rfl) ?_
          refine lv_iconst (v := 1) hx hb dX2_firstHopefulTile_41 (by decide) ?_
          refine lv_iload_n hx hb dX2_firstHopefulTile_42 rfl (lv_at hl 4 rfl) ?_
          refine lv_ishl hx hb dX2_firstHopefulTile_43 ?_
          refine lv_ior hx hb dX2_firstHopefulTile_44 ?_
          obtain ⟨r45, e_45, hm⟩ := bd1_s hm
          refine zcSNi (As := [.ref rsa4, .int (p0 ||| ((1 : Int32) <<< (v3_2 &&& 31)))]) (rest := [.int r21]) ⟨hx, hb, hml, hown, hts⟩ (k_X7_look l G K c rsa4 4096 (rs.2 3) (p0 ||| ((1 : Int32) <<< (v3_2 &&& 31))) r45 e_45) ⟨va_cnB 2 hts gX2_firstHopefulTile_X7_look_n60 rfl rfl rfl (nwm_HubTrains_RowSearch_60 hN.2.1) (hts (.initialized RX7) (List.mem_of_getElem? (i := 5) rfl)) hd_X7_look.2 ⟨Nat.le_of_ble_eq_true rfl, Nat.le_of_ble_eq_true rfl⟩, (hts (.static yX7_look) (List.mem_of_getElem? (i := 4) rfl)), trivial⟩ hK hN hZ hP hD hS hA [4] rfl (by decide) rfl rfl hl.1 rfl (Nat.le_of_ble_eq_true rfl) dX2_firstHopefulTile_45 ⟨Nat.zero_le _, Nat.zero_le _⟩ (fun H locs hP hD hS => ?_)
          have hP : va_P G vwCl (wS c rsa0 rsa1 rsa2 rsa3 rsa4 rs) H := hP
          have hD : va_D A (wS c rsa0 rsa1 rsa2 rsa3 rsa4 rs) := hD
          refine lv_iand hx hb dX2_firstHopefulTile_48 ?_
          refine lv_if_eq (tgt := 54) hx hb dX2_firstHopefulTile_49 (by decide) (fun c_49 => ?_) (fun c_49 => ?_)
          · have hm := ifp c_49 hm
            refine lv_iinc (k := 4) (v := (v3_2 + 1)) (lv' := [(3, .int (v3_2 + 1)), (4, .int r21), (0, .ref rsa0), (1, .int p0), (2, .int p1)]) hx hb dX2_firstHopefulTile_54 hl rfl rfl (by decide) rfl (fun ls hl => ?_)
            refine lv_goto (tgt := 2) hx hb dX2_firstHopefulTile_57 (by decide) ?_
            exact ih_2 (v3_2 + 1) H locs ls hP hD hS (lv_sub hl [2, 3, 4, 0] rfl) hm
          · have hm := ifn c_49 hm
            refine lv_iload_n hx hb dX2_firstHopefulTile_52 rfl (lv_at hl 4 rfl) ?_
            exact hend H locs ls _ _ _ rfl (Option.some.inj hm) rfl hP hD hS dX2_firstHopefulTile_53
  exact L_2 FUEL 0 H locs ls hP hD hS (lv_sub hl [1, 2, 3, 0] rfl) hm

def f_X2_tileOfFirstLongest_B35 (p0 : Int32) (r1 : Int32) (rs18 : SA) (rec_35 : Int32 → Int32 → Int32 → Int32 → Option (Int32 × SA)) (v3_35 : Int32) (v4_35 : Int32) (v5_35 : Int32) (v6_35 : Int32) : Option (Int32 × SA) :=
  if p0 < v6_35 then (some (v5_35, rs18)) else (if r1 ≤ v6_35 then (some (v5_35, rs18)) else (bd1 (f_X2_firstHopefulTile rs18 v3_35 v4_35) fun (r51 : Int32) => bd1 (f_X7_look 12 (rs18.2 0) r51) fun (r62 : Int32) => nmd (v3_35 ||| ((1 : Int32) <<< (r51 &&& 31))) fun (x3_73 : Int32) => bd1 (f_X7_pipsOf r62) fun (r76 : Int32) => rec_35 x3_73 (r76 - v4_35) r62 (v6_35 + 1)))

def f_X2_tileOfFirstLongest (rs : SA) (p0 : Int32) : Option (Int32 × SA) :=
  bd1 (f_X2_longestLength rs) fun (r1 : Int32) => if p0 < 0 then (some ((-1), rs)) else (if p0 < r1 then (bd1 (f_X2_findHopeful rs r1) fun (rs18 : SA) => itr4 (f_X2_tileOfFirstLongest_B35 p0 r1 rs18) FUEL 0 (rs18.1 1) (-1) 0) else (some ((-1), rs)))

abbrev rm_X2_tileOfFirstLongest : Room := { frames := 4, cells := 0, slots := 0, locals := 89 }
theorem hd_X2_tileOfFirstLongest : yX2_tileOfFirstLongest.cls = RX2 ∧ yX2_tileOfFirstLongest.cls ≠ "java/lang/invoke/MethodHandle" ∧ yX2_tileOfFirstLongest.cls ≠ "java/lang/invoke/VarHandle" ∧ (parseMethodDescriptor yX2_tileOfFirstLongest.desc).map (fun d => d.parameters.length) = some 1 := by decide +kernel
set_option maxHeartbeats 4000000 in
set_option maxRecDepth 100000 in
theorem k_X2_tileOfFirstLongest (l : Launch) (G : va_G) (K : (Nat → Nat) × (Nat → Nat)) (c : Nat → ClassId) (rsa0 : Nat) (rsa1 : Nat) (rsa2 : Nat) (rsa3 : Nat) (rsa4 : Nat) (rs : SA) (p0 : Int32) (r : Int32) (rs_r : SA) (hm : f_X2_tileOfFirstLongest rs p0 = some (r, rs_r)) : zMi l yX2_tileOfFirstLongest wsX2_tileOfFirstLongest (rm_X2_tileOfFirstLongest) G K (TY c) [.ref rsa0, .int p0] (wS c rsa0 rsa1 rsa2 rsa3 rsa4 rs) (wS c rsa0 rsa1 rsa2 rsa3 rsa4 rs_r) r := by
  refine zMi.of (cc := cX2_tileOfFirstLongest) (maxL := 8) (lv := [(0, .ref rsa0), (1, .int p0)]) (by decide) rfl (Nat.le_of_ble_eq_true rfl) rfl ?_
  intro p e s m args below meth c1 A Q H locs hx hb hml hown hts hK hN hZ hP hD hA hS hend ls hl
  have hown : s.vm.findClass RX2 = some m.cls := hown
  have hi_2 : ∀ w ∈ wsX20, w ∈ wsX2_tileOfFirstLongest := (fun w h => List.mem_cons_of_mem _ (List.mem_append_right _ (h)))
  unfold f_X2_tileOfFirstLongest at hm
  refine lv_aload_n hx hb dX2_tileOfFirstLongest_0 rfl (lv_at hl 0 rfl) ?_
  obtain ⟨r1, e_1, hm⟩ := bd1_s hm
  refine zcVi (As := []) (rest := []) ⟨hx, hb, hml, hown, hts⟩ (k_X2_longestLength l G K c rsa0 rsa1 rsa2 rsa3 rsa4 rs r1 e_1) (cwV 0 hts gX2_tileOfFirstLongest_X2_longestLength rfl rfl rfl hd_X2_longestLength ⟨Nat.le_of_ble_eq_true rfl, Nat.le_of_ble_eq_true rfl⟩) hK hN hZ hP hD hS hA (va_recv hK hP (ci := 2) (q0 := 0) rfl rfl) [0, 1, 2, 3, 4] rfl (by decide) rfl rfl hl.1 rfl (Nat.le_of_ble_eq_true rfl) dX2_tileOfFirstLongest_1 ⟨Nat.zero_le _, Nat.zero_le _⟩ (fun H locs hP hD hS => ?_)
  have hP : va_P G vwCl (wS c rsa0 rsa1 rsa2 rsa3 rsa4 rs) H := hP
  have hD : va_D A (wS c rsa0 rsa1 rsa2 rsa3 rsa4 rs) := hD
  refine lv_istore_n (lv' := [(2, .int r1), (0, .ref rsa0), (1, .int p0)]) hx hb dX2_tileOfFirstLongest_4 rfl hl (by decide) rfl (fun ls hl => ?_)
  refine lv_iload_n hx hb dX2_tileOfFirstLongest_5 rfl (lv_at hl 2 rfl) ?_
  refine lv_if_lt (tgt := 14) hx hb dX2_tileOfFirstLongest_6 (by decide) (fun c_6 => ?_) (fun c_6 => ?_)
  · have hm := ifp c_6 hm
    refine lv_iconst (v := (-1)) hx hb dX2_tileOfFirstLongest_14 (by decide) ?_
    exact hend H locs ls _ _ _ rfl (Prod.mk.inj (Option.some.inj hm)).1 (zc1 (fun (z0 : SA) => (wS c rsa0 rsa1 rsa2 rsa3 rsa4 z0 : va_W)) (Prod.mk.inj (Option.some.inj hm)).2) hP hD hS dX2_tileOfFirstLongest_15
  · have hm := ifn c_6 hm
    refine lv_iload_n hx hb dX2_tileOfFirstLongest_9 rfl (lv_at hl 2 rfl) ?_
    refine lv_iload_n hx hb dX2_tileOfFirstLongest_10 rfl (lv_at hl 0 rfl) ?_
    refine lv_icmp_lt (tgt := 16) hx hb dX2_tileOfFirstLongest_11 (by decide) (fun c_11 => ?_) (fun c_11 => ?_)
    · have hm := ifp c_11 hm
      refine lv_aload_n hx hb dX2_tileOfFirstLongest_16 rfl (lv_at hl 1 rfl) ?_
      refine lv_iload_n hx hb dX2_tileOfFirstLongest_17 rfl (lv_at hl 0 rfl) ?_
      obtain ⟨rs18, e_18, hm⟩ := bd1_s hm
      refine zcVv (As := [.int r1]) (rest := []) ⟨hx, hb, hml, hown, hts⟩ (k_X2_findHopeful l G K c rsa0 rsa1 rsa2 rsa3 rsa4 rs r1 rs18 e_18) (cwV 1 hts gX2_tileOfFirstLongest_X2_findHopeful rfl rfl rfl hd_X2_findHopeful ⟨Nat.le_of_ble_eq_true rfl, Nat.le_of_ble_eq_true rfl⟩) hK hN hZ hP hD hS hA (va_recv hK hP (ci := 2) (q0 := 0) rfl rfl) [0, 1, 2, 3, 4] rfl (by decide) rfl rfl hl.1 rfl (Nat.le_of_ble_eq_true rfl) dX2_tileOfFirstLongest_18 ⟨Nat.zero_le _, Nat.zero_le _⟩ (fun H locs hP hD hS => ?_)
      have hP : va_P G vwCl (wS c rsa0 rsa1 rsa2 rsa3 rsa4 rs18) H := hP
      have hD : va_D A (wS c rsa0 rsa1 rsa2 rsa3 rsa4 rs18) := hD
      refine lv_iconst (v := 0) hx hb dX2_tileOfFirstLongest_21 (by decide) ?_
      refine lv_istore_n (lv' := [(3, .int 0), (2, .int r1), (0, .ref rsa0), (1, .int p0)]) hx hb dX2_tileOfFirstLongest_22 rfl hl (by decide) rfl (fun ls hl => ?_)
      refine lv_aload_n hx hb dX2_tileOfFirstLongest_23 rfl (lv_at hl 2 rfl) ?_
      refine va_get (D := G) (ci := 2) (v := .int (rs18.1 1)) (C := RX2) (T := TX2) (N := 7) hx hb hts hi_2 hown hK hP 0 rfl rfl 2 (by decide) (hts (.fieldLink RX2 50 "HubTrains$RowSearch" "start" "I") (List.mem_of_getElem? (i := 1) rfl)) (fun _ h9 => h9) rfl dX2_tileOfFirstLongest_24 ?_
      refine lv_istore (lv' := [(4, .int (rs18.1 1)), (3, .int 0), (2, .int r1), (0, .ref rsa0), (1, .int p0)]) hx hb dX2_tileOfFirstLongest_27 hl (by decide) rfl (fun ls hl => ?_)
      refine lv_iconst (v := (-1)) hx hb dX2_tileOfFirstLongest_29 (by decide) ?_
      refine lv_istore (lv' := [(5, .int (-1)), (4, .int (rs18.1 1)), (3, .int 0), (2, .int r1), (0, .ref rsa0), (1, .int p0)]) hx hb dX2_tileOfFirstLongest_30 hl (by decide) rfl (fun ls hl => ?_)
      refine lv_iconst (v := 0) hx hb dX2_tileOfFirstLongest_32 (by decide) ?_
      refine lv_istore (lv' := [(6, .int 0), (5, .int (-1)), (4, .int (rs18.1 1)), (3, .int 0), (2, .int r1), (0, .ref rsa0), (1, .int p0)]) hx hb dX2_tileOfFirstLongest_33 hl (by decide) rfl (fun ls hl => ?_)
      have L_35 : ∀ (n_35 : Nat) (v3_35 : Int32) (v4_35 : Int32) (v5_35 : Int32) (v6_35 : Int32) (H : Heap) (locs : List Loc) (ls : Array Slot), va_P G vwCl (wS c rsa0 rsa1 rsa2 rsa3 rsa4 rs18) H → va_D A (wS c rsa0 rsa1 rsa2 rsa3 rsa4 rs18) → va_S A s.heap H locs → lv_has ls 8 [(0, .ref rsa0), (1, .int p0), (2, .int r1), (3, .int v3_35), (4, .int v4_35), (5, .int v5_35), (6, .int v6_35)] → itr4 (f_X2_tileOfFirstLongest_B35 p0 r1 rs18) n_35 v3_35 v4_35 v5_35 v6_35 = some (r, rs_r) → W p l e (rm_X2_tileOfFirstLongest) s m args below meth c1 H locs 0 0 Q (F0 m 35 ls []) := by
        intro n_35
        induction n_35 with
        | zero => intro v3_35 v4_35 v5_35 v6_35 H locs ls hP hD hS hl hm; exact (itr4_0 hm).elim
        | succ n_35 ih_35 =>
          intro v3_35 v4_35 v5_35 v6_35 H locs ls hP hD hS hl hm
          have hm := itr4_s hm
          unfold f_X2_tileOfFirstLongest_B35 at hm
          refine lv_iload hx hb dX2_tileOfFirstLongest_35 (lv_at hl 6 rfl) ?_
          refine lv_iload_n hx hb dX2_tileOfFirstLongest_37 rfl (lv_at hl 1 rfl) ?_
          refine lv_icmp_gt (tgt := 90) hx hb dX2_tileOfFirstLongest_38 (by decide) (fun c_38 => ?_) (fun c_38 => ?_)
          · have hm := ifp c_38 hm
            refine lv_iload hx hb dX2_tileOfFirstLongest_90 (lv_at hl 5 rfl) ?_
            exact hend H locs ls _ _ _ rfl (Prod.mk.inj (Option.some.inj hm)).1 (zc1 (fun (z0 : SA) => (wS c rsa0 rsa1 rsa2 rsa3 rsa4 z0 : va_W)) (Prod.mk.inj (Option.some.inj hm)).2) hP hD hS dX2_tileOfFirstLongest_92
          · have hm := ifn c_38 hm
            refine lv_iload hx hb dX2_tileOfFirstLongest_41 (lv_at hl 6 rfl) ?_
            refine lv_iload_n hx hb dX2_tileOfFirstLongest_43 rfl (lv_at hl 2 rfl) ?_
            refine lv_icmp_ge (tgt := 90) hx hb dX2_tileOfFirstLongest_44 (by decide) (fun c_44 => ?_) (fun c_44 => ?_)
            · have hm := ifp c_44 hm
              refine lv_iload hx hb dX2_tileOfFirstLongest_90 (lv_at hl 5 rfl) ?_
              exact hend H locs ls _ _ _ rfl (Prod.mk.inj (Option.some.inj hm)).1 (zc1 (fun (z0 : SA) => (wS c rsa0 rsa1 rsa2 rsa3 rsa4 z0 : va_W)) (Prod.mk.inj (Option.some.inj hm)).2) hP hD hS dX2_tileOfFirstLongest_92
            · have hm := ifn c_44 hm
              refine lv_aload_n hx hb dX2_tileOfFirstLongest_47 rfl (lv_at hl 0 rfl) ?_
              refine lv_iload_n hx hb dX2_tileOfFirstLongest_48 rfl (lv_at hl 3 rfl) ?_
              refine lv_iload hx hb dX2_tileOfFirstLongest_49 (lv_at hl 4 rfl) ?_
              obtain ⟨r51, e_51, hm⟩ := bd1_s hm
              refine zcVi (As := [.int v3_35, .int v4_35]) (rest := []) ⟨hx, hb, hml, hown, hts⟩ (k_X2_firstHopefulTile l G K c rsa0 rsa1 rsa2 rsa3 rsa4 rs18 v3_35 v4_35 r51 e_51) (cwV 2 hts gX2_tileOfFirstLongest_X2_firstHopefulTile rfl rfl rfl hd_X2_firstHopefulTile ⟨Nat.le_of_ble_eq_true rfl, Nat.le_of_ble_eq_true rfl⟩) hK hN hZ hP hD hS hA (va_recv hK hP (ci := 2) (q0 := 0) rfl rfl) [0, 1, 2, 3, 4] rfl (by decide) rfl rfl hl.1 rfl (Nat.le_of_ble_eq_true rfl) dX2_tileOfFirstLongest_51 ⟨Nat.zero_le _, Nat.zero_le _⟩ (fun H locs hP hD hS => ?_)
              have hP : va_P G vwCl (wS c rsa0 rsa1 rsa2 rsa3 rsa4 rs18) H := hP
              have hD : va_D A (wS c rsa0 rsa1 rsa2 rsa3 rsa4 rs18) := hD
              refine lv_istore (lv' := [(7, .int r51), (0, .ref rsa0), (1, .int p0), (2, .int r1), (3, .int v3_35), (4, .int v4_35), (5, .int v5_35), (6, .int v6_35)]) hx hb dX2_tileOfFirstLongest_54 hl (by decide) rfl (fun ls hl => ?_)
              refine lv_aload_n hx hb dX2_tileOfFirstLongest_56 rfl (lv_at hl 1 rfl) ?_
              refine va_get (D := G) (ci := 2) (v := .ref rsa1) (C := RX2) (T := TX2) (N := 7) hx hb hts hi_2 hown hK hP 0 rfl rfl 0 (by decide) (hts (.fieldLink RX2 9 "HubTrains$RowSearch" "tiles" "[I") (List.mem_of_getElem? (i := 2) rfl)) (fun _ h9 => h9) rfl dX2_tileOfFirstLongest_57 ?_
              refine lv_iload hx hb dX2_tileOfFirstLongest_60 (lv_at hl 0 rfl) ?_
              obtain ⟨r62, e_62, hm⟩ := bd1_s hm
              refine zcSNi (As := [.ref rsa1, .int r51]) (rest := []) ⟨hx, hb, hml, hown, hts⟩ (k_X7_look l G K c rsa1 12 (rs18.2 0) r51 r62 e_62) ⟨va_cnB 2 hts gX2_tileOfFirstLongest_X7_look_n60 rfl rfl rfl (nwm_HubTrains_RowSearch_60 hN.2.1) (hts (.initialized RX7) (List.mem_of_getElem? (i := 11) rfl)) hd_X7_look.2 ⟨Nat.le_of_ble_eq_true rfl, Nat.le_of_ble_eq_true rfl⟩, (hts (.static yX7_look) (List.mem_of_getElem? (i := 10) rfl)), trivial⟩ hK hN hZ hP hD hS hA [1] rfl (by decide) rfl rfl hl.1 rfl (Nat.le_of_ble_eq_true rfl) dX2_tileOfFirstLongest_62 ⟨Nat.zero_le _, Nat.zero_le _⟩ (fun H locs hP hD hS => ?_)
              have hP : va_P G vwCl (wS c rsa0 rsa1 rsa2 rsa3 rsa4 rs18) H := hP
              have hD : va_D A (wS c rsa0 rsa1 rsa2 rsa3 rsa4 rs18) := hD
              refine lv_istore (lv' := [(5, .int r62), (7, .int r51), (0, .ref rsa0), (1, .int p0), (2, .int r1), (3, .int v3_35), (4, .int v4_35), (6, .int v6_35)]) hx hb dX2_tileOfFirstLongest_65 hl (by decide) rfl (fun ls hl => ?_)
              refine lv_iload_n hx hb dX2_tileOfFirstLongest_67 rfl (lv_at hl 5 rfl) ?_
              refine lv_iconst (v := 1) hx hb dX2_tileOfFirstLongest_68 (by decide) ?_
              refine lv_iload hx hb dX2_tileOfFirstLongest_69 (lv_at hl 1 rfl) ?_
              refine lv_ishl hx hb dX2_tileOfFirstLongest_71 ?_
              refine lv_ior hx hb dX2_tileOfFirstLongest_72 ?_
              refine lv_topi (fun x3_73 e_x3_73 => ?_)
              have hm := nmd_s hm x3_73 e_x3_73
              refine lv_istore_n (lv' := [(3, .int x3_73), (5, .int r62), (7, .int r51), (0, .ref rsa0), (1, .int p0), (2, .int r1), (4, .int v4_35), (6, .int v6_35)]) hx hb dX2_tileOfFirstLongest_73 rfl hl (by decide) rfl (fun ls hl => ?_)
              refine lv_iload hx hb dX2_tileOfFirstLongest_74 (lv_at hl 1 rfl) ?_
              obtain ⟨r76, e_76, hm⟩ := bd1_s hm
              refine zcSNi (As := [.int r62]) (rest := []) ⟨hx, hb, hml, hown, hts⟩ (k_X7_pipsOf l G K c r62 r76 e_76) ⟨va_cnB 1 hts gX2_tileOfFirstLongest_X7_pipsOf_n91 rfl rfl rfl (nwm_HubTrains_RowSearch_91 hN.2.1) (hts (.initialized RX7) (List.mem_of_getElem? (i := 11) rfl)) hd_X7_pipsOf.2 ⟨Nat.le_of_ble_eq_true rfl, Nat.le_of_ble_eq_true rfl⟩, (hts (.static yX7_pipsOf) (List.mem_of_getElem? (i := 44) rfl)), trivial⟩ hK hN hZ hP hD hS hA [] rfl (by decide) rfl rfl hl.1 rfl (Nat.le_of_ble_eq_true rfl) dX2_tileOfFirstLongest_76 ⟨Nat.zero_le _, Nat.zero_le _⟩ (fun H locs hP hD hS => ?_)
              have hP : va_P G vwCl (wS c rsa0 rsa1 rsa2 rsa3 rsa4 rs18) H := hP
              have hD : va_D A (wS c rsa0 rsa1 rsa2 rsa3 rsa4 rs18) := hD
              refine lv_iload hx hb dX2_tileOfFirstLongest_79 (lv_at hl 6 rfl) ?_
              refine lv_isub hx hb dX2_tileOfFirstLongest_81 ?_
              refine lv_istore (lv' := [(4, .int (r76 - v4_35)), (3, .int x3_73), (5, .int r62), (7, .int r51), (0, .ref rsa0), (1, .int p0), (2, .int r1), (6, .int v6_35)]) hx hb dX2_tileOfFirstLongest_82 hl (by decide) rfl (fun ls hl => ?_)
              refine lv_iinc (k := 7) (v := (v6_35 + 1)) (lv' := [(6, .int (v6_35 + 1)), (4, .int (r76 - v4_35)), (3, .int x3_73), (5, .int r62), (7, .int r51), (0, .ref rsa0), (1, .int p0), (2, .int r1)]) hx hb dX2_tileOfFirstLongest_84 hl rfl rfl (by decide) rfl (fun ls hl => ?_)
              refine lv_goto (tgt := 35) hx hb dX2_tileOfFirstLongest_87 (by decide) ?_
              exact ih_35 x3_73 (r76 - v4_35) r62 (v6_35 + 1) H locs ls hP hD hS (lv_sub hl [5, 6, 7, 2, 1, 3, 0] rfl) hm
      exact L_35 FUEL 0 (rs18.1 1) (-1) 0 H locs ls hP hD hS (lv_sub hl [5, 6, 4, 3, 2, 1, 0] rfl) hm
    · have hm := ifn c_11 hm
      refine lv_iconst (v := (-1)) hx hb dX2_tileOfFirstLongest_14 (by decide) ?_
      exact hend H locs ls _ _ _ rfl (Prod.mk.inj (Option.some.inj hm)).1 (zc1 (fun (z0 : SA) => (wS c rsa0 rsa1 rsa2 rsa3 rsa4 z0 : va_W)) (Prod.mk.inj (Option.some.inj hm)).2) hP hD hS dX2_tileOfFirstLongest_15
