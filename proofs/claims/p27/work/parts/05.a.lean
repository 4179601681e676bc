def f_J7_fill_53178_B5 (n0 : Nat) (p1 : Int32) (rec_5 : Int32 → (Nat → Int32) → Option ((Nat → Int32))) (v2_5 : Int32) (h0_5 : Nat → Int32) : Option ((Nat → Int32)) :=
  if (nI n0) ≤ v2_5 then (some (h0_5)) else (gd (inb v2_5 n0) <| nmd (upd h0_5 v2_5.toNatClampNeg p1) fun (w13 : Nat → Int32) => rec_5 (v2_5 + 1) w13)

def f_J7_fill_53178 (n0 : Nat) (h0 : Nat → Int32) (p1 : Int32) : Option ((Nat → Int32)) :=
  itr2 (f_J7_fill_53178_B5 n0 p1) FUEL 0 h0

abbrev rm_J7_fill_53178 : Room := { frames := 0, cells := 0, slots := 0, locals := 0 }
theorem hd_J7_fill_53178 : yJ7_fill_53178.cls = RJ7 ∧ yJ7_fill_53178.cls ≠ "java/lang/invoke/MethodHandle" ∧ yJ7_fill_53178.cls ≠ "java/lang/invoke/VarHandle" ∧ (parseMethodDescriptor yJ7_fill_53178.desc).map (fun d => d.parameters.length) = some 2 := by decide +kernel
set_option maxHeartbeats 4000000 in
set_option maxRecDepth 100000 in
theorem k_J7_fill_53178 (l : Launch) (G : va_G) (K : (Nat → Nat) × (Nat → Nat)) (c : Nat → ClassId) (q0 : Nat) (n0 : Nat) (h0 : Nat → Int32) (p1 : Int32) (h0_r : Nat → Int32) (hm : f_J7_fill_53178 n0 h0 p1 = some (h0_r)) : zMv l yJ7_fill_53178 wsJ7_fill_53178 (rm_J7_fill_53178) G K (TY c) [.ref q0, .int p1] ([(q0, .inl (c 0, n0, .inl h0))]) ([(q0, .inl (c 0, n0, .inl h0_r))]) := by
  refine zMv.of (cc := cJ7_fill_53178) (maxL := 4) (lv := [(0, .ref q0), (1, .int p1)]) (by decide) rfl (Nat.le_of_ble_eq_true rfl) rfl ?_
  intro p e s m args below meth c1 A Q H locs hx hb hml hown hts hK hN hZ hP hD hA hS hend ls hl
  have hown : s.vm.findClass RJ7 = some m.cls := hown
  unfold f_J7_fill_53178 at hm
  refine lv_iconst (v := 0) hx hb dJ7_fill_53178_0 (by decide) ?_
  refine lv_istore_n (lv' := [(2, .int 0), (0, .ref q0), (1, .int p1)]) hx hb dJ7_fill_53178_1 rfl hl (by decide) rfl (fun ls hl => ?_)
  refine lv_aload_n hx hb dJ7_fill_53178_2 rfl (lv_at hl 1 rfl) ?_
  refine va_alen (D := G) (v := (nI n0)) hx hb hK hP 0 0 rfl rfl rfl dJ7_fill_53178_3 ?_
  refine lv_istore_n (lv' := [(3, .int (nI n0)), (2, .int 0), (0, .ref q0), (1, .int p1)]) hx hb dJ7_fill_53178_4 rfl hl (by decide) rfl (fun ls hl => ?_)
  have L_5 : ∀ (n_5 : Nat) (v2_5 : Int32) (h0_5 : Nat → Int32) (H : Heap) (locs : List Loc) (ls : Array Slot), va_P G vwCl ([(q0, .inl (c 0, n0, .inl h0_5))]) H → va_D A ([(q0, .inl (c 0, n0, .inl h0_5))]) → va_S A s.heap H locs → lv_has ls 4 [(0, .ref q0), (1, .int p1), (2, .int v2_5), (3, .int (nI n0))] → itr2 (f_J7_fill_53178_B5 n0 p1) n_5 v2_5 h0_5 = some (h0_r) → W p l e (rm_J7_fill_53178) s m args below meth c1 H locs 0 0 Q (F0 m 5 ls []) := by
    intro n_5
    induction n_5 with
    | zero => intro v2_5 h0_5 H locs ls hP hD hS hl hm; exact (itr2_0 hm).elim
    | succ n_5 ih_5 =>
      intro v2_5 h0_5 H locs ls hP hD hS hl hm
      have hm := itr2_s hm
      unfold f_J7_fill_53178_B5 at hm
      refine lv_iload_n hx hb dJ7_fill_53178_5 rfl (lv_at hl 2 rfl) ?_
      refine lv_iload_n hx hb dJ7_fill_53178_6 rfl (lv_at hl 3 rfl) ?_
      refine lv_icmp_ge (tgt := 20) hx hb dJ7_fill_53178_7 (by decide) (fun c_7 => ?_) (fun c_7 => ?_)
      · have hm := ifp c_7 hm
        exact hend H locs ls _ _ (zc1 (fun (z0 : Nat → Int32) => ([(q0, .inl (c 0, n0, .inl z0))] : va_W)) (Option.some.inj hm)) hP hD hS dJ7_fill_53178_20
      · have hm := ifn c_7 hm
        refine lv_aload_n hx hb dJ7_fill_53178_10 rfl (lv_at hl 0 rfl) ?_
        refine lv_iload_n hx hb dJ7_fill_53178_11 rfl (lv_at hl 2 rfl) ?_
        refine lv_iload_n hx hb dJ7_fill_53178_12 rfl (lv_at hl 1 rfl) ?_
        obtain ⟨h_13, hm⟩ := gd_s hm
        refine va_iast (D := G) hx hb hK hP hD hS 0 0 rfl rfl (inb_s h_13) dJ7_fill_53178_13 (fun H locs hP hD hS => ?_)
        obtain ⟨w13, e_w13⟩ : ∃ z : Nat → Int32, z = upd h0_5 v2_5.toNatClampNeg p1 := ⟨_, rfl⟩
        have hP : va_P G vwCl ([(q0, .inl (c 0, n0, .inl w13))]) H := by rw [e_w13]; exact hP
        have hD : va_D A ([(q0, .inl (c 0, n0, .inl w13))]) := by rw [e_w13]; exact hD
        have hm := nmd_s hm w13 e_w13
        refine lv_iinc (k := 2) (v := (v2_5 + 1)) (lv' := [(2, .int (v2_5 + 1)), (0, .ref q0), (1, .int p1), (3, .int (nI n0))]) hx hb dJ7_fill_53178_14 hl rfl rfl (by decide) rfl (fun ls hl => ?_)
        refine lv_goto (tgt := 5) hx hb dJ7_fill_53178_17 (by decide) ?_
        exact ih_5 (v2_5 + 1) w13 H locs ls hP hD hS (lv_sub hl [1, 2, 0, 3] rfl) hm
  exact L_5 FUEL 0 h0 H locs ls hP hD hS (lv_sub hl [2, 3, 1, 0] rfl) hm


def f_J6_bitCount_0f7a4 (p0 : Int32) : Option Int32 :=
  nmd (p0 - ((p0.toUInt32 >>> ((1 : Int32).toUInt32 &&& Int32.toUInt32 31)).toInt32 &&& 1431655765)) fun (x0_9 : Int32) => nmd ((x0_9 &&& 858993459) + ((x0_9.toUInt32 >>> ((2 : Int32).toUInt32 &&& Int32.toUInt32 31)).toInt32 &&& 858993459)) fun (x0_23 : Int32) => nmd ((x0_23 + (x0_23.toUInt32 >>> ((4 : Int32).toUInt32 &&& Int32.toUInt32 31)).toInt32) &&& 252645135) fun (x0_33 : Int32) => nmd (x0_33 + (x0_33.toUInt32 >>> ((8 : Int32).toUInt32 &&& Int32.toUInt32 31)).toInt32) fun (x0_40 : Int32) => nmd (x0_40 + (x0_40.toUInt32 >>> ((16 : Int32).toUInt32 &&& Int32.toUInt32 31)).toInt32) fun (x0_47 : Int32) => some ((x0_47 &&& 63))

abbrev rm_J6_bitCount_0f7a4 : Room := { frames := 0, cells := 0, slots := 0, locals := 0 }
theorem hd_J6_bitCount_0f7a4 : yJ6_bitCount_0f7a4.cls = RJ6 ∧ yJ6_bitCount_0f7a4.cls ≠ "java/lang/invoke/MethodHandle" ∧ yJ6_bitCount_0f7a4.cls ≠ "java/lang/invoke/VarHandle" ∧ (parseMethodDescriptor yJ6_bitCount_0f7a4.desc).map (fun d => d.parameters.length) = some 1 := by decide +kernel
set_option maxHeartbeats 4000000 in
set_option maxRecDepth 100000 in
theorem k_J6_bitCount_0f7a4 (l : Launch) (G : va_G) (K : (Nat → Nat) × (Nat → Nat)) (c : Nat → ClassId) (p0 : Int32) (r : Int32) (hm : f_J6_bitCount_0f7a4 p0 = some (r)) : zMi l yJ6_bitCount_0f7a4 wsJ6_bitCount_0f7a4 (rm_J6_bitCount_0f7a4) G K (TY c) [.int p0] ([]) ([]) r := by
  refine zMi.of (cc := cJ6_bitCount_0f7a4) (maxL := 1) (lv := [(0, .int p0)]) (by decide) rfl (Nat.le_of_ble_eq_true rfl) rfl ?_
  intro p e s m args below meth c1 A Q H locs hx hb hml hown hts hK hN hZ hP hD hA hS hend ls hl
  have hown : s.vm.findClass RJ6 = some m.cls := hown
  unfold f_J6_bitCount_0f7a4 at hm
  refine lv_iload_n hx hb dJ6_bitCount_0f7a4_0 rfl (lv_at hl 0 rfl) ?_
  refine lv_iload_n hx hb dJ6_bitCount_0f7a4_1 rfl (lv_at hl 0 rfl) ?_
  refine lv_iconst (v := 1) hx hb dJ6_bitCount_0f7a4_2 (by decide) ?_
  refine lv_iushr hx hb dJ6_bitCount_0f7a4_3 rfl ?_
  refine lv_ldcw (v := 1431655765) hx hb hown (hts (.constant RJ6 265 (1431655765)) (List.mem_of_getElem? (i := 1) rfl)) dJ6_bitCount_0f7a4_4 ?_
  refine lv_iand hx hb dJ6_bitCount_0f7a4_7 ?_
  refine lv_isub hx hb dJ6_bitCount_0f7a4_8 ?_
  refine lv_topi (fun x0_9 e_x0_9 => ?_)
  have hm := nmd_s hm x0_9 e_x0_9
  refine lv_istore_n (lv' := [(0, .int x0_9)]) hx hb dJ6_bitCount_0f7a4_9 rfl hl (by decide) rfl (fun ls hl => ?_)
  refine lv_iload_n hx hb dJ6_bitCount_0f7a4_10 rfl (lv_at hl 0 rfl) ?_
  refine lv_ldcw (v := 858993459) hx hb hown (hts (.constant RJ6 266 (858993459)) (List.mem_of_getElem? (i := 2) rfl)) dJ6_bitCount_0f7a4_11 ?_
  refine lv_iand hx hb dJ6_bitCount_0f7a4_14 ?_
  refine lv_iload_n hx hb dJ6_bitCount_0f7a4_15 rfl (lv_at hl 0 rfl) ?_
  refine lv_iconst (v := 2) hx hb dJ6_bitCount_0f7a4_16 (by decide) ?_
  refine lv_iushr hx hb dJ6_bitCount_0f7a4_17 rfl ?_
  refine lv_ldcw (v := 858993459) hx hb hown (hts (.constant RJ6 266 (858993459)) (List.mem_of_getElem? (i := 2) rfl)) dJ6_bitCount_0f7a4_18 ?_
  refine lv_iand hx hb dJ6_bitCount_0f7a4_21 ?_
  refine lv_iadd hx hb dJ6_bitCount_0f7a4_22 ?_
  refine lv_topi (fun x0_23 e_x0_23 => ?_)
  have hm := nmd_s hm x0_23 e_x0_23
  refine lv_istore_n (lv' := [(0, .int x0_23)]) hx hb dJ6_bitCount_0f7a4_23 rfl hl (by decide) rfl (fun ls hl => ?_)
  refine lv_iload_n hx hb dJ6_bitCount_0f7a4_24 rfl (lv_at hl 0 rfl) ?_
  refine lv_iload_n hx hb dJ6_bitCount_0f7a4_25 rfl (lv_at hl 0 rfl) ?_
  refine lv_iconst (v := 4) hx hb dJ6_bitCount_0f7a4_26 (by decide) ?_
  refine lv_iushr hx hb dJ6_bitCount_0f7a4_27 rfl ?_
  refine lv_iadd hx hb dJ6_bitCount_0f7a4_28 ?_
  refine lv_ldcw (v := 252645135) hx hb hown (hts (.constant RJ6 267 (252645135)) (List.mem_of_getElem? (i := 3) rfl)) dJ6_bitCount_0f7a4_29 ?_
  refine lv_iand hx hb dJ6_bitCount_0f7a4_32 ?_
  refine lv_topi (fun x0_33 e_x0_33 => ?_)
  have hm := nmd_s hm x0_33 e_x0_33
  refine lv_istore_n (lv' := [(0, .int x0_33)]) hx hb dJ6_bitCount_0f7a4_33 rfl hl (by decide) rfl (fun ls hl => ?_)
  refine lv_iload_n hx hb dJ6_bitCount_0f7a4_34 rfl (lv_at hl 0 rfl) ?_
  refine lv_iload_n hx hb dJ6_bitCount_0f7a4_35 rfl (lv_at hl 0 rfl) ?_
  refine lv_bipush (v := 8) hx hb dJ6_bitCount_0f7a4_36 (by decide) ?_
  refine lv_iushr hx hb dJ6_bitCount_0f7a4_38 rfl ?_
  refine lv_iadd hx hb dJ6_bitCount_0f7a4_39 ?_
  refine lv_topi (fun x0_40 e_x0_40 => ?_)
  have hm := nmd_s hm x0_40 e_x0_40
  refine lv_istore_n (lv' := [(0, .int x0_40)]) hx hb dJ6_bitCount_0f7a4_40 rfl hl (by decide) rfl (fun ls hl => ?_)
  refine lv_iload_n hx hb dJ6_bitCount_0f7a4_41 rfl (lv_at hl 0 rfl) ?_
  refine lv_iload_n hx hb dJ6_bitCount_0f7a4_42 rfl (lv_at hl 0 rfl) ?_
  refine lv_bipush (v := 16) hx hb dJ6_bitCount_0f7a4_43 (by decide) ?_
  refine lv_iushr hx hb dJ6_bitCount_0f7a4_45 rfl ?_
  refine lv_iadd hx hb dJ6_bitCount_0f7a4_46 ?_
  refine lv_topi (fun x0_47 e_x0_47 => ?_)
  have hm := nmd_s hm x0_47 e_x0_47
  refine lv_istore_n (lv' := [(0, .int x0_47)]) hx hb dJ6_bitCount_0f7a4_47 rfl hl (by decide) rfl (fun ls hl => ?_)
  refine lv_iload_n hx hb dJ6_bitCount_0f7a4_48 rfl (lv_at hl 0 rfl) ?_
  refine lv_bipush (v := 63) hx hb dJ6_bitCount_0f7a4_49 (by decide) ?_
  refine lv_iand hx hb dJ6_bitCount_0f7a4_51 ?_
  exact hend H locs ls _ _ _ rfl (Option.some.inj hm) rfl hP hD hS dJ6_bitCount_0f7a4_52


def f_X7_lowNumber (p0 : Int32) : Option Int32 :=
  some ((p0 / 10))

abbrev rm_X7_lowNumber : Room := { frames := 0, cells := 0, slots := 0, locals := 0 }
theorem hd_X7_lowNumber : yX7_lowNumber.cls = RX7 ∧ yX7_lowNumber.cls ≠ "java/lang/invoke/MethodHandle" ∧ yX7_lowNumber.cls ≠ "java/lang/invoke/VarHandle" ∧ (parseMethodDescriptor yX7_lowNumber.desc).map (fun d => d.parameters.length) = some 1 := by decide +kernel
set_option maxHeartbeats 4000000 in
set_option maxRecDepth 100000 in
theorem k_X7_lowNumber (l : Launch) (G : va_G) (K : (Nat → Nat) × (Nat → Nat)) (c : Nat → ClassId) (p0 : Int32) (r : Int32) (hm : f_X7_lowNumber p0 = some (r)) : zMi l yX7_lowNumber wsX7_lowNumber (rm_X7_lowNumber) G K (TY c) [.int p0] ([]) ([]) r := by
  refine zMi.of (cc := cX7_lowNumber) (maxL := 1) (lv := [(0, .int p0)]) (by decide) rfl (Nat.le_of_ble_eq_true rfl) rfl ?_
  intro p e s m args below meth c1 A Q H locs hx hb hml hown hts hK hN hZ hP hD hA hS hend ls hl
  have hown : s.vm.findClass RX7 = some m.cls := hown
  unfold f_X7_lowNumber at hm
  refine lv_iload_n hx hb dX7_lowNumber_0 rfl (lv_at hl 0 rfl) ?_
  refine lv_bipush (v := 10) hx hb dX7_lowNumber_1 (by decide) ?_
  refine lv_idiv hx hb dX7_lowNumber_3 (by decide) ?_
  exact hend H locs ls _ _ _ rfl (Option.some.inj hm) rfl hP hD hS dX7_lowNumber_4


def f_X7_highNumber (p0 : Int32) : Option Int32 :=
  some ((p0 - p0 / 10 * 10))

abbrev rm_X7_highNumber : Room := { frames := 0, cells := 0, slots := 0, locals := 0 }
theorem hd_X7_highNumber : yX7_highNumber.cls = RX7 ∧ yX7_highNumber.cls ≠ "java/lang/invoke/MethodHandle" ∧ yX7_highNumber.cls ≠ "java/lang/invoke/VarHandle" ∧ (parseMethodDescriptor yX7_highNumber.desc).map (fun d => d.parameters.length) = some 1 := by decide +kernel
set_option maxHeartbeats 4000000 in
set_option maxRecDepth 100000 in
theorem k_X7_highNumber (l : Launch) (G : va_G) (K : (Nat → Nat) × (Nat → Nat)) (c : Nat → ClassId) (p0 : Int32) (r : Int32) (hm : f_X7_highNumber p0 = some (r)) : zMi l yX7_highNumber wsX7_highNumber (rm_X7_highNumber) G K (TY c) [.int p0] ([]) ([]) r := by
  refine zMi.of (cc := cX7_highNumber) (maxL := 1) (lv := [(0, .int p0)]) (by decide) rfl (Nat.le_of_ble_eq_true rfl) rfl ?_
  intro p e s m args below meth c1 A Q H locs hx hb hml hown hts hK hN hZ hP hD hA hS hend ls hl
  have hown : s.vm.findClass RX7 = some m.cls := hown
  unfold f_X7_highNumber at hm
  refine lv_iload_n hx hb dX7_highNumber_0 rfl (lv_at hl 0 rfl) ?_
  refine lv_bipush (v := 10) hx hb dX7_highNumber_1 (by decide) ?_
  refine lv_irem hx hb dX7_highNumber_3 (by decide) ?_
  exact hend H locs ls _ _ _ rfl (Option.some.inj hm) rfl hP hD hS dX7_highNumber_4


def f_X7_isDouble (p0 : Int32) : Option Int32 :=
  bd1 (f_X7_lowNumber p0) fun (r1 : Int32) => bd1 (f_X7_highNumber p0) fun (r5 : Int32) => if r1 = r5 then (some (1)) else (some (0))

abbrev rm_X7_isDouble : Room := { frames := 1, cells := 0, slots := 0, locals := 20 }
theorem hd_X7_isDouble : yX7_isDouble.cls = RX7 ∧ yX7_isDouble.cls ≠ "java/lang/invoke/MethodHandle" ∧ yX7_isDouble.cls ≠ "java/lang/invoke/VarHandle" ∧ (parseMethodDescriptor yX7_isDouble.desc).map (fun d => d.parameters.length) = some 1 := by decide +kernel
set_option maxHeartbeats 4000000 in
set_option maxRecDepth 100000 in
theorem k_X7_isDouble (l : Launch) (G : va_G) (K : (Nat → Nat) × (Nat → Nat)) (c : Nat → ClassId) (p0 : Int32) (r : Int32) (hm : f_X7_isDouble p0 = some (r)) : zMi l yX7_isDouble wsX7_isDouble (rm_X7_isDouble) G K (TY c) [.int p0] ([]) ([]) r := by
  refine zMi.of (cc := cX7_isDouble) (maxL := 1) (lv := [(0, .int p0)]) (by decide) rfl (Nat.le_of_ble_eq_true rfl) rfl ?_
  intro p e s m args below meth c1 A Q H locs hx hb hml hown hts hK hN hZ hP hD hA hS hend ls hl
  have hown : s.vm.findClass RX7 = some m.cls := hown
  unfold f_X7_isDouble at hm
  refine lv_iload_n hx hb dX7_isDouble_0 rfl (lv_at hl 0 rfl) ?_
  obtain ⟨r1, e_1, hm⟩ := bd1_s hm
  refine zcSi (As := [.int p0]) (rest := []) ⟨hx, hb, hml, hown, hts⟩ (k_X7_lowNumber l G K c p0 r1 e_1) (va_cwS 1 hts gX7_isDouble_X7_lowNumber rfl rfl rfl hd_X7_lowNumber.2 ⟨Nat.le_of_ble_eq_true rfl, Nat.le_of_ble_eq_true rfl⟩) hK hN hZ hP hD hS hA [] rfl (by decide) rfl rfl hl.1 rfl (Nat.le_of_ble_eq_true rfl) dX7_isDouble_1 ⟨Nat.zero_le _, Nat.zero_le _⟩ (fun H locs hP hD hS => ?_)
  have hP : va_P G vwCl ([]) H := hP
  have hD : va_D A ([]) := hD
  refine lv_iload_n hx hb dX7_isDouble_4 rfl (lv_at hl 0 rfl) ?_
  obtain ⟨r5, e_5, hm⟩ := bd1_s hm
  refine zcSi (As := [.int p0]) (rest := [.int r1]) ⟨hx, hb, hml, hown, hts⟩ (k_X7_highNumber l G K c p0 r5 e_5) (va_cwS 1 hts gX7_isDouble_X7_highNumber rfl rfl rfl hd_X7_highNumber.2 ⟨Nat.le_of_ble_eq_true rfl, Nat.le_of_ble_eq_true rfl⟩) hK hN hZ hP hD hS hA [] rfl (by decide) rfl rfl hl.1 rfl (Nat.le_of_ble_eq_true rfl) dX7_isDouble_5 ⟨Nat.zero_le _, Nat.zero_le _⟩ (fun H locs hP hD hS => ?_)
  have hP : va_P G vwCl ([]) H := hP
  have hD : va_D A ([]) := hD
  refine lv_icmp_ne (tgt := 15) hx hb dX7_isDouble_8 (by decide) (fun c_8 => ?_) (fun c_8 => ?_)
  · have hm := ifn c_8 hm
    refine lv_iconst (v := 0) hx hb dX7_isDouble_15 (by decide) ?_
    exact hend H locs ls _ _ _ (by decide) (Option.some.inj hm) rfl hP hD hS dX7_isDouble_16
  · have hm := ifp c_8 hm
    refine lv_iconst (v := 1) hx hb dX7_isDouble_11 (by decide) ?_
    refine lv_goto (tgt := 16) hx hb dX7_isDouble_12 (by decide) ?_
    exact hend H locs ls _ _ _ (by decide) (Option.some.inj hm) rfl hP hD hS dX7_isDouble_16


def f_X7_pipsOf (p0 : Int32) : Option Int32 :=
  bd1 (f_X7_lowNumber p0) fun (r1 : Int32) => bd1 (f_X7_highNumber p0) fun (r5 : Int32) => some ((r1 + r5))

abbrev rm_X7_pipsOf : Room := { frames := 1, cells := 0, slots := 0, locals := 20 }
theorem hd_X7_pipsOf : yX7_pipsOf.cls = RX7 ∧ yX7_pipsOf.cls ≠ "java/lang/invoke/MethodHandle" ∧ yX7_pipsOf.cls ≠ "java/lang/invoke/VarHandle" ∧ (parseMethodDescriptor yX7_pipsOf.desc).map (fun d => d.parameters.length) = some 1 := by decide +kernel
set_option maxHeartbeats 4000000 in
set_option maxRecDepth 100000 in
theorem k_X7_pipsOf (l : Launch) (G : va_G) (K : (Nat → Nat) × (Nat → Nat)) (c : Nat → ClassId) (p0 : Int32) (r : Int32) (hm : f_X7_pipsOf p0 = some (r)) : zMi l yX7_pipsOf wsX7_pipsOf (rm_X7_pipsOf) G K (TY c) [.int p0] ([]) ([]) r := by
  refine zMi.of (cc := cX7_pipsOf) (maxL := 1) (lv := [(0, .int p0)]) (by decide) rfl (Nat.le_of_ble_eq_true rfl) rfl ?_
  intro p e s m args below meth c1 A Q H locs hx hb hml hown hts hK hN hZ hP hD hA hS hend ls hl
  have hown : s.vm.findClass RX7 = some m.cls := hown
  unfold f_X7_pipsOf at hm
  refine lv_iload_n hx hb dX7_pipsOf_0 rfl (lv_at hl 0 rfl) ?_
  obtain ⟨r1, e_1, hm⟩ := bd1_s hm
  refine zcSi (As := [.int p0]) (rest := []) ⟨hx, hb, hml, hown, hts⟩ (k_X7_lowNumber l G K c p0 r1 e_1) (va_cwS 1 hts gX7_pipsOf_X7_lowNumber rfl rfl rfl hd_X7_lowNumber.2 ⟨Nat.le_of_ble_eq_true rfl, Nat.le_of_ble_eq_true rfl⟩) hK hN hZ hP hD hS hA [] rfl (by decide) rfl rfl hl.1 rfl (Nat.le_of_ble_eq_true rfl) dX7_pipsOf_1 ⟨Nat.zero_le _, Nat.zero_le _⟩ (fun H locs hP hD hS => ?_)
  have hP : va_P G vwCl ([]) H := hP
  have hD : va_D A ([]) := hD
  refine lv_iload_n hx hb dX7_pipsOf_4 rfl (lv_at hl 0 rfl) ?_
  obtain ⟨r5, e_5, hm⟩ := bd1_s hm
  refine zcSi (As := [.int p0]) (rest := [.int r1]) ⟨hx, hb, hml, hown, hts⟩ (k_X7_highNumber l G K c p0 r5 e_5) (va_cwS 1 hts gX7_pipsOf_X7_highNumber rfl rfl rfl hd_X7_highNumber.2 ⟨Nat.le_of_ble_eq_true rfl, Nat.le_of_ble_eq_true rfl⟩) hK hN hZ hP hD hS hA [] rfl (by decide) rfl rfl hl.1 rfl (Nat.le_of_ble_eq_true rfl) dX7_pipsOf_5 ⟨Nat.zero_le _, Nat.zero_le _⟩ (fun H locs hP hD hS => ?_)
  have hP : va_P G vwCl ([]) H := hP
  have hD : va_D A ([]) := hD
  refine lv_iadd hx hb dX7_pipsOf_8 ?_
  exact hend H locs ls _ _ _ rfl (Option.some.inj hm) rfl hP hD hS dX7_pipsOf_9


def f_X7_hasNumber (p0 : Int32) (p1 : Int32) : Option Int32 :=
  bd1 (f_X7_lowNumber p0) fun (r1 : Int32) => if r1 = p1 then (some (1)) else (bd1 (f_X7_highNumber p0) fun (r9 : Int32) => if r9 = p1 then (some (1)) else (some (0)))

abbrev rm_X7_hasNumber : Room := { frames := 1, cells := 0, slots := 0, locals := 20 }
theorem hd_X7_hasNumber : yX7_hasNumber.cls = RX7 ∧ yX7_hasNumber.cls ≠ "java/lang/invoke/MethodHandle" ∧ yX7_hasNumber.cls ≠ "java/lang/invoke/VarHandle" ∧ (parseMethodDescriptor yX7_hasNumber.desc).map (fun d => d.parameters.length) = some 2 := by decide +kernel
set_option maxHeartbeats 4000000 in
set_option maxRecDepth 100000 in
theorem k_X7_hasNumber (l : Launch) (G : va_G) (K : (Nat → Nat) × (Nat → Nat)) (c : Nat → ClassId) (p0 : Int32) (p1 : Int32) (r : Int32) (hm : f_X7_hasNumber p0 p1 = some (r)) : zMi l yX7_hasNumber wsX7_hasNumber (rm_X7_hasNumber) G K (TY c) [.int p0, .int p1] ([]) ([]) r := by
  refine zMi.of (cc := cX7_hasNumber) (maxL := 2) (lv := [(0, .int p0), (1, .int p1)]) (by decide) rfl (Nat.le_of_ble_eq_true rfl) rfl ?_
  intro p e s m args below meth c1 A Q H locs hx hb hml hown hts hK hN hZ hP hD hA hS hend ls hl
  have hown : s.vm.findClass RX7 = some m.cls := hown
  unfold f_X7_hasNumber at hm
  refine lv_iload_n hx hb dX7_hasNumber_0 rfl (lv_at hl 0 rfl) ?_
  obtain ⟨r1, e_1, hm⟩ := bd1_s hm
  refine zcSi (As := [.int p0]) (rest := []) ⟨hx, hb, hml, hown, hts⟩ (k_X7_lowNumber l G K c p0 r1 e_1) (va_cwS 1 hts gX7_hasNumber_X7_lowNumber rfl rfl rfl hd_X7_lowNumber.2 ⟨Nat.le_of_ble_eq_true rfl, Nat.le_of_ble_eq_true rfl⟩) hK hN hZ hP hD hS hA [] rfl (by decide) rfl rfl hl.1 rfl (Nat.le_of_ble_eq_true rfl) dX7_hasNumber_1 ⟨Nat.zero_le _, Nat.zero_le _⟩ (fun H locs hP hD hS => ?_)
  have hP : va_P G vwCl ([]) H := hP
  have hD : va_D A ([]) := hD
  refine lv_iload_n hx hb dX7_hasNumber_4 rfl (lv_at hl 1 rfl) ?_
  refine lv_icmp_eq (tgt := 16) hx hb dX7_hasNumber_5 (by decide) (fun c_5 => ?_) (fun c_5 => ?_)
  · have hm := ifp c_5 hm
    refine lv_iconst (v := 1) hx hb dX7_hasNumber_16 (by decide) ?_
    refine lv_goto (tgt := 21) hx hb dX7_hasNumber_17 (by decide) ?_
    exact hend H locs ls _ _ _ (by decide) (Option.some.inj hm) rfl hP hD hS dX7_hasNumber_21
  · have hm := ifn c_5 hm
    refine lv_iload_n hx hb dX7_hasNumber_8 rfl (lv_at hl 0 rfl) ?_
    obtain ⟨r9, e_9, hm⟩ := bd1_s hm
    refine zcSi (As := [.int p0]) (rest := []) ⟨hx, hb, hml, hown, hts⟩ (k_X7_highNumber l G K c p0 r9 e_9) (va_cwS 1 hts gX7_hasNumber_X7_highNumber rfl rfl rfl hd_X7_highNumber.2 ⟨Nat.le_of_ble_eq_true rfl, Nat.le_of_ble_eq_true rfl⟩) hK hN hZ hP hD hS hA [] rfl (by decide) rfl rfl hl.1 rfl (Nat.le_of_ble_eq_true rfl) dX7_hasNumber_9 ⟨Nat.zero_le _, Nat.zero_le _⟩ (fun H locs hP hD hS => ?_)
    have hP : va_P G vwCl ([]) H := hP
    have hD : va_D A ([]) := hD
    refine lv_iload_n hx hb dX7_hasNumber_12 rfl (lv_at hl 1 rfl) ?_
    refine lv_icmp_ne (tgt := 20) hx hb dX7_hasNumber_13 (by decide) (fun c_13 => ?_) (fun c_13 => ?_)
    · have hm := ifn c_13 hm
      refine lv_iconst (v := 0) hx hb dX7_hasNumber_20 (by decide) ?_
      exact hend H locs ls _ _ _ (by decide) (Option.some.inj hm) rfl hP hD hS dX7_hasNumber_21
    · have hm := ifp c_13 hm
      refine lv_iconst (v := 1) hx hb dX7_hasNumber_16 (by decide) ?_
      refine lv_goto (tgt := 21) hx hb dX7_hasNumber_17 (by decide) ?_
      exact hend H locs ls _ _ _ (by decide) (Option.some.inj hm) rfl hP hD hS dX7_hasNumber_21


def f_X7_look (n0 : Nat) (h0 : Nat → Int32) (p1 : Int32) : Option Int32 :=
  if p1 < 0 then (some (0)) else (if (nI n0) ≤ p1 then (some (0)) else (gd (inb p1 n0) <| some ((h0 p1.toNatClampNeg))))

abbrev rm_X7_look : Room := { frames := 0, cells := 0, slots := 0, locals := 0 }
theorem hd_X7_look : yX7_look.cls = RX7 ∧ yX7_look.cls ≠ "java/lang/invoke/MethodHandle" ∧ yX7_look.cls ≠ "java/lang/invoke/VarHandle" ∧ (parseMethodDescriptor yX7_look.desc).map (fun d => d.parameters.length) = some 2 := by decide +kernel
set_option maxHeartbeats 4000000 in
set_option maxRecDepth 100000 in
theorem k_X7_look (l : Launch) (G : va_G) (K : (Nat → Nat) × (Nat → Nat)) (c : Nat → ClassId) (q0 : Nat) (n0 : Nat) (h0 : Nat → Int32) (p1 : Int32) (r : Int32) (hm : f_X7_look n0 h0 p1 = some (r)) : zMi l yX7_look wsX7_look (rm_X7_look) G K (TY c) [.ref q0, .int p1] ([(q0, .inl (c 0, n0, .inl h0))]) ([(q0, .inl (c 0, n0, .inl h0))]) r := by
  refine zMi.of (cc := cX7_look) (maxL := 2) (lv := [(0, .ref q0), (1, .int p1)]) (by decide) rfl (Nat.le_of_ble_eq_true rfl) rfl ?_
  intro p e s m args below meth c1 A Q H locs hx hb hml hown hts hK hN hZ hP hD hA hS hend ls hl
  have hown : s.vm.findClass RX7 = some m.cls := hown
  unfold f_X7_look at hm
  refine lv_iload_n hx hb dX7_look_0 rfl (lv_at hl 1 rfl) ?_
  refine lv_if_lt (tgt := 16) hx hb dX7_look_1 (by decide) (fun c_1 => ?_) (fun c_1 => ?_)
  · have hm := ifp c_1 hm
    refine lv_iconst (v := 0) hx hb dX7_look_16 (by decide) ?_
    exact hend H locs ls _ _ _ rfl (Option.some.inj hm) rfl hP hD hS dX7_look_17
  · have hm := ifn c_1 hm
    refine lv_iload_n hx hb dX7_look_4 rfl (lv_at hl 1 rfl) ?_
    refine lv_aload_n hx hb dX7_look_5 rfl (lv_at hl 0 rfl) ?_
    refine va_alen (D := G) (v := (nI n0)) hx hb hK hP 0 0 rfl rfl rfl dX7_look_6 ?_
    refine lv_icmp_ge (tgt := 16) hx hb dX7_look_7 (by decide) (fun c_7 => ?_) (fun c_7 => ?_)
    · have hm := ifp c_7 hm
      refine lv_iconst (v := 0) hx hb dX7_look_16 (by decide) ?_
      exact hend H locs ls _ _ _ rfl (Option.some.inj hm) rfl hP hD hS dX7_look_17
    · have hm := ifn c_7 hm
      refine lv_aload_n hx hb dX7_look_10 rfl (lv_at hl 0 rfl) ?_
      refine lv_iload_n hx hb dX7_look_11 rfl (lv_at hl 1 rfl) ?_
      obtain ⟨h_12, hm⟩ := gd_s hm
      refine va_iald (D := G) hx hb hK hP 0 0 rfl rfl (inb_s h_12) dX7_look_12 ?_
      refine lv_goto (tgt := 17) hx hb dX7_look_13 (by decide) ?_
      exact hend H locs ls _ _ _ rfl (Option.some.inj hm) rfl hP hD hS dX7_look_17


def f_X7_put (n0 : Nat) (h0 : Nat → Int32) (p1 : Int32) (p2 : Int32) : Option ((Nat → Int32)) :=
  if p1 < 0 then (some (h0)) else (if (nI n0) ≤ p1 then (some (h0)) else (gd (inb p1 n0) <| nmd (upd h0 p1.toNatClampNeg p2) fun (w13 : Nat → Int32) => some (w13)))

abbrev rm_X7_put : Room := { frames := 0, cells := 0, slots := 0, locals := 0 }
theorem hd_X7_put : yX7_put.cls = RX7 ∧ yX7_put.cls ≠ "java/lang/invoke/MethodHandle" ∧ yX7_put.cls ≠ "java/lang/invoke/VarHandle" ∧ (parseMethodDescriptor yX7_put.desc).map (fun d => d.parameters.length) = some 3 := by decide +kernel
set_option maxHeartbeats 4000000 in
set_option maxRecDepth 100000 in
theorem k_X7_put (l : Launch) (G : va_G) (K : (Nat → Nat) × (Nat → Nat)) (c : Nat → ClassId) (q0 : Nat) (n0 : Nat) (h0 : Nat → Int32) (p1 : Int32) (p2 : Int32) (h0_r : Nat → Int32) (hm : f_X7_put n0 h0 p1 p2 = some (h0_r)) : zMv l yX7_put wsX7_put (rm_X7_put) G K (TY c) [.ref q0, .int p1, .int p2] ([(q0, .inl (c 0, n0, .inl h0))]) ([(q0, .inl (c 0, n0, .inl h0_r))]) := by
  refine zMv.of (cc := cX7_put) (maxL := 3) (lv := [(0, .ref q0), (1, .int p1), (2, .int p2)]) (by decide) rfl (Nat.le_of_ble_eq_true rfl) rfl ?_
  intro p e s m args below meth c1 A Q H locs hx hb hml hown hts hK hN hZ hP hD hA hS hend ls hl
  have hown : s.vm.findClass RX7 = some m.cls := hown
  unfold f_X7_put at hm
  refine lv_iload_n hx hb dX7_put_0 rfl (lv_at hl 1 rfl) ?_
  refine lv_if_lt (tgt := 14) hx hb dX7_put_1 (by decide) (fun c_1 => ?_) (fun c_1 => ?_)
  · have hm := ifp c_1 hm
    exact hend H locs ls _ _ (zc1 (fun (z0 : Nat → Int32) => ([(q0, .inl (c 0, n0, .inl z0))] : va_W)) (Option.some.inj hm)) hP hD hS dX7_put_14
  · have hm := ifn c_1 hm
    refine lv_iload_n hx hb dX7_put_4 rfl (lv_at hl 1 rfl) ?_
    refine lv_aload_n hx hb dX7_put_5 rfl (lv_at hl 0 rfl) ?_
    refine va_alen (D := G) (v := (nI n0)) hx hb hK hP 0 0 rfl rfl rfl dX7_put_6 ?_
    refine lv_icmp_ge (tgt := 14) hx hb dX7_put_7 (by decide) (fun c_7 => ?_) (fun c_7 => ?_)
    · have hm := ifp c_7 hm
      exact hend H locs ls _ _ (zc1 (fun (z0 : Nat → Int32) => ([(q0, .inl (c 0, n0, .inl z0))] : va_W)) (Option.some.inj hm)) hP hD hS dX7_put_14
    · have hm := ifn c_7 hm
      refine lv_aload_n hx hb dX7_put_10 rfl (lv_at hl 0 rfl) ?_
      refine lv_iload_n hx hb dX7_put_11 rfl (lv_at hl 1 rfl) ?_
      refine lv_iload_n hx hb dX7_put_12 rfl (lv_at hl 2 rfl) ?_
      obtain ⟨h_13, hm⟩ := gd_s hm
      refine va_iast (D := G) hx hb hK hP hD hS 0 0 rfl rfl (inb_s h_13) dX7_put_13 (fun H locs hP hD hS => ?_)
      obtain ⟨w13, e_w13⟩ : ∃ z : Nat → Int32, z = upd h0 p1.toNatClampNeg p2 := ⟨_, rfl⟩
      have hP : va_P G vwCl ([(q0, .inl (c 0, n0, .inl w13))]) H := by rw [e_w13]; exact hP
      have hD : va_D A ([(q0, .inl (c 0, n0, .inl w13))]) := by rw [e_w13]; exact hD
      have hm := nmd_s hm w13 e_w13
      exact hend H locs ls _ _ (zc1 (fun (z0 : Nat → Int32) => ([(q0, .inl (c 0, n0, .inl z0))] : va_W)) (Option.some.inj hm)) hP hD hS dX7_put_14


def f_X7_copy (n0 : Nat) (n1 : Nat) (h0 : Nat → Int32) (h1 : Nat → Int32) : Option ((Nat → Int32)) :=
  nmd (if (nI n1) < (nI n0) then (nI n1) else (nI n0)) fun (y11 : Int32) => gd (cpg 0 0 y11 n0 n1) <| nmd (va_cpy h0 h1 (0 : Int32).toNatClampNeg (0 : Int32).toNatClampNeg y11.toNatClampNeg) fun (w11 : Nat → Int32) => some (w11)

abbrev rm_X7_copy : Room := { frames := 1, cells := 0, slots := 0, locals := 40 }
theorem hd_X7_copy : yX7_copy.cls = RX7 ∧ yX7_copy.cls ≠ "java/lang/invoke/MethodHandle" ∧ yX7_copy.cls ≠ "java/lang/invoke/VarHandle" ∧ (parseMethodDescriptor yX7_copy.desc).map (fun d => d.parameters.length) = some 2 := by decide +kernel
set_option maxHeartbeats 4000000 in
set_option maxRecDepth 100000 in
theorem k_X7_copy (l : Launch) (G : va_G) (K : (Nat → Nat) × (Nat → Nat)) (c : Nat → ClassId) (q0 : Nat) (q1 : Nat) (n0 : Nat) (n1 : Nat) (h0 : Nat → Int32) (h1 : Nat → Int32) (h1_r : Nat → Int32) (hm : f_X7_copy n0 n1 h0 h1 = some (h1_r)) : zMv l yX7_copy wsX7_copy (rm_X7_copy) G K (TY c) [.ref q0, .ref q1] (([(q0, .inl (c 0, n0, .inl h0))]) ++ ([(q1, .inl (c 0, n1, .inl h1))])) (([(q0, .inl (c 0, n0, .inl h0))]) ++ ([(q1, .inl (c 0, n1, .inl h1_r))])) := by
  refine zMv.of (cc := cX7_copy) (maxL := 2) (lv := [(0, .ref q0), (1, .ref q1)]) (by decide) rfl (Nat.le_of_ble_eq_true rfl) rfl ?_
  intro p e s m args below meth c1 A Q H locs hx hb hml hown hts hK hN hZ hP hD hA hS hend ls hl
  have hown : s.vm.findClass RX7 = some m.cls := hown
  unfold f_X7_copy at hm
  refine lv_aload_n hx hb dX7_copy_0 rfl (lv_at hl 0 rfl) ?_
  refine lv_iconst (v := 0) hx hb dX7_copy_1 (by decide) ?_
  refine lv_aload_n hx hb dX7_copy_2 rfl (lv_at hl 1 rfl) ?_
  refine lv_iconst (v := 0) hx hb dX7_copy_3 (by decide) ?_
  refine lv_aload_n hx hb dX7_copy_4 rfl (lv_at hl 0 rfl) ?_
  refine va_alen (D := G) (v := (nI n0)) hx hb hK hP 0 0 rfl rfl rfl dX7_copy_5 ?_
  refine lv_aload_n hx hb dX7_copy_6 rfl (lv_at hl 1 rfl) ?_
  refine va_alen (D := G) (v := (nI n1)) hx hb hK hP 1 0 rfl rfl rfl dX7_copy_7 ?_
  refine va_mmin hx hb (hml.trans hl.1.symm) hown (hts (.methodLink RX7 215 Lib.Math.min.name) (List.mem_of_getElem? (i := 1) rfl)) (hts (.static Lib.Math.min.name) (List.mem_of_getElem? (i := 2) rfl)) (hts (.initialized "java/lang/Math") (List.mem_of_getElem? (i := 3) rfl)) (hts (.code Lib.Math.min.name Lib.Math.min.code 2 (some .int)) (List.mem_of_getElem? (i := 4) rfl)) (Nat.le_of_ble_eq_true rfl) (Nat.le_of_ble_eq_true rfl) (Nat.zero_le _) (Nat.zero_le _) dX7_copy_8 ?_
  refine lv_topi (fun y11 e_y11 => ?_)
  have hm := nmd_s hm y11 e_y11
  obtain ⟨h_11, hm⟩ := gd_s hm
  refine va_copyi (D := G) (ty := .int) hx hb (hml.trans hl.1.symm) hown (hts (.methodLink RX7 239 arraycopyName) (List.mem_of_getElem? (i := 5) rfl)) (hts (.native arraycopyName) (List.mem_of_getElem? (i := 6) rfl)) (hts (.static arraycopyName) (List.mem_of_getElem? (i := 7) rfl)) (hts (.initialized "java/lang/System") (List.mem_of_getElem? (i := 8) rfl)) hK hP hD hS 0 1 0 0 rfl rfl rfl rfl rfl (cpg_s h_11).1 (cpg_s h_11).2.1 (cpg_s h_11).2.2.1 (cpg_s h_11).2.2.2.1 (cpg_s h_11).2.2.2.2 (fun _ _ => rfl) (Nat.le_of_ble_eq_true rfl) (Nat.le_of_ble_eq_true rfl) dX7_copy_11 (fun H locs hP hD hS => ?_)
  obtain ⟨w11, e_w11⟩ : ∃ z : Nat → Int32, z = va_cpy h0 h1 (0 : Int32).toNatClampNeg (0 : Int32).toNatClampNeg y11.toNatClampNeg := ⟨_, rfl⟩
  have hP : va_P G vwCl (([(q0, .inl (c 0, n0, .inl h0))]) ++ ([(q1, .inl (c 0, n1, .inl w11))])) H := by rw [e_w11]; exact hP
  have hD : va_D A (([(q0, .inl (c 0, n0, .inl h0))]) ++ ([(q1, .inl (c 0, n1, .inl w11))])) := by rw [e_w11]; exact hD
  have hm := nmd_s hm w11 e_w11
  exact hend H locs ls _ _ (zc1 (fun (z1 : Nat → Int32) => (([(q0, .inl (c 0, n0, .inl h0))]) ++ ([(q1, .inl (c 0, n1, .inl z1))]) : va_W)) (Option.some.inj hm)) hP hD hS dX7_copy_14


def f_X4_clear (k : SA) : Option SA :=
  some ((ss (ss k 0 0) 1 0))

abbrev rm_X4_clear : Room := { frames := 0, cells := 0, slots := 0, locals := 0 }
theorem hd_X4_clear : yX4_clear.cls = RX4 ∧ yX4_clear.cls ≠ "java/lang/invoke/MethodHandle" ∧ yX4_clear.cls ≠ "java/lang/invoke/VarHandle" ∧ (parseMethodDescriptor yX4_clear.desc).map (fun d => d.parameters.length) = some 0 := by decide +kernel
set_option maxHeartbeats 4000000 in
set_option maxRecDepth 100000 in
theorem k_X4_clear (l : Launch) (G : va_G) (K : (Nat → Nat) × (Nat → Nat)) (c : Nat → ClassId) (ka0 : Nat) (ka1 : Nat) (k : SA) (k_r : SA) (hm : f_X4_clear k = some (k_r)) : zMv l yX4_clear wsX4_clear (rm_X4_clear) G K (TY c) [.ref ka0] (wK c ka0 ka1 k) (wK c ka0 ka1 k_r) := by
  refine zMv.of (cc := cX4_clear) (maxL := 1) (lv := [(0, .ref ka0)]) (by decide) rfl (Nat.le_of_ble_eq_true rfl) rfl ?_
  intro p e s m args below meth c1 A Q H locs hx hb hml hown hts hK hN hZ hP hD hA hS hend ls hl
  have hown : s.vm.findClass RX4 = some m.cls := hown
  have hi_4 : ∀ w ∈ wsX40, w ∈ wsX4_clear := (fun w h => List.mem_cons_of_mem _ (List.mem_append_right _ (h)))
  unfold f_X4_clear at hm
  refine lv_aload_n hx hb dX4_clear_0 rfl (lv_at hl 0 rfl) ?_
  refine lv_iconst (v := 0) hx hb dX4_clear_1 (by decide) ?_
  refine va_put (D := G) (ci := 4) (v := .int 0) (C := RX4) (T := TX4) (N := 3) hx hb hts hi_4 tyX4 tyX4_ok nmX4 hown hK hP hD hS 0 rfl rfl 1 (by decide) (hts (.fieldLink RX4 19 "HubTrains$Stock" "first" "I") (List.mem_of_getElem? (i := 1) rfl)) (fun _ h9 => h9) rfl (tyX4_ok 1 (by decide)) rfl rfl (Nat.le_of_ble_eq_true rfl) dX4_clear_2 (fun H locs hP hD hS => ?_)
  have hP : va_P G vwCl (wK c ka0 ka1 (ss k 0 0)) H := hP
  have hD : va_D A (wK c ka0 ka1 (ss k 0 0)) := hD
  refine lv_aload_n hx hb dX4_clear_5 rfl (lv_at hl 0 rfl) ?_
  refine lv_iconst (v := 0) hx hb dX4_clear_6 (by decide) ?_
  refine va_put (D := G) (ci := 4) (v := .int 0) (C := RX4) (T := TX4) (N := 3) hx hb hts hi_4 tyX4 tyX4_ok nmX4 hown hK hP hD hS 0 rfl rfl 2 (by decide) (hts (.fieldLink RX4 23 "HubTrains$Stock" "end" "I") (List.mem_of_getElem? (i := 2) rfl)) (fun _ h9 => h9) rfl (tyX4_ok 2 (by decide)) rfl rfl (Nat.le_of_ble_eq_true rfl) dX4_clear_7 (fun H locs hP hD hS => ?_)
  have hP : va_P G vwCl (wK c ka0 ka1 (ss (ss k 0 0) 1 0)) H := hP
  have hD : va_D A (wK c ka0 ka1 (ss (ss k 0 0) 1 0)) := hD
  exact hend H locs ls _ _ (zc1 (fun (z0 : SA) => (wK c ka0 ka1 z0 : va_W)) (Option.some.inj hm)) hP hD hS dX4_clear_10


def f_X4_size (k : SA) : Option Int32 :=
  some (((k.1 1) - (k.1 0)))

abbrev rm_X4_size : Room := { frames := 0, cells := 0, slots := 0, locals := 0 }
theorem hd_X4_size : yX4_size.cls = RX4 ∧ yX4_size.cls ≠ "java/lang/invoke/MethodHandle" ∧ yX4_size.cls ≠ "java/lang/invoke/VarHandle" ∧ (parseMethodDescriptor yX4_size.desc).map (fun d => d.parameters.length) = some 0 := by decide +kernel
set_option maxHeartbeats 4000000 in
set_option maxRecDepth 100000 in
theorem k_X4_size (l : Launch) (G : va_G) (K : (Nat → Nat) × (Nat → Nat)) (c : Nat → ClassId) (ka0 : Nat) (ka1 : Nat) (k : SA) (r : Int32) (hm : f_X4_size k = some (r)) : zMi l yX4_size wsX4_size (rm_X4_size) G K (TY c) [.ref ka0] (wK c ka0 ka1 k) (wK c ka0 ka1 k) r := by
  refine zMi.of (cc := cX4_size) (maxL := 1) (lv := [(0, .ref ka0)]) (by decide) rfl (Nat.le_of_ble_eq_true rfl) rfl ?_
  intro p e s m args below meth c1 A Q H locs hx hb hml hown hts hK hN hZ hP hD hA hS hend ls hl
  have hown : s.vm.findClass RX4 = some m.cls := hown
  have hi_4 : ∀ w ∈ wsX40, w ∈ wsX4_size := (fun w h => List.mem_cons_of_mem _ (List.mem_append_right _ (h)))
  unfold f_X4_size at hm
  refine lv_aload_n hx hb dX4_size_0 rfl (lv_at hl 0 rfl) ?_
  refine va_get (D := G) (ci := 4) (v := .int (k.1 1)) (C := RX4) (T := TX4) (N := 3) hx hb hts hi_4 hown hK hP 0 rfl rfl 2 (by decide) (hts (.fieldLink RX4 23 "HubTrains$Stock" "end" "I") (List.mem_of_getElem? (i := 1) rfl)) (fun _ h9 => h9) rfl dX4_size_1 ?_
  refine lv_aload_n hx hb dX4_size_4 rfl (lv_at hl 0 rfl) ?_
  refine va_get (D := G) (ci := 4) (v := .int (k.1 0)) (C := RX4) (T := TX4) (N := 3) hx hb hts hi_4 hown hK hP 0 rfl rfl 1 (by decide) (hts (.fieldLink RX4 19 "HubTrains$Stock" "first" "I") (List.mem_of_getElem? (i := 2) rfl)) (fun _ h9 => h9) rfl dX4_size_5 ?_
  refine lv_isub hx hb dX4_size_8 ?_
  exact hend H locs ls _ _ _ rfl (Option.some.inj hm) rfl hP hD hS dX4_size_9


def f_X4_add (k : SA) (p0 : Int32) : Option SA :=
  if (55 : Int32) ≤ (k.1 1) then (some (k)) else (bd1 (f_X7_put 55 (k.2 0) (k.1 1) p0) fun (h021 : Nat → Int32) => some ((sa (ss k 1 ((k.1 1) + 1)) 0 h021)))

abbrev rm_X4_add : Room := { frames := 1, cells := 0, slots := 0, locals := 22 }
theorem hd_X4_add : yX4_add.cls = RX4 ∧ yX4_add.cls ≠ "java/lang/invoke/MethodHandle" ∧ yX4_add.cls ≠ "java/lang/invoke/VarHandle" ∧ (parseMethodDescriptor yX4_add.desc).map (fun d => d.parameters.length) = some 1 := by decide +kernel
set_option maxHeartbeats 4000000 in
set_option maxRecDepth 100000 in
theorem k_X4_add (l : Launch) (G : va_G) (K : (Nat → Nat) × (Nat → Nat)) (c : Nat → ClassId) (ka0 : Nat) (ka1 : Nat) (k : SA) (p0 : Int32) (k_r : SA) (hm : f_X4_add k p0 = some (k_r)) : zMv l yX4_add wsX4_add (rm_X4_add) G K (TY c) [.ref ka0, .int p0] (wK c ka0 ka1 k) (wK c ka0 ka1 k_r) := by
  refine zMv.of (cc := cX4_add) (maxL := 2) (lv := [(0, .ref ka0), (1, .int p0)]) (by decide) rfl (Nat.le_of_ble_eq_true rfl) rfl ?_
  intro p e s m args below meth c1 A Q H locs hx hb hml hown hts hK hN hZ hP hD hA hS hend ls hl
  have hown : s.vm.findClass RX4 = some m.cls := hown
  have hi_4 : ∀ w ∈ wsX40, w ∈ wsX4_add := (fun w h => List.mem_cons_of_mem _ (List.mem_append_right _ (h)))
  unfold f_X4_add at hm
  refine lv_aload_n hx hb dX4_add_0 rfl (lv_at hl 0 rfl) ?_
  refine va_get (D := G) (ci := 4) (v := .int (k.1 1)) (C := RX4) (T := TX4) (N := 3) hx hb hts hi_4 hown hK hP 0 rfl rfl 2 (by decide) (hts (.fieldLink RX4 23 "HubTrains$Stock" "end" "I") (List.mem_of_getElem? (i := 1) rfl)) (fun _ h9 => h9) rfl dX4_add_1 ?_
  refine lv_aload_n hx hb dX4_add_4 rfl (lv_at hl 0 rfl) ?_
  refine va_get (D := G) (ci := 4) (v := .ref ka1) (C := RX4) (T := TX4) (N := 3) hx hb hts hi_4 hown hK hP 0 rfl rfl 0 (by decide) (hts (.fieldLink RX4 9 "HubTrains$Stock" "tiles" "[I") (List.mem_of_getElem? (i := 2) rfl)) (fun _ h9 => h9) rfl dX4_add_5 ?_
  refine va_alen (D := G) (v := 55) hx hb hK hP 1 0 rfl rfl rfl dX4_add_8 ?_
  refine lv_icmp_ge (tgt := 34) hx hb dX4_add_9 (by decide) (fun c_9 => ?_) (fun c_9 => ?_)
  · have hm := ifp c_9 hm
    exact hend H locs ls _ _ (zc1 (fun (z0 : SA) => (wK c ka0 ka1 z0 : va_W)) (Option.some.inj hm)) hP hD hS dX4_add_34
  · have hm := ifn c_9 hm
    refine lv_aload_n hx hb dX4_add_12 rfl (lv_at hl 0 rfl) ?_
    refine va_get (D := G) (ci := 4) (v := .ref ka1) (C := RX4) (T := TX4) (N := 3) hx hb hts hi_4 hown hK hP 0 rfl rfl 0 (by decide) (hts (.fieldLink RX4 9 "HubTrains$Stock" "tiles" "[I") (List.mem_of_getElem? (i := 2) rfl)) (fun _ h9 => h9) rfl dX4_add_13 ?_
    refine lv_aload_n hx hb dX4_add_16 rfl (lv_at hl 0 rfl) ?_
    refine va_get (D := G) (ci := 4) (v := .int (k.1 1)) (C := RX4) (T := TX4) (N := 3) hx hb hts hi_4 hown hK hP 0 rfl rfl 2 (by decide) (hts (.fieldLink RX4 23 "HubTrains$Stock" "end" "I") (List.mem_of_getElem? (i := 1) rfl)) (fun _ h9 => h9) rfl dX4_add_17 ?_
    refine lv_iload_n hx hb dX4_add_20 rfl (lv_at hl 1 rfl) ?_
    obtain ⟨h021, e_21, hm⟩ := bd1_s hm
    refine zcSNv (As := [.ref ka1, .int (k.1 1), .int p0]) (rest := []) ⟨hx, hb, hml, hown, hts⟩ (k_X7_put l G K c ka1 55 (k.2 0) (k.1 1) p0 h021 e_21) ⟨va_cnB 3 hts gX4_add_X7_put_n26 rfl rfl rfl (nwm_HubTrains_Stock_26 hN.2.1) (hts (.initialized RX7) (List.mem_of_getElem? (i := 4) rfl)) hd_X7_put.2 ⟨Nat.le_of_ble_eq_true rfl, Nat.le_of_ble_eq_true rfl⟩, (hts (.static yX7_put) (List.mem_of_getElem? (i := 3) rfl)), trivial⟩ hK hN hZ hP hD hS hA [1] rfl (by decide) rfl rfl hl.1 rfl (Nat.le_of_ble_eq_true rfl) dX4_add_21 ⟨Nat.zero_le _, Nat.zero_le _⟩ (fun H locs hP hD hS => ?_)
    have hP : va_P G vwCl (wK c ka0 ka1 (sa k 0 h021)) H := hP
    have hD : va_D A (wK c ka0 ka1 (sa k 0 h021)) := hD
    refine lv_aload_n hx hb dX4_add_24 rfl (lv_at hl 0 rfl) ?_
    refine lv_dup hx hb dX4_add_25 rfl ?_
    refine va_get (D := G) (ci := 4) (v := .int (k.1 1)) (C := RX4) (T := TX4) (N := 3) hx hb hts hi_4 hown hK hP 0 rfl rfl 2 (by decide) (hts (.fieldLink RX4 23 "HubTrains$Stock" "end" "I") (List.mem_of_getElem? (i := 1) rfl)) (fun _ h9 => h9) rfl dX4_add_26 ?_
    refine lv_iconst (v := 1) hx hb dX4_add_29 (by decide) ?_
    refine lv_iadd hx hb dX4_add_30 ?_
    refine va_put (D := G) (ci := 4) (v := .int ((k.1 1) + 1)) (C := RX4) (T := TX4) (N := 3) hx hb hts hi_4 tyX4 tyX4_ok nmX4 hown hK hP hD hS 0 rfl rfl 2 (by decide) (hts (.fieldLink RX4 23 "HubTrains$Stock" "end" "I") (List.mem_of_getElem? (i := 1) rfl)) (fun _ h9 => h9) rfl (tyX4_ok 2 (by decide)) rfl rfl (Nat.le_of_ble_eq_true rfl) dX4_add_31 (fun H locs hP hD hS => ?_)
    have hP : va_P G vwCl (wK c ka0 ka1 (sa (ss k 1 ((k.1 1) + 1)) 0 h021)) H := hP
    have hD : va_D A (wK c ka0 ka1 (sa (ss k 1 ((k.1 1) + 1)) 0 h021)) := hD
    exact hend H locs ls _ _ (zc1 (fun (z0 : SA) => (wK c ka0 ka1 z0 : va_W)) (Option.some.inj hm)) hP hD hS dX4_add_34

def f_X4_mix_B9  (rec_9 : Int32 → Int32 → SA → Option (Int32 × SA)) (v2_9 : Int32) (v3_9 : Int32) (k_9 : SA) : Option (Int32 × SA) :=
  if v3_9 < 1 then (some (v2_9, k_9)) else (nmd ((v2_9 * 1103515245) + 12345) fun (x2_22 : Int32) => gd (nz (v3_9 + 1)) <| nmd (((x2_22 >>> ((16 : Int32) &&& 31)) &&& 32767) - ((x2_22 >>> ((16 : Int32) &&& 31)) &&& 32767) / (v3_9 + 1) * (v3_9 + 1)) fun (x4_35 : Int32) => bd1 (f_X7_look 55 (k_9.2 0) v3_9) fun (r42 : Int32) => bd1 (f_X7_look 55 (k_9.2 0) x4_35) fun (r58 : Int32) => bd1 (f_X7_put 55 (k_9.2 0) v3_9 r58) fun (h061 : Nat → Int32) => bd1 (f_X7_put 55 h061 x4_35 r42) fun (h072 : Nat → Int32) => rec_9 x2_22 (v3_9 + (-1)) (sa k_9 0 h072))

def f_X4_mix (k : SA) (p0 : Int32) : Option (Int32 × SA) :=
  itr3 f_X4_mix_B9 FUEL p0 ((k.1 1) - 1) k

abbrev rm_X4_mix : Room := { frames := 1, cells := 0, slots := 0, locals := 22 }
theorem hd_X4_mix : yX4_mix.cls = RX4 ∧ yX4_mix.cls ≠ "java/lang/invoke/MethodHandle" ∧ yX4_mix.cls ≠ "java/lang/invoke/VarHandle" ∧ (parseMethodDescriptor yX4_mix.desc).map (fun d => d.parameters.length) = some 1 := by decide +kernel
set_option maxHeartbeats 4000000 in
set_option maxRecDepth 100000 in
theorem k_X4_mix (l : Launch) (G : va_G) (K : (Nat → Nat) × (Nat → Nat)) (c : Nat → ClassId) (ka0 : Nat) (ka1 : Nat) (k : SA) (p0 : Int32) (r : Int32) (k_r : SA) (hm : f_X4_mix k p0 = some (r, k_r)) : zMi l yX4_mix wsX4_mix (rm_X4_mix) G K (TY c) [.ref ka0, .int p0] (wK c ka0 ka1 k) (wK c ka0 ka1 k_r) r := by
  refine zMi.of (cc := cX4_mix) (maxL := 6) (lv := [(0, .ref ka0), (1, .int p0)]) (by decide) rfl (Nat.le_of_ble_eq_true rfl) rfl ?_
  intro p e s m args below meth c1 A Q H locs hx hb hml hown hts hK hN hZ hP hD hA hS hend ls hl
  have hown : s.vm.findClass RX4 = some m.cls := hown
  have hi_4 : ∀ w ∈ wsX40, w ∈ wsX4_mix := (fun w h => List.mem_cons_of_mem _ (List.mem_append_right _ (h)))
  unfold f_X4_mix at hm
  refine lv_iload_n hx hb dX4_mix_0 rfl (lv_at hl 1 rfl) ?_
  refine lv_istore_n (lv' := [(2, .int p0), (0, .ref ka0), (1, .int p0)]) hx hb dX4_mix_1 rfl hl (by decide) rfl (fun ls hl => ?_)
  refine lv_aload_n hx hb dX4_mix_2 rfl (lv_at hl 1 rfl) ?_
  refine va_get (D := G) (ci := 4) (v := .int (k.1 1)) (C := RX4) (T := TX4) (N := 3) hx hb hts hi_4 hown hK hP 0 rfl rfl 2 (by decide) (hts (.fieldLink RX4 23 "HubTrains$Stock" "end" "I") (List.mem_of_getElem? (i := 1) rfl)) (fun _ h9 => h9) rfl dX4_mix_3 ?_
  refine lv_iconst (v := 1) hx hb dX4_mix_6 (by decide) ?_
  refine lv_isub hx hb dX4_mix_7 ?_
  refine lv_istore_n (lv' := [(3, .int ((k.1 1) - 1)), (2, .int p0), (0, .ref ka0), (1, .int p0)]) hx hb dX4_mix_8 rfl hl (by decide) rfl (fun ls hl => ?_)
  have L_9 : ∀ (n_9 : Nat) (v2_9 : Int32) (v3_9 : Int32) (k_9 : SA) (H : Heap) (locs : List Loc) (ls : Array Slot), va_P G vwCl (wK c ka0 ka1 k_9) H → va_D A (wK c ka0 ka1 k_9) → va_S A s.heap H locs → lv_has ls 6 [(0, .ref ka0), (2, .int v2_9), (3, .int v3_9)] → itr3 f_X4_mix_B9 n_9 v2_9 v3_9 k_9 = some (r, k_r) → W p l e (rm_X4_mix) s m args below meth c1 H locs 0 0 Q (F0 m 9 ls []) := by
    intro n_9
    induction n_9 with
    | zero => intro v2_9 v3_9 k_9 H locs ls hP hD hS hl hm; exact (itr3_0 hm).elim
    | succ n_9 ih_9 =>
      intro v2_9 v3_9 k_9 H locs ls hP hD hS hl hm
      have hm := itr3_s hm
      unfold f_X4_mix_B9 at hm
      refine lv_iload_n hx hb dX4_mix_9 rfl (lv_at hl 2 rfl) ?_
      refine lv_iconst (v := 1) hx hb dX4_mix_10 (by decide) ?_
      refine lv_icmp_lt (tgt := 81) hx hb dX4_mix_11 (by decide) (fun c_11 => ?_) (fun c_11 => ?_)
      · have hm := ifp c_11 hm
        refine lv_iload_n hx hb dX4_mix_81 rfl (lv_at hl 1 rfl) ?_
        exact hend H locs ls _ _ _ rfl (Prod.mk.inj (Option.some.inj hm)).1 (zc1 (fun (z0 : SA) => (wK c ka0 ka1 z0 : va_W)) (Prod.mk.inj (Option.some.inj hm)).2) hP hD hS dX4_mix_82
      · have hm := ifn c_11 hm
        refine lv_iload_n hx hb dX4_mix_14 rfl (lv_at hl 1 rfl) ?_
        refine lv_ldc (v := 1103515245) hx hb hown (hts (.constant RX4 30 (1103515245)) (List.mem_of_getElem? (i := 2) rfl)) dX4_mix_15 ?_
        refine lv_imul hx hb dX4_mix_17 ?_
        refine lv_sipush (v := 12345) hx hb dX4_mix_18 (by decide) ?_
        refine lv_iadd hx hb dX4_mix_21 ?_
        refine lv_topi (fun x2_22 e_x2_22 => ?_)
        have hm := nmd_s hm x2_22 e_x2_22
        refine lv_istore_n (lv' := [(2, .int x2_22), (0, .ref ka0), (3, .int v3_9)]) hx hb dX4_mix_22 rfl hl (by decide) rfl (fun ls hl => ?_)
        refine lv_iload_n hx hb dX4_mix_23 rfl (lv_at hl 0 rfl) ?_
        refine lv_bipush (v := 16) hx hb dX4_mix_24 (by decide) ?_
        refine lv_ishr hx hb dX4_mix_26 ?_
        refine lv_sipush (v := 32767) hx hb dX4_mix_27 (by decide) ?_
        refine lv_iand hx hb dX4_mix_30 ?_
        refine lv_iload_n hx hb dX4_mix_31 rfl (lv_at hl 2 rfl) ?_
        refine lv_iconst (v := 1) hx hb dX4_mix_32 (by decide) ?_
        refine lv_iadd hx hb dX4_mix_33 ?_
        obtain ⟨h_34, hm⟩ := gd_s hm
        refine lv_irem hx hb dX4_mix_34 (nz_s h_34) ?_
        refine lv_topi (fun x4_35 e_x4_35 => ?_)
        have hm := nmd_s hm x4_35 e_x4_35
        refine lv_istore (lv' := [(4, .int x4_35), (2, .int x2_22), (0, .ref ka0), (3, .int v3_9)]) hx hb dX4_mix_35 hl (by decide) rfl (fun ls hl => ?_)
        refine lv_aload_n hx hb dX4_mix_37 rfl (lv_at hl 2 rfl) ?_
        refine va_get (D := G) (ci := 4) (v := .ref ka1) (C := RX4) (T := TX4) (N := 3) hx hb hts hi_4 hown hK hP 0 rfl rfl 0 (by decide) (hts (.fieldLink RX4 9 "HubTrains$Stock" "tiles" "[I") (List.mem_of_getElem? (i := 3) rfl)) (fun _ h9 => h9) rfl dX4_mix_38 ?_
        refine lv_iload_n hx hb dX4_mix_41 rfl (lv_at hl 3 rfl) ?_
        obtain ⟨r42, e_42, hm⟩ := bd1_s hm
        refine zcSNi (As := [.ref ka1, .int v3_9]) (rest := []) ⟨hx, hb, hml, hown, hts⟩ (k_X7_look l G K c ka1 55 (k_9.2 0) v3_9 r42 e_42) ⟨va_cnB 2 hts gX4_mix_X7_look_n31 rfl rfl rfl (nwm_HubTrains_Stock_31 hN.2.1) (hts (.initialized RX7) (List.mem_of_getElem? (i := 5) rfl)) hd_X7_look.2 ⟨Nat.le_of_ble_eq_true rfl, Nat.le_of_ble_eq_true rfl⟩, (hts (.static yX7_look) (List.mem_of_getElem? (i := 4) rfl)), trivial⟩ hK hN hZ hP hD hS hA [1] rfl (by decide) rfl rfl hl.1 rfl (Nat.le_of_ble_eq_true rfl) dX4_mix_42 ⟨Nat.zero_le _, Nat.zero_le _⟩ (fun H locs hP hD hS => ?_)
        have hP : va_P G vwCl (wK c ka0 ka1 k_9) H := hP
        have hD : va_D A (wK c ka0 ka1 k_9) := hD
        refine lv_istore (lv' := [(5, .int r42), (4, .int x4_35), (2, .int x2_22), (0, .ref ka0), (3, .int v3_9)]) hx hb dX4_mix_45 hl (by decide) rfl (fun ls hl => ?_)
        refine lv_aload_n hx hb dX4_mix_47 rfl (lv_at hl 3 rfl) ?_
        refine va_get (D := G) (ci := 4) (v := .ref ka1) (C := RX4) (T := TX4) (N := 3) hx hb hts hi_4 hown hK hP 0 rfl rfl 0 (by decide) (hts (.fieldLink RX4 9 "HubTrains$Stock" "tiles" "[I") (List.mem_of_getElem? (i := 3) rfl)) (fun _ h9 => h9) rfl dX4_mix_48 ?_
        refine lv_iload_n hx hb dX4_mix_51 rfl (lv_at hl 4 rfl) ?_
        refine lv_aload_n hx hb dX4_mix_52 rfl (lv_at hl 3 rfl) ?_
        refine va_get (D := G) (ci := 4) (v := .ref ka1) (C := RX4) (T := TX4) (N := 3) hx hb hts hi_4 hown hK hP 0 rfl rfl 0 (by decide) (hts (.fieldLink RX4 9 "HubTrains$Stock" "tiles" "[I") (List.mem_of_getElem? (i := 3) rfl)) (fun _ h9 => h9) rfl dX4_mix_53 ?_
        refine lv_iload hx hb dX4_mix_56 (lv_at hl 1 rfl) ?_
        obtain ⟨r58, e_58, hm⟩ := bd1_s hm
        refine zcSNi (As := [.ref ka1, .int x4_35]) (rest := [.int v3_9, .ref ka1]) ⟨hx, hb, hml, hown, hts⟩ (k_X7_look l G K c ka1 55 (k_9.2 0) x4_35 r58 e_58) ⟨va_cnB 2 hts gX4_mix_X7_look_n31 rfl rfl rfl (nwm_HubTrains_Stock_31 hN.2.1) (hts (.initialized RX7) (List.mem_of_getElem? (i := 5) rfl)) hd_X7_look.2 ⟨Nat.le_of_ble_eq_true rfl, Nat.le_of_ble_eq_true rfl⟩, (hts (.static yX7_look) (List.mem_of_getElem? (i := 4) rfl)), trivial⟩ hK hN hZ hP hD hS hA [1] rfl (by decide) rfl rfl hl.1 rfl (Nat.le_of_ble_eq_true rfl) dX4_mix_58 ⟨Nat.zero_le _, Nat.zero_le _⟩ (fun H locs hP hD hS => ?_)
        have hP : va_P G vwCl (wK c ka0 ka1 k_9) H := hP
        have hD : va_D A (wK c ka0 ka1 k_9) := hD
        obtain ⟨h061, e_61, hm⟩ := bd1_s hm
        refine zcSNv (As := [.ref ka1, .int v3_9, .int r58]) (rest := []) ⟨hx, hb, hml, hown, hts⟩ (k_X7_put l G K c ka1 55 (k_9.2 0) v3_9 r58 h061 e_61) ⟨va_cnB 3 hts gX4_mix_X7_put_n26 rfl rfl rfl (nwm_HubTrains_Stock_26 hN.2.1) (hts (.initialized RX7) (List.mem_of_getElem? (i := 5) rfl)) hd_X7_put.2 ⟨Nat.le_of_ble_eq_true rfl, Nat.le_of_ble_eq_true rfl⟩, (hts (.static yX7_put) (List.mem_of_getElem? (i := 7) rfl)), trivial⟩ hK hN hZ hP hD hS hA [1] rfl (by decide) rfl rfl hl.1 rfl (Nat.le_of_ble_eq_true rfl) dX4_mix_61 ⟨Nat.zero_le _, Nat.zero_le _⟩ (fun H locs hP hD hS => ?_)
        have hP : va_P G vwCl (wK c ka0 ka1 (sa k_9 0 h061)) H := hP
        have hD : va_D A (wK c ka0 ka1 (sa k_9 0 h061)) := hD
        refine lv_aload_n hx hb dX4_mix_64 rfl (lv_at hl 3 rfl) ?_
        refine va_get (D := G) (ci := 4) (v := .ref ka1) (C := RX4) (T := TX4) (N := 3) hx hb hts hi_4 hown hK hP 0 rfl rfl 0 (by decide) (hts (.fieldLink RX4 9 "HubTrains$Stock" "tiles" "[I") (List.mem_of_getElem? (i := 3) rfl)) (fun _ h9 => h9) rfl dX4_mix_65 ?_
        refine lv_iload hx hb dX4_mix_68 (lv_at hl 1 rfl) ?_
        refine lv_iload hx hb dX4_mix_70 (lv_at hl 0 rfl) ?_
        obtain ⟨h072, e_72, hm⟩ := bd1_s hm
        refine zcSNv (As := [.ref ka1, .int x4_35, .int r42]) (rest := []) ⟨hx, hb, hml, hown, hts⟩ (k_X7_put l G K c ka1 55 h061 x4_35 r42 h072 e_72) ⟨va_cnB 3 hts gX4_mix_X7_put_n26 rfl rfl rfl (nwm_HubTrains_Stock_26 hN.2.1) (hts (.initialized RX7) (List.mem_of_getElem? (i := 5) rfl)) hd_X7_put.2 ⟨Nat.le_of_ble_eq_true rfl, Nat.le_of_ble_eq_true rfl⟩, (hts (.static yX7_put) (List.mem_of_getElem? (i := 7) rfl)), trivial⟩ hK hN hZ hP hD hS hA [1] rfl (by decide) rfl rfl hl.1 rfl (Nat.le_of_ble_eq_true rfl) dX4_mix_72 ⟨Nat.zero_le _, Nat.zero_le _⟩ (fun H locs hP hD hS => ?_)
        have hP : va_P G vwCl (wK c ka0 ka1 (sa k_9 0 h072)) H := hP
        have hD : va_D A (wK c ka0 ka1 (sa k_9 0 h072)) := hD
        refine lv_iinc (k := 4) (v := (v3_9 + (-1))) (lv' := [(3, .int (v3_9 + (-1))), (5, .int r42), (4, .int x4_35), (2, .int x2_22), (0, .ref ka0)]) hx hb dX4_mix_75 hl rfl rfl (by decide) rfl (fun ls hl => ?_)
        refine lv_goto (tgt := 9) hx hb dX4_mix_78 (by decide) ?_
        exact ih_9 x2_22 (v3_9 + (-1)) (sa k_9 0 h072) H locs ls hP hD hS (lv_sub hl [4, 3, 0] rfl) hm
  exact L_9 FUEL p0 ((k.1 1) - 1) k H locs ls hP hD hS (lv_sub hl [2, 1, 0] rfl) hm


def f_X4_takeFirst (k : SA) : Option (Int32 × SA) :=
  if (k.1 0) < (k.1 1) then (bd1 (f_X7_look 55 (k.2 0) (k.1 0)) fun (r21 : Int32) => some (r21, (ss k 0 ((k.1 0) + 1)))) else (some ((-1), k))

abbrev rm_X4_takeFirst : Room := { frames := 1, cells := 0, slots := 0, locals := 21 }
theorem hd_X4_takeFirst : yX4_takeFirst.cls = RX4 ∧ yX4_takeFirst.cls ≠ "java/lang/invoke/MethodHandle" ∧ yX4_takeFirst.cls ≠ "java/lang/invoke/VarHandle" ∧ (parseMethodDescriptor yX4_takeFirst.desc).map (fun d => d.parameters.length) = some 0 := by decide +kernel
set_option maxHeartbeats 4000000 in
set_option maxRecDepth 100000 in
theorem k_X4_takeFirst (l : Launch) (G : va_G) (K : (Nat → Nat) × (Nat → Nat)) (c : Nat → ClassId) (ka0 : Nat) (ka1 : Nat) (k : SA) (r : Int32) (k_r : SA) (hm : f_X4_takeFirst k = some (r, k_r)) : zMi l yX4_takeFirst wsX4_takeFirst (rm_X4_takeFirst) G K (TY c) [.ref ka0] (wK c ka0 ka1 k) (wK c ka0 ka1 k_r) r := by
  refine zMi.of (cc := cX4_takeFirst) (maxL := 2) (lv := [(0, .ref ka0)]) (by decide) rfl (Nat.le_of_ble_eq_true rfl) rfl ?_
  intro p e s m args below meth c1 A Q H locs hx hb hml hown hts hK hN hZ hP hD hA hS hend ls hl
  have hown : s.vm.findClass RX4 = some m.cls := hown
  have hi_4 : ∀ w ∈ wsX40, w ∈ wsX4_takeFirst := (fun w h => List.mem_cons_of_mem _ (List.mem_append_right _ (h)))
  unfold f_X4_takeFirst at hm
  refine lv_aload_n hx hb dX4_takeFirst_0 rfl (lv_at hl 0 rfl) ?_
  refine va_get (D := G) (ci := 4) (v := .int (k.1 0)) (C := RX4) (T := TX4) (N := 3) hx hb hts hi_4 hown hK hP 0 rfl rfl 1 (by decide) (hts (.fieldLink RX4 19 "HubTrains$Stock" "first" "I") (List.mem_of_getElem? (i := 1) rfl)) (fun _ h9 => h9) rfl dX4_takeFirst_1 ?_
  refine lv_aload_n hx hb dX4_takeFirst_4 rfl (lv_at hl 0 rfl) ?_
  refine va_get (D := G) (ci := 4) (v := .int (k.1 1)) (C := RX4) (T := TX4) (N := 3) hx hb hts hi_4 hown hK hP 0 rfl rfl 2 (by decide) (hts (.fieldLink RX4 23 "HubTrains$Stock" "end" "I") (List.mem_of_getElem? (i := 2) rfl)) (fun _ h9 => h9) rfl dX4_takeFirst_5 ?_
  refine lv_icmp_lt (tgt := 13) hx hb dX4_takeFirst_8 (by decide) (fun c_8 => ?_) (fun c_8 => ?_)
  · have hm := ifp c_8 hm
    refine lv_aload_n hx hb dX4_takeFirst_13 rfl (lv_at hl 0 rfl) ?_
    refine va_get (D := G) (ci := 4) (v := .ref ka1) (C := RX4) (T := TX4) (N := 3) hx hb hts hi_4 hown hK hP 0 rfl rfl 0 (by decide) (hts (.fieldLink RX4 9 "HubTrains$Stock" "tiles" "[I") (List.mem_of_getElem? (i := 3) rfl)) (fun _ h9 => h9) rfl dX4_takeFirst_14 ?_
    refine lv_aload_n hx hb dX4_takeFirst_17 rfl (lv_at hl 0 rfl) ?_
    refine va_get (D := G) (ci := 4) (v := .int (k.1 0)) (C := RX4) (T := TX4) (N := 3) hx hb hts hi_4 hown hK hP 0 rfl rfl 1 (by decide) (hts (.fieldLink RX4 19 "HubTrains$Stock" "first" "I") (List.mem_of_getElem? (i := 1) rfl)) (fun _ h9 => h9) rfl dX4_takeFirst_18 ?_
    obtain ⟨r21, e_21, hm⟩ := bd1_s hm
    refine zcSNi (As := [.ref ka1, .int (k.1 0)]) (rest := []) ⟨hx, hb, hml, hown, hts⟩ (k_X7_look l G K c ka1 55 (k.2 0) (k.1 0) r21 e_21) ⟨va_cnB 2 hts gX4_takeFirst_X7_look_n31 rfl rfl rfl (nwm_HubTrains_Stock_31 hN.2.1) (hts (.initialized RX7) (List.mem_of_getElem? (i := 5) rfl)) hd_X7_look.2 ⟨Nat.le_of_ble_eq_true rfl, Nat.le_of_ble_eq_true rfl⟩, (hts (.static yX7_look) (List.mem_of_getElem? (i := 4) rfl)), trivial⟩ hK hN hZ hP hD hS hA [1] rfl (by decide) rfl rfl hl.1 rfl (Nat.le_of_ble_eq_true rfl) dX4_takeFirst_21 ⟨Nat.zero_le _, Nat.zero_le _⟩ (fun H locs hP hD hS => ?_)
    have hP : va_P G vwCl (wK c ka0 ka1 k) H := hP
    have hD : va_D A (wK c ka0 ka1 k) := hD
    refine lv_istore_n (lv' := [(1, .int r21), (0, .ref ka0)]) hx hb dX4_takeFirst_24 rfl hl (by decide) rfl (fun ls hl => ?_)
    refine lv_aload_n hx hb dX4_takeFirst_25 rfl (lv_at hl 1 rfl) ?_
    refine lv_dup hx hb dX4_takeFirst_26 rfl ?_
    refine va_get (D := G) (ci := 4) (v := .int (k.1 0)) (C := RX4) (T := TX4) (N := 3) hx hb hts hi_4 hown hK hP 0 rfl rfl 1 (by decide) (hts (.fieldLink RX4 19 "HubTrains$Stock" "first" "I") (List.mem_of_getElem? (i := 1) rfl)) (fun _ h9 => h9) rfl dX4_takeFirst_27 ?_
    refine lv_iconst (v := 1) hx hb dX4_takeFirst_30 (by decide) ?_
    refine lv_iadd hx hb dX4_takeFirst_31 ?_
    refine va_put (D := G) (ci := 4) (v := .int ((k.1 0) + 1)) (C := RX4) (T := TX4) (N := 3) hx hb hts hi_4 tyX4 tyX4_ok nmX4 hown hK hP hD hS 0 rfl rfl 1 (by decide) (hts (.fieldLink RX4 19 "HubTrains$Stock" "first" "I") (List.mem_of_getElem? (i := 1) rfl)) (fun _ h9 => h9) rfl (tyX4_ok 1 (by decide)) rfl rfl (Nat.le_of_ble_eq_true rfl) dX4_takeFirst_32 (fun H locs hP hD hS => ?_)
    have hP : va_P G vwCl (wK c ka0 ka1 (ss k 0 ((k.1 0) + 1))) H := hP
    have hD : va_D A (wK c ka0 ka1 (ss k 0 ((k.1 0) + 1))) := hD
    refine lv_iload_n hx hb dX4_takeFirst_35 rfl (lv_at hl 0 rfl) ?_
    exact hend H locs ls _ _ _ rfl (Prod.mk.inj (Option.some.inj hm)).1 (zc1 (fun (z0 : SA) => (wK c ka0 ka1 z0 : va_W)) (Prod.mk.inj (Option.some.inj hm)).2) hP hD hS dX4_takeFirst_36
  · have hm := ifn c_8 hm
    refine lv_iconst (v := (-1)) hx hb dX4_takeFirst_11 (by decide) ?_
    exact hend H locs ls _ _ _ rfl (Prod.mk.inj (Option.some.inj hm)).1 (zc1 (fun (z0 : SA) => (wK c ka0 ka1 z0 : va_W)) (Prod.mk.inj (Option.some.inj hm)).2) hP hD hS dX4_takeFirst_12


def f_X4_takeOver (k : SA) (ko : SA) : Option SA :=
  bd1 (f_X7_copy 55 55 (ko.2 0) (k.2 0)) fun (h18 : Nat → Int32) => some ((sa (ss (ss k 0 (ko.1 0)) 1 (ko.1 1)) 0 h18))

abbrev rm_X4_takeOver : Room := { frames := 2, cells := 0, slots := 0, locals := 61 }
theorem hd_X4_takeOver : yX4_takeOver.cls = RX4 ∧ yX4_takeOver.cls ≠ "java/lang/invoke/MethodHandle" ∧ yX4_takeOver.cls ≠ "java/lang/invoke/VarHandle" ∧ (parseMethodDescriptor yX4_takeOver.desc).map (fun d => d.parameters.length) = some 1 := by decide +kernel
set_option maxHeartbeats 4000000 in
set_option maxRecDepth 100000 in
theorem k_X4_takeOver (l : Launch) (G : va_G) (K : (Nat → Nat) × (Nat → Nat)) (c : Nat → ClassId) (ka0 : Nat) (ka1 : Nat) (koa0 : Nat) (koa1 : Nat) (k : SA) (ko : SA) (k_r : SA) (hm : f_X4_takeOver k ko = some (k_r)) : zMv l yX4_takeOver wsX4_takeOver (rm_X4_takeOver) G K (TY c) [.ref ka0, .ref koa0] ((wK c ka0 ka1 k) ++ (wK c koa0 koa1 ko)) ((wK c ka0 ka1 k_r) ++ (wK c koa0 koa1 ko)) := by
  refine zMv.of (cc := cX4_takeOver) (maxL := 2) (lv := [(0, .ref ka0), (1, .ref koa0)]) (by decide) rfl (Nat.le_of_ble_eq_true rfl) rfl ?_
  intro p e s m args below meth c1 A Q H locs hx hb hml hown hts hK hN hZ hP hD hA hS hend ls hl
  have hown : s.vm.findClass RX4 = some m.cls := hown
  have hi_4 : ∀ w ∈ wsX40, w ∈ wsX4_takeOver := (fun w h => List.mem_cons_of_mem _ (List.mem_append_right _ (h)))
  unfold f_X4_takeOver at hm
  refine lv_aload_n hx hb dX4_takeOver_0 rfl (lv_at hl 1 rfl) ?_
  refine va_get (D := G) (ci := 4) (v := .ref koa1) (C := RX4) (T := TX4) (N := 3) hx hb hts hi_4 hown hK hP 2 rfl rfl 0 (by decide) (hts (.fieldLink RX4 9 "HubTrains$Stock" "tiles" "[I") (List.mem_of_getElem? (i := 1) rfl)) (fun _ h9 => h9) rfl dX4_takeOver_1 ?_
  refine lv_aload_n hx hb dX4_takeOver_4 rfl (lv_at hl 0 rfl) ?_
  refine va_get (D := G) (ci := 4) (v := .ref ka1) (C := RX4) (T := TX4) (N := 3) hx hb hts hi_4 hown hK hP 0 rfl rfl 0 (by decide) (hts (.fieldLink RX4 9 "HubTrains$Stock" "tiles" "[I") (List.mem_of_getElem? (i := 1) rfl)) (fun _ h9 => h9) rfl dX4_takeOver_5 ?_
  obtain ⟨h18, e_8, hm⟩ := bd1_s hm
  refine zcSNv (As := [.ref koa1, .ref ka1]) (rest := []) ⟨hx, hb, hml, hown, hts⟩ (k_X7_copy l G K c koa1 ka1 55 55 (ko.2 0) (k.2 0) h18 e_8) ⟨va_cnB 2 hts gX4_takeOver_X7_copy_n15 rfl rfl rfl (nwm_HubTrains_Stock_15 hN.2.1) (hts (.initialized RX7) (List.mem_of_getElem? (i := 5) rfl)) hd_X7_copy.2 ⟨Nat.le_of_ble_eq_true rfl, Nat.le_of_ble_eq_true rfl⟩, (hts (.static yX7_copy) (List.mem_of_getElem? (i := 4) rfl)), trivial⟩ hK hN hZ hP hD hS hA [3, 1] rfl (by decide) rfl rfl hl.1 rfl (Nat.le_of_ble_eq_true rfl) dX4_takeOver_8 ⟨Nat.zero_le _, Nat.zero_le _⟩ (fun H locs hP hD hS => ?_)
  have hP : va_P G vwCl ((wK c ka0 ka1 (sa k 0 h18)) ++ (wK c koa0 koa1 ko)) H := hP
  have hD : va_D A ((wK c ka0 ka1 (sa k 0 h18)) ++ (wK c koa0 koa1 ko)) := hD
  refine lv_aload_n hx hb dX4_takeOver_11 rfl (lv_at hl 0 rfl) ?_
  refine lv_aload_n hx hb dX4_takeOver_12 rfl (lv_at hl 1 rfl) ?_
  refine va_get (D := G) (ci := 4) (v := .int (ko.1 0)) (C := RX4) (T := TX4) (N := 3) hx hb hts hi_4 hown hK hP 2 rfl rfl 1 (by decide) (hts (.fieldLink RX4 19 "HubTrains$Stock" "first" "I") (List.mem_of_getElem? (i := 2) rfl)) (fun _ h9 => h9) rfl dX4_takeOver_13 ?_
  refine va_put (D := G) (ci := 4) (v := .int (ko.1 0)) (C := RX4) (T := TX4) (N := 3) hx hb hts hi_4 tyX4 tyX4_ok nmX4 hown hK hP hD hS 0 rfl rfl 1 (by decide) (hts (.fieldLink RX4 19 "HubTrains$Stock" "first" "I") (List.mem_of_getElem? (i := 2) rfl)) (fun _ h9 => h9) rfl (tyX4_ok 1 (by decide)) rfl rfl (Nat.le_of_ble_eq_true rfl) dX4_takeOver_16 (fun H locs hP hD hS => ?_)
  have hP : va_P G vwCl ((wK c ka0 ka1 (sa (ss k 0 (ko.1 0)) 0 h18)) ++ (wK c koa0 koa1 ko)) H := hP
  have hD : va_D A ((wK c ka0 ka1 (sa (ss k 0 (ko.1 0)) 0 h18)) ++ (wK c koa0 koa1 ko)) := hD
  refine lv_aload_n hx hb dX4_takeOver_19 rfl (lv_at hl 0 rfl) ?_
  refine lv_aload_n hx hb dX4_takeOver_20 rfl (lv_at hl 1 rfl) ?_
  refine va_get (D := G) (ci := 4) (v := .int (ko.1 1)) (C := RX4) (T := TX4) (N := 3) hx hb hts hi_4 hown hK hP 2 rfl rfl 2 (by decide) (hts (.fieldLink RX4 23 "HubTrains$Stock" "end" "I") (List.mem_of_getElem? (i := 3) rfl)) (fun _ h9 => h9) rfl dX4_takeOver_21 ?_
  refine va_put (D := G) (ci := 4) (v := .int (ko.1 1)) (C := RX4) (T := TX4) (N := 3) hx hb hts hi_4 tyX4 tyX4_ok nmX4 hown hK hP hD hS 0 rfl rfl 2 (by decide) (hts (.fieldLink RX4 23 "HubTrains$Stock" "end" "I") (List.mem_of_getElem? (i := 3) rfl)) (fun _ h9 => h9) rfl (tyX4_ok 2 (by decide)) rfl rfl (Nat.le_of_ble_eq_true rfl) dX4_takeOver_24 (fun H locs hP hD hS => ?_)
  have hP : va_P G vwCl ((wK c ka0 ka1 (sa (ss (ss k 0 (ko.1 0)) 1 (ko.1 1)) 0 h18)) ++ (wK c koa0 koa1 ko)) H := hP
  have hD : va_D A ((wK c ka0 ka1 (sa (ss (ss k 0 (ko.1 0)) 1 (ko.1 1)) 0 h18)) ++ (wK c koa0 koa1 ko)) := hD
  exact hend H locs ls _ _ (zc1 (fun (z0 : SA) => ((wK c ka0 ka1 z0) ++ (wK c koa0 koa1 ko) : va_W)) (Option.some.inj hm)) hP hD hS dX4_takeOver_27


def f_X6_endOf (t : SA) (p0 : Int32) : Option Int32 :=
  bd1 (f_X7_look 5 (t.2 2) p0) fun (r5 : Int32) => some (r5)

abbrev rm_X6_endOf : Room := { frames := 1, cells := 0, slots := 0, locals := 21 }
theorem hd_X6_endOf : yX6_endOf.cls = RX6 ∧ yX6_endOf.cls ≠ "java/lang/invoke/MethodHandle" ∧ yX6_endOf.cls ≠ "java/lang/invoke/VarHandle" ∧ (parseMethodDescriptor yX6_endOf.desc).map (fun d => d.parameters.length) = some 1 := by decide +kernel
set_option maxHeartbeats 4000000 in
set_option maxRecDepth 100000 in
theorem k_X6_endOf (l : Launch) (G : va_G) (K : (Nat → Nat) × (Nat → Nat)) (c : Nat → ClassId) (ta0 : Nat) (ta1 : Nat) (ta2 : Nat) (ta3 : Nat) (ta4 : Nat) (t : SA) (p0 : Int32) (r : Int32) (hm : f_X6_endOf t p0 = some (r)) : zMi l yX6_endOf wsX6_endOf (rm_X6_endOf) G K (TY c) [.ref ta0, .int p0] (wT c ta0 ta1 ta2 ta3 ta4 t) (wT c ta0 ta1 ta2 ta3 ta4 t) r := by
  refine zMi.of (cc := cX6_endOf) (maxL := 2) (lv := [(0, .ref ta0), (1, .int p0)]) (by decide) rfl (Nat.le_of_ble_eq_true rfl) rfl ?_
  intro p e s m args below meth c1 A Q H locs hx hb hml hown hts hK hN hZ hP hD hA hS hend ls hl
  have hown : s.vm.findClass RX6 = some m.cls := hown
  have hi_6 : ∀ w ∈ wsX60, w ∈ wsX6_endOf := (fun w h => List.mem_cons_of_mem _ (List.mem_append_right _ (h)))
  unfold f_X6_endOf at hm
  refine lv_aload_n hx hb dX6_endOf_0 rfl (lv_at hl 0 rfl) ?_
  refine va_get (D := G) (ci := 6) (v := .ref ta3) (C := RX6) (T := TX6) (N := 5) hx hb hts hi_6 hown hK hP 0 rfl rfl 3 (by decide) (hts (.fieldLink RX6 18 "HubTrains$Tracks" "ends" "[I") (List.mem_of_getElem? (i := 1) rfl)) (fun _ h9 => h9) rfl dX6_endOf_1 ?_
  refine lv_iload_n hx hb dX6_endOf_4 rfl (lv_at hl 1 rfl) ?_
  obtain ⟨r5, e_5, hm⟩ := bd1_s hm
  refine zcSNi (As := [.ref ta3, .int p0]) (rest := []) ⟨hx, hb, hml, hown, hts⟩ (k_X7_look l G K c ta3 5 (t.2 2) p0 r5 e_5) ⟨va_cnB 2 hts gX6_endOf_X7_look_n49 rfl rfl rfl (nwm_HubTrains_Tracks_49 hN.2.1) (hts (.initialized RX7) (List.mem_of_getElem? (i := 3) rfl)) hd_X7_look.2 ⟨Nat.le_of_ble_eq_true rfl, Nat.le_of_ble_eq_true rfl⟩, (hts (.static yX7_look) (List.mem_of_getElem? (i := 2) rfl)), trivial⟩ hK hN hZ hP hD hS hA [3] rfl (by decide) rfl rfl hl.1 rfl (Nat.le_of_ble_eq_true rfl) dX6_endOf_5 ⟨Nat.zero_le _, Nat.zero_le _⟩ (fun H locs hP hD hS => ?_)
  have hP : va_P G vwCl (wT c ta0 ta1 ta2 ta3 ta4 t) H := hP
  have hD : va_D A (wT c ta0 ta1 ta2 ta3 ta4 t) := hD
  exact hend H locs ls _ _ _ rfl (Option.some.inj hm) rfl hP hD hS dX6_endOf_8


def f_X6_isOpen (t : SA) (p0 : Int32) : Option Int32 :=
  bd1 (f_X7_look 5 (t.2 3) p0) fun (r5 : Int32) => if r5 = 1 then (some (1)) else (some (0))

abbrev rm_X6_isOpen : Room := { frames := 1, cells := 0, slots := 0, locals := 21 }
theorem hd_X6_isOpen : yX6_isOpen.cls = RX6 ∧ yX6_isOpen.cls ≠ "java/lang/invoke/MethodHandle" ∧ yX6_isOpen.cls ≠ "java/lang/invoke/VarHandle" ∧ (parseMethodDescriptor yX6_isOpen.desc).map (fun d => d.parameters.length) = some 1 := by decide +kernel
set_option maxHeartbeats 4000000 in
set_option maxRecDepth 100000 in
theorem k_X6_isOpen (l : Launch) (G : va_G) (K : (Nat → Nat) × (Nat → Nat)) (c : Nat → ClassId) (ta0 : Nat) (ta1 : Nat) (ta2 : Nat) (ta3 : Nat) (ta4 : Nat) (t : SA) (p0 : Int32) (r : Int32) (hm : f_X6_isOpen t p0 = some (r)) : zMi l yX6_isOpen wsX6_isOpen (rm_X6_isOpen) G K (TY c) [.ref ta0, .int p0] (wT c ta0 ta1 ta2 ta3 ta4 t) (wT c ta0 ta1 ta2 ta3 ta4 t) r := by
  refine zMi.of (cc := cX6_isOpen) (maxL := 2) (lv := [(0, .ref ta0), (1, .int p0)]) (by decide) rfl (Nat.le_of_ble_eq_true rfl) rfl ?_
  intro p e s m args below meth c1 A Q H locs hx hb hml hown hts hK hN hZ hP hD hA hS hend ls hl
  have hown : s.vm.findClass RX6 = some m.cls := hown
  have hi_6 : ∀ w ∈ wsX60, w ∈ wsX6_isOpen := (fun w h => List.mem_cons_of_mem _ (List.mem_append_right _ (h)))
  unfold f_X6_isOpen at hm
  refine lv_aload_n hx hb dX6_isOpen_0 rfl (lv_at hl 0 rfl) ?_
  refine va_get (D := G) (ci := 6) (v := .ref ta4) (C := RX6) (T := TX6) (N := 5) hx hb hts hi_6 hown hK hP 0 rfl rfl 4 (by decide) (hts (.fieldLink RX6 21 "HubTrains$Tracks" "open" "[I") (List.mem_of_getElem? (i := 1) rfl)) (fun _ h9 => h9) rfl dX6_isOpen_1 ?_
  refine lv_iload_n hx hb dX6_isOpen_4 rfl (lv_at hl 1 rfl) ?_
  obtain ⟨r5, e_5, hm⟩ := bd1_s hm
  refine zcSNi (As := [.ref ta4, .int p0]) (rest := []) ⟨hx, hb, hml, hown, hts⟩ (k_X7_look l G K c ta4 5 (t.2 3) p0 r5 e_5) ⟨va_cnB 2 hts gX6_isOpen_X7_look_n49 rfl rfl rfl (nwm_HubTrains_Tracks_49 hN.2.1) (hts (.initialized RX7) (List.mem_of_getElem? (i := 3) rfl)) hd_X7_look.2 ⟨Nat.le_of_ble_eq_true rfl, Nat.le_of_ble_eq_true rfl⟩, (hts (.static yX7_look) (List.mem_of_getElem? (i := 2) rfl)), trivial⟩ hK hN hZ hP hD hS hA [4] rfl (by decide) rfl rfl hl.1 rfl (Nat.le_of_ble_eq_true rfl) dX6_isOpen_5 ⟨Nat.zero_le _, Nat.zero_le _⟩ (fun H locs hP hD hS => ?_)
  have hP : va_P G vwCl (wT c ta0 ta1 ta2 ta3 ta4 t) H := hP
  have hD : va_D A (wT c ta0 ta1 ta2 ta3 ta4 t) := hD
  refine lv_iconst (v := 1) hx hb dX6_isOpen_8 (by decide) ?_
  refine lv_icmp_ne (tgt := 16) hx hb dX6_isOpen_9 (by decide) (fun c_9 => ?_) (fun c_9 => ?_)
  · have hm := ifn c_9 hm
    refine lv_iconst (v := 0) hx hb dX6_isOpen_16 (by decide) ?_
    exact hend H locs ls _ _ _ (by decide) (Option.some.inj hm) rfl hP hD hS dX6_isOpen_17
  · have hm := ifp c_9 hm
    refine lv_iconst (v := 1) hx hb dX6_isOpen_12 (by decide) ?_
    refine lv_goto (tgt := 17) hx hb dX6_isOpen_13 (by decide) ?_
    exact hend H locs ls _ _ _ (by decide) (Option.some.inj hm) rfl hP hD hS dX6_isOpen_17

def f_X6_setOpen_J14 (t : SA) (p0 : Int32) (s0_14 : Int32) : Option SA :=
  bd1 (f_X7_put 5 (t.2 3) p0 s0_14) fun (h014 : Nat → Int32) => some ((sa t 3 h014))

def f_X6_setOpen (t : SA) (p0 : Int32) (p1 : Int32) : Option SA :=
  if p1 = 0 then (f_X6_setOpen_J14 t p0 0) else (f_X6_setOpen_J14 t p0 1)

abbrev rm_X6_setOpen : Room := { frames := 1, cells := 0, slots := 0, locals := 22 }
theorem hd_X6_setOpen : yX6_setOpen.cls = RX6 ∧ yX6_setOpen.cls ≠ "java/lang/invoke/MethodHandle" ∧ yX6_setOpen.cls ≠ "java/lang/invoke/VarHandle" ∧ (parseMethodDescriptor yX6_setOpen.desc).map (fun d => d.parameters.length) = some 2 := by decide +kernel
set_option maxHeartbeats 4000000 in
set_option maxRecDepth 100000 in
theorem k_X6_setOpen (l : Launch) (G : va_G) (K : (Nat → Nat) × (Nat → Nat)) (c : Nat → ClassId) (ta0 : Nat) (ta1 : Nat) (ta2 : Nat) (ta3 : Nat) (ta4 : Nat) (t : SA) (p0 : Int32) (p1 : Int32) (t_r : SA) (hm : f_X6_setOpen t p0 p1 = some (t_r)) : zMv l yX6_setOpen wsX6_setOpen (rm_X6_setOpen) G K (TY c) [.ref ta0, .int p0, .int p1] (wT c ta0 ta1 ta2 ta3 ta4 t) (wT c ta0 ta1 ta2 ta3 ta4 t_r) := by
  refine zMv.of (cc := cX6_setOpen) (maxL := 3) (lv := [(0, .ref ta0), (1, .int p0), (2, .int p1)]) (by decide) rfl (Nat.le_of_ble_eq_true rfl) rfl ?_
  intro p e s m args below meth c1 A Q H locs hx hb hml hown hts hK hN hZ hP hD hA hS hend ls hl
  have hown : s.vm.findClass RX6 = some m.cls := hown
  have hi_6 : ∀ w ∈ wsX60, w ∈ wsX6_setOpen := (fun w h => List.mem_cons_of_mem _ (List.mem_append_right _ (h)))
  unfold f_X6_setOpen at hm
  refine lv_aload_n hx hb dX6_setOpen_0 rfl (lv_at hl 0 rfl) ?_
  refine va_get (D := G) (ci := 6) (v := .ref ta4) (C := RX6) (T := TX6) (N := 5) hx hb hts hi_6 hown hK hP 0 rfl rfl 4 (by decide) (hts (.fieldLink RX6 21 "HubTrains$Tracks" "open" "[I") (List.mem_of_getElem? (i := 1) rfl)) (fun _ h9 => h9) rfl dX6_setOpen_1 ?_
  refine lv_iload_n hx hb dX6_setOpen_4 rfl (lv_at hl 1 rfl) ?_
  refine lv_iload_n hx hb dX6_setOpen_5 rfl (lv_at hl 2 rfl) ?_
  have J_14 : ∀ (s0_14 : Int32) (H : Heap) (locs : List Loc) (ls : Array Slot), va_P G vwCl (wT c ta0 ta1 ta2 ta3 ta4 t) H → va_D A (wT c ta0 ta1 ta2 ta3 ta4 t) → va_S A s.heap H locs → lv_has ls 3 [] → f_X6_setOpen_J14 t p0 s0_14 = some (t_r) → W p l e (rm_X6_setOpen) s m args below meth c1 H locs 0 0 Q (F0 m 14 ls [.int s0_14, .int p0, .ref ta4]) := by
    intro s0_14 H locs ls hP hD hS hl hm
    unfold f_X6_setOpen_J14 at hm
    obtain ⟨h014, e_14, hm⟩ := bd1_s hm
    refine zcSNv (As := [.ref ta4, .int p0, .int s0_14]) (rest := []) ⟨hx, hb, hml, hown, hts⟩ (k_X7_put l G K c ta4 5 (t.2 3) p0 s0_14 h014 e_14) ⟨va_cnB 3 hts gX6_setOpen_X7_put_n38 rfl rfl rfl (nwm_HubTrains_Tracks_38 hN.2.1) (hts (.initialized RX7) (List.mem_of_getElem? (i := 3) rfl)) hd_X7_put.2 ⟨Nat.le_of_ble_eq_true rfl, Nat.le_of_ble_eq_true rfl⟩, (hts (.static yX7_put) (List.mem_of_getElem? (i := 2) rfl)), trivial⟩ hK hN hZ hP hD hS hA [4] rfl (by decide) rfl rfl hl.1 rfl (Nat.le_of_ble_eq_true rfl) dX6_setOpen_14 ⟨Nat.zero_le _, Nat.zero_le _⟩ (fun H locs hP hD hS => ?_)
    have hP : va_P G vwCl (wT c ta0 ta1 ta2 ta3 ta4 (sa t 3 h014)) H := hP
    have hD : va_D A (wT c ta0 ta1 ta2 ta3 ta4 (sa t 3 h014)) := hD
    exact hend H locs ls _ _ (zc1 (fun (z0 : SA) => (wT c ta0 ta1 ta2 ta3 ta4 z0 : va_W)) (Option.some.inj hm)) hP hD hS dX6_setOpen_17
  refine lv_if_eq (tgt := 13) hx hb dX6_setOpen_6 (by decide) (fun c_6 => ?_) (fun c_6 => ?_)
  · have hm := ifp c_6 hm
    refine lv_iconst (v := 0) hx hb dX6_setOpen_13 (by decide) ?_
    exact J_14 0 H locs ls hP hD hS (lv_sub hl [] rfl) hm
  · have hm := ifn c_6 hm
    refine lv_iconst (v := 1) hx hb dX6_setOpen_9 (by decide) ?_
    refine lv_goto (tgt := 14) hx hb dX6_setOpen_10 (by decide) ?_
    exact J_14 1 H locs ls hP hD hS (lv_sub hl [] rfl) hm

def f_X6_countOf_B4 (t : SA) (p0 : Int32) (rec_4 : Int32 → Int32 → Option Int32) (v2_4 : Int32) (v3_4 : Int32) : Option Int32 :=
  if (t.1 0) ≤ v3_4 then (some (v2_4)) else (bd1 (f_X7_look 55 (t.2 1) v3_4) fun (r17 : Int32) => if r17 = p0 then (rec_4 (v2_4 + 1) (v3_4 + 1)) else (rec_4 v2_4 (v3_4 + 1)))

def f_X6_countOf (t : SA) (p0 : Int32) : Option Int32 :=
  itr2 (f_X6_countOf_B4 t p0) FUEL 0 0

abbrev rm_X6_countOf : Room := { frames := 1, cells := 0, slots := 0, locals := 21 }
theorem hd_X6_countOf : yX6_countOf.cls = RX6 ∧ yX6_countOf.cls ≠ "java/lang/invoke/MethodHandle" ∧ yX6_countOf.cls ≠ "java/lang/invoke/VarHandle" ∧ (parseMethodDescriptor yX6_countOf.desc).map (fun d => d.parameters.length) = some 1 := by decide +kernel
set_option maxHeartbeats 4000000 in
set_option maxRecDepth 100000 in
theorem k_X6_countOf (l : Launch) (G : va_G) (K : (Nat → Nat) × (Nat → Nat)) (c : Nat → ClassId) (ta0 : Nat) (ta1 : Nat) (ta2 : Nat) (ta3 : Nat) (ta4 : Nat) (t : SA) (p0 : Int32) (r : Int32) (hm : f_X6_countOf t p0 = some (r)) : zMi l yX6_countOf wsX6_countOf (rm_X6_countOf) G K (TY c) [.ref ta0, .int p0] (wT c ta0 ta1 ta2 ta3 ta4 t) (wT c ta0 ta1 ta2 ta3 ta4 t) r := by
  refine zMi.of (cc := cX6_countOf) (maxL := 4) (lv := [(0, .ref ta0), (1, .int p0)]) (by decide) rfl (Nat.le_of_ble_eq_true rfl) rfl ?_
  intro p e s m args below meth c1 A Q H locs hx hb hml hown hts hK hN hZ hP hD hA hS hend ls hl
  have hown : s.vm.findClass RX6 = some m.cls := hown
  have hi_6 : ∀ w ∈ wsX60, w ∈ wsX6_countOf := (fun w h => List.mem_cons_of_mem _ (List.mem_append_right _ (h)))
  unfold f_X6_countOf at hm
  refine lv_iconst (v := 0) hx hb dX6_countOf_0 (by decide) ?_
  refine lv_istore_n (lv' := [(2, .int 0), (0, .ref ta0), (1, .int p0)]) hx hb dX6_countOf_1 rfl hl (by decide) rfl (fun ls hl => ?_)
  refine lv_iconst (v := 0) hx hb dX6_countOf_2 (by decide) ?_
  refine lv_istore_n (lv' := [(3, .int 0), (2, .int 0), (0, .ref ta0), (1, .int p0)]) hx hb dX6_countOf_3 rfl hl (by decide) rfl (fun ls hl => ?_)
  have L_4 : ∀ (n_4 : Nat) (v2_4 : Int32) (v3_4 : Int32) (H : Heap) (locs : List Loc) (ls : Array Slot), va_P G vwCl (wT c ta0 ta1 ta2 ta3 ta4 t) H → va_D A (wT c ta0 ta1 ta2 ta3 ta4 t) → va_S A s.heap H locs → lv_has ls 4 [(0, .ref ta0), (1, .int p0), (2, .int v2_4), (3, .int v3_4)] → itr2 (f_X6_countOf_B4 t p0) n_4 v2_4 v3_4 = some (r) → W p l e (rm_X6_countOf) s m args below meth c1 H locs 0 0 Q (F0 m 4 ls []) := by
    intro n_4
    induction n_4 with
    | zero => intro v2_4 v3_4 H locs ls hP hD hS hl hm; exact (itr2_0 hm).elim
    | succ n_4 ih_4 =>
      intro v2_4 v3_4 H locs ls hP hD hS hl hm
      have hm := itr2_s hm
      unfold f_X6_countOf_B4 at hm
      refine lv_iload_n hx hb dX6_countOf_4 rfl (lv_at hl 3 rfl) ?_
      refine lv_aload_n hx hb dX6_countOf_5 rfl (lv_at hl 0 rfl) ?_
      refine va_get (D := G) (ci := 6) (v := .int (t.1 0)) (C := RX6) (T := TX6) (N := 5) hx hb hts hi_6 hown hK hP 0 rfl rfl 2 (by decide) (hts (.fieldLink RX6 28 "HubTrains$Tracks" "count" "I") (List.mem_of_getElem? (i := 1) rfl)) (fun _ h9 => h9) rfl dX6_countOf_6 ?_
      refine lv_icmp_ge (tgt := 33) hx hb dX6_countOf_9 (by decide) (fun c_9 => ?_) (fun c_9 => ?_)
      · have hm := ifp c_9 hm
        refine lv_iload_n hx hb dX6_countOf_33 rfl (lv_at hl 2 rfl) ?_
        exact hend H locs ls _ _ _ rfl (Option.some.inj hm) rfl hP hD hS dX6_countOf_34
      · have hm := ifn c_9 hm
        refine lv_aload_n hx hb dX6_countOf_12 rfl (lv_at hl 0 rfl) ?_
        refine va_get (D := G) (ci := 6) (v := .ref ta2) (C := RX6) (T := TX6) (N := 5) hx hb hts hi_6 hown hK hP 0 rfl rfl 1 (by decide) (hts (.fieldLink RX6 15 "HubTrains$Tracks" "trains" "[I") (List.mem_of_getElem? (i := 2) rfl)) (fun _ h9 => h9) rfl dX6_countOf_13 ?_
        refine lv_iload_n hx hb dX6_countOf_16 rfl (lv_at hl 3 rfl) ?_
        obtain ⟨r17, e_17, hm⟩ := bd1_s hm
        refine zcSNi (As := [.ref ta2, .int v3_4]) (rest := []) ⟨hx, hb, hml, hown, hts⟩ (k_X7_look l G K c ta2 55 (t.2 1) v3_4 r17 e_17) ⟨va_cnB 2 hts gX6_countOf_X7_look_n49 rfl rfl rfl (nwm_HubTrains_Tracks_49 hN.2.1) (hts (.initialized RX7) (List.mem_of_getElem? (i := 4) rfl)) hd_X7_look.2 ⟨Nat.le_of_ble_eq_true rfl, Nat.le_of_ble_eq_true rfl⟩, (hts (.static yX7_look) (List.mem_of_getElem? (i := 3) rfl)), trivial⟩ hK hN hZ hP hD hS hA [2] rfl (by decide) rfl rfl hl.1 rfl (Nat.le_of_ble_eq_true rfl) dX6_countOf_17 ⟨Nat.zero_le _, Nat.zero_le _⟩ (fun H locs hP hD hS => ?_)
        have hP : va_P G vwCl (wT c ta0 ta1 ta2 ta3 ta4 t) H := hP
        have hD : va_D A (wT c ta0 ta1 ta2 ta3 ta4 t) := hD
        refine lv_iload_n hx hb dX6_countOf_20 rfl (lv_at hl 1 rfl) ?_
        refine lv_icmp_ne (tgt := 27) hx hb dX6_countOf_21 (by decide) (fun c_21 => ?_) (fun c_21 => ?_)
        · have hm := ifn c_21 hm
          refine lv_iinc (k := 3) (v := (v3_4 + 1)) (lv' := [(3, .int (v3_4 + 1)), (0, .ref ta0), (1, .int p0), (2, .int v2_4)]) hx hb dX6_countOf_27 hl rfl rfl (by decide) rfl (fun ls hl => ?_)
          refine lv_goto (tgt := 4) hx hb dX6_countOf_30 (by decide) ?_
          exact ih_4 v2_4 (v3_4 + 1) H locs ls hP hD hS (lv_sub hl [1, 2, 3, 0] rfl) hm
        · have hm := ifp c_21 hm
          refine lv_iinc (k := 2) (v := (v2_4 + 1)) (lv' := [(2, .int (v2_4 + 1)), (0, .ref ta0), (1, .int p0), (3, .int v3_4)]) hx hb dX6_countOf_24 hl rfl rfl (by decide) rfl (fun ls hl => ?_)
          refine lv_iinc (k := 3) (v := (v3_4 + 1)) (lv' := [(3, .int (v3_4 + 1)), (2, .int (v2_4 + 1)), (0, .ref ta0), (1, .int p0)]) hx hb dX6_countOf_27 hl rfl rfl (by decide) rfl (fun ls hl => ?_)
          refine lv_goto (tgt := 4) hx hb dX6_countOf_30 (by decide) ?_
          exact ih_4 (v2_4 + 1) (v3_4 + 1) H locs ls hP hD hS (lv_sub hl [2, 3, 1, 0] rfl) hm
  exact L_4 FUEL 0 0 H locs ls hP hD hS (lv_sub hl [2, 3, 1, 0] rfl) hm

def f_X6_pipsOn_B4 (t : SA) (p0 : Int32) (rec_4 : Int32 → Int32 → Option Int32) (v2_4 : Int32) (v3_4 : Int32) : Option Int32 :=
  if (t.1 0) ≤ v3_4 then (some (v2_4)) else (bd1 (f_X7_look 55 (t.2 1) v3_4) fun (r17 : Int32) => if r17 = p0 then (bd1 (f_X7_look 55 (t.2 0) v3_4) fun (r30 : Int32) => bd1 (f_X7_pipsOf r30) fun (r33 : Int32) => rec_4 (v2_4 + r33) (v3_4 + 1)) else (rec_4 v2_4 (v3_4 + 1)))

def f_X6_pipsOn (t : SA) (p0 : Int32) : Option Int32 :=
  itr2 (f_X6_pipsOn_B4 t p0) FUEL 0 0

abbrev rm_X6_pipsOn : Room := { frames := 2, cells := 0, slots := 0, locals := 40 }
theorem hd_X6_pipsOn : yX6_pipsOn.cls = RX6 ∧ yX6_pipsOn.cls ≠ "java/lang/invoke/MethodHandle" ∧ yX6_pipsOn.cls ≠ "java/lang/invoke/VarHandle" ∧ (parseMethodDescriptor yX6_pipsOn.desc).map (fun d => d.parameters.length) = some 1 := by decide +kernel
set_option maxHeartbeats 4000000 in
set_option maxRecDepth 100000 in
theorem k_X6_pipsOn (l : Launch) (G : va_G) (K : (Nat → Nat) × (Nat → Nat)) (c : Nat → ClassId) (ta0 : Nat) (ta1 : Nat) (ta2 : Nat) (ta3 : Nat) (ta4 : Nat) (t : SA) (p0 : Int32) (r : Int32) (hm : f_X6_pipsOn t p0 = some (r)) : zMi l yX6_pipsOn wsX6_pipsOn (rm_X6_pipsOn) G K (TY c) [.ref ta0, .int p0] (wT c ta0 ta1 ta2 ta3 ta4 t) (wT c ta0 ta1 ta2 ta3 ta4 t) r := by
  refine zMi.of (cc := cX6_pipsOn) (maxL := 4) (lv := [(0, .ref ta0), (1, .int p0)]) (by decide) rfl (Nat.le_of_ble_eq_true rfl) rfl ?_
  intro p e s m args below meth c1 A Q H locs hx hb hml hown hts hK hN hZ hP hD hA hS hend ls hl
  have hown : s.vm.findClass RX6 = some m.cls := hown
  have hi_6 : ∀ w ∈ wsX60, w ∈ wsX6_pipsOn := (fun w h => List.mem_cons_of_mem _ (List.mem_append_right _ (h)))
  unfold f_X6_pipsOn at hm
  refine lv_iconst (v := 0) hx hb dX6_pipsOn_0 (by decide) ?_
  refine lv_istore_n (lv' := [(2, .int 0), (0, .ref ta0), (1, .int p0)]) hx hb dX6_pipsOn_1 rfl hl (by decide) rfl (fun ls hl => ?_)
  refine lv_iconst (v := 0) hx hb dX6_pipsOn_2 (by decide) ?_
  refine lv_istore_n (lv' := [(3, .int 0), (2, .int 0), (0, .ref ta0), (1, .int p0)]) hx hb dX6_pipsOn_3 rfl hl (by decide) rfl (fun ls hl => ?_)
  have L_4 : ∀ (n_4 : Nat) (v2_4 : Int32) (v3_4 : Int32) (H : Heap) (locs : List Loc) (ls : Array Slot), va_P G vwCl (wT c ta0 ta1 ta2 ta3 ta4 t) H → va_D A (wT c ta0 ta1 ta2 ta3 ta4 t) → va_S A s.heap H locs → lv_has ls 4 [(0, .ref ta0), (1, .int p0), (2, .int v2_4), (3, .int v3_4)] → itr2 (f_X6_pipsOn_B4 t p0) n_4 v2_4 v3_4 = some (r) → W p l e (rm_X6_pipsOn) s m args below meth c1 H locs 0 0 Q (F0 m 4 ls []) := by
    intro n_4
    induction n_4 with
    | zero => intro v2_4 v3_4 H locs ls hP hD hS hl hm; exact (itr2_0 hm).elim
    | succ n_4 ih_4 =>
      intro v2_4 v3_4 H locs ls hP hD hS hl hm
      have hm := itr2_s hm
      unfold f_X6_pipsOn_B4 at hm
      refine lv_iload_n hx hb dX6_pipsOn_4 rfl (lv_at hl 3 rfl) ?_
      refine lv_aload_n hx hb dX6_pipsOn_5 rfl (lv_at hl 0 rfl) ?_
      refine va_get (D := G) (ci := 6) (v := .int (t.1 0)) (C := RX6) (T := TX6) (N := 5) hx hb hts hi_6 hown hK hP 0 rfl rfl 2 (by decide) (hts (.fieldLink RX6 28 "HubTrains$Tracks" "count" "I") (List.mem_of_getElem? (i := 1) rfl)) (fun _ h9 => h9) rfl dX6_pipsOn_6 ?_
      refine lv_icmp_ge (tgt := 44) hx hb dX6_pipsOn_9 (by decide) (fun c_9 => ?_) (fun c_9 => ?_)
      · have hm := ifp c_9 hm
        refine lv_iload_n hx hb dX6_pipsOn_44 rfl (lv_at hl 2 rfl) ?_
        exact hend H locs ls _ _ _ rfl (Option.some.inj hm) rfl hP hD hS dX6_pipsOn_45
      · have hm := ifn c_9 hm
        refine lv_aload_n hx hb dX6_pipsOn_12 rfl (lv_at hl 0 rfl) ?_
        refine va_get (D := G) (ci := 6) (v := .ref ta2) (C := RX6) (T := TX6) (N := 5) hx hb hts hi_6 hown hK hP 0 rfl rfl 1 (by decide) (hts (.fieldLink RX6 15 "HubTrains$Tracks" "trains" "[I") (List.mem_of_getElem? (i := 2) rfl)) (fun _ h9 => h9) rfl dX6_pipsOn_13 ?_
        refine lv_iload_n hx hb dX6_pipsOn_16 rfl (lv_at hl 3 rfl) ?_
        obtain ⟨r17, e_17, hm⟩ := bd1_s hm
        refine zcSNi (As := [.ref ta2, .int v3_4]) (rest := []) ⟨hx, hb, hml, hown, hts⟩ (k_X7_look l G K c ta2 55 (t.2 1) v3_4 r17 e_17) ⟨va_cnB 2 hts gX6_pipsOn_X7_look_n49 rfl rfl rfl (nwm_HubTrains_Tracks_49 hN.2.1) (hts (.initialized RX7) (List.mem_of_getElem? (i := 5) rfl)) hd_X7_look.2 ⟨Nat.le_of_ble_eq_true rfl, Nat.le_of_ble_eq_true rfl⟩, (hts (.static yX7_look) (List.mem_of_getElem? (i := 4) rfl)), trivial⟩ hK hN hZ hP hD hS hA [2] rfl (by decide) rfl rfl hl.1 rfl (Nat.le_of_ble_eq_true rfl) dX6_pipsOn_17 ⟨Nat.zero_le _, Nat.zero_le _⟩ (fun H locs hP hD hS => ?_)
        have hP : va_P G vwCl (wT c ta0 ta1 ta2 ta3 ta4 t) H := hP
        have hD : va_D A (wT c ta0 ta1 ta2 ta3 ta4 t) := hD
        refine lv_iload_n hx hb dX6_pipsOn_20 rfl (lv_at hl 1 rfl) ?_
        refine lv_icmp_ne (tgt := 38) hx hb dX6_pipsOn_21 (by decide) (fun c_21 => ?_) (fun c_21 => ?_)
        · have hm := ifn c_21 hm
          refine lv_iinc (k := 3) (v := (v3_4 + 1)) (lv' := [(3, .int (v3_4 + 1)), (0, .ref ta0), (1, .int p0), (2, .int v2_4)]) hx hb dX6_pipsOn_38 hl rfl rfl (by decide) rfl (fun ls hl => ?_)
          refine lv_goto (tgt := 4) hx hb dX6_pipsOn_41 (by decide) ?_
          exact ih_4 v2_4 (v3_4 + 1) H locs ls hP hD hS (lv_sub hl [1, 2, 3, 0] rfl) hm
        · have hm := ifp c_21 hm
          refine lv_iload_n hx hb dX6_pipsOn_24 rfl (lv_at hl 2 rfl) ?_
          refine lv_aload_n hx hb dX6_pipsOn_25 rfl (lv_at hl 0 rfl) ?_
          refine va_get (D := G) (ci := 6) (v := .ref ta1) (C := RX6) (T := TX6) (N := 5) hx hb hts hi_6 hown hK hP 0 rfl rfl 0 (by decide) (hts (.fieldLink RX6 9 "HubTrains$Tracks" "tiles" "[I") (List.mem_of_getElem? (i := 3) rfl)) (fun _ h9 => h9) rfl dX6_pipsOn_26 ?_
          refine lv_iload_n hx hb dX6_pipsOn_29 rfl (lv_at hl 3 rfl) ?_
          obtain ⟨r30, e_30, hm⟩ := bd1_s hm
          refine zcSNi (As := [.ref ta1, .int v3_4]) (rest := [.int v2_4]) ⟨hx, hb, hml, hown, hts⟩ (k_X7_look l G K c ta1 55 (t.2 0) v3_4 r30 e_30) ⟨va_cnB 2 hts gX6_pipsOn_X7_look_n49 rfl rfl rfl (nwm_HubTrains_Tracks_49 hN.2.1) (hts (.initialized RX7) (List.mem_of_getElem? (i := 5) rfl)) hd_X7_look.2 ⟨Nat.le_of_ble_eq_true rfl, Nat.le_of_ble_eq_true rfl⟩, (hts (.static yX7_look) (List.mem_of_getElem? (i := 4) rfl)), trivial⟩ hK hN hZ hP hD hS hA [1] rfl (by decide) rfl rfl hl.1 rfl (Nat.le_of_ble_eq_true rfl) dX6_pipsOn_30 ⟨Nat.zero_le _, Nat.zero_le _⟩ (fun H locs hP hD hS => ?_)
          have hP : va_P G vwCl (wT c ta0 ta1 ta2 ta3 ta4 t) H := hP
          have hD : va_D A (wT c ta0 ta1 ta2 ta3 ta4 t) := hD
          obtain ⟨r33, e_33, hm⟩ := bd1_s hm
          refine zcSNi (As := [.int r30]) (rest := [.int v2_4]) ⟨hx, hb, hml, hown, hts⟩ (k_X7_pipsOf l G K c r30 r33 e_33) ⟨va_cnB 1 hts gX6_pipsOn_X7_pipsOf_n42 rfl rfl rfl (nwm_HubTrains_Tracks_42 hN.2.1) (hts (.initialized RX7) (List.mem_of_getElem? (i := 5) rfl)) hd_X7_pipsOf.2 ⟨Nat.le_of_ble_eq_true rfl, Nat.le_of_ble_eq_true rfl⟩, (hts (.static yX7_pipsOf) (List.mem_of_getElem? (i := 7) rfl)), trivial⟩ hK hN hZ hP hD hS hA [] rfl (by decide) rfl rfl hl.1 rfl (Nat.le_of_ble_eq_true rfl) dX6_pipsOn_33 ⟨Nat.zero_le _, Nat.zero_le _⟩ (fun H locs hP hD hS => ?_)
          have hP : va_P G vwCl (wT c ta0 ta1 ta2 ta3 ta4 t) H := hP
          have hD : va_D A (wT c ta0 ta1 ta2 ta3 ta4 t) := hD
          refine lv_iadd hx hb dX6_pipsOn_36 ?_
          refine lv_istore_n (lv' := [(2, .int (v2_4 + r33)), (0, .ref ta0), (1, .int p0), (3, .int v3_4)]) hx hb dX6_pipsOn_37 rfl hl (by decide) rfl (fun ls hl => ?_)
          refine lv_iinc (k := 3) (v := (v3_4 + 1)) (lv' := [(3, .int (v3_4 + 1)), (2, .int (v2_4 + r33)), (0, .ref ta0), (1, .int p0)]) hx hb dX6_pipsOn_38 hl rfl rfl (by decide) rfl (fun ls hl => ?_)
          refine lv_goto (tgt := 4) hx hb dX6_pipsOn_41 (by decide) ?_
          exact ih_4 (v2_4 + r33) (v3_4 + 1) H locs ls hP hD hS (lv_sub hl [2, 3, 1, 0] rfl) hm
  exact L_4 FUEL 0 0 H locs ls hP hD hS (lv_sub hl [2, 3, 1, 0] rfl) hm

def f_X6_tileAt_B5 (t : SA) (p0 : Int32) (p1 : Int32) (rec_5 : Int32 → Int32 → Option Int32) (v3_5 : Int32) (v4_5 : Int32) : Option Int32 :=
  if (t.1 0) ≤ v4_5 then (some ((-1))) else (bd1 (f_X7_look 55 (t.2 1) v4_5) fun (r20 : Int32) => if r20 = p0 then (if v3_5 = p1 then (bd1 (f_X7_look 55 (t.2 0) v4_5) fun (r38 : Int32) => some (r38)) else (rec_5 (v3_5 + 1) (v4_5 + 1))) else (rec_5 v3_5 (v4_5 + 1)))

def f_X6_tileAt (t : SA) (p0 : Int32) (p1 : Int32) : Option Int32 :=
  itr2 (f_X6_tileAt_B5 t p0 p1) FUEL 0 0

abbrev rm_X6_tileAt : Room := { frames := 1, cells := 0, slots := 0, locals := 21 }
theorem hd_X6_tileAt : yX6_tileAt.cls = RX6 ∧ yX6_tileAt.cls ≠ "java/lang/invoke/MethodHandle" ∧ yX6_tileAt.cls ≠ "java/lang/invoke/VarHandle" ∧ (parseMethodDescriptor yX6_tileAt.desc).map (fun d => d.parameters.length) = some 2 := by decide +kernel
set_option maxHeartbeats 4000000 in
set_option maxRecDepth 100000 in
theorem k_X6_tileAt (l : Launch) (G : va_G) (K : (Nat → Nat) × (Nat → Nat)) (c : Nat → ClassId) (ta0 : Nat) (ta1 : Nat) (ta2 : Nat) (ta3 : Nat) (ta4 : Nat) (t : SA) (p0 : Int32) (p1 : Int32) (r : Int32) (hm : f_X6_tileAt t p0 p1 = some (r)) : zMi l yX6_tileAt wsX6_tileAt (rm_X6_tileAt) G K (TY c) [.ref ta0, .int p0, .int p1] (wT c ta0 ta1 ta2 ta3 ta4 t) (wT c ta0 ta1 ta2 ta3 ta4 t) r := by
  refine zMi.of (cc := cX6_tileAt) (maxL := 5) (lv := [(0, .ref ta0), (1, .int p0), (2, .int p1)]) (by decide) rfl (Nat.le_of_ble_eq_true rfl) rfl ?_
  intro p e s m args below meth c1 A Q H locs hx hb hml hown hts hK hN hZ hP hD hA hS hend ls hl
  have hown : s.vm.findClass RX6 = some m.cls := hown
  have hi_6 : ∀ w ∈ wsX60, w ∈ wsX6_tileAt := (fun w h => List.mem_cons_of_mem _ (List.mem_append_right _ (h)))
  unfold f_X6_tileAt at hm
  refine lv_iconst (v := 0) hx hb dX6_tileAt_0 (by decide) ?_
  refine lv_istore_n (lv' := [(3, .int 0), (0, .ref ta0), (1, .int p0), (2, .int p1)]) hx hb dX6_tileAt_1 rfl hl (by decide) rfl (fun ls hl => ?_)
  refine lv_iconst (v := 0) hx hb dX6_tileAt_2 (by decide) ?_
  refine lv_istore (lv' := [(4, .int 0), (3, .int 0), (0, .ref ta0), (1, .int p0), (2, .int p1)]) hx hb dX6_tileAt_3 hl (by decide) rfl (fun ls hl => ?_)
  have L_5 : ∀ (n_5 : Nat) (v3_5 : Int32) (v4_5 : Int32) (H : Heap) (locs : List Loc) (ls : Array Slot), va_P G vwCl (wT c ta0 ta1 ta2 ta3 ta4 t) H → va_D A (wT c ta0 ta1 ta2 ta3 ta4 t) → va_S A s.heap H locs → lv_has ls 5 [(0, .ref ta0), (1, .int p0), (2, .int p1), (3, .int v3_5), (4, .int v4_5)] → itr2 (f_X6_tileAt_B5 t p0 p1) n_5 v3_5 v4_5 = some (r) → W p l e (rm_X6_tileAt) s m args below meth c1 H locs 0 0 Q (F0 m 5 ls []) := by
    intro n_5
    induction n_5 with
    | zero => intro v3_5 v4_5 H locs ls hP hD hS hl hm; exact (itr2_0 hm).elim
    | succ n_5 ih_5 =>
      intro v3_5 v4_5 H locs ls hP hD hS hl hm
      have hm := itr2_s hm
      unfold f_X6_tileAt_B5 at hm
      refine lv_iload hx hb dX6_tileAt_5 (lv_at hl 4 rfl) ?_
      refine lv_aload_n hx hb dX6_tileAt_7 rfl (lv_at hl 0 rfl) ?_
      refine va_get (D := G) (ci := 6) (v := .int (t.1 0)) (C := RX6) (T := TX6) (N := 5) hx hb hts hi_6 hown hK hP 0 rfl rfl 2 (by decide) (hts (.fieldLink RX6 28 "HubTrains$Tracks" "count" "I") (List.mem_of_getElem? (i := 1) rfl)) (fun _ h9 => h9) rfl dX6_tileAt_8 ?_
      refine lv_icmp_ge (tgt := 51) hx hb dX6_tileAt_11 (by decide) (fun c_11 => ?_) (fun c_11 => ?_)
      · have hm := ifp c_11 hm
        refine lv_iconst (v := (-1)) hx hb dX6_tileAt_51 (by decide) ?_
        exact hend H locs ls _ _ _ rfl (Option.some.inj hm) rfl hP hD hS dX6_tileAt_52
      · have hm := ifn c_11 hm
        refine lv_aload_n hx hb dX6_tileAt_14 rfl (lv_at hl 0 rfl) ?_
        refine va_get (D := G) (ci := 6) (v := .ref ta2) (C := RX6) (T := TX6) (N := 5) hx hb hts hi_6 hown hK hP 0 rfl rfl 1 (by decide) (hts (.fieldLink RX6 15 "HubTrains$Tracks" "trains" "[I") (List.mem_of_getElem? (i := 2) rfl)) (fun _ h9 => h9) rfl dX6_tileAt_15 ?_
        refine lv_iload hx hb dX6_tileAt_18 (lv_at hl 4 rfl) ?_
        obtain ⟨r20, e_20, hm⟩ := bd1_s hm
        refine zcSNi (As := [.ref ta2, .int v4_5]) (rest := []) ⟨hx, hb, hml, hown, hts⟩ (k_X7_look l G K c ta2 55 (t.2 1) v4_5 r20 e_20) ⟨va_cnB 2 hts gX6_tileAt_X7_look_n49 rfl rfl rfl (nwm_HubTrains_Tracks_49 hN.2.1) (hts (.initialized RX7) (List.mem_of_getElem? (i := 5) rfl)) hd_X7_look.2 ⟨Nat.le_of_ble_eq_true rfl, Nat.le_of_ble_eq_true rfl⟩, (hts (.static yX7_look) (List.mem_of_getElem? (i := 4) rfl)), trivial⟩ hK hN hZ hP hD hS hA [2] rfl (by decide) rfl rfl hl.1 rfl (Nat.le_of_ble_eq_true rfl) dX6_tileAt_20 ⟨Nat.zero_le _, Nat.zero_le _⟩ (fun H locs hP hD hS => ?_)
        have hP : va_P G vwCl (wT c ta0 ta1 ta2 ta3 ta4 t) H := hP
        have hD : va_D A (wT c ta0 ta1 ta2 ta3 ta4 t) := hD
        refine lv_iload_n hx hb dX6_tileAt_23 rfl (lv_at hl 1 rfl) ?_
        refine lv_icmp_ne (tgt := 45) hx hb dX6_tileAt_24 (by decide) (fun c_24 => ?_) (fun c_24 => ?_)
        · have hm := ifn c_24 hm
          refine lv_iinc (k := 4) (v := (v4_5 + 1)) (lv' := [(4, .int (v4_5 + 1)), (0, .ref ta0), (1, .int p0), (2, .int p1), (3, .int v3_5)]) hx hb dX6_tileAt_45 hl rfl rfl (by decide) rfl (fun ls hl => ?_)
          refine lv_goto (tgt := 5) hx hb dX6_tileAt_48 (by decide) ?_
          exact ih_5 v3_5 (v4_5 + 1) H locs ls hP hD hS (lv_sub hl [1, 2, 3, 4, 0] rfl) hm
        · have hm := ifp c_24 hm
          refine lv_iload_n hx hb dX6_tileAt_27 rfl (lv_at hl 3 rfl) ?_
          refine lv_iload_n hx hb dX6_tileAt_28 rfl (lv_at hl 2 rfl) ?_
          refine lv_icmp_ne (tgt := 42) hx hb dX6_tileAt_29 (by decide) (fun c_29 => ?_) (fun c_29 => ?_)
          · have hm := ifn c_29 hm
            refine lv_iinc (k := 3) (v := (v3_5 + 1)) (lv' := [(3, .int (v3_5 + 1)), (0, .ref ta0), (1, .int p0), (2, .int p1), (4, .int v4_5)]) hx hb dX6_tileAt_42 hl rfl rfl (by decide) rfl (fun ls hl => ?_)
            refine lv_iinc (k := 4) (v := (v4_5 + 1)) (lv' := [(4, .int (v4_5 + 1)), (3, .int (v3_5 + 1)), (0, .ref ta0), (1, .int p0), (2, .int p1)]) hx hb dX6_tileAt_45 hl rfl rfl (by decide) rfl (fun ls hl => ?_)
            refine lv_goto (tgt := 5) hx hb dX6_tileAt_48 (by decide) ?_
            exact ih_5 (v3_5 + 1) (v4_5 + 1) H locs ls hP hD hS (lv_sub hl [2, 3, 4, 1, 0] rfl) hm
          · have hm := ifp c_29 hm
            refine lv_aload_n hx hb dX6_tileAt_32 rfl (lv_at hl 0 rfl) ?_
            refine va_get (D := G) (ci := 6) (v := .ref ta1) (C := RX6) (T := TX6) (N := 5) hx hb hts hi_6 hown hK hP 0 rfl rfl 0 (by decide) (hts (.fieldLink RX6 9 "HubTrains$Tracks" "tiles" "[I") (List.mem_of_getElem? (i := 3) rfl)) (fun _ h9 => h9) rfl dX6_tileAt_33 ?_
            refine lv_iload hx hb dX6_tileAt_36 (lv_at hl 4 rfl) ?_
            obtain ⟨r38, e_38, hm⟩ := bd1_s hm
            refine zcSNi (As := [.ref ta1, .int v4_5]) (rest := []) ⟨hx, hb, hml, hown, hts⟩ (k_X7_look l G K c ta1 55 (t.2 0) v4_5 r38 e_38) ⟨va_cnB 2 hts gX6_tileAt_X7_look_n49 rfl rfl rfl (nwm_HubTrains_Tracks_49 hN.2.1) (hts (.initialized RX7) (List.mem_of_getElem? (i := 5) rfl)) hd_X7_look.2 ⟨Nat.le_of_ble_eq_true rfl, Nat.le_of_ble_eq_true rfl⟩, (hts (.static yX7_look) (List.mem_of_getElem? (i := 4) rfl)), trivial⟩ hK hN hZ hP hD hS hA [1] rfl (by decide) rfl rfl hl.1 rfl (Nat.le_of_ble_eq_true rfl) dX6_tileAt_38 ⟨Nat.zero_le _, Nat.zero_le _⟩ (fun H locs hP hD hS => ?_)
            have hP : va_P G vwCl (wT c ta0 ta1 ta2 ta3 ta4 t) H := hP
            have hD : va_D A (wT c ta0 ta1 ta2 ta3 ta4 t) := hD
            exact hend H locs ls _ _ _ rfl (Option.some.inj hm) rfl hP hD hS dX6_tileAt_41
  exact L_5 FUEL 0 0 H locs ls hP hD hS (lv_sub hl [2, 3, 4, 1, 0] rfl) hm


def f_X6_lay (t : SA) (p0 : Int32) (p1 : Int32) : Option SA :=
  if (55 : Int32) ≤ (t.1 0) then (some (t)) else (bd1 (f_X7_put 55 (t.2 0) (t.1 0) p0) fun (h021 : Nat → Int32) => bd1 (f_X7_put 55 (t.2 1) (t.1 0) p1) fun (h033 : Nat → Int32) => bd1 (f_X7_pipsOf p0) fun (r52 : Int32) => bd1 (f_X6_endOf (sa (sa (ss t 0 ((t.1 0) + 1)) 0 h021) 1 h033) p1) fun (r57 : Int32) => bd1 (f_X7_put 5 (t.2 2) p1 (r52 - r57)) fun (h061 : Nat → Int32) => some ((sa (sa (sa (ss t 0 ((t.1 0) + 1)) 0 h021) 1 h033) 2 h061)))

abbrev rm_X6_lay : Room := { frames := 2, cells := 0, slots := 0, locals := 42 }
theorem hd_X6_lay : yX6_lay.cls = RX6 ∧ yX6_lay.cls ≠ "java/lang/invoke/MethodHandle" ∧ yX6_lay.cls ≠ "java/lang/invoke/VarHandle" ∧ (parseMethodDescriptor yX6_lay.desc).map (fun d => d.parameters.length) = some 2 := by decide +kernel
set_option maxHeartbeats 4000000 in
set_option maxRecDepth 100000 in
theorem k_X6_lay (l : Launch) (G : va_G) (K : (Nat → Nat) × (Nat → Nat)) (c : Nat → ClassId) (ta0 : Nat) (ta1 : Nat) (ta2 : Nat) (ta3 : Nat) (ta4 : Nat) (t : SA) (p0 : Int32) (p1 : Int32) (t_r : SA) (hm : f_X6_lay t p0 p1 = some (t_r)) : zMv l yX6_lay wsX6_lay (rm_X6_lay) G K (TY c) [.ref ta0, .int p0, .int p1] (wT c ta0 ta1 ta2 ta3 ta4 t) (wT c ta0 ta1 ta2 ta3 ta4 t_r) := by
  refine zMv.of (cc := cX6_lay) (maxL := 3) (lv := [(0, .ref ta0), (1, .int p0), (2, .int p1)]) (by decide) rfl (Nat.le_of_ble_eq_true rfl) rfl ?_
  intro p e s m args below meth c1 A Q H locs hx hb hml hown hts hK hN hZ hP hD hA hS hend ls hl
  have hown : s.vm.findClass RX6 = some m.cls := hown
  have hi_6 : ∀ w ∈ wsX60, w ∈ wsX6_lay := (fun w h => List.mem_cons_of_mem _ (List.mem_append_right _ (h)))
  unfold f_X6_lay at hm
  refine lv_aload_n hx hb dX6_lay_0 rfl (lv_at hl 0 rfl) ?_
  refine va_get (D := G) (ci := 6) (v := .int (t.1 0)) (C := RX6) (T := TX6) (N := 5) hx hb hts hi_6 hown hK hP 0 rfl rfl 2 (by decide) (hts (.fieldLink RX6 28 "HubTrains$Tracks" "count" "I") (List.mem_of_getElem? (i := 1) rfl)) (fun _ h9 => h9) rfl dX6_lay_1 ?_
  refine lv_aload_n hx hb dX6_lay_4 rfl (lv_at hl 0 rfl) ?_
  refine va_get (D := G) (ci := 6) (v := .ref ta1) (C := RX6) (T := TX6) (N := 5) hx hb hts hi_6 hown hK hP 0 rfl rfl 0 (by decide) (hts (.fieldLink RX6 9 "HubTrains$Tracks" "tiles" "[I") (List.mem_of_getElem? (i := 2) rfl)) (fun _ h9 => h9) rfl dX6_lay_5 ?_
  refine va_alen (D := G) (v := 55) hx hb hK hP 1 0 rfl rfl rfl dX6_lay_8 ?_
  refine lv_icmp_ge (tgt := 64) hx hb dX6_lay_9 (by decide) (fun c_9 => ?_) (fun c_9 => ?_)
  · have hm := ifp c_9 hm
    exact hend H locs ls _ _ (zc1 (fun (z0 : SA) => (wT c ta0 ta1 ta2 ta3 ta4 z0 : va_W)) (Option.some.inj hm)) hP hD hS dX6_lay_64
  · have hm := ifn c_9 hm
    refine lv_aload_n hx hb dX6_lay_12 rfl (lv_at hl 0 rfl) ?_
    refine va_get (D := G) (ci := 6) (v := .ref ta1) (C := RX6) (T := TX6) (N := 5) hx hb hts hi_6 hown hK hP 0 rfl rfl 0 (by decide) (hts (.fieldLink RX6 9 "HubTrains$Tracks" "tiles" "[I") (List.mem_of_getElem? (i := 2) rfl)) (fun _ h9 => h9) rfl dX6_lay_13 ?_
    refine lv_aload_n hx hb dX6_lay_16 rfl (lv_at hl 0 rfl) ?_
    refine va_get (D := G) (ci := 6) (v := .int (t.1 0)) (C := RX6) (T := TX6) (N := 5) hx hb hts hi_6 hown hK hP 0 rfl rfl 2 (by decide) (hts (.fieldLink RX6 28 "HubTrains$Tracks" "count" "I") (List.mem_of_getElem? (i := 1) rfl)) (fun _ h9 => h9) rfl dX6_lay_17 ?_
    refine lv_iload_n hx hb dX6_lay_20 rfl (lv_at hl 1 rfl) ?_
    obtain ⟨h021, e_21, hm⟩ := bd1_s hm
    refine zcSNv (As := [.ref ta1, .int (t.1 0), .int p0]) (rest := []) ⟨hx, hb, hml, hown, hts⟩ (k_X7_put l G K c ta1 55 (t.2 0) (t.1 0) p0 h021 e_21) ⟨va_cnB 3 hts gX6_lay_X7_put_n38 rfl rfl rfl (nwm_HubTrains_Tracks_38 hN.2.1) (hts (.initialized RX7) (List.mem_of_getElem? (i := 6) rfl)) hd_X7_put.2 ⟨Nat.le_of_ble_eq_true rfl, Nat.le_of_ble_eq_true rfl⟩, (hts (.static yX7_put) (List.mem_of_getElem? (i := 5) rfl)), trivial⟩ hK hN hZ hP hD hS hA [1] rfl (by decide) rfl rfl hl.1 rfl (Nat.le_of_ble_eq_true rfl) dX6_lay_21 ⟨Nat.zero_le _, Nat.zero_le _⟩ (fun H locs hP hD hS => ?_)
    have hP : va_P G vwCl (wT c ta0 ta1 ta2 ta3 ta4 (sa t 0 h021)) H := hP
    have hD : va_D A (wT c ta0 ta1 ta2 ta3 ta4 (sa t 0 h021)) := hD
    refine lv_aload_n hx hb dX6_lay_24 rfl (lv_at hl 0 rfl) ?_
    refine va_get (D := G) (ci := 6) (v := .ref ta2) (C := RX6) (T := TX6) (N := 5) hx hb hts hi_6 hown hK hP 0 rfl rfl 1 (by decide) (hts (.fieldLink RX6 15 "HubTrains$Tracks" "trains" "[I") (List.mem_of_getElem? (i := 3) rfl)) (fun _ h9 => h9) rfl dX6_lay_25 ?_
    refine lv_aload_n hx hb dX6_lay_28 rfl (lv_at hl 0 rfl) ?_
    refine va_get (D := G) (ci := 6) (v := .int (t.1 0)) (C := RX6) (T := TX6) (N := 5) hx hb hts hi_6 hown hK hP 0 rfl rfl 2 (by decide) (hts (.fieldLink RX6 28 "HubTrains$Tracks" "count" "I") (List.mem_of_getElem? (i := 1) rfl)) (fun _ h9 => h9) rfl dX6_lay_29 ?_
    refine lv_iload_n hx hb dX6_lay_32 rfl (lv_at hl 2 rfl) ?_
    obtain ⟨h033, e_33, hm⟩ := bd1_s hm
    refine zcSNv (As := [.ref ta2, .int (t.1 0), .int p1]) (rest := []) ⟨hx, hb, hml, hown, hts⟩ (k_X7_put l G K c ta2 55 (t.2 1) (t.1 0) p1 h033 e_33) ⟨va_cnB 3 hts gX6_lay_X7_put_n38 rfl rfl rfl (nwm_HubTrains_Tracks_38 hN.2.1) (hts (.initialized RX7) (List.mem_of_getElem? (i := 6) rfl)) hd_X7_put.2 ⟨Nat.le_of_ble_eq_true rfl, Nat.le_of_ble_eq_true rfl⟩, (hts (.static yX7_put) (List.mem_of_getElem? (i := 5) rfl)), trivial⟩ hK hN hZ hP hD hS hA [2] rfl (by decide) rfl rfl hl.1 rfl (Nat.le_of_ble_eq_true rfl) dX6_lay_33 ⟨Nat.zero_le _, Nat.zero_le _⟩ (fun H locs hP hD hS => ?_)
    have hP : va_P G vwCl (wT c ta0 ta1 ta2 ta3 ta4 (sa (sa t 0 h021) 1 h033)) H := hP
    have hD : va_D A (wT c ta0 ta1 ta2 ta3 ta4 (sa (sa t 0 h021) 1 h033)) := hD
    refine lv_aload_n hx hb dX6_lay_36 rfl (lv_at hl 0 rfl) ?_
    refine lv_dup hx hb dX6_lay_37 rfl ?_
    refine va_get (D := G) (ci := 6) (v := .int (t.1 0)) (C := RX6) (T := TX6) (N := 5) hx hb hts hi_6 hown hK hP 0 rfl rfl 2 (by decide) (hts (.fieldLink RX6 28 "HubTrains$Tracks" "count" "I") (List.mem_of_getElem? (i := 1) rfl)) (fun _ h9 => h9) rfl dX6_lay_38 ?_
    refine lv_iconst (v := 1) hx hb dX6_lay_41 (by decide) ?_
    refine lv_iadd hx hb dX6_lay_42 ?_
    refine va_put (D := G) (ci := 6) (v := .int ((t.1 0) + 1)) (C := RX6) (T := TX6) (N := 5) hx hb hts hi_6 tyX6 tyX6_ok nmX6 hown hK hP hD hS 0 rfl rfl 2 (by decide) (hts (.fieldLink RX6 28 "HubTrains$Tracks" "count" "I") (List.mem_of_getElem? (i := 1) rfl)) (fun _ h9 => h9) rfl (tyX6_ok 2 (by decide)) rfl rfl (Nat.le_of_ble_eq_true rfl) dX6_lay_43 (fun H locs hP hD hS => ?_)
    have hP : va_P G vwCl (wT c ta0 ta1 ta2 ta3 ta4 (sa (sa (ss t 0 ((t.1 0) + 1)) 0 h021) 1 h033)) H := hP
    have hD : va_D A (wT c ta0 ta1 ta2 ta3 ta4 (sa (sa (ss t 0 ((t.1 0) + 1)) 0 h021) 1 h033)) := hD
    refine lv_aload_n hx hb dX6_lay_46 rfl (lv_at hl 0 rfl) ?_
    refine va_get (D := G) (ci := 6) (v := .ref ta3) (C := RX6) (T := TX6) (N := 5) hx hb hts hi_6 hown hK hP 0 rfl rfl 3 (by decide) (hts (.fieldLink RX6 18 "HubTrains$Tracks" "ends" "[I") (List.mem_of_getElem? (i := 4) rfl)) (fun _ h9 => h9) rfl dX6_lay_47 ?_
    refine lv_iload_n hx hb dX6_lay_50 rfl (lv_at hl 2 rfl) ?_
    refine lv_iload_n hx hb dX6_lay_51 rfl (lv_at hl 1 rfl) ?_
    obtain ⟨r52, e_52, hm⟩ := bd1_s hm
    refine zcSNi (As := [.int p0]) (rest := [.int p1, .ref ta3]) ⟨hx, hb, hml, hown, hts⟩ (k_X7_pipsOf l G K c p0 r52 e_52) ⟨va_cnB 1 hts gX6_lay_X7_pipsOf_n42 rfl rfl rfl (nwm_HubTrains_Tracks_42 hN.2.1) (hts (.initialized RX7) (List.mem_of_getElem? (i := 6) rfl)) hd_X7_pipsOf.2 ⟨Nat.le_of_ble_eq_true rfl, Nat.le_of_ble_eq_true rfl⟩, (hts (.static yX7_pipsOf) (List.mem_of_getElem? (i := 8) rfl)), trivial⟩ hK hN hZ hP hD hS hA [] rfl (by decide) rfl rfl hl.1 rfl (Nat.le_of_ble_eq_true rfl) dX6_lay_52 ⟨Nat.zero_le _, Nat.zero_le _⟩ (fun H locs hP hD hS => ?_)
    have hP : va_P G vwCl (wT c ta0 ta1 ta2 ta3 ta4 (sa (sa (ss t 0 ((t.1 0) + 1)) 0 h021) 1 h033)) H := hP
    have hD : va_D A (wT c ta0 ta1 ta2 ta3 ta4 (sa (sa (ss t 0 ((t.1 0) + 1)) 0 h021) 1 h033)) := hD
    refine lv_aload_n hx hb dX6_lay_55 rfl (lv_at hl 0 rfl) ?_
    refine lv_iload_n hx hb dX6_lay_56 rfl (lv_at hl 2 rfl) ?_
    obtain ⟨r57, e_57, hm⟩ := bd1_s hm
    refine zcVi (As := [.int p1]) (rest := [.int r52, .int p1, .ref ta3]) ⟨hx, hb, hml, hown, hts⟩ (k_X6_endOf l G K c ta0 ta1 ta2 ta3 ta4 (sa (sa (ss t 0 ((t.1 0) + 1)) 0 h021) 1 h033) p1 r57 e_57) (cwV 1 hts gX6_lay_X6_endOf rfl rfl rfl hd_X6_endOf ⟨Nat.le_of_ble_eq_true rfl, Nat.le_of_ble_eq_true rfl⟩) hK hN hZ hP hD hS hA (va_recv hK hP (ci := 6) (q0 := 0) rfl rfl) [0, 1, 2, 3, 4] rfl (by decide) rfl rfl hl.1 rfl (Nat.le_of_ble_eq_true rfl) dX6_lay_57 ⟨Nat.zero_le _, Nat.zero_le _⟩ (fun H locs hP hD hS => ?_)
    have hP : va_P G vwCl (wT c ta0 ta1 ta2 ta3 ta4 (sa (sa (ss t 0 ((t.1 0) + 1)) 0 h021) 1 h033)) H := hP
    have hD : va_D A (wT c ta0 ta1 ta2 ta3 ta4 (sa (sa (ss t 0 ((t.1 0) + 1)) 0 h021) 1 h033)) := hD
    refine lv_isub hx hb dX6_lay_60 ?_
    obtain ⟨h061, e_61, hm⟩ := bd1_s hm
    refine zcSNv (As := [.ref ta3, .int p1, .int (r52 - r57)]) (rest := []) ⟨hx, hb, hml, hown, hts⟩ (k_X7_put l G K c ta3 5 (t.2 2) p1 (r52 - r57) h061 e_61) ⟨va_cnB 3 hts gX6_lay_X7_put_n38 rfl rfl rfl (nwm_HubTrains_Tracks_38 hN.2.1) (hts (.initialized RX7) (List.mem_of_getElem? (i := 6) rfl)) hd_X7_put.2 ⟨Nat.le_of_ble_eq_true rfl, Nat.le_of_ble_eq_true rfl⟩, (hts (.static yX7_put) (List.mem_of_getElem? (i := 5) rfl)), trivial⟩ hK hN hZ hP hD hS hA [3] rfl (by decide) rfl rfl hl.1 rfl (Nat.le_of_ble_eq_true rfl) dX6_lay_61 ⟨Nat.zero_le _, Nat.zero_le _⟩ (fun H locs hP hD hS => ?_)
    have hP : va_P G vwCl (wT c ta0 ta1 ta2 ta3 ta4 (sa (sa (sa (ss t 0 ((t.1 0) + 1)) 0 h021) 1 h033) 2 h061)) H := hP
    have hD : va_D A (wT c ta0 ta1 ta2 ta3 ta4 (sa (sa (sa (ss t 0 ((t.1 0) + 1)) 0 h021) 1 h033) 2 h061)) := hD
    exact hend H locs ls _ _ (zc1 (fun (z0 : SA) => (wT c ta0 ta1 ta2 ta3 ta4 z0 : va_W)) (Option.some.inj hm)) hP hD hS dX6_lay_64


def f_X6_takeOver (t : SA) (to : SA) : Option SA :=
  bd1 (f_X7_copy 55 55 (to.2 0) (t.2 0)) fun (h18 : Nat → Int32) => bd1 (f_X7_copy 55 55 (to.2 1) (t.2 1)) fun (h119 : Nat → Int32) => bd1 (f_X7_copy 5 5 (to.2 2) (t.2 2)) fun (h138 : Nat → Int32) => bd1 (f_X7_copy 5 5 (to.2 3) (t.2 3)) fun (h149 : Nat → Int32) => some ((sa (sa (sa (sa (ss t 0 (to.1 0)) 0 h18) 1 h119) 2 h138) 3 h149))

abbrev rm_X6_takeOver : Room := { frames := 2, cells := 0, slots := 0, locals := 61 }
theorem hd_X6_takeOver : yX6_takeOver.cls = RX6 ∧ yX6_takeOver.cls ≠ "java/lang/invoke/MethodHandle" ∧ yX6_takeOver.cls ≠ "java/lang/invoke/VarHandle" ∧ (parseMethodDescriptor yX6_takeOver.desc).map (fun d => d.parameters.length) = some 1 := by decide +kernel
set_option maxHeartbeats 4000000 in
set_option maxRecDepth 100000 in
theorem k_X6_takeOver (l : Launch) (G : va_G) (K : (Nat → Nat) × (Nat → Nat)) (c : Nat → ClassId) (ta0 : Nat) (ta1 : Nat) (ta2 : Nat) (ta3 : Nat) (ta4 : Nat) (toa0 : Nat) (toa1 : Nat) (toa2 : Nat) (toa3 : Nat) (toa4 : Nat) (t : SA) (to : SA) (t_r : SA) (hm : f_X6_takeOver t to = some (t_r)) : zMv l yX6_takeOver wsX6_takeOver (rm_X6_takeOver) G K (TY c) [.ref ta0, .ref toa0] ((wT c ta0 ta1 ta2 ta3 ta4 t) ++ (wT c toa0 toa1 toa2 toa3 toa4 to)) ((wT c ta0 ta1 ta2 ta3 ta4 t_r) ++ (wT c toa0 toa1 toa2 toa3 toa4 to)) := by
  refine zMv.of (cc := cX6_takeOver) (maxL := 2) (lv := [(0, .ref ta0), (1, .ref toa0)]) (by decide) rfl (Nat.le_of_ble_eq_true rfl) rfl ?_
  intro p e s m args below meth c1 A Q H locs hx hb hml hown hts hK hN hZ hP hD hA hS hend ls hl
  have hown : s.vm.findClass RX6 = some m.cls := hown
  have hi_6 : ∀ w ∈ wsX60, w ∈ wsX6_takeOver := (fun w h => List.mem_cons_of_mem _ (List.mem_append_right _ (h)))
  unfold f_X6_takeOver at hm
  refine lv_aload_n hx hb dX6_takeOver_0 rfl (lv_at hl 1 rfl) ?_
  refine va_get (D := G) (ci := 6) (v := .ref toa1) (C := RX6) (T := TX6) (N := 5) hx hb hts hi_6 hown hK hP 5 rfl rfl 0 (by decide) (hts (.fieldLink RX6 9 "HubTrains$Tracks" "tiles" "[I") (List.mem_of_getElem? (i := 1) rfl)) (fun _ h9 => h9) rfl dX6_takeOver_1 ?_
  refine lv_aload_n hx hb dX6_takeOver_4 rfl (lv_at hl 0 rfl) ?_
  refine va_get (D := G) (ci := 6) (v := .ref ta1) (C := RX6) (T := TX6) (N := 5) hx hb hts hi_6 hown hK hP 0 rfl rfl 0 (by decide) (hts (.fieldLink RX6 9 "HubTrains$Tracks" "tiles" "[I") (List.mem_of_getElem? (i := 1) rfl)) (fun _ h9 => h9) rfl dX6_takeOver_5 ?_
  obtain ⟨h18, e_8, hm⟩ := bd1_s hm
  refine zcSNv (As := [.ref toa1, .ref ta1]) (rest := []) ⟨hx, hb, hml, hown, hts⟩ (k_X7_copy l G K c toa1 ta1 55 55 (to.2 0) (t.2 0) h18 e_8) ⟨va_cnB 2 hts gX6_takeOver_X7_copy_n24 rfl rfl rfl (nwm_HubTrains_Tracks_24 hN.2.1) (hts (.initialized RX7) (List.mem_of_getElem? (i := 7) rfl)) hd_X7_copy.2 ⟨Nat.le_of_ble_eq_true rfl, Nat.le_of_ble_eq_true rfl⟩, (hts (.static yX7_copy) (List.mem_of_getElem? (i := 6) rfl)), trivial⟩ hK hN hZ hP hD hS hA [6, 1] rfl (by decide) rfl rfl hl.1 rfl (Nat.le_of_ble_eq_true rfl) dX6_takeOver_8 ⟨Nat.zero_le _, Nat.zero_le _⟩ (fun H locs hP hD hS => ?_)
  have hP : va_P G vwCl ((wT c ta0 ta1 ta2 ta3 ta4 (sa t 0 h18)) ++ (wT c toa0 toa1 toa2 toa3 toa4 to)) H := hP
  have hD : va_D A ((wT c ta0 ta1 ta2 ta3 ta4 (sa t 0 h18)) ++ (wT c toa0 toa1 toa2 toa3 toa4 to)) := hD
  refine lv_aload_n hx hb dX6_takeOver_11 rfl (lv_at hl 1 rfl) ?_
  refine va_get (D := G) (ci := 6) (v := .ref toa2) (C := RX6) (T := TX6) (N := 5) hx hb hts hi_6 hown hK hP 5 rfl rfl 1 (by decide) (hts (.fieldLink RX6 15 "HubTrains$Tracks" "trains" "[I") (List.mem_of_getElem? (i := 2) rfl)) (fun _ h9 => h9) rfl dX6_takeOver_12 ?_
  refine lv_aload_n hx hb dX6_takeOver_15 rfl (lv_at hl 0 rfl) ?_
  refine va_get (D := G) (ci := 6) (v := .ref ta2) (C := RX6) (T := TX6) (N := 5) hx hb hts hi_6 hown hK hP 0 rfl rfl 1 (by decide) (hts (.fieldLink RX6 15 "HubTrains$Tracks" "trains" "[I") (List.mem_of_getElem? (i := 2) rfl)) (fun _ h9 => h9) rfl dX6_takeOver_16 ?_
  obtain ⟨h119, e_19, hm⟩ := bd1_s hm
  refine zcSNv (As := [.ref toa2, .ref ta2]) (rest := []) ⟨hx, hb, hml, hown, hts⟩ (k_X7_copy l G K c toa2 ta2 55 55 (to.2 1) (t.2 1) h119 e_19) ⟨va_cnB 2 hts gX6_takeOver_X7_copy_n24 rfl rfl rfl (nwm_HubTrains_Tracks_24 hN.2.1) (hts (.initialized RX7) (List.mem_of_getElem? (i := 7) rfl)) hd_X7_copy.2 ⟨Nat.le_of_ble_eq_true rfl, Nat.le_of_ble_eq_true rfl⟩, (hts (.static yX7_copy) (List.mem_of_getElem? (i := 6) rfl)), trivial⟩ hK hN hZ hP hD hS hA [7, 2] rfl (by decide) rfl rfl hl.1 rfl (Nat.le_of_ble_eq_true rfl) dX6_takeOver_19 ⟨Nat.zero_le _, Nat.zero_le _⟩ (fun H locs hP hD hS => ?_)
  have hP : va_P G vwCl ((wT c ta0 ta1 ta2 ta3 ta4 (sa (sa t 0 h18) 1 h119)) ++ (wT c toa0 toa1 toa2 toa3 toa4 to)) H := hP
  have hD : va_D A ((wT c ta0 ta1 ta2 ta3 ta4 (sa (sa t 0 h18) 1 h119)) ++ (wT c toa0 toa1 toa2 toa3 toa4 to)) := hD
  refine lv_aload_n hx hb dX6_takeOver_22 rfl (lv_at hl 0 rfl) ?_
  refine lv_aload_n hx hb dX6_takeOver_23 rfl (lv_at hl 1 rfl) ?_
  refine va_get (D := G) (ci := 6) (v := .int (to.1 0)) (C := RX6) (T := TX6) (N := 5) hx hb hts hi_6 hown hK hP 5 rfl rfl 2 (by decide) (hts (.fieldLink RX6 28 "HubTrains$Tracks" "count" "I") (List.mem_of_getElem? (i := 3) rfl)) (fun _ h9 => h9) rfl dX6_takeOver_24 ?_
  refine va_put (D := G) (ci := 6) (v := .int (to.1 0)) (C := RX6) (T := TX6) (N := 5) hx hb hts hi_6 tyX6 tyX6_ok nmX6 hown hK hP hD hS 0 rfl rfl 2 (by decide) (hts (.fieldLink RX6 28 "HubTrains$Tracks" "count" "I") (List.mem_of_getElem? (i := 3) rfl)) (fun _ h9 => h9) rfl (tyX6_ok 2 (by decide)) rfl rfl (Nat.le_of_ble_eq_true rfl) dX6_takeOver_27 (fun H locs hP hD hS => ?_)
  have hP : va_P G vwCl ((wT c ta0 ta1 ta2 ta3 ta4 (sa (sa (ss t 0 (to.1 0)) 0 h18) 1 h119)) ++ (wT c toa0 toa1 toa2 toa3 toa4 to)) H := hP
  have hD : va_D A ((wT c ta0 ta1 ta2 ta3 ta4 (sa (sa (ss t 0 (to.1 0)) 0 h18) 1 h119)) ++ (wT c toa0 toa1 toa2 toa3 toa4 to)) := hD
  refine lv_aload_n hx hb dX6_takeOver_30 rfl (lv_at hl 1 rfl) ?_
  refine va_get (D := G) (ci := 6) (v := .ref toa3) (C := RX6) (T := TX6) (N := 5) hx hb hts hi_6 hown hK hP 5 rfl rfl 3 (by decide) (hts (.fieldLink RX6 18 "HubTrains$Tracks" "ends" "[I") (List.mem_of_getElem? (i := 4) rfl)) (fun _ h9 => h9) rfl dX6_takeOver_31 ?_
  refine lv_aload_n hx hb dX6_takeOver_34 rfl (lv_at hl 0 rfl) ?_
  refine va_get (D := G) (ci := 6) (v := .ref ta3) (C := RX6) (T := TX6) (N := 5) hx hb hts hi_6 hown hK hP 0 rfl rfl 3 (by decide) (hts (.fieldLink RX6 18 "HubTrains$Tracks" "ends" "[I") (List.mem_of_getElem? (i := 4) rfl)) (fun _ h9 => h9) rfl dX6_takeOver_35 ?_
  obtain ⟨h138, e_38, hm⟩ := bd1_s hm
  refine zcSNv (As := [.ref toa3, .ref ta3]) (rest := []) ⟨hx, hb, hml, hown, hts⟩ (k_X7_copy l G K c toa3 ta3 5 5 (to.2 2) (t.2 2) h138 e_38) ⟨va_cnB 2 hts gX6_takeOver_X7_copy_n24 rfl rfl rfl (nwm_HubTrains_Tracks_24 hN.2.1) (hts (.initialized RX7) (List.mem_of_getElem? (i := 7) rfl)) hd_X7_copy.2 ⟨Nat.le_of_ble_eq_true rfl, Nat.le_of_ble_eq_true rfl⟩, (hts (.static yX7_copy) (List.mem_of_getElem? (i := 6) rfl)), trivial⟩ hK hN hZ hP hD hS hA [8, 3] rfl (by decide) rfl rfl hl.1 rfl (Nat.le_of_ble_eq_true rfl) dX6_takeOver_38 ⟨Nat.zero_le _, Nat.zero_le _⟩ (fun H locs hP hD hS => ?_)
  have hP : va_P G vwCl ((wT c ta0 ta1 ta2 ta3 ta4 (sa (sa (sa (ss t 0 (to.1 0)) 0 h18) 1 h119) 2 h138)) ++ (wT c toa0 toa1 toa2 toa3 toa4 to)) H := hP
  have hD : va_D A ((wT c ta0 ta1 ta2 ta3 ta4 (sa (sa (sa (ss t 0 (to.1 0)) 0 h18) 1 h119) 2 h138)) ++ (wT c toa0 toa1 toa2 toa3 toa4 to)) := hD
  refine lv_aload_n hx hb dX6_takeOver_41 rfl (lv_at hl 1 rfl) ?_
  refine va_get (D := G) (ci := 6) (v := .ref toa4) (C := RX6) (T := TX6) (N := 5) hx hb hts hi_6 hown hK hP 5 rfl rfl 4 (by decide) (hts (.fieldLink RX6 21 "HubTrains$Tracks" "open" "[I") (List.mem_of_getElem? (i := 5) rfl)) (fun _ h9 => h9) rfl dX6_takeOver_42 ?_
  refine lv_aload_n hx hb dX6_takeOver_45 rfl (lv_at hl 0 rfl) ?_
  refine va_get (D := G) (ci := 6) (v := .ref ta4) (C := RX6) (T := TX6) (N := 5) hx hb hts hi_6 hown hK hP 0 rfl rfl 4 (by decide) (hts (.fieldLink RX6 21 "HubTrains$Tracks" "open" "[I") (List.mem_of_getElem? (i := 5) rfl)) (fun _ h9 => h9) rfl dX6_takeOver_46 ?_
  obtain ⟨h149, e_49, hm⟩ := bd1_s hm
  refine zcSNv (As := [.ref toa4, .ref ta4]) (rest := []) ⟨hx, hb, hml, hown, hts⟩ (k_X7_copy l G K c toa4 ta4 5 5 (to.2 3) (t.2 3) h149 e_49) ⟨va_cnB 2 hts gX6_takeOver_X7_copy_n24 rfl rfl rfl (nwm_HubTrains_Tracks_24 hN.2.1) (hts (.initialized RX7) (List.mem_of_getElem? (i := 7) rfl)) hd_X7_copy.2 ⟨Nat.le_of_ble_eq_true rfl, Nat.le_of_ble_eq_true rfl⟩, (hts (.static yX7_copy) (List.mem_of_getElem? (i := 6) rfl)), trivial⟩ hK hN hZ hP hD hS hA [9, 4] rfl (by decide) rfl rfl hl.1 rfl (Nat.le_of_ble_eq_true rfl) dX6_takeOver_49 ⟨Nat.zero_le _, Nat.zero_le _⟩ (fun H locs hP hD hS => ?_)
  have hP : va_P G vwCl ((wT c ta0 ta1 ta2 ta3 ta4 (sa (sa (sa (sa (ss t 0 (to.1 0)) 0 h18) 1 h119) 2 h138) 3 h149)) ++ (wT c toa0 toa1 toa2 toa3 toa4 to)) H := hP
  have hD : va_D A ((wT c ta0 ta1 ta2 ta3 ta4 (sa (sa (sa (sa (ss t 0 (to.1 0)) 0 h18) 1 h119) 2 h138) 3 h149)) ++ (wT c toa0 toa1 toa2 toa3 toa4 to)) := hD
  exact hend H locs ls _ _ (zc1 (fun (z0 : SA) => ((wT c ta0 ta1 ta2 ta3 ta4 z0) ++ (wT c toa0 toa1 toa2 toa3 toa4 to) : va_W)) (Option.some.inj hm)) hP hD hS dX6_takeOver_52


def f_X6_begin (t : SA) (p0 : Int32) : Option SA :=
  bd1 (f_J7_fill_53178 5 (t.2 2) p0) fun (h010 : Nat → Int32) => bd1 (f_J7_fill_53178 5 (t.2 3) 0) fun (h018 : Nat → Int32) => some ((sa (sa (ss t 0 0) 2 h010) 3 h018))

abbrev rm_X6_begin : Room := { frames := 1, cells := 0, slots := 0, locals := 23 }
theorem hd_X6_begin : yX6_begin.cls = RX6 ∧ yX6_begin.cls ≠ "java/lang/invoke/MethodHandle" ∧ yX6_begin.cls ≠ "java/lang/invoke/VarHandle" ∧ (parseMethodDescriptor yX6_begin.desc).map (fun d => d.parameters.length) = some 1 := by decide +kernel
set_option maxHeartbeats 4000000 in
set_option maxRecDepth 100000 in
theorem k_X6_begin (l : Launch) (G : va_G) (K : (Nat → Nat) × (Nat → Nat)) (c : Nat → ClassId) (ta0 : Nat) (ta1 : Nat) (ta2 : Nat) (ta3 : Nat) (ta4 : Nat) (t : SA) (p0 : Int32) (t_r : SA) (hm : f_X6_begin t p0 = some (t_r)) : zMv l yX6_begin wsX6_begin (rm_X6_begin) G K (TY c) [.ref ta0, .int p0] (wT c ta0 ta1 ta2 ta3 ta4 t) (wT c ta0 ta1 ta2 ta3 ta4 t_r) := by
  refine zMv.of (cc := cX6_begin) (maxL := 2) (lv := [(0, .ref ta0), (1, .int p0)]) (by decide) rfl (Nat.le_of_ble_eq_true rfl) rfl ?_
  intro p e s m args below meth c1 A Q H locs hx hb hml hown hts hK hN hZ hP hD hA hS hend ls hl
  have hown : s.vm.findClass RX6 = some m.cls := hown
  have hi_6 : ∀ w ∈ wsX60, w ∈ wsX6_begin := (fun w h => List.mem_cons_of_mem _ (List.mem_append_right _ (h)))
  unfold f_X6_begin at hm
  refine lv_aload_n hx hb dX6_begin_0 rfl (lv_at hl 0 rfl) ?_
  refine lv_iconst (v := 0) hx hb dX6_begin_1 (by decide) ?_
  refine va_put (D := G) (ci := 6) (v := .int 0) (C := RX6) (T := TX6) (N := 5) hx hb hts hi_6 tyX6 tyX6_ok nmX6 hown hK hP hD hS 0 rfl rfl 2 (by decide) (hts (.fieldLink RX6 28 "HubTrains$Tracks" "count" "I") (List.mem_of_getElem? (i := 1) rfl)) (fun _ h9 => h9) rfl (tyX6_ok 2 (by decide)) rfl rfl (Nat.le_of_ble_eq_true rfl) dX6_begin_2 (fun H locs hP hD hS => ?_)
  have hP : va_P G vwCl (wT c ta0 ta1 ta2 ta3 ta4 (ss t 0 0)) H := hP
  have hD : va_D A (wT c ta0 ta1 ta2 ta3 ta4 (ss t 0 0)) := hD
  refine lv_aload_n hx hb dX6_begin_5 rfl (lv_at hl 0 rfl) ?_
  refine va_get (D := G) (ci := 6) (v := .ref ta3) (C := RX6) (T := TX6) (N := 5) hx hb hts hi_6 hown hK hP 0 rfl rfl 3 (by decide) (hts (.fieldLink RX6 18 "HubTrains$Tracks" "ends" "[I") (List.mem_of_getElem? (i := 2) rfl)) (fun _ h9 => h9) rfl dX6_begin_6 ?_
  refine lv_iload_n hx hb dX6_begin_9 rfl (lv_at hl 1 rfl) ?_
  obtain ⟨h010, e_10, hm⟩ := bd1_s hm
  refine zcSv (As := [.ref ta3, .int p0]) (rest := []) ⟨hx, hb, hml, hown, hts⟩ (k_J7_fill_53178 l G K c ta3 5 (t.2 2) p0 h010 e_10) (va_cwS 2 hts gX6_begin_J7_fill_53178 rfl rfl rfl hd_J7_fill_53178.2 ⟨Nat.le_of_ble_eq_true rfl, Nat.le_of_ble_eq_true rfl⟩) hK hN hZ hP hD hS hA [3] rfl (by decide) rfl rfl hl.1 rfl (Nat.le_of_ble_eq_true rfl) dX6_begin_10 ⟨Nat.zero_le _, Nat.zero_le _⟩ (fun H locs hP hD hS => ?_)
  have hP : va_P G vwCl (wT c ta0 ta1 ta2 ta3 ta4 (sa (ss t 0 0) 2 h010)) H := hP
  have hD : va_D A (wT c ta0 ta1 ta2 ta3 ta4 (sa (ss t 0 0) 2 h010)) := hD
  refine lv_aload_n hx hb dX6_begin_13 rfl (lv_at hl 0 rfl) ?_
  refine va_get (D := G) (ci := 6) (v := .ref ta4) (C := RX6) (T := TX6) (N := 5) hx hb hts hi_6 hown hK hP 0 rfl rfl 4 (by decide) (hts (.fieldLink RX6 21 "HubTrains$Tracks" "open" "[I") (List.mem_of_getElem? (i := 3) rfl)) (fun _ h9 => h9) rfl dX6_begin_14 ?_
  refine lv_iconst (v := 0) hx hb dX6_begin_17 (by decide) ?_
  obtain ⟨h018, e_18, hm⟩ := bd1_s hm
  refine zcSv (As := [.ref ta4, .int 0]) (rest := []) ⟨hx, hb, hml, hown, hts⟩ (k_J7_fill_53178 l G K c ta4 5 (t.2 3) 0 h018 e_18) (va_cwS 2 hts gX6_begin_J7_fill_53178 rfl rfl rfl hd_J7_fill_53178.2 ⟨Nat.le_of_ble_eq_true rfl, Nat.le_of_ble_eq_true rfl⟩) hK hN hZ hP hD hS hA [4] rfl (by decide) rfl rfl hl.1 rfl (Nat.le_of_ble_eq_true rfl) dX6_begin_18 ⟨Nat.zero_le _, Nat.zero_le _⟩ (fun H locs hP hD hS => ?_)
  have hP : va_P G vwCl (wT c ta0 ta1 ta2 ta3 ta4 (sa (sa (ss t 0 0) 2 h010) 3 h018)) H := hP
  have hD : va_D A (wT c ta0 ta1 ta2 ta3 ta4 (sa (sa (ss t 0 0) 2 h010) 3 h018)) := hD
  exact hend H locs ls _ _ (zc1 (fun (z0 : SA) => (wT c ta0 ta1 ta2 ta3 ta4 z0 : va_W)) (Option.some.inj hm)) hP hD hS dX6_begin_21


def f_X0_operand (p0 : Int32) (p1 : Int32) (p2 : Int32) (p3 : Int32) (p4 : Int32) (p5 : Int32) : Option Int32 :=
  if p0 = (-5) then (some (p5)) else (if p0 = (-4) then (if p4 = 0 then (some (0)) else (some (1))) else (if p0 = (-3) then (if p3 = 0 then (some (0)) else (some (1))) else (if p0 = (-2) then (if p2 = 0 then (some (0)) else (some (1))) else (if p0 = (-1) then (some (p1)) else (some (p0))))))

abbrev rm_X0_operand : Room := { frames := 0, cells := 0, slots := 0, locals := 0 }
theorem hd_X0_operand : yX0_operand.cls = RX0 ∧ yX0_operand.cls ≠ "java/lang/invoke/MethodHandle" ∧ yX0_operand.cls ≠ "java/lang/invoke/VarHandle" ∧ (parseMethodDescriptor yX0_operand.desc).map (fun d => d.parameters.length) = some 6 := by decide +kernel
set_option maxHeartbeats 4000000 in
set_option maxRecDepth 100000 in
theorem k_X0_operand (l : Launch) (G : va_G) (K : (Nat → Nat) × (Nat → Nat)) (c : Nat → ClassId) (p0 : Int32) (p1 : Int32) (p2 : Int32) (p3 : Int32) (p4 : Int32) (p5 : Int32) (r : Int32) (hm : f_X0_operand p0 p1 p2 p3 p4 p5 = some (r)) : zMi l yX0_operand wsX0_operand (rm_X0_operand) G K (TY c) [.int p0, .int p1, .int p2, .int p3, .int p4, .int p5] ([]) ([]) r := by
  refine zMi.of (cc := cX0_operand) (maxL := 6) (lv := [(0, .int p0), (1, .int p1), (2, .int p2), (3, .int p3), (4, .int p4), (5, .int p5)]) (by decide) rfl (Nat.le_of_ble_eq_true rfl) rfl ?_
  intro p e s m args below meth c1 A Q H locs hx hb hml hown hts hK hN hZ hP hD hA hS hend ls hl
  have hown : s.vm.findClass RX0 = some m.cls := hown
  unfold f_X0_operand at hm
  refine lv_iload_n hx hb dX0_operand_0 rfl (lv_at hl 0 rfl) ?_
  rcases Classical.em (p0 = (-5)) with c_1_5 | c_1_5
  · have hm := ifp c_1_5 hm
    refine lv_tableIn (off := 68) (tgt := 69) hx hb dX0_operand_1 (by rw [c_1_5]; decide) (by rw [c_1_5]; decide) (by rw [c_1_5]; rfl) (by decide) ?_
    refine lv_iload hx hb dX0_operand_69 (lv_at hl 5 rfl) ?_
    exact hend H locs ls _ _ _ rfl (Option.some.inj hm) rfl hP hD hS dX0_operand_71
  · have hm := ifn c_1_5 hm
    rcases Classical.em (p0 = (-4)) with c_1_4 | c_1_4
    · have hm := ifp c_1_4 hm
      refine lv_tableIn (off := 57) (tgt := 58) hx hb dX0_operand_1 (by rw [c_1_4]; decide) (by rw [c_1_4]; decide) (by rw [c_1_4]; rfl) (by decide) ?_
      refine lv_iload hx hb dX0_operand_58 (lv_at hl 4 rfl) ?_
      refine lv_if_eq (tgt := 67) hx hb dX0_operand_60 (by decide) (fun c_60 => ?_) (fun c_60 => ?_)
      · have hm := ifp c_60 hm
        refine lv_iconst (v := 0) hx hb dX0_operand_67 (by decide) ?_
        exact hend H locs ls _ _ _ rfl (Option.some.inj hm) rfl hP hD hS dX0_operand_68
      · have hm := ifn c_60 hm
        refine lv_iconst (v := 1) hx hb dX0_operand_63 (by decide) ?_
        refine lv_goto (tgt := 68) hx hb dX0_operand_64 (by decide) ?_
        exact hend H locs ls _ _ _ rfl (Option.some.inj hm) rfl hP hD hS dX0_operand_68
    · have hm := ifn c_1_4 hm
      rcases Classical.em (p0 = (-3)) with c_1_3 | c_1_3
      · have hm := ifp c_1_3 hm
        refine lv_tableIn (off := 47) (tgt := 48) hx hb dX0_operand_1 (by rw [c_1_3]; decide) (by rw [c_1_3]; decide) (by rw [c_1_3]; rfl) (by decide) ?_
        refine lv_iload_n hx hb dX0_operand_48 rfl (lv_at hl 3 rfl) ?_
        refine lv_if_eq (tgt := 56) hx hb dX0_operand_49 (by decide) (fun c_49 => ?_) (fun c_49 => ?_)
        · have hm := ifp c_49 hm
          refine lv_iconst (v := 0) hx hb dX0_operand_56 (by decide) ?_
          exact hend H locs ls _ _ _ rfl (Option.some.inj hm) rfl hP hD hS dX0_operand_57
        · have hm := ifn c_49 hm
          refine lv_iconst (v := 1) hx hb dX0_operand_52 (by decide) ?_
          refine lv_goto (tgt := 57) hx hb dX0_operand_53 (by decide) ?_
          exact hend H locs ls _ _ _ rfl (Option.some.inj hm) rfl hP hD hS dX0_operand_57
      · have hm := ifn c_1_3 hm
        rcases Classical.em (p0 = (-2)) with c_1_2 | c_1_2
        · have hm := ifp c_1_2 hm
          refine lv_tableIn (off := 37) (tgt := 38) hx hb dX0_operand_1 (by rw [c_1_2]; decide) (by rw [c_1_2]; decide) (by rw [c_1_2]; rfl) (by decide) ?_
          refine lv_iload_n hx hb dX0_operand_38 rfl (lv_at hl 2 rfl) ?_
          refine lv_if_eq (tgt := 46) hx hb dX0_operand_39 (by decide) (fun c_39 => ?_) (fun c_39 => ?_)
          · have hm := ifp c_39 hm
            refine lv_iconst (v := 0) hx hb dX0_operand_46 (by decide) ?_
            exact hend H locs ls _ _ _ rfl (Option.some.inj hm) rfl hP hD hS dX0_operand_47
          · have hm := ifn c_39 hm
            refine lv_iconst (v := 1) hx hb dX0_operand_42 (by decide) ?_
            refine lv_goto (tgt := 47) hx hb dX0_operand_43 (by decide) ?_
            exact hend H locs ls _ _ _ rfl (Option.some.inj hm) rfl hP hD hS dX0_operand_47
        · have hm := ifn c_1_2 hm
          rcases Classical.em (p0 = (-1)) with c_1_1 | c_1_1
          · have hm := ifp c_1_1 hm
            refine lv_tableIn (off := 35) (tgt := 36) hx hb dX0_operand_1 (by rw [c_1_1]; decide) (by rw [c_1_1]; decide) (by rw [c_1_1]; rfl) (by decide) ?_
            refine lv_iload_n hx hb dX0_operand_36 rfl (lv_at hl 1 rfl) ?_
            exact hend H locs ls _ _ _ rfl (Option.some.inj hm) rfl hP hD hS dX0_operand_37
          · have hm := ifn c_1_1 hm
            refine lv_tableOut (tgt := 72) hx hb dX0_operand_1 (sw_out (-5) (-1) (fun k hk hk2 hkx => by rcases (show k = -5 ∨ k = -4 ∨ k = -3 ∨ k = -2 ∨ k = -1 by omega) with rfl | rfl | rfl | rfl | rfl <;> first | exact c_1_5 (hkx.trans (by decide)) | exact c_1_4 (hkx.trans (by decide)) | exact c_1_3 (hkx.trans (by decide)) | exact c_1_2 (hkx.trans (by decide)) | exact c_1_1 (hkx.trans (by decide)))) (by decide) ?_
            refine lv_iload_n hx hb dX0_operand_72 rfl (lv_at hl 0 rfl) ?_
            exact hend H locs ls _ _ _ rfl (Option.some.inj hm) rfl hP hD hS dX0_operand_73

def f_X0_result_J67 (v5_67 : Int64) : Option Int32 :=
  some ((if (if v5_67 < 1000000 then v5_67 else 1000000) < (-1000000) then (-1000000) else (if v5_67 < 1000000 then v5_67 else 1000000)).toInt32)

def f_X0_result_J65 (s0_65 : Int64) : Option Int32 :=
  f_X0_result_J67 s0_65

def f_X0_result (p0 : Int32) (p1 : Int64) (p2 : Int64) : Option Int32 :=
  if p0 = (-8) then (f_X0_result_J67 (p1 * p2)) else (if p0 = (-7) then (f_X0_result_J67 (p1 - p2)) else (if p0 = (-6) then (f_X0_result_J67 (p1 + p2)) else (if (lg_cmp p2 0) = 0 then (f_X0_result_J65 0) else (gd (nzl p2) <| f_X0_result_J65 (p1 / p2)))))

abbrev rm_X0_result : Room := { frames := 1, cells := 0, slots := 0, locals := 23 }
theorem hd_X0_result : yX0_result.cls = RX0 ∧ yX0_result.cls ≠ "java/lang/invoke/MethodHandle" ∧ yX0_result.cls ≠ "java/lang/invoke/VarHandle" ∧ (parseMethodDescriptor yX0_result.desc).map (fun d => d.parameters.length) = some 3 := by decide +kernel
set_option maxHeartbeats 4000000 in
set_option maxRecDepth 100000 in
theorem k_X0_result (l : Launch) (G : va_G) (K : (Nat → Nat) × (Nat → Nat)) (c : Nat → ClassId) (p0 : Int32) (p1 : Int64) (p2 : Int64) (r : Int32) (hm : f_X0_result p0 p1 p2 = some (r)) : zMi l yX0_result wsX0_result (rm_X0_result) G K (TY c) [.int p0, .long p1, .long p2] ([]) ([]) r := by
  refine zMi.of (cc := cX0_result) (maxL := 7) (lv := [(0, .int p0), (1, .long p1), (3, .long p2)]) (by decide) rfl (Nat.le_of_ble_eq_true rfl) rfl ?_
  intro p e s m args below meth c1 A Q H locs hx hb hml hown hts hK hN hZ hP hD hA hS hend ls hl
  have hown : s.vm.findClass RX0 = some m.cls := hown
  unfold f_X0_result at hm
  refine lv_iload_n hx hb dX0_result_0 rfl (lv_at hl 0 rfl) ?_
  have J_67 : ∀ (v5_67 : Int64) (H : Heap) (locs : List Loc) (ls : Array Slot), va_P G vwCl ([]) H → va_D A ([]) → va_S A s.heap H locs → lv_has ls 7 [(5, .long v5_67)] → f_X0_result_J67 v5_67 = some (r) → W p l e (rm_X0_result) s m args below meth c1 H locs 0 0 Q (F0 m 67 ls []) := by
    intro v5_67 H locs ls hP hD hS hl hm
    unfold f_X0_result_J67 at hm
    refine lv_ldc2 (v := (-1000000)) hx hb hown (hts (.constantLong RX0 49 (-1000000)) (List.mem_of_getElem? (i := 1) rfl)) dX0_result_67 ?_
    refine lv_ldc2 (v := 1000000) hx hb hown (hts (.constantLong RX0 51 (1000000)) (List.mem_of_getElem? (i := 2) rfl)) dX0_result_70 ?_
    refine lv_lload hx hb dX0_result_73 (lv_at hl 0 rfl) ?_
    refine va_mmin_long hx hb (hml.trans hl.1.symm) hown (hts (.methodLink RX0 53 Lib.MathLoose.min_long.x) (List.mem_of_getElem? (i := 3) rfl)) (hts (.static Lib.MathLoose.min_long.x) (List.mem_of_getElem? (i := 4) rfl)) (hts (.initialized "java/lang/Math") (List.mem_of_getElem? (i := 5) rfl)) (hts (.code Lib.MathLoose.min_long.x Lib.MathLoose.min_long.code 4 (some .long)) (List.mem_of_getElem? (i := 6) rfl)) (Nat.le_of_ble_eq_true rfl) (Nat.le_of_ble_eq_true rfl) (Nat.zero_le _) (Nat.zero_le _) dX0_result_75 ?_
    refine va_mmax_long hx hb (hml.trans hl.1.symm) hown (hts (.methodLink RX0 56 Lib.MathLoose.max_long.x) (List.mem_of_getElem? (i := 7) rfl)) (hts (.static Lib.MathLoose.max_long.x) (List.mem_of_getElem? (i := 8) rfl)) (hts (.initialized "java/lang/Math") (List.mem_of_getElem? (i := 5) rfl)) (hts (.code Lib.MathLoose.max_long.x Lib.MathLoose.max_long.code 4 (some .long)) (List.mem_of_getElem? (i := 9) rfl)) (Nat.le_of_ble_eq_true rfl) (Nat.le_of_ble_eq_true rfl) (Nat.zero_le _) (Nat.zero_le _) dX0_result_78 ?_
    refine lv_l2i hx hb dX0_result_81 rfl ?_
    exact hend H locs ls _ _ _ rfl (Option.some.inj hm) rfl hP hD hS dX0_result_82
  rcases Classical.em (p0 = (-8)) with c_1_8 | c_1_8
  · have hm := ifp c_1_8 hm
    refine lv_tableIn (off := 43) (tgt := 44) hx hb dX0_result_1 (by rw [c_1_8]; decide) (by rw [c_1_8]; decide) (by rw [c_1_8]; rfl) (by decide) ?_
    refine lv_lload_n hx hb dX0_result_44 rfl (lv_at hl 1 rfl) ?_
    refine lv_lload_n hx hb dX0_result_45 rfl (lv_at hl 2 rfl) ?_
    refine lv_lmul hx hb dX0_result_46 ?_
    refine lv_lstore (lv' := [(5, .long (p1 * p2)), (0, .int p0), (1, .long p1), (3, .long p2)]) hx hb dX0_result_47 hl (by decide) rfl (fun ls hl => ?_)
    refine lv_goto (tgt := 67) hx hb dX0_result_49 (by decide) ?_
    exact J_67 (p1 * p2) H locs ls hP hD hS (lv_sub hl [0] rfl) hm
  · have hm := ifn c_1_8 hm
    rcases Classical.em (p0 = (-7)) with c_1_7 | c_1_7
    · have hm := ifp c_1_7 hm
      refine lv_tableIn (off := 35) (tgt := 36) hx hb dX0_result_1 (by rw [c_1_7]; decide) (by rw [c_1_7]; decide) (by rw [c_1_7]; rfl) (by decide) ?_
      refine lv_lload_n hx hb dX0_result_36 rfl (lv_at hl 1 rfl) ?_
      refine lv_lload_n hx hb dX0_result_37 rfl (lv_at hl 2 rfl) ?_
      refine lv_lsub hx hb dX0_result_38 ?_
      refine lv_lstore (lv' := [(5, .long (p1 - p2)), (0, .int p0), (1, .long p1), (3, .long p2)]) hx hb dX0_result_39 hl (by decide) rfl (fun ls hl => ?_)
      refine lv_goto (tgt := 67) hx hb dX0_result_41 (by decide) ?_
      exact J_67 (p1 - p2) H locs ls hP hD hS (lv_sub hl [0] rfl) hm
    · have hm := ifn c_1_7 hm
      rcases Classical.em (p0 = (-6)) with c_1_6 | c_1_6
      · have hm := ifp c_1_6 hm
        refine lv_tableIn (off := 27) (tgt := 28) hx hb dX0_result_1 (by rw [c_1_6]; decide) (by rw [c_1_6]; decide) (by rw [c_1_6]; rfl) (by decide) ?_
        refine lv_lload_n hx hb dX0_result_28 rfl (lv_at hl 1 rfl) ?_
        refine lv_lload_n hx hb dX0_result_29 rfl (lv_at hl 2 rfl) ?_
        refine lv_ladd hx hb dX0_result_30 ?_
        refine lv_lstore (lv' := [(5, .long (p1 + p2)), (0, .int p0), (1, .long p1), (3, .long p2)]) hx hb dX0_result_31 hl (by decide) rfl (fun ls hl => ?_)
        refine lv_goto (tgt := 67) hx hb dX0_result_33 (by decide) ?_
        exact J_67 (p1 + p2) H locs ls hP hD hS (lv_sub hl [0] rfl) hm
      · have hm := ifn c_1_6 hm
        refine lv_tableOut (tgt := 52) hx hb dX0_result_1 (sw_out (-8) (-6) (fun k hk hk2 hkx => by rcases (show k = -8 ∨ k = -7 ∨ k = -6 by omega) with rfl | rfl | rfl <;> first | exact c_1_8 (hkx.trans (by decide)) | exact c_1_7 (hkx.trans (by decide)) | exact c_1_6 (hkx.trans (by decide)))) (by decide) ?_
        refine lv_lload_n hx hb dX0_result_52 rfl (lv_at hl 2 rfl) ?_
        refine lv_lconst (v := 0) hx hb dX0_result_53 (by decide) ?_
        refine W.lcmp hx hb dX0_result_54 ?_
        have J_65 : ∀ (s0_65 : Int64) (H : Heap) (locs : List Loc) (ls : Array Slot), va_P G vwCl ([]) H → va_D A ([]) → va_S A s.heap H locs → lv_has ls 7 [] → f_X0_result_J65 s0_65 = some (r) → W p l e (rm_X0_result) s m args below meth c1 H locs 0 0 Q (F0 m 65 ls [.long s0_65]) := by
          intro s0_65 H locs ls hP hD hS hl hm
          unfold f_X0_result_J65 at hm
          refine lv_lstore (lv' := [(5, .long s0_65)]) hx hb dX0_result_65 hl (by decide) rfl (fun ls hl => ?_)
          exact J_67 s0_65 H locs ls hP hD hS (lv_sub hl [0] rfl) hm
        refine lv_if_ne (tgt := 62) hx hb dX0_result_55 (by decide) (fun c_55 => ?_) (fun c_55 => ?_)
        · have hm := ifn c_55 hm
          refine lv_lload_n hx hb dX0_result_62 rfl (lv_at hl 1 rfl) ?_
          refine lv_lload_n hx hb dX0_result_63 rfl (lv_at hl 2 rfl) ?_
          obtain ⟨h_64, hm⟩ := gd_s hm
          refine lv_ldiv hx hb dX0_result_64 (nzl_s h_64) ?_
          exact J_65 (p1 / p2) H locs ls hP hD hS (lv_sub hl [] rfl) hm
        · have hm := ifp c_55 hm
          refine lv_lconst (v := 0) hx hb dX0_result_58 (by decide) ?_
          refine lv_goto (tgt := 65) hx hb dX0_result_59 (by decide) ?_
          exact J_65 0 H locs ls hP hD hS (lv_sub hl [] rfl) hm

def f_X0_value_B6 (fn : Nat) (p0 : Int32) (p1 : Int32) (p2 : Int32) (p3 : Int32) (p4 : Int32) (rec_6 : Int32 → Int32 → SA → Option (Int32 × SA)) (v6_6 : Int32) (v7_6 : Int32) (f_6 : SA) : Option (Int32 × SA) :=
  if (nI fn) ≤ v7_6 then (bd1 (f_X7_look 16 (f_6.2 1) 0) fun (r111 : Int32) => some (r111, f_6)) else (gd (inb v7_6 fn) <| nmd ((f_6.2 0) v7_6.toNatClampNeg) fun (x8_23 : Int32) => if (-6) < x8_23 then (bd1 (f_X0_operand x8_23 p0 p1 p2 p3 p4) fun (r91 : Int32) => bd1 (f_X7_put 16 (f_6.2 1) v6_6 r91) fun (h094 : Nat → Int32) => rec_6 (v6_6 + 1) (v7_6 + 1) (sa f_6 1 h094)) else (bd1 (f_X7_look 16 (f_6.2 1) ((v6_6 + (-1)) - 1)) fun (r53 : Int32) => bd1 (f_X7_look 16 (f_6.2 1) (v6_6 + (-1))) fun (r63 : Int32) => bd1 (f_X0_result x8_23 r53.toInt64 r63.toInt64) fun (r67 : Int32) => bd1 (f_X7_put 16 (f_6.2 1) ((v6_6 + (-1)) - 1) r67) fun (h070 : Nat → Int32) => rec_6 (v6_6 + (-1)) (v7_6 + 1) (sa f_6 1 h070)))

def f_X0_value (fn : Nat) (f : SA) (p0 : Int32) (p1 : Int32) (p2 : Int32) (p3 : Int32) (p4 : Int32) : Option (Int32 × SA) :=
  itr3 (f_X0_value_B6 fn p0 p1 p2 p3 p4) FUEL 0 0 f

abbrev rm_X0_value : Room := { frames := 2, cells := 0, slots := 0, locals := 49 }
theorem hd_X0_value : yX0_value.cls = RX0 ∧ yX0_value.cls ≠ "java/lang/invoke/MethodHandle" ∧ yX0_value.cls ≠ "java/lang/invoke/VarHandle" ∧ (parseMethodDescriptor yX0_value.desc).map (fun d => d.parameters.length) = some 5 := by decide +kernel
set_option maxHeartbeats 4000000 in
set_option maxRecDepth 100000 in
theorem k_X0_value (l : Launch) (G : va_G) (K : (Nat → Nat) × (Nat → Nat)) (c : Nat → ClassId) (fa0 : Nat) (fa1 : Nat) (fa2 : Nat) (fn : Nat) (f : SA) (p0 : Int32) (p1 : Int32) (p2 : Int32) (p3 : Int32) (p4 : Int32) (r : Int32) (f_r : SA) (hm : f_X0_value fn f p0 p1 p2 p3 p4 = some (r, f_r)) : zMi l yX0_value wsX0_value (rm_X0_value) G K (TY c) [.ref fa0, .int p0, .int p1, .int p2, .int p3, .int p4] (wF c fa0 fa1 fa2 fn f) (wF c fa0 fa1 fa2 fn f_r) r := by
  refine zMi.of (cc := cX0_value) (maxL := 9) (lv := [(0, .ref fa0), (1, .int p0), (2, .int p1), (3, .int p2), (4, .int p3), (5, .int p4)]) (by decide) rfl (Nat.le_of_ble_eq_true rfl) rfl ?_
  intro p e s m args below meth c1 A Q H locs hx hb hml hown hts hK hN hZ hP hD hA hS hend ls hl
  have hown : s.vm.findClass RX0 = some m.cls := hown
  have hi_0 : ∀ w ∈ wsX00, w ∈ wsX0_value := (fun w h => List.mem_cons_of_mem _ (List.mem_append_right _ (h)))
  unfold f_X0_value at hm
  refine lv_iconst (v := 0) hx hb dX0_value_0 (by decide) ?_
  refine lv_istore (lv' := [(6, .int 0), (0, .ref fa0), (1, .int p0), (2, .int p1), (3, .int p2), (4, .int p3), (5, .int p4)]) hx hb dX0_value_1 hl (by decide) rfl (fun ls hl => ?_)
  refine lv_iconst (v := 0) hx hb dX0_value_3 (by decide) ?_
  refine lv_istore (lv' := [(7, .int 0), (6, .int 0), (0, .ref fa0), (1, .int p0), (2, .int p1), (3, .int p2), (4, .int p3), (5, .int p4)]) hx hb dX0_value_4 hl (by decide) rfl (fun ls hl => ?_)
  have L_6 : ∀ (n_6 : Nat) (v6_6 : Int32) (v7_6 : Int32) (f_6 : SA) (H : Heap) (locs : List Loc) (ls : Array Slot), va_P G vwCl (wF c fa0 fa1 fa2 fn f_6) H → va_D A (wF c fa0 fa1 fa2 fn f_6) → va_S A s.heap H locs → lv_has ls 9 [(0, .ref fa0), (1, .int p0), (2, .int p1), (3, .int p2), (4, .int p3), (5, .int p4), (6, .int v6_6), (7, .int v7_6)] → itr3 (f_X0_value_B6 fn p0 p1 p2 p3 p4) n_6 v6_6 v7_6 f_6 = some (r, f_r) → W p l e (rm_X0_value) s m args below meth c1 H locs 0 0 Q (F0 m 6 ls []) := by
    intro n_6
    induction n_6 with
    | zero => intro v6_6 v7_6 f_6 H locs ls hP hD hS hl hm; exact (itr3_0 hm).elim
    | succ n_6 ih_6 =>
      intro v6_6 v7_6 f_6 H locs ls hP hD hS hl hm
      have hm := itr3_s hm
      unfold f_X0_value_B6 at hm
      refine lv_iload hx hb dX0_value_6 (lv_at hl 7 rfl) ?_
      refine lv_aload_n hx hb dX0_value_8 rfl (lv_at hl 0 rfl) ?_
      refine va_get (D := G) (ci := 0) (v := .ref fa1) (C := RX0) (T := TX0) (N := 2) hx hb hts hi_0 hown hK hP 0 rfl rfl 0 (by decide) (hts (.fieldLink RX0 28 "HubTrains$Formula" "steps" "[I") (List.mem_of_getElem? (i := 1) rfl)) (fun _ h9 => h9) rfl dX0_value_9 ?_
      refine va_alen (D := G) (v := (nI fn)) hx hb hK hP 1 0 rfl rfl rfl dX0_value_12 ?_
      refine lv_icmp_ge (tgt := 106) hx hb dX0_value_13 (by decide) (fun c_13 => ?_) (fun c_13 => ?_)
      · have hm := ifp c_13 hm
        refine lv_aload_n hx hb dX0_value_106 rfl (lv_at hl 0 rfl) ?_
        refine va_get (D := G) (ci := 0) (v := .ref fa2) (C := RX0) (T := TX0) (N := 2) hx hb hts hi_0 hown hK hP 0 rfl rfl 1 (by decide) (hts (.fieldLink RX0 9 "HubTrains$Formula" "waiting" "[I") (List.mem_of_getElem? (i := 2) rfl)) (fun _ h9 => h9) rfl dX0_value_107 ?_
        refine lv_iconst (v := 0) hx hb dX0_value_110 (by decide) ?_
        obtain ⟨r111, e_111, hm⟩ := bd1_s hm
        refine zcSNi (As := [.ref fa2, .int 0]) (rest := []) ⟨hx, hb, hml, hown, hts⟩ (k_X7_look l G K c fa2 16 (f_6.2 1) 0 r111 e_111) ⟨va_cnB 2 hts gX0_value_X7_look_n31 rfl rfl rfl (nwm_HubTrains_Formula_31 hN.2.1) (hts (.initialized RX7) (List.mem_of_getElem? (i := 4) rfl)) hd_X7_look.2 ⟨Nat.le_of_ble_eq_true rfl, Nat.le_of_ble_eq_true rfl⟩, (hts (.static yX7_look) (List.mem_of_getElem? (i := 3) rfl)), trivial⟩ hK hN hZ hP hD hS hA [2] rfl (by decide) rfl rfl hl.1 rfl (Nat.le_of_ble_eq_true rfl) dX0_value_111 ⟨Nat.zero_le _, Nat.zero_le _⟩ (fun H locs hP hD hS => ?_)
        have hP : va_P G vwCl (wF c fa0 fa1 fa2 fn f_6) H := hP
        have hD : va_D A (wF c fa0 fa1 fa2 fn f_6) := hD
        exact hend H locs ls _ _ _ rfl (Prod.mk.inj (Option.some.inj hm)).1 (zc1 (fun (z0 : SA) => (wF c fa0 fa1 fa2 fn z0 : va_W)) (Prod.mk.inj (Option.some.inj hm)).2) hP hD hS dX0_value_114
      · have hm := ifn c_13 hm
        refine lv_aload_n hx hb dX0_value_16 rfl (lv_at hl 0 rfl) ?_
        refine va_get (D := G) (ci := 0) (v := .ref fa1) (C := RX0) (T := TX0) (N := 2) hx hb hts hi_0 hown hK hP 0 rfl rfl 0 (by decide) (hts (.fieldLink RX0 28 "HubTrains$Formula" "steps" "[I") (List.mem_of_getElem? (i := 1) rfl)) (fun _ h9 => h9) rfl dX0_value_17 ?_
        refine lv_iload hx hb dX0_value_20 (lv_at hl 7 rfl) ?_
        obtain ⟨h_22, hm⟩ := gd_s hm
        refine va_iald (D := G) hx hb hK hP 1 0 rfl rfl (inb_s h_22) dX0_value_22 ?_
        refine lv_topi (fun x8_23 e_x8_23 => ?_)
        have hm := nmd_s hm x8_23 e_x8_23
        refine lv_istore (lv' := [(8, .int x8_23), (0, .ref fa0), (1, .int p0), (2, .int p1), (3, .int p2), (4, .int p3), (5, .int p4), (6, .int v6_6), (7, .int v7_6)]) hx hb dX0_value_23 hl (by decide) rfl (fun ls hl => ?_)
        refine lv_iload hx hb dX0_value_25 (lv_at hl 0 rfl) ?_
        refine lv_bipush (v := (-6)) hx hb dX0_value_27 (by decide) ?_
        refine lv_icmp_gt (tgt := 76) hx hb dX0_value_29 (by decide) (fun c_29 => ?_) (fun c_29 => ?_)
        · have hm := ifp c_29 hm
          refine lv_aload_n hx hb dX0_value_76 rfl (lv_at hl 1 rfl) ?_
          refine va_get (D := G) (ci := 0) (v := .ref fa2) (C := RX0) (T := TX0) (N := 2) hx hb hts hi_0 hown hK hP 0 rfl rfl 1 (by decide) (hts (.fieldLink RX0 9 "HubTrains$Formula" "waiting" "[I") (List.mem_of_getElem? (i := 2) rfl)) (fun _ h9 => h9) rfl dX0_value_77 ?_
          refine lv_iload hx hb dX0_value_80 (lv_at hl 7 rfl) ?_
          refine lv_iload hx hb dX0_value_82 (lv_at hl 0 rfl) ?_
          refine lv_iload_n hx hb dX0_value_84 rfl (lv_at hl 2 rfl) ?_
          refine lv_iload_n hx hb dX0_value_85 rfl (lv_at hl 3 rfl) ?_
          refine lv_iload_n hx hb dX0_value_86 rfl (lv_at hl 4 rfl) ?_
          refine lv_iload hx hb dX0_value_87 (lv_at hl 5 rfl) ?_
          refine lv_iload hx hb dX0_value_89 (lv_at hl 6 rfl) ?_
          obtain ⟨r91, e_91, hm⟩ := bd1_s hm
          refine zcSi (As := [.int x8_23, .int p0, .int p1, .int p2, .int p3, .int p4]) (rest := [.int v6_6, .ref fa2]) ⟨hx, hb, hml, hown, hts⟩ (k_X0_operand l G K c x8_23 p0 p1 p2 p3 p4 r91 e_91) (va_cwS 6 hts gX0_value_X0_operand rfl rfl rfl hd_X0_operand.2 ⟨Nat.le_of_ble_eq_true rfl, Nat.le_of_ble_eq_true rfl⟩) hK hN hZ hP hD hS hA [] rfl (by decide) rfl rfl hl.1 rfl (Nat.le_of_ble_eq_true rfl) dX0_value_91 ⟨Nat.zero_le _, Nat.zero_le _⟩ (fun H locs hP hD hS => ?_)
          have hP : va_P G vwCl (wF c fa0 fa1 fa2 fn f_6) H := hP
          have hD : va_D A (wF c fa0 fa1 fa2 fn f_6) := hD
          obtain ⟨h094, e_94, hm⟩ := bd1_s hm
          refine zcSNv (As := [.ref fa2, .int v6_6, .int r91]) (rest := []) ⟨hx, hb, hml, hown, hts⟩ (k_X7_put l G K c fa2 16 (f_6.2 1) v6_6 r91 h094 e_94) ⟨va_cnB 3 hts gX0_value_X7_put_n41 rfl rfl rfl (nwm_HubTrains_Formula_41 hN.2.1) (hts (.initialized RX7) (List.mem_of_getElem? (i := 4) rfl)) hd_X7_put.2 ⟨Nat.le_of_ble_eq_true rfl, Nat.le_of_ble_eq_true rfl⟩, (hts (.static yX7_put) (List.mem_of_getElem? (i := 19) rfl)), trivial⟩ hK hN hZ hP hD hS hA [2] rfl (by decide) rfl rfl hl.1 rfl (Nat.le_of_ble_eq_true rfl) dX0_value_94 ⟨Nat.zero_le _, Nat.zero_le _⟩ (fun H locs hP hD hS => ?_)
          have hP : va_P G vwCl (wF c fa0 fa1 fa2 fn (sa f_6 1 h094)) H := hP
          have hD : va_D A (wF c fa0 fa1 fa2 fn (sa f_6 1 h094)) := hD
          refine lv_iinc (k := 7) (v := (v6_6 + 1)) (lv' := [(6, .int (v6_6 + 1)), (8, .int x8_23), (0, .ref fa0), (1, .int p0), (2, .int p1), (3, .int p2), (4, .int p3), (5, .int p4), (7, .int v7_6)]) hx hb dX0_value_97 hl rfl rfl (by decide) rfl (fun ls hl => ?_)
          refine lv_iinc (k := 8) (v := (v7_6 + 1)) (lv' := [(7, .int (v7_6 + 1)), (6, .int (v6_6 + 1)), (8, .int x8_23), (0, .ref fa0), (1, .int p0), (2, .int p1), (3, .int p2), (4, .int p3), (5, .int p4)]) hx hb dX0_value_100 hl rfl rfl (by decide) rfl (fun ls hl => ?_)
          refine lv_goto (tgt := 6) hx hb dX0_value_103 (by decide) ?_
          exact ih_6 (v6_6 + 1) (v7_6 + 1) (sa f_6 1 h094) H locs ls hP hD hS (lv_sub hl [3, 4, 5, 6, 7, 8, 1, 0] rfl) hm
        · have hm := ifn c_29 hm
          refine lv_iinc (k := 7) (v := (v6_6 + (-1))) (lv' := [(6, .int (v6_6 + (-1))), (8, .int x8_23), (0, .ref fa0), (1, .int p0), (2, .int p1), (3, .int p2), (4, .int p3), (5, .int p4), (7, .int v7_6)]) hx hb dX0_value_32 hl rfl rfl (by decide) rfl (fun ls hl => ?_)
          refine lv_aload_n hx hb dX0_value_35 rfl (lv_at hl 2 rfl) ?_
          refine va_get (D := G) (ci := 0) (v := .ref fa2) (C := RX0) (T := TX0) (N := 2) hx hb hts hi_0 hown hK hP 0 rfl rfl 1 (by decide) (hts (.fieldLink RX0 9 "HubTrains$Formula" "waiting" "[I") (List.mem_of_getElem? (i := 2) rfl)) (fun _ h9 => h9) rfl dX0_value_36 ?_
          refine lv_iload hx hb dX0_value_39 (lv_at hl 0 rfl) ?_
          refine lv_iconst (v := 1) hx hb dX0_value_41 (by decide) ?_
          refine lv_isub hx hb dX0_value_42 ?_
          refine lv_iload hx hb dX0_value_43 (lv_at hl 1 rfl) ?_
          refine lv_aload_n hx hb dX0_value_45 rfl (lv_at hl 2 rfl) ?_
          refine va_get (D := G) (ci := 0) (v := .ref fa2) (C := RX0) (T := TX0) (N := 2) hx hb hts hi_0 hown hK hP 0 rfl rfl 1 (by decide) (hts (.fieldLink RX0 9 "HubTrains$Formula" "waiting" "[I") (List.mem_of_getElem? (i := 2) rfl)) (fun _ h9 => h9) rfl dX0_value_46 ?_
          refine lv_iload hx hb dX0_value_49 (lv_at hl 0 rfl) ?_
          refine lv_iconst (v := 1) hx hb dX0_value_51 (by decide) ?_
          refine lv_isub hx hb dX0_value_52 ?_
          obtain ⟨r53, e_53, hm⟩ := bd1_s hm
          refine zcSNi (As := [.ref fa2, .int ((v6_6 + (-1)) - 1)]) (rest := [.int x8_23, .int ((v6_6 + (-1)) - 1), .ref fa2]) ⟨hx, hb, hml, hown, hts⟩ (k_X7_look l G K c fa2 16 (f_6.2 1) ((v6_6 + (-1)) - 1) r53 e_53) ⟨va_cnB 2 hts gX0_value_X7_look_n31 rfl rfl rfl (nwm_HubTrains_Formula_31 hN.2.1) (hts (.initialized RX7) (List.mem_of_getElem? (i := 4) rfl)) hd_X7_look.2 ⟨Nat.le_of_ble_eq_true rfl, Nat.le_of_ble_eq_true rfl⟩, (hts (.static yX7_look) (List.mem_of_getElem? (i := 3) rfl)), trivial⟩ hK hN hZ hP hD hS hA [2] rfl (by decide) rfl rfl hl.1 rfl (Nat.le_of_ble_eq_true rfl) dX0_value_53 ⟨Nat.zero_le _, Nat.zero_le _⟩ (fun H locs hP hD hS => ?_)
          have hP : va_P G vwCl (wF c fa0 fa1 fa2 fn f_6) H := hP
          have hD : va_D A (wF c fa0 fa1 fa2 fn f_6) := hD
          refine lv_i2l hx hb dX0_value_56 rfl ?_
          refine lv_aload_n hx hb dX0_value_57 rfl (lv_at hl 2 rfl) ?_
          refine va_get (D := G) (ci := 0) (v := .ref fa2) (C := RX0) (T := TX0) (N := 2) hx hb hts hi_0 hown hK hP 0 rfl rfl 1 (by decide) (hts (.fieldLink RX0 9 "HubTrains$Formula" "waiting" "[I") (List.mem_of_getElem? (i := 2) rfl)) (fun _ h9 => h9) rfl dX0_value_58 ?_
          refine lv_iload hx hb dX0_value_61 (lv_at hl 0 rfl) ?_
          obtain ⟨r63, e_63, hm⟩ := bd1_s hm
          refine zcSNi (As := [.ref fa2, .int (v6_6 + (-1))]) (rest := [.long r53.toInt64, .int x8_23, .int ((v6_6 + (-1)) - 1), .ref fa2]) ⟨hx, hb, hml, hown, hts⟩ (k_X7_look l G K c fa2 16 (f_6.2 1) (v6_6 + (-1)) r63 e_63) ⟨va_cnB 2 hts gX0_value_X7_look_n31 rfl rfl rfl (nwm_HubTrains_Formula_31 hN.2.1) (hts (.initialized RX7) (List.mem_of_getElem? (i := 4) rfl)) hd_X7_look.2 ⟨Nat.le_of_ble_eq_true rfl, Nat.le_of_ble_eq_true rfl⟩, (hts (.static yX7_look) (List.mem_of_getElem? (i := 3) rfl)), trivial⟩ hK hN hZ hP hD hS hA [2] rfl (by decide) rfl rfl hl.1 rfl (Nat.le_of_ble_eq_true rfl) dX0_value_63 ⟨Nat.zero_le _, Nat.zero_le _⟩ (fun H locs hP hD hS => ?_)
          have hP : va_P G vwCl (wF c fa0 fa1 fa2 fn f_6) H := hP
          have hD : va_D A (wF c fa0 fa1 fa2 fn f_6) := hD
          refine lv_i2l hx hb dX0_value_66 rfl ?_
          obtain ⟨r67, e_67, hm⟩ := bd1_s hm
          refine zcSi (As := [.int x8_23, .long r53.toInt64, .long r63.toInt64]) (rest := [.int ((v6_6 + (-1)) - 1), .ref fa2]) ⟨hx, hb, hml, hown, hts⟩ (k_X0_result l G K c x8_23 r53.toInt64 r63.toInt64 r67 e_67) (va_cwS 3 hts gX0_value_X0_result rfl rfl rfl hd_X0_result.2 ⟨Nat.le_of_ble_eq_true rfl, Nat.le_of_ble_eq_true rfl⟩) hK hN hZ hP hD hS hA [] rfl (by decide) rfl rfl hl.1 rfl (Nat.le_of_ble_eq_true rfl) dX0_value_67 ⟨Nat.zero_le _, Nat.zero_le _⟩ (fun H locs hP hD hS => ?_)
          have hP : va_P G vwCl (wF c fa0 fa1 fa2 fn f_6) H := hP
          have hD : va_D A (wF c fa0 fa1 fa2 fn f_6) := hD
          obtain ⟨h070, e_70, hm⟩ := bd1_s hm
          refine zcSNv (As := [.ref fa2, .int ((v6_6 + (-1)) - 1), .int r67]) (rest := []) ⟨hx, hb, hml, hown, hts⟩ (k_X7_put l G K c fa2 16 (f_6.2 1) ((v6_6 + (-1)) - 1) r67 h070 e_70) ⟨va_cnB 3 hts gX0_value_X7_put_n41 rfl rfl rfl (nwm_HubTrains_Formula_41 hN.2.1) (hts (.initialized RX7) (List.mem_of_getElem? (i := 4) rfl)) hd_X7_put.2 ⟨Nat.le_of_ble_eq_true rfl, Nat.le_of_ble_eq_true rfl⟩, (hts (.static yX7_put) (List.mem_of_getElem? (i := 19) rfl)), trivial⟩ hK hN hZ hP hD hS hA [2] rfl (by decide) rfl rfl hl.1 rfl (Nat.le_of_ble_eq_true rfl) dX0_value_70 ⟨Nat.zero_le _, Nat.zero_le _⟩ (fun H locs hP hD hS => ?_)
          have hP : va_P G vwCl (wF c fa0 fa1 fa2 fn (sa f_6 1 h070)) H := hP
          have hD : va_D A (wF c fa0 fa1 fa2 fn (sa f_6 1 h070)) := hD
          refine lv_goto (tgt := 100) hx hb dX0_value_73 (by decide) ?_
          refine lv_iinc (k := 8) (v := (v7_6 + 1)) (lv' := [(7, .int (v7_6 + 1)), (6, .int (v6_6 + (-1))), (8, .int x8_23), (0, .ref fa0), (1, .int p0), (2, .int p1), (3, .int p2), (4, .int p3), (5, .int p4)]) hx hb dX0_value_100 hl rfl rfl (by decide) rfl (fun ls hl => ?_)
          refine lv_goto (tgt := 6) hx hb dX0_value_103 (by decide) ?_
          exact ih_6 (v6_6 + (-1)) (v7_6 + 1) (sa f_6 1 h070) H locs ls hP hD hS (lv_sub hl [3, 4, 5, 6, 7, 8, 1, 0] rfl) hm
  exact L_6 FUEL 0 0 f H locs ls hP hD hS (lv_sub hl [2, 3, 4, 5, 6, 7, 1, 0] rfl) hm
