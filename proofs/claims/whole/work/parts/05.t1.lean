
def f_X7_lowNumber (p0 : Int32) : Option Int32 :=
  some ((p0 / 10))

abbrev rm_X7_lowNumber : Room := { frames := 0, cells := 0, slots := 0, locals := 0 }
theorem hd_X7_lowNumber : yX7_lowNumber.cls = RX7 ∧ yX7_lowNumber.cls ≠ "java/lang/invoke/MethodHandle" ∧ yX7_lowNumber.cls ≠ "java/lang/invoke/VarHandle" ∧ (parseMethodDescriptor yX7_lowNumber.desc).map (fun d => d.parameters.length) = some 1 := by decide +kernel
set_option maxHeartbeats 4000000 in
set_option maxRecDepth 100000 in
theorem k_X7_lowNumber (l : Launch) (G : va_G) (K : (Nat → Nat) × (Nat → Nat)) (c : Nat → ClassId) (p0 : Int32) (r : Int32) (hm : f_X7_lowNumber p0 = some (r)) : zMi l yX7_lowNumber wsX7_lowNumber rm_X7_lowNumber G K (TY c) [.int p0] ([]) ([]) r := by
  refine zMi.of (cc := cX7_lowNumber) (maxL := 1) (lv := [(0, .int p0)]) (by decide) rfl (Nat.le_of_ble_eq_true rfl) rfl ?_
  intro p e s m args below meth c1 A Q H locs hx hb hml hown hts hK hN hZ hP hD hA hS hend ls hl
  have hown : s.vm.findClass RX7 = some m.cls := hown
  unfold f_X7_lowNumber at hm
  refine lv_iload_n hx hb dX7_lowNumber_0 rfl (lv_at hl 0 rfl) ?_
  refine lv_bipush (v := 10) hx hb dX7_lowNumber_1 (by decide) ?_
  refine lv_idiv hx hb dX7_lowNumber_3 (by decide) ?_
  exact hend H locs ls _ _ _ rfl (Option.some.inj hm) rfl hP hD hS dX7_lowNumber_4


def f_X7_highNumber (p0 : Int32) : Option Int32 :=
  some ((p0 - p0 / 10 * 10))

abbrev rm_X7_highNumber : Room := { frames := 0, cells := 0, slots := 0, locals := 0 }
theorem hd_X7_highNumber : yX7_highNumber.cls = RX7 ∧ yX7_highNumber.cls ≠ "java/lang/invoke/MethodHandle" ∧ yX7_highNumber.cls ≠ "java/lang/invoke/VarHandle" ∧ (parseMethodDescriptor yX7_highNumber.desc).map (fun d => d.parameters.length) = some 1 := by decide +kernel
set_option maxHeartbeats 4000000 in
set_option maxRecDepth 100000 in
theorem k_X7_highNumber (l : Launch) (G : va_G) (K : (Nat → Nat) × (Nat → Nat)) (c : Nat → ClassId) (p0 : Int32) (r : Int32) (hm : f_X7_highNumber p0 = some (r)) : zMi l yX7_highNumber wsX7_highNumber rm_X7_highNumber G K (TY c) [.int p0] ([]) ([]) r := by
  refine zMi.of (cc := cX7_highNumber) (maxL := 1) (lv := [(0, .int p0)]) (by decide) rfl (Nat.le_of_ble_eq_true rfl) rfl ?_
  intro p e s m args below meth c1 A Q H locs hx hb hml hown hts hK hN hZ hP hD hA hS hend ls hl
  have hown : s.vm.findClass RX7 = some m.cls := hown
  unfold f_X7_highNumber at hm
  refine lv_iload_n hx hb dX7_highNumber_0 rfl (lv_at hl 0 rfl) ?_
  refine lv_bipush (v := 10) hx hb dX7_highNumber_1 (by decide) ?_
  refine lv_irem hx hb dX7_highNumber_3 (by decide) ?_
  exact hend H locs ls _ _ _ rfl (Option.some.inj hm) rfl hP hD hS dX7_highNumber_4


def f_X7_isDouble (p0 : Int32) : Option Int32 :=
  bd1 (f_X7_lowNumber p0) fun (r1 : Int32) => bd1 (f_X7_highNumber p0) fun (r5 : Int32) => if r1 = r5 then (some (1)) else (some (0))

abbrev rm_X7_isDouble : Room := { frames := 1, cells := 0, slots := 0, locals := 20 }
theorem hd_X7_isDouble : yX7_isDouble.cls = RX7 ∧ yX7_isDouble.cls ≠ "java/lang/invoke/MethodHandle" ∧ yX7_isDouble.cls ≠ "java/lang/invoke/VarHandle" ∧ (parseMethodDescriptor yX7_isDouble.desc).map (fun d => d.parameters.length) = some 1 := by decide +kernel
set_option maxHeartbeats 4000000 in
set_option maxRecDepth 100000 in
theorem k_X7_isDouble (l : Launch) (G : va_G) (K : (Nat → Nat) × (Nat → Nat)) (c : Nat → ClassId) (p0 : Int32) (r : Int32) (hm : f_X7_isDouble p0 = some (r)) : zMi l yX7_isDouble wsX7_isDouble rm_X7_isDouble G K (TY c) [.int p0] ([]) ([]) r := by
  refine zMi.of (cc := cX7_isDouble) (maxL := 1) (lv := [(0, .int p0)]) (by decide) rfl (Nat.le_of_ble_eq_true rfl) rfl ?_
  intro p e s m args below meth c1 A Q H locs hx hb hml hown hts hK hN hZ hP hD hA hS hend ls hl
  have hown : s.vm.findClass RX7 = some m.cls := hown
  unfold f_X7_isDouble at hm
  refine lv_iload_n hx hb dX7_isDouble_0 rfl (lv_at hl 0 rfl) ?_
  obtain ⟨r1, e_1, hm⟩ := bd1_s hm
  refine zcSi (As := [.int p0]) (rest := []) ⟨hx, hb, hml, hown, hts⟩ (k_X7_lowNumber l G K c p0 r1 e_1) (va_cwS 1 hts gX7_isDouble_X7_lowNumber rfl rfl rfl hd_X7_lowNumber.2 ⟨Nat.le_of_ble_eq_true rfl, Nat.le_of_ble_eq_true rfl⟩) hK hN hZ hP hD hS hA [] rfl (by decide) rfl rfl hl.1 rfl (Nat.le_of_ble_eq_true rfl) dX7_isDouble_1 ⟨Nat.zero_le _, Nat.zero_le _⟩ (fun H locs hP hD hS => ?_)
  have hP : va_P G vwCl ([]) H := hP
  have hD : va_D A ([]) := hD
  refine lv_iload_n hx hb dX7_isDouble_4 rfl (lv_at hl 0 rfl) ?_
  obtain ⟨r5, e_5, hm⟩ := bd1_s hm
  refine zcSi (As := [.int p0]) (rest := [.int r1]) ⟨hx, hb, hml, hown, hts⟩ (k_X7_highNumber l G K c p0 r5 e_5) (va_cwS 1 hts gX7_isDouble_X7_highNumber rfl rfl rfl hd_X7_highNumber.2 ⟨Nat.le_of_ble_eq_true rfl, Nat.le_of_ble_eq_true rfl⟩) hK hN hZ hP hD hS hA [] rfl (by decide) rfl rfl hl.1 rfl (Nat.le_of_ble_eq_true rfl) dX7_isDouble_5 ⟨Nat.zero_le _, Nat.zero_le _⟩ (fun H locs hP hD hS => ?_)
  have hP : va_P G vwCl ([]) H := hP
  have hD : va_D A ([]) := hD
  refine lv_icmp_ne (tgt := 15) hx hb dX7_isDouble_8 (by decide) (fun c_8 => ?_) (fun c_8 => ?_)
  · have hm := ifn c_8 hm
    refine lv_iconst (v := 0) hx hb dX7_isDouble_15 (by decide) ?_
    exact hend H locs ls _ _ _ (by decide) (Option.some.inj hm) rfl hP hD hS dX7_isDouble_16
  · have hm := ifp c_8 hm
    refine lv_iconst (v := 1) hx hb dX7_isDouble_11 (by decide) ?_
    refine lv_goto (tgt := 16) hx hb dX7_isDouble_12 (by decide) ?_
    exact hend H locs ls _ _ _ (by decide) (Option.some.inj hm) rfl hP hD hS dX7_isDouble_16


def f_X7_pipsOf (p0 : Int32) : Option Int32 :=
  bd1 (f_X7_lowNumber p0) fun (r1 : Int32) => bd1 (f_X7_highNumber p0) fun (r5 : Int32) => some ((r1 + r5))

abbrev rm_X7_pipsOf : Room := { frames := 1, cells := 0, slots := 0, locals := 20 }
theorem hd_X7_pipsOf : yX7_pipsOf.cls = RX7 ∧ yX7_pipsOf.cls ≠ "java/lang/invoke/MethodHandle" ∧ yX7_pipsOf.cls ≠ "java/lang/invoke/VarHandle" ∧ (parseMethodDescriptor yX7_pipsOf.desc).map (fun d => d.parameters.length) = some 1 := by decide +kernel
set_option maxHeartbeats 4000000 in
set_option maxRecDepth 100000 in
theorem k_X7_pipsOf (l : Launch) (G : va_G) (K : (Nat → Nat) × (Nat → Nat)) (c : Nat → ClassId) (p0 : Int32) (r : Int32) (hm : f_X7_pipsOf p0 = some (r)) : zMi l yX7_pipsOf wsX7_pipsOf rm_X7_pipsOf G K (TY c) [.int p0] ([]) ([]) r := by
  refine zMi.of (cc := cX7_pipsOf) (maxL := 1) (lv := [(0, .int p0)]) (by decide) rfl (Nat.le_of_ble_eq_true rfl) rfl ?_
  intro p e s m args below meth c1 A Q H locs hx hb hml hown hts hK hN hZ hP hD hA hS hend ls hl
  have hown : s.vm.findClass RX7 = some m.cls := hown
  unfold f_X7_pipsOf at hm
  refine lv_iload_n hx hb dX7_pipsOf_0 rfl (lv_at hl 0 rfl) ?_
  obtain ⟨r1, e_1, hm⟩ := bd1_s hm
  refine zcSi (As := [.int p0]) (rest := []) ⟨hx, hb, hml, hown, hts⟩ (k_X7_lowNumber l G K c p0 r1 e_1) (va_cwS 1 hts gX7_pipsOf_X7_lowNumber rfl rfl rfl hd_X7_lowNumber.2 ⟨Nat.le_of_ble_eq_true rfl, Nat.le_of_ble_eq_true rfl⟩) hK hN hZ hP hD hS hA [] rfl (by decide) rfl rfl hl.1 rfl (Nat.le_of_ble_eq_true rfl) dX7_pipsOf_1 ⟨Nat.zero_le _, Nat.zero_le _⟩ (fun H locs hP hD hS => ?_)
  have hP : va_P G vwCl ([]) H := hP
  have hD : va_D A ([]) := hD
  refine lv_iload_n hx hb dX7_pipsOf_4 rfl (lv_at hl 0 rfl) ?_
  obtain ⟨r5, e_5, hm⟩ := bd1_s hm
  refine zcSi (As := [.int p0]) (rest := [.int r1]) ⟨hx, hb, hml, hown, hts⟩ (k_X7_highNumber l G K c p0 r5 e_5) (va_cwS 1 hts gX7_pipsOf_X7_highNumber rfl rfl rfl hd_X7_highNumber.2 ⟨Nat.le_of_ble_eq_true rfl, Nat.le_of_ble_eq_true rfl⟩) hK hN hZ hP hD hS hA [] rfl (by decide) rfl rfl hl.1 rfl (Nat.le_of_ble_eq_true rfl) dX7_pipsOf_5 ⟨Nat.zero_le _, Nat.zero_le _⟩ (fun H locs hP hD hS => ?_)
  have hP : va_P G vwCl ([]) H := hP
  have hD : va_D A ([]) := hD
  refine lv_iadd hx hb dX7_pipsOf_8 ?_
  exact hend H locs ls _ _ _ rfl (Option.some.inj hm) rfl hP hD hS dX7_pipsOf_9


def f_X7_hasNumber (p0 : Int32) (p1 : Int32) : Option Int32 :=
  bd1 (f_X7_lowNumber p0) fun (r1 : Int32) => if r1 = p1 then (some (1)) else (bd1 (f_X7_highNumber p0) fun (r9 : Int32) => if r9 = p1 then (some (1)) else (some (0)))

abbrev rm_X7_hasNumber : Room := { frames := 1, cells := 0, slots := 0, locals := 20 }
theorem hd_X7_hasNumber : yX7_hasNumber.cls = RX7 ∧ yX7_hasNumber.cls ≠ "java/lang/invoke/MethodHandle" ∧ yX7_hasNumber.cls ≠ "java/lang/invoke/VarHandle" ∧ (parseMethodDescriptor yX7_hasNumber.desc).map (fun d => d.parameters.length) = some 2 := by decide +kernel
set_option maxHeartbeats 4000000 in
set_option maxRecDepth 100000 in
theorem k_X7_hasNumber (l : Launch) (G : va_G) (K : (Nat → Nat) × (Nat → Nat)) (c : Nat → ClassId) (p0 : Int32) (p1 : Int32) (r : Int32) (hm : f_X7_hasNumber p0 p1 = some (r)) : zMi l yX7_hasNumber wsX7_hasNumber rm_X7_hasNumber G K (TY c) [.int p0, .int p1] ([]) ([]) r := by
  refine zMi.of (cc := cX7_hasNumber) (maxL := 2) (lv := [(0, .int p0), (1, .int p1)]) (by decide) rfl (Nat.le_of_ble_eq_true rfl) rfl ?_
  intro p e s m args below meth c1 A Q H locs hx hb hml hown hts hK hN hZ hP hD hA hS hend ls hl
  have hown : s.vm.findClass RX7 = some m.cls := hown
  unfold f_X7_hasNumber at hm
  refine lv_iload_n hx hb dX7_hasNumber_0 rfl (lv_at hl 0 rfl) ?_
  obtain ⟨r1, e_1, hm⟩ := bd1_s hm
  refine zcSi (As := [.int p0]) (rest := []) ⟨hx, hb, hml, hown, hts⟩ (k_X7_lowNumber l G K c p0 r1 e_1) (va_cwS 1 hts gX7_hasNumber_X7_lowNumber rfl rfl rfl hd_X7_lowNumber.2 ⟨Nat.le_of_ble_eq_true rfl, Nat.le_of_ble_eq_true rfl⟩) hK hN hZ hP hD hS hA [] rfl (by decide) rfl rfl hl.1 rfl (Nat.le_of_ble_eq_true rfl) dX7_hasNumber_1 ⟨Nat.zero_le _, Nat.zero_le _⟩ (fun H locs hP hD hS => ?_)
  have hP : va_P G vwCl ([]) H := hP
  have hD : va_D A ([]) := hD
  refine lv_iload_n hx hb dX7_hasNumber_4 rfl (lv_at hl 1 rfl) ?_
  refine lv_icmp_eq (tgt := 16) hx hb dX7_hasNumber_5 (by decide) (fun c_5 => ?_) (fun c_5 => ?_)
  · have hm := ifp c_5 hm
    refine lv_iconst (v := 1) hx hb dX7_hasNumber_16 (by decide) ?_
    refine lv_goto (tgt := 21) hx hb dX7_hasNumber_17 (by decide) ?_
    exact hend H locs ls _ _ _ (by decide) (Option.some.inj hm) rfl hP hD hS dX7_hasNumber_21
  · have hm := ifn c_5 hm
    refine lv_iload_n hx hb dX7_hasNumber_8 rfl (lv_at hl 0 rfl) ?_
    obtain ⟨r9, e_9, hm⟩ := bd1_s hm
    refine zcSi (As := [.int p0]) (rest := []) ⟨hx, hb, hml, hown, hts⟩ (k_X7_highNumber l G K c p0 r9 e_9) (va_cwS 1 hts gX7_hasNumber_X7_highNumber rfl rfl rfl hd_X7_highNumber.2 ⟨Nat.le_of_ble_eq_true rfl, Nat.le_of_ble_eq_true rfl⟩) hK hN hZ hP hD hS hA [] rfl (by decide) rfl rfl hl.1 rfl (Nat.le_of_ble_eq_true rfl) dX7_hasNumber_9 ⟨Nat.zero_le _, Nat.zero_le _⟩ (fun H locs hP hD hS => ?_)
    have hP : va_P G vwCl ([]) H := hP
    have hD : va_D A ([]) := hD
    refine lv_iload_n hx hb dX7_hasNumber_12 rfl (lv_at hl 1 rfl) ?_
    refine lv_icmp_ne (tgt := 20) hx hb dX7_hasNumber_13 (by decide) (fun c_13 => ?_) (fun c_13 => ?_)
    · have hm := ifn c_13 hm
      refine lv_iconst (v := 0) hx hb dX7_hasNumber_20 (by decide) ?_
      exact hend H locs ls _ _ _ (by decide) (Option.some.inj hm) rfl hP hD hS dX7_hasNumber_21
    · have hm := ifp c_13 hm
      refine lv_iconst (v := 1) hx hb dX7_hasNumber_16 (by decide) ?_
      refine lv_goto (tgt := 21) hx hb dX7_hasNumber_17 (by decide) ?_
      exact hend H locs ls _ _ _ (by decide) (Option.some.inj hm) rfl hP hD hS dX7_hasNumber_21


def f_X7_look (n0 : Nat) (h0 : Nat → Int32) (p1 : Int32) : Option Int32 :=
  if p1 < 0 then (some (0)) else (if (nI n0) ≤ p1 then (some (0)) else (gd (inb p1 n0) <| some ((h0 p1.toNatClampNeg))))

abbrev rm_X7_look : Room := { frames := 0, cells := 0, slots := 0, locals := 0 }
theorem hd_X7_look : yX7_look.cls = RX7 ∧ yX7_look.cls ≠ "java/lang/invoke/MethodHandle" ∧ yX7_look.cls ≠ "java/lang/invoke/VarHandle" ∧ (parseMethodDescriptor yX7_look.desc).map (fun d => d.parameters.length) = some 2 := by decide +kernel
set_option maxHeartbeats 4000000 in
set_option maxRecDepth 100000 in
theorem k_X7_look (l : Launch) (G : va_G) (K : (Nat → Nat) × (Nat → Nat)) (c : Nat → ClassId) (q0 : Nat) (n0 : Nat) (h0 : Nat → Int32) (p1 : Int32) (r : Int32) (hm : f_X7_look n0 h0 p1 = some (r)) : zMi l yX7_look wsX7_look rm_X7_look G K (TY c) [.ref q0, .int p1] ([(q0, .inl (c 0, n0, .inl h0))]) ([(q0, .inl (c 0, n0, .inl h0))]) r := by
  refine zMi.of (cc := cX7_look) (maxL := 2) (lv := [(0, .ref q0), (1, .int p1)]) (by decide) rfl (Nat.le_of_ble_eq_true rfl) rfl ?_
  intro p e s m args below meth c1 A Q H locs hx hb hml hown hts hK hN hZ hP hD hA hS hend ls hl
  have hown : s.vm.findClass RX7 = some m.cls := hown
  unfold f_X7_look at hm
  refine lv_iload_n hx hb dX7_look_0 rfl (lv_at hl 1 rfl) ?_
  refine lv_if_lt (tgt := 16) hx hb dX7_look_1 (by decide) (fun c_1 => ?_) (fun c_1 => ?_)
  · have hm := ifp c_1 hm
    refine lv_iconst (v := 0) hx hb dX7_look_16 (by decide) ?_
    exact hend H locs ls _ _ _ rfl (Option.some.inj hm) rfl hP hD hS dX7_look_17
  · have hm := ifn c_1 hm
    refine lv_iload_n hx hb dX7_look_4 rfl (lv_at hl 1 rfl) ?_
    refine lv_aload_n hx hb dX7_look_5 rfl (lv_at hl 0 rfl) ?_
    refine va_alen (D := G) (v := (nI n0)) hx hb hK hP 0 0 rfl rfl rfl dX7_look_6 ?_
    refine lv_icmp_ge (tgt := 16) hx hb dX7_look_7 (by decide) (fun c_7 => ?_) (fun c_7 => ?_)
    · have hm := ifp c_7 hm
      refine lv_iconst (v := 0) hx hb dX7_look_16 (by decide) ?_
      exact hend H locs ls _ _ _ rfl (Option.some.inj hm) rfl hP hD hS dX7_look_17
    · have hm := ifn c_7 hm
      refine lv_aload_n hx hb dX7_look_10 rfl (lv_at hl 0 rfl) ?_
      refine lv_iload_n hx hb dX7_look_11 rfl (lv_at hl 1 rfl) ?_
      obtain ⟨h_12, hm⟩ := gd_s hm
      refine va_iald (D := G) hx hb hK hP 0 0 rfl rfl (inb_s h_12) dX7_look_12 ?_
      refine lv_goto (tgt := 17) hx hb dX7_look_13 (by decide) ?_
      exact hend H locs ls _ _ _ rfl (Option.some.inj hm) rfl hP hD hS dX7_look_17


def f_X7_put (n0 : Nat) (h0 : Nat → Int32) (p1 : Int32) (p2 : Int32) : Option ((Nat → Int32)) :=
  if p1 < 0 then (some (h0)) else (if (nI n0) ≤ p1 then (some (h0)) else (gd (inb p1 n0) <| nmd (upd h0 p1.toNatClampNeg p2) fun (w13 : Nat → Int32) => some (w13)))

abbrev rm_X7_put : Room := { frames := 0, cells := 0, slots := 0, locals := 0 }
theorem hd_X7_put : yX7_put.cls = RX7 ∧ yX7_put.cls ≠ "java/lang/invoke/MethodHandle" ∧ yX7_put.cls ≠ "java/lang/invoke/VarHandle" ∧ (parseMethodDescriptor yX7_put.desc).map (fun d => d.parameters.length) = some 3 := by decide +kernel
set_option maxHeartbeats 4000000 in
set_option maxRecDepth 100000 in
theorem k_X7_put (l : Launch) (G : va_G) (K : (Nat → Nat) × (Nat → Nat)) (c : Nat → ClassId) (q0 : Nat) (n0 : Nat) (h0 : Nat → Int32) (p1 : Int32) (p2 : Int32) (h0_r : Nat → Int32) (hm : f_X7_put n0 h0 p1 p2 = some (h0_r)) : zMv l yX7_put wsX7_put rm_X7_put G K (TY c) [.ref q0, .int p1, .int p2] ([(q0, .inl (c 0, n0, .inl h0))]) ([(q0, .inl (c 0, n0, .inl h0_r))]) := by
  refine zMv.of (cc := cX7_put) (maxL := 3) (lv := [(0, .ref q0), (1, .int p1), (2, .int p2)]) (by decide) rfl (Nat.le_of_ble_eq_true rfl) rfl ?_
  intro p e s m args below meth c1 A Q H locs hx hb hml hown hts hK hN hZ hP hD hA hS hend ls hl
  have hown : s.vm.findClass RX7 = some m.cls := hown
  unfold f_X7_put at hm
  refine lv_iload_n hx hb dX7_put_0 rfl (lv_at hl 1 rfl) ?_
  refine lv_if_lt (tgt := 14) hx hb dX7_put_1 (by decide) (fun c_1 => ?_) (fun c_1 => ?_)
  · have hm := ifp c_1 hm
    exact hend H locs ls _ _ (zc1 (fun (z0 : Nat → Int32) => ([(q0, .inl (c 0, n0, .inl z0))] : va_W)) (Option.some.inj hm)) hP hD hS dX7_put_14
  · have hm := ifn c_1 hm
    refine lv_iload_n hx hb dX7_put_4 rfl (lv_at hl 1 rfl) ?_
    refine lv_aload_n hx hb dX7_put_5 rfl (lv_at hl 0 rfl) ?_
    refine va_alen (D := G) (v := (nI n0)) hx hb hK hP 0 0 rfl rfl rfl dX7_put_6 ?_
    refine lv_icmp_ge (tgt := 14) hx hb dX7_put_7 (by decide) (fun c_7 => ?_) (fun c_7 => ?_)
    · have hm := ifp c_7 hm
      exact hend H locs ls _ _ (zc1 (fun (z0 : Nat → Int32) => ([(q0, .inl (c 0, n0, .inl z0))] : va_W)) (Option.some.inj hm)) hP hD hS dX7_put_14
    · have hm := ifn c_7 hm
      refine lv_aload_n hx hb dX7_put_10 rfl (lv_at hl 0 rfl) ?_
      refine lv_iload_n hx hb dX7_put_11 rfl (lv_at hl 1 rfl) ?_
      refine lv_iload_n hx hb dX7_put_12 rfl (lv_at hl 2 rfl) ?_
      obtain ⟨h_13, hm⟩ := gd_s hm
      refine va_iast (D := G) hx hb hK hP hD hS 0 0 rfl rfl (inb_s h_13) dX7_put_13 (fun H locs hP hD hS => ?_)
      obtain ⟨w13, e_w13⟩ : ∃ z : Nat → Int32, z = upd h0 p1.toNatClampNeg p2 := ⟨_, rfl⟩
      have hP : va_P G vwCl ([(q0, .inl (c 0, n0, .inl w13))]) H := by rw [e_w13]; exact hP
      have hD : va_D A ([(q0, .inl (c 0, n0, .inl w13))]) := by rw [e_w13]; exact hD
      have hm := nmd_s hm w13 e_w13
      exact hend H locs ls _ _ (zc1 (fun (z0 : Nat → Int32) => ([(q0, .inl (c 0, n0, .inl z0))] : va_W)) (Option.some.inj hm)) hP hD hS dX7_put_14


def f_X4_clear (k : SA) : Option SA :=
  some ((ss (ss k 0 0) 1 0))

abbrev rm_X4_clear : Room := { frames := 0, cells := 0, slots := 0, locals := 0 }
theorem hd_X4_clear : yX4_clear.cls = RX4 ∧ yX4_clear.cls ≠ "java/lang/invoke/MethodHandle" ∧ yX4_clear.cls ≠ "java/lang/invoke/VarHandle" ∧ (parseMethodDescriptor yX4_clear.desc).map (fun d => d.parameters.length) = some 0 := by decide +kernel
set_option maxHeartbeats 4000000 in
set_option maxRecDepth 100000 in
theorem k_X4_clear (l : Launch) (G : va_G) (K : (Nat → Nat) × (Nat → Nat)) (c : Nat → ClassId) (ka0 : Nat) (ka1 : Nat) (k : SA) (k_r : SA) (hm : f_X4_clear k = some (k_r)) : zMv l yX4_clear wsX4_clear rm_X4_clear G K (TY c) [.ref ka0] (wK c ka0 ka1 k) (wK c ka0 ka1 k_r) := by
  refine zMv.of (cc := cX4_clear) (maxL := 1) (lv := [(0, .ref ka0)]) (by decide) rfl (Nat.le_of_ble_eq_true rfl) rfl ?_
  intro p e s m args below meth c1 A Q H locs hx hb hml hown hts hK hN hZ hP hD hA hS hend ls hl
  have hown : s.vm.findClass RX4 = some m.cls := hown
  have hi_4 : ∀ w ∈ wsX40, w ∈ wsX4_clear := (fun w h => List.mem_cons_of_mem _ (List.mem_append_right _ (h)))
  unfold f_X4_clear at hm
  refine lv_aload_n hx hb dX4_clear_0 rfl (lv_at hl 0 rfl) ?_
  refine lv_iconst (v := 0) hx hb dX4_clear_1 (by decide) ?_
  refine va_put (D := G) (ci := 4) (v := .int 0) (C := RX4) (T := TX4) (N := 3) hx hb hts hi_4 tyX4 tyX4_ok nmX4 hown hK hP hD hS 0 rfl rfl 1 (by decide) (hts (.fieldLink RX4 19 "HubTrains$Stock" "first" "I") (List.mem_of_getElem? (i := 1) rfl)) (fun _ h9 => h9) rfl (tyX4_ok 1 (by decide)) rfl rfl (Nat.le_of_ble_eq_true rfl) dX4_clear_2 (fun H locs hP hD hS => ?_)
  have hP : va_P G vwCl (wK c ka0 ka1 (ss k 0 0)) H := hP
  have hD : va_D A (wK c ka0 ka1 (ss k 0 0)) := hD
  refine lv_aload_n hx hb dX4_clear_5 rfl (lv_at hl 0 rfl) ?_
  refine lv_iconst (v := 0) hx hb dX4_clear_6 (by decide) ?_
  refine va_put (D := G) (ci := 4) (v := .int 0) (C := RX4) (T := TX4) (N := 3) hx hb hts hi_4 tyX4 tyX4_ok nmX4 hown hK hP hD hS 0 rfl rfl 2 (by decide) (hts (.fieldLink RX4 23 "HubTrains$Stock" "end" "I") (List.mem_of_getElem? (i := 2) rfl)) (fun _ h9 => h9) rfl (tyX4_ok 2 (by decide)) rfl rfl (Nat.le_of_ble_eq_true rfl) dX4_clear_7 (fun H locs hP hD hS => ?_)
  have hP : va_P G vwCl (wK c ka0 ka1 (ss (ss k 0 0) 1 0)) H := hP
  have hD : va_D A (wK c ka0 ka1 (ss (ss k 0 0) 1 0)) := hD
  exact hend H locs ls _ _ (zc1 (fun (z0 : SA) => (wK c ka0 ka1 z0 : va_W)) (Option.some.inj hm)) hP hD hS dX4_clear_10


def f_X4_size (k : SA) : Option Int32 :=
  some (((k.1 1) - (k.1 0)))

abbrev rm_X4_size : Room := { frames := 0, cells := 0, slots := 0, locals := 0 }
theorem hd_X4_size : yX4_size.cls = RX4 ∧ yX4_size.cls ≠ "java/lang/invoke/MethodHandle" ∧ yX4_size.cls ≠ "java/lang/invoke/VarHandle" ∧ (parseMethodDescriptor yX4_size.desc).map (fun d => d.parameters.length) = some 0 := by decide +kernel
set_option maxHeartbeats 4000000 in
set_option maxRecDepth 100000 in
theorem k_X4_size (l : Launch) (G : va_G) (K : (Nat → Nat) × (Nat → Nat)) (c : Nat → ClassId) (ka0 : Nat) (ka1 : Nat) (k : SA) (r : Int32) (hm : f_X4_size k = some (r)) : zMi l yX4_size wsX4_size rm_X4_size G K (TY c) [.ref ka0] (wK c ka0 ka1 k) (wK c ka0 ka1 k) r := by
  refine zMi.of (cc := cX4_size) (maxL := 1) (lv := [(0, .ref ka0)]) (by decide) rfl (Nat.le_of_ble_eq_true rfl) rfl ?_
  intro p e s m args below meth c1 A Q H locs hx hb hml hown hts hK hN hZ hP hD hA hS hend ls hl
  have hown : s.vm.findClass RX4 = some m.cls := hown
  have hi_4 : ∀ w ∈ wsX40, w ∈ wsX4_size := (fun w h => List.mem_cons_of_mem _ (List.mem_append_right _ (h)))
  unfold f_X4_size at hm
  refine lv_aload_n hx hb dX4_size_0 rfl (lv_at hl 0 rfl) ?_
  refine va_get (D := G) (ci := 4) (v := .int (k.1 1)) (C := RX4) (T := TX4) (N := 3) hx hb hts hi_4 hown hK hP 0 rfl rfl 2 (by decide) (hts (.fieldLink RX4 23 "HubTrains$Stock" "end" "I") (List.mem_of_getElem? (i := 1) rfl)) (fun _ h9 => h9) rfl dX4_size_1 ?_
  refine lv_aload_n hx hb dX4_size_4 rfl (lv_at hl 0 rfl) ?_
  refine va_get (D := G) (ci := 4) (v := .int (k.1 0)) (C := RX4) (T := TX4) (N := 3) hx hb hts hi_4 hown hK hP 0 rfl rfl 1 (by decide) (hts (.fieldLink RX4 19 "HubTrains$Stock" "first" "I") (List.mem_of_getElem? (i := 2) rfl)) (fun _ h9 => h9) rfl dX4_size_5 ?_
  refine lv_isub hx hb dX4_size_8 ?_
  exact hend H locs ls _ _ _ rfl (Option.some.inj hm) rfl hP hD hS dX4_size_9


def f_X4_add (k : SA) (p0 : Int32) : Option SA :=
  if (55 : Int32) ≤ (k.1 1) then (some (k)) else (bd1 (f_X7_put 55 (k.2 0) (k.1 1) p0) fun (h021 : Nat → Int32) => some ((sa (ss k 1 ((k.1 1) + 1)) 0 h021)))

abbrev rm_X4_add : Room := { frames := 1, cells := 0, slots := 0, locals := 22 }
theorem hd_X4_add : yX4_add.cls = RX4 ∧ yX4_add.cls ≠ "java/lang/invoke/MethodHandle" ∧ yX4_add.cls ≠ "java/lang/invoke/VarHandle" ∧ (parseMethodDescriptor yX4_add.desc).map (fun d => d.parameters.length) = some 1 := by decide +kernel
set_option maxHeartbeats 4000000 in
set_option maxRecDepth 100000 in
theorem k_X4_add (l : Launch) (G : va_G) (K : (Nat → Nat) × (Nat → Nat)) (c : Nat → ClassId) (ka0 : Nat) (ka1 : Nat) (k : SA) (p0 : Int32) (k_r : SA) (hm : f_X4_add k p0 = some (k_r)) : zMv l yX4_add wsX4_add rm_X4_add G K (TY c) [.ref ka0, .int p0] (wK c ka0 ka1 k) (wK c ka0 ka1 k_r) := by
  refine zMv.of (cc := cX4_add) (maxL := 2) (lv := [(0, .ref ka0), (1, .int p0)]) (by decide) rfl (Nat.le_of_ble_eq_true rfl) rfl ?_
  intro p e s m args below meth c1 A Q H locs hx hb hml hown hts hK hN hZ hP hD hA hS hend ls hl
  have hown : s.vm.findClass RX4 = some m.cls := hown
  have hi_4 : ∀ w ∈ wsX40, w ∈ wsX4_add := (fun w h => List.mem_cons_of_mem _ (List.mem_append_right _ (h)))
  unfold f_X4_add at hm
  refine lv_aload_n hx hb dX4_add_0 rfl (lv_at hl 0 rfl) ?_
  refine va_get (D := G) (ci := 4) (v := .int (k.1 1)) (C := RX4) (T := TX4) (N := 3) hx hb hts hi_4 hown hK hP 0 rfl rfl 2 (by decide) (hts (.fieldLink RX4 23 "HubTrains$Stock" "end" "I") (List.mem_of_getElem? (i := 1) rfl)) (fun _ h9 => h9) rfl dX4_add_1 ?_
  refine lv_aload_n hx hb dX4_add_4 rfl (lv_at hl 0 rfl) ?_
  refine va_get (D := G) (ci := 4) (v := .ref ka1) (C := RX4) (T := TX4) (N := 3) hx hb hts hi_4 hown hK hP 0 rfl rfl 0 (by decide) (hts (.fieldLink RX4 9 "HubTrains$Stock" "tiles" "[I") (List.mem_of_getElem? (i := 2) rfl)) (fun _ h9 => h9) rfl dX4_add_5 ?_
  refine va_alen (D := G) (v := 55) hx hb hK hP 1 0 rfl rfl rfl dX4_add_8 ?_
  refine lv_icmp_ge (tgt := 34) hx hb dX4_add_9 (by decide) (fun c_9 => ?_) (fun c_9 => ?_)
  · have hm := ifp c_9 hm
    exact hend H locs ls _ _ (zc1 (fun (z0 : SA) => (wK c ka0 ka1 z0 : va_W)) (Option.some.inj hm)) hP hD hS dX4_add_34
  · have hm := ifn c_9 hm
    refine lv_aload_n hx hb dX4_add_12 rfl (lv_at hl 0 rfl) ?_
    refine va_get (D := G) (ci := 4) (v := .ref ka1) (C := RX4) (T := TX4) (N := 3) hx hb hts hi_4 hown hK hP 0 rfl rfl 0 (by decide) (hts (.fieldLink RX4 9 "HubTrains$Stock" "tiles" "[I") (List.mem_of_getElem? (i := 2) rfl)) (fun _ h9 => h9) rfl dX4_add_13 ?_
    refine lv_aload_n hx hb dX4_add_16 rfl (lv_at hl 0 rfl) ?_
    refine va_get (D := G) (ci := 4) (v := .int (k.1 1)) (C := RX4) (T := TX4) (N := 3) hx hb hts hi_4 hown hK hP 0 rfl rfl 2 (by decide) (hts (.fieldLink RX4 23 "HubTrains$Stock" "end" "I") (List.mem_of_getElem? (i := 1) rfl)) (fun _ h9 => h9) rfl dX4_add_17 ?_
    refine lv_iload_n hx hb dX4_add_20 rfl (lv_at hl 1 rfl) ?_
    obtain ⟨h021, e_21, hm⟩ := bd1_s hm
    refine zcSNv (As := [.ref ka1, .int (k.1 1), .int p0]) (rest := []) ⟨hx, hb, hml, hown, hts⟩ (k_X7_put l G K c ka1 55 (k.2 0) (k.1 1) p0 h021 e_21) ⟨va_cnB 3 hts gX4_add_X7_put_n26 rfl rfl rfl (nwm_HubTrains_Stock_26 hN.2.1) (hts (.initialized RX7) (List.mem_of_getElem? (i := 4) rfl)) hd_X7_put.2 ⟨Nat.le_of_ble_eq_true rfl, Nat.le_of_ble_eq_true rfl⟩, (hts (.static yX7_put) (List.mem_of_getElem? (i := 3) rfl)), trivial⟩ hK hN hZ hP hD hS hA [1] rfl (by decide) rfl rfl hl.1 rfl (Nat.le_of_ble_eq_true rfl) dX4_add_21 ⟨Nat.zero_le _, Nat.zero_le _⟩ (fun H locs hP hD hS => ?_)
    have hP : va_P G vwCl (wK c ka0 ka1 (sa k 0 h021)) H := hP
    have hD : va_D A (wK c ka0 ka1 (sa k 0 h021)) := hD
    refine lv_aload_n hx hb dX4_add_24 rfl (lv_at hl 0 rfl) ?_
    refine lv_dup hx hb dX4_add_25 rfl ?_
    refine va_get (D := G) (ci := 4) (v := .int (k.1 1)) (C := RX4) (T := TX4) (N := 3) hx hb hts hi_4 hown hK hP 0 rfl rfl 2 (by decide) (hts (.fieldLink RX4 23 "HubTrains$Stock" "end" "I") (List.mem_of_getElem? (i := 1) rfl)) (fun _ h9 => h9) rfl dX4_add_26 ?_
    refine lv_iconst (v := 1) hx hb dX4_add_29 (by decide) ?_
    refine lv_iadd hx hb dX4_add_30 ?_
    refine va_put (D := G) (ci := 4) (v := .int ((k.1 1) + 1)) (C := RX4) (T := TX4) (N := 3) hx hb hts hi_4 tyX4 tyX4_ok nmX4 hown hK hP hD hS 0 rfl rfl 2 (by decide) (hts (.fieldLink RX4 23 "HubTrains$Stock" "end" "I") (List.mem_of_getElem? (i := 1) rfl)) (fun _ h9 => h9) rfl (tyX4_ok 2 (by decide)) rfl rfl (Nat.le_of_ble_eq_true rfl) dX4_add_31 (fun H locs hP hD hS => ?_)
    have hP : va_P G vwCl (wK c ka0 ka1 (sa (ss k 1 ((k.1 1) + 1)) 0 h021)) H := hP
    have hD : va_D A (wK c ka0 ka1 (sa (ss k 1 ((k.1 1) + 1)) 0 h021)) := hD
    exact hend H locs ls _ _ (zc1 (fun (z0 : SA) => (wK c ka0 ka1 z0 : va_W)) (Option.some.inj hm)) hP hD hS dX4_add_34

def f_X4_mix_B9  (rec_9 : Int32 → Int32 → SA → Option (Int32 × SA)) (v2_9 : Int32) (v3_9 : Int32) (k_9 : SA) : Option (Int32 × SA) :=
  if v3_9 < 1 then (some (v2_9, k_9)) else (nmd ((v2_9 * 1103515245) + 12345) fun (x2_22 : Int32) => gd (nz (v3_9 + 1)) <| nmd (((x2_22 >>> ((16 : Int32) &&& 31)) &&& 32767) - ((x2_22 >>> ((16 : Int32) &&& 31)) &&& 32767) / (v3_9 + 1) * (v3_9 + 1)) fun (x4_35 : Int32) => bd1 (f_X7_look 55 (k_9.2 0) v3_9) fun (r42 : Int32) => bd1 (f_X7_look 55 (k_9.2 0) x4_35) fun (r58 : Int32) => bd1 (f_X7_put 55 (k_9.2 0) v3_9 r58) fun (h061 : Nat → Int32) => bd1 (f_X7_put 55 h061 x4_35 r42) fun (h072 : Nat → Int32) => rec_9 x2_22 (v3_9 + (-1)) (sa k_9 0 h072))

def f_X4_mix (k : SA) (p0 : Int32) : Option (Int32 × SA) :=
  itr3 f_X4_mix_B9 FUEL p0 ((k.1 1) - 1) k

abbrev rm_X4_mix : Room := { frames := 1, cells := 0, slots := 0, locals := 22 }
theorem hd_X4_mix : yX4_mix.cls = RX4 ∧ yX4_mix.cls ≠ "java/lang/invoke/MethodHandle" ∧ yX4_mix.cls ≠ "java/lang/invoke/VarHandle" ∧ (parseMethodDescriptor yX4_mix.desc).map (fun d => d.parameters.length) = some 1 := by decide +kernel
set_option maxHeartbeats 4000000 in
set_option maxRecDepth 100000 in
theorem k_X4_mix (l : Launch) (G : va_G) (K : (Nat → Nat) × (Nat → Nat)) (c : Nat → ClassId) (ka0 : Nat) (ka1 : Nat) (k : SA) (p0 : Int32) (r : Int32) (k_r : SA) (hm : f_X4_mix k p0 = some (r, k_r)) : zMi l yX4_mix wsX4_mix rm_X4_mix G K (TY c) [.ref ka0, .int p0] (wK c ka0 ka1 k) (wK c ka0 ka1 k_r) r := by
  refine zMi.of (cc := cX4_mix) (maxL := 6) (lv := [(0, .ref ka0), (1, .int p0)]) (by decide) rfl (Nat.le_of_ble_eq_true rfl) rfl ?_
  intro p e s m args below meth c1 A Q H locs hx hb hml hown hts hK hN hZ hP hD hA hS hend ls hl
  have hown : s.vm.findClass RX4 = some m.cls := hown
  have hi_4 : ∀ w ∈ wsX40, w ∈ wsX4_mix := (fun w h => List.mem_cons_of_mem _ (List.mem_append_right _ (h)))
  unfold f_X4_mix at hm
  refine lv_iload_n hx hb dX4_mix_0 rfl (lv_at hl 1 rfl) ?_
  refine lv_istore_n (lv' := [(2, .int p0), (0, .ref ka0), (1, .int p0)]) hx hb dX4_mix_1 rfl hl (by decide) rfl (fun ls hl => ?_)
  refine lv_aload_n hx hb dX4_mix_2 rfl (lv_at hl 1 rfl) ?_
  refine va_get (D := G) (ci := 4) (v := .int (k.1 1)) (C := RX4) (T := TX4) (N := 3) hx hb hts hi_4 hown hK hP 0 rfl rfl 2 (by decide) (hts (.fieldLink RX4 23 "HubTrains$Stock" "end" "I") (List.mem_of_getElem? (i := 1) rfl)) (fun _ h9 => h9) rfl dX4_mix_3 ?_
  refine lv_iconst (v := 1) hx hb dX4_mix_6 (by decide) ?_
  refine lv_isub hx hb dX4_mix_7 ?_
  refine lv_istore_n (lv' := [(3, .int ((k.1 1) - 1)), (2, .int p0), (0, .ref ka0), (1, .int p0)]) hx hb dX4_mix_8 rfl hl (by decide) rfl (fun ls hl => ?_)
  have L_9 : ∀ (n_9 : Nat) (v2_9 : Int32) (v3_9 : Int32) (k_9 : SA) (H : Heap) (locs : List Loc) (ls : Array Slot), va_P G vwCl (wK c ka0 ka1 k_9) H → va_D A (wK c ka0 ka1 k_9) → va_S A s.heap H locs → lv_has ls 6 [(0, .ref ka0), (2, .int v2_9), (3, .int v3_9)] → itr3 f_X4_mix_B9 n_9 v2_9 v3_9 k_9 = some (r, k_r) → W p l e rm_X4_mix s m args below meth c1 H locs 0 0 Q (F0 m 9 ls []) := by
    intro n_9
    induction n_9 with
    | zero => intro v2_9 v3_9 k_9 H locs ls hP hD hS hl hm; exact (itr3_0 hm).elim
    | succ n_9 ih_9 =>
      intro v2_9 v3_9 k_9 H locs ls hP hD hS hl hm
      have hm := itr3_s hm
      unfold f_X4_mix_B9 at hm
      refine lv_iload_n hx hb dX4_mix_9 rfl (lv_at hl 2 rfl) ?_
      refine lv_iconst (v := 1) hx hb dX4_mix_10 (by decide) ?_
      refine lv_icmp_lt (tgt := 81) hx hb dX4_mix_11 (by decide) (fun c_11 => ?_) (fun c_11 => ?_)
      · have hm := ifp c_11 hm
        refine lv_iload_n hx hb dX4_mix_81 rfl (lv_at hl 1 rfl) ?_
        exact hend H locs ls _ _ _ rfl (Prod.mk.inj (Option.some.inj hm)).1 (zc1 (fun (z0 : SA) => (wK c ka0 ka1 z0 : va_W)) (Prod.mk.inj (Option.some.inj hm)).2) hP hD hS dX4_mix_82
      · have hm := ifn c_11 hm
        refine lv_iload_n hx hb dX4_mix_14 rfl (lv_at hl 1 rfl) ?_
        refine lv_ldc (v := 1103515245) hx hb hown (hts (.constant RX4 30 (1103515245)) (List.mem_of_getElem? (i := 2) rfl)) dX4_mix_15 ?_
        refine lv_imul hx hb dX4_mix_17 ?_
        refine lv_sipush (v := 12345) hx hb dX4_mix_18 (by decide) ?_
        refine lv_iadd hx hb dX4_mix_21 ?_
        refine lv_topi (fun x2_22 e_x2_22 => ?_)
        have hm := nmd_s hm x2_22 e_x2_22
        refine lv_istore_n (lv' := [(2, .int x2_22), (0, .ref ka0), (3, .int v3_9)]) hx hb dX4_mix_22 rfl hl (by decide) rfl (fun ls hl => ?_)
        refine lv_iload_n hx hb dX4_mix_23 rfl (lv_at hl 0 rfl) ?_
        refine lv_bipush (v := 16) hx hb dX4_mix_24 (by decide) ?_
        refine lv_ishr hx hb dX4_mix_26 ?_
        refine lv_sipush (v := 32767) hx hb dX4_mix_27 (by decide) ?_
        refine lv_iand hx hb dX4_mix_30 ?_
        refine lv_iload_n hx hb dX4_mix_31 rfl (lv_at hl 2 rfl) ?_
        refine lv_iconst (v := 1) hx hb dX4_mix_32 (by decide) ?_
        refine lv_iadd hx hb dX4_mix_33 ?_
        obtain ⟨h_34, hm⟩ := gd_s hm
        refine lv_irem hx hb dX4_mix_34 (nz_s h_34) ?_
        refine lv_topi (fun x4_35 e_x4_35 => ?_)
        have hm := nmd_s hm x4_35 e_x4_35
        refine lv_istore (lv' := [(4, .int x4_35), (2, .int x2_22), (0, .ref ka0), (3, .int v3_9)]) hx hb dX4_mix_35 hl (by decide) rfl (fun ls hl => ?_)
        refine lv_aload_n hx hb dX4_mix_37 rfl (lv_at hl 2 rfl) ?_
        refine va_get (D := G) (ci := 4) (v := .ref ka1) (C := RX4) (T := TX4) (N := 3) hx hb hts hi_4 hown hK hP 0 rfl rfl 0 (by decide) (hts (.fieldLink RX4 9 "HubTrains$Stock" "tiles" "[I") (List.mem_of_getElem? (i := 3) rfl)) (fun _ h9 => h9) rfl dX4_mix_38 ?_
        refine lv_iload_n hx hb dX4_mix_41 rfl (lv_at hl 3 rfl) ?_
        obtain ⟨r42, e_42, hm⟩ := bd1_s hm
        refine zcSNi (As := [.ref ka1, .int v3_9]) (rest := []) ⟨hx, hb, hml, hown, hts⟩ (k_X7_look l G K c ka1 55 (k_9.2 0) v3_9 r42 e_42) ⟨va_cnB 2 hts gX4_mix_X7_look_n31 rfl rfl rfl (nwm_HubTrains_Stock_31 hN.2.1) (hts (.initialized RX7) (List.mem_of_getElem? (i := 5) rfl)) hd_X7_look.2 ⟨Nat.le_of_ble_eq_true rfl, Nat.le_of_ble_eq_true rfl⟩, (hts (.static yX7_look) (List.mem_of_getElem? (i := 4) rfl)), trivial⟩ hK hN hZ hP hD hS hA [1] rfl (by decide) rfl rfl hl.1 rfl (Nat.le_of_ble_eq_true rfl) dX4_mix_42 ⟨Nat.zero_le _, Nat.zero_le _⟩ (fun H locs hP hD hS => ?_)
        have hP : va_P G vwCl (wK c ka0 ka1 k_9) H := hP
        have hD : va_D A (wK c ka0 ka1 k_9) := hD
        refine lv_istore (lv' := [(5, .int r42), (4, .int x4_35), (2, .int x2_22), (0, .ref ka0), (3, .int v3_9)]) hx hb dX4_mix_45 hl (by decide) rfl (fun ls hl => ?_)
        refine lv_aload_n hx hb dX4_mix_47 rfl (lv_at hl 3 rfl) ?_
        refine va_get (D := G) (ci := 4) (v := .ref ka1) (C := RX4) (T := TX4) (N := 3) hx hb hts hi_4 hown hK hP 0 rfl rfl 0 (by decide) (hts (.fieldLink RX4 9 "HubTrains$Stock" "tiles" "[I") (List.mem_of_getElem? (i := 3) rfl)) (fun _ h9 => h9) rfl dX4_mix_48 ?_
        refine lv_iload_n hx hb dX4_mix_51 rfl (lv_at hl 4 rfl) ?_
        refine lv_aload_n hx hb dX4_mix_52 rfl (lv_at hl 3 rfl) ?_
        refine va_get (D := G) (ci := 4) (v := .ref ka1) (C := RX4) (T := TX4) (N := 3) hx hb hts hi_4 hown hK hP 0 rfl rfl 0 (by decide) (hts (.fieldLink RX4 9 "HubTrains$Stock" "tiles" "[I") (List.mem_of_getElem? (i := 3) rfl)) (fun _ h9 => h9) rfl dX4_mix_53 ?_
        refine lv_iload hx hb dX4_mix_56 (lv_at hl 1 rfl) ?_
        obtain ⟨r58, e_58, hm⟩ := bd1_s hm
        refine zcSNi (As := [.ref ka1, .int x4_35]) (rest := [.int v3_9, .ref ka1]) ⟨hx, hb, hml, hown, hts⟩ (k_X7_look l G K c ka1 55 (k_9.2 0) x4_35 r58 e_58) ⟨va_cnB 2 hts gX4_mix_X7_look_n31 rfl rfl rfl (nwm_HubTrains_Stock_31 hN.2.1) (hts (.initialized RX7) (List.mem_of_getElem? (i := 5) rfl)) hd_X7_look.2 ⟨Nat.le_of_ble_eq_true rfl, Nat.le_of_ble_eq_true rfl⟩, (hts (.static yX7_look) (List.mem_of_getElem? (i := 4) rfl)), trivial⟩ hK hN hZ hP hD hS hA [1] rfl (by decide) rfl rfl hl.1 rfl (Nat.le_of_ble_eq_true rfl) dX4_mix_58 ⟨Nat.zero_le _, Nat.zero_le _⟩ (fun H locs hP hD hS => ?_)
        have hP : va_P G vwCl (wK c ka0 ka1 k_9) H := hP
        have hD : va_D A (wK c ka0 ka1 k_9) := hD
        obtain ⟨h061, e_61, hm⟩ := bd1_s hm
        refine zcSNv (As := [.ref ka1, .int v3_9, .int r58]) (rest := []) ⟨hx, hb, hml, hown, hts⟩ (k_X7_put l G K c ka1 55 (k_9.2 0) v3_9 r58 h061 e_61) ⟨va_cnB 3 hts gX4_mix_X7_put_n26 rfl rfl rfl (nwm_HubTrains_Stock_26 hN.2.1) (hts (.initialized RX7) (List.mem_of_getElem? (i := 5) rfl)) hd_X7_put.2 ⟨Nat.le_of_ble_eq_true rfl, Nat.le_of_ble_eq_true rfl⟩, (hts (.static yX7_put) (List.mem_of_getElem? (i := 7) rfl)), trivial⟩ hK hN hZ hP hD hS hA [1] rfl (by decide) rfl rfl hl.1 rfl (Nat.le_of_ble_eq_true rfl) dX4_mix_61 ⟨Nat.zero_le _, Nat.zero_le _⟩ (fun H locs hP hD hS => ?_)
        have hP : va_P G vwCl (wK c ka0 ka1 (sa k_9 0 h061)) H := hP
        have hD : va_D A (wK c ka0 ka1 (sa k_9 0 h061)) := hD
        refine lv_aload_n hx hb dX4_mix_64 rfl (lv_at hl 3 rfl) ?_
        refine va_get (D := G) (ci := 4) (v := .ref ka1) (C := RX4) (T := TX4) (N := 3) hx hb hts hi_4 hown hK hP 0 rfl rfl 0 (by decide) (hts (.fieldLink RX4 9 "HubTrains$Stock" "tiles" "[I") (List.mem_of_getElem? (i := 3) rfl)) (fun _ h9 => h9) rfl dX4_mix_65 ?_
        refine lv_iload hx hb dX4_mix_68 (lv_at hl 1 rfl) ?_
        refine lv_iload hx hb dX4_mix_70 (lv_at hl 0 rfl) ?_
        obtain ⟨h072, e_72, hm⟩ := bd1_s hm
        refine zcSNv (As := [.ref ka1, .int x4_35, .int r42]) (rest := []) ⟨hx, hb, hml, hown, hts⟩ (k_X7_put l G K c ka1 55 h061 x4_35 r42 h072 e_72) ⟨va_cnB 3 hts gX4_mix_X7_put_n26 rfl rfl rfl (nwm_HubTrains_Stock_26 hN.2.1) (hts (.initialized RX7) (List.mem_of_getElem? (i := 5) rfl)) hd_X7_put.2 ⟨Nat.le_of_ble_eq_true rfl, Nat.le_of_ble_eq_true rfl⟩, (hts (.static yX7_put) (List.mem_of_getElem? (i := 7) rfl)), trivial⟩ hK hN hZ hP hD hS hA [1] rfl (by decide) rfl rfl hl.1 rfl (Nat.le_of_ble_eq_true rfl) dX4_mix_72 ⟨Nat.zero_le _, Nat.zero_le _⟩ (fun H locs hP hD hS => ?_)
        have hP : va_P G vwCl (wK c ka0 ka1 (sa k_9 0 h072)) H := hP
        have hD : va_D A (wK c ka0 ka1 (sa k_9 0 h072)) := hD
        refine lv_iinc (k := 4) (v := (v3_9 + (-1))) (lv' := [(3, .int (v3_9 + (-1))), (5, .int r42), (4, .int x4_35), (2, .int x2_22), (0, .ref ka0)]) hx hb dX4_mix_75 hl rfl rfl (by decide) rfl (fun ls hl => ?_)
        refine lv_goto (tgt := 9) hx hb dX4_mix_78 (by decide) ?_
        exact ih_9 x2_22 (v3_9 + (-1)) (sa k_9 0 h072) H locs ls hP hD hS (lv_sub hl [4, 3, 0] rfl) hm
  exact L_9 FUEL p0 ((k.1 1) - 1) k H locs ls hP hD hS (lv_sub hl [2, 1, 0] rfl) hm


def f_X4_takeFirst (k : SA) : Option (Int32 × SA) :=
  if (k.1 0) < (k.1 1) then (bd1 (f_X7_look 55 (k.2 0) (k.1 0)) fun (r21 : Int32) => some (r21, (ss k 0 ((k.1 0) + 1)))) else (some ((-1), k))

abbrev rm_X4_takeFirst : Room := { frames := 1, cells := 0, slots := 0, locals := 21 }
theorem hd_X4_takeFirst : yX4_takeFirst.cls = RX4 ∧ yX4_takeFirst.cls ≠ "java/lang/invoke/MethodHandle" ∧ yX4_takeFirst.cls ≠ "java/lang/invoke/VarHandle" ∧ (parseMethodDescriptor yX4_takeFirst.desc).map (fun d => d.parameters.length) = some 0 := by decide +kernel
set_option maxHeartbeats 4000000 in
set_option maxRecDepth 100000 in
theorem k_X4_takeFirst (l : Launch) (G : va_G) (K : (Nat → Nat) × (Nat → Nat)) (c : Nat → ClassId) (ka0 : Nat) (ka1 : Nat) (k : SA) (r : Int32) (k_r : SA) (hm : f_X4_takeFirst k = some (r, k_r)) : zMi l yX4_takeFirst wsX4_takeFirst rm_X4_takeFirst G K (TY c) [.ref ka0] (wK c ka0 ka1 k) (wK c ka0 ka1 k_r) r := by
  refine zMi.of (cc := cX4_takeFirst) (maxL := 2) (lv := [(0, .ref ka0)]) (by decide) rfl (Nat.le_of_ble_eq_true rfl) rfl ?_
  intro p e s m args below meth c1 A Q H locs hx hb hml hown hts hK hN hZ hP hD hA hS hend ls hl
  have hown : s.vm.findClass RX4 = some m.cls := hown
  have hi_4 : ∀ w ∈ wsX40, w ∈ wsX4_takeFirst := (fun w h => List.mem_cons_of_mem _ (List.mem_append_right _ (h)))
  unfold f_X4_takeFirst at hm
  refine lv_aload_n hx hb dX4_takeFirst_0 rfl (lv_at hl 0 rfl) ?_
  refine va_get (D := G) (ci := 4) (v := .int (k.1 0)) (C := RX4) (T := TX4) (N := 3) hx hb hts hi_4 hown hK hP 0 rfl rfl 1 (by decide) (hts (.fieldLink RX4 19 "HubTrains$Stock" "first" "I") (List.mem_of_getElem? (i := 1) rfl)) (fun _ h9 => h9) rfl dX4_takeFirst_1 ?_
  refine lv_aload_n hx hb dX4_takeFirst_4 rfl (lv_at hl 0 rfl) ?_
  refine va_get (D := G) (ci := 4) (v := .int (k.1 1)) (C := RX4) (T := TX4) (N := 3) hx hb hts hi_4 hown hK hP 0 rfl rfl 2 (by decide) (hts (.fieldLink RX4 23 "HubTrains$Stock" "end" "I") (List.mem_of_getElem? (i := 2) rfl)) (fun _ h9 => h9) rfl dX4_takeFirst_5 ?_
  refine lv_icmp_lt (tgt := 13) hx hb dX4_takeFirst_8 (by decide) (fun c_8 => ?_) (fun c_8 => ?_)
  · have hm := ifp c_8 hm
    refine lv_aload_n hx hb dX4_takeFirst_13 rfl (lv_at hl 0 rfl) ?_
    refine va_get (D := G) (ci := 4) (v := .ref ka1) (C := RX4) (T := TX4) (N := 3) hx hb hts hi_4 hown hK hP 0 rfl rfl 0 (by decide) (hts (.fieldLink RX4 9 "HubTrains$Stock" "tiles" "[I") (List.mem_of_getElem? (i := 3) rfl)) (fun _ h9 => h9) rfl dX4_takeFirst_14 ?_
    refine lv_aload_n hx hb dX4_takeFirst_17 rfl (lv_at hl 0 rfl) ?_
    refine va_get (D := G) (ci := 4) (v := .int (k.1 0)) (C := RX4) (T := TX4) (N := 3) hx hb hts hi_4 hown hK hP 0 rfl rfl 1 (by decide) (hts (.fieldLink RX4 19 "HubTrains$Stock" "first" "I") (List.mem_of_getElem? (i := 1) rfl)) (fun _ h9 => h9) rfl dX4_takeFirst_18 ?_
    obtain ⟨r21, e_21, hm⟩ := bd1_s hm
    refine zcSNi (As := [.ref ka1, .int (k.1 0)]) (rest := []) ⟨hx, hb, hml, hown, hts⟩ (k_X7_look l G K c ka1 55 (k.2 0) (k.1 0) r21 e_21) ⟨va_cnB 2 hts gX4_takeFirst_X7_look_n31 rfl rfl rfl (nwm_HubTrains_Stock_31 hN.2.1) (hts (.initialized RX7) (List.mem_of_getElem? (i := 5) rfl)) hd_X7_look.2 ⟨Nat.le_of_ble_eq_true rfl, Nat.le_of_ble_eq_true rfl⟩, (hts (.static yX7_look) (List.mem_of_getElem? (i := 4) rfl)), trivial⟩ hK hN hZ hP hD hS hA [1] rfl (by decide) rfl rfl hl.1 rfl (Nat.le_of_ble_eq_true rfl) dX4_takeFirst_21 ⟨Nat.zero_le _, Nat.zero_le _⟩ (fun H locs hP hD hS => ?_)
    have hP : va_P G vwCl (wK c ka0 ka1 k) H := hP
    have hD : va_D A (wK c ka0 ka1 k) := hD
    refine lv_istore_n (lv' := [(1, .int r21), (0, .ref ka0)]) hx hb dX4_takeFirst_24 rfl hl (by decide) rfl (fun ls hl => ?_)
    refine lv_aload_n hx hb dX4_takeFirst_25 rfl (lv_at hl 1 rfl) ?_
    refine lv_dup hx hb dX4_takeFirst_26 rfl ?_
    refine va_get (D := G) (ci := 4) (v := .int (k.1 0)) (C := RX4) (T := TX4) (N := 3) hx hb hts hi_4 hown hK hP 0 rfl rfl 1 (by decide) (hts (.fieldLink RX4 19 "HubTrains$Stock" "first" "I") (List.mem_of_getElem? (i := 1) rfl)) (fun _ h9 => h9) rfl dX4_takeFirst_27 ?_
    refine lv_iconst (v := 1) hx hb dX4_takeFirst_30 (by decide) ?_
    refine lv_iadd hx hb dX4_takeFirst_31 ?_
    refine va_put (D := G) (ci := 4) (v := .int ((k.1 0) + 1)) (C := RX4) (T := TX4) (N := 3) hx hb hts hi_4 tyX4 tyX4_ok nmX4 hown hK hP hD hS 0 rfl rfl 1 (by decide) (hts (.fieldLink RX4 19 "HubTrains$Stock" "first" "I") (List.mem_of_getElem? (i := 1) rfl)) (fun _ h9 => h9) rfl (tyX4_ok 1 (by decide)) rfl rfl (Nat.le_of_ble_eq_true rfl) dX4_takeFirst_32 (fun H locs hP hD hS => ?_)
    have hP : va_P G vwCl (wK c ka0 ka1 (ss k 0 ((k.1 0) + 1))) H := hP
    have hD : va_D A (wK c ka0 ka1 (ss k 0 ((k.1 0) + 1))) := hD
    refine lv_iload_n hx hb dX4_takeFirst_35 rfl (lv_at hl 0 rfl) ?_
    exact hend H locs ls _ _ _ rfl (Prod.mk.inj (Option.some.inj hm)).1 (zc1 (fun (z0 : SA) => (wK c ka0 ka1 z0 : va_W)) (Prod.mk.inj (Option.some.inj hm)).2) hP hD hS dX4_takeFirst_36
  · have hm := ifn c_8 hm
    refine lv_iconst (v := (-1)) hx hb dX4_takeFirst_11 (by decide) ?_
    exact hend H locs ls _ _ _ rfl (Prod.mk.inj (Option.some.inj hm)).1 (zc1 (fun (z0 : SA) => (wK c ka0 ka1 z0 : va_W)) (Prod.mk.inj (Option.some.inj hm)).2) hP hD hS dX4_takeFirst_12


def f_X6_endOf (t : SA) (p0 : Int32) : Option Int32 :=
  bd1 (f_X7_look 5 (t.2 2) p0) fun (r5 : Int32) => some (r5)

abbrev rm_X6_endOf : Room := { frames := 1, cells := 0, slots := 0, locals := 21 }
theorem hd_X6_endOf : yX6_endOf.cls = RX6 ∧ yX6_endOf.cls ≠ "java/lang/invoke/MethodHandle" ∧ yX6_endOf.cls ≠ "java/lang/invoke/VarHandle" ∧ (parseMethodDescriptor yX6_endOf.desc).map (fun d => d.parameters.length) = some 1 := by decide +kernel
set_option maxHeartbeats 4000000 in
set_option maxRecDepth 100000 in
theorem k_X6_endOf (l : Launch) (G : va_G) (K : (Nat → Nat) × (Nat → Nat)) (c : Nat → ClassId) (ta0 : Nat) (ta1 : Nat) (ta2 : Nat) (ta3 : Nat) (ta4 : Nat) (t : SA) (p0 : Int32) (r : Int32) (hm : f_X6_endOf t p0 = some (r)) : zMi l yX6_endOf wsX6_endOf rm_X6_endOf G K (TY c) [.ref ta0, .int p0] (wT c ta0 ta1 ta2 ta3 ta4 t) (wT c ta0 ta1 ta2 ta3 ta4 t) r := by
  refine zMi.of (cc := cX6_endOf) (maxL := 2) (lv := [(0, .ref ta0), (1, .int p0)]) (by decide) rfl (Nat.le_of_ble_eq_true rfl) rfl ?_
  intro p e s m args below meth c1 A Q H locs hx hb hml hown hts hK hN hZ hP hD hA hS hend ls hl
  have hown : s.vm.findClass RX6 = some m.cls := hown
  have hi_6 : ∀ w ∈ wsX60, w ∈ wsX6_endOf := (fun w h => List.mem_cons_of_mem _ (List.mem_append_right _ (h)))
  unfold f_X6_endOf at hm
  refine lv_aload_n hx hb dX6_endOf_0 rfl (lv_at hl 0 rfl) ?_
  refine va_get (D := G) (ci := 6) (v := .ref ta3) (C := RX6) (T := TX6) (N := 5) hx hb hts hi_6 hown hK hP 0 rfl rfl 3 (by decide) (hts (.fieldLink RX6 18 "HubTrains$Tracks" "ends" "[I") (List.mem_of_getElem? (i := 1) rfl)) (fun _ h9 => h9) rfl dX6_endOf_1 ?_
  refine lv_iload_n hx hb dX6_endOf_4 rfl (lv_at hl 1 rfl) ?_
  obtain ⟨r5, e_5, hm⟩ := bd1_s hm
  refine zcSNi (As := [.ref ta3, .int p0]) (rest := []) ⟨hx, hb, hml, hown, hts⟩ (k_X7_look l G K c ta3 5 (t.2 2) p0 r5 e_5) ⟨va_cnB 2 hts gX6_endOf_X7_look_n49 rfl rfl rfl (nwm_HubTrains_Tracks_49 hN.2.1) (hts (.initialized RX7) (List.mem_of_getElem? (i := 3) rfl)) hd_X7_look.2 ⟨Nat.le_of_ble_eq_true rfl, Nat.le_of_ble_eq_true rfl⟩, (hts (.static yX7_look) (List.mem_of_getElem? (i := 2) rfl)), trivial⟩ hK hN hZ hP hD hS hA [3] rfl (by decide) rfl rfl hl.1 rfl (Nat.le_of_ble_eq_true rfl) dX6_endOf_5 ⟨Nat.zero_le _, Nat.zero_le _⟩ (fun H locs hP hD hS => ?_)
  have hP : va_P G vwCl (wT c ta0 ta1 ta2 ta3 ta4 t) H := hP
  have hD : va_D A (wT c ta0 ta1 ta2 ta3 ta4 t) := hD
  exact hend H locs ls _ _ _ rfl (Option.some.inj hm) rfl hP hD hS dX6_endOf_8


def f_X6_isOpen (t : SA) (p0 : Int32) : Option Int32 :=
  bd1 (f_X7_look 5 (t.2 3) p0) fun (r5 : Int32) => if r5 = 1 then (some (1)) else (some (0))

abbrev rm_X6_isOpen : Room := { frames := 1, cells := 0, slots := 0, locals := 21 }
theorem hd_X6_isOpen : yX6_isOpen.cls = RX6 ∧ yX6_isOpen.cls ≠ "java/lang/invoke/MethodHandle" ∧ yX6_isOpen.cls ≠ "java/lang/invoke/VarHandle" ∧ (parseMethodDescriptor yX6_isOpen.desc).map (fun d => d.parameters.length) = some 1 := by decide +kernel
set_option maxHeartbeats 4000000 in
set_option maxRecDepth 100000 in
theorem k_X6_isOpen (l : Launch) (G : va_G) (K : (Nat → Nat) × (Nat → Nat)) (c : Nat → ClassId) (ta0 : Nat) (ta1 : Nat) (ta2 : Nat) (ta3 : Nat) (ta4 : Nat) (t : SA) (p0 : Int32) (r : Int32) (hm : f_X6_isOpen t p0 = some (r)) : zMi l yX6_isOpen wsX6_isOpen rm_X6_isOpen G K (TY c) [.ref ta0, .int p0] (wT c ta0 ta1 ta2 ta3 ta4 t) (wT c ta0 ta1 ta2 ta3 ta4 t) r := by
  refine zMi.of (cc := cX6_isOpen) (maxL := 2) (lv := [(0, .ref ta0), (1, .int p0)]) (by decide) rfl (Nat.le_of_ble_eq_true rfl) rfl ?_
  intro p e s m args below meth c1 A Q H locs hx hb hml hown hts hK hN hZ hP hD hA hS hend ls hl
  have hown : s.vm.findClass RX6 = some m.cls := hown
  have hi_6 : ∀ w ∈ wsX60, w ∈ wsX6_isOpen := (fun w h => List.mem_cons_of_mem _ (List.mem_append_right _ (h)))
  unfold f_X6_isOpen at hm
  refine lv_aload_n hx hb dX6_isOpen_0 rfl (lv_at hl 0 rfl) ?_
  refine va_get (D := G) (ci := 6) (v := .ref ta4) (C := RX6) (T := TX6) (N := 5) hx hb hts hi_6 hown hK hP 0 rfl rfl 4 (by decide) (hts (.fieldLink RX6 21 "HubTrains$Tracks" "open" "[I") (List.mem_of_getElem? (i := 1) rfl)) (fun _ h9 => h9) rfl dX6_isOpen_1 ?_
  refine lv_iload_n hx hb dX6_isOpen_4 rfl (lv_at hl 1 rfl) ?_
  obtain ⟨r5, e_5, hm⟩ := bd1_s hm
  refine zcSNi (As := [.ref ta4, .int p0]) (rest := []) ⟨hx, hb, hml, hown, hts⟩ (k_X7_look l G K c ta4 5 (t.2 3) p0 r5 e_5) ⟨va_cnB 2 hts gX6_isOpen_X7_look_n49 rfl rfl rfl (nwm_HubTrains_Tracks_49 hN.2.1) (hts (.initialized RX7) (List.mem_of_getElem? (i := 3) rfl)) hd_X7_look.2 ⟨Nat.le_of_ble_eq_true rfl, Nat.le_of_ble_eq_true rfl⟩, (hts (.static yX7_look) (List.mem_of_getElem? (i := 2) rfl)), trivial⟩ hK hN hZ hP hD hS hA [4] rfl (by decide) rfl rfl hl.1 rfl (Nat.le_of_ble_eq_true rfl) dX6_isOpen_5 ⟨Nat.zero_le _, Nat.zero_le _⟩ (fun H locs hP hD hS => ?_)
  have hP : va_P G vwCl (wT c ta0 ta1 ta2 ta3 ta4 t) H := hP
  have hD : va_D A (wT c ta0 ta1 ta2 ta3 ta4 t) := hD
  refine lv_iconst (v := 1) hx hb dX6_isOpen_8 (by decide) ?_
  refine lv_icmp_ne (tgt := 16) hx hb dX6_isOpen_9 (by decide) (fun c_9 => ?_) (fun c_9 => ?_)
  · have hm := ifn c_9 hm
    refine lv_iconst (v := 0) hx hb dX6_isOpen_16 (by decide) ?_
    exact hend H locs ls _ _ _ (by decide) (Option.some.inj hm) rfl hP hD hS dX6_isOpen_17
  · have hm := ifp c_9 hm
    refine lv_iconst (v := 1) hx hb dX6_isOpen_12 (by decide) ?_
    refine lv_goto (tgt := 17) hx hb dX6_isOpen_13 (by decide) ?_
    exact hend H locs ls _ _ _ (by decide) (Option.some.inj hm) rfl hP hD hS dX6_isOpen_17

def f_X6_setOpen_J14 (t : SA) (p0 : Int32) (s0_14 : Int32) : Option SA :=
  bd1 (f_X7_put 5 (t.2 3) p0 s0_14) fun (h014 : Nat → Int32) => some ((sa t 3 h014))

def f_X6_setOpen (t : SA) (p0 : Int32) (p1 : Int32) : Option SA :=
  if p1 = 0 then (f_X6_setOpen_J14 t p0 0) else (f_X6_setOpen_J14 t p0 1)

abbrev rm_X6_setOpen : Room := { frames := 1, cells := 0, slots := 0, locals := 22 }
theorem hd_X6_setOpen : yX6_setOpen.cls = RX6 ∧ yX6_setOpen.cls ≠ "java/lang/invoke/MethodHandle" ∧ yX6_setOpen.cls ≠ "java/lang/invoke/VarHandle" ∧ (parseMethodDescriptor yX6_setOpen.desc).map (fun d => d.parameters.length) = some 2 := by decide +kernel
set_option maxHeartbeats 4000000 in
set_option maxRecDepth 100000 in
theorem k_X6_setOpen (l : Launch) (G : va_G) (K : (Nat → Nat) × (Nat → Nat)) (c : Nat → ClassId) (ta0 : Nat) (ta1 : Nat) (ta2 : Nat) (ta3 : Nat) (ta4 : Nat) (t : SA) (p0 : Int32) (p1 : Int32) (t_r : SA) (hm : f_X6_setOpen t p0 p1 = some (t_r)) : zMv l yX6_setOpen wsX6_setOpen rm_X6_setOpen G K (TY c) [.ref ta0, .int p0, .int p1] (wT c ta0 ta1 ta2 ta3 ta4 t) (wT c ta0 ta1 ta2 ta3 ta4 t_r) := by
  refine zMv.of (cc := cX6_setOpen) (maxL := 3) (lv := [(0, .ref ta0), (1, .int p0), (2, .int p1)]) (by decide) rfl (Nat.le_of_ble_eq_true rfl) rfl ?_
  intro p e s m args below meth c1 A Q H locs hx hb hml hown hts hK hN hZ hP hD hA hS hend ls hl
  have hown : s.vm.findClass RX6 = some m.cls := hown
  have hi_6 : ∀ w ∈ wsX60, w ∈ wsX6_setOpen := (fun w h => List.mem_cons_of_mem _ (List.mem_append_right _ (h)))
  unfold f_X6_setOpen at hm
  refine lv_aload_n hx hb dX6_setOpen_0 rfl (lv_at hl 0 rfl) ?_
  refine va_get (D := G) (ci := 6) (v := .ref ta4) (C := RX6) (T := TX6) (N := 5) hx hb hts hi_6 hown hK hP 0 rfl rfl 4 (by decide) (hts (.fieldLink RX6 21 "HubTrains$Tracks" "open" "[I") (List.mem_of_getElem? (i := 1) rfl)) (fun _ h9 => h9) rfl dX6_setOpen_1 ?_
  refine lv_iload_n hx hb dX6_setOpen_4 rfl (lv_at hl 1 rfl) ?_
  refine lv_iload_n hx hb dX6_setOpen_5 rfl (lv_at hl 2 rfl) ?_
  have J_14 : ∀ (s0_14 : Int32) (H : Heap) (locs : List Loc) (ls : Array Slot), va_P G vwCl (wT c ta0 ta1 ta2 ta3 ta4 t) H → va_D A (wT c ta0 ta1 ta2 ta3 ta4 t) → va_S A s.heap H locs → lv_has ls 3 [] → f_X6_setOpen_J14 t p0 s0_14 = some (t_r) → W p l e rm_X6_setOpen s m args below meth c1 H locs 0 0 Q (F0 m 14 ls [.int s0_14, .int p0, .ref ta4]) := by
    intro s0_14 H locs ls hP hD hS hl hm
    unfold f_X6_setOpen_J14 at hm
    obtain ⟨h014, e_14, hm⟩ := bd1_s hm
    refine zcSNv (As := [.ref ta4, .int p0, .int s0_14]) (rest := []) ⟨hx, hb, hml, hown, hts⟩ (k_X7_put l G K c ta4 5 (t.2 3) p0 s0_14 h014 e_14) ⟨va_cnB 3 hts gX6_setOpen_X7_put_n38 rfl rfl rfl (nwm_HubTrains_Tracks_38 hN.2.1) (hts (.initialized RX7) (List.mem_of_getElem? (i := 3) rfl)) hd_X7_put.2 ⟨Nat.le_of_ble_eq_true rfl, Nat.le_of_ble_eq_true rfl⟩, (hts (.static yX7_put) (List.mem_of_getElem? (i := 2) rfl)), trivial⟩ hK hN hZ hP hD hS hA [4] rfl (by decide) rfl rfl hl.1 rfl (Nat.le_of_ble_eq_true rfl) dX6_setOpen_14 ⟨Nat.zero_le _, Nat.zero_le _⟩ (fun H locs hP hD hS => ?_)
    have hP : va_P G vwCl (wT c ta0 ta1 ta2 ta3 ta4 (sa t 3 h014)) H := hP
    have hD : va_D A (wT c ta0 ta1 ta2 ta3 ta4 (sa t 3 h014)) := hD
    exact hend H locs ls _ _ (zc1 (fun (z0 : SA) => (wT c ta0 ta1 ta2 ta3 ta4 z0 : va_W)) (Option.some.inj hm)) hP hD hS dX6_setOpen_17
  refine lv_if_eq (tgt := 13) hx hb dX6_setOpen_6 (by decide) (fun c_6 => ?_) (fun c_6 => ?_)
  · have hm := ifp c_6 hm
    refine lv_iconst (v := 0) hx hb dX6_setOpen_13 (by decide) ?_
    exact J_14 0 H locs ls hP hD hS (lv_sub hl [] rfl) hm
  · have hm := ifn c_6 hm
    refine lv_iconst (v := 1) hx hb dX6_setOpen_9 (by decide) ?_
    refine lv_goto (tgt := 14) hx hb dX6_setOpen_10 (by decide) ?_
    exact J_14 1 H locs ls hP hD hS (lv_sub hl [] rfl) hm

def f_X6_countOf_B4 (t : SA) (p0 : Int32) (rec_4 : Int32 → Int32 → Option Int32) (v2_4 : Int32) (v3_4 : Int32) : Option Int32 :=
  if (t.1 0) ≤ v3_4 then (some (v2_4)) else (bd1 (f_X7_look 55 (t.2 1) v3_4) fun (r17 : Int32) => if r17 = p0 then (rec_4 (v2_4 + 1) (v3_4 + 1)) else (rec_4 v2_4 (v3_4 + 1)))

def f_X6_countOf (t : SA) (p0 : Int32) : Option Int32 :=
  itr2 (f_X6_countOf_B4 t p0) FUEL 0 0

abbrev rm_X6_countOf : Room := { frames := 1, cells := 0, slots := 0, locals := 21 }
theorem hd_X6_countOf : yX6_countOf.cls = RX6 ∧ yX6_countOf.cls ≠ "java/lang/invoke/MethodHandle" ∧ yX6_countOf.cls ≠ "java/lang/invoke/VarHandle" ∧ (parseMethodDescriptor yX6_countOf.desc).map (fun d => d.parameters.length) = some 1 := by decide +kernel
set_option maxHeartbeats 4000000 in
set_option maxRecDepth 100000 in
theorem k_X6_countOf (l : Launch) (G : va_G) (K : (Nat → Nat) × (Nat → Nat)) (c : Nat → ClassId) (ta0 : Nat) (ta1 : Nat) (ta2 : Nat) (ta3 : Nat) (ta4 : Nat) (t : SA) (p0 : Int32) (r : Int32) (hm : f_X6_countOf t p0 = some (r)) : zMi l yX6_countOf wsX6_countOf rm_X6_countOf G K (TY c) [.ref ta0, .int p0] (wT c ta0 ta1 ta2 ta3 ta4 t) (wT c ta0 ta1 ta2 ta3 ta4 t) r := by
  refine zMi.of (cc := cX6_countOf) (maxL := 4) (lv := [(0, .ref ta0), (1, .int p0)]) (by decide) rfl (Nat.le_of_ble_eq_true rfl) rfl ?_
  intro p e s m args below meth c1 A Q H locs hx hb hml hown hts hK hN hZ hP hD hA hS hend ls hl
  have hown : s.vm.findClass RX6 = some m.cls := hown
  have hi_6 : ∀ w ∈ wsX60, w ∈ wsX6_countOf := (fun w h => List.mem_cons_of_mem _ (List.mem_append_right _ (h)))
  unfold f_X6_countOf at hm
  refine lv_iconst (v := 0) hx hb dX6_countOf_0 (by decide) ?_
  refine lv_istore_n (lv' := [(2, .int 0), (0, .ref ta0), (1, .int p0)]) hx hb dX6_countOf_1 rfl hl (by decide) rfl (fun ls hl => ?_)
  refine lv_iconst (v := 0) hx hb dX6_countOf_2 (by decide) ?_
  refine lv_istore_n (lv' := [(3, .int 0), (2, .int 0), (0, .ref ta0), (1, .int p0)]) hx hb dX6_countOf_3 rfl hl (by decide) rfl (fun ls hl => ?_)
  have L_4 : ∀ (n_4 : Nat) (v2_4 : Int32) (v3_4 : Int32) (H : Heap) (locs : List Loc) (ls : Array Slot), va_P G vwCl (wT c ta0 ta1 ta2 ta3 ta4 t) H → va_D A (wT c ta0 ta1 ta2 ta3 ta4 t) → va_S A s.heap H locs → lv_has ls 4 [(0, .ref ta0), (1, .int p0), (2, .int v2_4), (3, .int v3_4)] → itr2 (f_X6_countOf_B4 t p0) n_4 v2_4 v3_4 = some (r) → W p l e rm_X6_countOf s m args below meth c1 H locs 0 0 Q (F0 m 4 ls []) := by
    intro n_4
    induction n_4 with
    | zero => intro v2_4 v3_4 H locs ls hP hD hS hl hm; exact (itr2_0 hm).elim
    | succ n_4 ih_4 =>
      intro v2_4 v3_4 H locs ls hP hD hS hl hm
      have hm := itr2_s hm
      unfold f_X6_countOf_B4 at hm
      refine lv_iload_n hx hb dX6_countOf_4 rfl (lv_at hl 3 rfl) ?_
      refine lv_aload_n hx hb dX6_countOf_5 rfl (lv_at hl 0 rfl) ?_
      refine va_get (D := G) (ci := 6) (v := .int (t.1 0)) (C := RX6) (T := TX6) (N := 5) hx hb hts hi_6 hown hK hP 0 rfl rfl 2 (by decide) (hts (.fieldLink RX6 28 "HubTrains$Tracks" "count" "I") (List.mem_of_getElem? (i := 1) rfl)) (fun _ h9 => h9) rfl dX6_countOf_6 ?_
      refine lv_icmp_ge (tgt := 33) hx hb dX6_countOf_9 (by decide) (fun c_9 => ?_) (fun c_9 => ?_)
      · have hm := ifp c_9 hm
        refine lv_iload_n hx hb dX6_countOf_33 rfl (lv_at hl 2 rfl) ?_
        exact hend H locs ls _ _ _ rfl (Option.some.inj hm) rfl hP hD hS dX6_countOf_34
      · have hm := ifn c_9 hm
        refine lv_aload_n hx hb dX6_countOf_12 rfl (lv_at hl 0 rfl) ?_
        refine va_get (D := G) (ci := 6) (v := .ref ta2) (C := RX6) (T := TX6) (N := 5) hx hb hts hi_6 hown hK hP 0 rfl rfl 1 (by decide) (hts (.fieldLink RX6 15 "HubTrains$Tracks" "trains" "[I") (List.mem_of_getElem? (i := 2) rfl)) (fun _ h9 => h9) rfl dX6_countOf_13 ?_
        refine lv_iload_n hx hb dX6_countOf_16 rfl (lv_at hl 3 rfl) ?_
        obtain ⟨r17, e_17, hm⟩ := bd1_s hm
        refine zcSNi (As := [.ref ta2, .int v3_4]) (rest := []) ⟨hx, hb, hml, hown, hts⟩ (k_X7_look l G K c ta2 55 (t.2 1) v3_4 r17 e_17) ⟨va_cnB 2 hts gX6_countOf_X7_look_n49 rfl rfl rfl (nwm_HubTrains_Tracks_49 hN.2.1) (hts (.initialized RX7) (List.mem_of_getElem? (i := 4) rfl)) hd_X7_look.2 ⟨Nat.le_of_ble_eq_true rfl, Nat.le_of_ble_eq_true rfl⟩, (hts (.static yX7_look) (List.mem_of_getElem? (i := 3) rfl)), trivial⟩ hK hN hZ hP hD hS hA [2] rfl (by decide) rfl rfl hl.1 rfl (Nat.le_of_ble_eq_true rfl) dX6_countOf_17 ⟨Nat.zero_le _, Nat.zero_le _⟩ (fun H locs hP hD hS => ?_)
        have hP : va_P G vwCl (wT c ta0 ta1 ta2 ta3 ta4 t) H := hP
        have hD : va_D A (wT c ta0 ta1 ta2 ta3 ta4 t) := hD
        refine lv_iload_n hx hb dX6_countOf_20 rfl (lv_at hl 1 rfl) ?_
        refine lv_icmp_ne (tgt := 27) hx hb dX6_countOf_21 (by decide) (fun c_21 => ?_) (fun c_21 => ?_)
        · have hm := ifn c_21 hm
          refine lv_iinc (k := 3) (v := (v3_4 + 1)) (lv' := [(3, .int (v3_4 + 1)), (0, .ref ta0), (1, .int p0), (2, .int v2_4)]) hx hb dX6_countOf_27 hl rfl rfl (by decide) rfl (fun ls hl => ?_)
          refine lv_goto (tgt := 4) hx hb dX6_countOf_30 (by decide) ?_
          exact ih_4 v2_4 (v3_4 + 1) H locs ls hP hD hS (lv_sub hl [1, 2, 3, 0] rfl) hm
        · have hm := ifp c_21 hm
          refine lv_iinc (k := 2) (v := (v2_4 + 1)) (lv' := [(2, .int (v2_4 + 1)), (0, .ref ta0), (1, .int p0), (3, .int v3_4)]) hx hb dX6_countOf_24 hl rfl rfl (by decide) rfl (fun ls hl => ?_)
          refine lv_iinc (k := 3) (v := (v3_4 + 1)) (lv' := [(3, .int (v3_4 + 1)), (2, .int (v2_4 + 1)), (0, .ref ta0), (1, .int p0)]) hx hb dX6_countOf_27 hl rfl rfl (by decide) rfl (fun ls hl => ?_)
          refine lv_goto (tgt := 4) hx hb dX6_countOf_30 (by decide) ?_
          exact ih_4 (v2_4 + 1) (v3_4 + 1) H locs ls hP hD hS (lv_sub hl [2, 3, 1, 0] rfl) hm
  exact L_4 FUEL 0 0 H locs ls hP hD hS (lv_sub hl [2, 3, 1, 0] rfl) hm

def f_X6_pipsOn_B4 (t : SA) (p0 : Int32) (rec_4 : Int32 → Int32 → Option Int32) (v2_4 : Int32) (v3_4 : Int32) : Option Int32 :=
  if (t.1 0) ≤ v3_4 then (some (v2_4)) else (bd1 (f_X7_look 55 (t.2 1) v3_4) fun (r17 : Int32) => if r17 = p0 then (bd1 (f_X7_look 55 (t.2 0) v3_4) fun (r30 : Int32) => bd1 (f_X7_pipsOf r30) fun (r33 : Int32) => rec_4 (v2_4 + r33) (v3_4 + 1)) else (rec_4 v2_4 (v3_4 + 1)))

def f_X6_pipsOn (t : SA) (p0 : Int32) : Option Int32 :=
  itr2 (f_X6_pipsOn_B4 t p0) FUEL 0 0

abbrev rm_X6_pipsOn : Room := { frames := 2, cells := 0, slots := 0, locals := 40 }
theorem hd_X6_pipsOn : yX6_pipsOn.cls = RX6 ∧ yX6_pipsOn.cls ≠ "java/lang/invoke/MethodHandle" ∧ yX6_pipsOn.cls ≠ "java/lang/invoke/VarHandle" ∧ (parseMethodDescriptor yX6_pipsOn.desc).map (fun d => d.parameters.length) = some 1 := by decide +kernel
set_option maxHeartbeats 4000000 in
set_option maxRecDepth 100000 in
theorem k_X6_pipsOn (l : Launch) (G : va_G) (K : (Nat → Nat) × (Nat → Nat)) (c : Nat → ClassId) (ta0 : Nat) (ta1 : Nat) (ta2 : Nat) (ta3 : Nat) (ta4 : Nat) (t : SA) (p0 : Int32) (r : Int32) (hm : f_X6_pipsOn t p0 = some (r)) : zMi l yX6_pipsOn wsX6_pipsOn rm_X6_pipsOn G K (TY c) [.ref ta0, .int p0] (wT c ta0 ta1 ta2 ta3 ta4 t) (wT c ta0 ta1 ta2 ta3 ta4 t) r := by
  refine zMi.of (cc := cX6_pipsOn) (maxL := 4) (lv := [(0, .ref ta0), (1, .int p0)]) (by decide) rfl (Nat.le_of_ble_eq_true rfl) rfl ?_
  intro p e s m args below meth c1 A Q H locs hx hb hml hown hts hK hN hZ hP hD hA hS hend ls hl
  have hown : s.vm.findClass RX6 = some m.cls := hown
  have hi_6 : ∀ w ∈ wsX60, w ∈ wsX6_pipsOn := (fun w h => List.mem_cons_of_mem _ (List.mem_append_right _ (h)))
  unfold f_X6_pipsOn at hm
  refine lv_iconst (v := 0) hx hb dX6_pipsOn_0 (by decide) ?_
  refine lv_istore_n (lv' := [(2, .int 0), (0, .ref ta0), (1, .int p0)]) hx hb dX6_pipsOn_1 rfl hl (by decide) rfl (fun ls hl => ?_)
  refine lv_iconst (v := 0) hx hb dX6_pipsOn_2 (by decide) ?_
  refine lv_istore_n (lv' := [(3, .int 0), (2, .int 0), (0, .ref ta0), (1, .int p0)]) hx hb dX6_pipsOn_3 rfl hl (by decide) rfl (fun ls hl => ?_)
  have L_4 : ∀ (n_4 : Nat) (v2_4 : Int32) (v3_4 : Int32) (H : Heap) (locs : List Loc) (ls : Array Slot), va_P G vwCl (wT c ta0 ta1 ta2 ta3 ta4 t) H → va_D A (wT c ta0 ta1 ta2 ta3 ta4 t) → va_S A s.heap H locs → lv_has ls 4 [(0, .ref ta0), (1, .int p0), (2, .int v2_4), (3, .int v3_4)] → itr2 (f_X6_pipsOn_B4 t p0) n_4 v2_4 v3_4 = some (r) → W p l e rm_X6_pipsOn s m args below meth c1 H locs 0 0 Q (F0 m 4 ls []) := by
    intro n_4
    induction n_4 with
    | zero => intro v2_4 v3_4 H locs ls hP hD hS hl hm; exact (itr2_0 hm).elim
    | succ n_4 ih_4 =>
      intro v2_4 v3_4 H locs ls hP hD hS hl hm
      have hm := itr2_s hm
      unfold f_X6_pipsOn_B4 at hm
      refine lv_iload_n hx hb dX6_pipsOn_4 rfl (lv_at hl 3 rfl) ?_
      refine lv_aload_n hx hb dX6_pipsOn_5 rfl (lv_at hl 0 rfl) ?_
      refine va_get (D := G) (ci := 6) (v := .int (t.1 0)) (C := RX6) (T := TX6) (N := 5) hx hb hts hi_6 hown hK hP 0 rfl rfl 2 (by decide) (hts (.fieldLink RX6 28 "HubTrains$Tracks" "count" "I") (List.mem_of_getElem? (i := 1) rfl)) (fun _ h9 => h9) rfl dX6_pipsOn_6 ?_
      refine lv_icmp_ge (tgt := 44) hx hb dX6_pipsOn_9 (by decide) (fun c_9 => ?_) (fun c_9 => ?_)
      · have hm := ifp c_9 hm
        refine lv_iload_n hx hb dX6_pipsOn_44 rfl (lv_at hl 2 rfl) ?_
        exact hend H locs ls _ _ _ rfl (Option.some.inj hm) rfl hP hD hS dX6_pipsOn_45
      · have hm := ifn c_9 hm
        refine lv_aload_n hx hb dX6_pipsOn_12 rfl (lv_at hl 0 rfl) ?_
        refine va_get (D := G) (ci := 6) (v := .ref ta2) (C := RX6) (T := TX6) (N := 5) hx hb hts hi_6 hown hK hP 0 rfl rfl 1 (by decide) (hts (.fieldLink RX6 15 "HubTrains$Tracks" "trains" "[I") (List.mem_of_getElem? (i := 2) rfl)) (fun _ h9 => h9) rfl dX6_pipsOn_13 ?_
        refine lv_iload_n hx hb dX6_pipsOn_16 rfl (lv_at hl 3 rfl) ?_
        obtain ⟨r17, e_17, hm⟩ := bd1_s hm
        refine zcSNi (As := [.ref ta2, .int v3_4]) (rest := []) ⟨hx, hb, hml, hown, hts⟩ (k_X7_look l G K c ta2 55 (t.2 1) v3_4 r17 e_17) ⟨va_cnB 2 hts gX6_pipsOn_X7_look_n49 rfl rfl rfl (nwm_HubTrains_Tracks_49 hN.2.1) (hts (.initialized RX7) (List.mem_of_getElem? (i := 5) rfl)) hd_X7_look.2 ⟨Nat.le_of_ble_eq_true rfl, Nat.le_of_ble_eq_true rfl⟩, (hts (.static yX7_look) (List.mem_of_getElem? (i := 4) rfl)), trivial⟩ hK hN hZ hP hD hS hA [2] rfl (by decide) rfl rfl hl.1 rfl (Nat.le_of_ble_eq_true rfl) dX6_pipsOn_17 ⟨Nat.zero_le _, Nat.zero_le _⟩ (fun H locs hP hD hS => ?_)
        have hP : va_P G vwCl (wT c ta0 ta1 ta2 ta3 ta4 t) H := hP
        have hD : va_D A (wT c ta0 ta1 ta2 ta3 ta4 t) := hD
        refine lv_iload_n hx hb dX6_pipsOn_20 rfl (lv_at hl 1 rfl) ?_
        refine lv_icmp_ne (tgt := 38) hx hb dX6_pipsOn_21 (by decide) (fun c_21 => ?_) (fun c_21 => ?_)
        · have hm := ifn c_21 hm
          refine lv_iinc (k := 3) (v := (v3_4 + 1)) (lv' := [(3, .int (v3_4 + 1)), (0, .ref ta0), (1, .int p0), (2, .int v2_4)]) hx hb dX6_pipsOn_38 hl rfl rfl (by decide) rfl (fun ls hl => ?_)
          refine lv_goto (tgt := 4) hx hb dX6_pipsOn_41 (by decide) ?_
          exact ih_4 v2_4 (v3_4 + 1) H locs ls hP hD hS (lv_sub hl [1, 2, 3, 0] rfl) hm
        · have hm := ifp c_21 hm
          refine lv_iload_n hx hb dX6_pipsOn_24 rfl (lv_at hl 2 rfl) ?_
          refine lv_aload_n hx hb dX6_pipsOn_25 rfl (lv_at hl 0 rfl) ?_
          refine va_get (D := G) (ci := 6) (v := .ref ta1) (C := RX6) (T := TX6) (N := 5) hx hb hts hi_6 hown hK hP 0 rfl rfl 0 (by decide) (hts (.fieldLink RX6 9 "HubTrains$Tracks" "tiles" "[I") (List.mem_of_getElem? (i := 3) rfl)) (fun _ h9 => h9) rfl dX6_pipsOn_26 ?_
          refine lv_iload_n hx hb dX6_pipsOn_29 rfl (lv_at hl 3 rfl) ?_
          obtain ⟨r30, e_30, hm⟩ := bd1_s hm
          refine zcSNi (As := [.ref ta1, .int v3_4]) (rest := [.int v2_4]) ⟨hx, hb, hml, hown, hts⟩ (k_X7_look l G K c ta1 55 (t.2 0) v3_4 r30 e_30) ⟨va_cnB 2 hts gX6_pipsOn_X7_look_n49 rfl rfl rfl (nwm_HubTrains_Tracks_49 hN.2.1) (hts (.initialized RX7) (List.mem_of_getElem? (i := 5) rfl)) hd_X7_look.2 ⟨Nat.le_of_ble_eq_true rfl, Nat.le_of_ble_eq_true rfl⟩, (hts (.static yX7_look) (List.mem_of_getElem? (i := 4) rfl)), trivial⟩ hK hN hZ hP hD hS hA [1] rfl (by decide) rfl rfl hl.1 rfl (Nat.le_of_ble_eq_true rfl) dX6_pipsOn_30 ⟨Nat.zero_le _, Nat.zero_le _⟩ (fun H locs hP hD hS => ?_)
          have hP : va_P G vwCl (wT c ta0 ta1 ta2 ta3 ta4 t) H := hP
          have hD : va_D A (wT c ta0 ta1 ta2 ta3 ta4 t) := hD
          obtain ⟨r33, e_33, hm⟩ := bd1_s hm
          refine zcSNi (As := [.int r30]) (rest := [.int v2_4]) ⟨hx, hb, hml, hown, hts⟩ (k_X7_pipsOf l G K c r30 r33 e_33) ⟨va_cnB 1 hts gX6_pipsOn_X7_pipsOf_n42 rfl rfl rfl (nwm_HubTrains_Tracks_42 hN.2.1) (hts (.initialized RX7) (List.mem_of_getElem? (i := 5) rfl)) hd_X7_pipsOf.2 ⟨Nat.le_of_ble_eq_true rfl, Nat.le_of_ble_eq_true rfl⟩, (hts (.static yX7_pipsOf) (List.mem_of_getElem? (i := 7) rfl)), trivial⟩ hK hN hZ hP hD hS hA [] rfl (by decide) rfl rfl hl.1 rfl (Nat.le_of_ble_eq_true rfl) dX6_pipsOn_33 ⟨Nat.zero_le _, Nat.zero_le _⟩ (fun H locs hP hD hS => ?_)
          have hP : va_P G vwCl (wT c ta0 ta1 ta2 ta3 ta4 t) H := hP
          have hD : va_D A (wT c ta0 ta1 ta2 ta3 ta4 t) := hD
          refine lv_iadd hx hb dX6_pipsOn_36 ?_
          refine lv_istore_n (lv' := [(2, .int (v2_4 + r33)), (0, .ref ta0), (1, .int p0), (3, .int v3_4)]) hx hb dX6_pipsOn_37 rfl hl (by decide) rfl (fun ls hl => ?_)
          refine lv_iinc (k := 3) (v := (v3_4 + 1)) (lv' := [(3, .int (v3_4 + 1)), (2, .int (v2_4 + r33)), (0, .ref ta0), (1, .int p0)]) hx hb dX6_pipsOn_38 hl rfl rfl (by decide) rfl (fun ls hl => ?_)
          refine lv_goto (tgt := 4) hx hb dX6_pipsOn_41 (by decide) ?_
          exact ih_4 (v2_4 + r33) (v3_4 + 1) H locs ls hP hD hS (lv_sub hl [2, 3, 1, 0] rfl) hm
  exact L_4 FUEL 0 0 H locs ls hP hD hS (lv_sub hl [2, 3, 1, 0] rfl) hm

def f_X6_tileAt_B5 (t : SA) (p0 : Int32) (p1 : Int32) (rec_5 : Int32 → Int32 → Option Int32) (v3_5 : Int32) (v4_5 : Int32) : Option Int32 :=
  if (t.1 0) ≤ v4_5 then (some ((-1))) else (bd1 (f_X7_look 55 (t.2 1) v4_5) fun (r20 : Int32) => if r20 = p0 then (if v3_5 = p1 then (bd1 (f_X7_look 55 (t.2 0) v4_5) fun (r38 : Int32) => some (r38)) else (rec_5 (v3_5 + 1) (v4_5 + 1))) else (rec_5 v3_5 (v4_5 + 1)))

def f_X6_tileAt (t : SA) (p0 : Int32) (p1 : Int32) : Option Int32 :=
  itr2 (f_X6_tileAt_B5 t p0 p1) FUEL 0 0

abbrev rm_X6_tileAt : Room := { frames := 1, cells := 0, slots := 0, locals := 21 }
theorem hd_X6_tileAt : yX6_tileAt.cls = RX6 ∧ yX6_tileAt.cls ≠ "java/lang/invoke/MethodHandle" ∧ yX6_tileAt.cls ≠ "java/lang/invoke/VarHandle" ∧ (parseMethodDescriptor yX6_tileAt.desc).map (fun d => d.parameters.length) = some 2 := by decide +kernel
set_option maxHeartbeats 4000000 in
set_option maxRecDepth 100000 in
theorem k_X6_tileAt (l : Launch) (G : va_G) (K : (Nat → Nat) × (Nat → Nat)) (c : Nat → ClassId) (ta0 : Nat) (ta1 : Nat) (ta2 : Nat) (ta3 : Nat) (ta4 : Nat) (t : SA) (p0 : Int32) (p1 : Int32) (r : Int32) (hm : f_X6_tileAt t p0 p1 = some (r)) : zMi l yX6_tileAt wsX6_tileAt rm_X6_tileAt G K (TY c) [.ref ta0, .int p0, .int p1] (wT c ta0 ta1 ta2 ta3 ta4 t) (wT c ta0 ta1 ta2 ta3 ta4 t) r := by
  refine zMi.of (cc := cX6_tileAt) (maxL := 5) (lv := [(0, .ref ta0), (1, .int p0), (2, .int p1)]) (by decide) rfl (Nat.le_of_ble_eq_true rfl) rfl ?_
  intro p e s m args below meth c1 A Q H locs hx hb hml hown hts hK hN hZ hP hD hA hS hend ls hl
  have hown : s.vm.findClass RX6 = some m.cls := hown
  have hi_6 : ∀ w ∈ wsX60, w ∈ wsX6_tileAt := (fun w h => List.mem_cons_of_mem _ (List.mem_append_right _ (h)))
  unfold f_X6_tileAt at hm
  refine lv_iconst (v := 0) hx hb dX6_tileAt_0 (by decide) ?_
  refine lv_istore_n (lv' := [(3, .int 0), (0, .ref ta0), (1, .int p0), (2, .int p1)]) hx hb dX6_tileAt_1 rfl hl (by decide) rfl (fun ls hl => ?_)
  refine lv_iconst (v := 0) hx hb dX6_tileAt_2 (by decide) ?_
  refine lv_istore (lv' := [(4, .int 0), (3, .int 0), (0, .ref ta0), (1, .int p0), (2, .int p1)]) hx hb dX6_tileAt_3 hl (by decide) rfl (fun ls hl => ?_)
  have L_5 : ∀ (n_5 : Nat) (v3_5 : Int32) (v4_5 : Int32) (H : Heap) (locs : List Loc) (ls : Array Slot), va_P G vwCl (wT c ta0 ta1 ta2 ta3 ta4 t) H → va_D A (wT c ta0 ta1 ta2 ta3 ta4 t) → va_S A s.heap H locs → lv_has ls 5 [(0, .ref ta0), (1, .int p0), (2, .int p1), (3, .int v3_5), (4, .int v4_5)] → itr2 (f_X6_tileAt_B5 t p0 p1) n_5 v3_5 v4_5 = some (r) → W p l e rm_X6_tileAt s m args below meth c1 H locs 0 0 Q (F0 m 5 ls []) := by
    intro n_5
    induction n_5 with
    | zero => intro v3_5 v4_5 H locs ls hP hD hS hl hm; exact (itr2_0 hm).elim
    | succ n_5 ih_5 =>
      intro v3_5 v4_5 H locs ls hP hD hS hl hm
      have hm := itr2_s hm
      unfold f_X6_tileAt_B5 at hm
      refine lv_iload hx hb dX6_tileAt_5 (lv_at hl 4 rfl) ?_
      refine lv_aload_n hx hb dX6_tileAt_7 rfl (lv_at hl 0 rfl) ?_
      refine va_get (D := G) (ci := 6) (v := .int (t.1 0)) (C := RX6) (T := TX6) (N := 5) hx hb hts hi_6 hown hK hP 0 rfl rfl 2 (by decide) (hts (.fieldLink RX6 28 "HubTrains$Tracks" "count" "I") (List.mem_of_getElem? (i := 1) rfl)) (fun _ h9 => h9) rfl dX6_tileAt_8 ?_
      refine lv_icmp_ge (tgt := 51) hx hb dX6_tileAt_11 (by decide) (fun c_11 => ?_) (fun c_11 => ?_)
      · have hm := ifp c_11 hm
        refine lv_iconst (v := (-1)) hx hb dX6_tileAt_51 (by decide) ?_
        exact hend H locs ls _ _ _ rfl (Option.some.inj hm) rfl hP hD hS dX6_tileAt_52
      · have hm := ifn c_11 hm
        refine lv_aload_n hx hb dX6_tileAt_14 rfl (lv_at hl 0 rfl) ?_
        refine va_get (D := G) (ci := 6) (v := .ref ta2) (C := RX6) (T := TX6) (N := 5) hx hb hts hi_6 hown hK hP 0 rfl rfl 1 (by decide) (hts (.fieldLink RX6 15 "HubTrains$Tracks" "trains" "[I") (List.mem_of_getElem? (i := 2) rfl)) (fun _ h9 => h9) rfl dX6_tileAt_15 ?_
        refine lv_iload hx hb dX6_tileAt_18 (lv_at hl 4 rfl) ?_
        obtain ⟨r20, e_20, hm⟩ := bd1_s hm
        refine zcSNi (As := [.ref ta2, .int v4_5]) (rest := []) ⟨hx, hb, hml, hown, hts⟩ (k_X7_look l G K c ta2 55 (t.2 1) v4_5 r20 e_20) ⟨va_cnB 2 hts gX6_tileAt_X7_look_n49 rfl rfl rfl (nwm_HubTrains_Tracks_49 hN.2.1) (hts (.initialized RX7) (List.mem_of_getElem? (i := 5) rfl)) hd_X7_look.2 ⟨Nat.le_of_ble_eq_true rfl, Nat.le_of_ble_eq_true rfl⟩, (hts (.static yX7_look) (List.mem_of_getElem? (i := 4) rfl)), trivial⟩ hK hN hZ hP hD hS hA [2] rfl (by decide) rfl rfl hl.1 rfl (Nat.le_of_ble_eq_true rfl) dX6_tileAt_20 ⟨Nat.zero_le _, Nat.zero_le _⟩ (fun H locs hP hD hS => ?_)
        have hP : va_P G vwCl (wT c ta0 ta1 ta2 ta3 ta4 t) H := hP
        have hD : va_D A (wT c ta0 ta1 ta2 ta3 ta4 t) := hD
        refine lv_iload_n hx hb dX6_tileAt_23 rfl (lv_at hl 1 rfl) ?_
        refine lv_icmp_ne (tgt := 45) hx hb dX6_tileAt_24 (by decide) (fun c_24 => ?_) (fun c_24 => ?_)
        · have hm := ifn c_24 hm
          refine lv_iinc (k := 4) (v := (v4_5 + 1)) (lv' := [(4, .int (v4_5 + 1)), (0, .ref ta0), (1, .int p0), (2, .int p1), (3, .int v3_5)]) hx hb dX6_tileAt_45 hl rfl rfl (by decide) rfl (fun ls hl => ?_)
          refine lv_goto (tgt := 5) hx hb dX6_tileAt_48 (by decide) ?_
          exact ih_5 v3_5 (v4_5 + 1) H locs ls hP hD hS (lv_sub hl [1, 2, 3, 4, 0] rfl) hm
        · have hm := ifp c_24 hm
          refine lv_iload_n hx hb dX6_tileAt_27 rfl (lv_at hl 3 rfl) ?_
          refine lv_iload_n hx hb dX6_tileAt_28 rfl (lv_at hl 2 rfl) ?_
          refine lv_icmp_ne (tgt := 42) hx hb dX6_tileAt_29 (by decide) (fun c_29 => ?_) (fun c_29 => ?_)
          · have hm := ifn c_29 hm
            refine lv_iinc (k := 3) (v := (v3_5 + 1)) (lv' := [(3, .int (v3_5 + 1)), (0, .ref ta0), (1, .int p0), (2, .int p1), (4, .int v4_5)]) hx hb dX6_tileAt_42 hl rfl rfl (by decide) rfl (fun ls hl => ?_)
            refine lv_iinc (k := 4) (v := (v4_5 + 1)) (lv' := [(4, .int (v4_5 + 1)), (3, .int (v3_5 + 1)), (0, .ref ta0), (1, .int p0), (2, .int p1)]) hx hb dX6_tileAt_45 hl rfl rfl (by decide) rfl (fun ls hl => ?_)
            refine lv_goto (tgt := 5) hx hb dX6_tileAt_48 (by decide) ?_
            exact ih_5 (v3_5 + 1) (v4_5 + 1) H locs ls hP hD hS (lv_sub hl [2, 3, 4, 1, 0] rfl) hm
          · have hm := ifp c_29 hm
            refine lv_aload_n hx hb dX6_tileAt_32 rfl (lv_at hl 0 rfl) ?_
            refine va_get (D := G) (ci := 6) (v := .ref ta1) (C := RX6) (T := TX6) (N := 5) hx hb hts hi_6 hown hK hP 0 rfl rfl 0 (by decide) (hts (.fieldLink RX6 9 "HubTrains$Tracks" "tiles" "[I") (List.mem_of_getElem? (i := 3) rfl)) (fun _ h9 => h9) rfl dX6_tileAt_33 ?_
            refine lv_iload hx hb dX6_tileAt_36 (lv_at hl 4 rfl) ?_
            obtain ⟨r38, e_38, hm⟩ := bd1_s hm
            refine zcSNi (As := [.ref ta1, .int v4_5]) (rest := []) ⟨hx, hb, hml, hown, hts⟩ (k_X7_look l G K c ta1 55 (t.2 0) v4_5 r38 e_38) ⟨va_cnB 2 hts gX6_tileAt_X7_look_n49 rfl rfl rfl (nwm_HubTrains_Tracks_49 hN.2.1) (hts (.initialized RX7) (List.mem_of_getElem? (i := 5) rfl)) hd_X7_look.2 ⟨Nat.le_of_ble_eq_true rfl, Nat.le_of_ble_eq_true rfl⟩, (hts (.static yX7_look) (List.mem_of_getElem? (i := 4) rfl)), trivial⟩ hK hN hZ hP hD hS hA [1] rfl (by decide) rfl rfl hl.1 rfl (Nat.le_of_ble_eq_true rfl) dX6_tileAt_38 ⟨Nat.zero_le _, Nat.zero_le _⟩ (fun H locs hP hD hS => ?_)
            have hP : va_P G vwCl (wT c ta0 ta1 ta2 ta3 ta4 t) H := hP
            have hD : va_D A (wT c ta0 ta1 ta2 ta3 ta4 t) := hD
            exact hend H locs ls _ _ _ rfl (Option.some.inj hm) rfl hP hD hS dX6_tileAt_41
  exact L_5 FUEL 0 0 H locs ls hP hD hS (lv_sub hl [2, 3, 4, 1, 0] rfl) hm


def f_X6_lay (t : SA) (p0 : Int32) (p1 : Int32) : Option SA :=
  if (55 : Int32) ≤ (t.1 0) then (some (t)) else (bd1 (f_X7_put 55 (t.2 0) (t.1 0) p0) fun (h021 : Nat → Int32) => bd1 (f_X7_put 55 (t.2 1) (t.1 0) p1) fun (h033 : Nat → Int32) => bd1 (f_X7_pipsOf p0) fun (r52 : Int32) => bd1 (f_X6_endOf (sa (sa (ss t 0 ((t.1 0) + 1)) 0 h021) 1 h033) p1) fun (r57 : Int32) => bd1 (f_X7_put 5 (t.2 2) p1 (r52 - r57)) fun (h061 : Nat → Int32) => some ((sa (sa (sa (ss t 0 ((t.1 0) + 1)) 0 h021) 1 h033) 2 h061)))

abbrev rm_X6_lay : Room := { frames := 2, cells := 0, slots := 0, locals := 42 }
theorem hd_X6_lay : yX6_lay.cls = RX6 ∧ yX6_lay.cls ≠ "java/lang/invoke/MethodHandle" ∧ yX6_lay.cls ≠ "java/lang/invoke/VarHandle" ∧ (parseMethodDescriptor yX6_lay.desc).map (fun d => d.parameters.length) = some 2 := by decide +kernel
set_option maxHeartbeats 4000000 in
set_option maxRecDepth 100000 in
theorem k_X6_lay (l : Launch) (G : va_G) (K : (Nat → Nat) × (Nat → Nat)) (c : Nat → ClassId) (ta0 : Nat) (ta1 : Nat) (ta2 : Nat) (ta3 : Nat) (ta4 : Nat) (t : SA) (p0 : Int32) (p1 : Int32) (t_r : SA) (hm : f_X6_lay t p0 p1 = some (t_r)) : zMv l yX6_lay wsX6_lay rm_X6_lay G K (TY c) [.ref ta0, .int p0, .int p1] (wT c ta0 ta1 ta2 ta3 ta4 t) (wT c ta0 ta1 ta2 ta3 ta4 t_r) := by
  refine zMv.of (cc := cX6_lay) (maxL := 3) (lv := [(0, .ref ta0), (1, .int p0), (2, .int p1)]) (by decide) rfl (Nat.le_of_ble_eq_true rfl) rfl ?_
  intro p e s m args below meth c1 A Q H locs hx hb hml hown hts hK hN hZ hP hD hA hS hend ls hl
  have hown : s.vm.findClass RX6 = some m.cls := hown
  have hi_6 : ∀ w ∈ wsX60, w ∈ wsX6_lay := (fun w h => List.mem_cons_of_mem _ (List.mem_append_right _ (h)))
  unfold f_X6_lay at hm
  refine lv_aload_n hx hb dX6_lay_0 rfl (lv_at hl 0 rfl) ?_
  refine va_get (D := G) (ci := 6) (v := .int (t.1 0)) (C := RX6) (T := TX6) (N := 5) hx hb hts hi_6 hown hK hP 0 rfl rfl 2 (by decide) (hts (.fieldLink RX6 28 "HubTrains$Tracks" "count" "I") (List.mem_of_getElem? (i := 1) rfl)) (fun _ h9 => h9) rfl dX6_lay_1 ?_
  refine lv_aload_n hx hb dX6_lay_4 rfl (lv_at hl 0 rfl) ?_
  refine va_get (D := G) (ci := 6) (v := .ref ta1) (C := RX6) (T := TX6) (N := 5) hx hb hts hi_6 hown hK hP 0 rfl rfl 0 (by decide) (hts (.fieldLink RX6 9 "HubTrains$Tracks" "tiles" "[I") (List.mem_of_getElem? (i := 2) rfl)) (fun _ h9 => h9) rfl dX6_lay_5 ?_
  refine va_alen (D := G) (v := 55) hx hb hK hP 1 0 rfl rfl rfl dX6_lay_8 ?_
  refine lv_icmp_ge (tgt := 64) hx hb dX6_lay_9 (by decide) (fun c_9 => ?_) (fun c_9 => ?_)
  · have hm := ifp c_9 hm
    exact hend H locs ls _ _ (zc1 (fun (z0 : SA) => (wT c ta0 ta1 ta2 ta3 ta4 z0 : va_W)) (Option.some.inj hm)) hP hD hS dX6_lay_64
  · have hm := ifn c_9 hm
    refine lv_aload_n hx hb dX6_lay_12 rfl (lv_at hl 0 rfl) ?_
    refine va_get (D := G) (ci := 6) (v := .ref ta1) (C := RX6) (T := TX6) (N := 5) hx hb hts hi_6 hown hK hP 0 rfl rfl 0 (by decide) (hts (.fieldLink RX6 9 "HubTrains$Tracks" "tiles" "[I") (List.mem_of_getElem? (i := 2) rfl)) (fun _ h9 => h9) rfl dX6_lay_13 ?_
    refine lv_aload_n hx hb dX6_lay_16 rfl (lv_at hl 0 rfl) ?_
    refine va_get (D := G) (ci := 6) (v := .int (t.1 0)) (C := RX6) (T := TX6) (N := 5) hx hb hts hi_6 hown hK hP 0 rfl rfl 2 (by decide) (hts (.fieldLink RX6 28 "HubTrains$Tracks" "count" "I") (List.mem_of_getElem? (i := 1) rfl)) (fun _ h9 => h9) rfl dX6_lay_17 ?_
    refine lv_iload_n hx hb dX6_lay_20 rfl (lv_at hl 1 rfl) ?_
    obtain ⟨h021, e_21, hm⟩ := bd1_s hm
    refine zcSNv (As := [.ref ta1, .int (t.1 0), .int p0]) (rest := []) ⟨hx, hb, hml, hown, hts⟩ (k_X7_put l G K c ta1 55 (t.2 0) (t.1 0) p0 h021 e_21) ⟨va_cnB 3 hts gX6_lay_X7_put_n38 rfl rfl rfl (nwm_HubTrains_Tracks_38 hN.2.1) (hts (.initialized RX7) (List.mem_of_getElem? (i := 6) rfl)) hd_X7_put.2 ⟨Nat.le_of_ble_eq_true rfl, Nat.le_of_ble_eq_true rfl⟩, (hts (.static yX7_put) (List.mem_of_getElem? (i := 5) rfl)), trivial⟩ hK hN hZ hP hD hS hA [1] rfl (by decide) rfl rfl hl.1 rfl (Nat.le_of_ble_eq_true rfl) dX6_lay_21 ⟨Nat.zero_le _, Nat.zero_le _⟩ (fun H locs hP hD hS => ?_)
    have hP : va_P G vwCl (wT c ta0 ta1 ta2 ta3 ta4 (sa t 0 h021)) H := hP
    have hD : va_D A (wT c ta0 ta1 ta2 ta3 ta4 (sa t 0 h021)) := hD
    refine lv_aload_n hx hb dX6_lay_24 rfl (lv_at hl 0 rfl) ?_
    refine va_get (D := G) (ci := 6) (v := .ref ta2) (C := RX6) (T := TX6) (N := 5) hx hb hts hi_6 hown hK hP 0 rfl rfl 1 (by decide) (hts (.fieldLink RX6 15 "HubTrains$Tracks" "trains" "[I") (List.mem_of_getElem? (i := 3) rfl)) (fun _ h9 => h9) rfl dX6_lay_25 ?_
    refine lv_aload_n hx hb dX6_lay_28 rfl (lv_at hl 0 rfl) ?_
    refine va_get (D := G) (ci := 6) (v := .int (t.1 0)) (C := RX6) (T := TX6) (N := 5) hx hb hts hi_6 hown hK hP 0 rfl rfl 2 (by decide) (hts (.fieldLink RX6 28 "HubTrains$Tracks" "count" "I") (List.mem_of_getElem? (i := 1) rfl)) (fun _ h9 => h9) rfl dX6_lay_29 ?_
    refine lv_iload_n hx hb dX6_lay_32 rfl (lv_at hl 2 rfl) ?_
    obtain ⟨h033, e_33, hm⟩ := bd1_s hm
    refine zcSNv (As := [.ref ta2, .int (t.1 0), .int p1]) (rest := []) ⟨hx, hb, hml, hown, hts⟩ (k_X7_put l G K c ta2 55 (t.2 1) (t.1 0) p1 h033 e_33) ⟨va_cnB 3 hts gX6_lay_X7_put_n38 rfl rfl rfl (nwm_HubTrains_Tracks_38 hN.2.1) (hts (.initialized RX7) (List.mem_of_getElem? (i := 6) rfl)) hd_X7_put.2 ⟨Nat.le_of_ble_eq_true rfl, Nat.le_of_ble_eq_true rfl⟩, (hts (.static yX7_put) (List.mem_of_getElem? (i := 5) rfl)), trivial⟩ hK hN hZ hP hD hS hA [2] rfl (by decide) rfl rfl hl.1 rfl (Nat.le_of_ble_eq_true rfl) dX6_lay_33 ⟨Nat.zero_le _, Nat.zero_le _⟩ (fun H locs hP hD hS => ?_)
    have hP : va_P G vwCl (wT c ta0 ta1 ta2 ta3 ta4 (sa (sa t 0 h021) 1 h033)) H := hP
    have hD : va_D A (wT c ta0 ta1 ta2 ta3 ta4 (sa (sa t 0 h021) 1 h033)) := hD
    refine lv_aload_n hx hb dX6_lay_36 rfl (lv_at hl 0 rfl) ?_
    refine lv_dup hx hb dX6_lay_37 rfl ?_
    refine va_get (D := G) (ci := 6) (v := .int (t.1 0)) (C := RX6) (T := TX6) (N := 5) hx hb hts hi_6 hown hK hP 0 rfl rfl 2 (by decide) (hts (.fieldLink RX6 28 "HubTrains$Tracks" "count" "I") (List.mem_of_getElem? (i := 1) rfl)) (fun _ h9 => h9) rfl dX6_lay_38 ?_
    refine lv_iconst (v := 1) hx hb dX6_lay_41 (by decide) ?_
    refine lv_iadd hx hb dX6_lay_42 ?_
    refine va_put (D := G) (ci := 6) (v := .int ((t.1 0) + 1)) (C := RX6) (T := TX6) (N := 5) hx hb hts hi_6 tyX6 tyX6_ok nmX6 hown hK hP hD hS 0 rfl rfl 2 (by decide) (hts (.fieldLink RX6 28 "HubTrains$Tracks" "count" "I") (List.mem_of_getElem? (i := 1) rfl)) (fun _ h9 => h9) rfl (tyX6_ok 2 (by decide)) rfl rfl (Nat.le_of_ble_eq_true rfl) dX6_lay_43 (fun H locs hP hD hS => ?_)
    have hP : va_P G vwCl (wT c ta0 ta1 ta2 ta3 ta4 (sa (sa (ss t 0 ((t.1 0) + 1)) 0 h021) 1 h033)) H := hP
    have hD : va_D A (wT c ta0 ta1 ta2 ta3 ta4 (sa (sa (ss t 0 ((t.1 0) + 1)) 0 h021) 1 h033)) := hD
    refine lv_aload_n hx hb dX6_lay_46 rfl (lv_at hl 0 rfl) ?_
    refine va_get (D := G) (ci := 6) (v := .ref ta3) (C := RX6) (T := TX6) (N := 5) hx hb hts hi_6 hown hK hP 0 rfl rfl 3 (by decide) (hts (.fieldLink RX6 18 "HubTrains$Tracks" "ends" "[I") (List.mem_of_getElem? (i := 4) rfl)) (fun _ h9 => h9) rfl dX6_lay_47 ?_
    refine lv_iload_n hx hb dX6_lay_50 rfl (lv_at hl 2 rfl) ?_
    refine lv_iload_n hx hb dX6_lay_51 rfl (lv_at hl 1 rfl) ?_
    obtain ⟨r52, e_52, hm⟩ := bd1_s hm
    refine zcSNi (As := [.int p0]) (rest := [.int p1, .ref ta3]) ⟨hx, hb, hml, hown, hts⟩ (k_X7_pipsOf l G K c p0 r52 e_52) ⟨va_cnB 1 hts gX6_lay_X7_pipsOf_n42 rfl rfl rfl (nwm_HubTrains_Tracks_42 hN.2.1) (hts (.initialized RX7) (List.mem_of_getElem? (i := 6) rfl)) hd_X7_pipsOf.2 ⟨Nat.le_of_ble_eq_true rfl, Nat.le_of_ble_eq_true rfl⟩, (hts (.static yX7_pipsOf) (List.mem_of_getElem? (i := 8) rfl)), trivial⟩ hK hN hZ hP hD hS hA [] rfl (by decide) rfl rfl hl.1 rfl (Nat.le_of_ble_eq_true rfl) dX6_lay_52 ⟨Nat.zero_le _, Nat.zero_le _⟩ (fun H locs hP hD hS => ?_)
    have hP : va_P G vwCl (wT c ta0 ta1 ta2 ta3 ta4 (sa (sa (ss t 0 ((t.1 0) + 1)) 0 h021) 1 h033)) H := hP
    have hD : va_D A (wT c ta0 ta1 ta2 ta3 ta4 (sa (sa (ss t 0 ((t.1 0) + 1)) 0 h021) 1 h033)) := hD
    refine lv_aload_n hx hb dX6_lay_55 rfl (lv_at hl 0 rfl) ?_
    refine lv_iload_n hx hb dX6_lay_56 rfl (lv_at hl 2 rfl) ?_
    obtain ⟨r57, e_57, hm⟩ := bd1_s hm
    refine zcVi (As := [.int p1]) (rest := [.int r52, .int p1, .ref ta3]) ⟨hx, hb, hml, hown, hts⟩ (k_X6_endOf l G K c ta0 ta1 ta2 ta3 ta4 (sa (sa (ss t 0 ((t.1 0) + 1)) 0 h021) 1 h033) p1 r57 e_57) (cwV 1 hts gX6_lay_X6_endOf rfl rfl rfl hd_X6_endOf ⟨Nat.le_of_ble_eq_true rfl, Nat.le_of_ble_eq_true rfl⟩) hK hN hZ hP hD hS hA (va_recv hK hP (ci := 6) (q0 := 0) rfl rfl) [0, 1, 2, 3, 4] rfl (by decide) rfl rfl hl.1 rfl (Nat.le_of_ble_eq_true rfl) dX6_lay_57 ⟨Nat.zero_le _, Nat.zero_le _⟩ (fun H locs hP hD hS => ?_)
    have hP : va_P G vwCl (wT c ta0 ta1 ta2 ta3 ta4 (sa (sa (ss t 0 ((t.1 0) + 1)) 0 h021) 1 h033)) H := hP
    have hD : va_D A (wT c ta0 ta1 ta2 ta3 ta4 (sa (sa (ss t 0 ((t.1 0) + 1)) 0 h021) 1 h033)) := hD
    refine lv_isub hx hb dX6_lay_60 ?_
    obtain ⟨h061, e_61, hm⟩ := bd1_s hm
    refine zcSNv (As := [.ref ta3, .int p1, .int (r52 - r57)]) (rest := []) ⟨hx, hb, hml, hown, hts⟩ (k_X7_put l G K c ta3 5 (t.2 2) p1 (r52 - r57) h061 e_61) ⟨va_cnB 3 hts gX6_lay_X7_put_n38 rfl rfl rfl (nwm_HubTrains_Tracks_38 hN.2.1) (hts (.initialized RX7) (List.mem_of_getElem? (i := 6) rfl)) hd_X7_put.2 ⟨Nat.le_of_ble_eq_true rfl, Nat.le_of_ble_eq_true rfl⟩, (hts (.static yX7_put) (List.mem_of_getElem? (i := 5) rfl)), trivial⟩ hK hN hZ hP hD hS hA [3] rfl (by decide) rfl rfl hl.1 rfl (Nat.le_of_ble_eq_true rfl) dX6_lay_61 ⟨Nat.zero_le _, Nat.zero_le _⟩ (fun H locs hP hD hS => ?_)
    have hP : va_P G vwCl (wT c ta0 ta1 ta2 ta3 ta4 (sa (sa (sa (ss t 0 ((t.1 0) + 1)) 0 h021) 1 h033) 2 h061)) H := hP
    have hD : va_D A (wT c ta0 ta1 ta2 ta3 ta4 (sa (sa (sa (ss t 0 ((t.1 0) + 1)) 0 h021) 1 h033) 2 h061)) := hD
    exact hend H locs ls _ _ (zc1 (fun (z0 : SA) => (wT c ta0 ta1 ta2 ta3 ta4 z0 : va_W)) (Option.some.inj hm)) hP hD hS dX6_lay_64


def f_X1_holderOf (g : GS) (p0 : Int32) : Option Int32 :=
  if p0 < 0 then (some ((-1))) else (if (100 : Int32) ≤ p0 then (some ((-1))) else (gd (inb p0 100) <| some (((g.1.2 0) p0.toNatClampNeg))))

abbrev rm_X1_holderOf : Room := { frames := 0, cells := 0, slots := 0, locals := 0 }
theorem hd_X1_holderOf : yX1_holderOf.cls = RX1 ∧ yX1_holderOf.cls ≠ "java/lang/invoke/MethodHandle" ∧ yX1_holderOf.cls ≠ "java/lang/invoke/VarHandle" ∧ (parseMethodDescriptor yX1_holderOf.desc).map (fun d => d.parameters.length) = some 1 := by decide +kernel
set_option maxHeartbeats 4000000 in
set_option maxRecDepth 100000 in
theorem k_X1_holderOf (l : Launch) (G : va_G) (K : (Nat → Nat) × (Nat → Nat)) (c : Nat → ClassId) (ag : Nat → Nat) (g : GS) (p0 : Int32) (r : Int32) (hm : f_X1_holderOf g p0 = some (r)) : zMi l yX1_holderOf wsX1_holderOf rm_X1_holderOf G K (TY c) [.ref (ag 0), .int p0] (wG c ag g) (wG c ag g) r := by
  refine zMi.of (cc := cX1_holderOf) (maxL := 2) (lv := [(0, .ref (ag 0)), (1, .int p0)]) (by decide) rfl (Nat.le_of_ble_eq_true rfl) rfl ?_
  intro p e s m args below meth c1 A Q H locs hx hb hml hown hts hK hN hZ hP hD hA hS hend ls hl
  have hown : s.vm.findClass RX1 = some m.cls := hown
  have hi_1 : ∀ w ∈ wsX10, w ∈ wsX1_holderOf := (fun w h => List.mem_cons_of_mem _ (List.mem_append_right _ (h)))
  unfold f_X1_holderOf at hm
  refine lv_iload_n hx hb dX1_holderOf_0 rfl (lv_at hl 1 rfl) ?_
  refine lv_if_lt (tgt := 22) hx hb dX1_holderOf_1 (by decide) (fun c_1 => ?_) (fun c_1 => ?_)
  · have hm := ifp c_1 hm
    refine lv_iconst (v := (-1)) hx hb dX1_holderOf_22 (by decide) ?_
    exact hend H locs ls _ _ _ rfl (Option.some.inj hm) rfl hP hD hS dX1_holderOf_23
  · have hm := ifn c_1 hm
    refine lv_iload_n hx hb dX1_holderOf_4 rfl (lv_at hl 1 rfl) ?_
    refine lv_aload_n hx hb dX1_holderOf_5 rfl (lv_at hl 0 rfl) ?_
    refine va_get (D := G) (ci := 1) (v := .ref (ag 1)) (C := RX1) (T := TX1) (N := 16) hx hb hts hi_1 hown hK hP 0 rfl rfl 12 (by decide) (hts (.fieldLink RX1 30 "HubTrains$Game" "holders" "[I") (List.mem_of_getElem? (i := 1) rfl)) (fun _ h9 => h9) rfl dX1_holderOf_6 ?_
    refine va_alen (D := G) (v := 100) hx hb hK hP 1 0 rfl rfl rfl dX1_holderOf_9 ?_
    refine lv_icmp_ge (tgt := 22) hx hb dX1_holderOf_10 (by decide) (fun c_10 => ?_) (fun c_10 => ?_)
    · have hm := ifp c_10 hm
      refine lv_iconst (v := (-1)) hx hb dX1_holderOf_22 (by decide) ?_
      exact hend H locs ls _ _ _ rfl (Option.some.inj hm) rfl hP hD hS dX1_holderOf_23
    · have hm := ifn c_10 hm
      refine lv_aload_n hx hb dX1_holderOf_13 rfl (lv_at hl 0 rfl) ?_
      refine va_get (D := G) (ci := 1) (v := .ref (ag 1)) (C := RX1) (T := TX1) (N := 16) hx hb hts hi_1 hown hK hP 0 rfl rfl 12 (by decide) (hts (.fieldLink RX1 30 "HubTrains$Game" "holders" "[I") (List.mem_of_getElem? (i := 1) rfl)) (fun _ h9 => h9) rfl dX1_holderOf_14 ?_
      refine lv_iload_n hx hb dX1_holderOf_17 rfl (lv_at hl 1 rfl) ?_
      obtain ⟨h_18, hm⟩ := gd_s hm
      refine va_iald (D := G) hx hb hK hP 1 0 rfl rfl (inb_s h_18) dX1_holderOf_18 ?_
      refine lv_goto (tgt := 23) hx hb dX1_holderOf_19 (by decide) ?_
      exact hend H locs ls _ _ _ rfl (Option.some.inj hm) rfl hP hD hS dX1_holderOf_23


def f_X1_isInSet (g : GS) (p0 : Int32) : Option Int32 :=
  if p0 < 0 then (some (0)) else (if (100 : Int32) ≤ p0 then (some (0)) else (bd1 (f_X7_lowNumber p0) fun (r11 : Int32) => bd1 (f_X7_highNumber p0) fun (r15 : Int32) => if r15 < r11 then (some (0)) else (bd1 (f_X7_highNumber p0) fun (r22 : Int32) => if (g.1.1 0) < r22 then (some (0)) else (some (1)))))

abbrev rm_X1_isInSet : Room := { frames := 1, cells := 0, slots := 0, locals := 20 }
theorem hd_X1_isInSet : yX1_isInSet.cls = RX1 ∧ yX1_isInSet.cls ≠ "java/lang/invoke/MethodHandle" ∧ yX1_isInSet.cls ≠ "java/lang/invoke/VarHandle" ∧ (parseMethodDescriptor yX1_isInSet.desc).map (fun d => d.parameters.length) = some 1 := by decide +kernel
set_option maxHeartbeats 4000000 in
set_option maxRecDepth 100000 in
theorem k_X1_isInSet (l : Launch) (G : va_G) (K : (Nat → Nat) × (Nat → Nat)) (c : Nat → ClassId) (ag : Nat → Nat) (g : GS) (p0 : Int32) (r : Int32) (hm : f_X1_isInSet g p0 = some (r)) : zMi l yX1_isInSet wsX1_isInSet rm_X1_isInSet G K (TY c) [.ref (ag 0), .int p0] (wG c ag g) (wG c ag g) r := by
  refine zMi.of (cc := cX1_isInSet) (maxL := 2) (lv := [(0, .ref (ag 0)), (1, .int p0)]) (by decide) rfl (Nat.le_of_ble_eq_true rfl) rfl ?_
  intro p e s m args below meth c1 A Q H locs hx hb hml hown hts hK hN hZ hP hD hA hS hend ls hl
  have hown : s.vm.findClass RX1 = some m.cls := hown
  have hi_1 : ∀ w ∈ wsX10, w ∈ wsX1_isInSet := (fun w h => List.mem_cons_of_mem _ (List.mem_append_right _ (h)))
  unfold f_X1_isInSet at hm
  refine lv_iload_n hx hb dX1_isInSet_0 rfl (lv_at hl 1 rfl) ?_
  refine lv_if_lt (tgt := 36) hx hb dX1_isInSet_1 (by decide) (fun c_1 => ?_) (fun c_1 => ?_)
  · have hm := ifp c_1 hm
    refine lv_iconst (v := 0) hx hb dX1_isInSet_36 (by decide) ?_
    exact hend H locs ls _ _ _ (by decide) (Option.some.inj hm) rfl hP hD hS dX1_isInSet_37
  · have hm := ifn c_1 hm
    refine lv_iload_n hx hb dX1_isInSet_4 rfl (lv_at hl 1 rfl) ?_
    refine lv_bipush (v := 100) hx hb dX1_isInSet_5 (by decide) ?_
    refine lv_icmp_ge (tgt := 36) hx hb dX1_isInSet_7 (by decide) (fun c_7 => ?_) (fun c_7 => ?_)
    · have hm := ifp c_7 hm
      refine lv_iconst (v := 0) hx hb dX1_isInSet_36 (by decide) ?_
      exact hend H locs ls _ _ _ (by decide) (Option.some.inj hm) rfl hP hD hS dX1_isInSet_37
    · have hm := ifn c_7 hm
      refine lv_iload_n hx hb dX1_isInSet_10 rfl (lv_at hl 1 rfl) ?_
      obtain ⟨r11, e_11, hm⟩ := bd1_s hm
      refine zcSNi (As := [.int p0]) (rest := []) ⟨hx, hb, hml, hown, hts⟩ (k_X7_lowNumber l G K c p0 r11 e_11) ⟨va_cnB 1 hts gX1_isInSet_X7_lowNumber_n126 rfl rfl rfl (nwm_HubTrains_Game_126 hN.2.1) (hts (.initialized RX7) (List.mem_of_getElem? (i := 3) rfl)) hd_X7_lowNumber.2 ⟨Nat.le_of_ble_eq_true rfl, Nat.le_of_ble_eq_true rfl⟩, (hts (.static yX7_lowNumber) (List.mem_of_getElem? (i := 2) rfl)), trivial⟩ hK hN hZ hP hD hS hA [] rfl (by decide) rfl rfl hl.1 rfl (Nat.le_of_ble_eq_true rfl) dX1_isInSet_11 ⟨Nat.zero_le _, Nat.zero_le _⟩ (fun H locs hP hD hS => ?_)
      have hP : va_P G vwCl (wG c ag g) H := hP
      have hD : va_D A (wG c ag g) := hD
      refine lv_iload_n hx hb dX1_isInSet_14 rfl (lv_at hl 1 rfl) ?_
      obtain ⟨r15, e_15, hm⟩ := bd1_s hm
      refine zcSNi (As := [.int p0]) (rest := [.int r11]) ⟨hx, hb, hml, hown, hts⟩ (k_X7_highNumber l G K c p0 r15 e_15) ⟨va_cnB 1 hts gX1_isInSet_X7_highNumber_n129 rfl rfl rfl (nwm_HubTrains_Game_129 hN.2.1) (hts (.initialized RX7) (List.mem_of_getElem? (i := 3) rfl)) hd_X7_highNumber.2 ⟨Nat.le_of_ble_eq_true rfl, Nat.le_of_ble_eq_true rfl⟩, (hts (.static yX7_highNumber) (List.mem_of_getElem? (i := 5) rfl)), trivial⟩ hK hN hZ hP hD hS hA [] rfl (by decide) rfl rfl hl.1 rfl (Nat.le_of_ble_eq_true rfl) dX1_isInSet_15 ⟨Nat.zero_le _, Nat.zero_le _⟩ (fun H locs hP hD hS => ?_)
      have hP : va_P G vwCl (wG c ag g) H := hP
      have hD : va_D A (wG c ag g) := hD
      refine lv_icmp_gt (tgt := 36) hx hb dX1_isInSet_18 (by decide) (fun c_18 => ?_) (fun c_18 => ?_)
      · have hm := ifp c_18 hm
        refine lv_iconst (v := 0) hx hb dX1_isInSet_36 (by decide) ?_
        exact hend H locs ls _ _ _ (by decide) (Option.some.inj hm) rfl hP hD hS dX1_isInSet_37
      · have hm := ifn c_18 hm
        refine lv_iload_n hx hb dX1_isInSet_21 rfl (lv_at hl 1 rfl) ?_
        obtain ⟨r22, e_22, hm⟩ := bd1_s hm
        refine zcSNi (As := [.int p0]) (rest := []) ⟨hx, hb, hml, hown, hts⟩ (k_X7_highNumber l G K c p0 r22 e_22) ⟨va_cnB 1 hts gX1_isInSet_X7_highNumber_n129 rfl rfl rfl (nwm_HubTrains_Game_129 hN.2.1) (hts (.initialized RX7) (List.mem_of_getElem? (i := 3) rfl)) hd_X7_highNumber.2 ⟨Nat.le_of_ble_eq_true rfl, Nat.le_of_ble_eq_true rfl⟩, (hts (.static yX7_highNumber) (List.mem_of_getElem? (i := 5) rfl)), trivial⟩ hK hN hZ hP hD hS hA [] rfl (by decide) rfl rfl hl.1 rfl (Nat.le_of_ble_eq_true rfl) dX1_isInSet_22 ⟨Nat.zero_le _, Nat.zero_le _⟩ (fun H locs hP hD hS => ?_)
        have hP : va_P G vwCl (wG c ag g) H := hP
        have hD : va_D A (wG c ag g) := hD
        refine lv_aload_n hx hb dX1_isInSet_25 rfl (lv_at hl 0 rfl) ?_
        refine va_get (D := G) (ci := 1) (v := .int (g.1.1 0)) (C := RX1) (T := TX1) (N := 16) hx hb hts hi_1 hown hK hP 0 rfl rfl 0 (by decide) (hts (.fieldLink RX1 9 "HubTrains$Game" "greatest" "I") (List.mem_of_getElem? (i := 1) rfl)) (fun _ h9 => h9) rfl dX1_isInSet_26 ?_
        refine lv_icmp_gt (tgt := 36) hx hb dX1_isInSet_29 (by decide) (fun c_29 => ?_) (fun c_29 => ?_)
        · have hm := ifp c_29 hm
          refine lv_iconst (v := 0) hx hb dX1_isInSet_36 (by decide) ?_
          exact hend H locs ls _ _ _ (by decide) (Option.some.inj hm) rfl hP hD hS dX1_isInSet_37
        · have hm := ifn c_29 hm
          refine lv_iconst (v := 1) hx hb dX1_isInSet_32 (by decide) ?_
          refine lv_goto (tgt := 37) hx hb dX1_isInSet_33 (by decide) ?_
          exact hend H locs ls _ _ _ (by decide) (Option.some.inj hm) rfl hP hD hS dX1_isInSet_37


def f_X1_isFree (g : GS) (p0 : Int32) : Option Int32 :=
  bd1 (f_X1_holderOf g p0) fun (r2 : Int32) => if r2 = (-1) then (bd1 (f_X7_isDouble p0) fun (r10 : Int32) => if r10 = 0 then (some (1)) else (bd1 (f_X7_lowNumber p0) fun (r17 : Int32) => if r17 = (g.1.1 3) then (some (0)) else (some (1)))) else (some (0))

abbrev rm_X1_isFree : Room := { frames := 2, cells := 0, slots := 0, locals := 40 }
theorem hd_X1_isFree : yX1_isFree.cls = RX1 ∧ yX1_isFree.cls ≠ "java/lang/invoke/MethodHandle" ∧ yX1_isFree.cls ≠ "java/lang/invoke/VarHandle" ∧ (parseMethodDescriptor yX1_isFree.desc).map (fun d => d.parameters.length) = some 1 := by decide +kernel
set_option maxHeartbeats 4000000 in
set_option maxRecDepth 100000 in
theorem k_X1_isFree (l : Launch) (G : va_G) (K : (Nat → Nat) × (Nat → Nat)) (c : Nat → ClassId) (ag : Nat → Nat) (g : GS) (p0 : Int32) (r : Int32) (hm : f_X1_isFree g p0 = some (r)) : zMi l yX1_isFree wsX1_isFree rm_X1_isFree G K (TY c) [.ref (ag 0), .int p0] (wG c ag g) (wG c ag g) r := by
  refine zMi.of (cc := cX1_isFree) (maxL := 2) (lv := [(0, .ref (ag 0)), (1, .int p0)]) (by decide) rfl (Nat.le_of_ble_eq_true rfl) rfl ?_
  intro p e s m args below meth c1 A Q H locs hx hb hml hown hts hK hN hZ hP hD hA hS hend ls hl
  have hown : s.vm.findClass RX1 = some m.cls := hown
  have hi_1 : ∀ w ∈ wsX10, w ∈ wsX1_isFree := (fun w h => List.mem_cons_of_mem _ (List.mem_append_right _ (h)))
  unfold f_X1_isFree at hm
  refine lv_aload_n hx hb dX1_isFree_0 rfl (lv_at hl 0 rfl) ?_
  refine lv_iload_n hx hb dX1_isFree_1 rfl (lv_at hl 1 rfl) ?_
  obtain ⟨r2, e_2, hm⟩ := bd1_s hm
  refine zcVi (As := [.int p0]) (rest := []) ⟨hx, hb, hml, hown, hts⟩ (k_X1_holderOf l G K c ag g p0 r2 e_2) (cwV 1 hts gX1_isFree_X1_holderOf rfl rfl rfl hd_X1_holderOf ⟨Nat.le_of_ble_eq_true rfl, Nat.le_of_ble_eq_true rfl⟩) hK hN hZ hP hD hS hA (va_recv hK hP (ci := 1) (q0 := 0) rfl rfl) [0, 1, 2, 3, 4, 5, 6, 7, 8, 9] rfl (by decide) rfl rfl hl.1 rfl (Nat.le_of_ble_eq_true rfl) dX1_isFree_2 ⟨Nat.zero_le _, Nat.zero_le _⟩ (fun H locs hP hD hS => ?_)
  have hP : va_P G vwCl (wG c ag g) H := hP
  have hD : va_D A (wG c ag g) := hD
  refine lv_iconst (v := (-1)) hx hb dX1_isFree_5 (by decide) ?_
  refine lv_icmp_ne (tgt := 31) hx hb dX1_isFree_6 (by decide) (fun c_6 => ?_) (fun c_6 => ?_)
  · have hm := ifn c_6 hm
    refine lv_iconst (v := 0) hx hb dX1_isFree_31 (by decide) ?_
    exact hend H locs ls _ _ _ (by decide) (Option.some.inj hm) rfl hP hD hS dX1_isFree_32
  · have hm := ifp c_6 hm
    refine lv_iload_n hx hb dX1_isFree_9 rfl (lv_at hl 1 rfl) ?_
    obtain ⟨r10, e_10, hm⟩ := bd1_s hm
    refine zcSNi (As := [.int p0]) (rest := []) ⟨hx, hb, hml, hown, hts⟩ (k_X7_isDouble l G K c p0 r10 e_10) ⟨va_cnB 1 hts gX1_isFree_X7_isDouble_n135 rfl rfl rfl (nwm_HubTrains_Game_135 hN.2.1) (hts (.initialized RX7) (List.mem_of_getElem? (i := 9) rfl)) hd_X7_isDouble.2 ⟨Nat.le_of_ble_eq_true rfl, Nat.le_of_ble_eq_true rfl⟩, (hts (.static yX7_isDouble) (List.mem_of_getElem? (i := 8) rfl)), trivial⟩ hK hN hZ hP hD hS hA [] rfl (by decide) rfl rfl hl.1 rfl (Nat.le_of_ble_eq_true rfl) dX1_isFree_10 ⟨Nat.zero_le _, Nat.zero_le _⟩ (fun H locs hP hD hS => ?_)
    have hP : va_P G vwCl (wG c ag g) H := hP
    have hD : va_D A (wG c ag g) := hD
    refine lv_if_eq (tgt := 27) hx hb dX1_isFree_13 (by decide) (fun c_13 => ?_) (fun c_13 => ?_)
    · have hm := ifp c_13 hm
      refine lv_iconst (v := 1) hx hb dX1_isFree_27 (by decide) ?_
      refine lv_goto (tgt := 32) hx hb dX1_isFree_28 (by decide) ?_
      exact hend H locs ls _ _ _ (by decide) (Option.some.inj hm) rfl hP hD hS dX1_isFree_32
    · have hm := ifn c_13 hm
      refine lv_iload_n hx hb dX1_isFree_16 rfl (lv_at hl 1 rfl) ?_
      obtain ⟨r17, e_17, hm⟩ := bd1_s hm
      refine zcSNi (As := [.int p0]) (rest := []) ⟨hx, hb, hml, hown, hts⟩ (k_X7_lowNumber l G K c p0 r17 e_17) ⟨va_cnB 1 hts gX1_isFree_X7_lowNumber_n126 rfl rfl rfl (nwm_HubTrains_Game_126 hN.2.1) (hts (.initialized RX7) (List.mem_of_getElem? (i := 9) rfl)) hd_X7_lowNumber.2 ⟨Nat.le_of_ble_eq_true rfl, Nat.le_of_ble_eq_true rfl⟩, (hts (.static yX7_lowNumber) (List.mem_of_getElem? (i := 12) rfl)), trivial⟩ hK hN hZ hP hD hS hA [] rfl (by decide) rfl rfl hl.1 rfl (Nat.le_of_ble_eq_true rfl) dX1_isFree_17 ⟨Nat.zero_le _, Nat.zero_le _⟩ (fun H locs hP hD hS => ?_)
      have hP : va_P G vwCl (wG c ag g) H := hP
      have hD : va_D A (wG c ag g) := hD
      refine lv_aload_n hx hb dX1_isFree_20 rfl (lv_at hl 0 rfl) ?_
      refine va_get (D := G) (ci := 1) (v := .int (g.1.1 3)) (C := RX1) (T := TX1) (N := 16) hx hb hts hi_1 hown hK hP 0 rfl rfl 3 (by decide) (hts (.fieldLink RX1 21 "HubTrains$Game" "hub" "I") (List.mem_of_getElem? (i := 1) rfl)) (fun _ h9 => h9) rfl dX1_isFree_21 ?_
      refine lv_icmp_eq (tgt := 31) hx hb dX1_isFree_24 (by decide) (fun c_24 => ?_) (fun c_24 => ?_)
      · have hm := ifp c_24 hm
        refine lv_iconst (v := 0) hx hb dX1_isFree_31 (by decide) ?_
        exact hend H locs ls _ _ _ (by decide) (Option.some.inj hm) rfl hP hD hS dX1_isFree_32
      · have hm := ifn c_24 hm
        refine lv_iconst (v := 1) hx hb dX1_isFree_27 (by decide) ?_
        refine lv_goto (tgt := 32) hx hb dX1_isFree_28 (by decide) ?_
        exact hend H locs ls _ _ _ (by decide) (Option.some.inj hm) rfl hP hD hS dX1_isFree_32

def f_X1_handCount_B4 (g : GS) (p0 : Int32) (rec_4 : Int32 → Int32 → Option Int32) (v2_4 : Int32) (v3_4 : Int32) : Option Int32 :=
  if (100 : Int32) ≤ v3_4 then (some (v2_4)) else (bd1 (f_X1_holderOf g v3_4) fun (r12 : Int32) => if r12 = p0 then (rec_4 (v2_4 + 1) (v3_4 + 1)) else (rec_4 v2_4 (v3_4 + 1)))

def f_X1_handCount (g : GS) (p0 : Int32) : Option Int32 :=
  itr2 (f_X1_handCount_B4 g p0) FUEL 0 0

abbrev rm_X1_handCount : Room := { frames := 1, cells := 0, slots := 0, locals := 21 }
theorem hd_X1_handCount : yX1_handCount.cls = RX1 ∧ yX1_handCount.cls ≠ "java/lang/invoke/MethodHandle" ∧ yX1_handCount.cls ≠ "java/lang/invoke/VarHandle" ∧ (parseMethodDescriptor yX1_handCount.desc).map (fun d => d.parameters.length) = some 1 := by decide +kernel
set_option maxHeartbeats 4000000 in
set_option maxRecDepth 100000 in
theorem k_X1_handCount (l : Launch) (G : va_G) (K : (Nat → Nat) × (Nat → Nat)) (c : Nat → ClassId) (ag : Nat → Nat) (g : GS) (p0 : Int32) (r : Int32) (hm : f_X1_handCount g p0 = some (r)) : zMi l yX1_handCount wsX1_handCount rm_X1_handCount G K (TY c) [.ref (ag 0), .int p0] (wG c ag g) (wG c ag g) r := by
  refine zMi.of (cc := cX1_handCount) (maxL := 4) (lv := [(0, .ref (ag 0)), (1, .int p0)]) (by decide) rfl (Nat.le_of_ble_eq_true rfl) rfl ?_
  intro p e s m args below meth c1 A Q H locs hx hb hml hown hts hK hN hZ hP hD hA hS hend ls hl
  have hown : s.vm.findClass RX1 = some m.cls := hown
  unfold f_X1_handCount at hm
  refine lv_iconst (v := 0) hx hb dX1_handCount_0 (by decide) ?_
  refine lv_istore_n (lv' := [(2, .int 0), (0, .ref (ag 0)), (1, .int p0)]) hx hb dX1_handCount_1 rfl hl (by decide) rfl (fun ls hl => ?_)
  refine lv_iconst (v := 0) hx hb dX1_handCount_2 (by decide) ?_
  refine lv_istore_n (lv' := [(3, .int 0), (2, .int 0), (0, .ref (ag 0)), (1, .int p0)]) hx hb dX1_handCount_3 rfl hl (by decide) rfl (fun ls hl => ?_)
  have L_4 : ∀ (n_4 : Nat) (v2_4 : Int32) (v3_4 : Int32) (H : Heap) (locs : List Loc) (ls : Array Slot), va_P G vwCl (wG c ag g) H → va_D A (wG c ag g) → va_S A s.heap H locs → lv_has ls 4 [(0, .ref (ag 0)), (1, .int p0), (2, .int v2_4), (3, .int v3_4)] → itr2 (f_X1_handCount_B4 g p0) n_4 v2_4 v3_4 = some (r) → W p l e rm_X1_handCount s m args below meth c1 H locs 0 0 Q (F0 m 4 ls []) := by
    intro n_4
    induction n_4 with
    | zero => intro v2_4 v3_4 H locs ls hP hD hS hl hm; exact (itr2_0 hm).elim
    | succ n_4 ih_4 =>
      intro v2_4 v3_4 H locs ls hP hD hS hl hm
      have hm := itr2_s hm
      unfold f_X1_handCount_B4 at hm
      refine lv_iload_n hx hb dX1_handCount_4 rfl (lv_at hl 3 rfl) ?_
      refine lv_bipush (v := 100) hx hb dX1_handCount_5 (by decide) ?_
      refine lv_icmp_ge (tgt := 28) hx hb dX1_handCount_7 (by decide) (fun c_7 => ?_) (fun c_7 => ?_)
      · have hm := ifp c_7 hm
        refine lv_iload_n hx hb dX1_handCount_28 rfl (lv_at hl 2 rfl) ?_
        exact hend H locs ls _ _ _ rfl (Option.some.inj hm) rfl hP hD hS dX1_handCount_29
      · have hm := ifn c_7 hm
        refine lv_aload_n hx hb dX1_handCount_10 rfl (lv_at hl 0 rfl) ?_
        refine lv_iload_n hx hb dX1_handCount_11 rfl (lv_at hl 3 rfl) ?_
        obtain ⟨r12, e_12, hm⟩ := bd1_s hm
        refine zcVi (As := [.int v3_4]) (rest := []) ⟨hx, hb, hml, hown, hts⟩ (k_X1_holderOf l G K c ag g v3_4 r12 e_12) (cwV 1 hts gX1_handCount_X1_holderOf rfl rfl rfl hd_X1_holderOf ⟨Nat.le_of_ble_eq_true rfl, Nat.le_of_ble_eq_true rfl⟩) hK hN hZ hP hD hS hA (va_recv hK hP (ci := 1) (q0 := 0) rfl rfl) [0, 1, 2, 3, 4, 5, 6, 7, 8, 9] rfl (by decide) rfl rfl hl.1 rfl (Nat.le_of_ble_eq_true rfl) dX1_handCount_12 ⟨Nat.zero_le _, Nat.zero_le _⟩ (fun H locs hP hD hS => ?_)
        have hP : va_P G vwCl (wG c ag g) H := hP
        have hD : va_D A (wG c ag g) := hD
        refine lv_iload_n hx hb dX1_handCount_15 rfl (lv_at hl 1 rfl) ?_
        refine lv_icmp_ne (tgt := 22) hx hb dX1_handCount_16 (by decide) (fun c_16 => ?_) (fun c_16 => ?_)
        · have hm := ifn c_16 hm
          refine lv_iinc (k := 3) (v := (v3_4 + 1)) (lv' := [(3, .int (v3_4 + 1)), (0, .ref (ag 0)), (1, .int p0), (2, .int v2_4)]) hx hb dX1_handCount_22 hl rfl rfl (by decide) rfl (fun ls hl => ?_)
          refine lv_goto (tgt := 4) hx hb dX1_handCount_25 (by decide) ?_
          exact ih_4 v2_4 (v3_4 + 1) H locs ls hP hD hS (lv_sub hl [1, 2, 3, 0] rfl) hm
        · have hm := ifp c_16 hm
          refine lv_iinc (k := 2) (v := (v2_4 + 1)) (lv' := [(2, .int (v2_4 + 1)), (0, .ref (ag 0)), (1, .int p0), (3, .int v3_4)]) hx hb dX1_handCount_19 hl rfl rfl (by decide) rfl (fun ls hl => ?_)
          refine lv_iinc (k := 3) (v := (v3_4 + 1)) (lv' := [(3, .int (v3_4 + 1)), (2, .int (v2_4 + 1)), (0, .ref (ag 0)), (1, .int p0)]) hx hb dX1_handCount_22 hl rfl rfl (by decide) rfl (fun ls hl => ?_)
          refine lv_goto (tgt := 4) hx hb dX1_handCount_25 (by decide) ?_
          exact ih_4 (v2_4 + 1) (v3_4 + 1) H locs ls hP hD hS (lv_sub hl [2, 3, 1, 0] rfl) hm
  exact L_4 FUEL 0 0 H locs ls hP hD hS (lv_sub hl [2, 3, 1, 0] rfl) hm

def f_X1_handPips_B4 (g : GS) (p0 : Int32) (rec_4 : Int32 → Int32 → Option Int32) (v2_4 : Int32) (v3_4 : Int32) : Option Int32 :=
  if (100 : Int32) ≤ v3_4 then (some (v2_4)) else (bd1 (f_X1_holderOf g v3_4) fun (r12 : Int32) => if r12 = p0 then (bd1 (f_X7_pipsOf v3_4) fun (r21 : Int32) => rec_4 (v2_4 + r21) (v3_4 + 1)) else (rec_4 v2_4 (v3_4 + 1)))

def f_X1_handPips (g : GS) (p0 : Int32) : Option Int32 :=
  itr2 (f_X1_handPips_B4 g p0) FUEL 0 0

abbrev rm_X1_handPips : Room := { frames := 2, cells := 0, slots := 0, locals := 40 }
theorem hd_X1_handPips : yX1_handPips.cls = RX1 ∧ yX1_handPips.cls ≠ "java/lang/invoke/MethodHandle" ∧ yX1_handPips.cls ≠ "java/lang/invoke/VarHandle" ∧ (parseMethodDescriptor yX1_handPips.desc).map (fun d => d.parameters.length) = some 1 := by decide +kernel
set_option maxHeartbeats 4000000 in
set_option maxRecDepth 100000 in
theorem k_X1_handPips (l : Launch) (G : va_G) (K : (Nat → Nat) × (Nat → Nat)) (c : Nat → ClassId) (ag : Nat → Nat) (g : GS) (p0 : Int32) (r : Int32) (hm : f_X1_handPips g p0 = some (r)) : zMi l yX1_handPips wsX1_handPips rm_X1_handPips G K (TY c) [.ref (ag 0), .int p0] (wG c ag g) (wG c ag g) r := by
  refine zMi.of (cc := cX1_handPips) (maxL := 4) (lv := [(0, .ref (ag 0)), (1, .int p0)]) (by decide) rfl (Nat.le_of_ble_eq_true rfl) rfl ?_
  intro p e s m args below meth c1 A Q H locs hx hb hml hown hts hK hN hZ hP hD hA hS hend ls hl
  have hown : s.vm.findClass RX1 = some m.cls := hown
  unfold f_X1_handPips at hm
  refine lv_iconst (v := 0) hx hb dX1_handPips_0 (by decide) ?_
  refine lv_istore_n (lv' := [(2, .int 0), (0, .ref (ag 0)), (1, .int p0)]) hx hb dX1_handPips_1 rfl hl (by decide) rfl (fun ls hl => ?_)
  refine lv_iconst (v := 0) hx hb dX1_handPips_2 (by decide) ?_
  refine lv_istore_n (lv' := [(3, .int 0), (2, .int 0), (0, .ref (ag 0)), (1, .int p0)]) hx hb dX1_handPips_3 rfl hl (by decide) rfl (fun ls hl => ?_)
  have L_4 : ∀ (n_4 : Nat) (v2_4 : Int32) (v3_4 : Int32) (H : Heap) (locs : List Loc) (ls : Array Slot), va_P G vwCl (wG c ag g) H → va_D A (wG c ag g) → va_S A s.heap H locs → lv_has ls 4 [(0, .ref (ag 0)), (1, .int p0), (2, .int v2_4), (3, .int v3_4)] → itr2 (f_X1_handPips_B4 g p0) n_4 v2_4 v3_4 = some (r) → W p l e rm_X1_handPips s m args below meth c1 H locs 0 0 Q (F0 m 4 ls []) := by
    intro n_4
    induction n_4 with
    | zero => intro v2_4 v3_4 H locs ls hP hD hS hl hm; exact (itr2_0 hm).elim
    | succ n_4 ih_4 =>
      intro v2_4 v3_4 H locs ls hP hD hS hl hm
      have hm := itr2_s hm
      unfold f_X1_handPips_B4 at hm
      refine lv_iload_n hx hb dX1_handPips_4 rfl (lv_at hl 3 rfl) ?_
      refine lv_bipush (v := 100) hx hb dX1_handPips_5 (by decide) ?_
      refine lv_icmp_ge (tgt := 32) hx hb dX1_handPips_7 (by decide) (fun c_7 => ?_) (fun c_7 => ?_)
      · have hm := ifp c_7 hm
        refine lv_iload_n hx hb dX1_handPips_32 rfl (lv_at hl 2 rfl) ?_
        exact hend H locs ls _ _ _ rfl (Option.some.inj hm) rfl hP hD hS dX1_handPips_33
      · have hm := ifn c_7 hm
        refine lv_aload_n hx hb dX1_handPips_10 rfl (lv_at hl 0 rfl) ?_
        refine lv_iload_n hx hb dX1_handPips_11 rfl (lv_at hl 3 rfl) ?_
        obtain ⟨r12, e_12, hm⟩ := bd1_s hm
        refine zcVi (As := [.int v3_4]) (rest := []) ⟨hx, hb, hml, hown, hts⟩ (k_X1_holderOf l G K c ag g v3_4 r12 e_12) (cwV 1 hts gX1_handPips_X1_holderOf rfl rfl rfl hd_X1_holderOf ⟨Nat.le_of_ble_eq_true rfl, Nat.le_of_ble_eq_true rfl⟩) hK hN hZ hP hD hS hA (va_recv hK hP (ci := 1) (q0 := 0) rfl rfl) [0, 1, 2, 3, 4, 5, 6, 7, 8, 9] rfl (by decide) rfl rfl hl.1 rfl (Nat.le_of_ble_eq_true rfl) dX1_handPips_12 ⟨Nat.zero_le _, Nat.zero_le _⟩ (fun H locs hP hD hS => ?_)
        have hP : va_P G vwCl (wG c ag g) H := hP
        have hD : va_D A (wG c ag g) := hD
        refine lv_iload_n hx hb dX1_handPips_15 rfl (lv_at hl 1 rfl) ?_
        refine lv_icmp_ne (tgt := 26) hx hb dX1_handPips_16 (by decide) (fun c_16 => ?_) (fun c_16 => ?_)
        · have hm := ifn c_16 hm
          refine lv_iinc (k := 3) (v := (v3_4 + 1)) (lv' := [(3, .int (v3_4 + 1)), (0, .ref (ag 0)), (1, .int p0), (2, .int v2_4)]) hx hb dX1_handPips_26 hl rfl rfl (by decide) rfl (fun ls hl => ?_)
          refine lv_goto (tgt := 4) hx hb dX1_handPips_29 (by decide) ?_
          exact ih_4 v2_4 (v3_4 + 1) H locs ls hP hD hS (lv_sub hl [1, 2, 3, 0] rfl) hm
        · have hm := ifp c_16 hm
          refine lv_iload_n hx hb dX1_handPips_19 rfl (lv_at hl 2 rfl) ?_
          refine lv_iload_n hx hb dX1_handPips_20 rfl (lv_at hl 3 rfl) ?_
          obtain ⟨r21, e_21, hm⟩ := bd1_s hm
          refine zcSNi (As := [.int v3_4]) (rest := [.int v2_4]) ⟨hx, hb, hml, hown, hts⟩ (k_X7_pipsOf l G K c v3_4 r21 e_21) ⟨va_cnB 1 hts gX1_handPips_X7_pipsOf_n138 rfl rfl rfl (nwm_HubTrains_Game_138 hN.2.1) (hts (.initialized RX7) (List.mem_of_getElem? (i := 8) rfl)) hd_X7_pipsOf.2 ⟨Nat.le_of_ble_eq_true rfl, Nat.le_of_ble_eq_true rfl⟩, (hts (.static yX7_pipsOf) (List.mem_of_getElem? (i := 7) rfl)), trivial⟩ hK hN hZ hP hD hS hA [] rfl (by decide) rfl rfl hl.1 rfl (Nat.le_of_ble_eq_true rfl) dX1_handPips_21 ⟨Nat.zero_le _, Nat.zero_le _⟩ (fun H locs hP hD hS => ?_)
          have hP : va_P G vwCl (wG c ag g) H := hP
          have hD : va_D A (wG c ag g) := hD
          refine lv_iadd hx hb dX1_handPips_24 ?_
          refine lv_istore_n (lv' := [(2, .int (v2_4 + r21)), (0, .ref (ag 0)), (1, .int p0), (3, .int v3_4)]) hx hb dX1_handPips_25 rfl hl (by decide) rfl (fun ls hl => ?_)
          refine lv_iinc (k := 3) (v := (v3_4 + 1)) (lv' := [(3, .int (v3_4 + 1)), (2, .int (v2_4 + r21)), (0, .ref (ag 0)), (1, .int p0)]) hx hb dX1_handPips_26 hl rfl rfl (by decide) rfl (fun ls hl => ?_)
          refine lv_goto (tgt := 4) hx hb dX1_handPips_29 (by decide) ?_
          exact ih_4 (v2_4 + r21) (v3_4 + 1) H locs ls hP hD hS (lv_sub hl [2, 3, 1, 0] rfl) hm
  exact L_4 FUEL 0 0 H locs ls hP hD hS (lv_sub hl [2, 3, 1, 0] rfl) hm

def f_X1_tileInHand_B5 (g : GS) (p0 : Int32) (p1 : Int32) (rec_5 : Int32 → Int32 → Option Int32) (v3_5 : Int32) (v4_5 : Int32) : Option Int32 :=
  if (100 : Int32) ≤ v4_5 then (some ((-1))) else (bd1 (f_X1_holderOf g v4_5) fun (r15 : Int32) => if r15 = p0 then (if v3_5 = p1 then (some (v4_5)) else (rec_5 (v3_5 + 1) (v4_5 + 1))) else (rec_5 v3_5 (v4_5 + 1)))

def f_X1_tileInHand (g : GS) (p0 : Int32) (p1 : Int32) : Option Int32 :=
  itr2 (f_X1_tileInHand_B5 g p0 p1) FUEL 0 0

abbrev rm_X1_tileInHand : Room := { frames := 1, cells := 0, slots := 0, locals := 21 }
theorem hd_X1_tileInHand : yX1_tileInHand.cls = RX1 ∧ yX1_tileInHand.cls ≠ "java/lang/invoke/MethodHandle" ∧ yX1_tileInHand.cls ≠ "java/lang/invoke/VarHandle" ∧ (parseMethodDescriptor yX1_tileInHand.desc).map (fun d => d.parameters.length) = some 2 := by decide +kernel
set_option maxHeartbeats 4000000 in
set_option maxRecDepth 100000 in
theorem k_X1_tileInHand (l : Launch) (G : va_G) (K : (Nat → Nat) × (Nat → Nat)) (c : Nat → ClassId) (ag : Nat → Nat) (g : GS) (p0 : Int32) (p1 : Int32) (r : Int32) (hm : f_X1_tileInHand g p0 p1 = some (r)) : zMi l yX1_tileInHand wsX1_tileInHand rm_X1_tileInHand G K (TY c) [.ref (ag 0), .int p0, .int p1] (wG c ag g) (wG c ag g) r := by
  refine zMi.of (cc := cX1_tileInHand) (maxL := 5) (lv := [(0, .ref (ag 0)), (1, .int p0), (2, .int p1)]) (by decide) rfl (Nat.le_of_ble_eq_true rfl) rfl ?_
  intro p e s m args below meth c1 A Q H locs hx hb hml hown hts hK hN hZ hP hD hA hS hend ls hl
  have hown : s.vm.findClass RX1 = some m.cls := hown
  unfold f_X1_tileInHand at hm
  refine lv_iconst (v := 0) hx hb dX1_tileInHand_0 (by decide) ?_
  refine lv_istore_n (lv' := [(3, .int 0), (0, .ref (ag 0)), (1, .int p0), (2, .int p1)]) hx hb dX1_tileInHand_1 rfl hl (by decide) rfl (fun ls hl => ?_)
  refine lv_iconst (v := 0) hx hb dX1_tileInHand_2 (by decide) ?_
  refine lv_istore (lv' := [(4, .int 0), (3, .int 0), (0, .ref (ag 0)), (1, .int p0), (2, .int p1)]) hx hb dX1_tileInHand_3 hl (by decide) rfl (fun ls hl => ?_)
  have L_5 : ∀ (n_5 : Nat) (v3_5 : Int32) (v4_5 : Int32) (H : Heap) (locs : List Loc) (ls : Array Slot), va_P G vwCl (wG c ag g) H → va_D A (wG c ag g) → va_S A s.heap H locs → lv_has ls 5 [(0, .ref (ag 0)), (1, .int p0), (2, .int p1), (3, .int v3_5), (4, .int v4_5)] → itr2 (f_X1_tileInHand_B5 g p0 p1) n_5 v3_5 v4_5 = some (r) → W p l e rm_X1_tileInHand s m args below meth c1 H locs 0 0 Q (F0 m 5 ls []) := by
    intro n_5
    induction n_5 with
    | zero => intro v3_5 v4_5 H locs ls hP hD hS hl hm; exact (itr2_0 hm).elim
    | succ n_5 ih_5 =>
      intro v3_5 v4_5 H locs ls hP hD hS hl hm
      have hm := itr2_s hm
      unfold f_X1_tileInHand_B5 at hm
      refine lv_iload hx hb dX1_tileInHand_5 (lv_at hl 4 rfl) ?_
      refine lv_bipush (v := 100) hx hb dX1_tileInHand_7 (by decide) ?_
      refine lv_icmp_ge (tgt := 39) hx hb dX1_tileInHand_9 (by decide) (fun c_9 => ?_) (fun c_9 => ?_)
      · have hm := ifp c_9 hm
        refine lv_iconst (v := (-1)) hx hb dX1_tileInHand_39 (by decide) ?_
        exact hend H locs ls _ _ _ rfl (Option.some.inj hm) rfl hP hD hS dX1_tileInHand_40
      · have hm := ifn c_9 hm
        refine lv_aload_n hx hb dX1_tileInHand_12 rfl (lv_at hl 0 rfl) ?_
        refine lv_iload hx hb dX1_tileInHand_13 (lv_at hl 4 rfl) ?_
        obtain ⟨r15, e_15, hm⟩ := bd1_s hm
        refine zcVi (As := [.int v4_5]) (rest := []) ⟨hx, hb, hml, hown, hts⟩ (k_X1_holderOf l G K c ag g v4_5 r15 e_15) (cwV 1 hts gX1_tileInHand_X1_holderOf rfl rfl rfl hd_X1_holderOf ⟨Nat.le_of_ble_eq_true rfl, Nat.le_of_ble_eq_true rfl⟩) hK hN hZ hP hD hS hA (va_recv hK hP (ci := 1) (q0 := 0) rfl rfl) [0, 1, 2, 3, 4, 5, 6, 7, 8, 9] rfl (by decide) rfl rfl hl.1 rfl (Nat.le_of_ble_eq_true rfl) dX1_tileInHand_15 ⟨Nat.zero_le _, Nat.zero_le _⟩ (fun H locs hP hD hS => ?_)
        have hP : va_P G vwCl (wG c ag g) H := hP
        have hD : va_D A (wG c ag g) := hD
        refine lv_iload_n hx hb dX1_tileInHand_18 rfl (lv_at hl 1 rfl) ?_
        refine lv_icmp_ne (tgt := 33) hx hb dX1_tileInHand_19 (by decide) (fun c_19 => ?_) (fun c_19 => ?_)
        · have hm := ifn c_19 hm
          refine lv_iinc (k := 4) (v := (v4_5 + 1)) (lv' := [(4, .int (v4_5 + 1)), (0, .ref (ag 0)), (1, .int p0), (2, .int p1), (3, .int v3_5)]) hx hb dX1_tileInHand_33 hl rfl rfl (by decide) rfl (fun ls hl => ?_)
          refine lv_goto (tgt := 5) hx hb dX1_tileInHand_36 (by decide) ?_
          exact ih_5 v3_5 (v4_5 + 1) H locs ls hP hD hS (lv_sub hl [1, 2, 3, 4, 0] rfl) hm
        · have hm := ifp c_19 hm
          refine lv_iload_n hx hb dX1_tileInHand_22 rfl (lv_at hl 3 rfl) ?_
          refine lv_iload_n hx hb dX1_tileInHand_23 rfl (lv_at hl 2 rfl) ?_
          refine lv_icmp_ne (tgt := 30) hx hb dX1_tileInHand_24 (by decide) (fun c_24 => ?_) (fun c_24 => ?_)
          · have hm := ifn c_24 hm
            refine lv_iinc (k := 3) (v := (v3_5 + 1)) (lv' := [(3, .int (v3_5 + 1)), (0, .ref (ag 0)), (1, .int p0), (2, .int p1), (4, .int v4_5)]) hx hb dX1_tileInHand_30 hl rfl rfl (by decide) rfl (fun ls hl => ?_)
            refine lv_iinc (k := 4) (v := (v4_5 + 1)) (lv' := [(4, .int (v4_5 + 1)), (3, .int (v3_5 + 1)), (0, .ref (ag 0)), (1, .int p0), (2, .int p1)]) hx hb dX1_tileInHand_33 hl rfl rfl (by decide) rfl (fun ls hl => ?_)
            refine lv_goto (tgt := 5) hx hb dX1_tileInHand_36 (by decide) ?_
            exact ih_5 (v3_5 + 1) (v4_5 + 1) H locs ls hP hD hS (lv_sub hl [2, 3, 4, 1, 0] rfl) hm
          · have hm := ifp c_24 hm
            refine lv_iload hx hb dX1_tileInHand_27 (lv_at hl 4 rfl) ?_
            exact hend H locs ls _ _ _ rfl (Option.some.inj hm) rfl hP hD hS dX1_tileInHand_29
  exact L_5 FUEL 0 0 H locs ls hP hD hS (lv_sub hl [2, 3, 4, 1, 0] rfl) hm


def f_X1_isOpen (g : GS) (p0 : Int32) : Option Int32 :=
  if p0 = (g.1.1 1) then (some (1)) else (bd1 (f_X6_isOpen g.2.2.2 p0) fun (r13 : Int32) => if r13 = 0 then (some (0)) else (some (1)))

abbrev rm_X1_isOpen : Room := { frames := 2, cells := 0, slots := 0, locals := 42 }
theorem hd_X1_isOpen : yX1_isOpen.cls = RX1 ∧ yX1_isOpen.cls ≠ "java/lang/invoke/MethodHandle" ∧ yX1_isOpen.cls ≠ "java/lang/invoke/VarHandle" ∧ (parseMethodDescriptor yX1_isOpen.desc).map (fun d => d.parameters.length) = some 1 := by decide +kernel
set_option maxHeartbeats 4000000 in
set_option maxRecDepth 100000 in
theorem k_X1_isOpen (l : Launch) (G : va_G) (K : (Nat → Nat) × (Nat → Nat)) (c : Nat → ClassId) (ag : Nat → Nat) (g : GS) (p0 : Int32) (r : Int32) (hm : f_X1_isOpen g p0 = some (r)) : zMi l yX1_isOpen wsX1_isOpen rm_X1_isOpen G K (TY c) [.ref (ag 0), .int p0] (wG c ag g) (wG c ag g) r := by
  refine zMi.of (cc := cX1_isOpen) (maxL := 2) (lv := [(0, .ref (ag 0)), (1, .int p0)]) (by decide) rfl (Nat.le_of_ble_eq_true rfl) rfl ?_
  intro p e s m args below meth c1 A Q H locs hx hb hml hown hts hK hN hZ hP hD hA hS hend ls hl
  have hown : s.vm.findClass RX1 = some m.cls := hown
  have hi_1 : ∀ w ∈ wsX10, w ∈ wsX1_isOpen := (fun w h => List.mem_cons_of_mem _ (List.mem_append_left _ (List.mem_append_right _ (h))))
  unfold f_X1_isOpen at hm
  refine lv_iload_n hx hb dX1_isOpen_0 rfl (lv_at hl 1 rfl) ?_
  refine lv_aload_n hx hb dX1_isOpen_1 rfl (lv_at hl 0 rfl) ?_
  refine va_get (D := G) (ci := 1) (v := .int (g.1.1 1)) (C := RX1) (T := TX1) (N := 16) hx hb hts hi_1 hown hK hP 0 rfl rfl 1 (by decide) (hts (.fieldLink RX1 15 "HubTrains$Game" "players" "I") (List.mem_of_getElem? (i := 1) rfl)) (fun _ h9 => h9) rfl dX1_isOpen_2 ?_
  refine lv_icmp_eq (tgt := 19) hx hb dX1_isOpen_5 (by decide) (fun c_5 => ?_) (fun c_5 => ?_)
  · have hm := ifp c_5 hm
    refine lv_iconst (v := 1) hx hb dX1_isOpen_19 (by decide) ?_
    refine lv_goto (tgt := 24) hx hb dX1_isOpen_20 (by decide) ?_
    exact hend H locs ls _ _ _ (by decide) (Option.some.inj hm) rfl hP hD hS dX1_isOpen_24
  · have hm := ifn c_5 hm
    refine lv_aload_n hx hb dX1_isOpen_8 rfl (lv_at hl 0 rfl) ?_
    refine va_get (D := G) (ci := 1) (v := .ref (ag 5)) (C := RX1) (T := TX1) (N := 16) hx hb hts hi_1 hown hK hP 0 rfl rfl 15 (by decide) (hts (.fieldLink RX1 47 "HubTrains$Game" "tracks" "LHubTrains$Tracks;") (List.mem_of_getElem? (i := 2) rfl)) (fun _ h9 => h9) rfl dX1_isOpen_9 ?_
    refine lv_iload_n hx hb dX1_isOpen_12 rfl (lv_at hl 1 rfl) ?_
    obtain ⟨r13, e_13, hm⟩ := bd1_s hm
    refine zcVi (As := [.int p0]) (rest := []) ⟨hx, hb, hml, hown, hts⟩ (k_X6_isOpen l G K c (ag 5) (ag 6) (ag 7) (ag 8) (ag 9) g.2.2.2 p0 r13 e_13) (cwV 1 hts gX1_isOpen_X6_isOpen rfl rfl rfl hd_X6_isOpen ⟨Nat.le_of_ble_eq_true rfl, Nat.le_of_ble_eq_true rfl⟩) hK hN hZ hP hD hS hA (va_recv hK hP (ci := 6) (q0 := 5) rfl rfl) [5, 6, 7, 8, 9] rfl (by decide) rfl rfl hl.1 rfl (Nat.le_of_ble_eq_true rfl) dX1_isOpen_13 ⟨Nat.zero_le _, Nat.zero_le _⟩ (fun H locs hP hD hS => ?_)
    have hP : va_P G vwCl (wG c ag g) H := hP
    have hD : va_D A (wG c ag g) := hD
    refine lv_if_eq (tgt := 23) hx hb dX1_isOpen_16 (by decide) (fun c_16 => ?_) (fun c_16 => ?_)
    · have hm := ifp c_16 hm
      refine lv_iconst (v := 0) hx hb dX1_isOpen_23 (by decide) ?_
      exact hend H locs ls _ _ _ (by decide) (Option.some.inj hm) rfl hP hD hS dX1_isOpen_24
    · have hm := ifn c_16 hm
      refine lv_iconst (v := 1) hx hb dX1_isOpen_19 (by decide) ?_
      refine lv_goto (tgt := 24) hx hb dX1_isOpen_20 (by decide) ?_
      exact hend H locs ls _ _ _ (by decide) (Option.some.inj hm) rfl hP hD hS dX1_isOpen_24

def f_X1_obstacle_J67 (g : GS) (p0 : Int32) (p1 : Int32) : Option Int32 :=
  bd1 (f_X6_endOf g.2.2.2 p1) fun (r73 : Int32) => bd1 (f_X7_hasNumber p0 r73) fun (r76 : Int32) => if r76 = 0 then (some (5)) else (some (0))

def f_X1_obstacle_J41 (g : GS) (p0 : Int32) (p1 : Int32) : Option Int32 :=
  if (g.1.1 7) = (-1) then (if p1 = (g.1.1 5) then (f_X1_obstacle_J67 g p0 p1) else (bd1 (f_X1_isOpen g p1) fun (r59 : Int32) => if r59 = 0 then (some (4)) else (f_X1_obstacle_J67 g p0 p1))) else (f_X1_obstacle_J67 g p0 p1)

def f_X1_obstacle (g : GS) (p0 : Int32) (p1 : Int32) : Option Int32 :=
  if (g.1.1 8) = 0 then (bd1 (f_X1_holderOf g p0) fun (r11 : Int32) => if r11 = (g.1.1 5) then (if (g.1.1 7) = (-1) then (f_X1_obstacle_J41 g p0 p1) else (if (g.1.1 7) = p1 then (f_X1_obstacle_J41 g p0 p1) else (some (3)))) else (some (2))) else (some (1))

abbrev rm_X1_obstacle : Room := { frames := 3, cells := 0, slots := 0, locals := 63 }
theorem hd_X1_obstacle : yX1_obstacle.cls = RX1 ∧ yX1_obstacle.cls ≠ "java/lang/invoke/MethodHandle" ∧ yX1_obstacle.cls ≠ "java/lang/invoke/VarHandle" ∧ (parseMethodDescriptor yX1_obstacle.desc).map (fun d => d.parameters.length) = some 2 := by decide +kernel
set_option maxHeartbeats 4000000 in
set_option maxRecDepth 100000 in
theorem k_X1_obstacle (l : Launch) (G : va_G) (K : (Nat → Nat) × (Nat → Nat)) (c : Nat → ClassId) (ag : Nat → Nat) (g : GS) (p0 : Int32) (p1 : Int32) (r : Int32) (hm : f_X1_obstacle g p0 p1 = some (r)) : zMi l yX1_obstacle wsX1_obstacle rm_X1_obstacle G K (TY c) [.ref (ag 0), .int p0, .int p1] (wG c ag g) (wG c ag g) r := by
  refine zMi.of (cc := cX1_obstacle) (maxL := 3) (lv := [(0, .ref (ag 0)), (1, .int p0), (2, .int p1)]) (by decide) rfl (Nat.le_of_ble_eq_true rfl) rfl ?_
  intro p e s m args below meth c1 A Q H locs hx hb hml hown hts hK hN hZ hP hD hA hS hend ls hl
  have hown : s.vm.findClass RX1 = some m.cls := hown
  have hi_1 : ∀ w ∈ wsX10, w ∈ wsX1_obstacle := (fun w h => List.mem_cons_of_mem _ (List.mem_append_left _ (List.mem_append_right _ (h))))
  unfold f_X1_obstacle at hm
  refine lv_aload_n hx hb dX1_obstacle_0 rfl (lv_at hl 0 rfl) ?_
  refine va_get (D := G) (ci := 1) (v := .int (g.1.1 8)) (C := RX1) (T := TX1) (N := 16) hx hb hts hi_1 hown hK hP 0 rfl rfl 8 (by decide) (hts (.fieldLink RX1 64 "HubTrains$Game" "over" "Z") (List.mem_of_getElem? (i := 1) rfl)) (fun _ h9 => h9) rfl dX1_obstacle_1 ?_
  refine lv_if_eq (tgt := 9) hx hb dX1_obstacle_4 (by decide) (fun c_4 => ?_) (fun c_4 => ?_)
  · have hm := ifp c_4 hm
    refine lv_aload_n hx hb dX1_obstacle_9 rfl (lv_at hl 0 rfl) ?_
    refine lv_iload_n hx hb dX1_obstacle_10 rfl (lv_at hl 1 rfl) ?_
    obtain ⟨r11, e_11, hm⟩ := bd1_s hm
    refine zcVi (As := [.int p0]) (rest := []) ⟨hx, hb, hml, hown, hts⟩ (k_X1_holderOf l G K c ag g p0 r11 e_11) (cwV 1 hts gX1_obstacle_X1_holderOf rfl rfl rfl hd_X1_holderOf ⟨Nat.le_of_ble_eq_true rfl, Nat.le_of_ble_eq_true rfl⟩) hK hN hZ hP hD hS hA (va_recv hK hP (ci := 1) (q0 := 0) rfl rfl) [0, 1, 2, 3, 4, 5, 6, 7, 8, 9] rfl (by decide) rfl rfl hl.1 rfl (Nat.le_of_ble_eq_true rfl) dX1_obstacle_11 ⟨Nat.zero_le _, Nat.zero_le _⟩ (fun H locs hP hD hS => ?_)
    have hP : va_P G vwCl (wG c ag g) H := hP
    have hD : va_D A (wG c ag g) := hD
    refine lv_aload_n hx hb dX1_obstacle_14 rfl (lv_at hl 0 rfl) ?_
    refine va_get (D := G) (ci := 1) (v := .int (g.1.1 5)) (C := RX1) (T := TX1) (N := 16) hx hb hts hi_1 hown hK hP 0 rfl rfl 5 (by decide) (hts (.fieldLink RX1 57 "HubTrains$Game" "turn" "I") (List.mem_of_getElem? (i := 2) rfl)) (fun _ h9 => h9) rfl dX1_obstacle_15 ?_
    refine lv_icmp_eq (tgt := 23) hx hb dX1_obstacle_18 (by decide) (fun c_18 => ?_) (fun c_18 => ?_)
    · have hm := ifp c_18 hm
      refine lv_aload_n hx hb dX1_obstacle_23 rfl (lv_at hl 0 rfl) ?_
      refine va_get (D := G) (ci := 1) (v := .int (g.1.1 7)) (C := RX1) (T := TX1) (N := 16) hx hb hts hi_1 hown hK hP 0 rfl rfl 7 (by decide) (hts (.fieldLink RX1 27 "HubTrains$Game" "uncovered" "I") (List.mem_of_getElem? (i := 3) rfl)) (fun _ h9 => h9) rfl dX1_obstacle_24 ?_
      refine lv_iconst (v := (-1)) hx hb dX1_obstacle_27 (by decide) ?_
      have J_41 : ∀ (H : Heap) (locs : List Loc) (ls : Array Slot), va_P G vwCl (wG c ag g) H → va_D A (wG c ag g) → va_S A s.heap H locs → lv_has ls 3 [(0, .ref (ag 0)), (1, .int p0), (2, .int p1)] → f_X1_obstacle_J41 g p0 p1 = some (r) → W p l e rm_X1_obstacle s m args below meth c1 H locs 0 0 Q (F0 m 41 ls []) := by
        intro  H locs ls hP hD hS hl hm
        unfold f_X1_obstacle_J41 at hm
        refine lv_aload_n hx hb dX1_obstacle_41 rfl (lv_at hl 0 rfl) ?_
        refine va_get (D := G) (ci := 1) (v := .int (g.1.1 7)) (C := RX1) (T := TX1) (N := 16) hx hb hts hi_1 hown hK hP 0 rfl rfl 7 (by decide) (hts (.fieldLink RX1 27 "HubTrains$Game" "uncovered" "I") (List.mem_of_getElem? (i := 3) rfl)) (fun _ h9 => h9) rfl dX1_obstacle_42 ?_
        refine lv_iconst (v := (-1)) hx hb dX1_obstacle_45 (by decide) ?_
        have J_67 : ∀ (H : Heap) (locs : List Loc) (ls : Array Slot), va_P G vwCl (wG c ag g) H → va_D A (wG c ag g) → va_S A s.heap H locs → lv_has ls 3 [(0, .ref (ag 0)), (1, .int p0), (2, .int p1)] → f_X1_obstacle_J67 g p0 p1 = some (r) → W p l e rm_X1_obstacle s m args below meth c1 H locs 0 0 Q (F0 m 67 ls []) := by
          intro  H locs ls hP hD hS hl hm
          unfold f_X1_obstacle_J67 at hm
          refine lv_iload_n hx hb dX1_obstacle_67 rfl (lv_at hl 1 rfl) ?_
          refine lv_aload_n hx hb dX1_obstacle_68 rfl (lv_at hl 0 rfl) ?_
          refine va_get (D := G) (ci := 1) (v := .ref (ag 5)) (C := RX1) (T := TX1) (N := 16) hx hb hts hi_1 hown hK hP 0 rfl rfl 15 (by decide) (hts (.fieldLink RX1 47 "HubTrains$Game" "tracks" "LHubTrains$Tracks;") (List.mem_of_getElem? (i := 4) rfl)) (fun _ h9 => h9) rfl dX1_obstacle_69 ?_
          refine lv_iload_n hx hb dX1_obstacle_72 rfl (lv_at hl 2 rfl) ?_
          obtain ⟨r73, e_73, hm⟩ := bd1_s hm
          refine zcVi (As := [.int p1]) (rest := [.int p0]) ⟨hx, hb, hml, hown, hts⟩ (k_X6_endOf l G K c (ag 5) (ag 6) (ag 7) (ag 8) (ag 9) g.2.2.2 p1 r73 e_73) (cwV 1 hts gX1_obstacle_X6_endOf rfl rfl rfl hd_X6_endOf ⟨Nat.le_of_ble_eq_true rfl, Nat.le_of_ble_eq_true rfl⟩) hK hN hZ hP hD hS hA (va_recv hK hP (ci := 6) (q0 := 5) rfl rfl) [5, 6, 7, 8, 9] rfl (by decide) rfl rfl hl.1 rfl (Nat.le_of_ble_eq_true rfl) dX1_obstacle_73 ⟨Nat.zero_le _, Nat.zero_le _⟩ (fun H locs hP hD hS => ?_)
          have hP : va_P G vwCl (wG c ag g) H := hP
          have hD : va_D A (wG c ag g) := hD
          obtain ⟨r76, e_76, hm⟩ := bd1_s hm
          refine zcSNi (As := [.int p0, .int r73]) (rest := []) ⟨hx, hb, hml, hown, hts⟩ (k_X7_hasNumber l G K c p0 r73 r76 e_76) ⟨va_cnB 2 hts gX1_obstacle_X7_hasNumber_n147 rfl rfl rfl (nwm_HubTrains_Game_147 hN.2.1) (hts (.initialized RX7) (List.mem_of_getElem? (i := 23) rfl)) hd_X7_hasNumber.2 ⟨Nat.le_of_ble_eq_true rfl, Nat.le_of_ble_eq_true rfl⟩, (hts (.static yX7_hasNumber) (List.mem_of_getElem? (i := 30) rfl)), trivial⟩ hK hN hZ hP hD hS hA [] rfl (by decide) rfl rfl hl.1 rfl (Nat.le_of_ble_eq_true rfl) dX1_obstacle_76 ⟨Nat.zero_le _, Nat.zero_le _⟩ (fun H locs hP hD hS => ?_)
          have hP : va_P G vwCl (wG c ag g) H := hP
          have hD : va_D A (wG c ag g) := hD
          refine lv_if_eq (tgt := 86) hx hb dX1_obstacle_79 (by decide) (fun c_79 => ?_) (fun c_79 => ?_)
          · have hm := ifp c_79 hm
            refine lv_iconst (v := 5) hx hb dX1_obstacle_86 (by decide) ?_
            exact hend H locs ls _ _ _ rfl (Option.some.inj hm) rfl hP hD hS dX1_obstacle_87
          · have hm := ifn c_79 hm
            refine lv_iconst (v := 0) hx hb dX1_obstacle_82 (by decide) ?_
            refine lv_goto (tgt := 87) hx hb dX1_obstacle_83 (by decide) ?_
            exact hend H locs ls _ _ _ rfl (Option.some.inj hm) rfl hP hD hS dX1_obstacle_87
        refine lv_icmp_ne (tgt := 67) hx hb dX1_obstacle_46 (by decide) (fun c_46 => ?_) (fun c_46 => ?_)
        · have hm := ifn c_46 hm
          exact J_67 H locs ls hP hD hS (lv_sub hl [0, 1, 2] rfl) hm
        · have hm := ifp c_46 hm
          refine lv_iload_n hx hb dX1_obstacle_49 rfl (lv_at hl 2 rfl) ?_
          refine lv_aload_n hx hb dX1_obstacle_50 rfl (lv_at hl 0 rfl) ?_
          refine va_get (D := G) (ci := 1) (v := .int (g.1.1 5)) (C := RX1) (T := TX1) (N := 16) hx hb hts hi_1 hown hK hP 0 rfl rfl 5 (by decide) (hts (.fieldLink RX1 57 "HubTrains$Game" "turn" "I") (List.mem_of_getElem? (i := 2) rfl)) (fun _ h9 => h9) rfl dX1_obstacle_51 ?_
          refine lv_icmp_eq (tgt := 67) hx hb dX1_obstacle_54 (by decide) (fun c_54 => ?_) (fun c_54 => ?_)
          · have hm := ifp c_54 hm
            exact J_67 H locs ls hP hD hS (lv_sub hl [0, 1, 2] rfl) hm
          · have hm := ifn c_54 hm
            refine lv_aload_n hx hb dX1_obstacle_57 rfl (lv_at hl 0 rfl) ?_
            refine lv_iload_n hx hb dX1_obstacle_58 rfl (lv_at hl 2 rfl) ?_
            obtain ⟨r59, e_59, hm⟩ := bd1_s hm
            refine zcVi (As := [.int p1]) (rest := []) ⟨hx, hb, hml, hown, hts⟩ (k_X1_isOpen l G K c ag g p1 r59 e_59) (cwV 1 hts gX1_obstacle_X1_isOpen rfl rfl rfl hd_X1_isOpen ⟨Nat.le_of_ble_eq_true rfl, Nat.le_of_ble_eq_true rfl⟩) hK hN hZ hP hD hS hA (va_recv hK hP (ci := 1) (q0 := 0) rfl rfl) [0, 1, 2, 3, 4, 5, 6, 7, 8, 9] rfl (by decide) rfl rfl hl.1 rfl (Nat.le_of_ble_eq_true rfl) dX1_obstacle_59 ⟨Nat.zero_le _, Nat.zero_le _⟩ (fun H locs hP hD hS => ?_)
            have hP : va_P G vwCl (wG c ag g) H := hP
            have hD : va_D A (wG c ag g) := hD
            refine lv_if_ne (tgt := 67) hx hb dX1_obstacle_62 (by decide) (fun c_62 => ?_) (fun c_62 => ?_)
            · have hm := ifn c_62 hm
              exact J_67 H locs ls hP hD hS (lv_sub hl [0, 1, 2] rfl) hm
            · have hm := ifp c_62 hm
              refine lv_iconst (v := 4) hx hb dX1_obstacle_65 (by decide) ?_
              exact hend H locs ls _ _ _ rfl (Option.some.inj hm) rfl hP hD hS dX1_obstacle_66
      refine lv_icmp_eq (tgt := 41) hx hb dX1_obstacle_28 (by decide) (fun c_28 => ?_) (fun c_28 => ?_)
      · have hm := ifp c_28 hm
        exact J_41 H locs ls hP hD hS (lv_sub hl [0, 1, 2] rfl) hm
      · have hm := ifn c_28 hm
        refine lv_aload_n hx hb dX1_obstacle_31 rfl (lv_at hl 0 rfl) ?_
        refine va_get (D := G) (ci := 1) (v := .int (g.1.1 7)) (C := RX1) (T := TX1) (N := 16) hx hb hts hi_1 hown hK hP 0 rfl rfl 7 (by decide) (hts (.fieldLink RX1 27 "HubTrains$Game" "uncovered" "I") (List.mem_of_getElem? (i := 3) rfl)) (fun _ h9 => h9) rfl dX1_obstacle_32 ?_
        refine lv_iload_n hx hb dX1_obstacle_35 rfl (lv_at hl 2 rfl) ?_
        refine lv_icmp_eq (tgt := 41) hx hb dX1_obstacle_36 (by decide) (fun c_36 => ?_) (fun c_36 => ?_)
        · have hm := ifp c_36 hm
          exact J_41 H locs ls hP hD hS (lv_sub hl [0, 1, 2] rfl) hm
        · have hm := ifn c_36 hm
          refine lv_iconst (v := 3) hx hb dX1_obstacle_39 (by decide) ?_
          exact hend H locs ls _ _ _ rfl (Option.some.inj hm) rfl hP hD hS dX1_obstacle_40
    · have hm := ifn c_18 hm
      refine lv_iconst (v := 2) hx hb dX1_obstacle_21 (by decide) ?_
      exact hend H locs ls _ _ _ rfl (Option.some.inj hm) rfl hP hD hS dX1_obstacle_22
  · have hm := ifn c_4 hm
    refine lv_iconst (v := 1) hx hb dX1_obstacle_7 (by decide) ?_
    exact hend H locs ls _ _ _ rfl (Option.some.inj hm) rfl hP hD hS dX1_obstacle_8


def f_X1_canPlay (g : GS) (p0 : Int32) (p1 : Int32) : Option Int32 :=
  bd1 (f_X1_obstacle g p0 p1) fun (r3 : Int32) => if r3 = 0 then (some (1)) else (some (0))

abbrev rm_X1_canPlay : Room := { frames := 4, cells := 0, slots := 0, locals := 85 }
theorem hd_X1_canPlay : yX1_canPlay.cls = RX1 ∧ yX1_canPlay.cls ≠ "java/lang/invoke/MethodHandle" ∧ yX1_canPlay.cls ≠ "java/lang/invoke/VarHandle" ∧ (parseMethodDescriptor yX1_canPlay.desc).map (fun d => d.parameters.length) = some 2 := by decide +kernel
set_option maxHeartbeats 4000000 in
set_option maxRecDepth 100000 in
theorem k_X1_canPlay (l : Launch) (G : va_G) (K : (Nat → Nat) × (Nat → Nat)) (c : Nat → ClassId) (ag : Nat → Nat) (g : GS) (p0 : Int32) (p1 : Int32) (r : Int32) (hm : f_X1_canPlay g p0 p1 = some (r)) : zMi l yX1_canPlay wsX1_canPlay rm_X1_canPlay G K (TY c) [.ref (ag 0), .int p0, .int p1] (wG c ag g) (wG c ag g) r := by
  refine zMi.of (cc := cX1_canPlay) (maxL := 3) (lv := [(0, .ref (ag 0)), (1, .int p0), (2, .int p1)]) (by decide) rfl (Nat.le_of_ble_eq_true rfl) rfl ?_
  intro p e s m args below meth c1 A Q H locs hx hb hml hown hts hK hN hZ hP hD hA hS hend ls hl
  have hown : s.vm.findClass RX1 = some m.cls := hown
  unfold f_X1_canPlay at hm
  refine lv_aload_n hx hb dX1_canPlay_0 rfl (lv_at hl 0 rfl) ?_
  refine lv_iload_n hx hb dX1_canPlay_1 rfl (lv_at hl 1 rfl) ?_
  refine lv_iload_n hx hb dX1_canPlay_2 rfl (lv_at hl 2 rfl) ?_
  obtain ⟨r3, e_3, hm⟩ := bd1_s hm
  refine zcVi (As := [.int p0, .int p1]) (rest := []) ⟨hx, hb, hml, hown, hts⟩ (k_X1_obstacle l G K c ag g p0 p1 r3 e_3) (cwV 2 hts gX1_canPlay_X1_obstacle rfl rfl rfl hd_X1_obstacle ⟨Nat.le_of_ble_eq_true rfl, Nat.le_of_ble_eq_true rfl⟩) hK hN hZ hP hD hS hA (va_recv hK hP (ci := 1) (q0 := 0) rfl rfl) [0, 1, 2, 3, 4, 5, 6, 7, 8, 9] rfl (by decide) rfl rfl hl.1 rfl (Nat.le_of_ble_eq_true rfl) dX1_canPlay_3 ⟨Nat.zero_le _, Nat.zero_le _⟩ (fun H locs hP hD hS => ?_)
  have hP : va_P G vwCl (wG c ag g) H := hP
  have hD : va_D A (wG c ag g) := hD
  refine lv_if_ne (tgt := 13) hx hb dX1_canPlay_6 (by decide) (fun c_6 => ?_) (fun c_6 => ?_)
  · have hm := ifn c_6 hm
    refine lv_iconst (v := 0) hx hb dX1_canPlay_13 (by decide) ?_
    exact hend H locs ls _ _ _ (by decide) (Option.some.inj hm) rfl hP hD hS dX1_canPlay_14
  · have hm := ifp c_6 hm
    refine lv_iconst (v := 1) hx hb dX1_canPlay_9 (by decide) ?_
    refine lv_goto (tgt := 14) hx hb dX1_canPlay_10 (by decide) ?_
    exact hend H locs ls _ _ _ (by decide) (Option.some.inj hm) rfl hP hD hS dX1_canPlay_14

def f_X1_playsOf_B4 (g : GS) (p0 : Int32) (rec_4 : Int32 → Int32 → Option Int32) (v2_4 : Int32) (v3_4 : Int32) : Option Int32 :=
  if (g.1.1 1) < v3_4 then (some (v2_4)) else (bd1 (f_X1_obstacle g p0 v3_4) fun (r15 : Int32) => if r15 = 0 then (rec_4 (v2_4 + 1) (v3_4 + 1)) else (rec_4 v2_4 (v3_4 + 1)))

def f_X1_playsOf (g : GS) (p0 : Int32) : Option Int32 :=
  itr2 (f_X1_playsOf_B4 g p0) FUEL 0 0

abbrev rm_X1_playsOf : Room := { frames := 4, cells := 0, slots := 0, locals := 85 }
theorem hd_X1_playsOf : yX1_playsOf.cls = RX1 ∧ yX1_playsOf.cls ≠ "java/lang/invoke/MethodHandle" ∧ yX1_playsOf.cls ≠ "java/lang/invoke/VarHandle" ∧ (parseMethodDescriptor yX1_playsOf.desc).map (fun d => d.parameters.length) = some 1 := by decide +kernel
set_option maxHeartbeats 4000000 in
set_option maxRecDepth 100000 in
theorem k_X1_playsOf (l : Launch) (G : va_G) (K : (Nat → Nat) × (Nat → Nat)) (c : Nat → ClassId) (ag : Nat → Nat) (g : GS) (p0 : Int32) (r : Int32) (hm : f_X1_playsOf g p0 = some (r)) : zMi l yX1_playsOf wsX1_playsOf rm_X1_playsOf G K (TY c) [.ref (ag 0), .int p0] (wG c ag g) (wG c ag g) r := by
  refine zMi.of (cc := cX1_playsOf) (maxL := 4) (lv := [(0, .ref (ag 0)), (1, .int p0)]) (by decide) rfl (Nat.le_of_ble_eq_true rfl) rfl ?_
  intro p e s m args below meth c1 A Q H locs hx hb hml hown hts hK hN hZ hP hD hA hS hend ls hl
  have hown : s.vm.findClass RX1 = some m.cls := hown
  have hi_1 : ∀ w ∈ wsX10, w ∈ wsX1_playsOf := (fun w h => List.mem_cons_of_mem _ (List.mem_append_left _ (List.mem_append_right _ (h))))
  unfold f_X1_playsOf at hm
  refine lv_iconst (v := 0) hx hb dX1_playsOf_0 (by decide) ?_
  refine lv_istore_n (lv' := [(2, .int 0), (0, .ref (ag 0)), (1, .int p0)]) hx hb dX1_playsOf_1 rfl hl (by decide) rfl (fun ls hl => ?_)
  refine lv_iconst (v := 0) hx hb dX1_playsOf_2 (by decide) ?_
  refine lv_istore_n (lv' := [(3, .int 0), (2, .int 0), (0, .ref (ag 0)), (1, .int p0)]) hx hb dX1_playsOf_3 rfl hl (by decide) rfl (fun ls hl => ?_)
  have L_4 : ∀ (n_4 : Nat) (v2_4 : Int32) (v3_4 : Int32) (H : Heap) (locs : List Loc) (ls : Array Slot), va_P G vwCl (wG c ag g) H → va_D A (wG c ag g) → va_S A s.heap H locs → lv_has ls 4 [(0, .ref (ag 0)), (1, .int p0), (2, .int v2_4), (3, .int v3_4)] → itr2 (f_X1_playsOf_B4 g p0) n_4 v2_4 v3_4 = some (r) → W p l e rm_X1_playsOf s m args below meth c1 H locs 0 0 Q (F0 m 4 ls []) := by
    intro n_4
    induction n_4 with
    | zero => intro v2_4 v3_4 H locs ls hP hD hS hl hm; exact (itr2_0 hm).elim
    | succ n_4 ih_4 =>
      intro v2_4 v3_4 H locs ls hP hD hS hl hm
      have hm := itr2_s hm
      unfold f_X1_playsOf_B4 at hm
      refine lv_iload_n hx hb dX1_playsOf_4 rfl (lv_at hl 3 rfl) ?_
      refine lv_aload_n hx hb dX1_playsOf_5 rfl (lv_at hl 0 rfl) ?_
      refine va_get (D := G) (ci := 1) (v := .int (g.1.1 1)) (C := RX1) (T := TX1) (N := 16) hx hb hts hi_1 hown hK hP 0 rfl rfl 1 (by decide) (hts (.fieldLink RX1 15 "HubTrains$Game" "players" "I") (List.mem_of_getElem? (i := 1) rfl)) (fun _ h9 => h9) rfl dX1_playsOf_6 ?_
      refine lv_icmp_gt (tgt := 30) hx hb dX1_playsOf_9 (by decide) (fun c_9 => ?_) (fun c_9 => ?_)
      · have hm := ifp c_9 hm
        refine lv_iload_n hx hb dX1_playsOf_30 rfl (lv_at hl 2 rfl) ?_
        exact hend H locs ls _ _ _ rfl (Option.some.inj hm) rfl hP hD hS dX1_playsOf_31
      · have hm := ifn c_9 hm
        refine lv_aload_n hx hb dX1_playsOf_12 rfl (lv_at hl 0 rfl) ?_
        refine lv_iload_n hx hb dX1_playsOf_13 rfl (lv_at hl 1 rfl) ?_
        refine lv_iload_n hx hb dX1_playsOf_14 rfl (lv_at hl 3 rfl) ?_
        obtain ⟨r15, e_15, hm⟩ := bd1_s hm
        refine zcVi (As := [.int p0, .int v3_4]) (rest := []) ⟨hx, hb, hml, hown, hts⟩ (k_X1_obstacle l G K c ag g p0 v3_4 r15 e_15) (cwV 2 hts gX1_playsOf_X1_obstacle rfl rfl rfl hd_X1_obstacle ⟨Nat.le_of_ble_eq_true rfl, Nat.le_of_ble_eq_true rfl⟩) hK hN hZ hP hD hS hA (va_recv hK hP (ci := 1) (q0 := 0) rfl rfl) [0, 1, 2, 3, 4, 5, 6, 7, 8, 9] rfl (by decide) rfl rfl hl.1 rfl (Nat.le_of_ble_eq_true rfl) dX1_playsOf_15 ⟨Nat.zero_le _, Nat.zero_le _⟩ (fun H locs hP hD hS => ?_)
        have hP : va_P G vwCl (wG c ag g) H := hP
        have hD : va_D A (wG c ag g) := hD
        refine lv_if_ne (tgt := 24) hx hb dX1_playsOf_18 (by decide) (fun c_18 => ?_) (fun c_18 => ?_)
        · have hm := ifn c_18 hm
          refine lv_iinc (k := 3) (v := (v3_4 + 1)) (lv' := [(3, .int (v3_4 + 1)), (0, .ref (ag 0)), (1, .int p0), (2, .int v2_4)]) hx hb dX1_playsOf_24 hl rfl rfl (by decide) rfl (fun ls hl => ?_)
          refine lv_goto (tgt := 4) hx hb dX1_playsOf_27 (by decide) ?_
          exact ih_4 v2_4 (v3_4 + 1) H locs ls hP hD hS (lv_sub hl [1, 2, 3, 0] rfl) hm
        · have hm := ifp c_18 hm
          refine lv_iinc (k := 2) (v := (v2_4 + 1)) (lv' := [(2, .int (v2_4 + 1)), (0, .ref (ag 0)), (1, .int p0), (3, .int v3_4)]) hx hb dX1_playsOf_21 hl rfl rfl (by decide) rfl (fun ls hl => ?_)
          refine lv_iinc (k := 3) (v := (v3_4 + 1)) (lv' := [(3, .int (v3_4 + 1)), (2, .int (v2_4 + 1)), (0, .ref (ag 0)), (1, .int p0)]) hx hb dX1_playsOf_24 hl rfl rfl (by decide) rfl (fun ls hl => ?_)
          refine lv_goto (tgt := 4) hx hb dX1_playsOf_27 (by decide) ?_
          exact ih_4 (v2_4 + 1) (v3_4 + 1) H locs ls hP hD hS (lv_sub hl [2, 3, 1, 0] rfl) hm
  exact L_4 FUEL 0 0 H locs ls hP hD hS (lv_sub hl [2, 3, 1, 0] rfl) hm

def f_X1_playsNow_B4 (g : GS) (rec_4 : Int32 → Int32 → Option Int32) (v1_4 : Int32) (v2_4 : Int32) : Option Int32 :=
  if (100 : Int32) ≤ v2_4 then (some (v1_4)) else (bd1 (f_X1_holderOf g v2_4) fun (r12 : Int32) => if r12 = (g.1.1 5) then (bd1 (f_X1_playsOf g v2_4) fun (r25 : Int32) => rec_4 (v1_4 + r25) (v2_4 + 1)) else (rec_4 v1_4 (v2_4 + 1)))

def f_X1_playsNow (g : GS) : Option Int32 :=
  itr2 (f_X1_playsNow_B4 g) FUEL 0 0

abbrev rm_X1_playsNow : Room := { frames := 5, cells := 0, slots := 0, locals := 108 }
theorem hd_X1_playsNow : yX1_playsNow.cls = RX1 ∧ yX1_playsNow.cls ≠ "java/lang/invoke/MethodHandle" ∧ yX1_playsNow.cls ≠ "java/lang/invoke/VarHandle" ∧ (parseMethodDescriptor yX1_playsNow.desc).map (fun d => d.parameters.length) = some 0 := by decide +kernel
set_option maxHeartbeats 4000000 in
set_option maxRecDepth 100000 in
theorem k_X1_playsNow (l : Launch) (G : va_G) (K : (Nat → Nat) × (Nat → Nat)) (c : Nat → ClassId) (ag : Nat → Nat) (g : GS) (r : Int32) (hm : f_X1_playsNow g = some (r)) : zMi l yX1_playsNow wsX1_playsNow rm_X1_playsNow G K (TY c) [.ref (ag 0)] (wG c ag g) (wG c ag g) r := by
  refine zMi.of (cc := cX1_playsNow) (maxL := 3) (lv := [(0, .ref (ag 0))]) (by decide) rfl (Nat.le_of_ble_eq_true rfl) rfl ?_
  intro p e s m args below meth c1 A Q H locs hx hb hml hown hts hK hN hZ hP hD hA hS hend ls hl
  have hown : s.vm.findClass RX1 = some m.cls := hown
  have hi_1 : ∀ w ∈ wsX10, w ∈ wsX1_playsNow := (fun w h => List.mem_cons_of_mem _ (List.mem_append_left _ (List.mem_append_right _ (h))))
  unfold f_X1_playsNow at hm
  refine lv_iconst (v := 0) hx hb dX1_playsNow_0 (by decide) ?_
  refine lv_istore_n (lv' := [(1, .int 0), (0, .ref (ag 0))]) hx hb dX1_playsNow_1 rfl hl (by decide) rfl (fun ls hl => ?_)
  refine lv_iconst (v := 0) hx hb dX1_playsNow_2 (by decide) ?_
  refine lv_istore_n (lv' := [(2, .int 0), (1, .int 0), (0, .ref (ag 0))]) hx hb dX1_playsNow_3 rfl hl (by decide) rfl (fun ls hl => ?_)
  have L_4 : ∀ (n_4 : Nat) (v1_4 : Int32) (v2_4 : Int32) (H : Heap) (locs : List Loc) (ls : Array Slot), va_P G vwCl (wG c ag g) H → va_D A (wG c ag g) → va_S A s.heap H locs → lv_has ls 3 [(0, .ref (ag 0)), (1, .int v1_4), (2, .int v2_4)] → itr2 (f_X1_playsNow_B4 g) n_4 v1_4 v2_4 = some (r) → W p l e rm_X1_playsNow s m args below meth c1 H locs 0 0 Q (F0 m 4 ls []) := by
    intro n_4
    induction n_4 with
    | zero => intro v1_4 v2_4 H locs ls hP hD hS hl hm; exact (itr2_0 hm).elim
    | succ n_4 ih_4 =>
      intro v1_4 v2_4 H locs ls hP hD hS hl hm
      have hm := itr2_s hm
      unfold f_X1_playsNow_B4 at hm
      refine lv_iload_n hx hb dX1_playsNow_4 rfl (lv_at hl 2 rfl) ?_
      refine lv_bipush (v := 100) hx hb dX1_playsNow_5 (by decide) ?_
      refine lv_icmp_ge (tgt := 36) hx hb dX1_playsNow_7 (by decide) (fun c_7 => ?_) (fun c_7 => ?_)
      · have hm := ifp c_7 hm
        refine lv_iload_n hx hb dX1_playsNow_36 rfl (lv_at hl 1 rfl) ?_
        exact hend H locs ls _ _ _ rfl (Option.some.inj hm) rfl hP hD hS dX1_playsNow_37
      · have hm := ifn c_7 hm
        refine lv_aload_n hx hb dX1_playsNow_10 rfl (lv_at hl 0 rfl) ?_
        refine lv_iload_n hx hb dX1_playsNow_11 rfl (lv_at hl 2 rfl) ?_
        obtain ⟨r12, e_12, hm⟩ := bd1_s hm
        refine zcVi (As := [.int v2_4]) (rest := []) ⟨hx, hb, hml, hown, hts⟩ (k_X1_holderOf l G K c ag g v2_4 r12 e_12) (cwV 1 hts gX1_playsNow_X1_holderOf rfl rfl rfl hd_X1_holderOf ⟨Nat.le_of_ble_eq_true rfl, Nat.le_of_ble_eq_true rfl⟩) hK hN hZ hP hD hS hA (va_recv hK hP (ci := 1) (q0 := 0) rfl rfl) [0, 1, 2, 3, 4, 5, 6, 7, 8, 9] rfl (by decide) rfl rfl hl.1 rfl (Nat.le_of_ble_eq_true rfl) dX1_playsNow_12 ⟨Nat.zero_le _, Nat.zero_le _⟩ (fun H locs hP hD hS => ?_)
        have hP : va_P G vwCl (wG c ag g) H := hP
        have hD : va_D A (wG c ag g) := hD
        refine lv_aload_n hx hb dX1_playsNow_15 rfl (lv_at hl 0 rfl) ?_
        refine va_get (D := G) (ci := 1) (v := .int (g.1.1 5)) (C := RX1) (T := TX1) (N := 16) hx hb hts hi_1 hown hK hP 0 rfl rfl 5 (by decide) (hts (.fieldLink RX1 57 "HubTrains$Game" "turn" "I") (List.mem_of_getElem? (i := 1) rfl)) (fun _ h9 => h9) rfl dX1_playsNow_16 ?_
        refine lv_icmp_ne (tgt := 30) hx hb dX1_playsNow_19 (by decide) (fun c_19 => ?_) (fun c_19 => ?_)
        · have hm := ifn c_19 hm
          refine lv_iinc (k := 2) (v := (v2_4 + 1)) (lv' := [(2, .int (v2_4 + 1)), (0, .ref (ag 0)), (1, .int v1_4)]) hx hb dX1_playsNow_30 hl rfl rfl (by decide) rfl (fun ls hl => ?_)
          refine lv_goto (tgt := 4) hx hb dX1_playsNow_33 (by decide) ?_
          exact ih_4 v1_4 (v2_4 + 1) H locs ls hP hD hS (lv_sub hl [1, 2, 0] rfl) hm
        · have hm := ifp c_19 hm
          refine lv_iload_n hx hb dX1_playsNow_22 rfl (lv_at hl 1 rfl) ?_
          refine lv_aload_n hx hb dX1_playsNow_23 rfl (lv_at hl 0 rfl) ?_
          refine lv_iload_n hx hb dX1_playsNow_24 rfl (lv_at hl 2 rfl) ?_
          obtain ⟨r25, e_25, hm⟩ := bd1_s hm
          refine zcVi (As := [.int v2_4]) (rest := [.int v1_4]) ⟨hx, hb, hml, hown, hts⟩ (k_X1_playsOf l G K c ag g v2_4 r25 e_25) (cwV 1 hts gX1_playsNow_X1_playsOf rfl rfl rfl hd_X1_playsOf ⟨Nat.le_of_ble_eq_true rfl, Nat.le_of_ble_eq_true rfl⟩) hK hN hZ hP hD hS hA (va_recv hK hP (ci := 1) (q0 := 0) rfl rfl) [0, 1, 2, 3, 4, 5, 6, 7, 8, 9] rfl (by decide) rfl rfl hl.1 rfl (Nat.le_of_ble_eq_true rfl) dX1_playsNow_25 ⟨Nat.zero_le _, Nat.zero_le _⟩ (fun H locs hP hD hS => ?_)
          have hP : va_P G vwCl (wG c ag g) H := hP
          have hD : va_D A (wG c ag g) := hD
          refine lv_iadd hx hb dX1_playsNow_28 ?_
          refine lv_istore_n (lv' := [(1, .int (v1_4 + r25)), (0, .ref (ag 0)), (2, .int v2_4)]) hx hb dX1_playsNow_29 rfl hl (by decide) rfl (fun ls hl => ?_)
          refine lv_iinc (k := 2) (v := (v2_4 + 1)) (lv' := [(2, .int (v2_4 + 1)), (1, .int (v1_4 + r25)), (0, .ref (ag 0))]) hx hb dX1_playsNow_30 hl rfl rfl (by decide) rfl (fun ls hl => ?_)
          refine lv_goto (tgt := 4) hx hb dX1_playsNow_33 (by decide) ?_
          exact ih_4 (v1_4 + r25) (v2_4 + 1) H locs ls hP hD hS (lv_sub hl [2, 1, 0] rfl) hm
  exact L_4 FUEL 0 0 H locs ls hP hD hS (lv_sub hl [2, 1, 0] rfl) hm

def f_X1_playableTiles_B4 (g : GS) (p0 : Int32) (rec_4 : Int32 → Int32 → Option Int32) (v2_4 : Int32) (v3_4 : Int32) : Option Int32 :=
  if (100 : Int32) ≤ v3_4 then (some (v2_4)) else (if p0 = (g.1.1 5) then (bd1 (f_X1_holderOf g v3_4) fun (r20 : Int32) => if r20 = p0 then (bd1 (f_X1_playsOf g v3_4) fun (r29 : Int32) => if r29 ≤ 0 then (rec_4 v2_4 (v3_4 + 1)) else (rec_4 (v2_4 + 1) (v3_4 + 1))) else (rec_4 v2_4 (v3_4 + 1))) else (rec_4 v2_4 (v3_4 + 1)))

def f_X1_playableTiles (g : GS) (p0 : Int32) : Option Int32 :=
  itr2 (f_X1_playableTiles_B4 g p0) FUEL 0 0

abbrev rm_X1_playableTiles : Room := { frames := 5, cells := 0, slots := 0, locals := 108 }
theorem hd_X1_playableTiles : yX1_playableTiles.cls = RX1 ∧ yX1_playableTiles.cls ≠ "java/lang/invoke/MethodHandle" ∧ yX1_playableTiles.cls ≠ "java/lang/invoke/VarHandle" ∧ (parseMethodDescriptor yX1_playableTiles.desc).map (fun d => d.parameters.length) = some 1 := by decide +kernel
set_option maxHeartbeats 4000000 in
set_option maxRecDepth 100000 in
theorem k_X1_playableTiles (l : Launch) (G : va_G) (K : (Nat → Nat) × (Nat → Nat)) (c : Nat → ClassId) (ag : Nat → Nat) (g : GS) (p0 : Int32) (r : Int32) (hm : f_X1_playableTiles g p0 = some (r)) : zMi l yX1_playableTiles wsX1_playableTiles rm_X1_playableTiles G K (TY c) [.ref (ag 0), .int p0] (wG c ag g) (wG c ag g) r := by
  refine zMi.of (cc := cX1_playableTiles) (maxL := 4) (lv := [(0, .ref (ag 0)), (1, .int p0)]) (by decide) rfl (Nat.le_of_ble_eq_true rfl) rfl ?_
  intro p e s m args below meth c1 A Q H locs hx hb hml hown hts hK hN hZ hP hD hA hS hend ls hl
  have hown : s.vm.findClass RX1 = some m.cls := hown
  have hi_1 : ∀ w ∈ wsX10, w ∈ wsX1_playableTiles := (fun w h => List.mem_cons_of_mem _ (List.mem_append_left _ (List.mem_append_right _ (h))))
  unfold f_X1_playableTiles at hm
  refine lv_iconst (v := 0) hx hb dX1_playableTiles_0 (by decide) ?_
  refine lv_istore_n (lv' := [(2, .int 0), (0, .ref (ag 0)), (1, .int p0)]) hx hb dX1_playableTiles_1 rfl hl (by decide) rfl (fun ls hl => ?_)
  refine lv_iconst (v := 0) hx hb dX1_playableTiles_2 (by decide) ?_
  refine lv_istore_n (lv' := [(3, .int 0), (2, .int 0), (0, .ref (ag 0)), (1, .int p0)]) hx hb dX1_playableTiles_3 rfl hl (by decide) rfl (fun ls hl => ?_)
  have L_4 : ∀ (n_4 : Nat) (v2_4 : Int32) (v3_4 : Int32) (H : Heap) (locs : List Loc) (ls : Array Slot), va_P G vwCl (wG c ag g) H → va_D A (wG c ag g) → va_S A s.heap H locs → lv_has ls 4 [(0, .ref (ag 0)), (1, .int p0), (2, .int v2_4), (3, .int v3_4)] → itr2 (f_X1_playableTiles_B4 g p0) n_4 v2_4 v3_4 = some (r) → W p l e rm_X1_playableTiles s m args below meth c1 H locs 0 0 Q (F0 m 4 ls []) := by
    intro n_4
    induction n_4 with
    | zero => intro v2_4 v3_4 H locs ls hP hD hS hl hm; exact (itr2_0 hm).elim
    | succ n_4 ih_4 =>
      intro v2_4 v3_4 H locs ls hP hD hS hl hm
      have hm := itr2_s hm
      unfold f_X1_playableTiles_B4 at hm
      refine lv_iload_n hx hb dX1_playableTiles_4 rfl (lv_at hl 3 rfl) ?_
      refine lv_bipush (v := 100) hx hb dX1_playableTiles_5 (by decide) ?_
      refine lv_icmp_ge (tgt := 44) hx hb dX1_playableTiles_7 (by decide) (fun c_7 => ?_) (fun c_7 => ?_)
      · have hm := ifp c_7 hm
        refine lv_iload_n hx hb dX1_playableTiles_44 rfl (lv_at hl 2 rfl) ?_
        exact hend H locs ls _ _ _ rfl (Option.some.inj hm) rfl hP hD hS dX1_playableTiles_45
      · have hm := ifn c_7 hm
        refine lv_iload_n hx hb dX1_playableTiles_10 rfl (lv_at hl 1 rfl) ?_
        refine lv_aload_n hx hb dX1_playableTiles_11 rfl (lv_at hl 0 rfl) ?_
        refine va_get (D := G) (ci := 1) (v := .int (g.1.1 5)) (C := RX1) (T := TX1) (N := 16) hx hb hts hi_1 hown hK hP 0 rfl rfl 5 (by decide) (hts (.fieldLink RX1 57 "HubTrains$Game" "turn" "I") (List.mem_of_getElem? (i := 1) rfl)) (fun _ h9 => h9) rfl dX1_playableTiles_12 ?_
        refine lv_icmp_ne (tgt := 38) hx hb dX1_playableTiles_15 (by decide) (fun c_15 => ?_) (fun c_15 => ?_)
        · have hm := ifn c_15 hm
          refine lv_iinc (k := 3) (v := (v3_4 + 1)) (lv' := [(3, .int (v3_4 + 1)), (0, .ref (ag 0)), (1, .int p0), (2, .int v2_4)]) hx hb dX1_playableTiles_38 hl rfl rfl (by decide) rfl (fun ls hl => ?_)
          refine lv_goto (tgt := 4) hx hb dX1_playableTiles_41 (by decide) ?_
          exact ih_4 v2_4 (v3_4 + 1) H locs ls hP hD hS (lv_sub hl [1, 2, 3, 0] rfl) hm
        · have hm := ifp c_15 hm
          refine lv_aload_n hx hb dX1_playableTiles_18 rfl (lv_at hl 0 rfl) ?_
          refine lv_iload_n hx hb dX1_playableTiles_19 rfl (lv_at hl 3 rfl) ?_
          obtain ⟨r20, e_20, hm⟩ := bd1_s hm
          refine zcVi (As := [.int v3_4]) (rest := []) ⟨hx, hb, hml, hown, hts⟩ (k_X1_holderOf l G K c ag g v3_4 r20 e_20) (cwV 1 hts gX1_playableTiles_X1_holderOf rfl rfl rfl hd_X1_holderOf ⟨Nat.le_of_ble_eq_true rfl, Nat.le_of_ble_eq_true rfl⟩) hK hN hZ hP hD hS hA (va_recv hK hP (ci := 1) (q0 := 0) rfl rfl) [0, 1, 2, 3, 4, 5, 6, 7, 8, 9] rfl (by decide) rfl rfl hl.1 rfl (Nat.le_of_ble_eq_true rfl) dX1_playableTiles_20 ⟨Nat.zero_le _, Nat.zero_le _⟩ (fun H locs hP hD hS => ?_)
          have hP : va_P G vwCl (wG c ag g) H := hP
          have hD : va_D A (wG c ag g) := hD
          refine lv_iload_n hx hb dX1_playableTiles_23 rfl (lv_at hl 1 rfl) ?_
          refine lv_icmp_ne (tgt := 38) hx hb dX1_playableTiles_24 (by decide) (fun c_24 => ?_) (fun c_24 => ?_)
          · have hm := ifn c_24 hm
            refine lv_iinc (k := 3) (v := (v3_4 + 1)) (lv' := [(3, .int (v3_4 + 1)), (0, .ref (ag 0)), (1, .int p0), (2, .int v2_4)]) hx hb dX1_playableTiles_38 hl rfl rfl (by decide) rfl (fun ls hl => ?_)
            refine lv_goto (tgt := 4) hx hb dX1_playableTiles_41 (by decide) ?_
            exact ih_4 v2_4 (v3_4 + 1) H locs ls hP hD hS (lv_sub hl [1, 2, 3, 0] rfl) hm
          · have hm := ifp c_24 hm
            refine lv_aload_n hx hb dX1_playableTiles_27 rfl (lv_at hl 0 rfl) ?_
            refine lv_iload_n hx hb dX1_playableTiles_28 rfl (lv_at hl 3 rfl) ?_
            obtain ⟨r29, e_29, hm⟩ := bd1_s hm
            refine zcVi (As := [.int v3_4]) (rest := []) ⟨hx, hb, hml, hown, hts⟩ (k_X1_playsOf l G K c ag g v3_4 r29 e_29) (cwV 1 hts gX1_playableTiles_X1_playsOf rfl rfl rfl hd_X1_playsOf ⟨Nat.le_of_ble_eq_true rfl, Nat.le_of_ble_eq_true rfl⟩) hK hN hZ hP hD hS hA (va_recv hK hP (ci := 1) (q0 := 0) rfl rfl) [0, 1, 2, 3, 4, 5, 6, 7, 8, 9] rfl (by decide) rfl rfl hl.1 rfl (Nat.le_of_ble_eq_true rfl) dX1_playableTiles_29 ⟨Nat.zero_le _, Nat.zero_le _⟩ (fun H locs hP hD hS => ?_)
            have hP : va_P G vwCl (wG c ag g) H := hP
            have hD : va_D A (wG c ag g) := hD
            refine lv_if_le (tgt := 38) hx hb dX1_playableTiles_32 (by decide) (fun c_32 => ?_) (fun c_32 => ?_)
            · have hm := ifp c_32 hm
              refine lv_iinc (k := 3) (v := (v3_4 + 1)) (lv' := [(3, .int (v3_4 + 1)), (0, .ref (ag 0)), (1, .int p0), (2, .int v2_4)]) hx hb dX1_playableTiles_38 hl rfl rfl (by decide) rfl (fun ls hl => ?_)
              refine lv_goto (tgt := 4) hx hb dX1_playableTiles_41 (by decide) ?_
              exact ih_4 v2_4 (v3_4 + 1) H locs ls hP hD hS (lv_sub hl [1, 2, 3, 0] rfl) hm
            · have hm := ifn c_32 hm
              refine lv_iinc (k := 2) (v := (v2_4 + 1)) (lv' := [(2, .int (v2_4 + 1)), (0, .ref (ag 0)), (1, .int p0), (3, .int v3_4)]) hx hb dX1_playableTiles_35 hl rfl rfl (by decide) rfl (fun ls hl => ?_)
              refine lv_iinc (k := 3) (v := (v3_4 + 1)) (lv' := [(3, .int (v3_4 + 1)), (2, .int (v2_4 + 1)), (0, .ref (ag 0)), (1, .int p0)]) hx hb dX1_playableTiles_38 hl rfl rfl (by decide) rfl (fun ls hl => ?_)
              refine lv_goto (tgt := 4) hx hb dX1_playableTiles_41 (by decide) ?_
              exact ih_4 (v2_4 + 1) (v3_4 + 1) H locs ls hP hD hS (lv_sub hl [2, 3, 1, 0] rfl) hm
  exact L_4 FUEL 0 0 H locs ls hP hD hS (lv_sub hl [2, 3, 1, 0] rfl) hm


def f_X1_mayDraw (g : GS) : Option Int32 :=
  if (g.1.1 8) = 0 then (if (g.1.1 6) = 0 then (bd1 (f_X4_size g.2.2.1) fun (r18 : Int32) => if r18 ≤ 0 then (some (0)) else (bd1 (f_X1_playsNow g) fun (r25 : Int32) => if r25 = 0 then (some (1)) else (some (0)))) else (some (0))) else (some (0))

abbrev rm_X1_mayDraw : Room := { frames := 6, cells := 0, slots := 0, locals := 130 }
theorem hd_X1_mayDraw : yX1_mayDraw.cls = RX1 ∧ yX1_mayDraw.cls ≠ "java/lang/invoke/MethodHandle" ∧ yX1_mayDraw.cls ≠ "java/lang/invoke/VarHandle" ∧ (parseMethodDescriptor yX1_mayDraw.desc).map (fun d => d.parameters.length) = some 0 := by decide +kernel
set_option maxHeartbeats 4000000 in
set_option maxRecDepth 100000 in
theorem k_X1_mayDraw (l : Launch) (G : va_G) (K : (Nat → Nat) × (Nat → Nat)) (c : Nat → ClassId) (ag : Nat → Nat) (g : GS) (r : Int32) (hm : f_X1_mayDraw g = some (r)) : zMi l yX1_mayDraw wsX1_mayDraw rm_X1_mayDraw G K (TY c) [.ref (ag 0)] (wG c ag g) (wG c ag g) r := by
  refine zMi.of (cc := cX1_mayDraw) (maxL := 1) (lv := [(0, .ref (ag 0))]) (by decide) rfl (Nat.le_of_ble_eq_true rfl) rfl ?_
  intro p e s m args below meth c1 A Q H locs hx hb hml hown hts hK hN hZ hP hD hA hS hend ls hl
  have hown : s.vm.findClass RX1 = some m.cls := hown
  have hi_1 : ∀ w ∈ wsX10, w ∈ wsX1_mayDraw := (fun w h => List.mem_cons_of_mem _ (List.mem_append_left _ (List.mem_append_left _ (List.mem_append_right _ (h)))))
  unfold f_X1_mayDraw at hm
  refine lv_aload_n hx hb dX1_mayDraw_0 rfl (lv_at hl 0 rfl) ?_
  refine va_get (D := G) (ci := 1) (v := .int (g.1.1 8)) (C := RX1) (T := TX1) (N := 16) hx hb hts hi_1 hown hK hP 0 rfl rfl 8 (by decide) (hts (.fieldLink RX1 64 "HubTrains$Game" "over" "Z") (List.mem_of_getElem? (i := 1) rfl)) (fun _ h9 => h9) rfl dX1_mayDraw_1 ?_
  refine lv_if_ne (tgt := 35) hx hb dX1_mayDraw_4 (by decide) (fun c_4 => ?_) (fun c_4 => ?_)
  · have hm := ifn c_4 hm
    refine lv_iconst (v := 0) hx hb dX1_mayDraw_35 (by decide) ?_
    exact hend H locs ls _ _ _ (by decide) (Option.some.inj hm) rfl hP hD hS dX1_mayDraw_36
  · have hm := ifp c_4 hm
    refine lv_aload_n hx hb dX1_mayDraw_7 rfl (lv_at hl 0 rfl) ?_
    refine va_get (D := G) (ci := 1) (v := .int (g.1.1 6)) (C := RX1) (T := TX1) (N := 16) hx hb hts hi_1 hown hK hP 0 rfl rfl 6 (by decide) (hts (.fieldLink RX1 60 "HubTrains$Game" "drew" "Z") (List.mem_of_getElem? (i := 2) rfl)) (fun _ h9 => h9) rfl dX1_mayDraw_8 ?_
    refine lv_if_ne (tgt := 35) hx hb dX1_mayDraw_11 (by decide) (fun c_11 => ?_) (fun c_11 => ?_)
    · have hm := ifn c_11 hm
      refine lv_iconst (v := 0) hx hb dX1_mayDraw_35 (by decide) ?_
      exact hend H locs ls _ _ _ (by decide) (Option.some.inj hm) rfl hP hD hS dX1_mayDraw_36
    · have hm := ifp c_11 hm
      refine lv_aload_n hx hb dX1_mayDraw_14 rfl (lv_at hl 0 rfl) ?_
      refine va_get (D := G) (ci := 1) (v := .ref (ag 3)) (C := RX1) (T := TX1) (N := 16) hx hb hts hi_1 hown hK hP 0 rfl rfl 14 (by decide) (hts (.fieldLink RX1 40 "HubTrains$Game" "stock" "LHubTrains$Stock;") (List.mem_of_getElem? (i := 3) rfl)) (fun _ h9 => h9) rfl dX1_mayDraw_15 ?_
      obtain ⟨r18, e_18, hm⟩ := bd1_s hm
      refine zcVi (As := []) (rest := []) ⟨hx, hb, hml, hown, hts⟩ (k_X4_size l G K c (ag 3) (ag 4) g.2.2.1 r18 e_18) (cwV 0 hts gX1_mayDraw_X4_size rfl rfl rfl hd_X4_size ⟨Nat.le_of_ble_eq_true rfl, Nat.le_of_ble_eq_true rfl⟩) hK hN hZ hP hD hS hA (va_recv hK hP (ci := 4) (q0 := 3) rfl rfl) [3, 4] rfl (by decide) rfl rfl hl.1 rfl (Nat.le_of_ble_eq_true rfl) dX1_mayDraw_18 ⟨Nat.zero_le _, Nat.zero_le _⟩ (fun H locs hP hD hS => ?_)
      have hP : va_P G vwCl (wG c ag g) H := hP
      have hD : va_D A (wG c ag g) := hD
      refine lv_if_le (tgt := 35) hx hb dX1_mayDraw_21 (by decide) (fun c_21 => ?_) (fun c_21 => ?_)
      · have hm := ifp c_21 hm
        refine lv_iconst (v := 0) hx hb dX1_mayDraw_35 (by decide) ?_
        exact hend H locs ls _ _ _ (by decide) (Option.some.inj hm) rfl hP hD hS dX1_mayDraw_36
      · have hm := ifn c_21 hm
        refine lv_aload_n hx hb dX1_mayDraw_24 rfl (lv_at hl 0 rfl) ?_
        obtain ⟨r25, e_25, hm⟩ := bd1_s hm
        refine zcVi (As := []) (rest := []) ⟨hx, hb, hml, hown, hts⟩ (k_X1_playsNow l G K c ag g r25 e_25) (cwV 0 hts gX1_mayDraw_X1_playsNow rfl rfl rfl hd_X1_playsNow ⟨Nat.le_of_ble_eq_true rfl, Nat.le_of_ble_eq_true rfl⟩) hK hN hZ hP hD hS hA (va_recv hK hP (ci := 1) (q0 := 0) rfl rfl) [0, 1, 2, 3, 4, 5, 6, 7, 8, 9] rfl (by decide) rfl rfl hl.1 rfl (Nat.le_of_ble_eq_true rfl) dX1_mayDraw_25 ⟨Nat.zero_le _, Nat.zero_le _⟩ (fun H locs hP hD hS => ?_)
        have hP : va_P G vwCl (wG c ag g) H := hP
        have hD : va_D A (wG c ag g) := hD
        refine lv_if_ne (tgt := 35) hx hb dX1_mayDraw_28 (by decide) (fun c_28 => ?_) (fun c_28 => ?_)
        · have hm := ifn c_28 hm
          refine lv_iconst (v := 0) hx hb dX1_mayDraw_35 (by decide) ?_
          exact hend H locs ls _ _ _ (by decide) (Option.some.inj hm) rfl hP hD hS dX1_mayDraw_36
        · have hm := ifp c_28 hm
          refine lv_iconst (v := 1) hx hb dX1_mayDraw_31 (by decide) ?_
          refine lv_goto (tgt := 36) hx hb dX1_mayDraw_32 (by decide) ?_
          exact hend H locs ls _ _ _ (by decide) (Option.some.inj hm) rfl hP hD hS dX1_mayDraw_36

def f_X1_mayPass_J24 (g : GS) : Option Int32 :=
  bd1 (f_X1_playsNow g) fun (r25 : Int32) => if r25 = 0 then (some (1)) else (some (0))

def f_X1_mayPass (g : GS) : Option Int32 :=
  if (g.1.1 8) = 0 then (if (g.1.1 6) = 0 then (bd1 (f_X4_size g.2.2.1) fun (r18 : Int32) => if r18 = 0 then (f_X1_mayPass_J24 g) else (some (0))) else (f_X1_mayPass_J24 g)) else (some (0))

abbrev rm_X1_mayPass : Room := { frames := 6, cells := 0, slots := 0, locals := 130 }
theorem hd_X1_mayPass : yX1_mayPass.cls = RX1 ∧ yX1_mayPass.cls ≠ "java/lang/invoke/MethodHandle" ∧ yX1_mayPass.cls ≠ "java/lang/invoke/VarHandle" ∧ (parseMethodDescriptor yX1_mayPass.desc).map (fun d => d.parameters.length) = some 0 := by decide +kernel
set_option maxHeartbeats 4000000 in
set_option maxRecDepth 100000 in
theorem k_X1_mayPass (l : Launch) (G : va_G) (K : (Nat → Nat) × (Nat → Nat)) (c : Nat → ClassId) (ag : Nat → Nat) (g : GS) (r : Int32) (hm : f_X1_mayPass g = some (r)) : zMi l yX1_mayPass wsX1_mayPass rm_X1_mayPass G K (TY c) [.ref (ag 0)] (wG c ag g) (wG c ag g) r := by
  refine zMi.of (cc := cX1_mayPass) (maxL := 1) (lv := [(0, .ref (ag 0))]) (by decide) rfl (Nat.le_of_ble_eq_true rfl) rfl ?_
  intro p e s m args below meth c1 A Q H locs hx hb hml hown hts hK hN hZ hP hD hA hS hend ls hl
  have hown : s.vm.findClass RX1 = some m.cls := hown
  have hi_1 : ∀ w ∈ wsX10, w ∈ wsX1_mayPass := (fun w h => List.mem_cons_of_mem _ (List.mem_append_left _ (List.mem_append_left _ (List.mem_append_right _ (h)))))
  unfold f_X1_mayPass at hm
  refine lv_aload_n hx hb dX1_mayPass_0 rfl (lv_at hl 0 rfl) ?_
  refine va_get (D := G) (ci := 1) (v := .int (g.1.1 8)) (C := RX1) (T := TX1) (N := 16) hx hb hts hi_1 hown hK hP 0 rfl rfl 8 (by decide) (hts (.fieldLink RX1 64 "HubTrains$Game" "over" "Z") (List.mem_of_getElem? (i := 1) rfl)) (fun _ h9 => h9) rfl dX1_mayPass_1 ?_
  refine lv_if_ne (tgt := 35) hx hb dX1_mayPass_4 (by decide) (fun c_4 => ?_) (fun c_4 => ?_)
  · have hm := ifn c_4 hm
    refine lv_iconst (v := 0) hx hb dX1_mayPass_35 (by decide) ?_
    exact hend H locs ls _ _ _ (by decide) (Option.some.inj hm) rfl hP hD hS dX1_mayPass_36
  · have hm := ifp c_4 hm
    refine lv_aload_n hx hb dX1_mayPass_7 rfl (lv_at hl 0 rfl) ?_
    refine va_get (D := G) (ci := 1) (v := .int (g.1.1 6)) (C := RX1) (T := TX1) (N := 16) hx hb hts hi_1 hown hK hP 0 rfl rfl 6 (by decide) (hts (.fieldLink RX1 60 "HubTrains$Game" "drew" "Z") (List.mem_of_getElem? (i := 2) rfl)) (fun _ h9 => h9) rfl dX1_mayPass_8 ?_
    have J_24 : ∀ (H : Heap) (locs : List Loc) (ls : Array Slot), va_P G vwCl (wG c ag g) H → va_D A (wG c ag g) → va_S A s.heap H locs → lv_has ls 1 [(0, .ref (ag 0))] → f_X1_mayPass_J24 g = some (r) → W p l e rm_X1_mayPass s m args below meth c1 H locs 0 0 Q (F0 m 24 ls []) := by
      intro  H locs ls hP hD hS hl hm
      unfold f_X1_mayPass_J24 at hm
      refine lv_aload_n hx hb dX1_mayPass_24 rfl (lv_at hl 0 rfl) ?_
      obtain ⟨r25, e_25, hm⟩ := bd1_s hm
      refine zcVi (As := []) (rest := []) ⟨hx, hb, hml, hown, hts⟩ (k_X1_playsNow l G K c ag g r25 e_25) (cwV 0 hts gX1_mayPass_X1_playsNow rfl rfl rfl hd_X1_playsNow ⟨Nat.le_of_ble_eq_true rfl, Nat.le_of_ble_eq_true rfl⟩) hK hN hZ hP hD hS hA (va_recv hK hP (ci := 1) (q0 := 0) rfl rfl) [0, 1, 2, 3, 4, 5, 6, 7, 8, 9] rfl (by decide) rfl rfl hl.1 rfl (Nat.le_of_ble_eq_true rfl) dX1_mayPass_25 ⟨Nat.zero_le _, Nat.zero_le _⟩ (fun H locs hP hD hS => ?_)
      have hP : va_P G vwCl (wG c ag g) H := hP
      have hD : va_D A (wG c ag g) := hD
      refine lv_if_ne (tgt := 35) hx hb dX1_mayPass_28 (by decide) (fun c_28 => ?_) (fun c_28 => ?_)
      · have hm := ifn c_28 hm
        refine lv_iconst (v := 0) hx hb dX1_mayPass_35 (by decide) ?_
        exact hend H locs ls _ _ _ (by decide) (Option.some.inj hm) rfl hP hD hS dX1_mayPass_36
      · have hm := ifp c_28 hm
        refine lv_iconst (v := 1) hx hb dX1_mayPass_31 (by decide) ?_
        refine lv_goto (tgt := 36) hx hb dX1_mayPass_32 (by decide) ?_
        exact hend H locs ls _ _ _ (by decide) (Option.some.inj hm) rfl hP hD hS dX1_mayPass_36
    refine lv_if_ne (tgt := 24) hx hb dX1_mayPass_11 (by decide) (fun c_11 => ?_) (fun c_11 => ?_)
    · have hm := ifn c_11 hm
      exact J_24 H locs ls hP hD hS (lv_sub hl [0] rfl) hm
    · have hm := ifp c_11 hm
      refine lv_aload_n hx hb dX1_mayPass_14 rfl (lv_at hl 0 rfl) ?_
      refine va_get (D := G) (ci := 1) (v := .ref (ag 3)) (C := RX1) (T := TX1) (N := 16) hx hb hts hi_1 hown hK hP 0 rfl rfl 14 (by decide) (hts (.fieldLink RX1 40 "HubTrains$Game" "stock" "LHubTrains$Stock;") (List.mem_of_getElem? (i := 3) rfl)) (fun _ h9 => h9) rfl dX1_mayPass_15 ?_
      obtain ⟨r18, e_18, hm⟩ := bd1_s hm
      refine zcVi (As := []) (rest := []) ⟨hx, hb, hml, hown, hts⟩ (k_X4_size l G K c (ag 3) (ag 4) g.2.2.1 r18 e_18) (cwV 0 hts gX1_mayPass_X4_size rfl rfl rfl hd_X4_size ⟨Nat.le_of_ble_eq_true rfl, Nat.le_of_ble_eq_true rfl⟩) hK hN hZ hP hD hS hA (va_recv hK hP (ci := 4) (q0 := 3) rfl rfl) [3, 4] rfl (by decide) rfl rfl hl.1 rfl (Nat.le_of_ble_eq_true rfl) dX1_mayPass_18 ⟨Nat.zero_le _, Nat.zero_le _⟩ (fun H locs hP hD hS => ?_)
      have hP : va_P G vwCl (wG c ag g) H := hP
      have hD : va_D A (wG c ag g) := hD
      refine lv_if_ne (tgt := 35) hx hb dX1_mayPass_21 (by decide) (fun c_21 => ?_) (fun c_21 => ?_)
      · have hm := ifn c_21 hm
        refine lv_iconst (v := 0) hx hb dX1_mayPass_35 (by decide) ?_
        exact hend H locs ls _ _ _ (by decide) (Option.some.inj hm) rfl hP hD hS dX1_mayPass_36
      · have hm := ifp c_21 hm
        exact J_24 H locs ls hP hD hS (lv_sub hl [0] rfl) hm


def f_X1_drawTile (g : GS) : Option (Int32 × GS) :=
  bd2 (f_X4_takeFirst g.2.2.1) fun (r4 : Int32) (k4 : SA) => bd1 (f_X7_put 100 (g.1.2 0) r4 (g.1.1 5)) fun (h017 : Nat → Int32) => some (r4, ((sa (ss (ss g.1 6 1) 10 0) 0 h017), (g.2.1), k4, g.2.2.2))

abbrev rm_X1_drawTile : Room := { frames := 2, cells := 0, slots := 0, locals := 42 }
theorem hd_X1_drawTile : yX1_drawTile.cls = RX1 ∧ yX1_drawTile.cls ≠ "java/lang/invoke/MethodHandle" ∧ yX1_drawTile.cls ≠ "java/lang/invoke/VarHandle" ∧ (parseMethodDescriptor yX1_drawTile.desc).map (fun d => d.parameters.length) = some 0 := by decide +kernel
set_option maxHeartbeats 4000000 in
set_option maxRecDepth 100000 in
theorem k_X1_drawTile (l : Launch) (G : va_G) (K : (Nat → Nat) × (Nat → Nat)) (c : Nat → ClassId) (ag : Nat → Nat) (g : GS) (r : Int32) (g_r : GS) (hm : f_X1_drawTile g = some (r, g_r)) : zMi l yX1_drawTile wsX1_drawTile rm_X1_drawTile G K (TY c) [.ref (ag 0)] (wG c ag g) (wG c ag g_r) r := by
  refine zMi.of (cc := cX1_drawTile) (maxL := 2) (lv := [(0, .ref (ag 0))]) (by decide) rfl (Nat.le_of_ble_eq_true rfl) rfl ?_
  intro p e s m args below meth c1 A Q H locs hx hb hml hown hts hK hN hZ hP hD hA hS hend ls hl
  have hown : s.vm.findClass RX1 = some m.cls := hown
  have hi_1 : ∀ w ∈ wsX10, w ∈ wsX1_drawTile := (fun w h => List.mem_cons_of_mem _ (List.mem_append_left _ (List.mem_append_right _ (h))))
  unfold f_X1_drawTile at hm
  refine lv_aload_n hx hb dX1_drawTile_0 rfl (lv_at hl 0 rfl) ?_
  refine va_get (D := G) (ci := 1) (v := .ref (ag 3)) (C := RX1) (T := TX1) (N := 16) hx hb hts hi_1 hown hK hP 0 rfl rfl 14 (by decide) (hts (.fieldLink RX1 40 "HubTrains$Game" "stock" "LHubTrains$Stock;") (List.mem_of_getElem? (i := 1) rfl)) (fun _ h9 => h9) rfl dX1_drawTile_1 ?_
  obtain ⟨r4, k4, e_4, hm⟩ := bd2_s hm
  refine zcVi (As := []) (rest := []) ⟨hx, hb, hml, hown, hts⟩ (k_X4_takeFirst l G K c (ag 3) (ag 4) g.2.2.1 r4 k4 e_4) (cwV 0 hts gX1_drawTile_X4_takeFirst rfl rfl rfl hd_X4_takeFirst ⟨Nat.le_of_ble_eq_true rfl, Nat.le_of_ble_eq_true rfl⟩) hK hN hZ hP hD hS hA (va_recv hK hP (ci := 4) (q0 := 3) rfl rfl) [3, 4] rfl (by decide) rfl rfl hl.1 rfl (Nat.le_of_ble_eq_true rfl) dX1_drawTile_4 ⟨Nat.zero_le _, Nat.zero_le _⟩ (fun H locs hP hD hS => ?_)
  have hP : va_P G vwCl (wG c ag (g.1, (g.2.1), k4, g.2.2.2)) H := hP
  have hD : va_D A (wG c ag (g.1, (g.2.1), k4, g.2.2.2)) := hD
  refine lv_istore_n (lv' := [(1, .int r4), (0, .ref (ag 0))]) hx hb dX1_drawTile_7 rfl hl (by decide) rfl (fun ls hl => ?_)
  refine lv_aload_n hx hb dX1_drawTile_8 rfl (lv_at hl 1 rfl) ?_
  refine va_get (D := G) (ci := 1) (v := .ref (ag 1)) (C := RX1) (T := TX1) (N := 16) hx hb hts hi_1 hown hK hP 0 rfl rfl 12 (by decide) (hts (.fieldLink RX1 30 "HubTrains$Game" "holders" "[I") (List.mem_of_getElem? (i := 2) rfl)) (fun _ h9 => h9) rfl dX1_drawTile_9 ?_
  refine lv_iload_n hx hb dX1_drawTile_12 rfl (lv_at hl 0 rfl) ?_
  refine lv_aload_n hx hb dX1_drawTile_13 rfl (lv_at hl 1 rfl) ?_
  refine va_get (D := G) (ci := 1) (v := .int (g.1.1 5)) (C := RX1) (T := TX1) (N := 16) hx hb hts hi_1 hown hK hP 0 rfl rfl 5 (by decide) (hts (.fieldLink RX1 57 "HubTrains$Game" "turn" "I") (List.mem_of_getElem? (i := 3) rfl)) (fun _ h9 => h9) rfl dX1_drawTile_14 ?_
  obtain ⟨h017, e_17, hm⟩ := bd1_s hm
  refine zcSNv (As := [.ref (ag 1), .int r4, .int (g.1.1 5)]) (rest := []) ⟨hx, hb, hml, hown, hts⟩ (k_X7_put l G K c (ag 1) 100 (g.1.2 0) r4 (g.1.1 5) h017 e_17) ⟨va_cnB 3 hts gX1_drawTile_X7_put_n122 rfl rfl rfl (nwm_HubTrains_Game_122 hN.2.1) (hts (.initialized RX7) (List.mem_of_getElem? (i := 15) rfl)) hd_X7_put.2 ⟨Nat.le_of_ble_eq_true rfl, Nat.le_of_ble_eq_true rfl⟩, (hts (.static yX7_put) (List.mem_of_getElem? (i := 17) rfl)), trivial⟩ hK hN hZ hP hD hS hA [1] rfl (by decide) rfl rfl hl.1 rfl (Nat.le_of_ble_eq_true rfl) dX1_drawTile_17 ⟨Nat.zero_le _, Nat.zero_le _⟩ (fun H locs hP hD hS => ?_)
  have hP : va_P G vwCl (wG c ag ((sa g.1 0 h017), (g.2.1), k4, g.2.2.2)) H := hP
  have hD : va_D A (wG c ag ((sa g.1 0 h017), (g.2.1), k4, g.2.2.2)) := hD
  refine lv_aload_n hx hb dX1_drawTile_20 rfl (lv_at hl 1 rfl) ?_
  refine lv_iconst (v := 1) hx hb dX1_drawTile_21 (by decide) ?_
  refine va_put (D := G) (ci := 1) (v := .int 1) (C := RX1) (T := TX1) (N := 16) hx hb hts hi_1 tyX1 tyX1_ok nmX1 hown hK hP hD hS 0 rfl rfl 6 (by decide) (hts (.fieldLink RX1 60 "HubTrains$Game" "drew" "Z") (List.mem_of_getElem? (i := 4) rfl)) (fun _ h9 => h9) rfl (tyX1_ok 6 (by decide)) (by decide) (by decide) (Nat.le_of_ble_eq_true rfl) dX1_drawTile_22 (fun H locs hP hD hS => ?_)
  have hP : va_P G vwCl (wG c ag ((sa (ss g.1 6 1) 0 h017), (g.2.1), k4, g.2.2.2)) H := hP
  have hD : va_D A (wG c ag ((sa (ss g.1 6 1) 0 h017), (g.2.1), k4, g.2.2.2)) := hD
  refine lv_aload_n hx hb dX1_drawTile_25 rfl (lv_at hl 1 rfl) ?_
  refine lv_iconst (v := 0) hx hb dX1_drawTile_26 (by decide) ?_
  refine va_put (D := G) (ci := 1) (v := .int 0) (C := RX1) (T := TX1) (N := 16) hx hb hts hi_1 tyX1 tyX1_ok nmX1 hown hK hP hD hS 0 rfl rfl 10 (by decide) (hts (.fieldLink RX1 70 "HubTrains$Game" "passes" "I") (List.mem_of_getElem? (i := 5) rfl)) (fun _ h9 => h9) rfl (tyX1_ok 10 (by decide)) rfl rfl (Nat.le_of_ble_eq_true rfl) dX1_drawTile_27 (fun H locs hP hD hS => ?_)
  have hP : va_P G vwCl (wG c ag ((sa (ss (ss g.1 6 1) 10 0) 0 h017), (g.2.1), k4, g.2.2.2)) H := hP
  have hD : va_D A (wG c ag ((sa (ss (ss g.1 6 1) 10 0) 0 h017), (g.2.1), k4, g.2.2.2)) := hD
  refine lv_iload_n hx hb dX1_drawTile_30 rfl (lv_at hl 0 rfl) ?_
  exact hend H locs ls _ _ _ rfl (Prod.mk.inj (Option.some.inj hm)).1 (zc1 (fun (z0 : GS) => (wG c ag z0 : va_W)) (Prod.mk.inj (Option.some.inj hm)).2) hP hD hS dX1_drawTile_31


def f_X1_nextTurn (g : GS) : Option GS :=
  if (g.1.1 1) ≤ ((g.1.1 5) + 1) then (some (((ss (ss g.1 5 0) 6 0), (g.2.1), g.2.2.1, g.2.2.2))) else (some (((ss (ss g.1 5 ((g.1.1 5) + 1)) 6 0), (g.2.1), g.2.2.1, g.2.2.2)))

abbrev rm_X1_nextTurn : Room := { frames := 0, cells := 0, slots := 0, locals := 0 }
theorem hd_X1_nextTurn : yX1_nextTurn.cls = RX1 ∧ yX1_nextTurn.cls ≠ "java/lang/invoke/MethodHandle" ∧ yX1_nextTurn.cls ≠ "java/lang/invoke/VarHandle" ∧ (parseMethodDescriptor yX1_nextTurn.desc).map (fun d => d.parameters.length) = some 0 := by decide +kernel
set_option maxHeartbeats 4000000 in
set_option maxRecDepth 100000 in
theorem k_X1_nextTurn (l : Launch) (G : va_G) (K : (Nat → Nat) × (Nat → Nat)) (c : Nat → ClassId) (ag : Nat → Nat) (g : GS) (g_r : GS) (hm : f_X1_nextTurn g = some (g_r)) : zMv l yX1_nextTurn wsX1_nextTurn rm_X1_nextTurn G K (TY c) [.ref (ag 0)] (wG c ag g) (wG c ag g_r) := by
  refine zMv.of (cc := cX1_nextTurn) (maxL := 1) (lv := [(0, .ref (ag 0))]) (by decide) rfl (Nat.le_of_ble_eq_true rfl) rfl ?_
  intro p e s m args below meth c1 A Q H locs hx hb hml hown hts hK hN hZ hP hD hA hS hend ls hl
  have hown : s.vm.findClass RX1 = some m.cls := hown
  have hi_1 : ∀ w ∈ wsX10, w ∈ wsX1_nextTurn := (fun w h => List.mem_cons_of_mem _ (List.mem_append_right _ (h)))
  unfold f_X1_nextTurn at hm
  refine lv_aload_n hx hb dX1_nextTurn_0 rfl (lv_at hl 0 rfl) ?_
  refine lv_aload_n hx hb dX1_nextTurn_1 rfl (lv_at hl 0 rfl) ?_
  refine va_get (D := G) (ci := 1) (v := .int (g.1.1 5)) (C := RX1) (T := TX1) (N := 16) hx hb hts hi_1 hown hK hP 0 rfl rfl 5 (by decide) (hts (.fieldLink RX1 57 "HubTrains$Game" "turn" "I") (List.mem_of_getElem? (i := 1) rfl)) (fun _ h9 => h9) rfl dX1_nextTurn_2 ?_
  refine lv_iconst (v := 1) hx hb dX1_nextTurn_5 (by decide) ?_
  refine lv_iadd hx hb dX1_nextTurn_6 ?_
  refine lv_aload_n hx hb dX1_nextTurn_7 rfl (lv_at hl 0 rfl) ?_
  refine va_get (D := G) (ci := 1) (v := .int (g.1.1 1)) (C := RX1) (T := TX1) (N := 16) hx hb hts hi_1 hown hK hP 0 rfl rfl 1 (by decide) (hts (.fieldLink RX1 15 "HubTrains$Game" "players" "I") (List.mem_of_getElem? (i := 2) rfl)) (fun _ h9 => h9) rfl dX1_nextTurn_8 ?_
  refine lv_icmp_ge (tgt := 23) hx hb dX1_nextTurn_11 (by decide) (fun c_11 => ?_) (fun c_11 => ?_)
  · have hm := ifp c_11 hm
    refine lv_iconst (v := 0) hx hb dX1_nextTurn_23 (by decide) ?_
    refine va_put (D := G) (ci := 1) (v := .int 0) (C := RX1) (T := TX1) (N := 16) hx hb hts hi_1 tyX1 tyX1_ok nmX1 hown hK hP hD hS 0 rfl rfl 5 (by decide) (hts (.fieldLink RX1 57 "HubTrains$Game" "turn" "I") (List.mem_of_getElem? (i := 1) rfl)) (fun _ h9 => h9) rfl (tyX1_ok 5 (by decide)) rfl rfl (Nat.le_of_ble_eq_true rfl) dX1_nextTurn_24 (fun H locs hP hD hS => ?_)
    have hP : va_P G vwCl (wG c ag ((ss g.1 5 0), (g.2.1), g.2.2.1, g.2.2.2)) H := hP
    have hD : va_D A (wG c ag ((ss g.1 5 0), (g.2.1), g.2.2.1, g.2.2.2)) := hD
    refine lv_aload_n hx hb dX1_nextTurn_27 rfl (lv_at hl 0 rfl) ?_
    refine lv_iconst (v := 0) hx hb dX1_nextTurn_28 (by decide) ?_
    refine va_put (D := G) (ci := 1) (v := .int 0) (C := RX1) (T := TX1) (N := 16) hx hb hts hi_1 tyX1 tyX1_ok nmX1 hown hK hP hD hS 0 rfl rfl 6 (by decide) (hts (.fieldLink RX1 60 "HubTrains$Game" "drew" "Z") (List.mem_of_getElem? (i := 3) rfl)) (fun _ h9 => h9) rfl (tyX1_ok 6 (by decide)) (by decide) (by decide) (Nat.le_of_ble_eq_true rfl) dX1_nextTurn_29 (fun H locs hP hD hS => ?_)
    have hP : va_P G vwCl (wG c ag ((ss (ss g.1 5 0) 6 0), (g.2.1), g.2.2.1, g.2.2.2)) H := hP
    have hD : va_D A (wG c ag ((ss (ss g.1 5 0) 6 0), (g.2.1), g.2.2.1, g.2.2.2)) := hD
    exact hend H locs ls _ _ (zc1 (fun (z0 : GS) => (wG c ag z0 : va_W)) (Option.some.inj hm)) hP hD hS dX1_nextTurn_32
  · have hm := ifn c_11 hm
    refine lv_aload_n hx hb dX1_nextTurn_14 rfl (lv_at hl 0 rfl) ?_
    refine va_get (D := G) (ci := 1) (v := .int (g.1.1 5)) (C := RX1) (T := TX1) (N := 16) hx hb hts hi_1 hown hK hP 0 rfl rfl 5 (by decide) (hts (.fieldLink RX1 57 "HubTrains$Game" "turn" "I") (List.mem_of_getElem? (i := 1) rfl)) (fun _ h9 => h9) rfl dX1_nextTurn_15 ?_
    refine lv_iconst (v := 1) hx hb dX1_nextTurn_18 (by decide) ?_
    refine lv_iadd hx hb dX1_nextTurn_19 ?_
    refine lv_goto (tgt := 24) hx hb dX1_nextTurn_20 (by decide) ?_
    refine va_put (D := G) (ci := 1) (v := .int ((g.1.1 5) + 1)) (C := RX1) (T := TX1) (N := 16) hx hb hts hi_1 tyX1 tyX1_ok nmX1 hown hK hP hD hS 0 rfl rfl 5 (by decide) (hts (.fieldLink RX1 57 "HubTrains$Game" "turn" "I") (List.mem_of_getElem? (i := 1) rfl)) (fun _ h9 => h9) rfl (tyX1_ok 5 (by decide)) rfl rfl (Nat.le_of_ble_eq_true rfl) dX1_nextTurn_24 (fun H locs hP hD hS => ?_)
    have hP : va_P G vwCl (wG c ag ((ss g.1 5 ((g.1.1 5) + 1)), (g.2.1), g.2.2.1, g.2.2.2)) H := hP
    have hD : va_D A (wG c ag ((ss g.1 5 ((g.1.1 5) + 1)), (g.2.1), g.2.2.1, g.2.2.2)) := hD
    refine lv_aload_n hx hb dX1_nextTurn_27 rfl (lv_at hl 0 rfl) ?_
    refine lv_iconst (v := 0) hx hb dX1_nextTurn_28 (by decide) ?_
    refine va_put (D := G) (ci := 1) (v := .int 0) (C := RX1) (T := TX1) (N := 16) hx hb hts hi_1 tyX1 tyX1_ok nmX1 hown hK hP hD hS 0 rfl rfl 6 (by decide) (hts (.fieldLink RX1 60 "HubTrains$Game" "drew" "Z") (List.mem_of_getElem? (i := 3) rfl)) (fun _ h9 => h9) rfl (tyX1_ok 6 (by decide)) (by decide) (by decide) (Nat.le_of_ble_eq_true rfl) dX1_nextTurn_29 (fun H locs hP hD hS => ?_)
    have hP : va_P G vwCl (wG c ag ((ss (ss g.1 5 ((g.1.1 5) + 1)) 6 0), (g.2.1), g.2.2.1, g.2.2.2)) H := hP
    have hD : va_D A (wG c ag ((ss (ss g.1 5 ((g.1.1 5) + 1)) 6 0), (g.2.1), g.2.2.1, g.2.2.2)) := hD
    exact hend H locs ls _ _ (zc1 (fun (z0 : GS) => (wG c ag z0 : va_W)) (Option.some.inj hm)) hP hD hS dX1_nextTurn_32

def f_X1_endRound_B17  (rec_17 : Int32 → GS → Option GS) (v1_17 : Int32) (g_17 : GS) : Option GS :=
  if (g_17.1.1 1) ≤ v1_17 then (some (g_17)) else (bd1 (f_X7_look 4 (g_17.1.2 1) v1_17) fun (r35 : Int32) => bd1 (f_X1_handPips g_17 v1_17) fun (r40 : Int32) => bd1 (f_X7_put 4 (g_17.1.2 1) v1_17 (r35 + r40)) fun (h044 : Nat → Int32) => rec_17 (v1_17 + 1) ((sa g_17.1 1 h044), (g_17.2.1), g_17.2.2.1, g_17.2.2.2))

def f_X1_endRound (g : GS) : Option GS :=
  itr2 f_X1_endRound_B17 FUEL 0 ((ss (ss g.1 8 1) 9 ((g.1.1 9) + 1)), (g.2.1), g.2.2.1, g.2.2.2)

abbrev rm_X1_endRound : Room := { frames := 3, cells := 0, slots := 0, locals := 63 }
theorem hd_X1_endRound : yX1_endRound.cls = RX1 ∧ yX1_endRound.cls ≠ "java/lang/invoke/MethodHandle" ∧ yX1_endRound.cls ≠ "java/lang/invoke/VarHandle" ∧ (parseMethodDescriptor yX1_endRound.desc).map (fun d => d.parameters.length) = some 0 := by decide +kernel
set_option maxHeartbeats 4000000 in
set_option maxRecDepth 100000 in
theorem k_X1_endRound (l : Launch) (G : va_G) (K : (Nat → Nat) × (Nat → Nat)) (c : Nat → ClassId) (ag : Nat → Nat) (g : GS) (g_r : GS) (hm : f_X1_endRound g = some (g_r)) : zMv l yX1_endRound wsX1_endRound rm_X1_endRound G K (TY c) [.ref (ag 0)] (wG c ag g) (wG c ag g_r) := by
  refine zMv.of (cc := cX1_endRound) (maxL := 2) (lv := [(0, .ref (ag 0))]) (by decide) rfl (Nat.le_of_ble_eq_true rfl) rfl ?_
  intro p e s m args below meth c1 A Q H locs hx hb hml hown hts hK hN hZ hP hD hA hS hend ls hl
  have hown : s.vm.findClass RX1 = some m.cls := hown
  have hi_1 : ∀ w ∈ wsX10, w ∈ wsX1_endRound := (fun w h => List.mem_cons_of_mem _ (List.mem_append_right _ (h)))
  unfold f_X1_endRound at hm
  refine lv_aload_n hx hb dX1_endRound_0 rfl (lv_at hl 0 rfl) ?_
  refine lv_iconst (v := 1) hx hb dX1_endRound_1 (by decide) ?_
  refine va_put (D := G) (ci := 1) (v := .int 1) (C := RX1) (T := TX1) (N := 16) hx hb hts hi_1 tyX1 tyX1_ok nmX1 hown hK hP hD hS 0 rfl rfl 8 (by decide) (hts (.fieldLink RX1 64 "HubTrains$Game" "over" "Z") (List.mem_of_getElem? (i := 1) rfl)) (fun _ h9 => h9) rfl (tyX1_ok 8 (by decide)) (by decide) (by decide) (Nat.le_of_ble_eq_true rfl) dX1_endRound_2 (fun H locs hP hD hS => ?_)
  have hP : va_P G vwCl (wG c ag ((ss g.1 8 1), (g.2.1), g.2.2.1, g.2.2.2)) H := hP
  have hD : va_D A (wG c ag ((ss g.1 8 1), (g.2.1), g.2.2.1, g.2.2.2)) := hD
  refine lv_aload_n hx hb dX1_endRound_5 rfl (lv_at hl 0 rfl) ?_
  refine lv_dup hx hb dX1_endRound_6 rfl ?_
  refine va_get (D := G) (ci := 1) (v := .int (g.1.1 9)) (C := RX1) (T := TX1) (N := 16) hx hb hts hi_1 hown hK hP 0 rfl rfl 9 (by decide) (hts (.fieldLink RX1 67 "HubTrains$Game" "rounds" "I") (List.mem_of_getElem? (i := 2) rfl)) (fun _ h9 => h9) rfl dX1_endRound_7 ?_
  refine lv_iconst (v := 1) hx hb dX1_endRound_10 (by decide) ?_
  refine lv_iadd hx hb dX1_endRound_11 ?_
  refine va_put (D := G) (ci := 1) (v := .int ((g.1.1 9) + 1)) (C := RX1) (T := TX1) (N := 16) hx hb hts hi_1 tyX1 tyX1_ok nmX1 hown hK hP hD hS 0 rfl rfl 9 (by decide) (hts (.fieldLink RX1 67 "HubTrains$Game" "rounds" "I") (List.mem_of_getElem? (i := 2) rfl)) (fun _ h9 => h9) rfl (tyX1_ok 9 (by decide)) rfl rfl (Nat.le_of_ble_eq_true rfl) dX1_endRound_12 (fun H locs hP hD hS => ?_)
  have hP : va_P G vwCl (wG c ag ((ss (ss g.1 8 1) 9 ((g.1.1 9) + 1)), (g.2.1), g.2.2.1, g.2.2.2)) H := hP
  have hD : va_D A (wG c ag ((ss (ss g.1 8 1) 9 ((g.1.1 9) + 1)), (g.2.1), g.2.2.1, g.2.2.2)) := hD
  refine lv_iconst (v := 0) hx hb dX1_endRound_15 (by decide) ?_
  refine lv_istore_n (lv' := [(1, .int 0), (0, .ref (ag 0))]) hx hb dX1_endRound_16 rfl hl (by decide) rfl (fun ls hl => ?_)
  have L_17 : ∀ (n_17 : Nat) (v1_17 : Int32) (g_17 : GS) (H : Heap) (locs : List Loc) (ls : Array Slot), va_P G vwCl (wG c ag g_17) H → va_D A (wG c ag g_17) → va_S A s.heap H locs → lv_has ls 2 [(0, .ref (ag 0)), (1, .int v1_17)] → itr2 f_X1_endRound_B17 n_17 v1_17 g_17 = some (g_r) → W p l e rm_X1_endRound s m args below meth c1 H locs 0 0 Q (F0 m 17 ls []) := by
    intro n_17
    induction n_17 with
    | zero => intro v1_17 g_17 H locs ls hP hD hS hl hm; exact (itr2_0 hm).elim
    | succ n_17 ih_17 =>
      intro v1_17 g_17 H locs ls hP hD hS hl hm
      have hm := itr2_s hm
      unfold f_X1_endRound_B17 at hm
      refine lv_iload_n hx hb dX1_endRound_17 rfl (lv_at hl 1 rfl) ?_
      refine lv_aload_n hx hb dX1_endRound_18 rfl (lv_at hl 0 rfl) ?_
      refine va_get (D := G) (ci := 1) (v := .int (g_17.1.1 1)) (C := RX1) (T := TX1) (N := 16) hx hb hts hi_1 hown hK hP 0 rfl rfl 1 (by decide) (hts (.fieldLink RX1 15 "HubTrains$Game" "players" "I") (List.mem_of_getElem? (i := 3) rfl)) (fun _ h9 => h9) rfl dX1_endRound_19 ?_
      refine lv_icmp_ge (tgt := 53) hx hb dX1_endRound_22 (by decide) (fun c_22 => ?_) (fun c_22 => ?_)
      · have hm := ifp c_22 hm
        exact hend H locs ls _ _ (zc1 (fun (z0 : GS) => (wG c ag z0 : va_W)) (Option.some.inj hm)) hP hD hS dX1_endRound_53
      · have hm := ifn c_22 hm
        refine lv_aload_n hx hb dX1_endRound_25 rfl (lv_at hl 0 rfl) ?_
        refine va_get (D := G) (ci := 1) (v := .ref (ag 2)) (C := RX1) (T := TX1) (N := 16) hx hb hts hi_1 hown hK hP 0 rfl rfl 13 (by decide) (hts (.fieldLink RX1 34 "HubTrains$Game" "totals" "[I") (List.mem_of_getElem? (i := 4) rfl)) (fun _ h9 => h9) rfl dX1_endRound_26 ?_
        refine lv_iload_n hx hb dX1_endRound_29 rfl (lv_at hl 1 rfl) ?_
        refine lv_aload_n hx hb dX1_endRound_30 rfl (lv_at hl 0 rfl) ?_
        refine va_get (D := G) (ci := 1) (v := .ref (ag 2)) (C := RX1) (T := TX1) (N := 16) hx hb hts hi_1 hown hK hP 0 rfl rfl 13 (by decide) (hts (.fieldLink RX1 34 "HubTrains$Game" "totals" "[I") (List.mem_of_getElem? (i := 4) rfl)) (fun _ h9 => h9) rfl dX1_endRound_31 ?_
        refine lv_iload_n hx hb dX1_endRound_34 rfl (lv_at hl 1 rfl) ?_
        obtain ⟨r35, e_35, hm⟩ := bd1_s hm
        refine zcSNi (As := [.ref (ag 2), .int v1_17]) (rest := [.int v1_17, .ref (ag 2)]) ⟨hx, hb, hml, hown, hts⟩ (k_X7_look l G K c (ag 2) 4 (g_17.1.2 1) v1_17 r35 e_35) ⟨va_cnB 2 hts gX1_endRound_X7_look_n185 rfl rfl rfl (nwm_HubTrains_Game_185 hN.2.1) (hts (.initialized RX7) (List.mem_of_getElem? (i := 6) rfl)) hd_X7_look.2 ⟨Nat.le_of_ble_eq_true rfl, Nat.le_of_ble_eq_true rfl⟩, (hts (.static yX7_look) (List.mem_of_getElem? (i := 5) rfl)), trivial⟩ hK hN hZ hP hD hS hA [2] rfl (by decide) rfl rfl hl.1 rfl (Nat.le_of_ble_eq_true rfl) dX1_endRound_35 ⟨Nat.zero_le _, Nat.zero_le _⟩ (fun H locs hP hD hS => ?_)
        have hP : va_P G vwCl (wG c ag g_17) H := hP
        have hD : va_D A (wG c ag g_17) := hD
        refine lv_aload_n hx hb dX1_endRound_38 rfl (lv_at hl 0 rfl) ?_
        refine lv_iload_n hx hb dX1_endRound_39 rfl (lv_at hl 1 rfl) ?_
        obtain ⟨r40, e_40, hm⟩ := bd1_s hm
        refine zcVi (As := [.int v1_17]) (rest := [.int r35, .int v1_17, .ref (ag 2)]) ⟨hx, hb, hml, hown, hts⟩ (k_X1_handPips l G K c ag g_17 v1_17 r40 e_40) (cwV 1 hts gX1_endRound_X1_handPips rfl rfl rfl hd_X1_handPips ⟨Nat.le_of_ble_eq_true rfl, Nat.le_of_ble_eq_true rfl⟩) hK hN hZ hP hD hS hA (va_recv hK hP (ci := 1) (q0 := 0) rfl rfl) [0, 1, 2, 3, 4, 5, 6, 7, 8, 9] rfl (by decide) rfl rfl hl.1 rfl (Nat.le_of_ble_eq_true rfl) dX1_endRound_40 ⟨Nat.zero_le _, Nat.zero_le _⟩ (fun H locs hP hD hS => ?_)
        have hP : va_P G vwCl (wG c ag g_17) H := hP
        have hD : va_D A (wG c ag g_17) := hD
        refine lv_iadd hx hb dX1_endRound_43 ?_
        obtain ⟨h044, e_44, hm⟩ := bd1_s hm
        refine zcSNv (As := [.ref (ag 2), .int v1_17, .int (r35 + r40)]) (rest := []) ⟨hx, hb, hml, hown, hts⟩ (k_X7_put l G K c (ag 2) 4 (g_17.1.2 1) v1_17 (r35 + r40) h044 e_44) ⟨va_cnB 3 hts gX1_endRound_X7_put_n122 rfl rfl rfl (nwm_HubTrains_Game_122 hN.2.1) (hts (.initialized RX7) (List.mem_of_getElem? (i := 6) rfl)) hd_X7_put.2 ⟨Nat.le_of_ble_eq_true rfl, Nat.le_of_ble_eq_true rfl⟩, (hts (.static yX7_put) (List.mem_of_getElem? (i := 26) rfl)), trivial⟩ hK hN hZ hP hD hS hA [2] rfl (by decide) rfl rfl hl.1 rfl (Nat.le_of_ble_eq_true rfl) dX1_endRound_44 ⟨Nat.zero_le _, Nat.zero_le _⟩ (fun H locs hP hD hS => ?_)
        have hP : va_P G vwCl (wG c ag ((sa g_17.1 1 h044), (g_17.2.1), g_17.2.2.1, g_17.2.2.2)) H := hP
        have hD : va_D A (wG c ag ((sa g_17.1 1 h044), (g_17.2.1), g_17.2.2.1, g_17.2.2.2)) := hD
        refine lv_iinc (k := 1) (v := (v1_17 + 1)) (lv' := [(1, .int (v1_17 + 1)), (0, .ref (ag 0))]) hx hb dX1_endRound_47 hl rfl rfl (by decide) rfl (fun ls hl => ?_)
        refine lv_goto (tgt := 17) hx hb dX1_endRound_50 (by decide) ?_
        exact ih_17 (v1_17 + 1) ((sa g_17.1 1 h044), (g_17.2.1), g_17.2.2.1, g_17.2.2.2) H locs ls hP hD hS (lv_sub hl [1, 0] rfl) hm
  exact L_17 FUEL 0 ((ss (ss g.1 8 1) 9 ((g.1.1 9) + 1)), (g.2.1), g.2.2.1, g.2.2.2) H locs ls hP hD hS (lv_sub hl [1, 0] rfl) hm


def f_X1_passTurn (g : GS) : Option GS :=
  bd1 (f_X6_setOpen g.2.2.2 (g.1.1 5) 1) fun (t9 : SA) => if ((g.1.1 10) + 1) < (g.1.1 1) then (bd1 (f_X1_nextTurn ((ss g.1 10 ((g.1.1 10) + 1)), (g.2.1), g.2.2.1, t9)) fun (g41 : GS) => some (g41)) else (bd1 (f_X1_endRound ((ss g.1 10 ((g.1.1 10) + 1)), (g.2.1), g.2.2.1, t9)) fun (g34 : GS) => some (g34))

abbrev rm_X1_passTurn : Room := { frames := 4, cells := 0, slots := 0, locals := 84 }
theorem hd_X1_passTurn : yX1_passTurn.cls = RX1 ∧ yX1_passTurn.cls ≠ "java/lang/invoke/MethodHandle" ∧ yX1_passTurn.cls ≠ "java/lang/invoke/VarHandle" ∧ (parseMethodDescriptor yX1_passTurn.desc).map (fun d => d.parameters.length) = some 0 := by decide +kernel
set_option maxHeartbeats 4000000 in
set_option maxRecDepth 100000 in
theorem k_X1_passTurn (l : Launch) (G : va_G) (K : (Nat → Nat) × (Nat → Nat)) (c : Nat → ClassId) (ag : Nat → Nat) (g : GS) (g_r : GS) (hm : f_X1_passTurn g = some (g_r)) : zMv l yX1_passTurn wsX1_passTurn rm_X1_passTurn G K (TY c) [.ref (ag 0)] (wG c ag g) (wG c ag g_r) := by
  refine zMv.of (cc := cX1_passTurn) (maxL := 1) (lv := [(0, .ref (ag 0))]) (by decide) rfl (Nat.le_of_ble_eq_true rfl) rfl ?_
  intro p e s m args below meth c1 A Q H locs hx hb hml hown hts hK hN hZ hP hD hA hS hend ls hl
  have hown : s.vm.findClass RX1 = some m.cls := hown
  have hi_1 : ∀ w ∈ wsX10, w ∈ wsX1_passTurn := (fun w h => List.mem_cons_of_mem _ (List.mem_append_left _ (List.mem_append_right _ (h))))
  unfold f_X1_passTurn at hm
  refine lv_aload_n hx hb dX1_passTurn_0 rfl (lv_at hl 0 rfl) ?_
  refine va_get (D := G) (ci := 1) (v := .ref (ag 5)) (C := RX1) (T := TX1) (N := 16) hx hb hts hi_1 hown hK hP 0 rfl rfl 15 (by decide) (hts (.fieldLink RX1 47 "HubTrains$Game" "tracks" "LHubTrains$Tracks;") (List.mem_of_getElem? (i := 1) rfl)) (fun _ h9 => h9) rfl dX1_passTurn_1 ?_
  refine lv_aload_n hx hb dX1_passTurn_4 rfl (lv_at hl 0 rfl) ?_
  refine va_get (D := G) (ci := 1) (v := .int (g.1.1 5)) (C := RX1) (T := TX1) (N := 16) hx hb hts hi_1 hown hK hP 0 rfl rfl 5 (by decide) (hts (.fieldLink RX1 57 "HubTrains$Game" "turn" "I") (List.mem_of_getElem? (i := 2) rfl)) (fun _ h9 => h9) rfl dX1_passTurn_5 ?_
  refine lv_iconst (v := 1) hx hb dX1_passTurn_8 (by decide) ?_
  obtain ⟨t9, e_9, hm⟩ := bd1_s hm
  refine zcVv (As := [.int (g.1.1 5), .int 1]) (rest := []) ⟨hx, hb, hml, hown, hts⟩ (k_X6_setOpen l G K c (ag 5) (ag 6) (ag 7) (ag 8) (ag 9) g.2.2.2 (g.1.1 5) 1 t9 e_9) (cwV 2 hts gX1_passTurn_X6_setOpen rfl rfl rfl hd_X6_setOpen ⟨Nat.le_of_ble_eq_true rfl, Nat.le_of_ble_eq_true rfl⟩) hK hN hZ hP hD hS hA (va_recv hK hP (ci := 6) (q0 := 5) rfl rfl) [5, 6, 7, 8, 9] rfl (by decide) rfl rfl hl.1 rfl (Nat.le_of_ble_eq_true rfl) dX1_passTurn_9 ⟨Nat.zero_le _, Nat.zero_le _⟩ (fun H locs hP hD hS => ?_)
  have hP : va_P G vwCl (wG c ag (g.1, (g.2.1), g.2.2.1, t9)) H := hP
  have hD : va_D A (wG c ag (g.1, (g.2.1), g.2.2.1, t9)) := hD
  refine lv_aload_n hx hb dX1_passTurn_12 rfl (lv_at hl 0 rfl) ?_
  refine lv_dup hx hb dX1_passTurn_13 rfl ?_
  refine va_get (D := G) (ci := 1) (v := .int (g.1.1 10)) (C := RX1) (T := TX1) (N := 16) hx hb hts hi_1 hown hK hP 0 rfl rfl 10 (by decide) (hts (.fieldLink RX1 70 "HubTrains$Game" "passes" "I") (List.mem_of_getElem? (i := 3) rfl)) (fun _ h9 => h9) rfl dX1_passTurn_14 ?_
  refine lv_iconst (v := 1) hx hb dX1_passTurn_17 (by decide) ?_
  refine lv_iadd hx hb dX1_passTurn_18 ?_
  refine va_put (D := G) (ci := 1) (v := .int ((g.1.1 10) + 1)) (C := RX1) (T := TX1) (N := 16) hx hb hts hi_1 tyX1 tyX1_ok nmX1 hown hK hP hD hS 0 rfl rfl 10 (by decide) (hts (.fieldLink RX1 70 "HubTrains$Game" "passes" "I") (List.mem_of_getElem? (i := 3) rfl)) (fun _ h9 => h9) rfl (tyX1_ok 10 (by decide)) rfl rfl (Nat.le_of_ble_eq_true rfl) dX1_passTurn_19 (fun H locs hP hD hS => ?_)
  have hP : va_P G vwCl (wG c ag ((ss g.1 10 ((g.1.1 10) + 1)), (g.2.1), g.2.2.1, t9)) H := hP
  have hD : va_D A (wG c ag ((ss g.1 10 ((g.1.1 10) + 1)), (g.2.1), g.2.2.1, t9)) := hD
  refine lv_aload_n hx hb dX1_passTurn_22 rfl (lv_at hl 0 rfl) ?_
  refine va_get (D := G) (ci := 1) (v := .int ((g.1.1 10) + 1)) (C := RX1) (T := TX1) (N := 16) hx hb hts hi_1 hown hK hP 0 rfl rfl 10 (by decide) (hts (.fieldLink RX1 70 "HubTrains$Game" "passes" "I") (List.mem_of_getElem? (i := 3) rfl)) (fun _ h9 => h9) rfl dX1_passTurn_23 ?_
  refine lv_aload_n hx hb dX1_passTurn_26 rfl (lv_at hl 0 rfl) ?_
  refine va_get (D := G) (ci := 1) (v := .int (g.1.1 1)) (C := RX1) (T := TX1) (N := 16) hx hb hts hi_1 hown hK hP 0 rfl rfl 1 (by decide) (hts (.fieldLink RX1 15 "HubTrains$Game" "players" "I") (List.mem_of_getElem? (i := 4) rfl)) (fun _ h9 => h9) rfl dX1_passTurn_27 ?_
  refine lv_icmp_lt (tgt := 40) hx hb dX1_passTurn_30 (by decide) (fun c_30 => ?_) (fun c_30 => ?_)
  · have hm := ifp c_30 hm
    refine lv_aload_n hx hb dX1_passTurn_40 rfl (lv_at hl 0 rfl) ?_
    obtain ⟨g41, e_41, hm⟩ := bd1_s hm
    refine zcVv (As := []) (rest := []) ⟨hx, hb, hml, hown, hts⟩ (k_X1_nextTurn l G K c ag ((ss g.1 10 ((g.1.1 10) + 1)), (g.2.1), g.2.2.1, t9) g41 e_41) (cwV 0 hts gX1_passTurn_X1_nextTurn rfl rfl rfl hd_X1_nextTurn ⟨Nat.le_of_ble_eq_true rfl, Nat.le_of_ble_eq_true rfl⟩) hK hN hZ hP hD hS hA (va_recv hK hP (ci := 1) (q0 := 0) rfl rfl) [0, 1, 2, 3, 4, 5, 6, 7, 8, 9] rfl (by decide) rfl rfl hl.1 rfl (Nat.le_of_ble_eq_true rfl) dX1_passTurn_41 ⟨Nat.zero_le _, Nat.zero_le _⟩ (fun H locs hP hD hS => ?_)
    have hP : va_P G vwCl (wG c ag g41) H := hP
    have hD : va_D A (wG c ag g41) := hD
    exact hend H locs ls _ _ (zc1 (fun (z0 : GS) => (wG c ag z0 : va_W)) (Option.some.inj hm)) hP hD hS dX1_passTurn_44
  · have hm := ifn c_30 hm
    refine lv_aload_n hx hb dX1_passTurn_33 rfl (lv_at hl 0 rfl) ?_
    obtain ⟨g34, e_34, hm⟩ := bd1_s hm
    refine zcVv (As := []) (rest := []) ⟨hx, hb, hml, hown, hts⟩ (k_X1_endRound l G K c ag ((ss g.1 10 ((g.1.1 10) + 1)), (g.2.1), g.2.2.1, t9) g34 e_34) (cwV 0 hts gX1_passTurn_X1_endRound rfl rfl rfl hd_X1_endRound ⟨Nat.le_of_ble_eq_true rfl, Nat.le_of_ble_eq_true rfl⟩) hK hN hZ hP hD hS hA (va_recv hK hP (ci := 1) (q0 := 0) rfl rfl) [0, 1, 2, 3, 4, 5, 6, 7, 8, 9] rfl (by decide) rfl rfl hl.1 rfl (Nat.le_of_ble_eq_true rfl) dX1_passTurn_34 ⟨Nat.zero_le _, Nat.zero_le _⟩ (fun H locs hP hD hS => ?_)
    have hP : va_P G vwCl (wG c ag g34) H := hP
    have hD : va_D A (wG c ag g34) := hD
    refine lv_goto (tgt := 44) hx hb dX1_passTurn_37 (by decide) ?_
    exact hend H locs ls _ _ (zc1 (fun (z0 : GS) => (wG c ag z0 : va_W)) (Option.some.inj hm)) hP hD hS dX1_passTurn_44

def f_X1_layTile_J48 (p0 : Int32) (g_35 : GS) (s0_48 : Int32) : Option GS :=
  bd1 (f_X1_handCount ((ss (ss g_35.1 7 s0_48) 10 0), (g_35.2.1), g_35.2.2.1, g_35.2.2.2) (g_35.1.1 5)) fun (r61 : Int32) => if r61 = 0 then (bd1 (f_X1_endRound ((ss (ss g_35.1 7 s0_48) 10 0), (g_35.2.1), g_35.2.2.1, g_35.2.2.2)) fun (g68 : GS) => some (g68)) else (bd1 (f_X7_isDouble p0) fun (r75 : Int32) => if r75 = 0 then (bd1 (f_X1_nextTurn ((ss (ss g_35.1 7 s0_48) 10 0), (g_35.2.1), g_35.2.2.1, g_35.2.2.2)) fun (g90 : GS) => some (g90)) else (some (((ss (ss (ss g_35.1 7 s0_48) 10 0) 6 0), (g_35.2.1), g_35.2.2.1, g_35.2.2.2))))

def f_X1_layTile_J35 (p0 : Int32) (p1 : Int32) (g_35 : GS) : Option GS :=
  bd1 (f_X7_isDouble p0) fun (r37 : Int32) => if r37 = 0 then (f_X1_layTile_J48 p0 g_35 (-1)) else (f_X1_layTile_J48 p0 g_35 p1)

def f_X1_layTile (g : GS) (p0 : Int32) (p1 : Int32) : Option GS :=
  bd1 (f_X7_put 100 (g.1.2 0) p0 (-1)) fun (h06 : Nat → Int32) => bd1 (f_X6_lay g.2.2.2 p0 p1) fun (t15 : SA) => if p1 = (g.1.1 5) then (bd1 (f_X6_setOpen t15 p1 0) fun (t32 : SA) => f_X1_layTile_J35 p0 p1 ((sa g.1 0 h06), (g.2.1), g.2.2.1, t32)) else (f_X1_layTile_J35 p0 p1 ((sa g.1 0 h06), (g.2.1), g.2.2.1, t15))

abbrev rm_X1_layTile : Room := { frames := 4, cells := 0, slots := 0, locals := 84 }
theorem hd_X1_layTile : yX1_layTile.cls = RX1 ∧ yX1_layTile.cls ≠ "java/lang/invoke/MethodHandle" ∧ yX1_layTile.cls ≠ "java/lang/invoke/VarHandle" ∧ (parseMethodDescriptor yX1_layTile.desc).map (fun d => d.parameters.length) = some 2 := by decide +kernel
set_option maxHeartbeats 4000000 in
set_option maxRecDepth 100000 in
theorem k_X1_layTile (l : Launch) (G : va_G) (K : (Nat → Nat) × (Nat → Nat)) (c : Nat → ClassId) (ag : Nat → Nat) (g : GS) (p0 : Int32) (p1 : Int32) (g_r : GS) (hm : f_X1_layTile g p0 p1 = some (g_r)) : zMv l yX1_layTile wsX1_layTile rm_X1_layTile G K (TY c) [.ref (ag 0), .int p0, .int p1] (wG c ag g) (wG c ag g_r) := by
  refine zMv.of (cc := cX1_layTile) (maxL := 3) (lv := [(0, .ref (ag 0)), (1, .int p0), (2, .int p1)]) (by decide) rfl (Nat.le_of_ble_eq_true rfl) rfl ?_
  intro p e s m args below meth c1 A Q H locs hx hb hml hown hts hK hN hZ hP hD hA hS hend ls hl
  have hown : s.vm.findClass RX1 = some m.cls := hown
  have hi_1 : ∀ w ∈ wsX10, w ∈ wsX1_layTile := (fun w h => List.mem_cons_of_mem _ (List.mem_append_left _ (List.mem_append_right _ (h))))
  unfold f_X1_layTile at hm
  refine lv_aload_n hx hb dX1_layTile_0 rfl (lv_at hl 0 rfl) ?_
  refine va_get (D := G) (ci := 1) (v := .ref (ag 1)) (C := RX1) (T := TX1) (N := 16) hx hb hts hi_1 hown hK hP 0 rfl rfl 12 (by decide) (hts (.fieldLink RX1 30 "HubTrains$Game" "holders" "[I") (List.mem_of_getElem? (i := 1) rfl)) (fun _ h9 => h9) rfl dX1_layTile_1 ?_
  refine lv_iload_n hx hb dX1_layTile_4 rfl (lv_at hl 1 rfl) ?_
  refine lv_iconst (v := (-1)) hx hb dX1_layTile_5 (by decide) ?_
  obtain ⟨h06, e_6, hm⟩ := bd1_s hm
  refine zcSNv (As := [.ref (ag 1), .int p0, .int (-1)]) (rest := []) ⟨hx, hb, hml, hown, hts⟩ (k_X7_put l G K c (ag 1) 100 (g.1.2 0) p0 (-1) h06 e_6) ⟨va_cnB 3 hts gX1_layTile_X7_put_n122 rfl rfl rfl (nwm_HubTrains_Game_122 hN.2.1) (hts (.initialized RX7) (List.mem_of_getElem? (i := 8) rfl)) hd_X7_put.2 ⟨Nat.le_of_ble_eq_true rfl, Nat.le_of_ble_eq_true rfl⟩, (hts (.static yX7_put) (List.mem_of_getElem? (i := 7) rfl)), trivial⟩ hK hN hZ hP hD hS hA [1] rfl (by decide) rfl rfl hl.1 rfl (Nat.le_of_ble_eq_true rfl) dX1_layTile_6 ⟨Nat.zero_le _, Nat.zero_le _⟩ (fun H locs hP hD hS => ?_)
  have hP : va_P G vwCl (wG c ag ((sa g.1 0 h06), (g.2.1), g.2.2.1, g.2.2.2)) H := hP
  have hD : va_D A (wG c ag ((sa g.1 0 h06), (g.2.1), g.2.2.1, g.2.2.2)) := hD
  refine lv_aload_n hx hb dX1_layTile_9 rfl (lv_at hl 0 rfl) ?_
  refine va_get (D := G) (ci := 1) (v := .ref (ag 5)) (C := RX1) (T := TX1) (N := 16) hx hb hts hi_1 hown hK hP 0 rfl rfl 15 (by decide) (hts (.fieldLink RX1 47 "HubTrains$Game" "tracks" "LHubTrains$Tracks;") (List.mem_of_getElem? (i := 2) rfl)) (fun _ h9 => h9) rfl dX1_layTile_10 ?_
  refine lv_iload_n hx hb dX1_layTile_13 rfl (lv_at hl 1 rfl) ?_
  refine lv_iload_n hx hb dX1_layTile_14 rfl (lv_at hl 2 rfl) ?_
  obtain ⟨t15, e_15, hm⟩ := bd1_s hm
  refine zcVv (As := [.int p0, .int p1]) (rest := []) ⟨hx, hb, hml, hown, hts⟩ (k_X6_lay l G K c (ag 5) (ag 6) (ag 7) (ag 8) (ag 9) g.2.2.2 p0 p1 t15 e_15) (cwV 2 hts gX1_layTile_X6_lay rfl rfl rfl hd_X6_lay ⟨Nat.le_of_ble_eq_true rfl, Nat.le_of_ble_eq_true rfl⟩) hK hN hZ hP hD hS hA (va_recv hK hP (ci := 6) (q0 := 5) rfl rfl) [5, 6, 7, 8, 9] rfl (by decide) rfl rfl hl.1 rfl (Nat.le_of_ble_eq_true rfl) dX1_layTile_15 ⟨Nat.zero_le _, Nat.zero_le _⟩ (fun H locs hP hD hS => ?_)
  have hP : va_P G vwCl (wG c ag ((sa g.1 0 h06), (g.2.1), g.2.2.1, t15)) H := hP
  have hD : va_D A (wG c ag ((sa g.1 0 h06), (g.2.1), g.2.2.1, t15)) := hD
  refine lv_iload_n hx hb dX1_layTile_18 rfl (lv_at hl 2 rfl) ?_
  refine lv_aload_n hx hb dX1_layTile_19 rfl (lv_at hl 0 rfl) ?_
  refine va_get (D := G) (ci := 1) (v := .int (g.1.1 5)) (C := RX1) (T := TX1) (N := 16) hx hb hts hi_1 hown hK hP 0 rfl rfl 5 (by decide) (hts (.fieldLink RX1 57 "HubTrains$Game" "turn" "I") (List.mem_of_getElem? (i := 3) rfl)) (fun _ h9 => h9) rfl dX1_layTile_20 ?_
  have J_35 : ∀ (g_35 : GS) (H : Heap) (locs : List Loc) (ls : Array Slot), va_P G vwCl (wG c ag g_35) H → va_D A (wG c ag g_35) → va_S A s.heap H locs → lv_has ls 3 [(0, .ref (ag 0)), (1, .int p0), (2, .int p1)] → f_X1_layTile_J35 p0 p1 g_35 = some (g_r) → W p l e rm_X1_layTile s m args below meth c1 H locs 0 0 Q (F0 m 35 ls []) := by
    intro g_35 H locs ls hP hD hS hl hm
    unfold f_X1_layTile_J35 at hm
    refine lv_aload_n hx hb dX1_layTile_35 rfl (lv_at hl 0 rfl) ?_
    refine lv_iload_n hx hb dX1_layTile_36 rfl (lv_at hl 1 rfl) ?_
    obtain ⟨r37, e_37, hm⟩ := bd1_s hm
    refine zcSNi (As := [.int p0]) (rest := [.ref (ag 0)]) ⟨hx, hb, hml, hown, hts⟩ (k_X7_isDouble l G K c p0 r37 e_37) ⟨va_cnB 1 hts gX1_layTile_X7_isDouble_n135 rfl rfl rfl (nwm_HubTrains_Game_135 hN.2.1) (hts (.initialized RX7) (List.mem_of_getElem? (i := 8) rfl)) hd_X7_isDouble.2 ⟨Nat.le_of_ble_eq_true rfl, Nat.le_of_ble_eq_true rfl⟩, (hts (.static yX7_isDouble) (List.mem_of_getElem? (i := 38) rfl)), trivial⟩ hK hN hZ hP hD hS hA [] rfl (by decide) rfl rfl hl.1 rfl (Nat.le_of_ble_eq_true rfl) dX1_layTile_37 ⟨Nat.zero_le _, Nat.zero_le _⟩ (fun H locs hP hD hS => ?_)
    have hP : va_P G vwCl (wG c ag g_35) H := hP
    have hD : va_D A (wG c ag g_35) := hD
    have J_48 : ∀ (s0_48 : Int32) (H : Heap) (locs : List Loc) (ls : Array Slot), va_P G vwCl (wG c ag g_35) H → va_D A (wG c ag g_35) → va_S A s.heap H locs → lv_has ls 3 [(0, .ref (ag 0)), (1, .int p0)] → f_X1_layTile_J48 p0 g_35 s0_48 = some (g_r) → W p l e rm_X1_layTile s m args below meth c1 H locs 0 0 Q (F0 m 48 ls [.int s0_48, .ref (ag 0)]) := by
      intro s0_48 H locs ls hP hD hS hl hm
      unfold f_X1_layTile_J48 at hm
      refine va_put (D := G) (ci := 1) (v := .int s0_48) (C := RX1) (T := TX1) (N := 16) hx hb hts hi_1 tyX1 tyX1_ok nmX1 hown hK hP hD hS 0 rfl rfl 7 (by decide) (hts (.fieldLink RX1 27 "HubTrains$Game" "uncovered" "I") (List.mem_of_getElem? (i := 4) rfl)) (fun _ h9 => h9) rfl (tyX1_ok 7 (by decide)) rfl rfl (Nat.le_of_ble_eq_true rfl) dX1_layTile_48 (fun H locs hP hD hS => ?_)
      have hP : va_P G vwCl (wG c ag ((ss g_35.1 7 s0_48), (g_35.2.1), g_35.2.2.1, g_35.2.2.2)) H := hP
      have hD : va_D A (wG c ag ((ss g_35.1 7 s0_48), (g_35.2.1), g_35.2.2.1, g_35.2.2.2)) := hD
      refine lv_aload_n hx hb dX1_layTile_51 rfl (lv_at hl 0 rfl) ?_
      refine lv_iconst (v := 0) hx hb dX1_layTile_52 (by decide) ?_
      refine va_put (D := G) (ci := 1) (v := .int 0) (C := RX1) (T := TX1) (N := 16) hx hb hts hi_1 tyX1 tyX1_ok nmX1 hown hK hP hD hS 0 rfl rfl 10 (by decide) (hts (.fieldLink RX1 70 "HubTrains$Game" "passes" "I") (List.mem_of_getElem? (i := 5) rfl)) (fun _ h9 => h9) rfl (tyX1_ok 10 (by decide)) rfl rfl (Nat.le_of_ble_eq_true rfl) dX1_layTile_53 (fun H locs hP hD hS => ?_)
      have hP : va_P G vwCl (wG c ag ((ss (ss g_35.1 7 s0_48) 10 0), (g_35.2.1), g_35.2.2.1, g_35.2.2.2)) H := hP
      have hD : va_D A (wG c ag ((ss (ss g_35.1 7 s0_48) 10 0), (g_35.2.1), g_35.2.2.1, g_35.2.2.2)) := hD
      refine lv_aload_n hx hb dX1_layTile_56 rfl (lv_at hl 0 rfl) ?_
      refine lv_aload_n hx hb dX1_layTile_57 rfl (lv_at hl 0 rfl) ?_
      refine va_get (D := G) (ci := 1) (v := .int (g_35.1.1 5)) (C := RX1) (T := TX1) (N := 16) hx hb hts hi_1 hown hK hP 0 rfl rfl 5 (by decide) (hts (.fieldLink RX1 57 "HubTrains$Game" "turn" "I") (List.mem_of_getElem? (i := 3) rfl)) (fun _ h9 => h9) rfl dX1_layTile_58 ?_
      obtain ⟨r61, e_61, hm⟩ := bd1_s hm
      refine zcVi (As := [.int (g_35.1.1 5)]) (rest := []) ⟨hx, hb, hml, hown, hts⟩ (k_X1_handCount l G K c ag ((ss (ss g_35.1 7 s0_48) 10 0), (g_35.2.1), g_35.2.2.1, g_35.2.2.2) (g_35.1.1 5) r61 e_61) (cwV 1 hts gX1_layTile_X1_handCount rfl rfl rfl hd_X1_handCount ⟨Nat.le_of_ble_eq_true rfl, Nat.le_of_ble_eq_true rfl⟩) hK hN hZ hP hD hS hA (va_recv hK hP (ci := 1) (q0 := 0) rfl rfl) [0, 1, 2, 3, 4, 5, 6, 7, 8, 9] rfl (by decide) rfl rfl hl.1 rfl (Nat.le_of_ble_eq_true rfl) dX1_layTile_61 ⟨Nat.zero_le _, Nat.zero_le _⟩ (fun H locs hP hD hS => ?_)
      have hP : va_P G vwCl (wG c ag ((ss (ss g_35.1 7 s0_48) 10 0), (g_35.2.1), g_35.2.2.1, g_35.2.2.2)) H := hP
      have hD : va_D A (wG c ag ((ss (ss g_35.1 7 s0_48) 10 0), (g_35.2.1), g_35.2.2.1, g_35.2.2.2)) := hD
      refine lv_if_ne (tgt := 74) hx hb dX1_layTile_64 (by decide) (fun c_64 => ?_) (fun c_64 => ?_)
      · have hm := ifn c_64 hm
        refine lv_iload_n hx hb dX1_layTile_74 rfl (lv_at hl 1 rfl) ?_
        obtain ⟨r75, e_75, hm⟩ := bd1_s hm
        refine zcSNi (As := [.int p0]) (rest := []) ⟨hx, hb, hml, hown, hts⟩ (k_X7_isDouble l G K c p0 r75 e_75) ⟨va_cnB 1 hts gX1_layTile_X7_isDouble_n135 rfl rfl rfl (nwm_HubTrains_Game_135 hN.2.1) (hts (.initialized RX7) (List.mem_of_getElem? (i := 8) rfl)) hd_X7_isDouble.2 ⟨Nat.le_of_ble_eq_true rfl, Nat.le_of_ble_eq_true rfl⟩, (hts (.static yX7_isDouble) (List.mem_of_getElem? (i := 38) rfl)), trivial⟩ hK hN hZ hP hD hS hA [] rfl (by decide) rfl rfl hl.1 rfl (Nat.le_of_ble_eq_true rfl) dX1_layTile_75 ⟨Nat.zero_le _, Nat.zero_le _⟩ (fun H locs hP hD hS => ?_)
        have hP : va_P G vwCl (wG c ag ((ss (ss g_35.1 7 s0_48) 10 0), (g_35.2.1), g_35.2.2.1, g_35.2.2.2)) H := hP
        have hD : va_D A (wG c ag ((ss (ss g_35.1 7 s0_48) 10 0), (g_35.2.1), g_35.2.2.1, g_35.2.2.2)) := hD
        refine lv_if_eq (tgt := 89) hx hb dX1_layTile_78 (by decide) (fun c_78 => ?_) (fun c_78 => ?_)
        · have hm := ifp c_78 hm
          refine lv_aload_n hx hb dX1_layTile_89 rfl (lv_at hl 0 rfl) ?_
          obtain ⟨g90, e_90, hm⟩ := bd1_s hm
          refine zcVv (As := []) (rest := []) ⟨hx, hb, hml, hown, hts⟩ (k_X1_nextTurn l G K c ag ((ss (ss g_35.1 7 s0_48) 10 0), (g_35.2.1), g_35.2.2.1, g_35.2.2.2) g90 e_90) (cwV 0 hts gX1_layTile_X1_nextTurn rfl rfl rfl hd_X1_nextTurn ⟨Nat.le_of_ble_eq_true rfl, Nat.le_of_ble_eq_true rfl⟩) hK hN hZ hP hD hS hA (va_recv hK hP (ci := 1) (q0 := 0) rfl rfl) [0, 1, 2, 3, 4, 5, 6, 7, 8, 9] rfl (by decide) rfl rfl hl.1 rfl (Nat.le_of_ble_eq_true rfl) dX1_layTile_90 ⟨Nat.zero_le _, Nat.zero_le _⟩ (fun H locs hP hD hS => ?_)
          have hP : va_P G vwCl (wG c ag g90) H := hP
          have hD : va_D A (wG c ag g90) := hD
          exact hend H locs ls _ _ (zc1 (fun (z0 : GS) => (wG c ag z0 : va_W)) (Option.some.inj hm)) hP hD hS dX1_layTile_93
        · have hm := ifn c_78 hm
          refine lv_aload_n hx hb dX1_layTile_81 rfl (lv_at hl 0 rfl) ?_
          refine lv_iconst (v := 0) hx hb dX1_layTile_82 (by decide) ?_
          refine va_put (D := G) (ci := 1) (v := .int 0) (C := RX1) (T := TX1) (N := 16) hx hb hts hi_1 tyX1 tyX1_ok nmX1 hown hK hP hD hS 0 rfl rfl 6 (by decide) (hts (.fieldLink RX1 60 "HubTrains$Game" "drew" "Z") (List.mem_of_getElem? (i := 6) rfl)) (fun _ h9 => h9) rfl (tyX1_ok 6 (by decide)) (by decide) (by decide) (Nat.le_of_ble_eq_true rfl) dX1_layTile_83 (fun H locs hP hD hS => ?_)
          have hP : va_P G vwCl (wG c ag ((ss (ss (ss g_35.1 7 s0_48) 10 0) 6 0), (g_35.2.1), g_35.2.2.1, g_35.2.2.2)) H := hP
          have hD : va_D A (wG c ag ((ss (ss (ss g_35.1 7 s0_48) 10 0) 6 0), (g_35.2.1), g_35.2.2.1, g_35.2.2.2)) := hD
          refine lv_goto (tgt := 93) hx hb dX1_layTile_86 (by decide) ?_
          exact hend H locs ls _ _ (zc1 (fun (z0 : GS) => (wG c ag z0 : va_W)) (Option.some.inj hm)) hP hD hS dX1_layTile_93
      · have hm := ifp c_64 hm
        refine lv_aload_n hx hb dX1_layTile_67 rfl (lv_at hl 0 rfl) ?_
        obtain ⟨g68, e_68, hm⟩ := bd1_s hm
        refine zcVv (As := []) (rest := []) ⟨hx, hb, hml, hown, hts⟩ (k_X1_endRound l G K c ag ((ss (ss g_35.1 7 s0_48) 10 0), (g_35.2.1), g_35.2.2.1, g_35.2.2.2) g68 e_68) (cwV 0 hts gX1_layTile_X1_endRound rfl rfl rfl hd_X1_endRound ⟨Nat.le_of_ble_eq_true rfl, Nat.le_of_ble_eq_true rfl⟩) hK hN hZ hP hD hS hA (va_recv hK hP (ci := 1) (q0 := 0) rfl rfl) [0, 1, 2, 3, 4, 5, 6, 7, 8, 9] rfl (by decide) rfl rfl hl.1 rfl (Nat.le_of_ble_eq_true rfl) dX1_layTile_68 ⟨Nat.zero_le _, Nat.zero_le _⟩ (fun H locs hP hD hS => ?_)
        have hP : va_P G vwCl (wG c ag g68) H := hP
        have hD : va_D A (wG c ag g68) := hD
        refine lv_goto (tgt := 93) hx hb dX1_layTile_71 (by decide) ?_
        exact hend H locs ls _ _ (zc1 (fun (z0 : GS) => (wG c ag z0 : va_W)) (Option.some.inj hm)) hP hD hS dX1_layTile_93
    refine lv_if_eq (tgt := 47) hx hb dX1_layTile_40 (by decide) (fun c_40 => ?_) (fun c_40 => ?_)
    · have hm := ifp c_40 hm
      refine lv_iconst (v := (-1)) hx hb dX1_layTile_47 (by decide) ?_
      exact J_48 (-1) H locs ls hP hD hS (lv_sub hl [0, 1] rfl) hm
    · have hm := ifn c_40 hm
      refine lv_iload_n hx hb dX1_layTile_43 rfl (lv_at hl 2 rfl) ?_
      refine lv_goto (tgt := 48) hx hb dX1_layTile_44 (by decide) ?_
      exact J_48 p1 H locs ls hP hD hS (lv_sub hl [0, 1] rfl) hm
  refine lv_icmp_ne (tgt := 35) hx hb dX1_layTile_23 (by decide) (fun c_23 => ?_) (fun c_23 => ?_)
  · have hm := ifn c_23 hm
    exact J_35 ((sa g.1 0 h06), (g.2.1), g.2.2.1, t15) H locs ls hP hD hS (lv_sub hl [0, 1, 2] rfl) hm
  · have hm := ifp c_23 hm
    refine lv_aload_n hx hb dX1_layTile_26 rfl (lv_at hl 0 rfl) ?_
    refine va_get (D := G) (ci := 1) (v := .ref (ag 5)) (C := RX1) (T := TX1) (N := 16) hx hb hts hi_1 hown hK hP 0 rfl rfl 15 (by decide) (hts (.fieldLink RX1 47 "HubTrains$Game" "tracks" "LHubTrains$Tracks;") (List.mem_of_getElem? (i := 2) rfl)) (fun _ h9 => h9) rfl dX1_layTile_27 ?_
    refine lv_iload_n hx hb dX1_layTile_30 rfl (lv_at hl 2 rfl) ?_
    refine lv_iconst (v := 0) hx hb dX1_layTile_31 (by decide) ?_
    obtain ⟨t32, e_32, hm⟩ := bd1_s hm
    refine zcVv (As := [.int p1, .int 0]) (rest := []) ⟨hx, hb, hml, hown, hts⟩ (k_X6_setOpen l G K c (ag 5) (ag 6) (ag 7) (ag 8) (ag 9) t15 p1 0 t32 e_32) (cwV 2 hts gX1_layTile_X6_setOpen rfl rfl rfl hd_X6_setOpen ⟨Nat.le_of_ble_eq_true rfl, Nat.le_of_ble_eq_true rfl⟩) hK hN hZ hP hD hS hA (va_recv hK hP (ci := 6) (q0 := 5) rfl rfl) [5, 6, 7, 8, 9] rfl (by decide) rfl rfl hl.1 rfl (Nat.le_of_ble_eq_true rfl) dX1_layTile_32 ⟨Nat.zero_le _, Nat.zero_le _⟩ (fun H locs hP hD hS => ?_)
    have hP : va_P G vwCl (wG c ag ((sa g.1 0 h06), (g.2.1), g.2.2.1, t32)) H := hP
    have hD : va_D A (wG c ag ((sa g.1 0 h06), (g.2.1), g.2.2.1, t32)) := hD
    exact J_35 ((sa g.1 0 h06), (g.2.1), g.2.2.1, t32) H locs ls hP hD hS (lv_sub hl [0, 1, 2] rfl) hm

def f_X1_fillHand_B6 (p0 : Int32) (rec_6 : Int32 → GS → Option GS) (v2_6 : Int32) (g_6 : GS) : Option GS :=
  if (g_6.1.1 2) ≤ v2_6 then (some (g_6)) else (bd1 (f_X4_size g_6.2.2.1) fun (r18 : Int32) => if r18 ≤ 0 then (some (g_6)) else (bd2 (f_X4_takeFirst g_6.2.2.1) fun (r32 : Int32) (k32 : SA) => bd1 (f_X7_put 100 (g_6.1.2 0) r32 p0) fun (h036 : Nat → Int32) => rec_6 (v2_6 + 1) ((sa g_6.1 0 h036), (g_6.2.1), k32, g_6.2.2.2)))

def f_X1_fillHand (g : GS) (p0 : Int32) : Option GS :=
  bd1 (f_X1_handCount g p0) fun (r2 : Int32) => itr2 (f_X1_fillHand_B6 p0) FUEL r2 g

abbrev rm_X1_fillHand : Room := { frames := 2, cells := 0, slots := 0, locals := 44 }
theorem hd_X1_fillHand : yX1_fillHand.cls = RX1 ∧ yX1_fillHand.cls ≠ "java/lang/invoke/MethodHandle" ∧ yX1_fillHand.cls ≠ "java/lang/invoke/VarHandle" ∧ (parseMethodDescriptor yX1_fillHand.desc).map (fun d => d.parameters.length) = some 1 := by decide +kernel
set_option maxHeartbeats 4000000 in
set_option maxRecDepth 100000 in
theorem k_X1_fillHand (l : Launch) (G : va_G) (K : (Nat → Nat) × (Nat → Nat)) (c : Nat → ClassId) (ag : Nat → Nat) (g : GS) (p0 : Int32) (g_r : GS) (hm : f_X1_fillHand g p0 = some (g_r)) : zMv l yX1_fillHand wsX1_fillHand rm_X1_fillHand G K (TY c) [.ref (ag 0), .int p0] (wG c ag g) (wG c ag g_r) := by
  refine zMv.of (cc := cX1_fillHand) (maxL := 3) (lv := [(0, .ref (ag 0)), (1, .int p0)]) (by decide) rfl (Nat.le_of_ble_eq_true rfl) rfl ?_
  intro p e s m args below meth c1 A Q H locs hx hb hml hown hts hK hN hZ hP hD hA hS hend ls hl
  have hown : s.vm.findClass RX1 = some m.cls := hown
  have hi_1 : ∀ w ∈ wsX10, w ∈ wsX1_fillHand := (fun w h => List.mem_cons_of_mem _ (List.mem_append_left _ (List.mem_append_right _ (h))))
  unfold f_X1_fillHand at hm
  refine lv_aload_n hx hb dX1_fillHand_0 rfl (lv_at hl 0 rfl) ?_
  refine lv_iload_n hx hb dX1_fillHand_1 rfl (lv_at hl 1 rfl) ?_
  obtain ⟨r2, e_2, hm⟩ := bd1_s hm
  refine zcVi (As := [.int p0]) (rest := []) ⟨hx, hb, hml, hown, hts⟩ (k_X1_handCount l G K c ag g p0 r2 e_2) (cwV 1 hts gX1_fillHand_X1_handCount rfl rfl rfl hd_X1_handCount ⟨Nat.le_of_ble_eq_true rfl, Nat.le_of_ble_eq_true rfl⟩) hK hN hZ hP hD hS hA (va_recv hK hP (ci := 1) (q0 := 0) rfl rfl) [0, 1, 2, 3, 4, 5, 6, 7, 8, 9] rfl (by decide) rfl rfl hl.1 rfl (Nat.le_of_ble_eq_true rfl) dX1_fillHand_2 ⟨Nat.zero_le _, Nat.zero_le _⟩ (fun H locs hP hD hS => ?_)
  have hP : va_P G vwCl (wG c ag g) H := hP
  have hD : va_D A (wG c ag g) := hD
  refine lv_istore_n (lv' := [(2, .int r2), (0, .ref (ag 0)), (1, .int p0)]) hx hb dX1_fillHand_5 rfl hl (by decide) rfl (fun ls hl => ?_)
  have L_6 : ∀ (n_6 : Nat) (v2_6 : Int32) (g_6 : GS) (H : Heap) (locs : List Loc) (ls : Array Slot), va_P G vwCl (wG c ag g_6) H → va_D A (wG c ag g_6) → va_S A s.heap H locs → lv_has ls 3 [(0, .ref (ag 0)), (1, .int p0), (2, .int v2_6)] → itr2 (f_X1_fillHand_B6 p0) n_6 v2_6 g_6 = some (g_r) → W p l e rm_X1_fillHand s m args below meth c1 H locs 0 0 Q (F0 m 6 ls []) := by
    intro n_6
    induction n_6 with
    | zero => intro v2_6 g_6 H locs ls hP hD hS hl hm; exact (itr2_0 hm).elim
    | succ n_6 ih_6 =>
      intro v2_6 g_6 H locs ls hP hD hS hl hm
      have hm := itr2_s hm
      unfold f_X1_fillHand_B6 at hm
      refine lv_iload_n hx hb dX1_fillHand_6 rfl (lv_at hl 2 rfl) ?_
      refine lv_aload_n hx hb dX1_fillHand_7 rfl (lv_at hl 0 rfl) ?_
      refine va_get (D := G) (ci := 1) (v := .int (g_6.1.1 2)) (C := RX1) (T := TX1) (N := 16) hx hb hts hi_1 hown hK hP 0 rfl rfl 2 (by decide) (hts (.fieldLink RX1 18 "HubTrains$Game" "handSize" "I") (List.mem_of_getElem? (i := 1) rfl)) (fun _ h9 => h9) rfl dX1_fillHand_8 ?_
      refine lv_icmp_ge (tgt := 45) hx hb dX1_fillHand_11 (by decide) (fun c_11 => ?_) (fun c_11 => ?_)
      · have hm := ifp c_11 hm
        exact hend H locs ls _ _ (zc1 (fun (z0 : GS) => (wG c ag z0 : va_W)) (Option.some.inj hm)) hP hD hS dX1_fillHand_45
      · have hm := ifn c_11 hm
        refine lv_aload_n hx hb dX1_fillHand_14 rfl (lv_at hl 0 rfl) ?_
        refine va_get (D := G) (ci := 1) (v := .ref (ag 3)) (C := RX1) (T := TX1) (N := 16) hx hb hts hi_1 hown hK hP 0 rfl rfl 14 (by decide) (hts (.fieldLink RX1 40 "HubTrains$Game" "stock" "LHubTrains$Stock;") (List.mem_of_getElem? (i := 2) rfl)) (fun _ h9 => h9) rfl dX1_fillHand_15 ?_
        obtain ⟨r18, e_18, hm⟩ := bd1_s hm
        refine zcVi (As := []) (rest := []) ⟨hx, hb, hml, hown, hts⟩ (k_X4_size l G K c (ag 3) (ag 4) g_6.2.2.1 r18 e_18) (cwV 0 hts gX1_fillHand_X4_size rfl rfl rfl hd_X4_size ⟨Nat.le_of_ble_eq_true rfl, Nat.le_of_ble_eq_true rfl⟩) hK hN hZ hP hD hS hA (va_recv hK hP (ci := 4) (q0 := 3) rfl rfl) [3, 4] rfl (by decide) rfl rfl hl.1 rfl (Nat.le_of_ble_eq_true rfl) dX1_fillHand_18 ⟨Nat.zero_le _, Nat.zero_le _⟩ (fun H locs hP hD hS => ?_)
        have hP : va_P G vwCl (wG c ag g_6) H := hP
        have hD : va_D A (wG c ag g_6) := hD
        refine lv_if_le (tgt := 45) hx hb dX1_fillHand_21 (by decide) (fun c_21 => ?_) (fun c_21 => ?_)
        · have hm := ifp c_21 hm
          exact hend H locs ls _ _ (zc1 (fun (z0 : GS) => (wG c ag z0 : va_W)) (Option.some.inj hm)) hP hD hS dX1_fillHand_45
        · have hm := ifn c_21 hm
          refine lv_aload_n hx hb dX1_fillHand_24 rfl (lv_at hl 0 rfl) ?_
          refine va_get (D := G) (ci := 1) (v := .ref (ag 1)) (C := RX1) (T := TX1) (N := 16) hx hb hts hi_1 hown hK hP 0 rfl rfl 12 (by decide) (hts (.fieldLink RX1 30 "HubTrains$Game" "holders" "[I") (List.mem_of_getElem? (i := 3) rfl)) (fun _ h9 => h9) rfl dX1_fillHand_25 ?_
          refine lv_aload_n hx hb dX1_fillHand_28 rfl (lv_at hl 0 rfl) ?_
          refine va_get (D := G) (ci := 1) (v := .ref (ag 3)) (C := RX1) (T := TX1) (N := 16) hx hb hts hi_1 hown hK hP 0 rfl rfl 14 (by decide) (hts (.fieldLink RX1 40 "HubTrains$Game" "stock" "LHubTrains$Stock;") (List.mem_of_getElem? (i := 2) rfl)) (fun _ h9 => h9) rfl dX1_fillHand_29 ?_
          obtain ⟨r32, k32, e_32, hm⟩ := bd2_s hm
          refine zcVi (As := []) (rest := [.ref (ag 1)]) ⟨hx, hb, hml, hown, hts⟩ (k_X4_takeFirst l G K c (ag 3) (ag 4) g_6.2.2.1 r32 k32 e_32) (cwV 0 hts gX1_fillHand_X4_takeFirst rfl rfl rfl hd_X4_takeFirst ⟨Nat.le_of_ble_eq_true rfl, Nat.le_of_ble_eq_true rfl⟩) hK hN hZ hP hD hS hA (va_recv hK hP (ci := 4) (q0 := 3) rfl rfl) [3, 4] rfl (by decide) rfl rfl hl.1 rfl (Nat.le_of_ble_eq_true rfl) dX1_fillHand_32 ⟨Nat.zero_le _, Nat.zero_le _⟩ (fun H locs hP hD hS => ?_)
          have hP : va_P G vwCl (wG c ag (g_6.1, (g_6.2.1), k32, g_6.2.2.2)) H := hP
          have hD : va_D A (wG c ag (g_6.1, (g_6.2.1), k32, g_6.2.2.2)) := hD
          refine lv_iload_n hx hb dX1_fillHand_35 rfl (lv_at hl 1 rfl) ?_
          obtain ⟨h036, e_36, hm⟩ := bd1_s hm
          refine zcSNv (As := [.ref (ag 1), .int r32, .int p0]) (rest := []) ⟨hx, hb, hml, hown, hts⟩ (k_X7_put l G K c (ag 1) 100 (g_6.1.2 0) r32 p0 h036 e_36) ⟨va_cnB 3 hts gX1_fillHand_X7_put_n122 rfl rfl rfl (nwm_HubTrains_Game_122 hN.2.1) (hts (.initialized RX7) (List.mem_of_getElem? (i := 26) rfl)) hd_X7_put.2 ⟨Nat.le_of_ble_eq_true rfl, Nat.le_of_ble_eq_true rfl⟩, (hts (.static yX7_put) (List.mem_of_getElem? (i := 28) rfl)), trivial⟩ hK hN hZ hP hD hS hA [1] rfl (by decide) rfl rfl hl.1 rfl (Nat.le_of_ble_eq_true rfl) dX1_fillHand_36 ⟨Nat.zero_le _, Nat.zero_le _⟩ (fun H locs hP hD hS => ?_)
          have hP : va_P G vwCl (wG c ag ((sa g_6.1 0 h036), (g_6.2.1), k32, g_6.2.2.2)) H := hP
          have hD : va_D A (wG c ag ((sa g_6.1 0 h036), (g_6.2.1), k32, g_6.2.2.2)) := hD
          refine lv_iinc (k := 2) (v := (v2_6 + 1)) (lv' := [(2, .int (v2_6 + 1)), (0, .ref (ag 0)), (1, .int p0)]) hx hb dX1_fillHand_39 hl rfl rfl (by decide) rfl (fun ls hl => ?_)
          refine lv_goto (tgt := 6) hx hb dX1_fillHand_42 (by decide) ?_
          exact ih_6 (v2_6 + 1) ((sa g_6.1 0 h036), (g_6.2.1), k32, g_6.2.2.2) H locs ls hP hD hS (lv_sub hl [1, 2, 0] rfl) hm
  exact L_6 FUEL r2 g H locs ls hP hD hS (lv_sub hl [1, 2, 0] rfl) hm

def f_X1_lightestHand_B4 (g : GS) (rec_4 : Int32 → Int32 → Option Int32) (v1_4 : Int32) (v2_4 : Int32) : Option Int32 :=
  if (g.1.1 1) ≤ v2_4 then (some (v1_4)) else (bd1 (f_X1_handPips g v2_4) fun (r14 : Int32) => bd1 (f_X1_handPips g v1_4) fun (r19 : Int32) => if r19 ≤ r14 then (rec_4 v1_4 (v2_4 + 1)) else (rec_4 v2_4 (v2_4 + 1)))

def f_X1_lightestHand (g : GS) : Option Int32 :=
  itr2 (f_X1_lightestHand_B4 g) FUEL 0 1

abbrev rm_X1_lightestHand : Room := { frames := 3, cells := 0, slots := 0, locals := 63 }
theorem hd_X1_lightestHand : yX1_lightestHand.cls = RX1 ∧ yX1_lightestHand.cls ≠ "java/lang/invoke/MethodHandle" ∧ yX1_lightestHand.cls ≠ "java/lang/invoke/VarHandle" ∧ (parseMethodDescriptor yX1_lightestHand.desc).map (fun d => d.parameters.length) = some 0 := by decide +kernel
set_option maxHeartbeats 4000000 in
set_option maxRecDepth 100000 in
theorem k_X1_lightestHand (l : Launch) (G : va_G) (K : (Nat → Nat) × (Nat → Nat)) (c : Nat → ClassId) (ag : Nat → Nat) (g : GS) (r : Int32) (hm : f_X1_lightestHand g = some (r)) : zMi l yX1_lightestHand wsX1_lightestHand rm_X1_lightestHand G K (TY c) [.ref (ag 0)] (wG c ag g) (wG c ag g) r := by
  refine zMi.of (cc := cX1_lightestHand) (maxL := 3) (lv := [(0, .ref (ag 0))]) (by decide) rfl (Nat.le_of_ble_eq_true rfl) rfl ?_
  intro p e s m args below meth c1 A Q H locs hx hb hml hown hts hK hN hZ hP hD hA hS hend ls hl
  have hown : s.vm.findClass RX1 = some m.cls := hown
  have hi_1 : ∀ w ∈ wsX10, w ∈ wsX1_lightestHand := (fun w h => List.mem_cons_of_mem _ (List.mem_append_right _ (h)))
  unfold f_X1_lightestHand at hm
  refine lv_iconst (v := 0) hx hb dX1_lightestHand_0 (by decide) ?_
  refine lv_istore_n (lv' := [(1, .int 0), (0, .ref (ag 0))]) hx hb dX1_lightestHand_1 rfl hl (by decide) rfl (fun ls hl => ?_)
  refine lv_iconst (v := 1) hx hb dX1_lightestHand_2 (by decide) ?_
  refine lv_istore_n (lv' := [(2, .int 1), (1, .int 0), (0, .ref (ag 0))]) hx hb dX1_lightestHand_3 rfl hl (by decide) rfl (fun ls hl => ?_)
  have L_4 : ∀ (n_4 : Nat) (v1_4 : Int32) (v2_4 : Int32) (H : Heap) (locs : List Loc) (ls : Array Slot), va_P G vwCl (wG c ag g) H → va_D A (wG c ag g) → va_S A s.heap H locs → lv_has ls 3 [(0, .ref (ag 0)), (1, .int v1_4), (2, .int v2_4)] → itr2 (f_X1_lightestHand_B4 g) n_4 v1_4 v2_4 = some (r) → W p l e rm_X1_lightestHand s m args below meth c1 H locs 0 0 Q (F0 m 4 ls []) := by
    intro n_4
    induction n_4 with
    | zero => intro v1_4 v2_4 H locs ls hP hD hS hl hm; exact (itr2_0 hm).elim
    | succ n_4 ih_4 =>
      intro v1_4 v2_4 H locs ls hP hD hS hl hm
      have hm := itr2_s hm
      unfold f_X1_lightestHand_B4 at hm
      refine lv_iload_n hx hb dX1_lightestHand_4 rfl (lv_at hl 2 rfl) ?_
      refine lv_aload_n hx hb dX1_lightestHand_5 rfl (lv_at hl 0 rfl) ?_
      refine va_get (D := G) (ci := 1) (v := .int (g.1.1 1)) (C := RX1) (T := TX1) (N := 16) hx hb hts hi_1 hown hK hP 0 rfl rfl 1 (by decide) (hts (.fieldLink RX1 15 "HubTrains$Game" "players" "I") (List.mem_of_getElem? (i := 1) rfl)) (fun _ h9 => h9) rfl dX1_lightestHand_6 ?_
      refine lv_icmp_ge (tgt := 33) hx hb dX1_lightestHand_9 (by decide) (fun c_9 => ?_) (fun c_9 => ?_)
      · have hm := ifp c_9 hm
        refine lv_iload_n hx hb dX1_lightestHand_33 rfl (lv_at hl 1 rfl) ?_
        exact hend H locs ls _ _ _ rfl (Option.some.inj hm) rfl hP hD hS dX1_lightestHand_34
      · have hm := ifn c_9 hm
        refine lv_aload_n hx hb dX1_lightestHand_12 rfl (lv_at hl 0 rfl) ?_
        refine lv_iload_n hx hb dX1_lightestHand_13 rfl (lv_at hl 2 rfl) ?_
        obtain ⟨r14, e_14, hm⟩ := bd1_s hm
        refine zcVi (As := [.int v2_4]) (rest := []) ⟨hx, hb, hml, hown, hts⟩ (k_X1_handPips l G K c ag g v2_4 r14 e_14) (cwV 1 hts gX1_lightestHand_X1_handPips rfl rfl rfl hd_X1_handPips ⟨Nat.le_of_ble_eq_true rfl, Nat.le_of_ble_eq_true rfl⟩) hK hN hZ hP hD hS hA (va_recv hK hP (ci := 1) (q0 := 0) rfl rfl) [0, 1, 2, 3, 4, 5, 6, 7, 8, 9] rfl (by decide) rfl rfl hl.1 rfl (Nat.le_of_ble_eq_true rfl) dX1_lightestHand_14 ⟨Nat.zero_le _, Nat.zero_le _⟩ (fun H locs hP hD hS => ?_)
        have hP : va_P G vwCl (wG c ag g) H := hP
        have hD : va_D A (wG c ag g) := hD
        refine lv_aload_n hx hb dX1_lightestHand_17 rfl (lv_at hl 0 rfl) ?_
        refine lv_iload_n hx hb dX1_lightestHand_18 rfl (lv_at hl 1 rfl) ?_
        obtain ⟨r19, e_19, hm⟩ := bd1_s hm
        refine zcVi (As := [.int v1_4]) (rest := [.int r14]) ⟨hx, hb, hml, hown, hts⟩ (k_X1_handPips l G K c ag g v1_4 r19 e_19) (cwV 1 hts gX1_lightestHand_X1_handPips rfl rfl rfl hd_X1_handPips ⟨Nat.le_of_ble_eq_true rfl, Nat.le_of_ble_eq_true rfl⟩) hK hN hZ hP hD hS hA (va_recv hK hP (ci := 1) (q0 := 0) rfl rfl) [0, 1, 2, 3, 4, 5, 6, 7, 8, 9] rfl (by decide) rfl rfl hl.1 rfl (Nat.le_of_ble_eq_true rfl) dX1_lightestHand_19 ⟨Nat.zero_le _, Nat.zero_le _⟩ (fun H locs hP hD hS => ?_)
        have hP : va_P G vwCl (wG c ag g) H := hP
        have hD : va_D A (wG c ag g) := hD
        refine lv_icmp_ge (tgt := 27) hx hb dX1_lightestHand_22 (by decide) (fun c_22 => ?_) (fun c_22 => ?_)
        · have hm := ifp c_22 hm
          refine lv_iinc (k := 2) (v := (v2_4 + 1)) (lv' := [(2, .int (v2_4 + 1)), (0, .ref (ag 0)), (1, .int v1_4)]) hx hb dX1_lightestHand_27 hl rfl rfl (by decide) rfl (fun ls hl => ?_)
          refine lv_goto (tgt := 4) hx hb dX1_lightestHand_30 (by decide) ?_
          exact ih_4 v1_4 (v2_4 + 1) H locs ls hP hD hS (lv_sub hl [1, 2, 0] rfl) hm
        · have hm := ifn c_22 hm
          refine lv_iload_n hx hb dX1_lightestHand_25 rfl (lv_at hl 2 rfl) ?_
          refine lv_istore_n (lv' := [(1, .int v2_4), (0, .ref (ag 0)), (2, .int v2_4)]) hx hb dX1_lightestHand_26 rfl hl (by decide) rfl (fun ls hl => ?_)
          refine lv_iinc (k := 2) (v := (v2_4 + 1)) (lv' := [(2, .int (v2_4 + 1)), (1, .int v2_4), (0, .ref (ag 0))]) hx hb dX1_lightestHand_27 hl rfl rfl (by decide) rfl (fun ls hl => ?_)
          refine lv_goto (tgt := 4) hx hb dX1_lightestHand_30 (by decide) ?_
          exact ih_4 v2_4 (v2_4 + 1) H locs ls hP hD hS (lv_sub hl [2, 1, 0] rfl) hm
  exact L_4 FUEL 0 1 H locs ls hP hD hS (lv_sub hl [2, 1, 0] rfl) hm


def f_X1_stateNumber (g : GS) (p0 : Int32) : Option Int32 :=
  if p0 = 0 then (some ((g.1.1 0))) else (if p0 = 1 then (some ((g.1.1 1))) else (if p0 = 2 then (some ((g.1.1 2))) else (if p0 = 3 then (some ((g.1.1 3))) else (if p0 = 4 then (some ((g.1.1 5))) else (if p0 = 5 then (if (g.1.1 6) = 0 then (some (0)) else (some (1))) else (if p0 = 6 then (some ((g.1.1 7))) else (if p0 = 7 then (bd1 (f_X4_size g.2.2.1) fun (r111 : Int32) => some (r111)) else (if p0 = 8 then (if (g.1.1 8) = 0 then (some (0)) else (some (1))) else (if p0 = 9 then (some ((g.1.1 9))) else (if p0 = 10 then (bd1 (f_X1_playsNow g) fun (r134 : Int32) => some (r134)) else (if p0 = 11 then (some ((g.1.1 10))) else (some ((g.1.1 4))))))))))))))

abbrev rm_X1_stateNumber : Room := { frames := 6, cells := 0, slots := 0, locals := 130 }
theorem hd_X1_stateNumber : yX1_stateNumber.cls = RX1 ∧ yX1_stateNumber.cls ≠ "java/lang/invoke/MethodHandle" ∧ yX1_stateNumber.cls ≠ "java/lang/invoke/VarHandle" ∧ (parseMethodDescriptor yX1_stateNumber.desc).map (fun d => d.parameters.length) = some 1 := by decide +kernel
set_option maxHeartbeats 4000000 in
set_option maxRecDepth 100000 in
theorem k_X1_stateNumber (l : Launch) (G : va_G) (K : (Nat → Nat) × (Nat → Nat)) (c : Nat → ClassId) (ag : Nat → Nat) (g : GS) (p0 : Int32) (r : Int32) (hm : f_X1_stateNumber g p0 = some (r)) : zMi l yX1_stateNumber wsX1_stateNumber rm_X1_stateNumber G K (TY c) [.ref (ag 0), .int p0] (wG c ag g) (wG c ag g) r := by
  refine zMi.of (cc := cX1_stateNumber) (maxL := 2) (lv := [(0, .ref (ag 0)), (1, .int p0)]) (by decide) rfl (Nat.le_of_ble_eq_true rfl) rfl ?_
  intro p e s m args below meth c1 A Q H locs hx hb hml hown hts hK hN hZ hP hD hA hS hend ls hl
  have hown : s.vm.findClass RX1 = some m.cls := hown
  have hi_1 : ∀ w ∈ wsX10, w ∈ wsX1_stateNumber := (fun w h => List.mem_cons_of_mem _ (List.mem_append_left _ (List.mem_append_left _ (List.mem_append_right _ (h)))))
  unfold f_X1_stateNumber at hm
  refine lv_iload_n hx hb dX1_stateNumber_0 rfl (lv_at hl 1 rfl) ?_
  rcases Classical.em (p0 = 0) with c_1_0 | c_1_0
  · have hm := ifp c_1_0 hm
    refine lv_tableIn (off := 63) (tgt := 64) hx hb dX1_stateNumber_1 (by rw [c_1_0]; decide) (by rw [c_1_0]; decide) (by rw [c_1_0]; rfl) (by decide) ?_
    refine lv_aload_n hx hb dX1_stateNumber_64 rfl (lv_at hl 0 rfl) ?_
    refine va_get (D := G) (ci := 1) (v := .int (g.1.1 0)) (C := RX1) (T := TX1) (N := 16) hx hb hts hi_1 hown hK hP 0 rfl rfl 0 (by decide) (hts (.fieldLink RX1 9 "HubTrains$Game" "greatest" "I") (List.mem_of_getElem? (i := 1) rfl)) (fun _ h9 => h9) rfl dX1_stateNumber_65 ?_
    exact hend H locs ls _ _ _ rfl (Option.some.inj hm) rfl hP hD hS dX1_stateNumber_68
  · have hm := ifn c_1_0 hm
    rcases Classical.em (p0 = 1) with c_1_1 | c_1_1
    · have hm := ifp c_1_1 hm
      refine lv_tableIn (off := 68) (tgt := 69) hx hb dX1_stateNumber_1 (by rw [c_1_1]; decide) (by rw [c_1_1]; decide) (by rw [c_1_1]; rfl) (by decide) ?_
      refine lv_aload_n hx hb dX1_stateNumber_69 rfl (lv_at hl 0 rfl) ?_
      refine va_get (D := G) (ci := 1) (v := .int (g.1.1 1)) (C := RX1) (T := TX1) (N := 16) hx hb hts hi_1 hown hK hP 0 rfl rfl 1 (by decide) (hts (.fieldLink RX1 15 "HubTrains$Game" "players" "I") (List.mem_of_getElem? (i := 2) rfl)) (fun _ h9 => h9) rfl dX1_stateNumber_70 ?_
      exact hend H locs ls _ _ _ rfl (Option.some.inj hm) rfl hP hD hS dX1_stateNumber_73
    · have hm := ifn c_1_1 hm
      rcases Classical.em (p0 = 2) with c_1_2 | c_1_2
      · have hm := ifp c_1_2 hm
        refine lv_tableIn (off := 73) (tgt := 74) hx hb dX1_stateNumber_1 (by rw [c_1_2]; decide) (by rw [c_1_2]; decide) (by rw [c_1_2]; rfl) (by decide) ?_
        refine lv_aload_n hx hb dX1_stateNumber_74 rfl (lv_at hl 0 rfl) ?_
        refine va_get (D := G) (ci := 1) (v := .int (g.1.1 2)) (C := RX1) (T := TX1) (N := 16) hx hb hts hi_1 hown hK hP 0 rfl rfl 2 (by decide) (hts (.fieldLink RX1 18 "HubTrains$Game" "handSize" "I") (List.mem_of_getElem? (i := 3) rfl)) (fun _ h9 => h9) rfl dX1_stateNumber_75 ?_
        exact hend H locs ls _ _ _ rfl (Option.some.inj hm) rfl hP hD hS dX1_stateNumber_78
      · have hm := ifn c_1_2 hm
        rcases Classical.em (p0 = 3) with c_1_3 | c_1_3
        · have hm := ifp c_1_3 hm
          refine lv_tableIn (off := 78) (tgt := 79) hx hb dX1_stateNumber_1 (by rw [c_1_3]; decide) (by rw [c_1_3]; decide) (by rw [c_1_3]; rfl) (by decide) ?_
          refine lv_aload_n hx hb dX1_stateNumber_79 rfl (lv_at hl 0 rfl) ?_
          refine va_get (D := G) (ci := 1) (v := .int (g.1.1 3)) (C := RX1) (T := TX1) (N := 16) hx hb hts hi_1 hown hK hP 0 rfl rfl 3 (by decide) (hts (.fieldLink RX1 21 "HubTrains$Game" "hub" "I") (List.mem_of_getElem? (i := 4) rfl)) (fun _ h9 => h9) rfl dX1_stateNumber_80 ?_
          exact hend H locs ls _ _ _ rfl (Option.some.inj hm) rfl hP hD hS dX1_stateNumber_83
        · have hm := ifn c_1_3 hm
          rcases Classical.em (p0 = 4) with c_1_4 | c_1_4
          · have hm := ifp c_1_4 hm
            refine lv_tableIn (off := 83) (tgt := 84) hx hb dX1_stateNumber_1 (by rw [c_1_4]; decide) (by rw [c_1_4]; decide) (by rw [c_1_4]; rfl) (by decide) ?_
            refine lv_aload_n hx hb dX1_stateNumber_84 rfl (lv_at hl 0 rfl) ?_
            refine va_get (D := G) (ci := 1) (v := .int (g.1.1 5)) (C := RX1) (T := TX1) (N := 16) hx hb hts hi_1 hown hK hP 0 rfl rfl 5 (by decide) (hts (.fieldLink RX1 57 "HubTrains$Game" "turn" "I") (List.mem_of_getElem? (i := 5) rfl)) (fun _ h9 => h9) rfl dX1_stateNumber_85 ?_
            exact hend H locs ls _ _ _ rfl (Option.some.inj hm) rfl hP hD hS dX1_stateNumber_88
          · have hm := ifn c_1_4 hm
            rcases Classical.em (p0 = 5) with c_1_5 | c_1_5
            · have hm := ifp c_1_5 hm
              refine lv_tableIn (off := 88) (tgt := 89) hx hb dX1_stateNumber_1 (by rw [c_1_5]; decide) (by rw [c_1_5]; decide) (by rw [c_1_5]; rfl) (by decide) ?_
              refine lv_aload_n hx hb dX1_stateNumber_89 rfl (lv_at hl 0 rfl) ?_
              refine va_get (D := G) (ci := 1) (v := .int (g.1.1 6)) (C := RX1) (T := TX1) (N := 16) hx hb hts hi_1 hown hK hP 0 rfl rfl 6 (by decide) (hts (.fieldLink RX1 60 "HubTrains$Game" "drew" "Z") (List.mem_of_getElem? (i := 6) rfl)) (fun _ h9 => h9) rfl dX1_stateNumber_90 ?_
              refine lv_if_eq (tgt := 100) hx hb dX1_stateNumber_93 (by decide) (fun c_93 => ?_) (fun c_93 => ?_)
              · have hm := ifp c_93 hm
                refine lv_iconst (v := 0) hx hb dX1_stateNumber_100 (by decide) ?_
                exact hend H locs ls _ _ _ rfl (Option.some.inj hm) rfl hP hD hS dX1_stateNumber_101
              · have hm := ifn c_93 hm
                refine lv_iconst (v := 1) hx hb dX1_stateNumber_96 (by decide) ?_
                refine lv_goto (tgt := 101) hx hb dX1_stateNumber_97 (by decide) ?_
                exact hend H locs ls _ _ _ rfl (Option.some.inj hm) rfl hP hD hS dX1_stateNumber_101
            · have hm := ifn c_1_5 hm
              rcases Classical.em (p0 = 6) with c_1_6 | c_1_6
              · have hm := ifp c_1_6 hm
                refine lv_tableIn (off := 101) (tgt := 102) hx hb dX1_stateNumber_1 (by rw [c_1_6]; decide) (by rw [c_1_6]; decide) (by rw [c_1_6]; rfl) (by decide) ?_
                refine lv_aload_n hx hb dX1_stateNumber_102 rfl (lv_at hl 0 rfl) ?_
                refine va_get (D := G) (ci := 1) (v := .int (g.1.1 7)) (C := RX1) (T := TX1) (N := 16) hx hb hts hi_1 hown hK hP 0 rfl rfl 7 (by decide) (hts (.fieldLink RX1 27 "HubTrains$Game" "uncovered" "I") (List.mem_of_getElem? (i := 7) rfl)) (fun _ h9 => h9) rfl dX1_stateNumber_103 ?_
                exact hend H locs ls _ _ _ rfl (Option.some.inj hm) rfl hP hD hS dX1_stateNumber_106
              · have hm := ifn c_1_6 hm
                rcases Classical.em (p0 = 7) with c_1_7 | c_1_7
                · have hm := ifp c_1_7 hm
                  refine lv_tableIn (off := 106) (tgt := 107) hx hb dX1_stateNumber_1 (by rw [c_1_7]; decide) (by rw [c_1_7]; decide) (by rw [c_1_7]; rfl) (by decide) ?_
                  refine lv_aload_n hx hb dX1_stateNumber_107 rfl (lv_at hl 0 rfl) ?_
                  refine va_get (D := G) (ci := 1) (v := .ref (ag 3)) (C := RX1) (T := TX1) (N := 16) hx hb hts hi_1 hown hK hP 0 rfl rfl 14 (by decide) (hts (.fieldLink RX1 40 "HubTrains$Game" "stock" "LHubTrains$Stock;") (List.mem_of_getElem? (i := 8) rfl)) (fun _ h9 => h9) rfl dX1_stateNumber_108 ?_
                  obtain ⟨r111, e_111, hm⟩ := bd1_s hm
                  refine zcVi (As := []) (rest := []) ⟨hx, hb, hml, hown, hts⟩ (k_X4_size l G K c (ag 3) (ag 4) g.2.2.1 r111 e_111) (cwV 0 hts gX1_stateNumber_X4_size rfl rfl rfl hd_X4_size ⟨Nat.le_of_ble_eq_true rfl, Nat.le_of_ble_eq_true rfl⟩) hK hN hZ hP hD hS hA (va_recv hK hP (ci := 4) (q0 := 3) rfl rfl) [3, 4] rfl (by decide) rfl rfl hl.1 rfl (Nat.le_of_ble_eq_true rfl) dX1_stateNumber_111 ⟨Nat.zero_le _, Nat.zero_le _⟩ (fun H locs hP hD hS => ?_)
                  have hP : va_P G vwCl (wG c ag g) H := hP
                  have hD : va_D A (wG c ag g) := hD
                  exact hend H locs ls _ _ _ rfl (Option.some.inj hm) rfl hP hD hS dX1_stateNumber_114
                · have hm := ifn c_1_7 hm
                  rcases Classical.em (p0 = 8) with c_1_8 | c_1_8
                  · have hm := ifp c_1_8 hm
                    refine lv_tableIn (off := 114) (tgt := 115) hx hb dX1_stateNumber_1 (by rw [c_1_8]; decide) (by rw [c_1_8]; decide) (by rw [c_1_8]; rfl) (by decide) ?_
                    refine lv_aload_n hx hb dX1_stateNumber_115 rfl (lv_at hl 0 rfl) ?_
                    refine va_get (D := G) (ci := 1) (v := .int (g.1.1 8)) (C := RX1) (T := TX1) (N := 16) hx hb hts hi_1 hown hK hP 0 rfl rfl 8 (by decide) (hts (.fieldLink RX1 64 "HubTrains$Game" "over" "Z") (List.mem_of_getElem? (i := 9) rfl)) (fun _ h9 => h9) rfl dX1_stateNumber_116 ?_
                    refine lv_if_eq (tgt := 126) hx hb dX1_stateNumber_119 (by decide) (fun c_119 => ?_) (fun c_119 => ?_)
                    · have hm := ifp c_119 hm
                      refine lv_iconst (v := 0) hx hb dX1_stateNumber_126 (by decide) ?_
                      exact hend H locs ls _ _ _ rfl (Option.some.inj hm) rfl hP hD hS dX1_stateNumber_127
                    · have hm := ifn c_119 hm
                      refine lv_iconst (v := 1) hx hb dX1_stateNumber_122 (by decide) ?_
                      refine lv_goto (tgt := 127) hx hb dX1_stateNumber_123 (by decide) ?_
                      exact hend H locs ls _ _ _ rfl (Option.some.inj hm) rfl hP hD hS dX1_stateNumber_127
                  · have hm := ifn c_1_8 hm
                    rcases Classical.em (p0 = 9) with c_1_9 | c_1_9
                    · have hm := ifp c_1_9 hm
                      refine lv_tableIn (off := 127) (tgt := 128) hx hb dX1_stateNumber_1 (by rw [c_1_9]; decide) (by rw [c_1_9]; decide) (by rw [c_1_9]; rfl) (by decide) ?_
                      refine lv_aload_n hx hb dX1_stateNumber_128 rfl (lv_at hl 0 rfl) ?_
                      refine va_get (D := G) (ci := 1) (v := .int (g.1.1 9)) (C := RX1) (T := TX1) (N := 16) hx hb hts hi_1 hown hK hP 0 rfl rfl 9 (by decide) (hts (.fieldLink RX1 67 "HubTrains$Game" "rounds" "I") (List.mem_of_getElem? (i := 10) rfl)) (fun _ h9 => h9) rfl dX1_stateNumber_129 ?_
                      exact hend H locs ls _ _ _ rfl (Option.some.inj hm) rfl hP hD hS dX1_stateNumber_132
                    · have hm := ifn c_1_9 hm
                      rcases Classical.em (p0 = 10) with c_1_10 | c_1_10
                      · have hm := ifp c_1_10 hm
                        refine lv_tableIn (off := 132) (tgt := 133) hx hb dX1_stateNumber_1 (by rw [c_1_10]; decide) (by rw [c_1_10]; decide) (by rw [c_1_10]; rfl) (by decide) ?_
                        refine lv_aload_n hx hb dX1_stateNumber_133 rfl (lv_at hl 0 rfl) ?_
                        obtain ⟨r134, e_134, hm⟩ := bd1_s hm
                        refine zcVi (As := []) (rest := []) ⟨hx, hb, hml, hown, hts⟩ (k_X1_playsNow l G K c ag g r134 e_134) (cwV 0 hts gX1_stateNumber_X1_playsNow rfl rfl rfl hd_X1_playsNow ⟨Nat.le_of_ble_eq_true rfl, Nat.le_of_ble_eq_true rfl⟩) hK hN hZ hP hD hS hA (va_recv hK hP (ci := 1) (q0 := 0) rfl rfl) [0, 1, 2, 3, 4, 5, 6, 7, 8, 9] rfl (by decide) rfl rfl hl.1 rfl (Nat.le_of_ble_eq_true rfl) dX1_stateNumber_134 ⟨Nat.zero_le _, Nat.zero_le _⟩ (fun H locs hP hD hS => ?_)
                        have hP : va_P G vwCl (wG c ag g) H := hP
                        have hD : va_D A (wG c ag g) := hD
                        exact hend H locs ls _ _ _ rfl (Option.some.inj hm) rfl hP hD hS dX1_stateNumber_137
                      · have hm := ifn c_1_10 hm
                        rcases Classical.em (p0 = 11) with c_1_11 | c_1_11
                        · have hm := ifp c_1_11 hm
                          refine lv_tableIn (off := 137) (tgt := 138) hx hb dX1_stateNumber_1 (by rw [c_1_11]; decide) (by rw [c_1_11]; decide) (by rw [c_1_11]; rfl) (by decide) ?_
                          refine lv_aload_n hx hb dX1_stateNumber_138 rfl (lv_at hl 0 rfl) ?_
                          refine va_get (D := G) (ci := 1) (v := .int (g.1.1 10)) (C := RX1) (T := TX1) (N := 16) hx hb hts hi_1 hown hK hP 0 rfl rfl 10 (by decide) (hts (.fieldLink RX1 70 "HubTrains$Game" "passes" "I") (List.mem_of_getElem? (i := 11) rfl)) (fun _ h9 => h9) rfl dX1_stateNumber_139 ?_
                          exact hend H locs ls _ _ _ rfl (Option.some.inj hm) rfl hP hD hS dX1_stateNumber_142
                        · have hm := ifn c_1_11 hm
                          refine lv_tableOut (tgt := 143) hx hb dX1_stateNumber_1 (sw_out (0) (11) (fun k hk hk2 hkx => by rcases (show k = 0 ∨ k = 1 ∨ k = 2 ∨ k = 3 ∨ k = 4 ∨ k = 5 ∨ k = 6 ∨ k = 7 ∨ k = 8 ∨ k = 9 ∨ k = 10 ∨ k = 11 by omega) with rfl | rfl | rfl | rfl | rfl | rfl | rfl | rfl | rfl | rfl | rfl | rfl <;> first | exact c_1_0 (hkx.trans (by decide)) | exact c_1_1 (hkx.trans (by decide)) | exact c_1_2 (hkx.trans (by decide)) | exact c_1_3 (hkx.trans (by decide)) | exact c_1_4 (hkx.trans (by decide)) | exact c_1_5 (hkx.trans (by decide)) | exact c_1_6 (hkx.trans (by decide)) | exact c_1_7 (hkx.trans (by decide)) | exact c_1_8 (hkx.trans (by decide)) | exact c_1_9 (hkx.trans (by decide)) | exact c_1_10 (hkx.trans (by decide)) | exact c_1_11 (hkx.trans (by decide)))) (by decide) ?_
                          refine lv_aload_n hx hb dX1_stateNumber_143 rfl (lv_at hl 0 rfl) ?_
                          refine va_get (D := G) (ci := 1) (v := .int (g.1.1 4)) (C := RX1) (T := TX1) (N := 16) hx hb hts hi_1 hown hK hP 0 rfl rfl 4 (by decide) (hts (.fieldLink RX1 24 "HubTrains$Game" "seed" "I") (List.mem_of_getElem? (i := 12) rfl)) (fun _ h9 => h9) rfl dX1_stateNumber_144 ?_
                          exact hend H locs ls _ _ _ rfl (Option.some.inj hm) rfl hP hD hS dX1_stateNumber_147


def f_X1_playerNumber (g : GS) (p0 : Int32) (p1 : Int32) : Option Int32 :=
  if p1 = 0 then (bd1 (f_X1_handCount g p0) fun (r30 : Int32) => some (r30)) else (if p1 = 1 then (bd1 (f_X1_handPips g p0) fun (r36 : Int32) => some (r36)) else (if p1 = 2 then (bd1 (f_X7_look 4 (g.1.2 1) p0) fun (r45 : Int32) => some (r45)) else (bd1 (f_X1_playableTiles g p0) fun (r51 : Int32) => some (r51))))

abbrev rm_X1_playerNumber : Room := { frames := 6, cells := 0, slots := 0, locals := 131 }
theorem hd_X1_playerNumber : yX1_playerNumber.cls = RX1 ∧ yX1_playerNumber.cls ≠ "java/lang/invoke/MethodHandle" ∧ yX1_playerNumber.cls ≠ "java/lang/invoke/VarHandle" ∧ (parseMethodDescriptor yX1_playerNumber.desc).map (fun d => d.parameters.length) = some 2 := by decide +kernel
set_option maxHeartbeats 4000000 in
set_option maxRecDepth 100000 in
theorem k_X1_playerNumber (l : Launch) (G : va_G) (K : (Nat → Nat) × (Nat → Nat)) (c : Nat → ClassId) (ag : Nat → Nat) (g : GS) (p0 : Int32) (p1 : Int32) (r : Int32) (hm : f_X1_playerNumber g p0 p1 = some (r)) : zMi l yX1_playerNumber wsX1_playerNumber rm_X1_playerNumber G K (TY c) [.ref (ag 0), .int p0, .int p1] (wG c ag g) (wG c ag g) r := by
  refine zMi.of (cc := cX1_playerNumber) (maxL := 3) (lv := [(0, .ref (ag 0)), (1, .int p0), (2, .int p1)]) (by decide) rfl (Nat.le_of_ble_eq_true rfl) rfl ?_
  intro p e s m args below meth c1 A Q H locs hx hb hml hown hts hK hN hZ hP hD hA hS hend ls hl
  have hown : s.vm.findClass RX1 = some m.cls := hown
  have hi_1 : ∀ w ∈ wsX10, w ∈ wsX1_playerNumber := (fun w h => List.mem_cons_of_mem _ (List.mem_append_left _ (List.mem_append_right _ (h))))
  unfold f_X1_playerNumber at hm
  refine lv_iload_n hx hb dX1_playerNumber_0 rfl (lv_at hl 2 rfl) ?_
  rcases Classical.em (p1 = 0) with c_1_0 | c_1_0
  · have hm := ifp c_1_0 hm
    refine lv_tableIn (off := 27) (tgt := 28) hx hb dX1_playerNumber_1 (by rw [c_1_0]; decide) (by rw [c_1_0]; decide) (by rw [c_1_0]; rfl) (by decide) ?_
    refine lv_aload_n hx hb dX1_playerNumber_28 rfl (lv_at hl 0 rfl) ?_
    refine lv_iload_n hx hb dX1_playerNumber_29 rfl (lv_at hl 1 rfl) ?_
    obtain ⟨r30, e_30, hm⟩ := bd1_s hm
    refine zcVi (As := [.int p0]) (rest := []) ⟨hx, hb, hml, hown, hts⟩ (k_X1_handCount l G K c ag g p0 r30 e_30) (cwV 1 hts gX1_playerNumber_X1_handCount rfl rfl rfl hd_X1_handCount ⟨Nat.le_of_ble_eq_true rfl, Nat.le_of_ble_eq_true rfl⟩) hK hN hZ hP hD hS hA (va_recv hK hP (ci := 1) (q0 := 0) rfl rfl) [0, 1, 2, 3, 4, 5, 6, 7, 8, 9] rfl (by decide) rfl rfl hl.1 rfl (Nat.le_of_ble_eq_true rfl) dX1_playerNumber_30 ⟨Nat.zero_le _, Nat.zero_le _⟩ (fun H locs hP hD hS => ?_)
    have hP : va_P G vwCl (wG c ag g) H := hP
    have hD : va_D A (wG c ag g) := hD
    exact hend H locs ls _ _ _ rfl (Option.some.inj hm) rfl hP hD hS dX1_playerNumber_33
  · have hm := ifn c_1_0 hm
    rcases Classical.em (p1 = 1) with c_1_1 | c_1_1
    · have hm := ifp c_1_1 hm
      refine lv_tableIn (off := 33) (tgt := 34) hx hb dX1_playerNumber_1 (by rw [c_1_1]; decide) (by rw [c_1_1]; decide) (by rw [c_1_1]; rfl) (by decide) ?_
      refine lv_aload_n hx hb dX1_playerNumber_34 rfl (lv_at hl 0 rfl) ?_
      refine lv_iload_n hx hb dX1_playerNumber_35 rfl (lv_at hl 1 rfl) ?_
      obtain ⟨r36, e_36, hm⟩ := bd1_s hm
      refine zcVi (As := [.int p0]) (rest := []) ⟨hx, hb, hml, hown, hts⟩ (k_X1_handPips l G K c ag g p0 r36 e_36) (cwV 1 hts gX1_playerNumber_X1_handPips rfl rfl rfl hd_X1_handPips ⟨Nat.le_of_ble_eq_true rfl, Nat.le_of_ble_eq_true rfl⟩) hK hN hZ hP hD hS hA (va_recv hK hP (ci := 1) (q0 := 0) rfl rfl) [0, 1, 2, 3, 4, 5, 6, 7, 8, 9] rfl (by decide) rfl rfl hl.1 rfl (Nat.le_of_ble_eq_true rfl) dX1_playerNumber_36 ⟨Nat.zero_le _, Nat.zero_le _⟩ (fun H locs hP hD hS => ?_)
      have hP : va_P G vwCl (wG c ag g) H := hP
      have hD : va_D A (wG c ag g) := hD
      exact hend H locs ls _ _ _ rfl (Option.some.inj hm) rfl hP hD hS dX1_playerNumber_39
    · have hm := ifn c_1_1 hm
      rcases Classical.em (p1 = 2) with c_1_2 | c_1_2
      · have hm := ifp c_1_2 hm
        refine lv_tableIn (off := 39) (tgt := 40) hx hb dX1_playerNumber_1 (by rw [c_1_2]; decide) (by rw [c_1_2]; decide) (by rw [c_1_2]; rfl) (by decide) ?_
        refine lv_aload_n hx hb dX1_playerNumber_40 rfl (lv_at hl 0 rfl) ?_
        refine va_get (D := G) (ci := 1) (v := .ref (ag 2)) (C := RX1) (T := TX1) (N := 16) hx hb hts hi_1 hown hK hP 0 rfl rfl 13 (by decide) (hts (.fieldLink RX1 34 "HubTrains$Game" "totals" "[I") (List.mem_of_getElem? (i := 1) rfl)) (fun _ h9 => h9) rfl dX1_playerNumber_41 ?_
        refine lv_iload_n hx hb dX1_playerNumber_44 rfl (lv_at hl 1 rfl) ?_
        obtain ⟨r45, e_45, hm⟩ := bd1_s hm
        refine zcSNi (As := [.ref (ag 2), .int p0]) (rest := []) ⟨hx, hb, hml, hown, hts⟩ (k_X7_look l G K c (ag 2) 4 (g.1.2 1) p0 r45 e_45) ⟨va_cnB 2 hts gX1_playerNumber_X7_look_n185 rfl rfl rfl (nwm_HubTrains_Game_185 hN.2.1) (hts (.initialized RX7) (List.mem_of_getElem? (i := 17) rfl)) hd_X7_look.2 ⟨Nat.le_of_ble_eq_true rfl, Nat.le_of_ble_eq_true rfl⟩, (hts (.static yX7_look) (List.mem_of_getElem? (i := 25) rfl)), trivial⟩ hK hN hZ hP hD hS hA [2] rfl (by decide) rfl rfl hl.1 rfl (Nat.le_of_ble_eq_true rfl) dX1_playerNumber_45 ⟨Nat.zero_le _, Nat.zero_le _⟩ (fun H locs hP hD hS => ?_)
        have hP : va_P G vwCl (wG c ag g) H := hP
        have hD : va_D A (wG c ag g) := hD
        exact hend H locs ls _ _ _ rfl (Option.some.inj hm) rfl hP hD hS dX1_playerNumber_48
      · have hm := ifn c_1_2 hm
        refine lv_tableOut (tgt := 49) hx hb dX1_playerNumber_1 (sw_out (0) (2) (fun k hk hk2 hkx => by rcases (show k = 0 ∨ k = 1 ∨ k = 2 by omega) with rfl | rfl | rfl <;> first | exact c_1_0 (hkx.trans (by decide)) | exact c_1_1 (hkx.trans (by decide)) | exact c_1_2 (hkx.trans (by decide)))) (by decide) ?_
        refine lv_aload_n hx hb dX1_playerNumber_49 rfl (lv_at hl 0 rfl) ?_
        refine lv_iload_n hx hb dX1_playerNumber_50 rfl (lv_at hl 1 rfl) ?_
        obtain ⟨r51, e_51, hm⟩ := bd1_s hm
        refine zcVi (As := [.int p0]) (rest := []) ⟨hx, hb, hml, hown, hts⟩ (k_X1_playableTiles l G K c ag g p0 r51 e_51) (cwV 1 hts gX1_playerNumber_X1_playableTiles rfl rfl rfl hd_X1_playableTiles ⟨Nat.le_of_ble_eq_true rfl, Nat.le_of_ble_eq_true rfl⟩) hK hN hZ hP hD hS hA (va_recv hK hP (ci := 1) (q0 := 0) rfl rfl) [0, 1, 2, 3, 4, 5, 6, 7, 8, 9] rfl (by decide) rfl rfl hl.1 rfl (Nat.le_of_ble_eq_true rfl) dX1_playerNumber_51 ⟨Nat.zero_le _, Nat.zero_le _⟩ (fun H locs hP hD hS => ?_)
        have hP : va_P G vwCl (wG c ag g) H := hP
        have hD : va_D A (wG c ag g) := hD
        exact hend H locs ls _ _ _ rfl (Option.some.inj hm) rfl hP hD hS dX1_playerNumber_54


def f_X1_trainNumber (g : GS) (p0 : Int32) (p1 : Int32) : Option Int32 :=
  if p1 = 0 then (bd1 (f_X6_countOf g.2.2.2 p0) fun (r37 : Int32) => some (r37)) else (if p1 = 1 then (bd1 (f_X6_endOf g.2.2.2 p0) fun (r46 : Int32) => some (r46)) else (if p1 = 2 then (bd1 (f_X1_isOpen g p0) fun (r52 : Int32) => if r52 = 0 then (some (0)) else (some (1))) else (if p1 = 3 then (bd1 (f_X6_countOf g.2.2.2 p0) fun (r74 : Int32) => bd1 (f_X6_tileAt g.2.2.2 p0 (r74 - 1)) fun (r79 : Int32) => some (r79)) else (bd1 (f_X6_pipsOn g.2.2.2 p0) fun (r88 : Int32) => some (r88)))))

abbrev rm_X1_trainNumber : Room := { frames := 3, cells := 0, slots := 0, locals := 63 }
theorem hd_X1_trainNumber : yX1_trainNumber.cls = RX1 ∧ yX1_trainNumber.cls ≠ "java/lang/invoke/MethodHandle" ∧ yX1_trainNumber.cls ≠ "java/lang/invoke/VarHandle" ∧ (parseMethodDescriptor yX1_trainNumber.desc).map (fun d => d.parameters.length) = some 2 := by decide +kernel
set_option maxHeartbeats 4000000 in
set_option maxRecDepth 100000 in
theorem k_X1_trainNumber (l : Launch) (G : va_G) (K : (Nat → Nat) × (Nat → Nat)) (c : Nat → ClassId) (ag : Nat → Nat) (g : GS) (p0 : Int32) (p1 : Int32) (r : Int32) (hm : f_X1_trainNumber g p0 p1 = some (r)) : zMi l yX1_trainNumber wsX1_trainNumber rm_X1_trainNumber G K (TY c) [.ref (ag 0), .int p0, .int p1] (wG c ag g) (wG c ag g) r := by
  refine zMi.of (cc := cX1_trainNumber) (maxL := 3) (lv := [(0, .ref (ag 0)), (1, .int p0), (2, .int p1)]) (by decide) rfl (Nat.le_of_ble_eq_true rfl) rfl ?_
  intro p e s m args below meth c1 A Q H locs hx hb hml hown hts hK hN hZ hP hD hA hS hend ls hl
  have hown : s.vm.findClass RX1 = some m.cls := hown
  have hi_1 : ∀ w ∈ wsX10, w ∈ wsX1_trainNumber := (fun w h => List.mem_cons_of_mem _ (List.mem_append_left _ (List.mem_append_right _ (h))))
  unfold f_X1_trainNumber at hm
  refine lv_iload_n hx hb dX1_trainNumber_0 rfl (lv_at hl 2 rfl) ?_
  rcases Classical.em (p1 = 0) with c_1_0 | c_1_0
  · have hm := ifp c_1_0 hm
    refine lv_tableIn (off := 31) (tgt := 32) hx hb dX1_trainNumber_1 (by rw [c_1_0]; decide) (by rw [c_1_0]; decide) (by rw [c_1_0]; rfl) (by decide) ?_
    refine lv_aload_n hx hb dX1_trainNumber_32 rfl (lv_at hl 0 rfl) ?_
    refine va_get (D := G) (ci := 1) (v := .ref (ag 5)) (C := RX1) (T := TX1) (N := 16) hx hb hts hi_1 hown hK hP 0 rfl rfl 15 (by decide) (hts (.fieldLink RX1 47 "HubTrains$Game" "tracks" "LHubTrains$Tracks;") (List.mem_of_getElem? (i := 1) rfl)) (fun _ h9 => h9) rfl dX1_trainNumber_33 ?_
    refine lv_iload_n hx hb dX1_trainNumber_36 rfl (lv_at hl 1 rfl) ?_
    obtain ⟨r37, e_37, hm⟩ := bd1_s hm
    refine zcVi (As := [.int p0]) (rest := []) ⟨hx, hb, hml, hown, hts⟩ (k_X6_countOf l G K c (ag 5) (ag 6) (ag 7) (ag 8) (ag 9) g.2.2.2 p0 r37 e_37) (cwV 1 hts gX1_trainNumber_X6_countOf rfl rfl rfl hd_X6_countOf ⟨Nat.le_of_ble_eq_true rfl, Nat.le_of_ble_eq_true rfl⟩) hK hN hZ hP hD hS hA (va_recv hK hP (ci := 6) (q0 := 5) rfl rfl) [5, 6, 7, 8, 9] rfl (by decide) rfl rfl hl.1 rfl (Nat.le_of_ble_eq_true rfl) dX1_trainNumber_37 ⟨Nat.zero_le _, Nat.zero_le _⟩ (fun H locs hP hD hS => ?_)
    have hP : va_P G vwCl (wG c ag g) H := hP
    have hD : va_D A (wG c ag g) := hD
    exact hend H locs ls _ _ _ rfl (Option.some.inj hm) rfl hP hD hS dX1_trainNumber_40
  · have hm := ifn c_1_0 hm
    rcases Classical.em (p1 = 1) with c_1_1 | c_1_1
    · have hm := ifp c_1_1 hm
      refine lv_tableIn (off := 40) (tgt := 41) hx hb dX1_trainNumber_1 (by rw [c_1_1]; decide) (by rw [c_1_1]; decide) (by rw [c_1_1]; rfl) (by decide) ?_
      refine lv_aload_n hx hb dX1_trainNumber_41 rfl (lv_at hl 0 rfl) ?_
      refine va_get (D := G) (ci := 1) (v := .ref (ag 5)) (C := RX1) (T := TX1) (N := 16) hx hb hts hi_1 hown hK hP 0 rfl rfl 15 (by decide) (hts (.fieldLink RX1 47 "HubTrains$Game" "tracks" "LHubTrains$Tracks;") (List.mem_of_getElem? (i := 1) rfl)) (fun _ h9 => h9) rfl dX1_trainNumber_42 ?_
      refine lv_iload_n hx hb dX1_trainNumber_45 rfl (lv_at hl 1 rfl) ?_
      obtain ⟨r46, e_46, hm⟩ := bd1_s hm
      refine zcVi (As := [.int p0]) (rest := []) ⟨hx, hb, hml, hown, hts⟩ (k_X6_endOf l G K c (ag 5) (ag 6) (ag 7) (ag 8) (ag 9) g.2.2.2 p0 r46 e_46) (cwV 1 hts gX1_trainNumber_X6_endOf rfl rfl rfl hd_X6_endOf ⟨Nat.le_of_ble_eq_true rfl, Nat.le_of_ble_eq_true rfl⟩) hK hN hZ hP hD hS hA (va_recv hK hP (ci := 6) (q0 := 5) rfl rfl) [5, 6, 7, 8, 9] rfl (by decide) rfl rfl hl.1 rfl (Nat.le_of_ble_eq_true rfl) dX1_trainNumber_46 ⟨Nat.zero_le _, Nat.zero_le _⟩ (fun H locs hP hD hS => ?_)
      have hP : va_P G vwCl (wG c ag g) H := hP
      have hD : va_D A (wG c ag g) := hD
      exact hend H locs ls _ _ _ rfl (Option.some.inj hm) rfl hP hD hS dX1_trainNumber_49
    · have hm := ifn c_1_1 hm
      rcases Classical.em (p1 = 2) with c_1_2 | c_1_2
      · have hm := ifp c_1_2 hm
        refine lv_tableIn (off := 49) (tgt := 50) hx hb dX1_trainNumber_1 (by rw [c_1_2]; decide) (by rw [c_1_2]; decide) (by rw [c_1_2]; rfl) (by decide) ?_
        refine lv_aload_n hx hb dX1_trainNumber_50 rfl (lv_at hl 0 rfl) ?_
        refine lv_iload_n hx hb dX1_trainNumber_51 rfl (lv_at hl 1 rfl) ?_
        obtain ⟨r52, e_52, hm⟩ := bd1_s hm
        refine zcVi (As := [.int p0]) (rest := []) ⟨hx, hb, hml, hown, hts⟩ (k_X1_isOpen l G K c ag g p0 r52 e_52) (cwV 1 hts gX1_trainNumber_X1_isOpen rfl rfl rfl hd_X1_isOpen ⟨Nat.le_of_ble_eq_true rfl, Nat.le_of_ble_eq_true rfl⟩) hK hN hZ hP hD hS hA (va_recv hK hP (ci := 1) (q0 := 0) rfl rfl) [0, 1, 2, 3, 4, 5, 6, 7, 8, 9] rfl (by decide) rfl rfl hl.1 rfl (Nat.le_of_ble_eq_true rfl) dX1_trainNumber_52 ⟨Nat.zero_le _, Nat.zero_le _⟩ (fun H locs hP hD hS => ?_)
        have hP : va_P G vwCl (wG c ag g) H := hP
        have hD : va_D A (wG c ag g) := hD
        refine lv_if_eq (tgt := 62) hx hb dX1_trainNumber_55 (by decide) (fun c_55 => ?_) (fun c_55 => ?_)
        · have hm := ifp c_55 hm
          refine lv_iconst (v := 0) hx hb dX1_trainNumber_62 (by decide) ?_
          exact hend H locs ls _ _ _ rfl (Option.some.inj hm) rfl hP hD hS dX1_trainNumber_63
        · have hm := ifn c_55 hm
          refine lv_iconst (v := 1) hx hb dX1_trainNumber_58 (by decide) ?_
          refine lv_goto (tgt := 63) hx hb dX1_trainNumber_59 (by decide) ?_
          exact hend H locs ls _ _ _ rfl (Option.some.inj hm) rfl hP hD hS dX1_trainNumber_63
      · have hm := ifn c_1_2 hm
        rcases Classical.em (p1 = 3) with c_1_3 | c_1_3
        · have hm := ifp c_1_3 hm
          refine lv_tableIn (off := 63) (tgt := 64) hx hb dX1_trainNumber_1 (by rw [c_1_3]; decide) (by rw [c_1_3]; decide) (by rw [c_1_3]; rfl) (by decide) ?_
          refine lv_aload_n hx hb dX1_trainNumber_64 rfl (lv_at hl 0 rfl) ?_
          refine va_get (D := G) (ci := 1) (v := .ref (ag 5)) (C := RX1) (T := TX1) (N := 16) hx hb hts hi_1 hown hK hP 0 rfl rfl 15 (by decide) (hts (.fieldLink RX1 47 "HubTrains$Game" "tracks" "LHubTrains$Tracks;") (List.mem_of_getElem? (i := 1) rfl)) (fun _ h9 => h9) rfl dX1_trainNumber_65 ?_
          refine lv_iload_n hx hb dX1_trainNumber_68 rfl (lv_at hl 1 rfl) ?_
          refine lv_aload_n hx hb dX1_trainNumber_69 rfl (lv_at hl 0 rfl) ?_
          refine va_get (D := G) (ci := 1) (v := .ref (ag 5)) (C := RX1) (T := TX1) (N := 16) hx hb hts hi_1 hown hK hP 0 rfl rfl 15 (by decide) (hts (.fieldLink RX1 47 "HubTrains$Game" "tracks" "LHubTrains$Tracks;") (List.mem_of_getElem? (i := 1) rfl)) (fun _ h9 => h9) rfl dX1_trainNumber_70 ?_
          refine lv_iload_n hx hb dX1_trainNumber_73 rfl (lv_at hl 1 rfl) ?_
          obtain ⟨r74, e_74, hm⟩ := bd1_s hm
          refine zcVi (As := [.int p0]) (rest := [.int p0, .ref (ag 5)]) ⟨hx, hb, hml, hown, hts⟩ (k_X6_countOf l G K c (ag 5) (ag 6) (ag 7) (ag 8) (ag 9) g.2.2.2 p0 r74 e_74) (cwV 1 hts gX1_trainNumber_X6_countOf rfl rfl rfl hd_X6_countOf ⟨Nat.le_of_ble_eq_true rfl, Nat.le_of_ble_eq_true rfl⟩) hK hN hZ hP hD hS hA (va_recv hK hP (ci := 6) (q0 := 5) rfl rfl) [5, 6, 7, 8, 9] rfl (by decide) rfl rfl hl.1 rfl (Nat.le_of_ble_eq_true rfl) dX1_trainNumber_74 ⟨Nat.zero_le _, Nat.zero_le _⟩ (fun H locs hP hD hS => ?_)
          have hP : va_P G vwCl (wG c ag g) H := hP
          have hD : va_D A (wG c ag g) := hD
          refine lv_iconst (v := 1) hx hb dX1_trainNumber_77 (by decide) ?_
          refine lv_isub hx hb dX1_trainNumber_78 ?_
          obtain ⟨r79, e_79, hm⟩ := bd1_s hm
          refine zcVi (As := [.int p0, .int (r74 - 1)]) (rest := []) ⟨hx, hb, hml, hown, hts⟩ (k_X6_tileAt l G K c (ag 5) (ag 6) (ag 7) (ag 8) (ag 9) g.2.2.2 p0 (r74 - 1) r79 e_79) (cwV 2 hts gX1_trainNumber_X6_tileAt rfl rfl rfl hd_X6_tileAt ⟨Nat.le_of_ble_eq_true rfl, Nat.le_of_ble_eq_true rfl⟩) hK hN hZ hP hD hS hA (va_recv hK hP (ci := 6) (q0 := 5) rfl rfl) [5, 6, 7, 8, 9] rfl (by decide) rfl rfl hl.1 rfl (Nat.le_of_ble_eq_true rfl) dX1_trainNumber_79 ⟨Nat.zero_le _, Nat.zero_le _⟩ (fun H locs hP hD hS => ?_)
          have hP : va_P G vwCl (wG c ag g) H := hP
          have hD : va_D A (wG c ag g) := hD
          exact hend H locs ls _ _ _ rfl (Option.some.inj hm) rfl hP hD hS dX1_trainNumber_82
        · have hm := ifn c_1_3 hm
          refine lv_tableOut (tgt := 83) hx hb dX1_trainNumber_1 (sw_out (0) (3) (fun k hk hk2 hkx => by rcases (show k = 0 ∨ k = 1 ∨ k = 2 ∨ k = 3 by omega) with rfl | rfl | rfl | rfl <;> first | exact c_1_0 (hkx.trans (by decide)) | exact c_1_1 (hkx.trans (by decide)) | exact c_1_2 (hkx.trans (by decide)) | exact c_1_3 (hkx.trans (by decide)))) (by decide) ?_
          refine lv_aload_n hx hb dX1_trainNumber_83 rfl (lv_at hl 0 rfl) ?_
          refine va_get (D := G) (ci := 1) (v := .ref (ag 5)) (C := RX1) (T := TX1) (N := 16) hx hb hts hi_1 hown hK hP 0 rfl rfl 15 (by decide) (hts (.fieldLink RX1 47 "HubTrains$Game" "tracks" "LHubTrains$Tracks;") (List.mem_of_getElem? (i := 1) rfl)) (fun _ h9 => h9) rfl dX1_trainNumber_84 ?_
          refine lv_iload_n hx hb dX1_trainNumber_87 rfl (lv_at hl 1 rfl) ?_
          obtain ⟨r88, e_88, hm⟩ := bd1_s hm
          refine zcVi (As := [.int p0]) (rest := []) ⟨hx, hb, hml, hown, hts⟩ (k_X6_pipsOn l G K c (ag 5) (ag 6) (ag 7) (ag 8) (ag 9) g.2.2.2 p0 r88 e_88) (cwV 1 hts gX1_trainNumber_X6_pipsOn rfl rfl rfl hd_X6_pipsOn ⟨Nat.le_of_ble_eq_true rfl, Nat.le_of_ble_eq_true rfl⟩) hK hN hZ hP hD hS hA (va_recv hK hP (ci := 6) (q0 := 5) rfl rfl) [5, 6, 7, 8, 9] rfl (by decide) rfl rfl hl.1 rfl (Nat.le_of_ble_eq_true rfl) dX1_trainNumber_88 ⟨Nat.zero_le _, Nat.zero_le _⟩ (fun H locs hP hD hS => ?_)
          have hP : va_P G vwCl (wG c ag g) H := hP
          have hD : va_D A (wG c ag g) := hD
          exact hend H locs ls _ _ _ rfl (Option.some.inj hm) rfl hP hD hS dX1_trainNumber_91
