/-! walks of the law's own methods over maps -/
def w_J5_length_8abf5 (c : Nat → ClassId) (K : (Nat → Nat) × (Nat → Nat)) (h : HW) (a0 : Nat) (post : Int32 → HW → Prop) : Prop :=
  gI h a0 12 3 (fun (g1 : Int32) => post g1 h)

abbrev rm_J5_length_8abf5 : Room := { frames := 0, cells := 0, slots := 0, locals := 0 }
theorem he_J5_length_8abf5 : yJ5_length_8abf5.cls ≠ "java/lang/invoke/MethodHandle" ∧ yJ5_length_8abf5.cls ≠ "java/lang/invoke/VarHandle" ∧ (parseMethodDescriptor yJ5_length_8abf5.desc).map (fun d => d.parameters.length) = some 0 := by decide +kernel
theorem heV_J5_length_8abf5 : yJ5_length_8abf5.cls = RJ5 ∧ yJ5_length_8abf5.cls ≠ "java/lang/invoke/MethodHandle" ∧ yJ5_length_8abf5.cls ≠ "java/lang/invoke/VarHandle" ∧ (parseMethodDescriptor yJ5_length_8abf5.desc).map (fun d => d.parameters.length) = some 0 := by decide +kernel
set_option maxHeartbeats 4000000 in
set_option maxRecDepth 100000 in
theorem h_J5_length_8abf5 (l : Launch) (G : va_G) (K : (Nat → Nat) × (Nat → Nat)) (c : Nat → ClassId) (h : HW) (a0 : Nat) (post : Int32 → HW → Prop) (hm : w_J5_length_8abf5 c K h a0 post) : hMi l yJ5_length_8abf5 wsJ5_length_8abf5 (rm_J5_length_8abf5) G K (TY c) [.ref a0] h 0 0 post := by
  refine hMi.of (cc := cJ5_length_8abf5) (maxL := 1) (lv := [(0, .ref a0)]) (by decide) rfl (Nat.le_of_ble_eq_true rfl) rfl ?_
  intro p e s m args below meth c1 A Q H locs hx hb hml hown hmn hts hK hN hZ hXX hP hD hA hS hend ls hl
  have hown : s.vm.findClass RJ5 = some m.cls := hown
  have hi_12 : ∀ w ∈ u_ws RJ4 TJ4 4, w ∈ wsJ5_length_8abf5 := fun w h => (fun w h => List.mem_cons_of_mem _ (List.mem_append_right _ (h))) w h
  unfold w_J5_length_8abf5 at hm
  refine lv_aload_n hx hb dJ5_length_8abf5_0 rfl (lv_at hl 0 rfl) ?_
  obtain ⟨wq1, fs1, g1, hq1, hv1, hm⟩ := hm
  refine mr_get (ci := 12) (C := RJ4) (T := TJ4) (N := 4) hx hb hts hi_12 hown hK (mRd hK hP hZ hS) hq1 rfl 3 (by decide) (hts (.fieldLink RJ5 79 "java/lang/AbstractStringBuilder" "count" "I") ((List.mem_of_getElem? (i := 1) rfl))) (fun _ h9 => h9) hv1 dJ5_length_8abf5_1 ?_
  exact hend H locs ls 4 _ _ g1 h (Nat.le_refl _) (Nat.le_refl _) rfl hm hP hD hS dJ5_length_8abf5_4

def w_J5_isLatin1_aae02 (c : Nat → ClassId) (K : (Nat → Nat) × (Nat → Nat)) (h : HW) (a0 : Nat) (post : Int32 → HW → Prop) : Prop :=
  ¬ (1 : Int32) = 0 ∧ (gI h a0 12 1 (fun (g7 : Int32) => g7 = 0 ∧ (((1 : Int32) = 0 ∨ (1 : Int32) = 1) ∧ post (1 : Int32) h)))

abbrev rm_J5_isLatin1_aae02 : Room := { frames := 0, cells := 0, slots := 0, locals := 0 }
theorem he_J5_isLatin1_aae02 : yJ5_isLatin1_aae02.cls ≠ "java/lang/invoke/MethodHandle" ∧ yJ5_isLatin1_aae02.cls ≠ "java/lang/invoke/VarHandle" ∧ (parseMethodDescriptor yJ5_isLatin1_aae02.desc).map (fun d => d.parameters.length) = some 0 := by decide +kernel
theorem heV_J5_isLatin1_aae02 : yJ5_isLatin1_aae02.cls = RJ5 ∧ yJ5_isLatin1_aae02.cls ≠ "java/lang/invoke/MethodHandle" ∧ yJ5_isLatin1_aae02.cls ≠ "java/lang/invoke/VarHandle" ∧ (parseMethodDescriptor yJ5_isLatin1_aae02.desc).map (fun d => d.parameters.length) = some 0 := by decide +kernel
set_option maxHeartbeats 4000000 in
set_option maxRecDepth 100000 in
theorem h_J5_isLatin1_aae02 (l : Launch) (G : va_G) (K : (Nat → Nat) × (Nat → Nat)) (c : Nat → ClassId) (h : HW) (a0 : Nat) (post : Int32 → HW → Prop) (hm : w_J5_isLatin1_aae02 c K h a0 post) : hMi l yJ5_isLatin1_aae02 wsJ5_isLatin1_aae02 (rm_J5_isLatin1_aae02) G K (TY c) [.ref a0] h 0 0 post := by
  refine hMi.of (cc := cJ5_isLatin1_aae02) (maxL := 1) (lv := [(0, .ref a0)]) (by decide) rfl (Nat.le_of_ble_eq_true rfl) rfl ?_
  intro p e s m args below meth c1 A Q H locs hx hb hml hown hmn hts hK hN hZ hXX hP hD hA hS hend ls hl
  have hown : s.vm.findClass RJ5 = some m.cls := hown
  have hi_12 : ∀ w ∈ u_ws RJ4 TJ4 4, w ∈ wsJ5_isLatin1_aae02 := fun w h => (fun w h => List.mem_cons_of_mem _ (List.mem_append_right _ (h))) w h
  unfold w_J5_isLatin1_aae02 at hm
  refine va_gets hx hb hZ.2.1 hS hown (hts (.fieldLink RJ5 18 "java/lang/String" "COMPACT_STRINGS" "Z") ((List.mem_of_getElem? (i := 1) rfl))) (fun _ h9 => h9) dJ5_isLatin1_aae02_0 ?_
  obtain ⟨hc3, hm⟩ := hm
  refine lv_if_eq (tgt := 17) hx hb dJ5_isLatin1_aae02_3 (by decide) (fun c_3 => ?_) (fun c_3 => ?_)
  · exact (hc3 c_3).elim
  · have hm := hm
    refine lv_aload_n hx hb dJ5_isLatin1_aae02_6 rfl (lv_at hl 0 rfl) ?_
    obtain ⟨wq7, fs7, g7, hq7, hv7, hm⟩ := hm
    refine mr_get (ci := 12) (C := RJ4) (T := TJ4) (N := 4) hx hb hts hi_12 hown hK (mRd hK hP hZ hS) hq7 rfl 1 (by decide) (hts (.fieldLink RJ5 22 "java/lang/AbstractStringBuilder" "coder" "B") ((List.mem_of_getElem? (i := 2) rfl))) (fun _ h9 => h9) hv7 dJ5_isLatin1_aae02_7 ?_
    obtain ⟨hc10, hm⟩ := hm
    refine lv_if_ne (tgt := 17) hx hb dJ5_isLatin1_aae02_10 (by decide) (fun c_10 => ?_) (fun c_10 => ?_)
    · exact (c_10 hc10).elim
    · have hm := hm
      refine lv_iconst (v := 1) hx hb dJ5_isLatin1_aae02_13 (by decide) ?_
      refine lv_goto (tgt := 18) hx hb dJ5_isLatin1_aae02_14 (by decide) ?_
      obtain ⟨hz, hm⟩ := hm
      exact hend H locs ls 18 _ _ (1 : Int32) h (Nat.le_refl _) (Nat.le_refl _) (z01_n hz) hm hP hD hS dJ5_isLatin1_aae02_18

def w_J5_getValue_6d5f1 (c : Nat → ClassId) (K : (Nat → Nat) × (Nat → Nat)) (h : HW) (a0 : Nat) (post : Option Nat → HW → Prop) : Prop :=
  gR h a0 12 0 (fun (g1 : Nat) => post (some g1) h)

abbrev rm_J5_getValue_6d5f1 : Room := { frames := 0, cells := 0, slots := 0, locals := 0 }
theorem he_J5_getValue_6d5f1 : yJ5_getValue_6d5f1.cls ≠ "java/lang/invoke/MethodHandle" ∧ yJ5_getValue_6d5f1.cls ≠ "java/lang/invoke/VarHandle" ∧ (parseMethodDescriptor yJ5_getValue_6d5f1.desc).map (fun d => d.parameters.length) = some 0 := by decide +kernel
theorem heV_J5_getValue_6d5f1 : yJ5_getValue_6d5f1.cls = RJ5 ∧ yJ5_getValue_6d5f1.cls ≠ "java/lang/invoke/MethodHandle" ∧ yJ5_getValue_6d5f1.cls ≠ "java/lang/invoke/VarHandle" ∧ (parseMethodDescriptor yJ5_getValue_6d5f1.desc).map (fun d => d.parameters.length) = some 0 := by decide +kernel
set_option maxHeartbeats 4000000 in
set_option maxRecDepth 100000 in
theorem h_J5_getValue_6d5f1 (l : Launch) (G : va_G) (K : (Nat → Nat) × (Nat → Nat)) (c : Nat → ClassId) (h : HW) (a0 : Nat) (post : Option Nat → HW → Prop) (hm : w_J5_getValue_6d5f1 c K h a0 post) : hMq l yJ5_getValue_6d5f1 wsJ5_getValue_6d5f1 (rm_J5_getValue_6d5f1) G K (TY c) [.ref a0] h 0 0 post := by
  refine hMq.of (Or.inr ⟨_, rfl⟩) (cc := cJ5_getValue_6d5f1) (maxL := 1) (lv := [(0, .ref a0)]) (by decide) rfl (Nat.le_of_ble_eq_true rfl) rfl ?_
  intro p e s m args below meth c1 A Q H locs hx hb hml hown hmn hts hK hN hZ hXX hP hD hA hS hend ls hl
  have hown : s.vm.findClass RJ5 = some m.cls := hown
  have hi_12 : ∀ w ∈ u_ws RJ4 TJ4 4, w ∈ wsJ5_getValue_6d5f1 := fun w h => (fun w h => List.mem_cons_of_mem _ (List.mem_append_right _ (h))) w h
  unfold w_J5_getValue_6d5f1 at hm
  refine lv_aload_n hx hb dJ5_getValue_6d5f1_0 rfl (lv_at hl 0 rfl) ?_
  obtain ⟨wq1, fs1, g1, hq1, hv1, hm⟩ := hm
  refine mr_get (ci := 12) (C := RJ4) (T := TJ4) (N := 4) hx hb hts hi_12 hown hK (mRd hK hP hZ hS) hq1 rfl 0 (by decide) (hts (.fieldLink RJ5 15 "java/lang/AbstractStringBuilder" "value" "[B") ((List.mem_of_getElem? (i := 1) rfl))) (fun _ h9 => h9) hv1 dJ5_getValue_6d5f1_1 ?_
  exact hend H locs ls 4 _ _ (some g1) h (Nat.le_refl _) (Nat.le_refl _) hm hP hD hS dJ5_getValue_6d5f1_4

def w_J5_newCapacity_0f7a4 (c : Nat → ClassId) (K : (Nat → Nat) × (Nat → Nat)) (h : HW) (a0 : Nat) (a1 : Int32) (post : Int32 → HW → Prop) : Prop :=
  gR h a0 12 0 (fun (g1 : Nat) => lenA h (c 5) g1 (fun (x4 : Int32) => gI h a0 12 1 (fun (g8 : Int32) => ∀ x11 : Int32, x11 = a1 <<< (g8 &&& 31) → (∀ x15 : Int32, x15 = x11 - x4 → (gI h a0 12 1 (fun (g24 : Int32) => ∀ x27 : Int32, x27 = (2 : Int32) <<< (g24 &&& 31) → (∀ x28 : Int32, x28 = x4 + x27 → (w_J8_newLength_cabcc c K h x4 x15 x28 (fun (r29 : Int32) (h29 : HW) => ¬ r29 = (2147483647 : Int32) ∧ (gI h29 a0 12 1 (fun (g54 : Int32) => ∀ x57 : Int32, x57 = r29 >>> (g54 &&& 31) → (post x57 h29))))))))))))

abbrev rm_J5_newCapacity_0f7a4 : Room := { frames := 2, cells := 0, slots := 0, locals := 83 }
theorem he_J5_newCapacity_0f7a4 : yJ5_newCapacity_0f7a4.cls ≠ "java/lang/invoke/MethodHandle" ∧ yJ5_newCapacity_0f7a4.cls ≠ "java/lang/invoke/VarHandle" ∧ (parseMethodDescriptor yJ5_newCapacity_0f7a4.desc).map (fun d => d.parameters.length) = some 1 := by decide +kernel
theorem heV_J5_newCapacity_0f7a4 : yJ5_newCapacity_0f7a4.cls = RJ5 ∧ yJ5_newCapacity_0f7a4.cls ≠ "java/lang/invoke/MethodHandle" ∧ yJ5_newCapacity_0f7a4.cls ≠ "java/lang/invoke/VarHandle" ∧ (parseMethodDescriptor yJ5_newCapacity_0f7a4.desc).map (fun d => d.parameters.length) = some 1 := by decide +kernel
set_option maxHeartbeats 4000000 in
set_option maxRecDepth 100000 in
theorem h_J5_newCapacity_0f7a4 (l : Launch) (G : va_G) (K : (Nat → Nat) × (Nat → Nat)) (c : Nat → ClassId) (h : HW) (a0 : Nat) (a1 : Int32) (post : Int32 → HW → Prop) (hm : w_J5_newCapacity_0f7a4 c K h a0 a1 post) : hMi l yJ5_newCapacity_0f7a4 wsJ5_newCapacity_0f7a4 (rm_J5_newCapacity_0f7a4) G K (TY c) [.ref a0, .int a1] h 0 0 post := by
  refine hMi.of (cc := cJ5_newCapacity_0f7a4) (maxL := 6) (lv := [(0, .ref a0), (1, .int a1)]) (by decide) rfl (Nat.le_of_ble_eq_true rfl) rfl ?_
  intro p e s m args below meth c1 A Q H locs hx hb hml hown hmn hts hK hN hZ hXX hP hD hA hS hend ls hl
  have hown : s.vm.findClass RJ5 = some m.cls := hown
  have hi_12 : ∀ w ∈ u_ws RJ4 TJ4 4, w ∈ wsJ5_newCapacity_0f7a4 := fun w h => (fun w h => List.mem_cons_of_mem _ (List.mem_append_right _ (h))) w h
  unfold w_J5_newCapacity_0f7a4 at hm
  refine lv_aload_n hx hb dJ5_newCapacity_0f7a4_0 rfl (lv_at hl 0 rfl) ?_
  obtain ⟨wq1, fs1, g1, hq1, hv1, hm⟩ := hm
  refine mr_get (ci := 12) (C := RJ4) (T := TJ4) (N := 4) hx hb hts hi_12 hown hK (mRd hK hP hZ hS) hq1 rfl 0 (by decide) (hts (.fieldLink RJ5 15 "java/lang/AbstractStringBuilder" "value" "[B") ((List.mem_of_getElem? (i := 1) rfl))) (fun _ h9 => h9) hv1 dJ5_newCapacity_0f7a4_1 ?_
  obtain ⟨wq4, xx4, hq4, hm⟩ := hm
  refine mr_alen hx hb hK (mRd hK hP hZ hS) 5 hq4 rfl dJ5_newCapacity_0f7a4_4 (fun x4 ex4 => ?_)
  have hm := hm x4 ex4
  refine lv_istore_n (lv' := [(2, .int x4), (0, .ref a0), (1, .int a1)]) hx hb dJ5_newCapacity_0f7a4_5 rfl hl (by decide) rfl (fun ls hl => ?_)
  refine lv_iload_n hx hb dJ5_newCapacity_0f7a4_6 rfl (lv_at hl 2 rfl) ?_
  refine lv_aload_n hx hb dJ5_newCapacity_0f7a4_7 rfl (lv_at hl 1 rfl) ?_
  obtain ⟨wq8, fs8, g8, hq8, hv8, hm⟩ := hm
  refine mr_get (ci := 12) (C := RJ4) (T := TJ4) (N := 4) hx hb hts hi_12 hown hK (mRd hK hP hZ hS) hq8 rfl 1 (by decide) (hts (.fieldLink RJ5 22 "java/lang/AbstractStringBuilder" "coder" "B") ((List.mem_of_getElem? (i := 2) rfl))) (fun _ h9 => h9) hv8 dJ5_newCapacity_0f7a4_8 ?_
  refine lv_ishl hx hb dJ5_newCapacity_0f7a4_11 ?_
  refine lv_topi (fun x11 ex11 => ?_)
  have hm := hm x11 ex11
  refine lv_istore_n (lv' := [(3, .int x11), (2, .int x4), (0, .ref a0), (1, .int a1)]) hx hb dJ5_newCapacity_0f7a4_12 rfl hl (by decide) rfl (fun ls hl => ?_)
  refine lv_iload_n hx hb dJ5_newCapacity_0f7a4_13 rfl (lv_at hl 0 rfl) ?_
  refine lv_iload_n hx hb dJ5_newCapacity_0f7a4_14 rfl (lv_at hl 1 rfl) ?_
  refine lv_isub hx hb dJ5_newCapacity_0f7a4_15 ?_
  refine lv_topi (fun x15 ex15 => ?_)
  have hm := hm x15 ex15
  refine lv_istore (lv' := [(4, .int x15), (3, .int x11), (2, .int x4), (0, .ref a0), (1, .int a1)]) hx hb dJ5_newCapacity_0f7a4_16 hl (by decide) rfl (fun ls hl => ?_)
  refine lv_iload_n hx hb dJ5_newCapacity_0f7a4_18 rfl (lv_at hl 2 rfl) ?_
  refine lv_iload hx hb dJ5_newCapacity_0f7a4_19 (lv_at hl 0 rfl) ?_
  refine lv_iload_n hx hb dJ5_newCapacity_0f7a4_21 rfl (lv_at hl 2 rfl) ?_
  refine lv_iconst (v := 2) hx hb dJ5_newCapacity_0f7a4_22 (by decide) ?_
  refine lv_aload_n hx hb dJ5_newCapacity_0f7a4_23 rfl (lv_at hl 3 rfl) ?_
  obtain ⟨wq24, fs24, g24, hq24, hv24, hm⟩ := hm
  refine mr_get (ci := 12) (C := RJ4) (T := TJ4) (N := 4) hx hb hts hi_12 hown hK (mRd hK hP hZ hS) hq24 rfl 1 (by decide) (hts (.fieldLink RJ5 22 "java/lang/AbstractStringBuilder" "coder" "B") ((List.mem_of_getElem? (i := 2) rfl))) (fun _ h9 => h9) hv24 dJ5_newCapacity_0f7a4_24 ?_
  refine lv_ishl hx hb dJ5_newCapacity_0f7a4_27 ?_
  refine lv_topi (fun x27 ex27 => ?_)
  have hm := hm x27 ex27
  refine lv_iadd hx hb dJ5_newCapacity_0f7a4_28 ?_
  refine lv_topi (fun x28 ex28 => ?_)
  have hm := hm x28 ex28
  refine hcSi (As := [.int x4, .int x15, .int x28]) (rest := []) ⟨hx, hb, hml, hown, hts⟩ (h_J8_newLength_cabcc l G K c h x4 x15 x28 _ hm) (va_cwS 3 hts gJ5_newCapacity_0f7a4_J8_newLength_cabcc rfl rfl rfl he_J8_newLength_cabcc ⟨Nat.le_of_ble_eq_true rfl, Nat.le_of_ble_eq_true rfl⟩) hK hN hZ hXX hP hD hS hA rfl hl.1 rfl (Nat.le_of_ble_eq_true rfl) dJ5_newCapacity_0f7a4_29 ⟨Nat.le_refl _, Nat.le_refl _⟩ (fun r29 h29 H locs hm hP hD hS => ?_)
  refine lv_istore (lv' := [(5, .int r29), (4, .int x15), (3, .int x11), (2, .int x4), (0, .ref a0), (1, .int a1)]) hx hb dJ5_newCapacity_0f7a4_32 hl (by decide) rfl (fun ls hl => ?_)
  refine lv_iload hx hb dJ5_newCapacity_0f7a4_34 (lv_at hl 0 rfl) ?_
  refine lv_ldc (v := 2147483647) hx hb hown (hts (.constant RJ5 39 (2147483647)) ((List.mem_of_getElem? (i := 3) rfl))) dJ5_newCapacity_0f7a4_36 ?_
  obtain ⟨hc38, hm⟩ := hm
  refine lv_icmp_ne (tgt := 51) hx hb dJ5_newCapacity_0f7a4_38 (by decide) (fun c_38 => ?_) (fun c_38 => ?_)
  · have hm := hm
    refine lv_iload hx hb dJ5_newCapacity_0f7a4_51 (lv_at hl 0 rfl) ?_
    refine lv_aload_n hx hb dJ5_newCapacity_0f7a4_53 rfl (lv_at hl 4 rfl) ?_
    obtain ⟨wq54, fs54, g54, hq54, hv54, hm⟩ := hm
    refine mr_get (ci := 12) (C := RJ4) (T := TJ4) (N := 4) hx hb hts hi_12 hown hK (mRd hK hP hZ hS) hq54 rfl 1 (by decide) (hts (.fieldLink RJ5 22 "java/lang/AbstractStringBuilder" "coder" "B") ((List.mem_of_getElem? (i := 2) rfl))) (fun _ h9 => h9) hv54 dJ5_newCapacity_0f7a4_54 ?_
    refine lv_ishr hx hb dJ5_newCapacity_0f7a4_57 ?_
    refine lv_topi (fun x57 ex57 => ?_)
    have hm := hm x57 ex57
    exact hend H locs ls 58 _ _ x57 h29 (Nat.le_refl _) (Nat.le_refl _) rfl hm hP hD hS dJ5_newCapacity_0f7a4_58
  · exact (hc38 c_38).elim

def w_J5_ensureCapacityInternal_d00df (c : Nat → ClassId) (K : (Nat → Nat) × (Nat → Nat)) (h : HW) (a0 : Nat) (a1 : Int32) (mc ms : Nat) (post : HW → Prop) : Prop :=
  gR h a0 12 0 (fun (g1 : Nat) => lenA h (c 5) g1 (fun (x4 : Int32) => gI h a0 12 1 (fun (g6 : Int32) => ∀ x9 : Int32, x9 = x4 >>> (g6 &&& 31) → (∀ x13 : Int32, x13 = a1 - x9 → ((x13 ≤ 0 → post h) ∧ (¬ x13 ≤ 0 → gR h a0 12 0 (fun (g19 : Nat) => (∃ w fs, h a0 = some (w, .inr (12, fs))) ∧ w_J5_newCapacity_0f7a4 c K h a0 a1 (fun (r24 : Int32) (h24 : HW) => gI h24 a0 12 1 (fun (g28 : Int32) => ∀ x31 : Int32, x31 = r24 <<< (g28 &&& 31) → ((∃ m32 z32 mB32 zB32 : Nat, mc = m32 + mB32 ∧ ms = z32 + zB32 ∧ w_J7_copyOf_9075b c K h24 g19 x31 m32 z32 (fun (r32 : Option Nat) (h32 : HW) => dRf r32 (fun (a32 : Nat) => pV h32 a0 12 0 (.ref a32) (fun (h35 : HW) => post h35))))))))))))))

abbrev rm_J5_ensureCapacityInternal_d00df (mc ms : Nat) : Room := { frames := 3, cells := mc, slots := ms, locals := 142 }
theorem he_J5_ensureCapacityInternal_d00df : yJ5_ensureCapacityInternal_d00df.cls ≠ "java/lang/invoke/MethodHandle" ∧ yJ5_ensureCapacityInternal_d00df.cls ≠ "java/lang/invoke/VarHandle" ∧ (parseMethodDescriptor yJ5_ensureCapacityInternal_d00df.desc).map (fun d => d.parameters.length) = some 1 := by decide +kernel
theorem heV_J5_ensureCapacityInternal_d00df : yJ5_ensureCapacityInternal_d00df.cls = RJ5 ∧ yJ5_ensureCapacityInternal_d00df.cls ≠ "java/lang/invoke/MethodHandle" ∧ yJ5_ensureCapacityInternal_d00df.cls ≠ "java/lang/invoke/VarHandle" ∧ (parseMethodDescriptor yJ5_ensureCapacityInternal_d00df.desc).map (fun d => d.parameters.length) = some 1 := by decide +kernel
set_option maxHeartbeats 4000000 in
set_option maxRecDepth 100000 in
theorem h_J5_ensureCapacityInternal_d00df (l : Launch) (G : va_G) (K : (Nat → Nat) × (Nat → Nat)) (c : Nat → ClassId) (h : HW) (a0 : Nat) (a1 : Int32) (mc ms : Nat) (post : HW → Prop) (hm : w_J5_ensureCapacityInternal_d00df c K h a0 a1 mc ms post) : hMv l yJ5_ensureCapacityInternal_d00df wsJ5_ensureCapacityInternal_d00df (rm_J5_ensureCapacityInternal_d00df mc ms) G K (TY c) [.ref a0, .int a1] h mc ms post := by
  refine hMv.of (cc := cJ5_ensureCapacityInternal_d00df) (maxL := 3) (lv := [(0, .ref a0), (1, .int a1)]) (by decide) rfl (Nat.le_of_ble_eq_true rfl) rfl ?_
  intro p e s m args below meth c1 A Q H locs hx hb hml hown hmn hts hK hN hZ hXX hP hD hA hS hend ls hl
  have hown : s.vm.findClass RJ5 = some m.cls := hown
  have hi_12 : ∀ w ∈ u_ws RJ4 TJ4 4, w ∈ wsJ5_ensureCapacityInternal_d00df := fun w h => (fun w h => List.mem_cons_of_mem _ (List.mem_append_right _ (h))) w h
  unfold w_J5_ensureCapacityInternal_d00df at hm
  have hf : 0 + mc ≤ mc ∧ 0 + ms ≤ ms := ⟨by omega, by omega⟩
  refine lv_aload_n hx hb dJ5_ensureCapacityInternal_d00df_0 rfl (lv_at hl 0 rfl) ?_
  obtain ⟨wq1, fs1, g1, hq1, hv1, hm⟩ := hm
  refine mr_get (ci := 12) (C := RJ4) (T := TJ4) (N := 4) hx hb hts hi_12 hown hK (mRd hK hP hZ hS) hq1 rfl 0 (by decide) (hts (.fieldLink RJ5 15 "java/lang/AbstractStringBuilder" "value" "[B") ((List.mem_of_getElem? (i := 1) rfl))) (fun _ h9 => h9) hv1 dJ5_ensureCapacityInternal_d00df_1 ?_
  obtain ⟨wq4, xx4, hq4, hm⟩ := hm
  refine mr_alen hx hb hK (mRd hK hP hZ hS) 5 hq4 rfl dJ5_ensureCapacityInternal_d00df_4 (fun x4 ex4 => ?_)
  have hm := hm x4 ex4
  refine lv_aload_n hx hb dJ5_ensureCapacityInternal_d00df_5 rfl (lv_at hl 0 rfl) ?_
  obtain ⟨wq6, fs6, g6, hq6, hv6, hm⟩ := hm
  refine mr_get (ci := 12) (C := RJ4) (T := TJ4) (N := 4) hx hb hts hi_12 hown hK (mRd hK hP hZ hS) hq6 rfl 1 (by decide) (hts (.fieldLink RJ5 22 "java/lang/AbstractStringBuilder" "coder" "B") ((List.mem_of_getElem? (i := 2) rfl))) (fun _ h9 => h9) hv6 dJ5_ensureCapacityInternal_d00df_6 ?_
  refine lv_ishr hx hb dJ5_ensureCapacityInternal_d00df_9 ?_
  refine lv_topi (fun x9 ex9 => ?_)
  have hm := hm x9 ex9
  refine lv_istore_n (lv' := [(2, .int x9), (0, .ref a0), (1, .int a1)]) hx hb dJ5_ensureCapacityInternal_d00df_10 rfl hl (by decide) rfl (fun ls hl => ?_)
  refine lv_iload_n hx hb dJ5_ensureCapacityInternal_d00df_11 rfl (lv_at hl 2 rfl) ?_
  refine lv_iload_n hx hb dJ5_ensureCapacityInternal_d00df_12 rfl (lv_at hl 0 rfl) ?_
  refine lv_isub hx hb dJ5_ensureCapacityInternal_d00df_13 ?_
  refine lv_topi (fun x13 ex13 => ?_)
  have hm := hm x13 ex13
  refine lv_if_le (tgt := 38) hx hb dJ5_ensureCapacityInternal_d00df_14 (by decide) (fun c_14 => ?_) (fun c_14 => ?_)
  · have hm := hm.1 c_14
    exact hend H locs ls 38 _ _ h (by omega) (by omega) hm hP hD hS dJ5_ensureCapacityInternal_d00df_38
  · have hm := hm.2 c_14
    refine lv_aload_n hx hb dJ5_ensureCapacityInternal_d00df_17 rfl (lv_at hl 1 rfl) ?_
    refine lv_aload_n hx hb dJ5_ensureCapacityInternal_d00df_18 rfl (lv_at hl 1 rfl) ?_
    obtain ⟨wq19, fs19, g19, hq19, hv19, hm⟩ := hm
    refine mr_get (ci := 12) (C := RJ4) (T := TJ4) (N := 4) hx hb hts hi_12 hown hK (mRd hK hP hZ hS) hq19 rfl 0 (by decide) (hts (.fieldLink RJ5 15 "java/lang/AbstractStringBuilder" "value" "[B") ((List.mem_of_getElem? (i := 1) rfl))) (fun _ h9 => h9) hv19 dJ5_ensureCapacityInternal_d00df_19 ?_
    refine lv_aload_n hx hb dJ5_ensureCapacityInternal_d00df_22 rfl (lv_at hl 1 rfl) ?_
    refine lv_iload_n hx hb dJ5_ensureCapacityInternal_d00df_23 rfl (lv_at hl 2 rfl) ?_
    obtain ⟨⟨wr24, fr24, hrq24⟩, hm⟩ := hm
    refine hcVUi (As := [.int a1]) (rest := [.ref g19, .ref a0]) ⟨hx, hb, hml, hown, hts⟩ (h_J5_newCapacity_0f7a4 l G K c h a0 a1 _ hm) (va_cwU 1 hts gJ5_ensureCapacityInternal_d00df_J5_newCapacity_0f7a4_u104J4 rfl rfl rfl rfl (by decide +kernel) ⟨Nat.le_of_ble_eq_true rfl, Nat.le_of_ble_eq_true rfl⟩) hK hN hZ hXX hP hD hS hA (mr_recv hK (mRd hK hP hZ hS) (ci := 12) rfl hrq24) rfl hl.1 rfl (Nat.le_of_ble_eq_true rfl) dJ5_ensureCapacityInternal_d00df_24 ⟨by show 0 + 0 ≤ mc; omega, by show 0 + 0 ≤ ms; omega⟩ (fun r24 h24 H locs hm hP hD hS => ?_)
    refine lv_aload_n hx hb dJ5_ensureCapacityInternal_d00df_27 rfl (lv_at hl 1 rfl) ?_
    obtain ⟨wq28, fs28, g28, hq28, hv28, hm⟩ := hm
    refine mr_get (ci := 12) (C := RJ4) (T := TJ4) (N := 4) hx hb hts hi_12 hown hK (mRd hK hP hZ hS) hq28 rfl 1 (by decide) (hts (.fieldLink RJ5 22 "java/lang/AbstractStringBuilder" "coder" "B") ((List.mem_of_getElem? (i := 2) rfl))) (fun _ h9 => h9) hv28 dJ5_ensureCapacityInternal_d00df_28 ?_
    refine lv_ishl hx hb dJ5_ensureCapacityInternal_d00df_31 ?_
    refine lv_topi (fun x31 ex31 => ?_)
    have hm := hm x31 ex31
    obtain ⟨m32, z32, mB32, zB32, hbm32, hbs32, hm⟩ := hm
    refine hcSq (As := [.ref g19, .int x31]) (rest := [.ref a0]) ⟨hx, hb, hml, hown, hts⟩ (h_J7_copyOf_9075b l G K c h24 g19 x31 m32 z32 _ hm) (va_cwS 2 hts gJ5_ensureCapacityInternal_d00df_J7_copyOf_9075b rfl rfl rfl he_J7_copyOf_9075b ⟨Nat.le_of_ble_eq_true rfl, Nat.le_of_ble_eq_true rfl⟩) hK hN hZ hXX hP hD hS hA rfl hl.1 rfl (Nat.le_of_ble_eq_true rfl) dJ5_ensureCapacityInternal_d00df_32 ⟨by show 0 + m32 ≤ mc; omega, by show 0 + z32 ≤ ms; omega⟩ (fun r32 h32 H locs hm hP hD hS => ?_)
    obtain ⟨a32, rfl, hm⟩ := hm
    replace hf : (0 + m32) + mB32 ≤ mc ∧ (0 + z32) + zB32 ≤ ms := ⟨by omega, by omega⟩
    clear hbm32 hbs32
    obtain ⟨fs35, hq35, hl35, hm⟩ := hm
    refine mr_put (v := .ref a32) (ci := 12) (C := RJ4) (T := TJ4) (N := 4) hx hb hts hi_12 tyJ4 (fun k hk => tyJ4_ok k (Nat.lt_of_lt_of_le hk (by decide))) (fun a ha b hb => nmJ4 a (Nat.lt_of_lt_of_le ha (by decide)) b (Nat.lt_of_lt_of_le hb (by decide))) hown hK hP hD hS hq35 rfl 0 (by decide) (hts (.fieldLink RJ5 15 "java/lang/AbstractStringBuilder" "value" "[B") ((List.mem_of_getElem? (i := 1) rfl))) (fun _ h9 => h9) rfl (tyJ4_ok 0 (by decide)) rfl rfl hl35 dJ5_ensureCapacityInternal_d00df_35 (fun H locs hP hD hS => ?_)
    generalize hup h32 a0 (.inr (12, fs35.set 0 (.ref a32))) = h35 at hm hP hD
    exact hend H locs ls 38 _ _ h35 (by omega) (by omega) hm hP hD hS dJ5_ensureCapacityInternal_d00df_38

def w_J5_inflateIfNeededFor_a7421 (c : Nat → ClassId) (K : (Nat → Nat) × (Nat → Nat)) (h : HW) (a0 : Nat) (a1 : Nat) (post : HW → Prop) : Prop :=
  ¬ (1 : Int32) = 0 ∧ (gI h a0 12 1 (fun (g7 : Int32) => (∃ w fs, h a1 = some (w, .inr (11, fs))) ∧ w_J0_coder_7d493 c K h a1 (fun (r11 : Int32) (h11 : HW) => g7 = r11 ∧ (post h11))))

abbrev rm_J5_inflateIfNeededFor_a7421 : Room := { frames := 1, cells := 0, slots := 0, locals := 20 }
theorem he_J5_inflateIfNeededFor_a7421 : yJ5_inflateIfNeededFor_a7421.cls ≠ "java/lang/invoke/MethodHandle" ∧ yJ5_inflateIfNeededFor_a7421.cls ≠ "java/lang/invoke/VarHandle" ∧ (parseMethodDescriptor yJ5_inflateIfNeededFor_a7421.desc).map (fun d => d.parameters.length) = some 1 := by decide +kernel
theorem heV_J5_inflateIfNeededFor_a7421 : yJ5_inflateIfNeededFor_a7421.cls = RJ5 ∧ yJ5_inflateIfNeededFor_a7421.cls ≠ "java/lang/invoke/MethodHandle" ∧ yJ5_inflateIfNeededFor_a7421.cls ≠ "java/lang/invoke/VarHandle" ∧ (parseMethodDescriptor yJ5_inflateIfNeededFor_a7421.desc).map (fun d => d.parameters.length) = some 1 := by decide +kernel
set_option maxHeartbeats 4000000 in
set_option maxRecDepth 100000 in
theorem h_J5_inflateIfNeededFor_a7421 (l : Launch) (G : va_G) (K : (Nat → Nat) × (Nat → Nat)) (c : Nat → ClassId) (h : HW) (a0 : Nat) (a1 : Nat) (post : HW → Prop) (hm : w_J5_inflateIfNeededFor_a7421 c K h a0 a1 post) : hMv l yJ5_inflateIfNeededFor_a7421 wsJ5_inflateIfNeededFor_a7421 (rm_J5_inflateIfNeededFor_a7421) G K (TY c) [.ref a0, .ref a1] h 0 0 post := by
  refine hMv.of (cc := cJ5_inflateIfNeededFor_a7421) (maxL := 2) (lv := [(0, .ref a0), (1, .ref a1)]) (by decide) rfl (Nat.le_of_ble_eq_true rfl) rfl ?_
  intro p e s m args below meth c1 A Q H locs hx hb hml hown hmn hts hK hN hZ hXX hP hD hA hS hend ls hl
  have hown : s.vm.findClass RJ5 = some m.cls := hown
  have hi_12 : ∀ w ∈ u_ws RJ4 TJ4 4, w ∈ wsJ5_inflateIfNeededFor_a7421 := fun w h => (fun w h => List.mem_cons_of_mem _ (List.mem_append_left _ (List.mem_append_right _ (h)))) w h
  unfold w_J5_inflateIfNeededFor_a7421 at hm
  refine va_gets hx hb hZ.2.1 hS hown (hts (.fieldLink RJ5 18 "java/lang/String" "COMPACT_STRINGS" "Z") ((List.mem_of_getElem? (i := 1) rfl))) (fun _ h9 => h9) dJ5_inflateIfNeededFor_a7421_0 ?_
  obtain ⟨hc3, hm⟩ := hm
  refine lv_if_eq (tgt := 21) hx hb dJ5_inflateIfNeededFor_a7421_3 (by decide) (fun c_3 => ?_) (fun c_3 => ?_)
  · exact (hc3 c_3).elim
  · have hm := hm
    refine lv_aload_n hx hb dJ5_inflateIfNeededFor_a7421_6 rfl (lv_at hl 0 rfl) ?_
    obtain ⟨wq7, fs7, g7, hq7, hv7, hm⟩ := hm
    refine mr_get (ci := 12) (C := RJ4) (T := TJ4) (N := 4) hx hb hts hi_12 hown hK (mRd hK hP hZ hS) hq7 rfl 1 (by decide) (hts (.fieldLink RJ5 22 "java/lang/AbstractStringBuilder" "coder" "B") ((List.mem_of_getElem? (i := 2) rfl))) (fun _ h9 => h9) hv7 dJ5_inflateIfNeededFor_a7421_7 ?_
    refine lv_aload_n hx hb dJ5_inflateIfNeededFor_a7421_10 rfl (lv_at hl 1 rfl) ?_
    obtain ⟨⟨wr11, fr11, hrq11⟩, hm⟩ := hm
    refine hcVi (As := []) (rest := [.int g7]) ⟨hx, hb, hml, hown, hts⟩ (h_J0_coder_7d493 l G K c h a1 _ hm) (cwV 0 hts gJ5_inflateIfNeededFor_a7421_J0_coder_7d493 rfl rfl rfl (heV_J0_coder_7d493) ⟨Nat.le_of_ble_eq_true rfl, Nat.le_of_ble_eq_true rfl⟩) hK hN hZ hXX hP hD hS hA (mr_recv hK (mRd hK hP hZ hS) (ci := 11) rfl hrq11) rfl hl.1 rfl (Nat.le_of_ble_eq_true rfl) dJ5_inflateIfNeededFor_a7421_11 ⟨Nat.le_refl _, Nat.le_refl _⟩ (fun r11 h11 H locs hm hP hD hS => ?_)
    obtain ⟨hc14, hm⟩ := hm
    refine lv_icmp_eq (tgt := 21) hx hb dJ5_inflateIfNeededFor_a7421_14 (by decide) (fun c_14 => ?_) (fun c_14 => ?_)
    · have hm := hm
      exact hend H locs ls 21 _ _ h11 (Nat.le_refl _) (Nat.le_refl _) hm hP hD hS dJ5_inflateIfNeededFor_a7421_21
    · exact (c_14 hc14).elim

def w_J0_getBytes_840e7 (c : Nat → ClassId) (K : (Nat → Nat) × (Nat → Nat)) (h : HW) (a0 : Nat) (a1 : Nat) (a2 : Int32) (a3 : Int32) (post : HW → Prop) : Prop :=
  (∃ w fs, h a0 = some (w, .inr (11, fs))) ∧ w_J0_coder_7d493 c K h a0 (fun (r1 : Int32) (h1 : HW) => r1 = a3 ∧ (gR h1 a0 11 0 (fun (g9 : Nat) => ∀ x16 : Int32, x16 = a2 <<< (a3 &&& 31) → (gR h1 a0 11 0 (fun (g18 : Nat) => lenA h1 (c 5) g18 (fun (x21 : Int32) => cpB h1 (c 5) g9 (0 : Int32) a1 x16 x21 (fun (h22 : HW) => post h22)))))))

abbrev rm_J0_getBytes_840e7 : Room := { frames := 1, cells := 0, slots := 0, locals := 120 }
theorem he_J0_getBytes_840e7 : yJ0_getBytes_840e7.cls ≠ "java/lang/invoke/MethodHandle" ∧ yJ0_getBytes_840e7.cls ≠ "java/lang/invoke/VarHandle" ∧ (parseMethodDescriptor yJ0_getBytes_840e7.desc).map (fun d => d.parameters.length) = some 3 := by decide +kernel
theorem heV_J0_getBytes_840e7 : yJ0_getBytes_840e7.cls = RJ0 ∧ yJ0_getBytes_840e7.cls ≠ "java/lang/invoke/MethodHandle" ∧ yJ0_getBytes_840e7.cls ≠ "java/lang/invoke/VarHandle" ∧ (parseMethodDescriptor yJ0_getBytes_840e7.desc).map (fun d => d.parameters.length) = some 3 := by decide +kernel
set_option maxHeartbeats 4000000 in
set_option maxRecDepth 100000 in
theorem h_J0_getBytes_840e7 (l : Launch) (G : va_G) (K : (Nat → Nat) × (Nat → Nat)) (c : Nat → ClassId) (h : HW) (a0 : Nat) (a1 : Nat) (a2 : Int32) (a3 : Int32) (post : HW → Prop) (hm : w_J0_getBytes_840e7 c K h a0 a1 a2 a3 post) : hMv l yJ0_getBytes_840e7 wsJ0_getBytes_840e7 (rm_J0_getBytes_840e7) G K (TY c) [.ref a0, .ref a1, .int a2, .int a3] h 0 0 post := by
  refine hMv.of (cc := cJ0_getBytes_840e7) (maxL := 4) (lv := [(0, .ref a0), (1, .ref a1), (2, .int a2), (3, .int a3)]) (by decide) rfl (Nat.le_of_ble_eq_true rfl) rfl ?_
  intro p e s m args below meth c1 A Q H locs hx hb hml hown hmn hts hK hN hZ hXX hP hD hA hS hend ls hl
  have hown : s.vm.findClass RJ0 = some m.cls := hown
  have hi_11 : ∀ w ∈ u_ws RJ0 TJ0 2, w ∈ wsJ0_getBytes_840e7 := fun w h => (fun w h => List.mem_cons_of_mem _ (List.mem_append_right _ (h))) w (uws_le (by decide) w h)
  unfold w_J0_getBytes_840e7 at hm
  refine lv_aload_n hx hb dJ0_getBytes_840e7_0 rfl (lv_at hl 0 rfl) ?_
  obtain ⟨⟨wr1, fr1, hrq1⟩, hm⟩ := hm
  refine hcVi (As := []) (rest := []) ⟨hx, hb, hml, hown, hts⟩ (h_J0_coder_7d493 l G K c h a0 _ hm) (cwV 0 hts gJ0_getBytes_840e7_J0_coder_7d493 rfl rfl rfl (heV_J0_coder_7d493) ⟨Nat.le_of_ble_eq_true rfl, Nat.le_of_ble_eq_true rfl⟩) hK hN hZ hXX hP hD hS hA (mr_recv hK (mRd hK hP hZ hS) (ci := 11) rfl hrq1) rfl hl.1 rfl (Nat.le_of_ble_eq_true rfl) dJ0_getBytes_840e7_1 ⟨Nat.le_refl _, Nat.le_refl _⟩ (fun r1 h1 H locs hm hP hD hS => ?_)
  refine lv_iload_n hx hb dJ0_getBytes_840e7_4 rfl (lv_at hl 3 rfl) ?_
  obtain ⟨hc5, hm⟩ := hm
  refine lv_icmp_ne (tgt := 28) hx hb dJ0_getBytes_840e7_5 (by decide) (fun c_5 => ?_) (fun c_5 => ?_)
  · exact (c_5 hc5).elim
  · have hm := hm
    refine lv_aload_n hx hb dJ0_getBytes_840e7_8 rfl (lv_at hl 0 rfl) ?_
    obtain ⟨wq9, fs9, g9, hq9, hv9, hm⟩ := hm
    refine mr_get (ci := 11) (C := RJ0) (T := TJ0) (N := 2) hx hb hts hi_11 hown hK (mRd hK hP hZ hS) hq9 rfl 0 (by decide) (hts (.fieldLink RJ0 9 "java/lang/String" "value" "[B") ((List.mem_of_getElem? (i := 1) rfl))) (fun _ h9 => h9) hv9 dJ0_getBytes_840e7_9 ?_
    refine lv_iconst (v := 0) hx hb dJ0_getBytes_840e7_12 (by decide) ?_
    refine lv_aload_n hx hb dJ0_getBytes_840e7_13 rfl (lv_at hl 1 rfl) ?_
    refine lv_iload_n hx hb dJ0_getBytes_840e7_14 rfl (lv_at hl 2 rfl) ?_
    refine lv_iload_n hx hb dJ0_getBytes_840e7_15 rfl (lv_at hl 3 rfl) ?_
    refine lv_ishl hx hb dJ0_getBytes_840e7_16 ?_
    refine lv_topi (fun x16 ex16 => ?_)
    have hm := hm x16 ex16
    refine lv_aload_n hx hb dJ0_getBytes_840e7_17 rfl (lv_at hl 0 rfl) ?_
    obtain ⟨wq18, fs18, g18, hq18, hv18, hm⟩ := hm
    refine mr_get (ci := 11) (C := RJ0) (T := TJ0) (N := 2) hx hb hts hi_11 hown hK (mRd hK hP hZ hS) hq18 rfl 0 (by decide) (hts (.fieldLink RJ0 9 "java/lang/String" "value" "[B") ((List.mem_of_getElem? (i := 1) rfl))) (fun _ h9 => h9) hv18 dJ0_getBytes_840e7_18 ?_
    obtain ⟨wq21, xx21, hq21, hm⟩ := hm
    refine mr_alen hx hb hK (mRd hK hP hZ hS) 5 hq21 rfl dJ0_getBytes_840e7_21 (fun x21 ex21 => ?_)
    have hm := hm x21 ex21
    obtain ⟨wq22, n022, n122, f22, g22, hq22, hr22, ha22, hb22, hc22, hd22, he22, hf22, hm⟩ := hm
    refine mr_copy hx hb (hml.trans hl.1.symm) hown (hts (.methodLink RJ0 212 arraycopyName) ((List.mem_of_getElem? (i := 2) rfl))) (hts (.native arraycopyName) ((List.mem_of_getElem? (i := 3) rfl))) (hts (.static arraycopyName) ((List.mem_of_getElem? (i := 4) rfl))) (hts (.initialized "java/lang/System") ((List.mem_of_getElem? (i := 5) rfl))) hK hP hZ hD hS 5 hq22 hr22 rfl rfl ha22 hb22 hc22 hd22 he22 hf22 (Nat.le_of_ble_eq_true rfl) (Nat.le_of_ble_eq_true rfl) dJ0_getBytes_840e7_22 (fun H locs hP hD hS => ?_)
    generalize hup h1 a1 _ = h22 at hm hP hD
    refine lv_goto (tgt := 43) hx hb dJ0_getBytes_840e7_25 (by decide) ?_
    exact hend H locs ls 43 _ _ h22 (Nat.le_refl _) (Nat.le_refl _) hm hP hD hS dJ0_getBytes_840e7_43

def w_J5_putStringAt_47b60 (c : Nat → ClassId) (K : (Nat → Nat) × (Nat → Nat)) (h : HW) (a0 : Nat) (a1 : Int32) (a2 : Nat) (post : HW → Prop) : Prop :=
  (∃ w fs, h a0 = some (w, .inr (12, fs))) ∧ w_J5_inflateIfNeededFor_a7421 c K h a0 a2 (fun (h2 : HW) => gR h2 a0 12 0 (fun (g7 : Nat) => gI h2 a0 12 1 (fun (g12 : Int32) => (∃ w fs, h2 a2 = some (w, .inr (11, fs))) ∧ w_J0_getBytes_840e7 c K h2 a2 g7 a1 g12 (fun (h15 : HW) => post h15))))

abbrev rm_J5_putStringAt_47b60 : Room := { frames := 2, cells := 0, slots := 0, locals := 143 }
theorem he_J5_putStringAt_47b60 : yJ5_putStringAt_47b60.cls ≠ "java/lang/invoke/MethodHandle" ∧ yJ5_putStringAt_47b60.cls ≠ "java/lang/invoke/VarHandle" ∧ (parseMethodDescriptor yJ5_putStringAt_47b60.desc).map (fun d => d.parameters.length) = some 2 := by decide +kernel
theorem heV_J5_putStringAt_47b60 : yJ5_putStringAt_47b60.cls = RJ5 ∧ yJ5_putStringAt_47b60.cls ≠ "java/lang/invoke/MethodHandle" ∧ yJ5_putStringAt_47b60.cls ≠ "java/lang/invoke/VarHandle" ∧ (parseMethodDescriptor yJ5_putStringAt_47b60.desc).map (fun d => d.parameters.length) = some 2 := by decide +kernel
set_option maxHeartbeats 4000000 in
set_option maxRecDepth 100000 in
theorem h_J5_putStringAt_47b60 (l : Launch) (G : va_G) (K : (Nat → Nat) × (Nat → Nat)) (c : Nat → ClassId) (h : HW) (a0 : Nat) (a1 : Int32) (a2 : Nat) (post : HW → Prop) (hm : w_J5_putStringAt_47b60 c K h a0 a1 a2 post) : hMv l yJ5_putStringAt_47b60 wsJ5_putStringAt_47b60 (rm_J5_putStringAt_47b60) G K (TY c) [.ref a0, .int a1, .ref a2] h 0 0 post := by
  refine hMv.of (cc := cJ5_putStringAt_47b60) (maxL := 3) (lv := [(0, .ref a0), (1, .int a1), (2, .ref a2)]) (by decide) rfl (Nat.le_of_ble_eq_true rfl) rfl ?_
  intro p e s m args below meth c1 A Q H locs hx hb hml hown hmn hts hK hN hZ hXX hP hD hA hS hend ls hl
  have hown : s.vm.findClass RJ5 = some m.cls := hown
  have hi_12 : ∀ w ∈ u_ws RJ4 TJ4 4, w ∈ wsJ5_putStringAt_47b60 := fun w h => (fun w h => List.mem_cons_of_mem _ (List.mem_append_left _ (List.mem_append_right _ (h)))) w h
  unfold w_J5_putStringAt_47b60 at hm
  refine lv_aload_n hx hb dJ5_putStringAt_47b60_0 rfl (lv_at hl 0 rfl) ?_
  refine lv_aload_n hx hb dJ5_putStringAt_47b60_1 rfl (lv_at hl 2 rfl) ?_
  obtain ⟨⟨wr2, fr2, hrq2⟩, hm⟩ := hm
  refine hcVUv (As := [.ref a2]) (rest := []) ⟨hx, hb, hml, hown, hts⟩ (h_J5_inflateIfNeededFor_a7421 l G K c h a0 a2 _ hm) (va_cwU 1 hts gJ5_putStringAt_47b60_J5_inflateIfNeededFor_a7421_u397J4 rfl rfl rfl rfl (by decide +kernel) ⟨Nat.le_of_ble_eq_true rfl, Nat.le_of_ble_eq_true rfl⟩) hK hN hZ hXX hP hD hS hA (mr_recv hK (mRd hK hP hZ hS) (ci := 12) rfl hrq2) rfl hl.1 rfl (Nat.le_of_ble_eq_true rfl) dJ5_putStringAt_47b60_2 ⟨Nat.le_refl _, Nat.le_refl _⟩ (fun h2 H locs hm hP hD hS => ?_)
  refine lv_aload_n hx hb dJ5_putStringAt_47b60_5 rfl (lv_at hl 2 rfl) ?_
  refine lv_aload_n hx hb dJ5_putStringAt_47b60_6 rfl (lv_at hl 0 rfl) ?_
  obtain ⟨wq7, fs7, g7, hq7, hv7, hm⟩ := hm
  refine mr_get (ci := 12) (C := RJ4) (T := TJ4) (N := 4) hx hb hts hi_12 hown hK (mRd hK hP hZ hS) hq7 rfl 0 (by decide) (hts (.fieldLink RJ5 15 "java/lang/AbstractStringBuilder" "value" "[B") ((List.mem_of_getElem? (i := 1) rfl))) (fun _ h9 => h9) hv7 dJ5_putStringAt_47b60_7 ?_
  refine lv_iload_n hx hb dJ5_putStringAt_47b60_10 rfl (lv_at hl 1 rfl) ?_
  refine lv_aload_n hx hb dJ5_putStringAt_47b60_11 rfl (lv_at hl 0 rfl) ?_
  obtain ⟨wq12, fs12, g12, hq12, hv12, hm⟩ := hm
  refine mr_get (ci := 12) (C := RJ4) (T := TJ4) (N := 4) hx hb hts hi_12 hown hK (mRd hK hP hZ hS) hq12 rfl 1 (by decide) (hts (.fieldLink RJ5 22 "java/lang/AbstractStringBuilder" "coder" "B") ((List.mem_of_getElem? (i := 2) rfl))) (fun _ h9 => h9) hv12 dJ5_putStringAt_47b60_12 ?_
  obtain ⟨⟨wr15, fr15, hrq15⟩, hm⟩ := hm
  refine hcVv (As := [.ref g7, .int a1, .int g12]) (rest := []) ⟨hx, hb, hml, hown, hts⟩ (h_J0_getBytes_840e7 l G K c h2 a2 g7 a1 g12 _ hm) (cwV 3 hts gJ5_putStringAt_47b60_J0_getBytes_840e7 rfl rfl rfl (heV_J0_getBytes_840e7) ⟨Nat.le_of_ble_eq_true rfl, Nat.le_of_ble_eq_true rfl⟩) hK hN hZ hXX hP hD hS hA (mr_recv hK (mRd hK hP hZ hS) (ci := 11) rfl hrq15) rfl hl.1 rfl (Nat.le_of_ble_eq_true rfl) dJ5_putStringAt_47b60_15 ⟨Nat.le_refl _, Nat.le_refl _⟩ (fun h15 H locs hm hP hD hS => ?_)
  exact hend H locs ls 18 _ _ h15 (Nat.le_refl _) (Nat.le_refl _) hm hP hD hS dJ5_putStringAt_47b60_18

def w_J5_append_cf1ce (c : Nat → ClassId) (K : (Nat → Nat) × (Nat → Nat)) (h : HW) (a0 : Nat) (a1 : Nat) (mc ms : Nat) (post : Option Nat → HW → Prop) : Prop :=
  (∃ w fs, h a1 = some (w, .inr (11, fs))) ∧ w_J0_length_8abf5 c K h a1 (fun (r10 : Int32) (h10 : HW) => gI h10 a0 12 3 (fun (g16 : Int32) => ∀ x20 : Int32, x20 = g16 + r10 → ((∃ w fs, h10 a0 = some (w, .inr (12, fs))) ∧ (∃ m21 z21 mB21 zB21 : Nat, mc = m21 + mB21 ∧ ms = z21 + zB21 ∧ w_J5_ensureCapacityInternal_d00df c K h10 a0 x20 m21 z21 (fun (h21 : HW) => gI h21 a0 12 3 (fun (g26 : Int32) => (∃ w fs, h21 a0 = some (w, .inr (12, fs))) ∧ w_J5_putStringAt_47b60 c K h21 a0 g26 a1 (fun (h30 : HW) => gI h30 a0 12 3 (fun (g35 : Int32) => ∀ x39 : Int32, x39 = g35 + r10 → (pV h30 a0 12 3 (.int x39) (fun (h40 : HW) => post (some a0) h40))))))))))

abbrev rm_J5_append_cf1ce (mc ms : Nat) : Room := { frames := 4, cells := mc, slots := ms, locals := 165 }
theorem he_J5_append_cf1ce : yJ5_append_cf1ce.cls ≠ "java/lang/invoke/MethodHandle" ∧ yJ5_append_cf1ce.cls ≠ "java/lang/invoke/VarHandle" ∧ (parseMethodDescriptor yJ5_append_cf1ce.desc).map (fun d => d.parameters.length) = some 1 := by decide +kernel
theorem heV_J5_append_cf1ce : yJ5_append_cf1ce.cls = RJ5 ∧ yJ5_append_cf1ce.cls ≠ "java/lang/invoke/MethodHandle" ∧ yJ5_append_cf1ce.cls ≠ "java/lang/invoke/VarHandle" ∧ (parseMethodDescriptor yJ5_append_cf1ce.desc).map (fun d => d.parameters.length) = some 1 := by decide +kernel
set_option maxHeartbeats 4000000 in
set_option maxRecDepth 100000 in
theorem h_J5_append_cf1ce (l : Launch) (G : va_G) (K : (Nat → Nat) × (Nat → Nat)) (c : Nat → ClassId) (h : HW) (a0 : Nat) (a1 : Nat) (mc ms : Nat) (post : Option Nat → HW → Prop) (hm : w_J5_append_cf1ce c K h a0 a1 mc ms post) : hMq l yJ5_append_cf1ce wsJ5_append_cf1ce (rm_J5_append_cf1ce mc ms) G K (TY c) [.ref a0, .ref a1] h mc ms post := by
  refine hMq.of (Or.inl ⟨_, rfl⟩) (cc := cJ5_append_cf1ce) (maxL := 3) (lv := [(0, .ref a0), (1, .ref a1)]) (by decide) rfl (Nat.le_of_ble_eq_true rfl) rfl ?_
  intro p e s m args below meth c1 A Q H locs hx hb hml hown hmn hts hK hN hZ hXX hP hD hA hS hend ls hl
  have hown : s.vm.findClass RJ5 = some m.cls := hown
  have hi_12 : ∀ w ∈ u_ws RJ4 TJ4 4, w ∈ wsJ5_append_cf1ce := fun w h => (fun w h => List.mem_cons_of_mem _ (List.mem_append_left _ (List.mem_append_right _ (h)))) w h
  unfold w_J5_append_cf1ce at hm
  have hf : 0 + mc ≤ mc ∧ 0 + ms ≤ ms := ⟨by omega, by omega⟩
  refine lv_aload_n hx hb dJ5_append_cf1ce_0 rfl (lv_at hl 1 rfl) ?_
  refine lv_ifnonnull (tgt := 9) hx hb dJ5_append_cf1ce_1 (by decide) ?_
  refine lv_aload_n hx hb dJ5_append_cf1ce_9 rfl (lv_at hl 1 rfl) ?_
  obtain ⟨⟨wr10, fr10, hrq10⟩, hm⟩ := hm
  refine hcVi (As := []) (rest := []) ⟨hx, hb, hml, hown, hts⟩ (h_J0_length_8abf5 l G K c h a1 _ hm) (cwV 0 hts gJ5_append_cf1ce_J0_length_8abf5 rfl rfl rfl (heV_J0_length_8abf5) ⟨Nat.le_of_ble_eq_true rfl, Nat.le_of_ble_eq_true rfl⟩) hK hN hZ hXX hP hD hS hA (mr_recv hK (mRd hK hP hZ hS) (ci := 11) rfl hrq10) rfl hl.1 rfl (Nat.le_of_ble_eq_true rfl) dJ5_append_cf1ce_10 ⟨by show 0 + 0 ≤ mc; omega, by show 0 + 0 ≤ ms; omega⟩ (fun r10 h10 H locs hm hP hD hS => ?_)
  refine lv_istore_n (lv' := [(2, .int r10), (0, .ref a0), (1, .ref a1)]) hx hb dJ5_append_cf1ce_13 rfl hl (by decide) rfl (fun ls hl => ?_)
  refine lv_aload_n hx hb dJ5_append_cf1ce_14 rfl (lv_at hl 1 rfl) ?_
  refine lv_aload_n hx hb dJ5_append_cf1ce_15 rfl (lv_at hl 1 rfl) ?_
  obtain ⟨wq16, fs16, g16, hq16, hv16, hm⟩ := hm
  refine mr_get (ci := 12) (C := RJ4) (T := TJ4) (N := 4) hx hb hts hi_12 hown hK (mRd hK hP hZ hS) hq16 rfl 3 (by decide) (hts (.fieldLink RJ5 79 "java/lang/AbstractStringBuilder" "count" "I") ((List.mem_of_getElem? (i := 1) rfl))) (fun _ h9 => h9) hv16 dJ5_append_cf1ce_16 ?_
  refine lv_iload_n hx hb dJ5_append_cf1ce_19 rfl (lv_at hl 0 rfl) ?_
  refine lv_iadd hx hb dJ5_append_cf1ce_20 ?_
  refine lv_topi (fun x20 ex20 => ?_)
  have hm := hm x20 ex20
  obtain ⟨⟨wr21, fr21, hrq21⟩, hm⟩ := hm
  obtain ⟨m21, z21, mB21, zB21, hbm21, hbs21, hm⟩ := hm
  refine hcVUv (As := [.int x20]) (rest := []) ⟨hx, hb, hml, hown, hts⟩ (h_J5_ensureCapacityInternal_d00df l G K c h10 a0 x20 m21 z21 _ hm) (va_cwU 1 hts gJ5_append_cf1ce_J5_ensureCapacityInternal_d00df_u100J4 rfl rfl rfl rfl (by decide +kernel) ⟨Nat.le_of_ble_eq_true rfl, Nat.le_of_ble_eq_true rfl⟩) hK hN hZ hXX hP hD hS hA (mr_recv hK (mRd hK hP hZ hS) (ci := 12) rfl hrq21) rfl hl.1 rfl (Nat.le_of_ble_eq_true rfl) dJ5_append_cf1ce_21 ⟨by show 0 + m21 ≤ mc; omega, by show 0 + z21 ≤ ms; omega⟩ (fun h21 H locs hm hP hD hS => ?_)
  replace hf : (0 + m21) + mB21 ≤ mc ∧ (0 + z21) + zB21 ≤ ms := ⟨by omega, by omega⟩
  clear hbm21 hbs21
  refine lv_aload_n hx hb dJ5_append_cf1ce_24 rfl (lv_at hl 1 rfl) ?_
  refine lv_aload_n hx hb dJ5_append_cf1ce_25 rfl (lv_at hl 1 rfl) ?_
  obtain ⟨wq26, fs26, g26, hq26, hv26, hm⟩ := hm
  refine mr_get (ci := 12) (C := RJ4) (T := TJ4) (N := 4) hx hb hts hi_12 hown hK (mRd hK hP hZ hS) hq26 rfl 3 (by decide) (hts (.fieldLink RJ5 79 "java/lang/AbstractStringBuilder" "count" "I") ((List.mem_of_getElem? (i := 1) rfl))) (fun _ h9 => h9) hv26 dJ5_append_cf1ce_26 ?_
  refine lv_aload_n hx hb dJ5_append_cf1ce_29 rfl (lv_at hl 2 rfl) ?_
  obtain ⟨⟨wr30, fr30, hrq30⟩, hm⟩ := hm
  refine hcVUv (As := [.int g26, .ref a1]) (rest := []) ⟨hx, hb, hml, hown, hts⟩ (h_J5_putStringAt_47b60 l G K c h21 a0 g26 a1 _ hm) (va_cwU 2 hts gJ5_append_cf1ce_J5_putStringAt_47b60_u208J4 rfl rfl rfl rfl (by decide +kernel) ⟨Nat.le_of_ble_eq_true rfl, Nat.le_of_ble_eq_true rfl⟩) hK hN hZ hXX hP hD hS hA (mr_recv hK (mRd hK hP hZ hS) (ci := 12) rfl hrq30) rfl hl.1 rfl (Nat.le_of_ble_eq_true rfl) dJ5_append_cf1ce_30 ⟨by show (0 + m21) + 0 ≤ mc; omega, by show (0 + z21) + 0 ≤ ms; omega⟩ (fun h30 H locs hm hP hD hS => ?_)
  refine lv_aload_n hx hb dJ5_append_cf1ce_33 rfl (lv_at hl 1 rfl) ?_
  refine lv_dup hx hb dJ5_append_cf1ce_34 rfl ?_
  obtain ⟨wq35, fs35, g35, hq35, hv35, hm⟩ := hm
  refine mr_get (ci := 12) (C := RJ4) (T := TJ4) (N := 4) hx hb hts hi_12 hown hK (mRd hK hP hZ hS) hq35 rfl 3 (by decide) (hts (.fieldLink RJ5 79 "java/lang/AbstractStringBuilder" "count" "I") ((List.mem_of_getElem? (i := 1) rfl))) (fun _ h9 => h9) hv35 dJ5_append_cf1ce_35 ?_
  refine lv_iload_n hx hb dJ5_append_cf1ce_38 rfl (lv_at hl 0 rfl) ?_
  refine lv_iadd hx hb dJ5_append_cf1ce_39 ?_
  refine lv_topi (fun x39 ex39 => ?_)
  have hm := hm x39 ex39
  obtain ⟨fs40, hq40, hl40, hm⟩ := hm
  refine mr_put (v := .int x39) (ci := 12) (C := RJ4) (T := TJ4) (N := 4) hx hb hts hi_12 tyJ4 (fun k hk => tyJ4_ok k (Nat.lt_of_lt_of_le hk (by decide))) (fun a ha b hb => nmJ4 a (Nat.lt_of_lt_of_le ha (by decide)) b (Nat.lt_of_lt_of_le hb (by decide))) hown hK hP hD hS hq40 rfl 3 (by decide) (hts (.fieldLink RJ5 79 "java/lang/AbstractStringBuilder" "count" "I") ((List.mem_of_getElem? (i := 1) rfl))) (fun _ h9 => h9) rfl (tyJ4_ok 3 (by decide)) rfl rfl hl40 dJ5_append_cf1ce_40 (fun H locs hP hD hS => ?_)
  generalize hup h30 a0 (.inr (12, fs40.set 3 (.int x39))) = h40 at hm hP hD
  refine lv_aload_n hx hb dJ5_append_cf1ce_43 rfl (lv_at hl 1 rfl) ?_
  exact hend H locs ls 44 _ _ (some a0) h40 (by omega) (by omega) hm hP hD hS dJ5_append_cf1ce_44

def w_J6_stringSize_0f7a4_B16 (c : Nat → ClassId) (K : (Nat → Nat) × (Nat → Nat)) (h : HW) (post : Int32 → HW → Prop) (x9 : Int32) (rec_16 : Int32 → Int32 → Prop) (v2_16 : Int32) (v3_16 : Int32) : Prop :=
  ((10 : Int32) ≤ v3_16 → ∀ x45 : Int32, x45 = (10 : Int32) + (0 : Int32) → (post x45 h)) ∧ (¬ (10 : Int32) ≤ v3_16 → (x9 ≤ v2_16 → ∀ x34 : Int32, x34 = (10 : Int32) * v2_16 → (∀ x36 : Int32, x36 = (v3_16 + 1) → (rec_16 x34 x36))) ∧ (¬ x9 ≤ v2_16 → ∀ x29 : Int32, x29 = v3_16 + (0 : Int32) → (post x29 h)))

def w_J6_stringSize_0f7a4 (c : Nat → ClassId) (K : (Nat → Nat) × (Nat → Nat)) (h : HW) (a0 : Int32) (post : Int32 → HW → Prop) : Prop :=
  ¬ a0 < 0 ∧ (∀ x9 : Int32, x9 = -a0 → (∃ n_16 : Nat, itP2 (w_J6_stringSize_0f7a4_B16 c K h post x9) n_16 (-10 : Int32) (1 : Int32)))

abbrev rm_J6_stringSize_0f7a4 : Room := { frames := 0, cells := 0, slots := 0, locals := 0 }
theorem he_J6_stringSize_0f7a4 : yJ6_stringSize_0f7a4.cls ≠ "java/lang/invoke/MethodHandle" ∧ yJ6_stringSize_0f7a4.cls ≠ "java/lang/invoke/VarHandle" ∧ (parseMethodDescriptor yJ6_stringSize_0f7a4.desc).map (fun d => d.parameters.length) = some 1 := by decide +kernel
theorem heV_J6_stringSize_0f7a4 : yJ6_stringSize_0f7a4.cls = RJ6 ∧ yJ6_stringSize_0f7a4.cls ≠ "java/lang/invoke/MethodHandle" ∧ yJ6_stringSize_0f7a4.cls ≠ "java/lang/invoke/VarHandle" ∧ (parseMethodDescriptor yJ6_stringSize_0f7a4.desc).map (fun d => d.parameters.length) = some 1 := by decide +kernel
set_option maxHeartbeats 4000000 in
set_option maxRecDepth 100000 in
theorem h_J6_stringSize_0f7a4 (l : Launch) (G : va_G) (K : (Nat → Nat) × (Nat → Nat)) (c : Nat → ClassId) (h : HW) (a0 : Int32) (post : Int32 → HW → Prop) (hm : w_J6_stringSize_0f7a4 c K h a0 post) : hMi l yJ6_stringSize_0f7a4 wsJ6_stringSize_0f7a4 (rm_J6_stringSize_0f7a4) G K (TY c) [.int a0] h 0 0 post := by
  refine hMi.of (cc := cJ6_stringSize_0f7a4) (maxL := 4) (lv := [(0, .int a0)]) (by decide) rfl (Nat.le_of_ble_eq_true rfl) rfl ?_
  intro p e s m args below meth c1 A Q H locs hx hb hml hown hmn hts hK hN hZ hXX hP hD hA hS hend ls hl
  have hown : s.vm.findClass RJ6 = some m.cls := hown
  unfold w_J6_stringSize_0f7a4 at hm
  refine lv_iconst (v := 1) hx hb dJ6_stringSize_0f7a4_0 (by decide) ?_
  refine lv_istore_n (lv' := [(1, .int (1 : Int32)), (0, .int a0)]) hx hb dJ6_stringSize_0f7a4_1 rfl hl (by decide) rfl (fun ls hl => ?_)
  refine lv_iload_n hx hb dJ6_stringSize_0f7a4_2 rfl (lv_at hl 1 rfl) ?_
  obtain ⟨hc3, hm⟩ := hm
  refine lv_if_lt (tgt := 11) hx hb dJ6_stringSize_0f7a4_3 (by decide) (fun c_3 => ?_) (fun c_3 => ?_)
  · exact (hc3 c_3).elim
  · have hm := hm
    refine lv_iconst (v := 0) hx hb dJ6_stringSize_0f7a4_6 (by decide) ?_
    refine lv_istore_n (lv' := [(1, .int (0 : Int32)), (0, .int a0)]) hx hb dJ6_stringSize_0f7a4_7 rfl hl (by decide) rfl (fun ls hl => ?_)
    refine lv_iload_n hx hb dJ6_stringSize_0f7a4_8 rfl (lv_at hl 1 rfl) ?_
    refine lv_ineg hx hb dJ6_stringSize_0f7a4_9 ?_
    refine lv_topi (fun x9 ex9 => ?_)
    have hm := hm x9 ex9
    refine lv_istore_n (lv' := [(0, .int x9), (1, .int (0 : Int32))]) hx hb dJ6_stringSize_0f7a4_10 rfl hl (by decide) rfl (fun ls hl => ?_)
    refine lv_bipush (v := (-10)) hx hb dJ6_stringSize_0f7a4_11 (by decide) ?_
    refine lv_istore_n (lv' := [(2, .int (-10 : Int32)), (0, .int x9), (1, .int (0 : Int32))]) hx hb dJ6_stringSize_0f7a4_13 rfl hl (by decide) rfl (fun ls hl => ?_)
    refine lv_iconst (v := 1) hx hb dJ6_stringSize_0f7a4_14 (by decide) ?_
    refine lv_istore_n (lv' := [(3, .int (1 : Int32)), (2, .int (-10 : Int32)), (0, .int x9), (1, .int (0 : Int32))]) hx hb dJ6_stringSize_0f7a4_15 rfl hl (by decide) rfl (fun ls hl => ?_)
    obtain ⟨n_16, hm⟩ := hm
    have L_16 : ∀ (n_16 : Nat) (v2_16 : Int32) (v3_16 : Int32) (H : Heap) (locs : List Loc) (ls : Array Slot), mP G K h H → mD A h → va_S A s.heap H locs → lv_has ls 4 [(0, .int x9), (1, .int (0 : Int32)), (2, .int v2_16), (3, .int v3_16)] → itP2 (w_J6_stringSize_0f7a4_B16 c K h post x9) n_16 v2_16 v3_16 → W p l e (rm_J6_stringSize_0f7a4) s m args below meth c1 H locs 0 0 Q (F0 m 16 ls []) := by
      intro n_16
      induction n_16 with
      | zero => intro v2_16 v3_16 H locs ls hP hD hS hl hm; exact hm.elim
      | succ n_16 ih_16 =>
        intro v2_16 v3_16 H locs ls hP hD hS hl hm
        have hm : (w_J6_stringSize_0f7a4_B16 c K h post x9) (itP2 (w_J6_stringSize_0f7a4_B16 c K h post x9) n_16) v2_16 v3_16 := hm
        generalize itP2 (w_J6_stringSize_0f7a4_B16 c K h post x9) n_16 = rec_16 at hm ih_16
        unfold w_J6_stringSize_0f7a4_B16 at hm
        refine lv_iload_n hx hb dJ6_stringSize_0f7a4_16 rfl (lv_at hl 3 rfl) ?_
        refine lv_bipush (v := 10) hx hb dJ6_stringSize_0f7a4_17 (by decide) ?_
        refine lv_icmp_ge (tgt := 42) hx hb dJ6_stringSize_0f7a4_19 (by decide) (fun c_19 => ?_) (fun c_19 => ?_)
        · have hm := hm.1 c_19
          refine lv_bipush (v := 10) hx hb dJ6_stringSize_0f7a4_42 (by decide) ?_
          refine lv_iload_n hx hb dJ6_stringSize_0f7a4_44 rfl (lv_at hl 1 rfl) ?_
          refine lv_iadd hx hb dJ6_stringSize_0f7a4_45 ?_
          refine lv_topi (fun x45 ex45 => ?_)
          have hm := hm x45 ex45
          exact hend H locs ls 46 _ _ x45 h (Nat.le_refl _) (Nat.le_refl _) rfl hm hP hD hS dJ6_stringSize_0f7a4_46
        · have hm := hm.2 c_19
          refine lv_iload_n hx hb dJ6_stringSize_0f7a4_22 rfl (lv_at hl 0 rfl) ?_
          refine lv_iload_n hx hb dJ6_stringSize_0f7a4_23 rfl (lv_at hl 2 rfl) ?_
          refine lv_icmp_le (tgt := 31) hx hb dJ6_stringSize_0f7a4_24 (by decide) (fun c_24 => ?_) (fun c_24 => ?_)
          · have hm := hm.1 c_24
            refine lv_bipush (v := 10) hx hb dJ6_stringSize_0f7a4_31 (by decide) ?_
            refine lv_iload_n hx hb dJ6_stringSize_0f7a4_33 rfl (lv_at hl 2 rfl) ?_
            refine lv_imul hx hb dJ6_stringSize_0f7a4_34 ?_
            refine lv_topi (fun x34 ex34 => ?_)
            have hm := hm x34 ex34
            refine lv_istore_n (lv' := [(2, .int x34), (0, .int x9), (1, .int (0 : Int32)), (3, .int v3_16)]) hx hb dJ6_stringSize_0f7a4_35 rfl hl (by decide) rfl (fun ls hl => ?_)
            obtain ⟨x36, ex36⟩ : ∃ z : Int32, z = (v3_16 + 1) := ⟨_, rfl⟩
            have hm := hm x36 ex36
            refine lv_iinc (k := 3) (v := x36) (lv' := [(3, .int x36), (2, .int x34), (0, .int x9), (1, .int (0 : Int32))]) hx hb dJ6_stringSize_0f7a4_36 hl rfl ex36.symm (by decide) rfl (fun ls hl => ?_)
            refine lv_goto (tgt := 16) hx hb dJ6_stringSize_0f7a4_39 (by decide) ?_
            exact ih_16 x34 x36 H locs ls hP hD hS (lv_sub hl [2, 3, 1, 0] rfl) hm
          · have hm := hm.2 c_24
            refine lv_iload_n hx hb dJ6_stringSize_0f7a4_27 rfl (lv_at hl 3 rfl) ?_
            refine lv_iload_n hx hb dJ6_stringSize_0f7a4_28 rfl (lv_at hl 1 rfl) ?_
            refine lv_iadd hx hb dJ6_stringSize_0f7a4_29 ?_
            refine lv_topi (fun x29 ex29 => ?_)
            have hm := hm x29 ex29
            exact hend H locs ls 30 _ _ x29 h (Nat.le_refl _) (Nat.le_refl _) rfl hm hP hD hS dJ6_stringSize_0f7a4_30
    exact L_16 n_16 (-10 : Int32) (1 : Int32) H locs ls hP hD hS (lv_sub hl [2, 3, 1, 0] rfl) hm

def w_J6_getChars_ba4f3_J104 (c : Nat → ClassId) (K : (Nat → Nat) × (Nat → Nat)) (post : Int32 → HW → Prop) (h_104 : HW) (v5_104 : Int32) : Prop :=
  (0 : Int32) = 0 ∧ (post v5_104 h_104)

def w_J6_getChars_ba4f3_B22 (c : Nat → ClassId) (K : (Nat → Nat) × (Nat → Nat)) (a2 : Nat) (post : Int32 → HW → Prop) (rec_22 : HW → Int32 → Int32 → Prop) (h_22 : HW) (v0_22 : Int32) (v5_22 : Int32) : Prop :=
  ((-100 : Int32) < v0_22 → ∀ x73 : Int32, x73 = (v5_22 + (-1)) → (∀ x82 : Int32, x82 = -v0_22 → (lI h_22 (c 5) (K.1 32) x82 (fun (x83 : Int32) => stB h_22 (c 5) a2 x73 x83 (fun (h84 : HW) => ((-9 : Int32) ≤ v0_22 → w_J6_getChars_ba4f3_J104 c K post h84 x73) ∧ (¬ (-9 : Int32) ≤ v0_22 → ∀ x92 : Int32, x92 = (x73 + (-1)) → (∀ x101 : Int32, x101 = -v0_22 → (lI h84 (c 5) (K.1 31) x101 (fun (x102 : Int32) => stB h84 (c 5) a2 x92 x102 (fun (h103 : HW) => w_J6_getChars_ba4f3_J104 c K post h103 x92)))))))))) ∧ (¬ (-100 : Int32) < v0_22 → ∀ x31 : Int32, x31 = v0_22 / (100 : Int32) → (∀ x36 : Int32, x36 = x31 * (100 : Int32) → (∀ x38 : Int32, x38 = x36 - v0_22 → (∀ x44 : Int32, x44 = (v5_22 + (-1)) → (lI h_22 (c 5) (K.1 32) x38 (fun (x54 : Int32) => stB h_22 (c 5) a2 x44 x54 (fun (h55 : HW) => ∀ x57 : Int32, x57 = (x44 + (-1)) → (lI h55 (c 5) (K.1 31) x38 (fun (x67 : Int32) => stB h55 (c 5) a2 x57 x67 (fun (h68 : HW) => rec_22 h68 x31 x57))))))))))

def w_J6_getChars_ba4f3 (c : Nat → ClassId) (K : (Nat → Nat) × (Nat → Nat)) (h : HW) (a0 : Int32) (a1 : Int32) (a2 : Nat) (post : Int32 → HW → Prop) : Prop :=
  0 ≤ a0 ∧ ((0 : Int32) = 0 ∧ (∀ x20 : Int32, x20 = -a0 → (∃ n_22 : Nat, itP3 (w_J6_getChars_ba4f3_B22 c K a2 post) n_22 h x20 a1)))

abbrev rm_J6_getChars_ba4f3 : Room := { frames := 0, cells := 0, slots := 0, locals := 0 }
theorem he_J6_getChars_ba4f3 : yJ6_getChars_ba4f3.cls ≠ "java/lang/invoke/MethodHandle" ∧ yJ6_getChars_ba4f3.cls ≠ "java/lang/invoke/VarHandle" ∧ (parseMethodDescriptor yJ6_getChars_ba4f3.desc).map (fun d => d.parameters.length) = some 3 := by decide +kernel
theorem heV_J6_getChars_ba4f3 : yJ6_getChars_ba4f3.cls = RJ6 ∧ yJ6_getChars_ba4f3.cls ≠ "java/lang/invoke/MethodHandle" ∧ yJ6_getChars_ba4f3.cls ≠ "java/lang/invoke/VarHandle" ∧ (parseMethodDescriptor yJ6_getChars_ba4f3.desc).map (fun d => d.parameters.length) = some 3 := by decide +kernel
set_option maxHeartbeats 4000000 in
set_option maxRecDepth 100000 in
theorem h_J6_getChars_ba4f3 (l : Launch) (G : va_G) (K : (Nat → Nat) × (Nat → Nat)) (c : Nat → ClassId) (h : HW) (a0 : Int32) (a1 : Int32) (a2 : Nat) (post : Int32 → HW → Prop) (hm : w_J6_getChars_ba4f3 c K h a0 a1 a2 post) : hMi l yJ6_getChars_ba4f3 wsJ6_getChars_ba4f3 (rm_J6_getChars_ba4f3) G K (TY c) [.int a0, .int a1, .ref a2] h 0 0 post := by
  refine hMi.of (cc := cJ6_getChars_ba4f3) (maxL := 7) (lv := [(0, .int a0), (1, .int a1), (2, .ref a2)]) (by decide) rfl (Nat.le_of_ble_eq_true rfl) rfl ?_
  intro p e s m args below meth c1 A Q H locs hx hb hml hown hmn hts hK hN hZ hXX hP hD hA hS hend ls hl
  have hown : s.vm.findClass RJ6 = some m.cls := hown
  unfold w_J6_getChars_ba4f3 at hm
  refine lv_iload_n hx hb dJ6_getChars_ba4f3_0 rfl (lv_at hl 1 rfl) ?_
  refine lv_istore (lv' := [(5, .int a1), (0, .int a0), (1, .int a1), (2, .ref a2)]) hx hb dJ6_getChars_ba4f3_1 hl (by decide) rfl (fun ls hl => ?_)
  refine lv_iload_n hx hb dJ6_getChars_ba4f3_3 rfl (lv_at hl 1 rfl) ?_
  obtain ⟨hc4, hm⟩ := hm
  refine lv_if_ge (tgt := 11) hx hb dJ6_getChars_ba4f3_4 (by decide) (fun c_4 => ?_) (fun c_4 => ?_)
  · have hm := hm
    refine lv_iconst (v := 0) hx hb dJ6_getChars_ba4f3_11 (by decide) ?_
    refine lv_istore (lv' := [(6, .int (0 : Int32)), (5, .int a1), (0, .int a0), (1, .int a1), (2, .ref a2)]) hx hb dJ6_getChars_ba4f3_12 hl (by decide) rfl (fun ls hl => ?_)
    refine lv_iload hx hb dJ6_getChars_ba4f3_14 (lv_at hl 0 rfl) ?_
    obtain ⟨hc16, hm⟩ := hm
    refine lv_if_ne (tgt := 22) hx hb dJ6_getChars_ba4f3_16 (by decide) (fun c_16 => ?_) (fun c_16 => ?_)
    · exact (c_16 hc16).elim
    · have hm := hm
      refine lv_iload_n hx hb dJ6_getChars_ba4f3_19 rfl (lv_at hl 2 rfl) ?_
      refine lv_ineg hx hb dJ6_getChars_ba4f3_20 ?_
      refine lv_topi (fun x20 ex20 => ?_)
      have hm := hm x20 ex20
      refine lv_istore_n (lv' := [(0, .int x20), (6, .int (0 : Int32)), (5, .int a1), (1, .int a1), (2, .ref a2)]) hx hb dJ6_getChars_ba4f3_21 rfl hl (by decide) rfl (fun ls hl => ?_)
      obtain ⟨n_22, hm⟩ := hm
      have L_22 : ∀ (n_22 : Nat) (h_22 : HW) (v0_22 : Int32) (v5_22 : Int32) (H : Heap) (locs : List Loc) (ls : Array Slot), mP G K h_22 H → mD A h_22 → va_S A s.heap H locs → lv_has ls 7 [(0, .int v0_22), (2, .ref a2), (5, .int v5_22), (6, .int (0 : Int32))] → itP3 (w_J6_getChars_ba4f3_B22 c K a2 post) n_22 h_22 v0_22 v5_22 → W p l e (rm_J6_getChars_ba4f3) s m args below meth c1 H locs 0 0 Q (F0 m 22 ls []) := by
        intro n_22
        induction n_22 with
        | zero => intro h_22 v0_22 v5_22 H locs ls hP hD hS hl hm; exact hm.elim
        | succ n_22 ih_22 =>
          intro h_22 v0_22 v5_22 H locs ls hP hD hS hl hm
          have hm : (w_J6_getChars_ba4f3_B22 c K a2 post) (itP3 (w_J6_getChars_ba4f3_B22 c K a2 post) n_22) h_22 v0_22 v5_22 := hm
          generalize itP3 (w_J6_getChars_ba4f3_B22 c K a2 post) n_22 = rec_22 at hm ih_22
          unfold w_J6_getChars_ba4f3_B22 at hm
          refine lv_iload_n hx hb dJ6_getChars_ba4f3_22 rfl (lv_at hl 0 rfl) ?_
          refine lv_bipush (v := (-100)) hx hb dJ6_getChars_ba4f3_23 (by decide) ?_
          refine lv_icmp_gt (tgt := 72) hx hb dJ6_getChars_ba4f3_25 (by decide) (fun c_25 => ?_) (fun c_25 => ?_)
          · have hm := hm.1 c_25
            refine lv_aload_n hx hb dJ6_getChars_ba4f3_72 rfl (lv_at hl 1 rfl) ?_
            obtain ⟨x73, ex73⟩ : ∃ z : Int32, z = (v5_22 + (-1)) := ⟨_, rfl⟩
            have hm := hm x73 ex73
            refine lv_iinc (k := 2) (v := x73) (lv' := [(5, .int x73), (0, .int v0_22), (2, .ref a2), (6, .int (0 : Int32))]) hx hb dJ6_getChars_ba4f3_73 hl rfl ex73.symm (by decide) rfl (fun ls hl => ?_)
            refine lv_iload hx hb dJ6_getChars_ba4f3_76 (lv_at hl 0 rfl) ?_
            refine va_gets hx hb hZ.2.2.2.2.2.2.2 hS hown (hts (.fieldLink RJ6 83 "java/lang/Integer" "DigitOnes" "[B") ((List.mem_of_getElem? (i := 1) rfl))) (fun _ h9 => h9) dJ6_getChars_ba4f3_78 ?_
            refine lv_iload_n hx hb dJ6_getChars_ba4f3_81 rfl (lv_at hl 1 rfl) ?_
            refine lv_ineg hx hb dJ6_getChars_ba4f3_82 ?_
            refine lv_topi (fun x82 ex82 => ?_)
            have hm := hm x82 ex82
            obtain ⟨wq83, n83, f83, hq83, hi83, hm⟩ := hm
            refine mr_bald hx hb hK (mRd hK hP hZ hS) 5 hq83 rfl hi83 dJ6_getChars_ba4f3_83 (fun x83 ex83 => ?_)
            have hm := hm x83 ex83
            obtain ⟨n84, f84, hq84, hi84, hm⟩ := hm
            refine mr_bast hx hb hK hP hD hS 5 hq84 rfl hi84 dJ6_getChars_ba4f3_84 (fun H locs hP hD hS => ?_)
            generalize hup h_22 a2 (eI (c 5) n84 (upd f84 x73.toNatClampNeg (vp_nar .byte x83))) = h84 at hm hP hD
            refine lv_iload_n hx hb dJ6_getChars_ba4f3_85 rfl (lv_at hl 1 rfl) ?_
            refine lv_bipush (v := (-9)) hx hb dJ6_getChars_ba4f3_86 (by decide) ?_
            have J_104 : ∀ (h_104 : HW) (v5_104 : Int32) (H : Heap) (locs : List Loc) (ls : Array Slot), mP G K h_104 H → mD A h_104 → va_S A s.heap H locs → lv_has ls 7 [(5, .int v5_104), (6, .int (0 : Int32))] → w_J6_getChars_ba4f3_J104 c K post h_104 v5_104 → W p l e (rm_J6_getChars_ba4f3) s m args below meth c1 H locs 0 0 Q (F0 m 104 ls []) := by
              intro h_104 v5_104 H locs ls hP hD hS hl hm
              unfold w_J6_getChars_ba4f3_J104 at hm
              refine lv_iload hx hb dJ6_getChars_ba4f3_104 (lv_at hl 1 rfl) ?_
              obtain ⟨hc106, hm⟩ := hm
              refine lv_if_eq (tgt := 118) hx hb dJ6_getChars_ba4f3_106 (by decide) (fun c_106 => ?_) (fun c_106 => ?_)
              · have hm := hm
                refine lv_iload hx hb dJ6_getChars_ba4f3_118 (lv_at hl 0 rfl) ?_
                exact hend H locs ls 120 _ _ v5_104 h_104 (Nat.le_refl _) (Nat.le_refl _) rfl hm hP hD hS dJ6_getChars_ba4f3_120
              · exact (c_106 hc106).elim
            refine lv_icmp_ge (tgt := 104) hx hb dJ6_getChars_ba4f3_88 (by decide) (fun c_88 => ?_) (fun c_88 => ?_)
            · have hm := hm.1 c_88
              exact J_104 h84 x73 H locs ls hP hD hS (lv_sub hl [0, 3] rfl) hm
            · have hm := hm.2 c_88
              refine lv_aload_n hx hb dJ6_getChars_ba4f3_91 rfl (lv_at hl 2 rfl) ?_
              obtain ⟨x92, ex92⟩ : ∃ z : Int32, z = (x73 + (-1)) := ⟨_, rfl⟩
              have hm := hm x92 ex92
              refine lv_iinc (k := 0) (v := x92) (lv' := [(5, .int x92), (0, .int v0_22), (2, .ref a2), (6, .int (0 : Int32))]) hx hb dJ6_getChars_ba4f3_92 hl rfl ex92.symm (by decide) rfl (fun ls hl => ?_)
              refine lv_iload hx hb dJ6_getChars_ba4f3_95 (lv_at hl 0 rfl) ?_
              refine va_gets hx hb hZ.2.2.2.2.2.2.1 hS hown (hts (.fieldLink RJ6 87 "java/lang/Integer" "DigitTens" "[B") ((List.mem_of_getElem? (i := 2) rfl))) (fun _ h9 => h9) dJ6_getChars_ba4f3_97 ?_
              refine lv_iload_n hx hb dJ6_getChars_ba4f3_100 rfl (lv_at hl 1 rfl) ?_
              refine lv_ineg hx hb dJ6_getChars_ba4f3_101 ?_
              refine lv_topi (fun x101 ex101 => ?_)
              have hm := hm x101 ex101
              obtain ⟨wq102, n102, f102, hq102, hi102, hm⟩ := hm
              refine mr_bald hx hb hK (mRd hK hP hZ hS) 5 hq102 rfl hi102 dJ6_getChars_ba4f3_102 (fun x102 ex102 => ?_)
              have hm := hm x102 ex102
              obtain ⟨n103, f103, hq103, hi103, hm⟩ := hm
              refine mr_bast hx hb hK hP hD hS 5 hq103 rfl hi103 dJ6_getChars_ba4f3_103 (fun H locs hP hD hS => ?_)
              generalize hup h84 a2 (eI (c 5) n103 (upd f103 x92.toNatClampNeg (vp_nar .byte x102))) = h103 at hm hP hD
              exact J_104 h103 x92 H locs ls hP hD hS (lv_sub hl [0, 3] rfl) hm
          · have hm := hm.2 c_25
            refine lv_iload_n hx hb dJ6_getChars_ba4f3_28 rfl (lv_at hl 0 rfl) ?_
            refine lv_bipush (v := 100) hx hb dJ6_getChars_ba4f3_29 (by decide) ?_
            refine lv_idiv hx hb dJ6_getChars_ba4f3_31 (by decide) ?_
            refine lv_topi (fun x31 ex31 => ?_)
            have hm := hm x31 ex31
            refine lv_istore_n (lv' := [(3, .int x31), (0, .int v0_22), (2, .ref a2), (5, .int v5_22), (6, .int (0 : Int32))]) hx hb dJ6_getChars_ba4f3_32 rfl hl (by decide) rfl (fun ls hl => ?_)
            refine lv_iload_n hx hb dJ6_getChars_ba4f3_33 rfl (lv_at hl 0 rfl) ?_
            refine lv_bipush (v := 100) hx hb dJ6_getChars_ba4f3_34 (by decide) ?_
            refine lv_imul hx hb dJ6_getChars_ba4f3_36 ?_
            refine lv_topi (fun x36 ex36 => ?_)
            have hm := hm x36 ex36
            refine lv_iload_n hx hb dJ6_getChars_ba4f3_37 rfl (lv_at hl 1 rfl) ?_
            refine lv_isub hx hb dJ6_getChars_ba4f3_38 ?_
            refine lv_topi (fun x38 ex38 => ?_)
            have hm := hm x38 ex38
            refine lv_istore (lv' := [(4, .int x38), (3, .int x31), (0, .int v0_22), (2, .ref a2), (5, .int v5_22), (6, .int (0 : Int32))]) hx hb dJ6_getChars_ba4f3_39 hl (by decide) rfl (fun ls hl => ?_)
            refine lv_iload_n hx hb dJ6_getChars_ba4f3_41 rfl (lv_at hl 1 rfl) ?_
            refine lv_istore_n (lv' := [(0, .int x31), (4, .int x38), (3, .int x31), (2, .ref a2), (5, .int v5_22), (6, .int (0 : Int32))]) hx hb dJ6_getChars_ba4f3_42 rfl hl (by decide) rfl (fun ls hl => ?_)
            refine lv_aload_n hx hb dJ6_getChars_ba4f3_43 rfl (lv_at hl 3 rfl) ?_
            obtain ⟨x44, ex44⟩ : ∃ z : Int32, z = (v5_22 + (-1)) := ⟨_, rfl⟩
            have hm := hm x44 ex44
            refine lv_iinc (k := 4) (v := x44) (lv' := [(5, .int x44), (0, .int x31), (4, .int x38), (3, .int x31), (2, .ref a2), (6, .int (0 : Int32))]) hx hb dJ6_getChars_ba4f3_44 hl rfl ex44.symm (by decide) rfl (fun ls hl => ?_)
            refine lv_iload hx hb dJ6_getChars_ba4f3_47 (lv_at hl 0 rfl) ?_
            refine va_gets hx hb hZ.2.2.2.2.2.2.2 hS hown (hts (.fieldLink RJ6 83 "java/lang/Integer" "DigitOnes" "[B") ((List.mem_of_getElem? (i := 1) rfl))) (fun _ h9 => h9) dJ6_getChars_ba4f3_49 ?_
            refine lv_iload hx hb dJ6_getChars_ba4f3_52 (lv_at hl 2 rfl) ?_
            obtain ⟨wq54, n54, f54, hq54, hi54, hm⟩ := hm
            refine mr_bald hx hb hK (mRd hK hP hZ hS) 5 hq54 rfl hi54 dJ6_getChars_ba4f3_54 (fun x54 ex54 => ?_)
            have hm := hm x54 ex54
            obtain ⟨n55, f55, hq55, hi55, hm⟩ := hm
            refine mr_bast hx hb hK hP hD hS 5 hq55 rfl hi55 dJ6_getChars_ba4f3_55 (fun H locs hP hD hS => ?_)
            generalize hup h_22 a2 (eI (c 5) n55 (upd f55 x44.toNatClampNeg (vp_nar .byte x54))) = h55 at hm hP hD
            refine lv_aload_n hx hb dJ6_getChars_ba4f3_56 rfl (lv_at hl 4 rfl) ?_
            obtain ⟨x57, ex57⟩ : ∃ z : Int32, z = (x44 + (-1)) := ⟨_, rfl⟩
            have hm := hm x57 ex57
            refine lv_iinc (k := 0) (v := x57) (lv' := [(5, .int x57), (0, .int x31), (4, .int x38), (3, .int x31), (2, .ref a2), (6, .int (0 : Int32))]) hx hb dJ6_getChars_ba4f3_57 hl rfl ex57.symm (by decide) rfl (fun ls hl => ?_)
            refine lv_iload hx hb dJ6_getChars_ba4f3_60 (lv_at hl 0 rfl) ?_
            refine va_gets hx hb hZ.2.2.2.2.2.2.1 hS hown (hts (.fieldLink RJ6 87 "java/lang/Integer" "DigitTens" "[B") ((List.mem_of_getElem? (i := 2) rfl))) (fun _ h9 => h9) dJ6_getChars_ba4f3_62 ?_
            refine lv_iload hx hb dJ6_getChars_ba4f3_65 (lv_at hl 2 rfl) ?_
            obtain ⟨wq67, n67, f67, hq67, hi67, hm⟩ := hm
            refine mr_bald hx hb hK (mRd hK hP hZ hS) 5 hq67 rfl hi67 dJ6_getChars_ba4f3_67 (fun x67 ex67 => ?_)
            have hm := hm x67 ex67
            obtain ⟨n68, f68, hq68, hi68, hm⟩ := hm
            refine mr_bast hx hb hK hP hD hS 5 hq68 rfl hi68 dJ6_getChars_ba4f3_68 (fun H locs hP hD hS => ?_)
            generalize hup h55 a2 (eI (c 5) n68 (upd f68 x57.toNatClampNeg (vp_nar .byte x67))) = h68 at hm hP hD
            refine lv_goto (tgt := 22) hx hb dJ6_getChars_ba4f3_69 (by decide) ?_
            exact ih_22 h68 x31 x57 H locs ls hP hD hS (lv_sub hl [1, 4, 0, 5] rfl) hm
      exact L_22 n_22 h x20 a1 H locs ls hP hD hS (lv_sub hl [0, 4, 2, 1] rfl) hm
  · exact (c_4 hc4).elim

def w_J5_append_c97b9 (c : Nat → ClassId) (K : (Nat → Nat) × (Nat → Nat)) (h : HW) (a0 : Nat) (a1 : Int32) (mc ms : Nat) (post : Option Nat → HW → Prop) : Prop :=
  gI h a0 12 3 (fun (g1 : Int32) => w_J6_stringSize_0f7a4 c K h a1 (fun (r7 : Int32) (h7 : HW) => ∀ x10 : Int32, x10 = g1 + r7 → ((∃ w fs, h7 a0 = some (w, .inr (12, fs))) ∧ (∃ m14 z14 mB14 zB14 : Nat, mc = m14 + mB14 ∧ ms = z14 + zB14 ∧ w_J5_ensureCapacityInternal_d00df c K h7 a0 x10 m14 z14 (fun (h14 : HW) => (∃ w fs, h14 a0 = some (w, .inr (12, fs))) ∧ w_J5_isLatin1_aae02 c K h14 a0 (fun (r18 : Int32) (h18 : HW) => ¬ r18 = 0 ∧ (gR h18 a0 12 0 (fun (g27 : Nat) => w_J6_getChars_ba4f3 c K h18 a1 x10 g27 (fun (r30 : Int32) (h30 : HW) => pV h30 a0 12 3 (.int x10) (fun (h50 : HW) => post (some a0) h50))))))))))

abbrev rm_J5_append_c97b9 (mc ms : Nat) : Room := { frames := 4, cells := mc, slots := ms, locals := 164 }
theorem he_J5_append_c97b9 : yJ5_append_c97b9.cls ≠ "java/lang/invoke/MethodHandle" ∧ yJ5_append_c97b9.cls ≠ "java/lang/invoke/VarHandle" ∧ (parseMethodDescriptor yJ5_append_c97b9.desc).map (fun d => d.parameters.length) = some 1 := by decide +kernel
theorem heV_J5_append_c97b9 : yJ5_append_c97b9.cls = RJ5 ∧ yJ5_append_c97b9.cls ≠ "java/lang/invoke/MethodHandle" ∧ yJ5_append_c97b9.cls ≠ "java/lang/invoke/VarHandle" ∧ (parseMethodDescriptor yJ5_append_c97b9.desc).map (fun d => d.parameters.length) = some 1 := by decide +kernel
set_option maxHeartbeats 4000000 in
set_option maxRecDepth 100000 in
theorem h_J5_append_c97b9 (l : Launch) (G : va_G) (K : (Nat → Nat) × (Nat → Nat)) (c : Nat → ClassId) (h : HW) (a0 : Nat) (a1 : Int32) (mc ms : Nat) (post : Option Nat → HW → Prop) (hm : w_J5_append_c97b9 c K h a0 a1 mc ms post) : hMq l yJ5_append_c97b9 wsJ5_append_c97b9 (rm_J5_append_c97b9 mc ms) G K (TY c) [.ref a0, .int a1] h mc ms post := by
  refine hMq.of (Or.inl ⟨_, rfl⟩) (cc := cJ5_append_c97b9) (maxL := 4) (lv := [(0, .ref a0), (1, .int a1)]) (by decide) rfl (Nat.le_of_ble_eq_true rfl) rfl ?_
  intro p e s m args below meth c1 A Q H locs hx hb hml hown hmn hts hK hN hZ hXX hP hD hA hS hend ls hl
  have hown : s.vm.findClass RJ5 = some m.cls := hown
  have hi_12 : ∀ w ∈ u_ws RJ4 TJ4 4, w ∈ wsJ5_append_c97b9 := fun w h => (fun w h => List.mem_cons_of_mem _ (List.mem_append_right _ (h))) w h
  unfold w_J5_append_c97b9 at hm
  have hf : 0 + mc ≤ mc ∧ 0 + ms ≤ ms := ⟨by omega, by omega⟩
  refine lv_aload_n hx hb dJ5_append_c97b9_0 rfl (lv_at hl 0 rfl) ?_
  obtain ⟨wq1, fs1, g1, hq1, hv1, hm⟩ := hm
  refine mr_get (ci := 12) (C := RJ4) (T := TJ4) (N := 4) hx hb hts hi_12 hown hK (mRd hK hP hZ hS) hq1 rfl 3 (by decide) (hts (.fieldLink RJ5 79 "java/lang/AbstractStringBuilder" "count" "I") ((List.mem_of_getElem? (i := 1) rfl))) (fun _ h9 => h9) hv1 dJ5_append_c97b9_1 ?_
  refine lv_istore_n (lv' := [(2, .int g1), (0, .ref a0), (1, .int a1)]) hx hb dJ5_append_c97b9_4 rfl hl (by decide) rfl (fun ls hl => ?_)
  refine lv_iload_n hx hb dJ5_append_c97b9_5 rfl (lv_at hl 0 rfl) ?_
  refine lv_iload_n hx hb dJ5_append_c97b9_6 rfl (lv_at hl 2 rfl) ?_
  refine hcSi (As := [.int a1]) (rest := [.int g1]) ⟨hx, hb, hml, hown, hts⟩ (h_J6_stringSize_0f7a4 l G K c h a1 _ hm) (va_cwS 1 hts gJ5_append_c97b9_J6_stringSize_0f7a4 rfl rfl rfl he_J6_stringSize_0f7a4 ⟨Nat.le_of_ble_eq_true rfl, Nat.le_of_ble_eq_true rfl⟩) hK hN hZ hXX hP hD hS hA rfl hl.1 rfl (Nat.le_of_ble_eq_true rfl) dJ5_append_c97b9_7 ⟨by show 0 + 0 ≤ mc; omega, by show 0 + 0 ≤ ms; omega⟩ (fun r7 h7 H locs hm hP hD hS => ?_)
  refine lv_iadd hx hb dJ5_append_c97b9_10 ?_
  refine lv_topi (fun x10 ex10 => ?_)
  have hm := hm x10 ex10
  refine lv_istore_n (lv' := [(3, .int x10), (2, .int g1), (0, .ref a0), (1, .int a1)]) hx hb dJ5_append_c97b9_11 rfl hl (by decide) rfl (fun ls hl => ?_)
  refine lv_aload_n hx hb dJ5_append_c97b9_12 rfl (lv_at hl 2 rfl) ?_
  refine lv_iload_n hx hb dJ5_append_c97b9_13 rfl (lv_at hl 0 rfl) ?_
  obtain ⟨⟨wr14, fr14, hrq14⟩, hm⟩ := hm
  obtain ⟨m14, z14, mB14, zB14, hbm14, hbs14, hm⟩ := hm
  refine hcVUv (As := [.int x10]) (rest := []) ⟨hx, hb, hml, hown, hts⟩ (h_J5_ensureCapacityInternal_d00df l G K c h7 a0 x10 m14 z14 _ hm) (va_cwU 1 hts gJ5_append_c97b9_J5_ensureCapacityInternal_d00df_u100J4 rfl rfl rfl rfl (by decide +kernel) ⟨Nat.le_of_ble_eq_true rfl, Nat.le_of_ble_eq_true rfl⟩) hK hN hZ hXX hP hD hS hA (mr_recv hK (mRd hK hP hZ hS) (ci := 12) rfl hrq14) rfl hl.1 rfl (Nat.le_of_ble_eq_true rfl) dJ5_append_c97b9_14 ⟨by show 0 + m14 ≤ mc; omega, by show 0 + z14 ≤ ms; omega⟩ (fun h14 H locs hm hP hD hS => ?_)
  replace hf : (0 + m14) + mB14 ≤ mc ∧ (0 + z14) + zB14 ≤ ms := ⟨by omega, by omega⟩
  clear hbm14 hbs14
  refine lv_aload_n hx hb dJ5_append_c97b9_17 rfl (lv_at hl 2 rfl) ?_
  obtain ⟨⟨wr18, fr18, hrq18⟩, hm⟩ := hm
  refine hcVUi (As := []) (rest := []) ⟨hx, hb, hml, hown, hts⟩ (h_J5_isLatin1_aae02 l G K c h14 a0 _ hm) (va_cwU 0 hts gJ5_append_c97b9_J5_isLatin1_aae02_u83J4 rfl rfl rfl rfl (by decide +kernel) ⟨Nat.le_of_ble_eq_true rfl, Nat.le_of_ble_eq_true rfl⟩) hK hN hZ hXX hP hD hS hA (mr_recv hK (mRd hK hP hZ hS) (ci := 12) rfl hrq18) rfl hl.1 rfl (Nat.le_of_ble_eq_true rfl) dJ5_append_c97b9_18 ⟨by show (0 + m14) + 0 ≤ mc; omega, by show (0 + z14) + 0 ≤ ms; omega⟩ (fun r18 h18 H locs hm hP hD hS => ?_)
  obtain ⟨hc21, hm⟩ := hm
  refine lv_if_eq (tgt := 37) hx hb dJ5_append_c97b9_21 (by decide) (fun c_21 => ?_) (fun c_21 => ?_)
  · exact (hc21 c_21).elim
  · have hm := hm
    refine lv_iload_n hx hb dJ5_append_c97b9_24 rfl (lv_at hl 3 rfl) ?_
    refine lv_iload_n hx hb dJ5_append_c97b9_25 rfl (lv_at hl 0 rfl) ?_
    refine lv_aload_n hx hb dJ5_append_c97b9_26 rfl (lv_at hl 2 rfl) ?_
    obtain ⟨wq27, fs27, g27, hq27, hv27, hm⟩ := hm
    refine mr_get (ci := 12) (C := RJ4) (T := TJ4) (N := 4) hx hb hts hi_12 hown hK (mRd hK hP hZ hS) hq27 rfl 0 (by decide) (hts (.fieldLink RJ5 15 "java/lang/AbstractStringBuilder" "value" "[B") ((List.mem_of_getElem? (i := 2) rfl))) (fun _ h9 => h9) hv27 dJ5_append_c97b9_27 ?_
    refine hcSi (As := [.int a1, .int x10, .ref g27]) (rest := []) ⟨hx, hb, hml, hown, hts⟩ (h_J6_getChars_ba4f3 l G K c h18 a1 x10 g27 _ hm) (va_cwS 3 hts gJ5_append_c97b9_J6_getChars_ba4f3 rfl rfl rfl he_J6_getChars_ba4f3 ⟨Nat.le_of_ble_eq_true rfl, Nat.le_of_ble_eq_true rfl⟩) hK hN hZ hXX hP hD hS hA rfl hl.1 rfl (Nat.le_of_ble_eq_true rfl) dJ5_append_c97b9_30 ⟨by show (0 + m14) + 0 ≤ mc; omega, by show (0 + z14) + 0 ≤ ms; omega⟩ (fun r30 h30 H locs hm hP hD hS => ?_)
    refine lv_pop hx hb dJ5_append_c97b9_33 rfl ?_
    refine lv_goto (tgt := 48) hx hb dJ5_append_c97b9_34 (by decide) ?_
    refine lv_aload_n hx hb dJ5_append_c97b9_48 rfl (lv_at hl 2 rfl) ?_
    refine lv_iload_n hx hb dJ5_append_c97b9_49 rfl (lv_at hl 0 rfl) ?_
    obtain ⟨fs50, hq50, hl50, hm⟩ := hm
    refine mr_put (v := .int x10) (ci := 12) (C := RJ4) (T := TJ4) (N := 4) hx hb hts hi_12 tyJ4 (fun k hk => tyJ4_ok k (Nat.lt_of_lt_of_le hk (by decide))) (fun a ha b hb => nmJ4 a (Nat.lt_of_lt_of_le ha (by decide)) b (Nat.lt_of_lt_of_le hb (by decide))) hown hK hP hD hS hq50 rfl 3 (by decide) (hts (.fieldLink RJ5 79 "java/lang/AbstractStringBuilder" "count" "I") ((List.mem_of_getElem? (i := 1) rfl))) (fun _ h9 => h9) rfl (tyJ4_ok 3 (by decide)) rfl rfl hl50 dJ5_append_c97b9_50 (fun H locs hP hD hS => ?_)
    generalize hup h30 a0 (.inr (12, fs50.set 3 (.int x10))) = h50 at hm hP hD
    refine lv_aload_n hx hb dJ5_append_c97b9_53 rfl (lv_at hl 2 rfl) ?_
    exact hend H locs ls 54 _ _ (some a0) h50 (by omega) (by omega) hm hP hD hS dJ5_append_c97b9_54

def w_J5_init_d00df (c : Nat → ClassId) (K : (Nat → Nat) × (Nat → Nat)) (h : HW) (a0 : Nat) (a1 : Int32) (mc ms : Nat) (post : HW → Prop) : Prop :=
  ¬ (1 : Int32) = 0 ∧ (nwI h (c 5) a1 mc ms (fun (q12 : Nat) (h12 : HW) (mB12 zB12 : Nat) => pV h12 a0 12 0 (.ref q12) (fun (h14 : HW) => pB h14 a0 12 1 (0 : Int32) (fun (h19 : HW) => post h19))))

abbrev rm_J5_init_d00df (mc ms : Nat) : Room := { frames := 1, cells := mc, slots := ms, locals := 80 }
theorem he_J5_init_d00df : yJ5_init_d00df.cls ≠ "java/lang/invoke/MethodHandle" ∧ yJ5_init_d00df.cls ≠ "java/lang/invoke/VarHandle" ∧ (parseMethodDescriptor yJ5_init_d00df.desc).map (fun d => d.parameters.length) = some 1 := by decide +kernel
theorem heV_J5_init_d00df : yJ5_init_d00df.cls = RJ5 ∧ yJ5_init_d00df.cls ≠ "java/lang/invoke/MethodHandle" ∧ yJ5_init_d00df.cls ≠ "java/lang/invoke/VarHandle" ∧ (parseMethodDescriptor yJ5_init_d00df.desc).map (fun d => d.parameters.length) = some 1 := by decide +kernel
set_option maxHeartbeats 4000000 in
set_option maxRecDepth 100000 in
theorem h_J5_init_d00df (l : Launch) (G : va_G) (K : (Nat → Nat) × (Nat → Nat)) (c : Nat → ClassId) (h : HW) (a0 : Nat) (a1 : Int32) (mc ms : Nat) (post : HW → Prop) (hm : w_J5_init_d00df c K h a0 a1 mc ms post) : hMv l yJ5_init_d00df wsJ5_init_d00df (rm_J5_init_d00df mc ms) G K (TY c) [.ref a0, .int a1] h mc ms post := by
  refine hMv.of (cc := cJ5_init_d00df) (maxL := 2) (lv := [(0, .ref a0), (1, .int a1)]) (by decide) rfl (Nat.le_of_ble_eq_true rfl) rfl ?_
  intro p e s m args below meth c1 A Q H locs hx hb hml hown hmn hts hK hN hZ hXX hP hD hA hS hend ls hl
  have hown : s.vm.findClass RJ5 = some m.cls := hown
  have hi_12 : ∀ w ∈ u_ws RJ4 TJ4 4, w ∈ wsJ5_init_d00df := fun w h => (fun w h => List.mem_cons_of_mem _ (List.mem_append_right _ (h))) w h
  unfold w_J5_init_d00df at hm
  have hf : 0 + mc ≤ mc ∧ 0 + ms ≤ ms := ⟨by omega, by omega⟩
  refine lv_aload_n hx hb dJ5_init_d00df_0 rfl (lv_at hl 0 rfl) ?_
  refine W.objInit hx hb hown (hts (.methodLink RJ5 3 objectInit) ((List.mem_of_getElem? (i := 1) rfl))) (hts (.instanceMethod objectInit) ((List.mem_of_getElem? (i := 2) rfl))) (hts (.code objectInit ⟨#[0xb1]⟩ 1 none) ((List.mem_of_getElem? (i := 3) rfl))) rfl (hl.1.trans hml.symm) rfl dJ5_init_d00df_1 (Nat.le_of_ble_eq_true rfl) (Nat.le_of_ble_eq_true rfl) ?_
  show W p l e _ s m args below meth c1 _ _ _ _ _ (F0 m 4 ls [])
  refine va_gets hx hb hZ.2.1 hS hown (hts (.fieldLink RJ5 18 "java/lang/String" "COMPACT_STRINGS" "Z") ((List.mem_of_getElem? (i := 4) rfl))) (fun _ h9 => h9) dJ5_init_d00df_4 ?_
  obtain ⟨hc7, hm⟩ := hm
  refine lv_if_eq (tgt := 25) hx hb dJ5_init_d00df_7 (by decide) (fun c_7 => ?_) (fun c_7 => ?_)
  · exact (hc7 c_7).elim
  · have hm := hm
    refine lv_aload_n hx hb dJ5_init_d00df_10 rfl (lv_at hl 0 rfl) ?_
    refine lv_iload_n hx hb dJ5_init_d00df_11 rfl (lv_at hl 1 rfl) ?_
    obtain ⟨hn12, hb12, mB12, zB12, hc12, hs12, hm⟩ := hm
    refine mr_newa (atype := .byte) (a0 := (fun N => (N, .inl (fun _ => 0)))) hx hb (hts (.arrayClass .byte) ((List.mem_of_getElem? (i := 5) rfl))) hK 5 rfl hP hD hS hA (fun _ => rfl) hn12 (c65 hb12 (by decide)) (by show 0 + 1 ≤ mc; omega) (by show 0 + _ ≤ ms; omega) dJ5_init_d00df_12 (fun q12 H hfr12 hP hD hS => ?_)
    have hm := hm q12 hfr12
    generalize hup h q12 (eI (c 5) a1.toNatClampNeg (fun _ => 0)) = h12 at hm hP hD
    replace hf : (0 + 1) + mB12 ≤ mc ∧ (0 + a1.toNatClampNeg) + zB12 ≤ ms := ⟨by omega, by omega⟩
    clear hc12 hs12 hb12
    obtain ⟨fs14, hq14, hl14, hm⟩ := hm
    refine mr_put (v := .ref q12) (ci := 12) (C := RJ4) (T := TJ4) (N := 4) hx hb hts hi_12 tyJ4 (fun k hk => tyJ4_ok k (Nat.lt_of_lt_of_le hk (by decide))) (fun a ha b hb => nmJ4 a (Nat.lt_of_lt_of_le ha (by decide)) b (Nat.lt_of_lt_of_le hb (by decide))) hown hK hP hD hS hq14 rfl 0 (by decide) (hts (.fieldLink RJ5 15 "java/lang/AbstractStringBuilder" "value" "[B") ((List.mem_of_getElem? (i := 6) rfl))) (fun _ h9 => h9) rfl (tyJ4_ok 0 (by decide)) rfl rfl hl14 dJ5_init_d00df_14 (fun H locs hP hD hS => ?_)
    generalize hup h12 a0 (.inr (12, fs14.set 0 (.ref q12))) = h14 at hm hP hD
    refine lv_aload_n hx hb dJ5_init_d00df_17 rfl (lv_at hl 0 rfl) ?_
    refine lv_iconst (v := 0) hx hb dJ5_init_d00df_18 (by decide) ?_
    obtain ⟨fs19, hq19, hl19, hz19, hm⟩ := hm
    refine mr_put (v := .int (0 : Int32)) (ci := 12) (C := RJ4) (T := TJ4) (N := 4) hx hb hts hi_12 tyJ4 (fun k hk => tyJ4_ok k (Nat.lt_of_lt_of_le hk (by decide))) (fun a ha b hb => nmJ4 a (Nat.lt_of_lt_of_le ha (by decide)) b (Nat.lt_of_lt_of_le hb (by decide))) hown hK hP hD hS hq19 rfl 1 (by decide) (hts (.fieldLink RJ5 22 "java/lang/AbstractStringBuilder" "coder" "B") ((List.mem_of_getElem? (i := 7) rfl))) (fun _ h9 => h9) rfl (tyJ4_ok 1 (by decide)) hz19.1 hz19.2 hl19 dJ5_init_d00df_19 (fun H locs hP hD hS => ?_)
    generalize hup h14 a0 (.inr (12, fs19.set 1 (.int (0 : Int32)))) = h19 at hm hP hD
    refine lv_goto (tgt := 38) hx hb dJ5_init_d00df_22 (by decide) ?_
    exact hend H locs ls 38 _ _ h19 (by omega) (by omega) hm hP hD hS dJ5_init_d00df_38

