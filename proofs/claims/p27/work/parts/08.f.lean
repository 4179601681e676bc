/-! walks of the law's own methods over maps -/
def w_J0_checkIndex_df160 (c : Nat → ClassId) (K : (Nat → Nat) × (Nat → Nat)) (h : HW) (a0 a1 : Int32) (post : HW → Prop) : Prop := ¬ a0 < 0 ∧ a0 < a1 ∧ post h
theorem he_J0_checkIndex_df160 : yJ0_checkIndex_df160.cls ≠ "java/lang/invoke/MethodHandle" ∧ yJ0_checkIndex_df160.cls ≠ "java/lang/invoke/VarHandle" ∧ (parseMethodDescriptor yJ0_checkIndex_df160.desc).map (fun d => d.parameters.length) = some 2 := hd_J0_checkIndex_df160.2
theorem h_J0_checkIndex_df160 (l : Launch) (G : va_G) (K : (Nat → Nat) × (Nat → Nat)) (c : Nat → ClassId) (h : HW) (a0 a1 : Int32) (post : HW → Prop) (hm : w_J0_checkIndex_df160 c K h a0 a1 post) : hMv l yJ0_checkIndex_df160 wsJ0_checkIndex_df160 rm_s1 G K (TY c) [.int a0, .int a1] h 0 0 post :=
  hMv_z (k_scheck l G K c a0 a1 hm.1 hm.2.1) hHas_nil hD_nil (fun h1 q => by rw [hNx_nil q]; exact hm.2.2)
def w_J0_coder_7d493 (c : Nat → ClassId) (K : (Nat → Nat) × (Nat → Nat)) (h : HW) (a0 : Nat) (post : Int32 → HW → Prop) : Prop :=
  ¬ (1 : Int32) = 0 ∧ (gI h a0 11 1 (fun (g7 : Int32) => (narrow .byte (.int g7) = .int g7) ∧ post g7 h))

abbrev rm_J0_coder_7d493 : Room := { frames := 0, cells := 0, slots := 0, locals := 0 }
theorem he_J0_coder_7d493 : yJ0_coder_7d493.cls ≠ "java/lang/invoke/MethodHandle" ∧ yJ0_coder_7d493.cls ≠ "java/lang/invoke/VarHandle" ∧ (parseMethodDescriptor yJ0_coder_7d493.desc).map (fun d => d.parameters.length) = some 0 := by decide +kernel
theorem heV_J0_coder_7d493 : yJ0_coder_7d493.cls = RJ0 ∧ yJ0_coder_7d493.cls ≠ "java/lang/invoke/MethodHandle" ∧ yJ0_coder_7d493.cls ≠ "java/lang/invoke/VarHandle" ∧ (parseMethodDescriptor yJ0_coder_7d493.desc).map (fun d => d.parameters.length) = some 0 := by decide +kernel
set_option maxHeartbeats 4000000 in
set_option maxRecDepth 100000 in
theorem h_J0_coder_7d493 (l : Launch) (G : va_G) (K : (Nat → Nat) × (Nat → Nat)) (c : Nat → ClassId) (h : HW) (a0 : Nat) (post : Int32 → HW → Prop) (hm : w_J0_coder_7d493 c K h a0 post) : hMi l yJ0_coder_7d493 wsJ0_coder_7d493 (rm_J0_coder_7d493) G K (TY c) [.ref a0] h 0 0 post := by
  refine hMi.of (cc := cJ0_coder_7d493) (maxL := 1) (lv := [(0, .ref a0)]) (by decide) rfl (Nat.le_of_ble_eq_true rfl) rfl ?_
  intro p e s m args below meth c1 A Q H locs hx hb hml hown hmn hts hK hN hZ hXX hP hD hA hS hend ls hl
  have hown : s.vm.findClass RJ0 = some m.cls := hown
  have hi_11 : ∀ w ∈ u_ws RJ0 TJ0 2, w ∈ wsJ0_coder_7d493 := fun w h => (fun w h => List.mem_cons_of_mem _ (List.mem_append_right _ (h))) w (uws_le (by decide) w h)
  unfold w_J0_coder_7d493 at hm
  refine va_gets hx hb hZ.2.1 hS hown (hts (.fieldLink RJ0 38 "java/lang/String" "COMPACT_STRINGS" "Z") ((List.mem_of_getElem? (i := 1) rfl))) (fun _ h9 => h9) dJ0_coder_7d493_0 ?_
  obtain ⟨hc3, hm⟩ := hm
  refine lv_if_eq (tgt := 13) hx hb dJ0_coder_7d493_3 (by decide) (fun c_3 => ?_) (fun c_3 => ?_)
  · exact (hc3 c_3).elim
  · have hm := hm
    refine lv_aload_n hx hb dJ0_coder_7d493_6 rfl (lv_at hl 0 rfl) ?_
    obtain ⟨wq7, fs7, g7, hq7, hv7, hm⟩ := hm
    refine mr_get (ci := 11) (C := RJ0) (T := TJ0) (N := 2) hx hb hts hi_11 hown hK (mRd hK hP hZ hS) hq7 rfl 1 (by decide) (hts (.fieldLink RJ0 15 "java/lang/String" "coder" "B") ((List.mem_of_getElem? (i := 2) rfl))) (fun _ h9 => h9) hv7 dJ0_coder_7d493_7 ?_
    refine lv_goto (tgt := 14) hx hb dJ0_coder_7d493_10 (by decide) ?_
    obtain ⟨hz, hm⟩ := hm
    exact hend H locs ls 14 _ _ g7 h (Nat.le_refl _) (Nat.le_refl _) hz hm hP hD hS dJ0_coder_7d493_14

def w_J0_isLatin1_aae02 (c : Nat → ClassId) (K : (Nat → Nat) × (Nat → Nat)) (h : HW) (a0 : Nat) (post : Int32 → HW → Prop) : Prop :=
  ¬ (1 : Int32) = 0 ∧ (gI h a0 11 1 (fun (g7 : Int32) => g7 = 0 ∧ (((1 : Int32) = 0 ∨ (1 : Int32) = 1) ∧ post (1 : Int32) h)))

abbrev rm_J0_isLatin1_aae02 : Room := { frames := 0, cells := 0, slots := 0, locals := 0 }
theorem he_J0_isLatin1_aae02 : yJ0_isLatin1_aae02.cls ≠ "java/lang/invoke/MethodHandle" ∧ yJ0_isLatin1_aae02.cls ≠ "java/lang/invoke/VarHandle" ∧ (parseMethodDescriptor yJ0_isLatin1_aae02.desc).map (fun d => d.parameters.length) = some 0 := by decide +kernel
theorem heV_J0_isLatin1_aae02 : yJ0_isLatin1_aae02.cls = RJ0 ∧ yJ0_isLatin1_aae02.cls ≠ "java/lang/invoke/MethodHandle" ∧ yJ0_isLatin1_aae02.cls ≠ "java/lang/invoke/VarHandle" ∧ (parseMethodDescriptor yJ0_isLatin1_aae02.desc).map (fun d => d.parameters.length) = some 0 := by decide +kernel
set_option maxHeartbeats 4000000 in
set_option maxRecDepth 100000 in
theorem h_J0_isLatin1_aae02 (l : Launch) (G : va_G) (K : (Nat → Nat) × (Nat → Nat)) (c : Nat → ClassId) (h : HW) (a0 : Nat) (post : Int32 → HW → Prop) (hm : w_J0_isLatin1_aae02 c K h a0 post) : hMi l yJ0_isLatin1_aae02 wsJ0_isLatin1_aae02 (rm_J0_isLatin1_aae02) G K (TY c) [.ref a0] h 0 0 post := by
  refine hMi.of (cc := cJ0_isLatin1_aae02) (maxL := 1) (lv := [(0, .ref a0)]) (by decide) rfl (Nat.le_of_ble_eq_true rfl) rfl ?_
  intro p e s m args below meth c1 A Q H locs hx hb hml hown hmn hts hK hN hZ hXX hP hD hA hS hend ls hl
  have hown : s.vm.findClass RJ0 = some m.cls := hown
  have hi_11 : ∀ w ∈ u_ws RJ0 TJ0 2, w ∈ wsJ0_isLatin1_aae02 := fun w h => (fun w h => List.mem_cons_of_mem _ (List.mem_append_right _ (h))) w (uws_le (by decide) w h)
  unfold w_J0_isLatin1_aae02 at hm
  refine va_gets hx hb hZ.2.1 hS hown (hts (.fieldLink RJ0 38 "java/lang/String" "COMPACT_STRINGS" "Z") ((List.mem_of_getElem? (i := 1) rfl))) (fun _ h9 => h9) dJ0_isLatin1_aae02_0 ?_
  obtain ⟨hc3, hm⟩ := hm
  refine lv_if_eq (tgt := 17) hx hb dJ0_isLatin1_aae02_3 (by decide) (fun c_3 => ?_) (fun c_3 => ?_)
  · exact (hc3 c_3).elim
  · have hm := hm
    refine lv_aload_n hx hb dJ0_isLatin1_aae02_6 rfl (lv_at hl 0 rfl) ?_
    obtain ⟨wq7, fs7, g7, hq7, hv7, hm⟩ := hm
    refine mr_get (ci := 11) (C := RJ0) (T := TJ0) (N := 2) hx hb hts hi_11 hown hK (mRd hK hP hZ hS) hq7 rfl 1 (by decide) (hts (.fieldLink RJ0 15 "java/lang/String" "coder" "B") ((List.mem_of_getElem? (i := 2) rfl))) (fun _ h9 => h9) hv7 dJ0_isLatin1_aae02_7 ?_
    obtain ⟨hc10, hm⟩ := hm
    refine lv_if_ne (tgt := 17) hx hb dJ0_isLatin1_aae02_10 (by decide) (fun c_10 => ?_) (fun c_10 => ?_)
    · exact (c_10 hc10).elim
    · have hm := hm
      refine lv_iconst (v := 1) hx hb dJ0_isLatin1_aae02_13 (by decide) ?_
      refine lv_goto (tgt := 18) hx hb dJ0_isLatin1_aae02_14 (by decide) ?_
      obtain ⟨hz, hm⟩ := hm
      exact hend H locs ls 18 _ _ (1 : Int32) h (Nat.le_refl _) (Nat.le_refl _) (z01_n hz) hm hP hD hS dJ0_isLatin1_aae02_18

def w_J0_length_8abf5 (c : Nat → ClassId) (K : (Nat → Nat) × (Nat → Nat)) (h : HW) (a0 : Nat) (post : Int32 → HW → Prop) : Prop :=
  gR h a0 11 0 (fun (g1 : Nat) => lenA h (c 5) g1 (fun (x4 : Int32) => (∃ w fs, h a0 = some (w, .inr (11, fs))) ∧ w_J0_coder_7d493 c K h a0 (fun (r6 : Int32) (h6 : HW) => ∀ x9 : Int32, x9 = x4 >>> (r6 &&& 31) → (post x9 h6))))

abbrev rm_J0_length_8abf5 : Room := { frames := 1, cells := 0, slots := 0, locals := 20 }
theorem he_J0_length_8abf5 : yJ0_length_8abf5.cls ≠ "java/lang/invoke/MethodHandle" ∧ yJ0_length_8abf5.cls ≠ "java/lang/invoke/VarHandle" ∧ (parseMethodDescriptor yJ0_length_8abf5.desc).map (fun d => d.parameters.length) = some 0 := by decide +kernel
theorem heV_J0_length_8abf5 : yJ0_length_8abf5.cls = RJ0 ∧ yJ0_length_8abf5.cls ≠ "java/lang/invoke/MethodHandle" ∧ yJ0_length_8abf5.cls ≠ "java/lang/invoke/VarHandle" ∧ (parseMethodDescriptor yJ0_length_8abf5.desc).map (fun d => d.parameters.length) = some 0 := by decide +kernel
set_option maxHeartbeats 4000000 in
set_option maxRecDepth 100000 in
theorem h_J0_length_8abf5 (l : Launch) (G : va_G) (K : (Nat → Nat) × (Nat → Nat)) (c : Nat → ClassId) (h : HW) (a0 : Nat) (post : Int32 → HW → Prop) (hm : w_J0_length_8abf5 c K h a0 post) : hMi l yJ0_length_8abf5 wsJ0_length_8abf5 (rm_J0_length_8abf5) G K (TY c) [.ref a0] h 0 0 post := by
  refine hMi.of (cc := cJ0_length_8abf5) (maxL := 1) (lv := [(0, .ref a0)]) (by decide) rfl (Nat.le_of_ble_eq_true rfl) rfl ?_
  intro p e s m args below meth c1 A Q H locs hx hb hml hown hmn hts hK hN hZ hXX hP hD hA hS hend ls hl
  have hown : s.vm.findClass RJ0 = some m.cls := hown
  have hi_11 : ∀ w ∈ u_ws RJ0 TJ0 2, w ∈ wsJ0_length_8abf5 := fun w h => (fun w h => List.mem_cons_of_mem _ (List.mem_append_right _ (h))) w (uws_le (by decide) w h)
  unfold w_J0_length_8abf5 at hm
  refine lv_aload_n hx hb dJ0_length_8abf5_0 rfl (lv_at hl 0 rfl) ?_
  obtain ⟨wq1, fs1, g1, hq1, hv1, hm⟩ := hm
  refine mr_get (ci := 11) (C := RJ0) (T := TJ0) (N := 2) hx hb hts hi_11 hown hK (mRd hK hP hZ hS) hq1 rfl 0 (by decide) (hts (.fieldLink RJ0 9 "java/lang/String" "value" "[B") ((List.mem_of_getElem? (i := 1) rfl))) (fun _ h9 => h9) hv1 dJ0_length_8abf5_1 ?_
  obtain ⟨wq4, xx4, hq4, hm⟩ := hm
  refine mr_alen hx hb hK (mRd hK hP hZ hS) 5 hq4 rfl dJ0_length_8abf5_4 (fun x4 ex4 => ?_)
  have hm := hm x4 ex4
  refine lv_aload_n hx hb dJ0_length_8abf5_5 rfl (lv_at hl 0 rfl) ?_
  obtain ⟨⟨wr6, fr6, hrq6⟩, hm⟩ := hm
  refine hcVi (As := []) (rest := [.int x4]) ⟨hx, hb, hml, hown, hts⟩ (h_J0_coder_7d493 l G K c h a0 _ hm) (cwV 0 hts gJ0_length_8abf5_J0_coder_7d493 rfl rfl rfl (heV_J0_coder_7d493) ⟨Nat.le_of_ble_eq_true rfl, Nat.le_of_ble_eq_true rfl⟩) hK hN hZ hXX hP hD hS hA (mr_recv hK (mRd hK hP hZ hS) (ci := 11) rfl hrq6) rfl hl.1 rfl (Nat.le_of_ble_eq_true rfl) dJ0_length_8abf5_6 ⟨Nat.le_refl _, Nat.le_refl _⟩ (fun r6 h6 H locs hm hP hD hS => ?_)
  refine lv_ishr hx hb dJ0_length_8abf5_9 ?_
  refine lv_topi (fun x9 ex9 => ?_)
  have hm := hm x9 ex9
  exact hend H locs ls 10 _ _ x9 h6 (Nat.le_refl _) (Nat.le_refl _) rfl hm hP hD hS dJ0_length_8abf5_10

def w_J1_charAt_3b067 (c : Nat → ClassId) (K : (Nat → Nat) × (Nat → Nat)) (h : HW) (a0 : Nat) (a1 : Int32) (post : Int32 → HW → Prop) : Prop :=
  lenA h (c 5) a0 (fun (x2 : Int32) => w_J0_checkIndex_df160 c K h a1 x2 (fun (h3 : HW) => lI h3 (c 5) a0 a1 (fun (x8 : Int32) => ∀ x12 : Int32, x12 = x8 &&& (255 : Int32) → (∀ x13 : Int32, x13 = (x12.toUInt32 % 65536).toInt32 → ((narrow .char (.int x13) = .int x13) ∧ post x13 h3)))))

abbrev rm_J1_charAt_3b067 : Room := { frames := 2, cells := 0, slots := 0, locals := 51 }
theorem he_J1_charAt_3b067 : yJ1_charAt_3b067.cls ≠ "java/lang/invoke/MethodHandle" ∧ yJ1_charAt_3b067.cls ≠ "java/lang/invoke/VarHandle" ∧ (parseMethodDescriptor yJ1_charAt_3b067.desc).map (fun d => d.parameters.length) = some 2 := by decide +kernel
theorem heV_J1_charAt_3b067 : yJ1_charAt_3b067.cls = RJ1 ∧ yJ1_charAt_3b067.cls ≠ "java/lang/invoke/MethodHandle" ∧ yJ1_charAt_3b067.cls ≠ "java/lang/invoke/VarHandle" ∧ (parseMethodDescriptor yJ1_charAt_3b067.desc).map (fun d => d.parameters.length) = some 2 := by decide +kernel
set_option maxHeartbeats 4000000 in
set_option maxRecDepth 100000 in
theorem h_J1_charAt_3b067 (l : Launch) (G : va_G) (K : (Nat → Nat) × (Nat → Nat)) (c : Nat → ClassId) (h : HW) (a0 : Nat) (a1 : Int32) (post : Int32 → HW → Prop) (hm : w_J1_charAt_3b067 c K h a0 a1 post) : hMi l yJ1_charAt_3b067 wsJ1_charAt_3b067 (rm_J1_charAt_3b067) G K (TY c) [.ref a0, .int a1] h 0 0 post := by
  refine hMi.of (cc := cJ1_charAt_3b067) (maxL := 2) (lv := [(0, .ref a0), (1, .int a1)]) (by decide) rfl (Nat.le_of_ble_eq_true rfl) rfl ?_
  intro p e s m args below meth c1 A Q H locs hx hb hml hown hmn hts hK hN hZ hXX hP hD hA hS hend ls hl
  have hown : s.vm.findClass RJ1 = some m.cls := hown
  unfold w_J1_charAt_3b067 at hm
  refine lv_iload_n hx hb dJ1_charAt_3b067_0 rfl (lv_at hl 1 rfl) ?_
  refine lv_aload_n hx hb dJ1_charAt_3b067_1 rfl (lv_at hl 0 rfl) ?_
  obtain ⟨wq2, xx2, hq2, hm⟩ := hm
  refine mr_alen hx hb hK (mRd hK hP hZ hS) 5 hq2 rfl dJ1_charAt_3b067_2 (fun x2 ex2 => ?_)
  have hm := hm x2 ex2
  refine hcSv (As := [.int a1, .int x2]) (rest := []) ⟨hx, hb, hml, hown, hts⟩ (h_J0_checkIndex_df160 l G K c h a1 x2 _ hm) (va_cwS 2 hts gJ1_charAt_3b067_J0_checkIndex_df160 rfl rfl rfl he_J0_checkIndex_df160 ⟨Nat.le_of_ble_eq_true rfl, Nat.le_of_ble_eq_true rfl⟩) hK hN hZ hXX hP hD hS hA rfl hl.1 rfl (Nat.le_of_ble_eq_true rfl) dJ1_charAt_3b067_3 ⟨Nat.le_refl _, Nat.le_refl _⟩ (fun h3 H locs hm hP hD hS => ?_)
  refine lv_aload_n hx hb dJ1_charAt_3b067_6 rfl (lv_at hl 0 rfl) ?_
  refine lv_iload_n hx hb dJ1_charAt_3b067_7 rfl (lv_at hl 1 rfl) ?_
  obtain ⟨wq8, n8, f8, hq8, hi8, hm⟩ := hm
  refine mr_bald hx hb hK (mRd hK hP hZ hS) 5 hq8 rfl hi8 dJ1_charAt_3b067_8 (fun x8 ex8 => ?_)
  have hm := hm x8 ex8
  refine lv_sipush (v := 255) hx hb dJ1_charAt_3b067_9 (by decide) ?_
  refine lv_iand hx hb dJ1_charAt_3b067_12 ?_
  refine lv_topi (fun x12 ex12 => ?_)
  have hm := hm x12 ex12
  refine lv_i2c hx hb dJ1_charAt_3b067_13 rfl ?_
  refine lv_topi (fun x13 ex13 => ?_)
  have hm := hm x13 ex13
  obtain ⟨hz, hm⟩ := hm
  exact hend H locs ls 14 _ _ x13 h3 (Nat.le_refl _) (Nat.le_refl _) hz hm hP hD hS dJ1_charAt_3b067_14

def w_J0_charAt_5068e (c : Nat → ClassId) (K : (Nat → Nat) × (Nat → Nat)) (h : HW) (a0 : Nat) (a1 : Int32) (post : Int32 → HW → Prop) : Prop :=
  (∃ w fs, h a0 = some (w, .inr (11, fs))) ∧ w_J0_isLatin1_aae02 c K h a0 (fun (r1 : Int32) (h1 : HW) => ¬ r1 = 0 ∧ (gR h1 a0 11 0 (fun (g8 : Nat) => w_J1_charAt_3b067 c K h1 g8 a1 (fun (r12 : Int32) (h12 : HW) => (narrow .char (.int r12) = .int r12) ∧ post r12 h12))))

abbrev rm_J0_charAt_5068e : Room := { frames := 3, cells := 0, slots := 0, locals := 72 }
theorem he_J0_charAt_5068e : yJ0_charAt_5068e.cls ≠ "java/lang/invoke/MethodHandle" ∧ yJ0_charAt_5068e.cls ≠ "java/lang/invoke/VarHandle" ∧ (parseMethodDescriptor yJ0_charAt_5068e.desc).map (fun d => d.parameters.length) = some 1 := by decide +kernel
theorem heV_J0_charAt_5068e : yJ0_charAt_5068e.cls = RJ0 ∧ yJ0_charAt_5068e.cls ≠ "java/lang/invoke/MethodHandle" ∧ yJ0_charAt_5068e.cls ≠ "java/lang/invoke/VarHandle" ∧ (parseMethodDescriptor yJ0_charAt_5068e.desc).map (fun d => d.parameters.length) = some 1 := by decide +kernel
set_option maxHeartbeats 4000000 in
set_option maxRecDepth 100000 in
theorem h_J0_charAt_5068e (l : Launch) (G : va_G) (K : (Nat → Nat) × (Nat → Nat)) (c : Nat → ClassId) (h : HW) (a0 : Nat) (a1 : Int32) (post : Int32 → HW → Prop) (hm : w_J0_charAt_5068e c K h a0 a1 post) : hMi l yJ0_charAt_5068e wsJ0_charAt_5068e (rm_J0_charAt_5068e) G K (TY c) [.ref a0, .int a1] h 0 0 post := by
  refine hMi.of (cc := cJ0_charAt_5068e) (maxL := 2) (lv := [(0, .ref a0), (1, .int a1)]) (by decide) rfl (Nat.le_of_ble_eq_true rfl) rfl ?_
  intro p e s m args below meth c1 A Q H locs hx hb hml hown hmn hts hK hN hZ hXX hP hD hA hS hend ls hl
  have hown : s.vm.findClass RJ0 = some m.cls := hown
  have hi_11 : ∀ w ∈ u_ws RJ0 TJ0 2, w ∈ wsJ0_charAt_5068e := fun w h => (fun w h => List.mem_cons_of_mem _ (List.mem_append_right _ (h))) w (uws_le (by decide) w h)
  unfold w_J0_charAt_5068e at hm
  refine lv_aload_n hx hb dJ0_charAt_5068e_0 rfl (lv_at hl 0 rfl) ?_
  obtain ⟨⟨wr1, fr1, hrq1⟩, hm⟩ := hm
  refine hcVi (As := []) (rest := []) ⟨hx, hb, hml, hown, hts⟩ (h_J0_isLatin1_aae02 l G K c h a0 _ hm) (cwV 0 hts gJ0_charAt_5068e_J0_isLatin1_aae02 rfl rfl rfl (heV_J0_isLatin1_aae02) ⟨Nat.le_of_ble_eq_true rfl, Nat.le_of_ble_eq_true rfl⟩) hK hN hZ hXX hP hD hS hA (mr_recv hK (mRd hK hP hZ hS) (ci := 11) rfl hrq1) rfl hl.1 rfl (Nat.le_of_ble_eq_true rfl) dJ0_charAt_5068e_1 ⟨Nat.le_refl _, Nat.le_refl _⟩ (fun r1 h1 H locs hm hP hD hS => ?_)
  obtain ⟨hc4, hm⟩ := hm
  refine lv_if_eq (tgt := 16) hx hb dJ0_charAt_5068e_4 (by decide) (fun c_4 => ?_) (fun c_4 => ?_)
  · exact (hc4 c_4).elim
  · have hm := hm
    refine lv_aload_n hx hb dJ0_charAt_5068e_7 rfl (lv_at hl 0 rfl) ?_
    obtain ⟨wq8, fs8, g8, hq8, hv8, hm⟩ := hm
    refine mr_get (ci := 11) (C := RJ0) (T := TJ0) (N := 2) hx hb hts hi_11 hown hK (mRd hK hP hZ hS) hq8 rfl 0 (by decide) (hts (.fieldLink RJ0 9 "java/lang/String" "value" "[B") ((List.mem_of_getElem? (i := 1) rfl))) (fun _ h9 => h9) hv8 dJ0_charAt_5068e_8 ?_
    refine lv_iload_n hx hb dJ0_charAt_5068e_11 rfl (lv_at hl 1 rfl) ?_
    refine hcSi (As := [.ref g8, .int a1]) (rest := []) ⟨hx, hb, hml, hown, hts⟩ (h_J1_charAt_3b067 l G K c h1 g8 a1 _ hm) (va_cwS 2 hts gJ0_charAt_5068e_J1_charAt_3b067 rfl rfl rfl he_J1_charAt_3b067 ⟨Nat.le_of_ble_eq_true rfl, Nat.le_of_ble_eq_true rfl⟩) hK hN hZ hXX hP hD hS hA rfl hl.1 rfl (Nat.le_of_ble_eq_true rfl) dJ0_charAt_5068e_12 ⟨Nat.le_refl _, Nat.le_refl _⟩ (fun r12 h12 H locs hm hP hD hS => ?_)
    obtain ⟨hz, hm⟩ := hm
    exact hend H locs ls 15 _ _ r12 h12 (Nat.le_refl _) (Nat.le_refl _) hz hm hP hD hS dJ0_charAt_5068e_15

def w_J7_checkLength_df160 (c : Nat → ClassId) (K : (Nat → Nat) × (Nat → Nat)) (h : HW) (a0 : Int32) (a1 : Int32) (post : HW → Prop) : Prop :=
  a0 ≤ a1 ∧ (post h)

abbrev rm_J7_checkLength_df160 : Room := { frames := 0, cells := 0, slots := 0, locals := 0 }
theorem he_J7_checkLength_df160 : yJ7_checkLength_df160.cls ≠ "java/lang/invoke/MethodHandle" ∧ yJ7_checkLength_df160.cls ≠ "java/lang/invoke/VarHandle" ∧ (parseMethodDescriptor yJ7_checkLength_df160.desc).map (fun d => d.parameters.length) = some 2 := by decide +kernel
theorem heV_J7_checkLength_df160 : yJ7_checkLength_df160.cls = RJ7 ∧ yJ7_checkLength_df160.cls ≠ "java/lang/invoke/MethodHandle" ∧ yJ7_checkLength_df160.cls ≠ "java/lang/invoke/VarHandle" ∧ (parseMethodDescriptor yJ7_checkLength_df160.desc).map (fun d => d.parameters.length) = some 2 := by decide +kernel
set_option maxHeartbeats 4000000 in
set_option maxRecDepth 100000 in
theorem h_J7_checkLength_df160 (l : Launch) (G : va_G) (K : (Nat → Nat) × (Nat → Nat)) (c : Nat → ClassId) (h : HW) (a0 : Int32) (a1 : Int32) (post : HW → Prop) (hm : w_J7_checkLength_df160 c K h a0 a1 post) : hMv l yJ7_checkLength_df160 wsJ7_checkLength_df160 (rm_J7_checkLength_df160) G K (TY c) [.int a0, .int a1] h 0 0 post := by
  refine hMv.of (cc := cJ7_checkLength_df160) (maxL := 2) (lv := [(0, .int a0), (1, .int a1)]) (by decide) rfl (Nat.le_of_ble_eq_true rfl) rfl ?_
  intro p e s m args below meth c1 A Q H locs hx hb hml hown hmn hts hK hN hZ hXX hP hD hA hS hend ls hl
  have hown : s.vm.findClass RJ7 = some m.cls := hown
  unfold w_J7_checkLength_df160 at hm
  refine lv_iload_n hx hb dJ7_checkLength_df160_0 rfl (lv_at hl 1 rfl) ?_
  refine lv_iload_n hx hb dJ7_checkLength_df160_1 rfl (lv_at hl 0 rfl) ?_
  obtain ⟨hc2, hm⟩ := hm
  refine lv_icmp_ge (tgt := 37) hx hb dJ7_checkLength_df160_2 (by decide) (fun c_2 => ?_) (fun c_2 => ?_)
  · have hm := hm
    exact hend H locs ls 37 _ _ h (Nat.le_refl _) (Nat.le_refl _) hm hP hD hS dJ7_checkLength_df160_37
  · exact (c_2 hc2).elim

def w_J7_copyOfRangeByte_39247 (c : Nat → ClassId) (K : (Nat → Nat) × (Nat → Nat)) (h : HW) (a0 : Nat) (a1 : Int32) (a2 : Int32) (mc ms : Nat) (post : Option Nat → HW → Prop) : Prop :=
  w_J7_checkLength_df160 c K h a1 a2 (fun (h2 : HW) => ∀ x7 : Int32, x7 = a2 - a1 → (nwI h2 (c 5) x7 mc ms (fun (q10 : Nat) (h10 : HW) (mB10 zB10 : Nat) => lenA h10 (c 5) a0 (fun (x20 : Int32) => ∀ x22 : Int32, x22 = x20 - a1 → (∀ x24 : Int32, x24 = (if x7 < x22 then x7 else x22) → (cpB h10 (c 5) a0 a1 q10 (0 : Int32) x24 (fun (h27 : HW) => post (some q10) h27)))))))

abbrev rm_J7_copyOfRangeByte_39247 (mc ms : Nat) : Room := { frames := 1, cells := mc, slots := ms, locals := 120 }
theorem he_J7_copyOfRangeByte_39247 : yJ7_copyOfRangeByte_39247.cls ≠ "java/lang/invoke/MethodHandle" ∧ yJ7_copyOfRangeByte_39247.cls ≠ "java/lang/invoke/VarHandle" ∧ (parseMethodDescriptor yJ7_copyOfRangeByte_39247.desc).map (fun d => d.parameters.length) = some 3 := by decide +kernel
theorem heV_J7_copyOfRangeByte_39247 : yJ7_copyOfRangeByte_39247.cls = RJ7 ∧ yJ7_copyOfRangeByte_39247.cls ≠ "java/lang/invoke/MethodHandle" ∧ yJ7_copyOfRangeByte_39247.cls ≠ "java/lang/invoke/VarHandle" ∧ (parseMethodDescriptor yJ7_copyOfRangeByte_39247.desc).map (fun d => d.parameters.length) = some 3 := by decide +kernel
set_option maxHeartbeats 4000000 in
set_option maxRecDepth 100000 in
theorem h_J7_copyOfRangeByte_39247 (l : Launch) (G : va_G) (K : (Nat → Nat) × (Nat → Nat)) (c : Nat → ClassId) (h : HW) (a0 : Nat) (a1 : Int32) (a2 : Int32) (mc ms : Nat) (post : Option Nat → HW → Prop) (hm : w_J7_copyOfRangeByte_39247 c K h a0 a1 a2 mc ms post) : hMq l yJ7_copyOfRangeByte_39247 wsJ7_copyOfRangeByte_39247 (rm_J7_copyOfRangeByte_39247 mc ms) G K (TY c) [.ref a0, .int a1, .int a2] h mc ms post := by
  refine hMq.of (Or.inr ⟨_, rfl⟩) (cc := cJ7_copyOfRangeByte_39247) (maxL := 5) (lv := [(0, .ref a0), (1, .int a1), (2, .int a2)]) (by decide) rfl (Nat.le_of_ble_eq_true rfl) rfl ?_
  intro p e s m args below meth c1 A Q H locs hx hb hml hown hmn hts hK hN hZ hXX hP hD hA hS hend ls hl
  have hown : s.vm.findClass RJ7 = some m.cls := hown
  unfold w_J7_copyOfRangeByte_39247 at hm
  have hf : 0 + mc ≤ mc ∧ 0 + ms ≤ ms := ⟨by omega, by omega⟩
  refine lv_iload_n hx hb dJ7_copyOfRangeByte_39247_0 rfl (lv_at hl 1 rfl) ?_
  refine lv_iload_n hx hb dJ7_copyOfRangeByte_39247_1 rfl (lv_at hl 2 rfl) ?_
  refine hcSv (As := [.int a1, .int a2]) (rest := []) ⟨hx, hb, hml, hown, hts⟩ (h_J7_checkLength_df160 l G K c h a1 a2 _ hm) (va_cwS 2 hts gJ7_copyOfRangeByte_39247_J7_checkLength_df160 rfl rfl rfl he_J7_checkLength_df160 ⟨Nat.le_of_ble_eq_true rfl, Nat.le_of_ble_eq_true rfl⟩) hK hN hZ hXX hP hD hS hA rfl hl.1 rfl (Nat.le_of_ble_eq_true rfl) dJ7_copyOfRangeByte_39247_2 ⟨by show 0 + 0 ≤ mc; omega, by show 0 + 0 ≤ ms; omega⟩ (fun h2 H locs hm hP hD hS => ?_)
  refine lv_iload_n hx hb dJ7_copyOfRangeByte_39247_5 rfl (lv_at hl 2 rfl) ?_
  refine lv_iload_n hx hb dJ7_copyOfRangeByte_39247_6 rfl (lv_at hl 1 rfl) ?_
  refine lv_isub hx hb dJ7_copyOfRangeByte_39247_7 ?_
  refine lv_topi (fun x7 ex7 => ?_)
  have hm := hm x7 ex7
  refine lv_istore_n (lv' := [(3, .int x7), (0, .ref a0), (1, .int a1), (2, .int a2)]) hx hb dJ7_copyOfRangeByte_39247_8 rfl hl (by decide) rfl (fun ls hl => ?_)
  refine lv_iload_n hx hb dJ7_copyOfRangeByte_39247_9 rfl (lv_at hl 0 rfl) ?_
  obtain ⟨hn10, hb10, mB10, zB10, hc10, hs10, hm⟩ := hm
  refine mr_newa (atype := .byte) (a0 := (fun N => (N, .inl (fun _ => 0)))) hx hb (hts (.arrayClass .byte) ((List.mem_of_getElem? (i := 1) rfl))) hK 5 rfl hP hD hS hA (fun _ => rfl) hn10 (c65 hb10 (by decide)) (by show 0 + 1 ≤ mc; omega) (by show 0 + _ ≤ ms; omega) dJ7_copyOfRangeByte_39247_10 (fun q10 H hfr10 hP hD hS => ?_)
  have hm := hm q10 hfr10
  generalize hup h2 q10 (eI (c 5) x7.toNatClampNeg (fun _ => 0)) = h10 at hm hP hD
  replace hf : (0 + 1) + mB10 ≤ mc ∧ (0 + x7.toNatClampNeg) + zB10 ≤ ms := ⟨by omega, by omega⟩
  clear hc10 hs10 hb10
  refine lv_astore (lv' := [(4, .ref q10), (3, .int x7), (0, .ref a0), (1, .int a1), (2, .int a2)]) hx hb dJ7_copyOfRangeByte_39247_12 hl (by decide) rfl (fun ls hl => ?_)
  refine lv_aload_n hx hb dJ7_copyOfRangeByte_39247_14 rfl (lv_at hl 2 rfl) ?_
  refine lv_iload_n hx hb dJ7_copyOfRangeByte_39247_15 rfl (lv_at hl 3 rfl) ?_
  refine lv_aload hx hb dJ7_copyOfRangeByte_39247_16 (lv_at hl 0 rfl) ?_
  refine lv_iconst (v := 0) hx hb dJ7_copyOfRangeByte_39247_18 (by decide) ?_
  refine lv_aload_n hx hb dJ7_copyOfRangeByte_39247_19 rfl (lv_at hl 2 rfl) ?_
  obtain ⟨wq20, xx20, hq20, hm⟩ := hm
  refine mr_alen hx hb hK (mRd hK hP hZ hS) 5 hq20 rfl dJ7_copyOfRangeByte_39247_20 (fun x20 ex20 => ?_)
  have hm := hm x20 ex20
  refine lv_iload_n hx hb dJ7_copyOfRangeByte_39247_21 rfl (lv_at hl 3 rfl) ?_
  refine lv_isub hx hb dJ7_copyOfRangeByte_39247_22 ?_
  refine lv_topi (fun x22 ex22 => ?_)
  have hm := hm x22 ex22
  refine lv_iload_n hx hb dJ7_copyOfRangeByte_39247_23 rfl (lv_at hl 1 rfl) ?_
  refine va_mmin hx hb (hml.trans hl.1.symm) hown (hts (.methodLink RJ7 304 Lib.Math.min.name) ((List.mem_of_getElem? (i := 2) rfl))) (hts (.static Lib.Math.min.name) ((List.mem_of_getElem? (i := 3) rfl))) (hts (.initialized "java/lang/Math") ((List.mem_of_getElem? (i := 4) rfl))) (hts (.code Lib.Math.min.name Lib.Math.min.code 2 (some .int)) ((List.mem_of_getElem? (i := 5) rfl))) (Nat.le_of_ble_eq_true rfl) (Nat.le_of_ble_eq_true rfl) (by show (0 + 1) ≤ mc; omega) (by show (0 + x7.toNatClampNeg) ≤ ms; omega) dJ7_copyOfRangeByte_39247_24 ?_
  refine lv_topi (fun x24 ex24 => ?_)
  have hm := hm x24 ex24
  obtain ⟨wq27, n027, n127, f27, g27, hq27, hr27, ha27, hb27, hc27, hd27, he27, hf27, hm⟩ := hm
  refine mr_copy hx hb (hml.trans hl.1.symm) hown (hts (.methodLink RJ7 150 arraycopyName) ((List.mem_of_getElem? (i := 6) rfl))) (hts (.native arraycopyName) ((List.mem_of_getElem? (i := 7) rfl))) (hts (.static arraycopyName) ((List.mem_of_getElem? (i := 8) rfl))) (hts (.initialized "java/lang/System") ((List.mem_of_getElem? (i := 9) rfl))) hK hP hZ hD hS 5 hq27 hr27 rfl rfl ha27 hb27 hc27 hd27 he27 hf27 (Nat.le_of_ble_eq_true rfl) (Nat.le_of_ble_eq_true rfl) dJ7_copyOfRangeByte_39247_27 (fun H locs hP hD hS => ?_)
  generalize hup h10 q10 _ = h27 at hm hP hD
  refine lv_aload hx hb dJ7_copyOfRangeByte_39247_30 (lv_at hl 0 rfl) ?_
  exact hend H locs ls 32 _ _ (some q10) h27 (by omega) (by omega) hm hP hD hS dJ7_copyOfRangeByte_39247_32

def w_J7_copyOfRange_39247_J10 (c : Nat → ClassId) (K : (Nat → Nat) × (Nat → Nat)) (h : HW) (a0 : Nat) (a1 : Int32) (a2 : Int32) (post : Option Nat → HW → Prop) (mc_10 ms_10 : Nat) : Prop :=
  (∃ m13 z13 mB13 zB13 : Nat, mc_10 = m13 + mB13 ∧ ms_10 = z13 + zB13 ∧ w_J7_copyOfRangeByte_39247 c K h a0 a1 a2 m13 z13 (fun (r13 : Option Nat) (h13 : HW) => dRf r13 (fun (a13 : Nat) => post (some a13) h13)))

def w_J7_copyOfRange_39247 (c : Nat → ClassId) (K : (Nat → Nat) × (Nat → Nat)) (h : HW) (a0 : Nat) (a1 : Int32) (a2 : Int32) (mc ms : Nat) (post : Option Nat → HW → Prop) : Prop :=
  (a1 = 0 → lenA h (c 5) a0 (fun (x6 : Int32) => (a2 = x6 → clF .byte h (c 5) a0 mc ms (fun (q18 n18 : Nat) (h18 : HW) (mB18 zB18 : Nat) => post (some q18) h18)) ∧ (¬ a2 = x6 → w_J7_copyOfRange_39247_J10 c K h a0 a1 a2 post mc ms))) ∧ (¬ a1 = 0 → w_J7_copyOfRange_39247_J10 c K h a0 a1 a2 post mc ms)

abbrev rm_J7_copyOfRange_39247 (mc ms : Nat) : Room := { frames := 2, cells := mc, slots := ms, locals := 144 }
theorem he_J7_copyOfRange_39247 : yJ7_copyOfRange_39247.cls ≠ "java/lang/invoke/MethodHandle" ∧ yJ7_copyOfRange_39247.cls ≠ "java/lang/invoke/VarHandle" ∧ (parseMethodDescriptor yJ7_copyOfRange_39247.desc).map (fun d => d.parameters.length) = some 3 := by decide +kernel
theorem heV_J7_copyOfRange_39247 : yJ7_copyOfRange_39247.cls = RJ7 ∧ yJ7_copyOfRange_39247.cls ≠ "java/lang/invoke/MethodHandle" ∧ yJ7_copyOfRange_39247.cls ≠ "java/lang/invoke/VarHandle" ∧ (parseMethodDescriptor yJ7_copyOfRange_39247.desc).map (fun d => d.parameters.length) = some 3 := by decide +kernel
set_option maxHeartbeats 4000000 in
set_option maxRecDepth 100000 in
theorem h_J7_copyOfRange_39247 (l : Launch) (G : va_G) (K : (Nat → Nat) × (Nat → Nat)) (c : Nat → ClassId) (h : HW) (a0 : Nat) (a1 : Int32) (a2 : Int32) (mc ms : Nat) (post : Option Nat → HW → Prop) (hm : w_J7_copyOfRange_39247 c K h a0 a1 a2 mc ms post) : hMq l yJ7_copyOfRange_39247 wsJ7_copyOfRange_39247 (rm_J7_copyOfRange_39247 mc ms) G K (TY c) [.ref a0, .int a1, .int a2] h mc ms post := by
  refine hMq.of (Or.inr ⟨_, rfl⟩) (cc := cJ7_copyOfRange_39247) (maxL := 3) (lv := [(0, .ref a0), (1, .int a1), (2, .int a2)]) (by decide) rfl (Nat.le_of_ble_eq_true rfl) rfl ?_
  intro p e s m args below meth c1 A Q H locs hx hb hml hown hmn hts hK hN hZ hXX hP hD hA hS hend ls hl
  have hown : s.vm.findClass RJ7 = some m.cls := hown
  unfold w_J7_copyOfRange_39247 at hm
  have hf : 0 + mc ≤ mc ∧ 0 + ms ≤ ms := ⟨by omega, by omega⟩
  refine lv_iload_n hx hb dJ7_copyOfRange_39247_0 rfl (lv_at hl 1 rfl) ?_
  have J_10 : ∀ (mc_10 ms_10 : Nat) (cl_10 sl_10 : Nat) (H : Heap) (locs : List Loc) (ls : Array Slot), cl_10 + mc_10 ≤ mc ∧ sl_10 + ms_10 ≤ ms → mP G K h H → mD A h → va_S A s.heap H locs → lv_has ls 3 [(0, .ref a0), (1, .int a1), (2, .int a2)] → w_J7_copyOfRange_39247_J10 c K h a0 a1 a2 post mc_10 ms_10 → W p l e (rm_J7_copyOfRange_39247 mc ms) s m args below meth c1 H locs cl_10 sl_10 Q (F0 m 10 ls []) := by
    intro mc_10 ms_10 cl_10 sl_10 H locs ls hf hP hD hS hl hm
    unfold w_J7_copyOfRange_39247_J10 at hm
    refine lv_aload_n hx hb dJ7_copyOfRange_39247_10 rfl (lv_at hl 0 rfl) ?_
    refine lv_iload_n hx hb dJ7_copyOfRange_39247_11 rfl (lv_at hl 1 rfl) ?_
    refine lv_iload_n hx hb dJ7_copyOfRange_39247_12 rfl (lv_at hl 2 rfl) ?_
    obtain ⟨m13, z13, mB13, zB13, hbm13, hbs13, hm⟩ := hm
    refine hcSq (As := [.ref a0, .int a1, .int a2]) (rest := []) ⟨hx, hb, hml, hown, hts⟩ (h_J7_copyOfRangeByte_39247 l G K c h a0 a1 a2 m13 z13 _ hm) (va_cwS 3 hts gJ7_copyOfRange_39247_J7_copyOfRangeByte_39247 rfl rfl rfl he_J7_copyOfRangeByte_39247 ⟨Nat.le_of_ble_eq_true rfl, Nat.le_of_ble_eq_true rfl⟩) hK hN hZ hXX hP hD hS hA rfl hl.1 rfl (Nat.le_of_ble_eq_true rfl) dJ7_copyOfRange_39247_13 ⟨by show cl_10 + m13 ≤ mc; omega, by show sl_10 + z13 ≤ ms; omega⟩ (fun r13 h13 H locs hm hP hD hS => ?_)
    obtain ⟨a13, rfl, hm⟩ := hm
    replace hf : (cl_10 + m13) + mB13 ≤ mc ∧ (sl_10 + z13) + zB13 ≤ ms := ⟨by omega, by omega⟩
    clear hbm13 hbs13
    exact hend H locs ls 16 _ _ (some a13) h13 (by omega) (by omega) hm hP hD hS dJ7_copyOfRange_39247_16
  refine lv_if_ne (tgt := 10) hx hb dJ7_copyOfRange_39247_1 (by decide) (fun c_1 => ?_) (fun c_1 => ?_)
  · have hm := hm.2 c_1
    exact J_10 mc ms 0 0 H locs ls ⟨by omega, by omega⟩ hP hD hS (lv_sub hl [0, 1, 2] rfl) hm
  · have hm := hm.1 c_1
    refine lv_iload_n hx hb dJ7_copyOfRange_39247_4 rfl (lv_at hl 2 rfl) ?_
    refine lv_aload_n hx hb dJ7_copyOfRange_39247_5 rfl (lv_at hl 0 rfl) ?_
    obtain ⟨wq6, xx6, hq6, hm⟩ := hm
    refine mr_alen hx hb hK (mRd hK hP hZ hS) 5 hq6 rfl dJ7_copyOfRange_39247_6 (fun x6 ex6 => ?_)
    have hm := hm x6 ex6
    refine lv_icmp_eq (tgt := 17) hx hb dJ7_copyOfRange_39247_7 (by decide) (fun c_7 => ?_) (fun c_7 => ?_)
    · have hm := hm.1 c_7
      refine lv_aload_n hx hb dJ7_copyOfRange_39247_17 rfl (lv_at hl 0 rfl) ?_
      obtain ⟨wq18, n18, f18, hq18, hft18, mB18, zB18, hc18, hs18, hm⟩ := hm
      refine mr_clone (ad := "[B") hx hb (hml.trans hl.1.symm) hown (hts (.methodLink RJ7 310 ⟨"[B", "clone", "()Ljava/lang/Object;"⟩) ((List.mem_of_getElem? (i := 1) rfl))) (hts (.sameMethod "[B" "java/lang/Object" "clone" "()Ljava/lang/Object;") ((List.mem_of_getElem? (i := 2) rfl))) (hts (.native ⟨"java/lang/Object", "clone", "()Ljava/lang/Object;"⟩) ((List.mem_of_getElem? (i := 3) rfl))) (hts (.instanceMethod ⟨"java/lang/Object", "clone", "()Ljava/lang/Object;"⟩) ((List.mem_of_getElem? (i := 4) rfl))) (hts (.selects "[B" ⟨"[B", "clone", "()Ljava/lang/Object;"⟩ ⟨"java/lang/Object", "clone", "()Ljava/lang/Object;"⟩) ((List.mem_of_getElem? (i := 5) rfl))) (hXX.2.2.2.2 _ (List.mem_of_getElem? (i := 3) rfl)) hK hP hD hS hA 5 hq18 rfl (fcB hK) (va_fit (F := fun j => .int (f18 j)) hft18) (Nat.le_of_ble_eq_true rfl) (Nat.le_of_ble_eq_true rfl) (by show 0 + 1 ≤ mc; omega) (by show 0 + n18 ≤ ms; omega) dJ7_copyOfRange_39247_18 (fun q18 H hfr18 hP hD hS => ?_)
      have hm := hm q18 hfr18
      have hclq18 : hup h q18 (eI (c 5) n18 f18) q18 = some (true, eI (c 5) n18 f18) := hup_s
      generalize hup h q18 (eI (c 5) n18 f18) = h18 at hm hP hD hclq18
      replace hf : (0 + 1) + mB18 ≤ mc ∧ (0 + n18) + zB18 ≤ ms := ⟨by omega, by omega⟩
      clear hc18 hs18
      refine mr_castA hx hb hown (hts (.classLink RJ7 311 "[B") ((List.mem_of_getElem? (i := 6) rfl))) hP (hclq18) (fcB hK) dJ7_copyOfRange_39247_21 ?_
      exact hend H locs ls 24 _ _ (some q18) h18 (by omega) (by omega) hm hP hD hS dJ7_copyOfRange_39247_24
    · have hm := hm.2 c_7
      exact J_10 mc ms 0 0 H locs ls ⟨by omega, by omega⟩ hP hD hS (lv_sub hl [0, 1, 2] rfl) hm

def w_J7_copyOf_9075b (c : Nat → ClassId) (K : (Nat → Nat) × (Nat → Nat)) (h : HW) (a0 : Nat) (a1 : Int32) (mc ms : Nat) (post : Option Nat → HW → Prop) : Prop :=
  lenA h (c 5) a0 (fun (x2 : Int32) => (a1 = x2 → clF .byte h (c 5) a0 mc ms (fun (q7 n7 : Nat) (h7 : HW) (mB7 zB7 : Nat) => post (some q7) h7)) ∧ (¬ a1 = x2 → nwI h (c 5) a1 mc ms (fun (q15 : Nat) (h15 : HW) (mB15 zB15 : Nat) => lenA h15 (c 5) a0 (fun (x23 : Int32) => ∀ x25 : Int32, x25 = (if a1 < x23 then a1 else x23) → (cpB h15 (c 5) a0 (0 : Int32) q15 (0 : Int32) x25 (fun (h28 : HW) => post (some q15) h28))))))

abbrev rm_J7_copyOf_9075b (mc ms : Nat) : Room := { frames := 1, cells := mc, slots := ms, locals := 120 }
theorem he_J7_copyOf_9075b : yJ7_copyOf_9075b.cls ≠ "java/lang/invoke/MethodHandle" ∧ yJ7_copyOf_9075b.cls ≠ "java/lang/invoke/VarHandle" ∧ (parseMethodDescriptor yJ7_copyOf_9075b.desc).map (fun d => d.parameters.length) = some 2 := by decide +kernel
theorem heV_J7_copyOf_9075b : yJ7_copyOf_9075b.cls = RJ7 ∧ yJ7_copyOf_9075b.cls ≠ "java/lang/invoke/MethodHandle" ∧ yJ7_copyOf_9075b.cls ≠ "java/lang/invoke/VarHandle" ∧ (parseMethodDescriptor yJ7_copyOf_9075b.desc).map (fun d => d.parameters.length) = some 2 := by decide +kernel
set_option maxHeartbeats 4000000 in
set_option maxRecDepth 100000 in
theorem h_J7_copyOf_9075b (l : Launch) (G : va_G) (K : (Nat → Nat) × (Nat → Nat)) (c : Nat → ClassId) (h : HW) (a0 : Nat) (a1 : Int32) (mc ms : Nat) (post : Option Nat → HW → Prop) (hm : w_J7_copyOf_9075b c K h a0 a1 mc ms post) : hMq l yJ7_copyOf_9075b wsJ7_copyOf_9075b (rm_J7_copyOf_9075b mc ms) G K (TY c) [.ref a0, .int a1] h mc ms post := by
  refine hMq.of (Or.inr ⟨_, rfl⟩) (cc := cJ7_copyOf_9075b) (maxL := 3) (lv := [(0, .ref a0), (1, .int a1)]) (by decide) rfl (Nat.le_of_ble_eq_true rfl) rfl ?_
  intro p e s m args below meth c1 A Q H locs hx hb hml hown hmn hts hK hN hZ hXX hP hD hA hS hend ls hl
  have hown : s.vm.findClass RJ7 = some m.cls := hown
  unfold w_J7_copyOf_9075b at hm
  have hf : 0 + mc ≤ mc ∧ 0 + ms ≤ ms := ⟨by omega, by omega⟩
  refine lv_iload_n hx hb dJ7_copyOf_9075b_0 rfl (lv_at hl 1 rfl) ?_
  refine lv_aload_n hx hb dJ7_copyOf_9075b_1 rfl (lv_at hl 0 rfl) ?_
  obtain ⟨wq2, xx2, hq2, hm⟩ := hm
  refine mr_alen hx hb hK (mRd hK hP hZ hS) 5 hq2 rfl dJ7_copyOf_9075b_2 (fun x2 ex2 => ?_)
  have hm := hm x2 ex2
  refine lv_icmp_ne (tgt := 14) hx hb dJ7_copyOf_9075b_3 (by decide) (fun c_3 => ?_) (fun c_3 => ?_)
  · have hm := hm.2 c_3
    refine lv_iload_n hx hb dJ7_copyOf_9075b_14 rfl (lv_at hl 1 rfl) ?_
    obtain ⟨hn15, hb15, mB15, zB15, hc15, hs15, hm⟩ := hm
    refine mr_newa (atype := .byte) (a0 := (fun N => (N, .inl (fun _ => 0)))) hx hb (hts (.arrayClass .byte) ((List.mem_of_getElem? (i := 7) rfl))) hK 5 rfl hP hD hS hA (fun _ => rfl) hn15 (c65 hb15 (by decide)) (by show 0 + 1 ≤ mc; omega) (by show 0 + _ ≤ ms; omega) dJ7_copyOf_9075b_15 (fun q15 H hfr15 hP hD hS => ?_)
    have hm := hm q15 hfr15
    generalize hup h q15 (eI (c 5) a1.toNatClampNeg (fun _ => 0)) = h15 at hm hP hD
    replace hf : (0 + 1) + mB15 ≤ mc ∧ (0 + a1.toNatClampNeg) + zB15 ≤ ms := ⟨by omega, by omega⟩
    clear hc15 hs15 hb15
    refine lv_astore_n (lv' := [(2, .ref q15), (0, .ref a0), (1, .int a1)]) hx hb dJ7_copyOf_9075b_17 rfl hl (by decide) rfl (fun ls hl => ?_)
    refine lv_aload_n hx hb dJ7_copyOf_9075b_18 rfl (lv_at hl 1 rfl) ?_
    refine lv_iconst (v := 0) hx hb dJ7_copyOf_9075b_19 (by decide) ?_
    refine lv_aload_n hx hb dJ7_copyOf_9075b_20 rfl (lv_at hl 0 rfl) ?_
    refine lv_iconst (v := 0) hx hb dJ7_copyOf_9075b_21 (by decide) ?_
    refine lv_aload_n hx hb dJ7_copyOf_9075b_22 rfl (lv_at hl 1 rfl) ?_
    obtain ⟨wq23, xx23, hq23, hm⟩ := hm
    refine mr_alen hx hb hK (mRd hK hP hZ hS) 5 hq23 rfl dJ7_copyOf_9075b_23 (fun x23 ex23 => ?_)
    have hm := hm x23 ex23
    refine lv_iload_n hx hb dJ7_copyOf_9075b_24 rfl (lv_at hl 2 rfl) ?_
    refine va_mmin hx hb (hml.trans hl.1.symm) hown (hts (.methodLink RJ7 304 Lib.Math.min.name) ((List.mem_of_getElem? (i := 8) rfl))) (hts (.static Lib.Math.min.name) ((List.mem_of_getElem? (i := 9) rfl))) (hts (.initialized "java/lang/Math") ((List.mem_of_getElem? (i := 10) rfl))) (hts (.code Lib.Math.min.name Lib.Math.min.code 2 (some .int)) ((List.mem_of_getElem? (i := 11) rfl))) (Nat.le_of_ble_eq_true rfl) (Nat.le_of_ble_eq_true rfl) (by show (0 + 1) ≤ mc; omega) (by show (0 + a1.toNatClampNeg) ≤ ms; omega) dJ7_copyOf_9075b_25 ?_
    refine lv_topi (fun x25 ex25 => ?_)
    have hm := hm x25 ex25
    obtain ⟨wq28, n028, n128, f28, g28, hq28, hr28, ha28, hb28, hc28, hd28, he28, hf28, hm⟩ := hm
    refine mr_copy hx hb (hml.trans hl.1.symm) hown (hts (.methodLink RJ7 150 arraycopyName) ((List.mem_of_getElem? (i := 12) rfl))) (hts (.native arraycopyName) ((List.mem_of_getElem? (i := 13) rfl))) (hts (.static arraycopyName) ((List.mem_of_getElem? (i := 14) rfl))) (hts (.initialized "java/lang/System") ((List.mem_of_getElem? (i := 15) rfl))) hK hP hZ hD hS 5 hq28 hr28 rfl rfl ha28 hb28 hc28 hd28 he28 hf28 (Nat.le_of_ble_eq_true rfl) (Nat.le_of_ble_eq_true rfl) dJ7_copyOf_9075b_28 (fun H locs hP hD hS => ?_)
    generalize hup h15 q15 _ = h28 at hm hP hD
    refine lv_aload_n hx hb dJ7_copyOf_9075b_31 rfl (lv_at hl 0 rfl) ?_
    exact hend H locs ls 32 _ _ (some q15) h28 (by omega) (by omega) hm hP hD hS dJ7_copyOf_9075b_32
  · have hm := hm.1 c_3
    refine lv_aload_n hx hb dJ7_copyOf_9075b_6 rfl (lv_at hl 0 rfl) ?_
    obtain ⟨wq7, n7, f7, hq7, hft7, mB7, zB7, hc7, hs7, hm⟩ := hm
    refine mr_clone (ad := "[B") hx hb (hml.trans hl.1.symm) hown (hts (.methodLink RJ7 310 ⟨"[B", "clone", "()Ljava/lang/Object;"⟩) ((List.mem_of_getElem? (i := 1) rfl))) (hts (.sameMethod "[B" "java/lang/Object" "clone" "()Ljava/lang/Object;") ((List.mem_of_getElem? (i := 2) rfl))) (hts (.native ⟨"java/lang/Object", "clone", "()Ljava/lang/Object;"⟩) ((List.mem_of_getElem? (i := 3) rfl))) (hts (.instanceMethod ⟨"java/lang/Object", "clone", "()Ljava/lang/Object;"⟩) ((List.mem_of_getElem? (i := 4) rfl))) (hts (.selects "[B" ⟨"[B", "clone", "()Ljava/lang/Object;"⟩ ⟨"java/lang/Object", "clone", "()Ljava/lang/Object;"⟩) ((List.mem_of_getElem? (i := 5) rfl))) (hXX.2.2.2.2 _ (List.mem_of_getElem? (i := 3) rfl)) hK hP hD hS hA 5 hq7 rfl (fcB hK) (va_fit (F := fun j => .int (f7 j)) hft7) (Nat.le_of_ble_eq_true rfl) (Nat.le_of_ble_eq_true rfl) (by show 0 + 1 ≤ mc; omega) (by show 0 + n7 ≤ ms; omega) dJ7_copyOf_9075b_7 (fun q7 H hfr7 hP hD hS => ?_)
    have hm := hm q7 hfr7
    have hclq7 : hup h q7 (eI (c 5) n7 f7) q7 = some (true, eI (c 5) n7 f7) := hup_s
    generalize hup h q7 (eI (c 5) n7 f7) = h7 at hm hP hD hclq7
    replace hf : (0 + 1) + mB7 ≤ mc ∧ (0 + n7) + zB7 ≤ ms := ⟨by omega, by omega⟩
    clear hc7 hs7
    refine mr_castA hx hb hown (hts (.classLink RJ7 311 "[B") ((List.mem_of_getElem? (i := 6) rfl))) hP (hclq7) (fcB hK) dJ7_copyOf_9075b_10 ?_
    exact hend H locs ls 13 _ _ (some q7) h7 (by omega) (by omega) hm hP hD hS dJ7_copyOf_9075b_13

def w_J8_newLength_cabcc (c : Nat → ClassId) (K : (Nat → Nat) × (Nat → Nat)) (h : HW) (a0 : Int32) (a1 : Int32) (a2 : Int32) (post : Int32 → HW → Prop) : Prop :=
  ∀ x3 : Int32, x3 = (if a1 < a2 then a2 else a1) → (∀ x6 : Int32, x6 = a0 + x3 → (¬ x6 ≤ (0 : Int32) ∧ (¬ (2147483639 : Int32) < x6 ∧ (post x6 h))))

abbrev rm_J8_newLength_cabcc : Room := { frames := 1, cells := 0, slots := 0, locals := 60 }
theorem he_J8_newLength_cabcc : yJ8_newLength_cabcc.cls ≠ "java/lang/invoke/MethodHandle" ∧ yJ8_newLength_cabcc.cls ≠ "java/lang/invoke/VarHandle" ∧ (parseMethodDescriptor yJ8_newLength_cabcc.desc).map (fun d => d.parameters.length) = some 3 := by decide +kernel
theorem heV_J8_newLength_cabcc : yJ8_newLength_cabcc.cls = RJ8 ∧ yJ8_newLength_cabcc.cls ≠ "java/lang/invoke/MethodHandle" ∧ yJ8_newLength_cabcc.cls ≠ "java/lang/invoke/VarHandle" ∧ (parseMethodDescriptor yJ8_newLength_cabcc.desc).map (fun d => d.parameters.length) = some 3 := by decide +kernel
set_option maxHeartbeats 4000000 in
set_option maxRecDepth 100000 in
theorem h_J8_newLength_cabcc (l : Launch) (G : va_G) (K : (Nat → Nat) × (Nat → Nat)) (c : Nat → ClassId) (h : HW) (a0 : Int32) (a1 : Int32) (a2 : Int32) (post : Int32 → HW → Prop) (hm : w_J8_newLength_cabcc c K h a0 a1 a2 post) : hMi l yJ8_newLength_cabcc wsJ8_newLength_cabcc (rm_J8_newLength_cabcc) G K (TY c) [.int a0, .int a1, .int a2] h 0 0 post := by
  refine hMi.of (cc := cJ8_newLength_cabcc) (maxL := 4) (lv := [(0, .int a0), (1, .int a1), (2, .int a2)]) (by decide) rfl (Nat.le_of_ble_eq_true rfl) rfl ?_
  intro p e s m args below meth c1 A Q H locs hx hb hml hown hmn hts hK hN hZ hXX hP hD hA hS hend ls hl
  have hown : s.vm.findClass RJ8 = some m.cls := hown
  unfold w_J8_newLength_cabcc at hm
  refine lv_iload_n hx hb dJ8_newLength_cabcc_0 rfl (lv_at hl 0 rfl) ?_
  refine lv_iload_n hx hb dJ8_newLength_cabcc_1 rfl (lv_at hl 1 rfl) ?_
  refine lv_iload_n hx hb dJ8_newLength_cabcc_2 rfl (lv_at hl 2 rfl) ?_
  refine va_mmax hx hb (hml.trans hl.1.symm) hown (hts (.methodLink RJ8 194 Lib.Math.max.name) ((List.mem_of_getElem? (i := 1) rfl))) (hts (.static Lib.Math.max.name) ((List.mem_of_getElem? (i := 2) rfl))) (hts (.initialized "java/lang/Math") ((List.mem_of_getElem? (i := 3) rfl))) (hts (.code Lib.Math.max.name Lib.Math.max.code 2 (some .int)) ((List.mem_of_getElem? (i := 4) rfl))) (Nat.le_of_ble_eq_true rfl) (Nat.le_of_ble_eq_true rfl) (Nat.zero_le _) (Nat.zero_le _) dJ8_newLength_cabcc_3 ?_
  refine lv_topi (fun x3 ex3 => ?_)
  have hm := hm x3 ex3
  refine lv_iadd hx hb dJ8_newLength_cabcc_6 ?_
  refine lv_topi (fun x6 ex6 => ?_)
  have hm := hm x6 ex6
  refine lv_istore_n (lv' := [(3, .int x6), (0, .int a0), (1, .int a1), (2, .int a2)]) hx hb dJ8_newLength_cabcc_7 rfl hl (by decide) rfl (fun ls hl => ?_)
  refine lv_iconst (v := 0) hx hb dJ8_newLength_cabcc_8 (by decide) ?_
  refine lv_iload_n hx hb dJ8_newLength_cabcc_9 rfl (lv_at hl 0 rfl) ?_
  obtain ⟨hc10, hm⟩ := hm
  refine lv_icmp_ge (tgt := 21) hx hb dJ8_newLength_cabcc_10 (by decide) (fun c_10 => ?_) (fun c_10 => ?_)
  · exact (hc10 c_10).elim
  · have hm := hm
    refine lv_iload_n hx hb dJ8_newLength_cabcc_13 rfl (lv_at hl 0 rfl) ?_
    refine lv_ldc (v := 2147483639) hx hb hown (hts (.constant RJ8 200 (2147483639)) ((List.mem_of_getElem? (i := 5) rfl))) dJ8_newLength_cabcc_14 ?_
    obtain ⟨hc16, hm⟩ := hm
    refine lv_icmp_gt (tgt := 21) hx hb dJ8_newLength_cabcc_16 (by decide) (fun c_16 => ?_) (fun c_16 => ?_)
    · exact (hc16 c_16).elim
    · have hm := hm
      refine lv_iload_n hx hb dJ8_newLength_cabcc_19 rfl (lv_at hl 0 rfl) ?_
      exact hend H locs ls 20 _ _ x6 h (Nat.le_refl _) (Nat.le_refl _) rfl hm hP hD hS dJ8_newLength_cabcc_20

