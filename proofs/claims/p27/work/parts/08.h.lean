/-! walks of the law's own methods over maps -/
def w_J4_init_da8c8 (c : Nat → ClassId) (K : (Nat → Nat) × (Nat → Nat)) (h : HW) (a0 : Nat) (mc ms : Nat) (post : HW → Prop) : Prop :=
  (∃ m3 z3 mB3 zB3 : Nat, mc = m3 + mB3 ∧ ms = z3 + zB3 ∧ w_J5_init_d00df c K h a0 (16 : Int32) m3 z3 (fun (h3 : HW) => post h3))

abbrev rm_J4_init_da8c8 (mc ms : Nat) : Room := { frames := 2, cells := mc, slots := ms, locals := 101 }
theorem he_J4_init_da8c8 : yJ4_init_da8c8.cls ≠ "java/lang/invoke/MethodHandle" ∧ yJ4_init_da8c8.cls ≠ "java/lang/invoke/VarHandle" ∧ (parseMethodDescriptor yJ4_init_da8c8.desc).map (fun d => d.parameters.length) = some 0 := by decide +kernel
theorem heV_J4_init_da8c8 : yJ4_init_da8c8.cls = RJ4 ∧ yJ4_init_da8c8.cls ≠ "java/lang/invoke/MethodHandle" ∧ yJ4_init_da8c8.cls ≠ "java/lang/invoke/VarHandle" ∧ (parseMethodDescriptor yJ4_init_da8c8.desc).map (fun d => d.parameters.length) = some 0 := by decide +kernel
set_option maxHeartbeats 4000000 in
set_option maxRecDepth 100000 in
theorem h_J4_init_da8c8 (l : Launch) (G : va_G) (K : (Nat → Nat) × (Nat → Nat)) (c : Nat → ClassId) (h : HW) (a0 : Nat) (mc ms : Nat) (post : HW → Prop) (hm : w_J4_init_da8c8 c K h a0 mc ms post) : hMv l yJ4_init_da8c8 wsJ4_init_da8c8 (rm_J4_init_da8c8 mc ms) G K (TY c) [.ref a0] h mc ms post := by
  refine hMv.of (cc := cJ4_init_da8c8) (maxL := 1) (lv := [(0, .ref a0)]) (by decide) rfl (Nat.le_of_ble_eq_true rfl) rfl ?_
  intro p e s m args below meth c1 A Q H locs hx hb hml hown hmn hts hK hN hZ hXX hP hD hA hS hend ls hl
  have hown : s.vm.findClass RJ4 = some m.cls := hown
  unfold w_J4_init_da8c8 at hm
  have hf : 0 + mc ≤ mc ∧ 0 + ms ≤ ms := ⟨by omega, by omega⟩
  refine lv_aload_n hx hb dJ4_init_da8c8_0 rfl (lv_at hl 0 rfl) ?_
  refine lv_bipush (v := 16) hx hb dJ4_init_da8c8_1 (by decide) ?_
  obtain ⟨m3, z3, mB3, zB3, hbm3, hbs3, hm⟩ := hm
  refine hcIv (As := [.int (16 : Int32)]) (rest := []) ⟨hx, hb, hml, hown, hts⟩ (h_J5_init_d00df l G K c h a0 (16 : Int32) m3 z3 _ hm) (cwI 1 hts gJ4_init_da8c8_J5_init_d00df rfl rfl rfl (hts (.initialized RJ5) ((List.mem_of_getElem? (i := 3) rfl))) (hts (.methodLink RJ4 1 yJ5_init_d00df) ((List.mem_of_getElem? (i := 1) rfl))) (hts (.instanceMethod yJ5_init_d00df) ((List.mem_of_getElem? (i := 2) rfl))) rfl he_J5_init_d00df ⟨Nat.le_of_ble_eq_true rfl, Nat.le_of_ble_eq_true rfl⟩) hK hN hZ hXX hP hD hS hA rfl hl.1 rfl (Nat.le_of_ble_eq_true rfl) dJ4_init_da8c8_3 ⟨by show 0 + m3 ≤ mc; omega, by show 0 + z3 ≤ ms; omega⟩ (fun h3 H locs hm hP hD hS => ?_)
  replace hf : (0 + m3) + mB3 ≤ mc ∧ (0 + z3) + zB3 ≤ ms := ⟨by omega, by omega⟩
  clear hbm3 hbs3
  exact hend H locs ls 6 _ _ h3 (by omega) (by omega) hm hP hD hS dJ4_init_da8c8_6

def w_J4_append_15ec4 (c : Nat → ClassId) (K : (Nat → Nat) × (Nat → Nat)) (h : HW) (a0 : Nat) (a1 : Nat) (mc ms : Nat) (post : Option Nat → HW → Prop) : Prop :=
  (∃ w fs, h a0 = some (w, .inr (12, fs))) ∧ (∃ m2 z2 mB2 zB2 : Nat, mc = m2 + mB2 ∧ ms = z2 + zB2 ∧ w_J5_append_cf1ce c K h a0 a1 m2 z2 (fun (r2 : Option Nat) (h2 : HW) => dRf r2 (fun (a2 : Nat) => post (some a0) h2)))

abbrev rm_J4_append_15ec4 (mc ms : Nat) : Room := { frames := 5, cells := mc, slots := ms, locals := 187 }
theorem he_J4_append_15ec4 : yJ4_append_15ec4.cls ≠ "java/lang/invoke/MethodHandle" ∧ yJ4_append_15ec4.cls ≠ "java/lang/invoke/VarHandle" ∧ (parseMethodDescriptor yJ4_append_15ec4.desc).map (fun d => d.parameters.length) = some 1 := by decide +kernel
theorem heV_J4_append_15ec4 : yJ4_append_15ec4.cls = RJ4 ∧ yJ4_append_15ec4.cls ≠ "java/lang/invoke/MethodHandle" ∧ yJ4_append_15ec4.cls ≠ "java/lang/invoke/VarHandle" ∧ (parseMethodDescriptor yJ4_append_15ec4.desc).map (fun d => d.parameters.length) = some 1 := by decide +kernel
set_option maxHeartbeats 4000000 in
set_option maxRecDepth 100000 in
theorem h_J4_append_15ec4 (l : Launch) (G : va_G) (K : (Nat → Nat) × (Nat → Nat)) (c : Nat → ClassId) (h : HW) (a0 : Nat) (a1 : Nat) (mc ms : Nat) (post : Option Nat → HW → Prop) (hm : w_J4_append_15ec4 c K h a0 a1 mc ms post) : hMq l yJ4_append_15ec4 wsJ4_append_15ec4 (rm_J4_append_15ec4 mc ms) G K (TY c) [.ref a0, .ref a1] h mc ms post := by
  refine hMq.of (Or.inl ⟨_, rfl⟩) (cc := cJ4_append_15ec4) (maxL := 2) (lv := [(0, .ref a0), (1, .ref a1)]) (by decide) rfl (Nat.le_of_ble_eq_true rfl) rfl ?_
  intro p e s m args below meth c1 A Q H locs hx hb hml hown hmn hts hK hN hZ hXX hP hD hA hS hend ls hl
  have hown : s.vm.findClass RJ4 = some m.cls := hown
  unfold w_J4_append_15ec4 at hm
  have hf : 0 + mc ≤ mc ∧ 0 + ms ≤ ms := ⟨by omega, by omega⟩
  refine lv_aload_n hx hb dJ4_append_15ec4_0 rfl (lv_at hl 0 rfl) ?_
  refine lv_aload_n hx hb dJ4_append_15ec4_1 rfl (lv_at hl 1 rfl) ?_
  obtain ⟨⟨wr2, fr2, hrq2⟩, hm⟩ := hm
  obtain ⟨m2, z2, mB2, zB2, hbm2, hbs2, hm⟩ := hm
  refine hcSUq (As := [.ref a1]) (rest := []) ⟨hx, hb, hml, hown, hts⟩ (h_J5_append_cf1ce l G K c h a0 a1 m2 z2 _ hm) (va_cwSU 1 hts gJ4_append_15ec4_J5_append_cf1ce_s29 rfl rfl rfl (by decide +kernel) ⟨Nat.le_of_ble_eq_true rfl, Nat.le_of_ble_eq_true rfl⟩) hK hN hZ hXX hP hD hS hA (hK.1 12 _ rfl).2 (mr_recv hK (mRd hK hP hZ hS) (ci := 12) rfl hrq2) rfl hl.1 rfl (Nat.le_of_ble_eq_true rfl) dJ4_append_15ec4_2 ⟨by show 0 + m2 ≤ mc; omega, by show 0 + z2 ≤ ms; omega⟩ (fun r2 h2 H locs hm hP hD hS => ?_)
  obtain ⟨a2, rfl, hm⟩ := hm
  replace hf : (0 + m2) + mB2 ≤ mc ∧ (0 + z2) + zB2 ≤ ms := ⟨by omega, by omega⟩
  clear hbm2 hbs2
  refine lv_pop hx hb dJ4_append_15ec4_5 rfl ?_
  refine lv_aload_n hx hb dJ4_append_15ec4_6 rfl (lv_at hl 0 rfl) ?_
  exact hend H locs ls 7 _ _ (some a0) h2 (by omega) (by omega) hm hP hD hS dJ4_append_15ec4_7

def w_J4_append_bf812 (c : Nat → ClassId) (K : (Nat → Nat) × (Nat → Nat)) (h : HW) (a0 : Nat) (a1 : Int32) (mc ms : Nat) (post : Option Nat → HW → Prop) : Prop :=
  (∃ w fs, h a0 = some (w, .inr (12, fs))) ∧ (∃ m2 z2 mB2 zB2 : Nat, mc = m2 + mB2 ∧ ms = z2 + zB2 ∧ w_J5_append_c97b9 c K h a0 a1 m2 z2 (fun (r2 : Option Nat) (h2 : HW) => dRf r2 (fun (a2 : Nat) => post (some a0) h2)))

abbrev rm_J4_append_bf812 (mc ms : Nat) : Room := { frames := 5, cells := mc, slots := ms, locals := 187 }
theorem he_J4_append_bf812 : yJ4_append_bf812.cls ≠ "java/lang/invoke/MethodHandle" ∧ yJ4_append_bf812.cls ≠ "java/lang/invoke/VarHandle" ∧ (parseMethodDescriptor yJ4_append_bf812.desc).map (fun d => d.parameters.length) = some 1 := by decide +kernel
theorem heV_J4_append_bf812 : yJ4_append_bf812.cls = RJ4 ∧ yJ4_append_bf812.cls ≠ "java/lang/invoke/MethodHandle" ∧ yJ4_append_bf812.cls ≠ "java/lang/invoke/VarHandle" ∧ (parseMethodDescriptor yJ4_append_bf812.desc).map (fun d => d.parameters.length) = some 1 := by decide +kernel
set_option maxHeartbeats 4000000 in
set_option maxRecDepth 100000 in
theorem h_J4_append_bf812 (l : Launch) (G : va_G) (K : (Nat → Nat) × (Nat → Nat)) (c : Nat → ClassId) (h : HW) (a0 : Nat) (a1 : Int32) (mc ms : Nat) (post : Option Nat → HW → Prop) (hm : w_J4_append_bf812 c K h a0 a1 mc ms post) : hMq l yJ4_append_bf812 wsJ4_append_bf812 (rm_J4_append_bf812 mc ms) G K (TY c) [.ref a0, .int a1] h mc ms post := by
  refine hMq.of (Or.inl ⟨_, rfl⟩) (cc := cJ4_append_bf812) (maxL := 2) (lv := [(0, .ref a0), (1, .int a1)]) (by decide) rfl (Nat.le_of_ble_eq_true rfl) rfl ?_
  intro p e s m args below meth c1 A Q H locs hx hb hml hown hmn hts hK hN hZ hXX hP hD hA hS hend ls hl
  have hown : s.vm.findClass RJ4 = some m.cls := hown
  unfold w_J4_append_bf812 at hm
  have hf : 0 + mc ≤ mc ∧ 0 + ms ≤ ms := ⟨by omega, by omega⟩
  refine lv_aload_n hx hb dJ4_append_bf812_0 rfl (lv_at hl 0 rfl) ?_
  refine lv_iload_n hx hb dJ4_append_bf812_1 rfl (lv_at hl 1 rfl) ?_
  obtain ⟨⟨wr2, fr2, hrq2⟩, hm⟩ := hm
  obtain ⟨m2, z2, mB2, zB2, hbm2, hbs2, hm⟩ := hm
  refine hcSUq (As := [.int a1]) (rest := []) ⟨hx, hb, hml, hown, hts⟩ (h_J5_append_c97b9 l G K c h a0 a1 m2 z2 _ hm) (va_cwSU 1 hts gJ4_append_bf812_J5_append_c97b9_s53 rfl rfl rfl (by decide +kernel) ⟨Nat.le_of_ble_eq_true rfl, Nat.le_of_ble_eq_true rfl⟩) hK hN hZ hXX hP hD hS hA (hK.1 12 _ rfl).2 (mr_recv hK (mRd hK hP hZ hS) (ci := 12) rfl hrq2) rfl hl.1 rfl (Nat.le_of_ble_eq_true rfl) dJ4_append_bf812_2 ⟨by show 0 + m2 ≤ mc; omega, by show 0 + z2 ≤ ms; omega⟩ (fun r2 h2 H locs hm hP hD hS => ?_)
  obtain ⟨a2, rfl, hm⟩ := hm
  replace hf : (0 + m2) + mB2 ≤ mc ∧ (0 + z2) + zB2 ≤ ms := ⟨by omega, by omega⟩
  clear hbm2 hbs2
  refine lv_pop hx hb dJ4_append_bf812_5 rfl ?_
  refine lv_aload_n hx hb dJ4_append_bf812_6 rfl (lv_at hl 0 rfl) ?_
  exact hend H locs ls 7 _ _ (some a0) h2 (by omega) (by omega) hm hP hD hS dJ4_append_bf812_7

def w_J4_length_8abf5 (c : Nat → ClassId) (K : (Nat → Nat) × (Nat → Nat)) (h : HW) (a0 : Nat) (post : Int32 → HW → Prop) : Prop :=
  (∃ w fs, h a0 = some (w, .inr (12, fs))) ∧ w_J5_length_8abf5 c K h a0 (fun (r1 : Int32) (h1 : HW) => post r1 h1)

abbrev rm_J4_length_8abf5 : Room := { frames := 1, cells := 0, slots := 0, locals := 20 }
theorem he_J4_length_8abf5 : yJ4_length_8abf5.cls ≠ "java/lang/invoke/MethodHandle" ∧ yJ4_length_8abf5.cls ≠ "java/lang/invoke/VarHandle" ∧ (parseMethodDescriptor yJ4_length_8abf5.desc).map (fun d => d.parameters.length) = some 0 := by decide +kernel
theorem heV_J4_length_8abf5 : yJ4_length_8abf5.cls = RJ4 ∧ yJ4_length_8abf5.cls ≠ "java/lang/invoke/MethodHandle" ∧ yJ4_length_8abf5.cls ≠ "java/lang/invoke/VarHandle" ∧ (parseMethodDescriptor yJ4_length_8abf5.desc).map (fun d => d.parameters.length) = some 0 := by decide +kernel
set_option maxHeartbeats 4000000 in
set_option maxRecDepth 100000 in
theorem h_J4_length_8abf5 (l : Launch) (G : va_G) (K : (Nat → Nat) × (Nat → Nat)) (c : Nat → ClassId) (h : HW) (a0 : Nat) (post : Int32 → HW → Prop) (hm : w_J4_length_8abf5 c K h a0 post) : hMi l yJ4_length_8abf5 wsJ4_length_8abf5 (rm_J4_length_8abf5) G K (TY c) [.ref a0] h 0 0 post := by
  refine hMi.of (cc := cJ4_length_8abf5) (maxL := 1) (lv := [(0, .ref a0)]) (by decide) rfl (Nat.le_of_ble_eq_true rfl) rfl ?_
  intro p e s m args below meth c1 A Q H locs hx hb hml hown hmn hts hK hN hZ hXX hP hD hA hS hend ls hl
  have hown : s.vm.findClass RJ4 = some m.cls := hown
  unfold w_J4_length_8abf5 at hm
  refine lv_aload_n hx hb dJ4_length_8abf5_0 rfl (lv_at hl 0 rfl) ?_
  obtain ⟨⟨wr1, fr1, hrq1⟩, hm⟩ := hm
  refine hcSUi (As := []) (rest := []) ⟨hx, hb, hml, hown, hts⟩ (h_J5_length_8abf5 l G K c h a0 _ hm) (va_cwSU 0 hts gJ4_length_8abf5_J5_length_8abf5_s343 rfl rfl rfl (by decide +kernel) ⟨Nat.le_of_ble_eq_true rfl, Nat.le_of_ble_eq_true rfl⟩) hK hN hZ hXX hP hD hS hA (hK.1 12 _ rfl).2 (mr_recv hK (mRd hK hP hZ hS) (ci := 12) rfl hrq1) rfl hl.1 rfl (Nat.le_of_ble_eq_true rfl) dJ4_length_8abf5_1 ⟨Nat.le_refl _, Nat.le_refl _⟩ (fun r1 h1 H locs hm hP hD hS => ?_)
  exact hend H locs ls 4 _ _ r1 h1 (Nat.le_refl _) (Nat.le_refl _) rfl hm hP hD hS dJ4_length_8abf5_4

def w_J0_init_db425 (c : Nat → ClassId) (K : (Nat → Nat) × (Nat → Nat)) (h : HW) (a0 : Nat) (a1 : Nat) (mc ms : Nat) (post : HW → Prop) : Prop :=
  (∃ w fs, h a1 = some (w, .inr (12, fs))) ∧ w_J5_getValue_6d5f1 c K h a1 (fun (r5 : Option Nat) (h5 : HW) => dRf r5 (fun (a5 : Nat) => (∃ w fs, h5 a1 = some (w, .inr (12, fs))) ∧ w_J4_length_8abf5 c K h5 a1 (fun (r10 : Int32) (h10 : HW) => (∃ w fs, h10 a1 = some (w, .inr (12, fs))) ∧ w_J5_isLatin1_aae02 c K h10 a1 (fun (r16 : Int32) (h16 : HW) => ¬ r16 = 0 ∧ (pB h16 a0 11 1 (0 : Int32) (fun (h24 : HW) => (∃ m32 z32 mB32 zB32 : Nat, mc = m32 + mB32 ∧ ms = z32 + zB32 ∧ w_J7_copyOfRange_39247 c K h24 a5 (0 : Int32) r10 m32 z32 (fun (r32 : Option Nat) (h32 : HW) => dRf r32 (fun (a32 : Nat) => pV h32 a0 11 0 (.ref a32) (fun (h35 : HW) => post h35))))))))))

abbrev rm_J0_init_db425 (mc ms : Nat) : Room := { frames := 3, cells := mc, slots := ms, locals := 166 }
theorem he_J0_init_db425 : yJ0_init_db425.cls ≠ "java/lang/invoke/MethodHandle" ∧ yJ0_init_db425.cls ≠ "java/lang/invoke/VarHandle" ∧ (parseMethodDescriptor yJ0_init_db425.desc).map (fun d => d.parameters.length) = some 2 := by decide +kernel
theorem heV_J0_init_db425 : yJ0_init_db425.cls = RJ0 ∧ yJ0_init_db425.cls ≠ "java/lang/invoke/MethodHandle" ∧ yJ0_init_db425.cls ≠ "java/lang/invoke/VarHandle" ∧ (parseMethodDescriptor yJ0_init_db425.desc).map (fun d => d.parameters.length) = some 2 := by decide +kernel
set_option maxHeartbeats 4000000 in
set_option maxRecDepth 100000 in
theorem h_J0_init_db425 (l : Launch) (G : va_G) (K : (Nat → Nat) × (Nat → Nat)) (c : Nat → ClassId) (h : HW) (a0 : Nat) (a1 : Nat) (mc ms : Nat) (post : HW → Prop) (hm : w_J0_init_db425 c K h a0 a1 mc ms post) : hMv l yJ0_init_db425 wsJ0_init_db425 (rm_J0_init_db425 mc ms) G K (TY c) [.ref a0, .ref a1, .null] h mc ms post := by
  refine hMv.of (cc := cJ0_init_db425) (maxL := 5) (lv := [(0, .ref a0), (1, .ref a1), (2, .null)]) (by decide) rfl (Nat.le_of_ble_eq_true rfl) rfl ?_
  intro p e s m args below meth c1 A Q H locs hx hb hml hown hmn hts hK hN hZ hXX hP hD hA hS hend ls hl
  have hown : s.vm.findClass RJ0 = some m.cls := hown
  have hi_11 : ∀ w ∈ u_ws RJ0 TJ0 2, w ∈ wsJ0_init_db425 := fun w h => (fun w h => List.mem_cons_of_mem _ (List.mem_append_left _ (List.mem_append_right _ (h)))) w (uws_le (by decide) w h)
  unfold w_J0_init_db425 at hm
  have hf : 0 + mc ≤ mc ∧ 0 + ms ≤ ms := ⟨by omega, by omega⟩
  refine lv_aload_n hx hb dJ0_init_db425_0 rfl (lv_at hl 0 rfl) ?_
  refine W.objInit hx hb hown (hts (.methodLink RJ0 1 objectInit) ((List.mem_of_getElem? (i := 1) rfl))) (hts (.instanceMethod objectInit) ((List.mem_of_getElem? (i := 2) rfl))) (hts (.code objectInit ⟨#[0xb1]⟩ 1 none) ((List.mem_of_getElem? (i := 3) rfl))) rfl (hl.1.trans hml.symm) rfl dJ0_init_db425_1 (Nat.le_of_ble_eq_true rfl) (Nat.le_of_ble_eq_true rfl) ?_
  show W p l e _ s m args below meth c1 _ _ _ _ _ (F0 m 4 ls [])
  refine lv_aload_n hx hb dJ0_init_db425_4 rfl (lv_at hl 1 rfl) ?_
  obtain ⟨⟨wr5, fr5, hrq5⟩, hm⟩ := hm
  refine hcVUq (As := []) (rest := []) ⟨hx, hb, hml, hown, hts⟩ (h_J5_getValue_6d5f1 l G K c h a1 _ hm) (va_cwU 0 hts gJ0_init_db425_J5_getValue_6d5f1_u552J4 rfl rfl rfl rfl (by decide +kernel) ⟨Nat.le_of_ble_eq_true rfl, Nat.le_of_ble_eq_true rfl⟩) hK hN hZ hXX hP hD hS hA (mr_recv hK (mRd hK hP hZ hS) (ci := 12) rfl hrq5) rfl hl.1 rfl (Nat.le_of_ble_eq_true rfl) dJ0_init_db425_5 ⟨by show 0 + 0 ≤ mc; omega, by show 0 + 0 ≤ ms; omega⟩ (fun r5 h5 H locs hm hP hD hS => ?_)
  obtain ⟨a5, rfl, hm⟩ := hm
  refine lv_astore_n (lv' := [(3, .ref a5), (0, .ref a0), (1, .ref a1), (2, .null)]) hx hb dJ0_init_db425_8 rfl hl (by decide) rfl (fun ls hl => ?_)
  refine lv_aload_n hx hb dJ0_init_db425_9 rfl (lv_at hl 2 rfl) ?_
  obtain ⟨⟨wr10, fr10, hrq10⟩, hm⟩ := hm
  refine hcVUi (As := []) (rest := []) ⟨hx, hb, hml, hown, hts⟩ (h_J4_length_8abf5 l G K c h5 a1 _ hm) (va_cwO 0 hts gJ0_init_db425_J4_length_8abf5_u549J4 rfl rfl rfl (List.mem_of_getElem? (i := 25) rfl) (by decide +kernel) ⟨Nat.le_of_ble_eq_true rfl, Nat.le_of_ble_eq_true rfl⟩) hK hN hZ hXX hP hD hS hA (mr_recv hK (mRd hK hP hZ hS) (ci := 12) rfl hrq10) rfl hl.1 rfl (Nat.le_of_ble_eq_true rfl) dJ0_init_db425_10 ⟨by show 0 + 0 ≤ mc; omega, by show 0 + 0 ≤ ms; omega⟩ (fun r10 h10 H locs hm hP hD hS => ?_)
  refine lv_istore (lv' := [(4, .int r10), (3, .ref a5), (0, .ref a0), (1, .ref a1), (2, .null)]) hx hb dJ0_init_db425_13 hl (by decide) rfl (fun ls hl => ?_)
  refine lv_aload_n hx hb dJ0_init_db425_15 rfl (lv_at hl 3 rfl) ?_
  obtain ⟨⟨wr16, fr16, hrq16⟩, hm⟩ := hm
  refine hcVUi (As := []) (rest := []) ⟨hx, hb, hml, hown, hts⟩ (h_J5_isLatin1_aae02 l G K c h10 a1 _ hm) (va_cwU 0 hts gJ0_init_db425_J5_isLatin1_aae02_u1047J4 rfl rfl rfl rfl (by decide +kernel) ⟨Nat.le_of_ble_eq_true rfl, Nat.le_of_ble_eq_true rfl⟩) hK hN hZ hXX hP hD hS hA (mr_recv hK (mRd hK hP hZ hS) (ci := 12) rfl hrq16) rfl hl.1 rfl (Nat.le_of_ble_eq_true rfl) dJ0_init_db425_16 ⟨by show 0 + 0 ≤ mc; omega, by show 0 + 0 ≤ ms; omega⟩ (fun r16 h16 H locs hm hP hD hS => ?_)
  obtain ⟨hc19, hm⟩ := hm
  refine lv_if_eq (tgt := 41) hx hb dJ0_init_db425_19 (by decide) (fun c_19 => ?_) (fun c_19 => ?_)
  · exact (hc19 c_19).elim
  · have hm := hm
    refine lv_aload_n hx hb dJ0_init_db425_22 rfl (lv_at hl 2 rfl) ?_
    refine lv_iconst (v := 0) hx hb dJ0_init_db425_23 (by decide) ?_
    obtain ⟨fs24, hq24, hl24, hz24, hm⟩ := hm
    refine mr_putF (v := .int (0 : Int32)) (ci := 11) (C := RJ0) (T := TJ0) (N := 2) hx hb hts hi_11 tyJ0 (fun k hk => tyJ0_ok k (Nat.lt_of_lt_of_le hk (by decide))) (fun a ha b hb => nmJ0 a (Nat.lt_of_lt_of_le ha (by decide)) b (Nat.lt_of_lt_of_le hb (by decide))) hown hK hP hD hS hq24 rfl 1 (by decide) (hts (.fieldLink RJ0 15 "java/lang/String" "coder" "B") ((List.mem_of_getElem? (i := 4) rfl))) (fun _ h9 => h9) rfl hmn rfl (tyJ0_ok 1 (by decide)) hz24.1 hz24.2 hl24 dJ0_init_db425_24 (fun H locs hP hD hS => ?_)
    generalize hup h16 a0 (.inr (11, fs24.set 1 (.int (0 : Int32)))) = h24 at hm hP hD
    refine lv_aload_n hx hb dJ0_init_db425_27 rfl (lv_at hl 2 rfl) ?_
    refine lv_aload_n hx hb dJ0_init_db425_28 rfl (lv_at hl 1 rfl) ?_
    refine lv_iconst (v := 0) hx hb dJ0_init_db425_29 (by decide) ?_
    refine lv_iload hx hb dJ0_init_db425_30 (lv_at hl 0 rfl) ?_
    obtain ⟨m32, z32, mB32, zB32, hbm32, hbs32, hm⟩ := hm
    refine hcSq (As := [.ref a5, .int (0 : Int32), .int r10]) (rest := [.ref a0]) ⟨hx, hb, hml, hown, hts⟩ (h_J7_copyOfRange_39247 l G K c h24 a5 (0 : Int32) r10 m32 z32 _ hm) (va_cwS 3 hts gJ0_init_db425_J7_copyOfRange_39247 rfl rfl rfl he_J7_copyOfRange_39247 ⟨Nat.le_of_ble_eq_true rfl, Nat.le_of_ble_eq_true rfl⟩) hK hN hZ hXX hP hD hS hA rfl hl.1 rfl (Nat.le_of_ble_eq_true rfl) dJ0_init_db425_32 ⟨by show 0 + m32 ≤ mc; omega, by show 0 + z32 ≤ ms; omega⟩ (fun r32 h32 H locs hm hP hD hS => ?_)
    obtain ⟨a32, rfl, hm⟩ := hm
    replace hf : (0 + m32) + mB32 ≤ mc ∧ (0 + z32) + zB32 ≤ ms := ⟨by omega, by omega⟩
    clear hbm32 hbs32
    obtain ⟨fs35, hq35, hl35, hm⟩ := hm
    refine mr_putF (v := .ref a32) (ci := 11) (C := RJ0) (T := TJ0) (N := 2) hx hb hts hi_11 tyJ0 (fun k hk => tyJ0_ok k (Nat.lt_of_lt_of_le hk (by decide))) (fun a ha b hb => nmJ0 a (Nat.lt_of_lt_of_le ha (by decide)) b (Nat.lt_of_lt_of_le hb (by decide))) hown hK hP hD hS hq35 rfl 0 (by decide) (hts (.fieldLink RJ0 9 "java/lang/String" "value" "[B") ((List.mem_of_getElem? (i := 5) rfl))) (fun _ h9 => h9) rfl hmn rfl (tyJ0_ok 0 (by decide)) rfl rfl hl35 dJ0_init_db425_35 (fun H locs hP hD hS => ?_)
    generalize hup h32 a0 (.inr (11, fs35.set 0 (.ref a32))) = h35 at hm hP hD
    refine lv_goto (tgt := 97) hx hb dJ0_init_db425_38 (by decide) ?_
    exact hend H locs ls 97 _ _ h35 (by omega) (by omega) hm hP hD hS dJ0_init_db425_97

def w_J0_init_81219 (c : Nat → ClassId) (K : (Nat → Nat) × (Nat → Nat)) (h : HW) (a0 : Nat) (a1 : Nat) (mc ms : Nat) (post : HW → Prop) : Prop :=
  (∃ m3 z3 mB3 zB3 : Nat, mc = m3 + mB3 ∧ ms = z3 + zB3 ∧ w_J0_init_db425 c K h a0 a1 m3 z3 (fun (h3 : HW) => post h3))

abbrev rm_J0_init_81219 (mc ms : Nat) : Room := { frames := 4, cells := mc, slots := ms, locals := 190 }
theorem he_J0_init_81219 : yJ0_init_81219.cls ≠ "java/lang/invoke/MethodHandle" ∧ yJ0_init_81219.cls ≠ "java/lang/invoke/VarHandle" ∧ (parseMethodDescriptor yJ0_init_81219.desc).map (fun d => d.parameters.length) = some 1 := by decide +kernel
theorem heV_J0_init_81219 : yJ0_init_81219.cls = RJ0 ∧ yJ0_init_81219.cls ≠ "java/lang/invoke/MethodHandle" ∧ yJ0_init_81219.cls ≠ "java/lang/invoke/VarHandle" ∧ (parseMethodDescriptor yJ0_init_81219.desc).map (fun d => d.parameters.length) = some 1 := by decide +kernel
set_option maxHeartbeats 4000000 in
set_option maxRecDepth 100000 in
theorem h_J0_init_81219 (l : Launch) (G : va_G) (K : (Nat → Nat) × (Nat → Nat)) (c : Nat → ClassId) (h : HW) (a0 : Nat) (a1 : Nat) (mc ms : Nat) (post : HW → Prop) (hm : w_J0_init_81219 c K h a0 a1 mc ms post) : hMv l yJ0_init_81219 wsJ0_init_81219 (rm_J0_init_81219 mc ms) G K (TY c) [.ref a0, .ref a1] h mc ms post := by
  refine hMv.of (cc := cJ0_init_81219) (maxL := 2) (lv := [(0, .ref a0), (1, .ref a1)]) (by decide) rfl (Nat.le_of_ble_eq_true rfl) rfl ?_
  intro p e s m args below meth c1 A Q H locs hx hb hml hown hmn hts hK hN hZ hXX hP hD hA hS hend ls hl
  have hown : s.vm.findClass RJ0 = some m.cls := hown
  unfold w_J0_init_81219 at hm
  have hf : 0 + mc ≤ mc ∧ 0 + ms ≤ ms := ⟨by omega, by omega⟩
  refine lv_aload_n hx hb dJ0_init_81219_0 rfl (lv_at hl 0 rfl) ?_
  refine lv_aload_n hx hb dJ0_init_81219_1 rfl (lv_at hl 1 rfl) ?_
  refine lv_null hx hb dJ0_init_81219_2 ?_
  obtain ⟨m3, z3, mB3, zB3, hbm3, hbs3, hm⟩ := hm
  refine hcIv (As := [.ref a1, .null]) (rest := []) ⟨hx, hb, hml, hown, hts⟩ (h_J0_init_db425 l G K c h a0 a1 m3 z3 _ hm) (cwI 2 hts gJ0_init_81219_J0_init_db425 rfl rfl rfl (hts (.initialized RJ0) ((List.mem_of_getElem? (i := 3) rfl))) (hts (.methodLink RJ0 489 yJ0_init_db425) ((List.mem_of_getElem? (i := 1) rfl))) (hts (.instanceMethod yJ0_init_db425) ((List.mem_of_getElem? (i := 2) rfl))) rfl he_J0_init_db425 ⟨Nat.le_of_ble_eq_true rfl, Nat.le_of_ble_eq_true rfl⟩) hK hN hZ hXX hP hD hS hA rfl hl.1 rfl (Nat.le_of_ble_eq_true rfl) dJ0_init_81219_3 ⟨by show 0 + m3 ≤ mc; omega, by show 0 + z3 ≤ ms; omega⟩ (fun h3 H locs hm hP hD hS => ?_)
  replace hf : (0 + m3) + mB3 ≤ mc ∧ (0 + z3) + zB3 ≤ ms := ⟨by omega, by omega⟩
  clear hbm3 hbs3
  exact hend H locs ls 6 _ _ h3 (by omega) (by omega) hm hP hD hS dJ0_init_81219_6

def w_J4_toString_0e30d (c : Nat → ClassId) (K : (Nat → Nat) × (Nat → Nat)) (h : HW) (a0 : Nat) (mc ms : Nat) (post : Option Nat → HW → Prop) : Prop :=
  nwO h 11 [.null, .int 0] 4 mc ms (fun (q0 : Nat) (h0 : HW) (mB0 zB0 : Nat) => (∃ m5 z5 mB5 zB5 : Nat, mB0 = m5 + mB5 ∧ zB0 = z5 + zB5 ∧ w_J0_init_81219 c K h0 q0 a0 m5 z5 (fun (h5 : HW) => post (some q0) h5)))

abbrev rm_J4_toString_0e30d (mc ms : Nat) : Room := { frames := 5, cells := mc, slots := ms, locals := 211 }
theorem he_J4_toString_0e30d : yJ4_toString_0e30d.cls ≠ "java/lang/invoke/MethodHandle" ∧ yJ4_toString_0e30d.cls ≠ "java/lang/invoke/VarHandle" ∧ (parseMethodDescriptor yJ4_toString_0e30d.desc).map (fun d => d.parameters.length) = some 0 := by decide +kernel
theorem heV_J4_toString_0e30d : yJ4_toString_0e30d.cls = RJ4 ∧ yJ4_toString_0e30d.cls ≠ "java/lang/invoke/MethodHandle" ∧ yJ4_toString_0e30d.cls ≠ "java/lang/invoke/VarHandle" ∧ (parseMethodDescriptor yJ4_toString_0e30d.desc).map (fun d => d.parameters.length) = some 0 := by decide +kernel
set_option maxHeartbeats 4000000 in
set_option maxRecDepth 100000 in
theorem h_J4_toString_0e30d (l : Launch) (G : va_G) (K : (Nat → Nat) × (Nat → Nat)) (c : Nat → ClassId) (h : HW) (a0 : Nat) (mc ms : Nat) (post : Option Nat → HW → Prop) (hm : w_J4_toString_0e30d c K h a0 mc ms post) : hMq l yJ4_toString_0e30d wsJ4_toString_0e30d (rm_J4_toString_0e30d mc ms) G K (TY c) [.ref a0] h mc ms post := by
  refine hMq.of (Or.inl ⟨_, rfl⟩) (cc := cJ4_toString_0e30d) (maxL := 1) (lv := [(0, .ref a0)]) (by decide) rfl (Nat.le_of_ble_eq_true rfl) rfl ?_
  intro p e s m args below meth c1 A Q H locs hx hb hml hown hmn hts hK hN hZ hXX hP hD hA hS hend ls hl
  have hown : s.vm.findClass RJ4 = some m.cls := hown
  have hi_11 : ∀ w ∈ u_ws RJ0 TJ0 2, w ∈ wsJ4_toString_0e30d := fun w h => (fun w h => List.mem_cons_of_mem _ (List.mem_append_left _ (List.mem_append_right _ (h)))) w (uws_le (by decide) w h)
  unfold w_J4_toString_0e30d at hm
  have hf : 0 + mc ≤ mc ∧ 0 + ms ≤ ms := ⟨by omega, by omega⟩
  obtain ⟨mB0, zB0, hc0, hs0, hm⟩ := hm
  refine mr_new (ci := 11) (C := RJ0) (T := TJ0) (N := 2) (n := 4) (fs := [.null, .int 0]) hx hb hts hi_11 tyJ0 (fun k hk => tyJ0_ok k (Nat.lt_of_lt_of_le hk (by decide))) hown (hts (.classLink RJ4 18 RJ0) ((List.mem_of_getElem? (i := 1) rfl))) (hts (.instantiable RJ0 4) ((List.mem_of_getElem? (i := 2) rfl))) (hts (.initialized RJ0) ((List.mem_of_getElem? (i := 3) rfl))) hK hP hD hS hA rfl (fun j hj => by rcases (show j = 0 ∨ j = 1 by omega) with rfl | rfl <;> rfl) (by show 0 + 1 ≤ mc; omega) (by show 0 + 4 ≤ ms; omega) dJ4_toString_0e30d_0 (fun q0 H hfr0 hP hD hS => ?_)
  have hm := hm q0 hfr0
  generalize hup h q0 (.inr (11, [.null, .int 0])) = h0 at hm hP hD
  replace hf : (0 + 1) + mB0 ≤ mc ∧ (0 + 4) + zB0 ≤ ms := ⟨by omega, by omega⟩
  clear hc0 hs0
  refine lv_dup hx hb dJ4_toString_0e30d_3 rfl ?_
  refine lv_aload_n hx hb dJ4_toString_0e30d_4 rfl (lv_at hl 0 rfl) ?_
  obtain ⟨m5, z5, mB5, zB5, hbm5, hbs5, hm⟩ := hm
  refine hcIv (As := [.ref a0]) (rest := [.ref q0]) ⟨hx, hb, hml, hown, hts⟩ (h_J0_init_81219 l G K c h0 q0 a0 m5 z5 _ hm) (cwI 1 hts gJ4_toString_0e30d_J0_init_81219 rfl rfl rfl (hts (.initialized RJ0) ((List.mem_of_getElem? (i := 3) rfl))) (hts (.methodLink RJ4 137 yJ0_init_81219) ((List.mem_of_getElem? (i := 4) rfl))) (hts (.instanceMethod yJ0_init_81219) ((List.mem_of_getElem? (i := 5) rfl))) rfl he_J0_init_81219 ⟨Nat.le_of_ble_eq_true rfl, Nat.le_of_ble_eq_true rfl⟩) hK hN hZ hXX hP hD hS hA rfl hl.1 rfl (Nat.le_of_ble_eq_true rfl) dJ4_toString_0e30d_5 ⟨by show (0 + 1) + m5 ≤ mc; omega, by show (0 + 4) + z5 ≤ ms; omega⟩ (fun h5 H locs hm hP hD hS => ?_)
  replace hf : ((0 + 1) + m5) + mB5 ≤ mc ∧ ((0 + 4) + z5) + zB5 ≤ ms := ⟨by omega, by omega⟩
  clear hbm5 hbs5
  exact hend H locs ls 8 _ _ (some q0) h5 (by omega) (by omega) hm hP hD hS dJ4_toString_0e30d_8

def w_X8_text_J120 (c : Nat → ClassId) (K : (Nat → Nat) × (Nat → Nat)) (a0 : Nat) (a1 : Int32) (post : Option Nat → HW → Prop) (wrec : HW → Nat → Int32 → Nat → Nat → (Option Nat → HW → Prop) → Prop) (s0_60 : Int32) (h76 : HW) (mc_120 ms_120 : Nat) (s0_120 : Nat) (s1_120 : Nat) : Prop :=
  (∃ w fs, h76 s1_120 = some (w, .inr (12, fs))) ∧ (∃ m120 z120 mB120 zB120 : Nat, mc_120 = m120 + mB120 ∧ ms_120 = z120 + zB120 ∧ w_J4_append_15ec4 c K h76 s1_120 s0_120 m120 z120 (fun (r120 : Option Nat) (h120 : HW) => dRf r120 (fun (a120 : Nat) => gR h120 a0 8 3 (fun (g124 : Nat) => ∀ x129 : Int32, x129 = s0_60 + (1 : Int32) → ((∃ w fs, h120 g124 = some (w, .inr (8, fs))) ∧ (∃ m130 z130 mB130 zB130 : Nat, mB120 = m130 + mB130 ∧ zB120 = z130 + zB130 ∧ wrec h120 g124 x129 m130 z130 (fun (r130 : Option Nat) (h130 : HW) => dRf r130 (fun (a130 : Nat) => (∃ w fs, h130 a120 = some (w, .inr (12, fs))) ∧ (∃ m133 z133 mB133 zB133 : Nat, mB130 = m133 + mB133 ∧ zB130 = z133 + zB133 ∧ w_J4_append_15ec4 c K h130 a120 a130 m133 z133 (fun (r133 : Option Nat) (h133 : HW) => dRf r133 (fun (a133 : Nat) => (∃ w fs, h133 a133 = some (w, .inr (12, fs))) ∧ (∃ m136 z136 mB136 zB136 : Nat, mB133 = m136 + mB136 ∧ zB133 = z136 + zB136 ∧ w_J4_toString_0e30d c K h133 a133 m136 z136 (fun (r136 : Option Nat) (h136 : HW) => dRf r136 (fun (a136 : Nat) => (a1 ≤ s0_60 → post (some a136) h136) ∧ (¬ a1 ≤ s0_60 → nwO h136 12 [.null, .int 0, .int 0, .int 0] 4 mB136 zB136 (fun (q145 : Nat) (h145 : HW) (mB145 zB145 : Nat) => (∃ m149 z149 mB149 zB149 : Nat, mB145 = m149 + mB149 ∧ zB145 = z149 + zB149 ∧ w_J4_init_da8c8 c K h145 q145 m149 z149 (fun (h149 : HW) => (∃ w fs, h149 q145 = some (w, .inr (12, fs))) ∧ (∃ m154 z154 mB154 zB154 : Nat, mB149 = m154 + mB154 ∧ zB149 = z154 + zB154 ∧ w_J4_append_15ec4 c K h149 q145 (K.1 19) m154 z154 (fun (r154 : Option Nat) (h154 : HW) => dRf r154 (fun (a154 : Nat) => (∃ w fs, h154 a154 = some (w, .inr (12, fs))) ∧ (∃ m158 z158 mB158 zB158 : Nat, mB154 = m158 + mB158 ∧ zB154 = z158 + zB158 ∧ w_J4_append_15ec4 c K h154 a154 a136 m158 z158 (fun (r158 : Option Nat) (h158 : HW) => dRf r158 (fun (a158 : Nat) => (∃ w fs, h158 a158 = some (w, .inr (12, fs))) ∧ (∃ m163 z163 mB163 zB163 : Nat, mB158 = m163 + mB163 ∧ zB158 = z163 + zB163 ∧ w_J4_append_15ec4 c K h158 a158 (K.1 20) m163 z163 (fun (r163 : Option Nat) (h163 : HW) => dRf r163 (fun (a163 : Nat) => (∃ w fs, h163 a163 = some (w, .inr (12, fs))) ∧ (∃ m166 z166 mB166 zB166 : Nat, mB163 = m166 + mB166 ∧ zB163 = z166 + zB166 ∧ w_J4_toString_0e30d c K h163 a163 m166 z166 (fun (r166 : Option Nat) (h166 : HW) => dRf r166 (fun (a166 : Nat) => post (some a166) h166))))))))))))))))))))))))))))))

def w_X8_text_J60 (c : Nat → ClassId) (K : (Nat → Nat) × (Nat → Nat)) (h : HW) (a0 : Nat) (a1 : Int32) (post : Option Nat → HW → Prop) (wrec : HW → Nat → Int32 → Nat → Nat → (Option Nat → HW → Prop) → Prop) (mc_60 ms_60 : Nat) (s0_60 : Int32) : Prop :=
  nwO h 12 [.null, .int 0, .int 0, .int 0] 4 mc_60 ms_60 (fun (q61 : Nat) (h61 : HW) (mB61 zB61 : Nat) => (∃ m65 z65 mB65 zB65 : Nat, mB61 = m65 + mB65 ∧ zB61 = z65 + zB65 ∧ w_J4_init_da8c8 c K h61 q61 m65 z65 (fun (h65 : HW) => gR h65 a0 8 2 (fun (g69 : Nat) => (∃ w fs, h65 g69 = some (w, .inr (8, fs))) ∧ (∃ m73 z73 mB73 zB73 : Nat, mB65 = m73 + mB73 ∧ zB65 = z73 + zB73 ∧ wrec h65 g69 s0_60 m73 z73 (fun (r73 : Option Nat) (h73 : HW) => dRf r73 (fun (a73 : Nat) => (∃ w fs, h73 q61 = some (w, .inr (12, fs))) ∧ (∃ m76 z76 mB76 zB76 : Nat, mB73 = m76 + mB76 ∧ zB73 = z76 + zB76 ∧ w_J4_append_15ec4 c K h73 q61 a73 m76 z76 (fun (r76 : Option Nat) (h76 : HW) => dRf r76 (fun (a76 : Nat) => gI h76 a0 8 0 (fun (g80 : Int32) => (g80 = (2 : Int32) → w_X8_text_J120 c K a0 a1 post wrec s0_60 h76 mB76 zB76 (K.1 15) a76) ∧ (¬ g80 = (2 : Int32) → gI h76 a0 8 0 (fun (g93 : Int32) => (g93 = (3 : Int32) → w_X8_text_J120 c K a0 a1 post wrec s0_60 h76 mB76 zB76 (K.1 16) a76) ∧ (¬ g93 = (3 : Int32) → gI h76 a0 8 0 (fun (g106 : Int32) => (g106 = (4 : Int32) → w_X8_text_J120 c K a0 a1 post wrec s0_60 h76 mB76 zB76 (K.1 17) a76) ∧ (¬ g106 = (4 : Int32) → w_X8_text_J120 c K a0 a1 post wrec s0_60 h76 mB76 zB76 (K.1 18) a76))))))))))))))))

def w_X8_text_F (c : Nat → ClassId) (K : (Nat → Nat) × (Nat → Nat)) (wrec : HW → Nat → Int32 → Nat → Nat → (Option Nat → HW → Prop) → Prop) (h : HW) (a0 : Nat) (a1 : Int32) (mc ms : Nat) (post : Option Nat → HW → Prop) : Prop :=
  gI h a0 8 0 (fun (g1 : Int32) => (g1 = 0 → nwO h 12 [.null, .int 0, .int 0, .int 0] 4 mc ms (fun (q7 : Nat) (h7 : HW) (mB7 zB7 : Nat) => (∃ m11 z11 mB11 zB11 : Nat, mB7 = m11 + mB11 ∧ zB7 = z11 + zB11 ∧ w_J4_init_da8c8 c K h7 q7 m11 z11 (fun (h11 : HW) => (∃ w fs, h11 q7 = some (w, .inr (12, fs))) ∧ (∃ m16 z16 mB16 zB16 : Nat, mB11 = m16 + mB16 ∧ zB11 = z16 + zB16 ∧ w_J4_append_15ec4 c K h11 q7 (K.1 14) m16 z16 (fun (r16 : Option Nat) (h16 : HW) => dRf r16 (fun (a16 : Nat) => gI h16 a0 8 1 (fun (g20 : Int32) => (∃ w fs, h16 a16 = some (w, .inr (12, fs))) ∧ (∃ m23 z23 mB23 zB23 : Nat, mB16 = m23 + mB23 ∧ zB16 = z23 + zB23 ∧ w_J4_append_bf812 c K h16 a16 g20 m23 z23 (fun (r23 : Option Nat) (h23 : HW) => dRf r23 (fun (a23 : Nat) => (∃ w fs, h23 a23 = some (w, .inr (12, fs))) ∧ (∃ m26 z26 mB26 zB26 : Nat, mB23 = m26 + mB26 ∧ zB23 = z26 + zB26 ∧ w_J4_toString_0e30d c K h23 a23 m26 z26 (fun (r26 : Option Nat) (h26 : HW) => dRf r26 (fun (a26 : Nat) => post (some a26) h26)))))))))))))) ∧ (¬ g1 = 0 → gI h a0 8 0 (fun (g31 : Int32) => (g31 = (1 : Int32) → gI h a0 8 1 (fun (g42 : Int32) => lR h (c 7) (K.1 30) g42 (fun (x45 : Nat) => post (some x45) h))) ∧ (¬ g31 = (1 : Int32) → gI h a0 8 0 (fun (g48 : Int32) => ((4 : Int32) ≤ g48 → w_X8_text_J60 c K h a0 a1 post wrec mc ms (2 : Int32)) ∧ (¬ (4 : Int32) ≤ g48 → w_X8_text_J60 c K h a0 a1 post wrec mc ms (1 : Int32)))))))

def w_X8_text (c : Nat → ClassId) (K : (Nat → Nat) × (Nat → Nat)) : Nat → HW → Nat → Int32 → Nat → Nat → (Option Nat → HW → Prop) → Prop
  | 0 => fun _ _ _ _ _ _ => False
  | d + 1 => w_X8_text_F c K (w_X8_text c K d)

abbrev rm_X8_text (d : Nat) (mc ms : Nat) : Room := { frames := 6 + d, cells := mc, slots := ms, locals := 231 + 23 * d }
theorem he_X8_text : yX8_text.cls ≠ "java/lang/invoke/MethodHandle" ∧ yX8_text.cls ≠ "java/lang/invoke/VarHandle" ∧ (parseMethodDescriptor yX8_text.desc).map (fun d => d.parameters.length) = some 1 := by decide +kernel
theorem heV_X8_text : yX8_text.cls = RX8 ∧ yX8_text.cls ≠ "java/lang/invoke/MethodHandle" ∧ yX8_text.cls ≠ "java/lang/invoke/VarHandle" ∧ (parseMethodDescriptor yX8_text.desc).map (fun d => d.parameters.length) = some 1 := by decide +kernel
set_option maxHeartbeats 4000000 in
set_option maxRecDepth 100000 in
theorem h_X8_text (l : Launch) (G : va_G) (K : (Nat → Nat) × (Nat → Nat)) (c : Nat → ClassId) (d : Nat) : ∀ (h : HW) (a0 : Nat) (a1 : Int32) (mc ms : Nat) (post : Option Nat → HW → Prop), w_X8_text c K d h a0 a1 mc ms post → hMq l yX8_text wsX8_text (rm_X8_text d mc ms) G K (TY c) [.ref a0, .int a1] h mc ms post := by
  induction d with
  | zero => intro h a0 a1 mc ms post hm; exact hm.elim
  | succ d ihd =>
    intro h a0 a1 mc ms post hm
    have hm : w_X8_text_F c K (w_X8_text c K d) h a0 a1 mc ms post := hm
    generalize w_X8_text c K d = wrec at hm ihd
    refine hMq.of (Or.inl ⟨_, rfl⟩) (cc := cX8_text) (maxL := 4) (lv := [(0, .ref a0), (1, .int a1)]) (by decide) rfl (Nat.le_of_ble_eq_true rfl) rfl ?_
    intro p e s m args below meth c1 A Q H locs hx hb hml hown hmn hts hK hN hZ hXX hP hD hA hS hend ls hl
    have hown : s.vm.findClass RX8 = some m.cls := hown
    have hi_8 : ∀ w ∈ u_ws RX8 TX8 4, w ∈ wsX8_text := fun w h => (fun w h => List.mem_cons_of_mem _ (List.mem_append_left _ (List.mem_append_left _ (List.mem_append_right _ (h))))) w h
    have hi_12 : ∀ w ∈ u_ws RJ4 TJ4 4, w ∈ wsX8_text := fun w h => (fun w h => List.mem_cons_of_mem _ (List.mem_append_left _ (List.mem_append_right _ (h)))) w h
    unfold w_X8_text_F at hm
    have hf : 0 + mc ≤ mc ∧ 0 + ms ≤ ms := ⟨by omega, by omega⟩
    refine lv_aload_n hx hb dX8_text_0 rfl (lv_at hl 0 rfl) ?_
    obtain ⟨wq1, fs1, g1, hq1, hv1, hm⟩ := hm
    refine mr_get (ci := 8) (C := RX8) (T := TX8) (N := 4) hx hb hts hi_8 hown hK (mRd hK hP hZ hS) hq1 rfl 0 (by decide) (hts (.fieldLink RX8 16 "HubTrainsLaw$Node" "kind" "I") ((List.mem_of_getElem? (i := 1) rfl))) (fun _ h9 => h9) hv1 dX8_text_1 ?_
    refine lv_if_ne (tgt := 30) hx hb dX8_text_4 (by decide) (fun c_4 => ?_) (fun c_4 => ?_)
    · have hm := hm.2 c_4
      refine lv_aload_n hx hb dX8_text_30 rfl (lv_at hl 0 rfl) ?_
      obtain ⟨wq31, fs31, g31, hq31, hv31, hm⟩ := hm
      refine mr_get (ci := 8) (C := RX8) (T := TX8) (N := 4) hx hb hts hi_8 hown hK (mRd hK hP hZ hS) hq31 rfl 0 (by decide) (hts (.fieldLink RX8 16 "HubTrainsLaw$Node" "kind" "I") ((List.mem_of_getElem? (i := 1) rfl))) (fun _ h9 => h9) hv31 dX8_text_31 ?_
      refine lv_iconst (v := 1) hx hb dX8_text_34 (by decide) ?_
      refine lv_icmp_ne (tgt := 47) hx hb dX8_text_35 (by decide) (fun c_35 => ?_) (fun c_35 => ?_)
      · have hm := hm.2 c_35
        refine lv_aload_n hx hb dX8_text_47 rfl (lv_at hl 0 rfl) ?_
        obtain ⟨wq48, fs48, g48, hq48, hv48, hm⟩ := hm
        refine mr_get (ci := 8) (C := RX8) (T := TX8) (N := 4) hx hb hts hi_8 hown hK (mRd hK hP hZ hS) hq48 rfl 0 (by decide) (hts (.fieldLink RX8 16 "HubTrainsLaw$Node" "kind" "I") ((List.mem_of_getElem? (i := 1) rfl))) (fun _ h9 => h9) hv48 dX8_text_48 ?_
        refine lv_iconst (v := 4) hx hb dX8_text_51 (by decide) ?_
        have J_60 : ∀ (mc_60 ms_60 : Nat) (s0_60 : Int32) (cl_60 sl_60 : Nat) (H : Heap) (locs : List Loc) (ls : Array Slot), cl_60 + mc_60 ≤ mc ∧ sl_60 + ms_60 ≤ ms → mP G K h H → mD A h → va_S A s.heap H locs → lv_has ls 4 [(0, .ref a0), (1, .int a1)] → w_X8_text_J60 c K h a0 a1 post wrec mc_60 ms_60 s0_60 → W p l e (rm_X8_text (d + 1) mc ms) s m args below meth c1 H locs cl_60 sl_60 Q (F0 m 60 ls [.int s0_60]) := by
          intro mc_60 ms_60 s0_60 cl_60 sl_60 H locs ls hf hP hD hS hl hm
          unfold w_X8_text_J60 at hm
          refine lv_istore_n (lv' := [(2, .int s0_60), (0, .ref a0), (1, .int a1)]) hx hb dX8_text_60 rfl hl (by decide) rfl (fun ls hl => ?_)
          obtain ⟨mB61, zB61, hc61, hs61, hm⟩ := hm
          refine mr_new (ci := 12) (C := RJ4) (T := TJ4) (N := 4) (n := 4) (fs := [.null, .int 0, .int 0, .int 0]) hx hb hts hi_12 tyJ4 (fun k hk => tyJ4_ok k (Nat.lt_of_lt_of_le hk (by decide))) hown (hts (.classLink RX8 34 RJ4) ((List.mem_of_getElem? (i := 2) rfl))) (hts (.instantiable RJ4 4) ((List.mem_of_getElem? (i := 3) rfl))) (hts (.initialized RJ4) ((List.mem_of_getElem? (i := 4) rfl))) hK hP hD hS hA rfl (fun j hj => by rcases (show j = 0 ∨ j = 1 ∨ j = 2 ∨ j = 3 by omega) with rfl | rfl | rfl | rfl <;> rfl) (by show cl_60 + 1 ≤ mc; omega) (by show sl_60 + 4 ≤ ms; omega) dX8_text_61 (fun q61 H hfr61 hP hD hS => ?_)
          have hm := hm q61 hfr61
          generalize hup h q61 (.inr (12, [.null, .int 0, .int 0, .int 0])) = h61 at hm hP hD
          replace hf : (cl_60 + 1) + mB61 ≤ mc ∧ (sl_60 + 4) + zB61 ≤ ms := ⟨by omega, by omega⟩
          clear hc61 hs61
          refine lv_dup hx hb dX8_text_64 rfl ?_
          obtain ⟨m65, z65, mB65, zB65, hbm65, hbs65, hm⟩ := hm
          refine hcIv (As := []) (rest := [.ref q61]) ⟨hx, hb, hml, hown, hts⟩ (h_J4_init_da8c8 l G K c h61 q61 m65 z65 _ hm) (cwI 0 hts gX8_text_J4_init_da8c8 rfl rfl rfl (hts (.initialized RJ4) ((List.mem_of_getElem? (i := 4) rfl))) (hts (.methodLink RX8 36 yJ4_init_da8c8) ((List.mem_of_getElem? (i := 8) rfl))) (hts (.instanceMethod yJ4_init_da8c8) ((List.mem_of_getElem? (i := 9) rfl))) rfl he_J4_init_da8c8 ⟨by show 2 + 1 ≤ 6 + (d + 1); omega, by show 8 + (1 + 11) + 101 ≤ 231 + 23 * (d + 1); omega⟩) hK hN hZ hXX hP hD hS hA rfl hl.1 rfl (Nat.le_of_ble_eq_true rfl) dX8_text_65 ⟨by show (cl_60 + 1) + m65 ≤ mc; omega, by show (sl_60 + 4) + z65 ≤ ms; omega⟩ (fun h65 H locs hm hP hD hS => ?_)
          replace hf : ((cl_60 + 1) + m65) + mB65 ≤ mc ∧ ((sl_60 + 4) + z65) + zB65 ≤ ms := ⟨by omega, by omega⟩
          clear hbm65 hbs65
          refine lv_aload_n hx hb dX8_text_68 rfl (lv_at hl 1 rfl) ?_
          obtain ⟨wq69, fs69, g69, hq69, hv69, hm⟩ := hm
          refine mr_get (ci := 8) (C := RX8) (T := TX8) (N := 4) hx hb hts hi_8 hown hK (mRd hK hP hZ hS) hq69 rfl 2 (by decide) (hts (.fieldLink RX8 27 "HubTrainsLaw$Node" "left" "LHubTrainsLaw$Node;") ((List.mem_of_getElem? (i := 6) rfl))) (fun _ h9 => h9) hv69 dX8_text_69 ?_
          refine lv_iload_n hx hb dX8_text_72 rfl (lv_at hl 0 rfl) ?_
          obtain ⟨⟨wr73, fr73, hrq73⟩, hm⟩ := hm
          obtain ⟨m73, z73, mB73, zB73, hbm73, hbs73, hm⟩ := hm
          refine hcVq (As := [.int s0_60]) (rest := [.ref q61]) ⟨hx, hb, hml, hown, hts⟩ (ihd h65 g69 s0_60 m73 z73 _ hm) (cwV 1 hts gX8_text_X8_text rfl rfl rfl (heV_X8_text) ⟨by show (6 + d) + 1 ≤ 6 + (d + 1); omega, by show 8 + (4 + 11) + (231 + 23 * d) ≤ 231 + 23 * (d + 1); omega⟩) hK hN hZ hXX hP hD hS hA (mr_recv hK (mRd hK hP hZ hS) (ci := 8) rfl hrq73) rfl hl.1 rfl (Nat.le_of_ble_eq_true rfl) dX8_text_73 ⟨by show ((cl_60 + 1) + m65) + m73 ≤ mc; omega, by show ((sl_60 + 4) + z65) + z73 ≤ ms; omega⟩ (fun r73 h73 H locs hm hP hD hS => ?_)
          obtain ⟨a73, rfl, hm⟩ := hm
          replace hf : (((cl_60 + 1) + m65) + m73) + mB73 ≤ mc ∧ (((sl_60 + 4) + z65) + z73) + zB73 ≤ ms := ⟨by omega, by omega⟩
          clear hbm73 hbs73
          obtain ⟨⟨wr76, fr76, hrq76⟩, hm⟩ := hm
          obtain ⟨m76, z76, mB76, zB76, hbm76, hbs76, hm⟩ := hm
          refine hcVq (As := [.ref a73]) (rest := []) ⟨hx, hb, hml, hown, hts⟩ (h_J4_append_15ec4 l G K c h73 q61 a73 m76 z76 _ hm) (cwV 1 hts gX8_text_J4_append_15ec4 rfl rfl rfl (heV_J4_append_15ec4) ⟨by show 5 + 1 ≤ 6 + (d + 1); omega, by show 8 + (2 + 11) + 187 ≤ 231 + 23 * (d + 1); omega⟩) hK hN hZ hXX hP hD hS hA (mr_recv hK (mRd hK hP hZ hS) (ci := 12) rfl hrq76) rfl hl.1 rfl (Nat.le_of_ble_eq_true rfl) dX8_text_76 ⟨by show (((cl_60 + 1) + m65) + m73) + m76 ≤ mc; omega, by show (((sl_60 + 4) + z65) + z73) + z76 ≤ ms; omega⟩ (fun r76 h76 H locs hm hP hD hS => ?_)
          obtain ⟨a76, rfl, hm⟩ := hm
          replace hf : ((((cl_60 + 1) + m65) + m73) + m76) + mB76 ≤ mc ∧ ((((sl_60 + 4) + z65) + z73) + z76) + zB76 ≤ ms := ⟨by omega, by omega⟩
          clear hbm76 hbs76
          refine lv_aload_n hx hb dX8_text_79 rfl (lv_at hl 1 rfl) ?_
          obtain ⟨wq80, fs80, g80, hq80, hv80, hm⟩ := hm
          refine mr_get (ci := 8) (C := RX8) (T := TX8) (N := 4) hx hb hts hi_8 hown hK (mRd hK hP hZ hS) hq80 rfl 0 (by decide) (hts (.fieldLink RX8 16 "HubTrainsLaw$Node" "kind" "I") ((List.mem_of_getElem? (i := 1) rfl))) (fun _ h9 => h9) hv80 dX8_text_80 ?_
          refine lv_iconst (v := 2) hx hb dX8_text_83 (by decide) ?_
          have J_120 : ∀ (mc_120 ms_120 : Nat) (s0_120 : Nat) (s1_120 : Nat) (cl_120 sl_120 : Nat) (H : Heap) (locs : List Loc) (ls : Array Slot), cl_120 + mc_120 ≤ mc ∧ sl_120 + ms_120 ≤ ms → mP G K h76 H → mD A h76 → va_S A s.heap H locs → lv_has ls 4 [(0, .ref a0), (1, .int a1), (2, .int s0_60)] → w_X8_text_J120 c K a0 a1 post wrec s0_60 h76 mc_120 ms_120 s0_120 s1_120 → W p l e (rm_X8_text (d + 1) mc ms) s m args below meth c1 H locs cl_120 sl_120 Q (F0 m 120 ls [.ref s0_120, .ref s1_120]) := by
            intro mc_120 ms_120 s0_120 s1_120 cl_120 sl_120 H locs ls hf hP hD hS hl hm
            unfold w_X8_text_J120 at hm
            obtain ⟨⟨wr120, fr120, hrq120⟩, hm⟩ := hm
            obtain ⟨m120, z120, mB120, zB120, hbm120, hbs120, hm⟩ := hm
            refine hcVq (As := [.ref s0_120]) (rest := []) ⟨hx, hb, hml, hown, hts⟩ (h_J4_append_15ec4 l G K c h76 s1_120 s0_120 m120 z120 _ hm) (cwV 1 hts gX8_text_J4_append_15ec4 rfl rfl rfl (heV_J4_append_15ec4) ⟨by show 5 + 1 ≤ 6 + (d + 1); omega, by show 8 + (2 + 11) + 187 ≤ 231 + 23 * (d + 1); omega⟩) hK hN hZ hXX hP hD hS hA (mr_recv hK (mRd hK hP hZ hS) (ci := 12) rfl hrq120) rfl hl.1 rfl (Nat.le_of_ble_eq_true rfl) dX8_text_120 ⟨by show cl_120 + m120 ≤ mc; omega, by show sl_120 + z120 ≤ ms; omega⟩ (fun r120 h120 H locs hm hP hD hS => ?_)
            obtain ⟨a120, rfl, hm⟩ := hm
            replace hf : (cl_120 + m120) + mB120 ≤ mc ∧ (sl_120 + z120) + zB120 ≤ ms := ⟨by omega, by omega⟩
            clear hbm120 hbs120
            refine lv_aload_n hx hb dX8_text_123 rfl (lv_at hl 0 rfl) ?_
            obtain ⟨wq124, fs124, g124, hq124, hv124, hm⟩ := hm
            refine mr_get (ci := 8) (C := RX8) (T := TX8) (N := 4) hx hb hts hi_8 hown hK (mRd hK hP hZ hS) hq124 rfl 3 (by decide) (hts (.fieldLink RX8 31 "HubTrainsLaw$Node" "right" "LHubTrainsLaw$Node;") ((List.mem_of_getElem? (i := 7) rfl))) (fun _ h9 => h9) hv124 dX8_text_124 ?_
            refine lv_iload_n hx hb dX8_text_127 rfl (lv_at hl 2 rfl) ?_
            refine lv_iconst (v := 1) hx hb dX8_text_128 (by decide) ?_
            refine lv_iadd hx hb dX8_text_129 ?_
            refine lv_topi (fun x129 ex129 => ?_)
            have hm := hm x129 ex129
            obtain ⟨⟨wr130, fr130, hrq130⟩, hm⟩ := hm
            obtain ⟨m130, z130, mB130, zB130, hbm130, hbs130, hm⟩ := hm
            refine hcVq (As := [.int x129]) (rest := [.ref a120]) ⟨hx, hb, hml, hown, hts⟩ (ihd h120 g124 x129 m130 z130 _ hm) (cwV 1 hts gX8_text_X8_text rfl rfl rfl (heV_X8_text) ⟨by show (6 + d) + 1 ≤ 6 + (d + 1); omega, by show 8 + (4 + 11) + (231 + 23 * d) ≤ 231 + 23 * (d + 1); omega⟩) hK hN hZ hXX hP hD hS hA (mr_recv hK (mRd hK hP hZ hS) (ci := 8) rfl hrq130) rfl hl.1 rfl (Nat.le_of_ble_eq_true rfl) dX8_text_130 ⟨by show (cl_120 + m120) + m130 ≤ mc; omega, by show (sl_120 + z120) + z130 ≤ ms; omega⟩ (fun r130 h130 H locs hm hP hD hS => ?_)
            obtain ⟨a130, rfl, hm⟩ := hm
            replace hf : ((cl_120 + m120) + m130) + mB130 ≤ mc ∧ ((sl_120 + z120) + z130) + zB130 ≤ ms := ⟨by omega, by omega⟩
            clear hbm130 hbs130
            obtain ⟨⟨wr133, fr133, hrq133⟩, hm⟩ := hm
            obtain ⟨m133, z133, mB133, zB133, hbm133, hbs133, hm⟩ := hm
            refine hcVq (As := [.ref a130]) (rest := []) ⟨hx, hb, hml, hown, hts⟩ (h_J4_append_15ec4 l G K c h130 a120 a130 m133 z133 _ hm) (cwV 1 hts gX8_text_J4_append_15ec4 rfl rfl rfl (heV_J4_append_15ec4) ⟨by show 5 + 1 ≤ 6 + (d + 1); omega, by show 8 + (2 + 11) + 187 ≤ 231 + 23 * (d + 1); omega⟩) hK hN hZ hXX hP hD hS hA (mr_recv hK (mRd hK hP hZ hS) (ci := 12) rfl hrq133) rfl hl.1 rfl (Nat.le_of_ble_eq_true rfl) dX8_text_133 ⟨by show ((cl_120 + m120) + m130) + m133 ≤ mc; omega, by show ((sl_120 + z120) + z130) + z133 ≤ ms; omega⟩ (fun r133 h133 H locs hm hP hD hS => ?_)
            obtain ⟨a133, rfl, hm⟩ := hm
            replace hf : (((cl_120 + m120) + m130) + m133) + mB133 ≤ mc ∧ (((sl_120 + z120) + z130) + z133) + zB133 ≤ ms := ⟨by omega, by omega⟩
            clear hbm133 hbs133
            obtain ⟨⟨wr136, fr136, hrq136⟩, hm⟩ := hm
            obtain ⟨m136, z136, mB136, zB136, hbm136, hbs136, hm⟩ := hm
            refine hcVq (As := []) (rest := []) ⟨hx, hb, hml, hown, hts⟩ (h_J4_toString_0e30d l G K c h133 a133 m136 z136 _ hm) (cwV 0 hts gX8_text_J4_toString_0e30d rfl rfl rfl (heV_J4_toString_0e30d) ⟨by show 5 + 1 ≤ 6 + (d + 1); omega, by show 8 + (1 + 11) + 211 ≤ 231 + 23 * (d + 1); omega⟩) hK hN hZ hXX hP hD hS hA (mr_recv hK (mRd hK hP hZ hS) (ci := 12) rfl hrq136) rfl hl.1 rfl (Nat.le_of_ble_eq_true rfl) dX8_text_136 ⟨by show (((cl_120 + m120) + m130) + m133) + m136 ≤ mc; omega, by show (((sl_120 + z120) + z130) + z133) + z136 ≤ ms; omega⟩ (fun r136 h136 H locs hm hP hD hS => ?_)
            obtain ⟨a136, rfl, hm⟩ := hm
            replace hf : ((((cl_120 + m120) + m130) + m133) + m136) + mB136 ≤ mc ∧ ((((sl_120 + z120) + z130) + z133) + z136) + zB136 ≤ ms := ⟨by omega, by omega⟩
            clear hbm136 hbs136
            refine lv_astore_n (lv' := [(3, .ref a136), (0, .ref a0), (1, .int a1), (2, .int s0_60)]) hx hb dX8_text_139 rfl hl (by decide) rfl (fun ls hl => ?_)
            refine lv_iload_n hx hb dX8_text_140 rfl (lv_at hl 3 rfl) ?_
            refine lv_iload_n hx hb dX8_text_141 rfl (lv_at hl 2 rfl) ?_
            refine lv_icmp_ge (tgt := 172) hx hb dX8_text_142 (by decide) (fun c_142 => ?_) (fun c_142 => ?_)
            · have hm := hm.1 c_142
              refine lv_aload_n hx hb dX8_text_172 rfl (lv_at hl 0 rfl) ?_
              exact hend H locs ls 173 _ _ (some a136) h136 (by omega) (by omega) hm hP hD hS dX8_text_173
            · have hm := hm.2 c_142
              obtain ⟨mB145, zB145, hc145, hs145, hm⟩ := hm
              refine mr_new (ci := 12) (C := RJ4) (T := TJ4) (N := 4) (n := 4) (fs := [.null, .int 0, .int 0, .int 0]) hx hb hts hi_12 tyJ4 (fun k hk => tyJ4_ok k (Nat.lt_of_lt_of_le hk (by decide))) hown (hts (.classLink RX8 34 RJ4) ((List.mem_of_getElem? (i := 2) rfl))) (hts (.instantiable RJ4 4) ((List.mem_of_getElem? (i := 3) rfl))) (hts (.initialized RJ4) ((List.mem_of_getElem? (i := 4) rfl))) hK hP hD hS hA rfl (fun j hj => by rcases (show j = 0 ∨ j = 1 ∨ j = 2 ∨ j = 3 by omega) with rfl | rfl | rfl | rfl <;> rfl) (by show ((((cl_120 + m120) + m130) + m133) + m136) + 1 ≤ mc; omega) (by show ((((sl_120 + z120) + z130) + z133) + z136) + 4 ≤ ms; omega) dX8_text_145 (fun q145 H hfr145 hP hD hS => ?_)
              have hm := hm q145 hfr145
              generalize hup h136 q145 (.inr (12, [.null, .int 0, .int 0, .int 0])) = h145 at hm hP hD
              replace hf : (((((cl_120 + m120) + m130) + m133) + m136) + 1) + mB145 ≤ mc ∧ (((((sl_120 + z120) + z130) + z133) + z136) + 4) + zB145 ≤ ms := ⟨by omega, by omega⟩
              clear hc145 hs145
              refine lv_dup hx hb dX8_text_148 rfl ?_
              obtain ⟨m149, z149, mB149, zB149, hbm149, hbs149, hm⟩ := hm
              refine hcIv (As := []) (rest := [.ref q145]) ⟨hx, hb, hml, hown, hts⟩ (h_J4_init_da8c8 l G K c h145 q145 m149 z149 _ hm) (cwI 0 hts gX8_text_J4_init_da8c8 rfl rfl rfl (hts (.initialized RJ4) ((List.mem_of_getElem? (i := 4) rfl))) (hts (.methodLink RX8 36 yJ4_init_da8c8) ((List.mem_of_getElem? (i := 8) rfl))) (hts (.instanceMethod yJ4_init_da8c8) ((List.mem_of_getElem? (i := 9) rfl))) rfl he_J4_init_da8c8 ⟨by show 2 + 1 ≤ 6 + (d + 1); omega, by show 8 + (1 + 11) + 101 ≤ 231 + 23 * (d + 1); omega⟩) hK hN hZ hXX hP hD hS hA rfl hl.1 rfl (Nat.le_of_ble_eq_true rfl) dX8_text_149 ⟨by show (((((cl_120 + m120) + m130) + m133) + m136) + 1) + m149 ≤ mc; omega, by show (((((sl_120 + z120) + z130) + z133) + z136) + 4) + z149 ≤ ms; omega⟩ (fun h149 H locs hm hP hD hS => ?_)
              replace hf : ((((((cl_120 + m120) + m130) + m133) + m136) + 1) + m149) + mB149 ≤ mc ∧ ((((((sl_120 + z120) + z130) + z133) + z136) + 4) + z149) + zB149 ≤ ms := ⟨by omega, by omega⟩
              clear hbm149 hbs149
              refine va_ldcS hx hb hown (nws_HubTrainsLaw_Node_68 hN.2.2) dX8_text_152 ?_
              obtain ⟨⟨wr154, fr154, hrq154⟩, hm⟩ := hm
              obtain ⟨m154, z154, mB154, zB154, hbm154, hbs154, hm⟩ := hm
              refine hcVq (As := [.ref (K.1 19)]) (rest := []) ⟨hx, hb, hml, hown, hts⟩ (h_J4_append_15ec4 l G K c h149 q145 (K.1 19) m154 z154 _ hm) (cwV 1 hts gX8_text_J4_append_15ec4 rfl rfl rfl (heV_J4_append_15ec4) ⟨by show 5 + 1 ≤ 6 + (d + 1); omega, by show 8 + (2 + 11) + 187 ≤ 231 + 23 * (d + 1); omega⟩) hK hN hZ hXX hP hD hS hA (mr_recv hK (mRd hK hP hZ hS) (ci := 12) rfl hrq154) rfl hl.1 rfl (Nat.le_of_ble_eq_true rfl) dX8_text_154 ⟨by show ((((((cl_120 + m120) + m130) + m133) + m136) + 1) + m149) + m154 ≤ mc; omega, by show ((((((sl_120 + z120) + z130) + z133) + z136) + 4) + z149) + z154 ≤ ms; omega⟩ (fun r154 h154 H locs hm hP hD hS => ?_)
              obtain ⟨a154, rfl, hm⟩ := hm
              replace hf : (((((((cl_120 + m120) + m130) + m133) + m136) + 1) + m149) + m154) + mB154 ≤ mc ∧ (((((((sl_120 + z120) + z130) + z133) + z136) + 4) + z149) + z154) + zB154 ≤ ms := ⟨by omega, by omega⟩
              clear hbm154 hbs154
              refine lv_aload_n hx hb dX8_text_157 rfl (lv_at hl 0 rfl) ?_
              obtain ⟨⟨wr158, fr158, hrq158⟩, hm⟩ := hm
              obtain ⟨m158, z158, mB158, zB158, hbm158, hbs158, hm⟩ := hm
              refine hcVq (As := [.ref a136]) (rest := []) ⟨hx, hb, hml, hown, hts⟩ (h_J4_append_15ec4 l G K c h154 a154 a136 m158 z158 _ hm) (cwV 1 hts gX8_text_J4_append_15ec4 rfl rfl rfl (heV_J4_append_15ec4) ⟨by show 5 + 1 ≤ 6 + (d + 1); omega, by show 8 + (2 + 11) + 187 ≤ 231 + 23 * (d + 1); omega⟩) hK hN hZ hXX hP hD hS hA (mr_recv hK (mRd hK hP hZ hS) (ci := 12) rfl hrq158) rfl hl.1 rfl (Nat.le_of_ble_eq_true rfl) dX8_text_158 ⟨by show (((((((cl_120 + m120) + m130) + m133) + m136) + 1) + m149) + m154) + m158 ≤ mc; omega, by show (((((((sl_120 + z120) + z130) + z133) + z136) + 4) + z149) + z154) + z158 ≤ ms; omega⟩ (fun r158 h158 H locs hm hP hD hS => ?_)
              obtain ⟨a158, rfl, hm⟩ := hm
              replace hf : ((((((((cl_120 + m120) + m130) + m133) + m136) + 1) + m149) + m154) + m158) + mB158 ≤ mc ∧ ((((((((sl_120 + z120) + z130) + z133) + z136) + 4) + z149) + z154) + z158) + zB158 ≤ ms := ⟨by omega, by omega⟩
              clear hbm158 hbs158
              refine va_ldcS hx hb hown (nws_HubTrainsLaw_Node_70 hN.2.2) dX8_text_161 ?_
              obtain ⟨⟨wr163, fr163, hrq163⟩, hm⟩ := hm
              obtain ⟨m163, z163, mB163, zB163, hbm163, hbs163, hm⟩ := hm
              refine hcVq (As := [.ref (K.1 20)]) (rest := []) ⟨hx, hb, hml, hown, hts⟩ (h_J4_append_15ec4 l G K c h158 a158 (K.1 20) m163 z163 _ hm) (cwV 1 hts gX8_text_J4_append_15ec4 rfl rfl rfl (heV_J4_append_15ec4) ⟨by show 5 + 1 ≤ 6 + (d + 1); omega, by show 8 + (2 + 11) + 187 ≤ 231 + 23 * (d + 1); omega⟩) hK hN hZ hXX hP hD hS hA (mr_recv hK (mRd hK hP hZ hS) (ci := 12) rfl hrq163) rfl hl.1 rfl (Nat.le_of_ble_eq_true rfl) dX8_text_163 ⟨by show ((((((((cl_120 + m120) + m130) + m133) + m136) + 1) + m149) + m154) + m158) + m163 ≤ mc; omega, by show ((((((((sl_120 + z120) + z130) + z133) + z136) + 4) + z149) + z154) + z158) + z163 ≤ ms; omega⟩ (fun r163 h163 H locs hm hP hD hS => ?_)
              obtain ⟨a163, rfl, hm⟩ := hm
              replace hf : (((((((((cl_120 + m120) + m130) + m133) + m136) + 1) + m149) + m154) + m158) + m163) + mB163 ≤ mc ∧ (((((((((sl_120 + z120) + z130) + z133) + z136) + 4) + z149) + z154) + z158) + z163) + zB163 ≤ ms := ⟨by omega, by omega⟩
              clear hbm163 hbs163
              obtain ⟨⟨wr166, fr166, hrq166⟩, hm⟩ := hm
              obtain ⟨m166, z166, mB166, zB166, hbm166, hbs166, hm⟩ := hm
              refine hcVq (As := []) (rest := []) ⟨hx, hb, hml, hown, hts⟩ (h_J4_toString_0e30d l G K c h163 a163 m166 z166 _ hm) (cwV 0 hts gX8_text_J4_toString_0e30d rfl rfl rfl (heV_J4_toString_0e30d) ⟨by show 5 + 1 ≤ 6 + (d + 1); omega, by show 8 + (1 + 11) + 211 ≤ 231 + 23 * (d + 1); omega⟩) hK hN hZ hXX hP hD hS hA (mr_recv hK (mRd hK hP hZ hS) (ci := 12) rfl hrq166) rfl hl.1 rfl (Nat.le_of_ble_eq_true rfl) dX8_text_166 ⟨by show (((((((((cl_120 + m120) + m130) + m133) + m136) + 1) + m149) + m154) + m158) + m163) + m166 ≤ mc; omega, by show (((((((((sl_120 + z120) + z130) + z133) + z136) + 4) + z149) + z154) + z158) + z163) + z166 ≤ ms; omega⟩ (fun r166 h166 H locs hm hP hD hS => ?_)
              obtain ⟨a166, rfl, hm⟩ := hm
              replace hf : ((((((((((cl_120 + m120) + m130) + m133) + m136) + 1) + m149) + m154) + m158) + m163) + m166) + mB166 ≤ mc ∧ ((((((((((sl_120 + z120) + z130) + z133) + z136) + 4) + z149) + z154) + z158) + z163) + z166) + zB166 ≤ ms := ⟨by omega, by omega⟩
              clear hbm166 hbs166
              refine lv_goto (tgt := 173) hx hb dX8_text_169 (by decide) ?_
              exact hend H locs ls 173 _ _ (some a166) h166 (by omega) (by omega) hm hP hD hS dX8_text_173
          refine lv_icmp_ne (tgt := 92) hx hb dX8_text_84 (by decide) (fun c_84 => ?_) (fun c_84 => ?_)
          · have hm := hm.2 c_84
            refine lv_aload_n hx hb dX8_text_92 rfl (lv_at hl 1 rfl) ?_
            obtain ⟨wq93, fs93, g93, hq93, hv93, hm⟩ := hm
            refine mr_get (ci := 8) (C := RX8) (T := TX8) (N := 4) hx hb hts hi_8 hown hK (mRd hK hP hZ hS) hq93 rfl 0 (by decide) (hts (.fieldLink RX8 16 "HubTrainsLaw$Node" "kind" "I") ((List.mem_of_getElem? (i := 1) rfl))) (fun _ h9 => h9) hv93 dX8_text_93 ?_
            refine lv_iconst (v := 3) hx hb dX8_text_96 (by decide) ?_
            refine lv_icmp_ne (tgt := 105) hx hb dX8_text_97 (by decide) (fun c_97 => ?_) (fun c_97 => ?_)
            · have hm := hm.2 c_97
              refine lv_aload_n hx hb dX8_text_105 rfl (lv_at hl 1 rfl) ?_
              obtain ⟨wq106, fs106, g106, hq106, hv106, hm⟩ := hm
              refine mr_get (ci := 8) (C := RX8) (T := TX8) (N := 4) hx hb hts hi_8 hown hK (mRd hK hP hZ hS) hq106 rfl 0 (by decide) (hts (.fieldLink RX8 16 "HubTrainsLaw$Node" "kind" "I") ((List.mem_of_getElem? (i := 1) rfl))) (fun _ h9 => h9) hv106 dX8_text_106 ?_
              refine lv_iconst (v := 4) hx hb dX8_text_109 (by decide) ?_
              refine lv_icmp_ne (tgt := 118) hx hb dX8_text_110 (by decide) (fun c_110 => ?_) (fun c_110 => ?_)
              · have hm := hm.2 c_110
                refine va_ldcS hx hb hown (nws_HubTrainsLaw_Node_66 hN.2.2) dX8_text_118 ?_
                exact J_120 mB76 zB76 (K.1 18) a76 ((((cl_60 + 1) + m65) + m73) + m76) ((((sl_60 + 4) + z65) + z73) + z76) H locs ls ⟨by omega, by omega⟩ hP hD hS (lv_sub hl [1, 2, 0] rfl) hm
              · have hm := hm.1 c_110
                refine va_ldcS hx hb hown (nws_HubTrainsLaw_Node_64 hN.2.2) dX8_text_113 ?_
                refine lv_goto (tgt := 120) hx hb dX8_text_115 (by decide) ?_
                exact J_120 mB76 zB76 (K.1 17) a76 ((((cl_60 + 1) + m65) + m73) + m76) ((((sl_60 + 4) + z65) + z73) + z76) H locs ls ⟨by omega, by omega⟩ hP hD hS (lv_sub hl [1, 2, 0] rfl) hm
            · have hm := hm.1 c_97
              refine va_ldcS hx hb hown (nws_HubTrainsLaw_Node_62 hN.2.2) dX8_text_100 ?_
              refine lv_goto (tgt := 120) hx hb dX8_text_102 (by decide) ?_
              exact J_120 mB76 zB76 (K.1 16) a76 ((((cl_60 + 1) + m65) + m73) + m76) ((((sl_60 + 4) + z65) + z73) + z76) H locs ls ⟨by omega, by omega⟩ hP hD hS (lv_sub hl [1, 2, 0] rfl) hm
          · have hm := hm.1 c_84
            refine va_ldcS hx hb hown (nws_HubTrainsLaw_Node_60 hN.2.2) dX8_text_87 ?_
            refine lv_goto (tgt := 120) hx hb dX8_text_89 (by decide) ?_
            exact J_120 mB76 zB76 (K.1 15) a76 ((((cl_60 + 1) + m65) + m73) + m76) ((((sl_60 + 4) + z65) + z73) + z76) H locs ls ⟨by omega, by omega⟩ hP hD hS (lv_sub hl [1, 2, 0] rfl) hm
        refine lv_icmp_ge (tgt := 59) hx hb dX8_text_52 (by decide) (fun c_52 => ?_) (fun c_52 => ?_)
        · have hm := hm.1 c_52
          refine lv_iconst (v := 2) hx hb dX8_text_59 (by decide) ?_
          exact J_60 mc ms (2 : Int32) 0 0 H locs ls ⟨by omega, by omega⟩ hP hD hS (lv_sub hl [0, 1] rfl) hm
        · have hm := hm.2 c_52
          refine lv_iconst (v := 1) hx hb dX8_text_55 (by decide) ?_
          refine lv_goto (tgt := 60) hx hb dX8_text_56 (by decide) ?_
          exact J_60 mc ms (1 : Int32) 0 0 H locs ls ⟨by omega, by omega⟩ hP hD hS (lv_sub hl [0, 1] rfl) hm
      · have hm := hm.1 c_35
        refine va_getsN hx hb hZ.2.2.2.2.2.1 hS hown (va_Nw.use rfl (nwf_HubTrainsLaw_Node_50 hN.1)) (fun _ h9 => h9) dX8_text_38 ?_
        refine lv_aload_n hx hb dX8_text_41 rfl (lv_at hl 0 rfl) ?_
        obtain ⟨wq42, fs42, g42, hq42, hv42, hm⟩ := hm
        refine mr_get (ci := 8) (C := RX8) (T := TX8) (N := 4) hx hb hts hi_8 hown hK (mRd hK hP hZ hS) hq42 rfl 1 (by decide) (hts (.fieldLink RX8 20 "HubTrainsLaw$Node" "number" "I") ((List.mem_of_getElem? (i := 5) rfl))) (fun _ h9 => h9) hv42 dX8_text_42 ?_
        obtain ⟨wq45, n45, f45, x45, hq45, hi45, hv45, hm⟩ := hm
        refine mr_aldq (ty := (.object "java/lang/String")) hx hb hK (mRd hK hP hZ hS) 7 rfl hq45 rfl hi45 dX8_text_45 (fun o45 eo45 => ?_)
        obtain rfl := eo45.trans hv45
        exact hend H locs ls 46 _ _ (some x45) h (by omega) (by omega) hm hP hD hS dX8_text_46
    · have hm := hm.1 c_4
      obtain ⟨mB7, zB7, hc7, hs7, hm⟩ := hm
      refine mr_new (ci := 12) (C := RJ4) (T := TJ4) (N := 4) (n := 4) (fs := [.null, .int 0, .int 0, .int 0]) hx hb hts hi_12 tyJ4 (fun k hk => tyJ4_ok k (Nat.lt_of_lt_of_le hk (by decide))) hown (hts (.classLink RX8 34 RJ4) ((List.mem_of_getElem? (i := 2) rfl))) (hts (.instantiable RJ4 4) ((List.mem_of_getElem? (i := 3) rfl))) (hts (.initialized RJ4) ((List.mem_of_getElem? (i := 4) rfl))) hK hP hD hS hA rfl (fun j hj => by rcases (show j = 0 ∨ j = 1 ∨ j = 2 ∨ j = 3 by omega) with rfl | rfl | rfl | rfl <;> rfl) (by show 0 + 1 ≤ mc; omega) (by show 0 + 4 ≤ ms; omega) dX8_text_7 (fun q7 H hfr7 hP hD hS => ?_)
      have hm := hm q7 hfr7
      generalize hup h q7 (.inr (12, [.null, .int 0, .int 0, .int 0])) = h7 at hm hP hD
      replace hf : (0 + 1) + mB7 ≤ mc ∧ (0 + 4) + zB7 ≤ ms := ⟨by omega, by omega⟩
      clear hc7 hs7
      refine lv_dup hx hb dX8_text_10 rfl ?_
      obtain ⟨m11, z11, mB11, zB11, hbm11, hbs11, hm⟩ := hm
      refine hcIv (As := []) (rest := [.ref q7]) ⟨hx, hb, hml, hown, hts⟩ (h_J4_init_da8c8 l G K c h7 q7 m11 z11 _ hm) (cwI 0 hts gX8_text_J4_init_da8c8 rfl rfl rfl (hts (.initialized RJ4) ((List.mem_of_getElem? (i := 4) rfl))) (hts (.methodLink RX8 36 yJ4_init_da8c8) ((List.mem_of_getElem? (i := 8) rfl))) (hts (.instanceMethod yJ4_init_da8c8) ((List.mem_of_getElem? (i := 9) rfl))) rfl he_J4_init_da8c8 ⟨by show 2 + 1 ≤ 6 + (d + 1); omega, by show 8 + (1 + 11) + 101 ≤ 231 + 23 * (d + 1); omega⟩) hK hN hZ hXX hP hD hS hA rfl hl.1 rfl (Nat.le_of_ble_eq_true rfl) dX8_text_11 ⟨by show (0 + 1) + m11 ≤ mc; omega, by show (0 + 4) + z11 ≤ ms; omega⟩ (fun h11 H locs hm hP hD hS => ?_)
      replace hf : ((0 + 1) + m11) + mB11 ≤ mc ∧ ((0 + 4) + z11) + zB11 ≤ ms := ⟨by omega, by omega⟩
      clear hbm11 hbs11
      refine va_ldcS hx hb hown (nws_HubTrainsLaw_Node_37 hN.2.2) dX8_text_14 ?_
      obtain ⟨⟨wr16, fr16, hrq16⟩, hm⟩ := hm
      obtain ⟨m16, z16, mB16, zB16, hbm16, hbs16, hm⟩ := hm
      refine hcVq (As := [.ref (K.1 14)]) (rest := []) ⟨hx, hb, hml, hown, hts⟩ (h_J4_append_15ec4 l G K c h11 q7 (K.1 14) m16 z16 _ hm) (cwV 1 hts gX8_text_J4_append_15ec4 rfl rfl rfl (heV_J4_append_15ec4) ⟨by show 5 + 1 ≤ 6 + (d + 1); omega, by show 8 + (2 + 11) + 187 ≤ 231 + 23 * (d + 1); omega⟩) hK hN hZ hXX hP hD hS hA (mr_recv hK (mRd hK hP hZ hS) (ci := 12) rfl hrq16) rfl hl.1 rfl (Nat.le_of_ble_eq_true rfl) dX8_text_16 ⟨by show ((0 + 1) + m11) + m16 ≤ mc; omega, by show ((0 + 4) + z11) + z16 ≤ ms; omega⟩ (fun r16 h16 H locs hm hP hD hS => ?_)
      obtain ⟨a16, rfl, hm⟩ := hm
      replace hf : (((0 + 1) + m11) + m16) + mB16 ≤ mc ∧ (((0 + 4) + z11) + z16) + zB16 ≤ ms := ⟨by omega, by omega⟩
      clear hbm16 hbs16
      refine lv_aload_n hx hb dX8_text_19 rfl (lv_at hl 0 rfl) ?_
      obtain ⟨wq20, fs20, g20, hq20, hv20, hm⟩ := hm
      refine mr_get (ci := 8) (C := RX8) (T := TX8) (N := 4) hx hb hts hi_8 hown hK (mRd hK hP hZ hS) hq20 rfl 1 (by decide) (hts (.fieldLink RX8 20 "HubTrainsLaw$Node" "number" "I") ((List.mem_of_getElem? (i := 5) rfl))) (fun _ h9 => h9) hv20 dX8_text_20 ?_
      obtain ⟨⟨wr23, fr23, hrq23⟩, hm⟩ := hm
      obtain ⟨m23, z23, mB23, zB23, hbm23, hbs23, hm⟩ := hm
      refine hcVq (As := [.int g20]) (rest := []) ⟨hx, hb, hml, hown, hts⟩ (h_J4_append_bf812 l G K c h16 a16 g20 m23 z23 _ hm) (cwV 1 hts gX8_text_J4_append_bf812 rfl rfl rfl (heV_J4_append_bf812) ⟨by show 5 + 1 ≤ 6 + (d + 1); omega, by show 8 + (2 + 11) + 187 ≤ 231 + 23 * (d + 1); omega⟩) hK hN hZ hXX hP hD hS hA (mr_recv hK (mRd hK hP hZ hS) (ci := 12) rfl hrq23) rfl hl.1 rfl (Nat.le_of_ble_eq_true rfl) dX8_text_23 ⟨by show (((0 + 1) + m11) + m16) + m23 ≤ mc; omega, by show (((0 + 4) + z11) + z16) + z23 ≤ ms; omega⟩ (fun r23 h23 H locs hm hP hD hS => ?_)
      obtain ⟨a23, rfl, hm⟩ := hm
      replace hf : ((((0 + 1) + m11) + m16) + m23) + mB23 ≤ mc ∧ ((((0 + 4) + z11) + z16) + z23) + zB23 ≤ ms := ⟨by omega, by omega⟩
      clear hbm23 hbs23
      obtain ⟨⟨wr26, fr26, hrq26⟩, hm⟩ := hm
      obtain ⟨m26, z26, mB26, zB26, hbm26, hbs26, hm⟩ := hm
      refine hcVq (As := []) (rest := []) ⟨hx, hb, hml, hown, hts⟩ (h_J4_toString_0e30d l G K c h23 a23 m26 z26 _ hm) (cwV 0 hts gX8_text_J4_toString_0e30d rfl rfl rfl (heV_J4_toString_0e30d) ⟨by show 5 + 1 ≤ 6 + (d + 1); omega, by show 8 + (1 + 11) + 211 ≤ 231 + 23 * (d + 1); omega⟩) hK hN hZ hXX hP hD hS hA (mr_recv hK (mRd hK hP hZ hS) (ci := 12) rfl hrq26) rfl hl.1 rfl (Nat.le_of_ble_eq_true rfl) dX8_text_26 ⟨by show ((((0 + 1) + m11) + m16) + m23) + m26 ≤ mc; omega, by show ((((0 + 4) + z11) + z16) + z23) + z26 ≤ ms; omega⟩ (fun r26 h26 H locs hm hP hD hS => ?_)
      obtain ⟨a26, rfl, hm⟩ := hm
      replace hf : (((((0 + 1) + m11) + m16) + m23) + m26) + mB26 ≤ mc ∧ (((((0 + 4) + z11) + z16) + z23) + z26) + zB26 ≤ ms := ⟨by omega, by omega⟩
      clear hbm26 hbs26
      exact hend H locs ls 29 _ _ (some a26) h26 (by omega) (by omega) hm hP hD hS dX8_text_29

