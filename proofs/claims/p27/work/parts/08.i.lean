/-! walks of the law's own methods over maps -/
/-! the class's methods, and the law's wrappers of them, as contracts over maps -/
theorem hNx_same {h h1 : HW} {W : va_W} (hh : hHas h W) (q : hNx h W W h1) : h1 = h := by
  funext b
  rcases Classical.em (∃ (k : Nat) (e : va_E), W[k]? = some (b, e)) with ⟨k, e, hk⟩ | hn
  · rw [q.1 k b e hk, hh k b e hk]
  · exact q.2.2.1 b (fun k e hk => hn ⟨k, e, hk⟩) (fun k e hk => hn ⟨k, e, hk⟩)
theorem CA.recv {c : Nat → ClassId} {ah : Nat → Nat} {ag : Nat → Nat → Nat} {ar : Nat → Nat} {ps : PS} {s : HS} {h : HW} (q : CA c ah ag ar ps s h) : ∃ w fs, h (ah 0) = some (w, .inr (7, fs)) := ⟨_, _, q.1 0 _ _ rfl⟩
def v_X7_ok_append (c : Nat → ClassId) (h : HW) (a0 : Nat) (a1 : Int32) (a2 : Int32) (a3 : Int32) (a4 : Int32) (a5 : Int32) (post : Int32 → HW → Prop) : Prop := ∃ (ah : Nat → Nat) (ag : Nat → Nat → Nat) (ar : Nat → Nat) (ps : PS) (s7 : HS) (r : Int32) (s7_r : HS), f_X7_append s7 a1 a2 a3 a4 a5 = some (r, s7_r) ∧ a0 = ah 0 ∧ CA c ah ag ar ps s7 h ∧ (∀ h1 : HW, hNx h (wH c ah ag ar ps s7) (wH c ah ag ar ps s7_r) h1 → post r h1)
theorem hok_append (l : Launch) (G : va_G) (K : (Nat → Nat) × (Nat → Nat)) (c : Nat → ClassId) (h : HW) (a0 : Nat) (a1 : Int32) (a2 : Int32) (a3 : Int32) (a4 : Int32) (a5 : Int32) (post : Int32 → HW → Prop) (hm : v_X7_ok_append c h a0 a1 a2 a3 a4 a5 post) : hMi l yX7_append wsX7_append rm_X7_append G K (TY c) [.ref a0, .int a1, .int a2, .int a3, .int a4, .int a5] h 0 0 post := by
  obtain ⟨ah, ag, ar, ps, s7, r, s7_r, hf, rfl, hC, hp⟩ := hm
  exact hMi_z (k_X7_append l G K c ah ag ar ps s7 a1 a2 a3 a4 a5 r s7_r hf) hC.1 hC.2 (fun h1 q => hp h1 q)
def w_X7_append (c : Nat → ClassId) (K : (Nat → Nat) × (Nat → Nat)) (h : HW) (a0 : Nat) (a1 : Int32) (a2 : Int32) (a3 : Int32) (a4 : Int32) (a5 : Int32) (post : Int32 → HW → Prop) : Prop := v_X7_ok_append c h a0 a1 a2 a3 a4 a5 post
theorem h_X7_append (l : Launch) (G : va_G) (K : (Nat → Nat) × (Nat → Nat)) (c : Nat → ClassId) (h : HW) (a0 : Nat) (a1 : Int32) (a2 : Int32) (a3 : Int32) (a4 : Int32) (a5 : Int32) (post : Int32 → HW → Prop) (hm : w_X7_append c K h a0 a1 a2 a3 a4 a5 post) : hMi l yX7_append wsX7_append rm_X7_append G K (TY c) [.ref a0, .int a1, .int a2, .int a3, .int a4, .int a5] h 0 0 post := hok_append l G K c h a0 a1 a2 a3 a4 a5 post hm
theorem heV_X7_append : yX7_append.cls = RX7 ∧ yX7_append.cls ≠ "java/lang/invoke/MethodHandle" ∧ yX7_append.cls ≠ "java/lang/invoke/VarHandle" ∧ (parseMethodDescriptor yX7_append.desc).map (fun d => d.parameters.length) = some 5 := by decide +kernel
def v_X7_ok_errorOffset (c : Nat → ClassId) (h : HW) (a0 : Nat) (post : Int32 → HW → Prop) : Prop := ∃ (ah : Nat → Nat) (ag : Nat → Nat → Nat) (ar : Nat → Nat) (ps : PS) (s7 : HS) (r : Int32), f_X7_errorOffset s7 = some (r) ∧ a0 = ah 0 ∧ CA c ah ag ar ps s7 h ∧ (post r h)
theorem hok_errorOffset (l : Launch) (G : va_G) (K : (Nat → Nat) × (Nat → Nat)) (c : Nat → ClassId) (h : HW) (a0 : Nat) (post : Int32 → HW → Prop) (hm : v_X7_ok_errorOffset c h a0 post) : hMi l yX7_errorOffset wsX7_errorOffset rm_X7_errorOffset G K (TY c) [.ref a0] h 0 0 post := by
  obtain ⟨ah, ag, ar, ps, s7, r, hf, rfl, hC, hp⟩ := hm
  exact hMi_z (k_X7_errorOffset l G K c ah ag ar ps s7 r hf) hC.1 hC.2 (fun h1 q => by rw [hNx_same hC.1 q]; exact hp)
def w_X7_errorOffset (c : Nat → ClassId) (K : (Nat → Nat) × (Nat → Nat)) (h : HW) (a0 : Nat) (post : Int32 → HW → Prop) : Prop := v_X7_ok_errorOffset c h a0 post
theorem h_X7_errorOffset (l : Launch) (G : va_G) (K : (Nat → Nat) × (Nat → Nat)) (c : Nat → ClassId) (h : HW) (a0 : Nat) (post : Int32 → HW → Prop) (hm : w_X7_errorOffset c K h a0 post) : hMi l yX7_errorOffset wsX7_errorOffset rm_X7_errorOffset G K (TY c) [.ref a0] h 0 0 post := hok_errorOffset l G K c h a0 post hm
theorem heV_X7_errorOffset : yX7_errorOffset.cls = RX7 ∧ yX7_errorOffset.cls ≠ "java/lang/invoke/MethodHandle" ∧ yX7_errorOffset.cls ≠ "java/lang/invoke/VarHandle" ∧ (parseMethodDescriptor yX7_errorOffset.desc).map (fun d => d.parameters.length) = some 0 := by decide +kernel
def v_X7_ok_best (c : Nat → ClassId) (h : HW) (a0 : Nat) (post : Int32 → HW → Prop) : Prop := ∃ (ah : Nat → Nat) (ag : Nat → Nat → Nat) (ar : Nat → Nat) (ps : PS) (s7 : HS) (r : Int32) (ps_r : PS), f_X7_best s7 ps = some (r, ps_r) ∧ a0 = ah 0 ∧ CA c ah ag ar ps s7 h ∧ (∀ h1 : HW, hNx h (wH c ah ag ar ps s7) (wH c ah ag ar ps_r s7) h1 → post r h1)
theorem hok_best (l : Launch) (G : va_G) (K : (Nat → Nat) × (Nat → Nat)) (c : Nat → ClassId) (h : HW) (a0 : Nat) (post : Int32 → HW → Prop) (hm : v_X7_ok_best c h a0 post) : hMi l yX7_best wsX7_best rm_X7_best G K (TY c) [.ref a0] h 0 0 post := by
  obtain ⟨ah, ag, ar, ps, s7, r, ps_r, hf, rfl, hC, hp⟩ := hm
  exact hMi_z (k_X7_best l G K c ah ag ar s7 ps r ps_r hf) hC.1 hC.2 (fun h1 q => hp h1 q)
def w_X7_best (c : Nat → ClassId) (K : (Nat → Nat) × (Nat → Nat)) (h : HW) (a0 : Nat) (post : Int32 → HW → Prop) : Prop := v_X7_ok_best c h a0 post
theorem h_X7_best (l : Launch) (G : va_G) (K : (Nat → Nat) × (Nat → Nat)) (c : Nat → ClassId) (h : HW) (a0 : Nat) (post : Int32 → HW → Prop) (hm : w_X7_best c K h a0 post) : hMi l yX7_best wsX7_best rm_X7_best G K (TY c) [.ref a0] h 0 0 post := hok_best l G K c h a0 post hm
theorem heV_X7_best : yX7_best.cls = RX7 ∧ yX7_best.cls ≠ "java/lang/invoke/MethodHandle" ∧ yX7_best.cls ≠ "java/lang/invoke/VarHandle" ∧ (parseMethodDescriptor yX7_best.desc).map (fun d => d.parameters.length) = some 0 := by decide +kernel
def v_X7_ok_undo (c : Nat → ClassId) (h : HW) (a0 : Nat) (post : Int32 → HW → Prop) : Prop := ∃ (ah : Nat → Nat) (ag : Nat → Nat → Nat) (ar : Nat → Nat) (ps : PS) (s7 : HS) (r : Int32) (s7_r : HS), f_X7_undo s7 = some (r, s7_r) ∧ a0 = ah 0 ∧ CA c ah ag ar ps s7 h ∧ (∀ h1 : HW, hNx h (wH c ah ag ar ps s7) (wH c ah ag ar ps s7_r) h1 → post r h1)
theorem hok_undo (l : Launch) (G : va_G) (K : (Nat → Nat) × (Nat → Nat)) (c : Nat → ClassId) (h : HW) (a0 : Nat) (post : Int32 → HW → Prop) (hm : v_X7_ok_undo c h a0 post) : hMi l yX7_undo wsX7_undo rm_X7_undo G K (TY c) [.ref a0] h 0 0 post := by
  obtain ⟨ah, ag, ar, ps, s7, r, s7_r, hf, rfl, hC, hp⟩ := hm
  exact hMi_z (k_X7_undo l G K c ah ag ar ps s7 r s7_r hf) hC.1 hC.2 (fun h1 q => hp h1 q)
def w_X7_undo (c : Nat → ClassId) (K : (Nat → Nat) × (Nat → Nat)) (h : HW) (a0 : Nat) (post : Int32 → HW → Prop) : Prop := v_X7_ok_undo c h a0 post
theorem h_X7_undo (l : Launch) (G : va_G) (K : (Nat → Nat) × (Nat → Nat)) (c : Nat → ClassId) (h : HW) (a0 : Nat) (post : Int32 → HW → Prop) (hm : w_X7_undo c K h a0 post) : hMi l yX7_undo wsX7_undo rm_X7_undo G K (TY c) [.ref a0] h 0 0 post := hok_undo l G K c h a0 post hm
theorem heV_X7_undo : yX7_undo.cls = RX7 ∧ yX7_undo.cls ≠ "java/lang/invoke/MethodHandle" ∧ yX7_undo.cls ≠ "java/lang/invoke/VarHandle" ∧ (parseMethodDescriptor yX7_undo.desc).map (fun d => d.parameters.length) = some 0 := by decide +kernel
def v_X7_ok_checksum (c : Nat → ClassId) (h : HW) (a0 : Nat) (post : Int64 → HW → Prop) : Prop := ∃ (ah : Nat → Nat) (ag : Nat → Nat → Nat) (ar : Nat → Nat) (ps : PS) (s7 : HS) (r : Int64), f_X7_checksum s7 = some (r) ∧ a0 = ah 0 ∧ CA c ah ag ar ps s7 h ∧ (post r h)
theorem hok_checksum (l : Launch) (G : va_G) (K : (Nat → Nat) × (Nat → Nat)) (c : Nat → ClassId) (h : HW) (a0 : Nat) (post : Int64 → HW → Prop) (hm : v_X7_ok_checksum c h a0 post) : hMl l yX7_checksum wsX7_checksum rm_X7_checksum G K (TY c) [.ref a0] h 0 0 post := by
  obtain ⟨ah, ag, ar, ps, s7, r, hf, rfl, hC, hp⟩ := hm
  exact hMl_z (k_X7_checksum l G K c ah ag ar ps s7 r hf) hC.1 hC.2 (fun h1 q => by rw [hNx_same hC.1 q]; exact hp)
def w_X7_checksum (c : Nat → ClassId) (K : (Nat → Nat) × (Nat → Nat)) (h : HW) (a0 : Nat) (post : Int64 → HW → Prop) : Prop := v_X7_ok_checksum c h a0 post
theorem h_X7_checksum (l : Launch) (G : va_G) (K : (Nat → Nat) × (Nat → Nat)) (c : Nat → ClassId) (h : HW) (a0 : Nat) (post : Int64 → HW → Prop) (hm : w_X7_checksum c K h a0 post) : hMl l yX7_checksum wsX7_checksum rm_X7_checksum G K (TY c) [.ref a0] h 0 0 post := hok_checksum l G K c h a0 post hm
theorem heV_X7_checksum : yX7_checksum.cls = RX7 ∧ yX7_checksum.cls ≠ "java/lang/invoke/MethodHandle" ∧ yX7_checksum.cls ≠ "java/lang/invoke/VarHandle" ∧ (parseMethodDescriptor yX7_checksum.desc).map (fun d => d.parameters.length) = some 0 := by decide +kernel
def v_X7_ok_load (c : Nat → ClassId) (h : HW) (a0 : Nat) (a1 : Int32) (post : Int32 → HW → Prop) : Prop := ∃ (ah : Nat → Nat) (ag : Nat → Nat → Nat) (ar : Nat → Nat) (ps : PS) (s7 : HS) (r : Int32) (s7_r : HS), f_X7_load s7 a1 = some (r, s7_r) ∧ a0 = ah 0 ∧ CA c ah ag ar ps s7 h ∧ (∀ h1 : HW, hNx h (wH c ah ag ar ps s7) (wH c ah ag ar ps s7_r) h1 → post r h1)
theorem hok_load (l : Launch) (G : va_G) (K : (Nat → Nat) × (Nat → Nat)) (c : Nat → ClassId) (h : HW) (a0 : Nat) (a1 : Int32) (post : Int32 → HW → Prop) (hm : v_X7_ok_load c h a0 a1 post) : hMi l yX7_load wsX7_load rm_X7_load G K (TY c) [.ref a0, .int a1] h 0 0 post := by
  obtain ⟨ah, ag, ar, ps, s7, r, s7_r, hf, rfl, hC, hp⟩ := hm
  exact hMi_z (k_X7_load l G K c ah ag ar ps s7 a1 r s7_r hf) hC.1 hC.2 (fun h1 q => hp h1 q)
def w_L_load (c : Nat → ClassId) (K : (Nat → Nat) × (Nat → Nat)) (h : HW) (a0 : Nat) (a1 : Int32) (mc ms : Nat) (post : Int32 → HW → Prop) : Prop := v_X7_ok_load c h a0 a1 post ∨ (∃ (ah : Nat → Nat) (ag : Nat → Nat → Nat) (ar : Nat → Nat) (ps : PS) (s7 : HS), t_X7_load s7 a1 = some "java/lang/IllegalArgumentException" ∧ a0 = ah 0 ∧ CA c ah ag ar ps s7 h ∧ 1 ≤ mc ∧ 6 ≤ ms ∧ post (-2000000098) h) ∨ (∃ (ah : Nat → Nat) (ag : Nat → Nat → Nat) (ar : Nat → Nat) (ps : PS) (s7 : HS) (rd1 : RS) (r : Int32) (s7r : Nat → HS), (¬ a1 < 0 ∧ a1 ≤ s7.2.2.2.2.1.2.1.1 0 ∧ g_X3_read s7.2.2.2.2.1 a1 = some rd1 ∧ ¬ hFn rd1 < 0 ∧ hFn rd1 < 500 ∧ ∀ fa, v_X7_load s7 rd1 fa = some (r, s7r fa)) ∧ a0 = ah 0 ∧ CA c ah ag ar ps s7 h ∧ 3 ≤ mc ∧ 518 ≤ ms ∧ ∀ (a31 : Nat → Nat) (h1 : HW), hNx h (wH c ah ag ar ps s7) (wH c ah ag ar (ps ++ [(a31 0, a31 1, a31 2, (hFn rd1).toNatClampNeg, hFs rd1)]) (s7r (a31 0))) h1 → post r h1)
abbrev rm_L_load (mc ms : Nat) : Room := { frames := 108, cells := mc, slots := ms, locals := 4201 }
theorem he_L_load : yL_load.cls ≠ "java/lang/invoke/MethodHandle" ∧ yL_load.cls ≠ "java/lang/invoke/VarHandle" ∧ (parseMethodDescriptor yL_load.desc).map (fun d => d.parameters.length) = some 2 := by decide +kernel
set_option maxHeartbeats 4000000 in
set_option maxRecDepth 100000 in
theorem h_L_load (l : Launch) (hl0 : l.stackTraces = false) (G : va_G) (K : (Nat → Nat) × (Nat → Nat)) (c : Nat → ClassId) (h : HW) (a0 : Nat) (a1 : Int32) (mc ms : Nat) (post : Int32 → HW → Prop) (hm : w_L_load c K h a0 a1 mc ms post) : hMi l yL_load wsL_load (rm_L_load mc ms) G K (TY c) [.ref a0, .int a1] h mc ms post := by
  refine hMi.ofx (cc := cL_load) (maxL := 3) (hh := [(0, 5, 6, 40)]) (lv := [(0, .ref a0), (1, .int a1)]) (by decide) rfl (Nat.le_of_ble_eq_true rfl) rfl ?_
  intro p e s m args below meth c1 A Q H locs hx hb hml htab hown hts hK hN hZ hXX hP hD hA hS hend ls hl
  have hown : s.vm.findClass RL = some m.cls := hown
  refine lv_aload_n hx hb dL_load_0 rfl (lv_at hl 0 rfl) ?_
  refine lv_iload_n hx hb dL_load_1 rfl (lv_at hl 1 rfl) ?_
  rcases hm with hm | hm | hm
  · obtain ⟨w0, fs0, hq0⟩ : ∃ w fs, h a0 = some (w, .inr (7, fs)) := by
      obtain ⟨ah, ag, ar, ps, s7, r, s7_r, hf, rfl, hC, hp⟩ := hm
      exact hC.recv
    refine hcVi (As := [.int a1]) (rest := []) ⟨hx, hb, hml, hown, hts⟩ (hok_load l G K c h a0 a1 _ hm) (cwV 1 hts gL_load_X7_load rfl rfl rfl (by decide +kernel) ⟨Nat.le_of_ble_eq_true rfl, Nat.le_of_ble_eq_true rfl⟩) hK hN hZ hXX hP hD hS hA (mr_recv hK (mRd hK hP hZ hS) (ci := 7) rfl hq0) rfl hl.1 rfl (Nat.le_of_ble_eq_true rfl) dL_load_2 ⟨Nat.zero_le _, Nat.zero_le _⟩ (fun r1 h1 H locs hm hP hD hS => ?_)
    exact hend H locs ls _ _ _ r1 h1 (Nat.zero_le _) (Nat.zero_le _) hm hP hD hS dL_load_5
  · obtain ⟨ah, ag, ar, ps, s7, hf, rfl, hC, hc1, hc6, hp⟩ := hm
    obtain ⟨w0, fs0, hq0⟩ := hC.recv
    refine hcXVi (As := [.int a1]) (rest := []) ⟨hx, hb, hml, hown, hts⟩ (hXi_z (tk_X7_load l hl0 G K c ah ag ar ps s7 a1 "java/lang/IllegalArgumentException" hf) hC.1 hC.2) (cwV 1 hts gL_load_X7_load rfl rfl rfl (by decide +kernel) ⟨Nat.le_of_ble_eq_true rfl, Nat.le_of_ble_eq_true rfl⟩) hK hN hZ hXX hP hD hS hA (mr_recv hK (mRd hK hP hZ hS) (ci := 7) rfl hq0) rfl hl.1 rfl (Nat.le_of_ble_eq_true rfl) dL_load_2 ⟨by show 0 + 1 ≤ mc; omega, by show 0 + 6 ≤ ms; omega⟩ (fun H locs q ce hP hD hS hq hce hcl => ?_)
    refine vx_catch (own := RL) (name := "java/lang/IllegalArgumentException") (E := "java/lang/IllegalArgumentException") hown [] ⟨0, 5, 6, 40⟩ [] (htab.trans rfl) (fun z hz => absurd hz List.not_mem_nil) (by decide) (by decide) (hts (.classLink RL 40 "java/lang/IllegalArgumentException") (List.mem_of_getElem? (i := 1) rfl)) (hXX.2.1.b (E := "java/lang/IllegalArgumentException") (List.mem_of_getElem? (i := 0) rfl) (.castable "java/lang/IllegalArgumentException" "java/lang/IllegalArgumentException") List.mem_cons_self) hq hce hcl ?_
    refine lv_astore_n (lv' := [(2, .ref q), (0, .ref (ah 0)), (1, .int a1)]) hx hb dL_load_6 rfl hl (by decide) rfl (fun ls hl => ?_)
    refine lv_ldc (v := -2000000098) hx hb hown (hts (.constant RL 42 (-2000000098)) (List.mem_of_getElem? (i := 2) rfl)) dL_load_7 ?_
    exact hend H locs ls _ _ _ _ h (by show 0 + 1 ≤ mc; omega) (by show 0 + 6 ≤ ms; omega) hp hP hD hS dL_load_9
  · obtain ⟨ah, ag, ar, ps, s7, rd1, r, s7r, ⟨g1, g2, g3, g4, g5, g6⟩, rfl, hC, hc1, hc6, hp⟩ := hm
    obtain ⟨w0, fs0, hq0⟩ := hC.recv
    refine hcVi (As := [.int a1]) (rest := []) (post := post) ⟨hx, hb, hml, hown, hts⟩ (hMi_zA (kf_X7_load l G K c ah ag ar ps s7 a1 rd1 r s7r g1 g2 g3 g4 g5 g6) hC.1 hC.2 hp) (cwV 1 hts gL_load_X7_load rfl rfl rfl (by decide +kernel) ⟨Nat.le_of_ble_eq_true rfl, Nat.le_of_ble_eq_true rfl⟩) hK hN hZ hXX hP hD hS hA (mr_recv hK (mRd hK hP hZ hS) (ci := 7) rfl hq0) rfl hl.1 rfl (Nat.le_of_ble_eq_true rfl) dL_load_2 ⟨by show 0 + 3 ≤ mc; omega, by show 0 + 518 ≤ ms; omega⟩ (fun r1 h1 H locs hm hP hD hS => ?_)
    exact hend H locs ls _ _ _ r1 h1 (by show 0 + 3 ≤ mc; omega) (by show 0 + 518 ≤ ms; omega) hm hP hD hS dL_load_5
def v_X7_ok_state (c : Nat → ClassId) (h : HW) (a0 : Nat) (a1 : Int32) (post : Int32 → HW → Prop) : Prop := ∃ (ah : Nat → Nat) (ag : Nat → Nat → Nat) (ar : Nat → Nat) (ps : PS) (s7 : HS) (r : Int32), f_X7_state s7 a1 = some (r) ∧ a0 = ah 0 ∧ CA c ah ag ar ps s7 h ∧ (post r h)
theorem hok_state (l : Launch) (G : va_G) (K : (Nat → Nat) × (Nat → Nat)) (c : Nat → ClassId) (h : HW) (a0 : Nat) (a1 : Int32) (post : Int32 → HW → Prop) (hm : v_X7_ok_state c h a0 a1 post) : hMi l yX7_state wsX7_state rm_X7_state G K (TY c) [.ref a0, .int a1] h 0 0 post := by
  obtain ⟨ah, ag, ar, ps, s7, r, hf, rfl, hC, hp⟩ := hm
  exact hMi_z (k_X7_state l G K c ah ag ar ps s7 a1 r hf) hC.1 hC.2 (fun h1 q => by rw [hNx_same hC.1 q]; exact hp)
def w_L_state (c : Nat → ClassId) (K : (Nat → Nat) × (Nat → Nat)) (h : HW) (a0 : Nat) (a1 : Int32) (mc ms : Nat) (post : Int32 → HW → Prop) : Prop := v_X7_ok_state c h a0 a1 post ∨ (∃ (ah : Nat → Nat) (ag : Nat → Nat → Nat) (ar : Nat → Nat) (ps : PS) (s7 : HS), t_X7_state s7 a1 = some "java/lang/IllegalArgumentException" ∧ a0 = ah 0 ∧ CA c ah ag ar ps s7 h ∧ 1 ≤ mc ∧ 6 ≤ ms ∧ post (-2000000098) h)
abbrev rm_L_state (mc ms : Nat) : Room := { frames := 8, cells := mc, slots := ms, locals := 172 }
theorem he_L_state : yL_state.cls ≠ "java/lang/invoke/MethodHandle" ∧ yL_state.cls ≠ "java/lang/invoke/VarHandle" ∧ (parseMethodDescriptor yL_state.desc).map (fun d => d.parameters.length) = some 2 := by decide +kernel
set_option maxHeartbeats 4000000 in
set_option maxRecDepth 100000 in
theorem h_L_state (l : Launch) (hl0 : l.stackTraces = false) (G : va_G) (K : (Nat → Nat) × (Nat → Nat)) (c : Nat → ClassId) (h : HW) (a0 : Nat) (a1 : Int32) (mc ms : Nat) (post : Int32 → HW → Prop) (hm : w_L_state c K h a0 a1 mc ms post) : hMi l yL_state wsL_state (rm_L_state mc ms) G K (TY c) [.ref a0, .int a1] h mc ms post := by
  refine hMi.ofx (cc := cL_state) (maxL := 3) (hh := [(0, 5, 6, 40)]) (lv := [(0, .ref a0), (1, .int a1)]) (by decide) rfl (Nat.le_of_ble_eq_true rfl) rfl ?_
  intro p e s m args below meth c1 A Q H locs hx hb hml htab hown hts hK hN hZ hXX hP hD hA hS hend ls hl
  have hown : s.vm.findClass RL = some m.cls := hown
  refine lv_aload_n hx hb dL_state_0 rfl (lv_at hl 0 rfl) ?_
  refine lv_iload_n hx hb dL_state_1 rfl (lv_at hl 1 rfl) ?_
  rcases hm with hm | hm
  · obtain ⟨w0, fs0, hq0⟩ : ∃ w fs, h a0 = some (w, .inr (7, fs)) := by
      obtain ⟨ah, ag, ar, ps, s7, r, hf, rfl, hC, hp⟩ := hm
      exact hC.recv
    refine hcVi (As := [.int a1]) (rest := []) ⟨hx, hb, hml, hown, hts⟩ (hok_state l G K c h a0 a1 _ hm) (cwV 1 hts gL_state_X7_state rfl rfl rfl (by decide +kernel) ⟨Nat.le_of_ble_eq_true rfl, Nat.le_of_ble_eq_true rfl⟩) hK hN hZ hXX hP hD hS hA (mr_recv hK (mRd hK hP hZ hS) (ci := 7) rfl hq0) rfl hl.1 rfl (Nat.le_of_ble_eq_true rfl) dL_state_2 ⟨Nat.zero_le _, Nat.zero_le _⟩ (fun r1 h1 H locs hm hP hD hS => ?_)
    exact hend H locs ls _ _ _ r1 h1 (Nat.zero_le _) (Nat.zero_le _) hm hP hD hS dL_state_5
  · obtain ⟨ah, ag, ar, ps, s7, hf, rfl, hC, hc1, hc6, hp⟩ := hm
    obtain ⟨w0, fs0, hq0⟩ := hC.recv
    refine hcXVi (As := [.int a1]) (rest := []) ⟨hx, hb, hml, hown, hts⟩ (hXi_z (tk_X7_state l hl0 G K c ah ag ar ps s7 a1 "java/lang/IllegalArgumentException" hf) hC.1 hC.2) (cwV 1 hts gL_state_X7_state rfl rfl rfl (by decide +kernel) ⟨Nat.le_of_ble_eq_true rfl, Nat.le_of_ble_eq_true rfl⟩) hK hN hZ hXX hP hD hS hA (mr_recv hK (mRd hK hP hZ hS) (ci := 7) rfl hq0) rfl hl.1 rfl (Nat.le_of_ble_eq_true rfl) dL_state_2 ⟨by show 0 + 1 ≤ mc; omega, by show 0 + 6 ≤ ms; omega⟩ (fun H locs q ce hP hD hS hq hce hcl => ?_)
    refine vx_catch (own := RL) (name := "java/lang/IllegalArgumentException") (E := "java/lang/IllegalArgumentException") hown [] ⟨0, 5, 6, 40⟩ [] (htab.trans rfl) (fun z hz => absurd hz List.not_mem_nil) (by decide) (by decide) (hts (.classLink RL 40 "java/lang/IllegalArgumentException") (List.mem_of_getElem? (i := 1) rfl)) (hXX.2.1.b (E := "java/lang/IllegalArgumentException") (List.mem_of_getElem? (i := 0) rfl) (.castable "java/lang/IllegalArgumentException" "java/lang/IllegalArgumentException") List.mem_cons_self) hq hce hcl ?_
    refine lv_astore_n (lv' := [(2, .ref q), (0, .ref (ah 0)), (1, .int a1)]) hx hb dL_state_6 rfl hl (by decide) rfl (fun ls hl => ?_)
    refine lv_ldc (v := -2000000098) hx hb hown (hts (.constant RL 42 (-2000000098)) (List.mem_of_getElem? (i := 2) rfl)) dL_state_7 ?_
    exact hend H locs ls _ _ _ _ h (by show 0 + 1 ≤ mc; omega) (by show 0 + 6 ≤ ms; omega) hp hP hD hS dL_state_9
def v_X7_ok_player (c : Nat → ClassId) (h : HW) (a0 : Nat) (a1 : Int32) (a2 : Int32) (post : Int32 → HW → Prop) : Prop := ∃ (ah : Nat → Nat) (ag : Nat → Nat → Nat) (ar : Nat → Nat) (ps : PS) (s7 : HS) (r : Int32), f_X7_player s7 a1 a2 = some (r) ∧ a0 = ah 0 ∧ CA c ah ag ar ps s7 h ∧ (post r h)
theorem hok_player (l : Launch) (G : va_G) (K : (Nat → Nat) × (Nat → Nat)) (c : Nat → ClassId) (h : HW) (a0 : Nat) (a1 : Int32) (a2 : Int32) (post : Int32 → HW → Prop) (hm : v_X7_ok_player c h a0 a1 a2 post) : hMi l yX7_player wsX7_player rm_X7_player G K (TY c) [.ref a0, .int a1, .int a2] h 0 0 post := by
  obtain ⟨ah, ag, ar, ps, s7, r, hf, rfl, hC, hp⟩ := hm
  exact hMi_z (k_X7_player l G K c ah ag ar ps s7 a1 a2 r hf) hC.1 hC.2 (fun h1 q => by rw [hNx_same hC.1 q]; exact hp)
def w_L_player (c : Nat → ClassId) (K : (Nat → Nat) × (Nat → Nat)) (h : HW) (a0 : Nat) (a1 : Int32) (a2 : Int32) (mc ms : Nat) (post : Int32 → HW → Prop) : Prop := v_X7_ok_player c h a0 a1 a2 post ∨ (∃ (ah : Nat → Nat) (ag : Nat → Nat → Nat) (ar : Nat → Nat) (ps : PS) (s7 : HS), t_X7_player s7 a1 a2 = some "java/lang/IndexOutOfBoundsException" ∧ a0 = ah 0 ∧ CA c ah ag ar ps s7 h ∧ 1 ≤ mc ∧ 6 ≤ ms ∧ post (-2000000097) h) ∨ (∃ (ah : Nat → Nat) (ag : Nat → Nat → Nat) (ar : Nat → Nat) (ps : PS) (s7 : HS), t_X7_player s7 a1 a2 = some "java/lang/IllegalArgumentException" ∧ a0 = ah 0 ∧ CA c ah ag ar ps s7 h ∧ 1 ≤ mc ∧ 6 ≤ ms ∧ post (-2000000098) h)
abbrev rm_L_player (mc ms : Nat) : Room := { frames := 8, cells := mc, slots := ms, locals := 175 }
theorem he_L_player : yL_player.cls ≠ "java/lang/invoke/MethodHandle" ∧ yL_player.cls ≠ "java/lang/invoke/VarHandle" ∧ (parseMethodDescriptor yL_player.desc).map (fun d => d.parameters.length) = some 3 := by decide +kernel
set_option maxHeartbeats 4000000 in
set_option maxRecDepth 100000 in
theorem h_L_player (l : Launch) (hl0 : l.stackTraces = false) (G : va_G) (K : (Nat → Nat) × (Nat → Nat)) (c : Nat → ClassId) (h : HW) (a0 : Nat) (a1 : Int32) (a2 : Int32) (mc ms : Nat) (post : Int32 → HW → Prop) (hm : w_L_player c K h a0 a1 a2 mc ms post) : hMi l yL_player wsL_player (rm_L_player mc ms) G K (TY c) [.ref a0, .int a1, .int a2] h mc ms post := by
  refine hMi.ofx (cc := cL_player) (maxL := 4) (hh := [(0, 6, 7, 50), (0, 6, 11, 40)]) (lv := [(0, .ref a0), (1, .int a1), (2, .int a2)]) (by decide) rfl (Nat.le_of_ble_eq_true rfl) rfl ?_
  intro p e s m args below meth c1 A Q H locs hx hb hml htab hown hts hK hN hZ hXX hP hD hA hS hend ls hl
  have hown : s.vm.findClass RL = some m.cls := hown
  refine lv_aload_n hx hb dL_player_0 rfl (lv_at hl 0 rfl) ?_
  refine lv_iload_n hx hb dL_player_1 rfl (lv_at hl 1 rfl) ?_
  refine lv_iload_n hx hb dL_player_2 rfl (lv_at hl 2 rfl) ?_
  rcases hm with hm | hm | hm
  · obtain ⟨w0, fs0, hq0⟩ : ∃ w fs, h a0 = some (w, .inr (7, fs)) := by
      obtain ⟨ah, ag, ar, ps, s7, r, hf, rfl, hC, hp⟩ := hm
      exact hC.recv
    refine hcVi (As := [.int a1, .int a2]) (rest := []) ⟨hx, hb, hml, hown, hts⟩ (hok_player l G K c h a0 a1 a2 _ hm) (cwV 2 hts gL_player_X7_player rfl rfl rfl (by decide +kernel) ⟨Nat.le_of_ble_eq_true rfl, Nat.le_of_ble_eq_true rfl⟩) hK hN hZ hXX hP hD hS hA (mr_recv hK (mRd hK hP hZ hS) (ci := 7) rfl hq0) rfl hl.1 rfl (Nat.le_of_ble_eq_true rfl) dL_player_3 ⟨Nat.zero_le _, Nat.zero_le _⟩ (fun r1 h1 H locs hm hP hD hS => ?_)
    exact hend H locs ls _ _ _ r1 h1 (Nat.zero_le _) (Nat.zero_le _) hm hP hD hS dL_player_6
  · obtain ⟨ah, ag, ar, ps, s7, hf, rfl, hC, hc1, hc6, hp⟩ := hm
    obtain ⟨w0, fs0, hq0⟩ := hC.recv
    refine hcXVi (As := [.int a1, .int a2]) (rest := []) ⟨hx, hb, hml, hown, hts⟩ (hXi_z (tk_X7_player l hl0 G K c ah ag ar ps s7 a1 a2 "java/lang/IndexOutOfBoundsException" hf) hC.1 hC.2) (cwV 2 hts gL_player_X7_player rfl rfl rfl (by decide +kernel) ⟨Nat.le_of_ble_eq_true rfl, Nat.le_of_ble_eq_true rfl⟩) hK hN hZ hXX hP hD hS hA (mr_recv hK (mRd hK hP hZ hS) (ci := 7) rfl hq0) rfl hl.1 rfl (Nat.le_of_ble_eq_true rfl) dL_player_3 ⟨by show 0 + 1 ≤ mc; omega, by show 0 + 6 ≤ ms; omega⟩ (fun H locs q ce hP hD hS hq hce hcl => ?_)
    refine vx_catch (own := RL) (name := "java/lang/IndexOutOfBoundsException") (E := "java/lang/IndexOutOfBoundsException") hown [] ⟨0, 6, 7, 50⟩ [⟨0, 6, 11, 40⟩] (htab.trans rfl) (fun z hz => absurd hz List.not_mem_nil) (by decide) (by decide) (hts (.classLink RL 50 "java/lang/IndexOutOfBoundsException") (List.mem_of_getElem? (i := 1) rfl)) (hXX.2.1.b (E := "java/lang/IndexOutOfBoundsException") (List.mem_of_getElem? (i := 1) rfl) (.castable "java/lang/IndexOutOfBoundsException" "java/lang/IndexOutOfBoundsException") List.mem_cons_self) hq hce hcl ?_
    refine lv_astore_n (lv' := [(3, .ref q), (0, .ref (ah 0)), (1, .int a1), (2, .int a2)]) hx hb dL_player_7 rfl hl (by decide) rfl (fun ls hl => ?_)
    refine lv_ldc (v := -2000000097) hx hb hown (hts (.constant RL 52 (-2000000097)) (List.mem_of_getElem? (i := 3) rfl)) dL_player_8 ?_
    exact hend H locs ls _ _ _ _ h (by show 0 + 1 ≤ mc; omega) (by show 0 + 6 ≤ ms; omega) hp hP hD hS dL_player_10
  · obtain ⟨ah, ag, ar, ps, s7, hf, rfl, hC, hc1, hc6, hp⟩ := hm
    obtain ⟨w0, fs0, hq0⟩ := hC.recv
    refine hcXVi (As := [.int a1, .int a2]) (rest := []) ⟨hx, hb, hml, hown, hts⟩ (hXi_z (tk_X7_player l hl0 G K c ah ag ar ps s7 a1 a2 "java/lang/IllegalArgumentException" hf) hC.1 hC.2) (cwV 2 hts gL_player_X7_player rfl rfl rfl (by decide +kernel) ⟨Nat.le_of_ble_eq_true rfl, Nat.le_of_ble_eq_true rfl⟩) hK hN hZ hXX hP hD hS hA (mr_recv hK (mRd hK hP hZ hS) (ci := 7) rfl hq0) rfl hl.1 rfl (Nat.le_of_ble_eq_true rfl) dL_player_3 ⟨by show 0 + 1 ≤ mc; omega, by show 0 + 6 ≤ ms; omega⟩ (fun H locs q ce hP hD hS hq hce hcl => ?_)
    refine vx_catch (own := RL) (name := "java/lang/IllegalArgumentException") (E := "java/lang/IllegalArgumentException") hown [⟨0, 6, 7, 50⟩] ⟨0, 6, 11, 40⟩ [] (htab.trans rfl) (fun z hz => by cases List.mem_singleton.mp hz; exact Or.inr ⟨by decide, "java/lang/IndexOutOfBoundsException", hts (.classLink RL 50 "java/lang/IndexOutOfBoundsException") (List.mem_of_getElem? (i := 1) rfl), hXX.2.2.1 ("java/lang/IllegalArgumentException", "java/lang/IndexOutOfBoundsException") (List.mem_of_getElem? (i := 0) rfl)⟩) (by decide) (by decide) (hts (.classLink RL 40 "java/lang/IllegalArgumentException") (List.mem_of_getElem? (i := 2) rfl)) (hXX.2.1.b (E := "java/lang/IllegalArgumentException") (List.mem_of_getElem? (i := 0) rfl) (.castable "java/lang/IllegalArgumentException" "java/lang/IllegalArgumentException") List.mem_cons_self) hq hce hcl ?_
    refine lv_astore_n (lv' := [(3, .ref q), (0, .ref (ah 0)), (1, .int a1), (2, .int a2)]) hx hb dL_player_11 rfl hl (by decide) rfl (fun ls hl => ?_)
    refine lv_ldc (v := -2000000098) hx hb hown (hts (.constant RL 42 (-2000000098)) (List.mem_of_getElem? (i := 4) rfl)) dL_player_12 ?_
    exact hend H locs ls _ _ _ _ h (by show 0 + 1 ≤ mc; omega) (by show 0 + 6 ≤ ms; omega) hp hP hD hS dL_player_14
def v_X7_ok_tile (c : Nat → ClassId) (h : HW) (a0 : Nat) (a1 : Int32) (a2 : Int32) (post : Int32 → HW → Prop) : Prop := ∃ (ah : Nat → Nat) (ag : Nat → Nat → Nat) (ar : Nat → Nat) (ps : PS) (s7 : HS) (r : Int32), f_X7_tile s7 a1 a2 = some (r) ∧ a0 = ah 0 ∧ CA c ah ag ar ps s7 h ∧ (post r h)
theorem hok_tile (l : Launch) (G : va_G) (K : (Nat → Nat) × (Nat → Nat)) (c : Nat → ClassId) (h : HW) (a0 : Nat) (a1 : Int32) (a2 : Int32) (post : Int32 → HW → Prop) (hm : v_X7_ok_tile c h a0 a1 a2 post) : hMi l yX7_tile wsX7_tile rm_X7_tile G K (TY c) [.ref a0, .int a1, .int a2] h 0 0 post := by
  obtain ⟨ah, ag, ar, ps, s7, r, hf, rfl, hC, hp⟩ := hm
  exact hMi_z (k_X7_tile l G K c ah ag ar ps s7 a1 a2 r hf) hC.1 hC.2 (fun h1 q => by rw [hNx_same hC.1 q]; exact hp)
def w_L_tile (c : Nat → ClassId) (K : (Nat → Nat) × (Nat → Nat)) (h : HW) (a0 : Nat) (a1 : Int32) (a2 : Int32) (mc ms : Nat) (post : Int32 → HW → Prop) : Prop := v_X7_ok_tile c h a0 a1 a2 post ∨ (∃ (ah : Nat → Nat) (ag : Nat → Nat → Nat) (ar : Nat → Nat) (ps : PS) (s7 : HS), t_X7_tile s7 a1 a2 = some "java/lang/IndexOutOfBoundsException" ∧ a0 = ah 0 ∧ CA c ah ag ar ps s7 h ∧ 1 ≤ mc ∧ 6 ≤ ms ∧ post (-2000000097) h) ∨ (∃ (ah : Nat → Nat) (ag : Nat → Nat → Nat) (ar : Nat → Nat) (ps : PS) (s7 : HS), t_X7_tile s7 a1 a2 = some "java/util/NoSuchElementException" ∧ a0 = ah 0 ∧ CA c ah ag ar ps s7 h ∧ 1 ≤ mc ∧ 6 ≤ ms ∧ post (-2000000100) h)
abbrev rm_L_tile (mc ms : Nat) : Room := { frames := 8, cells := mc, slots := ms, locals := 125 }
theorem he_L_tile : yL_tile.cls ≠ "java/lang/invoke/MethodHandle" ∧ yL_tile.cls ≠ "java/lang/invoke/VarHandle" ∧ (parseMethodDescriptor yL_tile.desc).map (fun d => d.parameters.length) = some 3 := by decide +kernel
set_option maxHeartbeats 4000000 in
set_option maxRecDepth 100000 in
theorem h_L_tile (l : Launch) (hl0 : l.stackTraces = false) (G : va_G) (K : (Nat → Nat) × (Nat → Nat)) (c : Nat → ClassId) (h : HW) (a0 : Nat) (a1 : Int32) (a2 : Int32) (mc ms : Nat) (post : Int32 → HW → Prop) (hm : w_L_tile c K h a0 a1 a2 mc ms post) : hMi l yL_tile wsL_tile (rm_L_tile mc ms) G K (TY c) [.ref a0, .int a1, .int a2] h mc ms post := by
  refine hMi.ofx (cc := cL_tile) (maxL := 4) (hh := [(0, 6, 7, 50), (0, 6, 11, 56)]) (lv := [(0, .ref a0), (1, .int a1), (2, .int a2)]) (by decide) rfl (Nat.le_of_ble_eq_true rfl) rfl ?_
  intro p e s m args below meth c1 A Q H locs hx hb hml htab hown hts hK hN hZ hXX hP hD hA hS hend ls hl
  have hown : s.vm.findClass RL = some m.cls := hown
  refine lv_aload_n hx hb dL_tile_0 rfl (lv_at hl 0 rfl) ?_
  refine lv_iload_n hx hb dL_tile_1 rfl (lv_at hl 1 rfl) ?_
  refine lv_iload_n hx hb dL_tile_2 rfl (lv_at hl 2 rfl) ?_
  rcases hm with hm | hm | hm
  · obtain ⟨w0, fs0, hq0⟩ : ∃ w fs, h a0 = some (w, .inr (7, fs)) := by
      obtain ⟨ah, ag, ar, ps, s7, r, hf, rfl, hC, hp⟩ := hm
      exact hC.recv
    refine hcVi (As := [.int a1, .int a2]) (rest := []) ⟨hx, hb, hml, hown, hts⟩ (hok_tile l G K c h a0 a1 a2 _ hm) (cwV 2 hts gL_tile_X7_tile rfl rfl rfl (by decide +kernel) ⟨Nat.le_of_ble_eq_true rfl, Nat.le_of_ble_eq_true rfl⟩) hK hN hZ hXX hP hD hS hA (mr_recv hK (mRd hK hP hZ hS) (ci := 7) rfl hq0) rfl hl.1 rfl (Nat.le_of_ble_eq_true rfl) dL_tile_3 ⟨Nat.zero_le _, Nat.zero_le _⟩ (fun r1 h1 H locs hm hP hD hS => ?_)
    exact hend H locs ls _ _ _ r1 h1 (Nat.zero_le _) (Nat.zero_le _) hm hP hD hS dL_tile_6
  · obtain ⟨ah, ag, ar, ps, s7, hf, rfl, hC, hc1, hc6, hp⟩ := hm
    obtain ⟨w0, fs0, hq0⟩ := hC.recv
    refine hcXVi (As := [.int a1, .int a2]) (rest := []) ⟨hx, hb, hml, hown, hts⟩ (hXi_z (tk_X7_tile l hl0 G K c ah ag ar ps s7 a1 a2 "java/lang/IndexOutOfBoundsException" hf) hC.1 hC.2) (cwV 2 hts gL_tile_X7_tile rfl rfl rfl (by decide +kernel) ⟨Nat.le_of_ble_eq_true rfl, Nat.le_of_ble_eq_true rfl⟩) hK hN hZ hXX hP hD hS hA (mr_recv hK (mRd hK hP hZ hS) (ci := 7) rfl hq0) rfl hl.1 rfl (Nat.le_of_ble_eq_true rfl) dL_tile_3 ⟨by show 0 + 1 ≤ mc; omega, by show 0 + 6 ≤ ms; omega⟩ (fun H locs q ce hP hD hS hq hce hcl => ?_)
    refine vx_catch (own := RL) (name := "java/lang/IndexOutOfBoundsException") (E := "java/lang/IndexOutOfBoundsException") hown [] ⟨0, 6, 7, 50⟩ [⟨0, 6, 11, 56⟩] (htab.trans rfl) (fun z hz => absurd hz List.not_mem_nil) (by decide) (by decide) (hts (.classLink RL 50 "java/lang/IndexOutOfBoundsException") (List.mem_of_getElem? (i := 1) rfl)) (hXX.2.1.b (E := "java/lang/IndexOutOfBoundsException") (List.mem_of_getElem? (i := 1) rfl) (.castable "java/lang/IndexOutOfBoundsException" "java/lang/IndexOutOfBoundsException") List.mem_cons_self) hq hce hcl ?_
    refine lv_astore_n (lv' := [(3, .ref q), (0, .ref (ah 0)), (1, .int a1), (2, .int a2)]) hx hb dL_tile_7 rfl hl (by decide) rfl (fun ls hl => ?_)
    refine lv_ldc (v := -2000000097) hx hb hown (hts (.constant RL 52 (-2000000097)) (List.mem_of_getElem? (i := 3) rfl)) dL_tile_8 ?_
    exact hend H locs ls _ _ _ _ h (by show 0 + 1 ≤ mc; omega) (by show 0 + 6 ≤ ms; omega) hp hP hD hS dL_tile_10
  · obtain ⟨ah, ag, ar, ps, s7, hf, rfl, hC, hc1, hc6, hp⟩ := hm
    obtain ⟨w0, fs0, hq0⟩ := hC.recv
    refine hcXVi (As := [.int a1, .int a2]) (rest := []) ⟨hx, hb, hml, hown, hts⟩ (hXi_z (tk_X7_tile l hl0 G K c ah ag ar ps s7 a1 a2 "java/util/NoSuchElementException" hf) hC.1 hC.2) (cwV 2 hts gL_tile_X7_tile rfl rfl rfl (by decide +kernel) ⟨Nat.le_of_ble_eq_true rfl, Nat.le_of_ble_eq_true rfl⟩) hK hN hZ hXX hP hD hS hA (mr_recv hK (mRd hK hP hZ hS) (ci := 7) rfl hq0) rfl hl.1 rfl (Nat.le_of_ble_eq_true rfl) dL_tile_3 ⟨by show 0 + 1 ≤ mc; omega, by show 0 + 6 ≤ ms; omega⟩ (fun H locs q ce hP hD hS hq hce hcl => ?_)
    refine vx_catch (own := RL) (name := "java/util/NoSuchElementException") (E := "java/util/NoSuchElementException") hown [⟨0, 6, 7, 50⟩] ⟨0, 6, 11, 56⟩ [] (htab.trans rfl) (fun z hz => by cases List.mem_singleton.mp hz; exact Or.inr ⟨by decide, "java/lang/IndexOutOfBoundsException", hts (.classLink RL 50 "java/lang/IndexOutOfBoundsException") (List.mem_of_getElem? (i := 1) rfl), hXX.2.2.1 ("java/util/NoSuchElementException", "java/lang/IndexOutOfBoundsException") (List.mem_of_getElem? (i := 1) rfl)⟩) (by decide) (by decide) (hts (.classLink RL 56 "java/util/NoSuchElementException") (List.mem_of_getElem? (i := 2) rfl)) (hXX.2.1.b (E := "java/util/NoSuchElementException") (List.mem_of_getElem? (i := 2) rfl) (.castable "java/util/NoSuchElementException" "java/util/NoSuchElementException") List.mem_cons_self) hq hce hcl ?_
    refine lv_astore_n (lv' := [(3, .ref q), (0, .ref (ah 0)), (1, .int a1), (2, .int a2)]) hx hb dL_tile_11 rfl hl (by decide) rfl (fun ls hl => ?_)
    refine lv_ldc (v := -2000000100) hx hb hown (hts (.constant RL 58 (-2000000100)) (List.mem_of_getElem? (i := 4) rfl)) dL_tile_12 ?_
    exact hend H locs ls _ _ _ _ h (by show 0 + 1 ≤ mc; omega) (by show 0 + 6 ≤ ms; omega) hp hP hD hS dL_tile_14
def v_X7_ok_train (c : Nat → ClassId) (h : HW) (a0 : Nat) (a1 : Int32) (a2 : Int32) (post : Int32 → HW → Prop) : Prop := ∃ (ah : Nat → Nat) (ag : Nat → Nat → Nat) (ar : Nat → Nat) (ps : PS) (s7 : HS) (r : Int32), f_X7_train s7 a1 a2 = some (r) ∧ a0 = ah 0 ∧ CA c ah ag ar ps s7 h ∧ (post r h)
theorem hok_train (l : Launch) (G : va_G) (K : (Nat → Nat) × (Nat → Nat)) (c : Nat → ClassId) (h : HW) (a0 : Nat) (a1 : Int32) (a2 : Int32) (post : Int32 → HW → Prop) (hm : v_X7_ok_train c h a0 a1 a2 post) : hMi l yX7_train wsX7_train rm_X7_train G K (TY c) [.ref a0, .int a1, .int a2] h 0 0 post := by
  obtain ⟨ah, ag, ar, ps, s7, r, hf, rfl, hC, hp⟩ := hm
  exact hMi_z (k_X7_train l G K c ah ag ar ps s7 a1 a2 r hf) hC.1 hC.2 (fun h1 q => by rw [hNx_same hC.1 q]; exact hp)
def w_L_train (c : Nat → ClassId) (K : (Nat → Nat) × (Nat → Nat)) (h : HW) (a0 : Nat) (a1 : Int32) (a2 : Int32) (mc ms : Nat) (post : Int32 → HW → Prop) : Prop := v_X7_ok_train c h a0 a1 a2 post ∨ (∃ (ah : Nat → Nat) (ag : Nat → Nat → Nat) (ar : Nat → Nat) (ps : PS) (s7 : HS), t_X7_train s7 a1 a2 = some "java/lang/IndexOutOfBoundsException" ∧ a0 = ah 0 ∧ CA c ah ag ar ps s7 h ∧ 1 ≤ mc ∧ 6 ≤ ms ∧ post (-2000000097) h) ∨ (∃ (ah : Nat → Nat) (ag : Nat → Nat → Nat) (ar : Nat → Nat) (ps : PS) (s7 : HS), t_X7_train s7 a1 a2 = some "java/lang/IllegalArgumentException" ∧ a0 = ah 0 ∧ CA c ah ag ar ps s7 h ∧ 1 ≤ mc ∧ 6 ≤ ms ∧ post (-2000000098) h)
abbrev rm_L_train (mc ms : Nat) : Room := { frames := 8, cells := mc, slots := ms, locals := 124 }
theorem he_L_train : yL_train.cls ≠ "java/lang/invoke/MethodHandle" ∧ yL_train.cls ≠ "java/lang/invoke/VarHandle" ∧ (parseMethodDescriptor yL_train.desc).map (fun d => d.parameters.length) = some 3 := by decide +kernel
set_option maxHeartbeats 4000000 in
set_option maxRecDepth 100000 in
theorem h_L_train (l : Launch) (hl0 : l.stackTraces = false) (G : va_G) (K : (Nat → Nat) × (Nat → Nat)) (c : Nat → ClassId) (h : HW) (a0 : Nat) (a1 : Int32) (a2 : Int32) (mc ms : Nat) (post : Int32 → HW → Prop) (hm : w_L_train c K h a0 a1 a2 mc ms post) : hMi l yL_train wsL_train (rm_L_train mc ms) G K (TY c) [.ref a0, .int a1, .int a2] h mc ms post := by
  refine hMi.ofx (cc := cL_train) (maxL := 4) (hh := [(0, 6, 7, 50), (0, 6, 11, 40)]) (lv := [(0, .ref a0), (1, .int a1), (2, .int a2)]) (by decide) rfl (Nat.le_of_ble_eq_true rfl) rfl ?_
  intro p e s m args below meth c1 A Q H locs hx hb hml htab hown hts hK hN hZ hXX hP hD hA hS hend ls hl
  have hown : s.vm.findClass RL = some m.cls := hown
  refine lv_aload_n hx hb dL_train_0 rfl (lv_at hl 0 rfl) ?_
  refine lv_iload_n hx hb dL_train_1 rfl (lv_at hl 1 rfl) ?_
  refine lv_iload_n hx hb dL_train_2 rfl (lv_at hl 2 rfl) ?_
  rcases hm with hm | hm | hm
  · obtain ⟨w0, fs0, hq0⟩ : ∃ w fs, h a0 = some (w, .inr (7, fs)) := by
      obtain ⟨ah, ag, ar, ps, s7, r, hf, rfl, hC, hp⟩ := hm
      exact hC.recv
    refine hcVi (As := [.int a1, .int a2]) (rest := []) ⟨hx, hb, hml, hown, hts⟩ (hok_train l G K c h a0 a1 a2 _ hm) (cwV 2 hts gL_train_X7_train rfl rfl rfl (by decide +kernel) ⟨Nat.le_of_ble_eq_true rfl, Nat.le_of_ble_eq_true rfl⟩) hK hN hZ hXX hP hD hS hA (mr_recv hK (mRd hK hP hZ hS) (ci := 7) rfl hq0) rfl hl.1 rfl (Nat.le_of_ble_eq_true rfl) dL_train_3 ⟨Nat.zero_le _, Nat.zero_le _⟩ (fun r1 h1 H locs hm hP hD hS => ?_)
    exact hend H locs ls _ _ _ r1 h1 (Nat.zero_le _) (Nat.zero_le _) hm hP hD hS dL_train_6
  · obtain ⟨ah, ag, ar, ps, s7, hf, rfl, hC, hc1, hc6, hp⟩ := hm
    obtain ⟨w0, fs0, hq0⟩ := hC.recv
    refine hcXVi (As := [.int a1, .int a2]) (rest := []) ⟨hx, hb, hml, hown, hts⟩ (hXi_z (tk_X7_train l hl0 G K c ah ag ar ps s7 a1 a2 "java/lang/IndexOutOfBoundsException" hf) hC.1 hC.2) (cwV 2 hts gL_train_X7_train rfl rfl rfl (by decide +kernel) ⟨Nat.le_of_ble_eq_true rfl, Nat.le_of_ble_eq_true rfl⟩) hK hN hZ hXX hP hD hS hA (mr_recv hK (mRd hK hP hZ hS) (ci := 7) rfl hq0) rfl hl.1 rfl (Nat.le_of_ble_eq_true rfl) dL_train_3 ⟨by show 0 + 1 ≤ mc; omega, by show 0 + 6 ≤ ms; omega⟩ (fun H locs q ce hP hD hS hq hce hcl => ?_)
    refine vx_catch (own := RL) (name := "java/lang/IndexOutOfBoundsException") (E := "java/lang/IndexOutOfBoundsException") hown [] ⟨0, 6, 7, 50⟩ [⟨0, 6, 11, 40⟩] (htab.trans rfl) (fun z hz => absurd hz List.not_mem_nil) (by decide) (by decide) (hts (.classLink RL 50 "java/lang/IndexOutOfBoundsException") (List.mem_of_getElem? (i := 1) rfl)) (hXX.2.1.b (E := "java/lang/IndexOutOfBoundsException") (List.mem_of_getElem? (i := 1) rfl) (.castable "java/lang/IndexOutOfBoundsException" "java/lang/IndexOutOfBoundsException") List.mem_cons_self) hq hce hcl ?_
    refine lv_astore_n (lv' := [(3, .ref q), (0, .ref (ah 0)), (1, .int a1), (2, .int a2)]) hx hb dL_train_7 rfl hl (by decide) rfl (fun ls hl => ?_)
    refine lv_ldc (v := -2000000097) hx hb hown (hts (.constant RL 52 (-2000000097)) (List.mem_of_getElem? (i := 3) rfl)) dL_train_8 ?_
    exact hend H locs ls _ _ _ _ h (by show 0 + 1 ≤ mc; omega) (by show 0 + 6 ≤ ms; omega) hp hP hD hS dL_train_10
  · obtain ⟨ah, ag, ar, ps, s7, hf, rfl, hC, hc1, hc6, hp⟩ := hm
    obtain ⟨w0, fs0, hq0⟩ := hC.recv
    refine hcXVi (As := [.int a1, .int a2]) (rest := []) ⟨hx, hb, hml, hown, hts⟩ (hXi_z (tk_X7_train l hl0 G K c ah ag ar ps s7 a1 a2 "java/lang/IllegalArgumentException" hf) hC.1 hC.2) (cwV 2 hts gL_train_X7_train rfl rfl rfl (by decide +kernel) ⟨Nat.le_of_ble_eq_true rfl, Nat.le_of_ble_eq_true rfl⟩) hK hN hZ hXX hP hD hS hA (mr_recv hK (mRd hK hP hZ hS) (ci := 7) rfl hq0) rfl hl.1 rfl (Nat.le_of_ble_eq_true rfl) dL_train_3 ⟨by show 0 + 1 ≤ mc; omega, by show 0 + 6 ≤ ms; omega⟩ (fun H locs q ce hP hD hS hq hce hcl => ?_)
    refine vx_catch (own := RL) (name := "java/lang/IllegalArgumentException") (E := "java/lang/IllegalArgumentException") hown [⟨0, 6, 7, 50⟩] ⟨0, 6, 11, 40⟩ [] (htab.trans rfl) (fun z hz => by cases List.mem_singleton.mp hz; exact Or.inr ⟨by decide, "java/lang/IndexOutOfBoundsException", hts (.classLink RL 50 "java/lang/IndexOutOfBoundsException") (List.mem_of_getElem? (i := 1) rfl), hXX.2.2.1 ("java/lang/IllegalArgumentException", "java/lang/IndexOutOfBoundsException") (List.mem_of_getElem? (i := 0) rfl)⟩) (by decide) (by decide) (hts (.classLink RL 40 "java/lang/IllegalArgumentException") (List.mem_of_getElem? (i := 2) rfl)) (hXX.2.1.b (E := "java/lang/IllegalArgumentException") (List.mem_of_getElem? (i := 0) rfl) (.castable "java/lang/IllegalArgumentException" "java/lang/IllegalArgumentException") List.mem_cons_self) hq hce hcl ?_
    refine lv_astore_n (lv' := [(3, .ref q), (0, .ref (ah 0)), (1, .int a1), (2, .int a2)]) hx hb dL_train_11 rfl hl (by decide) rfl (fun ls hl => ?_)
    refine lv_ldc (v := -2000000098) hx hb hown (hts (.constant RL 42 (-2000000098)) (List.mem_of_getElem? (i := 4) rfl)) dL_train_12 ?_
    exact hend H locs ls _ _ _ _ h (by show 0 + 1 ≤ mc; omega) (by show 0 + 6 ≤ ms; omega) hp hP hD hS dL_train_14
def v_X7_ok_laid (c : Nat → ClassId) (h : HW) (a0 : Nat) (a1 : Int32) (a2 : Int32) (post : Int32 → HW → Prop) : Prop := ∃ (ah : Nat → Nat) (ag : Nat → Nat → Nat) (ar : Nat → Nat) (ps : PS) (s7 : HS) (r : Int32), f_X7_laid s7 a1 a2 = some (r) ∧ a0 = ah 0 ∧ CA c ah ag ar ps s7 h ∧ (post r h)
theorem hok_laid (l : Launch) (G : va_G) (K : (Nat → Nat) × (Nat → Nat)) (c : Nat → ClassId) (h : HW) (a0 : Nat) (a1 : Int32) (a2 : Int32) (post : Int32 → HW → Prop) (hm : v_X7_ok_laid c h a0 a1 a2 post) : hMi l yX7_laid wsX7_laid rm_X7_laid G K (TY c) [.ref a0, .int a1, .int a2] h 0 0 post := by
  obtain ⟨ah, ag, ar, ps, s7, r, hf, rfl, hC, hp⟩ := hm
  exact hMi_z (k_X7_laid l G K c ah ag ar ps s7 a1 a2 r hf) hC.1 hC.2 (fun h1 q => by rw [hNx_same hC.1 q]; exact hp)
def w_L_laid (c : Nat → ClassId) (K : (Nat → Nat) × (Nat → Nat)) (h : HW) (a0 : Nat) (a1 : Int32) (a2 : Int32) (mc ms : Nat) (post : Int32 → HW → Prop) : Prop := v_X7_ok_laid c h a0 a1 a2 post ∨ (∃ (ah : Nat → Nat) (ag : Nat → Nat → Nat) (ar : Nat → Nat) (ps : PS) (s7 : HS), t_X7_laid s7 a1 a2 = some "java/lang/IndexOutOfBoundsException" ∧ a0 = ah 0 ∧ CA c ah ag ar ps s7 h ∧ 1 ≤ mc ∧ 6 ≤ ms ∧ post (-2000000097) h) ∨ (∃ (ah : Nat → Nat) (ag : Nat → Nat → Nat) (ar : Nat → Nat) (ps : PS) (s7 : HS), t_X7_laid s7 a1 a2 = some "java/util/NoSuchElementException" ∧ a0 = ah 0 ∧ CA c ah ag ar ps s7 h ∧ 1 ≤ mc ∧ 6 ≤ ms ∧ post (-2000000100) h)
abbrev rm_L_laid (mc ms : Nat) : Room := { frames := 8, cells := mc, slots := ms, locals := 125 }
theorem he_L_laid : yL_laid.cls ≠ "java/lang/invoke/MethodHandle" ∧ yL_laid.cls ≠ "java/lang/invoke/VarHandle" ∧ (parseMethodDescriptor yL_laid.desc).map (fun d => d.parameters.length) = some 3 := by decide +kernel
set_option maxHeartbeats 4000000 in
set_option maxRecDepth 100000 in
theorem h_L_laid (l : Launch) (hl0 : l.stackTraces = false) (G : va_G) (K : (Nat → Nat) × (Nat → Nat)) (c : Nat → ClassId) (h : HW) (a0 : Nat) (a1 : Int32) (a2 : Int32) (mc ms : Nat) (post : Int32 → HW → Prop) (hm : w_L_laid c K h a0 a1 a2 mc ms post) : hMi l yL_laid wsL_laid (rm_L_laid mc ms) G K (TY c) [.ref a0, .int a1, .int a2] h mc ms post := by
  refine hMi.ofx (cc := cL_laid) (maxL := 4) (hh := [(0, 6, 7, 50), (0, 6, 11, 56)]) (lv := [(0, .ref a0), (1, .int a1), (2, .int a2)]) (by decide) rfl (Nat.le_of_ble_eq_true rfl) rfl ?_
  intro p e s m args below meth c1 A Q H locs hx hb hml htab hown hts hK hN hZ hXX hP hD hA hS hend ls hl
  have hown : s.vm.findClass RL = some m.cls := hown
  refine lv_aload_n hx hb dL_laid_0 rfl (lv_at hl 0 rfl) ?_
  refine lv_iload_n hx hb dL_laid_1 rfl (lv_at hl 1 rfl) ?_
  refine lv_iload_n hx hb dL_laid_2 rfl (lv_at hl 2 rfl) ?_
  rcases hm with hm | hm | hm
  · obtain ⟨w0, fs0, hq0⟩ : ∃ w fs, h a0 = some (w, .inr (7, fs)) := by
      obtain ⟨ah, ag, ar, ps, s7, r, hf, rfl, hC, hp⟩ := hm
      exact hC.recv
    refine hcVi (As := [.int a1, .int a2]) (rest := []) ⟨hx, hb, hml, hown, hts⟩ (hok_laid l G K c h a0 a1 a2 _ hm) (cwV 2 hts gL_laid_X7_laid rfl rfl rfl (by decide +kernel) ⟨Nat.le_of_ble_eq_true rfl, Nat.le_of_ble_eq_true rfl⟩) hK hN hZ hXX hP hD hS hA (mr_recv hK (mRd hK hP hZ hS) (ci := 7) rfl hq0) rfl hl.1 rfl (Nat.le_of_ble_eq_true rfl) dL_laid_3 ⟨Nat.zero_le _, Nat.zero_le _⟩ (fun r1 h1 H locs hm hP hD hS => ?_)
    exact hend H locs ls _ _ _ r1 h1 (Nat.zero_le _) (Nat.zero_le _) hm hP hD hS dL_laid_6
  · obtain ⟨ah, ag, ar, ps, s7, hf, rfl, hC, hc1, hc6, hp⟩ := hm
    obtain ⟨w0, fs0, hq0⟩ := hC.recv
    refine hcXVi (As := [.int a1, .int a2]) (rest := []) ⟨hx, hb, hml, hown, hts⟩ (hXi_z (tk_X7_laid l hl0 G K c ah ag ar ps s7 a1 a2 "java/lang/IndexOutOfBoundsException" hf) hC.1 hC.2) (cwV 2 hts gL_laid_X7_laid rfl rfl rfl (by decide +kernel) ⟨Nat.le_of_ble_eq_true rfl, Nat.le_of_ble_eq_true rfl⟩) hK hN hZ hXX hP hD hS hA (mr_recv hK (mRd hK hP hZ hS) (ci := 7) rfl hq0) rfl hl.1 rfl (Nat.le_of_ble_eq_true rfl) dL_laid_3 ⟨by show 0 + 1 ≤ mc; omega, by show 0 + 6 ≤ ms; omega⟩ (fun H locs q ce hP hD hS hq hce hcl => ?_)
    refine vx_catch (own := RL) (name := "java/lang/IndexOutOfBoundsException") (E := "java/lang/IndexOutOfBoundsException") hown [] ⟨0, 6, 7, 50⟩ [⟨0, 6, 11, 56⟩] (htab.trans rfl) (fun z hz => absurd hz List.not_mem_nil) (by decide) (by decide) (hts (.classLink RL 50 "java/lang/IndexOutOfBoundsException") (List.mem_of_getElem? (i := 1) rfl)) (hXX.2.1.b (E := "java/lang/IndexOutOfBoundsException") (List.mem_of_getElem? (i := 1) rfl) (.castable "java/lang/IndexOutOfBoundsException" "java/lang/IndexOutOfBoundsException") List.mem_cons_self) hq hce hcl ?_
    refine lv_astore_n (lv' := [(3, .ref q), (0, .ref (ah 0)), (1, .int a1), (2, .int a2)]) hx hb dL_laid_7 rfl hl (by decide) rfl (fun ls hl => ?_)
    refine lv_ldc (v := -2000000097) hx hb hown (hts (.constant RL 52 (-2000000097)) (List.mem_of_getElem? (i := 3) rfl)) dL_laid_8 ?_
    exact hend H locs ls _ _ _ _ h (by show 0 + 1 ≤ mc; omega) (by show 0 + 6 ≤ ms; omega) hp hP hD hS dL_laid_10
  · obtain ⟨ah, ag, ar, ps, s7, hf, rfl, hC, hc1, hc6, hp⟩ := hm
    obtain ⟨w0, fs0, hq0⟩ := hC.recv
    refine hcXVi (As := [.int a1, .int a2]) (rest := []) ⟨hx, hb, hml, hown, hts⟩ (hXi_z (tk_X7_laid l hl0 G K c ah ag ar ps s7 a1 a2 "java/util/NoSuchElementException" hf) hC.1 hC.2) (cwV 2 hts gL_laid_X7_laid rfl rfl rfl (by decide +kernel) ⟨Nat.le_of_ble_eq_true rfl, Nat.le_of_ble_eq_true rfl⟩) hK hN hZ hXX hP hD hS hA (mr_recv hK (mRd hK hP hZ hS) (ci := 7) rfl hq0) rfl hl.1 rfl (Nat.le_of_ble_eq_true rfl) dL_laid_3 ⟨by show 0 + 1 ≤ mc; omega, by show 0 + 6 ≤ ms; omega⟩ (fun H locs q ce hP hD hS hq hce hcl => ?_)
    refine vx_catch (own := RL) (name := "java/util/NoSuchElementException") (E := "java/util/NoSuchElementException") hown [⟨0, 6, 7, 50⟩] ⟨0, 6, 11, 56⟩ [] (htab.trans rfl) (fun z hz => by cases List.mem_singleton.mp hz; exact Or.inr ⟨by decide, "java/lang/IndexOutOfBoundsException", hts (.classLink RL 50 "java/lang/IndexOutOfBoundsException") (List.mem_of_getElem? (i := 1) rfl), hXX.2.2.1 ("java/util/NoSuchElementException", "java/lang/IndexOutOfBoundsException") (List.mem_of_getElem? (i := 1) rfl)⟩) (by decide) (by decide) (hts (.classLink RL 56 "java/util/NoSuchElementException") (List.mem_of_getElem? (i := 2) rfl)) (hXX.2.1.b (E := "java/util/NoSuchElementException") (List.mem_of_getElem? (i := 2) rfl) (.castable "java/util/NoSuchElementException" "java/util/NoSuchElementException") List.mem_cons_self) hq hce hcl ?_
    refine lv_astore_n (lv' := [(3, .ref q), (0, .ref (ah 0)), (1, .int a1), (2, .int a2)]) hx hb dL_laid_11 rfl hl (by decide) rfl (fun ls hl => ?_)
    refine lv_ldc (v := -2000000100) hx hb hown (hts (.constant RL 58 (-2000000100)) (List.mem_of_getElem? (i := 4) rfl)) dL_laid_12 ?_
    exact hend H locs ls _ _ _ _ h (by show 0 + 1 ≤ mc; omega) (by show 0 + 6 ≤ ms; omega) hp hP hD hS dL_laid_14
def v_X7_ok_why (c : Nat → ClassId) (h : HW) (a0 : Nat) (a1 : Int32) (a2 : Int32) (post : Int32 → HW → Prop) : Prop := ∃ (ah : Nat → Nat) (ag : Nat → Nat → Nat) (ar : Nat → Nat) (ps : PS) (s7 : HS) (r : Int32), f_X7_why s7 a1 a2 = some (r) ∧ a0 = ah 0 ∧ CA c ah ag ar ps s7 h ∧ (post r h)
theorem hok_why (l : Launch) (G : va_G) (K : (Nat → Nat) × (Nat → Nat)) (c : Nat → ClassId) (h : HW) (a0 : Nat) (a1 : Int32) (a2 : Int32) (post : Int32 → HW → Prop) (hm : v_X7_ok_why c h a0 a1 a2 post) : hMi l yX7_why wsX7_why rm_X7_why G K (TY c) [.ref a0, .int a1, .int a2] h 0 0 post := by
  obtain ⟨ah, ag, ar, ps, s7, r, hf, rfl, hC, hp⟩ := hm
  exact hMi_z (k_X7_why l G K c ah ag ar ps s7 a1 a2 r hf) hC.1 hC.2 (fun h1 q => by rw [hNx_same hC.1 q]; exact hp)
def w_L_why (c : Nat → ClassId) (K : (Nat → Nat) × (Nat → Nat)) (h : HW) (a0 : Nat) (a1 : Int32) (a2 : Int32) (mc ms : Nat) (post : Int32 → HW → Prop) : Prop := v_X7_ok_why c h a0 a1 a2 post ∨ (∃ (ah : Nat → Nat) (ag : Nat → Nat → Nat) (ar : Nat → Nat) (ps : PS) (s7 : HS), t_X7_why s7 a1 a2 = some "java/lang/IndexOutOfBoundsException" ∧ a0 = ah 0 ∧ CA c ah ag ar ps s7 h ∧ 1 ≤ mc ∧ 6 ≤ ms ∧ post (-2000000097) h) ∨ (∃ (ah : Nat → Nat) (ag : Nat → Nat → Nat) (ar : Nat → Nat) (ps : PS) (s7 : HS), t_X7_why s7 a1 a2 = some "java/lang/IllegalArgumentException" ∧ a0 = ah 0 ∧ CA c ah ag ar ps s7 h ∧ 1 ≤ mc ∧ 6 ≤ ms ∧ post (-2000000098) h)
abbrev rm_L_why (mc ms : Nat) : Room := { frames := 8, cells := mc, slots := ms, locals := 124 }
theorem he_L_why : yL_why.cls ≠ "java/lang/invoke/MethodHandle" ∧ yL_why.cls ≠ "java/lang/invoke/VarHandle" ∧ (parseMethodDescriptor yL_why.desc).map (fun d => d.parameters.length) = some 3 := by decide +kernel
set_option maxHeartbeats 4000000 in
set_option maxRecDepth 100000 in
theorem h_L_why (l : Launch) (hl0 : l.stackTraces = false) (G : va_G) (K : (Nat → Nat) × (Nat → Nat)) (c : Nat → ClassId) (h : HW) (a0 : Nat) (a1 : Int32) (a2 : Int32) (mc ms : Nat) (post : Int32 → HW → Prop) (hm : w_L_why c K h a0 a1 a2 mc ms post) : hMi l yL_why wsL_why (rm_L_why mc ms) G K (TY c) [.ref a0, .int a1, .int a2] h mc ms post := by
  refine hMi.ofx (cc := cL_why) (maxL := 4) (hh := [(0, 6, 7, 50), (0, 6, 11, 40)]) (lv := [(0, .ref a0), (1, .int a1), (2, .int a2)]) (by decide) rfl (Nat.le_of_ble_eq_true rfl) rfl ?_
  intro p e s m args below meth c1 A Q H locs hx hb hml htab hown hts hK hN hZ hXX hP hD hA hS hend ls hl
  have hown : s.vm.findClass RL = some m.cls := hown
  refine lv_aload_n hx hb dL_why_0 rfl (lv_at hl 0 rfl) ?_
  refine lv_iload_n hx hb dL_why_1 rfl (lv_at hl 1 rfl) ?_
  refine lv_iload_n hx hb dL_why_2 rfl (lv_at hl 2 rfl) ?_
  rcases hm with hm | hm | hm
  · obtain ⟨w0, fs0, hq0⟩ : ∃ w fs, h a0 = some (w, .inr (7, fs)) := by
      obtain ⟨ah, ag, ar, ps, s7, r, hf, rfl, hC, hp⟩ := hm
      exact hC.recv
    refine hcVi (As := [.int a1, .int a2]) (rest := []) ⟨hx, hb, hml, hown, hts⟩ (hok_why l G K c h a0 a1 a2 _ hm) (cwV 2 hts gL_why_X7_why rfl rfl rfl (by decide +kernel) ⟨Nat.le_of_ble_eq_true rfl, Nat.le_of_ble_eq_true rfl⟩) hK hN hZ hXX hP hD hS hA (mr_recv hK (mRd hK hP hZ hS) (ci := 7) rfl hq0) rfl hl.1 rfl (Nat.le_of_ble_eq_true rfl) dL_why_3 ⟨Nat.zero_le _, Nat.zero_le _⟩ (fun r1 h1 H locs hm hP hD hS => ?_)
    exact hend H locs ls _ _ _ r1 h1 (Nat.zero_le _) (Nat.zero_le _) hm hP hD hS dL_why_6
  · obtain ⟨ah, ag, ar, ps, s7, hf, rfl, hC, hc1, hc6, hp⟩ := hm
    obtain ⟨w0, fs0, hq0⟩ := hC.recv
    refine hcXVi (As := [.int a1, .int a2]) (rest := []) ⟨hx, hb, hml, hown, hts⟩ (hXi_z (tk_X7_why l hl0 G K c ah ag ar ps s7 a1 a2 "java/lang/IndexOutOfBoundsException" hf) hC.1 hC.2) (cwV 2 hts gL_why_X7_why rfl rfl rfl (by decide +kernel) ⟨Nat.le_of_ble_eq_true rfl, Nat.le_of_ble_eq_true rfl⟩) hK hN hZ hXX hP hD hS hA (mr_recv hK (mRd hK hP hZ hS) (ci := 7) rfl hq0) rfl hl.1 rfl (Nat.le_of_ble_eq_true rfl) dL_why_3 ⟨by show 0 + 1 ≤ mc; omega, by show 0 + 6 ≤ ms; omega⟩ (fun H locs q ce hP hD hS hq hce hcl => ?_)
    refine vx_catch (own := RL) (name := "java/lang/IndexOutOfBoundsException") (E := "java/lang/IndexOutOfBoundsException") hown [] ⟨0, 6, 7, 50⟩ [⟨0, 6, 11, 40⟩] (htab.trans rfl) (fun z hz => absurd hz List.not_mem_nil) (by decide) (by decide) (hts (.classLink RL 50 "java/lang/IndexOutOfBoundsException") (List.mem_of_getElem? (i := 1) rfl)) (hXX.2.1.b (E := "java/lang/IndexOutOfBoundsException") (List.mem_of_getElem? (i := 1) rfl) (.castable "java/lang/IndexOutOfBoundsException" "java/lang/IndexOutOfBoundsException") List.mem_cons_self) hq hce hcl ?_
    refine lv_astore_n (lv' := [(3, .ref q), (0, .ref (ah 0)), (1, .int a1), (2, .int a2)]) hx hb dL_why_7 rfl hl (by decide) rfl (fun ls hl => ?_)
    refine lv_ldc (v := -2000000097) hx hb hown (hts (.constant RL 52 (-2000000097)) (List.mem_of_getElem? (i := 3) rfl)) dL_why_8 ?_
    exact hend H locs ls _ _ _ _ h (by show 0 + 1 ≤ mc; omega) (by show 0 + 6 ≤ ms; omega) hp hP hD hS dL_why_10
  · obtain ⟨ah, ag, ar, ps, s7, hf, rfl, hC, hc1, hc6, hp⟩ := hm
    obtain ⟨w0, fs0, hq0⟩ := hC.recv
    refine hcXVi (As := [.int a1, .int a2]) (rest := []) ⟨hx, hb, hml, hown, hts⟩ (hXi_z (tk_X7_why l hl0 G K c ah ag ar ps s7 a1 a2 "java/lang/IllegalArgumentException" hf) hC.1 hC.2) (cwV 2 hts gL_why_X7_why rfl rfl rfl (by decide +kernel) ⟨Nat.le_of_ble_eq_true rfl, Nat.le_of_ble_eq_true rfl⟩) hK hN hZ hXX hP hD hS hA (mr_recv hK (mRd hK hP hZ hS) (ci := 7) rfl hq0) rfl hl.1 rfl (Nat.le_of_ble_eq_true rfl) dL_why_3 ⟨by show 0 + 1 ≤ mc; omega, by show 0 + 6 ≤ ms; omega⟩ (fun H locs q ce hP hD hS hq hce hcl => ?_)
    refine vx_catch (own := RL) (name := "java/lang/IllegalArgumentException") (E := "java/lang/IllegalArgumentException") hown [⟨0, 6, 7, 50⟩] ⟨0, 6, 11, 40⟩ [] (htab.trans rfl) (fun z hz => by cases List.mem_singleton.mp hz; exact Or.inr ⟨by decide, "java/lang/IndexOutOfBoundsException", hts (.classLink RL 50 "java/lang/IndexOutOfBoundsException") (List.mem_of_getElem? (i := 1) rfl), hXX.2.2.1 ("java/lang/IllegalArgumentException", "java/lang/IndexOutOfBoundsException") (List.mem_of_getElem? (i := 0) rfl)⟩) (by decide) (by decide) (hts (.classLink RL 40 "java/lang/IllegalArgumentException") (List.mem_of_getElem? (i := 2) rfl)) (hXX.2.1.b (E := "java/lang/IllegalArgumentException") (List.mem_of_getElem? (i := 0) rfl) (.castable "java/lang/IllegalArgumentException" "java/lang/IllegalArgumentException") List.mem_cons_self) hq hce hcl ?_
    refine lv_astore_n (lv' := [(3, .ref q), (0, .ref (ah 0)), (1, .int a1), (2, .int a2)]) hx hb dL_why_11 rfl hl (by decide) rfl (fun ls hl => ?_)
    refine lv_ldc (v := -2000000098) hx hb hown (hts (.constant RL 42 (-2000000098)) (List.mem_of_getElem? (i := 4) rfl)) dL_why_12 ?_
    exact hend H locs ls _ _ _ _ h (by show 0 + 1 ≤ mc; omega) (by show 0 + 6 ≤ ms; omega) hp hP hD hS dL_why_14
def v_X7_ok_rank (c : Nat → ClassId) (h : HW) (a0 : Nat) (a1 : Int32) (a2 : Int32) (post : Int32 → HW → Prop) : Prop := ∃ (ah : Nat → Nat) (ag : Nat → Nat → Nat) (ar : Nat → Nat) (ps : PS) (s7 : HS) (r : Int32) (ps_r : PS), f_X7_rank s7 ps a1 a2 = some (r, ps_r) ∧ a0 = ah 0 ∧ CA c ah ag ar ps s7 h ∧ (∀ h1 : HW, hNx h (wH c ah ag ar ps s7) (wH c ah ag ar ps_r s7) h1 → post r h1)
theorem hok_rank (l : Launch) (G : va_G) (K : (Nat → Nat) × (Nat → Nat)) (c : Nat → ClassId) (h : HW) (a0 : Nat) (a1 : Int32) (a2 : Int32) (post : Int32 → HW → Prop) (hm : v_X7_ok_rank c h a0 a1 a2 post) : hMi l yX7_rank wsX7_rank rm_X7_rank G K (TY c) [.ref a0, .int a1, .int a2] h 0 0 post := by
  obtain ⟨ah, ag, ar, ps, s7, r, ps_r, hf, rfl, hC, hp⟩ := hm
  exact hMi_z (k_X7_rank l G K c ah ag ar s7 ps a1 a2 r ps_r hf) hC.1 hC.2 (fun h1 q => hp h1 q)
def w_L_rank (c : Nat → ClassId) (K : (Nat → Nat) × (Nat → Nat)) (h : HW) (a0 : Nat) (a1 : Int32) (a2 : Int32) (mc ms : Nat) (post : Int32 → HW → Prop) : Prop := v_X7_ok_rank c h a0 a1 a2 post ∨ (∃ (ah : Nat → Nat) (ag : Nat → Nat → Nat) (ar : Nat → Nat) (ps : PS) (s7 : HS), t_X7_rank s7 ps a1 a2 = some "java/lang/IndexOutOfBoundsException" ∧ a0 = ah 0 ∧ CA c ah ag ar ps s7 h ∧ 1 ≤ mc ∧ 6 ≤ ms ∧ post (-2000000097) h) ∨ (∃ (ah : Nat → Nat) (ag : Nat → Nat → Nat) (ar : Nat → Nat) (ps : PS) (s7 : HS), t_X7_rank s7 ps a1 a2 = some "java/lang/IllegalArgumentException" ∧ a0 = ah 0 ∧ CA c ah ag ar ps s7 h ∧ 1 ≤ mc ∧ 6 ≤ ms ∧ post (-2000000098) h) ∨ (∃ (ah : Nat → Nat) (ag : Nat → Nat → Nat) (ar : Nat → Nat) (ps : PS) (s7 : HS), t_X7_rank s7 ps a1 a2 = some "java/util/NoSuchElementException" ∧ a0 = ah 0 ∧ CA c ah ag ar ps s7 h ∧ 1 ≤ mc ∧ 6 ≤ ms ∧ post (-2000000100) h)
abbrev rm_L_rank (mc ms : Nat) : Room := { frames := 8, cells := mc, slots := ms, locals := 129 }
theorem he_L_rank : yL_rank.cls ≠ "java/lang/invoke/MethodHandle" ∧ yL_rank.cls ≠ "java/lang/invoke/VarHandle" ∧ (parseMethodDescriptor yL_rank.desc).map (fun d => d.parameters.length) = some 3 := by decide +kernel
set_option maxHeartbeats 4000000 in
set_option maxRecDepth 100000 in
theorem h_L_rank (l : Launch) (hl0 : l.stackTraces = false) (G : va_G) (K : (Nat → Nat) × (Nat → Nat)) (c : Nat → ClassId) (h : HW) (a0 : Nat) (a1 : Int32) (a2 : Int32) (mc ms : Nat) (post : Int32 → HW → Prop) (hm : w_L_rank c K h a0 a1 a2 mc ms post) : hMi l yL_rank wsL_rank (rm_L_rank mc ms) G K (TY c) [.ref a0, .int a1, .int a2] h mc ms post := by
  refine hMi.ofx (cc := cL_rank) (maxL := 4) (hh := [(0, 6, 7, 50), (0, 6, 11, 40), (0, 6, 15, 56)]) (lv := [(0, .ref a0), (1, .int a1), (2, .int a2)]) (by decide) rfl (Nat.le_of_ble_eq_true rfl) rfl ?_
  intro p e s m args below meth c1 A Q H locs hx hb hml htab hown hts hK hN hZ hXX hP hD hA hS hend ls hl
  have hown : s.vm.findClass RL = some m.cls := hown
  refine lv_aload_n hx hb dL_rank_0 rfl (lv_at hl 0 rfl) ?_
  refine lv_iload_n hx hb dL_rank_1 rfl (lv_at hl 1 rfl) ?_
  refine lv_iload_n hx hb dL_rank_2 rfl (lv_at hl 2 rfl) ?_
  rcases hm with hm | hm | hm | hm
  · obtain ⟨w0, fs0, hq0⟩ : ∃ w fs, h a0 = some (w, .inr (7, fs)) := by
      obtain ⟨ah, ag, ar, ps, s7, r, ps_r, hf, rfl, hC, hp⟩ := hm
      exact hC.recv
    refine hcVi (As := [.int a1, .int a2]) (rest := []) ⟨hx, hb, hml, hown, hts⟩ (hok_rank l G K c h a0 a1 a2 _ hm) (cwV 2 hts gL_rank_X7_rank rfl rfl rfl (by decide +kernel) ⟨Nat.le_of_ble_eq_true rfl, Nat.le_of_ble_eq_true rfl⟩) hK hN hZ hXX hP hD hS hA (mr_recv hK (mRd hK hP hZ hS) (ci := 7) rfl hq0) rfl hl.1 rfl (Nat.le_of_ble_eq_true rfl) dL_rank_3 ⟨Nat.zero_le _, Nat.zero_le _⟩ (fun r1 h1 H locs hm hP hD hS => ?_)
    exact hend H locs ls _ _ _ r1 h1 (Nat.zero_le _) (Nat.zero_le _) hm hP hD hS dL_rank_6
  · obtain ⟨ah, ag, ar, ps, s7, hf, rfl, hC, hc1, hc6, hp⟩ := hm
    obtain ⟨w0, fs0, hq0⟩ := hC.recv
    refine hcXVi (As := [.int a1, .int a2]) (rest := []) ⟨hx, hb, hml, hown, hts⟩ (hXi_z (tk_X7_rank l hl0 G K c ah ag ar s7 ps a1 a2 "java/lang/IndexOutOfBoundsException" hf) hC.1 hC.2) (cwV 2 hts gL_rank_X7_rank rfl rfl rfl (by decide +kernel) ⟨Nat.le_of_ble_eq_true rfl, Nat.le_of_ble_eq_true rfl⟩) hK hN hZ hXX hP hD hS hA (mr_recv hK (mRd hK hP hZ hS) (ci := 7) rfl hq0) rfl hl.1 rfl (Nat.le_of_ble_eq_true rfl) dL_rank_3 ⟨by show 0 + 1 ≤ mc; omega, by show 0 + 6 ≤ ms; omega⟩ (fun H locs q ce hP hD hS hq hce hcl => ?_)
    refine vx_catch (own := RL) (name := "java/lang/IndexOutOfBoundsException") (E := "java/lang/IndexOutOfBoundsException") hown [] ⟨0, 6, 7, 50⟩ [⟨0, 6, 11, 40⟩, ⟨0, 6, 15, 56⟩] (htab.trans rfl) (fun z hz => absurd hz List.not_mem_nil) (by decide) (by decide) (hts (.classLink RL 50 "java/lang/IndexOutOfBoundsException") (List.mem_of_getElem? (i := 1) rfl)) (hXX.2.1.b (E := "java/lang/IndexOutOfBoundsException") (List.mem_of_getElem? (i := 1) rfl) (.castable "java/lang/IndexOutOfBoundsException" "java/lang/IndexOutOfBoundsException") List.mem_cons_self) hq hce hcl ?_
    refine lv_astore_n (lv' := [(3, .ref q), (0, .ref (ah 0)), (1, .int a1), (2, .int a2)]) hx hb dL_rank_7 rfl hl (by decide) rfl (fun ls hl => ?_)
    refine lv_ldc (v := -2000000097) hx hb hown (hts (.constant RL 52 (-2000000097)) (List.mem_of_getElem? (i := 4) rfl)) dL_rank_8 ?_
    exact hend H locs ls _ _ _ _ h (by show 0 + 1 ≤ mc; omega) (by show 0 + 6 ≤ ms; omega) hp hP hD hS dL_rank_10
  · obtain ⟨ah, ag, ar, ps, s7, hf, rfl, hC, hc1, hc6, hp⟩ := hm
    obtain ⟨w0, fs0, hq0⟩ := hC.recv
    refine hcXVi (As := [.int a1, .int a2]) (rest := []) ⟨hx, hb, hml, hown, hts⟩ (hXi_z (tk_X7_rank l hl0 G K c ah ag ar s7 ps a1 a2 "java/lang/IllegalArgumentException" hf) hC.1 hC.2) (cwV 2 hts gL_rank_X7_rank rfl rfl rfl (by decide +kernel) ⟨Nat.le_of_ble_eq_true rfl, Nat.le_of_ble_eq_true rfl⟩) hK hN hZ hXX hP hD hS hA (mr_recv hK (mRd hK hP hZ hS) (ci := 7) rfl hq0) rfl hl.1 rfl (Nat.le_of_ble_eq_true rfl) dL_rank_3 ⟨by show 0 + 1 ≤ mc; omega, by show 0 + 6 ≤ ms; omega⟩ (fun H locs q ce hP hD hS hq hce hcl => ?_)
    refine vx_catch (own := RL) (name := "java/lang/IllegalArgumentException") (E := "java/lang/IllegalArgumentException") hown [⟨0, 6, 7, 50⟩] ⟨0, 6, 11, 40⟩ [⟨0, 6, 15, 56⟩] (htab.trans rfl) (fun z hz => by cases List.mem_singleton.mp hz; exact Or.inr ⟨by decide, "java/lang/IndexOutOfBoundsException", hts (.classLink RL 50 "java/lang/IndexOutOfBoundsException") (List.mem_of_getElem? (i := 1) rfl), hXX.2.2.1 ("java/lang/IllegalArgumentException", "java/lang/IndexOutOfBoundsException") (List.mem_of_getElem? (i := 0) rfl)⟩) (by decide) (by decide) (hts (.classLink RL 40 "java/lang/IllegalArgumentException") (List.mem_of_getElem? (i := 2) rfl)) (hXX.2.1.b (E := "java/lang/IllegalArgumentException") (List.mem_of_getElem? (i := 0) rfl) (.castable "java/lang/IllegalArgumentException" "java/lang/IllegalArgumentException") List.mem_cons_self) hq hce hcl ?_
    refine lv_astore_n (lv' := [(3, .ref q), (0, .ref (ah 0)), (1, .int a1), (2, .int a2)]) hx hb dL_rank_11 rfl hl (by decide) rfl (fun ls hl => ?_)
    refine lv_ldc (v := -2000000098) hx hb hown (hts (.constant RL 42 (-2000000098)) (List.mem_of_getElem? (i := 5) rfl)) dL_rank_12 ?_
    exact hend H locs ls _ _ _ _ h (by show 0 + 1 ≤ mc; omega) (by show 0 + 6 ≤ ms; omega) hp hP hD hS dL_rank_14
  · obtain ⟨ah, ag, ar, ps, s7, hf, rfl, hC, hc1, hc6, hp⟩ := hm
    obtain ⟨w0, fs0, hq0⟩ := hC.recv
    refine hcXVi (As := [.int a1, .int a2]) (rest := []) ⟨hx, hb, hml, hown, hts⟩ (hXi_z (tk_X7_rank l hl0 G K c ah ag ar s7 ps a1 a2 "java/util/NoSuchElementException" hf) hC.1 hC.2) (cwV 2 hts gL_rank_X7_rank rfl rfl rfl (by decide +kernel) ⟨Nat.le_of_ble_eq_true rfl, Nat.le_of_ble_eq_true rfl⟩) hK hN hZ hXX hP hD hS hA (mr_recv hK (mRd hK hP hZ hS) (ci := 7) rfl hq0) rfl hl.1 rfl (Nat.le_of_ble_eq_true rfl) dL_rank_3 ⟨by show 0 + 1 ≤ mc; omega, by show 0 + 6 ≤ ms; omega⟩ (fun H locs q ce hP hD hS hq hce hcl => ?_)
    refine vx_catch (own := RL) (name := "java/util/NoSuchElementException") (E := "java/util/NoSuchElementException") hown [⟨0, 6, 7, 50⟩, ⟨0, 6, 11, 40⟩] ⟨0, 6, 15, 56⟩ [] (htab.trans rfl) (fun z hz => by rcases List.mem_cons.mp hz with rfl | hz; exact Or.inr ⟨by decide, "java/lang/IndexOutOfBoundsException", hts (.classLink RL 50 "java/lang/IndexOutOfBoundsException") (List.mem_of_getElem? (i := 1) rfl), hXX.2.2.1 ("java/util/NoSuchElementException", "java/lang/IndexOutOfBoundsException") (List.mem_of_getElem? (i := 1) rfl)⟩; cases List.mem_singleton.mp hz; exact Or.inr ⟨by decide, "java/lang/IllegalArgumentException", hts (.classLink RL 40 "java/lang/IllegalArgumentException") (List.mem_of_getElem? (i := 2) rfl), hXX.2.2.1 ("java/util/NoSuchElementException", "java/lang/IllegalArgumentException") (List.mem_of_getElem? (i := 2) rfl)⟩) (by decide) (by decide) (hts (.classLink RL 56 "java/util/NoSuchElementException") (List.mem_of_getElem? (i := 3) rfl)) (hXX.2.1.b (E := "java/util/NoSuchElementException") (List.mem_of_getElem? (i := 2) rfl) (.castable "java/util/NoSuchElementException" "java/util/NoSuchElementException") List.mem_cons_self) hq hce hcl ?_
    refine lv_astore_n (lv' := [(3, .ref q), (0, .ref (ah 0)), (1, .int a1), (2, .int a2)]) hx hb dL_rank_15 rfl hl (by decide) rfl (fun ls hl => ?_)
    refine lv_ldc (v := -2000000100) hx hb hown (hts (.constant RL 58 (-2000000100)) (List.mem_of_getElem? (i := 6) rfl)) dL_rank_16 ?_
    exact hend H locs ls _ _ _ _ h (by show 0 + 1 ≤ mc; omega) (by show 0 + 6 ≤ ms; omega) hp hP hD hS dL_rank_18
def v_X7_ok_longest (c : Nat → ClassId) (h : HW) (a0 : Nat) (a1 : Int32) (post : Int32 → HW → Prop) : Prop := ∃ (ah : Nat → Nat) (ag : Nat → Nat → Nat) (ar : Nat → Nat) (ps : PS) (s7 : HS) (r : Int32) (s7_r : HS), f_X7_longest s7 a1 = some (r, s7_r) ∧ a0 = ah 0 ∧ CA c ah ag ar ps s7 h ∧ (∀ h1 : HW, hNx h (wH c ah ag ar ps s7) (wH c ah ag ar ps s7_r) h1 → post r h1)
theorem hok_longest (l : Launch) (G : va_G) (K : (Nat → Nat) × (Nat → Nat)) (c : Nat → ClassId) (h : HW) (a0 : Nat) (a1 : Int32) (post : Int32 → HW → Prop) (hm : v_X7_ok_longest c h a0 a1 post) : hMi l yX7_longest wsX7_longest rm_X7_longest G K (TY c) [.ref a0, .int a1] h 0 0 post := by
  obtain ⟨ah, ag, ar, ps, s7, r, s7_r, hf, rfl, hC, hp⟩ := hm
  exact hMi_z (k_X7_longest l G K c ah ag ar ps s7 a1 r s7_r hf) hC.1 hC.2 (fun h1 q => hp h1 q)
def w_L_longest (c : Nat → ClassId) (K : (Nat → Nat) × (Nat → Nat)) (h : HW) (a0 : Nat) (a1 : Int32) (mc ms : Nat) (post : Int32 → HW → Prop) : Prop := v_X7_ok_longest c h a0 a1 post ∨ (∃ (ah : Nat → Nat) (ag : Nat → Nat → Nat) (ar : Nat → Nat) (ps : PS) (s7 : HS), t_X7_longest s7 a1 = some "java/lang/IndexOutOfBoundsException" ∧ a0 = ah 0 ∧ CA c ah ag ar ps s7 h ∧ 1 ≤ mc ∧ 6 ≤ ms ∧ post (-2000000097) h)
abbrev rm_L_longest (mc ms : Nat) : Room := { frames := 8, cells := mc, slots := ms, locals := 134 }
theorem he_L_longest : yL_longest.cls ≠ "java/lang/invoke/MethodHandle" ∧ yL_longest.cls ≠ "java/lang/invoke/VarHandle" ∧ (parseMethodDescriptor yL_longest.desc).map (fun d => d.parameters.length) = some 2 := by decide +kernel
set_option maxHeartbeats 4000000 in
set_option maxRecDepth 100000 in
theorem h_L_longest (l : Launch) (hl0 : l.stackTraces = false) (G : va_G) (K : (Nat → Nat) × (Nat → Nat)) (c : Nat → ClassId) (h : HW) (a0 : Nat) (a1 : Int32) (mc ms : Nat) (post : Int32 → HW → Prop) (hm : w_L_longest c K h a0 a1 mc ms post) : hMi l yL_longest wsL_longest (rm_L_longest mc ms) G K (TY c) [.ref a0, .int a1] h mc ms post := by
  refine hMi.ofx (cc := cL_longest) (maxL := 3) (hh := [(0, 5, 6, 50)]) (lv := [(0, .ref a0), (1, .int a1)]) (by decide) rfl (Nat.le_of_ble_eq_true rfl) rfl ?_
  intro p e s m args below meth c1 A Q H locs hx hb hml htab hown hts hK hN hZ hXX hP hD hA hS hend ls hl
  have hown : s.vm.findClass RL = some m.cls := hown
  refine lv_aload_n hx hb dL_longest_0 rfl (lv_at hl 0 rfl) ?_
  refine lv_iload_n hx hb dL_longest_1 rfl (lv_at hl 1 rfl) ?_
  rcases hm with hm | hm
  · obtain ⟨w0, fs0, hq0⟩ : ∃ w fs, h a0 = some (w, .inr (7, fs)) := by
      obtain ⟨ah, ag, ar, ps, s7, r, s7_r, hf, rfl, hC, hp⟩ := hm
      exact hC.recv
    refine hcVi (As := [.int a1]) (rest := []) ⟨hx, hb, hml, hown, hts⟩ (hok_longest l G K c h a0 a1 _ hm) (cwV 1 hts gL_longest_X7_longest rfl rfl rfl (by decide +kernel) ⟨Nat.le_of_ble_eq_true rfl, Nat.le_of_ble_eq_true rfl⟩) hK hN hZ hXX hP hD hS hA (mr_recv hK (mRd hK hP hZ hS) (ci := 7) rfl hq0) rfl hl.1 rfl (Nat.le_of_ble_eq_true rfl) dL_longest_2 ⟨Nat.zero_le _, Nat.zero_le _⟩ (fun r1 h1 H locs hm hP hD hS => ?_)
    exact hend H locs ls _ _ _ r1 h1 (Nat.zero_le _) (Nat.zero_le _) hm hP hD hS dL_longest_5
  · obtain ⟨ah, ag, ar, ps, s7, hf, rfl, hC, hc1, hc6, hp⟩ := hm
    obtain ⟨w0, fs0, hq0⟩ := hC.recv
    refine hcXVi (As := [.int a1]) (rest := []) ⟨hx, hb, hml, hown, hts⟩ (hXi_z (tk_X7_longest l hl0 G K c ah ag ar ps s7 a1 "java/lang/IndexOutOfBoundsException" hf) hC.1 hC.2) (cwV 1 hts gL_longest_X7_longest rfl rfl rfl (by decide +kernel) ⟨Nat.le_of_ble_eq_true rfl, Nat.le_of_ble_eq_true rfl⟩) hK hN hZ hXX hP hD hS hA (mr_recv hK (mRd hK hP hZ hS) (ci := 7) rfl hq0) rfl hl.1 rfl (Nat.le_of_ble_eq_true rfl) dL_longest_2 ⟨by show 0 + 1 ≤ mc; omega, by show 0 + 6 ≤ ms; omega⟩ (fun H locs q ce hP hD hS hq hce hcl => ?_)
    refine vx_catch (own := RL) (name := "java/lang/IndexOutOfBoundsException") (E := "java/lang/IndexOutOfBoundsException") hown [] ⟨0, 5, 6, 50⟩ [] (htab.trans rfl) (fun z hz => absurd hz List.not_mem_nil) (by decide) (by decide) (hts (.classLink RL 50 "java/lang/IndexOutOfBoundsException") (List.mem_of_getElem? (i := 1) rfl)) (hXX.2.1.b (E := "java/lang/IndexOutOfBoundsException") (List.mem_of_getElem? (i := 1) rfl) (.castable "java/lang/IndexOutOfBoundsException" "java/lang/IndexOutOfBoundsException") List.mem_cons_self) hq hce hcl ?_
    refine lv_astore_n (lv' := [(2, .ref q), (0, .ref (ah 0)), (1, .int a1)]) hx hb dL_longest_6 rfl hl (by decide) rfl (fun ls hl => ?_)
    refine lv_ldc (v := -2000000097) hx hb hown (hts (.constant RL 52 (-2000000097)) (List.mem_of_getElem? (i := 2) rfl)) dL_longest_7 ?_
    exact hend H locs ls _ _ _ _ h (by show 0 + 1 ≤ mc; omega) (by show 0 + 6 ≤ ms; omega) hp hP hD hS dL_longest_9
def v_X7_ok_longestTile (c : Nat → ClassId) (h : HW) (a0 : Nat) (a1 : Int32) (a2 : Int32) (post : Int32 → HW → Prop) : Prop := ∃ (ah : Nat → Nat) (ag : Nat → Nat → Nat) (ar : Nat → Nat) (ps : PS) (s7 : HS) (r : Int32) (s7_r : HS), f_X7_longestTile s7 a1 a2 = some (r, s7_r) ∧ a0 = ah 0 ∧ CA c ah ag ar ps s7 h ∧ (∀ h1 : HW, hNx h (wH c ah ag ar ps s7) (wH c ah ag ar ps s7_r) h1 → post r h1)
theorem hok_longestTile (l : Launch) (G : va_G) (K : (Nat → Nat) × (Nat → Nat)) (c : Nat → ClassId) (h : HW) (a0 : Nat) (a1 : Int32) (a2 : Int32) (post : Int32 → HW → Prop) (hm : v_X7_ok_longestTile c h a0 a1 a2 post) : hMi l yX7_longestTile wsX7_longestTile rm_X7_longestTile G K (TY c) [.ref a0, .int a1, .int a2] h 0 0 post := by
  obtain ⟨ah, ag, ar, ps, s7, r, s7_r, hf, rfl, hC, hp⟩ := hm
  exact hMi_z (k_X7_longestTile l G K c ah ag ar ps s7 a1 a2 r s7_r hf) hC.1 hC.2 (fun h1 q => hp h1 q)
def w_L_longestTile (c : Nat → ClassId) (K : (Nat → Nat) × (Nat → Nat)) (h : HW) (a0 : Nat) (a1 : Int32) (a2 : Int32) (mc ms : Nat) (post : Int32 → HW → Prop) : Prop := v_X7_ok_longestTile c h a0 a1 a2 post ∨ (∃ (ah : Nat → Nat) (ag : Nat → Nat → Nat) (ar : Nat → Nat) (ps : PS) (s7 : HS), t_X7_longestTile s7 a1 a2 = some ("java/lang/IndexOutOfBoundsException", s7) ∧ a0 = ah 0 ∧ CA c ah ag ar ps s7 h ∧ 1 ≤ mc ∧ 6 ≤ ms ∧ post (-2000000097) h) ∨ (∃ (ah : Nat → Nat) (ag : Nat → Nat → Nat) (ar : Nat → Nat) (ps : PS) (s7 : HS), t_X7_longestTile s7 a1 a2 = some ("java/util/NoSuchElementException", s7) ∧ a0 = ah 0 ∧ CA c ah ag ar ps s7 h ∧ 1 ≤ mc ∧ 6 ≤ ms ∧ post (-2000000100) h)
abbrev rm_L_longestTile (mc ms : Nat) : Room := { frames := 8, cells := mc, slots := ms, locals := 139 }
theorem he_L_longestTile : yL_longestTile.cls ≠ "java/lang/invoke/MethodHandle" ∧ yL_longestTile.cls ≠ "java/lang/invoke/VarHandle" ∧ (parseMethodDescriptor yL_longestTile.desc).map (fun d => d.parameters.length) = some 3 := by decide +kernel
set_option maxHeartbeats 4000000 in
set_option maxRecDepth 100000 in
theorem h_L_longestTile (l : Launch) (hl0 : l.stackTraces = false) (G : va_G) (K : (Nat → Nat) × (Nat → Nat)) (c : Nat → ClassId) (h : HW) (a0 : Nat) (a1 : Int32) (a2 : Int32) (mc ms : Nat) (post : Int32 → HW → Prop) (hm : w_L_longestTile c K h a0 a1 a2 mc ms post) : hMi l yL_longestTile wsL_longestTile (rm_L_longestTile mc ms) G K (TY c) [.ref a0, .int a1, .int a2] h mc ms post := by
  refine hMi.ofx (cc := cL_longestTile) (maxL := 4) (hh := [(0, 6, 7, 50), (0, 6, 11, 56)]) (lv := [(0, .ref a0), (1, .int a1), (2, .int a2)]) (by decide) rfl (Nat.le_of_ble_eq_true rfl) rfl ?_
  intro p e s m args below meth c1 A Q H locs hx hb hml htab hown hts hK hN hZ hXX hP hD hA hS hend ls hl
  have hown : s.vm.findClass RL = some m.cls := hown
  refine lv_aload_n hx hb dL_longestTile_0 rfl (lv_at hl 0 rfl) ?_
  refine lv_iload_n hx hb dL_longestTile_1 rfl (lv_at hl 1 rfl) ?_
  refine lv_iload_n hx hb dL_longestTile_2 rfl (lv_at hl 2 rfl) ?_
  rcases hm with hm | hm | hm
  · obtain ⟨w0, fs0, hq0⟩ : ∃ w fs, h a0 = some (w, .inr (7, fs)) := by
      obtain ⟨ah, ag, ar, ps, s7, r, s7_r, hf, rfl, hC, hp⟩ := hm
      exact hC.recv
    refine hcVi (As := [.int a1, .int a2]) (rest := []) ⟨hx, hb, hml, hown, hts⟩ (hok_longestTile l G K c h a0 a1 a2 _ hm) (cwV 2 hts gL_longestTile_X7_longestTile rfl rfl rfl (by decide +kernel) ⟨Nat.le_of_ble_eq_true rfl, Nat.le_of_ble_eq_true rfl⟩) hK hN hZ hXX hP hD hS hA (mr_recv hK (mRd hK hP hZ hS) (ci := 7) rfl hq0) rfl hl.1 rfl (Nat.le_of_ble_eq_true rfl) dL_longestTile_3 ⟨Nat.zero_le _, Nat.zero_le _⟩ (fun r1 h1 H locs hm hP hD hS => ?_)
    exact hend H locs ls _ _ _ r1 h1 (Nat.zero_le _) (Nat.zero_le _) hm hP hD hS dL_longestTile_6
  · obtain ⟨ah, ag, ar, ps, s7, hf, rfl, hC, hc1, hc6, hp⟩ := hm
    obtain ⟨w0, fs0, hq0⟩ := hC.recv
    refine hcXVi (As := [.int a1, .int a2]) (rest := []) ⟨hx, hb, hml, hown, hts⟩ (hXi_z (tk_X7_longestTile l hl0 G K c ah ag ar ps s7 a1 a2 "java/lang/IndexOutOfBoundsException" s7 hf) hC.1 hC.2) (cwV 2 hts gL_longestTile_X7_longestTile rfl rfl rfl (by decide +kernel) ⟨Nat.le_of_ble_eq_true rfl, Nat.le_of_ble_eq_true rfl⟩) hK hN hZ hXX hP hD hS hA (mr_recv hK (mRd hK hP hZ hS) (ci := 7) rfl hq0) rfl hl.1 rfl (Nat.le_of_ble_eq_true rfl) dL_longestTile_3 ⟨by show 0 + 1 ≤ mc; omega, by show 0 + 6 ≤ ms; omega⟩ (fun H locs q ce hP hD hS hq hce hcl => ?_)
    refine vx_catch (own := RL) (name := "java/lang/IndexOutOfBoundsException") (E := "java/lang/IndexOutOfBoundsException") hown [] ⟨0, 6, 7, 50⟩ [⟨0, 6, 11, 56⟩] (htab.trans rfl) (fun z hz => absurd hz List.not_mem_nil) (by decide) (by decide) (hts (.classLink RL 50 "java/lang/IndexOutOfBoundsException") (List.mem_of_getElem? (i := 1) rfl)) (hXX.2.1.b (E := "java/lang/IndexOutOfBoundsException") (List.mem_of_getElem? (i := 1) rfl) (.castable "java/lang/IndexOutOfBoundsException" "java/lang/IndexOutOfBoundsException") List.mem_cons_self) hq hce hcl ?_
    refine lv_astore_n (lv' := [(3, .ref q), (0, .ref (ah 0)), (1, .int a1), (2, .int a2)]) hx hb dL_longestTile_7 rfl hl (by decide) rfl (fun ls hl => ?_)
    refine lv_ldc (v := -2000000097) hx hb hown (hts (.constant RL 52 (-2000000097)) (List.mem_of_getElem? (i := 3) rfl)) dL_longestTile_8 ?_
    exact hend H locs ls _ _ _ _ h (by show 0 + 1 ≤ mc; omega) (by show 0 + 6 ≤ ms; omega) hp hP hD hS dL_longestTile_10
  · obtain ⟨ah, ag, ar, ps, s7, hf, rfl, hC, hc1, hc6, hp⟩ := hm
    obtain ⟨w0, fs0, hq0⟩ := hC.recv
    refine hcXVi (As := [.int a1, .int a2]) (rest := []) ⟨hx, hb, hml, hown, hts⟩ (hXi_z (tk_X7_longestTile l hl0 G K c ah ag ar ps s7 a1 a2 "java/util/NoSuchElementException" s7 hf) hC.1 hC.2) (cwV 2 hts gL_longestTile_X7_longestTile rfl rfl rfl (by decide +kernel) ⟨Nat.le_of_ble_eq_true rfl, Nat.le_of_ble_eq_true rfl⟩) hK hN hZ hXX hP hD hS hA (mr_recv hK (mRd hK hP hZ hS) (ci := 7) rfl hq0) rfl hl.1 rfl (Nat.le_of_ble_eq_true rfl) dL_longestTile_3 ⟨by show 0 + 1 ≤ mc; omega, by show 0 + 6 ≤ ms; omega⟩ (fun H locs q ce hP hD hS hq hce hcl => ?_)
    refine vx_catch (own := RL) (name := "java/util/NoSuchElementException") (E := "java/util/NoSuchElementException") hown [⟨0, 6, 7, 50⟩] ⟨0, 6, 11, 56⟩ [] (htab.trans rfl) (fun z hz => by cases List.mem_singleton.mp hz; exact Or.inr ⟨by decide, "java/lang/IndexOutOfBoundsException", hts (.classLink RL 50 "java/lang/IndexOutOfBoundsException") (List.mem_of_getElem? (i := 1) rfl), hXX.2.2.1 ("java/util/NoSuchElementException", "java/lang/IndexOutOfBoundsException") (List.mem_of_getElem? (i := 1) rfl)⟩) (by decide) (by decide) (hts (.classLink RL 56 "java/util/NoSuchElementException") (List.mem_of_getElem? (i := 2) rfl)) (hXX.2.1.b (E := "java/util/NoSuchElementException") (List.mem_of_getElem? (i := 2) rfl) (.castable "java/util/NoSuchElementException" "java/util/NoSuchElementException") List.mem_cons_self) hq hce hcl ?_
    refine lv_astore_n (lv' := [(3, .ref q), (0, .ref (ah 0)), (1, .int a1), (2, .int a2)]) hx hb dL_longestTile_11 rfl hl (by decide) rfl (fun ls hl => ?_)
    refine lv_ldc (v := -2000000100) hx hb hown (hts (.constant RL 58 (-2000000100)) (List.mem_of_getElem? (i := 4) rfl)) dL_longestTile_12 ?_
    exact hend H locs ls _ _ _ _ h (by show 0 + 1 ≤ mc; omega) (by show 0 + 6 ≤ ms; omega) hp hP hD hS dL_longestTile_14
def v_X7_ok_heaviest (c : Nat → ClassId) (h : HW) (a0 : Nat) (a1 : Int32) (post : Int32 → HW → Prop) : Prop := ∃ (ah : Nat → Nat) (ag : Nat → Nat → Nat) (ar : Nat → Nat) (ps : PS) (s7 : HS) (r : Int32) (s7_r : HS), f_X7_heaviest s7 a1 = some (r, s7_r) ∧ a0 = ah 0 ∧ CA c ah ag ar ps s7 h ∧ (∀ h1 : HW, hNx h (wH c ah ag ar ps s7) (wH c ah ag ar ps s7_r) h1 → post r h1)
theorem hok_heaviest (l : Launch) (G : va_G) (K : (Nat → Nat) × (Nat → Nat)) (c : Nat → ClassId) (h : HW) (a0 : Nat) (a1 : Int32) (post : Int32 → HW → Prop) (hm : v_X7_ok_heaviest c h a0 a1 post) : hMi l yX7_heaviest wsX7_heaviest rm_X7_heaviest G K (TY c) [.ref a0, .int a1] h 0 0 post := by
  obtain ⟨ah, ag, ar, ps, s7, r, s7_r, hf, rfl, hC, hp⟩ := hm
  exact hMi_z (k_X7_heaviest l G K c ah ag ar ps s7 a1 r s7_r hf) hC.1 hC.2 (fun h1 q => hp h1 q)
def w_L_heaviest (c : Nat → ClassId) (K : (Nat → Nat) × (Nat → Nat)) (h : HW) (a0 : Nat) (a1 : Int32) (mc ms : Nat) (post : Int32 → HW → Prop) : Prop := v_X7_ok_heaviest c h a0 a1 post ∨ (∃ (ah : Nat → Nat) (ag : Nat → Nat → Nat) (ar : Nat → Nat) (ps : PS) (s7 : HS), t_X7_heaviest s7 a1 = some "java/lang/IndexOutOfBoundsException" ∧ a0 = ah 0 ∧ CA c ah ag ar ps s7 h ∧ 1 ≤ mc ∧ 6 ≤ ms ∧ post (-2000000097) h)
abbrev rm_L_heaviest (mc ms : Nat) : Room := { frames := 8, cells := mc, slots := ms, locals := 134 }
theorem he_L_heaviest : yL_heaviest.cls ≠ "java/lang/invoke/MethodHandle" ∧ yL_heaviest.cls ≠ "java/lang/invoke/VarHandle" ∧ (parseMethodDescriptor yL_heaviest.desc).map (fun d => d.parameters.length) = some 2 := by decide +kernel
set_option maxHeartbeats 4000000 in
set_option maxRecDepth 100000 in
theorem h_L_heaviest (l : Launch) (hl0 : l.stackTraces = false) (G : va_G) (K : (Nat → Nat) × (Nat → Nat)) (c : Nat → ClassId) (h : HW) (a0 : Nat) (a1 : Int32) (mc ms : Nat) (post : Int32 → HW → Prop) (hm : w_L_heaviest c K h a0 a1 mc ms post) : hMi l yL_heaviest wsL_heaviest (rm_L_heaviest mc ms) G K (TY c) [.ref a0, .int a1] h mc ms post := by
  refine hMi.ofx (cc := cL_heaviest) (maxL := 3) (hh := [(0, 5, 6, 50)]) (lv := [(0, .ref a0), (1, .int a1)]) (by decide) rfl (Nat.le_of_ble_eq_true rfl) rfl ?_
  intro p e s m args below meth c1 A Q H locs hx hb hml htab hown hts hK hN hZ hXX hP hD hA hS hend ls hl
  have hown : s.vm.findClass RL = some m.cls := hown
  refine lv_aload_n hx hb dL_heaviest_0 rfl (lv_at hl 0 rfl) ?_
  refine lv_iload_n hx hb dL_heaviest_1 rfl (lv_at hl 1 rfl) ?_
  rcases hm with hm | hm
  · obtain ⟨w0, fs0, hq0⟩ : ∃ w fs, h a0 = some (w, .inr (7, fs)) := by
      obtain ⟨ah, ag, ar, ps, s7, r, s7_r, hf, rfl, hC, hp⟩ := hm
      exact hC.recv
    refine hcVi (As := [.int a1]) (rest := []) ⟨hx, hb, hml, hown, hts⟩ (hok_heaviest l G K c h a0 a1 _ hm) (cwV 1 hts gL_heaviest_X7_heaviest rfl rfl rfl (by decide +kernel) ⟨Nat.le_of_ble_eq_true rfl, Nat.le_of_ble_eq_true rfl⟩) hK hN hZ hXX hP hD hS hA (mr_recv hK (mRd hK hP hZ hS) (ci := 7) rfl hq0) rfl hl.1 rfl (Nat.le_of_ble_eq_true rfl) dL_heaviest_2 ⟨Nat.zero_le _, Nat.zero_le _⟩ (fun r1 h1 H locs hm hP hD hS => ?_)
    exact hend H locs ls _ _ _ r1 h1 (Nat.zero_le _) (Nat.zero_le _) hm hP hD hS dL_heaviest_5
  · obtain ⟨ah, ag, ar, ps, s7, hf, rfl, hC, hc1, hc6, hp⟩ := hm
    obtain ⟨w0, fs0, hq0⟩ := hC.recv
    refine hcXVi (As := [.int a1]) (rest := []) ⟨hx, hb, hml, hown, hts⟩ (hXi_z (tk_X7_heaviest l hl0 G K c ah ag ar ps s7 a1 "java/lang/IndexOutOfBoundsException" hf) hC.1 hC.2) (cwV 1 hts gL_heaviest_X7_heaviest rfl rfl rfl (by decide +kernel) ⟨Nat.le_of_ble_eq_true rfl, Nat.le_of_ble_eq_true rfl⟩) hK hN hZ hXX hP hD hS hA (mr_recv hK (mRd hK hP hZ hS) (ci := 7) rfl hq0) rfl hl.1 rfl (Nat.le_of_ble_eq_true rfl) dL_heaviest_2 ⟨by show 0 + 1 ≤ mc; omega, by show 0 + 6 ≤ ms; omega⟩ (fun H locs q ce hP hD hS hq hce hcl => ?_)
    refine vx_catch (own := RL) (name := "java/lang/IndexOutOfBoundsException") (E := "java/lang/IndexOutOfBoundsException") hown [] ⟨0, 5, 6, 50⟩ [] (htab.trans rfl) (fun z hz => absurd hz List.not_mem_nil) (by decide) (by decide) (hts (.classLink RL 50 "java/lang/IndexOutOfBoundsException") (List.mem_of_getElem? (i := 1) rfl)) (hXX.2.1.b (E := "java/lang/IndexOutOfBoundsException") (List.mem_of_getElem? (i := 1) rfl) (.castable "java/lang/IndexOutOfBoundsException" "java/lang/IndexOutOfBoundsException") List.mem_cons_self) hq hce hcl ?_
    refine lv_astore_n (lv' := [(2, .ref q), (0, .ref (ah 0)), (1, .int a1)]) hx hb dL_heaviest_6 rfl hl (by decide) rfl (fun ls hl => ?_)
    refine lv_ldc (v := -2000000097) hx hb hown (hts (.constant RL 52 (-2000000097)) (List.mem_of_getElem? (i := 2) rfl)) dL_heaviest_7 ?_
    exact hend H locs ls _ _ _ _ h (by show 0 + 1 ≤ mc; omega) (by show 0 + 6 ≤ ms; omega) hp hP hD hS dL_heaviest_9
def v_X7_ok_play (c : Nat → ClassId) (h : HW) (a0 : Nat) (a1 : Int32) (a2 : Int32) (post : Int32 → HW → Prop) : Prop := ∃ (ah : Nat → Nat) (ag : Nat → Nat → Nat) (ar : Nat → Nat) (ps : PS) (s7 : HS) (r : Int32) (s7_r : HS), f_X7_play s7 a1 a2 = some (r, s7_r) ∧ a0 = ah 0 ∧ CA c ah ag ar ps s7 h ∧ (∀ h1 : HW, hNx h (wH c ah ag ar ps s7) (wH c ah ag ar ps s7_r) h1 → post r h1)
theorem hok_play (l : Launch) (G : va_G) (K : (Nat → Nat) × (Nat → Nat)) (c : Nat → ClassId) (h : HW) (a0 : Nat) (a1 : Int32) (a2 : Int32) (post : Int32 → HW → Prop) (hm : v_X7_ok_play c h a0 a1 a2 post) : hMi l yX7_play wsX7_play rm_X7_play G K (TY c) [.ref a0, .int a1, .int a2] h 0 0 post := by
  obtain ⟨ah, ag, ar, ps, s7, r, s7_r, hf, rfl, hC, hp⟩ := hm
  exact hMi_z (k_X7_play l G K c ah ag ar ps s7 a1 a2 r s7_r hf) hC.1 hC.2 (fun h1 q => hp h1 q)
def w_L_play (c : Nat → ClassId) (K : (Nat → Nat) × (Nat → Nat)) (h : HW) (a0 : Nat) (a1 : Int32) (a2 : Int32) (mc ms : Nat) (post : Int32 → HW → Prop) : Prop := v_X7_ok_play c h a0 a1 a2 post ∨ (∃ (ah : Nat → Nat) (ag : Nat → Nat → Nat) (ar : Nat → Nat) (ps : PS) (s7 : HS), t_X7_play s7 a1 a2 = some "java/lang/IndexOutOfBoundsException" ∧ a0 = ah 0 ∧ CA c ah ag ar ps s7 h ∧ 1 ≤ mc ∧ 6 ≤ ms ∧ post (-2000000097) h) ∨ (∃ (ah : Nat → Nat) (ag : Nat → Nat → Nat) (ar : Nat → Nat) (ps : PS) (s7 : HS), t_X7_play s7 a1 a2 = some "java/lang/IllegalArgumentException" ∧ a0 = ah 0 ∧ CA c ah ag ar ps s7 h ∧ 1 ≤ mc ∧ 6 ≤ ms ∧ post (-2000000098) h) ∨ (∃ (ah : Nat → Nat) (ag : Nat → Nat → Nat) (ar : Nat → Nat) (ps : PS) (s7 : HS), t_X7_play s7 a1 a2 = some "java/lang/IllegalStateException" ∧ a0 = ah 0 ∧ CA c ah ag ar ps s7 h ∧ 1 ≤ mc ∧ 6 ≤ ms ∧ post (-2000000099) h)
abbrev rm_L_play (mc ms : Nat) : Room := { frames := 8, cells := mc, slots := ms, locals := 146 }
theorem he_L_play : yL_play.cls ≠ "java/lang/invoke/MethodHandle" ∧ yL_play.cls ≠ "java/lang/invoke/VarHandle" ∧ (parseMethodDescriptor yL_play.desc).map (fun d => d.parameters.length) = some 3 := by decide +kernel
set_option maxHeartbeats 4000000 in
set_option maxRecDepth 100000 in
theorem h_L_play (l : Launch) (hl0 : l.stackTraces = false) (G : va_G) (K : (Nat → Nat) × (Nat → Nat)) (c : Nat → ClassId) (h : HW) (a0 : Nat) (a1 : Int32) (a2 : Int32) (mc ms : Nat) (post : Int32 → HW → Prop) (hm : w_L_play c K h a0 a1 a2 mc ms post) : hMi l yL_play wsL_play (rm_L_play mc ms) G K (TY c) [.ref a0, .int a1, .int a2] h mc ms post := by
  refine hMi.ofx (cc := cL_play) (maxL := 4) (hh := [(0, 6, 7, 50), (0, 6, 11, 40), (0, 6, 15, 83)]) (lv := [(0, .ref a0), (1, .int a1), (2, .int a2)]) (by decide) rfl (Nat.le_of_ble_eq_true rfl) rfl ?_
  intro p e s m args below meth c1 A Q H locs hx hb hml htab hown hts hK hN hZ hXX hP hD hA hS hend ls hl
  have hown : s.vm.findClass RL = some m.cls := hown
  refine lv_aload_n hx hb dL_play_0 rfl (lv_at hl 0 rfl) ?_
  refine lv_iload_n hx hb dL_play_1 rfl (lv_at hl 1 rfl) ?_
  refine lv_iload_n hx hb dL_play_2 rfl (lv_at hl 2 rfl) ?_
  rcases hm with hm | hm | hm | hm
  · obtain ⟨w0, fs0, hq0⟩ : ∃ w fs, h a0 = some (w, .inr (7, fs)) := by
      obtain ⟨ah, ag, ar, ps, s7, r, s7_r, hf, rfl, hC, hp⟩ := hm
      exact hC.recv
    refine hcVi (As := [.int a1, .int a2]) (rest := []) ⟨hx, hb, hml, hown, hts⟩ (hok_play l G K c h a0 a1 a2 _ hm) (cwV 2 hts gL_play_X7_play rfl rfl rfl (by decide +kernel) ⟨Nat.le_of_ble_eq_true rfl, Nat.le_of_ble_eq_true rfl⟩) hK hN hZ hXX hP hD hS hA (mr_recv hK (mRd hK hP hZ hS) (ci := 7) rfl hq0) rfl hl.1 rfl (Nat.le_of_ble_eq_true rfl) dL_play_3 ⟨Nat.zero_le _, Nat.zero_le _⟩ (fun r1 h1 H locs hm hP hD hS => ?_)
    exact hend H locs ls _ _ _ r1 h1 (Nat.zero_le _) (Nat.zero_le _) hm hP hD hS dL_play_6
  · obtain ⟨ah, ag, ar, ps, s7, hf, rfl, hC, hc1, hc6, hp⟩ := hm
    obtain ⟨w0, fs0, hq0⟩ := hC.recv
    refine hcXVi (As := [.int a1, .int a2]) (rest := []) ⟨hx, hb, hml, hown, hts⟩ (hXi_z (tk_X7_play l hl0 G K c ah ag ar ps s7 a1 a2 "java/lang/IndexOutOfBoundsException" hf) hC.1 hC.2) (cwV 2 hts gL_play_X7_play rfl rfl rfl (by decide +kernel) ⟨Nat.le_of_ble_eq_true rfl, Nat.le_of_ble_eq_true rfl⟩) hK hN hZ hXX hP hD hS hA (mr_recv hK (mRd hK hP hZ hS) (ci := 7) rfl hq0) rfl hl.1 rfl (Nat.le_of_ble_eq_true rfl) dL_play_3 ⟨by show 0 + 1 ≤ mc; omega, by show 0 + 6 ≤ ms; omega⟩ (fun H locs q ce hP hD hS hq hce hcl => ?_)
    refine vx_catch (own := RL) (name := "java/lang/IndexOutOfBoundsException") (E := "java/lang/IndexOutOfBoundsException") hown [] ⟨0, 6, 7, 50⟩ [⟨0, 6, 11, 40⟩, ⟨0, 6, 15, 83⟩] (htab.trans rfl) (fun z hz => absurd hz List.not_mem_nil) (by decide) (by decide) (hts (.classLink RL 50 "java/lang/IndexOutOfBoundsException") (List.mem_of_getElem? (i := 1) rfl)) (hXX.2.1.b (E := "java/lang/IndexOutOfBoundsException") (List.mem_of_getElem? (i := 1) rfl) (.castable "java/lang/IndexOutOfBoundsException" "java/lang/IndexOutOfBoundsException") List.mem_cons_self) hq hce hcl ?_
    refine lv_astore_n (lv' := [(3, .ref q), (0, .ref (ah 0)), (1, .int a1), (2, .int a2)]) hx hb dL_play_7 rfl hl (by decide) rfl (fun ls hl => ?_)
    refine lv_ldc (v := -2000000097) hx hb hown (hts (.constant RL 52 (-2000000097)) (List.mem_of_getElem? (i := 4) rfl)) dL_play_8 ?_
    exact hend H locs ls _ _ _ _ h (by show 0 + 1 ≤ mc; omega) (by show 0 + 6 ≤ ms; omega) hp hP hD hS dL_play_10
  · obtain ⟨ah, ag, ar, ps, s7, hf, rfl, hC, hc1, hc6, hp⟩ := hm
    obtain ⟨w0, fs0, hq0⟩ := hC.recv
    refine hcXVi (As := [.int a1, .int a2]) (rest := []) ⟨hx, hb, hml, hown, hts⟩ (hXi_z (tk_X7_play l hl0 G K c ah ag ar ps s7 a1 a2 "java/lang/IllegalArgumentException" hf) hC.1 hC.2) (cwV 2 hts gL_play_X7_play rfl rfl rfl (by decide +kernel) ⟨Nat.le_of_ble_eq_true rfl, Nat.le_of_ble_eq_true rfl⟩) hK hN hZ hXX hP hD hS hA (mr_recv hK (mRd hK hP hZ hS) (ci := 7) rfl hq0) rfl hl.1 rfl (Nat.le_of_ble_eq_true rfl) dL_play_3 ⟨by show 0 + 1 ≤ mc; omega, by show 0 + 6 ≤ ms; omega⟩ (fun H locs q ce hP hD hS hq hce hcl => ?_)
    refine vx_catch (own := RL) (name := "java/lang/IllegalArgumentException") (E := "java/lang/IllegalArgumentException") hown [⟨0, 6, 7, 50⟩] ⟨0, 6, 11, 40⟩ [⟨0, 6, 15, 83⟩] (htab.trans rfl) (fun z hz => by cases List.mem_singleton.mp hz; exact Or.inr ⟨by decide, "java/lang/IndexOutOfBoundsException", hts (.classLink RL 50 "java/lang/IndexOutOfBoundsException") (List.mem_of_getElem? (i := 1) rfl), hXX.2.2.1 ("java/lang/IllegalArgumentException", "java/lang/IndexOutOfBoundsException") (List.mem_of_getElem? (i := 0) rfl)⟩) (by decide) (by decide) (hts (.classLink RL 40 "java/lang/IllegalArgumentException") (List.mem_of_getElem? (i := 2) rfl)) (hXX.2.1.b (E := "java/lang/IllegalArgumentException") (List.mem_of_getElem? (i := 0) rfl) (.castable "java/lang/IllegalArgumentException" "java/lang/IllegalArgumentException") List.mem_cons_self) hq hce hcl ?_
    refine lv_astore_n (lv' := [(3, .ref q), (0, .ref (ah 0)), (1, .int a1), (2, .int a2)]) hx hb dL_play_11 rfl hl (by decide) rfl (fun ls hl => ?_)
    refine lv_ldc (v := -2000000098) hx hb hown (hts (.constant RL 42 (-2000000098)) (List.mem_of_getElem? (i := 5) rfl)) dL_play_12 ?_
    exact hend H locs ls _ _ _ _ h (by show 0 + 1 ≤ mc; omega) (by show 0 + 6 ≤ ms; omega) hp hP hD hS dL_play_14
  · obtain ⟨ah, ag, ar, ps, s7, hf, rfl, hC, hc1, hc6, hp⟩ := hm
    obtain ⟨w0, fs0, hq0⟩ := hC.recv
    refine hcXVi (As := [.int a1, .int a2]) (rest := []) ⟨hx, hb, hml, hown, hts⟩ (hXi_z (tk_X7_play l hl0 G K c ah ag ar ps s7 a1 a2 "java/lang/IllegalStateException" hf) hC.1 hC.2) (cwV 2 hts gL_play_X7_play rfl rfl rfl (by decide +kernel) ⟨Nat.le_of_ble_eq_true rfl, Nat.le_of_ble_eq_true rfl⟩) hK hN hZ hXX hP hD hS hA (mr_recv hK (mRd hK hP hZ hS) (ci := 7) rfl hq0) rfl hl.1 rfl (Nat.le_of_ble_eq_true rfl) dL_play_3 ⟨by show 0 + 1 ≤ mc; omega, by show 0 + 6 ≤ ms; omega⟩ (fun H locs q ce hP hD hS hq hce hcl => ?_)
    refine vx_catch (own := RL) (name := "java/lang/IllegalStateException") (E := "java/lang/IllegalStateException") hown [⟨0, 6, 7, 50⟩, ⟨0, 6, 11, 40⟩] ⟨0, 6, 15, 83⟩ [] (htab.trans rfl) (fun z hz => by rcases List.mem_cons.mp hz with rfl | hz; exact Or.inr ⟨by decide, "java/lang/IndexOutOfBoundsException", hts (.classLink RL 50 "java/lang/IndexOutOfBoundsException") (List.mem_of_getElem? (i := 1) rfl), hXX.2.2.1 ("java/lang/IllegalStateException", "java/lang/IndexOutOfBoundsException") (List.mem_of_getElem? (i := 3) rfl)⟩; cases List.mem_singleton.mp hz; exact Or.inr ⟨by decide, "java/lang/IllegalArgumentException", hts (.classLink RL 40 "java/lang/IllegalArgumentException") (List.mem_of_getElem? (i := 2) rfl), hXX.2.2.1 ("java/lang/IllegalStateException", "java/lang/IllegalArgumentException") (List.mem_of_getElem? (i := 4) rfl)⟩) (by decide) (by decide) (hts (.classLink RL 83 "java/lang/IllegalStateException") (List.mem_of_getElem? (i := 3) rfl)) (hXX.2.1.b (E := "java/lang/IllegalStateException") (List.mem_of_getElem? (i := 3) rfl) (.castable "java/lang/IllegalStateException" "java/lang/IllegalStateException") List.mem_cons_self) hq hce hcl ?_
    refine lv_astore_n (lv' := [(3, .ref q), (0, .ref (ah 0)), (1, .int a1), (2, .int a2)]) hx hb dL_play_15 rfl hl (by decide) rfl (fun ls hl => ?_)
    refine lv_ldc (v := -2000000099) hx hb hown (hts (.constant RL 85 (-2000000099)) (List.mem_of_getElem? (i := 6) rfl)) dL_play_16 ?_
    exact hend H locs ls _ _ _ _ h (by show 0 + 1 ≤ mc; omega) (by show 0 + 6 ≤ ms; omega) hp hP hD hS dL_play_18
def v_X7_ok_draw (c : Nat → ClassId) (h : HW) (a0 : Nat) (post : Int32 → HW → Prop) : Prop := ∃ (ah : Nat → Nat) (ag : Nat → Nat → Nat) (ar : Nat → Nat) (ps : PS) (s7 : HS) (r : Int32) (s7_r : HS), f_X7_draw s7 = some (r, s7_r) ∧ a0 = ah 0 ∧ CA c ah ag ar ps s7 h ∧ (∀ h1 : HW, hNx h (wH c ah ag ar ps s7) (wH c ah ag ar ps s7_r) h1 → post r h1)
theorem hok_draw (l : Launch) (G : va_G) (K : (Nat → Nat) × (Nat → Nat)) (c : Nat → ClassId) (h : HW) (a0 : Nat) (post : Int32 → HW → Prop) (hm : v_X7_ok_draw c h a0 post) : hMi l yX7_draw wsX7_draw rm_X7_draw G K (TY c) [.ref a0] h 0 0 post := by
  obtain ⟨ah, ag, ar, ps, s7, r, s7_r, hf, rfl, hC, hp⟩ := hm
  exact hMi_z (k_X7_draw l G K c ah ag ar ps s7 r s7_r hf) hC.1 hC.2 (fun h1 q => hp h1 q)
def w_L_draw (c : Nat → ClassId) (K : (Nat → Nat) × (Nat → Nat)) (h : HW) (a0 : Nat) (mc ms : Nat) (post : Int32 → HW → Prop) : Prop := v_X7_ok_draw c h a0 post ∨ (∃ (ah : Nat → Nat) (ag : Nat → Nat → Nat) (ar : Nat → Nat) (ps : PS) (s7 : HS), t_X7_draw s7 = some "java/lang/IllegalStateException" ∧ a0 = ah 0 ∧ CA c ah ag ar ps s7 h ∧ 1 ≤ mc ∧ 6 ≤ ms ∧ post (-2000000099) h)
abbrev rm_L_draw (mc ms : Nat) : Room := { frames := 8, cells := mc, slots := ms, locals := 170 }
theorem he_L_draw : yL_draw.cls ≠ "java/lang/invoke/MethodHandle" ∧ yL_draw.cls ≠ "java/lang/invoke/VarHandle" ∧ (parseMethodDescriptor yL_draw.desc).map (fun d => d.parameters.length) = some 1 := by decide +kernel
set_option maxHeartbeats 4000000 in
set_option maxRecDepth 100000 in
theorem h_L_draw (l : Launch) (hl0 : l.stackTraces = false) (G : va_G) (K : (Nat → Nat) × (Nat → Nat)) (c : Nat → ClassId) (h : HW) (a0 : Nat) (mc ms : Nat) (post : Int32 → HW → Prop) (hm : w_L_draw c K h a0 mc ms post) : hMi l yL_draw wsL_draw (rm_L_draw mc ms) G K (TY c) [.ref a0] h mc ms post := by
  refine hMi.ofx (cc := cL_draw) (maxL := 2) (hh := [(0, 4, 5, 83)]) (lv := [(0, .ref a0)]) (by decide) rfl (Nat.le_of_ble_eq_true rfl) rfl ?_
  intro p e s m args below meth c1 A Q H locs hx hb hml htab hown hts hK hN hZ hXX hP hD hA hS hend ls hl
  have hown : s.vm.findClass RL = some m.cls := hown
  refine lv_aload_n hx hb dL_draw_0 rfl (lv_at hl 0 rfl) ?_
  rcases hm with hm | hm
  · obtain ⟨w0, fs0, hq0⟩ : ∃ w fs, h a0 = some (w, .inr (7, fs)) := by
      obtain ⟨ah, ag, ar, ps, s7, r, s7_r, hf, rfl, hC, hp⟩ := hm
      exact hC.recv
    refine hcVi (As := []) (rest := []) ⟨hx, hb, hml, hown, hts⟩ (hok_draw l G K c h a0 _ hm) (cwV 0 hts gL_draw_X7_draw rfl rfl rfl (by decide +kernel) ⟨Nat.le_of_ble_eq_true rfl, Nat.le_of_ble_eq_true rfl⟩) hK hN hZ hXX hP hD hS hA (mr_recv hK (mRd hK hP hZ hS) (ci := 7) rfl hq0) rfl hl.1 rfl (Nat.le_of_ble_eq_true rfl) dL_draw_1 ⟨Nat.zero_le _, Nat.zero_le _⟩ (fun r1 h1 H locs hm hP hD hS => ?_)
    exact hend H locs ls _ _ _ r1 h1 (Nat.zero_le _) (Nat.zero_le _) hm hP hD hS dL_draw_4
  · obtain ⟨ah, ag, ar, ps, s7, hf, rfl, hC, hc1, hc6, hp⟩ := hm
    obtain ⟨w0, fs0, hq0⟩ := hC.recv
    refine hcXVi (As := []) (rest := []) ⟨hx, hb, hml, hown, hts⟩ (hXi_z (tk_X7_draw l hl0 G K c ah ag ar ps s7 "java/lang/IllegalStateException" hf) hC.1 hC.2) (cwV 0 hts gL_draw_X7_draw rfl rfl rfl (by decide +kernel) ⟨Nat.le_of_ble_eq_true rfl, Nat.le_of_ble_eq_true rfl⟩) hK hN hZ hXX hP hD hS hA (mr_recv hK (mRd hK hP hZ hS) (ci := 7) rfl hq0) rfl hl.1 rfl (Nat.le_of_ble_eq_true rfl) dL_draw_1 ⟨by show 0 + 1 ≤ mc; omega, by show 0 + 6 ≤ ms; omega⟩ (fun H locs q ce hP hD hS hq hce hcl => ?_)
    refine vx_catch (own := RL) (name := "java/lang/IllegalStateException") (E := "java/lang/IllegalStateException") hown [] ⟨0, 4, 5, 83⟩ [] (htab.trans rfl) (fun z hz => absurd hz List.not_mem_nil) (by decide) (by decide) (hts (.classLink RL 83 "java/lang/IllegalStateException") (List.mem_of_getElem? (i := 1) rfl)) (hXX.2.1.b (E := "java/lang/IllegalStateException") (List.mem_of_getElem? (i := 3) rfl) (.castable "java/lang/IllegalStateException" "java/lang/IllegalStateException") List.mem_cons_self) hq hce hcl ?_
    refine lv_astore_n (lv' := [(1, .ref q), (0, .ref (ah 0))]) hx hb dL_draw_5 rfl hl (by decide) rfl (fun ls hl => ?_)
    refine lv_ldc (v := -2000000099) hx hb hown (hts (.constant RL 85 (-2000000099)) (List.mem_of_getElem? (i := 2) rfl)) dL_draw_6 ?_
    exact hend H locs ls _ _ _ _ h (by show 0 + 1 ≤ mc; omega) (by show 0 + 6 ≤ ms; omega) hp hP hD hS dL_draw_8
def v_X7_ok_pass (c : Nat → ClassId) (h : HW) (a0 : Nat) (post : Int32 → HW → Prop) : Prop := ∃ (ah : Nat → Nat) (ag : Nat → Nat → Nat) (ar : Nat → Nat) (ps : PS) (s7 : HS) (r : Int32) (s7_r : HS), f_X7_pass s7 = some (r, s7_r) ∧ a0 = ah 0 ∧ CA c ah ag ar ps s7 h ∧ (∀ h1 : HW, hNx h (wH c ah ag ar ps s7) (wH c ah ag ar ps s7_r) h1 → post r h1)
theorem hok_pass (l : Launch) (G : va_G) (K : (Nat → Nat) × (Nat → Nat)) (c : Nat → ClassId) (h : HW) (a0 : Nat) (post : Int32 → HW → Prop) (hm : v_X7_ok_pass c h a0 post) : hMi l yX7_pass wsX7_pass rm_X7_pass G K (TY c) [.ref a0] h 0 0 post := by
  obtain ⟨ah, ag, ar, ps, s7, r, s7_r, hf, rfl, hC, hp⟩ := hm
  exact hMi_z (k_X7_pass l G K c ah ag ar ps s7 r s7_r hf) hC.1 hC.2 (fun h1 q => hp h1 q)
def w_L_pass (c : Nat → ClassId) (K : (Nat → Nat) × (Nat → Nat)) (h : HW) (a0 : Nat) (mc ms : Nat) (post : Int32 → HW → Prop) : Prop := v_X7_ok_pass c h a0 post ∨ (∃ (ah : Nat → Nat) (ag : Nat → Nat → Nat) (ar : Nat → Nat) (ps : PS) (s7 : HS), t_X7_pass s7 = some "java/lang/IllegalStateException" ∧ a0 = ah 0 ∧ CA c ah ag ar ps s7 h ∧ 1 ≤ mc ∧ 6 ≤ ms ∧ post (-2000000099) h)
abbrev rm_L_pass (mc ms : Nat) : Room := { frames := 8, cells := mc, slots := ms, locals := 170 }
theorem he_L_pass : yL_pass.cls ≠ "java/lang/invoke/MethodHandle" ∧ yL_pass.cls ≠ "java/lang/invoke/VarHandle" ∧ (parseMethodDescriptor yL_pass.desc).map (fun d => d.parameters.length) = some 1 := by decide +kernel
set_option maxHeartbeats 4000000 in
set_option maxRecDepth 100000 in
theorem h_L_pass (l : Launch) (hl0 : l.stackTraces = false) (G : va_G) (K : (Nat → Nat) × (Nat → Nat)) (c : Nat → ClassId) (h : HW) (a0 : Nat) (mc ms : Nat) (post : Int32 → HW → Prop) (hm : w_L_pass c K h a0 mc ms post) : hMi l yL_pass wsL_pass (rm_L_pass mc ms) G K (TY c) [.ref a0] h mc ms post := by
  refine hMi.ofx (cc := cL_pass) (maxL := 2) (hh := [(0, 4, 5, 83)]) (lv := [(0, .ref a0)]) (by decide) rfl (Nat.le_of_ble_eq_true rfl) rfl ?_
  intro p e s m args below meth c1 A Q H locs hx hb hml htab hown hts hK hN hZ hXX hP hD hA hS hend ls hl
  have hown : s.vm.findClass RL = some m.cls := hown
  refine lv_aload_n hx hb dL_pass_0 rfl (lv_at hl 0 rfl) ?_
  rcases hm with hm | hm
  · obtain ⟨w0, fs0, hq0⟩ : ∃ w fs, h a0 = some (w, .inr (7, fs)) := by
      obtain ⟨ah, ag, ar, ps, s7, r, s7_r, hf, rfl, hC, hp⟩ := hm
      exact hC.recv
    refine hcVi (As := []) (rest := []) ⟨hx, hb, hml, hown, hts⟩ (hok_pass l G K c h a0 _ hm) (cwV 0 hts gL_pass_X7_pass rfl rfl rfl (by decide +kernel) ⟨Nat.le_of_ble_eq_true rfl, Nat.le_of_ble_eq_true rfl⟩) hK hN hZ hXX hP hD hS hA (mr_recv hK (mRd hK hP hZ hS) (ci := 7) rfl hq0) rfl hl.1 rfl (Nat.le_of_ble_eq_true rfl) dL_pass_1 ⟨Nat.zero_le _, Nat.zero_le _⟩ (fun r1 h1 H locs hm hP hD hS => ?_)
    exact hend H locs ls _ _ _ r1 h1 (Nat.zero_le _) (Nat.zero_le _) hm hP hD hS dL_pass_4
  · obtain ⟨ah, ag, ar, ps, s7, hf, rfl, hC, hc1, hc6, hp⟩ := hm
    obtain ⟨w0, fs0, hq0⟩ := hC.recv
    refine hcXVi (As := []) (rest := []) ⟨hx, hb, hml, hown, hts⟩ (hXi_z (tk_X7_pass l hl0 G K c ah ag ar ps s7 "java/lang/IllegalStateException" hf) hC.1 hC.2) (cwV 0 hts gL_pass_X7_pass rfl rfl rfl (by decide +kernel) ⟨Nat.le_of_ble_eq_true rfl, Nat.le_of_ble_eq_true rfl⟩) hK hN hZ hXX hP hD hS hA (mr_recv hK (mRd hK hP hZ hS) (ci := 7) rfl hq0) rfl hl.1 rfl (Nat.le_of_ble_eq_true rfl) dL_pass_1 ⟨by show 0 + 1 ≤ mc; omega, by show 0 + 6 ≤ ms; omega⟩ (fun H locs q ce hP hD hS hq hce hcl => ?_)
    refine vx_catch (own := RL) (name := "java/lang/IllegalStateException") (E := "java/lang/IllegalStateException") hown [] ⟨0, 4, 5, 83⟩ [] (htab.trans rfl) (fun z hz => absurd hz List.not_mem_nil) (by decide) (by decide) (hts (.classLink RL 83 "java/lang/IllegalStateException") (List.mem_of_getElem? (i := 1) rfl)) (hXX.2.1.b (E := "java/lang/IllegalStateException") (List.mem_of_getElem? (i := 3) rfl) (.castable "java/lang/IllegalStateException" "java/lang/IllegalStateException") List.mem_cons_self) hq hce hcl ?_
    refine lv_astore_n (lv' := [(1, .ref q), (0, .ref (ah 0))]) hx hb dL_pass_5 rfl hl (by decide) rfl (fun ls hl => ?_)
    refine lv_ldc (v := -2000000099) hx hb hown (hts (.constant RL 85 (-2000000099)) (List.mem_of_getElem? (i := 2) rfl)) dL_pass_6 ?_
    exact hend H locs ls _ _ _ _ h (by show 0 + 1 ≤ mc; omega) (by show 0 + 6 ≤ ms; omega) hp hP hD hS dL_pass_8
def v_X7_ok_auto (c : Nat → ClassId) (h : HW) (a0 : Nat) (a1 : Int32) (post : Int32 → HW → Prop) : Prop := ∃ (ah : Nat → Nat) (ag : Nat → Nat → Nat) (ar : Nat → Nat) (ps : PS) (s7 : HS) (r : Int32) (s7_r : HS) (ps_r : PS), f_X7_auto s7 ps a1 = some (r, s7_r, ps_r) ∧ a0 = ah 0 ∧ CA c ah ag ar ps s7 h ∧ (∀ h1 : HW, hNx h (wH c ah ag ar ps s7) (wH c ah ag ar ps_r s7_r) h1 → post r h1)
theorem hok_auto (l : Launch) (G : va_G) (K : (Nat → Nat) × (Nat → Nat)) (c : Nat → ClassId) (h : HW) (a0 : Nat) (a1 : Int32) (post : Int32 → HW → Prop) (hm : v_X7_ok_auto c h a0 a1 post) : hMi l yX7_auto wsX7_auto rm_X7_auto G K (TY c) [.ref a0, .int a1] h 0 0 post := by
  obtain ⟨ah, ag, ar, ps, s7, r, s7_r, ps_r, hf, rfl, hC, hp⟩ := hm
  exact hMi_z (k_X7_auto l G K c ah ag ar s7 ps a1 r s7_r ps_r hf) hC.1 hC.2 (fun h1 q => hp h1 q)
def w_L_auto (c : Nat → ClassId) (K : (Nat → Nat) × (Nat → Nat)) (h : HW) (a0 : Nat) (a1 : Int32) (mc ms : Nat) (post : Int32 → HW → Prop) : Prop := v_X7_ok_auto c h a0 a1 post ∨ (∃ (ah : Nat → Nat) (ag : Nat → Nat → Nat) (ar : Nat → Nat) (ps : PS) (s7 : HS), t_X7_auto s7 ps a1 = some "java/lang/IllegalArgumentException" ∧ a0 = ah 0 ∧ CA c ah ag ar ps s7 h ∧ 1 ≤ mc ∧ 6 ≤ ms ∧ post (-2000000098) h)
abbrev rm_L_auto (mc ms : Nat) : Room := { frames := 8, cells := mc, slots := ms, locals := 190 }
theorem he_L_auto : yL_auto.cls ≠ "java/lang/invoke/MethodHandle" ∧ yL_auto.cls ≠ "java/lang/invoke/VarHandle" ∧ (parseMethodDescriptor yL_auto.desc).map (fun d => d.parameters.length) = some 2 := by decide +kernel
set_option maxHeartbeats 4000000 in
set_option maxRecDepth 100000 in
theorem h_L_auto (l : Launch) (hl0 : l.stackTraces = false) (G : va_G) (K : (Nat → Nat) × (Nat → Nat)) (c : Nat → ClassId) (h : HW) (a0 : Nat) (a1 : Int32) (mc ms : Nat) (post : Int32 → HW → Prop) (hm : w_L_auto c K h a0 a1 mc ms post) : hMi l yL_auto wsL_auto (rm_L_auto mc ms) G K (TY c) [.ref a0, .int a1] h mc ms post := by
  refine hMi.ofx (cc := cL_auto) (maxL := 3) (hh := [(0, 5, 6, 40)]) (lv := [(0, .ref a0), (1, .int a1)]) (by decide) rfl (Nat.le_of_ble_eq_true rfl) rfl ?_
  intro p e s m args below meth c1 A Q H locs hx hb hml htab hown hts hK hN hZ hXX hP hD hA hS hend ls hl
  have hown : s.vm.findClass RL = some m.cls := hown
  refine lv_aload_n hx hb dL_auto_0 rfl (lv_at hl 0 rfl) ?_
  refine lv_iload_n hx hb dL_auto_1 rfl (lv_at hl 1 rfl) ?_
  rcases hm with hm | hm
  · obtain ⟨w0, fs0, hq0⟩ : ∃ w fs, h a0 = some (w, .inr (7, fs)) := by
      obtain ⟨ah, ag, ar, ps, s7, r, s7_r, ps_r, hf, rfl, hC, hp⟩ := hm
      exact hC.recv
    refine hcVi (As := [.int a1]) (rest := []) ⟨hx, hb, hml, hown, hts⟩ (hok_auto l G K c h a0 a1 _ hm) (cwV 1 hts gL_auto_X7_auto rfl rfl rfl (by decide +kernel) ⟨Nat.le_of_ble_eq_true rfl, Nat.le_of_ble_eq_true rfl⟩) hK hN hZ hXX hP hD hS hA (mr_recv hK (mRd hK hP hZ hS) (ci := 7) rfl hq0) rfl hl.1 rfl (Nat.le_of_ble_eq_true rfl) dL_auto_2 ⟨Nat.zero_le _, Nat.zero_le _⟩ (fun r1 h1 H locs hm hP hD hS => ?_)
    exact hend H locs ls _ _ _ r1 h1 (Nat.zero_le _) (Nat.zero_le _) hm hP hD hS dL_auto_5
  · obtain ⟨ah, ag, ar, ps, s7, hf, rfl, hC, hc1, hc6, hp⟩ := hm
    obtain ⟨w0, fs0, hq0⟩ := hC.recv
    refine hcXVi (As := [.int a1]) (rest := []) ⟨hx, hb, hml, hown, hts⟩ (hXi_z (tk_X7_auto l hl0 G K c ah ag ar s7 ps a1 "java/lang/IllegalArgumentException" hf) hC.1 hC.2) (cwV 1 hts gL_auto_X7_auto rfl rfl rfl (by decide +kernel) ⟨Nat.le_of_ble_eq_true rfl, Nat.le_of_ble_eq_true rfl⟩) hK hN hZ hXX hP hD hS hA (mr_recv hK (mRd hK hP hZ hS) (ci := 7) rfl hq0) rfl hl.1 rfl (Nat.le_of_ble_eq_true rfl) dL_auto_2 ⟨by show 0 + 1 ≤ mc; omega, by show 0 + 6 ≤ ms; omega⟩ (fun H locs q ce hP hD hS hq hce hcl => ?_)
    refine vx_catch (own := RL) (name := "java/lang/IllegalArgumentException") (E := "java/lang/IllegalArgumentException") hown [] ⟨0, 5, 6, 40⟩ [] (htab.trans rfl) (fun z hz => absurd hz List.not_mem_nil) (by decide) (by decide) (hts (.classLink RL 40 "java/lang/IllegalArgumentException") (List.mem_of_getElem? (i := 1) rfl)) (hXX.2.1.b (E := "java/lang/IllegalArgumentException") (List.mem_of_getElem? (i := 0) rfl) (.castable "java/lang/IllegalArgumentException" "java/lang/IllegalArgumentException") List.mem_cons_self) hq hce hcl ?_
    refine lv_astore_n (lv' := [(2, .ref q), (0, .ref (ah 0)), (1, .int a1)]) hx hb dL_auto_6 rfl hl (by decide) rfl (fun ls hl => ?_)
    refine lv_ldc (v := -2000000098) hx hb hown (hts (.constant RL 42 (-2000000098)) (List.mem_of_getElem? (i := 2) rfl)) dL_auto_7 ?_
    exact hend H locs ls _ _ _ _ h (by show 0 + 1 ≤ mc; omega) (by show 0 + 6 ≤ ms; omega) hp hP hD hS dL_auto_9
def v_X7_ok_deal (c : Nat → ClassId) (h : HW) (a0 : Nat) (a1 : Int32) (a2 : Int32) (post : Int32 → HW → Prop) : Prop := ∃ (ah : Nat → Nat) (ag : Nat → Nat → Nat) (ar : Nat → Nat) (ps : PS) (s7 : HS) (r : Int32) (s7_r : HS), f_X7_deal s7 a1 a2 = some (r, s7_r) ∧ a0 = ah 0 ∧ CA c ah ag ar ps s7 h ∧ (∀ h1 : HW, hNx h (wH c ah ag ar ps s7) (wH c ah ag ar ps s7_r) h1 → post r h1)
theorem hok_deal (l : Launch) (G : va_G) (K : (Nat → Nat) × (Nat → Nat)) (c : Nat → ClassId) (h : HW) (a0 : Nat) (a1 : Int32) (a2 : Int32) (post : Int32 → HW → Prop) (hm : v_X7_ok_deal c h a0 a1 a2 post) : hMi l yX7_deal wsX7_deal rm_X7_deal G K (TY c) [.ref a0, .int a1, .int a2] h 0 0 post := by
  obtain ⟨ah, ag, ar, ps, s7, r, s7_r, hf, rfl, hC, hp⟩ := hm
  exact hMi_z (k_X7_deal l G K c ah ag ar ps s7 a1 a2 r s7_r hf) hC.1 hC.2 (fun h1 q => hp h1 q)
def w_L_deal (c : Nat → ClassId) (K : (Nat → Nat) × (Nat → Nat)) (h : HW) (a0 : Nat) (a1 : Int32) (a2 : Int32) (mc ms : Nat) (post : Int32 → HW → Prop) : Prop := v_X7_ok_deal c h a0 a1 a2 post ∨ (∃ (ah : Nat → Nat) (ag : Nat → Nat → Nat) (ar : Nat → Nat) (ps : PS) (s7 : HS), t_X7_deal s7 a1 a2 = some "java/lang/IllegalArgumentException" ∧ a0 = ah 0 ∧ CA c ah ag ar ps s7 h ∧ 1 ≤ mc ∧ 6 ≤ ms ∧ post (-2000000098) h) ∨ (∃ (ah : Nat → Nat) (ag : Nat → Nat → Nat) (ar : Nat → Nat) (ps : PS) (s7 : HS), t_X7_deal s7 a1 a2 = some "java/lang/IllegalStateException" ∧ a0 = ah 0 ∧ CA c ah ag ar ps s7 h ∧ 1 ≤ mc ∧ 6 ≤ ms ∧ post (-2000000099) h)
abbrev rm_L_deal (mc ms : Nat) : Room := { frames := 8, cells := mc, slots := ms, locals := 146 }
theorem he_L_deal : yL_deal.cls ≠ "java/lang/invoke/MethodHandle" ∧ yL_deal.cls ≠ "java/lang/invoke/VarHandle" ∧ (parseMethodDescriptor yL_deal.desc).map (fun d => d.parameters.length) = some 3 := by decide +kernel
set_option maxHeartbeats 4000000 in
set_option maxRecDepth 100000 in
theorem h_L_deal (l : Launch) (hl0 : l.stackTraces = false) (G : va_G) (K : (Nat → Nat) × (Nat → Nat)) (c : Nat → ClassId) (h : HW) (a0 : Nat) (a1 : Int32) (a2 : Int32) (mc ms : Nat) (post : Int32 → HW → Prop) (hm : w_L_deal c K h a0 a1 a2 mc ms post) : hMi l yL_deal wsL_deal (rm_L_deal mc ms) G K (TY c) [.ref a0, .int a1, .int a2] h mc ms post := by
  refine hMi.ofx (cc := cL_deal) (maxL := 4) (hh := [(0, 6, 7, 40), (0, 6, 11, 83)]) (lv := [(0, .ref a0), (1, .int a1), (2, .int a2)]) (by decide) rfl (Nat.le_of_ble_eq_true rfl) rfl ?_
  intro p e s m args below meth c1 A Q H locs hx hb hml htab hown hts hK hN hZ hXX hP hD hA hS hend ls hl
  have hown : s.vm.findClass RL = some m.cls := hown
  refine lv_aload_n hx hb dL_deal_0 rfl (lv_at hl 0 rfl) ?_
  refine lv_iload_n hx hb dL_deal_1 rfl (lv_at hl 1 rfl) ?_
  refine lv_iload_n hx hb dL_deal_2 rfl (lv_at hl 2 rfl) ?_
  rcases hm with hm | hm | hm
  · obtain ⟨w0, fs0, hq0⟩ : ∃ w fs, h a0 = some (w, .inr (7, fs)) := by
      obtain ⟨ah, ag, ar, ps, s7, r, s7_r, hf, rfl, hC, hp⟩ := hm
      exact hC.recv
    refine hcVi (As := [.int a1, .int a2]) (rest := []) ⟨hx, hb, hml, hown, hts⟩ (hok_deal l G K c h a0 a1 a2 _ hm) (cwV 2 hts gL_deal_X7_deal rfl rfl rfl (by decide +kernel) ⟨Nat.le_of_ble_eq_true rfl, Nat.le_of_ble_eq_true rfl⟩) hK hN hZ hXX hP hD hS hA (mr_recv hK (mRd hK hP hZ hS) (ci := 7) rfl hq0) rfl hl.1 rfl (Nat.le_of_ble_eq_true rfl) dL_deal_3 ⟨Nat.zero_le _, Nat.zero_le _⟩ (fun r1 h1 H locs hm hP hD hS => ?_)
    exact hend H locs ls _ _ _ r1 h1 (Nat.zero_le _) (Nat.zero_le _) hm hP hD hS dL_deal_6
  · obtain ⟨ah, ag, ar, ps, s7, hf, rfl, hC, hc1, hc6, hp⟩ := hm
    obtain ⟨w0, fs0, hq0⟩ := hC.recv
    refine hcXVi (As := [.int a1, .int a2]) (rest := []) ⟨hx, hb, hml, hown, hts⟩ (hXi_z (tk_X7_deal l hl0 G K c ah ag ar ps s7 a1 a2 "java/lang/IllegalArgumentException" hf) hC.1 hC.2) (cwV 2 hts gL_deal_X7_deal rfl rfl rfl (by decide +kernel) ⟨Nat.le_of_ble_eq_true rfl, Nat.le_of_ble_eq_true rfl⟩) hK hN hZ hXX hP hD hS hA (mr_recv hK (mRd hK hP hZ hS) (ci := 7) rfl hq0) rfl hl.1 rfl (Nat.le_of_ble_eq_true rfl) dL_deal_3 ⟨by show 0 + 1 ≤ mc; omega, by show 0 + 6 ≤ ms; omega⟩ (fun H locs q ce hP hD hS hq hce hcl => ?_)
    refine vx_catch (own := RL) (name := "java/lang/IllegalArgumentException") (E := "java/lang/IllegalArgumentException") hown [] ⟨0, 6, 7, 40⟩ [⟨0, 6, 11, 83⟩] (htab.trans rfl) (fun z hz => absurd hz List.not_mem_nil) (by decide) (by decide) (hts (.classLink RL 40 "java/lang/IllegalArgumentException") (List.mem_of_getElem? (i := 1) rfl)) (hXX.2.1.b (E := "java/lang/IllegalArgumentException") (List.mem_of_getElem? (i := 0) rfl) (.castable "java/lang/IllegalArgumentException" "java/lang/IllegalArgumentException") List.mem_cons_self) hq hce hcl ?_
    refine lv_astore_n (lv' := [(3, .ref q), (0, .ref (ah 0)), (1, .int a1), (2, .int a2)]) hx hb dL_deal_7 rfl hl (by decide) rfl (fun ls hl => ?_)
    refine lv_ldc (v := -2000000098) hx hb hown (hts (.constant RL 42 (-2000000098)) (List.mem_of_getElem? (i := 3) rfl)) dL_deal_8 ?_
    exact hend H locs ls _ _ _ _ h (by show 0 + 1 ≤ mc; omega) (by show 0 + 6 ≤ ms; omega) hp hP hD hS dL_deal_10
  · obtain ⟨ah, ag, ar, ps, s7, hf, rfl, hC, hc1, hc6, hp⟩ := hm
    obtain ⟨w0, fs0, hq0⟩ := hC.recv
    refine hcXVi (As := [.int a1, .int a2]) (rest := []) ⟨hx, hb, hml, hown, hts⟩ (hXi_z (tk_X7_deal l hl0 G K c ah ag ar ps s7 a1 a2 "java/lang/IllegalStateException" hf) hC.1 hC.2) (cwV 2 hts gL_deal_X7_deal rfl rfl rfl (by decide +kernel) ⟨Nat.le_of_ble_eq_true rfl, Nat.le_of_ble_eq_true rfl⟩) hK hN hZ hXX hP hD hS hA (mr_recv hK (mRd hK hP hZ hS) (ci := 7) rfl hq0) rfl hl.1 rfl (Nat.le_of_ble_eq_true rfl) dL_deal_3 ⟨by show 0 + 1 ≤ mc; omega, by show 0 + 6 ≤ ms; omega⟩ (fun H locs q ce hP hD hS hq hce hcl => ?_)
    refine vx_catch (own := RL) (name := "java/lang/IllegalStateException") (E := "java/lang/IllegalStateException") hown [⟨0, 6, 7, 40⟩] ⟨0, 6, 11, 83⟩ [] (htab.trans rfl) (fun z hz => by cases List.mem_singleton.mp hz; exact Or.inr ⟨by decide, "java/lang/IllegalArgumentException", hts (.classLink RL 40 "java/lang/IllegalArgumentException") (List.mem_of_getElem? (i := 1) rfl), hXX.2.2.1 ("java/lang/IllegalStateException", "java/lang/IllegalArgumentException") (List.mem_of_getElem? (i := 4) rfl)⟩) (by decide) (by decide) (hts (.classLink RL 83 "java/lang/IllegalStateException") (List.mem_of_getElem? (i := 2) rfl)) (hXX.2.1.b (E := "java/lang/IllegalStateException") (List.mem_of_getElem? (i := 3) rfl) (.castable "java/lang/IllegalStateException" "java/lang/IllegalStateException") List.mem_cons_self) hq hce hcl ?_
    refine lv_astore_n (lv' := [(3, .ref q), (0, .ref (ah 0)), (1, .int a1), (2, .int a2)]) hx hb dL_deal_11 rfl hl (by decide) rfl (fun ls hl => ?_)
    refine lv_ldc (v := -2000000099) hx hb hown (hts (.constant RL 85 (-2000000099)) (List.mem_of_getElem? (i := 4) rfl)) dL_deal_12 ?_
    exact hend H locs ls _ _ _ _ h (by show 0 + 1 ≤ mc; omega) (by show 0 + 6 ≤ ms; omega) hp hP hD hS dL_deal_14
def w_X7_init (c : Nat → ClassId) (K : (Nat → Nat) × (Nat → Nat)) (h : HW) (a0 : Nat) (mc ms : Nat) (post : HW → Prop) : Prop := ∃ (hf : Nat → Int32) (gd : GS), f_J7_fill_53178 100 (fun _ => 0) (-1) = some hf ∧ f_X1_dealRound (g0 hf) = some gd ∧ h a0 = some (true, .inr (7, [.null, .null, .null, .int 0, .int 0, .null, .null])) ∧ 120 ≤ mc ∧ 16666 ≤ ms ∧ ∀ (a : Nat → Nat) (h1 : HW), a 0 = a0 → hNx h [(a0, .inr (7, [.null, .null, .null, .int 0, .int 0, .null, .null]))] (wH c a (fun j k => a (7 + 10 * j + k)) (fun k => a (107 + k)) [] (h0 hf gd)) h1 → post h1
theorem hMv_zA {l : Launch} {y : MethodName} {ws : List Cond} {rm : Room} {G : va_G} {K : (Nat → Nat) × (Nat → Nat)} {tys : List (ClassId × FieldType)} {av : List Value} {W0 : va_W} {W1 : (Nat → Nat) → va_W} {ok : (Nat → Nat) → Prop} {mc ms : Nat} {h : HW} {post : HW → Prop} (hM : zAv l y ws rm G K tys av W0 W1 ok mc ms) (hh : hHas h W0) (hD : va_D (fun _ => True) W0) (hp : ∀ (a : Nat → Nat) (h1 : HW), ok a → hNx h W0 (W1 a) h1 → post h1) : hMv l y ws rm G K tys av h mc ms post := by
  intro sz
  refine MetFree.mono (hM sz) (fun a s q => ?_) (fun _ _ _ _ _ _ => trivial) (fun a s o t hq q => ?_)
  · obtain ⟨q0, q1, q2, q3, q4, qz, q5⟩ := mPc_z hh hD q
    exact ⟨q0, q1, q2, q3, q4, qz, q5, q.2.2.2.2.2.2.1⟩
  · obtain ⟨⟨⟨u, ho, hv, hP1, hD1⟩, hF⟩, L, hE, hL⟩ := q
    obtain ⟨q0, rfl, q2, q3, q4, qz, q5⟩ := hq
    obtain ⟨k1, k2, k3⟩ := hM_key q2 hh hF hP1 hD1
    exact ⟨⟨⟨_, ho, hp _ _ hv k1, k2, k3⟩, hF.1, fun x hx hn => hF.2 x hx fun h9 => hn (hA_sub hh _ h9)⟩, L, hE, fun x hx => hA_sub hh _ (hL x hx)⟩
theorem hMv.up {l : Launch} {y : MethodName} {ws : List Cond} {R rm : Room} {G : va_G} {K : (Nat → Nat) × (Nat → Nat)} {tys : List (ClassId × FieldType)} {av : List Value} {h : HW} {post : HW → Prop} {mc ms : Nat} (hR : R = rm) (q : hMv l y ws rm G K tys av h mc ms post) : hMv l y ws R G K tys av h mc ms post := by rw [hR]; exact q
theorem he_X7_init : yX7_init.cls ≠ "java/lang/invoke/MethodHandle" ∧ yX7_init.cls ≠ "java/lang/invoke/VarHandle" ∧ (parseMethodDescriptor yX7_init.desc).map (fun d => d.parameters.length) = some 0 := by decide +kernel
theorem h_X7_init (l : Launch) (G : va_G) (K : (Nat → Nat) × (Nat → Nat)) (c : Nat → ClassId) (h : HW) (a0 : Nat) (post : HW → Prop) (hm : w_X7_init c K h a0 120 16666 post) : hMv l yX7_init wsX7_init rm_X7_init G K (TY c) [.ref a0] h 120 16666 post := by
  obtain ⟨hf, gd, h1, h2, h3, -, -, h4⟩ := hm
  refine hMv_zA (k_X7_init l G K c a0 hf h1 gd h2) (fun k a e hk => ?_) ⟨fun i j p q h5 h6 _ => ?_, fun _ _ _ => trivial⟩ (fun a h1 h5 h6 => h4 a h1 h5 h6)
  · match k, hk with
    | 0, hk => cases hk; exact h3
    | k + 1, hk => simp at hk
  · have h7 : i < 1 := (List.getElem?_eq_some_iff.mp h5).1
    have h8 : j < 1 := (List.getElem?_eq_some_iff.mp h6).1
    omega
