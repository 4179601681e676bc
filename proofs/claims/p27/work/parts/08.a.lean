/-! walks of the law's own methods over maps -/
def w_X9_init (c : Nat → ClassId) (K : (Nat → Nat) × (Nat → Nat)) (h : HW) (a0 : Nat) (a1 : Int32) (post : HW → Prop) : Prop :=
  pV h a0 9 0 (.int a1) (fun (h6 : HW) => post h6)

abbrev rm_X9_init : Room := { frames := 1, cells := 0, slots := 0, locals := 80 }
theorem he_X9_init : yX9_init.cls ≠ "java/lang/invoke/MethodHandle" ∧ yX9_init.cls ≠ "java/lang/invoke/VarHandle" ∧ (parseMethodDescriptor yX9_init.desc).map (fun d => d.parameters.length) = some 1 := by decide +kernel
theorem heV_X9_init : yX9_init.cls = RX9 ∧ yX9_init.cls ≠ "java/lang/invoke/MethodHandle" ∧ yX9_init.cls ≠ "java/lang/invoke/VarHandle" ∧ (parseMethodDescriptor yX9_init.desc).map (fun d => d.parameters.length) = some 1 := by decide +kernel
set_option maxHeartbeats 4000000 in
set_option maxRecDepth 100000 in
theorem h_X9_init (l : Launch) (G : va_G) (K : (Nat → Nat) × (Nat → Nat)) (c : Nat → ClassId) (h : HW) (a0 : Nat) (a1 : Int32) (post : HW → Prop) (hm : w_X9_init c K h a0 a1 post) : hMv l yX9_init wsX9_init (rm_X9_init) G K (TY c) [.ref a0, .int a1] h 0 0 post := by
  refine hMv.of (cc := cX9_init) (maxL := 2) (lv := [(0, .ref a0), (1, .int a1)]) (by decide) rfl (Nat.le_of_ble_eq_true rfl) rfl ?_
  intro p e s m args below meth c1 A Q H locs hx hb hml hown hmn hts hK hN hZ hXX hP hD hA hS hend ls hl
  have hown : s.vm.findClass RX9 = some m.cls := hown
  have hi_9 : ∀ w ∈ u_ws RX9 TX9 1, w ∈ wsX9_init := fun w h => (fun w h => List.mem_cons_of_mem _ (List.mem_append_right _ (h))) w h
  unfold w_X9_init at hm
  refine lv_aload_n hx hb dX9_init_0 rfl (lv_at hl 0 rfl) ?_
  refine W.objInit hx hb hown (hts (.methodLink RX9 1 objectInit) ((List.mem_of_getElem? (i := 1) rfl))) (hts (.instanceMethod objectInit) ((List.mem_of_getElem? (i := 2) rfl))) (hts (.code objectInit ⟨#[0xb1]⟩ 1 none) ((List.mem_of_getElem? (i := 3) rfl))) rfl (hl.1.trans hml.symm) rfl dX9_init_1 (Nat.le_of_ble_eq_true rfl) (Nat.le_of_ble_eq_true rfl) ?_
  show W p l e _ s m args below meth c1 _ _ _ _ _ (F0 m 4 ls [])
  refine lv_aload_n hx hb dX9_init_4 rfl (lv_at hl 0 rfl) ?_
  refine lv_iload_n hx hb dX9_init_5 rfl (lv_at hl 1 rfl) ?_
  obtain ⟨fs6, hq6, hl6, hm⟩ := hm
  refine mr_put (v := .int a1) (ci := 9) (C := RX9) (T := TX9) (N := 1) hx hb hts hi_9 tyX9 (fun k hk => tyX9_ok k (Nat.lt_of_lt_of_le hk (by decide))) (fun a ha b hb => nmX9 a (Nat.lt_of_lt_of_le ha (by decide)) b (Nat.lt_of_lt_of_le hb (by decide))) hown hK hP hD hS hq6 rfl 0 (by decide) (hts (.fieldLink RX9 7 "HubTrainsLaw$Random" "seed" "I") ((List.mem_of_getElem? (i := 4) rfl))) (fun _ h9 => h9) rfl (tyX9_ok 0 (by decide)) rfl rfl hl6 dX9_init_6 (fun H locs hP hD hS => ?_)
  generalize hup h a0 (.inr (9, fs6.set 0 (.int a1))) = h6 at hm hP hD
  exact hend H locs ls 9 _ _ h6 (Nat.le_refl _) (Nat.le_refl _) hm hP hD hS dX9_init_9

def w_X9_below (c : Nat → ClassId) (K : (Nat → Nat) × (Nat → Nat)) (h : HW) (a0 : Nat) (a1 : Int32) (post : Int32 → HW → Prop) : Prop :=
  gI h a0 9 0 (fun (g4 : Int32) => ∀ x7 : Int32, x7 = (1103515245 : Int32) * g4 → (∀ x11 : Int32, x11 = x7 + (12345 : Int32) → (pV h a0 9 0 (.int x11) (fun (h12 : HW) => gI h12 a0 9 0 (fun (g16 : Int32) => ∀ x21 : Int32, x21 = (g16.toUInt32 >>> ((16 : Int32).toUInt32 &&& Int32.toUInt32 31)).toInt32 → (¬ a1 = 0 ∧ (∀ x23 : Int32, x23 = x21 - x21 / a1 * a1 → (post x23 h12))))))))

abbrev rm_X9_below : Room := { frames := 0, cells := 0, slots := 0, locals := 0 }
theorem he_X9_below : yX9_below.cls ≠ "java/lang/invoke/MethodHandle" ∧ yX9_below.cls ≠ "java/lang/invoke/VarHandle" ∧ (parseMethodDescriptor yX9_below.desc).map (fun d => d.parameters.length) = some 1 := by decide +kernel
theorem heV_X9_below : yX9_below.cls = RX9 ∧ yX9_below.cls ≠ "java/lang/invoke/MethodHandle" ∧ yX9_below.cls ≠ "java/lang/invoke/VarHandle" ∧ (parseMethodDescriptor yX9_below.desc).map (fun d => d.parameters.length) = some 1 := by decide +kernel
set_option maxHeartbeats 4000000 in
set_option maxRecDepth 100000 in
theorem h_X9_below (l : Launch) (G : va_G) (K : (Nat → Nat) × (Nat → Nat)) (c : Nat → ClassId) (h : HW) (a0 : Nat) (a1 : Int32) (post : Int32 → HW → Prop) (hm : w_X9_below c K h a0 a1 post) : hMi l yX9_below wsX9_below (rm_X9_below) G K (TY c) [.ref a0, .int a1] h 0 0 post := by
  refine hMi.of (cc := cX9_below) (maxL := 2) (lv := [(0, .ref a0), (1, .int a1)]) (by decide) rfl (Nat.le_of_ble_eq_true rfl) rfl ?_
  intro p e s m args below meth c1 A Q H locs hx hb hml hown hmn hts hK hN hZ hXX hP hD hA hS hend ls hl
  have hown : s.vm.findClass RX9 = some m.cls := hown
  have hi_9 : ∀ w ∈ u_ws RX9 TX9 1, w ∈ wsX9_below := fun w h => (fun w h => List.mem_cons_of_mem _ (List.mem_append_right _ (h))) w h
  unfold w_X9_below at hm
  refine lv_aload_n hx hb dX9_below_0 rfl (lv_at hl 0 rfl) ?_
  refine lv_ldc (v := 1103515245) hx hb hown (hts (.constant RX9 13 (1103515245)) ((List.mem_of_getElem? (i := 1) rfl))) dX9_below_1 ?_
  refine lv_aload_n hx hb dX9_below_3 rfl (lv_at hl 0 rfl) ?_
  obtain ⟨wq4, fs4, g4, hq4, hv4, hm⟩ := hm
  refine mr_get (ci := 9) (C := RX9) (T := TX9) (N := 1) hx hb hts hi_9 hown hK (mRd hK hP hZ hS) hq4 rfl 0 (by decide) (hts (.fieldLink RX9 7 "HubTrainsLaw$Random" "seed" "I") ((List.mem_of_getElem? (i := 2) rfl))) (fun _ h9 => h9) hv4 dX9_below_4 ?_
  refine lv_imul hx hb dX9_below_7 ?_
  refine lv_topi (fun x7 ex7 => ?_)
  have hm := hm x7 ex7
  refine lv_sipush (v := 12345) hx hb dX9_below_8 (by decide) ?_
  refine lv_iadd hx hb dX9_below_11 ?_
  refine lv_topi (fun x11 ex11 => ?_)
  have hm := hm x11 ex11
  obtain ⟨fs12, hq12, hl12, hm⟩ := hm
  refine mr_put (v := .int x11) (ci := 9) (C := RX9) (T := TX9) (N := 1) hx hb hts hi_9 tyX9 (fun k hk => tyX9_ok k (Nat.lt_of_lt_of_le hk (by decide))) (fun a ha b hb => nmX9 a (Nat.lt_of_lt_of_le ha (by decide)) b (Nat.lt_of_lt_of_le hb (by decide))) hown hK hP hD hS hq12 rfl 0 (by decide) (hts (.fieldLink RX9 7 "HubTrainsLaw$Random" "seed" "I") ((List.mem_of_getElem? (i := 2) rfl))) (fun _ h9 => h9) rfl (tyX9_ok 0 (by decide)) rfl rfl hl12 dX9_below_12 (fun H locs hP hD hS => ?_)
  generalize hup h a0 (.inr (9, fs12.set 0 (.int x11))) = h12 at hm hP hD
  refine lv_aload_n hx hb dX9_below_15 rfl (lv_at hl 0 rfl) ?_
  obtain ⟨wq16, fs16, g16, hq16, hv16, hm⟩ := hm
  refine mr_get (ci := 9) (C := RX9) (T := TX9) (N := 1) hx hb hts hi_9 hown hK (mRd hK hP hZ hS) hq16 rfl 0 (by decide) (hts (.fieldLink RX9 7 "HubTrainsLaw$Random" "seed" "I") ((List.mem_of_getElem? (i := 2) rfl))) (fun _ h9 => h9) hv16 dX9_below_16 ?_
  refine lv_bipush (v := 16) hx hb dX9_below_19 (by decide) ?_
  refine lv_iushr hx hb dX9_below_21 rfl ?_
  refine lv_topi (fun x21 ex21 => ?_)
  have hm := hm x21 ex21
  refine lv_iload_n hx hb dX9_below_22 rfl (lv_at hl 1 rfl) ?_
  obtain ⟨hnz23, hm⟩ := hm
  refine lv_irem hx hb dX9_below_23 hnz23 ?_
  refine lv_topi (fun x23 ex23 => ?_)
  have hm := hm x23 ex23
  exact hend H locs ls 24 _ _ x23 h12 (Nat.le_refl _) (Nat.le_refl _) rfl hm hP hD hS dX9_below_24

def w_L_with_B9 (c : Nat → ClassId) (K : (Nat → Nat) × (Nat → Nat)) (a0 : Nat) (a1 : Int32) (post : Option Nat → HW → Prop) (q4 : Nat) (rec_9 : HW → Nat → Nat → Int32 → Prop) (h_9 : HW) (mc_9 : Nat) (ms_9 : Nat) (v3_9 : Int32) : Prop :=
  lenA h_9 (c 0) a0 (fun (x11 : Int32) => (x11 ≤ v3_9 → lenA h_9 (c 0) a0 (fun (x29 : Int32) => stI h_9 (c 0) q4 x29 a1 (fun (h31 : HW) => post (some q4) h31))) ∧ (¬ x11 ≤ v3_9 → lI h_9 (c 0) a0 v3_9 (fun (x19 : Int32) => stI h_9 (c 0) q4 v3_9 x19 (fun (h20 : HW) => ∀ x21 : Int32, x21 = (v3_9 + 1) → (rec_9 h20 mc_9 ms_9 x21)))))

def w_L_with (c : Nat → ClassId) (K : (Nat → Nat) × (Nat → Nat)) (h : HW) (a0 : Nat) (a1 : Int32) (mc ms : Nat) (post : Option Nat → HW → Prop) : Prop :=
  lenA h (c 0) a0 (fun (x1 : Int32) => ∀ x3 : Int32, x3 = x1 + (1 : Int32) → (nwI h (c 0) x3 mc ms (fun (q4 : Nat) (h4 : HW) (mB4 zB4 : Nat) => ∃ n_9 : Nat, itP4 (w_L_with_B9 c K a0 a1 post q4) n_9 h4 mB4 zB4 (0 : Int32))))

abbrev rm_L_with (mc ms : Nat) : Room := { frames := 0, cells := mc, slots := ms, locals := 0 }
theorem he_L_with : yL_with.cls ≠ "java/lang/invoke/MethodHandle" ∧ yL_with.cls ≠ "java/lang/invoke/VarHandle" ∧ (parseMethodDescriptor yL_with.desc).map (fun d => d.parameters.length) = some 2 := by decide +kernel
theorem heV_L_with : yL_with.cls = RL ∧ yL_with.cls ≠ "java/lang/invoke/MethodHandle" ∧ yL_with.cls ≠ "java/lang/invoke/VarHandle" ∧ (parseMethodDescriptor yL_with.desc).map (fun d => d.parameters.length) = some 2 := by decide +kernel
set_option maxHeartbeats 4000000 in
set_option maxRecDepth 100000 in
theorem h_L_with (l : Launch) (G : va_G) (K : (Nat → Nat) × (Nat → Nat)) (c : Nat → ClassId) (h : HW) (a0 : Nat) (a1 : Int32) (mc ms : Nat) (post : Option Nat → HW → Prop) (hm : w_L_with c K h a0 a1 mc ms post) : hMq l yL_with wsL_with (rm_L_with mc ms) G K (TY c) [.ref a0, .int a1] h mc ms post := by
  refine hMq.of (Or.inr ⟨_, rfl⟩) (cc := cL_with) (maxL := 4) (lv := [(0, .ref a0), (1, .int a1)]) (by decide) rfl (Nat.le_of_ble_eq_true rfl) rfl ?_
  intro p e s m args below meth c1 A Q H locs hx hb hml hown hmn hts hK hN hZ hXX hP hD hA hS hend ls hl
  have hown : s.vm.findClass RL = some m.cls := hown
  unfold w_L_with at hm
  have hf : 0 + mc ≤ mc ∧ 0 + ms ≤ ms := ⟨by omega, by omega⟩
  refine lv_aload_n hx hb dL_with_0 rfl (lv_at hl 0 rfl) ?_
  obtain ⟨wq1, xx1, hq1, hm⟩ := hm
  refine mr_alen hx hb hK (mRd hK hP hZ hS) 0 hq1 rfl dL_with_1 (fun x1 ex1 => ?_)
  have hm := hm x1 ex1
  refine lv_iconst (v := 1) hx hb dL_with_2 (by decide) ?_
  refine lv_iadd hx hb dL_with_3 ?_
  refine lv_topi (fun x3 ex3 => ?_)
  have hm := hm x3 ex3
  obtain ⟨hn4, hb4, mB4, zB4, hc4, hs4, hm⟩ := hm
  refine mr_newa (atype := .int) (a0 := (fun N => (N, .inl (fun _ => 0)))) hx hb (hts (.arrayClass .int) ((List.mem_of_getElem? (i := 1) rfl))) hK 0 rfl hP hD hS hA (fun _ => rfl) hn4 (c65 hb4 (by decide)) (by show 0 + 1 ≤ mc; omega) (by show 0 + _ ≤ ms; omega) dL_with_4 (fun q4 H hfr4 hP hD hS => ?_)
  have hm := hm q4 hfr4
  generalize hup h q4 (eI (c 0) x3.toNatClampNeg (fun _ => 0)) = h4 at hm hP hD
  replace hf : (0 + 1) + mB4 ≤ mc ∧ (0 + x3.toNatClampNeg) + zB4 ≤ ms := ⟨by omega, by omega⟩
  clear hc4 hs4 hb4
  refine lv_astore_n (lv' := [(2, .ref q4), (0, .ref a0), (1, .int a1)]) hx hb dL_with_6 rfl hl (by decide) rfl (fun ls hl => ?_)
  refine lv_iconst (v := 0) hx hb dL_with_7 (by decide) ?_
  refine lv_istore_n (lv' := [(3, .int (0 : Int32)), (2, .ref q4), (0, .ref a0), (1, .int a1)]) hx hb dL_with_8 rfl hl (by decide) rfl (fun ls hl => ?_)
  obtain ⟨n_9, hm⟩ := hm
  have L_9 : ∀ (n_9 : Nat) (h_9 : HW) (mc_9 : Nat) (ms_9 : Nat) (v3_9 : Int32) (cl_9 sl_9 : Nat) (H : Heap) (locs : List Loc) (ls : Array Slot), cl_9 + mc_9 ≤ mc ∧ sl_9 + ms_9 ≤ ms → mP G K h_9 H → mD A h_9 → va_S A s.heap H locs → lv_has ls 4 [(0, .ref a0), (1, .int a1), (2, .ref q4), (3, .int v3_9)] → itP4 (w_L_with_B9 c K a0 a1 post q4) n_9 h_9 mc_9 ms_9 v3_9 → W p l e (rm_L_with mc ms) s m args below meth c1 H locs cl_9 sl_9 Q (F0 m 9 ls []) := by
    intro n_9
    induction n_9 with
    | zero => intro h_9 mc_9 ms_9 v3_9 cl_9 sl_9 H locs ls hf hP hD hS hl hm; exact hm.elim
    | succ n_9 ih_9 =>
      intro h_9 mc_9 ms_9 v3_9 cl_9 sl_9 H locs ls hf hP hD hS hl hm
      have hm : (w_L_with_B9 c K a0 a1 post q4) (itP4 (w_L_with_B9 c K a0 a1 post q4) n_9) h_9 mc_9 ms_9 v3_9 := hm
      generalize itP4 (w_L_with_B9 c K a0 a1 post q4) n_9 = rec_9 at hm ih_9
      unfold w_L_with_B9 at hm
      refine lv_iload_n hx hb dL_with_9 rfl (lv_at hl 3 rfl) ?_
      refine lv_aload_n hx hb dL_with_10 rfl (lv_at hl 0 rfl) ?_
      obtain ⟨wq11, xx11, hq11, hm⟩ := hm
      refine mr_alen hx hb hK (mRd hK hP hZ hS) 0 hq11 rfl dL_with_11 (fun x11 ex11 => ?_)
      have hm := hm x11 ex11
      refine lv_icmp_ge (tgt := 27) hx hb dL_with_12 (by decide) (fun c_12 => ?_) (fun c_12 => ?_)
      · have hm := hm.1 c_12
        refine lv_aload_n hx hb dL_with_27 rfl (lv_at hl 2 rfl) ?_
        refine lv_aload_n hx hb dL_with_28 rfl (lv_at hl 0 rfl) ?_
        obtain ⟨wq29, xx29, hq29, hm⟩ := hm
        refine mr_alen hx hb hK (mRd hK hP hZ hS) 0 hq29 rfl dL_with_29 (fun x29 ex29 => ?_)
        have hm := hm x29 ex29
        refine lv_iload_n hx hb dL_with_30 rfl (lv_at hl 1 rfl) ?_
        obtain ⟨n31, f31, hq31, hi31, hm⟩ := hm
        refine mr_iast hx hb hK hP hD hS 0 hq31 rfl hi31 dL_with_31 (fun H locs hP hD hS => ?_)
        generalize hup h_9 q4 (eI (c 0) n31 (upd f31 x29.toNatClampNeg a1)) = h31 at hm hP hD
        refine lv_aload_n hx hb dL_with_32 rfl (lv_at hl 2 rfl) ?_
        exact hend H locs ls 33 _ _ (some q4) h31 (by omega) (by omega) hm hP hD hS dL_with_33
      · have hm := hm.2 c_12
        refine lv_aload_n hx hb dL_with_15 rfl (lv_at hl 2 rfl) ?_
        refine lv_iload_n hx hb dL_with_16 rfl (lv_at hl 3 rfl) ?_
        refine lv_aload_n hx hb dL_with_17 rfl (lv_at hl 0 rfl) ?_
        refine lv_iload_n hx hb dL_with_18 rfl (lv_at hl 3 rfl) ?_
        obtain ⟨wq19, n19, f19, hq19, hi19, hm⟩ := hm
        refine mr_iald hx hb hK (mRd hK hP hZ hS) 0 hq19 rfl hi19 dL_with_19 (fun x19 ex19 => ?_)
        have hm := hm x19 ex19
        obtain ⟨n20, f20, hq20, hi20, hm⟩ := hm
        refine mr_iast hx hb hK hP hD hS 0 hq20 rfl hi20 dL_with_20 (fun H locs hP hD hS => ?_)
        generalize hup h_9 q4 (eI (c 0) n20 (upd f20 v3_9.toNatClampNeg x19)) = h20 at hm hP hD
        obtain ⟨x21, ex21⟩ : ∃ z : Int32, z = (v3_9 + 1) := ⟨_, rfl⟩
        have hm := hm x21 ex21
        refine lv_iinc (k := 3) (v := x21) (lv' := [(3, .int x21), (0, .ref a0), (1, .int a1), (2, .ref q4)]) hx hb dL_with_21 hl rfl ex21.symm (by decide) rfl (fun ls hl => ?_)
        refine lv_goto (tgt := 9) hx hb dL_with_24 (by decide) ?_
        exact ih_9 h20 mc_9 ms_9 x21 cl_9 sl_9 H locs ls ⟨by omega, by omega⟩ hP hD hS (lv_sub hl [1, 2, 3, 0] rfl) hm
  exact L_9 n_9 h4 mB4 zB4 (0 : Int32) (0 + 1) (0 + x3.toNatClampNeg) H locs ls ⟨by omega, by omega⟩ hP hD hS (lv_sub hl [2, 3, 1, 0] rfl) hm

def w_L_without_J39 (c : Nat → ClassId) (K : (Nat → Nat) × (Nat → Nat)) (rec_13 : HW → Nat → Nat → Nat → Int32 → Prop) (v5_13 : Int32) (h_39 : HW) (mc_39 ms_39 : Nat) (v2_39 : Nat) : Prop :=
  ∀ x39 : Int32, x39 = (v5_13 + 1) → (rec_13 h_39 mc_39 ms_39 v2_39 x39)

def w_L_without_B13 (c : Nat → ClassId) (K : (Nat → Nat) × (Nat → Nat)) (a0 : Nat) (a1 : Int32) (post : Option Nat → HW → Prop) (x7 : Int32) (rec_13 : HW → Nat → Nat → Nat → Int32 → Prop) (h_13 : HW) (mc_13 : Nat) (ms_13 : Nat) (v2_13 : Nat) (v5_13 : Int32) : Prop :=
  (x7 ≤ v5_13 → post (some v2_13) h_13) ∧ (¬ x7 ≤ v5_13 → lI h_13 (c 0) a0 v5_13 (fun (x23 : Int32) => (x23 = a1 → w_L_without_J39 c K rec_13 v5_13 h_13 mc_13 ms_13 v2_13) ∧ (¬ x23 = a1 → (∃ m35 z35 mB35 zB35 : Nat, mc_13 = m35 + mB35 ∧ ms_13 = z35 + zB35 ∧ w_L_with c K h_13 v2_13 x23 m35 z35 (fun (r35 : Option Nat) (h35 : HW) => dRf r35 (fun (a35 : Nat) => w_L_without_J39 c K rec_13 v5_13 h35 mB35 zB35 a35))))))

def w_L_without (c : Nat → ClassId) (K : (Nat → Nat) × (Nat → Nat)) (h : HW) (a0 : Nat) (a1 : Int32) (mc ms : Nat) (post : Option Nat → HW → Prop) : Prop :=
  nwI h (c 0) (0 : Int32) mc ms (fun (q1 : Nat) (h1 : HW) (mB1 zB1 : Nat) => lenA h1 (c 0) a0 (fun (x7 : Int32) => ∃ n_13 : Nat, itP5 (w_L_without_B13 c K a0 a1 post x7) n_13 h1 mB1 zB1 q1 (0 : Int32)))

abbrev rm_L_without (mc ms : Nat) : Room := { frames := 1, cells := mc, slots := ms, locals := 23 }
theorem he_L_without : yL_without.cls ≠ "java/lang/invoke/MethodHandle" ∧ yL_without.cls ≠ "java/lang/invoke/VarHandle" ∧ (parseMethodDescriptor yL_without.desc).map (fun d => d.parameters.length) = some 2 := by decide +kernel
theorem heV_L_without : yL_without.cls = RL ∧ yL_without.cls ≠ "java/lang/invoke/MethodHandle" ∧ yL_without.cls ≠ "java/lang/invoke/VarHandle" ∧ (parseMethodDescriptor yL_without.desc).map (fun d => d.parameters.length) = some 2 := by decide +kernel
set_option maxHeartbeats 4000000 in
set_option maxRecDepth 100000 in
theorem h_L_without (l : Launch) (G : va_G) (K : (Nat → Nat) × (Nat → Nat)) (c : Nat → ClassId) (h : HW) (a0 : Nat) (a1 : Int32) (mc ms : Nat) (post : Option Nat → HW → Prop) (hm : w_L_without c K h a0 a1 mc ms post) : hMq l yL_without wsL_without (rm_L_without mc ms) G K (TY c) [.ref a0, .int a1] h mc ms post := by
  refine hMq.of (Or.inr ⟨_, rfl⟩) (cc := cL_without) (maxL := 7) (lv := [(0, .ref a0), (1, .int a1)]) (by decide) rfl (Nat.le_of_ble_eq_true rfl) rfl ?_
  intro p e s m args below meth c1 A Q H locs hx hb hml hown hmn hts hK hN hZ hXX hP hD hA hS hend ls hl
  have hown : s.vm.findClass RL = some m.cls := hown
  unfold w_L_without at hm
  have hf : 0 + mc ≤ mc ∧ 0 + ms ≤ ms := ⟨by omega, by omega⟩
  refine lv_iconst (v := 0) hx hb dL_without_0 (by decide) ?_
  obtain ⟨hn1, hb1, mB1, zB1, hc1, hs1, hm⟩ := hm
  refine mr_newa (atype := .int) (a0 := (fun N => (N, .inl (fun _ => 0)))) hx hb (hts (.arrayClass .int) ((List.mem_of_getElem? (i := 1) rfl))) hK 0 rfl hP hD hS hA (fun _ => rfl) hn1 (c65 hb1 (by decide)) (by show 0 + 1 ≤ mc; omega) (by show 0 + _ ≤ ms; omega) dL_without_1 (fun q1 H hfr1 hP hD hS => ?_)
  have hm := hm q1 hfr1
  generalize hup h q1 (eI (c 0) (0 : Int32).toNatClampNeg (fun _ => 0)) = h1 at hm hP hD
  replace hf : (0 + 1) + mB1 ≤ mc ∧ (0 + (0 : Int32).toNatClampNeg) + zB1 ≤ ms := ⟨by omega, by omega⟩
  clear hc1 hs1 hb1
  refine lv_astore_n (lv' := [(2, .ref q1), (0, .ref a0), (1, .int a1)]) hx hb dL_without_3 rfl hl (by decide) rfl (fun ls hl => ?_)
  refine lv_aload_n hx hb dL_without_4 rfl (lv_at hl 1 rfl) ?_
  refine lv_astore_n (lv' := [(3, .ref a0), (2, .ref q1), (0, .ref a0), (1, .int a1)]) hx hb dL_without_5 rfl hl (by decide) rfl (fun ls hl => ?_)
  refine lv_aload_n hx hb dL_without_6 rfl (lv_at hl 0 rfl) ?_
  obtain ⟨wq7, xx7, hq7, hm⟩ := hm
  refine mr_alen hx hb hK (mRd hK hP hZ hS) 0 hq7 rfl dL_without_7 (fun x7 ex7 => ?_)
  have hm := hm x7 ex7
  refine lv_istore (lv' := [(4, .int x7), (3, .ref a0), (2, .ref q1), (0, .ref a0), (1, .int a1)]) hx hb dL_without_8 hl (by decide) rfl (fun ls hl => ?_)
  refine lv_iconst (v := 0) hx hb dL_without_10 (by decide) ?_
  refine lv_istore (lv' := [(5, .int (0 : Int32)), (4, .int x7), (3, .ref a0), (2, .ref q1), (0, .ref a0), (1, .int a1)]) hx hb dL_without_11 hl (by decide) rfl (fun ls hl => ?_)
  obtain ⟨n_13, hm⟩ := hm
  have L_13 : ∀ (n_13 : Nat) (h_13 : HW) (mc_13 : Nat) (ms_13 : Nat) (v2_13 : Nat) (v5_13 : Int32) (cl_13 sl_13 : Nat) (H : Heap) (locs : List Loc) (ls : Array Slot), cl_13 + mc_13 ≤ mc ∧ sl_13 + ms_13 ≤ ms → mP G K h_13 H → mD A h_13 → va_S A s.heap H locs → lv_has ls 7 [(1, .int a1), (2, .ref v2_13), (3, .ref a0), (4, .int x7), (5, .int v5_13)] → itP5 (w_L_without_B13 c K a0 a1 post x7) n_13 h_13 mc_13 ms_13 v2_13 v5_13 → W p l e (rm_L_without mc ms) s m args below meth c1 H locs cl_13 sl_13 Q (F0 m 13 ls []) := by
    intro n_13
    induction n_13 with
    | zero => intro h_13 mc_13 ms_13 v2_13 v5_13 cl_13 sl_13 H locs ls hf hP hD hS hl hm; exact hm.elim
    | succ n_13 ih_13 =>
      intro h_13 mc_13 ms_13 v2_13 v5_13 cl_13 sl_13 H locs ls hf hP hD hS hl hm
      have hm : (w_L_without_B13 c K a0 a1 post x7) (itP5 (w_L_without_B13 c K a0 a1 post x7) n_13) h_13 mc_13 ms_13 v2_13 v5_13 := hm
      generalize itP5 (w_L_without_B13 c K a0 a1 post x7) n_13 = rec_13 at hm ih_13
      unfold w_L_without_B13 at hm
      refine lv_iload hx hb dL_without_13 (lv_at hl 4 rfl) ?_
      refine lv_iload hx hb dL_without_15 (lv_at hl 3 rfl) ?_
      refine lv_icmp_ge (tgt := 45) hx hb dL_without_17 (by decide) (fun c_17 => ?_) (fun c_17 => ?_)
      · have hm := hm.1 c_17
        refine lv_aload_n hx hb dL_without_45 rfl (lv_at hl 1 rfl) ?_
        exact hend H locs ls 46 _ _ (some v2_13) h_13 (by omega) (by omega) hm hP hD hS dL_without_46
      · have hm := hm.2 c_17
        refine lv_aload_n hx hb dL_without_20 rfl (lv_at hl 2 rfl) ?_
        refine lv_iload hx hb dL_without_21 (lv_at hl 4 rfl) ?_
        obtain ⟨wq23, n23, f23, hq23, hi23, hm⟩ := hm
        refine mr_iald hx hb hK (mRd hK hP hZ hS) 0 hq23 rfl hi23 dL_without_23 (fun x23 ex23 => ?_)
        have hm := hm x23 ex23
        refine lv_istore (lv' := [(6, .int x23), (1, .int a1), (2, .ref v2_13), (3, .ref a0), (4, .int x7), (5, .int v5_13)]) hx hb dL_without_24 hl (by decide) rfl (fun ls hl => ?_)
        refine lv_iload hx hb dL_without_26 (lv_at hl 0 rfl) ?_
        refine lv_iload_n hx hb dL_without_28 rfl (lv_at hl 1 rfl) ?_
        have J_39 : ∀ (h_39 : HW) (mc_39 ms_39 : Nat) (v2_39 : Nat) (cl_39 sl_39 : Nat) (H : Heap) (locs : List Loc) (ls : Array Slot), cl_39 + mc_39 ≤ mc ∧ sl_39 + ms_39 ≤ ms → mP G K h_39 H → mD A h_39 → va_S A s.heap H locs → lv_has ls 7 [(1, .int a1), (2, .ref v2_39), (3, .ref a0), (4, .int x7), (5, .int v5_13)] → w_L_without_J39 c K rec_13 v5_13 h_39 mc_39 ms_39 v2_39 → W p l e (rm_L_without mc ms) s m args below meth c1 H locs cl_39 sl_39 Q (F0 m 39 ls []) := by
          intro h_39 mc_39 ms_39 v2_39 cl_39 sl_39 H locs ls hf hP hD hS hl hm
          unfold w_L_without_J39 at hm
          obtain ⟨x39, ex39⟩ : ∃ z : Int32, z = (v5_13 + 1) := ⟨_, rfl⟩
          have hm := hm x39 ex39
          refine lv_iinc (k := 4) (v := x39) (lv' := [(5, .int x39), (1, .int a1), (2, .ref v2_39), (3, .ref a0), (4, .int x7)]) hx hb dL_without_39 hl rfl ex39.symm (by decide) rfl (fun ls hl => ?_)
          refine lv_goto (tgt := 13) hx hb dL_without_42 (by decide) ?_
          exact ih_13 h_39 mc_39 ms_39 v2_39 x39 cl_39 sl_39 H locs ls ⟨by omega, by omega⟩ hP hD hS (lv_sub hl [1, 2, 3, 4, 0] rfl) hm
        refine lv_icmp_eq (tgt := 39) hx hb dL_without_29 (by decide) (fun c_29 => ?_) (fun c_29 => ?_)
        · have hm := hm.1 c_29
          exact J_39 h_13 mc_13 ms_13 v2_13 cl_13 sl_13 H locs ls ⟨by omega, by omega⟩ hP hD hS (lv_sub hl [1, 2, 3, 4, 5] rfl) hm
        · have hm := hm.2 c_29
          refine lv_aload_n hx hb dL_without_32 rfl (lv_at hl 2 rfl) ?_
          refine lv_iload hx hb dL_without_33 (lv_at hl 0 rfl) ?_
          obtain ⟨m35, z35, mB35, zB35, hbm35, hbs35, hm⟩ := hm
          refine hcSq (As := [.ref v2_13, .int x23]) (rest := []) ⟨hx, hb, hml, hown, hts⟩ (h_L_with l G K c h_13 v2_13 x23 m35 z35 _ hm) (va_cwS 2 hts gL_without_L_with rfl rfl rfl he_L_with ⟨Nat.le_of_ble_eq_true rfl, Nat.le_of_ble_eq_true rfl⟩) hK hN hZ hXX hP hD hS hA rfl hl.1 rfl (Nat.le_of_ble_eq_true rfl) dL_without_35 ⟨by show cl_13 + m35 ≤ mc; omega, by show sl_13 + z35 ≤ ms; omega⟩ (fun r35 h35 H locs hm hP hD hS => ?_)
          obtain ⟨a35, rfl, hm⟩ := hm
          replace hf : (cl_13 + m35) + mB35 ≤ mc ∧ (sl_13 + z35) + zB35 ≤ ms := ⟨by omega, by omega⟩
          clear hbm35 hbs35
          refine lv_astore_n (lv' := [(2, .ref a35), (6, .int x23), (1, .int a1), (3, .ref a0), (4, .int x7), (5, .int v5_13)]) hx hb dL_without_38 rfl hl (by decide) rfl (fun ls hl => ?_)
          exact J_39 h35 mB35 zB35 a35 (cl_13 + m35) (sl_13 + z35) H locs ls ⟨by omega, by omega⟩ hP hD hS (lv_sub hl [2, 0, 3, 4, 5] rfl) hm
  exact L_13 n_13 h1 mB1 zB1 q1 (0 : Int32) (0 + 1) (0 + (0 : Int32).toNatClampNeg) H locs ls ⟨by omega, by omega⟩ hP hD hS (lv_sub hl [5, 3, 2, 1, 0] rfl) hm

def w_L_has_J36 (c : Nat → ClassId) (K : (Nat → Nat) × (Nat → Nat)) (rec_11 : Int32 → Int32 → Prop) (v5_11 : Int32) (s0_36 : Int32) (s1_36 : Int32) : Prop :=
  ∀ x36 : Int32, x36 = s1_36 ||| s0_36 → (∀ x38 : Int32, x38 = (v5_11 + 1) → (rec_11 x36 x38))

def w_L_has_B11 (c : Nat → ClassId) (K : (Nat → Nat) × (Nat → Nat)) (h : HW) (a0 : Nat) (a1 : Int32) (post : Int32 → HW → Prop) (x5 : Int32) (rec_11 : Int32 → Int32 → Prop) (v2_11 : Int32) (v5_11 : Int32) : Prop :=
  (x5 ≤ v5_11 → (v2_11 = 0 ∨ v2_11 = 1) ∧ post v2_11 h) ∧ (¬ x5 ≤ v5_11 → lI h (c 0) a0 v5_11 (fun (x21 : Int32) => (x21 = a1 → w_L_has_J36 c K rec_11 v5_11 (1 : Int32) v2_11) ∧ (¬ x21 = a1 → w_L_has_J36 c K rec_11 v5_11 (0 : Int32) v2_11)))

def w_L_has (c : Nat → ClassId) (K : (Nat → Nat) × (Nat → Nat)) (h : HW) (a0 : Nat) (a1 : Int32) (post : Int32 → HW → Prop) : Prop :=
  lenA h (c 0) a0 (fun (x5 : Int32) => ∃ n_11 : Nat, itP2 (w_L_has_B11 c K h a0 a1 post x5) n_11 (0 : Int32) (0 : Int32))

abbrev rm_L_has : Room := { frames := 0, cells := 0, slots := 0, locals := 0 }
theorem he_L_has : yL_has.cls ≠ "java/lang/invoke/MethodHandle" ∧ yL_has.cls ≠ "java/lang/invoke/VarHandle" ∧ (parseMethodDescriptor yL_has.desc).map (fun d => d.parameters.length) = some 2 := by decide +kernel
theorem heV_L_has : yL_has.cls = RL ∧ yL_has.cls ≠ "java/lang/invoke/MethodHandle" ∧ yL_has.cls ≠ "java/lang/invoke/VarHandle" ∧ (parseMethodDescriptor yL_has.desc).map (fun d => d.parameters.length) = some 2 := by decide +kernel
set_option maxHeartbeats 4000000 in
set_option maxRecDepth 100000 in
theorem h_L_has (l : Launch) (G : va_G) (K : (Nat → Nat) × (Nat → Nat)) (c : Nat → ClassId) (h : HW) (a0 : Nat) (a1 : Int32) (post : Int32 → HW → Prop) (hm : w_L_has c K h a0 a1 post) : hMi l yL_has wsL_has (rm_L_has) G K (TY c) [.ref a0, .int a1] h 0 0 post := by
  refine hMi.of (cc := cL_has) (maxL := 7) (lv := [(0, .ref a0), (1, .int a1)]) (by decide) rfl (Nat.le_of_ble_eq_true rfl) rfl ?_
  intro p e s m args below meth c1 A Q H locs hx hb hml hown hmn hts hK hN hZ hXX hP hD hA hS hend ls hl
  have hown : s.vm.findClass RL = some m.cls := hown
  unfold w_L_has at hm
  refine lv_iconst (v := 0) hx hb dL_has_0 (by decide) ?_
  refine lv_istore_n (lv' := [(2, .int (0 : Int32)), (0, .ref a0), (1, .int a1)]) hx hb dL_has_1 rfl hl (by decide) rfl (fun ls hl => ?_)
  refine lv_aload_n hx hb dL_has_2 rfl (lv_at hl 1 rfl) ?_
  refine lv_astore_n (lv' := [(3, .ref a0), (2, .int (0 : Int32)), (0, .ref a0), (1, .int a1)]) hx hb dL_has_3 rfl hl (by decide) rfl (fun ls hl => ?_)
  refine lv_aload_n hx hb dL_has_4 rfl (lv_at hl 0 rfl) ?_
  obtain ⟨wq5, xx5, hq5, hm⟩ := hm
  refine mr_alen hx hb hK (mRd hK hP hZ hS) 0 hq5 rfl dL_has_5 (fun x5 ex5 => ?_)
  have hm := hm x5 ex5
  refine lv_istore (lv' := [(4, .int x5), (3, .ref a0), (2, .int (0 : Int32)), (0, .ref a0), (1, .int a1)]) hx hb dL_has_6 hl (by decide) rfl (fun ls hl => ?_)
  refine lv_iconst (v := 0) hx hb dL_has_8 (by decide) ?_
  refine lv_istore (lv' := [(5, .int (0 : Int32)), (4, .int x5), (3, .ref a0), (2, .int (0 : Int32)), (0, .ref a0), (1, .int a1)]) hx hb dL_has_9 hl (by decide) rfl (fun ls hl => ?_)
  obtain ⟨n_11, hm⟩ := hm
  have L_11 : ∀ (n_11 : Nat) (v2_11 : Int32) (v5_11 : Int32) (H : Heap) (locs : List Loc) (ls : Array Slot), mP G K h H → mD A h → va_S A s.heap H locs → lv_has ls 7 [(1, .int a1), (2, .int v2_11), (3, .ref a0), (4, .int x5), (5, .int v5_11)] → itP2 (w_L_has_B11 c K h a0 a1 post x5) n_11 v2_11 v5_11 → W p l e (rm_L_has) s m args below meth c1 H locs 0 0 Q (F0 m 11 ls []) := by
    intro n_11
    induction n_11 with
    | zero => intro v2_11 v5_11 H locs ls hP hD hS hl hm; exact hm.elim
    | succ n_11 ih_11 =>
      intro v2_11 v5_11 H locs ls hP hD hS hl hm
      have hm : (w_L_has_B11 c K h a0 a1 post x5) (itP2 (w_L_has_B11 c K h a0 a1 post x5) n_11) v2_11 v5_11 := hm
      generalize itP2 (w_L_has_B11 c K h a0 a1 post x5) n_11 = rec_11 at hm ih_11
      unfold w_L_has_B11 at hm
      refine lv_iload hx hb dL_has_11 (lv_at hl 4 rfl) ?_
      refine lv_iload hx hb dL_has_13 (lv_at hl 3 rfl) ?_
      refine lv_icmp_ge (tgt := 44) hx hb dL_has_15 (by decide) (fun c_15 => ?_) (fun c_15 => ?_)
      · have hm := hm.1 c_15
        refine lv_iload_n hx hb dL_has_44 rfl (lv_at hl 1 rfl) ?_
        obtain ⟨hz, hm⟩ := hm
        exact hend H locs ls 45 _ _ v2_11 h (Nat.le_refl _) (Nat.le_refl _) (z01_n hz) hm hP hD hS dL_has_45
      · have hm := hm.2 c_15
        refine lv_aload_n hx hb dL_has_18 rfl (lv_at hl 2 rfl) ?_
        refine lv_iload hx hb dL_has_19 (lv_at hl 4 rfl) ?_
        obtain ⟨wq21, n21, f21, hq21, hi21, hm⟩ := hm
        refine mr_iald hx hb hK (mRd hK hP hZ hS) 0 hq21 rfl hi21 dL_has_21 (fun x21 ex21 => ?_)
        have hm := hm x21 ex21
        refine lv_istore (lv' := [(6, .int x21), (1, .int a1), (2, .int v2_11), (3, .ref a0), (4, .int x5), (5, .int v5_11)]) hx hb dL_has_22 hl (by decide) rfl (fun ls hl => ?_)
        refine lv_iload_n hx hb dL_has_24 rfl (lv_at hl 2 rfl) ?_
        refine lv_iload hx hb dL_has_25 (lv_at hl 0 rfl) ?_
        refine lv_iload_n hx hb dL_has_27 rfl (lv_at hl 1 rfl) ?_
        have J_36 : ∀ (s0_36 : Int32) (s1_36 : Int32) (H : Heap) (locs : List Loc) (ls : Array Slot), mP G K h H → mD A h → va_S A s.heap H locs → lv_has ls 7 [(1, .int a1), (3, .ref a0), (4, .int x5), (5, .int v5_11)] → w_L_has_J36 c K rec_11 v5_11 s0_36 s1_36 → W p l e (rm_L_has) s m args below meth c1 H locs 0 0 Q (F0 m 36 ls [.int s0_36, .int s1_36]) := by
          intro s0_36 s1_36 H locs ls hP hD hS hl hm
          unfold w_L_has_J36 at hm
          refine lv_ior hx hb dL_has_36 ?_
          refine lv_topi (fun x36 ex36 => ?_)
          have hm := hm x36 ex36
          refine lv_istore_n (lv' := [(2, .int x36), (1, .int a1), (3, .ref a0), (4, .int x5), (5, .int v5_11)]) hx hb dL_has_37 rfl hl (by decide) rfl (fun ls hl => ?_)
          obtain ⟨x38, ex38⟩ : ∃ z : Int32, z = (v5_11 + 1) := ⟨_, rfl⟩
          have hm := hm x38 ex38
          refine lv_iinc (k := 4) (v := x38) (lv' := [(5, .int x38), (2, .int x36), (1, .int a1), (3, .ref a0), (4, .int x5)]) hx hb dL_has_38 hl rfl ex38.symm (by decide) rfl (fun ls hl => ?_)
          refine lv_goto (tgt := 11) hx hb dL_has_41 (by decide) ?_
          exact ih_11 x36 x38 H locs ls hP hD hS (lv_sub hl [2, 1, 3, 4, 0] rfl) hm
        refine lv_icmp_ne (tgt := 35) hx hb dL_has_28 (by decide) (fun c_28 => ?_) (fun c_28 => ?_)
        · have hm := hm.2 c_28
          refine lv_iconst (v := 0) hx hb dL_has_35 (by decide) ?_
          exact J_36 (0 : Int32) v2_11 H locs ls hP hD hS (lv_sub hl [1, 3, 4, 5] rfl) hm
        · have hm := hm.1 c_28
          refine lv_iconst (v := 1) hx hb dL_has_31 (by decide) ?_
          refine lv_goto (tgt := 36) hx hb dL_has_32 (by decide) ?_
          exact J_36 (1 : Int32) v2_11 H locs ls hP hD hS (lv_sub hl [1, 3, 4, 5] rfl) hm
  exact L_11 n_11 (0 : Int32) (0 : Int32) H locs ls hP hD hS (lv_sub hl [5, 3, 2, 1, 0] rfl) hm

def w_L_pips_B10 (c : Nat → ClassId) (K : (Nat → Nat) × (Nat → Nat)) (h : HW) (a0 : Nat) (post : Int32 → HW → Prop) (x5 : Int32) (rec_10 : Int32 → Int32 → Prop) (v1_10 : Int32) (v4_10 : Int32) : Prop :=
  (x5 ≤ v4_10 → post v1_10 h) ∧ (¬ x5 ≤ v4_10 → lI h (c 0) a0 v4_10 (fun (x19 : Int32) => ∀ x27 : Int32, x27 = x19 / (10 : Int32) → (∀ x32 : Int32, x32 = x19 - x19 / (10 : Int32) * (10 : Int32) → (∀ x33 : Int32, x33 = x27 + x32 → (∀ x34 : Int32, x34 = v1_10 + x33 → (∀ x36 : Int32, x36 = (v4_10 + 1) → (rec_10 x34 x36)))))))

def w_L_pips (c : Nat → ClassId) (K : (Nat → Nat) × (Nat → Nat)) (h : HW) (a0 : Nat) (post : Int32 → HW → Prop) : Prop :=
  lenA h (c 0) a0 (fun (x5 : Int32) => ∃ n_10 : Nat, itP2 (w_L_pips_B10 c K h a0 post x5) n_10 (0 : Int32) (0 : Int32))

abbrev rm_L_pips : Room := { frames := 0, cells := 0, slots := 0, locals := 0 }
theorem he_L_pips : yL_pips.cls ≠ "java/lang/invoke/MethodHandle" ∧ yL_pips.cls ≠ "java/lang/invoke/VarHandle" ∧ (parseMethodDescriptor yL_pips.desc).map (fun d => d.parameters.length) = some 1 := by decide +kernel
theorem heV_L_pips : yL_pips.cls = RL ∧ yL_pips.cls ≠ "java/lang/invoke/MethodHandle" ∧ yL_pips.cls ≠ "java/lang/invoke/VarHandle" ∧ (parseMethodDescriptor yL_pips.desc).map (fun d => d.parameters.length) = some 1 := by decide +kernel
set_option maxHeartbeats 4000000 in
set_option maxRecDepth 100000 in
theorem h_L_pips (l : Launch) (G : va_G) (K : (Nat → Nat) × (Nat → Nat)) (c : Nat → ClassId) (h : HW) (a0 : Nat) (post : Int32 → HW → Prop) (hm : w_L_pips c K h a0 post) : hMi l yL_pips wsL_pips (rm_L_pips) G K (TY c) [.ref a0] h 0 0 post := by
  refine hMi.of (cc := cL_pips) (maxL := 6) (lv := [(0, .ref a0)]) (by decide) rfl (Nat.le_of_ble_eq_true rfl) rfl ?_
  intro p e s m args below meth c1 A Q H locs hx hb hml hown hmn hts hK hN hZ hXX hP hD hA hS hend ls hl
  have hown : s.vm.findClass RL = some m.cls := hown
  unfold w_L_pips at hm
  refine lv_iconst (v := 0) hx hb dL_pips_0 (by decide) ?_
  refine lv_istore_n (lv' := [(1, .int (0 : Int32)), (0, .ref a0)]) hx hb dL_pips_1 rfl hl (by decide) rfl (fun ls hl => ?_)
  refine lv_aload_n hx hb dL_pips_2 rfl (lv_at hl 1 rfl) ?_
  refine lv_astore_n (lv' := [(2, .ref a0), (1, .int (0 : Int32)), (0, .ref a0)]) hx hb dL_pips_3 rfl hl (by decide) rfl (fun ls hl => ?_)
  refine lv_aload_n hx hb dL_pips_4 rfl (lv_at hl 0 rfl) ?_
  obtain ⟨wq5, xx5, hq5, hm⟩ := hm
  refine mr_alen hx hb hK (mRd hK hP hZ hS) 0 hq5 rfl dL_pips_5 (fun x5 ex5 => ?_)
  have hm := hm x5 ex5
  refine lv_istore_n (lv' := [(3, .int x5), (2, .ref a0), (1, .int (0 : Int32)), (0, .ref a0)]) hx hb dL_pips_6 rfl hl (by decide) rfl (fun ls hl => ?_)
  refine lv_iconst (v := 0) hx hb dL_pips_7 (by decide) ?_
  refine lv_istore (lv' := [(4, .int (0 : Int32)), (3, .int x5), (2, .ref a0), (1, .int (0 : Int32)), (0, .ref a0)]) hx hb dL_pips_8 hl (by decide) rfl (fun ls hl => ?_)
  obtain ⟨n_10, hm⟩ := hm
  have L_10 : ∀ (n_10 : Nat) (v1_10 : Int32) (v4_10 : Int32) (H : Heap) (locs : List Loc) (ls : Array Slot), mP G K h H → mD A h → va_S A s.heap H locs → lv_has ls 6 [(1, .int v1_10), (2, .ref a0), (3, .int x5), (4, .int v4_10)] → itP2 (w_L_pips_B10 c K h a0 post x5) n_10 v1_10 v4_10 → W p l e (rm_L_pips) s m args below meth c1 H locs 0 0 Q (F0 m 10 ls []) := by
    intro n_10
    induction n_10 with
    | zero => intro v1_10 v4_10 H locs ls hP hD hS hl hm; exact hm.elim
    | succ n_10 ih_10 =>
      intro v1_10 v4_10 H locs ls hP hD hS hl hm
      have hm : (w_L_pips_B10 c K h a0 post x5) (itP2 (w_L_pips_B10 c K h a0 post x5) n_10) v1_10 v4_10 := hm
      generalize itP2 (w_L_pips_B10 c K h a0 post x5) n_10 = rec_10 at hm ih_10
      unfold w_L_pips_B10 at hm
      refine lv_iload hx hb dL_pips_10 (lv_at hl 3 rfl) ?_
      refine lv_iload_n hx hb dL_pips_12 rfl (lv_at hl 2 rfl) ?_
      refine lv_icmp_ge (tgt := 42) hx hb dL_pips_13 (by decide) (fun c_13 => ?_) (fun c_13 => ?_)
      · have hm := hm.1 c_13
        refine lv_iload_n hx hb dL_pips_42 rfl (lv_at hl 0 rfl) ?_
        exact hend H locs ls 43 _ _ v1_10 h (Nat.le_refl _) (Nat.le_refl _) rfl hm hP hD hS dL_pips_43
      · have hm := hm.2 c_13
        refine lv_aload_n hx hb dL_pips_16 rfl (lv_at hl 1 rfl) ?_
        refine lv_iload hx hb dL_pips_17 (lv_at hl 3 rfl) ?_
        obtain ⟨wq19, n19, f19, hq19, hi19, hm⟩ := hm
        refine mr_iald hx hb hK (mRd hK hP hZ hS) 0 hq19 rfl hi19 dL_pips_19 (fun x19 ex19 => ?_)
        have hm := hm x19 ex19
        refine lv_istore (lv' := [(5, .int x19), (1, .int v1_10), (2, .ref a0), (3, .int x5), (4, .int v4_10)]) hx hb dL_pips_20 hl (by decide) rfl (fun ls hl => ?_)
        refine lv_iload_n hx hb dL_pips_22 rfl (lv_at hl 1 rfl) ?_
        refine lv_iload hx hb dL_pips_23 (lv_at hl 0 rfl) ?_
        refine lv_bipush (v := 10) hx hb dL_pips_25 (by decide) ?_
        refine lv_idiv hx hb dL_pips_27 (by decide) ?_
        refine lv_topi (fun x27 ex27 => ?_)
        have hm := hm x27 ex27
        refine lv_iload hx hb dL_pips_28 (lv_at hl 0 rfl) ?_
        refine lv_bipush (v := 10) hx hb dL_pips_30 (by decide) ?_
        refine lv_irem hx hb dL_pips_32 (by decide) ?_
        refine lv_topi (fun x32 ex32 => ?_)
        have hm := hm x32 ex32
        refine lv_iadd hx hb dL_pips_33 ?_
        refine lv_topi (fun x33 ex33 => ?_)
        have hm := hm x33 ex33
        refine lv_iadd hx hb dL_pips_34 ?_
        refine lv_topi (fun x34 ex34 => ?_)
        have hm := hm x34 ex34
        refine lv_istore_n (lv' := [(1, .int x34), (5, .int x19), (2, .ref a0), (3, .int x5), (4, .int v4_10)]) hx hb dL_pips_35 rfl hl (by decide) rfl (fun ls hl => ?_)
        obtain ⟨x36, ex36⟩ : ∃ z : Int32, z = (v4_10 + 1) := ⟨_, rfl⟩
        have hm := hm x36 ex36
        refine lv_iinc (k := 4) (v := x36) (lv' := [(4, .int x36), (1, .int x34), (5, .int x19), (2, .ref a0), (3, .int x5)]) hx hb dL_pips_36 hl rfl ex36.symm (by decide) rfl (fun ls hl => ?_)
        refine lv_goto (tgt := 10) hx hb dL_pips_39 (by decide) ?_
        exact ih_10 x34 x36 H locs ls hP hD hS (lv_sub hl [1, 3, 4, 0] rfl) hm
  exact L_10 n_10 (0 : Int32) (0 : Int32) H locs ls hP hD hS (lv_sub hl [3, 2, 1, 0] rfl) hm

def w_X8_init (c : Nat → ClassId) (K : (Nat → Nat) × (Nat → Nat)) (h : HW) (a0 : Nat) (post : HW → Prop) : Prop :=
  post h

abbrev rm_X8_init : Room := { frames := 1, cells := 0, slots := 0, locals := 80 }
theorem he_X8_init : yX8_init.cls ≠ "java/lang/invoke/MethodHandle" ∧ yX8_init.cls ≠ "java/lang/invoke/VarHandle" ∧ (parseMethodDescriptor yX8_init.desc).map (fun d => d.parameters.length) = some 0 := by decide +kernel
theorem heV_X8_init : yX8_init.cls = RX8 ∧ yX8_init.cls ≠ "java/lang/invoke/MethodHandle" ∧ yX8_init.cls ≠ "java/lang/invoke/VarHandle" ∧ (parseMethodDescriptor yX8_init.desc).map (fun d => d.parameters.length) = some 0 := by decide +kernel
set_option maxHeartbeats 4000000 in
set_option maxRecDepth 100000 in
theorem h_X8_init (l : Launch) (G : va_G) (K : (Nat → Nat) × (Nat → Nat)) (c : Nat → ClassId) (h : HW) (a0 : Nat) (post : HW → Prop) (hm : w_X8_init c K h a0 post) : hMv l yX8_init wsX8_init (rm_X8_init) G K (TY c) [.ref a0] h 0 0 post := by
  refine hMv.of (cc := cX8_init) (maxL := 1) (lv := [(0, .ref a0)]) (by decide) rfl (Nat.le_of_ble_eq_true rfl) rfl ?_
  intro p e s m args below meth c1 A Q H locs hx hb hml hown hmn hts hK hN hZ hXX hP hD hA hS hend ls hl
  have hown : s.vm.findClass RX8 = some m.cls := hown
  unfold w_X8_init at hm
  refine lv_aload_n hx hb dX8_init_0 rfl (lv_at hl 0 rfl) ?_
  refine W.objInit hx hb hown (hts (.methodLink RX8 1 objectInit) ((List.mem_of_getElem? (i := 1) rfl))) (hts (.instanceMethod objectInit) ((List.mem_of_getElem? (i := 2) rfl))) (hts (.code objectInit ⟨#[0xb1]⟩ 1 none) ((List.mem_of_getElem? (i := 3) rfl))) rfl (hl.1.trans hml.symm) rfl dX8_init_1 (Nat.le_of_ble_eq_true rfl) (Nat.le_of_ble_eq_true rfl) ?_
  show W p l e _ s m args below meth c1 _ _ _ _ _ (F0 m 4 ls [])
  exact hend H locs ls 4 _ _ h (Nat.le_refl _) (Nat.le_refl _) hm hP hD hS dX8_init_4

def w_X8_value_J109 (c : Nat → ClassId) (K : (Nat → Nat) × (Nat → Nat)) (post : Int64 → HW → Prop) (h44 : HW) (s0_109 : Int64) : Prop :=
  ∀ x119 : Int64, x119 = (if s0_109 < (1000000 : Int64) then s0_109 else (1000000 : Int64)) → (∀ x122 : Int64, x122 = (if x119 < (-1000000 : Int64) then (-1000000 : Int64) else x119) → (post x122 h44))

def w_X8_value_F (c : Nat → ClassId) (K : (Nat → Nat) × (Nat → Nat)) (wrec : HW → Nat → Nat → (Int64 → HW → Prop) → Prop) (h : HW) (a0 : Nat) (a1 : Nat) (post : Int64 → HW → Prop) : Prop :=
  gI h a0 8 0 (fun (g1 : Int32) => ((2 : Int32) ≤ g1 → gR h a0 8 2 (fun (g31 : Nat) => (∃ w fs, h g31 = some (w, .inr (8, fs))) ∧ wrec h g31 a1 (fun (r35 : Int64) (h35 : HW) => gR h35 a0 8 3 (fun (g40 : Nat) => (∃ w fs, h35 g40 = some (w, .inr (8, fs))) ∧ wrec h35 g40 a1 (fun (r44 : Int64) (h44 : HW) => gI h44 a0 8 0 (fun (g50 : Int32) => (g50 = (2 : Int32) → ∀ x60 : Int64, x60 = r35 + r44 → (w_X8_value_J109 c K post h44 x60)) ∧ (¬ g50 = (2 : Int32) → gI h44 a0 8 0 (fun (g65 : Int32) => (g65 = (3 : Int32) → ∀ x75 : Int64, x75 = r35 - r44 → (w_X8_value_J109 c K post h44 x75)) ∧ (¬ g65 = (3 : Int32) → gI h44 a0 8 0 (fun (g80 : Int32) => (g80 = (4 : Int32) → ∀ x90 : Int64, x90 = r35 * r44 → (w_X8_value_J109 c K post h44 x90)) ∧ (¬ g80 = (4 : Int32) → ∀ x97 : Int32, x97 = lg_cmp r44 (0 : Int64) → ((x97 = 0 → w_X8_value_J109 c K post h44 (0 : Int64)) ∧ (¬ x97 = 0 → ¬ r44 = 0 ∧ (∀ x108 : Int64, x108 = r35 / r44 → (w_X8_value_J109 c K post h44 x108))))))))))))))) ∧ (¬ (2 : Int32) ≤ g1 → gI h a0 8 0 (fun (g9 : Int32) => (g9 = 0 → gI h a0 8 1 (fun (g16 : Int32) => ∀ x19 : Int64, x19 = g16.toInt64 → (post x19 h))) ∧ (¬ g9 = 0 → gI h a0 8 1 (fun (g25 : Int32) => lL h (c 1) a1 g25 (fun (x28 : Int64) => post x28 h))))))

def w_X8_value (c : Nat → ClassId) (K : (Nat → Nat) × (Nat → Nat)) : Nat → HW → Nat → Nat → (Int64 → HW → Prop) → Prop
  | 0 => fun _ _ _ _ => False
  | d + 1 => w_X8_value_F c K (w_X8_value c K d)

abbrev rm_X8_value (d : Nat) : Room := { frames := 1 + d, cells := 0, slots := 0, locals := 60 + 27 * d }
theorem he_X8_value : yX8_value.cls ≠ "java/lang/invoke/MethodHandle" ∧ yX8_value.cls ≠ "java/lang/invoke/VarHandle" ∧ (parseMethodDescriptor yX8_value.desc).map (fun d => d.parameters.length) = some 1 := by decide +kernel
theorem heV_X8_value : yX8_value.cls = RX8 ∧ yX8_value.cls ≠ "java/lang/invoke/MethodHandle" ∧ yX8_value.cls ≠ "java/lang/invoke/VarHandle" ∧ (parseMethodDescriptor yX8_value.desc).map (fun d => d.parameters.length) = some 1 := by decide +kernel
set_option maxHeartbeats 4000000 in
set_option maxRecDepth 100000 in
theorem h_X8_value (l : Launch) (G : va_G) (K : (Nat → Nat) × (Nat → Nat)) (c : Nat → ClassId) (d : Nat) : ∀ (h : HW) (a0 : Nat) (a1 : Nat) (post : Int64 → HW → Prop), w_X8_value c K d h a0 a1 post → hMl l yX8_value wsX8_value (rm_X8_value d) G K (TY c) [.ref a0, .ref a1] h 0 0 post := by
  induction d with
  | zero => intro h a0 a1 post hm; exact hm.elim
  | succ d ihd =>
    intro h a0 a1 post hm
    have hm : w_X8_value_F c K (w_X8_value c K d) h a0 a1 post := hm
    generalize w_X8_value c K d = wrec at hm ihd
    refine hMl.of (cc := cX8_value) (maxL := 8) (lv := [(0, .ref a0), (1, .ref a1)]) (by decide) rfl (Nat.le_of_ble_eq_true rfl) rfl ?_
    intro p e s m args below meth c1 A Q H locs hx hb hml hown hmn hts hK hN hZ hXX hP hD hA hS hend ls hl
    have hown : s.vm.findClass RX8 = some m.cls := hown
    have hi_8 : ∀ w ∈ u_ws RX8 TX8 4, w ∈ wsX8_value := fun w h => (fun w h => List.mem_cons_of_mem _ (List.mem_append_right _ (h))) w h
    unfold w_X8_value_F at hm
    refine lv_aload_n hx hb dX8_value_0 rfl (lv_at hl 0 rfl) ?_
    obtain ⟨wq1, fs1, g1, hq1, hv1, hm⟩ := hm
    refine mr_get (ci := 8) (C := RX8) (T := TX8) (N := 4) hx hb hts hi_8 hown hK (mRd hK hP hZ hS) hq1 rfl 0 (by decide) (hts (.fieldLink RX8 16 "HubTrainsLaw$Node" "kind" "I") ((List.mem_of_getElem? (i := 1) rfl))) (fun _ h9 => h9) hv1 dX8_value_1 ?_
    refine lv_iconst (v := 2) hx hb dX8_value_4 (by decide) ?_
    refine lv_icmp_ge (tgt := 30) hx hb dX8_value_5 (by decide) (fun c_5 => ?_) (fun c_5 => ?_)
    · have hm := hm.1 c_5
      refine lv_aload_n hx hb dX8_value_30 rfl (lv_at hl 0 rfl) ?_
      obtain ⟨wq31, fs31, g31, hq31, hv31, hm⟩ := hm
      refine mr_get (ci := 8) (C := RX8) (T := TX8) (N := 4) hx hb hts hi_8 hown hK (mRd hK hP hZ hS) hq31 rfl 2 (by decide) (hts (.fieldLink RX8 27 "HubTrainsLaw$Node" "left" "LHubTrainsLaw$Node;") ((List.mem_of_getElem? (i := 3) rfl))) (fun _ h9 => h9) hv31 dX8_value_31 ?_
      refine lv_aload_n hx hb dX8_value_34 rfl (lv_at hl 1 rfl) ?_
      obtain ⟨⟨wr35, fr35, hrq35⟩, hm⟩ := hm
      refine hcVl (As := [.ref a1]) (rest := []) ⟨hx, hb, hml, hown, hts⟩ (ihd h g31 a1 _ hm) (cwV 1 hts gX8_value_X8_value rfl rfl rfl (heV_X8_value) ⟨by show (1 + d) + 1 ≤ 1 + (d + 1); omega, by show 8 + (8 + 11) + (60 + 27 * d) ≤ 60 + 27 * (d + 1); omega⟩) hK hN hZ hXX hP hD hS hA (mr_recv hK (mRd hK hP hZ hS) (ci := 8) rfl hrq35) rfl hl.1 rfl (Nat.le_of_ble_eq_true rfl) dX8_value_35 ⟨Nat.le_refl _, Nat.le_refl _⟩ (fun r35 h35 H locs hm hP hD hS => ?_)
      refine lv_lstore_n (lv' := [(2, .long r35), (0, .ref a0), (1, .ref a1)]) hx hb dX8_value_38 rfl hl (by decide) rfl (fun ls hl => ?_)
      refine lv_aload_n hx hb dX8_value_39 rfl (lv_at hl 1 rfl) ?_
      obtain ⟨wq40, fs40, g40, hq40, hv40, hm⟩ := hm
      refine mr_get (ci := 8) (C := RX8) (T := TX8) (N := 4) hx hb hts hi_8 hown hK (mRd hK hP hZ hS) hq40 rfl 3 (by decide) (hts (.fieldLink RX8 31 "HubTrainsLaw$Node" "right" "LHubTrainsLaw$Node;") ((List.mem_of_getElem? (i := 4) rfl))) (fun _ h9 => h9) hv40 dX8_value_40 ?_
      refine lv_aload_n hx hb dX8_value_43 rfl (lv_at hl 2 rfl) ?_
      obtain ⟨⟨wr44, fr44, hrq44⟩, hm⟩ := hm
      refine hcVl (As := [.ref a1]) (rest := []) ⟨hx, hb, hml, hown, hts⟩ (ihd h35 g40 a1 _ hm) (cwV 1 hts gX8_value_X8_value rfl rfl rfl (heV_X8_value) ⟨by show (1 + d) + 1 ≤ 1 + (d + 1); omega, by show 8 + (8 + 11) + (60 + 27 * d) ≤ 60 + 27 * (d + 1); omega⟩) hK hN hZ hXX hP hD hS hA (mr_recv hK (mRd hK hP hZ hS) (ci := 8) rfl hrq44) rfl hl.1 rfl (Nat.le_of_ble_eq_true rfl) dX8_value_44 ⟨Nat.le_refl _, Nat.le_refl _⟩ (fun r44 h44 H locs hm hP hD hS => ?_)
      refine lv_lstore (lv' := [(4, .long r44), (2, .long r35), (0, .ref a0), (1, .ref a1)]) hx hb dX8_value_47 hl (by decide) rfl (fun ls hl => ?_)
      refine lv_aload_n hx hb dX8_value_49 rfl (lv_at hl 2 rfl) ?_
      obtain ⟨wq50, fs50, g50, hq50, hv50, hm⟩ := hm
      refine mr_get (ci := 8) (C := RX8) (T := TX8) (N := 4) hx hb hts hi_8 hown hK (mRd hK hP hZ hS) hq50 rfl 0 (by decide) (hts (.fieldLink RX8 16 "HubTrainsLaw$Node" "kind" "I") ((List.mem_of_getElem? (i := 1) rfl))) (fun _ h9 => h9) hv50 dX8_value_50 ?_
      refine lv_iconst (v := 2) hx hb dX8_value_53 (by decide) ?_
      have J_109 : ∀ (s0_109 : Int64) (H : Heap) (locs : List Loc) (ls : Array Slot), mP G K h44 H → mD A h44 → va_S A s.heap H locs → lv_has ls 8 [] → w_X8_value_J109 c K post h44 s0_109 → W p l e (rm_X8_value (d + 1)) s m args below meth c1 H locs 0 0 Q (F0 m 109 ls [.long s0_109]) := by
        intro s0_109 H locs ls hP hD hS hl hm
        unfold w_X8_value_J109 at hm
        refine lv_lstore (lv' := [(6, .long s0_109)]) hx hb dX8_value_109 hl (by decide) rfl (fun ls hl => ?_)
        refine lv_ldc2 (v := (-1000000)) hx hb hown (hts (.constantLong RX8 76 (-1000000)) ((List.mem_of_getElem? (i := 5) rfl))) dX8_value_111 ?_
        refine lv_ldc2 (v := 1000000) hx hb hown (hts (.constantLong RX8 78 (1000000)) ((List.mem_of_getElem? (i := 6) rfl))) dX8_value_114 ?_
        refine lv_lload hx hb dX8_value_117 (lv_at hl 0 rfl) ?_
        refine va_mmin_long hx hb (hml.trans hl.1.symm) hown (hts (.methodLink RX8 80 Lib.MathLoose.min_long.x) ((List.mem_of_getElem? (i := 7) rfl))) (hts (.static Lib.MathLoose.min_long.x) ((List.mem_of_getElem? (i := 8) rfl))) (hts (.initialized "java/lang/Math") ((List.mem_of_getElem? (i := 9) rfl))) (hts (.code Lib.MathLoose.min_long.x Lib.MathLoose.min_long.code 4 (some .long)) ((List.mem_of_getElem? (i := 10) rfl))) (Nat.le_trans (Nat.le_of_ble_eq_true rfl) (Nat.le_add_right 1 (d + 1))) (Nat.le_trans (Nat.le_of_ble_eq_true rfl) (Nat.le_add_right 60 (27 * (d + 1)))) (Nat.zero_le _) (Nat.zero_le _) dX8_value_119 ?_
        refine lv_topl (fun x119 ex119 => ?_)
        have hm := hm x119 ex119
        refine va_mmax_long hx hb (hml.trans hl.1.symm) hown (hts (.methodLink RX8 86 Lib.MathLoose.max_long.x) ((List.mem_of_getElem? (i := 11) rfl))) (hts (.static Lib.MathLoose.max_long.x) ((List.mem_of_getElem? (i := 12) rfl))) (hts (.initialized "java/lang/Math") ((List.mem_of_getElem? (i := 9) rfl))) (hts (.code Lib.MathLoose.max_long.x Lib.MathLoose.max_long.code 4 (some .long)) ((List.mem_of_getElem? (i := 13) rfl))) (Nat.le_trans (Nat.le_of_ble_eq_true rfl) (Nat.le_add_right 1 (d + 1))) (Nat.le_trans (Nat.le_of_ble_eq_true rfl) (Nat.le_add_right 60 (27 * (d + 1)))) (Nat.zero_le _) (Nat.zero_le _) dX8_value_122 ?_
        refine lv_topl (fun x122 ex122 => ?_)
        have hm := hm x122 ex122
        exact hend H locs ls 125 _ _ x122 h44 (Nat.le_refl _) (Nat.le_refl _) hm hP hD hS dX8_value_125
      refine lv_icmp_ne (tgt := 64) hx hb dX8_value_54 (by decide) (fun c_54 => ?_) (fun c_54 => ?_)
      · have hm := hm.2 c_54
        refine lv_aload_n hx hb dX8_value_64 rfl (lv_at hl 2 rfl) ?_
        obtain ⟨wq65, fs65, g65, hq65, hv65, hm⟩ := hm
        refine mr_get (ci := 8) (C := RX8) (T := TX8) (N := 4) hx hb hts hi_8 hown hK (mRd hK hP hZ hS) hq65 rfl 0 (by decide) (hts (.fieldLink RX8 16 "HubTrainsLaw$Node" "kind" "I") ((List.mem_of_getElem? (i := 1) rfl))) (fun _ h9 => h9) hv65 dX8_value_65 ?_
        refine lv_iconst (v := 3) hx hb dX8_value_68 (by decide) ?_
        refine lv_icmp_ne (tgt := 79) hx hb dX8_value_69 (by decide) (fun c_69 => ?_) (fun c_69 => ?_)
        · have hm := hm.2 c_69
          refine lv_aload_n hx hb dX8_value_79 rfl (lv_at hl 2 rfl) ?_
          obtain ⟨wq80, fs80, g80, hq80, hv80, hm⟩ := hm
          refine mr_get (ci := 8) (C := RX8) (T := TX8) (N := 4) hx hb hts hi_8 hown hK (mRd hK hP hZ hS) hq80 rfl 0 (by decide) (hts (.fieldLink RX8 16 "HubTrainsLaw$Node" "kind" "I") ((List.mem_of_getElem? (i := 1) rfl))) (fun _ h9 => h9) hv80 dX8_value_80 ?_
          refine lv_iconst (v := 4) hx hb dX8_value_83 (by decide) ?_
          refine lv_icmp_ne (tgt := 94) hx hb dX8_value_84 (by decide) (fun c_84 => ?_) (fun c_84 => ?_)
          · have hm := hm.2 c_84
            refine lv_lload hx hb dX8_value_94 (lv_at hl 0 rfl) ?_
            refine lv_lconst (v := 0) hx hb dX8_value_96 (by decide) ?_
            refine W.lcmp hx hb dX8_value_97 ?_
            refine lv_topi (fun x97 ex97 => ?_)
            have hm := hm x97 ex97
            refine lv_if_ne (tgt := 105) hx hb dX8_value_98 (by decide) (fun c_98 => ?_) (fun c_98 => ?_)
            · have hm := hm.2 c_98
              refine lv_lload_n hx hb dX8_value_105 rfl (lv_at hl 1 rfl) ?_
              refine lv_lload hx hb dX8_value_106 (lv_at hl 0 rfl) ?_
              obtain ⟨hnz108, hm⟩ := hm
              refine lv_ldiv hx hb dX8_value_108 hnz108 ?_
              refine lv_topl (fun x108 ex108 => ?_)
              have hm := hm x108 ex108
              exact J_109 x108 H locs ls hP hD hS (lv_sub hl [] rfl) hm
            · have hm := hm.1 c_98
              refine lv_lconst (v := 0) hx hb dX8_value_101 (by decide) ?_
              refine lv_goto (tgt := 109) hx hb dX8_value_102 (by decide) ?_
              exact J_109 (0 : Int64) H locs ls hP hD hS (lv_sub hl [] rfl) hm
          · have hm := hm.1 c_84
            refine lv_lload_n hx hb dX8_value_87 rfl (lv_at hl 1 rfl) ?_
            refine lv_lload hx hb dX8_value_88 (lv_at hl 0 rfl) ?_
            refine lv_lmul hx hb dX8_value_90 ?_
            refine lv_topl (fun x90 ex90 => ?_)
            have hm := hm x90 ex90
            refine lv_goto (tgt := 109) hx hb dX8_value_91 (by decide) ?_
            exact J_109 x90 H locs ls hP hD hS (lv_sub hl [] rfl) hm
        · have hm := hm.1 c_69
          refine lv_lload_n hx hb dX8_value_72 rfl (lv_at hl 1 rfl) ?_
          refine lv_lload hx hb dX8_value_73 (lv_at hl 0 rfl) ?_
          refine lv_lsub hx hb dX8_value_75 ?_
          refine lv_topl (fun x75 ex75 => ?_)
          have hm := hm x75 ex75
          refine lv_goto (tgt := 109) hx hb dX8_value_76 (by decide) ?_
          exact J_109 x75 H locs ls hP hD hS (lv_sub hl [] rfl) hm
      · have hm := hm.1 c_54
        refine lv_lload_n hx hb dX8_value_57 rfl (lv_at hl 1 rfl) ?_
        refine lv_lload hx hb dX8_value_58 (lv_at hl 0 rfl) ?_
        refine lv_ladd hx hb dX8_value_60 ?_
        refine lv_topl (fun x60 ex60 => ?_)
        have hm := hm x60 ex60
        refine lv_goto (tgt := 109) hx hb dX8_value_61 (by decide) ?_
        exact J_109 x60 H locs ls hP hD hS (lv_sub hl [] rfl) hm
    · have hm := hm.2 c_5
      refine lv_aload_n hx hb dX8_value_8 rfl (lv_at hl 0 rfl) ?_
      obtain ⟨wq9, fs9, g9, hq9, hv9, hm⟩ := hm
      refine mr_get (ci := 8) (C := RX8) (T := TX8) (N := 4) hx hb hts hi_8 hown hK (mRd hK hP hZ hS) hq9 rfl 0 (by decide) (hts (.fieldLink RX8 16 "HubTrainsLaw$Node" "kind" "I") ((List.mem_of_getElem? (i := 1) rfl))) (fun _ h9 => h9) hv9 dX8_value_9 ?_
      refine lv_if_ne (tgt := 23) hx hb dX8_value_12 (by decide) (fun c_12 => ?_) (fun c_12 => ?_)
      · have hm := hm.2 c_12
        refine lv_aload_n hx hb dX8_value_23 rfl (lv_at hl 1 rfl) ?_
        refine lv_aload_n hx hb dX8_value_24 rfl (lv_at hl 0 rfl) ?_
        obtain ⟨wq25, fs25, g25, hq25, hv25, hm⟩ := hm
        refine mr_get (ci := 8) (C := RX8) (T := TX8) (N := 4) hx hb hts hi_8 hown hK (mRd hK hP hZ hS) hq25 rfl 1 (by decide) (hts (.fieldLink RX8 20 "HubTrainsLaw$Node" "number" "I") ((List.mem_of_getElem? (i := 2) rfl))) (fun _ h9 => h9) hv25 dX8_value_25 ?_
        obtain ⟨wq28, n28, f28, hq28, hi28, hm⟩ := hm
        refine mr_lald hx hb hK (mRd hK hP hZ hS) 1 hq28 rfl hi28 dX8_value_28 (fun x28 ex28 => ?_)
        have hm := hm x28 ex28
        exact hend H locs ls 29 _ _ x28 h (Nat.le_refl _) (Nat.le_refl _) hm hP hD hS dX8_value_29
      · have hm := hm.1 c_12
        refine lv_aload_n hx hb dX8_value_15 rfl (lv_at hl 0 rfl) ?_
        obtain ⟨wq16, fs16, g16, hq16, hv16, hm⟩ := hm
        refine mr_get (ci := 8) (C := RX8) (T := TX8) (N := 4) hx hb hts hi_8 hown hK (mRd hK hP hZ hS) hq16 rfl 1 (by decide) (hts (.fieldLink RX8 20 "HubTrainsLaw$Node" "number" "I") ((List.mem_of_getElem? (i := 2) rfl))) (fun _ h9 => h9) hv16 dX8_value_16 ?_
        refine lv_i2l hx hb dX8_value_19 rfl ?_
        refine lv_topl (fun x19 ex19 => ?_)
        have hm := hm x19 ex19
        refine lv_goto (tgt := 29) hx hb dX8_value_20 (by decide) ?_
        exact hend H locs ls 29 _ _ x19 h (Nat.le_refl _) (Nat.le_refl _) hm hP hD hS dX8_value_29

