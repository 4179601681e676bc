/-! walks of the law's own methods over maps -/
def w_X10_ends_B17 (c : Nat → ClassId) (K : (Nat → Nat) × (Nat → Nat)) (a0 : Nat) (post : HW → Prop) (rec_17 : HW → Int32 → Prop) (h_17 : HW) (v1_17 : Int32) : Prop :=
  gR h_17 a0 10 10 (fun (g19 : Nat) => lenA h_17 (c 2) g19 (fun (x22 : Int32) => (x22 ≤ v1_17 → post h_17) ∧ (¬ x22 ≤ v1_17 → gR h_17 a0 10 11 (fun (g27 : Nat) => lI h_17 (c 0) g27 v1_17 (fun (x32 : Int32) => gR h_17 a0 10 10 (fun (g34 : Nat) => lR h_17 (c 2) g34 v1_17 (fun (x38 : Nat) => w_L_pips c K h_17 x38 (fun (r39 : Int32) (h39 : HW) => ∀ x42 : Int32, x42 = x32 + r39 → (stI h39 (c 0) g27 v1_17 x42 (fun (h43 : HW) => ∀ x44 : Int32, x44 = (v1_17 + 1) → (rec_17 h43 x44)))))))))))

def w_X10_ends (c : Nat → ClassId) (K : (Nat → Nat) × (Nat → Nat)) (h : HW) (a0 : Nat) (post : HW → Prop) : Prop :=
  pZ h a0 10 7 (1 : Int32) (fun (h2 : HW) => gI h2 a0 10 8 (fun (g7 : Int32) => ∀ x11 : Int32, x11 = g7 + (1 : Int32) → (pV h2 a0 10 8 (.int x11) (fun (h12 : HW) => ∃ n_17 : Nat, itP2 (w_X10_ends_B17 c K a0 post) n_17 h12 (0 : Int32)))))

abbrev rm_X10_ends : Room := { frames := 1, cells := 0, slots := 0, locals := 25 }
theorem he_X10_ends : yX10_ends.cls ≠ "java/lang/invoke/MethodHandle" ∧ yX10_ends.cls ≠ "java/lang/invoke/VarHandle" ∧ (parseMethodDescriptor yX10_ends.desc).map (fun d => d.parameters.length) = some 0 := by decide +kernel
theorem heV_X10_ends : yX10_ends.cls = RX10 ∧ yX10_ends.cls ≠ "java/lang/invoke/MethodHandle" ∧ yX10_ends.cls ≠ "java/lang/invoke/VarHandle" ∧ (parseMethodDescriptor yX10_ends.desc).map (fun d => d.parameters.length) = some 0 := by decide +kernel
set_option maxHeartbeats 4000000 in
set_option maxRecDepth 100000 in
theorem h_X10_ends (l : Launch) (G : va_G) (K : (Nat → Nat) × (Nat → Nat)) (c : Nat → ClassId) (h : HW) (a0 : Nat) (post : HW → Prop) (hm : w_X10_ends c K h a0 post) : hMv l yX10_ends wsX10_ends (rm_X10_ends) G K (TY c) [.ref a0] h 0 0 post := by
  refine hMv.of (cc := cX10_ends) (maxL := 2) (lv := [(0, .ref a0)]) (by decide) rfl (Nat.le_of_ble_eq_true rfl) rfl ?_
  intro p e s m args below meth c1 A Q H locs hx hb hml hown hmn hts hK hN hZ hXX hP hD hA hS hend ls hl
  have hown : s.vm.findClass RX10 = some m.cls := hown
  have hi_10 : ∀ w ∈ u_ws RX10 TX10 17, w ∈ wsX10_ends := fun w h => (fun w h => List.mem_cons_of_mem _ (List.mem_append_right _ (h))) w h
  unfold w_X10_ends at hm
  refine lv_aload_n hx hb dX10_ends_0 rfl (lv_at hl 0 rfl) ?_
  refine lv_iconst (v := 1) hx hb dX10_ends_1 (by decide) ?_
  obtain ⟨fs2, hq2, hl2, hz2, hm⟩ := hm
  refine mr_put (v := .int (1 : Int32)) (ci := 10) (C := RX10) (T := TX10) (N := 17) hx hb hts hi_10 tyX10 (fun k hk => tyX10_ok k (Nat.lt_of_lt_of_le hk (by decide))) (fun a ha b hb => nmX10 a (Nat.lt_of_lt_of_le ha (by decide)) b (Nat.lt_of_lt_of_le hb (by decide))) hown hK hP hD hS hq2 rfl 7 (by decide) (hts (.fieldLink RX10 56 "HubTrainsLaw$Table" "isOver" "Z") ((List.mem_of_getElem? (i := 1) rfl))) (fun _ h9 => h9) rfl (tyX10_ok 7 (by decide)) (z01_n hz2) (z01_f hz2) hl2 dX10_ends_2 (fun H locs hP hD hS => ?_)
  generalize hup h a0 (.inr (10, fs2.set 7 (.int (1 : Int32)))) = h2 at hm hP hD
  refine lv_aload_n hx hb dX10_ends_5 rfl (lv_at hl 0 rfl) ?_
  refine lv_dup hx hb dX10_ends_6 rfl ?_
  obtain ⟨wq7, fs7, g7, hq7, hv7, hm⟩ := hm
  refine mr_get (ci := 10) (C := RX10) (T := TX10) (N := 17) hx hb hts hi_10 hown hK (mRd hK hP hZ hS) hq7 rfl 8 (by decide) (hts (.fieldLink RX10 59 "HubTrainsLaw$Table" "rounds" "I") ((List.mem_of_getElem? (i := 2) rfl))) (fun _ h9 => h9) hv7 dX10_ends_7 ?_
  refine lv_iconst (v := 1) hx hb dX10_ends_10 (by decide) ?_
  refine lv_iadd hx hb dX10_ends_11 ?_
  refine lv_topi (fun x11 ex11 => ?_)
  have hm := hm x11 ex11
  obtain ⟨fs12, hq12, hl12, hm⟩ := hm
  refine mr_put (v := .int x11) (ci := 10) (C := RX10) (T := TX10) (N := 17) hx hb hts hi_10 tyX10 (fun k hk => tyX10_ok k (Nat.lt_of_lt_of_le hk (by decide))) (fun a ha b hb => nmX10 a (Nat.lt_of_lt_of_le ha (by decide)) b (Nat.lt_of_lt_of_le hb (by decide))) hown hK hP hD hS hq12 rfl 8 (by decide) (hts (.fieldLink RX10 59 "HubTrainsLaw$Table" "rounds" "I") ((List.mem_of_getElem? (i := 2) rfl))) (fun _ h9 => h9) rfl (tyX10_ok 8 (by decide)) rfl rfl hl12 dX10_ends_12 (fun H locs hP hD hS => ?_)
  generalize hup h2 a0 (.inr (10, fs12.set 8 (.int x11))) = h12 at hm hP hD
  refine lv_iconst (v := 0) hx hb dX10_ends_15 (by decide) ?_
  refine lv_istore_n (lv' := [(1, .int (0 : Int32)), (0, .ref a0)]) hx hb dX10_ends_16 rfl hl (by decide) rfl (fun ls hl => ?_)
  obtain ⟨n_17, hm⟩ := hm
  have L_17 : ∀ (n_17 : Nat) (h_17 : HW) (v1_17 : Int32) (H : Heap) (locs : List Loc) (ls : Array Slot), mP G K h_17 H → mD A h_17 → va_S A s.heap H locs → lv_has ls 2 [(0, .ref a0), (1, .int v1_17)] → itP2 (w_X10_ends_B17 c K a0 post) n_17 h_17 v1_17 → W p l e (rm_X10_ends) s m args below meth c1 H locs 0 0 Q (F0 m 17 ls []) := by
    intro n_17
    induction n_17 with
    | zero => intro h_17 v1_17 H locs ls hP hD hS hl hm; exact hm.elim
    | succ n_17 ih_17 =>
      intro h_17 v1_17 H locs ls hP hD hS hl hm
      have hm : (w_X10_ends_B17 c K a0 post) (itP2 (w_X10_ends_B17 c K a0 post) n_17) h_17 v1_17 := hm
      generalize itP2 (w_X10_ends_B17 c K a0 post) n_17 = rec_17 at hm ih_17
      unfold w_X10_ends_B17 at hm
      refine lv_iload_n hx hb dX10_ends_17 rfl (lv_at hl 1 rfl) ?_
      refine lv_aload_n hx hb dX10_ends_18 rfl (lv_at hl 0 rfl) ?_
      obtain ⟨wq19, fs19, g19, hq19, hv19, hm⟩ := hm
      refine mr_get (ci := 10) (C := RX10) (T := TX10) (N := 17) hx hb hts hi_10 hown hK (mRd hK hP hZ hS) hq19 rfl 10 (by decide) (hts (.fieldLink RX10 27 "HubTrainsLaw$Table" "hands" "[[I") ((List.mem_of_getElem? (i := 3) rfl))) (fun _ h9 => h9) hv19 dX10_ends_19 ?_
      obtain ⟨wq22, xx22, hq22, hm⟩ := hm
      refine mr_alen hx hb hK (mRd hK hP hZ hS) 2 hq22 rfl dX10_ends_22 (fun x22 ex22 => ?_)
      have hm := hm x22 ex22
      refine lv_icmp_ge (tgt := 50) hx hb dX10_ends_23 (by decide) (fun c_23 => ?_) (fun c_23 => ?_)
      · have hm := hm.1 c_23
        exact hend H locs ls 50 _ _ h_17 (Nat.le_refl _) (Nat.le_refl _) hm hP hD hS dX10_ends_50
      · have hm := hm.2 c_23
        refine lv_aload_n hx hb dX10_ends_26 rfl (lv_at hl 0 rfl) ?_
        obtain ⟨wq27, fs27, g27, hq27, hv27, hm⟩ := hm
        refine mr_get (ci := 10) (C := RX10) (T := TX10) (N := 17) hx hb hts hi_10 hown hK (mRd hK hP hZ hS) hq27 rfl 11 (by decide) (hts (.fieldLink RX10 30 "HubTrainsLaw$Table" "totals" "[I") ((List.mem_of_getElem? (i := 4) rfl))) (fun _ h9 => h9) hv27 dX10_ends_27 ?_
        refine lv_iload_n hx hb dX10_ends_30 rfl (lv_at hl 1 rfl) ?_
        refine lv_dup2_11 hx hb dX10_ends_31 rfl rfl ?_
        obtain ⟨wq32, n32, f32, hq32, hi32, hm⟩ := hm
        refine mr_iald hx hb hK (mRd hK hP hZ hS) 0 hq32 rfl hi32 dX10_ends_32 (fun x32 ex32 => ?_)
        have hm := hm x32 ex32
        refine lv_aload_n hx hb dX10_ends_33 rfl (lv_at hl 0 rfl) ?_
        obtain ⟨wq34, fs34, g34, hq34, hv34, hm⟩ := hm
        refine mr_get (ci := 10) (C := RX10) (T := TX10) (N := 17) hx hb hts hi_10 hown hK (mRd hK hP hZ hS) hq34 rfl 10 (by decide) (hts (.fieldLink RX10 27 "HubTrainsLaw$Table" "hands" "[[I") ((List.mem_of_getElem? (i := 3) rfl))) (fun _ h9 => h9) hv34 dX10_ends_34 ?_
        refine lv_iload_n hx hb dX10_ends_37 rfl (lv_at hl 1 rfl) ?_
        obtain ⟨wq38, n38, f38, x38, hq38, hi38, hv38, hm⟩ := hm
        refine mr_aldq (ty := (.array .int)) hx hb hK (mRd hK hP hZ hS) 2 rfl hq38 rfl hi38 dX10_ends_38 (fun o38 eo38 => ?_)
        obtain rfl := eo38.trans hv38
        refine hcSNi (As := [.ref x38]) (rest := [.int x32, .int v1_17, .ref g27]) ⟨hx, hb, hml, hown, hts⟩ (h_L_pips l G K c h_17 x38 _ hm) ⟨va_cnB 1 hts gX10_ends_L_pips_n110 rfl rfl rfl (nwm_HubTrainsLaw_Table_110 hN.2.1) (hts (.initialized RL) ((List.mem_of_getElem? (i := 6) rfl))) he_L_pips ⟨Nat.le_of_ble_eq_true rfl, Nat.le_of_ble_eq_true rfl⟩, (hts (.static yL_pips) ((List.mem_of_getElem? (i := 5) rfl))), trivial⟩ hK hN hZ hXX hP hD hS hA rfl hl.1 rfl (Nat.le_of_ble_eq_true rfl) dX10_ends_39 ⟨Nat.le_refl _, Nat.le_refl _⟩ (fun r39 h39 H locs hm hP hD hS => ?_)
        refine lv_iadd hx hb dX10_ends_42 ?_
        refine lv_topi (fun x42 ex42 => ?_)
        have hm := hm x42 ex42
        obtain ⟨n43, f43, hq43, hi43, hm⟩ := hm
        refine mr_iast hx hb hK hP hD hS 0 hq43 rfl hi43 dX10_ends_43 (fun H locs hP hD hS => ?_)
        generalize hup h39 g27 (eI (c 0) n43 (upd f43 v1_17.toNatClampNeg x42)) = h43 at hm hP hD
        obtain ⟨x44, ex44⟩ : ∃ z : Int32, z = (v1_17 + 1) := ⟨_, rfl⟩
        have hm := hm x44 ex44
        refine lv_iinc (k := 1) (v := x44) (lv' := [(1, .int x44), (0, .ref a0)]) hx hb dX10_ends_44 hl rfl ex44.symm (by decide) rfl (fun ls hl => ?_)
        refine lv_goto (tgt := 17) hx hb dX10_ends_47 (by decide) ?_
        exact ih_17 h43 x44 H locs ls hP hD hS (lv_sub hl [1, 0] rfl) hm
  exact L_17 n_17 h12 (0 : Int32) H locs ls hP hD hS (lv_sub hl [1, 0] rfl) hm

def w_X10_next_J25 (c : Nat → ClassId) (K : (Nat → Nat) × (Nat → Nat)) (h : HW) (a0 : Nat) (post : HW → Prop) (s0_25 : Int32) (s1_25 : Nat) : Prop :=
  pV h s1_25 10 4 (.int s0_25) (fun (h25 : HW) => pZ h25 a0 10 5 (0 : Int32) (fun (h30 : HW) => post h30))

def w_X10_next (c : Nat → ClassId) (K : (Nat → Nat) × (Nat → Nat)) (h : HW) (a0 : Nat) (post : HW → Prop) : Prop :=
  gI h a0 10 4 (fun (g2 : Int32) => ∀ x6 : Int32, x6 = g2 + (1 : Int32) → (gR h a0 10 10 (fun (g8 : Nat) => lenA h (c 2) g8 (fun (x11 : Int32) => (x6 = x11 → w_X10_next_J25 c K h a0 post (0 : Int32) a0) ∧ (¬ x6 = x11 → gI h a0 10 4 (fun (g20 : Int32) => ∀ x24 : Int32, x24 = g20 + (1 : Int32) → (w_X10_next_J25 c K h a0 post x24 a0)))))))

abbrev rm_X10_next : Room := { frames := 0, cells := 0, slots := 0, locals := 0 }
theorem he_X10_next : yX10_next.cls ≠ "java/lang/invoke/MethodHandle" ∧ yX10_next.cls ≠ "java/lang/invoke/VarHandle" ∧ (parseMethodDescriptor yX10_next.desc).map (fun d => d.parameters.length) = some 0 := by decide +kernel
theorem heV_X10_next : yX10_next.cls = RX10 ∧ yX10_next.cls ≠ "java/lang/invoke/MethodHandle" ∧ yX10_next.cls ≠ "java/lang/invoke/VarHandle" ∧ (parseMethodDescriptor yX10_next.desc).map (fun d => d.parameters.length) = some 0 := by decide +kernel
set_option maxHeartbeats 4000000 in
set_option maxRecDepth 100000 in
theorem h_X10_next (l : Launch) (G : va_G) (K : (Nat → Nat) × (Nat → Nat)) (c : Nat → ClassId) (h : HW) (a0 : Nat) (post : HW → Prop) (hm : w_X10_next c K h a0 post) : hMv l yX10_next wsX10_next (rm_X10_next) G K (TY c) [.ref a0] h 0 0 post := by
  refine hMv.of (cc := cX10_next) (maxL := 1) (lv := [(0, .ref a0)]) (by decide) rfl (Nat.le_of_ble_eq_true rfl) rfl ?_
  intro p e s m args below meth c1 A Q H locs hx hb hml hown hmn hts hK hN hZ hXX hP hD hA hS hend ls hl
  have hown : s.vm.findClass RX10 = some m.cls := hown
  have hi_10 : ∀ w ∈ u_ws RX10 TX10 17, w ∈ wsX10_next := fun w h => (fun w h => List.mem_cons_of_mem _ (List.mem_append_right _ (h))) w h
  unfold w_X10_next at hm
  refine lv_aload_n hx hb dX10_next_0 rfl (lv_at hl 0 rfl) ?_
  refine lv_aload_n hx hb dX10_next_1 rfl (lv_at hl 0 rfl) ?_
  obtain ⟨wq2, fs2, g2, hq2, hv2, hm⟩ := hm
  refine mr_get (ci := 10) (C := RX10) (T := TX10) (N := 17) hx hb hts hi_10 hown hK (mRd hK hP hZ hS) hq2 rfl 4 (by decide) (hts (.fieldLink RX10 49 "HubTrainsLaw$Table" "turn" "I") ((List.mem_of_getElem? (i := 1) rfl))) (fun _ h9 => h9) hv2 dX10_next_2 ?_
  refine lv_iconst (v := 1) hx hb dX10_next_5 (by decide) ?_
  refine lv_iadd hx hb dX10_next_6 ?_
  refine lv_topi (fun x6 ex6 => ?_)
  have hm := hm x6 ex6
  refine lv_aload_n hx hb dX10_next_7 rfl (lv_at hl 0 rfl) ?_
  obtain ⟨wq8, fs8, g8, hq8, hv8, hm⟩ := hm
  refine mr_get (ci := 10) (C := RX10) (T := TX10) (N := 17) hx hb hts hi_10 hown hK (mRd hK hP hZ hS) hq8 rfl 10 (by decide) (hts (.fieldLink RX10 27 "HubTrainsLaw$Table" "hands" "[[I") ((List.mem_of_getElem? (i := 2) rfl))) (fun _ h9 => h9) hv8 dX10_next_8 ?_
  obtain ⟨wq11, xx11, hq11, hm⟩ := hm
  refine mr_alen hx hb hK (mRd hK hP hZ hS) 2 hq11 rfl dX10_next_11 (fun x11 ex11 => ?_)
  have hm := hm x11 ex11
  have J_25 : ∀ (s0_25 : Int32) (s1_25 : Nat) (H : Heap) (locs : List Loc) (ls : Array Slot), mP G K h H → mD A h → va_S A s.heap H locs → lv_has ls 1 [(0, .ref a0)] → w_X10_next_J25 c K h a0 post s0_25 s1_25 → W p l e (rm_X10_next) s m args below meth c1 H locs 0 0 Q (F0 m 25 ls [.int s0_25, .ref s1_25]) := by
    intro s0_25 s1_25 H locs ls hP hD hS hl hm
    unfold w_X10_next_J25 at hm
    obtain ⟨fs25, hq25, hl25, hm⟩ := hm
    refine mr_put (v := .int s0_25) (ci := 10) (C := RX10) (T := TX10) (N := 17) hx hb hts hi_10 tyX10 (fun k hk => tyX10_ok k (Nat.lt_of_lt_of_le hk (by decide))) (fun a ha b hb => nmX10 a (Nat.lt_of_lt_of_le ha (by decide)) b (Nat.lt_of_lt_of_le hb (by decide))) hown hK hP hD hS hq25 rfl 4 (by decide) (hts (.fieldLink RX10 49 "HubTrainsLaw$Table" "turn" "I") ((List.mem_of_getElem? (i := 1) rfl))) (fun _ h9 => h9) rfl (tyX10_ok 4 (by decide)) rfl rfl hl25 dX10_next_25 (fun H locs hP hD hS => ?_)
    generalize hup h s1_25 (.inr (10, fs25.set 4 (.int s0_25))) = h25 at hm hP hD
    refine lv_aload_n hx hb dX10_next_28 rfl (lv_at hl 0 rfl) ?_
    refine lv_iconst (v := 0) hx hb dX10_next_29 (by decide) ?_
    obtain ⟨fs30, hq30, hl30, hz30, hm⟩ := hm
    refine mr_put (v := .int (0 : Int32)) (ci := 10) (C := RX10) (T := TX10) (N := 17) hx hb hts hi_10 tyX10 (fun k hk => tyX10_ok k (Nat.lt_of_lt_of_le hk (by decide))) (fun a ha b hb => nmX10 a (Nat.lt_of_lt_of_le ha (by decide)) b (Nat.lt_of_lt_of_le hb (by decide))) hown hK hP hD hS hq30 rfl 5 (by decide) (hts (.fieldLink RX10 52 "HubTrainsLaw$Table" "drew" "Z") ((List.mem_of_getElem? (i := 3) rfl))) (fun _ h9 => h9) rfl (tyX10_ok 5 (by decide)) (z01_n hz30) (z01_f hz30) hl30 dX10_next_30 (fun H locs hP hD hS => ?_)
    generalize hup h25 a0 (.inr (10, fs30.set 5 (.int (0 : Int32)))) = h30 at hm hP hD
    exact hend H locs ls 33 _ _ h30 (Nat.le_refl _) (Nat.le_refl _) hm hP hD hS dX10_next_33
  refine lv_icmp_ne (tgt := 19) hx hb dX10_next_12 (by decide) (fun c_12 => ?_) (fun c_12 => ?_)
  · have hm := hm.2 c_12
    refine lv_aload_n hx hb dX10_next_19 rfl (lv_at hl 0 rfl) ?_
    obtain ⟨wq20, fs20, g20, hq20, hv20, hm⟩ := hm
    refine mr_get (ci := 10) (C := RX10) (T := TX10) (N := 17) hx hb hts hi_10 hown hK (mRd hK hP hZ hS) hq20 rfl 4 (by decide) (hts (.fieldLink RX10 49 "HubTrainsLaw$Table" "turn" "I") ((List.mem_of_getElem? (i := 1) rfl))) (fun _ h9 => h9) hv20 dX10_next_20 ?_
    refine lv_iconst (v := 1) hx hb dX10_next_23 (by decide) ?_
    refine lv_iadd hx hb dX10_next_24 ?_
    refine lv_topi (fun x24 ex24 => ?_)
    have hm := hm x24 ex24
    exact J_25 x24 a0 H locs ls hP hD hS (lv_sub hl [0] rfl) hm
  · have hm := hm.1 c_12
    refine lv_iconst (v := 0) hx hb dX10_next_15 (by decide) ?_
    refine lv_goto (tgt := 25) hx hb dX10_next_16 (by decide) ?_
    exact J_25 (0 : Int32) a0 H locs ls hP hD hS (lv_sub hl [0] rfl) hm

def w_X10_plays__J113 (c : Nat → ClassId) (K : (Nat → Nat) × (Nat → Nat)) (a0 : Nat) (a2 : Int32) (post : Int32 → HW → Prop) (h_113 : HW) (mc_113 ms_113 : Nat) : Prop :=
  (∃ w fs, h_113 a0 = some (w, .inr (10, fs))) ∧ w_X10_end c K h_113 a0 a2 (fun (r115 : Int32) (h115 : HW) => post r115 h115)

def w_X10_plays__J71 (c : Nat → ClassId) (K : (Nat → Nat) × (Nat → Nat)) (a0 : Nat) (a2 : Int32) (post : Int32 → HW → Prop) (h55 : HW) (mc_71 ms_71 : Nat) (s0_71 : Int32) (s1_71 : Nat) : Prop :=
  pV h55 s1_71 10 6 (.int s0_71) (fun (h71 : HW) => gR h71 a0 10 10 (fun (g75 : Nat) => gI h71 a0 10 4 (fun (g79 : Int32) => lR h71 (c 2) g75 g79 (fun (x82 : Nat) => lenA h71 (c 0) x82 (fun (x83 : Int32) => (x83 = 0 → (∃ w fs, h71 a0 = some (w, .inr (10, fs))) ∧ w_X10_ends c K h71 a0 (fun (h88 : HW) => w_X10_plays__J113 c K a0 a2 post h88 mc_71 ms_71)) ∧ (¬ x83 = 0 → gI h71 a0 10 6 (fun (g95 : Int32) => (0 ≤ g95 → pZ h71 a0 10 5 (0 : Int32) (fun (h110 : HW) => w_X10_plays__J113 c K a0 a2 post h110 mc_71 ms_71)) ∧ (¬ 0 ≤ g95 → (∃ w fs, h71 a0 = some (w, .inr (10, fs))) ∧ w_X10_next c K h71 a0 (fun (h102 : HW) => w_X10_plays__J113 c K a0 a2 post h102 mc_71 ms_71)))))))))

def w_X10_plays__J53 (c : Nat → ClassId) (K : (Nat → Nat) × (Nat → Nat)) (a0 : Nat) (a1 : Int32) (a2 : Int32) (post : Int32 → HW → Prop) (h_53 : HW) (mc_53 ms_53 : Nat) : Prop :=
  pV h_53 a0 10 9 (.int (0 : Int32)) (fun (h55 : HW) => ∀ x62 : Int32, x62 = a1 - a1 / (11 : Int32) * (11 : Int32) → ((x62 = 0 → w_X10_plays__J71 c K a0 a2 post h55 mc_53 ms_53 a2 a0) ∧ (¬ x62 = 0 → w_X10_plays__J71 c K a0 a2 post h55 mc_53 ms_53 (-1 : Int32) a0)))

def w_X10_plays_ (c : Nat → ClassId) (K : (Nat → Nat) × (Nat → Nat)) (h : HW) (a0 : Nat) (a1 : Int32) (a2 : Int32) (mc ms : Nat) (post : Int32 → HW → Prop) : Prop :=
  gR h a0 10 10 (fun (g1 : Nat) => gI h a0 10 4 (fun (g5 : Int32) => gR h a0 10 10 (fun (g9 : Nat) => gI h a0 10 4 (fun (g13 : Int32) => lR h (c 2) g9 g13 (fun (x16 : Nat) => (∃ m18 z18 mB18 zB18 : Nat, mc = m18 + mB18 ∧ ms = z18 + zB18 ∧ w_L_without c K h x16 a1 m18 z18 (fun (r18 : Option Nat) (h18 : HW) => dRf r18 (fun (a18 : Nat) => stA h18 (c 0) (c 2) g1 g5 a18 (fun (h21 : HW) => gR h21 a0 10 12 (fun (g23 : Nat) => gR h21 a0 10 12 (fun (g28 : Nat) => lR h21 (c 2) g28 a2 (fun (x32 : Nat) => (∃ m34 z34 mB34 zB34 : Nat, mB18 = m34 + mB34 ∧ zB18 = z34 + zB34 ∧ w_L_with c K h21 x32 a1 m34 z34 (fun (r34 : Option Nat) (h34 : HW) => dRf r34 (fun (a34 : Nat) => stA h34 (c 0) (c 2) g23 a2 a34 (fun (h37 : HW) => gI h37 a0 10 4 (fun (g40 : Int32) => (a2 = g40 → gR h37 a0 10 13 (fun (g47 : Nat) => stZ h37 (c 4) g47 a2 (0 : Int32) (fun (h52 : HW) => w_X10_plays__J53 c K a0 a1 a2 post h52 mB34 zB34))) ∧ (¬ a2 = g40 → w_X10_plays__J53 c K a0 a1 a2 post h37 mB34 zB34))))))))))))))))))

abbrev rm_X10_plays_ (mc ms : Nat) : Room := { frames := 2, cells := mc, slots := ms, locals := 49 }
theorem he_X10_plays_ : yX10_plays_.cls ≠ "java/lang/invoke/MethodHandle" ∧ yX10_plays_.cls ≠ "java/lang/invoke/VarHandle" ∧ (parseMethodDescriptor yX10_plays_.desc).map (fun d => d.parameters.length) = some 2 := by decide +kernel
theorem heV_X10_plays_ : yX10_plays_.cls = RX10 ∧ yX10_plays_.cls ≠ "java/lang/invoke/MethodHandle" ∧ yX10_plays_.cls ≠ "java/lang/invoke/VarHandle" ∧ (parseMethodDescriptor yX10_plays_.desc).map (fun d => d.parameters.length) = some 2 := by decide +kernel
set_option maxHeartbeats 4000000 in
set_option maxRecDepth 100000 in
theorem h_X10_plays_ (l : Launch) (G : va_G) (K : (Nat → Nat) × (Nat → Nat)) (c : Nat → ClassId) (h : HW) (a0 : Nat) (a1 : Int32) (a2 : Int32) (mc ms : Nat) (post : Int32 → HW → Prop) (hm : w_X10_plays_ c K h a0 a1 a2 mc ms post) : hMi l yX10_plays_ wsX10_plays_ (rm_X10_plays_ mc ms) G K (TY c) [.ref a0, .int a1, .int a2] h mc ms post := by
  refine hMi.of (cc := cX10_plays_) (maxL := 3) (lv := [(0, .ref a0), (1, .int a1), (2, .int a2)]) (by decide) rfl (Nat.le_of_ble_eq_true rfl) rfl ?_
  intro p e s m args below meth c1 A Q H locs hx hb hml hown hmn hts hK hN hZ hXX hP hD hA hS hend ls hl
  have hown : s.vm.findClass RX10 = some m.cls := hown
  have hi_10 : ∀ w ∈ u_ws RX10 TX10 17, w ∈ wsX10_plays_ := fun w h => (fun w h => List.mem_cons_of_mem _ (List.mem_append_right _ (h))) w h
  unfold w_X10_plays_ at hm
  have hf : 0 + mc ≤ mc ∧ 0 + ms ≤ ms := ⟨by omega, by omega⟩
  refine lv_aload_n hx hb dX10_plays__0 rfl (lv_at hl 0 rfl) ?_
  obtain ⟨wq1, fs1, g1, hq1, hv1, hm⟩ := hm
  refine mr_get (ci := 10) (C := RX10) (T := TX10) (N := 17) hx hb hts hi_10 hown hK (mRd hK hP hZ hS) hq1 rfl 10 (by decide) (hts (.fieldLink RX10 27 "HubTrainsLaw$Table" "hands" "[[I") ((List.mem_of_getElem? (i := 1) rfl))) (fun _ h9 => h9) hv1 dX10_plays__1 ?_
  refine lv_aload_n hx hb dX10_plays__4 rfl (lv_at hl 0 rfl) ?_
  obtain ⟨wq5, fs5, g5, hq5, hv5, hm⟩ := hm
  refine mr_get (ci := 10) (C := RX10) (T := TX10) (N := 17) hx hb hts hi_10 hown hK (mRd hK hP hZ hS) hq5 rfl 4 (by decide) (hts (.fieldLink RX10 49 "HubTrainsLaw$Table" "turn" "I") ((List.mem_of_getElem? (i := 2) rfl))) (fun _ h9 => h9) hv5 dX10_plays__5 ?_
  refine lv_aload_n hx hb dX10_plays__8 rfl (lv_at hl 0 rfl) ?_
  obtain ⟨wq9, fs9, g9, hq9, hv9, hm⟩ := hm
  refine mr_get (ci := 10) (C := RX10) (T := TX10) (N := 17) hx hb hts hi_10 hown hK (mRd hK hP hZ hS) hq9 rfl 10 (by decide) (hts (.fieldLink RX10 27 "HubTrainsLaw$Table" "hands" "[[I") ((List.mem_of_getElem? (i := 1) rfl))) (fun _ h9 => h9) hv9 dX10_plays__9 ?_
  refine lv_aload_n hx hb dX10_plays__12 rfl (lv_at hl 0 rfl) ?_
  obtain ⟨wq13, fs13, g13, hq13, hv13, hm⟩ := hm
  refine mr_get (ci := 10) (C := RX10) (T := TX10) (N := 17) hx hb hts hi_10 hown hK (mRd hK hP hZ hS) hq13 rfl 4 (by decide) (hts (.fieldLink RX10 49 "HubTrainsLaw$Table" "turn" "I") ((List.mem_of_getElem? (i := 2) rfl))) (fun _ h9 => h9) hv13 dX10_plays__13 ?_
  obtain ⟨wq16, n16, f16, x16, hq16, hi16, hv16, hm⟩ := hm
  refine mr_aldq (ty := (.array .int)) hx hb hK (mRd hK hP hZ hS) 2 rfl hq16 rfl hi16 dX10_plays__16 (fun o16 eo16 => ?_)
  obtain rfl := eo16.trans hv16
  refine lv_iload_n hx hb dX10_plays__17 rfl (lv_at hl 1 rfl) ?_
  obtain ⟨m18, z18, mB18, zB18, hbm18, hbs18, hm⟩ := hm
  refine hcSNq (As := [.ref x16, .int a1]) (rest := [.int g5, .ref g1]) ⟨hx, hb, hml, hown, hts⟩ (h_L_without l G K c h x16 a1 m18 z18 _ hm) ⟨va_cnB 2 hts gX10_plays__L_without_n114 rfl rfl rfl (nwm_HubTrainsLaw_Table_114 hN.2.1) (hts (.initialized RL) ((List.mem_of_getElem? (i := 9) rfl))) he_L_without ⟨Nat.le_of_ble_eq_true rfl, Nat.le_of_ble_eq_true rfl⟩, (hts (.static yL_without) ((List.mem_of_getElem? (i := 8) rfl))), trivial⟩ hK hN hZ hXX hP hD hS hA rfl hl.1 rfl (Nat.le_of_ble_eq_true rfl) dX10_plays__18 ⟨by show 0 + m18 ≤ mc; omega, by show 0 + z18 ≤ ms; omega⟩ (fun r18 h18 H locs hm hP hD hS => ?_)
  obtain ⟨a18, rfl, hm⟩ := hm
  replace hf : (0 + m18) + mB18 ≤ mc ∧ (0 + z18) + zB18 ≤ ms := ⟨by omega, by omega⟩
  clear hbm18 hbs18
  obtain ⟨n21, f21, wq21, xx21, hq21, hi21, hv21, hm⟩ := hm
  refine mr_aastA hx hb hXX.1.2 hK hP hZ hD hS 0 2 rfl rfl hq21 hv21 hi21 dX10_plays__21 (fun H locs hP hD hS => ?_)
  generalize hup h18 g1 (eQ (c 2) n21 (va_up f21 g5.toNatClampNeg (some a18))) = h21 at hm hP hD
  refine lv_aload_n hx hb dX10_plays__22 rfl (lv_at hl 0 rfl) ?_
  obtain ⟨wq23, fs23, g23, hq23, hv23, hm⟩ := hm
  refine mr_get (ci := 10) (C := RX10) (T := TX10) (N := 17) hx hb hts hi_10 hown hK (mRd hK hP hZ hS) hq23 rfl 12 (by decide) (hts (.fieldLink RX10 34 "HubTrainsLaw$Table" "trains" "[[I") ((List.mem_of_getElem? (i := 3) rfl))) (fun _ h9 => h9) hv23 dX10_plays__23 ?_
  refine lv_iload_n hx hb dX10_plays__26 rfl (lv_at hl 2 rfl) ?_
  refine lv_aload_n hx hb dX10_plays__27 rfl (lv_at hl 0 rfl) ?_
  obtain ⟨wq28, fs28, g28, hq28, hv28, hm⟩ := hm
  refine mr_get (ci := 10) (C := RX10) (T := TX10) (N := 17) hx hb hts hi_10 hown hK (mRd hK hP hZ hS) hq28 rfl 12 (by decide) (hts (.fieldLink RX10 34 "HubTrainsLaw$Table" "trains" "[[I") ((List.mem_of_getElem? (i := 3) rfl))) (fun _ h9 => h9) hv28 dX10_plays__28 ?_
  refine lv_iload_n hx hb dX10_plays__31 rfl (lv_at hl 2 rfl) ?_
  obtain ⟨wq32, n32, f32, x32, hq32, hi32, hv32, hm⟩ := hm
  refine mr_aldq (ty := (.array .int)) hx hb hK (mRd hK hP hZ hS) 2 rfl hq32 rfl hi32 dX10_plays__32 (fun o32 eo32 => ?_)
  obtain rfl := eo32.trans hv32
  refine lv_iload_n hx hb dX10_plays__33 rfl (lv_at hl 1 rfl) ?_
  obtain ⟨m34, z34, mB34, zB34, hbm34, hbs34, hm⟩ := hm
  refine hcSNq (As := [.ref x32, .int a1]) (rest := [.int a2, .ref g23]) ⟨hx, hb, hml, hown, hts⟩ (h_L_with l G K c h21 x32 a1 m34 z34 _ hm) ⟨va_cnB 2 hts gX10_plays__L_with_n83 rfl rfl rfl (nwm_HubTrainsLaw_Table_83 hN.2.1) (hts (.initialized RL) ((List.mem_of_getElem? (i := 9) rfl))) he_L_with ⟨Nat.le_of_ble_eq_true rfl, Nat.le_of_ble_eq_true rfl⟩, (hts (.static yL_with) ((List.mem_of_getElem? (i := 13) rfl))), trivial⟩ hK hN hZ hXX hP hD hS hA rfl hl.1 rfl (Nat.le_of_ble_eq_true rfl) dX10_plays__34 ⟨by show (0 + m18) + m34 ≤ mc; omega, by show (0 + z18) + z34 ≤ ms; omega⟩ (fun r34 h34 H locs hm hP hD hS => ?_)
  obtain ⟨a34, rfl, hm⟩ := hm
  replace hf : ((0 + m18) + m34) + mB34 ≤ mc ∧ ((0 + z18) + z34) + zB34 ≤ ms := ⟨by omega, by omega⟩
  clear hbm34 hbs34
  obtain ⟨n37, f37, wq37, xx37, hq37, hi37, hv37, hm⟩ := hm
  refine mr_aastA hx hb hXX.1.2 hK hP hZ hD hS 0 2 rfl rfl hq37 hv37 hi37 dX10_plays__37 (fun H locs hP hD hS => ?_)
  generalize hup h34 g23 (eQ (c 2) n37 (va_up f37 a2.toNatClampNeg (some a34))) = h37 at hm hP hD
  refine lv_iload_n hx hb dX10_plays__38 rfl (lv_at hl 2 rfl) ?_
  refine lv_aload_n hx hb dX10_plays__39 rfl (lv_at hl 0 rfl) ?_
  obtain ⟨wq40, fs40, g40, hq40, hv40, hm⟩ := hm
  refine mr_get (ci := 10) (C := RX10) (T := TX10) (N := 17) hx hb hts hi_10 hown hK (mRd hK hP hZ hS) hq40 rfl 4 (by decide) (hts (.fieldLink RX10 49 "HubTrainsLaw$Table" "turn" "I") ((List.mem_of_getElem? (i := 2) rfl))) (fun _ h9 => h9) hv40 dX10_plays__40 ?_
  have J_53 : ∀ (h_53 : HW) (mc_53 ms_53 : Nat) (cl_53 sl_53 : Nat) (H : Heap) (locs : List Loc) (ls : Array Slot), cl_53 + mc_53 ≤ mc ∧ sl_53 + ms_53 ≤ ms → mP G K h_53 H → mD A h_53 → va_S A s.heap H locs → lv_has ls 3 [(0, .ref a0), (1, .int a1), (2, .int a2)] → w_X10_plays__J53 c K a0 a1 a2 post h_53 mc_53 ms_53 → W p l e (rm_X10_plays_ mc ms) s m args below meth c1 H locs cl_53 sl_53 Q (F0 m 53 ls []) := by
    intro h_53 mc_53 ms_53 cl_53 sl_53 H locs ls hf hP hD hS hl hm
    unfold w_X10_plays__J53 at hm
    refine lv_aload_n hx hb dX10_plays__53 rfl (lv_at hl 0 rfl) ?_
    refine lv_iconst (v := 0) hx hb dX10_plays__54 (by decide) ?_
    obtain ⟨fs55, hq55, hl55, hm⟩ := hm
    refine mr_put (v := .int (0 : Int32)) (ci := 10) (C := RX10) (T := TX10) (N := 17) hx hb hts hi_10 tyX10 (fun k hk => tyX10_ok k (Nat.lt_of_lt_of_le hk (by decide))) (fun a ha b hb => nmX10 a (Nat.lt_of_lt_of_le ha (by decide)) b (Nat.lt_of_lt_of_le hb (by decide))) hown hK hP hD hS hq55 rfl 9 (by decide) (hts (.fieldLink RX10 62 "HubTrainsLaw$Table" "passes" "I") ((List.mem_of_getElem? (i := 5) rfl))) (fun _ h9 => h9) rfl (tyX10_ok 9 (by decide)) rfl rfl hl55 dX10_plays__55 (fun H locs hP hD hS => ?_)
    generalize hup h_53 a0 (.inr (10, fs55.set 9 (.int (0 : Int32)))) = h55 at hm hP hD
    refine lv_aload_n hx hb dX10_plays__58 rfl (lv_at hl 0 rfl) ?_
    refine lv_iload_n hx hb dX10_plays__59 rfl (lv_at hl 1 rfl) ?_
    refine lv_bipush (v := 11) hx hb dX10_plays__60 (by decide) ?_
    refine lv_irem hx hb dX10_plays__62 (by decide) ?_
    refine lv_topi (fun x62 ex62 => ?_)
    have hm := hm x62 ex62
    have J_71 : ∀ (mc_71 ms_71 : Nat) (s0_71 : Int32) (s1_71 : Nat) (cl_71 sl_71 : Nat) (H : Heap) (locs : List Loc) (ls : Array Slot), cl_71 + mc_71 ≤ mc ∧ sl_71 + ms_71 ≤ ms → mP G K h55 H → mD A h55 → va_S A s.heap H locs → lv_has ls 3 [(0, .ref a0), (2, .int a2)] → w_X10_plays__J71 c K a0 a2 post h55 mc_71 ms_71 s0_71 s1_71 → W p l e (rm_X10_plays_ mc ms) s m args below meth c1 H locs cl_71 sl_71 Q (F0 m 71 ls [.int s0_71, .ref s1_71]) := by
      intro mc_71 ms_71 s0_71 s1_71 cl_71 sl_71 H locs ls hf hP hD hS hl hm
      unfold w_X10_plays__J71 at hm
      obtain ⟨fs71, hq71, hl71, hm⟩ := hm
      refine mr_put (v := .int s0_71) (ci := 10) (C := RX10) (T := TX10) (N := 17) hx hb hts hi_10 tyX10 (fun k hk => tyX10_ok k (Nat.lt_of_lt_of_le hk (by decide))) (fun a ha b hb => nmX10 a (Nat.lt_of_lt_of_le ha (by decide)) b (Nat.lt_of_lt_of_le hb (by decide))) hown hK hP hD hS hq71 rfl 6 (by decide) (hts (.fieldLink RX10 22 "HubTrainsLaw$Table" "cover" "I") ((List.mem_of_getElem? (i := 6) rfl))) (fun _ h9 => h9) rfl (tyX10_ok 6 (by decide)) rfl rfl hl71 dX10_plays__71 (fun H locs hP hD hS => ?_)
      generalize hup h55 s1_71 (.inr (10, fs71.set 6 (.int s0_71))) = h71 at hm hP hD
      refine lv_aload_n hx hb dX10_plays__74 rfl (lv_at hl 0 rfl) ?_
      obtain ⟨wq75, fs75, g75, hq75, hv75, hm⟩ := hm
      refine mr_get (ci := 10) (C := RX10) (T := TX10) (N := 17) hx hb hts hi_10 hown hK (mRd hK hP hZ hS) hq75 rfl 10 (by decide) (hts (.fieldLink RX10 27 "HubTrainsLaw$Table" "hands" "[[I") ((List.mem_of_getElem? (i := 1) rfl))) (fun _ h9 => h9) hv75 dX10_plays__75 ?_
      refine lv_aload_n hx hb dX10_plays__78 rfl (lv_at hl 0 rfl) ?_
      obtain ⟨wq79, fs79, g79, hq79, hv79, hm⟩ := hm
      refine mr_get (ci := 10) (C := RX10) (T := TX10) (N := 17) hx hb hts hi_10 hown hK (mRd hK hP hZ hS) hq79 rfl 4 (by decide) (hts (.fieldLink RX10 49 "HubTrainsLaw$Table" "turn" "I") ((List.mem_of_getElem? (i := 2) rfl))) (fun _ h9 => h9) hv79 dX10_plays__79 ?_
      obtain ⟨wq82, n82, f82, x82, hq82, hi82, hv82, hm⟩ := hm
      refine mr_aldq (ty := (.array .int)) hx hb hK (mRd hK hP hZ hS) 2 rfl hq82 rfl hi82 dX10_plays__82 (fun o82 eo82 => ?_)
      obtain rfl := eo82.trans hv82
      obtain ⟨wq83, xx83, hq83, hm⟩ := hm
      refine mr_alen hx hb hK (mRd hK hP hZ hS) 0 hq83 rfl dX10_plays__83 (fun x83 ex83 => ?_)
      have hm := hm x83 ex83
      have J_113 : ∀ (h_113 : HW) (mc_113 ms_113 : Nat) (cl_113 sl_113 : Nat) (H : Heap) (locs : List Loc) (ls : Array Slot), cl_113 + mc_113 ≤ mc ∧ sl_113 + ms_113 ≤ ms → mP G K h_113 H → mD A h_113 → va_S A s.heap H locs → lv_has ls 3 [(0, .ref a0), (2, .int a2)] → w_X10_plays__J113 c K a0 a2 post h_113 mc_113 ms_113 → W p l e (rm_X10_plays_ mc ms) s m args below meth c1 H locs cl_113 sl_113 Q (F0 m 113 ls []) := by
        intro h_113 mc_113 ms_113 cl_113 sl_113 H locs ls hf hP hD hS hl hm
        unfold w_X10_plays__J113 at hm
        refine lv_aload_n hx hb dX10_plays__113 rfl (lv_at hl 0 rfl) ?_
        refine lv_iload_n hx hb dX10_plays__114 rfl (lv_at hl 1 rfl) ?_
        obtain ⟨⟨wr115, fr115, hrq115⟩, hm⟩ := hm
        refine hcVi (As := [.int a2]) (rest := []) ⟨hx, hb, hml, hown, hts⟩ (h_X10_end l G K c h_113 a0 a2 _ hm) (cwV 1 hts gX10_plays__X10_end rfl rfl rfl (heV_X10_end) ⟨Nat.le_of_ble_eq_true rfl, Nat.le_of_ble_eq_true rfl⟩) hK hN hZ hXX hP hD hS hA (mr_recv hK (mRd hK hP hZ hS) (ci := 10) rfl hrq115) rfl hl.1 rfl (Nat.le_of_ble_eq_true rfl) dX10_plays__115 ⟨by show cl_113 + 0 ≤ mc; omega, by show sl_113 + 0 ≤ ms; omega⟩ (fun r115 h115 H locs hm hP hD hS => ?_)
        exact hend H locs ls 118 _ _ r115 h115 (by omega) (by omega) rfl hm hP hD hS dX10_plays__118
      refine lv_if_ne (tgt := 94) hx hb dX10_plays__84 (by decide) (fun c_84 => ?_) (fun c_84 => ?_)
      · have hm := hm.2 c_84
        refine lv_aload_n hx hb dX10_plays__94 rfl (lv_at hl 0 rfl) ?_
        obtain ⟨wq95, fs95, g95, hq95, hv95, hm⟩ := hm
        refine mr_get (ci := 10) (C := RX10) (T := TX10) (N := 17) hx hb hts hi_10 hown hK (mRd hK hP hZ hS) hq95 rfl 6 (by decide) (hts (.fieldLink RX10 22 "HubTrainsLaw$Table" "cover" "I") ((List.mem_of_getElem? (i := 6) rfl))) (fun _ h9 => h9) hv95 dX10_plays__95 ?_
        refine lv_if_ge (tgt := 108) hx hb dX10_plays__98 (by decide) (fun c_98 => ?_) (fun c_98 => ?_)
        · have hm := hm.1 c_98
          refine lv_aload_n hx hb dX10_plays__108 rfl (lv_at hl 0 rfl) ?_
          refine lv_iconst (v := 0) hx hb dX10_plays__109 (by decide) ?_
          obtain ⟨fs110, hq110, hl110, hz110, hm⟩ := hm
          refine mr_put (v := .int (0 : Int32)) (ci := 10) (C := RX10) (T := TX10) (N := 17) hx hb hts hi_10 tyX10 (fun k hk => tyX10_ok k (Nat.lt_of_lt_of_le hk (by decide))) (fun a ha b hb => nmX10 a (Nat.lt_of_lt_of_le ha (by decide)) b (Nat.lt_of_lt_of_le hb (by decide))) hown hK hP hD hS hq110 rfl 5 (by decide) (hts (.fieldLink RX10 52 "HubTrainsLaw$Table" "drew" "Z") ((List.mem_of_getElem? (i := 7) rfl))) (fun _ h9 => h9) rfl (tyX10_ok 5 (by decide)) (z01_n hz110) (z01_f hz110) hl110 dX10_plays__110 (fun H locs hP hD hS => ?_)
          generalize hup h71 a0 (.inr (10, fs110.set 5 (.int (0 : Int32)))) = h110 at hm hP hD
          exact J_113 h110 mc_71 ms_71 cl_71 sl_71 H locs ls ⟨by omega, by omega⟩ hP hD hS (lv_sub hl [0, 1] rfl) hm
        · have hm := hm.2 c_98
          refine lv_aload_n hx hb dX10_plays__101 rfl (lv_at hl 0 rfl) ?_
          obtain ⟨⟨wr102, fr102, hrq102⟩, hm⟩ := hm
          refine hcVv (As := []) (rest := []) ⟨hx, hb, hml, hown, hts⟩ (h_X10_next l G K c h71 a0 _ hm) (cwV 0 hts gX10_plays__X10_next rfl rfl rfl (heV_X10_next) ⟨Nat.le_of_ble_eq_true rfl, Nat.le_of_ble_eq_true rfl⟩) hK hN hZ hXX hP hD hS hA (mr_recv hK (mRd hK hP hZ hS) (ci := 10) rfl hrq102) rfl hl.1 rfl (Nat.le_of_ble_eq_true rfl) dX10_plays__102 ⟨by show cl_71 + 0 ≤ mc; omega, by show sl_71 + 0 ≤ ms; omega⟩ (fun h102 H locs hm hP hD hS => ?_)
          refine lv_goto (tgt := 113) hx hb dX10_plays__105 (by decide) ?_
          exact J_113 h102 mc_71 ms_71 cl_71 sl_71 H locs ls ⟨by omega, by omega⟩ hP hD hS (lv_sub hl [0, 1] rfl) hm
      · have hm := hm.1 c_84
        refine lv_aload_n hx hb dX10_plays__87 rfl (lv_at hl 0 rfl) ?_
        obtain ⟨⟨wr88, fr88, hrq88⟩, hm⟩ := hm
        refine hcVv (As := []) (rest := []) ⟨hx, hb, hml, hown, hts⟩ (h_X10_ends l G K c h71 a0 _ hm) (cwV 0 hts gX10_plays__X10_ends rfl rfl rfl (heV_X10_ends) ⟨Nat.le_of_ble_eq_true rfl, Nat.le_of_ble_eq_true rfl⟩) hK hN hZ hXX hP hD hS hA (mr_recv hK (mRd hK hP hZ hS) (ci := 10) rfl hrq88) rfl hl.1 rfl (Nat.le_of_ble_eq_true rfl) dX10_plays__88 ⟨by show cl_71 + 0 ≤ mc; omega, by show sl_71 + 0 ≤ ms; omega⟩ (fun h88 H locs hm hP hD hS => ?_)
        refine lv_goto (tgt := 113) hx hb dX10_plays__91 (by decide) ?_
        exact J_113 h88 mc_71 ms_71 cl_71 sl_71 H locs ls ⟨by omega, by omega⟩ hP hD hS (lv_sub hl [0, 1] rfl) hm
    refine lv_if_ne (tgt := 70) hx hb dX10_plays__63 (by decide) (fun c_63 => ?_) (fun c_63 => ?_)
    · have hm := hm.2 c_63
      refine lv_iconst (v := (-1)) hx hb dX10_plays__70 (by decide) ?_
      exact J_71 mc_53 ms_53 (-1 : Int32) a0 cl_53 sl_53 H locs ls ⟨by omega, by omega⟩ hP hD hS (lv_sub hl [0, 2] rfl) hm
    · have hm := hm.1 c_63
      refine lv_iload_n hx hb dX10_plays__66 rfl (lv_at hl 2 rfl) ?_
      refine lv_goto (tgt := 71) hx hb dX10_plays__67 (by decide) ?_
      exact J_71 mc_53 ms_53 a2 a0 cl_53 sl_53 H locs ls ⟨by omega, by omega⟩ hP hD hS (lv_sub hl [0, 2] rfl) hm
  refine lv_icmp_ne (tgt := 53) hx hb dX10_plays__43 (by decide) (fun c_43 => ?_) (fun c_43 => ?_)
  · have hm := hm.2 c_43
    exact J_53 h37 mB34 zB34 ((0 + m18) + m34) ((0 + z18) + z34) H locs ls ⟨by omega, by omega⟩ hP hD hS (lv_sub hl [0, 1, 2] rfl) hm
  · have hm := hm.1 c_43
    refine lv_aload_n hx hb dX10_plays__46 rfl (lv_at hl 0 rfl) ?_
    obtain ⟨wq47, fs47, g47, hq47, hv47, hm⟩ := hm
    refine mr_get (ci := 10) (C := RX10) (T := TX10) (N := 17) hx hb hts hi_10 hown hK (mRd hK hP hZ hS) hq47 rfl 13 (by decide) (hts (.fieldLink RX10 37 "HubTrainsLaw$Table" "isOpen" "[Z") ((List.mem_of_getElem? (i := 4) rfl))) (fun _ h9 => h9) hv47 dX10_plays__47 ?_
    refine lv_iload_n hx hb dX10_plays__50 rfl (lv_at hl 2 rfl) ?_
    refine lv_iconst (v := 0) hx hb dX10_plays__51 (by decide) ?_
    obtain ⟨n52, f52, hq52, hi52, hz52, hm⟩ := hm
    refine mr_zast hx hb hK hP hD hS 4 hq52 rfl hz52 hi52 dX10_plays__52 (fun H locs hP hD hS => ?_)
    generalize hup h37 g47 (eI (c 4) n52 (upd f52 a2.toNatClampNeg (0 : Int32))) = h52 at hm hP hD
    exact J_53 h52 mB34 zB34 ((0 + m18) + m34) ((0 + z18) + z34) H locs ls ⟨by omega, by omega⟩ hP hD hS (lv_sub hl [0, 1, 2] rfl) hm

def w_X10_draws_B13 (c : Nat → ClassId) (K : (Nat → Nat) × (Nat → Nat)) (a0 : Nat) (post : Int32 → HW → Prop) (x5 : Int32) (rec_13 : HW → Nat → Nat → Nat → Int32 → Prop) (h_13 : HW) (mc_13 : Nat) (ms_13 : Nat) (v2_13 : Nat) (v3_13 : Int32) : Prop :=
  gR h_13 a0 10 14 (fun (g15 : Nat) => lenA h_13 (c 0) g15 (fun (x18 : Int32) => (x18 ≤ v3_13 → pV h_13 a0 10 14 (.ref v2_13) (fun (h41 : HW) => gR h41 a0 10 10 (fun (g45 : Nat) => gI h41 a0 10 4 (fun (g49 : Int32) => gR h41 a0 10 10 (fun (g53 : Nat) => gI h41 a0 10 4 (fun (g57 : Int32) => lR h41 (c 2) g53 g57 (fun (x60 : Nat) => (∃ m62 z62 mB62 zB62 : Nat, mc_13 = m62 + mB62 ∧ ms_13 = z62 + zB62 ∧ w_L_with c K h41 x60 x5 m62 z62 (fun (r62 : Option Nat) (h62 : HW) => dRf r62 (fun (a62 : Nat) => stA h62 (c 0) (c 2) g45 g49 a62 (fun (h65 : HW) => pZ h65 a0 10 5 (1 : Int32) (fun (h68 : HW) => pV h68 a0 10 9 (.int (0 : Int32)) (fun (h73 : HW) => post x5 h73))))))))))))) ∧ (¬ x18 ≤ v3_13 → gR h_13 a0 10 14 (fun (g24 : Nat) => lI h_13 (c 0) g24 v3_13 (fun (x28 : Int32) => (∃ m29 z29 mB29 zB29 : Nat, mc_13 = m29 + mB29 ∧ ms_13 = z29 + zB29 ∧ w_L_with c K h_13 v2_13 x28 m29 z29 (fun (r29 : Option Nat) (h29 : HW) => dRf r29 (fun (a29 : Nat) => ∀ x33 : Int32, x33 = (v3_13 + 1) → (rec_13 h29 mB29 zB29 a29 x33)))))))))

def w_X10_draws (c : Nat → ClassId) (K : (Nat → Nat) × (Nat → Nat)) (h : HW) (a0 : Nat) (mc ms : Nat) (post : Int32 → HW → Prop) : Prop :=
  gR h a0 10 14 (fun (g1 : Nat) => lI h (c 0) g1 (0 : Int32) (fun (x5 : Int32) => nwI h (c 0) (0 : Int32) mc ms (fun (q8 : Nat) (h8 : HW) (mB8 zB8 : Nat) => ∃ n_13 : Nat, itP5 (w_X10_draws_B13 c K a0 post x5) n_13 h8 mB8 zB8 q8 (1 : Int32))))

abbrev rm_X10_draws (mc ms : Nat) : Room := { frames := 1, cells := mc, slots := ms, locals := 23 }
theorem he_X10_draws : yX10_draws.cls ≠ "java/lang/invoke/MethodHandle" ∧ yX10_draws.cls ≠ "java/lang/invoke/VarHandle" ∧ (parseMethodDescriptor yX10_draws.desc).map (fun d => d.parameters.length) = some 0 := by decide +kernel
theorem heV_X10_draws : yX10_draws.cls = RX10 ∧ yX10_draws.cls ≠ "java/lang/invoke/MethodHandle" ∧ yX10_draws.cls ≠ "java/lang/invoke/VarHandle" ∧ (parseMethodDescriptor yX10_draws.desc).map (fun d => d.parameters.length) = some 0 := by decide +kernel
set_option maxHeartbeats 4000000 in
set_option maxRecDepth 100000 in
theorem h_X10_draws (l : Launch) (G : va_G) (K : (Nat → Nat) × (Nat → Nat)) (c : Nat → ClassId) (h : HW) (a0 : Nat) (mc ms : Nat) (post : Int32 → HW → Prop) (hm : w_X10_draws c K h a0 mc ms post) : hMi l yX10_draws wsX10_draws (rm_X10_draws mc ms) G K (TY c) [.ref a0] h mc ms post := by
  refine hMi.of (cc := cX10_draws) (maxL := 4) (lv := [(0, .ref a0)]) (by decide) rfl (Nat.le_of_ble_eq_true rfl) rfl ?_
  intro p e s m args below meth c1 A Q H locs hx hb hml hown hmn hts hK hN hZ hXX hP hD hA hS hend ls hl
  have hown : s.vm.findClass RX10 = some m.cls := hown
  have hi_10 : ∀ w ∈ u_ws RX10 TX10 17, w ∈ wsX10_draws := fun w h => (fun w h => List.mem_cons_of_mem _ (List.mem_append_right _ (h))) w h
  unfold w_X10_draws at hm
  have hf : 0 + mc ≤ mc ∧ 0 + ms ≤ ms := ⟨by omega, by omega⟩
  refine lv_aload_n hx hb dX10_draws_0 rfl (lv_at hl 0 rfl) ?_
  obtain ⟨wq1, fs1, g1, hq1, hv1, hm⟩ := hm
  refine mr_get (ci := 10) (C := RX10) (T := TX10) (N := 17) hx hb hts hi_10 hown hK (mRd hK hP hZ hS) hq1 rfl 14 (by decide) (hts (.fieldLink RX10 41 "HubTrainsLaw$Table" "stock" "[I") ((List.mem_of_getElem? (i := 1) rfl))) (fun _ h9 => h9) hv1 dX10_draws_1 ?_
  refine lv_iconst (v := 0) hx hb dX10_draws_4 (by decide) ?_
  obtain ⟨wq5, n5, f5, hq5, hi5, hm⟩ := hm
  refine mr_iald hx hb hK (mRd hK hP hZ hS) 0 hq5 rfl hi5 dX10_draws_5 (fun x5 ex5 => ?_)
  have hm := hm x5 ex5
  refine lv_istore_n (lv' := [(1, .int x5), (0, .ref a0)]) hx hb dX10_draws_6 rfl hl (by decide) rfl (fun ls hl => ?_)
  refine lv_iconst (v := 0) hx hb dX10_draws_7 (by decide) ?_
  obtain ⟨hn8, hb8, mB8, zB8, hc8, hs8, hm⟩ := hm
  refine mr_newa (atype := .int) (a0 := (fun N => (N, .inl (fun _ => 0)))) hx hb (hts (.arrayClass .int) ((List.mem_of_getElem? (i := 2) rfl))) hK 0 rfl hP hD hS hA (fun _ => rfl) hn8 (c65 hb8 (by decide)) (by show 0 + 1 ≤ mc; omega) (by show 0 + _ ≤ ms; omega) dX10_draws_8 (fun q8 H hfr8 hP hD hS => ?_)
  have hm := hm q8 hfr8
  generalize hup h q8 (eI (c 0) (0 : Int32).toNatClampNeg (fun _ => 0)) = h8 at hm hP hD
  replace hf : (0 + 1) + mB8 ≤ mc ∧ (0 + (0 : Int32).toNatClampNeg) + zB8 ≤ ms := ⟨by omega, by omega⟩
  clear hc8 hs8 hb8
  refine lv_astore_n (lv' := [(2, .ref q8), (1, .int x5), (0, .ref a0)]) hx hb dX10_draws_10 rfl hl (by decide) rfl (fun ls hl => ?_)
  refine lv_iconst (v := 1) hx hb dX10_draws_11 (by decide) ?_
  refine lv_istore_n (lv' := [(3, .int (1 : Int32)), (2, .ref q8), (1, .int x5), (0, .ref a0)]) hx hb dX10_draws_12 rfl hl (by decide) rfl (fun ls hl => ?_)
  obtain ⟨n_13, hm⟩ := hm
  have L_13 : ∀ (n_13 : Nat) (h_13 : HW) (mc_13 : Nat) (ms_13 : Nat) (v2_13 : Nat) (v3_13 : Int32) (cl_13 sl_13 : Nat) (H : Heap) (locs : List Loc) (ls : Array Slot), cl_13 + mc_13 ≤ mc ∧ sl_13 + ms_13 ≤ ms → mP G K h_13 H → mD A h_13 → va_S A s.heap H locs → lv_has ls 4 [(0, .ref a0), (1, .int x5), (2, .ref v2_13), (3, .int v3_13)] → itP5 (w_X10_draws_B13 c K a0 post x5) n_13 h_13 mc_13 ms_13 v2_13 v3_13 → W p l e (rm_X10_draws mc ms) s m args below meth c1 H locs cl_13 sl_13 Q (F0 m 13 ls []) := by
    intro n_13
    induction n_13 with
    | zero => intro h_13 mc_13 ms_13 v2_13 v3_13 cl_13 sl_13 H locs ls hf hP hD hS hl hm; exact hm.elim
    | succ n_13 ih_13 =>
      intro h_13 mc_13 ms_13 v2_13 v3_13 cl_13 sl_13 H locs ls hf hP hD hS hl hm
      have hm : (w_X10_draws_B13 c K a0 post x5) (itP5 (w_X10_draws_B13 c K a0 post x5) n_13) h_13 mc_13 ms_13 v2_13 v3_13 := hm
      generalize itP5 (w_X10_draws_B13 c K a0 post x5) n_13 = rec_13 at hm ih_13
      unfold w_X10_draws_B13 at hm
      refine lv_iload_n hx hb dX10_draws_13 rfl (lv_at hl 3 rfl) ?_
      refine lv_aload_n hx hb dX10_draws_14 rfl (lv_at hl 0 rfl) ?_
      obtain ⟨wq15, fs15, g15, hq15, hv15, hm⟩ := hm
      refine mr_get (ci := 10) (C := RX10) (T := TX10) (N := 17) hx hb hts hi_10 hown hK (mRd hK hP hZ hS) hq15 rfl 14 (by decide) (hts (.fieldLink RX10 41 "HubTrainsLaw$Table" "stock" "[I") ((List.mem_of_getElem? (i := 1) rfl))) (fun _ h9 => h9) hv15 dX10_draws_15 ?_
      obtain ⟨wq18, xx18, hq18, hm⟩ := hm
      refine mr_alen hx hb hK (mRd hK hP hZ hS) 0 hq18 rfl dX10_draws_18 (fun x18 ex18 => ?_)
      have hm := hm x18 ex18
      refine lv_icmp_ge (tgt := 39) hx hb dX10_draws_19 (by decide) (fun c_19 => ?_) (fun c_19 => ?_)
      · have hm := hm.1 c_19
        refine lv_aload_n hx hb dX10_draws_39 rfl (lv_at hl 0 rfl) ?_
        refine lv_aload_n hx hb dX10_draws_40 rfl (lv_at hl 2 rfl) ?_
        obtain ⟨fs41, hq41, hl41, hm⟩ := hm
        refine mr_put (v := .ref v2_13) (ci := 10) (C := RX10) (T := TX10) (N := 17) hx hb hts hi_10 tyX10 (fun k hk => tyX10_ok k (Nat.lt_of_lt_of_le hk (by decide))) (fun a ha b hb => nmX10 a (Nat.lt_of_lt_of_le ha (by decide)) b (Nat.lt_of_lt_of_le hb (by decide))) hown hK hP hD hS hq41 rfl 14 (by decide) (hts (.fieldLink RX10 41 "HubTrainsLaw$Table" "stock" "[I") ((List.mem_of_getElem? (i := 1) rfl))) (fun _ h9 => h9) rfl (tyX10_ok 14 (by decide)) rfl rfl hl41 dX10_draws_41 (fun H locs hP hD hS => ?_)
        generalize hup h_13 a0 (.inr (10, fs41.set 14 (.ref v2_13))) = h41 at hm hP hD
        refine lv_aload_n hx hb dX10_draws_44 rfl (lv_at hl 0 rfl) ?_
        obtain ⟨wq45, fs45, g45, hq45, hv45, hm⟩ := hm
        refine mr_get (ci := 10) (C := RX10) (T := TX10) (N := 17) hx hb hts hi_10 hown hK (mRd hK hP hZ hS) hq45 rfl 10 (by decide) (hts (.fieldLink RX10 27 "HubTrainsLaw$Table" "hands" "[[I") ((List.mem_of_getElem? (i := 3) rfl))) (fun _ h9 => h9) hv45 dX10_draws_45 ?_
        refine lv_aload_n hx hb dX10_draws_48 rfl (lv_at hl 0 rfl) ?_
        obtain ⟨wq49, fs49, g49, hq49, hv49, hm⟩ := hm
        refine mr_get (ci := 10) (C := RX10) (T := TX10) (N := 17) hx hb hts hi_10 hown hK (mRd hK hP hZ hS) hq49 rfl 4 (by decide) (hts (.fieldLink RX10 49 "HubTrainsLaw$Table" "turn" "I") ((List.mem_of_getElem? (i := 4) rfl))) (fun _ h9 => h9) hv49 dX10_draws_49 ?_
        refine lv_aload_n hx hb dX10_draws_52 rfl (lv_at hl 0 rfl) ?_
        obtain ⟨wq53, fs53, g53, hq53, hv53, hm⟩ := hm
        refine mr_get (ci := 10) (C := RX10) (T := TX10) (N := 17) hx hb hts hi_10 hown hK (mRd hK hP hZ hS) hq53 rfl 10 (by decide) (hts (.fieldLink RX10 27 "HubTrainsLaw$Table" "hands" "[[I") ((List.mem_of_getElem? (i := 3) rfl))) (fun _ h9 => h9) hv53 dX10_draws_53 ?_
        refine lv_aload_n hx hb dX10_draws_56 rfl (lv_at hl 0 rfl) ?_
        obtain ⟨wq57, fs57, g57, hq57, hv57, hm⟩ := hm
        refine mr_get (ci := 10) (C := RX10) (T := TX10) (N := 17) hx hb hts hi_10 hown hK (mRd hK hP hZ hS) hq57 rfl 4 (by decide) (hts (.fieldLink RX10 49 "HubTrainsLaw$Table" "turn" "I") ((List.mem_of_getElem? (i := 4) rfl))) (fun _ h9 => h9) hv57 dX10_draws_57 ?_
        obtain ⟨wq60, n60, f60, x60, hq60, hi60, hv60, hm⟩ := hm
        refine mr_aldq (ty := (.array .int)) hx hb hK (mRd hK hP hZ hS) 2 rfl hq60 rfl hi60 dX10_draws_60 (fun o60 eo60 => ?_)
        obtain rfl := eo60.trans hv60
        refine lv_iload_n hx hb dX10_draws_61 rfl (lv_at hl 1 rfl) ?_
        obtain ⟨m62, z62, mB62, zB62, hbm62, hbs62, hm⟩ := hm
        refine hcSNq (As := [.ref x60, .int x5]) (rest := [.int g49, .ref g45]) ⟨hx, hb, hml, hown, hts⟩ (h_L_with l G K c h41 x60 x5 m62 z62 _ hm) ⟨va_cnB 2 hts gX10_draws_L_with_n83 rfl rfl rfl (nwm_HubTrainsLaw_Table_83 hN.2.1) (hts (.initialized RL) ((List.mem_of_getElem? (i := 8) rfl))) he_L_with ⟨Nat.le_of_ble_eq_true rfl, Nat.le_of_ble_eq_true rfl⟩, (hts (.static yL_with) ((List.mem_of_getElem? (i := 7) rfl))), trivial⟩ hK hN hZ hXX hP hD hS hA rfl hl.1 rfl (Nat.le_of_ble_eq_true rfl) dX10_draws_62 ⟨by show cl_13 + m62 ≤ mc; omega, by show sl_13 + z62 ≤ ms; omega⟩ (fun r62 h62 H locs hm hP hD hS => ?_)
        obtain ⟨a62, rfl, hm⟩ := hm
        replace hf : (cl_13 + m62) + mB62 ≤ mc ∧ (sl_13 + z62) + zB62 ≤ ms := ⟨by omega, by omega⟩
        clear hbm62 hbs62
        obtain ⟨n65, f65, wq65, xx65, hq65, hi65, hv65, hm⟩ := hm
        refine mr_aastA hx hb hXX.1.2 hK hP hZ hD hS 0 2 rfl rfl hq65 hv65 hi65 dX10_draws_65 (fun H locs hP hD hS => ?_)
        generalize hup h62 g45 (eQ (c 2) n65 (va_up f65 g49.toNatClampNeg (some a62))) = h65 at hm hP hD
        refine lv_aload_n hx hb dX10_draws_66 rfl (lv_at hl 0 rfl) ?_
        refine lv_iconst (v := 1) hx hb dX10_draws_67 (by decide) ?_
        obtain ⟨fs68, hq68, hl68, hz68, hm⟩ := hm
        refine mr_put (v := .int (1 : Int32)) (ci := 10) (C := RX10) (T := TX10) (N := 17) hx hb hts hi_10 tyX10 (fun k hk => tyX10_ok k (Nat.lt_of_lt_of_le hk (by decide))) (fun a ha b hb => nmX10 a (Nat.lt_of_lt_of_le ha (by decide)) b (Nat.lt_of_lt_of_le hb (by decide))) hown hK hP hD hS hq68 rfl 5 (by decide) (hts (.fieldLink RX10 52 "HubTrainsLaw$Table" "drew" "Z") ((List.mem_of_getElem? (i := 5) rfl))) (fun _ h9 => h9) rfl (tyX10_ok 5 (by decide)) (z01_n hz68) (z01_f hz68) hl68 dX10_draws_68 (fun H locs hP hD hS => ?_)
        generalize hup h65 a0 (.inr (10, fs68.set 5 (.int (1 : Int32)))) = h68 at hm hP hD
        refine lv_aload_n hx hb dX10_draws_71 rfl (lv_at hl 0 rfl) ?_
        refine lv_iconst (v := 0) hx hb dX10_draws_72 (by decide) ?_
        obtain ⟨fs73, hq73, hl73, hm⟩ := hm
        refine mr_put (v := .int (0 : Int32)) (ci := 10) (C := RX10) (T := TX10) (N := 17) hx hb hts hi_10 tyX10 (fun k hk => tyX10_ok k (Nat.lt_of_lt_of_le hk (by decide))) (fun a ha b hb => nmX10 a (Nat.lt_of_lt_of_le ha (by decide)) b (Nat.lt_of_lt_of_le hb (by decide))) hown hK hP hD hS hq73 rfl 9 (by decide) (hts (.fieldLink RX10 62 "HubTrainsLaw$Table" "passes" "I") ((List.mem_of_getElem? (i := 6) rfl))) (fun _ h9 => h9) rfl (tyX10_ok 9 (by decide)) rfl rfl hl73 dX10_draws_73 (fun H locs hP hD hS => ?_)
        generalize hup h68 a0 (.inr (10, fs73.set 9 (.int (0 : Int32)))) = h73 at hm hP hD
        refine lv_iload_n hx hb dX10_draws_76 rfl (lv_at hl 1 rfl) ?_
        exact hend H locs ls 77 _ _ x5 h73 (by omega) (by omega) rfl hm hP hD hS dX10_draws_77
      · have hm := hm.2 c_19
        refine lv_aload_n hx hb dX10_draws_22 rfl (lv_at hl 2 rfl) ?_
        refine lv_aload_n hx hb dX10_draws_23 rfl (lv_at hl 0 rfl) ?_
        obtain ⟨wq24, fs24, g24, hq24, hv24, hm⟩ := hm
        refine mr_get (ci := 10) (C := RX10) (T := TX10) (N := 17) hx hb hts hi_10 hown hK (mRd hK hP hZ hS) hq24 rfl 14 (by decide) (hts (.fieldLink RX10 41 "HubTrainsLaw$Table" "stock" "[I") ((List.mem_of_getElem? (i := 1) rfl))) (fun _ h9 => h9) hv24 dX10_draws_24 ?_
        refine lv_iload_n hx hb dX10_draws_27 rfl (lv_at hl 3 rfl) ?_
        obtain ⟨wq28, n28, f28, hq28, hi28, hm⟩ := hm
        refine mr_iald hx hb hK (mRd hK hP hZ hS) 0 hq28 rfl hi28 dX10_draws_28 (fun x28 ex28 => ?_)
        have hm := hm x28 ex28
        obtain ⟨m29, z29, mB29, zB29, hbm29, hbs29, hm⟩ := hm
        refine hcSNq (As := [.ref v2_13, .int x28]) (rest := []) ⟨hx, hb, hml, hown, hts⟩ (h_L_with l G K c h_13 v2_13 x28 m29 z29 _ hm) ⟨va_cnB 2 hts gX10_draws_L_with_n83 rfl rfl rfl (nwm_HubTrainsLaw_Table_83 hN.2.1) (hts (.initialized RL) ((List.mem_of_getElem? (i := 8) rfl))) he_L_with ⟨Nat.le_of_ble_eq_true rfl, Nat.le_of_ble_eq_true rfl⟩, (hts (.static yL_with) ((List.mem_of_getElem? (i := 7) rfl))), trivial⟩ hK hN hZ hXX hP hD hS hA rfl hl.1 rfl (Nat.le_of_ble_eq_true rfl) dX10_draws_29 ⟨by show cl_13 + m29 ≤ mc; omega, by show sl_13 + z29 ≤ ms; omega⟩ (fun r29 h29 H locs hm hP hD hS => ?_)
        obtain ⟨a29, rfl, hm⟩ := hm
        replace hf : (cl_13 + m29) + mB29 ≤ mc ∧ (sl_13 + z29) + zB29 ≤ ms := ⟨by omega, by omega⟩
        clear hbm29 hbs29
        refine lv_astore_n (lv' := [(2, .ref a29), (0, .ref a0), (1, .int x5), (3, .int v3_13)]) hx hb dX10_draws_32 rfl hl (by decide) rfl (fun ls hl => ?_)
        obtain ⟨x33, ex33⟩ : ∃ z : Int32, z = (v3_13 + 1) := ⟨_, rfl⟩
        have hm := hm x33 ex33
        refine lv_iinc (k := 3) (v := x33) (lv' := [(3, .int x33), (2, .ref a29), (0, .ref a0), (1, .int x5)]) hx hb dX10_draws_33 hl rfl ex33.symm (by decide) rfl (fun ls hl => ?_)
        refine lv_goto (tgt := 13) hx hb dX10_draws_36 (by decide) ?_
        exact ih_13 h29 mB29 zB29 a29 x33 (cl_13 + m29) (sl_13 + z29) H locs ls ⟨by omega, by omega⟩ hP hD hS (lv_sub hl [2, 3, 1, 0] rfl) hm
  exact L_13 n_13 h8 mB8 zB8 q8 (1 : Int32) (0 + 1) (0 + (0 : Int32).toNatClampNeg) H locs ls ⟨by omega, by omega⟩ hP hD hS (lv_sub hl [3, 2, 1, 0] rfl) hm

def w_X10_passesOn (c : Nat → ClassId) (K : (Nat → Nat) × (Nat → Nat)) (h : HW) (a0 : Nat) (post : Int32 → HW → Prop) : Prop :=
  gR h a0 10 13 (fun (g1 : Nat) => gI h a0 10 4 (fun (g5 : Int32) => stZ h (c 4) g1 g5 (1 : Int32) (fun (h9 : HW) => gI h9 a0 10 9 (fun (g12 : Int32) => ∀ x16 : Int32, x16 = g12 + (1 : Int32) → (pV h9 a0 10 9 (.int x16) (fun (h17 : HW) => gI h17 a0 10 9 (fun (g21 : Int32) => gR h17 a0 10 10 (fun (g25 : Nat) => lenA h17 (c 2) g25 (fun (x28 : Int32) => (g21 = x28 → (∃ w fs, h17 a0 = some (w, .inr (10, fs))) ∧ w_X10_ends c K h17 a0 (fun (h33 : HW) => gI h33 a0 10 4 (fun (g44 : Int32) => post g44 h33))) ∧ (¬ g21 = x28 → (∃ w fs, h17 a0 = some (w, .inr (10, fs))) ∧ w_X10_next c K h17 a0 (fun (h40 : HW) => gI h40 a0 10 4 (fun (g44 : Int32) => post g44 h40))))))))))))

abbrev rm_X10_passesOn : Room := { frames := 2, cells := 0, slots := 0, locals := 46 }
theorem he_X10_passesOn : yX10_passesOn.cls ≠ "java/lang/invoke/MethodHandle" ∧ yX10_passesOn.cls ≠ "java/lang/invoke/VarHandle" ∧ (parseMethodDescriptor yX10_passesOn.desc).map (fun d => d.parameters.length) = some 0 := by decide +kernel
theorem heV_X10_passesOn : yX10_passesOn.cls = RX10 ∧ yX10_passesOn.cls ≠ "java/lang/invoke/MethodHandle" ∧ yX10_passesOn.cls ≠ "java/lang/invoke/VarHandle" ∧ (parseMethodDescriptor yX10_passesOn.desc).map (fun d => d.parameters.length) = some 0 := by decide +kernel
set_option maxHeartbeats 4000000 in
set_option maxRecDepth 100000 in
theorem h_X10_passesOn (l : Launch) (G : va_G) (K : (Nat → Nat) × (Nat → Nat)) (c : Nat → ClassId) (h : HW) (a0 : Nat) (post : Int32 → HW → Prop) (hm : w_X10_passesOn c K h a0 post) : hMi l yX10_passesOn wsX10_passesOn (rm_X10_passesOn) G K (TY c) [.ref a0] h 0 0 post := by
  refine hMi.of (cc := cX10_passesOn) (maxL := 1) (lv := [(0, .ref a0)]) (by decide) rfl (Nat.le_of_ble_eq_true rfl) rfl ?_
  intro p e s m args below meth c1 A Q H locs hx hb hml hown hmn hts hK hN hZ hXX hP hD hA hS hend ls hl
  have hown : s.vm.findClass RX10 = some m.cls := hown
  have hi_10 : ∀ w ∈ u_ws RX10 TX10 17, w ∈ wsX10_passesOn := fun w h => (fun w h => List.mem_cons_of_mem _ (List.mem_append_right _ (h))) w h
  unfold w_X10_passesOn at hm
  refine lv_aload_n hx hb dX10_passesOn_0 rfl (lv_at hl 0 rfl) ?_
  obtain ⟨wq1, fs1, g1, hq1, hv1, hm⟩ := hm
  refine mr_get (ci := 10) (C := RX10) (T := TX10) (N := 17) hx hb hts hi_10 hown hK (mRd hK hP hZ hS) hq1 rfl 13 (by decide) (hts (.fieldLink RX10 37 "HubTrainsLaw$Table" "isOpen" "[Z") ((List.mem_of_getElem? (i := 1) rfl))) (fun _ h9 => h9) hv1 dX10_passesOn_1 ?_
  refine lv_aload_n hx hb dX10_passesOn_4 rfl (lv_at hl 0 rfl) ?_
  obtain ⟨wq5, fs5, g5, hq5, hv5, hm⟩ := hm
  refine mr_get (ci := 10) (C := RX10) (T := TX10) (N := 17) hx hb hts hi_10 hown hK (mRd hK hP hZ hS) hq5 rfl 4 (by decide) (hts (.fieldLink RX10 49 "HubTrainsLaw$Table" "turn" "I") ((List.mem_of_getElem? (i := 2) rfl))) (fun _ h9 => h9) hv5 dX10_passesOn_5 ?_
  refine lv_iconst (v := 1) hx hb dX10_passesOn_8 (by decide) ?_
  obtain ⟨n9, f9, hq9, hi9, hz9, hm⟩ := hm
  refine mr_zast hx hb hK hP hD hS 4 hq9 rfl hz9 hi9 dX10_passesOn_9 (fun H locs hP hD hS => ?_)
  generalize hup h g1 (eI (c 4) n9 (upd f9 g5.toNatClampNeg (1 : Int32))) = h9 at hm hP hD
  refine lv_aload_n hx hb dX10_passesOn_10 rfl (lv_at hl 0 rfl) ?_
  refine lv_dup hx hb dX10_passesOn_11 rfl ?_
  obtain ⟨wq12, fs12, g12, hq12, hv12, hm⟩ := hm
  refine mr_get (ci := 10) (C := RX10) (T := TX10) (N := 17) hx hb hts hi_10 hown hK (mRd hK hP hZ hS) hq12 rfl 9 (by decide) (hts (.fieldLink RX10 62 "HubTrainsLaw$Table" "passes" "I") ((List.mem_of_getElem? (i := 3) rfl))) (fun _ h9 => h9) hv12 dX10_passesOn_12 ?_
  refine lv_iconst (v := 1) hx hb dX10_passesOn_15 (by decide) ?_
  refine lv_iadd hx hb dX10_passesOn_16 ?_
  refine lv_topi (fun x16 ex16 => ?_)
  have hm := hm x16 ex16
  obtain ⟨fs17, hq17, hl17, hm⟩ := hm
  refine mr_put (v := .int x16) (ci := 10) (C := RX10) (T := TX10) (N := 17) hx hb hts hi_10 tyX10 (fun k hk => tyX10_ok k (Nat.lt_of_lt_of_le hk (by decide))) (fun a ha b hb => nmX10 a (Nat.lt_of_lt_of_le ha (by decide)) b (Nat.lt_of_lt_of_le hb (by decide))) hown hK hP hD hS hq17 rfl 9 (by decide) (hts (.fieldLink RX10 62 "HubTrainsLaw$Table" "passes" "I") ((List.mem_of_getElem? (i := 3) rfl))) (fun _ h9 => h9) rfl (tyX10_ok 9 (by decide)) rfl rfl hl17 dX10_passesOn_17 (fun H locs hP hD hS => ?_)
  generalize hup h9 a0 (.inr (10, fs17.set 9 (.int x16))) = h17 at hm hP hD
  refine lv_aload_n hx hb dX10_passesOn_20 rfl (lv_at hl 0 rfl) ?_
  obtain ⟨wq21, fs21, g21, hq21, hv21, hm⟩ := hm
  refine mr_get (ci := 10) (C := RX10) (T := TX10) (N := 17) hx hb hts hi_10 hown hK (mRd hK hP hZ hS) hq21 rfl 9 (by decide) (hts (.fieldLink RX10 62 "HubTrainsLaw$Table" "passes" "I") ((List.mem_of_getElem? (i := 3) rfl))) (fun _ h9 => h9) hv21 dX10_passesOn_21 ?_
  refine lv_aload_n hx hb dX10_passesOn_24 rfl (lv_at hl 0 rfl) ?_
  obtain ⟨wq25, fs25, g25, hq25, hv25, hm⟩ := hm
  refine mr_get (ci := 10) (C := RX10) (T := TX10) (N := 17) hx hb hts hi_10 hown hK (mRd hK hP hZ hS) hq25 rfl 10 (by decide) (hts (.fieldLink RX10 27 "HubTrainsLaw$Table" "hands" "[[I") ((List.mem_of_getElem? (i := 4) rfl))) (fun _ h9 => h9) hv25 dX10_passesOn_25 ?_
  obtain ⟨wq28, xx28, hq28, hm⟩ := hm
  refine mr_alen hx hb hK (mRd hK hP hZ hS) 2 hq28 rfl dX10_passesOn_28 (fun x28 ex28 => ?_)
  have hm := hm x28 ex28
  refine lv_icmp_ne (tgt := 39) hx hb dX10_passesOn_29 (by decide) (fun c_29 => ?_) (fun c_29 => ?_)
  · have hm := hm.2 c_29
    refine lv_aload_n hx hb dX10_passesOn_39 rfl (lv_at hl 0 rfl) ?_
    obtain ⟨⟨wr40, fr40, hrq40⟩, hm⟩ := hm
    refine hcVv (As := []) (rest := []) ⟨hx, hb, hml, hown, hts⟩ (h_X10_next l G K c h17 a0 _ hm) (cwV 0 hts gX10_passesOn_X10_next rfl rfl rfl (heV_X10_next) ⟨Nat.le_of_ble_eq_true rfl, Nat.le_of_ble_eq_true rfl⟩) hK hN hZ hXX hP hD hS hA (mr_recv hK (mRd hK hP hZ hS) (ci := 10) rfl hrq40) rfl hl.1 rfl (Nat.le_of_ble_eq_true rfl) dX10_passesOn_40 ⟨Nat.le_refl _, Nat.le_refl _⟩ (fun h40 H locs hm hP hD hS => ?_)
    refine lv_aload_n hx hb dX10_passesOn_43 rfl (lv_at hl 0 rfl) ?_
    obtain ⟨wq44, fs44, g44, hq44, hv44, hm⟩ := hm
    refine mr_get (ci := 10) (C := RX10) (T := TX10) (N := 17) hx hb hts hi_10 hown hK (mRd hK hP hZ hS) hq44 rfl 4 (by decide) (hts (.fieldLink RX10 49 "HubTrainsLaw$Table" "turn" "I") ((List.mem_of_getElem? (i := 2) rfl))) (fun _ h9 => h9) hv44 dX10_passesOn_44 ?_
    exact hend H locs ls 47 _ _ g44 h40 (Nat.le_refl _) (Nat.le_refl _) rfl hm hP hD hS dX10_passesOn_47
  · have hm := hm.1 c_29
    refine lv_aload_n hx hb dX10_passesOn_32 rfl (lv_at hl 0 rfl) ?_
    obtain ⟨⟨wr33, fr33, hrq33⟩, hm⟩ := hm
    refine hcVv (As := []) (rest := []) ⟨hx, hb, hml, hown, hts⟩ (h_X10_ends l G K c h17 a0 _ hm) (cwV 0 hts gX10_passesOn_X10_ends rfl rfl rfl (heV_X10_ends) ⟨Nat.le_of_ble_eq_true rfl, Nat.le_of_ble_eq_true rfl⟩) hK hN hZ hXX hP hD hS hA (mr_recv hK (mRd hK hP hZ hS) (ci := 10) rfl hrq33) rfl hl.1 rfl (Nat.le_of_ble_eq_true rfl) dX10_passesOn_33 ⟨Nat.le_refl _, Nat.le_refl _⟩ (fun h33 H locs hm hP hD hS => ?_)
    refine lv_goto (tgt := 43) hx hb dX10_passesOn_36 (by decide) ?_
    refine lv_aload_n hx hb dX10_passesOn_43 rfl (lv_at hl 0 rfl) ?_
    obtain ⟨wq44, fs44, g44, hq44, hv44, hm⟩ := hm
    refine mr_get (ci := 10) (C := RX10) (T := TX10) (N := 17) hx hb hts hi_10 hown hK (mRd hK hP hZ hS) hq44 rfl 4 (by decide) (hts (.fieldLink RX10 49 "HubTrainsLaw$Table" "turn" "I") ((List.mem_of_getElem? (i := 2) rfl))) (fun _ h9 => h9) hv44 dX10_passesOn_44 ?_
    exact hend H locs ls 47 _ _ g44 h33 (Nat.le_refl _) (Nat.le_refl _) rfl hm hP hD hS dX10_passesOn_47

def w_X10_goesOn_J59 (c : Nat → ClassId) (K : (Nat → Nat) × (Nat → Nat)) (rec_2 : HW → Nat → Nat → Int32 → Prop) (v2_2 : Int32) (h_59 : HW) (mc_59 ms_59 : Nat) : Prop :=
  ∀ x59 : Int32, x59 = (v2_2 + 1) → (rec_2 h_59 mc_59 ms_59 x59)

def w_X10_goesOn_B2 (c : Nat → ClassId) (K : (Nat → Nat) × (Nat → Nat)) (a0 : Nat) (a1 : Int32) (post : Int32 → HW → Prop) (rec_2 : HW → Nat → Nat → Int32 → Prop) (h_2 : HW) (mc_2 : Nat) (ms_2 : Nat) (v2_2 : Int32) : Prop :=
  (a1 ≤ v2_2 → post v2_2 h_2) ∧ (¬ a1 ≤ v2_2 → gI h_2 a0 10 7 (fun (g8 : Int32) => (g8 = 0 → (∃ w fs, h_2 a0 = some (w, .inr (10, fs))) ∧ w_X10_best c K h_2 a0 (fun (r15 : Int32) (h15 : HW) => (r15 < 0 → (∃ w fs, h15 a0 = some (w, .inr (10, fs))) ∧ w_X10_mayDraw c K h15 a0 (fun (r40 : Int32) (h40 : HW) => (r40 = 0 → (∃ w fs, h40 a0 = some (w, .inr (10, fs))) ∧ w_X10_passesOn c K h40 a0 (fun (r55 : Int32) (h55 : HW) => w_X10_goesOn_J59 c K rec_2 v2_2 h55 mc_2 ms_2)) ∧ (¬ r40 = 0 → (∃ w fs, h40 a0 = some (w, .inr (10, fs))) ∧ (∃ m47 z47 mB47 zB47 : Nat, mc_2 = m47 + mB47 ∧ ms_2 = z47 + zB47 ∧ w_X10_draws c K h40 a0 m47 z47 (fun (r47 : Int32) (h47 : HW) => w_X10_goesOn_J59 c K rec_2 v2_2 h47 mB47 zB47))))) ∧ (¬ r15 < 0 → ∀ x27 : Int32, x27 = r15 / (10 : Int32) → (∀ x31 : Int32, x31 = r15 - r15 / (10 : Int32) * (10 : Int32) → ((∃ w fs, h15 a0 = some (w, .inr (10, fs))) ∧ (∃ m32 z32 mB32 zB32 : Nat, mc_2 = m32 + mB32 ∧ ms_2 = z32 + zB32 ∧ w_X10_plays_ c K h15 a0 x27 x31 m32 z32 (fun (r32 : Int32) (h32 : HW) => w_X10_goesOn_J59 c K rec_2 v2_2 h32 mB32 zB32))))))) ∧ (¬ g8 = 0 → post v2_2 h_2)))

def w_X10_goesOn (c : Nat → ClassId) (K : (Nat → Nat) × (Nat → Nat)) (h : HW) (a0 : Nat) (a1 : Int32) (mc ms : Nat) (post : Int32 → HW → Prop) : Prop :=
  ∃ n_2 : Nat, itP4 (w_X10_goesOn_B2 c K a0 a1 post) n_2 h mc ms (0 : Int32)

abbrev rm_X10_goesOn (mc ms : Nat) : Room := { frames := 7, cells := mc, slots := ms, locals := 218 }
theorem he_X10_goesOn : yX10_goesOn.cls ≠ "java/lang/invoke/MethodHandle" ∧ yX10_goesOn.cls ≠ "java/lang/invoke/VarHandle" ∧ (parseMethodDescriptor yX10_goesOn.desc).map (fun d => d.parameters.length) = some 1 := by decide +kernel
theorem heV_X10_goesOn : yX10_goesOn.cls = RX10 ∧ yX10_goesOn.cls ≠ "java/lang/invoke/MethodHandle" ∧ yX10_goesOn.cls ≠ "java/lang/invoke/VarHandle" ∧ (parseMethodDescriptor yX10_goesOn.desc).map (fun d => d.parameters.length) = some 1 := by decide +kernel
set_option maxHeartbeats 4000000 in
set_option maxRecDepth 100000 in
theorem h_X10_goesOn (l : Launch) (G : va_G) (K : (Nat → Nat) × (Nat → Nat)) (c : Nat → ClassId) (h : HW) (a0 : Nat) (a1 : Int32) (mc ms : Nat) (post : Int32 → HW → Prop) (hm : w_X10_goesOn c K h a0 a1 mc ms post) : hMi l yX10_goesOn wsX10_goesOn (rm_X10_goesOn mc ms) G K (TY c) [.ref a0, .int a1] h mc ms post := by
  refine hMi.of (cc := cX10_goesOn) (maxL := 4) (lv := [(0, .ref a0), (1, .int a1)]) (by decide) rfl (Nat.le_of_ble_eq_true rfl) rfl ?_
  intro p e s m args below meth c1 A Q H locs hx hb hml hown hmn hts hK hN hZ hXX hP hD hA hS hend ls hl
  have hown : s.vm.findClass RX10 = some m.cls := hown
  have hi_10 : ∀ w ∈ u_ws RX10 TX10 17, w ∈ wsX10_goesOn := fun w h => (fun w h => List.mem_cons_of_mem _ (List.mem_append_left _ (List.mem_append_right _ (h)))) w h
  unfold w_X10_goesOn at hm
  have hf : 0 + mc ≤ mc ∧ 0 + ms ≤ ms := ⟨by omega, by omega⟩
  refine lv_iconst (v := 0) hx hb dX10_goesOn_0 (by decide) ?_
  refine lv_istore_n (lv' := [(2, .int (0 : Int32)), (0, .ref a0), (1, .int a1)]) hx hb dX10_goesOn_1 rfl hl (by decide) rfl (fun ls hl => ?_)
  obtain ⟨n_2, hm⟩ := hm
  have L_2 : ∀ (n_2 : Nat) (h_2 : HW) (mc_2 : Nat) (ms_2 : Nat) (v2_2 : Int32) (cl_2 sl_2 : Nat) (H : Heap) (locs : List Loc) (ls : Array Slot), cl_2 + mc_2 ≤ mc ∧ sl_2 + ms_2 ≤ ms → mP G K h_2 H → mD A h_2 → va_S A s.heap H locs → lv_has ls 4 [(0, .ref a0), (1, .int a1), (2, .int v2_2)] → itP4 (w_X10_goesOn_B2 c K a0 a1 post) n_2 h_2 mc_2 ms_2 v2_2 → W p l e (rm_X10_goesOn mc ms) s m args below meth c1 H locs cl_2 sl_2 Q (F0 m 2 ls []) := by
    intro n_2
    induction n_2 with
    | zero => intro h_2 mc_2 ms_2 v2_2 cl_2 sl_2 H locs ls hf hP hD hS hl hm; exact hm.elim
    | succ n_2 ih_2 =>
      intro h_2 mc_2 ms_2 v2_2 cl_2 sl_2 H locs ls hf hP hD hS hl hm
      have hm : (w_X10_goesOn_B2 c K a0 a1 post) (itP4 (w_X10_goesOn_B2 c K a0 a1 post) n_2) h_2 mc_2 ms_2 v2_2 := hm
      generalize itP4 (w_X10_goesOn_B2 c K a0 a1 post) n_2 = rec_2 at hm ih_2
      unfold w_X10_goesOn_B2 at hm
      refine lv_iload_n hx hb dX10_goesOn_2 rfl (lv_at hl 2 rfl) ?_
      refine lv_iload_n hx hb dX10_goesOn_3 rfl (lv_at hl 1 rfl) ?_
      refine lv_icmp_ge (tgt := 65) hx hb dX10_goesOn_4 (by decide) (fun c_4 => ?_) (fun c_4 => ?_)
      · have hm := hm.1 c_4
        refine lv_iload_n hx hb dX10_goesOn_65 rfl (lv_at hl 2 rfl) ?_
        exact hend H locs ls 66 _ _ v2_2 h_2 (by omega) (by omega) rfl hm hP hD hS dX10_goesOn_66
      · have hm := hm.2 c_4
        refine lv_aload_n hx hb dX10_goesOn_7 rfl (lv_at hl 0 rfl) ?_
        obtain ⟨wq8, fs8, g8, hq8, hv8, hm⟩ := hm
        refine mr_get (ci := 10) (C := RX10) (T := TX10) (N := 17) hx hb hts hi_10 hown hK (mRd hK hP hZ hS) hq8 rfl 7 (by decide) (hts (.fieldLink RX10 56 "HubTrainsLaw$Table" "isOver" "Z") ((List.mem_of_getElem? (i := 1) rfl))) (fun _ h9 => h9) hv8 dX10_goesOn_8 ?_
        refine lv_if_ne (tgt := 65) hx hb dX10_goesOn_11 (by decide) (fun c_11 => ?_) (fun c_11 => ?_)
        · have hm := hm.2 c_11
          refine lv_iload_n hx hb dX10_goesOn_65 rfl (lv_at hl 2 rfl) ?_
          exact hend H locs ls 66 _ _ v2_2 h_2 (by omega) (by omega) rfl hm hP hD hS dX10_goesOn_66
        · have hm := hm.1 c_11
          refine lv_aload_n hx hb dX10_goesOn_14 rfl (lv_at hl 0 rfl) ?_
          obtain ⟨⟨wr15, fr15, hrq15⟩, hm⟩ := hm
          refine hcVi (As := []) (rest := []) ⟨hx, hb, hml, hown, hts⟩ (h_X10_best l G K c h_2 a0 _ hm) (cwV 0 hts gX10_goesOn_X10_best rfl rfl rfl (heV_X10_best) ⟨Nat.le_of_ble_eq_true rfl, Nat.le_of_ble_eq_true rfl⟩) hK hN hZ hXX hP hD hS hA (mr_recv hK (mRd hK hP hZ hS) (ci := 10) rfl hrq15) rfl hl.1 rfl (Nat.le_of_ble_eq_true rfl) dX10_goesOn_15 ⟨by show cl_2 + 0 ≤ mc; omega, by show sl_2 + 0 ≤ ms; omega⟩ (fun r15 h15 H locs hm hP hD hS => ?_)
          refine lv_istore_n (lv' := [(3, .int r15), (0, .ref a0), (1, .int a1), (2, .int v2_2)]) hx hb dX10_goesOn_18 rfl hl (by decide) rfl (fun ls hl => ?_)
          refine lv_iload_n hx hb dX10_goesOn_19 rfl (lv_at hl 0 rfl) ?_
          have J_59 : ∀ (h_59 : HW) (mc_59 ms_59 : Nat) (cl_59 sl_59 : Nat) (H : Heap) (locs : List Loc) (ls : Array Slot), cl_59 + mc_59 ≤ mc ∧ sl_59 + ms_59 ≤ ms → mP G K h_59 H → mD A h_59 → va_S A s.heap H locs → lv_has ls 4 [(0, .ref a0), (1, .int a1), (2, .int v2_2)] → w_X10_goesOn_J59 c K rec_2 v2_2 h_59 mc_59 ms_59 → W p l e (rm_X10_goesOn mc ms) s m args below meth c1 H locs cl_59 sl_59 Q (F0 m 59 ls []) := by
            intro h_59 mc_59 ms_59 cl_59 sl_59 H locs ls hf hP hD hS hl hm
            unfold w_X10_goesOn_J59 at hm
            obtain ⟨x59, ex59⟩ : ∃ z : Int32, z = (v2_2 + 1) := ⟨_, rfl⟩
            have hm := hm x59 ex59
            refine lv_iinc (k := 2) (v := x59) (lv' := [(2, .int x59), (0, .ref a0), (1, .int a1)]) hx hb dX10_goesOn_59 hl rfl ex59.symm (by decide) rfl (fun ls hl => ?_)
            refine lv_goto (tgt := 2) hx hb dX10_goesOn_62 (by decide) ?_
            exact ih_2 h_59 mc_59 ms_59 x59 cl_59 sl_59 H locs ls ⟨by omega, by omega⟩ hP hD hS (lv_sub hl [1, 2, 0] rfl) hm
          refine lv_if_lt (tgt := 39) hx hb dX10_goesOn_20 (by decide) (fun c_20 => ?_) (fun c_20 => ?_)
          · have hm := hm.1 c_20
            refine lv_aload_n hx hb dX10_goesOn_39 rfl (lv_at hl 1 rfl) ?_
            obtain ⟨⟨wr40, fr40, hrq40⟩, hm⟩ := hm
            refine hcVi (As := []) (rest := []) ⟨hx, hb, hml, hown, hts⟩ (h_X10_mayDraw l G K c h15 a0 _ hm) (cwV 0 hts gX10_goesOn_X10_mayDraw rfl rfl rfl (heV_X10_mayDraw) ⟨Nat.le_of_ble_eq_true rfl, Nat.le_of_ble_eq_true rfl⟩) hK hN hZ hXX hP hD hS hA (mr_recv hK (mRd hK hP hZ hS) (ci := 10) rfl hrq40) rfl hl.1 rfl (Nat.le_of_ble_eq_true rfl) dX10_goesOn_40 ⟨by show cl_2 + 0 ≤ mc; omega, by show sl_2 + 0 ≤ ms; omega⟩ (fun r40 h40 H locs hm hP hD hS => ?_)
            refine lv_if_eq (tgt := 54) hx hb dX10_goesOn_43 (by decide) (fun c_43 => ?_) (fun c_43 => ?_)
            · have hm := hm.1 c_43
              refine lv_aload_n hx hb dX10_goesOn_54 rfl (lv_at hl 1 rfl) ?_
              obtain ⟨⟨wr55, fr55, hrq55⟩, hm⟩ := hm
              refine hcVi (As := []) (rest := []) ⟨hx, hb, hml, hown, hts⟩ (h_X10_passesOn l G K c h40 a0 _ hm) (cwV 0 hts gX10_goesOn_X10_passesOn rfl rfl rfl (heV_X10_passesOn) ⟨Nat.le_of_ble_eq_true rfl, Nat.le_of_ble_eq_true rfl⟩) hK hN hZ hXX hP hD hS hA (mr_recv hK (mRd hK hP hZ hS) (ci := 10) rfl hrq55) rfl hl.1 rfl (Nat.le_of_ble_eq_true rfl) dX10_goesOn_55 ⟨by show cl_2 + 0 ≤ mc; omega, by show sl_2 + 0 ≤ ms; omega⟩ (fun r55 h55 H locs hm hP hD hS => ?_)
              refine lv_pop hx hb dX10_goesOn_58 rfl ?_
              exact J_59 h55 mc_2 ms_2 cl_2 sl_2 H locs ls ⟨by omega, by omega⟩ hP hD hS (lv_sub hl [1, 2, 3] rfl) hm
            · have hm := hm.2 c_43
              refine lv_aload_n hx hb dX10_goesOn_46 rfl (lv_at hl 1 rfl) ?_
              obtain ⟨⟨wr47, fr47, hrq47⟩, hm⟩ := hm
              obtain ⟨m47, z47, mB47, zB47, hbm47, hbs47, hm⟩ := hm
              refine hcVi (As := []) (rest := []) ⟨hx, hb, hml, hown, hts⟩ (h_X10_draws l G K c h40 a0 m47 z47 _ hm) (cwV 0 hts gX10_goesOn_X10_draws rfl rfl rfl (heV_X10_draws) ⟨Nat.le_of_ble_eq_true rfl, Nat.le_of_ble_eq_true rfl⟩) hK hN hZ hXX hP hD hS hA (mr_recv hK (mRd hK hP hZ hS) (ci := 10) rfl hrq47) rfl hl.1 rfl (Nat.le_of_ble_eq_true rfl) dX10_goesOn_47 ⟨by show cl_2 + m47 ≤ mc; omega, by show sl_2 + z47 ≤ ms; omega⟩ (fun r47 h47 H locs hm hP hD hS => ?_)
              replace hf : (cl_2 + m47) + mB47 ≤ mc ∧ (sl_2 + z47) + zB47 ≤ ms := ⟨by omega, by omega⟩
              clear hbm47 hbs47
              refine lv_pop hx hb dX10_goesOn_50 rfl ?_
              refine lv_goto (tgt := 59) hx hb dX10_goesOn_51 (by decide) ?_
              exact J_59 h47 mB47 zB47 (cl_2 + m47) (sl_2 + z47) H locs ls ⟨by omega, by omega⟩ hP hD hS (lv_sub hl [1, 2, 3] rfl) hm
          · have hm := hm.2 c_20
            refine lv_aload_n hx hb dX10_goesOn_23 rfl (lv_at hl 1 rfl) ?_
            refine lv_iload_n hx hb dX10_goesOn_24 rfl (lv_at hl 0 rfl) ?_
            refine lv_bipush (v := 10) hx hb dX10_goesOn_25 (by decide) ?_
            refine lv_idiv hx hb dX10_goesOn_27 (by decide) ?_
            refine lv_topi (fun x27 ex27 => ?_)
            have hm := hm x27 ex27
            refine lv_iload_n hx hb dX10_goesOn_28 rfl (lv_at hl 0 rfl) ?_
            refine lv_bipush (v := 10) hx hb dX10_goesOn_29 (by decide) ?_
            refine lv_irem hx hb dX10_goesOn_31 (by decide) ?_
            refine lv_topi (fun x31 ex31 => ?_)
            have hm := hm x31 ex31
            obtain ⟨⟨wr32, fr32, hrq32⟩, hm⟩ := hm
            obtain ⟨m32, z32, mB32, zB32, hbm32, hbs32, hm⟩ := hm
            refine hcVi (As := [.int x27, .int x31]) (rest := []) ⟨hx, hb, hml, hown, hts⟩ (h_X10_plays_ l G K c h15 a0 x27 x31 m32 z32 _ hm) (cwV 2 hts gX10_goesOn_X10_plays_ rfl rfl rfl (heV_X10_plays_) ⟨Nat.le_of_ble_eq_true rfl, Nat.le_of_ble_eq_true rfl⟩) hK hN hZ hXX hP hD hS hA (mr_recv hK (mRd hK hP hZ hS) (ci := 10) rfl hrq32) rfl hl.1 rfl (Nat.le_of_ble_eq_true rfl) dX10_goesOn_32 ⟨by show cl_2 + m32 ≤ mc; omega, by show sl_2 + z32 ≤ ms; omega⟩ (fun r32 h32 H locs hm hP hD hS => ?_)
            replace hf : (cl_2 + m32) + mB32 ≤ mc ∧ (sl_2 + z32) + zB32 ≤ ms := ⟨by omega, by omega⟩
            clear hbm32 hbs32
            refine lv_pop hx hb dX10_goesOn_35 rfl ?_
            refine lv_goto (tgt := 59) hx hb dX10_goesOn_36 (by decide) ?_
            exact J_59 h32 mB32 zB32 (cl_2 + m32) (sl_2 + z32) H locs ls ⟨by omega, by omega⟩ hP hD hS (lv_sub hl [1, 2, 3] rfl) hm
  exact L_2 n_2 h mc ms (0 : Int32) 0 0 H locs ls ⟨by omega, by omega⟩ hP hD hS (lv_sub hl [1, 2, 0] rfl) hm

