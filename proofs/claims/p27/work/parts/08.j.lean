/-! walks of the law's own methods over maps -/
def w_L_flush_B22 (c : Nat → ClassId) (K : (Nat → Nat) × (Nat → Nat)) (a1 : Nat) (post : HW → Prop) (rec_22 : HW → Int32 → Prop) (h_22 : HW) (v2_22 : Int32) : Prop :=
  ((6 : Int32) ≤ v2_22 → post h_22) ∧ (¬ (6 : Int32) ≤ v2_22 → stI h_22 (c 0) a1 v2_22 (0 : Int32) (fun (h31 : HW) => ∀ x32 : Int32, x32 = (v2_22 + 1) → (rec_22 h31 x32)))

def w_L_flush (c : Nat → ClassId) (K : (Nat → Nat) × (Nat → Nat)) (h : HW) (a0 : Nat) (a1 : Nat) (post : HW → Prop) : Prop :=
  lI h (c 0) a1 (1 : Int32) (fun (x3 : Int32) => lI h (c 0) a1 (2 : Int32) (fun (x6 : Int32) => lI h (c 0) a1 (3 : Int32) (fun (x9 : Int32) => lI h (c 0) a1 (4 : Int32) (fun (x12 : Int32) => lI h (c 0) a1 (5 : Int32) (fun (x15 : Int32) => (∃ w fs, h a0 = some (w, .inr (7, fs))) ∧ w_X7_append c K h a0 x3 x6 x9 x12 x15 (fun (r16 : Int32) (h16 : HW) => ∃ n_22 : Nat, itP2 (w_L_flush_B22 c K a1 post) n_22 h16 (1 : Int32)))))))

abbrev rm_L_flush : Room := { frames := 3, cells := 0, slots := 0, locals := 70 }
theorem he_L_flush : yL_flush.cls ≠ "java/lang/invoke/MethodHandle" ∧ yL_flush.cls ≠ "java/lang/invoke/VarHandle" ∧ (parseMethodDescriptor yL_flush.desc).map (fun d => d.parameters.length) = some 2 := by decide +kernel
theorem heV_L_flush : yL_flush.cls = RL ∧ yL_flush.cls ≠ "java/lang/invoke/MethodHandle" ∧ yL_flush.cls ≠ "java/lang/invoke/VarHandle" ∧ (parseMethodDescriptor yL_flush.desc).map (fun d => d.parameters.length) = some 2 := by decide +kernel
set_option maxHeartbeats 4000000 in
set_option maxRecDepth 100000 in
theorem h_L_flush (l : Launch) (G : va_G) (K : (Nat → Nat) × (Nat → Nat)) (c : Nat → ClassId) (h : HW) (a0 : Nat) (a1 : Nat) (post : HW → Prop) (hm : w_L_flush c K h a0 a1 post) : hMv l yL_flush wsL_flush (rm_L_flush) G K (TY c) [.ref a0, .ref a1] h 0 0 post := by
  refine hMv.of (cc := cL_flush) (maxL := 3) (lv := [(0, .ref a0), (1, .ref a1)]) (by decide) rfl (Nat.le_of_ble_eq_true rfl) rfl ?_
  intro p e s m args below meth c1 A Q H locs hx hb hml hown hmn hts hK hN hZ hXX hP hD hA hS hend ls hl
  have hown : s.vm.findClass RL = some m.cls := hown
  unfold w_L_flush at hm
  refine lv_aload_n hx hb dL_flush_0 rfl (lv_at hl 0 rfl) ?_
  refine lv_aload_n hx hb dL_flush_1 rfl (lv_at hl 1 rfl) ?_
  refine lv_iconst (v := 1) hx hb dL_flush_2 (by decide) ?_
  obtain ⟨wq3, n3, f3, hq3, hi3, hm⟩ := hm
  refine mr_iald hx hb hK (mRd hK hP hZ hS) 0 hq3 rfl hi3 dL_flush_3 (fun x3 ex3 => ?_)
  have hm := hm x3 ex3
  refine lv_aload_n hx hb dL_flush_4 rfl (lv_at hl 1 rfl) ?_
  refine lv_iconst (v := 2) hx hb dL_flush_5 (by decide) ?_
  obtain ⟨wq6, n6, f6, hq6, hi6, hm⟩ := hm
  refine mr_iald hx hb hK (mRd hK hP hZ hS) 0 hq6 rfl hi6 dL_flush_6 (fun x6 ex6 => ?_)
  have hm := hm x6 ex6
  refine lv_aload_n hx hb dL_flush_7 rfl (lv_at hl 1 rfl) ?_
  refine lv_iconst (v := 3) hx hb dL_flush_8 (by decide) ?_
  obtain ⟨wq9, n9, f9, hq9, hi9, hm⟩ := hm
  refine mr_iald hx hb hK (mRd hK hP hZ hS) 0 hq9 rfl hi9 dL_flush_9 (fun x9 ex9 => ?_)
  have hm := hm x9 ex9
  refine lv_aload_n hx hb dL_flush_10 rfl (lv_at hl 1 rfl) ?_
  refine lv_iconst (v := 4) hx hb dL_flush_11 (by decide) ?_
  obtain ⟨wq12, n12, f12, hq12, hi12, hm⟩ := hm
  refine mr_iald hx hb hK (mRd hK hP hZ hS) 0 hq12 rfl hi12 dL_flush_12 (fun x12 ex12 => ?_)
  have hm := hm x12 ex12
  refine lv_aload_n hx hb dL_flush_13 rfl (lv_at hl 1 rfl) ?_
  refine lv_iconst (v := 5) hx hb dL_flush_14 (by decide) ?_
  obtain ⟨wq15, n15, f15, hq15, hi15, hm⟩ := hm
  refine mr_iald hx hb hK (mRd hK hP hZ hS) 0 hq15 rfl hi15 dL_flush_15 (fun x15 ex15 => ?_)
  have hm := hm x15 ex15
  obtain ⟨⟨wr16, fr16, hrq16⟩, hm⟩ := hm
  refine hcVi (As := [.int x3, .int x6, .int x9, .int x12, .int x15]) (rest := []) ⟨hx, hb, hml, hown, hts⟩ (h_X7_append l G K c h a0 x3 x6 x9 x12 x15 _ hm) (cwV 5 hts gL_flush_X7_append rfl rfl rfl (heV_X7_append) ⟨Nat.le_of_ble_eq_true rfl, Nat.le_of_ble_eq_true rfl⟩) hK hN hZ hXX hP hD hS hA (mr_recv hK (mRd hK hP hZ hS) (ci := 7) rfl hrq16) rfl hl.1 rfl (Nat.le_of_ble_eq_true rfl) dL_flush_16 ⟨Nat.le_refl _, Nat.le_refl _⟩ (fun r16 h16 H locs hm hP hD hS => ?_)
  refine lv_pop hx hb dL_flush_19 rfl ?_
  refine lv_iconst (v := 1) hx hb dL_flush_20 (by decide) ?_
  refine lv_istore_n (lv' := [(2, .int (1 : Int32)), (0, .ref a0), (1, .ref a1)]) hx hb dL_flush_21 rfl hl (by decide) rfl (fun ls hl => ?_)
  obtain ⟨n_22, hm⟩ := hm
  have L_22 : ∀ (n_22 : Nat) (h_22 : HW) (v2_22 : Int32) (H : Heap) (locs : List Loc) (ls : Array Slot), mP G K h_22 H → mD A h_22 → va_S A s.heap H locs → lv_has ls 3 [(1, .ref a1), (2, .int v2_22)] → itP2 (w_L_flush_B22 c K a1 post) n_22 h_22 v2_22 → W p l e (rm_L_flush) s m args below meth c1 H locs 0 0 Q (F0 m 22 ls []) := by
    intro n_22
    induction n_22 with
    | zero => intro h_22 v2_22 H locs ls hP hD hS hl hm; exact hm.elim
    | succ n_22 ih_22 =>
      intro h_22 v2_22 H locs ls hP hD hS hl hm
      have hm : (w_L_flush_B22 c K a1 post) (itP2 (w_L_flush_B22 c K a1 post) n_22) h_22 v2_22 := hm
      generalize itP2 (w_L_flush_B22 c K a1 post) n_22 = rec_22 at hm ih_22
      unfold w_L_flush_B22 at hm
      refine lv_iload_n hx hb dL_flush_22 rfl (lv_at hl 1 rfl) ?_
      refine lv_bipush (v := 6) hx hb dL_flush_23 (by decide) ?_
      refine lv_icmp_ge (tgt := 38) hx hb dL_flush_25 (by decide) (fun c_25 => ?_) (fun c_25 => ?_)
      · have hm := hm.1 c_25
        exact hend H locs ls 38 _ _ h_22 (Nat.le_refl _) (Nat.le_refl _) hm hP hD hS dL_flush_38
      · have hm := hm.2 c_25
        refine lv_aload_n hx hb dL_flush_28 rfl (lv_at hl 0 rfl) ?_
        refine lv_iload_n hx hb dL_flush_29 rfl (lv_at hl 1 rfl) ?_
        refine lv_iconst (v := 0) hx hb dL_flush_30 (by decide) ?_
        obtain ⟨n31, f31, hq31, hi31, hm⟩ := hm
        refine mr_iast hx hb hK hP hD hS 0 hq31 rfl hi31 dL_flush_31 (fun H locs hP hD hS => ?_)
        generalize hup h_22 a1 (eI (c 0) n31 (upd f31 v2_22.toNatClampNeg (0 : Int32))) = h31 at hm hP hD
        obtain ⟨x32, ex32⟩ : ∃ z : Int32, z = (v2_22 + 1) := ⟨_, rfl⟩
        have hm := hm x32 ex32
        refine lv_iinc (k := 1) (v := x32) (lv' := [(2, .int x32), (1, .ref a1)]) hx hb dL_flush_32 hl rfl ex32.symm (by decide) rfl (fun ls hl => ?_)
        refine lv_goto (tgt := 22) hx hb dL_flush_35 (by decide) ?_
        exact ih_22 h31 x32 H locs ls hP hD hS (lv_sub hl [1, 0] rfl) hm
  exact L_22 n_22 h16 (1 : Int32) H locs ls hP hD hS (lv_sub hl [2, 0] rfl) hm

def w_L_put (c : Nat → ClassId) (K : (Nat → Nat) × (Nat → Nat)) (h : HW) (a0 : Nat) (a1 : Nat) (a2 : Int32) (post : HW → Prop) : Prop :=
  lI h (c 0) a1 (0 : Int32) (fun (x4 : Int32) => ∀ x7 : Int32, x7 = x4 - x4 / (20 : Int32) * (20 : Int32) → (∀ x9 : Int32, x9 = x7 / (4 : Int32) → (∀ x10 : Int32, x10 = (1 : Int32) + x9 → (lI h (c 0) a1 x10 (fun (x12 : Int32) => lI h (c 0) a1 (0 : Int32) (fun (x20 : Int32) => ∀ x22 : Int32, x22 = x20 - x20 / (4 : Int32) * (4 : Int32) → (∀ x23 : Int32, x23 = (8 : Int32) * x22 → (∀ x24 : Int32, x24 = (24 : Int32) - x23 → (∀ x25 : Int32, x25 = a2 <<< (x24 &&& 31) → (∀ x26 : Int32, x26 = x12 ||| x25 → (stI h (c 0) a1 x10 x26 (fun (h27 : HW) => lI h27 (c 0) a1 (0 : Int32) (fun (x31 : Int32) => ∀ x33 : Int32, x33 = x31 + (1 : Int32) → (stI h27 (c 0) a1 (0 : Int32) x33 (fun (h34 : HW) => lI h34 (c 0) a1 (0 : Int32) (fun (x37 : Int32) => ∀ x40 : Int32, x40 = x37 - x37 / (20 : Int32) * (20 : Int32) → ((x40 = 0 → w_L_flush c K h34 a0 a1 (fun (h46 : HW) => post h46)) ∧ (¬ x40 = 0 → post h34))))))))))))))))))

abbrev rm_L_put : Room := { frames := 4, cells := 0, slots := 0, locals := 92 }
theorem he_L_put : yL_put.cls ≠ "java/lang/invoke/MethodHandle" ∧ yL_put.cls ≠ "java/lang/invoke/VarHandle" ∧ (parseMethodDescriptor yL_put.desc).map (fun d => d.parameters.length) = some 3 := by decide +kernel
theorem heV_L_put : yL_put.cls = RL ∧ yL_put.cls ≠ "java/lang/invoke/MethodHandle" ∧ yL_put.cls ≠ "java/lang/invoke/VarHandle" ∧ (parseMethodDescriptor yL_put.desc).map (fun d => d.parameters.length) = some 3 := by decide +kernel
set_option maxHeartbeats 4000000 in
set_option maxRecDepth 100000 in
theorem h_L_put (l : Launch) (G : va_G) (K : (Nat → Nat) × (Nat → Nat)) (c : Nat → ClassId) (h : HW) (a0 : Nat) (a1 : Nat) (a2 : Int32) (post : HW → Prop) (hm : w_L_put c K h a0 a1 a2 post) : hMv l yL_put wsL_put (rm_L_put) G K (TY c) [.ref a0, .ref a1, .int a2] h 0 0 post := by
  refine hMv.of (cc := cL_put) (maxL := 3) (lv := [(0, .ref a0), (1, .ref a1), (2, .int a2)]) (by decide) rfl (Nat.le_of_ble_eq_true rfl) rfl ?_
  intro p e s m args below meth c1 A Q H locs hx hb hml hown hmn hts hK hN hZ hXX hP hD hA hS hend ls hl
  have hown : s.vm.findClass RL = some m.cls := hown
  unfold w_L_put at hm
  refine lv_aload_n hx hb dL_put_0 rfl (lv_at hl 1 rfl) ?_
  refine lv_iconst (v := 1) hx hb dL_put_1 (by decide) ?_
  refine lv_aload_n hx hb dL_put_2 rfl (lv_at hl 1 rfl) ?_
  refine lv_iconst (v := 0) hx hb dL_put_3 (by decide) ?_
  obtain ⟨wq4, n4, f4, hq4, hi4, hm⟩ := hm
  refine mr_iald hx hb hK (mRd hK hP hZ hS) 0 hq4 rfl hi4 dL_put_4 (fun x4 ex4 => ?_)
  have hm := hm x4 ex4
  refine lv_bipush (v := 20) hx hb dL_put_5 (by decide) ?_
  refine lv_irem hx hb dL_put_7 (by decide) ?_
  refine lv_topi (fun x7 ex7 => ?_)
  have hm := hm x7 ex7
  refine lv_iconst (v := 4) hx hb dL_put_8 (by decide) ?_
  refine lv_idiv hx hb dL_put_9 (by decide) ?_
  refine lv_topi (fun x9 ex9 => ?_)
  have hm := hm x9 ex9
  refine lv_iadd hx hb dL_put_10 ?_
  refine lv_topi (fun x10 ex10 => ?_)
  have hm := hm x10 ex10
  refine lv_dup2_11 hx hb dL_put_11 rfl rfl ?_
  obtain ⟨wq12, n12, f12, hq12, hi12, hm⟩ := hm
  refine mr_iald hx hb hK (mRd hK hP hZ hS) 0 hq12 rfl hi12 dL_put_12 (fun x12 ex12 => ?_)
  have hm := hm x12 ex12
  refine lv_iload_n hx hb dL_put_13 rfl (lv_at hl 2 rfl) ?_
  refine lv_bipush (v := 24) hx hb dL_put_14 (by decide) ?_
  refine lv_bipush (v := 8) hx hb dL_put_16 (by decide) ?_
  refine lv_aload_n hx hb dL_put_18 rfl (lv_at hl 1 rfl) ?_
  refine lv_iconst (v := 0) hx hb dL_put_19 (by decide) ?_
  obtain ⟨wq20, n20, f20, hq20, hi20, hm⟩ := hm
  refine mr_iald hx hb hK (mRd hK hP hZ hS) 0 hq20 rfl hi20 dL_put_20 (fun x20 ex20 => ?_)
  have hm := hm x20 ex20
  refine lv_iconst (v := 4) hx hb dL_put_21 (by decide) ?_
  refine lv_irem hx hb dL_put_22 (by decide) ?_
  refine lv_topi (fun x22 ex22 => ?_)
  have hm := hm x22 ex22
  refine lv_imul hx hb dL_put_23 ?_
  refine lv_topi (fun x23 ex23 => ?_)
  have hm := hm x23 ex23
  refine lv_isub hx hb dL_put_24 ?_
  refine lv_topi (fun x24 ex24 => ?_)
  have hm := hm x24 ex24
  refine lv_ishl hx hb dL_put_25 ?_
  refine lv_topi (fun x25 ex25 => ?_)
  have hm := hm x25 ex25
  refine lv_ior hx hb dL_put_26 ?_
  refine lv_topi (fun x26 ex26 => ?_)
  have hm := hm x26 ex26
  obtain ⟨n27, f27, hq27, hi27, hm⟩ := hm
  refine mr_iast hx hb hK hP hD hS 0 hq27 rfl hi27 dL_put_27 (fun H locs hP hD hS => ?_)
  generalize hup h a1 (eI (c 0) n27 (upd f27 x10.toNatClampNeg x26)) = h27 at hm hP hD
  refine lv_aload_n hx hb dL_put_28 rfl (lv_at hl 1 rfl) ?_
  refine lv_iconst (v := 0) hx hb dL_put_29 (by decide) ?_
  refine lv_dup2_11 hx hb dL_put_30 rfl rfl ?_
  obtain ⟨wq31, n31, f31, hq31, hi31, hm⟩ := hm
  refine mr_iald hx hb hK (mRd hK hP hZ hS) 0 hq31 rfl hi31 dL_put_31 (fun x31 ex31 => ?_)
  have hm := hm x31 ex31
  refine lv_iconst (v := 1) hx hb dL_put_32 (by decide) ?_
  refine lv_iadd hx hb dL_put_33 ?_
  refine lv_topi (fun x33 ex33 => ?_)
  have hm := hm x33 ex33
  obtain ⟨n34, f34, hq34, hi34, hm⟩ := hm
  refine mr_iast hx hb hK hP hD hS 0 hq34 rfl hi34 dL_put_34 (fun H locs hP hD hS => ?_)
  generalize hup h27 a1 (eI (c 0) n34 (upd f34 (0 : Int32).toNatClampNeg x33)) = h34 at hm hP hD
  refine lv_aload_n hx hb dL_put_35 rfl (lv_at hl 1 rfl) ?_
  refine lv_iconst (v := 0) hx hb dL_put_36 (by decide) ?_
  obtain ⟨wq37, n37, f37, hq37, hi37, hm⟩ := hm
  refine mr_iald hx hb hK (mRd hK hP hZ hS) 0 hq37 rfl hi37 dL_put_37 (fun x37 ex37 => ?_)
  have hm := hm x37 ex37
  refine lv_bipush (v := 20) hx hb dL_put_38 (by decide) ?_
  refine lv_irem hx hb dL_put_40 (by decide) ?_
  refine lv_topi (fun x40 ex40 => ?_)
  have hm := hm x40 ex40
  refine lv_if_ne (tgt := 49) hx hb dL_put_41 (by decide) (fun c_41 => ?_) (fun c_41 => ?_)
  · have hm := hm.2 c_41
    exact hend H locs ls 49 _ _ h34 (Nat.le_refl _) (Nat.le_refl _) hm hP hD hS dL_put_49
  · have hm := hm.1 c_41
    refine lv_aload_n hx hb dL_put_44 rfl (lv_at hl 0 rfl) ?_
    refine lv_aload_n hx hb dL_put_45 rfl (lv_at hl 1 rfl) ?_
    refine hcSv (As := [.ref a0, .ref a1]) (rest := []) ⟨hx, hb, hml, hown, hts⟩ (h_L_flush l G K c h34 a0 a1 _ hm) (va_cwS 2 hts gL_put_L_flush rfl rfl rfl he_L_flush ⟨Nat.le_of_ble_eq_true rfl, Nat.le_of_ble_eq_true rfl⟩) hK hN hZ hXX hP hD hS hA rfl hl.1 rfl (Nat.le_of_ble_eq_true rfl) dL_put_46 ⟨Nat.le_refl _, Nat.le_refl _⟩ (fun h46 H locs hm hP hD hS => ?_)
    exact hend H locs ls 49 _ _ h46 (Nat.le_refl _) (Nat.le_refl _) hm hP hD hS dL_put_49

def w_L_write_B2 (c : Nat → ClassId) (K : (Nat → Nat) × (Nat → Nat)) (a0 : Nat) (a1 : Nat) (a2 : Nat) (post : HW → Prop) (rec_2 : HW → Int32 → Prop) (h_2 : HW) (v3_2 : Int32) : Prop :=
  (∃ w fs, h_2 a2 = some (w, .inr (11, fs))) ∧ w_J0_length_8abf5 c K h_2 a2 (fun (r4 : Int32) (h4 : HW) => (r4 ≤ v3_2 → post h4) ∧ (¬ r4 ≤ v3_2 → (∃ w fs, h4 a2 = some (w, .inr (11, fs))) ∧ w_J0_charAt_5068e c K h4 a2 v3_2 (fun (r14 : Int32) (h14 : HW) => w_L_put c K h14 a0 a1 r14 (fun (h17 : HW) => ∀ x20 : Int32, x20 = (v3_2 + 1) → (rec_2 h17 x20)))))

def w_L_write (c : Nat → ClassId) (K : (Nat → Nat) × (Nat → Nat)) (h : HW) (a0 : Nat) (a1 : Nat) (a2 : Nat) (post : HW → Prop) : Prop :=
  ∃ n_2 : Nat, itP2 (w_L_write_B2 c K a0 a1 a2 post) n_2 h (0 : Int32)

abbrev rm_L_write : Room := { frames := 5, cells := 0, slots := 0, locals := 114 }
theorem he_L_write : yL_write.cls ≠ "java/lang/invoke/MethodHandle" ∧ yL_write.cls ≠ "java/lang/invoke/VarHandle" ∧ (parseMethodDescriptor yL_write.desc).map (fun d => d.parameters.length) = some 3 := by decide +kernel
theorem heV_L_write : yL_write.cls = RL ∧ yL_write.cls ≠ "java/lang/invoke/MethodHandle" ∧ yL_write.cls ≠ "java/lang/invoke/VarHandle" ∧ (parseMethodDescriptor yL_write.desc).map (fun d => d.parameters.length) = some 3 := by decide +kernel
set_option maxHeartbeats 4000000 in
set_option maxRecDepth 100000 in
theorem h_L_write (l : Launch) (G : va_G) (K : (Nat → Nat) × (Nat → Nat)) (c : Nat → ClassId) (h : HW) (a0 : Nat) (a1 : Nat) (a2 : Nat) (post : HW → Prop) (hm : w_L_write c K h a0 a1 a2 post) : hMv l yL_write wsL_write (rm_L_write) G K (TY c) [.ref a0, .ref a1, .ref a2] h 0 0 post := by
  refine hMv.of (cc := cL_write) (maxL := 4) (lv := [(0, .ref a0), (1, .ref a1), (2, .ref a2)]) (by decide) rfl (Nat.le_of_ble_eq_true rfl) rfl ?_
  intro p e s m args below meth c1 A Q H locs hx hb hml hown hmn hts hK hN hZ hXX hP hD hA hS hend ls hl
  have hown : s.vm.findClass RL = some m.cls := hown
  unfold w_L_write at hm
  refine lv_iconst (v := 0) hx hb dL_write_0 (by decide) ?_
  refine lv_istore_n (lv' := [(3, .int (0 : Int32)), (0, .ref a0), (1, .ref a1), (2, .ref a2)]) hx hb dL_write_1 rfl hl (by decide) rfl (fun ls hl => ?_)
  obtain ⟨n_2, hm⟩ := hm
  have L_2 : ∀ (n_2 : Nat) (h_2 : HW) (v3_2 : Int32) (H : Heap) (locs : List Loc) (ls : Array Slot), mP G K h_2 H → mD A h_2 → va_S A s.heap H locs → lv_has ls 4 [(0, .ref a0), (1, .ref a1), (2, .ref a2), (3, .int v3_2)] → itP2 (w_L_write_B2 c K a0 a1 a2 post) n_2 h_2 v3_2 → W p l e (rm_L_write) s m args below meth c1 H locs 0 0 Q (F0 m 2 ls []) := by
    intro n_2
    induction n_2 with
    | zero => intro h_2 v3_2 H locs ls hP hD hS hl hm; exact hm.elim
    | succ n_2 ih_2 =>
      intro h_2 v3_2 H locs ls hP hD hS hl hm
      have hm : (w_L_write_B2 c K a0 a1 a2 post) (itP2 (w_L_write_B2 c K a0 a1 a2 post) n_2) h_2 v3_2 := hm
      generalize itP2 (w_L_write_B2 c K a0 a1 a2 post) n_2 = rec_2 at hm ih_2
      unfold w_L_write_B2 at hm
      refine lv_iload_n hx hb dL_write_2 rfl (lv_at hl 3 rfl) ?_
      refine lv_aload_n hx hb dL_write_3 rfl (lv_at hl 2 rfl) ?_
      obtain ⟨⟨wr4, fr4, hrq4⟩, hm⟩ := hm
      refine hcVi (As := []) (rest := [.int v3_2]) ⟨hx, hb, hml, hown, hts⟩ (h_J0_length_8abf5 l G K c h_2 a2 _ hm) (cwV 0 hts gL_write_J0_length_8abf5 rfl rfl rfl (heV_J0_length_8abf5) ⟨Nat.le_of_ble_eq_true rfl, Nat.le_of_ble_eq_true rfl⟩) hK hN hZ hXX hP hD hS hA (mr_recv hK (mRd hK hP hZ hS) (ci := 11) rfl hrq4) rfl hl.1 rfl (Nat.le_of_ble_eq_true rfl) dL_write_4 ⟨Nat.le_refl _, Nat.le_refl _⟩ (fun r4 h4 H locs hm hP hD hS => ?_)
      refine lv_icmp_ge (tgt := 26) hx hb dL_write_7 (by decide) (fun c_7 => ?_) (fun c_7 => ?_)
      · have hm := hm.1 c_7
        exact hend H locs ls 26 _ _ h4 (Nat.le_refl _) (Nat.le_refl _) hm hP hD hS dL_write_26
      · have hm := hm.2 c_7
        refine lv_aload_n hx hb dL_write_10 rfl (lv_at hl 0 rfl) ?_
        refine lv_aload_n hx hb dL_write_11 rfl (lv_at hl 1 rfl) ?_
        refine lv_aload_n hx hb dL_write_12 rfl (lv_at hl 2 rfl) ?_
        refine lv_iload_n hx hb dL_write_13 rfl (lv_at hl 3 rfl) ?_
        obtain ⟨⟨wr14, fr14, hrq14⟩, hm⟩ := hm
        refine hcVi (As := [.int v3_2]) (rest := [.ref a1, .ref a0]) ⟨hx, hb, hml, hown, hts⟩ (h_J0_charAt_5068e l G K c h4 a2 v3_2 _ hm) (cwV 1 hts gL_write_J0_charAt_5068e rfl rfl rfl (heV_J0_charAt_5068e) ⟨Nat.le_of_ble_eq_true rfl, Nat.le_of_ble_eq_true rfl⟩) hK hN hZ hXX hP hD hS hA (mr_recv hK (mRd hK hP hZ hS) (ci := 11) rfl hrq14) rfl hl.1 rfl (Nat.le_of_ble_eq_true rfl) dL_write_14 ⟨Nat.le_refl _, Nat.le_refl _⟩ (fun r14 h14 H locs hm hP hD hS => ?_)
        refine hcSv (As := [.ref a0, .ref a1, .int r14]) (rest := []) ⟨hx, hb, hml, hown, hts⟩ (h_L_put l G K c h14 a0 a1 r14 _ hm) (va_cwS 3 hts gL_write_L_put rfl rfl rfl he_L_put ⟨Nat.le_of_ble_eq_true rfl, Nat.le_of_ble_eq_true rfl⟩) hK hN hZ hXX hP hD hS hA rfl hl.1 rfl (Nat.le_of_ble_eq_true rfl) dL_write_17 ⟨Nat.le_refl _, Nat.le_refl _⟩ (fun h17 H locs hm hP hD hS => ?_)
        obtain ⟨x20, ex20⟩ : ∃ z : Int32, z = (v3_2 + 1) := ⟨_, rfl⟩
        have hm := hm x20 ex20
        refine lv_iinc (k := 3) (v := x20) (lv' := [(3, .int x20), (0, .ref a0), (1, .ref a1), (2, .ref a2)]) hx hb dL_write_20 hl rfl ex20.symm (by decide) rfl (fun ls hl => ?_)
        refine lv_goto (tgt := 2) hx hb dL_write_23 (by decide) ?_
        exact ih_2 h17 x20 H locs ls hP hD hS (lv_sub hl [1, 2, 3, 0] rfl) hm
  exact L_2 n_2 h (0 : Int32) H locs ls hP hD hS (lv_sub hl [1, 2, 3, 0] rfl) hm

def w_L_writeNumber_B18 (c : Nat → ClassId) (K : (Nat → Nat) × (Nat → Nat)) (a0 : Nat) (a1 : Nat) (a2 : Int32) (post : HW → Prop) (rec_18 : HW → Int32 → Prop) (h_18 : HW) (v3_18 : Int32) : Prop :=
  (v3_18 ≤ 0 → post h_18) ∧ (¬ v3_18 ≤ 0 → ¬ v3_18 = 0 ∧ (∀ x28 : Int32, x28 = a2 / v3_18 → (∀ x31 : Int32, x31 = x28 - x28 / (10 : Int32) * (10 : Int32) → (∀ x32 : Int32, x32 = (48 : Int32) + x31 → (w_L_put c K h_18 a0 a1 x32 (fun (h33 : HW) => ∀ x39 : Int32, x39 = v3_18 / (10 : Int32) → (rec_18 h33 x39)))))))

def w_L_writeNumber_B2 (c : Nat → ClassId) (K : (Nat → Nat) × (Nat → Nat)) (h : HW) (a0 : Nat) (a1 : Nat) (a2 : Int32) (post : HW → Prop) (rec_2 : Int32 → Prop) (v3_2 : Int32) : Prop :=
  ∀ x6 : Int32, x6 = a2 / (10 : Int32) → ((x6 < v3_2 → ∃ n_18 : Nat, itP2 (w_L_writeNumber_B18 c K a0 a1 a2 post) n_18 h v3_2) ∧ (¬ x6 < v3_2 → ∀ x13 : Int32, x13 = v3_2 * (10 : Int32) → (rec_2 x13)))

def w_L_writeNumber (c : Nat → ClassId) (K : (Nat → Nat) × (Nat → Nat)) (h : HW) (a0 : Nat) (a1 : Nat) (a2 : Int32) (post : HW → Prop) : Prop :=
  ∃ n_2 : Nat, itP1 (w_L_writeNumber_B2 c K h a0 a1 a2 post) n_2 (1 : Int32)

abbrev rm_L_writeNumber : Room := { frames := 5, cells := 0, slots := 0, locals := 114 }
theorem he_L_writeNumber : yL_writeNumber.cls ≠ "java/lang/invoke/MethodHandle" ∧ yL_writeNumber.cls ≠ "java/lang/invoke/VarHandle" ∧ (parseMethodDescriptor yL_writeNumber.desc).map (fun d => d.parameters.length) = some 3 := by decide +kernel
theorem heV_L_writeNumber : yL_writeNumber.cls = RL ∧ yL_writeNumber.cls ≠ "java/lang/invoke/MethodHandle" ∧ yL_writeNumber.cls ≠ "java/lang/invoke/VarHandle" ∧ (parseMethodDescriptor yL_writeNumber.desc).map (fun d => d.parameters.length) = some 3 := by decide +kernel
set_option maxHeartbeats 4000000 in
set_option maxRecDepth 100000 in
theorem h_L_writeNumber (l : Launch) (G : va_G) (K : (Nat → Nat) × (Nat → Nat)) (c : Nat → ClassId) (h : HW) (a0 : Nat) (a1 : Nat) (a2 : Int32) (post : HW → Prop) (hm : w_L_writeNumber c K h a0 a1 a2 post) : hMv l yL_writeNumber wsL_writeNumber (rm_L_writeNumber) G K (TY c) [.ref a0, .ref a1, .int a2] h 0 0 post := by
  refine hMv.of (cc := cL_writeNumber) (maxL := 4) (lv := [(0, .ref a0), (1, .ref a1), (2, .int a2)]) (by decide) rfl (Nat.le_of_ble_eq_true rfl) rfl ?_
  intro p e s m args below meth c1 A Q H locs hx hb hml hown hmn hts hK hN hZ hXX hP hD hA hS hend ls hl
  have hown : s.vm.findClass RL = some m.cls := hown
  unfold w_L_writeNumber at hm
  refine lv_iconst (v := 1) hx hb dL_writeNumber_0 (by decide) ?_
  refine lv_istore_n (lv' := [(3, .int (1 : Int32)), (0, .ref a0), (1, .ref a1), (2, .int a2)]) hx hb dL_writeNumber_1 rfl hl (by decide) rfl (fun ls hl => ?_)
  obtain ⟨n_2, hm⟩ := hm
  have L_2 : ∀ (n_2 : Nat) (v3_2 : Int32) (H : Heap) (locs : List Loc) (ls : Array Slot), mP G K h H → mD A h → va_S A s.heap H locs → lv_has ls 4 [(0, .ref a0), (1, .ref a1), (2, .int a2), (3, .int v3_2)] → itP1 (w_L_writeNumber_B2 c K h a0 a1 a2 post) n_2 v3_2 → W p l e (rm_L_writeNumber) s m args below meth c1 H locs 0 0 Q (F0 m 2 ls []) := by
    intro n_2
    induction n_2 with
    | zero => intro v3_2 H locs ls hP hD hS hl hm; exact hm.elim
    | succ n_2 ih_2 =>
      intro v3_2 H locs ls hP hD hS hl hm
      have hm : (w_L_writeNumber_B2 c K h a0 a1 a2 post) (itP1 (w_L_writeNumber_B2 c K h a0 a1 a2 post) n_2) v3_2 := hm
      generalize itP1 (w_L_writeNumber_B2 c K h a0 a1 a2 post) n_2 = rec_2 at hm ih_2
      unfold w_L_writeNumber_B2 at hm
      refine lv_iload_n hx hb dL_writeNumber_2 rfl (lv_at hl 3 rfl) ?_
      refine lv_iload_n hx hb dL_writeNumber_3 rfl (lv_at hl 2 rfl) ?_
      refine lv_bipush (v := 10) hx hb dL_writeNumber_4 (by decide) ?_
      refine lv_idiv hx hb dL_writeNumber_6 (by decide) ?_
      refine lv_topi (fun x6 ex6 => ?_)
      have hm := hm x6 ex6
      refine lv_icmp_gt (tgt := 18) hx hb dL_writeNumber_7 (by decide) (fun c_7 => ?_) (fun c_7 => ?_)
      · have hm := hm.1 c_7
        obtain ⟨n_18, hm⟩ := hm
        have L_18 : ∀ (n_18 : Nat) (h_18 : HW) (v3_18 : Int32) (H : Heap) (locs : List Loc) (ls : Array Slot), mP G K h_18 H → mD A h_18 → va_S A s.heap H locs → lv_has ls 4 [(0, .ref a0), (1, .ref a1), (2, .int a2), (3, .int v3_18)] → itP2 (w_L_writeNumber_B18 c K a0 a1 a2 post) n_18 h_18 v3_18 → W p l e (rm_L_writeNumber) s m args below meth c1 H locs 0 0 Q (F0 m 18 ls []) := by
          intro n_18
          induction n_18 with
          | zero => intro h_18 v3_18 H locs ls hP hD hS hl hm; exact hm.elim
          | succ n_18 ih_18 =>
            intro h_18 v3_18 H locs ls hP hD hS hl hm
            have hm : (w_L_writeNumber_B18 c K a0 a1 a2 post) (itP2 (w_L_writeNumber_B18 c K a0 a1 a2 post) n_18) h_18 v3_18 := hm
            generalize itP2 (w_L_writeNumber_B18 c K a0 a1 a2 post) n_18 = rec_18 at hm ih_18
            unfold w_L_writeNumber_B18 at hm
            refine lv_iload_n hx hb dL_writeNumber_18 rfl (lv_at hl 3 rfl) ?_
            refine lv_if_le (tgt := 44) hx hb dL_writeNumber_19 (by decide) (fun c_19 => ?_) (fun c_19 => ?_)
            · have hm := hm.1 c_19
              exact hend H locs ls 44 _ _ h_18 (Nat.le_refl _) (Nat.le_refl _) hm hP hD hS dL_writeNumber_44
            · have hm := hm.2 c_19
              refine lv_aload_n hx hb dL_writeNumber_22 rfl (lv_at hl 0 rfl) ?_
              refine lv_aload_n hx hb dL_writeNumber_23 rfl (lv_at hl 1 rfl) ?_
              refine lv_bipush (v := 48) hx hb dL_writeNumber_24 (by decide) ?_
              refine lv_iload_n hx hb dL_writeNumber_26 rfl (lv_at hl 2 rfl) ?_
              refine lv_iload_n hx hb dL_writeNumber_27 rfl (lv_at hl 3 rfl) ?_
              obtain ⟨hnz28, hm⟩ := hm
              refine lv_idiv hx hb dL_writeNumber_28 hnz28 ?_
              refine lv_topi (fun x28 ex28 => ?_)
              have hm := hm x28 ex28
              refine lv_bipush (v := 10) hx hb dL_writeNumber_29 (by decide) ?_
              refine lv_irem hx hb dL_writeNumber_31 (by decide) ?_
              refine lv_topi (fun x31 ex31 => ?_)
              have hm := hm x31 ex31
              refine lv_iadd hx hb dL_writeNumber_32 ?_
              refine lv_topi (fun x32 ex32 => ?_)
              have hm := hm x32 ex32
              refine hcSv (As := [.ref a0, .ref a1, .int x32]) (rest := []) ⟨hx, hb, hml, hown, hts⟩ (h_L_put l G K c h_18 a0 a1 x32 _ hm) (va_cwS 3 hts gL_writeNumber_L_put rfl rfl rfl he_L_put ⟨Nat.le_of_ble_eq_true rfl, Nat.le_of_ble_eq_true rfl⟩) hK hN hZ hXX hP hD hS hA rfl hl.1 rfl (Nat.le_of_ble_eq_true rfl) dL_writeNumber_33 ⟨Nat.le_refl _, Nat.le_refl _⟩ (fun h33 H locs hm hP hD hS => ?_)
              refine lv_iload_n hx hb dL_writeNumber_36 rfl (lv_at hl 3 rfl) ?_
              refine lv_bipush (v := 10) hx hb dL_writeNumber_37 (by decide) ?_
              refine lv_idiv hx hb dL_writeNumber_39 (by decide) ?_
              refine lv_topi (fun x39 ex39 => ?_)
              have hm := hm x39 ex39
              refine lv_istore_n (lv' := [(3, .int x39), (0, .ref a0), (1, .ref a1), (2, .int a2)]) hx hb dL_writeNumber_40 rfl hl (by decide) rfl (fun ls hl => ?_)
              refine lv_goto (tgt := 18) hx hb dL_writeNumber_41 (by decide) ?_
              exact ih_18 h33 x39 H locs ls hP hD hS (lv_sub hl [1, 2, 3, 0] rfl) hm
        exact L_18 n_18 h v3_2 H locs ls hP hD hS (lv_sub hl [0, 1, 2, 3] rfl) hm
      · have hm := hm.2 c_7
        refine lv_iload_n hx hb dL_writeNumber_10 rfl (lv_at hl 3 rfl) ?_
        refine lv_bipush (v := 10) hx hb dL_writeNumber_11 (by decide) ?_
        refine lv_imul hx hb dL_writeNumber_13 ?_
        refine lv_topi (fun x13 ex13 => ?_)
        have hm := hm x13 ex13
        refine lv_istore_n (lv' := [(3, .int x13), (0, .ref a0), (1, .ref a1), (2, .int a2)]) hx hb dL_writeNumber_14 rfl hl (by decide) rfl (fun ls hl => ?_)
        refine lv_goto (tgt := 2) hx hb dL_writeNumber_15 (by decide) ?_
        exact ih_2 x13 H locs ls hP hD hS (lv_sub hl [1, 2, 3, 0] rfl) hm
  exact L_2 n_2 (1 : Int32) H locs ls hP hD hS (lv_sub hl [1, 2, 3, 0] rfl) hm

def w_L_loadText_J16 (c : Nat → ClassId) (K : (Nat → Nat) × (Nat → Nat)) (a0 : Nat) (a1 : Nat) (post : Int32 → HW → Prop) (x2 : Int32) (h_16 : HW) (mc_16 ms_16 : Nat) : Prop :=
  stI h_16 (c 0) a1 (0 : Int32) (0 : Int32) (fun (h19 : HW) => (∃ m22 z22 mB22 zB22 : Nat, mc_16 = m22 + mB22 ∧ ms_16 = z22 + zB22 ∧ w_L_load c K h19 a0 x2 m22 z22 (fun (r22 : Int32) (h22 : HW) => post r22 h22)))

def w_L_loadText (c : Nat → ClassId) (K : (Nat → Nat) × (Nat → Nat)) (h : HW) (a0 : Nat) (a1 : Nat) (mc ms : Nat) (post : Int32 → HW → Prop) : Prop :=
  lI h (c 0) a1 (0 : Int32) (fun (x2 : Int32) => ∀ x7 : Int32, x7 = x2 - x2 / (20 : Int32) * (20 : Int32) → ((x7 ≤ 0 → w_L_loadText_J16 c K a0 a1 post x2 h mc ms) ∧ (¬ x7 ≤ 0 → w_L_flush c K h a0 a1 (fun (h13 : HW) => w_L_loadText_J16 c K a0 a1 post x2 h13 mc ms))))

abbrev rm_L_loadText (mc ms : Nat) : Room := { frames := 109, cells := mc, slots := ms, locals := 4223 }
theorem he_L_loadText : yL_loadText.cls ≠ "java/lang/invoke/MethodHandle" ∧ yL_loadText.cls ≠ "java/lang/invoke/VarHandle" ∧ (parseMethodDescriptor yL_loadText.desc).map (fun d => d.parameters.length) = some 2 := by decide +kernel
theorem heV_L_loadText : yL_loadText.cls = RL ∧ yL_loadText.cls ≠ "java/lang/invoke/MethodHandle" ∧ yL_loadText.cls ≠ "java/lang/invoke/VarHandle" ∧ (parseMethodDescriptor yL_loadText.desc).map (fun d => d.parameters.length) = some 2 := by decide +kernel
set_option maxHeartbeats 4000000 in
set_option maxRecDepth 100000 in
theorem h_L_loadText (l : Launch) (hl0 : l.stackTraces = false) (G : va_G) (K : (Nat → Nat) × (Nat → Nat)) (c : Nat → ClassId) (h : HW) (a0 : Nat) (a1 : Nat) (mc ms : Nat) (post : Int32 → HW → Prop) (hm : w_L_loadText c K h a0 a1 mc ms post) : hMi l yL_loadText wsL_loadText (rm_L_loadText mc ms) G K (TY c) [.ref a0, .ref a1] h mc ms post := by
  refine hMi.of (cc := cL_loadText) (maxL := 3) (lv := [(0, .ref a0), (1, .ref a1)]) (by decide) rfl (Nat.le_of_ble_eq_true rfl) rfl ?_
  intro p e s m args below meth c1 A Q H locs hx hb hml hown hmn hts hK hN hZ hXX hP hD hA hS hend ls hl
  have hown : s.vm.findClass RL = some m.cls := hown
  unfold w_L_loadText at hm
  have hf : 0 + mc ≤ mc ∧ 0 + ms ≤ ms := ⟨by omega, by omega⟩
  refine lv_aload_n hx hb dL_loadText_0 rfl (lv_at hl 1 rfl) ?_
  refine lv_iconst (v := 0) hx hb dL_loadText_1 (by decide) ?_
  obtain ⟨wq2, n2, f2, hq2, hi2, hm⟩ := hm
  refine mr_iald hx hb hK (mRd hK hP hZ hS) 0 hq2 rfl hi2 dL_loadText_2 (fun x2 ex2 => ?_)
  have hm := hm x2 ex2
  refine lv_istore_n (lv' := [(2, .int x2), (0, .ref a0), (1, .ref a1)]) hx hb dL_loadText_3 rfl hl (by decide) rfl (fun ls hl => ?_)
  refine lv_iload_n hx hb dL_loadText_4 rfl (lv_at hl 0 rfl) ?_
  refine lv_bipush (v := 20) hx hb dL_loadText_5 (by decide) ?_
  refine lv_irem hx hb dL_loadText_7 (by decide) ?_
  refine lv_topi (fun x7 ex7 => ?_)
  have hm := hm x7 ex7
  have J_16 : ∀ (h_16 : HW) (mc_16 ms_16 : Nat) (cl_16 sl_16 : Nat) (H : Heap) (locs : List Loc) (ls : Array Slot), cl_16 + mc_16 ≤ mc ∧ sl_16 + ms_16 ≤ ms → mP G K h_16 H → mD A h_16 → va_S A s.heap H locs → lv_has ls 3 [(0, .ref a0), (1, .ref a1), (2, .int x2)] → w_L_loadText_J16 c K a0 a1 post x2 h_16 mc_16 ms_16 → W p l e (rm_L_loadText mc ms) s m args below meth c1 H locs cl_16 sl_16 Q (F0 m 16 ls []) := by
    intro h_16 mc_16 ms_16 cl_16 sl_16 H locs ls hf hP hD hS hl hm
    unfold w_L_loadText_J16 at hm
    refine lv_aload_n hx hb dL_loadText_16 rfl (lv_at hl 1 rfl) ?_
    refine lv_iconst (v := 0) hx hb dL_loadText_17 (by decide) ?_
    refine lv_iconst (v := 0) hx hb dL_loadText_18 (by decide) ?_
    obtain ⟨n19, f19, hq19, hi19, hm⟩ := hm
    refine mr_iast hx hb hK hP hD hS 0 hq19 rfl hi19 dL_loadText_19 (fun H locs hP hD hS => ?_)
    generalize hup h_16 a1 (eI (c 0) n19 (upd f19 (0 : Int32).toNatClampNeg (0 : Int32))) = h19 at hm hP hD
    refine lv_aload_n hx hb dL_loadText_20 rfl (lv_at hl 0 rfl) ?_
    refine lv_iload_n hx hb dL_loadText_21 rfl (lv_at hl 2 rfl) ?_
    obtain ⟨m22, z22, mB22, zB22, hbm22, hbs22, hm⟩ := hm
    refine hcSWi (As := [.ref a0, .int x2]) (rest := []) ⟨hx, hb, hml, hown, hts⟩ (h_L_load l hl0 G K c h19 a0 x2 m22 z22 _ hm) (vx_cwSW 2 hts gL_loadText_L_load rfl rfl rfl he_L_load ⟨Nat.le_of_ble_eq_true rfl, Nat.le_of_ble_eq_true rfl⟩) hK hN hZ hXX hP hD hS hA rfl hl.1 rfl (Nat.le_of_ble_eq_true rfl) dL_loadText_22 ⟨by show cl_16 + m22 ≤ mc; omega, by show sl_16 + z22 ≤ ms; omega⟩ (fun r22 h22 H locs hm hP hD hS => ?_)
    replace hf : (cl_16 + m22) + mB22 ≤ mc ∧ (sl_16 + z22) + zB22 ≤ ms := ⟨by omega, by omega⟩
    clear hbm22 hbs22
    exact hend H locs ls 25 _ _ r22 h22 (by omega) (by omega) rfl hm hP hD hS dL_loadText_25
  refine lv_if_le (tgt := 16) hx hb dL_loadText_8 (by decide) (fun c_8 => ?_) (fun c_8 => ?_)
  · have hm := hm.1 c_8
    exact J_16 h mc ms 0 0 H locs ls ⟨by omega, by omega⟩ hP hD hS (lv_sub hl [1, 2, 0] rfl) hm
  · have hm := hm.2 c_8
    refine lv_aload_n hx hb dL_loadText_11 rfl (lv_at hl 1 rfl) ?_
    refine lv_aload_n hx hb dL_loadText_12 rfl (lv_at hl 2 rfl) ?_
    refine hcSv (As := [.ref a0, .ref a1]) (rest := []) ⟨hx, hb, hml, hown, hts⟩ (h_L_flush l G K c h a0 a1 _ hm) (va_cwS 2 hts gL_loadText_L_flush rfl rfl rfl he_L_flush ⟨Nat.le_of_ble_eq_true rfl, Nat.le_of_ble_eq_true rfl⟩) hK hN hZ hXX hP hD hS hA rfl hl.1 rfl (Nat.le_of_ble_eq_true rfl) dL_loadText_13 ⟨by show 0 + 0 ≤ mc; omega, by show 0 + 0 ≤ ms; omega⟩ (fun h13 H locs hm hP hD hS => ?_)
    exact J_16 h13 mc ms 0 0 H locs ls ⟨by omega, by omega⟩ hP hD hS (lv_sub hl [1, 2, 0] rfl) hm

def w_L_writeAll_B17 (c : Nat → ClassId) (K : (Nat → Nat) × (Nat → Nat)) (a0 : Nat) (a1 : Nat) (a3 : Nat) (post : HW → Prop) (x11 : Int32) (rec_17 : HW → Int32 → Prop) (h_17 : HW) (v6_17 : Int32) : Prop :=
  (x11 ≤ v6_17 → post h_17) ∧ (¬ x11 ≤ v6_17 → lI h_17 (c 0) a3 v6_17 (fun (x28 : Int32) => w_L_write c K h_17 a0 a1 (K.1 10) (fun (h35 : HW) => w_L_writeNumber c K h35 a0 a1 x28 (fun (h42 : HW) => ∀ x45 : Int32, x45 = (v6_17 + 1) → (rec_17 h42 x45)))))

def w_L_writeAll (c : Nat → ClassId) (K : (Nat → Nat) × (Nat → Nat)) (h : HW) (a0 : Nat) (a1 : Nat) (a2 : Nat) (a3 : Nat) (post : HW → Prop) : Prop :=
  w_L_write c K h a0 a1 a2 (fun (h3 : HW) => lenA h3 (c 0) a3 (fun (x11 : Int32) => ∃ n_17 : Nat, itP2 (w_L_writeAll_B17 c K a0 a1 a3 post x11) n_17 h3 (0 : Int32)))

abbrev rm_L_writeAll : Room := { frames := 6, cells := 0, slots := 0, locals := 137 }
theorem he_L_writeAll : yL_writeAll.cls ≠ "java/lang/invoke/MethodHandle" ∧ yL_writeAll.cls ≠ "java/lang/invoke/VarHandle" ∧ (parseMethodDescriptor yL_writeAll.desc).map (fun d => d.parameters.length) = some 4 := by decide +kernel
theorem heV_L_writeAll : yL_writeAll.cls = RL ∧ yL_writeAll.cls ≠ "java/lang/invoke/MethodHandle" ∧ yL_writeAll.cls ≠ "java/lang/invoke/VarHandle" ∧ (parseMethodDescriptor yL_writeAll.desc).map (fun d => d.parameters.length) = some 4 := by decide +kernel
set_option maxHeartbeats 4000000 in
set_option maxRecDepth 100000 in
theorem h_L_writeAll (l : Launch) (G : va_G) (K : (Nat → Nat) × (Nat → Nat)) (c : Nat → ClassId) (h : HW) (a0 : Nat) (a1 : Nat) (a2 : Nat) (a3 : Nat) (post : HW → Prop) (hm : w_L_writeAll c K h a0 a1 a2 a3 post) : hMv l yL_writeAll wsL_writeAll (rm_L_writeAll) G K (TY c) [.ref a0, .ref a1, .ref a2, .ref a3] h 0 0 post := by
  refine hMv.of (cc := cL_writeAll) (maxL := 8) (lv := [(0, .ref a0), (1, .ref a1), (2, .ref a2), (3, .ref a3)]) (by decide) rfl (Nat.le_of_ble_eq_true rfl) rfl ?_
  intro p e s m args below meth c1 A Q H locs hx hb hml hown hmn hts hK hN hZ hXX hP hD hA hS hend ls hl
  have hown : s.vm.findClass RL = some m.cls := hown
  unfold w_L_writeAll at hm
  refine lv_aload_n hx hb dL_writeAll_0 rfl (lv_at hl 0 rfl) ?_
  refine lv_aload_n hx hb dL_writeAll_1 rfl (lv_at hl 1 rfl) ?_
  refine lv_aload_n hx hb dL_writeAll_2 rfl (lv_at hl 2 rfl) ?_
  refine hcSv (As := [.ref a0, .ref a1, .ref a2]) (rest := []) ⟨hx, hb, hml, hown, hts⟩ (h_L_write l G K c h a0 a1 a2 _ hm) (va_cwS 3 hts gL_writeAll_L_write rfl rfl rfl he_L_write ⟨Nat.le_of_ble_eq_true rfl, Nat.le_of_ble_eq_true rfl⟩) hK hN hZ hXX hP hD hS hA rfl hl.1 rfl (Nat.le_of_ble_eq_true rfl) dL_writeAll_3 ⟨Nat.le_refl _, Nat.le_refl _⟩ (fun h3 H locs hm hP hD hS => ?_)
  refine lv_aload_n hx hb dL_writeAll_6 rfl (lv_at hl 3 rfl) ?_
  refine lv_astore (lv' := [(4, .ref a3), (0, .ref a0), (1, .ref a1), (2, .ref a2), (3, .ref a3)]) hx hb dL_writeAll_7 hl (by decide) rfl (fun ls hl => ?_)
  refine lv_aload hx hb dL_writeAll_9 (lv_at hl 0 rfl) ?_
  obtain ⟨wq11, xx11, hq11, hm⟩ := hm
  refine mr_alen hx hb hK (mRd hK hP hZ hS) 0 hq11 rfl dL_writeAll_11 (fun x11 ex11 => ?_)
  have hm := hm x11 ex11
  refine lv_istore (lv' := [(5, .int x11), (4, .ref a3), (0, .ref a0), (1, .ref a1), (2, .ref a2), (3, .ref a3)]) hx hb dL_writeAll_12 hl (by decide) rfl (fun ls hl => ?_)
  refine lv_iconst (v := 0) hx hb dL_writeAll_14 (by decide) ?_
  refine lv_istore (lv' := [(6, .int (0 : Int32)), (5, .int x11), (4, .ref a3), (0, .ref a0), (1, .ref a1), (2, .ref a2), (3, .ref a3)]) hx hb dL_writeAll_15 hl (by decide) rfl (fun ls hl => ?_)
  obtain ⟨n_17, hm⟩ := hm
  have L_17 : ∀ (n_17 : Nat) (h_17 : HW) (v6_17 : Int32) (H : Heap) (locs : List Loc) (ls : Array Slot), mP G K h_17 H → mD A h_17 → va_S A s.heap H locs → lv_has ls 8 [(0, .ref a0), (1, .ref a1), (4, .ref a3), (5, .int x11), (6, .int v6_17)] → itP2 (w_L_writeAll_B17 c K a0 a1 a3 post x11) n_17 h_17 v6_17 → W p l e (rm_L_writeAll) s m args below meth c1 H locs 0 0 Q (F0 m 17 ls []) := by
    intro n_17
    induction n_17 with
    | zero => intro h_17 v6_17 H locs ls hP hD hS hl hm; exact hm.elim
    | succ n_17 ih_17 =>
      intro h_17 v6_17 H locs ls hP hD hS hl hm
      have hm : (w_L_writeAll_B17 c K a0 a1 a3 post x11) (itP2 (w_L_writeAll_B17 c K a0 a1 a3 post x11) n_17) h_17 v6_17 := hm
      generalize itP2 (w_L_writeAll_B17 c K a0 a1 a3 post x11) n_17 = rec_17 at hm ih_17
      unfold w_L_writeAll_B17 at hm
      refine lv_iload hx hb dL_writeAll_17 (lv_at hl 4 rfl) ?_
      refine lv_iload hx hb dL_writeAll_19 (lv_at hl 3 rfl) ?_
      refine lv_icmp_ge (tgt := 51) hx hb dL_writeAll_21 (by decide) (fun c_21 => ?_) (fun c_21 => ?_)
      · have hm := hm.1 c_21
        exact hend H locs ls 51 _ _ h_17 (Nat.le_refl _) (Nat.le_refl _) hm hP hD hS dL_writeAll_51
      · have hm := hm.2 c_21
        refine lv_aload hx hb dL_writeAll_24 (lv_at hl 2 rfl) ?_
        refine lv_iload hx hb dL_writeAll_26 (lv_at hl 4 rfl) ?_
        obtain ⟨wq28, n28, f28, hq28, hi28, hm⟩ := hm
        refine mr_iald hx hb hK (mRd hK hP hZ hS) 0 hq28 rfl hi28 dL_writeAll_28 (fun x28 ex28 => ?_)
        have hm := hm x28 ex28
        refine lv_istore (lv' := [(7, .int x28), (0, .ref a0), (1, .ref a1), (4, .ref a3), (5, .int x11), (6, .int v6_17)]) hx hb dL_writeAll_29 hl (by decide) rfl (fun ls hl => ?_)
        refine lv_aload_n hx hb dL_writeAll_31 rfl (lv_at hl 1 rfl) ?_
        refine lv_aload_n hx hb dL_writeAll_32 rfl (lv_at hl 2 rfl) ?_
        refine va_ldcS hx hb hown (nws_HubTrainsLaw_106 hN.2.2) dL_writeAll_33 ?_
        refine hcSv (As := [.ref a0, .ref a1, .ref (K.1 10)]) (rest := []) ⟨hx, hb, hml, hown, hts⟩ (h_L_write l G K c h_17 a0 a1 (K.1 10) _ hm) (va_cwS 3 hts gL_writeAll_L_write rfl rfl rfl he_L_write ⟨Nat.le_of_ble_eq_true rfl, Nat.le_of_ble_eq_true rfl⟩) hK hN hZ hXX hP hD hS hA rfl hl.1 rfl (Nat.le_of_ble_eq_true rfl) dL_writeAll_35 ⟨Nat.le_refl _, Nat.le_refl _⟩ (fun h35 H locs hm hP hD hS => ?_)
        refine lv_aload_n hx hb dL_writeAll_38 rfl (lv_at hl 1 rfl) ?_
        refine lv_aload_n hx hb dL_writeAll_39 rfl (lv_at hl 2 rfl) ?_
        refine lv_iload hx hb dL_writeAll_40 (lv_at hl 0 rfl) ?_
        refine hcSv (As := [.ref a0, .ref a1, .int x28]) (rest := []) ⟨hx, hb, hml, hown, hts⟩ (h_L_writeNumber l G K c h35 a0 a1 x28 _ hm) (va_cwS 3 hts gL_writeAll_L_writeNumber rfl rfl rfl he_L_writeNumber ⟨Nat.le_of_ble_eq_true rfl, Nat.le_of_ble_eq_true rfl⟩) hK hN hZ hXX hP hD hS hA rfl hl.1 rfl (Nat.le_of_ble_eq_true rfl) dL_writeAll_42 ⟨Nat.le_refl _, Nat.le_refl _⟩ (fun h42 H locs hm hP hD hS => ?_)
        obtain ⟨x45, ex45⟩ : ∃ z : Int32, z = (v6_17 + 1) := ⟨_, rfl⟩
        have hm := hm x45 ex45
        refine lv_iinc (k := 5) (v := x45) (lv' := [(6, .int x45), (7, .int x28), (0, .ref a0), (1, .ref a1), (4, .ref a3), (5, .int x11)]) hx hb dL_writeAll_45 hl rfl ex45.symm (by decide) rfl (fun ls hl => ?_)
        refine lv_goto (tgt := 17) hx hb dL_writeAll_48 (by decide) ?_
        exact ih_17 h42 x45 H locs ls hP hD hS (lv_sub hl [2, 3, 4, 5, 0] rfl) hm
  exact L_17 n_17 h3 (0 : Int32) H locs ls hP hD hS (lv_sub hl [3, 4, 2, 1, 0] rfl) hm

