/-! walks of the law's own methods over maps -/
def ws27_copy : List Cond := wsX10_copy ++ [.methodLink RX10 65 ⟨"[[I", "clone", "()Ljava/lang/Object;"⟩, .sameMethod "[[I" "java/lang/Object" "clone" "()Ljava/lang/Object;", .selects "[[I" ⟨"[[I", "clone", "()Ljava/lang/Object;"⟩ ⟨"java/lang/Object", "clone", "()Ljava/lang/Object;"⟩]
def w_X10_init (c : Nat → ClassId) (K : (Nat → Nat) × (Nat → Nat)) (h : HW) (a0 : Nat) (mc ms : Nat) (post : HW → Prop) : Prop :=
  pV h a0 10 0 (.int (3 : Int32)) (fun (h6 : HW) => pV h6 a0 10 1 (.int (1 : Int32)) (fun (h11 : HW) => pV h11 a0 10 2 (.int (3 : Int32)) (fun (h16 : HW) => pV h16 a0 10 3 (.int (1 : Int32)) (fun (h21 : HW) => pV h21 a0 10 6 (.int (-1 : Int32)) (fun (h26 : HW) => nwM h26 (c 2) (c 0) (2 : Int32) (0 : Int32) mc ms (fun (q32 : Nat) (h32 : HW) (mB32 zB32 : Nat) => pV h32 a0 10 10 (.ref q32) (fun (h36 : HW) => nwI h36 (c 0) (2 : Int32) mB32 zB32 (fun (q41 : Nat) (h41 : HW) (mB41 zB41 : Nat) => pV h41 a0 10 11 (.ref q41) (fun (h43 : HW) => nwM h43 (c 2) (c 0) (3 : Int32) (0 : Int32) mB41 zB41 (fun (q49 : Nat) (h49 : HW) (mB49 zB49 : Nat) => pV h49 a0 10 12 (.ref q49) (fun (h53 : HW) => nwI h53 (c 4) (3 : Int32) mB49 zB49 (fun (q58 : Nat) (h58 : HW) (mB58 zB58 : Nat) => pV h58 a0 10 13 (.ref q58) (fun (h60 : HW) => nwI h60 (c 0) (0 : Int32) mB58 zB58 (fun (q65 : Nat) (h65 : HW) (mB65 zB65 : Nat) => pV h65 a0 10 14 (.ref q65) (fun (h67 : HW) => nwL h67 (c 1) (5 : Int32) mB65 zB65 (fun (q72 : Nat) (h72 : HW) (mB72 zB72 : Nat) => pV h72 a0 10 16 (.ref q72) (fun (h74 : HW) => post h74)))))))))))))))))

abbrev rm_X10_init (mc ms : Nat) : Room := { frames := 1, cells := mc, slots := ms, locals := 80 }
theorem he_X10_init : yX10_init.cls ≠ "java/lang/invoke/MethodHandle" ∧ yX10_init.cls ≠ "java/lang/invoke/VarHandle" ∧ (parseMethodDescriptor yX10_init.desc).map (fun d => d.parameters.length) = some 0 := by decide +kernel
theorem heV_X10_init : yX10_init.cls = RX10 ∧ yX10_init.cls ≠ "java/lang/invoke/MethodHandle" ∧ yX10_init.cls ≠ "java/lang/invoke/VarHandle" ∧ (parseMethodDescriptor yX10_init.desc).map (fun d => d.parameters.length) = some 0 := by decide +kernel
set_option maxHeartbeats 4000000 in
set_option maxRecDepth 100000 in
theorem h_X10_init (l : Launch) (G : va_G) (K : (Nat → Nat) × (Nat → Nat)) (c : Nat → ClassId) (h : HW) (a0 : Nat) (mc ms : Nat) (post : HW → Prop) (hm : w_X10_init c K h a0 mc ms post) : hMv l yX10_init wsX10_init (rm_X10_init mc ms) G K (TY c) [.ref a0] h mc ms post := by
  refine hMv.of (cc := cX10_init) (maxL := 1) (lv := [(0, .ref a0)]) (by decide) rfl (Nat.le_of_ble_eq_true rfl) rfl ?_
  intro p e s m args below meth c1 A Q H locs hx hb hml hown hmn hts hK hN hZ hXX hP hD hA hS hend ls hl
  have hown : s.vm.findClass RX10 = some m.cls := hown
  have hi_10 : ∀ w ∈ u_ws RX10 TX10 17, w ∈ wsX10_init := fun w h => (fun w h => List.mem_cons_of_mem _ (List.mem_append_right _ (h))) w h
  unfold w_X10_init at hm
  have hf : 0 + mc ≤ mc ∧ 0 + ms ≤ ms := ⟨by omega, by omega⟩
  refine lv_aload_n hx hb dX10_init_0 rfl (lv_at hl 0 rfl) ?_
  refine W.objInit hx hb hown (hts (.methodLink RX10 1 objectInit) ((List.mem_of_getElem? (i := 1) rfl))) (hts (.instanceMethod objectInit) ((List.mem_of_getElem? (i := 2) rfl))) (hts (.code objectInit ⟨#[0xb1]⟩ 1 none) ((List.mem_of_getElem? (i := 3) rfl))) rfl (hl.1.trans hml.symm) rfl dX10_init_1 (Nat.le_of_ble_eq_true rfl) (Nat.le_of_ble_eq_true rfl) ?_
  show W p l e _ s m args below meth c1 _ _ _ _ _ (F0 m 4 ls [])
  refine lv_aload_n hx hb dX10_init_4 rfl (lv_at hl 0 rfl) ?_
  refine lv_iconst (v := 3) hx hb dX10_init_5 (by decide) ?_
  obtain ⟨fs6, hq6, hl6, hm⟩ := hm
  refine mr_put (v := .int (3 : Int32)) (ci := 10) (C := RX10) (T := TX10) (N := 17) hx hb hts hi_10 tyX10 (fun k hk => tyX10_ok k (Nat.lt_of_lt_of_le hk (by decide))) (fun a ha b hb => nmX10 a (Nat.lt_of_lt_of_le ha (by decide)) b (Nat.lt_of_lt_of_le hb (by decide))) hown hK hP hD hS hq6 rfl 0 (by decide) (hts (.fieldLink RX10 7 "HubTrainsLaw$Table" "most" "I") ((List.mem_of_getElem? (i := 4) rfl))) (fun _ h9 => h9) rfl (tyX10_ok 0 (by decide)) rfl rfl hl6 dX10_init_6 (fun H locs hP hD hS => ?_)
  generalize hup h a0 (.inr (10, fs6.set 0 (.int (3 : Int32)))) = h6 at hm hP hD
  refine lv_aload_n hx hb dX10_init_9 rfl (lv_at hl 0 rfl) ?_
  refine lv_iconst (v := 1) hx hb dX10_init_10 (by decide) ?_
  obtain ⟨fs11, hq11, hl11, hm⟩ := hm
  refine mr_put (v := .int (1 : Int32)) (ci := 10) (C := RX10) (T := TX10) (N := 17) hx hb hts hi_10 tyX10 (fun k hk => tyX10_ok k (Nat.lt_of_lt_of_le hk (by decide))) (fun a ha b hb => nmX10 a (Nat.lt_of_lt_of_le ha (by decide)) b (Nat.lt_of_lt_of_le hb (by decide))) hown hK hP hD hS hq11 rfl 1 (by decide) (hts (.fieldLink RX10 13 "HubTrainsLaw$Table" "handSize" "I") ((List.mem_of_getElem? (i := 5) rfl))) (fun _ h9 => h9) rfl (tyX10_ok 1 (by decide)) rfl rfl hl11 dX10_init_11 (fun H locs hP hD hS => ?_)
  generalize hup h6 a0 (.inr (10, fs11.set 1 (.int (1 : Int32)))) = h11 at hm hP hD
  refine lv_aload_n hx hb dX10_init_14 rfl (lv_at hl 0 rfl) ?_
  refine lv_iconst (v := 3) hx hb dX10_init_15 (by decide) ?_
  obtain ⟨fs16, hq16, hl16, hm⟩ := hm
  refine mr_put (v := .int (3 : Int32)) (ci := 10) (C := RX10) (T := TX10) (N := 17) hx hb hts hi_10 tyX10 (fun k hk => tyX10_ok k (Nat.lt_of_lt_of_le hk (by decide))) (fun a ha b hb => nmX10 a (Nat.lt_of_lt_of_le ha (by decide)) b (Nat.lt_of_lt_of_le hb (by decide))) hown hK hP hD hS hq16 rfl 2 (by decide) (hts (.fieldLink RX10 16 "HubTrainsLaw$Table" "hub" "I") ((List.mem_of_getElem? (i := 6) rfl))) (fun _ h9 => h9) rfl (tyX10_ok 2 (by decide)) rfl rfl hl16 dX10_init_16 (fun H locs hP hD hS => ?_)
  generalize hup h11 a0 (.inr (10, fs16.set 2 (.int (3 : Int32)))) = h16 at hm hP hD
  refine lv_aload_n hx hb dX10_init_19 rfl (lv_at hl 0 rfl) ?_
  refine lv_iconst (v := 1) hx hb dX10_init_20 (by decide) ?_
  obtain ⟨fs21, hq21, hl21, hm⟩ := hm
  refine mr_put (v := .int (1 : Int32)) (ci := 10) (C := RX10) (T := TX10) (N := 17) hx hb hts hi_10 tyX10 (fun k hk => tyX10_ok k (Nat.lt_of_lt_of_le hk (by decide))) (fun a ha b hb => nmX10 a (Nat.lt_of_lt_of_le ha (by decide)) b (Nat.lt_of_lt_of_le hb (by decide))) hown hK hP hD hS hq21 rfl 3 (by decide) (hts (.fieldLink RX10 19 "HubTrainsLaw$Table" "seed" "I") ((List.mem_of_getElem? (i := 7) rfl))) (fun _ h9 => h9) rfl (tyX10_ok 3 (by decide)) rfl rfl hl21 dX10_init_21 (fun H locs hP hD hS => ?_)
  generalize hup h16 a0 (.inr (10, fs21.set 3 (.int (1 : Int32)))) = h21 at hm hP hD
  refine lv_aload_n hx hb dX10_init_24 rfl (lv_at hl 0 rfl) ?_
  refine lv_iconst (v := (-1)) hx hb dX10_init_25 (by decide) ?_
  obtain ⟨fs26, hq26, hl26, hm⟩ := hm
  refine mr_put (v := .int (-1 : Int32)) (ci := 10) (C := RX10) (T := TX10) (N := 17) hx hb hts hi_10 tyX10 (fun k hk => tyX10_ok k (Nat.lt_of_lt_of_le hk (by decide))) (fun a ha b hb => nmX10 a (Nat.lt_of_lt_of_le ha (by decide)) b (Nat.lt_of_lt_of_le hb (by decide))) hown hK hP hD hS hq26 rfl 6 (by decide) (hts (.fieldLink RX10 22 "HubTrainsLaw$Table" "cover" "I") ((List.mem_of_getElem? (i := 8) rfl))) (fun _ h9 => h9) rfl (tyX10_ok 6 (by decide)) rfl rfl hl26 dX10_init_26 (fun H locs hP hD hS => ?_)
  generalize hup h21 a0 (.inr (10, fs26.set 6 (.int (-1 : Int32)))) = h26 at hm hP hD
  refine lv_aload_n hx hb dX10_init_29 rfl (lv_at hl 0 rfl) ?_
  refine lv_iconst (v := 2) hx hb dX10_init_30 (by decide) ?_
  refine lv_iconst (v := 0) hx hb dX10_init_31 (by decide) ?_
  obtain ⟨hn32, hk32, hb32, hd32, mB32, zB32, hc32, hs32, hm⟩ := hm
  refine mr_mna hx hb hown (by rw [nmII]; exact (hts (.classLink RX10 25 "[[I") ((List.mem_of_getElem? (i := 9) rfl)))) hXX.1.2 (hts (.arrayClass .int) ((List.mem_of_getElem? (i := 10) rfl))) hK 0 2 rfl rfl hP hD hS hA hn32 hk32 (c65 hb32 (by decide)) (c65 hd32 (by decide)) (Nat.le_trans hd32 (by decide)) (by show 0 + _ ≤ mc; omega) (by show 0 + _ ≤ ms; omega) dX10_init_32 (fun q32 H hfr32 hP hD hS => ?_)
  have hm := hm q32 hfr32
  generalize hmul h26 (c 2) (c 0) q32 ((2 : Int32).toNatClampNeg) ((0 : Int32).toNatClampNeg) = h32 at hm hP hD
  replace hf : (0 + 1 + (2 : Int32).toNatClampNeg) + mB32 ≤ mc ∧ (0 + (2 : Int32).toNatClampNeg + (2 : Int32).toNatClampNeg * (0 : Int32).toNatClampNeg) + zB32 ≤ ms := ⟨by omega, by omega⟩
  clear hc32 hs32 hb32 hd32
  obtain ⟨fs36, hq36, hl36, hm⟩ := hm
  refine mr_put (v := .ref q32) (ci := 10) (C := RX10) (T := TX10) (N := 17) hx hb hts hi_10 tyX10 (fun k hk => tyX10_ok k (Nat.lt_of_lt_of_le hk (by decide))) (fun a ha b hb => nmX10 a (Nat.lt_of_lt_of_le ha (by decide)) b (Nat.lt_of_lt_of_le hb (by decide))) hown hK hP hD hS hq36 rfl 10 (by decide) (hts (.fieldLink RX10 27 "HubTrainsLaw$Table" "hands" "[[I") ((List.mem_of_getElem? (i := 11) rfl))) (fun _ h9 => h9) rfl (tyX10_ok 10 (by decide)) rfl rfl hl36 dX10_init_36 (fun H locs hP hD hS => ?_)
  generalize hup h32 a0 (.inr (10, fs36.set 10 (.ref q32))) = h36 at hm hP hD
  refine lv_aload_n hx hb dX10_init_39 rfl (lv_at hl 0 rfl) ?_
  refine lv_iconst (v := 2) hx hb dX10_init_40 (by decide) ?_
  obtain ⟨hn41, hb41, mB41, zB41, hc41, hs41, hm⟩ := hm
  refine mr_newa (atype := .int) (a0 := (fun N => (N, .inl (fun _ => 0)))) hx hb (hts (.arrayClass .int) ((List.mem_of_getElem? (i := 10) rfl))) hK 0 rfl hP hD hS hA (fun _ => rfl) hn41 (c65 hb41 (by decide)) (by show (0 + 1 + (2 : Int32).toNatClampNeg) + 1 ≤ mc; omega) (by show (0 + (2 : Int32).toNatClampNeg + (2 : Int32).toNatClampNeg * (0 : Int32).toNatClampNeg) + _ ≤ ms; omega) dX10_init_41 (fun q41 H hfr41 hP hD hS => ?_)
  have hm := hm q41 hfr41
  generalize hup h36 q41 (eI (c 0) (2 : Int32).toNatClampNeg (fun _ => 0)) = h41 at hm hP hD
  replace hf : ((0 + 1 + (2 : Int32).toNatClampNeg) + 1) + mB41 ≤ mc ∧ ((0 + (2 : Int32).toNatClampNeg + (2 : Int32).toNatClampNeg * (0 : Int32).toNatClampNeg) + (2 : Int32).toNatClampNeg) + zB41 ≤ ms := ⟨by omega, by omega⟩
  clear hc41 hs41 hb41
  obtain ⟨fs43, hq43, hl43, hm⟩ := hm
  refine mr_put (v := .ref q41) (ci := 10) (C := RX10) (T := TX10) (N := 17) hx hb hts hi_10 tyX10 (fun k hk => tyX10_ok k (Nat.lt_of_lt_of_le hk (by decide))) (fun a ha b hb => nmX10 a (Nat.lt_of_lt_of_le ha (by decide)) b (Nat.lt_of_lt_of_le hb (by decide))) hown hK hP hD hS hq43 rfl 11 (by decide) (hts (.fieldLink RX10 30 "HubTrainsLaw$Table" "totals" "[I") ((List.mem_of_getElem? (i := 12) rfl))) (fun _ h9 => h9) rfl (tyX10_ok 11 (by decide)) rfl rfl hl43 dX10_init_43 (fun H locs hP hD hS => ?_)
  generalize hup h41 a0 (.inr (10, fs43.set 11 (.ref q41))) = h43 at hm hP hD
  refine lv_aload_n hx hb dX10_init_46 rfl (lv_at hl 0 rfl) ?_
  refine lv_iconst (v := 3) hx hb dX10_init_47 (by decide) ?_
  refine lv_iconst (v := 0) hx hb dX10_init_48 (by decide) ?_
  obtain ⟨hn49, hk49, hb49, hd49, mB49, zB49, hc49, hs49, hm⟩ := hm
  refine mr_mna hx hb hown (by rw [nmII]; exact (hts (.classLink RX10 25 "[[I") ((List.mem_of_getElem? (i := 9) rfl)))) hXX.1.2 (hts (.arrayClass .int) ((List.mem_of_getElem? (i := 10) rfl))) hK 0 2 rfl rfl hP hD hS hA hn49 hk49 (c65 hb49 (by decide)) (c65 hd49 (by decide)) (Nat.le_trans hd49 (by decide)) (by show ((0 + 1 + (2 : Int32).toNatClampNeg) + 1) + _ ≤ mc; omega) (by show ((0 + (2 : Int32).toNatClampNeg + (2 : Int32).toNatClampNeg * (0 : Int32).toNatClampNeg) + (2 : Int32).toNatClampNeg) + _ ≤ ms; omega) dX10_init_49 (fun q49 H hfr49 hP hD hS => ?_)
  have hm := hm q49 hfr49
  generalize hmul h43 (c 2) (c 0) q49 ((3 : Int32).toNatClampNeg) ((0 : Int32).toNatClampNeg) = h49 at hm hP hD
  replace hf : (((0 + 1 + (2 : Int32).toNatClampNeg) + 1) + 1 + (3 : Int32).toNatClampNeg) + mB49 ≤ mc ∧ (((0 + (2 : Int32).toNatClampNeg + (2 : Int32).toNatClampNeg * (0 : Int32).toNatClampNeg) + (2 : Int32).toNatClampNeg) + (3 : Int32).toNatClampNeg + (3 : Int32).toNatClampNeg * (0 : Int32).toNatClampNeg) + zB49 ≤ ms := ⟨by omega, by omega⟩
  clear hc49 hs49 hb49 hd49
  obtain ⟨fs53, hq53, hl53, hm⟩ := hm
  refine mr_put (v := .ref q49) (ci := 10) (C := RX10) (T := TX10) (N := 17) hx hb hts hi_10 tyX10 (fun k hk => tyX10_ok k (Nat.lt_of_lt_of_le hk (by decide))) (fun a ha b hb => nmX10 a (Nat.lt_of_lt_of_le ha (by decide)) b (Nat.lt_of_lt_of_le hb (by decide))) hown hK hP hD hS hq53 rfl 12 (by decide) (hts (.fieldLink RX10 34 "HubTrainsLaw$Table" "trains" "[[I") ((List.mem_of_getElem? (i := 13) rfl))) (fun _ h9 => h9) rfl (tyX10_ok 12 (by decide)) rfl rfl hl53 dX10_init_53 (fun H locs hP hD hS => ?_)
  generalize hup h49 a0 (.inr (10, fs53.set 12 (.ref q49))) = h53 at hm hP hD
  refine lv_aload_n hx hb dX10_init_56 rfl (lv_at hl 0 rfl) ?_
  refine lv_iconst (v := 3) hx hb dX10_init_57 (by decide) ?_
  obtain ⟨hn58, hb58, mB58, zB58, hc58, hs58, hm⟩ := hm
  refine mr_newa (atype := .boolean) (a0 := (fun N => (N, .inl (fun _ => 0)))) hx hb (hts (.arrayClass .boolean) ((List.mem_of_getElem? (i := 14) rfl))) hK 4 rfl hP hD hS hA (fun _ => rfl) hn58 (c65 hb58 (by decide)) (by show (((0 + 1 + (2 : Int32).toNatClampNeg) + 1) + 1 + (3 : Int32).toNatClampNeg) + 1 ≤ mc; omega) (by show (((0 + (2 : Int32).toNatClampNeg + (2 : Int32).toNatClampNeg * (0 : Int32).toNatClampNeg) + (2 : Int32).toNatClampNeg) + (3 : Int32).toNatClampNeg + (3 : Int32).toNatClampNeg * (0 : Int32).toNatClampNeg) + _ ≤ ms; omega) dX10_init_58 (fun q58 H hfr58 hP hD hS => ?_)
  have hm := hm q58 hfr58
  generalize hup h53 q58 (eI (c 4) (3 : Int32).toNatClampNeg (fun _ => 0)) = h58 at hm hP hD
  replace hf : ((((0 + 1 + (2 : Int32).toNatClampNeg) + 1) + 1 + (3 : Int32).toNatClampNeg) + 1) + mB58 ≤ mc ∧ ((((0 + (2 : Int32).toNatClampNeg + (2 : Int32).toNatClampNeg * (0 : Int32).toNatClampNeg) + (2 : Int32).toNatClampNeg) + (3 : Int32).toNatClampNeg + (3 : Int32).toNatClampNeg * (0 : Int32).toNatClampNeg) + (3 : Int32).toNatClampNeg) + zB58 ≤ ms := ⟨by omega, by omega⟩
  clear hc58 hs58 hb58
  obtain ⟨fs60, hq60, hl60, hm⟩ := hm
  refine mr_put (v := .ref q58) (ci := 10) (C := RX10) (T := TX10) (N := 17) hx hb hts hi_10 tyX10 (fun k hk => tyX10_ok k (Nat.lt_of_lt_of_le hk (by decide))) (fun a ha b hb => nmX10 a (Nat.lt_of_lt_of_le ha (by decide)) b (Nat.lt_of_lt_of_le hb (by decide))) hown hK hP hD hS hq60 rfl 13 (by decide) (hts (.fieldLink RX10 37 "HubTrainsLaw$Table" "isOpen" "[Z") ((List.mem_of_getElem? (i := 15) rfl))) (fun _ h9 => h9) rfl (tyX10_ok 13 (by decide)) rfl rfl hl60 dX10_init_60 (fun H locs hP hD hS => ?_)
  generalize hup h58 a0 (.inr (10, fs60.set 13 (.ref q58))) = h60 at hm hP hD
  refine lv_aload_n hx hb dX10_init_63 rfl (lv_at hl 0 rfl) ?_
  refine lv_iconst (v := 0) hx hb dX10_init_64 (by decide) ?_
  obtain ⟨hn65, hb65, mB65, zB65, hc65, hs65, hm⟩ := hm
  refine mr_newa (atype := .int) (a0 := (fun N => (N, .inl (fun _ => 0)))) hx hb (hts (.arrayClass .int) ((List.mem_of_getElem? (i := 10) rfl))) hK 0 rfl hP hD hS hA (fun _ => rfl) hn65 (c65 hb65 (by decide)) (by show ((((0 + 1 + (2 : Int32).toNatClampNeg) + 1) + 1 + (3 : Int32).toNatClampNeg) + 1) + 1 ≤ mc; omega) (by show ((((0 + (2 : Int32).toNatClampNeg + (2 : Int32).toNatClampNeg * (0 : Int32).toNatClampNeg) + (2 : Int32).toNatClampNeg) + (3 : Int32).toNatClampNeg + (3 : Int32).toNatClampNeg * (0 : Int32).toNatClampNeg) + (3 : Int32).toNatClampNeg) + _ ≤ ms; omega) dX10_init_65 (fun q65 H hfr65 hP hD hS => ?_)
  have hm := hm q65 hfr65
  generalize hup h60 q65 (eI (c 0) (0 : Int32).toNatClampNeg (fun _ => 0)) = h65 at hm hP hD
  replace hf : (((((0 + 1 + (2 : Int32).toNatClampNeg) + 1) + 1 + (3 : Int32).toNatClampNeg) + 1) + 1) + mB65 ≤ mc ∧ (((((0 + (2 : Int32).toNatClampNeg + (2 : Int32).toNatClampNeg * (0 : Int32).toNatClampNeg) + (2 : Int32).toNatClampNeg) + (3 : Int32).toNatClampNeg + (3 : Int32).toNatClampNeg * (0 : Int32).toNatClampNeg) + (3 : Int32).toNatClampNeg) + (0 : Int32).toNatClampNeg) + zB65 ≤ ms := ⟨by omega, by omega⟩
  clear hc65 hs65 hb65
  obtain ⟨fs67, hq67, hl67, hm⟩ := hm
  refine mr_put (v := .ref q65) (ci := 10) (C := RX10) (T := TX10) (N := 17) hx hb hts hi_10 tyX10 (fun k hk => tyX10_ok k (Nat.lt_of_lt_of_le hk (by decide))) (fun a ha b hb => nmX10 a (Nat.lt_of_lt_of_le ha (by decide)) b (Nat.lt_of_lt_of_le hb (by decide))) hown hK hP hD hS hq67 rfl 14 (by decide) (hts (.fieldLink RX10 41 "HubTrainsLaw$Table" "stock" "[I") ((List.mem_of_getElem? (i := 16) rfl))) (fun _ h9 => h9) rfl (tyX10_ok 14 (by decide)) rfl rfl hl67 dX10_init_67 (fun H locs hP hD hS => ?_)
  generalize hup h65 a0 (.inr (10, fs67.set 14 (.ref q65))) = h67 at hm hP hD
  refine lv_aload_n hx hb dX10_init_70 rfl (lv_at hl 0 rfl) ?_
  refine lv_iconst (v := 5) hx hb dX10_init_71 (by decide) ?_
  obtain ⟨hn72, hb72, mB72, zB72, hc72, hs72, hm⟩ := hm
  refine mr_newa (atype := .long) (a0 := (fun N => (N, .inr (.inl (fun _ => 0))))) hx hb (hts (.arrayClass .long) ((List.mem_of_getElem? (i := 17) rfl))) hK 1 rfl hP hD hS hA (fun _ => rfl) hn72 (c65 hb72 (by decide)) (by show (((((0 + 1 + (2 : Int32).toNatClampNeg) + 1) + 1 + (3 : Int32).toNatClampNeg) + 1) + 1) + 1 ≤ mc; omega) (by show (((((0 + (2 : Int32).toNatClampNeg + (2 : Int32).toNatClampNeg * (0 : Int32).toNatClampNeg) + (2 : Int32).toNatClampNeg) + (3 : Int32).toNatClampNeg + (3 : Int32).toNatClampNeg * (0 : Int32).toNatClampNeg) + (3 : Int32).toNatClampNeg) + (0 : Int32).toNatClampNeg) + _ ≤ ms; omega) dX10_init_72 (fun q72 H hfr72 hP hD hS => ?_)
  have hm := hm q72 hfr72
  generalize hup h67 q72 (eL (c 1) (5 : Int32).toNatClampNeg (fun _ => 0)) = h72 at hm hP hD
  replace hf : ((((((0 + 1 + (2 : Int32).toNatClampNeg) + 1) + 1 + (3 : Int32).toNatClampNeg) + 1) + 1) + 1) + mB72 ≤ mc ∧ ((((((0 + (2 : Int32).toNatClampNeg + (2 : Int32).toNatClampNeg * (0 : Int32).toNatClampNeg) + (2 : Int32).toNatClampNeg) + (3 : Int32).toNatClampNeg + (3 : Int32).toNatClampNeg * (0 : Int32).toNatClampNeg) + (3 : Int32).toNatClampNeg) + (0 : Int32).toNatClampNeg) + (5 : Int32).toNatClampNeg) + zB72 ≤ ms := ⟨by omega, by omega⟩
  clear hc72 hs72 hb72
  obtain ⟨fs74, hq74, hl74, hm⟩ := hm
  refine mr_putF (v := .ref q72) (ci := 10) (C := RX10) (T := TX10) (N := 17) hx hb hts hi_10 tyX10 (fun k hk => tyX10_ok k (Nat.lt_of_lt_of_le hk (by decide))) (fun a ha b hb => nmX10 a (Nat.lt_of_lt_of_le ha (by decide)) b (Nat.lt_of_lt_of_le hb (by decide))) hown hK hP hD hS hq74 rfl 16 (by decide) (hts (.fieldLink RX10 44 "HubTrainsLaw$Table" "variables" "[J") ((List.mem_of_getElem? (i := 18) rfl))) (fun _ h9 => h9) rfl hmn rfl (tyX10_ok 16 (by decide)) rfl rfl hl74 dX10_init_74 (fun H locs hP hD hS => ?_)
  generalize hup h72 a0 (.inr (10, fs74.set 16 (.ref q72))) = h74 at hm hP hD
  exact hend H locs ls 77 _ _ h74 (by omega) (by omega) hm hP hD hS dX10_init_77

def w_X10_copy (c : Nat → ClassId) (K : (Nat → Nat) × (Nat → Nat)) (h : HW) (a0 : Nat) (mc ms : Nat) (post : Option Nat → HW → Prop) : Prop :=
  nwO h 10 [.int 0, .int 0, .int 0, .int 0, .int 0, .int 0, .int 0, .int 0, .int 0, .int 0, .null, .null, .null, .null, .null, .null, .null] 17 mc ms (fun (q0 : Nat) (h0 : HW) (mB0 zB0 : Nat) => (∃ m4 z4 mB4 zB4 : Nat, mB0 = m4 + mB4 ∧ zB0 = z4 + zB4 ∧ w_X10_init c K h0 q0 m4 z4 (fun (h4 : HW) => gI h4 a0 10 0 (fun (g10 : Int32) => pV h4 q0 10 0 (.int g10) (fun (h13 : HW) => gI h13 a0 10 1 (fun (g18 : Int32) => pV h13 q0 10 1 (.int g18) (fun (h21 : HW) => gI h21 a0 10 2 (fun (g26 : Int32) => pV h21 q0 10 2 (.int g26) (fun (h29 : HW) => gI h29 a0 10 3 (fun (g34 : Int32) => pV h29 q0 10 3 (.int g34) (fun (h37 : HW) => gI h37 a0 10 4 (fun (g42 : Int32) => pV h37 q0 10 4 (.int g42) (fun (h45 : HW) => gI h45 a0 10 5 (fun (g50 : Int32) => pZ h45 q0 10 5 g50 (fun (h53 : HW) => gI h53 a0 10 6 (fun (g58 : Int32) => pV h53 q0 10 6 (.int g58) (fun (h61 : HW) => gI h61 a0 10 7 (fun (g66 : Int32) => pZ h61 q0 10 7 g66 (fun (h69 : HW) => gI h69 a0 10 8 (fun (g74 : Int32) => pV h69 q0 10 8 (.int g74) (fun (h77 : HW) => gI h77 a0 10 9 (fun (g82 : Int32) => pV h77 q0 10 9 (.int g82) (fun (h85 : HW) => gR h85 a0 10 10 (fun (g90 : Nat) => clQ h85 (c 2) g90 mB4 zB4 (fun (q93 n93 : Nat) (h93 : HW) (mB93 zB93 : Nat) => pV h93 q0 10 10 (.ref q93) (fun (h99 : HW) => gR h99 a0 10 11 (fun (g104 : Nat) => clI h99 (c 0) g104 mB93 zB93 (fun (q107 n107 : Nat) (h107 : HW) (mB107 zB107 : Nat) => pV h107 q0 10 11 (.ref q107) (fun (h113 : HW) => gR h113 a0 10 12 (fun (g118 : Nat) => clQ h113 (c 2) g118 mB107 zB107 (fun (q121 n121 : Nat) (h121 : HW) (mB121 zB121 : Nat) => pV h121 q0 10 12 (.ref q121) (fun (h127 : HW) => gR h127 a0 10 13 (fun (g132 : Nat) => clF .boolean h127 (c 4) g132 mB121 zB121 (fun (q135 n135 : Nat) (h135 : HW) (mB135 zB135 : Nat) => pV h135 q0 10 13 (.ref q135) (fun (h141 : HW) => gR h141 a0 10 14 (fun (g146 : Nat) => pV h141 q0 10 14 (.ref g146) (fun (h149 : HW) => gQ h149 a0 10 15 (fun (g154 : Option Nat) => pV h149 q0 10 15 (va_rf g154) (fun (h157 : HW) => post (some q0) h157)))))))))))))))))))))))))))))))))))))))

abbrev rm_X10_copy (mc ms : Nat) : Room := { frames := 2, cells := mc, slots := ms, locals := 100 }
theorem he_X10_copy : yX10_copy.cls ≠ "java/lang/invoke/MethodHandle" ∧ yX10_copy.cls ≠ "java/lang/invoke/VarHandle" ∧ (parseMethodDescriptor yX10_copy.desc).map (fun d => d.parameters.length) = some 0 := by decide +kernel
theorem heV_X10_copy : yX10_copy.cls = RX10 ∧ yX10_copy.cls ≠ "java/lang/invoke/MethodHandle" ∧ yX10_copy.cls ≠ "java/lang/invoke/VarHandle" ∧ (parseMethodDescriptor yX10_copy.desc).map (fun d => d.parameters.length) = some 0 := by decide +kernel
set_option maxHeartbeats 4000000 in
set_option maxRecDepth 100000 in
theorem h_X10_copy (l : Launch) (G : va_G) (K : (Nat → Nat) × (Nat → Nat)) (c : Nat → ClassId) (h : HW) (a0 : Nat) (mc ms : Nat) (post : Option Nat → HW → Prop) (hm : w_X10_copy c K h a0 mc ms post) : hMq l yX10_copy ws27_copy (rm_X10_copy mc ms) G K (TY c) [.ref a0] h mc ms post := by
  refine hMq.of (Or.inl ⟨_, rfl⟩) (cc := cX10_copy) (maxL := 2) (lv := [(0, .ref a0)]) (by decide) rfl (Nat.le_of_ble_eq_true rfl) rfl ?_
  intro p e s m args below meth c1 A Q H locs hx hb hml hown hmn hts hK hN hZ hXX hP hD hA hS hend ls hl
  have hown : s.vm.findClass RX10 = some m.cls := hown
  have hi_10 : ∀ w ∈ u_ws RX10 TX10 17, w ∈ ws27_copy := fun w h => (fun w h => List.mem_append_left _ ((fun w h => List.mem_cons_of_mem _ (List.mem_append_right _ (h))) w h)) w h
  unfold w_X10_copy at hm
  have hf : 0 + mc ≤ mc ∧ 0 + ms ≤ ms := ⟨by omega, by omega⟩
  obtain ⟨mB0, zB0, hc0, hs0, hm⟩ := hm
  refine mr_new (ci := 10) (C := RX10) (T := TX10) (N := 17) (n := 17) (fs := [.int 0, .int 0, .int 0, .int 0, .int 0, .int 0, .int 0, .int 0, .int 0, .int 0, .null, .null, .null, .null, .null, .null, .null]) hx hb hts hi_10 tyX10 (fun k hk => tyX10_ok k (Nat.lt_of_lt_of_le hk (by decide))) hown (hts (.classLink RX10 8 RX10) (List.mem_append_left _ (List.mem_of_getElem? (i := 1) rfl))) (hts (.instantiable RX10 17) (List.mem_append_left _ (List.mem_of_getElem? (i := 2) rfl))) (hts (.initialized RX10) (List.mem_append_left _ (List.mem_of_getElem? (i := 3) rfl))) hK hP hD hS hA rfl (fun j hj => by rcases (show j = 0 ∨ j = 1 ∨ j = 2 ∨ j = 3 ∨ j = 4 ∨ j = 5 ∨ j = 6 ∨ j = 7 ∨ j = 8 ∨ j = 9 ∨ j = 10 ∨ j = 11 ∨ j = 12 ∨ j = 13 ∨ j = 14 ∨ j = 15 ∨ j = 16 by omega) with rfl | rfl | rfl | rfl | rfl | rfl | rfl | rfl | rfl | rfl | rfl | rfl | rfl | rfl | rfl | rfl | rfl <;> rfl) (by show 0 + 1 ≤ mc; omega) (by show 0 + 17 ≤ ms; omega) dX10_copy_0 (fun q0 H hfr0 hP hD hS => ?_)
  have hm := hm q0 hfr0
  generalize hup h q0 (.inr (10, [.int 0, .int 0, .int 0, .int 0, .int 0, .int 0, .int 0, .int 0, .int 0, .int 0, .null, .null, .null, .null, .null, .null, .null])) = h0 at hm hP hD
  replace hf : (0 + 1) + mB0 ≤ mc ∧ (0 + 17) + zB0 ≤ ms := ⟨by omega, by omega⟩
  clear hc0 hs0
  refine lv_dup hx hb dX10_copy_3 rfl ?_
  obtain ⟨m4, z4, mB4, zB4, hbm4, hbs4, hm⟩ := hm
  refine hcIv (As := []) (rest := [.ref q0]) ⟨hx, hb, hml, hown, hts⟩ (h_X10_init l G K c h0 q0 m4 z4 _ hm) (cwI 0 hts (goodIn_wide gX10_copy_X10_init) rfl rfl rfl (hts (.initialized RX10) (List.mem_append_left _ (List.mem_of_getElem? (i := 3) rfl))) (hts (.methodLink RX10 48 yX10_init) (List.mem_append_left _ (List.mem_of_getElem? (i := 31) rfl))) (hts (.instanceMethod yX10_init) (List.mem_append_left _ (List.mem_of_getElem? (i := 32) rfl))) rfl he_X10_init ⟨Nat.le_of_ble_eq_true rfl, Nat.le_of_ble_eq_true rfl⟩) hK hN hZ hXX hP hD hS hA rfl hl.1 rfl (Nat.le_of_ble_eq_true rfl) dX10_copy_4 ⟨by show (0 + 1) + m4 ≤ mc; omega, by show (0 + 17) + z4 ≤ ms; omega⟩ (fun h4 H locs hm hP hD hS => ?_)
  replace hf : ((0 + 1) + m4) + mB4 ≤ mc ∧ ((0 + 17) + z4) + zB4 ≤ ms := ⟨by omega, by omega⟩
  clear hbm4 hbs4
  refine lv_astore_n (lv' := [(1, .ref q0), (0, .ref a0)]) hx hb dX10_copy_7 rfl hl (by decide) rfl (fun ls hl => ?_)
  refine lv_aload_n hx hb dX10_copy_8 rfl (lv_at hl 0 rfl) ?_
  refine lv_aload_n hx hb dX10_copy_9 rfl (lv_at hl 1 rfl) ?_
  obtain ⟨wq10, fs10, g10, hq10, hv10, hm⟩ := hm
  refine mr_get (ci := 10) (C := RX10) (T := TX10) (N := 17) hx hb hts hi_10 hown hK (mRd hK hP hZ hS) hq10 rfl 0 (by decide) (hts (.fieldLink RX10 7 "HubTrainsLaw$Table" "most" "I") (List.mem_append_left _ (List.mem_of_getElem? (i := 4) rfl))) (fun _ h9 => h9) hv10 dX10_copy_10 ?_
  obtain ⟨fs13, hq13, hl13, hm⟩ := hm
  refine mr_put (v := .int g10) (ci := 10) (C := RX10) (T := TX10) (N := 17) hx hb hts hi_10 tyX10 (fun k hk => tyX10_ok k (Nat.lt_of_lt_of_le hk (by decide))) (fun a ha b hb => nmX10 a (Nat.lt_of_lt_of_le ha (by decide)) b (Nat.lt_of_lt_of_le hb (by decide))) hown hK hP hD hS hq13 rfl 0 (by decide) (hts (.fieldLink RX10 7 "HubTrainsLaw$Table" "most" "I") (List.mem_append_left _ (List.mem_of_getElem? (i := 4) rfl))) (fun _ h9 => h9) rfl (tyX10_ok 0 (by decide)) rfl rfl hl13 dX10_copy_13 (fun H locs hP hD hS => ?_)
  generalize hup h4 q0 (.inr (10, fs13.set 0 (.int g10))) = h13 at hm hP hD
  refine lv_aload_n hx hb dX10_copy_16 rfl (lv_at hl 0 rfl) ?_
  refine lv_aload_n hx hb dX10_copy_17 rfl (lv_at hl 1 rfl) ?_
  obtain ⟨wq18, fs18, g18, hq18, hv18, hm⟩ := hm
  refine mr_get (ci := 10) (C := RX10) (T := TX10) (N := 17) hx hb hts hi_10 hown hK (mRd hK hP hZ hS) hq18 rfl 1 (by decide) (hts (.fieldLink RX10 13 "HubTrainsLaw$Table" "handSize" "I") (List.mem_append_left _ (List.mem_of_getElem? (i := 5) rfl))) (fun _ h9 => h9) hv18 dX10_copy_18 ?_
  obtain ⟨fs21, hq21, hl21, hm⟩ := hm
  refine mr_put (v := .int g18) (ci := 10) (C := RX10) (T := TX10) (N := 17) hx hb hts hi_10 tyX10 (fun k hk => tyX10_ok k (Nat.lt_of_lt_of_le hk (by decide))) (fun a ha b hb => nmX10 a (Nat.lt_of_lt_of_le ha (by decide)) b (Nat.lt_of_lt_of_le hb (by decide))) hown hK hP hD hS hq21 rfl 1 (by decide) (hts (.fieldLink RX10 13 "HubTrainsLaw$Table" "handSize" "I") (List.mem_append_left _ (List.mem_of_getElem? (i := 5) rfl))) (fun _ h9 => h9) rfl (tyX10_ok 1 (by decide)) rfl rfl hl21 dX10_copy_21 (fun H locs hP hD hS => ?_)
  generalize hup h13 q0 (.inr (10, fs21.set 1 (.int g18))) = h21 at hm hP hD
  refine lv_aload_n hx hb dX10_copy_24 rfl (lv_at hl 0 rfl) ?_
  refine lv_aload_n hx hb dX10_copy_25 rfl (lv_at hl 1 rfl) ?_
  obtain ⟨wq26, fs26, g26, hq26, hv26, hm⟩ := hm
  refine mr_get (ci := 10) (C := RX10) (T := TX10) (N := 17) hx hb hts hi_10 hown hK (mRd hK hP hZ hS) hq26 rfl 2 (by decide) (hts (.fieldLink RX10 16 "HubTrainsLaw$Table" "hub" "I") (List.mem_append_left _ (List.mem_of_getElem? (i := 6) rfl))) (fun _ h9 => h9) hv26 dX10_copy_26 ?_
  obtain ⟨fs29, hq29, hl29, hm⟩ := hm
  refine mr_put (v := .int g26) (ci := 10) (C := RX10) (T := TX10) (N := 17) hx hb hts hi_10 tyX10 (fun k hk => tyX10_ok k (Nat.lt_of_lt_of_le hk (by decide))) (fun a ha b hb => nmX10 a (Nat.lt_of_lt_of_le ha (by decide)) b (Nat.lt_of_lt_of_le hb (by decide))) hown hK hP hD hS hq29 rfl 2 (by decide) (hts (.fieldLink RX10 16 "HubTrainsLaw$Table" "hub" "I") (List.mem_append_left _ (List.mem_of_getElem? (i := 6) rfl))) (fun _ h9 => h9) rfl (tyX10_ok 2 (by decide)) rfl rfl hl29 dX10_copy_29 (fun H locs hP hD hS => ?_)
  generalize hup h21 q0 (.inr (10, fs29.set 2 (.int g26))) = h29 at hm hP hD
  refine lv_aload_n hx hb dX10_copy_32 rfl (lv_at hl 0 rfl) ?_
  refine lv_aload_n hx hb dX10_copy_33 rfl (lv_at hl 1 rfl) ?_
  obtain ⟨wq34, fs34, g34, hq34, hv34, hm⟩ := hm
  refine mr_get (ci := 10) (C := RX10) (T := TX10) (N := 17) hx hb hts hi_10 hown hK (mRd hK hP hZ hS) hq34 rfl 3 (by decide) (hts (.fieldLink RX10 19 "HubTrainsLaw$Table" "seed" "I") (List.mem_append_left _ (List.mem_of_getElem? (i := 7) rfl))) (fun _ h9 => h9) hv34 dX10_copy_34 ?_
  obtain ⟨fs37, hq37, hl37, hm⟩ := hm
  refine mr_put (v := .int g34) (ci := 10) (C := RX10) (T := TX10) (N := 17) hx hb hts hi_10 tyX10 (fun k hk => tyX10_ok k (Nat.lt_of_lt_of_le hk (by decide))) (fun a ha b hb => nmX10 a (Nat.lt_of_lt_of_le ha (by decide)) b (Nat.lt_of_lt_of_le hb (by decide))) hown hK hP hD hS hq37 rfl 3 (by decide) (hts (.fieldLink RX10 19 "HubTrainsLaw$Table" "seed" "I") (List.mem_append_left _ (List.mem_of_getElem? (i := 7) rfl))) (fun _ h9 => h9) rfl (tyX10_ok 3 (by decide)) rfl rfl hl37 dX10_copy_37 (fun H locs hP hD hS => ?_)
  generalize hup h29 q0 (.inr (10, fs37.set 3 (.int g34))) = h37 at hm hP hD
  refine lv_aload_n hx hb dX10_copy_40 rfl (lv_at hl 0 rfl) ?_
  refine lv_aload_n hx hb dX10_copy_41 rfl (lv_at hl 1 rfl) ?_
  obtain ⟨wq42, fs42, g42, hq42, hv42, hm⟩ := hm
  refine mr_get (ci := 10) (C := RX10) (T := TX10) (N := 17) hx hb hts hi_10 hown hK (mRd hK hP hZ hS) hq42 rfl 4 (by decide) (hts (.fieldLink RX10 49 "HubTrainsLaw$Table" "turn" "I") (List.mem_append_left _ (List.mem_of_getElem? (i := 8) rfl))) (fun _ h9 => h9) hv42 dX10_copy_42 ?_
  obtain ⟨fs45, hq45, hl45, hm⟩ := hm
  refine mr_put (v := .int g42) (ci := 10) (C := RX10) (T := TX10) (N := 17) hx hb hts hi_10 tyX10 (fun k hk => tyX10_ok k (Nat.lt_of_lt_of_le hk (by decide))) (fun a ha b hb => nmX10 a (Nat.lt_of_lt_of_le ha (by decide)) b (Nat.lt_of_lt_of_le hb (by decide))) hown hK hP hD hS hq45 rfl 4 (by decide) (hts (.fieldLink RX10 49 "HubTrainsLaw$Table" "turn" "I") (List.mem_append_left _ (List.mem_of_getElem? (i := 8) rfl))) (fun _ h9 => h9) rfl (tyX10_ok 4 (by decide)) rfl rfl hl45 dX10_copy_45 (fun H locs hP hD hS => ?_)
  generalize hup h37 q0 (.inr (10, fs45.set 4 (.int g42))) = h45 at hm hP hD
  refine lv_aload_n hx hb dX10_copy_48 rfl (lv_at hl 0 rfl) ?_
  refine lv_aload_n hx hb dX10_copy_49 rfl (lv_at hl 1 rfl) ?_
  obtain ⟨wq50, fs50, g50, hq50, hv50, hm⟩ := hm
  refine mr_get (ci := 10) (C := RX10) (T := TX10) (N := 17) hx hb hts hi_10 hown hK (mRd hK hP hZ hS) hq50 rfl 5 (by decide) (hts (.fieldLink RX10 52 "HubTrainsLaw$Table" "drew" "Z") (List.mem_append_left _ (List.mem_of_getElem? (i := 9) rfl))) (fun _ h9 => h9) hv50 dX10_copy_50 ?_
  obtain ⟨fs53, hq53, hl53, hz53, hm⟩ := hm
  refine mr_put (v := .int g50) (ci := 10) (C := RX10) (T := TX10) (N := 17) hx hb hts hi_10 tyX10 (fun k hk => tyX10_ok k (Nat.lt_of_lt_of_le hk (by decide))) (fun a ha b hb => nmX10 a (Nat.lt_of_lt_of_le ha (by decide)) b (Nat.lt_of_lt_of_le hb (by decide))) hown hK hP hD hS hq53 rfl 5 (by decide) (hts (.fieldLink RX10 52 "HubTrainsLaw$Table" "drew" "Z") (List.mem_append_left _ (List.mem_of_getElem? (i := 9) rfl))) (fun _ h9 => h9) rfl (tyX10_ok 5 (by decide)) (z01_n hz53) (z01_f hz53) hl53 dX10_copy_53 (fun H locs hP hD hS => ?_)
  generalize hup h45 q0 (.inr (10, fs53.set 5 (.int g50))) = h53 at hm hP hD
  refine lv_aload_n hx hb dX10_copy_56 rfl (lv_at hl 0 rfl) ?_
  refine lv_aload_n hx hb dX10_copy_57 rfl (lv_at hl 1 rfl) ?_
  obtain ⟨wq58, fs58, g58, hq58, hv58, hm⟩ := hm
  refine mr_get (ci := 10) (C := RX10) (T := TX10) (N := 17) hx hb hts hi_10 hown hK (mRd hK hP hZ hS) hq58 rfl 6 (by decide) (hts (.fieldLink RX10 22 "HubTrainsLaw$Table" "cover" "I") (List.mem_append_left _ (List.mem_of_getElem? (i := 10) rfl))) (fun _ h9 => h9) hv58 dX10_copy_58 ?_
  obtain ⟨fs61, hq61, hl61, hm⟩ := hm
  refine mr_put (v := .int g58) (ci := 10) (C := RX10) (T := TX10) (N := 17) hx hb hts hi_10 tyX10 (fun k hk => tyX10_ok k (Nat.lt_of_lt_of_le hk (by decide))) (fun a ha b hb => nmX10 a (Nat.lt_of_lt_of_le ha (by decide)) b (Nat.lt_of_lt_of_le hb (by decide))) hown hK hP hD hS hq61 rfl 6 (by decide) (hts (.fieldLink RX10 22 "HubTrainsLaw$Table" "cover" "I") (List.mem_append_left _ (List.mem_of_getElem? (i := 10) rfl))) (fun _ h9 => h9) rfl (tyX10_ok 6 (by decide)) rfl rfl hl61 dX10_copy_61 (fun H locs hP hD hS => ?_)
  generalize hup h53 q0 (.inr (10, fs61.set 6 (.int g58))) = h61 at hm hP hD
  refine lv_aload_n hx hb dX10_copy_64 rfl (lv_at hl 0 rfl) ?_
  refine lv_aload_n hx hb dX10_copy_65 rfl (lv_at hl 1 rfl) ?_
  obtain ⟨wq66, fs66, g66, hq66, hv66, hm⟩ := hm
  refine mr_get (ci := 10) (C := RX10) (T := TX10) (N := 17) hx hb hts hi_10 hown hK (mRd hK hP hZ hS) hq66 rfl 7 (by decide) (hts (.fieldLink RX10 56 "HubTrainsLaw$Table" "isOver" "Z") (List.mem_append_left _ (List.mem_of_getElem? (i := 11) rfl))) (fun _ h9 => h9) hv66 dX10_copy_66 ?_
  obtain ⟨fs69, hq69, hl69, hz69, hm⟩ := hm
  refine mr_put (v := .int g66) (ci := 10) (C := RX10) (T := TX10) (N := 17) hx hb hts hi_10 tyX10 (fun k hk => tyX10_ok k (Nat.lt_of_lt_of_le hk (by decide))) (fun a ha b hb => nmX10 a (Nat.lt_of_lt_of_le ha (by decide)) b (Nat.lt_of_lt_of_le hb (by decide))) hown hK hP hD hS hq69 rfl 7 (by decide) (hts (.fieldLink RX10 56 "HubTrainsLaw$Table" "isOver" "Z") (List.mem_append_left _ (List.mem_of_getElem? (i := 11) rfl))) (fun _ h9 => h9) rfl (tyX10_ok 7 (by decide)) (z01_n hz69) (z01_f hz69) hl69 dX10_copy_69 (fun H locs hP hD hS => ?_)
  generalize hup h61 q0 (.inr (10, fs69.set 7 (.int g66))) = h69 at hm hP hD
  refine lv_aload_n hx hb dX10_copy_72 rfl (lv_at hl 0 rfl) ?_
  refine lv_aload_n hx hb dX10_copy_73 rfl (lv_at hl 1 rfl) ?_
  obtain ⟨wq74, fs74, g74, hq74, hv74, hm⟩ := hm
  refine mr_get (ci := 10) (C := RX10) (T := TX10) (N := 17) hx hb hts hi_10 hown hK (mRd hK hP hZ hS) hq74 rfl 8 (by decide) (hts (.fieldLink RX10 59 "HubTrainsLaw$Table" "rounds" "I") (List.mem_append_left _ (List.mem_of_getElem? (i := 12) rfl))) (fun _ h9 => h9) hv74 dX10_copy_74 ?_
  obtain ⟨fs77, hq77, hl77, hm⟩ := hm
  refine mr_put (v := .int g74) (ci := 10) (C := RX10) (T := TX10) (N := 17) hx hb hts hi_10 tyX10 (fun k hk => tyX10_ok k (Nat.lt_of_lt_of_le hk (by decide))) (fun a ha b hb => nmX10 a (Nat.lt_of_lt_of_le ha (by decide)) b (Nat.lt_of_lt_of_le hb (by decide))) hown hK hP hD hS hq77 rfl 8 (by decide) (hts (.fieldLink RX10 59 "HubTrainsLaw$Table" "rounds" "I") (List.mem_append_left _ (List.mem_of_getElem? (i := 12) rfl))) (fun _ h9 => h9) rfl (tyX10_ok 8 (by decide)) rfl rfl hl77 dX10_copy_77 (fun H locs hP hD hS => ?_)
  generalize hup h69 q0 (.inr (10, fs77.set 8 (.int g74))) = h77 at hm hP hD
  refine lv_aload_n hx hb dX10_copy_80 rfl (lv_at hl 0 rfl) ?_
  refine lv_aload_n hx hb dX10_copy_81 rfl (lv_at hl 1 rfl) ?_
  obtain ⟨wq82, fs82, g82, hq82, hv82, hm⟩ := hm
  refine mr_get (ci := 10) (C := RX10) (T := TX10) (N := 17) hx hb hts hi_10 hown hK (mRd hK hP hZ hS) hq82 rfl 9 (by decide) (hts (.fieldLink RX10 62 "HubTrainsLaw$Table" "passes" "I") (List.mem_append_left _ (List.mem_of_getElem? (i := 13) rfl))) (fun _ h9 => h9) hv82 dX10_copy_82 ?_
  obtain ⟨fs85, hq85, hl85, hm⟩ := hm
  refine mr_put (v := .int g82) (ci := 10) (C := RX10) (T := TX10) (N := 17) hx hb hts hi_10 tyX10 (fun k hk => tyX10_ok k (Nat.lt_of_lt_of_le hk (by decide))) (fun a ha b hb => nmX10 a (Nat.lt_of_lt_of_le ha (by decide)) b (Nat.lt_of_lt_of_le hb (by decide))) hown hK hP hD hS hq85 rfl 9 (by decide) (hts (.fieldLink RX10 62 "HubTrainsLaw$Table" "passes" "I") (List.mem_append_left _ (List.mem_of_getElem? (i := 13) rfl))) (fun _ h9 => h9) rfl (tyX10_ok 9 (by decide)) rfl rfl hl85 dX10_copy_85 (fun H locs hP hD hS => ?_)
  generalize hup h77 q0 (.inr (10, fs85.set 9 (.int g82))) = h85 at hm hP hD
  refine lv_aload_n hx hb dX10_copy_88 rfl (lv_at hl 0 rfl) ?_
  refine lv_aload_n hx hb dX10_copy_89 rfl (lv_at hl 1 rfl) ?_
  obtain ⟨wq90, fs90, g90, hq90, hv90, hm⟩ := hm
  refine mr_get (ci := 10) (C := RX10) (T := TX10) (N := 17) hx hb hts hi_10 hown hK (mRd hK hP hZ hS) hq90 rfl 10 (by decide) (hts (.fieldLink RX10 27 "HubTrainsLaw$Table" "hands" "[[I") (List.mem_append_left _ (List.mem_of_getElem? (i := 14) rfl))) (fun _ h9 => h9) hv90 dX10_copy_90 ?_
  obtain ⟨wq93, n93, f93, hq93, mB93, zB93, hc93, hs93, hm⟩ := hm
  refine mr_clone (ad := "[[I") hx hb (hml.trans hl.1.symm) hown (hts (.methodLink RX10 65 ⟨"[[I", "clone", "()Ljava/lang/Object;"⟩) (List.mem_append_right _ (by decide +kernel))) (hts (.sameMethod "[[I" "java/lang/Object" "clone" "()Ljava/lang/Object;") (List.mem_append_right _ (by decide +kernel))) (hts (.native ⟨"java/lang/Object", "clone", "()Ljava/lang/Object;"⟩) (List.mem_append_left _ (List.mem_of_getElem? (i := 19) rfl))) (hts (.instanceMethod ⟨"java/lang/Object", "clone", "()Ljava/lang/Object;"⟩) (List.mem_append_left _ (List.mem_of_getElem? (i := 20) rfl))) (hts (.selects "[[I" ⟨"[[I", "clone", "()Ljava/lang/Object;"⟩ ⟨"java/lang/Object", "clone", "()Ljava/lang/Object;"⟩) (List.mem_append_right _ (by decide +kernel))) (hXX.2.2.2.2 _ (List.mem_of_getElem? (i := 0) rfl)) hK hP hD hS hA 2 hq93 rfl (fcII hK) (va_fit (F := fun j => va_rf (f93 j)) (fun j _ => by cases (f93 j) <;> rfl)) (Nat.le_of_ble_eq_true rfl) (Nat.le_of_ble_eq_true rfl) (by show ((0 + 1) + m4) + 1 ≤ mc; omega) (by show ((0 + 17) + z4) + n93 ≤ ms; omega) dX10_copy_93 (fun q93 H hfr93 hP hD hS => ?_)
  have hm := hm q93 hfr93
  have hclq93 : hup h85 q93 (eQ (c 2) n93 f93) q93 = some (true, eQ (c 2) n93 f93) := hup_s
  generalize hup h85 q93 (eQ (c 2) n93 f93) = h93 at hm hP hD hclq93
  replace hf : (((0 + 1) + m4) + 1) + mB93 ≤ mc ∧ (((0 + 17) + z4) + n93) + zB93 ≤ ms := ⟨by omega, by omega⟩
  clear hc93 hs93
  refine mr_castA hx hb hown (hts (.classLink RX10 25 "[[I") (List.mem_append_left _ (List.mem_of_getElem? (i := 15) rfl))) hP (hclq93) (fcII hK) dX10_copy_96 ?_
  obtain ⟨fs99, hq99, hl99, hm⟩ := hm
  refine mr_put (v := .ref q93) (ci := 10) (C := RX10) (T := TX10) (N := 17) hx hb hts hi_10 tyX10 (fun k hk => tyX10_ok k (Nat.lt_of_lt_of_le hk (by decide))) (fun a ha b hb => nmX10 a (Nat.lt_of_lt_of_le ha (by decide)) b (Nat.lt_of_lt_of_le hb (by decide))) hown hK hP hD hS hq99 rfl 10 (by decide) (hts (.fieldLink RX10 27 "HubTrainsLaw$Table" "hands" "[[I") (List.mem_append_left _ (List.mem_of_getElem? (i := 14) rfl))) (fun _ h9 => h9) rfl (tyX10_ok 10 (by decide)) rfl rfl hl99 dX10_copy_99 (fun H locs hP hD hS => ?_)
  generalize hup h93 q0 (.inr (10, fs99.set 10 (.ref q93))) = h99 at hm hP hD
  refine lv_aload_n hx hb dX10_copy_102 rfl (lv_at hl 0 rfl) ?_
  refine lv_aload_n hx hb dX10_copy_103 rfl (lv_at hl 1 rfl) ?_
  obtain ⟨wq104, fs104, g104, hq104, hv104, hm⟩ := hm
  refine mr_get (ci := 10) (C := RX10) (T := TX10) (N := 17) hx hb hts hi_10 hown hK (mRd hK hP hZ hS) hq104 rfl 11 (by decide) (hts (.fieldLink RX10 30 "HubTrainsLaw$Table" "totals" "[I") (List.mem_append_left _ (List.mem_of_getElem? (i := 16) rfl))) (fun _ h9 => h9) hv104 dX10_copy_104 ?_
  obtain ⟨wq107, n107, f107, hq107, mB107, zB107, hc107, hs107, hm⟩ := hm
  refine mr_clone (ad := "[I") hx hb (hml.trans hl.1.symm) hown (hts (.methodLink RX10 69 ⟨"[I", "clone", "()Ljava/lang/Object;"⟩) (List.mem_append_left _ (List.mem_of_getElem? (i := 17) rfl))) (hts (.sameMethod "[I" "java/lang/Object" "clone" "()Ljava/lang/Object;") (List.mem_append_left _ (List.mem_of_getElem? (i := 18) rfl))) (hts (.native ⟨"java/lang/Object", "clone", "()Ljava/lang/Object;"⟩) (List.mem_append_left _ (List.mem_of_getElem? (i := 19) rfl))) (hts (.instanceMethod ⟨"java/lang/Object", "clone", "()Ljava/lang/Object;"⟩) (List.mem_append_left _ (List.mem_of_getElem? (i := 20) rfl))) (hts (.selects "[I" ⟨"[I", "clone", "()Ljava/lang/Object;"⟩ ⟨"java/lang/Object", "clone", "()Ljava/lang/Object;"⟩) (List.mem_append_left _ (List.mem_of_getElem? (i := 21) rfl))) (hXX.2.2.2.2 _ (List.mem_of_getElem? (i := 1) rfl)) hK hP hD hS hA 0 hq107 rfl (fcI hK) (va_fit (F := fun j => .int (f107 j)) (fun _ _ => rfl)) (Nat.le_of_ble_eq_true rfl) (Nat.le_of_ble_eq_true rfl) (by show (((0 + 1) + m4) + 1) + 1 ≤ mc; omega) (by show (((0 + 17) + z4) + n93) + n107 ≤ ms; omega) dX10_copy_107 (fun q107 H hfr107 hP hD hS => ?_)
  have hm := hm q107 hfr107
  have hclq107 : hup h99 q107 (eI (c 0) n107 f107) q107 = some (true, eI (c 0) n107 f107) := hup_s
  generalize hup h99 q107 (eI (c 0) n107 f107) = h107 at hm hP hD hclq107
  replace hf : ((((0 + 1) + m4) + 1) + 1) + mB107 ≤ mc ∧ ((((0 + 17) + z4) + n93) + n107) + zB107 ≤ ms := ⟨by omega, by omega⟩
  clear hc107 hs107
  refine mr_castA hx hb hown (hts (.classLink RX10 70 "[I") (List.mem_append_left _ (List.mem_of_getElem? (i := 22) rfl))) hP (hclq107) (fcI hK) dX10_copy_110 ?_
  obtain ⟨fs113, hq113, hl113, hm⟩ := hm
  refine mr_put (v := .ref q107) (ci := 10) (C := RX10) (T := TX10) (N := 17) hx hb hts hi_10 tyX10 (fun k hk => tyX10_ok k (Nat.lt_of_lt_of_le hk (by decide))) (fun a ha b hb => nmX10 a (Nat.lt_of_lt_of_le ha (by decide)) b (Nat.lt_of_lt_of_le hb (by decide))) hown hK hP hD hS hq113 rfl 11 (by decide) (hts (.fieldLink RX10 30 "HubTrainsLaw$Table" "totals" "[I") (List.mem_append_left _ (List.mem_of_getElem? (i := 16) rfl))) (fun _ h9 => h9) rfl (tyX10_ok 11 (by decide)) rfl rfl hl113 dX10_copy_113 (fun H locs hP hD hS => ?_)
  generalize hup h107 q0 (.inr (10, fs113.set 11 (.ref q107))) = h113 at hm hP hD
  refine lv_aload_n hx hb dX10_copy_116 rfl (lv_at hl 0 rfl) ?_
  refine lv_aload_n hx hb dX10_copy_117 rfl (lv_at hl 1 rfl) ?_
  obtain ⟨wq118, fs118, g118, hq118, hv118, hm⟩ := hm
  refine mr_get (ci := 10) (C := RX10) (T := TX10) (N := 17) hx hb hts hi_10 hown hK (mRd hK hP hZ hS) hq118 rfl 12 (by decide) (hts (.fieldLink RX10 34 "HubTrainsLaw$Table" "trains" "[[I") (List.mem_append_left _ (List.mem_of_getElem? (i := 23) rfl))) (fun _ h9 => h9) hv118 dX10_copy_118 ?_
  obtain ⟨wq121, n121, f121, hq121, mB121, zB121, hc121, hs121, hm⟩ := hm
  refine mr_clone (ad := "[[I") hx hb (hml.trans hl.1.symm) hown (hts (.methodLink RX10 65 ⟨"[[I", "clone", "()Ljava/lang/Object;"⟩) (List.mem_append_right _ (by decide +kernel))) (hts (.sameMethod "[[I" "java/lang/Object" "clone" "()Ljava/lang/Object;") (List.mem_append_right _ (by decide +kernel))) (hts (.native ⟨"java/lang/Object", "clone", "()Ljava/lang/Object;"⟩) (List.mem_append_left _ (List.mem_of_getElem? (i := 19) rfl))) (hts (.instanceMethod ⟨"java/lang/Object", "clone", "()Ljava/lang/Object;"⟩) (List.mem_append_left _ (List.mem_of_getElem? (i := 20) rfl))) (hts (.selects "[[I" ⟨"[[I", "clone", "()Ljava/lang/Object;"⟩ ⟨"java/lang/Object", "clone", "()Ljava/lang/Object;"⟩) (List.mem_append_right _ (by decide +kernel))) (hXX.2.2.2.2 _ (List.mem_of_getElem? (i := 0) rfl)) hK hP hD hS hA 2 hq121 rfl (fcII hK) (va_fit (F := fun j => va_rf (f121 j)) (fun j _ => by cases (f121 j) <;> rfl)) (Nat.le_of_ble_eq_true rfl) (Nat.le_of_ble_eq_true rfl) (by show ((((0 + 1) + m4) + 1) + 1) + 1 ≤ mc; omega) (by show ((((0 + 17) + z4) + n93) + n107) + n121 ≤ ms; omega) dX10_copy_121 (fun q121 H hfr121 hP hD hS => ?_)
  have hm := hm q121 hfr121
  have hclq121 : hup h113 q121 (eQ (c 2) n121 f121) q121 = some (true, eQ (c 2) n121 f121) := hup_s
  generalize hup h113 q121 (eQ (c 2) n121 f121) = h121 at hm hP hD hclq121
  replace hf : (((((0 + 1) + m4) + 1) + 1) + 1) + mB121 ≤ mc ∧ (((((0 + 17) + z4) + n93) + n107) + n121) + zB121 ≤ ms := ⟨by omega, by omega⟩
  clear hc121 hs121
  refine mr_castA hx hb hown (hts (.classLink RX10 25 "[[I") (List.mem_append_left _ (List.mem_of_getElem? (i := 15) rfl))) hP (hclq121) (fcII hK) dX10_copy_124 ?_
  obtain ⟨fs127, hq127, hl127, hm⟩ := hm
  refine mr_put (v := .ref q121) (ci := 10) (C := RX10) (T := TX10) (N := 17) hx hb hts hi_10 tyX10 (fun k hk => tyX10_ok k (Nat.lt_of_lt_of_le hk (by decide))) (fun a ha b hb => nmX10 a (Nat.lt_of_lt_of_le ha (by decide)) b (Nat.lt_of_lt_of_le hb (by decide))) hown hK hP hD hS hq127 rfl 12 (by decide) (hts (.fieldLink RX10 34 "HubTrainsLaw$Table" "trains" "[[I") (List.mem_append_left _ (List.mem_of_getElem? (i := 23) rfl))) (fun _ h9 => h9) rfl (tyX10_ok 12 (by decide)) rfl rfl hl127 dX10_copy_127 (fun H locs hP hD hS => ?_)
  generalize hup h121 q0 (.inr (10, fs127.set 12 (.ref q121))) = h127 at hm hP hD
  refine lv_aload_n hx hb dX10_copy_130 rfl (lv_at hl 0 rfl) ?_
  refine lv_aload_n hx hb dX10_copy_131 rfl (lv_at hl 1 rfl) ?_
  obtain ⟨wq132, fs132, g132, hq132, hv132, hm⟩ := hm
  refine mr_get (ci := 10) (C := RX10) (T := TX10) (N := 17) hx hb hts hi_10 hown hK (mRd hK hP hZ hS) hq132 rfl 13 (by decide) (hts (.fieldLink RX10 37 "HubTrainsLaw$Table" "isOpen" "[Z") (List.mem_append_left _ (List.mem_of_getElem? (i := 24) rfl))) (fun _ h9 => h9) hv132 dX10_copy_132 ?_
  obtain ⟨wq135, n135, f135, hq135, hft135, mB135, zB135, hc135, hs135, hm⟩ := hm
  refine mr_clone (ad := "[Z") hx hb (hml.trans hl.1.symm) hown (hts (.methodLink RX10 71 ⟨"[Z", "clone", "()Ljava/lang/Object;"⟩) (List.mem_append_left _ (List.mem_of_getElem? (i := 25) rfl))) (hts (.sameMethod "[Z" "java/lang/Object" "clone" "()Ljava/lang/Object;") (List.mem_append_left _ (List.mem_of_getElem? (i := 26) rfl))) (hts (.native ⟨"java/lang/Object", "clone", "()Ljava/lang/Object;"⟩) (List.mem_append_left _ (List.mem_of_getElem? (i := 19) rfl))) (hts (.instanceMethod ⟨"java/lang/Object", "clone", "()Ljava/lang/Object;"⟩) (List.mem_append_left _ (List.mem_of_getElem? (i := 20) rfl))) (hts (.selects "[Z" ⟨"[Z", "clone", "()Ljava/lang/Object;"⟩ ⟨"java/lang/Object", "clone", "()Ljava/lang/Object;"⟩) (List.mem_append_left _ (List.mem_of_getElem? (i := 27) rfl))) (hXX.2.2.2.2 _ (List.mem_of_getElem? (i := 2) rfl)) hK hP hD hS hA 4 hq135 rfl (fcZ hK) (va_fit (F := fun j => .int (f135 j)) hft135) (Nat.le_of_ble_eq_true rfl) (Nat.le_of_ble_eq_true rfl) (by show (((((0 + 1) + m4) + 1) + 1) + 1) + 1 ≤ mc; omega) (by show (((((0 + 17) + z4) + n93) + n107) + n121) + n135 ≤ ms; omega) dX10_copy_135 (fun q135 H hfr135 hP hD hS => ?_)
  have hm := hm q135 hfr135
  have hclq135 : hup h127 q135 (eI (c 4) n135 f135) q135 = some (true, eI (c 4) n135 f135) := hup_s
  generalize hup h127 q135 (eI (c 4) n135 f135) = h135 at hm hP hD hclq135
  replace hf : ((((((0 + 1) + m4) + 1) + 1) + 1) + 1) + mB135 ≤ mc ∧ ((((((0 + 17) + z4) + n93) + n107) + n121) + n135) + zB135 ≤ ms := ⟨by omega, by omega⟩
  clear hc135 hs135
  refine mr_castA hx hb hown (hts (.classLink RX10 72 "[Z") (List.mem_append_left _ (List.mem_of_getElem? (i := 28) rfl))) hP (hclq135) (fcZ hK) dX10_copy_138 ?_
  obtain ⟨fs141, hq141, hl141, hm⟩ := hm
  refine mr_put (v := .ref q135) (ci := 10) (C := RX10) (T := TX10) (N := 17) hx hb hts hi_10 tyX10 (fun k hk => tyX10_ok k (Nat.lt_of_lt_of_le hk (by decide))) (fun a ha b hb => nmX10 a (Nat.lt_of_lt_of_le ha (by decide)) b (Nat.lt_of_lt_of_le hb (by decide))) hown hK hP hD hS hq141 rfl 13 (by decide) (hts (.fieldLink RX10 37 "HubTrainsLaw$Table" "isOpen" "[Z") (List.mem_append_left _ (List.mem_of_getElem? (i := 24) rfl))) (fun _ h9 => h9) rfl (tyX10_ok 13 (by decide)) rfl rfl hl141 dX10_copy_141 (fun H locs hP hD hS => ?_)
  generalize hup h135 q0 (.inr (10, fs141.set 13 (.ref q135))) = h141 at hm hP hD
  refine lv_aload_n hx hb dX10_copy_144 rfl (lv_at hl 0 rfl) ?_
  refine lv_aload_n hx hb dX10_copy_145 rfl (lv_at hl 1 rfl) ?_
  obtain ⟨wq146, fs146, g146, hq146, hv146, hm⟩ := hm
  refine mr_get (ci := 10) (C := RX10) (T := TX10) (N := 17) hx hb hts hi_10 hown hK (mRd hK hP hZ hS) hq146 rfl 14 (by decide) (hts (.fieldLink RX10 41 "HubTrainsLaw$Table" "stock" "[I") (List.mem_append_left _ (List.mem_of_getElem? (i := 29) rfl))) (fun _ h9 => h9) hv146 dX10_copy_146 ?_
  obtain ⟨fs149, hq149, hl149, hm⟩ := hm
  refine mr_put (v := .ref g146) (ci := 10) (C := RX10) (T := TX10) (N := 17) hx hb hts hi_10 tyX10 (fun k hk => tyX10_ok k (Nat.lt_of_lt_of_le hk (by decide))) (fun a ha b hb => nmX10 a (Nat.lt_of_lt_of_le ha (by decide)) b (Nat.lt_of_lt_of_le hb (by decide))) hown hK hP hD hS hq149 rfl 14 (by decide) (hts (.fieldLink RX10 41 "HubTrainsLaw$Table" "stock" "[I") (List.mem_append_left _ (List.mem_of_getElem? (i := 29) rfl))) (fun _ h9 => h9) rfl (tyX10_ok 14 (by decide)) rfl rfl hl149 dX10_copy_149 (fun H locs hP hD hS => ?_)
  generalize hup h141 q0 (.inr (10, fs149.set 14 (.ref g146))) = h149 at hm hP hD
  refine lv_aload_n hx hb dX10_copy_152 rfl (lv_at hl 0 rfl) ?_
  refine lv_aload_n hx hb dX10_copy_153 rfl (lv_at hl 1 rfl) ?_
  obtain ⟨wq154, fs154, g154, hq154, hv154, hm⟩ := hm
  refine mr_get (ci := 10) (C := RX10) (T := TX10) (N := 17) hx hb hts hi_10 hown hK (mRd hK hP hZ hS) hq154 rfl 15 (by decide) (hts (.fieldLink RX10 73 "HubTrainsLaw$Table" "term" "LHubTrainsLaw$Node;") (List.mem_append_left _ (List.mem_of_getElem? (i := 30) rfl))) (fun _ h9 => h9) hv154 dX10_copy_154 ?_
  obtain ⟨fs157, hq157, hl157, hm⟩ := hm
  refine mr_put (v := va_rf g154) (ci := 10) (C := RX10) (T := TX10) (N := 17) hx hb hts hi_10 tyX10 (fun k hk => tyX10_ok k (Nat.lt_of_lt_of_le hk (by decide))) (fun a ha b hb => nmX10 a (Nat.lt_of_lt_of_le ha (by decide)) b (Nat.lt_of_lt_of_le hb (by decide))) hown hK hP hD hS hq157 rfl 15 (by decide) (hts (.fieldLink RX10 73 "HubTrainsLaw$Table" "term" "LHubTrainsLaw$Node;") (List.mem_append_left _ (List.mem_of_getElem? (i := 30) rfl))) (fun _ h9 => h9) rfl (tyX10_ok 15 (by decide)) (zrf_n _) (zrf_f _) hl157 dX10_copy_157 (fun H locs hP hD hS => ?_)
  generalize hup h149 q0 (.inr (10, fs157.set 15 (va_rf g154))) = h157 at hm hP hD
  refine lv_aload_n hx hb dX10_copy_160 rfl (lv_at hl 0 rfl) ?_
  exact hend H locs ls 161 _ _ (some q0) h157 (by omega) (by omega) hm hP hD hS dX10_copy_161

def w_X10_end_J54 (c : Nat → ClassId) (K : (Nat → Nat) × (Nat → Nat)) (rec_19 : Int32 → Int32 → Prop) (v5_19 : Int32) (s0_54 : Int32) : Prop :=
  ∀ x55 : Int32, x55 = (v5_19 + 1) → (rec_19 s0_54 x55)

def w_X10_end_B19 (c : Nat → ClassId) (K : (Nat → Nat) × (Nat → Nat)) (h : HW) (post : Int32 → HW → Prop) (x10 : Nat) (x13 : Int32) (rec_19 : Int32 → Int32 → Prop) (v2_19 : Int32) (v5_19 : Int32) : Prop :=
  (x13 ≤ v5_19 → post v2_19 h) ∧ (¬ x13 ≤ v5_19 → lI h (c 0) x10 v5_19 (fun (x29 : Int32) => ∀ x36 : Int32, x36 = x29 / (10 : Int32) → ((x36 = v2_19 → ∀ x45 : Int32, x45 = x29 - x29 / (10 : Int32) * (10 : Int32) → (w_X10_end_J54 c K rec_19 v5_19 x45)) ∧ (¬ x36 = v2_19 → ∀ x53 : Int32, x53 = x29 / (10 : Int32) → (w_X10_end_J54 c K rec_19 v5_19 x53)))))

def w_X10_end (c : Nat → ClassId) (K : (Nat → Nat) × (Nat → Nat)) (h : HW) (a0 : Nat) (a1 : Int32) (post : Int32 → HW → Prop) : Prop :=
  gI h a0 10 2 (fun (g1 : Int32) => gR h a0 10 12 (fun (g6 : Nat) => lR h (c 2) g6 a1 (fun (x10 : Nat) => lenA h (c 0) x10 (fun (x13 : Int32) => ∃ n_19 : Nat, itP2 (w_X10_end_B19 c K h post x10 x13) n_19 g1 (0 : Int32)))))

abbrev rm_X10_end : Room := { frames := 0, cells := 0, slots := 0, locals := 0 }
theorem he_X10_end : yX10_end.cls ≠ "java/lang/invoke/MethodHandle" ∧ yX10_end.cls ≠ "java/lang/invoke/VarHandle" ∧ (parseMethodDescriptor yX10_end.desc).map (fun d => d.parameters.length) = some 1 := by decide +kernel
theorem heV_X10_end : yX10_end.cls = RX10 ∧ yX10_end.cls ≠ "java/lang/invoke/MethodHandle" ∧ yX10_end.cls ≠ "java/lang/invoke/VarHandle" ∧ (parseMethodDescriptor yX10_end.desc).map (fun d => d.parameters.length) = some 1 := by decide +kernel
set_option maxHeartbeats 4000000 in
set_option maxRecDepth 100000 in
theorem h_X10_end (l : Launch) (G : va_G) (K : (Nat → Nat) × (Nat → Nat)) (c : Nat → ClassId) (h : HW) (a0 : Nat) (a1 : Int32) (post : Int32 → HW → Prop) (hm : w_X10_end c K h a0 a1 post) : hMi l yX10_end wsX10_end (rm_X10_end) G K (TY c) [.ref a0, .int a1] h 0 0 post := by
  refine hMi.of (cc := cX10_end) (maxL := 7) (lv := [(0, .ref a0), (1, .int a1)]) (by decide) rfl (Nat.le_of_ble_eq_true rfl) rfl ?_
  intro p e s m args below meth c1 A Q H locs hx hb hml hown hmn hts hK hN hZ hXX hP hD hA hS hend ls hl
  have hown : s.vm.findClass RX10 = some m.cls := hown
  have hi_10 : ∀ w ∈ u_ws RX10 TX10 17, w ∈ wsX10_end := fun w h => (fun w h => List.mem_cons_of_mem _ (List.mem_append_right _ (h))) w h
  unfold w_X10_end at hm
  refine lv_aload_n hx hb dX10_end_0 rfl (lv_at hl 0 rfl) ?_
  obtain ⟨wq1, fs1, g1, hq1, hv1, hm⟩ := hm
  refine mr_get (ci := 10) (C := RX10) (T := TX10) (N := 17) hx hb hts hi_10 hown hK (mRd hK hP hZ hS) hq1 rfl 2 (by decide) (hts (.fieldLink RX10 16 "HubTrainsLaw$Table" "hub" "I") ((List.mem_of_getElem? (i := 1) rfl))) (fun _ h9 => h9) hv1 dX10_end_1 ?_
  refine lv_istore_n (lv' := [(2, .int g1), (0, .ref a0), (1, .int a1)]) hx hb dX10_end_4 rfl hl (by decide) rfl (fun ls hl => ?_)
  refine lv_aload_n hx hb dX10_end_5 rfl (lv_at hl 1 rfl) ?_
  obtain ⟨wq6, fs6, g6, hq6, hv6, hm⟩ := hm
  refine mr_get (ci := 10) (C := RX10) (T := TX10) (N := 17) hx hb hts hi_10 hown hK (mRd hK hP hZ hS) hq6 rfl 12 (by decide) (hts (.fieldLink RX10 34 "HubTrainsLaw$Table" "trains" "[[I") ((List.mem_of_getElem? (i := 2) rfl))) (fun _ h9 => h9) hv6 dX10_end_6 ?_
  refine lv_iload_n hx hb dX10_end_9 rfl (lv_at hl 2 rfl) ?_
  obtain ⟨wq10, n10, f10, x10, hq10, hi10, hv10, hm⟩ := hm
  refine mr_aldq (ty := (.array .int)) hx hb hK (mRd hK hP hZ hS) 2 rfl hq10 rfl hi10 dX10_end_10 (fun o10 eo10 => ?_)
  obtain rfl := eo10.trans hv10
  refine lv_astore_n (lv' := [(3, .ref x10), (2, .int g1), (0, .ref a0), (1, .int a1)]) hx hb dX10_end_11 rfl hl (by decide) rfl (fun ls hl => ?_)
  refine lv_aload_n hx hb dX10_end_12 rfl (lv_at hl 0 rfl) ?_
  obtain ⟨wq13, xx13, hq13, hm⟩ := hm
  refine mr_alen hx hb hK (mRd hK hP hZ hS) 0 hq13 rfl dX10_end_13 (fun x13 ex13 => ?_)
  have hm := hm x13 ex13
  refine lv_istore (lv' := [(4, .int x13), (3, .ref x10), (2, .int g1), (0, .ref a0), (1, .int a1)]) hx hb dX10_end_14 hl (by decide) rfl (fun ls hl => ?_)
  refine lv_iconst (v := 0) hx hb dX10_end_16 (by decide) ?_
  refine lv_istore (lv' := [(5, .int (0 : Int32)), (4, .int x13), (3, .ref x10), (2, .int g1), (0, .ref a0), (1, .int a1)]) hx hb dX10_end_17 hl (by decide) rfl (fun ls hl => ?_)
  obtain ⟨n_19, hm⟩ := hm
  have L_19 : ∀ (n_19 : Nat) (v2_19 : Int32) (v5_19 : Int32) (H : Heap) (locs : List Loc) (ls : Array Slot), mP G K h H → mD A h → va_S A s.heap H locs → lv_has ls 7 [(2, .int v2_19), (3, .ref x10), (4, .int x13), (5, .int v5_19)] → itP2 (w_X10_end_B19 c K h post x10 x13) n_19 v2_19 v5_19 → W p l e (rm_X10_end) s m args below meth c1 H locs 0 0 Q (F0 m 19 ls []) := by
    intro n_19
    induction n_19 with
    | zero => intro v2_19 v5_19 H locs ls hP hD hS hl hm; exact hm.elim
    | succ n_19 ih_19 =>
      intro v2_19 v5_19 H locs ls hP hD hS hl hm
      have hm : (w_X10_end_B19 c K h post x10 x13) (itP2 (w_X10_end_B19 c K h post x10 x13) n_19) v2_19 v5_19 := hm
      generalize itP2 (w_X10_end_B19 c K h post x10 x13) n_19 = rec_19 at hm ih_19
      unfold w_X10_end_B19 at hm
      refine lv_iload hx hb dX10_end_19 (lv_at hl 3 rfl) ?_
      refine lv_iload hx hb dX10_end_21 (lv_at hl 2 rfl) ?_
      refine lv_icmp_ge (tgt := 61) hx hb dX10_end_23 (by decide) (fun c_23 => ?_) (fun c_23 => ?_)
      · have hm := hm.1 c_23
        refine lv_iload_n hx hb dX10_end_61 rfl (lv_at hl 0 rfl) ?_
        exact hend H locs ls 62 _ _ v2_19 h (Nat.le_refl _) (Nat.le_refl _) rfl hm hP hD hS dX10_end_62
      · have hm := hm.2 c_23
        refine lv_aload_n hx hb dX10_end_26 rfl (lv_at hl 1 rfl) ?_
        refine lv_iload hx hb dX10_end_27 (lv_at hl 3 rfl) ?_
        obtain ⟨wq29, n29, f29, hq29, hi29, hm⟩ := hm
        refine mr_iald hx hb hK (mRd hK hP hZ hS) 0 hq29 rfl hi29 dX10_end_29 (fun x29 ex29 => ?_)
        have hm := hm x29 ex29
        refine lv_istore (lv' := [(6, .int x29), (2, .int v2_19), (3, .ref x10), (4, .int x13), (5, .int v5_19)]) hx hb dX10_end_30 hl (by decide) rfl (fun ls hl => ?_)
        refine lv_iload hx hb dX10_end_32 (lv_at hl 0 rfl) ?_
        refine lv_bipush (v := 10) hx hb dX10_end_34 (by decide) ?_
        refine lv_idiv hx hb dX10_end_36 (by decide) ?_
        refine lv_topi (fun x36 ex36 => ?_)
        have hm := hm x36 ex36
        refine lv_iload_n hx hb dX10_end_37 rfl (lv_at hl 1 rfl) ?_
        have J_54 : ∀ (s0_54 : Int32) (H : Heap) (locs : List Loc) (ls : Array Slot), mP G K h H → mD A h → va_S A s.heap H locs → lv_has ls 7 [(3, .ref x10), (4, .int x13), (5, .int v5_19)] → w_X10_end_J54 c K rec_19 v5_19 s0_54 → W p l e (rm_X10_end) s m args below meth c1 H locs 0 0 Q (F0 m 54 ls [.int s0_54]) := by
          intro s0_54 H locs ls hP hD hS hl hm
          unfold w_X10_end_J54 at hm
          refine lv_istore_n (lv' := [(2, .int s0_54), (3, .ref x10), (4, .int x13), (5, .int v5_19)]) hx hb dX10_end_54 rfl hl (by decide) rfl (fun ls hl => ?_)
          obtain ⟨x55, ex55⟩ : ∃ z : Int32, z = (v5_19 + 1) := ⟨_, rfl⟩
          have hm := hm x55 ex55
          refine lv_iinc (k := 3) (v := x55) (lv' := [(5, .int x55), (2, .int s0_54), (3, .ref x10), (4, .int x13)]) hx hb dX10_end_55 hl rfl ex55.symm (by decide) rfl (fun ls hl => ?_)
          refine lv_goto (tgt := 19) hx hb dX10_end_58 (by decide) ?_
          exact ih_19 s0_54 x55 H locs ls hP hD hS (lv_sub hl [1, 2, 3, 0] rfl) hm
        refine lv_icmp_ne (tgt := 49) hx hb dX10_end_38 (by decide) (fun c_38 => ?_) (fun c_38 => ?_)
        · have hm := hm.2 c_38
          refine lv_iload hx hb dX10_end_49 (lv_at hl 0 rfl) ?_
          refine lv_bipush (v := 10) hx hb dX10_end_51 (by decide) ?_
          refine lv_idiv hx hb dX10_end_53 (by decide) ?_
          refine lv_topi (fun x53 ex53 => ?_)
          have hm := hm x53 ex53
          exact J_54 x53 H locs ls hP hD hS (lv_sub hl [2, 3, 4] rfl) hm
        · have hm := hm.1 c_38
          refine lv_iload hx hb dX10_end_41 (lv_at hl 0 rfl) ?_
          refine lv_bipush (v := 10) hx hb dX10_end_43 (by decide) ?_
          refine lv_irem hx hb dX10_end_45 (by decide) ?_
          refine lv_topi (fun x45 ex45 => ?_)
          have hm := hm x45 ex45
          refine lv_goto (tgt := 54) hx hb dX10_end_46 (by decide) ?_
          exact J_54 x45 H locs ls hP hD hS (lv_sub hl [2, 3, 4] rfl) hm
  exact L_19 n_19 g1 (0 : Int32) H locs ls hP hD hS (lv_sub hl [3, 2, 1, 0] rfl) hm

def w_X10_why_J94 (c : Nat → ClassId) (K : (Nat → Nat) × (Nat → Nat)) (post : Int32 → HW → Prop) (h_94 : HW) : Prop :=
  post (0 : Int32) h_94

def w_X10_why_J70 (c : Nat → ClassId) (K : (Nat → Nat) × (Nat → Nat)) (a0 : Nat) (a1 : Int32) (a2 : Int32) (post : Int32 → HW → Prop) (h19 : HW)  : Prop :=
  ∀ x73 : Int32, x73 = a1 / (10 : Int32) → ((∃ w fs, h19 a0 = some (w, .inr (10, fs))) ∧ w_X10_end c K h19 a0 a2 (fun (r76 : Int32) (h76 : HW) => (x73 = r76 → w_X10_why_J94 c K post h76) ∧ (¬ x73 = r76 → ∀ x85 : Int32, x85 = a1 - a1 / (10 : Int32) * (10 : Int32) → ((∃ w fs, h76 a0 = some (w, .inr (10, fs))) ∧ w_X10_end c K h76 a0 a2 (fun (r88 : Int32) (h88 : HW) => (x85 = r88 → w_X10_why_J94 c K post h88) ∧ (¬ x85 = r88 → post (5 : Int32) h88))))))

def w_X10_why_J44 (c : Nat → ClassId) (K : (Nat → Nat) × (Nat → Nat)) (a0 : Nat) (a1 : Int32) (a2 : Int32) (post : Int32 → HW → Prop) (h19 : HW)  : Prop :=
  gI h19 a0 10 6 (fun (g45 : Int32) => (0 ≤ g45 → w_X10_why_J70 c K a0 a1 a2 post h19) ∧ (¬ 0 ≤ g45 → gR h19 a0 10 13 (fun (g52 : Nat) => lI h19 (c 4) g52 a2 (fun (x56 : Int32) => (x56 = 0 → gI h19 a0 10 4 (fun (g62 : Int32) => (a2 = g62 → w_X10_why_J70 c K a0 a1 a2 post h19) ∧ (¬ a2 = g62 → post (4 : Int32) h19))) ∧ (¬ x56 = 0 → w_X10_why_J70 c K a0 a1 a2 post h19)))))

def w_X10_why (c : Nat → ClassId) (K : (Nat → Nat) × (Nat → Nat)) (h : HW) (a0 : Nat) (a1 : Int32) (a2 : Int32) (post : Int32 → HW → Prop) : Prop :=
  gI h a0 10 7 (fun (g1 : Int32) => (g1 = 0 → gR h a0 10 10 (fun (g10 : Nat) => gI h a0 10 4 (fun (g14 : Int32) => lR h (c 2) g10 g14 (fun (x17 : Nat) => w_L_has c K h x17 a1 (fun (r19 : Int32) (h19 : HW) => (r19 = 0 → post (2 : Int32) h19) ∧ (¬ r19 = 0 → gI h19 a0 10 6 (fun (g28 : Int32) => (g28 < 0 → w_X10_why_J44 c K a0 a1 a2 post h19) ∧ (¬ g28 < 0 → gI h19 a0 10 6 (fun (g35 : Int32) => (g35 = a2 → w_X10_why_J44 c K a0 a1 a2 post h19) ∧ (¬ g35 = a2 → post (3 : Int32) h19)))))))))) ∧ (¬ g1 = 0 → post (1 : Int32) h))

abbrev rm_X10_why : Room := { frames := 1, cells := 0, slots := 0, locals := 26 }
theorem he_X10_why : yX10_why.cls ≠ "java/lang/invoke/MethodHandle" ∧ yX10_why.cls ≠ "java/lang/invoke/VarHandle" ∧ (parseMethodDescriptor yX10_why.desc).map (fun d => d.parameters.length) = some 2 := by decide +kernel
theorem heV_X10_why : yX10_why.cls = RX10 ∧ yX10_why.cls ≠ "java/lang/invoke/MethodHandle" ∧ yX10_why.cls ≠ "java/lang/invoke/VarHandle" ∧ (parseMethodDescriptor yX10_why.desc).map (fun d => d.parameters.length) = some 2 := by decide +kernel
set_option maxHeartbeats 4000000 in
set_option maxRecDepth 100000 in
theorem h_X10_why (l : Launch) (G : va_G) (K : (Nat → Nat) × (Nat → Nat)) (c : Nat → ClassId) (h : HW) (a0 : Nat) (a1 : Int32) (a2 : Int32) (post : Int32 → HW → Prop) (hm : w_X10_why c K h a0 a1 a2 post) : hMi l yX10_why wsX10_why (rm_X10_why) G K (TY c) [.ref a0, .int a1, .int a2] h 0 0 post := by
  refine hMi.of (cc := cX10_why) (maxL := 3) (lv := [(0, .ref a0), (1, .int a1), (2, .int a2)]) (by decide) rfl (Nat.le_of_ble_eq_true rfl) rfl ?_
  intro p e s m args below meth c1 A Q H locs hx hb hml hown hmn hts hK hN hZ hXX hP hD hA hS hend ls hl
  have hown : s.vm.findClass RX10 = some m.cls := hown
  have hi_10 : ∀ w ∈ u_ws RX10 TX10 17, w ∈ wsX10_why := fun w h => (fun w h => List.mem_cons_of_mem _ (List.mem_append_right _ (h))) w h
  unfold w_X10_why at hm
  refine lv_aload_n hx hb dX10_why_0 rfl (lv_at hl 0 rfl) ?_
  obtain ⟨wq1, fs1, g1, hq1, hv1, hm⟩ := hm
  refine mr_get (ci := 10) (C := RX10) (T := TX10) (N := 17) hx hb hts hi_10 hown hK (mRd hK hP hZ hS) hq1 rfl 7 (by decide) (hts (.fieldLink RX10 56 "HubTrainsLaw$Table" "isOver" "Z") ((List.mem_of_getElem? (i := 1) rfl))) (fun _ h9 => h9) hv1 dX10_why_1 ?_
  refine lv_if_eq (tgt := 9) hx hb dX10_why_4 (by decide) (fun c_4 => ?_) (fun c_4 => ?_)
  · have hm := hm.1 c_4
    refine lv_aload_n hx hb dX10_why_9 rfl (lv_at hl 0 rfl) ?_
    obtain ⟨wq10, fs10, g10, hq10, hv10, hm⟩ := hm
    refine mr_get (ci := 10) (C := RX10) (T := TX10) (N := 17) hx hb hts hi_10 hown hK (mRd hK hP hZ hS) hq10 rfl 10 (by decide) (hts (.fieldLink RX10 27 "HubTrainsLaw$Table" "hands" "[[I") ((List.mem_of_getElem? (i := 2) rfl))) (fun _ h9 => h9) hv10 dX10_why_10 ?_
    refine lv_aload_n hx hb dX10_why_13 rfl (lv_at hl 0 rfl) ?_
    obtain ⟨wq14, fs14, g14, hq14, hv14, hm⟩ := hm
    refine mr_get (ci := 10) (C := RX10) (T := TX10) (N := 17) hx hb hts hi_10 hown hK (mRd hK hP hZ hS) hq14 rfl 4 (by decide) (hts (.fieldLink RX10 49 "HubTrainsLaw$Table" "turn" "I") ((List.mem_of_getElem? (i := 3) rfl))) (fun _ h9 => h9) hv14 dX10_why_14 ?_
    obtain ⟨wq17, n17, f17, x17, hq17, hi17, hv17, hm⟩ := hm
    refine mr_aldq (ty := (.array .int)) hx hb hK (mRd hK hP hZ hS) 2 rfl hq17 rfl hi17 dX10_why_17 (fun o17 eo17 => ?_)
    obtain rfl := eo17.trans hv17
    refine lv_iload_n hx hb dX10_why_18 rfl (lv_at hl 1 rfl) ?_
    refine hcSNi (As := [.ref x17, .int a1]) (rest := []) ⟨hx, hb, hml, hown, hts⟩ (h_L_has l G K c h x17 a1 _ hm) ⟨va_cnB 2 hts gX10_why_L_has_n77 rfl rfl rfl (nwm_HubTrainsLaw_Table_77 hN.2.1) (hts (.initialized RL) ((List.mem_of_getElem? (i := 7) rfl))) he_L_has ⟨Nat.le_of_ble_eq_true rfl, Nat.le_of_ble_eq_true rfl⟩, (hts (.static yL_has) ((List.mem_of_getElem? (i := 6) rfl))), trivial⟩ hK hN hZ hXX hP hD hS hA rfl hl.1 rfl (Nat.le_of_ble_eq_true rfl) dX10_why_19 ⟨Nat.le_refl _, Nat.le_refl _⟩ (fun r19 h19 H locs hm hP hD hS => ?_)
    refine lv_if_ne (tgt := 27) hx hb dX10_why_22 (by decide) (fun c_22 => ?_) (fun c_22 => ?_)
    · have hm := hm.2 c_22
      refine lv_aload_n hx hb dX10_why_27 rfl (lv_at hl 0 rfl) ?_
      obtain ⟨wq28, fs28, g28, hq28, hv28, hm⟩ := hm
      refine mr_get (ci := 10) (C := RX10) (T := TX10) (N := 17) hx hb hts hi_10 hown hK (mRd hK hP hZ hS) hq28 rfl 6 (by decide) (hts (.fieldLink RX10 22 "HubTrainsLaw$Table" "cover" "I") ((List.mem_of_getElem? (i := 4) rfl))) (fun _ h9 => h9) hv28 dX10_why_28 ?_
      have J_44 : ∀  (H : Heap) (locs : List Loc) (ls : Array Slot), mP G K h19 H → mD A h19 → va_S A s.heap H locs → lv_has ls 3 [(0, .ref a0), (1, .int a1), (2, .int a2)] → w_X10_why_J44 c K a0 a1 a2 post h19 → W p l e (rm_X10_why) s m args below meth c1 H locs 0 0 Q (F0 m 44 ls []) := by
        intro  H locs ls hP hD hS hl hm
        unfold w_X10_why_J44 at hm
        refine lv_aload_n hx hb dX10_why_44 rfl (lv_at hl 0 rfl) ?_
        obtain ⟨wq45, fs45, g45, hq45, hv45, hm⟩ := hm
        refine mr_get (ci := 10) (C := RX10) (T := TX10) (N := 17) hx hb hts hi_10 hown hK (mRd hK hP hZ hS) hq45 rfl 6 (by decide) (hts (.fieldLink RX10 22 "HubTrainsLaw$Table" "cover" "I") ((List.mem_of_getElem? (i := 4) rfl))) (fun _ h9 => h9) hv45 dX10_why_45 ?_
        have J_70 : ∀  (H : Heap) (locs : List Loc) (ls : Array Slot), mP G K h19 H → mD A h19 → va_S A s.heap H locs → lv_has ls 3 [(0, .ref a0), (1, .int a1), (2, .int a2)] → w_X10_why_J70 c K a0 a1 a2 post h19 → W p l e (rm_X10_why) s m args below meth c1 H locs 0 0 Q (F0 m 70 ls []) := by
          intro  H locs ls hP hD hS hl hm
          unfold w_X10_why_J70 at hm
          refine lv_iload_n hx hb dX10_why_70 rfl (lv_at hl 1 rfl) ?_
          refine lv_bipush (v := 10) hx hb dX10_why_71 (by decide) ?_
          refine lv_idiv hx hb dX10_why_73 (by decide) ?_
          refine lv_topi (fun x73 ex73 => ?_)
          have hm := hm x73 ex73
          refine lv_aload_n hx hb dX10_why_74 rfl (lv_at hl 0 rfl) ?_
          refine lv_iload_n hx hb dX10_why_75 rfl (lv_at hl 2 rfl) ?_
          obtain ⟨⟨wr76, fr76, hrq76⟩, hm⟩ := hm
          refine hcVi (As := [.int a2]) (rest := [.int x73]) ⟨hx, hb, hml, hown, hts⟩ (h_X10_end l G K c h19 a0 a2 _ hm) (cwV 1 hts gX10_why_X10_end rfl rfl rfl (heV_X10_end) ⟨Nat.le_of_ble_eq_true rfl, Nat.le_of_ble_eq_true rfl⟩) hK hN hZ hXX hP hD hS hA (mr_recv hK (mRd hK hP hZ hS) (ci := 10) rfl hrq76) rfl hl.1 rfl (Nat.le_of_ble_eq_true rfl) dX10_why_76 ⟨Nat.le_refl _, Nat.le_refl _⟩ (fun r76 h76 H locs hm hP hD hS => ?_)
          have J_94 : ∀ (h_94 : HW) (H : Heap) (locs : List Loc) (ls : Array Slot), mP G K h_94 H → mD A h_94 → va_S A s.heap H locs → lv_has ls 3 [] → w_X10_why_J94 c K post h_94 → W p l e (rm_X10_why) s m args below meth c1 H locs 0 0 Q (F0 m 94 ls []) := by
            intro h_94 H locs ls hP hD hS hl hm
            unfold w_X10_why_J94 at hm
            refine lv_iconst (v := 0) hx hb dX10_why_94 (by decide) ?_
            refine lv_goto (tgt := 99) hx hb dX10_why_95 (by decide) ?_
            exact hend H locs ls 99 _ _ (0 : Int32) h_94 (Nat.le_refl _) (Nat.le_refl _) rfl hm hP hD hS dX10_why_99
          refine lv_icmp_eq (tgt := 94) hx hb dX10_why_79 (by decide) (fun c_79 => ?_) (fun c_79 => ?_)
          · have hm := hm.1 c_79
            exact J_94 h76 H locs ls hP hD hS (lv_sub hl [] rfl) hm
          · have hm := hm.2 c_79
            refine lv_iload_n hx hb dX10_why_82 rfl (lv_at hl 1 rfl) ?_
            refine lv_bipush (v := 10) hx hb dX10_why_83 (by decide) ?_
            refine lv_irem hx hb dX10_why_85 (by decide) ?_
            refine lv_topi (fun x85 ex85 => ?_)
            have hm := hm x85 ex85
            refine lv_aload_n hx hb dX10_why_86 rfl (lv_at hl 0 rfl) ?_
            refine lv_iload_n hx hb dX10_why_87 rfl (lv_at hl 2 rfl) ?_
            obtain ⟨⟨wr88, fr88, hrq88⟩, hm⟩ := hm
            refine hcVi (As := [.int a2]) (rest := [.int x85]) ⟨hx, hb, hml, hown, hts⟩ (h_X10_end l G K c h76 a0 a2 _ hm) (cwV 1 hts gX10_why_X10_end rfl rfl rfl (heV_X10_end) ⟨Nat.le_of_ble_eq_true rfl, Nat.le_of_ble_eq_true rfl⟩) hK hN hZ hXX hP hD hS hA (mr_recv hK (mRd hK hP hZ hS) (ci := 10) rfl hrq88) rfl hl.1 rfl (Nat.le_of_ble_eq_true rfl) dX10_why_88 ⟨Nat.le_refl _, Nat.le_refl _⟩ (fun r88 h88 H locs hm hP hD hS => ?_)
            refine lv_icmp_ne (tgt := 98) hx hb dX10_why_91 (by decide) (fun c_91 => ?_) (fun c_91 => ?_)
            · have hm := hm.2 c_91
              refine lv_iconst (v := 5) hx hb dX10_why_98 (by decide) ?_
              exact hend H locs ls 99 _ _ (5 : Int32) h88 (Nat.le_refl _) (Nat.le_refl _) rfl hm hP hD hS dX10_why_99
            · have hm := hm.1 c_91
              exact J_94 h88 H locs ls hP hD hS (lv_sub hl [] rfl) hm
        refine lv_if_ge (tgt := 70) hx hb dX10_why_48 (by decide) (fun c_48 => ?_) (fun c_48 => ?_)
        · have hm := hm.1 c_48
          exact J_70  H locs ls hP hD hS (lv_sub hl [0, 1, 2] rfl) hm
        · have hm := hm.2 c_48
          refine lv_aload_n hx hb dX10_why_51 rfl (lv_at hl 0 rfl) ?_
          obtain ⟨wq52, fs52, g52, hq52, hv52, hm⟩ := hm
          refine mr_get (ci := 10) (C := RX10) (T := TX10) (N := 17) hx hb hts hi_10 hown hK (mRd hK hP hZ hS) hq52 rfl 13 (by decide) (hts (.fieldLink RX10 37 "HubTrainsLaw$Table" "isOpen" "[Z") ((List.mem_of_getElem? (i := 5) rfl))) (fun _ h9 => h9) hv52 dX10_why_52 ?_
          refine lv_iload_n hx hb dX10_why_55 rfl (lv_at hl 2 rfl) ?_
          obtain ⟨wq56, n56, f56, hq56, hi56, hm⟩ := hm
          refine mr_zald hx hb hK (mRd hK hP hZ hS) 4 hq56 rfl hi56 dX10_why_56 (fun x56 ex56 => ?_)
          have hm := hm x56 ex56
          refine lv_if_ne (tgt := 70) hx hb dX10_why_57 (by decide) (fun c_57 => ?_) (fun c_57 => ?_)
          · have hm := hm.2 c_57
            exact J_70  H locs ls hP hD hS (lv_sub hl [0, 1, 2] rfl) hm
          · have hm := hm.1 c_57
            refine lv_iload_n hx hb dX10_why_60 rfl (lv_at hl 2 rfl) ?_
            refine lv_aload_n hx hb dX10_why_61 rfl (lv_at hl 0 rfl) ?_
            obtain ⟨wq62, fs62, g62, hq62, hv62, hm⟩ := hm
            refine mr_get (ci := 10) (C := RX10) (T := TX10) (N := 17) hx hb hts hi_10 hown hK (mRd hK hP hZ hS) hq62 rfl 4 (by decide) (hts (.fieldLink RX10 49 "HubTrainsLaw$Table" "turn" "I") ((List.mem_of_getElem? (i := 3) rfl))) (fun _ h9 => h9) hv62 dX10_why_62 ?_
            refine lv_icmp_eq (tgt := 70) hx hb dX10_why_65 (by decide) (fun c_65 => ?_) (fun c_65 => ?_)
            · have hm := hm.1 c_65
              exact J_70  H locs ls hP hD hS (lv_sub hl [0, 1, 2] rfl) hm
            · have hm := hm.2 c_65
              refine lv_iconst (v := 4) hx hb dX10_why_68 (by decide) ?_
              exact hend H locs ls 69 _ _ (4 : Int32) h19 (Nat.le_refl _) (Nat.le_refl _) rfl hm hP hD hS dX10_why_69
      refine lv_if_lt (tgt := 44) hx hb dX10_why_31 (by decide) (fun c_31 => ?_) (fun c_31 => ?_)
      · have hm := hm.1 c_31
        exact J_44  H locs ls hP hD hS (lv_sub hl [0, 1, 2] rfl) hm
      · have hm := hm.2 c_31
        refine lv_aload_n hx hb dX10_why_34 rfl (lv_at hl 0 rfl) ?_
        obtain ⟨wq35, fs35, g35, hq35, hv35, hm⟩ := hm
        refine mr_get (ci := 10) (C := RX10) (T := TX10) (N := 17) hx hb hts hi_10 hown hK (mRd hK hP hZ hS) hq35 rfl 6 (by decide) (hts (.fieldLink RX10 22 "HubTrainsLaw$Table" "cover" "I") ((List.mem_of_getElem? (i := 4) rfl))) (fun _ h9 => h9) hv35 dX10_why_35 ?_
        refine lv_iload_n hx hb dX10_why_38 rfl (lv_at hl 2 rfl) ?_
        refine lv_icmp_eq (tgt := 44) hx hb dX10_why_39 (by decide) (fun c_39 => ?_) (fun c_39 => ?_)
        · have hm := hm.1 c_39
          exact J_44  H locs ls hP hD hS (lv_sub hl [0, 1, 2] rfl) hm
        · have hm := hm.2 c_39
          refine lv_iconst (v := 3) hx hb dX10_why_42 (by decide) ?_
          exact hend H locs ls 43 _ _ (3 : Int32) h19 (Nat.le_refl _) (Nat.le_refl _) rfl hm hP hD hS dX10_why_43
    · have hm := hm.1 c_22
      refine lv_iconst (v := 2) hx hb dX10_why_25 (by decide) ?_
      exact hend H locs ls 26 _ _ (2 : Int32) h19 (Nat.le_refl _) (Nat.le_refl _) rfl hm hP hD hS dX10_why_26
  · have hm := hm.2 c_4
    refine lv_iconst (v := 1) hx hb dX10_why_7 (by decide) ?_
    exact hend H locs ls 8 _ _ (1 : Int32) h (Nat.le_refl _) (Nat.le_refl _) rfl hm hP hD hS dX10_why_8

def w_X10_plays_J57 (c : Nat → ClassId) (K : (Nat → Nat) × (Nat → Nat)) (rec_33 : HW → Int32 → Int32 → Prop) (v6_33 : Int32) (h48 : HW) (v1_57 : Int32) : Prop :=
  ∀ x57 : Int32, x57 = (v6_33 + 1) → (rec_33 h48 v1_57 x57)

def w_X10_plays_B33 (c : Nat → ClassId) (K : (Nat → Nat) × (Nat → Nat)) (a0 : Nat) (rec_18 : HW → Int32 → Int32 → Prop) (v4_18 : Int32) (x27 : Int32) (rec_33 : HW → Int32 → Int32 → Prop) (h_33 : HW) (v1_33 : Int32) (v6_33 : Int32) : Prop :=
  gR h_33 a0 10 12 (fun (g36 : Nat) => lenA h_33 (c 2) g36 (fun (x39 : Int32) => (x39 ≤ v6_33 → ∀ x63 : Int32, x63 = (v4_18 + 1) → (rec_18 h_33 v1_33 x63)) ∧ (¬ x39 ≤ v6_33 → (∃ w fs, h_33 a0 = some (w, .inr (10, fs))) ∧ w_X10_why c K h_33 a0 x27 v6_33 (fun (r48 : Int32) (h48 : HW) => (r48 = 0 → ∀ x54 : Int32, x54 = (v1_33 + 1) → (w_X10_plays_J57 c K rec_33 v6_33 h48 x54)) ∧ (¬ r48 = 0 → w_X10_plays_J57 c K rec_33 v6_33 h48 v1_33)))))

def w_X10_plays_B18 (c : Nat → ClassId) (K : (Nat → Nat) × (Nat → Nat)) (a0 : Nat) (post : Int32 → HW → Prop) (x10 : Nat) (x13 : Int32) (rec_18 : HW → Int32 → Int32 → Prop) (h_18 : HW) (v1_18 : Int32) (v4_18 : Int32) : Prop :=
  (x13 ≤ v4_18 → post v1_18 h_18) ∧ (¬ x13 ≤ v4_18 → lI h_18 (c 0) x10 v4_18 (fun (x27 : Int32) => ∃ n_33 : Nat, itP3 (w_X10_plays_B33 c K a0 rec_18 v4_18 x27) n_33 h_18 v1_18 (0 : Int32)))

def w_X10_plays (c : Nat → ClassId) (K : (Nat → Nat) × (Nat → Nat)) (h : HW) (a0 : Nat) (post : Int32 → HW → Prop) : Prop :=
  gR h a0 10 10 (fun (g3 : Nat) => gI h a0 10 4 (fun (g7 : Int32) => lR h (c 2) g3 g7 (fun (x10 : Nat) => lenA h (c 0) x10 (fun (x13 : Int32) => ∃ n_18 : Nat, itP3 (w_X10_plays_B18 c K a0 post x10 x13) n_18 h (0 : Int32) (0 : Int32)))))

abbrev rm_X10_plays : Room := { frames := 2, cells := 0, slots := 0, locals := 48 }
theorem he_X10_plays : yX10_plays.cls ≠ "java/lang/invoke/MethodHandle" ∧ yX10_plays.cls ≠ "java/lang/invoke/VarHandle" ∧ (parseMethodDescriptor yX10_plays.desc).map (fun d => d.parameters.length) = some 0 := by decide +kernel
theorem heV_X10_plays : yX10_plays.cls = RX10 ∧ yX10_plays.cls ≠ "java/lang/invoke/MethodHandle" ∧ yX10_plays.cls ≠ "java/lang/invoke/VarHandle" ∧ (parseMethodDescriptor yX10_plays.desc).map (fun d => d.parameters.length) = some 0 := by decide +kernel
set_option maxHeartbeats 4000000 in
set_option maxRecDepth 100000 in
theorem h_X10_plays (l : Launch) (G : va_G) (K : (Nat → Nat) × (Nat → Nat)) (c : Nat → ClassId) (h : HW) (a0 : Nat) (post : Int32 → HW → Prop) (hm : w_X10_plays c K h a0 post) : hMi l yX10_plays wsX10_plays (rm_X10_plays) G K (TY c) [.ref a0] h 0 0 post := by
  refine hMi.of (cc := cX10_plays) (maxL := 7) (lv := [(0, .ref a0)]) (by decide) rfl (Nat.le_of_ble_eq_true rfl) rfl ?_
  intro p e s m args below meth c1 A Q H locs hx hb hml hown hmn hts hK hN hZ hXX hP hD hA hS hend ls hl
  have hown : s.vm.findClass RX10 = some m.cls := hown
  have hi_10 : ∀ w ∈ u_ws RX10 TX10 17, w ∈ wsX10_plays := fun w h => (fun w h => List.mem_cons_of_mem _ (List.mem_append_right _ (h))) w h
  unfold w_X10_plays at hm
  refine lv_iconst (v := 0) hx hb dX10_plays_0 (by decide) ?_
  refine lv_istore_n (lv' := [(1, .int (0 : Int32)), (0, .ref a0)]) hx hb dX10_plays_1 rfl hl (by decide) rfl (fun ls hl => ?_)
  refine lv_aload_n hx hb dX10_plays_2 rfl (lv_at hl 1 rfl) ?_
  obtain ⟨wq3, fs3, g3, hq3, hv3, hm⟩ := hm
  refine mr_get (ci := 10) (C := RX10) (T := TX10) (N := 17) hx hb hts hi_10 hown hK (mRd hK hP hZ hS) hq3 rfl 10 (by decide) (hts (.fieldLink RX10 27 "HubTrainsLaw$Table" "hands" "[[I") ((List.mem_of_getElem? (i := 1) rfl))) (fun _ h9 => h9) hv3 dX10_plays_3 ?_
  refine lv_aload_n hx hb dX10_plays_6 rfl (lv_at hl 1 rfl) ?_
  obtain ⟨wq7, fs7, g7, hq7, hv7, hm⟩ := hm
  refine mr_get (ci := 10) (C := RX10) (T := TX10) (N := 17) hx hb hts hi_10 hown hK (mRd hK hP hZ hS) hq7 rfl 4 (by decide) (hts (.fieldLink RX10 49 "HubTrainsLaw$Table" "turn" "I") ((List.mem_of_getElem? (i := 2) rfl))) (fun _ h9 => h9) hv7 dX10_plays_7 ?_
  obtain ⟨wq10, n10, f10, x10, hq10, hi10, hv10, hm⟩ := hm
  refine mr_aldq (ty := (.array .int)) hx hb hK (mRd hK hP hZ hS) 2 rfl hq10 rfl hi10 dX10_plays_10 (fun o10 eo10 => ?_)
  obtain rfl := eo10.trans hv10
  refine lv_astore_n (lv' := [(2, .ref x10), (1, .int (0 : Int32)), (0, .ref a0)]) hx hb dX10_plays_11 rfl hl (by decide) rfl (fun ls hl => ?_)
  refine lv_aload_n hx hb dX10_plays_12 rfl (lv_at hl 0 rfl) ?_
  obtain ⟨wq13, xx13, hq13, hm⟩ := hm
  refine mr_alen hx hb hK (mRd hK hP hZ hS) 0 hq13 rfl dX10_plays_13 (fun x13 ex13 => ?_)
  have hm := hm x13 ex13
  refine lv_istore_n (lv' := [(3, .int x13), (2, .ref x10), (1, .int (0 : Int32)), (0, .ref a0)]) hx hb dX10_plays_14 rfl hl (by decide) rfl (fun ls hl => ?_)
  refine lv_iconst (v := 0) hx hb dX10_plays_15 (by decide) ?_
  refine lv_istore (lv' := [(4, .int (0 : Int32)), (3, .int x13), (2, .ref x10), (1, .int (0 : Int32)), (0, .ref a0)]) hx hb dX10_plays_16 hl (by decide) rfl (fun ls hl => ?_)
  obtain ⟨n_18, hm⟩ := hm
  have L_18 : ∀ (n_18 : Nat) (h_18 : HW) (v1_18 : Int32) (v4_18 : Int32) (H : Heap) (locs : List Loc) (ls : Array Slot), mP G K h_18 H → mD A h_18 → va_S A s.heap H locs → lv_has ls 7 [(0, .ref a0), (1, .int v1_18), (2, .ref x10), (3, .int x13), (4, .int v4_18)] → itP3 (w_X10_plays_B18 c K a0 post x10 x13) n_18 h_18 v1_18 v4_18 → W p l e (rm_X10_plays) s m args below meth c1 H locs 0 0 Q (F0 m 18 ls []) := by
    intro n_18
    induction n_18 with
    | zero => intro h_18 v1_18 v4_18 H locs ls hP hD hS hl hm; exact hm.elim
    | succ n_18 ih_18 =>
      intro h_18 v1_18 v4_18 H locs ls hP hD hS hl hm
      have hm : (w_X10_plays_B18 c K a0 post x10 x13) (itP3 (w_X10_plays_B18 c K a0 post x10 x13) n_18) h_18 v1_18 v4_18 := hm
      generalize itP3 (w_X10_plays_B18 c K a0 post x10 x13) n_18 = rec_18 at hm ih_18
      unfold w_X10_plays_B18 at hm
      refine lv_iload hx hb dX10_plays_18 (lv_at hl 4 rfl) ?_
      refine lv_iload_n hx hb dX10_plays_20 rfl (lv_at hl 3 rfl) ?_
      refine lv_icmp_ge (tgt := 69) hx hb dX10_plays_21 (by decide) (fun c_21 => ?_) (fun c_21 => ?_)
      · have hm := hm.1 c_21
        refine lv_iload_n hx hb dX10_plays_69 rfl (lv_at hl 1 rfl) ?_
        exact hend H locs ls 70 _ _ v1_18 h_18 (Nat.le_refl _) (Nat.le_refl _) rfl hm hP hD hS dX10_plays_70
      · have hm := hm.2 c_21
        refine lv_aload_n hx hb dX10_plays_24 rfl (lv_at hl 2 rfl) ?_
        refine lv_iload hx hb dX10_plays_25 (lv_at hl 4 rfl) ?_
        obtain ⟨wq27, n27, f27, hq27, hi27, hm⟩ := hm
        refine mr_iald hx hb hK (mRd hK hP hZ hS) 0 hq27 rfl hi27 dX10_plays_27 (fun x27 ex27 => ?_)
        have hm := hm x27 ex27
        refine lv_istore (lv' := [(5, .int x27), (0, .ref a0), (1, .int v1_18), (2, .ref x10), (3, .int x13), (4, .int v4_18)]) hx hb dX10_plays_28 hl (by decide) rfl (fun ls hl => ?_)
        refine lv_iconst (v := 0) hx hb dX10_plays_30 (by decide) ?_
        refine lv_istore (lv' := [(6, .int (0 : Int32)), (5, .int x27), (0, .ref a0), (1, .int v1_18), (2, .ref x10), (3, .int x13), (4, .int v4_18)]) hx hb dX10_plays_31 hl (by decide) rfl (fun ls hl => ?_)
        obtain ⟨n_33, hm⟩ := hm
        have L_33 : ∀ (n_33 : Nat) (h_33 : HW) (v1_33 : Int32) (v6_33 : Int32) (H : Heap) (locs : List Loc) (ls : Array Slot), mP G K h_33 H → mD A h_33 → va_S A s.heap H locs → lv_has ls 7 [(0, .ref a0), (1, .int v1_33), (2, .ref x10), (3, .int x13), (4, .int v4_18), (5, .int x27), (6, .int v6_33)] → itP3 (w_X10_plays_B33 c K a0 rec_18 v4_18 x27) n_33 h_33 v1_33 v6_33 → W p l e (rm_X10_plays) s m args below meth c1 H locs 0 0 Q (F0 m 33 ls []) := by
          intro n_33
          induction n_33 with
          | zero => intro h_33 v1_33 v6_33 H locs ls hP hD hS hl hm; exact hm.elim
          | succ n_33 ih_33 =>
            intro h_33 v1_33 v6_33 H locs ls hP hD hS hl hm
            have hm : (w_X10_plays_B33 c K a0 rec_18 v4_18 x27) (itP3 (w_X10_plays_B33 c K a0 rec_18 v4_18 x27) n_33) h_33 v1_33 v6_33 := hm
            generalize itP3 (w_X10_plays_B33 c K a0 rec_18 v4_18 x27) n_33 = rec_33 at hm ih_33
            unfold w_X10_plays_B33 at hm
            refine lv_iload hx hb dX10_plays_33 (lv_at hl 6 rfl) ?_
            refine lv_aload_n hx hb dX10_plays_35 rfl (lv_at hl 0 rfl) ?_
            obtain ⟨wq36, fs36, g36, hq36, hv36, hm⟩ := hm
            refine mr_get (ci := 10) (C := RX10) (T := TX10) (N := 17) hx hb hts hi_10 hown hK (mRd hK hP hZ hS) hq36 rfl 12 (by decide) (hts (.fieldLink RX10 34 "HubTrainsLaw$Table" "trains" "[[I") ((List.mem_of_getElem? (i := 3) rfl))) (fun _ h9 => h9) hv36 dX10_plays_36 ?_
            obtain ⟨wq39, xx39, hq39, hm⟩ := hm
            refine mr_alen hx hb hK (mRd hK hP hZ hS) 2 hq39 rfl dX10_plays_39 (fun x39 ex39 => ?_)
            have hm := hm x39 ex39
            refine lv_icmp_ge (tgt := 63) hx hb dX10_plays_40 (by decide) (fun c_40 => ?_) (fun c_40 => ?_)
            · have hm := hm.1 c_40
              obtain ⟨x63, ex63⟩ : ∃ z : Int32, z = (v4_18 + 1) := ⟨_, rfl⟩
              have hm := hm x63 ex63
              refine lv_iinc (k := 4) (v := x63) (lv' := [(4, .int x63), (0, .ref a0), (1, .int v1_33), (2, .ref x10), (3, .int x13), (5, .int x27), (6, .int v6_33)]) hx hb dX10_plays_63 hl rfl ex63.symm (by decide) rfl (fun ls hl => ?_)
              refine lv_goto (tgt := 18) hx hb dX10_plays_66 (by decide) ?_
              exact ih_18 h_33 v1_33 x63 H locs ls hP hD hS (lv_sub hl [1, 2, 3, 4, 0] rfl) hm
            · have hm := hm.2 c_40
              refine lv_aload_n hx hb dX10_plays_43 rfl (lv_at hl 0 rfl) ?_
              refine lv_iload hx hb dX10_plays_44 (lv_at hl 5 rfl) ?_
              refine lv_iload hx hb dX10_plays_46 (lv_at hl 6 rfl) ?_
              obtain ⟨⟨wr48, fr48, hrq48⟩, hm⟩ := hm
              refine hcVi (As := [.int x27, .int v6_33]) (rest := []) ⟨hx, hb, hml, hown, hts⟩ (h_X10_why l G K c h_33 a0 x27 v6_33 _ hm) (cwV 2 hts gX10_plays_X10_why rfl rfl rfl (heV_X10_why) ⟨Nat.le_of_ble_eq_true rfl, Nat.le_of_ble_eq_true rfl⟩) hK hN hZ hXX hP hD hS hA (mr_recv hK (mRd hK hP hZ hS) (ci := 10) rfl hrq48) rfl hl.1 rfl (Nat.le_of_ble_eq_true rfl) dX10_plays_48 ⟨Nat.le_refl _, Nat.le_refl _⟩ (fun r48 h48 H locs hm hP hD hS => ?_)
              have J_57 : ∀ (v1_57 : Int32) (H : Heap) (locs : List Loc) (ls : Array Slot), mP G K h48 H → mD A h48 → va_S A s.heap H locs → lv_has ls 7 [(0, .ref a0), (1, .int v1_57), (2, .ref x10), (3, .int x13), (4, .int v4_18), (5, .int x27), (6, .int v6_33)] → w_X10_plays_J57 c K rec_33 v6_33 h48 v1_57 → W p l e (rm_X10_plays) s m args below meth c1 H locs 0 0 Q (F0 m 57 ls []) := by
                intro v1_57 H locs ls hP hD hS hl hm
                unfold w_X10_plays_J57 at hm
                obtain ⟨x57, ex57⟩ : ∃ z : Int32, z = (v6_33 + 1) := ⟨_, rfl⟩
                have hm := hm x57 ex57
                refine lv_iinc (k := 6) (v := x57) (lv' := [(6, .int x57), (0, .ref a0), (1, .int v1_57), (2, .ref x10), (3, .int x13), (4, .int v4_18), (5, .int x27)]) hx hb dX10_plays_57 hl rfl ex57.symm (by decide) rfl (fun ls hl => ?_)
                refine lv_goto (tgt := 33) hx hb dX10_plays_60 (by decide) ?_
                exact ih_33 h48 v1_57 x57 H locs ls hP hD hS (lv_sub hl [1, 2, 3, 4, 5, 6, 0] rfl) hm
              refine lv_if_ne (tgt := 57) hx hb dX10_plays_51 (by decide) (fun c_51 => ?_) (fun c_51 => ?_)
              · have hm := hm.2 c_51
                exact J_57 v1_33 H locs ls hP hD hS (lv_sub hl [0, 1, 2, 3, 4, 5, 6] rfl) hm
              · have hm := hm.1 c_51
                obtain ⟨x54, ex54⟩ : ∃ z : Int32, z = (v1_33 + 1) := ⟨_, rfl⟩
                have hm := hm x54 ex54
                refine lv_iinc (k := 1) (v := x54) (lv' := [(1, .int x54), (0, .ref a0), (2, .ref x10), (3, .int x13), (4, .int v4_18), (5, .int x27), (6, .int v6_33)]) hx hb dX10_plays_54 hl rfl ex54.symm (by decide) rfl (fun ls hl => ?_)
                exact J_57 x54 H locs ls hP hD hS (lv_sub hl [1, 0, 2, 3, 4, 5, 6] rfl) hm
        exact L_33 n_33 h_18 v1_18 (0 : Int32) H locs ls hP hD hS (lv_sub hl [2, 3, 4, 5, 6, 1, 0] rfl) hm
  exact L_18 n_18 h (0 : Int32) (0 : Int32) H locs ls hP hD hS (lv_sub hl [4, 3, 2, 1, 0] rfl) hm

def w_X10_mayDraw (c : Nat → ClassId) (K : (Nat → Nat) × (Nat → Nat)) (h : HW) (a0 : Nat) (post : Int32 → HW → Prop) : Prop :=
  gI h a0 10 7 (fun (g1 : Int32) => (g1 = 0 → gI h a0 10 5 (fun (g8 : Int32) => (g8 = 0 → gR h a0 10 14 (fun (g15 : Nat) => lenA h (c 0) g15 (fun (x18 : Int32) => (x18 ≤ 0 → ((0 : Int32) = 0 ∨ (0 : Int32) = 1) ∧ post (0 : Int32) h) ∧ (¬ x18 ≤ 0 → (∃ w fs, h a0 = some (w, .inr (10, fs))) ∧ w_X10_plays c K h a0 (fun (r23 : Int32) (h23 : HW) => (r23 = 0 → ((1 : Int32) = 0 ∨ (1 : Int32) = 1) ∧ post (1 : Int32) h23) ∧ (¬ r23 = 0 → ((0 : Int32) = 0 ∨ (0 : Int32) = 1) ∧ post (0 : Int32) h23)))))) ∧ (¬ g8 = 0 → ((0 : Int32) = 0 ∨ (0 : Int32) = 1) ∧ post (0 : Int32) h))) ∧ (¬ g1 = 0 → ((0 : Int32) = 0 ∨ (0 : Int32) = 1) ∧ post (0 : Int32) h))

abbrev rm_X10_mayDraw : Room := { frames := 3, cells := 0, slots := 0, locals := 74 }
theorem he_X10_mayDraw : yX10_mayDraw.cls ≠ "java/lang/invoke/MethodHandle" ∧ yX10_mayDraw.cls ≠ "java/lang/invoke/VarHandle" ∧ (parseMethodDescriptor yX10_mayDraw.desc).map (fun d => d.parameters.length) = some 0 := by decide +kernel
theorem heV_X10_mayDraw : yX10_mayDraw.cls = RX10 ∧ yX10_mayDraw.cls ≠ "java/lang/invoke/MethodHandle" ∧ yX10_mayDraw.cls ≠ "java/lang/invoke/VarHandle" ∧ (parseMethodDescriptor yX10_mayDraw.desc).map (fun d => d.parameters.length) = some 0 := by decide +kernel
set_option maxHeartbeats 4000000 in
set_option maxRecDepth 100000 in
theorem h_X10_mayDraw (l : Launch) (G : va_G) (K : (Nat → Nat) × (Nat → Nat)) (c : Nat → ClassId) (h : HW) (a0 : Nat) (post : Int32 → HW → Prop) (hm : w_X10_mayDraw c K h a0 post) : hMi l yX10_mayDraw wsX10_mayDraw (rm_X10_mayDraw) G K (TY c) [.ref a0] h 0 0 post := by
  refine hMi.of (cc := cX10_mayDraw) (maxL := 1) (lv := [(0, .ref a0)]) (by decide) rfl (Nat.le_of_ble_eq_true rfl) rfl ?_
  intro p e s m args below meth c1 A Q H locs hx hb hml hown hmn hts hK hN hZ hXX hP hD hA hS hend ls hl
  have hown : s.vm.findClass RX10 = some m.cls := hown
  have hi_10 : ∀ w ∈ u_ws RX10 TX10 17, w ∈ wsX10_mayDraw := fun w h => (fun w h => List.mem_cons_of_mem _ (List.mem_append_right _ (h))) w h
  unfold w_X10_mayDraw at hm
  refine lv_aload_n hx hb dX10_mayDraw_0 rfl (lv_at hl 0 rfl) ?_
  obtain ⟨wq1, fs1, g1, hq1, hv1, hm⟩ := hm
  refine mr_get (ci := 10) (C := RX10) (T := TX10) (N := 17) hx hb hts hi_10 hown hK (mRd hK hP hZ hS) hq1 rfl 7 (by decide) (hts (.fieldLink RX10 56 "HubTrainsLaw$Table" "isOver" "Z") ((List.mem_of_getElem? (i := 1) rfl))) (fun _ h9 => h9) hv1 dX10_mayDraw_1 ?_
  refine lv_if_ne (tgt := 33) hx hb dX10_mayDraw_4 (by decide) (fun c_4 => ?_) (fun c_4 => ?_)
  · have hm := hm.2 c_4
    refine lv_iconst (v := 0) hx hb dX10_mayDraw_33 (by decide) ?_
    obtain ⟨hz, hm⟩ := hm
    exact hend H locs ls 34 _ _ (0 : Int32) h (Nat.le_refl _) (Nat.le_refl _) (z01_n hz) hm hP hD hS dX10_mayDraw_34
  · have hm := hm.1 c_4
    refine lv_aload_n hx hb dX10_mayDraw_7 rfl (lv_at hl 0 rfl) ?_
    obtain ⟨wq8, fs8, g8, hq8, hv8, hm⟩ := hm
    refine mr_get (ci := 10) (C := RX10) (T := TX10) (N := 17) hx hb hts hi_10 hown hK (mRd hK hP hZ hS) hq8 rfl 5 (by decide) (hts (.fieldLink RX10 52 "HubTrainsLaw$Table" "drew" "Z") ((List.mem_of_getElem? (i := 2) rfl))) (fun _ h9 => h9) hv8 dX10_mayDraw_8 ?_
    refine lv_if_ne (tgt := 33) hx hb dX10_mayDraw_11 (by decide) (fun c_11 => ?_) (fun c_11 => ?_)
    · have hm := hm.2 c_11
      refine lv_iconst (v := 0) hx hb dX10_mayDraw_33 (by decide) ?_
      obtain ⟨hz, hm⟩ := hm
      exact hend H locs ls 34 _ _ (0 : Int32) h (Nat.le_refl _) (Nat.le_refl _) (z01_n hz) hm hP hD hS dX10_mayDraw_34
    · have hm := hm.1 c_11
      refine lv_aload_n hx hb dX10_mayDraw_14 rfl (lv_at hl 0 rfl) ?_
      obtain ⟨wq15, fs15, g15, hq15, hv15, hm⟩ := hm
      refine mr_get (ci := 10) (C := RX10) (T := TX10) (N := 17) hx hb hts hi_10 hown hK (mRd hK hP hZ hS) hq15 rfl 14 (by decide) (hts (.fieldLink RX10 41 "HubTrainsLaw$Table" "stock" "[I") ((List.mem_of_getElem? (i := 3) rfl))) (fun _ h9 => h9) hv15 dX10_mayDraw_15 ?_
      obtain ⟨wq18, xx18, hq18, hm⟩ := hm
      refine mr_alen hx hb hK (mRd hK hP hZ hS) 0 hq18 rfl dX10_mayDraw_18 (fun x18 ex18 => ?_)
      have hm := hm x18 ex18
      refine lv_if_le (tgt := 33) hx hb dX10_mayDraw_19 (by decide) (fun c_19 => ?_) (fun c_19 => ?_)
      · have hm := hm.1 c_19
        refine lv_iconst (v := 0) hx hb dX10_mayDraw_33 (by decide) ?_
        obtain ⟨hz, hm⟩ := hm
        exact hend H locs ls 34 _ _ (0 : Int32) h (Nat.le_refl _) (Nat.le_refl _) (z01_n hz) hm hP hD hS dX10_mayDraw_34
      · have hm := hm.2 c_19
        refine lv_aload_n hx hb dX10_mayDraw_22 rfl (lv_at hl 0 rfl) ?_
        obtain ⟨⟨wr23, fr23, hrq23⟩, hm⟩ := hm
        refine hcVi (As := []) (rest := []) ⟨hx, hb, hml, hown, hts⟩ (h_X10_plays l G K c h a0 _ hm) (cwV 0 hts gX10_mayDraw_X10_plays rfl rfl rfl (heV_X10_plays) ⟨Nat.le_of_ble_eq_true rfl, Nat.le_of_ble_eq_true rfl⟩) hK hN hZ hXX hP hD hS hA (mr_recv hK (mRd hK hP hZ hS) (ci := 10) rfl hrq23) rfl hl.1 rfl (Nat.le_of_ble_eq_true rfl) dX10_mayDraw_23 ⟨Nat.le_refl _, Nat.le_refl _⟩ (fun r23 h23 H locs hm hP hD hS => ?_)
        refine lv_if_ne (tgt := 33) hx hb dX10_mayDraw_26 (by decide) (fun c_26 => ?_) (fun c_26 => ?_)
        · have hm := hm.2 c_26
          refine lv_iconst (v := 0) hx hb dX10_mayDraw_33 (by decide) ?_
          obtain ⟨hz, hm⟩ := hm
          exact hend H locs ls 34 _ _ (0 : Int32) h23 (Nat.le_refl _) (Nat.le_refl _) (z01_n hz) hm hP hD hS dX10_mayDraw_34
        · have hm := hm.1 c_26
          refine lv_iconst (v := 1) hx hb dX10_mayDraw_29 (by decide) ?_
          refine lv_goto (tgt := 34) hx hb dX10_mayDraw_30 (by decide) ?_
          obtain ⟨hz, hm⟩ := hm
          exact hend H locs ls 34 _ _ (1 : Int32) h23 (Nat.le_refl _) (Nat.le_refl _) (z01_n hz) hm hP hD hS dX10_mayDraw_34

def w_X10_mayPass_J22 (c : Nat → ClassId) (K : (Nat → Nat) × (Nat → Nat)) (h : HW) (a0 : Nat) (post : Int32 → HW → Prop)  : Prop :=
  (∃ w fs, h a0 = some (w, .inr (10, fs))) ∧ w_X10_plays c K h a0 (fun (r23 : Int32) (h23 : HW) => (r23 = 0 → ((1 : Int32) = 0 ∨ (1 : Int32) = 1) ∧ post (1 : Int32) h23) ∧ (¬ r23 = 0 → ((0 : Int32) = 0 ∨ (0 : Int32) = 1) ∧ post (0 : Int32) h23))

def w_X10_mayPass (c : Nat → ClassId) (K : (Nat → Nat) × (Nat → Nat)) (h : HW) (a0 : Nat) (post : Int32 → HW → Prop) : Prop :=
  gI h a0 10 7 (fun (g1 : Int32) => (g1 = 0 → gI h a0 10 5 (fun (g8 : Int32) => (g8 = 0 → gR h a0 10 14 (fun (g15 : Nat) => lenA h (c 0) g15 (fun (x18 : Int32) => (x18 = 0 → w_X10_mayPass_J22 c K h a0 post) ∧ (¬ x18 = 0 → ((0 : Int32) = 0 ∨ (0 : Int32) = 1) ∧ post (0 : Int32) h)))) ∧ (¬ g8 = 0 → w_X10_mayPass_J22 c K h a0 post))) ∧ (¬ g1 = 0 → ((0 : Int32) = 0 ∨ (0 : Int32) = 1) ∧ post (0 : Int32) h))

abbrev rm_X10_mayPass : Room := { frames := 3, cells := 0, slots := 0, locals := 74 }
theorem he_X10_mayPass : yX10_mayPass.cls ≠ "java/lang/invoke/MethodHandle" ∧ yX10_mayPass.cls ≠ "java/lang/invoke/VarHandle" ∧ (parseMethodDescriptor yX10_mayPass.desc).map (fun d => d.parameters.length) = some 0 := by decide +kernel
theorem heV_X10_mayPass : yX10_mayPass.cls = RX10 ∧ yX10_mayPass.cls ≠ "java/lang/invoke/MethodHandle" ∧ yX10_mayPass.cls ≠ "java/lang/invoke/VarHandle" ∧ (parseMethodDescriptor yX10_mayPass.desc).map (fun d => d.parameters.length) = some 0 := by decide +kernel
set_option maxHeartbeats 4000000 in
set_option maxRecDepth 100000 in
theorem h_X10_mayPass (l : Launch) (G : va_G) (K : (Nat → Nat) × (Nat → Nat)) (c : Nat → ClassId) (h : HW) (a0 : Nat) (post : Int32 → HW → Prop) (hm : w_X10_mayPass c K h a0 post) : hMi l yX10_mayPass wsX10_mayPass (rm_X10_mayPass) G K (TY c) [.ref a0] h 0 0 post := by
  refine hMi.of (cc := cX10_mayPass) (maxL := 1) (lv := [(0, .ref a0)]) (by decide) rfl (Nat.le_of_ble_eq_true rfl) rfl ?_
  intro p e s m args below meth c1 A Q H locs hx hb hml hown hmn hts hK hN hZ hXX hP hD hA hS hend ls hl
  have hown : s.vm.findClass RX10 = some m.cls := hown
  have hi_10 : ∀ w ∈ u_ws RX10 TX10 17, w ∈ wsX10_mayPass := fun w h => (fun w h => List.mem_cons_of_mem _ (List.mem_append_right _ (h))) w h
  unfold w_X10_mayPass at hm
  refine lv_aload_n hx hb dX10_mayPass_0 rfl (lv_at hl 0 rfl) ?_
  obtain ⟨wq1, fs1, g1, hq1, hv1, hm⟩ := hm
  refine mr_get (ci := 10) (C := RX10) (T := TX10) (N := 17) hx hb hts hi_10 hown hK (mRd hK hP hZ hS) hq1 rfl 7 (by decide) (hts (.fieldLink RX10 56 "HubTrainsLaw$Table" "isOver" "Z") ((List.mem_of_getElem? (i := 1) rfl))) (fun _ h9 => h9) hv1 dX10_mayPass_1 ?_
  refine lv_if_ne (tgt := 33) hx hb dX10_mayPass_4 (by decide) (fun c_4 => ?_) (fun c_4 => ?_)
  · have hm := hm.2 c_4
    refine lv_iconst (v := 0) hx hb dX10_mayPass_33 (by decide) ?_
    obtain ⟨hz, hm⟩ := hm
    exact hend H locs ls 34 _ _ (0 : Int32) h (Nat.le_refl _) (Nat.le_refl _) (z01_n hz) hm hP hD hS dX10_mayPass_34
  · have hm := hm.1 c_4
    refine lv_aload_n hx hb dX10_mayPass_7 rfl (lv_at hl 0 rfl) ?_
    obtain ⟨wq8, fs8, g8, hq8, hv8, hm⟩ := hm
    refine mr_get (ci := 10) (C := RX10) (T := TX10) (N := 17) hx hb hts hi_10 hown hK (mRd hK hP hZ hS) hq8 rfl 5 (by decide) (hts (.fieldLink RX10 52 "HubTrainsLaw$Table" "drew" "Z") ((List.mem_of_getElem? (i := 2) rfl))) (fun _ h9 => h9) hv8 dX10_mayPass_8 ?_
    have J_22 : ∀  (H : Heap) (locs : List Loc) (ls : Array Slot), mP G K h H → mD A h → va_S A s.heap H locs → lv_has ls 1 [(0, .ref a0)] → w_X10_mayPass_J22 c K h a0 post → W p l e (rm_X10_mayPass) s m args below meth c1 H locs 0 0 Q (F0 m 22 ls []) := by
      intro  H locs ls hP hD hS hl hm
      unfold w_X10_mayPass_J22 at hm
      refine lv_aload_n hx hb dX10_mayPass_22 rfl (lv_at hl 0 rfl) ?_
      obtain ⟨⟨wr23, fr23, hrq23⟩, hm⟩ := hm
      refine hcVi (As := []) (rest := []) ⟨hx, hb, hml, hown, hts⟩ (h_X10_plays l G K c h a0 _ hm) (cwV 0 hts gX10_mayPass_X10_plays rfl rfl rfl (heV_X10_plays) ⟨Nat.le_of_ble_eq_true rfl, Nat.le_of_ble_eq_true rfl⟩) hK hN hZ hXX hP hD hS hA (mr_recv hK (mRd hK hP hZ hS) (ci := 10) rfl hrq23) rfl hl.1 rfl (Nat.le_of_ble_eq_true rfl) dX10_mayPass_23 ⟨Nat.le_refl _, Nat.le_refl _⟩ (fun r23 h23 H locs hm hP hD hS => ?_)
      refine lv_if_ne (tgt := 33) hx hb dX10_mayPass_26 (by decide) (fun c_26 => ?_) (fun c_26 => ?_)
      · have hm := hm.2 c_26
        refine lv_iconst (v := 0) hx hb dX10_mayPass_33 (by decide) ?_
        obtain ⟨hz, hm⟩ := hm
        exact hend H locs ls 34 _ _ (0 : Int32) h23 (Nat.le_refl _) (Nat.le_refl _) (z01_n hz) hm hP hD hS dX10_mayPass_34
      · have hm := hm.1 c_26
        refine lv_iconst (v := 1) hx hb dX10_mayPass_29 (by decide) ?_
        refine lv_goto (tgt := 34) hx hb dX10_mayPass_30 (by decide) ?_
        obtain ⟨hz, hm⟩ := hm
        exact hend H locs ls 34 _ _ (1 : Int32) h23 (Nat.le_refl _) (Nat.le_refl _) (z01_n hz) hm hP hD hS dX10_mayPass_34
    refine lv_if_ne (tgt := 22) hx hb dX10_mayPass_11 (by decide) (fun c_11 => ?_) (fun c_11 => ?_)
    · have hm := hm.2 c_11
      exact J_22  H locs ls hP hD hS (lv_sub hl [0] rfl) hm
    · have hm := hm.1 c_11
      refine lv_aload_n hx hb dX10_mayPass_14 rfl (lv_at hl 0 rfl) ?_
      obtain ⟨wq15, fs15, g15, hq15, hv15, hm⟩ := hm
      refine mr_get (ci := 10) (C := RX10) (T := TX10) (N := 17) hx hb hts hi_10 hown hK (mRd hK hP hZ hS) hq15 rfl 14 (by decide) (hts (.fieldLink RX10 41 "HubTrainsLaw$Table" "stock" "[I") ((List.mem_of_getElem? (i := 3) rfl))) (fun _ h9 => h9) hv15 dX10_mayPass_15 ?_
      obtain ⟨wq18, xx18, hq18, hm⟩ := hm
      refine mr_alen hx hb hK (mRd hK hP hZ hS) 0 hq18 rfl dX10_mayPass_18 (fun x18 ex18 => ?_)
      have hm := hm x18 ex18
      refine lv_if_ne (tgt := 33) hx hb dX10_mayPass_19 (by decide) (fun c_19 => ?_) (fun c_19 => ?_)
      · have hm := hm.2 c_19
        refine lv_iconst (v := 0) hx hb dX10_mayPass_33 (by decide) ?_
        obtain ⟨hz, hm⟩ := hm
        exact hend H locs ls 34 _ _ (0 : Int32) h (Nat.le_refl _) (Nat.le_refl _) (z01_n hz) hm hP hD hS dX10_mayPass_34
      · have hm := hm.1 c_19
        exact J_22  H locs ls hP hD hS (lv_sub hl [0] rfl) hm

def w_X10_rank_J74 (c : Nat → ClassId) (K : (Nat → Nat) × (Nat → Nat)) (a0 : Nat) (post : Int32 → HW → Prop) (x8 : Int32) (h54 : HW) (s0_74 : Int64) (s1_74 : Int32) (s2_74 : Nat) : Prop :=
  stL h54 (c 1) s2_74 s1_74 s0_74 (fun (h74 : HW) => gR h74 a0 10 16 (fun (g76 : Nat) => gR h74 a0 10 10 (fun (g81 : Nat) => gI h74 a0 10 4 (fun (g85 : Int32) => lR h74 (c 2) g81 g85 (fun (x88 : Nat) => lenA h74 (c 0) x88 (fun (x89 : Int32) => ∀ x91 : Int32, x91 = x89 - (1 : Int32) → (∀ x92 : Int64, x92 = x91.toInt64 → (stL h74 (c 1) g76 (4 : Int32) x92 (fun (h93 : HW) => gQ h93 a0 10 15 (fun (g95 : Option Nat) => (g95 = none → post x8 h93) ∧ (∀ b98 : Nat, g95 = some b98 → gQ h93 a0 10 15 (fun (g106 : Option Nat) => gR h93 a0 10 16 (fun (g110 : Nat) => dRf g106 (fun (b113_0 : Nat) => (∃ w fs, h93 b113_0 = some (w, .inr (8, fs))) ∧ w_X8_value c K 3 h93 b113_0 g110 (fun (r113 : Int64) (h113 : HW) => ∀ x116 : Int32, x116 = r113.toInt32 → (post x116 h113))))))))))))))))

def w_X10_rank_J54 (c : Nat → ClassId) (K : (Nat → Nat) × (Nat → Nat)) (a0 : Nat) (a2 : Int32) (post : Int32 → HW → Prop) (x8 : Int32) (h35 : HW) (s0_54 : Int64) (s1_54 : Int32) (s2_54 : Nat) : Prop :=
  stL h35 (c 1) s2_54 s1_54 s0_54 (fun (h54 : HW) => gR h54 a0 10 16 (fun (g56 : Nat) => gR h54 a0 10 10 (fun (g62 : Nat) => lenA h54 (c 2) g62 (fun (x65 : Int32) => (a2 = x65 → w_X10_rank_J74 c K a0 post x8 h54 (1 : Int64) (3 : Int32) g56) ∧ (¬ a2 = x65 → w_X10_rank_J74 c K a0 post x8 h54 (0 : Int64) (3 : Int32) g56)))))

def w_X10_rank_J35 (c : Nat → ClassId) (K : (Nat → Nat) × (Nat → Nat)) (a0 : Nat) (a2 : Int32) (post : Int32 → HW → Prop) (x8 : Int32) (h17 : HW) (s0_35 : Int64) (s1_35 : Int32) (s2_35 : Nat) : Prop :=
  stL h17 (c 1) s2_35 s1_35 s0_35 (fun (h35 : HW) => gR h35 a0 10 16 (fun (g37 : Nat) => gI h35 a0 10 4 (fun (g43 : Int32) => (a2 = g43 → w_X10_rank_J54 c K a0 a2 post x8 h35 (1 : Int64) (2 : Int32) g37) ∧ (¬ a2 = g43 → w_X10_rank_J54 c K a0 a2 post x8 h35 (0 : Int64) (2 : Int32) g37))))

def w_X10_rank (c : Nat → ClassId) (K : (Nat → Nat) × (Nat → Nat)) (h : HW) (a0 : Nat) (a1 : Int32) (a2 : Int32) (post : Int32 → HW → Prop) : Prop :=
  ∀ x3 : Int32, x3 = a1 / (10 : Int32) → (∀ x7 : Int32, x7 = a1 - a1 / (10 : Int32) * (10 : Int32) → (∀ x8 : Int32, x8 = x3 + x7 → (gR h a0 10 16 (fun (g11 : Nat) => ∀ x16 : Int64, x16 = x8.toInt64 → (stL h (c 1) g11 (0 : Int32) x16 (fun (h17 : HW) => gR h17 a0 10 16 (fun (g19 : Nat) => ∀ x26 : Int32, x26 = a1 - a1 / (11 : Int32) * (11 : Int32) → ((x26 = 0 → w_X10_rank_J35 c K a0 a2 post x8 h17 (1 : Int64) (1 : Int32) g19) ∧ (¬ x26 = 0 → w_X10_rank_J35 c K a0 a2 post x8 h17 (0 : Int64) (1 : Int32) g19)))))))))

abbrev rm_X10_rank : Room := { frames := 5, cells := 0, slots := 0, locals := 168 }
theorem he_X10_rank : yX10_rank.cls ≠ "java/lang/invoke/MethodHandle" ∧ yX10_rank.cls ≠ "java/lang/invoke/VarHandle" ∧ (parseMethodDescriptor yX10_rank.desc).map (fun d => d.parameters.length) = some 2 := by decide +kernel
theorem heV_X10_rank : yX10_rank.cls = RX10 ∧ yX10_rank.cls ≠ "java/lang/invoke/MethodHandle" ∧ yX10_rank.cls ≠ "java/lang/invoke/VarHandle" ∧ (parseMethodDescriptor yX10_rank.desc).map (fun d => d.parameters.length) = some 2 := by decide +kernel
set_option maxHeartbeats 4000000 in
set_option maxRecDepth 100000 in
theorem h_X10_rank (l : Launch) (G : va_G) (K : (Nat → Nat) × (Nat → Nat)) (c : Nat → ClassId) (h : HW) (a0 : Nat) (a1 : Int32) (a2 : Int32) (post : Int32 → HW → Prop) (hm : w_X10_rank c K h a0 a1 a2 post) : hMi l yX10_rank wsX10_rank (rm_X10_rank) G K (TY c) [.ref a0, .int a1, .int a2] h 0 0 post := by
  refine hMi.of (cc := cX10_rank) (maxL := 4) (lv := [(0, .ref a0), (1, .int a1), (2, .int a2)]) (by decide) rfl (Nat.le_of_ble_eq_true rfl) rfl ?_
  intro p e s m args below meth c1 A Q H locs hx hb hml hown hmn hts hK hN hZ hXX hP hD hA hS hend ls hl
  have hown : s.vm.findClass RX10 = some m.cls := hown
  have hi_10 : ∀ w ∈ u_ws RX10 TX10 17, w ∈ wsX10_rank := fun w h => (fun w h => List.mem_cons_of_mem _ (List.mem_append_left _ (List.mem_append_right _ (h)))) w h
  unfold w_X10_rank at hm
  refine lv_iload_n hx hb dX10_rank_0 rfl (lv_at hl 1 rfl) ?_
  refine lv_bipush (v := 10) hx hb dX10_rank_1 (by decide) ?_
  refine lv_idiv hx hb dX10_rank_3 (by decide) ?_
  refine lv_topi (fun x3 ex3 => ?_)
  have hm := hm x3 ex3
  refine lv_iload_n hx hb dX10_rank_4 rfl (lv_at hl 1 rfl) ?_
  refine lv_bipush (v := 10) hx hb dX10_rank_5 (by decide) ?_
  refine lv_irem hx hb dX10_rank_7 (by decide) ?_
  refine lv_topi (fun x7 ex7 => ?_)
  have hm := hm x7 ex7
  refine lv_iadd hx hb dX10_rank_8 ?_
  refine lv_topi (fun x8 ex8 => ?_)
  have hm := hm x8 ex8
  refine lv_istore_n (lv' := [(3, .int x8), (0, .ref a0), (1, .int a1), (2, .int a2)]) hx hb dX10_rank_9 rfl hl (by decide) rfl (fun ls hl => ?_)
  refine lv_aload_n hx hb dX10_rank_10 rfl (lv_at hl 1 rfl) ?_
  obtain ⟨wq11, fs11, g11, hq11, hv11, hm⟩ := hm
  refine mr_get (ci := 10) (C := RX10) (T := TX10) (N := 17) hx hb hts hi_10 hown hK (mRd hK hP hZ hS) hq11 rfl 16 (by decide) (hts (.fieldLink RX10 44 "HubTrainsLaw$Table" "variables" "[J") ((List.mem_of_getElem? (i := 1) rfl))) (fun _ h9 => h9) hv11 dX10_rank_11 ?_
  refine lv_iconst (v := 0) hx hb dX10_rank_14 (by decide) ?_
  refine lv_iload_n hx hb dX10_rank_15 rfl (lv_at hl 0 rfl) ?_
  refine lv_i2l hx hb dX10_rank_16 rfl ?_
  refine lv_topl (fun x16 ex16 => ?_)
  have hm := hm x16 ex16
  obtain ⟨n17, f17, hq17, hi17, hm⟩ := hm
  refine mr_last hx hb hK hP hD hS 1 hq17 rfl hi17 dX10_rank_17 (fun H locs hP hD hS => ?_)
  generalize hup h g11 (eL (c 1) n17 (vp_updL f17 (0 : Int32).toNatClampNeg x16)) = h17 at hm hP hD
  refine lv_aload_n hx hb dX10_rank_18 rfl (lv_at hl 1 rfl) ?_
  obtain ⟨wq19, fs19, g19, hq19, hv19, hm⟩ := hm
  refine mr_get (ci := 10) (C := RX10) (T := TX10) (N := 17) hx hb hts hi_10 hown hK (mRd hK hP hZ hS) hq19 rfl 16 (by decide) (hts (.fieldLink RX10 44 "HubTrainsLaw$Table" "variables" "[J") ((List.mem_of_getElem? (i := 1) rfl))) (fun _ h9 => h9) hv19 dX10_rank_19 ?_
  refine lv_iconst (v := 1) hx hb dX10_rank_22 (by decide) ?_
  refine lv_iload_n hx hb dX10_rank_23 rfl (lv_at hl 2 rfl) ?_
  refine lv_bipush (v := 11) hx hb dX10_rank_24 (by decide) ?_
  refine lv_irem hx hb dX10_rank_26 (by decide) ?_
  refine lv_topi (fun x26 ex26 => ?_)
  have hm := hm x26 ex26
  have J_35 : ∀ (s0_35 : Int64) (s1_35 : Int32) (s2_35 : Nat) (H : Heap) (locs : List Loc) (ls : Array Slot), mP G K h17 H → mD A h17 → va_S A s.heap H locs → lv_has ls 4 [(0, .ref a0), (2, .int a2), (3, .int x8)] → w_X10_rank_J35 c K a0 a2 post x8 h17 s0_35 s1_35 s2_35 → W p l e (rm_X10_rank) s m args below meth c1 H locs 0 0 Q (F0 m 35 ls [.long s0_35, .int s1_35, .ref s2_35]) := by
    intro s0_35 s1_35 s2_35 H locs ls hP hD hS hl hm
    unfold w_X10_rank_J35 at hm
    obtain ⟨n35, f35, hq35, hi35, hm⟩ := hm
    refine mr_last hx hb hK hP hD hS 1 hq35 rfl hi35 dX10_rank_35 (fun H locs hP hD hS => ?_)
    generalize hup h17 s2_35 (eL (c 1) n35 (vp_updL f35 s1_35.toNatClampNeg s0_35)) = h35 at hm hP hD
    refine lv_aload_n hx hb dX10_rank_36 rfl (lv_at hl 0 rfl) ?_
    obtain ⟨wq37, fs37, g37, hq37, hv37, hm⟩ := hm
    refine mr_get (ci := 10) (C := RX10) (T := TX10) (N := 17) hx hb hts hi_10 hown hK (mRd hK hP hZ hS) hq37 rfl 16 (by decide) (hts (.fieldLink RX10 44 "HubTrainsLaw$Table" "variables" "[J") ((List.mem_of_getElem? (i := 1) rfl))) (fun _ h9 => h9) hv37 dX10_rank_37 ?_
    refine lv_iconst (v := 2) hx hb dX10_rank_40 (by decide) ?_
    refine lv_iload_n hx hb dX10_rank_41 rfl (lv_at hl 1 rfl) ?_
    refine lv_aload_n hx hb dX10_rank_42 rfl (lv_at hl 0 rfl) ?_
    obtain ⟨wq43, fs43, g43, hq43, hv43, hm⟩ := hm
    refine mr_get (ci := 10) (C := RX10) (T := TX10) (N := 17) hx hb hts hi_10 hown hK (mRd hK hP hZ hS) hq43 rfl 4 (by decide) (hts (.fieldLink RX10 49 "HubTrainsLaw$Table" "turn" "I") ((List.mem_of_getElem? (i := 2) rfl))) (fun _ h9 => h9) hv43 dX10_rank_43 ?_
    have J_54 : ∀ (s0_54 : Int64) (s1_54 : Int32) (s2_54 : Nat) (H : Heap) (locs : List Loc) (ls : Array Slot), mP G K h35 H → mD A h35 → va_S A s.heap H locs → lv_has ls 4 [(0, .ref a0), (2, .int a2), (3, .int x8)] → w_X10_rank_J54 c K a0 a2 post x8 h35 s0_54 s1_54 s2_54 → W p l e (rm_X10_rank) s m args below meth c1 H locs 0 0 Q (F0 m 54 ls [.long s0_54, .int s1_54, .ref s2_54]) := by
      intro s0_54 s1_54 s2_54 H locs ls hP hD hS hl hm
      unfold w_X10_rank_J54 at hm
      obtain ⟨n54, f54, hq54, hi54, hm⟩ := hm
      refine mr_last hx hb hK hP hD hS 1 hq54 rfl hi54 dX10_rank_54 (fun H locs hP hD hS => ?_)
      generalize hup h35 s2_54 (eL (c 1) n54 (vp_updL f54 s1_54.toNatClampNeg s0_54)) = h54 at hm hP hD
      refine lv_aload_n hx hb dX10_rank_55 rfl (lv_at hl 0 rfl) ?_
      obtain ⟨wq56, fs56, g56, hq56, hv56, hm⟩ := hm
      refine mr_get (ci := 10) (C := RX10) (T := TX10) (N := 17) hx hb hts hi_10 hown hK (mRd hK hP hZ hS) hq56 rfl 16 (by decide) (hts (.fieldLink RX10 44 "HubTrainsLaw$Table" "variables" "[J") ((List.mem_of_getElem? (i := 1) rfl))) (fun _ h9 => h9) hv56 dX10_rank_56 ?_
      refine lv_iconst (v := 3) hx hb dX10_rank_59 (by decide) ?_
      refine lv_iload_n hx hb dX10_rank_60 rfl (lv_at hl 1 rfl) ?_
      refine lv_aload_n hx hb dX10_rank_61 rfl (lv_at hl 0 rfl) ?_
      obtain ⟨wq62, fs62, g62, hq62, hv62, hm⟩ := hm
      refine mr_get (ci := 10) (C := RX10) (T := TX10) (N := 17) hx hb hts hi_10 hown hK (mRd hK hP hZ hS) hq62 rfl 10 (by decide) (hts (.fieldLink RX10 27 "HubTrainsLaw$Table" "hands" "[[I") ((List.mem_of_getElem? (i := 3) rfl))) (fun _ h9 => h9) hv62 dX10_rank_62 ?_
      obtain ⟨wq65, xx65, hq65, hm⟩ := hm
      refine mr_alen hx hb hK (mRd hK hP hZ hS) 2 hq65 rfl dX10_rank_65 (fun x65 ex65 => ?_)
      have hm := hm x65 ex65
      have J_74 : ∀ (s0_74 : Int64) (s1_74 : Int32) (s2_74 : Nat) (H : Heap) (locs : List Loc) (ls : Array Slot), mP G K h54 H → mD A h54 → va_S A s.heap H locs → lv_has ls 4 [(0, .ref a0), (3, .int x8)] → w_X10_rank_J74 c K a0 post x8 h54 s0_74 s1_74 s2_74 → W p l e (rm_X10_rank) s m args below meth c1 H locs 0 0 Q (F0 m 74 ls [.long s0_74, .int s1_74, .ref s2_74]) := by
        intro s0_74 s1_74 s2_74 H locs ls hP hD hS hl hm
        unfold w_X10_rank_J74 at hm
        obtain ⟨n74, f74, hq74, hi74, hm⟩ := hm
        refine mr_last hx hb hK hP hD hS 1 hq74 rfl hi74 dX10_rank_74 (fun H locs hP hD hS => ?_)
        generalize hup h54 s2_74 (eL (c 1) n74 (vp_updL f74 s1_74.toNatClampNeg s0_74)) = h74 at hm hP hD
        refine lv_aload_n hx hb dX10_rank_75 rfl (lv_at hl 0 rfl) ?_
        obtain ⟨wq76, fs76, g76, hq76, hv76, hm⟩ := hm
        refine mr_get (ci := 10) (C := RX10) (T := TX10) (N := 17) hx hb hts hi_10 hown hK (mRd hK hP hZ hS) hq76 rfl 16 (by decide) (hts (.fieldLink RX10 44 "HubTrainsLaw$Table" "variables" "[J") ((List.mem_of_getElem? (i := 1) rfl))) (fun _ h9 => h9) hv76 dX10_rank_76 ?_
        refine lv_iconst (v := 4) hx hb dX10_rank_79 (by decide) ?_
        refine lv_aload_n hx hb dX10_rank_80 rfl (lv_at hl 0 rfl) ?_
        obtain ⟨wq81, fs81, g81, hq81, hv81, hm⟩ := hm
        refine mr_get (ci := 10) (C := RX10) (T := TX10) (N := 17) hx hb hts hi_10 hown hK (mRd hK hP hZ hS) hq81 rfl 10 (by decide) (hts (.fieldLink RX10 27 "HubTrainsLaw$Table" "hands" "[[I") ((List.mem_of_getElem? (i := 3) rfl))) (fun _ h9 => h9) hv81 dX10_rank_81 ?_
        refine lv_aload_n hx hb dX10_rank_84 rfl (lv_at hl 0 rfl) ?_
        obtain ⟨wq85, fs85, g85, hq85, hv85, hm⟩ := hm
        refine mr_get (ci := 10) (C := RX10) (T := TX10) (N := 17) hx hb hts hi_10 hown hK (mRd hK hP hZ hS) hq85 rfl 4 (by decide) (hts (.fieldLink RX10 49 "HubTrainsLaw$Table" "turn" "I") ((List.mem_of_getElem? (i := 2) rfl))) (fun _ h9 => h9) hv85 dX10_rank_85 ?_
        obtain ⟨wq88, n88, f88, x88, hq88, hi88, hv88, hm⟩ := hm
        refine mr_aldq (ty := (.array .int)) hx hb hK (mRd hK hP hZ hS) 2 rfl hq88 rfl hi88 dX10_rank_88 (fun o88 eo88 => ?_)
        obtain rfl := eo88.trans hv88
        obtain ⟨wq89, xx89, hq89, hm⟩ := hm
        refine mr_alen hx hb hK (mRd hK hP hZ hS) 0 hq89 rfl dX10_rank_89 (fun x89 ex89 => ?_)
        have hm := hm x89 ex89
        refine lv_iconst (v := 1) hx hb dX10_rank_90 (by decide) ?_
        refine lv_isub hx hb dX10_rank_91 ?_
        refine lv_topi (fun x91 ex91 => ?_)
        have hm := hm x91 ex91
        refine lv_i2l hx hb dX10_rank_92 rfl ?_
        refine lv_topl (fun x92 ex92 => ?_)
        have hm := hm x92 ex92
        obtain ⟨n93, f93, hq93, hi93, hm⟩ := hm
        refine mr_last hx hb hK hP hD hS 1 hq93 rfl hi93 dX10_rank_93 (fun H locs hP hD hS => ?_)
        generalize hup h74 g76 (eL (c 1) n93 (vp_updL f93 (4 : Int32).toNatClampNeg x92)) = h93 at hm hP hD
        refine lv_aload_n hx hb dX10_rank_94 rfl (lv_at hl 0 rfl) ?_
        obtain ⟨wq95, fs95, g95, hq95, hv95, hm⟩ := hm
        refine mr_get (ci := 10) (C := RX10) (T := TX10) (N := 17) hx hb hts hi_10 hown hK (mRd hK hP hZ hS) hq95 rfl 15 (by decide) (hts (.fieldLink RX10 73 "HubTrainsLaw$Table" "term" "LHubTrainsLaw$Node;") ((List.mem_of_getElem? (i := 4) rfl))) (fun _ h9 => h9) hv95 dX10_rank_95 ?_
        rcases g95 with _ | b98
        · have hm := hm.1 rfl
          refine lv_ifnonnullN hx hb dX10_rank_98 ?_
          refine lv_iload_n hx hb dX10_rank_101 rfl (lv_at hl 1 rfl) ?_
          refine lv_goto (tgt := 117) hx hb dX10_rank_102 (by decide) ?_
          exact hend H locs ls 117 _ _ x8 h93 (Nat.le_refl _) (Nat.le_refl _) rfl hm hP hD hS dX10_rank_117
        · have hm := hm.2 b98 rfl
          refine lv_ifnonnull (tgt := 105) hx hb dX10_rank_98 (by decide) ?_
          refine lv_aload_n hx hb dX10_rank_105 rfl (lv_at hl 0 rfl) ?_
          obtain ⟨wq106, fs106, g106, hq106, hv106, hm⟩ := hm
          refine mr_get (ci := 10) (C := RX10) (T := TX10) (N := 17) hx hb hts hi_10 hown hK (mRd hK hP hZ hS) hq106 rfl 15 (by decide) (hts (.fieldLink RX10 73 "HubTrainsLaw$Table" "term" "LHubTrainsLaw$Node;") ((List.mem_of_getElem? (i := 4) rfl))) (fun _ h9 => h9) hv106 dX10_rank_106 ?_
          refine lv_aload_n hx hb dX10_rank_109 rfl (lv_at hl 0 rfl) ?_
          obtain ⟨wq110, fs110, g110, hq110, hv110, hm⟩ := hm
          refine mr_get (ci := 10) (C := RX10) (T := TX10) (N := 17) hx hb hts hi_10 hown hK (mRd hK hP hZ hS) hq110 rfl 16 (by decide) (hts (.fieldLink RX10 44 "HubTrainsLaw$Table" "variables" "[J") ((List.mem_of_getElem? (i := 1) rfl))) (fun _ h9 => h9) hv110 dX10_rank_110 ?_
          obtain ⟨b113_0, rfl, hm⟩ := hm
          obtain ⟨⟨wr113, fr113, hrq113⟩, hm⟩ := hm
          refine hcVl (As := [.ref g110]) (rest := []) ⟨hx, hb, hml, hown, hts⟩ (h_X8_value l G K c 3 h93 b113_0 g110 _ hm) (cwV 1 hts gX10_rank_X8_value rfl rfl rfl (heV_X8_value) ⟨Nat.le_of_ble_eq_true rfl, Nat.le_of_ble_eq_true rfl⟩) hK hN hZ hXX hP hD hS hA (mr_recv hK (mRd hK hP hZ hS) (ci := 8) rfl hrq113) rfl hl.1 rfl (Nat.le_of_ble_eq_true rfl) dX10_rank_113 ⟨Nat.le_refl _, Nat.le_refl _⟩ (fun r113 h113 H locs hm hP hD hS => ?_)
          refine lv_l2i hx hb dX10_rank_116 rfl ?_
          refine lv_topi (fun x116 ex116 => ?_)
          have hm := hm x116 ex116
          exact hend H locs ls 117 _ _ x116 h113 (Nat.le_refl _) (Nat.le_refl _) rfl hm hP hD hS dX10_rank_117
      refine lv_icmp_ne (tgt := 73) hx hb dX10_rank_66 (by decide) (fun c_66 => ?_) (fun c_66 => ?_)
      · have hm := hm.2 c_66
        refine lv_lconst (v := 0) hx hb dX10_rank_73 (by decide) ?_
        exact J_74 (0 : Int64) (3 : Int32) g56 H locs ls hP hD hS (lv_sub hl [0, 2] rfl) hm
      · have hm := hm.1 c_66
        refine lv_lconst (v := 1) hx hb dX10_rank_69 (by decide) ?_
        refine lv_goto (tgt := 74) hx hb dX10_rank_70 (by decide) ?_
        exact J_74 (1 : Int64) (3 : Int32) g56 H locs ls hP hD hS (lv_sub hl [0, 2] rfl) hm
    refine lv_icmp_ne (tgt := 53) hx hb dX10_rank_46 (by decide) (fun c_46 => ?_) (fun c_46 => ?_)
    · have hm := hm.2 c_46
      refine lv_lconst (v := 0) hx hb dX10_rank_53 (by decide) ?_
      exact J_54 (0 : Int64) (2 : Int32) g37 H locs ls hP hD hS (lv_sub hl [0, 1, 2] rfl) hm
    · have hm := hm.1 c_46
      refine lv_lconst (v := 1) hx hb dX10_rank_49 (by decide) ?_
      refine lv_goto (tgt := 54) hx hb dX10_rank_50 (by decide) ?_
      exact J_54 (1 : Int64) (2 : Int32) g37 H locs ls hP hD hS (lv_sub hl [0, 1, 2] rfl) hm
  refine lv_if_ne (tgt := 34) hx hb dX10_rank_27 (by decide) (fun c_27 => ?_) (fun c_27 => ?_)
  · have hm := hm.2 c_27
    refine lv_lconst (v := 0) hx hb dX10_rank_34 (by decide) ?_
    exact J_35 (0 : Int64) (1 : Int32) g19 H locs ls hP hD hS (lv_sub hl [1, 3, 0] rfl) hm
  · have hm := hm.1 c_27
    refine lv_lconst (v := 1) hx hb dX10_rank_30 (by decide) ?_
    refine lv_goto (tgt := 35) hx hb dX10_rank_31 (by decide) ?_
    exact J_35 (1 : Int64) (1 : Int32) g19 H locs ls hP hD hS (lv_sub hl [1, 3, 0] rfl) hm

def w_X10_best_J119 (c : Nat → ClassId) (K : (Nat → Nat) × (Nat → Nat)) (rec_33 : HW → Int32 → Int32 → Prop) (v6_33 : Int32) (h_119 : HW) (v1_119 : Int32) : Prop :=
  ∀ x119 : Int32, x119 = (v6_33 + 1) → (rec_33 h_119 v1_119 x119)

def w_X10_best_J110 (c : Nat → ClassId) (K : (Nat → Nat) × (Nat → Nat)) (x27 : Int32) (rec_33 : HW → Int32 → Int32 → Prop) (v6_33 : Int32) (h_86 : HW)  : Prop :=
  ∀ x114 : Int32, x114 = (10 : Int32) * x27 → (∀ x117 : Int32, x117 = x114 + v6_33 → (w_X10_best_J119 c K rec_33 v6_33 h_86 x117))

def w_X10_best_J86 (c : Nat → ClassId) (K : (Nat → Nat) × (Nat → Nat)) (x27 : Int32) (rec_33 : HW → Int32 → Int32 → Prop) (v1_33 : Int32) (v6_33 : Int32) (h_86 : HW) (s0_86 : Int32) : Prop :=
  (0 < s0_86 → w_X10_best_J110 c K x27 rec_33 v6_33 h_86) ∧ (¬ 0 < s0_86 → (s0_86 = 0 → ∀ x102 : Int32, x102 = (10 : Int32) * x27 → (∀ x105 : Int32, x105 = x102 + v6_33 → ((v1_33 ≤ x105 → w_X10_best_J119 c K rec_33 v6_33 h_86 v1_33) ∧ (¬ v1_33 ≤ x105 → w_X10_best_J110 c K x27 rec_33 v6_33 h_86)))) ∧ (¬ s0_86 = 0 → w_X10_best_J119 c K rec_33 v6_33 h_86 v1_33))

def w_X10_best_B33 (c : Nat → ClassId) (K : (Nat → Nat) × (Nat → Nat)) (a0 : Nat) (rec_18 : HW → Int32 → Int32 → Prop) (v4_18 : Int32) (x27 : Int32) (rec_33 : HW → Int32 → Int32 → Prop) (h_33 : HW) (v1_33 : Int32) (v6_33 : Int32) : Prop :=
  gR h_33 a0 10 12 (fun (g36 : Nat) => lenA h_33 (c 2) g36 (fun (x39 : Int32) => (x39 ≤ v6_33 → ∀ x125 : Int32, x125 = (v4_18 + 1) → (rec_18 h_33 v1_33 x125)) ∧ (¬ x39 ≤ v6_33 → (∃ w fs, h_33 a0 = some (w, .inr (10, fs))) ∧ w_X10_why c K h_33 a0 x27 v6_33 (fun (r48 : Int32) (h48 : HW) => (r48 = 0 → (0 ≤ v1_33 → (∃ w fs, h48 a0 = some (w, .inr (10, fs))) ∧ w_X10_rank c K h48 a0 x27 v6_33 (fun (r70 : Int32) (h70 : HW) => ∀ x77 : Int32, x77 = v1_33 / (10 : Int32) → (∀ x81 : Int32, x81 = v1_33 - v1_33 / (10 : Int32) * (10 : Int32) → ((∃ w fs, h70 a0 = some (w, .inr (10, fs))) ∧ w_X10_rank c K h70 a0 x77 x81 (fun (r82 : Int32) (h82 : HW) => ∀ x85 : Int32, x85 = r70 - r82 → (w_X10_best_J86 c K x27 rec_33 v1_33 v6_33 h82 x85)))))) ∧ (¬ 0 ≤ v1_33 → w_X10_best_J86 c K x27 rec_33 v1_33 v6_33 h48 (1 : Int32))) ∧ (¬ r48 = 0 → w_X10_best_J119 c K rec_33 v6_33 h48 v1_33)))))

def w_X10_best_B18 (c : Nat → ClassId) (K : (Nat → Nat) × (Nat → Nat)) (a0 : Nat) (post : Int32 → HW → Prop) (x10 : Nat) (x13 : Int32) (rec_18 : HW → Int32 → Int32 → Prop) (h_18 : HW) (v1_18 : Int32) (v4_18 : Int32) : Prop :=
  (x13 ≤ v4_18 → post v1_18 h_18) ∧ (¬ x13 ≤ v4_18 → lI h_18 (c 0) x10 v4_18 (fun (x27 : Int32) => ∃ n_33 : Nat, itP3 (w_X10_best_B33 c K a0 rec_18 v4_18 x27) n_33 h_18 v1_18 (0 : Int32)))

def w_X10_best (c : Nat → ClassId) (K : (Nat → Nat) × (Nat → Nat)) (h : HW) (a0 : Nat) (post : Int32 → HW → Prop) : Prop :=
  gR h a0 10 10 (fun (g3 : Nat) => gI h a0 10 4 (fun (g7 : Int32) => lR h (c 2) g3 g7 (fun (x10 : Nat) => lenA h (c 0) x10 (fun (x13 : Int32) => ∃ n_18 : Nat, itP3 (w_X10_best_B18 c K a0 post x10 x13) n_18 h (-1 : Int32) (0 : Int32)))))

abbrev rm_X10_best : Room := { frames := 6, cells := 0, slots := 0, locals := 191 }
theorem he_X10_best : yX10_best.cls ≠ "java/lang/invoke/MethodHandle" ∧ yX10_best.cls ≠ "java/lang/invoke/VarHandle" ∧ (parseMethodDescriptor yX10_best.desc).map (fun d => d.parameters.length) = some 0 := by decide +kernel
theorem heV_X10_best : yX10_best.cls = RX10 ∧ yX10_best.cls ≠ "java/lang/invoke/MethodHandle" ∧ yX10_best.cls ≠ "java/lang/invoke/VarHandle" ∧ (parseMethodDescriptor yX10_best.desc).map (fun d => d.parameters.length) = some 0 := by decide +kernel
set_option maxHeartbeats 4000000 in
set_option maxRecDepth 100000 in
theorem h_X10_best (l : Launch) (G : va_G) (K : (Nat → Nat) × (Nat → Nat)) (c : Nat → ClassId) (h : HW) (a0 : Nat) (post : Int32 → HW → Prop) (hm : w_X10_best c K h a0 post) : hMi l yX10_best wsX10_best (rm_X10_best) G K (TY c) [.ref a0] h 0 0 post := by
  refine hMi.of (cc := cX10_best) (maxL := 8) (lv := [(0, .ref a0)]) (by decide) rfl (Nat.le_of_ble_eq_true rfl) rfl ?_
  intro p e s m args below meth c1 A Q H locs hx hb hml hown hmn hts hK hN hZ hXX hP hD hA hS hend ls hl
  have hown : s.vm.findClass RX10 = some m.cls := hown
  have hi_10 : ∀ w ∈ u_ws RX10 TX10 17, w ∈ wsX10_best := fun w h => (fun w h => List.mem_cons_of_mem _ (List.mem_append_left _ (List.mem_append_right _ (h)))) w h
  unfold w_X10_best at hm
  refine lv_iconst (v := (-1)) hx hb dX10_best_0 (by decide) ?_
  refine lv_istore_n (lv' := [(1, .int (-1 : Int32)), (0, .ref a0)]) hx hb dX10_best_1 rfl hl (by decide) rfl (fun ls hl => ?_)
  refine lv_aload_n hx hb dX10_best_2 rfl (lv_at hl 1 rfl) ?_
  obtain ⟨wq3, fs3, g3, hq3, hv3, hm⟩ := hm
  refine mr_get (ci := 10) (C := RX10) (T := TX10) (N := 17) hx hb hts hi_10 hown hK (mRd hK hP hZ hS) hq3 rfl 10 (by decide) (hts (.fieldLink RX10 27 "HubTrainsLaw$Table" "hands" "[[I") ((List.mem_of_getElem? (i := 1) rfl))) (fun _ h9 => h9) hv3 dX10_best_3 ?_
  refine lv_aload_n hx hb dX10_best_6 rfl (lv_at hl 1 rfl) ?_
  obtain ⟨wq7, fs7, g7, hq7, hv7, hm⟩ := hm
  refine mr_get (ci := 10) (C := RX10) (T := TX10) (N := 17) hx hb hts hi_10 hown hK (mRd hK hP hZ hS) hq7 rfl 4 (by decide) (hts (.fieldLink RX10 49 "HubTrainsLaw$Table" "turn" "I") ((List.mem_of_getElem? (i := 2) rfl))) (fun _ h9 => h9) hv7 dX10_best_7 ?_
  obtain ⟨wq10, n10, f10, x10, hq10, hi10, hv10, hm⟩ := hm
  refine mr_aldq (ty := (.array .int)) hx hb hK (mRd hK hP hZ hS) 2 rfl hq10 rfl hi10 dX10_best_10 (fun o10 eo10 => ?_)
  obtain rfl := eo10.trans hv10
  refine lv_astore_n (lv' := [(2, .ref x10), (1, .int (-1 : Int32)), (0, .ref a0)]) hx hb dX10_best_11 rfl hl (by decide) rfl (fun ls hl => ?_)
  refine lv_aload_n hx hb dX10_best_12 rfl (lv_at hl 0 rfl) ?_
  obtain ⟨wq13, xx13, hq13, hm⟩ := hm
  refine mr_alen hx hb hK (mRd hK hP hZ hS) 0 hq13 rfl dX10_best_13 (fun x13 ex13 => ?_)
  have hm := hm x13 ex13
  refine lv_istore_n (lv' := [(3, .int x13), (2, .ref x10), (1, .int (-1 : Int32)), (0, .ref a0)]) hx hb dX10_best_14 rfl hl (by decide) rfl (fun ls hl => ?_)
  refine lv_iconst (v := 0) hx hb dX10_best_15 (by decide) ?_
  refine lv_istore (lv' := [(4, .int (0 : Int32)), (3, .int x13), (2, .ref x10), (1, .int (-1 : Int32)), (0, .ref a0)]) hx hb dX10_best_16 hl (by decide) rfl (fun ls hl => ?_)
  obtain ⟨n_18, hm⟩ := hm
  have L_18 : ∀ (n_18 : Nat) (h_18 : HW) (v1_18 : Int32) (v4_18 : Int32) (H : Heap) (locs : List Loc) (ls : Array Slot), mP G K h_18 H → mD A h_18 → va_S A s.heap H locs → lv_has ls 8 [(0, .ref a0), (1, .int v1_18), (2, .ref x10), (3, .int x13), (4, .int v4_18)] → itP3 (w_X10_best_B18 c K a0 post x10 x13) n_18 h_18 v1_18 v4_18 → W p l e (rm_X10_best) s m args below meth c1 H locs 0 0 Q (F0 m 18 ls []) := by
    intro n_18
    induction n_18 with
    | zero => intro h_18 v1_18 v4_18 H locs ls hP hD hS hl hm; exact hm.elim
    | succ n_18 ih_18 =>
      intro h_18 v1_18 v4_18 H locs ls hP hD hS hl hm
      have hm : (w_X10_best_B18 c K a0 post x10 x13) (itP3 (w_X10_best_B18 c K a0 post x10 x13) n_18) h_18 v1_18 v4_18 := hm
      generalize itP3 (w_X10_best_B18 c K a0 post x10 x13) n_18 = rec_18 at hm ih_18
      unfold w_X10_best_B18 at hm
      refine lv_iload hx hb dX10_best_18 (lv_at hl 4 rfl) ?_
      refine lv_iload_n hx hb dX10_best_20 rfl (lv_at hl 3 rfl) ?_
      refine lv_icmp_ge (tgt := 131) hx hb dX10_best_21 (by decide) (fun c_21 => ?_) (fun c_21 => ?_)
      · have hm := hm.1 c_21
        refine lv_iload_n hx hb dX10_best_131 rfl (lv_at hl 1 rfl) ?_
        exact hend H locs ls 132 _ _ v1_18 h_18 (Nat.le_refl _) (Nat.le_refl _) rfl hm hP hD hS dX10_best_132
      · have hm := hm.2 c_21
        refine lv_aload_n hx hb dX10_best_24 rfl (lv_at hl 2 rfl) ?_
        refine lv_iload hx hb dX10_best_25 (lv_at hl 4 rfl) ?_
        obtain ⟨wq27, n27, f27, hq27, hi27, hm⟩ := hm
        refine mr_iald hx hb hK (mRd hK hP hZ hS) 0 hq27 rfl hi27 dX10_best_27 (fun x27 ex27 => ?_)
        have hm := hm x27 ex27
        refine lv_istore (lv' := [(5, .int x27), (0, .ref a0), (1, .int v1_18), (2, .ref x10), (3, .int x13), (4, .int v4_18)]) hx hb dX10_best_28 hl (by decide) rfl (fun ls hl => ?_)
        refine lv_iconst (v := 0) hx hb dX10_best_30 (by decide) ?_
        refine lv_istore (lv' := [(6, .int (0 : Int32)), (5, .int x27), (0, .ref a0), (1, .int v1_18), (2, .ref x10), (3, .int x13), (4, .int v4_18)]) hx hb dX10_best_31 hl (by decide) rfl (fun ls hl => ?_)
        obtain ⟨n_33, hm⟩ := hm
        have L_33 : ∀ (n_33 : Nat) (h_33 : HW) (v1_33 : Int32) (v6_33 : Int32) (H : Heap) (locs : List Loc) (ls : Array Slot), mP G K h_33 H → mD A h_33 → va_S A s.heap H locs → lv_has ls 8 [(0, .ref a0), (1, .int v1_33), (2, .ref x10), (3, .int x13), (4, .int v4_18), (5, .int x27), (6, .int v6_33)] → itP3 (w_X10_best_B33 c K a0 rec_18 v4_18 x27) n_33 h_33 v1_33 v6_33 → W p l e (rm_X10_best) s m args below meth c1 H locs 0 0 Q (F0 m 33 ls []) := by
          intro n_33
          induction n_33 with
          | zero => intro h_33 v1_33 v6_33 H locs ls hP hD hS hl hm; exact hm.elim
          | succ n_33 ih_33 =>
            intro h_33 v1_33 v6_33 H locs ls hP hD hS hl hm
            have hm : (w_X10_best_B33 c K a0 rec_18 v4_18 x27) (itP3 (w_X10_best_B33 c K a0 rec_18 v4_18 x27) n_33) h_33 v1_33 v6_33 := hm
            generalize itP3 (w_X10_best_B33 c K a0 rec_18 v4_18 x27) n_33 = rec_33 at hm ih_33
            unfold w_X10_best_B33 at hm
            refine lv_iload hx hb dX10_best_33 (lv_at hl 6 rfl) ?_
            refine lv_aload_n hx hb dX10_best_35 rfl (lv_at hl 0 rfl) ?_
            obtain ⟨wq36, fs36, g36, hq36, hv36, hm⟩ := hm
            refine mr_get (ci := 10) (C := RX10) (T := TX10) (N := 17) hx hb hts hi_10 hown hK (mRd hK hP hZ hS) hq36 rfl 12 (by decide) (hts (.fieldLink RX10 34 "HubTrainsLaw$Table" "trains" "[[I") ((List.mem_of_getElem? (i := 3) rfl))) (fun _ h9 => h9) hv36 dX10_best_36 ?_
            obtain ⟨wq39, xx39, hq39, hm⟩ := hm
            refine mr_alen hx hb hK (mRd hK hP hZ hS) 2 hq39 rfl dX10_best_39 (fun x39 ex39 => ?_)
            have hm := hm x39 ex39
            refine lv_icmp_ge (tgt := 125) hx hb dX10_best_40 (by decide) (fun c_40 => ?_) (fun c_40 => ?_)
            · have hm := hm.1 c_40
              obtain ⟨x125, ex125⟩ : ∃ z : Int32, z = (v4_18 + 1) := ⟨_, rfl⟩
              have hm := hm x125 ex125
              refine lv_iinc (k := 4) (v := x125) (lv' := [(4, .int x125), (0, .ref a0), (1, .int v1_33), (2, .ref x10), (3, .int x13), (5, .int x27), (6, .int v6_33)]) hx hb dX10_best_125 hl rfl ex125.symm (by decide) rfl (fun ls hl => ?_)
              refine lv_goto (tgt := 18) hx hb dX10_best_128 (by decide) ?_
              exact ih_18 h_33 v1_33 x125 H locs ls hP hD hS (lv_sub hl [1, 2, 3, 4, 0] rfl) hm
            · have hm := hm.2 c_40
              refine lv_aload_n hx hb dX10_best_43 rfl (lv_at hl 0 rfl) ?_
              refine lv_iload hx hb dX10_best_44 (lv_at hl 5 rfl) ?_
              refine lv_iload hx hb dX10_best_46 (lv_at hl 6 rfl) ?_
              obtain ⟨⟨wr48, fr48, hrq48⟩, hm⟩ := hm
              refine hcVi (As := [.int x27, .int v6_33]) (rest := []) ⟨hx, hb, hml, hown, hts⟩ (h_X10_why l G K c h_33 a0 x27 v6_33 _ hm) (cwV 2 hts gX10_best_X10_why rfl rfl rfl (heV_X10_why) ⟨Nat.le_of_ble_eq_true rfl, Nat.le_of_ble_eq_true rfl⟩) hK hN hZ hXX hP hD hS hA (mr_recv hK (mRd hK hP hZ hS) (ci := 10) rfl hrq48) rfl hl.1 rfl (Nat.le_of_ble_eq_true rfl) dX10_best_48 ⟨Nat.le_refl _, Nat.le_refl _⟩ (fun r48 h48 H locs hm hP hD hS => ?_)
              have J_119 : ∀ (h_119 : HW) (v1_119 : Int32) (H : Heap) (locs : List Loc) (ls : Array Slot), mP G K h_119 H → mD A h_119 → va_S A s.heap H locs → lv_has ls 8 [(0, .ref a0), (1, .int v1_119), (2, .ref x10), (3, .int x13), (4, .int v4_18), (5, .int x27), (6, .int v6_33)] → w_X10_best_J119 c K rec_33 v6_33 h_119 v1_119 → W p l e (rm_X10_best) s m args below meth c1 H locs 0 0 Q (F0 m 119 ls []) := by
                intro h_119 v1_119 H locs ls hP hD hS hl hm
                unfold w_X10_best_J119 at hm
                obtain ⟨x119, ex119⟩ : ∃ z : Int32, z = (v6_33 + 1) := ⟨_, rfl⟩
                have hm := hm x119 ex119
                refine lv_iinc (k := 6) (v := x119) (lv' := [(6, .int x119), (0, .ref a0), (1, .int v1_119), (2, .ref x10), (3, .int x13), (4, .int v4_18), (5, .int x27)]) hx hb dX10_best_119 hl rfl ex119.symm (by decide) rfl (fun ls hl => ?_)
                refine lv_goto (tgt := 33) hx hb dX10_best_122 (by decide) ?_
                exact ih_33 h_119 v1_119 x119 H locs ls hP hD hS (lv_sub hl [1, 2, 3, 4, 5, 6, 0] rfl) hm
              refine lv_if_eq (tgt := 57) hx hb dX10_best_51 (by decide) (fun c_51 => ?_) (fun c_51 => ?_)
              · have hm := hm.1 c_51
                refine lv_iload_n hx hb dX10_best_57 rfl (lv_at hl 1 rfl) ?_
                have J_86 : ∀ (h_86 : HW) (s0_86 : Int32) (H : Heap) (locs : List Loc) (ls : Array Slot), mP G K h_86 H → mD A h_86 → va_S A s.heap H locs → lv_has ls 8 [(0, .ref a0), (1, .int v1_33), (2, .ref x10), (3, .int x13), (4, .int v4_18), (5, .int x27), (6, .int v6_33)] → w_X10_best_J86 c K x27 rec_33 v1_33 v6_33 h_86 s0_86 → W p l e (rm_X10_best) s m args below meth c1 H locs 0 0 Q (F0 m 86 ls [.int s0_86]) := by
                  intro h_86 s0_86 H locs ls hP hD hS hl hm
                  unfold w_X10_best_J86 at hm
                  refine lv_istore (lv' := [(7, .int s0_86), (0, .ref a0), (1, .int v1_33), (2, .ref x10), (3, .int x13), (4, .int v4_18), (5, .int x27), (6, .int v6_33)]) hx hb dX10_best_86 hl (by decide) rfl (fun ls hl => ?_)
                  refine lv_iload hx hb dX10_best_88 (lv_at hl 0 rfl) ?_
                  have J_110 : ∀  (H : Heap) (locs : List Loc) (ls : Array Slot), mP G K h_86 H → mD A h_86 → va_S A s.heap H locs → lv_has ls 8 [(0, .ref a0), (2, .ref x10), (3, .int x13), (4, .int v4_18), (5, .int x27), (6, .int v6_33)] → w_X10_best_J110 c K x27 rec_33 v6_33 h_86 → W p l e (rm_X10_best) s m args below meth c1 H locs 0 0 Q (F0 m 110 ls []) := by
                    intro  H locs ls hP hD hS hl hm
                    unfold w_X10_best_J110 at hm
                    refine lv_bipush (v := 10) hx hb dX10_best_110 (by decide) ?_
                    refine lv_iload hx hb dX10_best_112 (lv_at hl 4 rfl) ?_
                    refine lv_imul hx hb dX10_best_114 ?_
                    refine lv_topi (fun x114 ex114 => ?_)
                    have hm := hm x114 ex114
                    refine lv_iload hx hb dX10_best_115 (lv_at hl 5 rfl) ?_
                    refine lv_iadd hx hb dX10_best_117 ?_
                    refine lv_topi (fun x117 ex117 => ?_)
                    have hm := hm x117 ex117
                    refine lv_istore_n (lv' := [(1, .int x117), (0, .ref a0), (2, .ref x10), (3, .int x13), (4, .int v4_18), (5, .int x27), (6, .int v6_33)]) hx hb dX10_best_118 rfl hl (by decide) rfl (fun ls hl => ?_)
                    exact J_119 h_86 x117 H locs ls hP hD hS (lv_sub hl [1, 0, 2, 3, 4, 5, 6] rfl) hm
                  refine lv_if_gt (tgt := 110) hx hb dX10_best_90 (by decide) (fun c_90 => ?_) (fun c_90 => ?_)
                  · have hm := hm.1 c_90
                    exact J_110  H locs ls hP hD hS (lv_sub hl [1, 3, 4, 5, 6, 7] rfl) hm
                  · have hm := hm.2 c_90
                    refine lv_iload hx hb dX10_best_93 (lv_at hl 0 rfl) ?_
                    refine lv_if_ne (tgt := 119) hx hb dX10_best_95 (by decide) (fun c_95 => ?_) (fun c_95 => ?_)
                    · have hm := hm.2 c_95
                      exact J_119 h_86 v1_33 H locs ls hP hD hS (lv_sub hl [1, 2, 3, 4, 5, 6, 7] rfl) hm
                    · have hm := hm.1 c_95
                      refine lv_bipush (v := 10) hx hb dX10_best_98 (by decide) ?_
                      refine lv_iload hx hb dX10_best_100 (lv_at hl 6 rfl) ?_
                      refine lv_imul hx hb dX10_best_102 ?_
                      refine lv_topi (fun x102 ex102 => ?_)
                      have hm := hm x102 ex102
                      refine lv_iload hx hb dX10_best_103 (lv_at hl 7 rfl) ?_
                      refine lv_iadd hx hb dX10_best_105 ?_
                      refine lv_topi (fun x105 ex105 => ?_)
                      have hm := hm x105 ex105
                      refine lv_iload_n hx hb dX10_best_106 rfl (lv_at hl 2 rfl) ?_
                      refine lv_icmp_ge (tgt := 119) hx hb dX10_best_107 (by decide) (fun c_107 => ?_) (fun c_107 => ?_)
                      · have hm := hm.1 c_107
                        exact J_119 h_86 v1_33 H locs ls hP hD hS (lv_sub hl [1, 2, 3, 4, 5, 6, 7] rfl) hm
                      · have hm := hm.2 c_107
                        exact J_110  H locs ls hP hD hS (lv_sub hl [1, 3, 4, 5, 6, 7] rfl) hm
                refine lv_if_ge (tgt := 65) hx hb dX10_best_58 (by decide) (fun c_58 => ?_) (fun c_58 => ?_)
                · have hm := hm.1 c_58
                  refine lv_aload_n hx hb dX10_best_65 rfl (lv_at hl 0 rfl) ?_
                  refine lv_iload hx hb dX10_best_66 (lv_at hl 5 rfl) ?_
                  refine lv_iload hx hb dX10_best_68 (lv_at hl 6 rfl) ?_
                  obtain ⟨⟨wr70, fr70, hrq70⟩, hm⟩ := hm
                  refine hcVi (As := [.int x27, .int v6_33]) (rest := []) ⟨hx, hb, hml, hown, hts⟩ (h_X10_rank l G K c h48 a0 x27 v6_33 _ hm) (cwV 2 hts gX10_best_X10_rank rfl rfl rfl (heV_X10_rank) ⟨Nat.le_of_ble_eq_true rfl, Nat.le_of_ble_eq_true rfl⟩) hK hN hZ hXX hP hD hS hA (mr_recv hK (mRd hK hP hZ hS) (ci := 10) rfl hrq70) rfl hl.1 rfl (Nat.le_of_ble_eq_true rfl) dX10_best_70 ⟨Nat.le_refl _, Nat.le_refl _⟩ (fun r70 h70 H locs hm hP hD hS => ?_)
                  refine lv_aload_n hx hb dX10_best_73 rfl (lv_at hl 0 rfl) ?_
                  refine lv_iload_n hx hb dX10_best_74 rfl (lv_at hl 1 rfl) ?_
                  refine lv_bipush (v := 10) hx hb dX10_best_75 (by decide) ?_
                  refine lv_idiv hx hb dX10_best_77 (by decide) ?_
                  refine lv_topi (fun x77 ex77 => ?_)
                  have hm := hm x77 ex77
                  refine lv_iload_n hx hb dX10_best_78 rfl (lv_at hl 1 rfl) ?_
                  refine lv_bipush (v := 10) hx hb dX10_best_79 (by decide) ?_
                  refine lv_irem hx hb dX10_best_81 (by decide) ?_
                  refine lv_topi (fun x81 ex81 => ?_)
                  have hm := hm x81 ex81
                  obtain ⟨⟨wr82, fr82, hrq82⟩, hm⟩ := hm
                  refine hcVi (As := [.int x77, .int x81]) (rest := [.int r70]) ⟨hx, hb, hml, hown, hts⟩ (h_X10_rank l G K c h70 a0 x77 x81 _ hm) (cwV 2 hts gX10_best_X10_rank rfl rfl rfl (heV_X10_rank) ⟨Nat.le_of_ble_eq_true rfl, Nat.le_of_ble_eq_true rfl⟩) hK hN hZ hXX hP hD hS hA (mr_recv hK (mRd hK hP hZ hS) (ci := 10) rfl hrq82) rfl hl.1 rfl (Nat.le_of_ble_eq_true rfl) dX10_best_82 ⟨Nat.le_refl _, Nat.le_refl _⟩ (fun r82 h82 H locs hm hP hD hS => ?_)
                  refine lv_isub hx hb dX10_best_85 ?_
                  refine lv_topi (fun x85 ex85 => ?_)
                  have hm := hm x85 ex85
                  exact J_86 h82 x85 H locs ls hP hD hS (lv_sub hl [0, 1, 2, 3, 4, 5, 6] rfl) hm
                · have hm := hm.2 c_58
                  refine lv_iconst (v := 1) hx hb dX10_best_61 (by decide) ?_
                  refine lv_goto (tgt := 86) hx hb dX10_best_62 (by decide) ?_
                  exact J_86 h48 (1 : Int32) H locs ls hP hD hS (lv_sub hl [0, 1, 2, 3, 4, 5, 6] rfl) hm
              · have hm := hm.2 c_51
                refine lv_goto (tgt := 119) hx hb dX10_best_54 (by decide) ?_
                exact J_119 h48 v1_33 H locs ls hP hD hS (lv_sub hl [0, 1, 2, 3, 4, 5, 6] rfl) hm
        exact L_33 n_33 h_18 v1_18 (0 : Int32) H locs ls hP hD hS (lv_sub hl [2, 3, 4, 5, 6, 1, 0] rfl) hm
  exact L_18 n_18 h (-1 : Int32) (0 : Int32) H locs ls hP hD hS (lv_sub hl [4, 3, 2, 1, 0] rfl) hm

