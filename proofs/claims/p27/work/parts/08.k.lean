/-! walks of the law's own methods over maps -/
def w_L_agrees_J77 (c : Nat → ClassId) (K : (Nat → Nat) × (Nat → Nat)) (a0 : Nat) (a1 : Nat) (post : Int32 → HW → Prop) (h_42 : HW) (v2_42 : Int32) (mc_77 ms_77 : Nat) : Prop :=
  (v2_42 = 0 → ((0 : Int32) = 0 ∨ (0 : Int32) = 1) ∧ post (0 : Int32) h_42) ∧ (¬ v2_42 = 0 → gR h_42 a1 10 10 (fun (g83 : Nat) => lenA h_42 (c 2) g83 (fun (x86 : Int32) => (∃ m88 z88 mB88 zB88 : Nat, mc_77 = m88 + mB88 ∧ ms_77 = z88 + zB88 ∧ w_L_player c K h_42 a0 x86 (0 : Int32) m88 z88 (fun (r88 : Int32) (h88 : HW) => (r88 = (-2000000097 : Int32) → gR h88 a1 10 12 (fun (g98 : Nat) => lenA h88 (c 2) g98 (fun (x101 : Int32) => (∃ m103 z103 mB103 zB103 : Nat, mB88 = m103 + mB103 ∧ zB88 = z103 + zB103 ∧ w_L_train c K h88 a0 x101 (0 : Int32) m103 z103 (fun (r103 : Int32) (h103 : HW) => (r103 = (-2000000097 : Int32) → gR h103 a1 10 10 (fun (g114 : Nat) => lR h103 (c 2) g114 (0 : Int32) (fun (x118 : Nat) => lenA h103 (c 0) x118 (fun (x119 : Int32) => (∃ m120 z120 mB120 zB120 : Nat, mB103 = m120 + mB120 ∧ zB103 = z120 + zB120 ∧ w_L_tile c K h103 a0 (0 : Int32) x119 m120 z120 (fun (r120 : Int32) (h120 : HW) => (r120 = (-2000000100 : Int32) → ((1 : Int32) = 0 ∨ (1 : Int32) = 1) ∧ post (1 : Int32) h120) ∧ (¬ r120 = (-2000000100 : Int32) → ((0 : Int32) = 0 ∨ (0 : Int32) = 1) ∧ post (0 : Int32) h120))))))) ∧ (¬ r103 = (-2000000097 : Int32) → ((0 : Int32) = 0 ∨ (0 : Int32) = 1) ∧ post (0 : Int32) h103)))))) ∧ (¬ r88 = (-2000000097 : Int32) → ((0 : Int32) = 0 ∨ (0 : Int32) = 1) ∧ post (0 : Int32) h88))))))

def w_L_agrees_J70 (c : Nat → ClassId) (K : (Nat → Nat) × (Nat → Nat)) (rec_42 : HW → Nat → Nat → Int32 → Int32 → Prop) (v3_42 : Int32) (h59 : HW) (mc_70 ms_70 : Nat) (s0_70 : Int32) : Prop :=
  ∀ x71 : Int32, x71 = (v3_42 + 1) → (rec_42 h59 mc_70 ms_70 s0_70 x71)

def w_L_agrees_B42 (c : Nat → ClassId) (K : (Nat → Nat) × (Nat → Nat)) (a0 : Nat) (a1 : Nat) (post : Int32 → HW → Prop) (rec_42 : HW → Nat → Nat → Int32 → Int32 → Prop) (h_42 : HW) (mc_42 : Nat) (ms_42 : Nat) (v2_42 : Int32) (v3_42 : Int32) : Prop :=
  ((13 : Int32) ≤ v3_42 → w_L_agrees_J77 c K a0 a1 post h_42 v2_42 mc_42 ms_42) ∧ (¬ (13 : Int32) ≤ v3_42 → (v2_42 = 0 → w_L_agrees_J77 c K a0 a1 post h_42 v2_42 mc_42 ms_42) ∧ (¬ v2_42 = 0 → (∃ m54 z54 mB54 zB54 : Nat, mc_42 = m54 + mB54 ∧ ms_42 = z54 + zB54 ∧ w_L_state c K h_42 a0 v3_42 m54 z54 (fun (r54 : Int32) (h54 : HW) => (∃ w fs, h54 a1 = some (w, .inr (10, fs))) ∧ w_X10_told c K h54 a1 v3_42 (fun (r59 : Int32) (h59 : HW) => (r54 = r59 → w_L_agrees_J70 c K rec_42 v3_42 h59 mB54 zB54 (1 : Int32)) ∧ (¬ r54 = r59 → w_L_agrees_J70 c K rec_42 v3_42 h59 mB54 zB54 (0 : Int32)))))))

def w_L_agrees_J39 (c : Nat → ClassId) (K : (Nat → Nat) × (Nat → Nat)) (a0 : Nat) (a1 : Nat) (post : Int32 → HW → Prop) (h_39 : HW) (mc_39 ms_39 : Nat) (s0_39 : Int32) : Prop :=
  ∃ n_42 : Nat, itP5 (w_L_agrees_B42 c K a0 a1 post) n_42 h_39 mc_39 ms_39 s0_39 (0 : Int32)

def w_L_agrees_J38 (c : Nat → ClassId) (K : (Nat → Nat) × (Nat → Nat)) (a0 : Nat) (a1 : Nat) (post : Int32 → HW → Prop) (h_38 : HW) (mc_38 ms_38 : Nat) : Prop :=
  w_L_agrees_J39 c K a0 a1 post h_38 mc_38 ms_38 (0 : Int32)

def w_L_agrees (c : Nat → ClassId) (K : (Nat → Nat) × (Nat → Nat)) (h : HW) (a0 : Nat) (a1 : Nat) (mc ms : Nat) (post : Int32 → HW → Prop) : Prop :=
  (∃ w fs, h a0 = some (w, .inr (7, fs))) ∧ w_X7_checksum c K h a0 (fun (r1 : Int64) (h1 : HW) => (∃ w fs, h1 a1 = some (w, .inr (10, fs))) ∧ (∃ m5 z5 mB5 zB5 : Nat, mc = m5 + mB5 ∧ ms = z5 + zB5 ∧ w_X10_checksum c K h1 a1 m5 z5 (fun (r5 : Int64) (h5 : HW) => ∀ x8 : Int32, x8 = lg_cmp r1 r5 → ((x8 = 0 → (∃ w fs, h5 a0 = some (w, .inr (7, fs))) ∧ w_X7_best c K h5 a0 (fun (r13 : Int32) (h13 : HW) => (∃ w fs, h13 a1 = some (w, .inr (10, fs))) ∧ w_X10_best c K h13 a1 (fun (r17 : Int32) (h17 : HW) => (r13 = r17 → (∃ m26 z26 mB26 zB26 : Nat, mB5 = m26 + mB26 ∧ zB5 = z26 + zB26 ∧ w_L_state c K h17 a0 (13 : Int32) m26 z26 (fun (r26 : Int32) (h26 : HW) => (r26 = (-2000000098 : Int32) → w_L_agrees_J39 c K a0 a1 post h26 mB26 zB26 (1 : Int32)) ∧ (¬ r26 = (-2000000098 : Int32) → w_L_agrees_J38 c K a0 a1 post h26 mB26 zB26)))) ∧ (¬ r13 = r17 → w_L_agrees_J38 c K a0 a1 post h17 mB5 zB5)))) ∧ (¬ x8 = 0 → w_L_agrees_J38 c K a0 a1 post h5 mB5 zB5)))))

abbrev rm_L_agrees (mc ms : Nat) : Room := { frames := 9, cells := mc, slots := ms, locals := 218 }
theorem he_L_agrees : yL_agrees.cls ≠ "java/lang/invoke/MethodHandle" ∧ yL_agrees.cls ≠ "java/lang/invoke/VarHandle" ∧ (parseMethodDescriptor yL_agrees.desc).map (fun d => d.parameters.length) = some 2 := by decide +kernel
theorem heV_L_agrees : yL_agrees.cls = RL ∧ yL_agrees.cls ≠ "java/lang/invoke/MethodHandle" ∧ yL_agrees.cls ≠ "java/lang/invoke/VarHandle" ∧ (parseMethodDescriptor yL_agrees.desc).map (fun d => d.parameters.length) = some 2 := by decide +kernel
set_option maxHeartbeats 4000000 in
set_option maxRecDepth 100000 in
theorem h_L_agrees (l : Launch) (hl0 : l.stackTraces = false) (G : va_G) (K : (Nat → Nat) × (Nat → Nat)) (c : Nat → ClassId) (h : HW) (a0 : Nat) (a1 : Nat) (mc ms : Nat) (post : Int32 → HW → Prop) (hm : w_L_agrees c K h a0 a1 mc ms post) : hMi l yL_agrees wsL_agrees (rm_L_agrees mc ms) G K (TY c) [.ref a0, .ref a1] h mc ms post := by
  refine hMi.of (cc := cL_agrees) (maxL := 4) (lv := [(0, .ref a0), (1, .ref a1)]) (by decide) rfl (Nat.le_of_ble_eq_true rfl) rfl ?_
  intro p e s m args below meth c1 A Q H locs hx hb hml hown hmn hts hK hN hZ hXX hP hD hA hS hend ls hl
  have hown : s.vm.findClass RL = some m.cls := hown
  have hi_10 : ∀ w ∈ u_ws RX10 TX10 17, w ∈ wsL_agrees := fun w h => (fun w h => List.mem_cons_of_mem _ (List.mem_append_left _ (List.mem_append_left _ (List.mem_append_left _ (List.mem_append_left _ (List.mem_append_left _ (List.mem_append_left _ (List.mem_append_left _ (List.mem_append_left _ (List.mem_append_left _ (List.mem_append_right _ (h)))))))))))) w h
  unfold w_L_agrees at hm
  have hf : 0 + mc ≤ mc ∧ 0 + ms ≤ ms := ⟨by omega, by omega⟩
  refine lv_aload_n hx hb dL_agrees_0 rfl (lv_at hl 0 rfl) ?_
  obtain ⟨⟨wr1, fr1, hrq1⟩, hm⟩ := hm
  refine hcVl (As := []) (rest := []) ⟨hx, hb, hml, hown, hts⟩ (h_X7_checksum l G K c h a0 _ hm) (cwV 0 hts gL_agrees_X7_checksum rfl rfl rfl (heV_X7_checksum) ⟨Nat.le_of_ble_eq_true rfl, Nat.le_of_ble_eq_true rfl⟩) hK hN hZ hXX hP hD hS hA (mr_recv hK (mRd hK hP hZ hS) (ci := 7) rfl hrq1) rfl hl.1 rfl (Nat.le_of_ble_eq_true rfl) dL_agrees_1 ⟨by show 0 + 0 ≤ mc; omega, by show 0 + 0 ≤ ms; omega⟩ (fun r1 h1 H locs hm hP hD hS => ?_)
  refine lv_aload_n hx hb dL_agrees_4 rfl (lv_at hl 1 rfl) ?_
  obtain ⟨⟨wr5, fr5, hrq5⟩, hm⟩ := hm
  obtain ⟨m5, z5, mB5, zB5, hbm5, hbs5, hm⟩ := hm
  refine hcVl (As := []) (rest := [.long r1]) ⟨hx, hb, hml, hown, hts⟩ (h_X10_checksum l G K c h1 a1 m5 z5 _ hm) (cwV 0 hts gL_agrees_X10_checksum rfl rfl rfl (heV_X10_checksum) ⟨Nat.le_of_ble_eq_true rfl, Nat.le_of_ble_eq_true rfl⟩) hK hN hZ hXX hP hD hS hA (mr_recv hK (mRd hK hP hZ hS) (ci := 10) rfl hrq5) rfl hl.1 rfl (Nat.le_of_ble_eq_true rfl) dL_agrees_5 ⟨by show 0 + m5 ≤ mc; omega, by show 0 + z5 ≤ ms; omega⟩ (fun r5 h5 H locs hm hP hD hS => ?_)
  replace hf : (0 + m5) + mB5 ≤ mc ∧ (0 + z5) + zB5 ≤ ms := ⟨by omega, by omega⟩
  clear hbm5 hbs5
  refine W.lcmp hx hb dL_agrees_8 ?_
  refine lv_topi (fun x8 ex8 => ?_)
  have hm := hm x8 ex8
  have J_39 : ∀ (h_39 : HW) (mc_39 ms_39 : Nat) (s0_39 : Int32) (cl_39 sl_39 : Nat) (H : Heap) (locs : List Loc) (ls : Array Slot), cl_39 + mc_39 ≤ mc ∧ sl_39 + ms_39 ≤ ms → mP G K h_39 H → mD A h_39 → va_S A s.heap H locs → lv_has ls 4 [(0, .ref a0), (1, .ref a1)] → w_L_agrees_J39 c K a0 a1 post h_39 mc_39 ms_39 s0_39 → W p l e (rm_L_agrees mc ms) s m args below meth c1 H locs cl_39 sl_39 Q (F0 m 39 ls [.int s0_39]) := by
    intro h_39 mc_39 ms_39 s0_39 cl_39 sl_39 H locs ls hf hP hD hS hl hm
    unfold w_L_agrees_J39 at hm
    refine lv_istore_n (lv' := [(2, .int s0_39), (0, .ref a0), (1, .ref a1)]) hx hb dL_agrees_39 rfl hl (by decide) rfl (fun ls hl => ?_)
    refine lv_iconst (v := 0) hx hb dL_agrees_40 (by decide) ?_
    refine lv_istore_n (lv' := [(3, .int (0 : Int32)), (2, .int s0_39), (0, .ref a0), (1, .ref a1)]) hx hb dL_agrees_41 rfl hl (by decide) rfl (fun ls hl => ?_)
    obtain ⟨n_42, hm⟩ := hm
    have L_42 : ∀ (n_42 : Nat) (h_42 : HW) (mc_42 : Nat) (ms_42 : Nat) (v2_42 : Int32) (v3_42 : Int32) (cl_42 sl_42 : Nat) (H : Heap) (locs : List Loc) (ls : Array Slot), cl_42 + mc_42 ≤ mc ∧ sl_42 + ms_42 ≤ ms → mP G K h_42 H → mD A h_42 → va_S A s.heap H locs → lv_has ls 4 [(0, .ref a0), (1, .ref a1), (2, .int v2_42), (3, .int v3_42)] → itP5 (w_L_agrees_B42 c K a0 a1 post) n_42 h_42 mc_42 ms_42 v2_42 v3_42 → W p l e (rm_L_agrees mc ms) s m args below meth c1 H locs cl_42 sl_42 Q (F0 m 42 ls []) := by
      intro n_42
      induction n_42 with
      | zero => intro h_42 mc_42 ms_42 v2_42 v3_42 cl_42 sl_42 H locs ls hf hP hD hS hl hm; exact hm.elim
      | succ n_42 ih_42 =>
        intro h_42 mc_42 ms_42 v2_42 v3_42 cl_42 sl_42 H locs ls hf hP hD hS hl hm
        have hm : (w_L_agrees_B42 c K a0 a1 post) (itP5 (w_L_agrees_B42 c K a0 a1 post) n_42) h_42 mc_42 ms_42 v2_42 v3_42 := hm
        generalize itP5 (w_L_agrees_B42 c K a0 a1 post) n_42 = rec_42 at hm ih_42
        unfold w_L_agrees_B42 at hm
        refine lv_iload_n hx hb dL_agrees_42 rfl (lv_at hl 3 rfl) ?_
        refine lv_bipush (v := 13) hx hb dL_agrees_43 (by decide) ?_
        have J_77 : ∀ (mc_77 ms_77 : Nat) (cl_77 sl_77 : Nat) (H : Heap) (locs : List Loc) (ls : Array Slot), cl_77 + mc_77 ≤ mc ∧ sl_77 + ms_77 ≤ ms → mP G K h_42 H → mD A h_42 → va_S A s.heap H locs → lv_has ls 4 [(0, .ref a0), (1, .ref a1), (2, .int v2_42)] → w_L_agrees_J77 c K a0 a1 post h_42 v2_42 mc_77 ms_77 → W p l e (rm_L_agrees mc ms) s m args below meth c1 H locs cl_77 sl_77 Q (F0 m 77 ls []) := by
          intro mc_77 ms_77 cl_77 sl_77 H locs ls hf hP hD hS hl hm
          unfold w_L_agrees_J77 at hm
          refine lv_iload_n hx hb dL_agrees_77 rfl (lv_at hl 2 rfl) ?_
          refine lv_if_eq (tgt := 132) hx hb dL_agrees_78 (by decide) (fun c_78 => ?_) (fun c_78 => ?_)
          · have hm := hm.1 c_78
            refine lv_iconst (v := 0) hx hb dL_agrees_132 (by decide) ?_
            obtain ⟨hz, hm⟩ := hm
            exact hend H locs ls 133 _ _ (0 : Int32) h_42 (by omega) (by omega) (z01_n hz) hm hP hD hS dL_agrees_133
          · have hm := hm.2 c_78
            refine lv_aload_n hx hb dL_agrees_81 rfl (lv_at hl 0 rfl) ?_
            refine lv_aload_n hx hb dL_agrees_82 rfl (lv_at hl 1 rfl) ?_
            obtain ⟨wq83, fs83, g83, hq83, hv83, hm⟩ := hm
            refine mr_get (ci := 10) (C := RX10) (T := TX10) (N := 17) hx hb hts hi_10 hown hK (mRd hK hP hZ hS) hq83 rfl 10 (by decide) (hts (.fieldLink RL 131 "HubTrainsLaw$Table" "hands" "[[I") ((List.mem_of_getElem? (i := 2) rfl))) (fun _ h9 => h9) hv83 dL_agrees_83 ?_
            obtain ⟨wq86, xx86, hq86, hm⟩ := hm
            refine mr_alen hx hb hK (mRd hK hP hZ hS) 2 hq86 rfl dL_agrees_86 (fun x86 ex86 => ?_)
            have hm := hm x86 ex86
            refine lv_iconst (v := 0) hx hb dL_agrees_87 (by decide) ?_
            obtain ⟨m88, z88, mB88, zB88, hbm88, hbs88, hm⟩ := hm
            refine hcSWi (As := [.ref a0, .int x86, .int (0 : Int32)]) (rest := []) ⟨hx, hb, hml, hown, hts⟩ (h_L_player l hl0 G K c h_42 a0 x86 (0 : Int32) m88 z88 _ hm) (vx_cwSW 3 hts gL_agrees_L_player rfl rfl rfl he_L_player ⟨Nat.le_of_ble_eq_true rfl, Nat.le_of_ble_eq_true rfl⟩) hK hN hZ hXX hP hD hS hA rfl hl.1 rfl (Nat.le_of_ble_eq_true rfl) dL_agrees_88 ⟨by show cl_77 + m88 ≤ mc; omega, by show sl_77 + z88 ≤ ms; omega⟩ (fun r88 h88 H locs hm hP hD hS => ?_)
            replace hf : (cl_77 + m88) + mB88 ≤ mc ∧ (sl_77 + z88) + zB88 ≤ ms := ⟨by omega, by omega⟩
            clear hbm88 hbs88
            refine lv_ldc (v := (-2000000097)) hx hb hown (hts (.constant RL 52 (-2000000097)) ((List.mem_of_getElem? (i := 3) rfl))) dL_agrees_91 ?_
            refine lv_icmp_ne (tgt := 132) hx hb dL_agrees_93 (by decide) (fun c_93 => ?_) (fun c_93 => ?_)
            · have hm := hm.2 c_93
              refine lv_iconst (v := 0) hx hb dL_agrees_132 (by decide) ?_
              obtain ⟨hz, hm⟩ := hm
              exact hend H locs ls 133 _ _ (0 : Int32) h88 (by omega) (by omega) (z01_n hz) hm hP hD hS dL_agrees_133
            · have hm := hm.1 c_93
              refine lv_aload_n hx hb dL_agrees_96 rfl (lv_at hl 0 rfl) ?_
              refine lv_aload_n hx hb dL_agrees_97 rfl (lv_at hl 1 rfl) ?_
              obtain ⟨wq98, fs98, g98, hq98, hv98, hm⟩ := hm
              refine mr_get (ci := 10) (C := RX10) (T := TX10) (N := 17) hx hb hts hi_10 hown hK (mRd hK hP hZ hS) hq98 rfl 12 (by decide) (hts (.fieldLink RL 138 "HubTrainsLaw$Table" "trains" "[[I") ((List.mem_of_getElem? (i := 4) rfl))) (fun _ h9 => h9) hv98 dL_agrees_98 ?_
              obtain ⟨wq101, xx101, hq101, hm⟩ := hm
              refine mr_alen hx hb hK (mRd hK hP hZ hS) 2 hq101 rfl dL_agrees_101 (fun x101 ex101 => ?_)
              have hm := hm x101 ex101
              refine lv_iconst (v := 0) hx hb dL_agrees_102 (by decide) ?_
              obtain ⟨m103, z103, mB103, zB103, hbm103, hbs103, hm⟩ := hm
              refine hcSWi (As := [.ref a0, .int x101, .int (0 : Int32)]) (rest := []) ⟨hx, hb, hml, hown, hts⟩ (h_L_train l hl0 G K c h88 a0 x101 (0 : Int32) m103 z103 _ hm) (vx_cwSW 3 hts gL_agrees_L_train rfl rfl rfl he_L_train ⟨Nat.le_of_ble_eq_true rfl, Nat.le_of_ble_eq_true rfl⟩) hK hN hZ hXX hP hD hS hA rfl hl.1 rfl (Nat.le_of_ble_eq_true rfl) dL_agrees_103 ⟨by show (cl_77 + m88) + m103 ≤ mc; omega, by show (sl_77 + z88) + z103 ≤ ms; omega⟩ (fun r103 h103 H locs hm hP hD hS => ?_)
              replace hf : ((cl_77 + m88) + m103) + mB103 ≤ mc ∧ ((sl_77 + z88) + z103) + zB103 ≤ ms := ⟨by omega, by omega⟩
              clear hbm103 hbs103
              refine lv_ldc (v := (-2000000097)) hx hb hown (hts (.constant RL 52 (-2000000097)) ((List.mem_of_getElem? (i := 3) rfl))) dL_agrees_106 ?_
              refine lv_icmp_ne (tgt := 132) hx hb dL_agrees_108 (by decide) (fun c_108 => ?_) (fun c_108 => ?_)
              · have hm := hm.2 c_108
                refine lv_iconst (v := 0) hx hb dL_agrees_132 (by decide) ?_
                obtain ⟨hz, hm⟩ := hm
                exact hend H locs ls 133 _ _ (0 : Int32) h103 (by omega) (by omega) (z01_n hz) hm hP hD hS dL_agrees_133
              · have hm := hm.1 c_108
                refine lv_aload_n hx hb dL_agrees_111 rfl (lv_at hl 0 rfl) ?_
                refine lv_iconst (v := 0) hx hb dL_agrees_112 (by decide) ?_
                refine lv_aload_n hx hb dL_agrees_113 rfl (lv_at hl 1 rfl) ?_
                obtain ⟨wq114, fs114, g114, hq114, hv114, hm⟩ := hm
                refine mr_get (ci := 10) (C := RX10) (T := TX10) (N := 17) hx hb hts hi_10 hown hK (mRd hK hP hZ hS) hq114 rfl 10 (by decide) (hts (.fieldLink RL 131 "HubTrainsLaw$Table" "hands" "[[I") ((List.mem_of_getElem? (i := 2) rfl))) (fun _ h9 => h9) hv114 dL_agrees_114 ?_
                refine lv_iconst (v := 0) hx hb dL_agrees_117 (by decide) ?_
                obtain ⟨wq118, n118, f118, x118, hq118, hi118, hv118, hm⟩ := hm
                refine mr_aldq (ty := (.array .int)) hx hb hK (mRd hK hP hZ hS) 2 rfl hq118 rfl hi118 dL_agrees_118 (fun o118 eo118 => ?_)
                obtain rfl := eo118.trans hv118
                obtain ⟨wq119, xx119, hq119, hm⟩ := hm
                refine mr_alen hx hb hK (mRd hK hP hZ hS) 0 hq119 rfl dL_agrees_119 (fun x119 ex119 => ?_)
                have hm := hm x119 ex119
                obtain ⟨m120, z120, mB120, zB120, hbm120, hbs120, hm⟩ := hm
                refine hcSWi (As := [.ref a0, .int (0 : Int32), .int x119]) (rest := []) ⟨hx, hb, hml, hown, hts⟩ (h_L_tile l hl0 G K c h103 a0 (0 : Int32) x119 m120 z120 _ hm) (vx_cwSW 3 hts gL_agrees_L_tile rfl rfl rfl he_L_tile ⟨Nat.le_of_ble_eq_true rfl, Nat.le_of_ble_eq_true rfl⟩) hK hN hZ hXX hP hD hS hA rfl hl.1 rfl (Nat.le_of_ble_eq_true rfl) dL_agrees_120 ⟨by show ((cl_77 + m88) + m103) + m120 ≤ mc; omega, by show ((sl_77 + z88) + z103) + z120 ≤ ms; omega⟩ (fun r120 h120 H locs hm hP hD hS => ?_)
                replace hf : (((cl_77 + m88) + m103) + m120) + mB120 ≤ mc ∧ (((sl_77 + z88) + z103) + z120) + zB120 ≤ ms := ⟨by omega, by omega⟩
                clear hbm120 hbs120
                refine lv_ldc (v := (-2000000100)) hx hb hown (hts (.constant RL 58 (-2000000100)) ((List.mem_of_getElem? (i := 5) rfl))) dL_agrees_123 ?_
                refine lv_icmp_ne (tgt := 132) hx hb dL_agrees_125 (by decide) (fun c_125 => ?_) (fun c_125 => ?_)
                · have hm := hm.2 c_125
                  refine lv_iconst (v := 0) hx hb dL_agrees_132 (by decide) ?_
                  obtain ⟨hz, hm⟩ := hm
                  exact hend H locs ls 133 _ _ (0 : Int32) h120 (by omega) (by omega) (z01_n hz) hm hP hD hS dL_agrees_133
                · have hm := hm.1 c_125
                  refine lv_iconst (v := 1) hx hb dL_agrees_128 (by decide) ?_
                  refine lv_goto (tgt := 133) hx hb dL_agrees_129 (by decide) ?_
                  obtain ⟨hz, hm⟩ := hm
                  exact hend H locs ls 133 _ _ (1 : Int32) h120 (by omega) (by omega) (z01_n hz) hm hP hD hS dL_agrees_133
        refine lv_icmp_ge (tgt := 77) hx hb dL_agrees_45 (by decide) (fun c_45 => ?_) (fun c_45 => ?_)
        · have hm := hm.1 c_45
          exact J_77 mc_42 ms_42 cl_42 sl_42 H locs ls ⟨by omega, by omega⟩ hP hD hS (lv_sub hl [0, 1, 2] rfl) hm
        · have hm := hm.2 c_45
          refine lv_iload_n hx hb dL_agrees_48 rfl (lv_at hl 2 rfl) ?_
          refine lv_if_eq (tgt := 77) hx hb dL_agrees_49 (by decide) (fun c_49 => ?_) (fun c_49 => ?_)
          · have hm := hm.1 c_49
            exact J_77 mc_42 ms_42 cl_42 sl_42 H locs ls ⟨by omega, by omega⟩ hP hD hS (lv_sub hl [0, 1, 2] rfl) hm
          · have hm := hm.2 c_49
            refine lv_aload_n hx hb dL_agrees_52 rfl (lv_at hl 0 rfl) ?_
            refine lv_iload_n hx hb dL_agrees_53 rfl (lv_at hl 3 rfl) ?_
            obtain ⟨m54, z54, mB54, zB54, hbm54, hbs54, hm⟩ := hm
            refine hcSWi (As := [.ref a0, .int v3_42]) (rest := []) ⟨hx, hb, hml, hown, hts⟩ (h_L_state l hl0 G K c h_42 a0 v3_42 m54 z54 _ hm) (vx_cwSW 2 hts gL_agrees_L_state rfl rfl rfl he_L_state ⟨Nat.le_of_ble_eq_true rfl, Nat.le_of_ble_eq_true rfl⟩) hK hN hZ hXX hP hD hS hA rfl hl.1 rfl (Nat.le_of_ble_eq_true rfl) dL_agrees_54 ⟨by show cl_42 + m54 ≤ mc; omega, by show sl_42 + z54 ≤ ms; omega⟩ (fun r54 h54 H locs hm hP hD hS => ?_)
            replace hf : (cl_42 + m54) + mB54 ≤ mc ∧ (sl_42 + z54) + zB54 ≤ ms := ⟨by omega, by omega⟩
            clear hbm54 hbs54
            refine lv_aload_n hx hb dL_agrees_57 rfl (lv_at hl 1 rfl) ?_
            refine lv_iload_n hx hb dL_agrees_58 rfl (lv_at hl 3 rfl) ?_
            obtain ⟨⟨wr59, fr59, hrq59⟩, hm⟩ := hm
            refine hcVi (As := [.int v3_42]) (rest := [.int r54]) ⟨hx, hb, hml, hown, hts⟩ (h_X10_told l G K c h54 a1 v3_42 _ hm) (cwV 1 hts gL_agrees_X10_told rfl rfl rfl (heV_X10_told) ⟨Nat.le_of_ble_eq_true rfl, Nat.le_of_ble_eq_true rfl⟩) hK hN hZ hXX hP hD hS hA (mr_recv hK (mRd hK hP hZ hS) (ci := 10) rfl hrq59) rfl hl.1 rfl (Nat.le_of_ble_eq_true rfl) dL_agrees_59 ⟨by show (cl_42 + m54) + 0 ≤ mc; omega, by show (sl_42 + z54) + 0 ≤ ms; omega⟩ (fun r59 h59 H locs hm hP hD hS => ?_)
            have J_70 : ∀ (mc_70 ms_70 : Nat) (s0_70 : Int32) (cl_70 sl_70 : Nat) (H : Heap) (locs : List Loc) (ls : Array Slot), cl_70 + mc_70 ≤ mc ∧ sl_70 + ms_70 ≤ ms → mP G K h59 H → mD A h59 → va_S A s.heap H locs → lv_has ls 4 [(0, .ref a0), (1, .ref a1), (3, .int v3_42)] → w_L_agrees_J70 c K rec_42 v3_42 h59 mc_70 ms_70 s0_70 → W p l e (rm_L_agrees mc ms) s m args below meth c1 H locs cl_70 sl_70 Q (F0 m 70 ls [.int s0_70]) := by
              intro mc_70 ms_70 s0_70 cl_70 sl_70 H locs ls hf hP hD hS hl hm
              unfold w_L_agrees_J70 at hm
              refine lv_istore_n (lv' := [(2, .int s0_70), (0, .ref a0), (1, .ref a1), (3, .int v3_42)]) hx hb dL_agrees_70 rfl hl (by decide) rfl (fun ls hl => ?_)
              obtain ⟨x71, ex71⟩ : ∃ z : Int32, z = (v3_42 + 1) := ⟨_, rfl⟩
              have hm := hm x71 ex71
              refine lv_iinc (k := 3) (v := x71) (lv' := [(3, .int x71), (2, .int s0_70), (0, .ref a0), (1, .ref a1)]) hx hb dL_agrees_71 hl rfl ex71.symm (by decide) rfl (fun ls hl => ?_)
              refine lv_goto (tgt := 42) hx hb dL_agrees_74 (by decide) ?_
              exact ih_42 h59 mc_70 ms_70 s0_70 x71 cl_70 sl_70 H locs ls ⟨by omega, by omega⟩ hP hD hS (lv_sub hl [2, 3, 1, 0] rfl) hm
            refine lv_icmp_ne (tgt := 69) hx hb dL_agrees_62 (by decide) (fun c_62 => ?_) (fun c_62 => ?_)
            · have hm := hm.2 c_62
              refine lv_iconst (v := 0) hx hb dL_agrees_69 (by decide) ?_
              exact J_70 mB54 zB54 (0 : Int32) (cl_42 + m54) (sl_42 + z54) H locs ls ⟨by omega, by omega⟩ hP hD hS (lv_sub hl [0, 1, 3] rfl) hm
            · have hm := hm.1 c_62
              refine lv_iconst (v := 1) hx hb dL_agrees_65 (by decide) ?_
              refine lv_goto (tgt := 70) hx hb dL_agrees_66 (by decide) ?_
              exact J_70 mB54 zB54 (1 : Int32) (cl_42 + m54) (sl_42 + z54) H locs ls ⟨by omega, by omega⟩ hP hD hS (lv_sub hl [0, 1, 3] rfl) hm
    exact L_42 n_42 h_39 mc_39 ms_39 s0_39 (0 : Int32) cl_39 sl_39 H locs ls ⟨by omega, by omega⟩ hP hD hS (lv_sub hl [2, 3, 1, 0] rfl) hm
  have J_38 : ∀ (h_38 : HW) (mc_38 ms_38 : Nat) (cl_38 sl_38 : Nat) (H : Heap) (locs : List Loc) (ls : Array Slot), cl_38 + mc_38 ≤ mc ∧ sl_38 + ms_38 ≤ ms → mP G K h_38 H → mD A h_38 → va_S A s.heap H locs → lv_has ls 4 [(0, .ref a0), (1, .ref a1)] → w_L_agrees_J38 c K a0 a1 post h_38 mc_38 ms_38 → W p l e (rm_L_agrees mc ms) s m args below meth c1 H locs cl_38 sl_38 Q (F0 m 38 ls []) := by
    intro h_38 mc_38 ms_38 cl_38 sl_38 H locs ls hf hP hD hS hl hm
    unfold w_L_agrees_J38 at hm
    refine lv_iconst (v := 0) hx hb dL_agrees_38 (by decide) ?_
    exact J_39 h_38 mc_38 ms_38 (0 : Int32) cl_38 sl_38 H locs ls ⟨by omega, by omega⟩ hP hD hS (lv_sub hl [0, 1] rfl) hm
  refine lv_if_ne (tgt := 38) hx hb dL_agrees_9 (by decide) (fun c_9 => ?_) (fun c_9 => ?_)
  · have hm := hm.2 c_9
    exact J_38 h5 mB5 zB5 (0 + m5) (0 + z5) H locs ls ⟨by omega, by omega⟩ hP hD hS (lv_sub hl [0, 1] rfl) hm
  · have hm := hm.1 c_9
    refine lv_aload_n hx hb dL_agrees_12 rfl (lv_at hl 0 rfl) ?_
    obtain ⟨⟨wr13, fr13, hrq13⟩, hm⟩ := hm
    refine hcVi (As := []) (rest := []) ⟨hx, hb, hml, hown, hts⟩ (h_X7_best l G K c h5 a0 _ hm) (cwV 0 hts gL_agrees_X7_best rfl rfl rfl (heV_X7_best) ⟨Nat.le_of_ble_eq_true rfl, Nat.le_of_ble_eq_true rfl⟩) hK hN hZ hXX hP hD hS hA (mr_recv hK (mRd hK hP hZ hS) (ci := 7) rfl hrq13) rfl hl.1 rfl (Nat.le_of_ble_eq_true rfl) dL_agrees_13 ⟨by show (0 + m5) + 0 ≤ mc; omega, by show (0 + z5) + 0 ≤ ms; omega⟩ (fun r13 h13 H locs hm hP hD hS => ?_)
    refine lv_aload_n hx hb dL_agrees_16 rfl (lv_at hl 1 rfl) ?_
    obtain ⟨⟨wr17, fr17, hrq17⟩, hm⟩ := hm
    refine hcVi (As := []) (rest := [.int r13]) ⟨hx, hb, hml, hown, hts⟩ (h_X10_best l G K c h13 a1 _ hm) (cwV 0 hts gL_agrees_X10_best rfl rfl rfl (heV_X10_best) ⟨Nat.le_of_ble_eq_true rfl, Nat.le_of_ble_eq_true rfl⟩) hK hN hZ hXX hP hD hS hA (mr_recv hK (mRd hK hP hZ hS) (ci := 10) rfl hrq17) rfl hl.1 rfl (Nat.le_of_ble_eq_true rfl) dL_agrees_17 ⟨by show (0 + m5) + 0 ≤ mc; omega, by show (0 + z5) + 0 ≤ ms; omega⟩ (fun r17 h17 H locs hm hP hD hS => ?_)
    refine lv_icmp_ne (tgt := 38) hx hb dL_agrees_20 (by decide) (fun c_20 => ?_) (fun c_20 => ?_)
    · have hm := hm.2 c_20
      exact J_38 h17 mB5 zB5 (0 + m5) (0 + z5) H locs ls ⟨by omega, by omega⟩ hP hD hS (lv_sub hl [0, 1] rfl) hm
    · have hm := hm.1 c_20
      refine lv_aload_n hx hb dL_agrees_23 rfl (lv_at hl 0 rfl) ?_
      refine lv_bipush (v := 13) hx hb dL_agrees_24 (by decide) ?_
      obtain ⟨m26, z26, mB26, zB26, hbm26, hbs26, hm⟩ := hm
      refine hcSWi (As := [.ref a0, .int (13 : Int32)]) (rest := []) ⟨hx, hb, hml, hown, hts⟩ (h_L_state l hl0 G K c h17 a0 (13 : Int32) m26 z26 _ hm) (vx_cwSW 2 hts gL_agrees_L_state rfl rfl rfl he_L_state ⟨Nat.le_of_ble_eq_true rfl, Nat.le_of_ble_eq_true rfl⟩) hK hN hZ hXX hP hD hS hA rfl hl.1 rfl (Nat.le_of_ble_eq_true rfl) dL_agrees_26 ⟨by show (0 + m5) + m26 ≤ mc; omega, by show (0 + z5) + z26 ≤ ms; omega⟩ (fun r26 h26 H locs hm hP hD hS => ?_)
      replace hf : ((0 + m5) + m26) + mB26 ≤ mc ∧ ((0 + z5) + z26) + zB26 ≤ ms := ⟨by omega, by omega⟩
      clear hbm26 hbs26
      refine lv_ldc (v := (-2000000098)) hx hb hown (hts (.constant RL 42 (-2000000098)) ((List.mem_of_getElem? (i := 1) rfl))) dL_agrees_29 ?_
      refine lv_icmp_ne (tgt := 38) hx hb dL_agrees_31 (by decide) (fun c_31 => ?_) (fun c_31 => ?_)
      · have hm := hm.2 c_31
        exact J_38 h26 mB26 zB26 ((0 + m5) + m26) ((0 + z5) + z26) H locs ls ⟨by omega, by omega⟩ hP hD hS (lv_sub hl [0, 1] rfl) hm
      · have hm := hm.1 c_31
        refine lv_iconst (v := 1) hx hb dL_agrees_34 (by decide) ?_
        refine lv_goto (tgt := 39) hx hb dL_agrees_35 (by decide) ?_
        exact J_39 h26 mB26 zB26 (1 : Int32) ((0 + m5) + m26) ((0 + z5) + z26) H locs ls ⟨by omega, by omega⟩ hP hD hS (lv_sub hl [0, 1] rfl) hm

