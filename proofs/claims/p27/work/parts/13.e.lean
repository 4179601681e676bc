/-! the law keeps to it -/
set_option maxHeartbeats 4000000 in
set_option maxRecDepth 100000 in
theorem hj_L_law_J527 {p : Program} {l : Launch} (hl0 : l.stackTraces = false) {e : Env} {s : State} {m : MethodId} {args : Array Value} {below : List Frame} {meth : Method} {c1 : Code} {A : Nat → Prop} {Q : State → Prop} {G : va_G} {K : (Nat → Nat) × (Nat → Nat)} {c : Nat → ClassId} {mc ms : Nat} {post : Int32 → HW → Prop} (hx : p.tables.exec = Jvm.exec) (hb : c1.code = code) (hml : c1.maxLocals = 20) (hown : s.vm.findClass RL = some m.cls) (hts : ∀ w ∈ lw_tb2, w.before args s = true) (hK : va_K G vwCl (TY c) s) (hN : NW K s) (hZ : ZE K A s s.heap) (hXX : XX s) (hA : ∀ q : Nat, s.heap.size ≤ q → A q) (hend : ∀ (H : Heap) (locs : List Loc) (ls : Array Slot) (pc cells slots : Nat) (v : Int32) (h1 : HW), cells ≤ mc → slots ≤ ms → narrow .boolean (.int v) = .int v → post v h1 → mP G K h1 H → mD A h1 → va_S A s.heap H locs → decode code pc = .ok (.ireturn, 1) → W p l e (rm_L_law mc ms) s m args below meth c1 H locs cells slots Q (F0 m pc ls [.int v])) (b : Nat) (v2_4 : Int32) (q19 : Nat) (q33 : Nat) (a163 : Nat) (q196 : Nat) (rec_207 : HW → Nat → Nat → Int32 → Int32 → Int32 → Prop) (v8_207 : Int32) (v9_207 : Int32) (a220 : Nat) (h232 : HW) (J_797 : ∀ (h_797 : HW) (mc_797 ms_797 : Nat) (v1_797 : Int32) (v11_797 : Int32) (cl_797 sl_797 : Nat) (H : Heap) (locs : List Loc) (ls : Array Slot), cl_797 + mc_797 ≤ mc ∧ sl_797 + ms_797 ≤ ms → mP G K h_797 H → mD A h_797 → va_S A s.heap H locs → lv_has ls 20 [(0, .ref b), (1, .int v1_797), (2, .int v2_4), (3, .ref q19), (5, .ref q33), (6, .ref a163), (7, .ref q196), (8, .int v8_207), (9, .int v9_207), (10, .ref a220), (11, .int v11_797)] → w_L_law_J797 c K q19 a163 q196 rec_207 v8_207 v9_207 a220 h_797 mc_797 ms_797 v1_797 v11_797 → W p l e (rm_L_law mc ms) s m args below meth c1 H locs cl_797 sl_797 Q (F0 m 797 ls [])) : ∀ (mc_527 ms_527 : Nat) (cl_527 sl_527 : Nat) (H : Heap) (locs : List Loc) (ls : Array Slot), cl_527 + mc_527 ≤ mc ∧ sl_527 + ms_527 ≤ ms → mP G K h232 H → mD A h232 → va_S A s.heap H locs → lv_has ls 20 [(0, .ref b), (2, .int v2_4), (3, .ref q19), (5, .ref q33), (6, .ref a163), (7, .ref q196), (8, .int v8_207), (9, .int v9_207), (10, .ref a220)] → w_L_law_J527 c K q19 q33 a163 q196 rec_207 v8_207 v9_207 a220 h232 mc_527 ms_527 → W p l e (rm_L_law mc ms) s m args below meth c1 H locs cl_527 sl_527 Q (F0 m 527 ls []) := by
                              have hi_10 : ∀ w ∈ u_ws RX10 TX10 17, w ∈ lw_tb2 := fun w h => tin_wsX100 w h
                              intro mc_527 ms_527 cl_527 sl_527 H locs ls hf hP hD hS hl hm
                              unfold w_L_law_J527 at hm
                              refine lv_aload hx hb dL_law_527 (lv_at hl 3 rfl) ?_
                              refine lv_aload hx hb dL_law_529 (lv_at hl 4 rfl) ?_
                              obtain ⟨wq531, fs531, g531, hq531, hv531, hm⟩ := hm
                              refine mr_get (ci := 10) (C := RX10) (T := TX10) (N := 17) hx hb hts hi_10 hown hK (mRd hK hP hZ hS) hq531 rfl 0 (by decide) (hts (.fieldLink RL 119 "HubTrainsLaw$Table" "most" "I") (tin_c [.fieldLink RL 119 "HubTrainsLaw$Table" "most" "I"] [(1, 219)] rfl _ (List.mem_singleton.mpr rfl))) (fun _ h9 => h9) hv531 dL_law_531 ?_
                              refine lv_iconst (v := 2) hx hb dL_law_534 (by decide) ?_
                              refine lv_iadd hx hb dL_law_535 ?_
                              refine lv_topi (fun x535 ex535 => ?_)
                              replace hm := hm x535 ex535
                              obtain ⟨⟨wr536, fr536, hrq536⟩, hm⟩ := hm
                              refine hcVi (As := [.int x535]) (rest := []) ⟨hx, hb, hml, hown, hts⟩ (h_X9_below l G K c h232 q33 x535 _ hm) (cwV 1 hts gL_law_X9_below rfl rfl rfl (heV_X9_below) ⟨Nat.le_of_ble_eq_true rfl, Nat.le_of_ble_eq_true rfl⟩) hK hN hZ hXX hP hD hS hA (mr_recv hK (mRd hK hP hZ hS) (ci := 9) rfl hrq536) rfl hl.1 rfl (Nat.le_of_ble_eq_true rfl) dL_law_536 ⟨by show cl_527 + 0 ≤ mc; omega, by show sl_527 + 0 ≤ ms; omega⟩ (fun r536 h536 H locs hm hP hD hS => ?_)
                              refine lv_istore (lv' := [(16, .int r536), (0, .ref b), (2, .int v2_4), (3, .ref q19), (5, .ref q33), (6, .ref a163), (7, .ref q196), (8, .int v8_207), (9, .int v9_207), (10, .ref a220)]) hx hb dL_law_539 hl (by decide) rfl (fun ls hl => ?_)
                              refine lv_aload hx hb dL_law_541 (lv_at hl 4 rfl) ?_
                              refine lv_sipush (v := 10000) hx hb dL_law_543 (by decide) ?_
                              obtain ⟨⟨wr546, fr546, hrq546⟩, hm⟩ := hm
                              refine hcVi (As := [.int (10000 : Int32)]) (rest := []) ⟨hx, hb, hml, hown, hts⟩ (h_X9_below l G K c h536 q33 (10000 : Int32) _ hm) (cwV 1 hts gL_law_X9_below rfl rfl rfl (heV_X9_below) ⟨Nat.le_of_ble_eq_true rfl, Nat.le_of_ble_eq_true rfl⟩) hK hN hZ hXX hP hD hS hA (mr_recv hK (mRd hK hP hZ hS) (ci := 9) rfl hrq546) rfl hl.1 rfl (Nat.le_of_ble_eq_true rfl) dL_law_546 ⟨by show cl_527 + 0 ≤ mc; omega, by show sl_527 + 0 ≤ ms; omega⟩ (fun r546 h546 H locs hm hP hD hS => ?_)
                              refine lv_istore (lv' := [(17, .int r546), (16, .int r536), (0, .ref b), (2, .int v2_4), (3, .ref q19), (5, .ref q33), (6, .ref a163), (7, .ref q196), (8, .int v8_207), (9, .int v9_207), (10, .ref a220)]) hx hb dL_law_549 hl (by decide) rfl (fun ls hl => ?_)
                              refine lv_iload hx hb dL_law_551 (lv_at hl 1 rfl) ?_
                              refine lv_aload hx hb dL_law_553 (lv_at hl 6 rfl) ?_
                              obtain ⟨wq555, fs555, g555, hq555, hv555, hm⟩ := hm
                              refine mr_get (ci := 10) (C := RX10) (T := TX10) (N := 17) hx hb hts hi_10 hown hK (mRd hK hP hZ hS) hq555 rfl 0 (by decide) (hts (.fieldLink RL 119 "HubTrainsLaw$Table" "most" "I") (tin_c [.fieldLink RL 119 "HubTrainsLaw$Table" "most" "I"] [(1, 219)] rfl _ (List.mem_singleton.mpr rfl))) (fun _ h9 => h9) hv555 dL_law_555 ?_
                              have J_574 := hj_L_law_J574 hl0 hx hb hml hown hts hK hN hZ hXX hA hend b v2_4 q19 q33 a163 q196 rec_207 v8_207 v9_207 a220 r536 r546 h546 J_797 
                              have J_573 := hj_L_law_J573 hl0 hx hb hml hown hts hK hN hZ hXX hA hend b v2_4 q19 q33 a163 q196 rec_207 v8_207 v9_207 a220 r536 r546 h546 J_574 
                              refine lv_icmp_gt (tgt := 573) hx hb dL_law_558 (by decide) (fun c_558 => ?_) (fun c_558 => ?_)
                              · replace hm := hm.1 c_558
                                exact J_573 mc_527 ms_527 cl_527 sl_527 H locs ls ⟨by omega, by omega⟩ hP hD hS (lv_sub hl [2, 3, 4, 5, 6, 7, 8, 9, 10, 1, 0] rfl) hm
                              · replace hm := hm.2 c_558
                                refine lv_aload hx hb dL_law_561 (lv_at hl 6 rfl) ?_
                                obtain ⟨wq563, fs563, g563, hq563, hv563, hm⟩ := hm
                                refine mr_get (ci := 10) (C := RX10) (T := TX10) (N := 17) hx hb hts hi_10 hown hK (mRd hK hP hZ hS) hq563 rfl 7 (by decide) (hts (.fieldLink RL 272 "HubTrainsLaw$Table" "isOver" "Z") (tin_c [.fieldLink RL 272 "HubTrainsLaw$Table" "isOver" "Z"] [(1, 230)] rfl _ (List.mem_singleton.mpr rfl))) (fun _ h9 => h9) hv563 dL_law_563 ?_
                                refine lv_if_eq (tgt := 573) hx hb dL_law_566 (by decide) (fun c_566 => ?_) (fun c_566 => ?_)
                                · replace hm := hm.1 c_566
                                  exact J_573 mc_527 ms_527 cl_527 sl_527 H locs ls ⟨by omega, by omega⟩ hP hD hS (lv_sub hl [2, 3, 4, 5, 6, 7, 8, 9, 10, 1, 0] rfl) hm
                                · replace hm := hm.2 c_566
                                  refine lv_iconst (v := 1) hx hb dL_law_569 (by decide) ?_
                                  refine lv_goto (tgt := 574) hx hb dL_law_570 (by decide) ?_
                                  exact J_574 mc_527 ms_527 (1 : Int32) cl_527 sl_527 H locs ls ⟨by omega, by omega⟩ hP hD hS (lv_sub hl [2, 3, 4, 5, 6, 7, 8, 9, 10, 1, 0] rfl) hm

set_option maxHeartbeats 4000000 in
set_option maxRecDepth 100000 in
theorem hj_L_law_J714 {p : Program} {l : Launch} (hl0 : l.stackTraces = false) {e : Env} {s : State} {m : MethodId} {args : Array Value} {below : List Frame} {meth : Method} {c1 : Code} {A : Nat → Prop} {Q : State → Prop} {G : va_G} {K : (Nat → Nat) × (Nat → Nat)} {c : Nat → ClassId} {mc ms : Nat} {post : Int32 → HW → Prop} (hx : p.tables.exec = Jvm.exec) (hb : c1.code = code) (hml : c1.maxLocals = 20) (hown : s.vm.findClass RL = some m.cls) (hts : ∀ w ∈ lw_tb2, w.before args s = true) (hK : va_K G vwCl (TY c) s) (hN : NW K s) (hZ : ZE K A s s.heap) (hXX : XX s) (hA : ∀ q : Nat, s.heap.size ≤ q → A q) (hend : ∀ (H : Heap) (locs : List Loc) (ls : Array Slot) (pc cells slots : Nat) (v : Int32) (h1 : HW), cells ≤ mc → slots ≤ ms → narrow .boolean (.int v) = .int v → post v h1 → mP G K h1 H → mD A h1 → va_S A s.heap H locs → decode code pc = .ok (.ireturn, 1) → W p l e (rm_L_law mc ms) s m args below meth c1 H locs cells slots Q (F0 m pc ls [.int v])) (b : Nat) (v2_4 : Int32) (q19 : Nat) (q33 : Nat) (a163 : Nat) (q196 : Nat) (rec_207 : HW → Nat → Nat → Int32 → Int32 → Int32 → Prop) (v8_207 : Int32) (v9_207 : Int32) (a220 : Nat) (h703 : HW) (J_797 : ∀ (h_797 : HW) (mc_797 ms_797 : Nat) (v1_797 : Int32) (v11_797 : Int32) (cl_797 sl_797 : Nat) (H : Heap) (locs : List Loc) (ls : Array Slot), cl_797 + mc_797 ≤ mc ∧ sl_797 + ms_797 ≤ ms → mP G K h_797 H → mD A h_797 → va_S A s.heap H locs → lv_has ls 20 [(0, .ref b), (1, .int v1_797), (2, .int v2_4), (3, .ref q19), (5, .ref q33), (6, .ref a163), (7, .ref q196), (8, .int v8_207), (9, .int v9_207), (10, .ref a220), (11, .int v11_797)] → w_L_law_J797 c K q19 a163 q196 rec_207 v8_207 v9_207 a220 h_797 mc_797 ms_797 v1_797 v11_797 → W p l e (rm_L_law mc ms) s m args below meth c1 H locs cl_797 sl_797 Q (F0 m 797 ls [])) : ∀ (mc_714 ms_714 : Nat) (s0_714 : Int32) (cl_714 sl_714 : Nat) (H : Heap) (locs : List Loc) (ls : Array Slot), cl_714 + mc_714 ≤ mc ∧ sl_714 + ms_714 ≤ ms → mP G K h703 H → mD A h703 → va_S A s.heap H locs → lv_has ls 20 [(0, .ref b), (2, .int v2_4), (3, .ref q19), (5, .ref q33), (6, .ref a163), (7, .ref q196), (8, .int v8_207), (9, .int v9_207), (10, .ref a220), (11, .int (1 : Int32))] → w_L_law_J714 c K q19 a163 q196 rec_207 v8_207 v9_207 a220 h703 mc_714 ms_714 s0_714 → W p l e (rm_L_law mc ms) s m args below meth c1 H locs cl_714 sl_714 Q (F0 m 714 ls [.int s0_714]) := by
                                intro mc_714 ms_714 s0_714 cl_714 sl_714 H locs ls hf hP hD hS hl hm
                                unfold w_L_law_J714 at hm
                                refine lv_istore_n (lv' := [(1, .int s0_714), (0, .ref b), (2, .int v2_4), (3, .ref q19), (5, .ref q33), (6, .ref a163), (7, .ref q196), (8, .int v8_207), (9, .int v9_207), (10, .ref a220), (11, .int (1 : Int32))]) hx hb dL_law_714 rfl hl (by decide) rfl (fun ls hl => ?_)
                                refine lv_goto (tgt := 797) hx hb dL_law_715 (by decide) ?_
                                exact J_797 h703 mc_714 ms_714 s0_714 (1 : Int32) cl_714 sl_714 H locs ls ⟨by omega, by omega⟩ hP hD hS (lv_sub hl [1, 0, 2, 3, 4, 5, 6, 7, 8, 9, 10] rfl) hm

set_option maxHeartbeats 4000000 in
set_option maxRecDepth 100000 in
theorem hj_L_law_J682 {p : Program} {l : Launch} (hl0 : l.stackTraces = false) {e : Env} {s : State} {m : MethodId} {args : Array Value} {below : List Frame} {meth : Method} {c1 : Code} {A : Nat → Prop} {Q : State → Prop} {G : va_G} {K : (Nat → Nat) × (Nat → Nat)} {c : Nat → ClassId} {mc ms : Nat} {post : Int32 → HW → Prop} (hx : p.tables.exec = Jvm.exec) (hb : c1.code = code) (hml : c1.maxLocals = 20) (hown : s.vm.findClass RL = some m.cls) (hts : ∀ w ∈ lw_tb2, w.before args s = true) (hK : va_K G vwCl (TY c) s) (hN : NW K s) (hZ : ZE K A s s.heap) (hXX : XX s) (hA : ∀ q : Nat, s.heap.size ≤ q → A q) (hend : ∀ (H : Heap) (locs : List Loc) (ls : Array Slot) (pc cells slots : Nat) (v : Int32) (h1 : HW), cells ≤ mc → slots ≤ ms → narrow .boolean (.int v) = .int v → post v h1 → mP G K h1 H → mD A h1 → va_S A s.heap H locs → decode code pc = .ok (.ireturn, 1) → W p l e (rm_L_law mc ms) s m args below meth c1 H locs cells slots Q (F0 m pc ls [.int v])) (b : Nat) (v2_4 : Int32) (q19 : Nat) (q33 : Nat) (a163 : Nat) (q196 : Nat) (rec_207 : HW → Nat → Nat → Int32 → Int32 → Int32 → Prop) (v8_207 : Int32) (v9_207 : Int32) (a220 : Nat) (h232 : HW) (J_797 : ∀ (h_797 : HW) (mc_797 ms_797 : Nat) (v1_797 : Int32) (v11_797 : Int32) (cl_797 sl_797 : Nat) (H : Heap) (locs : List Loc) (ls : Array Slot), cl_797 + mc_797 ≤ mc ∧ sl_797 + ms_797 ≤ ms → mP G K h_797 H → mD A h_797 → va_S A s.heap H locs → lv_has ls 20 [(0, .ref b), (1, .int v1_797), (2, .int v2_4), (3, .ref q19), (5, .ref q33), (6, .ref a163), (7, .ref q196), (8, .int v8_207), (9, .int v9_207), (10, .ref a220), (11, .int v11_797)] → w_L_law_J797 c K q19 a163 q196 rec_207 v8_207 v9_207 a220 h_797 mc_797 ms_797 v1_797 v11_797 → W p l e (rm_L_law mc ms) s m args below meth c1 H locs cl_797 sl_797 Q (F0 m 797 ls [])) : ∀ (mc_682 ms_682 : Nat) (cl_682 sl_682 : Nat) (H : Heap) (locs : List Loc) (ls : Array Slot), cl_682 + mc_682 ≤ mc ∧ sl_682 + ms_682 ≤ ms → mP G K h232 H → mD A h232 → va_S A s.heap H locs → lv_has ls 20 [(0, .ref b), (2, .int v2_4), (3, .ref q19), (5, .ref q33), (6, .ref a163), (7, .ref q196), (8, .int v8_207), (9, .int v9_207), (10, .ref a220), (11, .int (1 : Int32))] → w_L_law_J682 c K q19 q33 a163 q196 rec_207 v8_207 v9_207 a220 h232 mc_682 ms_682 → W p l e (rm_L_law mc ms) s m args below meth c1 H locs cl_682 sl_682 Q (F0 m 682 ls []) := by
                              intro mc_682 ms_682 cl_682 sl_682 H locs ls hf hP hD hS hl hm
                              unfold w_L_law_J682 at hm
                              refine lv_iconst (v := 1) hx hb dL_law_682 (by decide) ?_
                              refine lv_aload hx hb dL_law_683 (lv_at hl 3 rfl) ?_
                              refine lv_bipush (v := 20) hx hb dL_law_685 (by decide) ?_
                              obtain ⟨⟨wr687, fr687, hrq687⟩, hm⟩ := hm
                              refine hcVi (As := [.int (20 : Int32)]) (rest := [.int (1 : Int32)]) ⟨hx, hb, hml, hown, hts⟩ (h_X9_below l G K c h232 q33 (20 : Int32) _ hm) (cwV 1 hts gL_law_X9_below rfl rfl rfl (heV_X9_below) ⟨Nat.le_of_ble_eq_true rfl, Nat.le_of_ble_eq_true rfl⟩) hK hN hZ hXX hP hD hS hA (mr_recv hK (mRd hK hP hZ hS) (ci := 9) rfl hrq687) rfl hl.1 rfl (Nat.le_of_ble_eq_true rfl) dL_law_687 ⟨by show cl_682 + 0 ≤ mc; omega, by show sl_682 + 0 ≤ ms; omega⟩ (fun r687 h687 H locs hm hP hD hS => ?_)
                              refine lv_iadd hx hb dL_law_690 ?_
                              refine lv_topi (fun x690 ex690 => ?_)
                              replace hm := hm x690 ex690
                              refine lv_istore (lv' := [(18, .int x690), (0, .ref b), (2, .int v2_4), (3, .ref q19), (5, .ref q33), (6, .ref a163), (7, .ref q196), (8, .int v8_207), (9, .int v9_207), (10, .ref a220), (11, .int (1 : Int32))]) hx hb dL_law_691 hl (by decide) rfl (fun ls hl => ?_)
                              refine lv_aload_n hx hb dL_law_693 rfl (lv_at hl 3 rfl) ?_
                              refine lv_iload hx hb dL_law_694 (lv_at hl 0 rfl) ?_
                              obtain ⟨m696, z696, mB696, zB696, hbm696, hbs696, hm⟩ := hm
                              refine hcSWi (As := [.ref q19, .int x690]) (rest := []) ⟨hx, hb, hml, hown, hts⟩ (h_L_auto l hl0 G K c h687 q19 x690 m696 z696 _ hm) (vx_cwSW 2 hts gL_law_L_auto rfl rfl rfl he_L_auto ⟨Nat.le_of_ble_eq_true rfl, Nat.le_of_ble_eq_true rfl⟩) hK hN hZ hXX hP hD hS hA rfl hl.1 rfl (Nat.le_of_ble_eq_true rfl) dL_law_696 ⟨by show cl_682 + m696 ≤ mc; omega, by show sl_682 + z696 ≤ ms; omega⟩ (fun r696 h696 H locs hm hP hD hS => ?_)
                              replace hf : (cl_682 + m696) + mB696 ≤ mc ∧ (sl_682 + z696) + zB696 ≤ ms := ⟨by omega, by omega⟩
                              clear hbm696 hbs696
                              refine lv_aload hx hb dL_law_699 (lv_at hl 5 rfl) ?_
                              refine lv_iload hx hb dL_law_701 (lv_at hl 0 rfl) ?_
                              obtain ⟨⟨wr703, fr703, hrq703⟩, hm⟩ := hm
                              obtain ⟨m703, z703, mB703, zB703, hbm703, hbs703, hm⟩ := hm
                              refine hcVi (As := [.int x690]) (rest := [.int r696]) ⟨hx, hb, hml, hown, hts⟩ (h_X10_goesOn l G K c h696 a163 x690 m703 z703 _ hm) (cwV 1 hts gL_law_X10_goesOn rfl rfl rfl (heV_X10_goesOn) ⟨Nat.le_of_ble_eq_true rfl, Nat.le_of_ble_eq_true rfl⟩) hK hN hZ hXX hP hD hS hA (mr_recv hK (mRd hK hP hZ hS) (ci := 10) rfl hrq703) rfl hl.1 rfl (Nat.le_of_ble_eq_true rfl) dL_law_703 ⟨by show (cl_682 + m696) + m703 ≤ mc; omega, by show (sl_682 + z696) + z703 ≤ ms; omega⟩ (fun r703 h703 H locs hm hP hD hS => ?_)
                              replace hf : ((cl_682 + m696) + m703) + mB703 ≤ mc ∧ ((sl_682 + z696) + z703) + zB703 ≤ ms := ⟨by omega, by omega⟩
                              clear hbm703 hbs703
                              have J_714 := hj_L_law_J714 hl0 hx hb hml hown hts hK hN hZ hXX hA hend b v2_4 q19 q33 a163 q196 rec_207 v8_207 v9_207 a220 h703 J_797 
                              refine lv_icmp_ne (tgt := 713) hx hb dL_law_706 (by decide) (fun c_706 => ?_) (fun c_706 => ?_)
                              · replace hm := hm.2 c_706
                                refine lv_iconst (v := 0) hx hb dL_law_713 (by decide) ?_
                                exact J_714 mB703 zB703 (0 : Int32) ((cl_682 + m696) + m703) ((sl_682 + z696) + z703) H locs ls ⟨by omega, by omega⟩ hP hD hS (lv_sub hl [1, 2, 3, 4, 5, 6, 7, 8, 9, 10] rfl) hm
                              · replace hm := hm.1 c_706
                                refine lv_iconst (v := 1) hx hb dL_law_709 (by decide) ?_
                                refine lv_goto (tgt := 714) hx hb dL_law_710 (by decide) ?_
                                exact J_714 mB703 zB703 (1 : Int32) ((cl_682 + m696) + m703) ((sl_682 + z696) + z703) H locs ls ⟨by omega, by omega⟩ hP hD hS (lv_sub hl [1, 2, 3, 4, 5, 6, 7, 8, 9, 10] rfl) hm

set_option maxHeartbeats 4000000 in
set_option maxRecDepth 100000 in
theorem hj_L_law_J796 {p : Program} {l : Launch} (hl0 : l.stackTraces = false) {e : Env} {s : State} {m : MethodId} {args : Array Value} {below : List Frame} {meth : Method} {c1 : Code} {A : Nat → Prop} {Q : State → Prop} {G : va_G} {K : (Nat → Nat) × (Nat → Nat)} {c : Nat → ClassId} {mc ms : Nat} {post : Int32 → HW → Prop} (hx : p.tables.exec = Jvm.exec) (hb : c1.code = code) (hml : c1.maxLocals = 20) (hown : s.vm.findClass RL = some m.cls) (hts : ∀ w ∈ lw_tb2, w.before args s = true) (hK : va_K G vwCl (TY c) s) (hN : NW K s) (hZ : ZE K A s s.heap) (hXX : XX s) (hA : ∀ q : Nat, s.heap.size ≤ q → A q) (hend : ∀ (H : Heap) (locs : List Loc) (ls : Array Slot) (pc cells slots : Nat) (v : Int32) (h1 : HW), cells ≤ mc → slots ≤ ms → narrow .boolean (.int v) = .int v → post v h1 → mP G K h1 H → mD A h1 → va_S A s.heap H locs → decode code pc = .ok (.ireturn, 1) → W p l e (rm_L_law mc ms) s m args below meth c1 H locs cells slots Q (F0 m pc ls [.int v])) (b : Nat) (v2_4 : Int32) (q19 : Nat) (q33 : Nat) (a163 : Nat) (q196 : Nat) (rec_207 : HW → Nat → Nat → Int32 → Int32 → Int32 → Prop) (v8_207 : Int32) (v9_207 : Int32) (a220 : Nat) (s0_735 : Int32) (h784 : HW) (J_797 : ∀ (h_797 : HW) (mc_797 ms_797 : Nat) (v1_797 : Int32) (v11_797 : Int32) (cl_797 sl_797 : Nat) (H : Heap) (locs : List Loc) (ls : Array Slot), cl_797 + mc_797 ≤ mc ∧ sl_797 + ms_797 ≤ ms → mP G K h_797 H → mD A h_797 → va_S A s.heap H locs → lv_has ls 20 [(0, .ref b), (1, .int v1_797), (2, .int v2_4), (3, .ref q19), (5, .ref q33), (6, .ref a163), (7, .ref q196), (8, .int v8_207), (9, .int v9_207), (10, .ref a220), (11, .int v11_797)] → w_L_law_J797 c K q19 a163 q196 rec_207 v8_207 v9_207 a220 h_797 mc_797 ms_797 v1_797 v11_797 → W p l e (rm_L_law mc ms) s m args below meth c1 H locs cl_797 sl_797 Q (F0 m 797 ls [])) : ∀ (mc_796 ms_796 : Nat) (s0_796 : Int32) (cl_796 sl_796 : Nat) (H : Heap) (locs : List Loc) (ls : Array Slot), cl_796 + mc_796 ≤ mc ∧ sl_796 + ms_796 ≤ ms → mP G K h784 H → mD A h784 → va_S A s.heap H locs → lv_has ls 20 [(0, .ref b), (2, .int v2_4), (3, .ref q19), (5, .ref q33), (6, .ref a163), (7, .ref q196), (8, .int v8_207), (9, .int v9_207), (10, .ref a220), (11, .int s0_735)] → w_L_law_J796 c K q19 a163 q196 rec_207 v8_207 v9_207 a220 s0_735 h784 mc_796 ms_796 s0_796 → W p l e (rm_L_law mc ms) s m args below meth c1 H locs cl_796 sl_796 Q (F0 m 796 ls [.int s0_796]) := by
                                    intro mc_796 ms_796 s0_796 cl_796 sl_796 H locs ls hf hP hD hS hl hm
                                    unfold w_L_law_J796 at hm
                                    refine lv_istore_n (lv' := [(1, .int s0_796), (0, .ref b), (2, .int v2_4), (3, .ref q19), (5, .ref q33), (6, .ref a163), (7, .ref q196), (8, .int v8_207), (9, .int v9_207), (10, .ref a220), (11, .int s0_735)]) hx hb dL_law_796 rfl hl (by decide) rfl (fun ls hl => ?_)
                                    exact J_797 h784 mc_796 ms_796 s0_796 s0_735 cl_796 sl_796 H locs ls ⟨by omega, by omega⟩ hP hD hS (lv_sub hl [1, 0, 2, 3, 4, 5, 6, 7, 8, 9, 10] rfl) hm

set_option maxHeartbeats 4000000 in
set_option maxRecDepth 100000 in
theorem hj_L_law_J779 {p : Program} {l : Launch} (hl0 : l.stackTraces = false) {e : Env} {s : State} {m : MethodId} {args : Array Value} {below : List Frame} {meth : Method} {c1 : Code} {A : Nat → Prop} {Q : State → Prop} {G : va_G} {K : (Nat → Nat) × (Nat → Nat)} {c : Nat → ClassId} {mc ms : Nat} {post : Int32 → HW → Prop} (hx : p.tables.exec = Jvm.exec) (hb : c1.code = code) (hml : c1.maxLocals = 20) (hown : s.vm.findClass RL = some m.cls) (hts : ∀ w ∈ lw_tb2, w.before args s = true) (hK : va_K G vwCl (TY c) s) (hN : NW K s) (hZ : ZE K A s s.heap) (hXX : XX s) (hA : ∀ q : Nat, s.heap.size ≤ q → A q) (hend : ∀ (H : Heap) (locs : List Loc) (ls : Array Slot) (pc cells slots : Nat) (v : Int32) (h1 : HW), cells ≤ mc → slots ≤ ms → narrow .boolean (.int v) = .int v → post v h1 → mP G K h1 H → mD A h1 → va_S A s.heap H locs → decode code pc = .ok (.ireturn, 1) → W p l e (rm_L_law mc ms) s m args below meth c1 H locs cells slots Q (F0 m pc ls [.int v])) (b : Nat) (v2_4 : Int32) (q19 : Nat) (q33 : Nat) (a163 : Nat) (q196 : Nat) (rec_207 : HW → Nat → Nat → Int32 → Int32 → Int32 → Prop) (v8_207 : Int32) (v9_207 : Int32) (a220 : Nat) (s0_735 : Int32) (h768 : HW) (J_797 : ∀ (h_797 : HW) (mc_797 ms_797 : Nat) (v1_797 : Int32) (v11_797 : Int32) (cl_797 sl_797 : Nat) (H : Heap) (locs : List Loc) (ls : Array Slot), cl_797 + mc_797 ≤ mc ∧ sl_797 + ms_797 ≤ ms → mP G K h_797 H → mD A h_797 → va_S A s.heap H locs → lv_has ls 20 [(0, .ref b), (1, .int v1_797), (2, .int v2_4), (3, .ref q19), (5, .ref q33), (6, .ref a163), (7, .ref q196), (8, .int v8_207), (9, .int v9_207), (10, .ref a220), (11, .int v11_797)] → w_L_law_J797 c K q19 a163 q196 rec_207 v8_207 v9_207 a220 h_797 mc_797 ms_797 v1_797 v11_797 → W p l e (rm_L_law mc ms) s m args below meth c1 H locs cl_797 sl_797 Q (F0 m 797 ls [])) : ∀ (mc_779 ms_779 : Nat) (s0_779 : Int32) (cl_779 sl_779 : Nat) (H : Heap) (locs : List Loc) (ls : Array Slot), cl_779 + mc_779 ≤ mc ∧ sl_779 + ms_779 ≤ ms → mP G K h768 H → mD A h768 → va_S A s.heap H locs → lv_has ls 20 [(0, .ref b), (2, .int v2_4), (3, .ref q19), (5, .ref q33), (6, .ref a163), (7, .ref q196), (8, .int v8_207), (9, .int v9_207), (10, .ref a220), (11, .int s0_735)] → w_L_law_J779 c K q19 a163 q196 rec_207 v8_207 v9_207 a220 s0_735 h768 mc_779 ms_779 s0_779 → W p l e (rm_L_law mc ms) s m args below meth c1 H locs cl_779 sl_779 Q (F0 m 779 ls [.int s0_779]) := by
                                    intro mc_779 ms_779 s0_779 cl_779 sl_779 H locs ls hf hP hD hS hl hm
                                    unfold w_L_law_J779 at hm
                                    refine lv_istore_n (lv' := [(1, .int s0_779), (0, .ref b), (2, .int v2_4), (3, .ref q19), (5, .ref q33), (6, .ref a163), (7, .ref q196), (8, .int v8_207), (9, .int v9_207), (10, .ref a220), (11, .int s0_735)]) hx hb dL_law_779 rfl hl (by decide) rfl (fun ls hl => ?_)
                                    refine lv_goto (tgt := 797) hx hb dL_law_780 (by decide) ?_
                                    exact J_797 h768 mc_779 ms_779 s0_779 s0_735 cl_779 sl_779 H locs ls ⟨by omega, by omega⟩ hP hD hS (lv_sub hl [1, 0, 2, 3, 4, 5, 6, 7, 8, 9, 10] rfl) hm

set_option maxHeartbeats 4000000 in
set_option maxRecDepth 100000 in
theorem hj_L_law_J735 {p : Program} {l : Launch} (hl0 : l.stackTraces = false) {e : Env} {s : State} {m : MethodId} {args : Array Value} {below : List Frame} {meth : Method} {c1 : Code} {A : Nat → Prop} {Q : State → Prop} {G : va_G} {K : (Nat → Nat) × (Nat → Nat)} {c : Nat → ClassId} {mc ms : Nat} {post : Int32 → HW → Prop} (hx : p.tables.exec = Jvm.exec) (hb : c1.code = code) (hml : c1.maxLocals = 20) (hown : s.vm.findClass RL = some m.cls) (hts : ∀ w ∈ lw_tb2, w.before args s = true) (hK : va_K G vwCl (TY c) s) (hN : NW K s) (hZ : ZE K A s s.heap) (hXX : XX s) (hA : ∀ q : Nat, s.heap.size ≤ q → A q) (hend : ∀ (H : Heap) (locs : List Loc) (ls : Array Slot) (pc cells slots : Nat) (v : Int32) (h1 : HW), cells ≤ mc → slots ≤ ms → narrow .boolean (.int v) = .int v → post v h1 → mP G K h1 H → mD A h1 → va_S A s.heap H locs → decode code pc = .ok (.ireturn, 1) → W p l e (rm_L_law mc ms) s m args below meth c1 H locs cells slots Q (F0 m pc ls [.int v])) (b : Nat) (v2_4 : Int32) (q19 : Nat) (q33 : Nat) (a163 : Nat) (q196 : Nat) (rec_207 : HW → Nat → Nat → Int32 → Int32 → Int32 → Prop) (v8_207 : Int32) (v9_207 : Int32) (a220 : Nat) (r720 : Int32) (h720 : HW) (J_797 : ∀ (h_797 : HW) (mc_797 ms_797 : Nat) (v1_797 : Int32) (v11_797 : Int32) (cl_797 sl_797 : Nat) (H : Heap) (locs : List Loc) (ls : Array Slot), cl_797 + mc_797 ≤ mc ∧ sl_797 + ms_797 ≤ ms → mP G K h_797 H → mD A h_797 → va_S A s.heap H locs → lv_has ls 20 [(0, .ref b), (1, .int v1_797), (2, .int v2_4), (3, .ref q19), (5, .ref q33), (6, .ref a163), (7, .ref q196), (8, .int v8_207), (9, .int v9_207), (10, .ref a220), (11, .int v11_797)] → w_L_law_J797 c K q19 a163 q196 rec_207 v8_207 v9_207 a220 h_797 mc_797 ms_797 v1_797 v11_797 → W p l e (rm_L_law mc ms) s m args below meth c1 H locs cl_797 sl_797 Q (F0 m 797 ls [])) : ∀ (mc_735 ms_735 : Nat) (s0_735 : Int32) (cl_735 sl_735 : Nat) (H : Heap) (locs : List Loc) (ls : Array Slot), cl_735 + mc_735 ≤ mc ∧ sl_735 + ms_735 ≤ ms → mP G K h720 H → mD A h720 → va_S A s.heap H locs → lv_has ls 20 [(0, .ref b), (2, .int v2_4), (3, .ref q19), (5, .ref q33), (6, .ref a163), (7, .ref q196), (8, .int v8_207), (9, .int v9_207), (10, .ref a220), (19, .int r720)] → w_L_law_J735 c K q19 a163 q196 rec_207 v8_207 v9_207 a220 r720 h720 mc_735 ms_735 s0_735 → W p l e (rm_L_law mc ms) s m args below meth c1 H locs cl_735 sl_735 Q (F0 m 735 ls [.int s0_735]) := by
                                intro mc_735 ms_735 s0_735 cl_735 sl_735 H locs ls hf hP hD hS hl hm
                                unfold w_L_law_J735 at hm
                                refine lv_istore (lv' := [(11, .int s0_735), (0, .ref b), (2, .int v2_4), (3, .ref q19), (5, .ref q33), (6, .ref a163), (7, .ref q196), (8, .int v8_207), (9, .int v9_207), (10, .ref a220), (19, .int r720)]) hx hb dL_law_735 hl (by decide) rfl (fun ls hl => ?_)
                                refine lv_iload hx hb dL_law_737 (lv_at hl 0 rfl) ?_
                                refine lv_if_eq (tgt := 783) hx hb dL_law_739 (by decide) (fun c_739 => ?_) (fun c_739 => ?_)
                                · replace hm := hm.1 c_739
                                  refine lv_aload_n hx hb dL_law_783 rfl (lv_at hl 3 rfl) ?_
                                  obtain ⟨⟨wr784, fr784, hrq784⟩, hm⟩ := hm
                                  refine hcVi (As := []) (rest := []) ⟨hx, hb, hml, hown, hts⟩ (h_X7_best l G K c h720 q19 _ hm) (cwV 0 hts gL_law_X7_best rfl rfl rfl (heV_X7_best) ⟨Nat.le_of_ble_eq_true rfl, Nat.le_of_ble_eq_true rfl⟩) hK hN hZ hXX hP hD hS hA (mr_recv hK (mRd hK hP hZ hS) (ci := 7) rfl hrq784) rfl hl.1 rfl (Nat.le_of_ble_eq_true rfl) dL_law_784 ⟨by show cl_735 + 0 ≤ mc; omega, by show sl_735 + 0 ≤ ms; omega⟩ (fun r784 h784 H locs hm hP hD hS => ?_)
                                  refine lv_iconst (v := (-1)) hx hb dL_law_787 (by decide) ?_
                                  have J_796 := hj_L_law_J796 hl0 hx hb hml hown hts hK hN hZ hXX hA hend b v2_4 q19 q33 a163 q196 rec_207 v8_207 v9_207 a220 s0_735 h784 J_797 
                                  refine lv_icmp_ne (tgt := 795) hx hb dL_law_788 (by decide) (fun c_788 => ?_) (fun c_788 => ?_)
                                  · replace hm := hm.2 c_788
                                    refine lv_iconst (v := 0) hx hb dL_law_795 (by decide) ?_
                                    exact J_796 mc_735 ms_735 (0 : Int32) cl_735 sl_735 H locs ls ⟨by omega, by omega⟩ hP hD hS (lv_sub hl [1, 2, 3, 4, 5, 6, 7, 8, 9, 0] rfl) hm
                                  · replace hm := hm.1 c_788
                                    refine lv_iconst (v := 1) hx hb dL_law_791 (by decide) ?_
                                    refine lv_goto (tgt := 796) hx hb dL_law_792 (by decide) ?_
                                    exact J_796 mc_735 ms_735 (1 : Int32) cl_735 sl_735 H locs ls ⟨by omega, by omega⟩ hP hD hS (lv_sub hl [1, 2, 3, 4, 5, 6, 7, 8, 9, 0] rfl) hm
                                · replace hm := hm.2 c_739
                                  refine lv_aload_n hx hb dL_law_742 rfl (lv_at hl 3 rfl) ?_
                                  refine lv_iload hx hb dL_law_743 (lv_at hl 10 rfl) ?_
                                  refine lv_bipush (v := 10) hx hb dL_law_745 (by decide) ?_
                                  refine lv_idiv hx hb dL_law_747 (by decide) ?_
                                  refine lv_topi (fun x747 ex747 => ?_)
                                  replace hm := hm x747 ex747
                                  refine lv_iload hx hb dL_law_748 (lv_at hl 10 rfl) ?_
                                  refine lv_bipush (v := 10) hx hb dL_law_750 (by decide) ?_
                                  refine lv_irem hx hb dL_law_752 (by decide) ?_
                                  refine lv_topi (fun x752 ex752 => ?_)
                                  replace hm := hm x752 ex752
                                  obtain ⟨m753, z753, mB753, zB753, hbm753, hbs753, hm⟩ := hm
                                  refine hcSWi (As := [.ref q19, .int x747, .int x752]) (rest := []) ⟨hx, hb, hml, hown, hts⟩ (h_L_play l hl0 G K c h720 q19 x747 x752 m753 z753 _ hm) (vx_cwSW 3 hts gL_law_L_play rfl rfl rfl he_L_play ⟨Nat.le_of_ble_eq_true rfl, Nat.le_of_ble_eq_true rfl⟩) hK hN hZ hXX hP hD hS hA rfl hl.1 rfl (Nat.le_of_ble_eq_true rfl) dL_law_753 ⟨by show cl_735 + m753 ≤ mc; omega, by show sl_735 + z753 ≤ ms; omega⟩ (fun r753 h753 H locs hm hP hD hS => ?_)
                                  replace hf : (cl_735 + m753) + mB753 ≤ mc ∧ (sl_735 + z753) + zB753 ≤ ms := ⟨by omega, by omega⟩
                                  clear hbm753 hbs753
                                  refine lv_aload hx hb dL_law_756 (lv_at hl 5 rfl) ?_
                                  refine lv_iload hx hb dL_law_758 (lv_at hl 10 rfl) ?_
                                  refine lv_bipush (v := 10) hx hb dL_law_760 (by decide) ?_
                                  refine lv_idiv hx hb dL_law_762 (by decide) ?_
                                  refine lv_topi (fun x762 ex762 => ?_)
                                  replace hm := hm x762 ex762
                                  refine lv_iload hx hb dL_law_763 (lv_at hl 10 rfl) ?_
                                  refine lv_bipush (v := 10) hx hb dL_law_765 (by decide) ?_
                                  refine lv_irem hx hb dL_law_767 (by decide) ?_
                                  refine lv_topi (fun x767 ex767 => ?_)
                                  replace hm := hm x767 ex767
                                  obtain ⟨⟨wr768, fr768, hrq768⟩, hm⟩ := hm
                                  obtain ⟨m768, z768, mB768, zB768, hbm768, hbs768, hm⟩ := hm
                                  refine hcVi (As := [.int x762, .int x767]) (rest := [.int r753]) ⟨hx, hb, hml, hown, hts⟩ (h_X10_plays_ l G K c h753 a163 x762 x767 m768 z768 _ hm) (cwV 2 hts gL_law_X10_plays_ rfl rfl rfl (heV_X10_plays_) ⟨Nat.le_of_ble_eq_true rfl, Nat.le_of_ble_eq_true rfl⟩) hK hN hZ hXX hP hD hS hA (mr_recv hK (mRd hK hP hZ hS) (ci := 10) rfl hrq768) rfl hl.1 rfl (Nat.le_of_ble_eq_true rfl) dL_law_768 ⟨by show (cl_735 + m753) + m768 ≤ mc; omega, by show (sl_735 + z753) + z768 ≤ ms; omega⟩ (fun r768 h768 H locs hm hP hD hS => ?_)
                                  replace hf : ((cl_735 + m753) + m768) + mB768 ≤ mc ∧ ((sl_735 + z753) + z768) + zB768 ≤ ms := ⟨by omega, by omega⟩
                                  clear hbm768 hbs768
                                  have J_779 := hj_L_law_J779 hl0 hx hb hml hown hts hK hN hZ hXX hA hend b v2_4 q19 q33 a163 q196 rec_207 v8_207 v9_207 a220 s0_735 h768 J_797 
                                  refine lv_icmp_ne (tgt := 778) hx hb dL_law_771 (by decide) (fun c_771 => ?_) (fun c_771 => ?_)
                                  · replace hm := hm.2 c_771
                                    refine lv_iconst (v := 0) hx hb dL_law_778 (by decide) ?_
                                    exact J_779 mB768 zB768 (0 : Int32) ((cl_735 + m753) + m768) ((sl_735 + z753) + z768) H locs ls ⟨by omega, by omega⟩ hP hD hS (lv_sub hl [1, 2, 3, 4, 5, 6, 7, 8, 9, 0] rfl) hm
                                  · replace hm := hm.1 c_771
                                    refine lv_iconst (v := 1) hx hb dL_law_774 (by decide) ?_
                                    refine lv_goto (tgt := 779) hx hb dL_law_775 (by decide) ?_
                                    exact J_779 mB768 zB768 (1 : Int32) ((cl_735 + m753) + m768) ((sl_735 + z753) + z768) H locs ls ⟨by omega, by omega⟩ hP hD hS (lv_sub hl [1, 2, 3, 4, 5, 6, 7, 8, 9, 0] rfl) hm

set_option maxHeartbeats 4000000 in
set_option maxRecDepth 100000 in
theorem hj_L_law_J718 {p : Program} {l : Launch} (hl0 : l.stackTraces = false) {e : Env} {s : State} {m : MethodId} {args : Array Value} {below : List Frame} {meth : Method} {c1 : Code} {A : Nat → Prop} {Q : State → Prop} {G : va_G} {K : (Nat → Nat) × (Nat → Nat)} {c : Nat → ClassId} {mc ms : Nat} {post : Int32 → HW → Prop} (hx : p.tables.exec = Jvm.exec) (hb : c1.code = code) (hml : c1.maxLocals = 20) (hown : s.vm.findClass RL = some m.cls) (hts : ∀ w ∈ lw_tb2, w.before args s = true) (hK : va_K G vwCl (TY c) s) (hN : NW K s) (hZ : ZE K A s s.heap) (hXX : XX s) (hA : ∀ q : Nat, s.heap.size ≤ q → A q) (hend : ∀ (H : Heap) (locs : List Loc) (ls : Array Slot) (pc cells slots : Nat) (v : Int32) (h1 : HW), cells ≤ mc → slots ≤ ms → narrow .boolean (.int v) = .int v → post v h1 → mP G K h1 H → mD A h1 → va_S A s.heap H locs → decode code pc = .ok (.ireturn, 1) → W p l e (rm_L_law mc ms) s m args below meth c1 H locs cells slots Q (F0 m pc ls [.int v])) (b : Nat) (v2_4 : Int32) (q19 : Nat) (q33 : Nat) (a163 : Nat) (q196 : Nat) (rec_207 : HW → Nat → Nat → Int32 → Int32 → Int32 → Prop) (v8_207 : Int32) (v9_207 : Int32) (a220 : Nat) (h232 : HW) (J_797 : ∀ (h_797 : HW) (mc_797 ms_797 : Nat) (v1_797 : Int32) (v11_797 : Int32) (cl_797 sl_797 : Nat) (H : Heap) (locs : List Loc) (ls : Array Slot), cl_797 + mc_797 ≤ mc ∧ sl_797 + ms_797 ≤ ms → mP G K h_797 H → mD A h_797 → va_S A s.heap H locs → lv_has ls 20 [(0, .ref b), (1, .int v1_797), (2, .int v2_4), (3, .ref q19), (5, .ref q33), (6, .ref a163), (7, .ref q196), (8, .int v8_207), (9, .int v9_207), (10, .ref a220), (11, .int v11_797)] → w_L_law_J797 c K q19 a163 q196 rec_207 v8_207 v9_207 a220 h_797 mc_797 ms_797 v1_797 v11_797 → W p l e (rm_L_law mc ms) s m args below meth c1 H locs cl_797 sl_797 Q (F0 m 797 ls [])) : ∀ (mc_718 ms_718 : Nat) (cl_718 sl_718 : Nat) (H : Heap) (locs : List Loc) (ls : Array Slot), cl_718 + mc_718 ≤ mc ∧ sl_718 + ms_718 ≤ ms → mP G K h232 H → mD A h232 → va_S A s.heap H locs → lv_has ls 20 [(0, .ref b), (2, .int v2_4), (3, .ref q19), (5, .ref q33), (6, .ref a163), (7, .ref q196), (8, .int v8_207), (9, .int v9_207), (10, .ref a220)] → w_L_law_J718 c K q19 a163 q196 rec_207 v8_207 v9_207 a220 h232 mc_718 ms_718 → W p l e (rm_L_law mc ms) s m args below meth c1 H locs cl_718 sl_718 Q (F0 m 718 ls []) := by
                              intro mc_718 ms_718 cl_718 sl_718 H locs ls hf hP hD hS hl hm
                              unfold w_L_law_J718 at hm
                              refine lv_aload hx hb dL_law_718 (lv_at hl 4 rfl) ?_
                              obtain ⟨⟨wr720, fr720, hrq720⟩, hm⟩ := hm
                              refine hcVi (As := []) (rest := []) ⟨hx, hb, hml, hown, hts⟩ (h_X10_best l G K c h232 a163 _ hm) (cwV 0 hts gL_law_X10_best rfl rfl rfl (heV_X10_best) ⟨Nat.le_of_ble_eq_true rfl, Nat.le_of_ble_eq_true rfl⟩) hK hN hZ hXX hP hD hS hA (mr_recv hK (mRd hK hP hZ hS) (ci := 10) rfl hrq720) rfl hl.1 rfl (Nat.le_of_ble_eq_true rfl) dL_law_720 ⟨by show cl_718 + 0 ≤ mc; omega, by show sl_718 + 0 ≤ ms; omega⟩ (fun r720 h720 H locs hm hP hD hS => ?_)
                              refine lv_istore (lv' := [(19, .int r720), (0, .ref b), (2, .int v2_4), (3, .ref q19), (5, .ref q33), (6, .ref a163), (7, .ref q196), (8, .int v8_207), (9, .int v9_207), (10, .ref a220)]) hx hb dL_law_723 hl (by decide) rfl (fun ls hl => ?_)
                              refine lv_iload hx hb dL_law_725 (lv_at hl 0 rfl) ?_
                              have J_735 := hj_L_law_J735 hl0 hx hb hml hown hts hK hN hZ hXX hA hend b v2_4 q19 q33 a163 q196 rec_207 v8_207 v9_207 a220 r720 h720 J_797 
                              refine lv_if_lt (tgt := 734) hx hb dL_law_727 (by decide) (fun c_727 => ?_) (fun c_727 => ?_)
                              · replace hm := hm.1 c_727
                                refine lv_iconst (v := 0) hx hb dL_law_734 (by decide) ?_
                                exact J_735 mc_718 ms_718 (0 : Int32) cl_718 sl_718 H locs ls ⟨by omega, by omega⟩ hP hD hS (lv_sub hl [1, 2, 3, 4, 5, 6, 7, 8, 9, 0] rfl) hm
                              · replace hm := hm.2 c_727
                                refine lv_iconst (v := 1) hx hb dL_law_730 (by decide) ?_
                                refine lv_goto (tgt := 735) hx hb dL_law_731 (by decide) ?_
                                exact J_735 mc_718 ms_718 (1 : Int32) cl_718 sl_718 H locs ls ⟨by omega, by omega⟩ hP hD hS (lv_sub hl [1, 2, 3, 4, 5, 6, 7, 8, 9, 0] rfl) hm

set_option maxHeartbeats 4000000 in
set_option maxRecDepth 100000 in
theorem hj_L_law_J194 {p : Program} {l : Launch} (hl0 : l.stackTraces = false) {e : Env} {s : State} {m : MethodId} {args : Array Value} {below : List Frame} {meth : Method} {c1 : Code} {A : Nat → Prop} {Q : State → Prop} {G : va_G} {K : (Nat → Nat) × (Nat → Nat)} {c : Nat → ClassId} {mc ms : Nat} {post : Int32 → HW → Prop} (hx : p.tables.exec = Jvm.exec) (hb : c1.code = code) (hml : c1.maxLocals = 20) (hown : s.vm.findClass RL = some m.cls) (hts : ∀ w ∈ lw_tb2, w.before args s = true) (hK : va_K G vwCl (TY c) s) (hN : NW K s) (hZ : ZE K A s s.heap) (hXX : XX s) (hA : ∀ q : Nat, s.heap.size ≤ q → A q) (hend : ∀ (H : Heap) (locs : List Loc) (ls : Array Slot) (pc cells slots : Nat) (v : Int32) (h1 : HW), cells ≤ mc → slots ≤ ms → narrow .boolean (.int v) = .int v → post v h1 → mP G K h1 H → mD A h1 → va_S A s.heap H locs → decode code pc = .ok (.ireturn, 1) → W p l e (rm_L_law mc ms) s m args below meth c1 H locs cells slots Q (F0 m pc ls [.int v])) (b : Nat) (rec_4 : HW → Nat → Nat → Int32 → Int32 → Prop) (v2_4 : Int32) (q19 : Nat) (q33 : Nat) (a163 : Nat) (h_193 : HW) (ih_4 : ∀ (h_4 : HW) (mc_4 : Nat) (ms_4 : Nat) (v1_4 : Int32) (v2_4 : Int32) (cl_4 sl_4 : Nat) (H : Heap) (locs : List Loc) (ls : Array Slot), cl_4 + mc_4 ≤ mc ∧ sl_4 + ms_4 ≤ ms → mP G K h_4 H → mD A h_4 → va_S A s.heap H locs → lv_has ls 20 [(0, .ref b), (1, .int v1_4), (2, .int v2_4)] → rec_4 h_4 mc_4 ms_4 v1_4 v2_4 → W p l e (rm_L_law mc ms) s m args below meth c1 H locs cl_4 sl_4 Q (F0 m 4 ls [])) : ∀ (mc_194 ms_194 : Nat) (v1_194 : Int32) (cl_194 sl_194 : Nat) (H : Heap) (locs : List Loc) (ls : Array Slot), cl_194 + mc_194 ≤ mc ∧ sl_194 + ms_194 ≤ ms → mP G K h_193 H → mD A h_193 → va_S A s.heap H locs → lv_has ls 20 [(0, .ref b), (1, .int v1_194), (2, .int v2_4), (3, .ref q19), (5, .ref q33), (6, .ref a163)] → w_L_law_J194 c K rec_4 v2_4 q19 q33 a163 h_193 mc_194 ms_194 v1_194 → W p l e (rm_L_law mc ms) s m args below meth c1 H locs cl_194 sl_194 Q (F0 m 194 ls []) := by
                    intro mc_194 ms_194 v1_194 cl_194 sl_194 H locs ls hf hP hD hS hl hm
                    unfold w_L_law_J194 at hm
                    refine lv_bipush (v := 9) hx hb dL_law_194 (by decide) ?_
                    obtain ⟨hn196, hb196, mB196, zB196, hc196, hs196, hm⟩ := hm
                    refine mr_newq (C := "HubTrainsLaw$Table") hx hb hown (hts (.classLink RL 111 RX10) (tin_c [.classLink RL 111 RX10] [(1, 210)] rfl _ (List.mem_singleton.mpr rfl))) hXX.2.2.2.1 hK 6 rfl hP hD hS hA hn196 (c65 hb196 (by decide)) (by show cl_194 + 1 ≤ mc; omega) (by show sl_194 + _ ≤ ms; omega) dL_law_196 (fun q196 H hfr196 hP hD hS => ?_)
                    replace hm := hm q196 hfr196
                    generalize hup h_193 q196 (eQ (c 6) (9 : Int32).toNatClampNeg (fun _ => none)) = h196 at hm hP hD
                    replace hf : (cl_194 + 1) + mB196 ≤ mc ∧ (sl_194 + (9 : Int32).toNatClampNeg) + zB196 ≤ ms := ⟨by omega, by omega⟩
                    clear hc196 hs196 hb196
                    refine lv_astore (lv' := [(7, .ref q196), (0, .ref b), (1, .int v1_194), (2, .int v2_4), (3, .ref q19), (5, .ref q33), (6, .ref a163)]) hx hb dL_law_199 hl (by decide) rfl (fun ls hl => ?_)
                    refine lv_iconst (v := 0) hx hb dL_law_201 (by decide) ?_
                    refine lv_istore (lv' := [(8, .int (0 : Int32)), (7, .ref q196), (0, .ref b), (1, .int v1_194), (2, .int v2_4), (3, .ref q19), (5, .ref q33), (6, .ref a163)]) hx hb dL_law_202 hl (by decide) rfl (fun ls hl => ?_)
                    refine lv_iconst (v := 0) hx hb dL_law_204 (by decide) ?_
                    refine lv_istore (lv' := [(9, .int (0 : Int32)), (8, .int (0 : Int32)), (7, .ref q196), (0, .ref b), (1, .int v1_194), (2, .int v2_4), (3, .ref q19), (5, .ref q33), (6, .ref a163)]) hx hb dL_law_205 hl (by decide) rfl (fun ls hl => ?_)
                    obtain ⟨n_207, hm⟩ := hm
                    have L_207 : ∀ (n_207 : Nat) (h_207 : HW) (mc_207 : Nat) (ms_207 : Nat) (v1_207 : Int32) (v8_207 : Int32) (v9_207 : Int32) (cl_207 sl_207 : Nat) (H : Heap) (locs : List Loc) (ls : Array Slot), cl_207 + mc_207 ≤ mc ∧ sl_207 + ms_207 ≤ ms → mP G K h_207 H → mD A h_207 → va_S A s.heap H locs → lv_has ls 20 [(0, .ref b), (1, .int v1_207), (2, .int v2_4), (3, .ref q19), (5, .ref q33), (6, .ref a163), (7, .ref q196), (8, .int v8_207), (9, .int v9_207)] → itP6 (w_L_law_B207 c K rec_4 v2_4 q19 q33 a163 q196) n_207 h_207 mc_207 ms_207 v1_207 v8_207 v9_207 → W p l e (rm_L_law mc ms) s m args below meth c1 H locs cl_207 sl_207 Q (F0 m 207 ls []) := by
                      intro n_207
                      induction n_207 with
                      | zero => intro h_207 mc_207 ms_207 v1_207 v8_207 v9_207 cl_207 sl_207 H locs ls hf hP hD hS hl hm; exact hm.elim
                      | succ n_207 ih_207 =>
                        intro h_207 mc_207 ms_207 v1_207 v8_207 v9_207 cl_207 sl_207 H locs ls hf hP hD hS hl hm
                        have hm : (w_L_law_B207 c K rec_4 v2_4 q19 q33 a163 q196) (itP6 (w_L_law_B207 c K rec_4 v2_4 q19 q33 a163 q196) n_207) h_207 mc_207 ms_207 v1_207 v8_207 v9_207 := hm
                        generalize itP6 (w_L_law_B207 c K rec_4 v2_4 q19 q33 a163 q196) n_207 = rec_207 at hm ih_207
                        unfold w_L_law_B207 at hm
                        refine lv_iload hx hb dL_law_207 (lv_at hl 8 rfl) ?_
                        refine lv_bipush (v := 22) hx hb dL_law_209 (by decide) ?_
                        have J_863 := hj_L_law_J863 hl0 hx hb hml hown hts hK hN hZ hXX hA hend b rec_4 v2_4 q19 q196 h_207 v1_207 v8_207 ih_4
                        refine lv_icmp_ge (tgt := 863) hx hb dL_law_211 (by decide) (fun c_211 => ?_) (fun c_211 => ?_)
                        · replace hm := hm.1 c_211
                          exact J_863 mc_207 ms_207 cl_207 sl_207 H locs ls ⟨by omega, by omega⟩ hP hD hS (lv_sub hl [0, 1, 2, 3, 6, 7] rfl) hm
                        · replace hm := hm.2 c_211
                          refine lv_iload_n hx hb dL_law_214 rfl (lv_at hl 1 rfl) ?_
                          refine lv_if_eq (tgt := 863) hx hb dL_law_215 (by decide) (fun c_215 => ?_) (fun c_215 => ?_)
                          · replace hm := hm.1 c_215
                            exact J_863 mc_207 ms_207 cl_207 sl_207 H locs ls ⟨by omega, by omega⟩ hP hD hS (lv_sub hl [0, 1, 2, 3, 6, 7] rfl) hm
                          · replace hm := hm.2 c_215
                            refine lv_aload hx hb dL_law_218 (lv_at hl 5 rfl) ?_
                            obtain ⟨⟨wr220, fr220, hrq220⟩, hm⟩ := hm
                            obtain ⟨m220, z220, mB220, zB220, hbm220, hbs220, hm⟩ := hm
                            refine hcVq (As := []) (rest := []) ⟨hx, hb, hml, hown, hts⟩ (h_X10_copy l G K c h_207 a163 m220 z220 _ hm) (cwV 0 hts gL_law_27copy rfl rfl rfl (heV_X10_copy) ⟨Nat.le_of_ble_eq_true rfl, Nat.le_of_ble_eq_true rfl⟩) hK hN hZ hXX hP hD hS hA (mr_recv hK (mRd hK hP hZ hS) (ci := 10) rfl hrq220) rfl hl.1 rfl (Nat.le_of_ble_eq_true rfl) dL_law_220 ⟨by show cl_207 + m220 ≤ mc; omega, by show sl_207 + z220 ≤ ms; omega⟩ (fun r220 h220 H locs hm hP hD hS => ?_)
                            obtain ⟨a220, rfl, hm⟩ := hm
                            replace hf : (cl_207 + m220) + mB220 ≤ mc ∧ (sl_207 + z220) + zB220 ≤ ms := ⟨by omega, by omega⟩
                            clear hbm220 hbs220
                            refine lv_astore (lv' := [(10, .ref a220), (0, .ref b), (1, .int v1_207), (2, .int v2_4), (3, .ref q19), (5, .ref q33), (6, .ref a163), (7, .ref q196), (8, .int v8_207), (9, .int v9_207)]) hx hb dL_law_223 hl (by decide) rfl (fun ls hl => ?_)
                            refine lv_iconst (v := 1) hx hb dL_law_225 (by decide) ?_
                            refine lv_istore (lv' := [(11, .int (1 : Int32)), (10, .ref a220), (0, .ref b), (1, .int v1_207), (2, .int v2_4), (3, .ref q19), (5, .ref q33), (6, .ref a163), (7, .ref q196), (8, .int v8_207), (9, .int v9_207)]) hx hb dL_law_226 hl (by decide) rfl (fun ls hl => ?_)
                            refine lv_aload hx hb dL_law_228 (lv_at hl 6 rfl) ?_
                            refine lv_bipush (v := 8) hx hb dL_law_230 (by decide) ?_
                            obtain ⟨⟨wr232, fr232, hrq232⟩, hm⟩ := hm
                            refine hcVi (As := [.int (8 : Int32)]) (rest := []) ⟨hx, hb, hml, hown, hts⟩ (h_X9_below l G K c h220 q33 (8 : Int32) _ hm) (cwV 1 hts gL_law_X9_below rfl rfl rfl (heV_X9_below) ⟨Nat.le_of_ble_eq_true rfl, Nat.le_of_ble_eq_true rfl⟩) hK hN hZ hXX hP hD hS hA (mr_recv hK (mRd hK hP hZ hS) (ci := 9) rfl hrq232) rfl hl.1 rfl (Nat.le_of_ble_eq_true rfl) dL_law_232 ⟨by show (cl_207 + m220) + 0 ≤ mc; omega, by show (sl_207 + z220) + 0 ≤ ms; omega⟩ (fun r232 h232 H locs hm hP hD hS => ?_)
                            have J_797 := hj_L_law_J797 hl0 hx hb hml hown hts hK hN hZ hXX hA hend b v2_4 q19 q33 a163 q196 rec_207 v8_207 v9_207 a220 ih_207
                            have J_268 := hj_L_law_J268 hl0 hx hb hml hown hts hK hN hZ hXX hA hend b v2_4 q19 q33 a163 q196 rec_207 v8_207 v9_207 a220 h232 J_797 
                            have J_451 := hj_L_law_J451 hl0 hx hb hml hown hts hK hN hZ hXX hA hend b v2_4 q19 q33 a163 q196 rec_207 v8_207 v9_207 a220 h232 J_797 
                            have J_489 := hj_L_law_J489 hl0 hx hb hml hown hts hK hN hZ hXX hA hend b v2_4 q19 q33 a163 q196 rec_207 v8_207 v9_207 a220 h232 J_797 
                            have J_527 := hj_L_law_J527 hl0 hx hb hml hown hts hK hN hZ hXX hA hend b v2_4 q19 q33 a163 q196 rec_207 v8_207 v9_207 a220 h232 J_797 
                            have J_682 := hj_L_law_J682 hl0 hx hb hml hown hts hK hN hZ hXX hA hend b v2_4 q19 q33 a163 q196 rec_207 v8_207 v9_207 a220 h232 J_797 
                            have J_718 := hj_L_law_J718 hl0 hx hb hml hown hts hK hN hZ hXX hA hend b v2_4 q19 q33 a163 q196 rec_207 v8_207 v9_207 a220 h232 J_797 
                            rcases Classical.em (r232 = 0) with c_235_0 | c_235_0
                            · replace hm := hm.1 c_235_0
                              refine lv_tableIn (off := 33) (tgt := 268) hx hb dL_law_235 (by rw [c_235_0]; decide) (by rw [c_235_0]; decide) (by rw [c_235_0]; rfl) (by decide) ?_
                              exact J_268 mB220 zB220 (cl_207 + m220) (sl_207 + z220) H locs ls ⟨by omega, by omega⟩ hP hD hS (lv_sub hl [2, 4, 5, 6, 7, 8, 9, 10, 1] rfl) hm
                            · replace hm := hm.2 c_235_0
                              rcases Classical.em (r232 = 1) with c_235_1 | c_235_1
                              · replace hm := hm.1 c_235_1
                                refine lv_tableIn (off := 216) (tgt := 451) hx hb dL_law_235 (by rw [c_235_1]; decide) (by rw [c_235_1]; decide) (by rw [c_235_1]; rfl) (by decide) ?_
                                exact J_451 mB220 zB220 (cl_207 + m220) (sl_207 + z220) H locs ls ⟨by omega, by omega⟩ hP hD hS (lv_sub hl [2, 4, 5, 6, 7, 8, 9, 10, 1] rfl) hm
                              · replace hm := hm.2 c_235_1
                                rcases Classical.em (r232 = 2) with c_235_2 | c_235_2
                                · replace hm := hm.1 c_235_2
                                  refine lv_tableIn (off := 254) (tgt := 489) hx hb dL_law_235 (by rw [c_235_2]; decide) (by rw [c_235_2]; decide) (by rw [c_235_2]; rfl) (by decide) ?_
                                  exact J_489 mB220 zB220 (cl_207 + m220) (sl_207 + z220) H locs ls ⟨by omega, by omega⟩ hP hD hS (lv_sub hl [2, 4, 5, 6, 7, 8, 9, 10, 1] rfl) hm
                                · replace hm := hm.2 c_235_2
                                  rcases Classical.em (r232 = 3) with c_235_3 | c_235_3
                                  · replace hm := hm.1 c_235_3
                                    refine lv_tableIn (off := 292) (tgt := 527) hx hb dL_law_235 (by rw [c_235_3]; decide) (by rw [c_235_3]; decide) (by rw [c_235_3]; rfl) (by decide) ?_
                                    exact J_527 mB220 zB220 (cl_207 + m220) (sl_207 + z220) H locs ls ⟨by omega, by omega⟩ hP hD hS (lv_sub hl [2, 4, 5, 6, 7, 8, 9, 10, 1] rfl) hm
                                  · replace hm := hm.2 c_235_3
                                    rcases Classical.em (r232 = 4) with c_235_4 | c_235_4
                                    · replace hm := hm.1 c_235_4
                                      refine lv_tableIn (off := 447) (tgt := 682) hx hb dL_law_235 (by rw [c_235_4]; decide) (by rw [c_235_4]; decide) (by rw [c_235_4]; rfl) (by decide) ?_
                                      exact J_682 mB220 zB220 (cl_207 + m220) (sl_207 + z220) H locs ls ⟨by omega, by omega⟩ hP hD hS (lv_sub hl [2, 4, 5, 6, 7, 8, 9, 10, 1, 0] rfl) hm
                                    · replace hm := hm.2 c_235_4
                                      refine lv_tableOut (tgt := 718) hx hb dL_law_235 (sw_out (0) (4) (fun k hk hk2 hkx => by rcases (show k = 0 ∨ k = 1 ∨ k = 2 ∨ k = 3 ∨ k = 4 by omega) with rfl | rfl | rfl | rfl | rfl <;> first | exact c_235_0 (hkx.trans (by decide)) | exact c_235_1 (hkx.trans (by decide)) | exact c_235_2 (hkx.trans (by decide)) | exact c_235_3 (hkx.trans (by decide)) | exact c_235_4 (hkx.trans (by decide)))) (by decide) ?_
                                      exact J_718 mB220 zB220 (cl_207 + m220) (sl_207 + z220) H locs ls ⟨by omega, by omega⟩ hP hD hS (lv_sub hl [2, 4, 5, 6, 7, 8, 9, 10, 1] rfl) hm
                    exact L_207 n_207 h196 mB196 zB196 v1_194 (0 : Int32) (0 : Int32) (cl_194 + 1) (sl_194 + (9 : Int32).toNatClampNeg) H locs ls ⟨by omega, by omega⟩ hP hD hS (lv_sub hl [3, 4, 5, 6, 7, 8, 2, 1, 0] rfl) hm

set_option maxHeartbeats 4000000 in
set_option maxRecDepth 100000 in
theorem hj_L_law_J193 {p : Program} {l : Launch} (hl0 : l.stackTraces = false) {e : Env} {s : State} {m : MethodId} {args : Array Value} {below : List Frame} {meth : Method} {c1 : Code} {A : Nat → Prop} {Q : State → Prop} {G : va_G} {K : (Nat → Nat) × (Nat → Nat)} {c : Nat → ClassId} {mc ms : Nat} {post : Int32 → HW → Prop} (hx : p.tables.exec = Jvm.exec) (hb : c1.code = code) (hml : c1.maxLocals = 20) (hown : s.vm.findClass RL = some m.cls) (hts : ∀ w ∈ lw_tb2, w.before args s = true) (hK : va_K G vwCl (TY c) s) (hN : NW K s) (hZ : ZE K A s s.heap) (hXX : XX s) (hA : ∀ q : Nat, s.heap.size ≤ q → A q) (hend : ∀ (H : Heap) (locs : List Loc) (ls : Array Slot) (pc cells slots : Nat) (v : Int32) (h1 : HW), cells ≤ mc → slots ≤ ms → narrow .boolean (.int v) = .int v → post v h1 → mP G K h1 H → mD A h1 → va_S A s.heap H locs → decode code pc = .ok (.ireturn, 1) → W p l e (rm_L_law mc ms) s m args below meth c1 H locs cells slots Q (F0 m pc ls [.int v])) (b : Nat) (rec_4 : HW → Nat → Nat → Int32 → Int32 → Prop) (v2_4 : Int32) (q19 : Nat) (q33 : Nat) (a163 : Nat) (ih_4 : ∀ (h_4 : HW) (mc_4 : Nat) (ms_4 : Nat) (v1_4 : Int32) (v2_4 : Int32) (cl_4 sl_4 : Nat) (H : Heap) (locs : List Loc) (ls : Array Slot), cl_4 + mc_4 ≤ mc ∧ sl_4 + ms_4 ≤ ms → mP G K h_4 H → mD A h_4 → va_S A s.heap H locs → lv_has ls 20 [(0, .ref b), (1, .int v1_4), (2, .int v2_4)] → rec_4 h_4 mc_4 ms_4 v1_4 v2_4 → W p l e (rm_L_law mc ms) s m args below meth c1 H locs cl_4 sl_4 Q (F0 m 4 ls [])) : ∀ (h_193 : HW) (mc_193 ms_193 : Nat) (s0_193 : Int32) (cl_193 sl_193 : Nat) (H : Heap) (locs : List Loc) (ls : Array Slot), cl_193 + mc_193 ≤ mc ∧ sl_193 + ms_193 ≤ ms → mP G K h_193 H → mD A h_193 → va_S A s.heap H locs → lv_has ls 20 [(0, .ref b), (2, .int v2_4), (3, .ref q19), (5, .ref q33), (6, .ref a163)] → w_L_law_J193 c K rec_4 v2_4 q19 q33 a163 h_193 mc_193 ms_193 s0_193 → W p l e (rm_L_law mc ms) s m args below meth c1 H locs cl_193 sl_193 Q (F0 m 193 ls [.int s0_193]) := by
                  intro h_193 mc_193 ms_193 s0_193 cl_193 sl_193 H locs ls hf hP hD hS hl hm
                  unfold w_L_law_J193 at hm
                  have J_194 := hj_L_law_J194 hl0 hx hb hml hown hts hK hN hZ hXX hA hend b rec_4 v2_4 q19 q33 a163 h_193 ih_4
                  refine lv_istore_n (lv' := [(1, .int s0_193), (0, .ref b), (2, .int v2_4), (3, .ref q19), (5, .ref q33), (6, .ref a163)]) hx hb dL_law_193 rfl hl (by decide) rfl (fun ls hl => ?_)
                  exact J_194 mc_193 ms_193 s0_193 cl_193 sl_193 H locs ls ⟨by omega, by omega⟩ hP hD hS (lv_sub hl [1, 0, 2, 3, 4, 5] rfl) hm

set_option maxHeartbeats 4000000 in
set_option maxRecDepth 100000 in
theorem hj_L_law_J192 {p : Program} {l : Launch} (hl0 : l.stackTraces = false) {e : Env} {s : State} {m : MethodId} {args : Array Value} {below : List Frame} {meth : Method} {c1 : Code} {A : Nat → Prop} {Q : State → Prop} {G : va_G} {K : (Nat → Nat) × (Nat → Nat)} {c : Nat → ClassId} {mc ms : Nat} {post : Int32 → HW → Prop} (hx : p.tables.exec = Jvm.exec) (hb : c1.code = code) (hml : c1.maxLocals = 20) (hown : s.vm.findClass RL = some m.cls) (hts : ∀ w ∈ lw_tb2, w.before args s = true) (hK : va_K G vwCl (TY c) s) (hN : NW K s) (hZ : ZE K A s s.heap) (hXX : XX s) (hA : ∀ q : Nat, s.heap.size ≤ q → A q) (hend : ∀ (H : Heap) (locs : List Loc) (ls : Array Slot) (pc cells slots : Nat) (v : Int32) (h1 : HW), cells ≤ mc → slots ≤ ms → narrow .boolean (.int v) = .int v → post v h1 → mP G K h1 H → mD A h1 → va_S A s.heap H locs → decode code pc = .ok (.ireturn, 1) → W p l e (rm_L_law mc ms) s m args below meth c1 H locs cells slots Q (F0 m pc ls [.int v])) (b : Nat) (rec_4 : HW → Nat → Nat → Int32 → Int32 → Prop) (v2_4 : Int32) (q19 : Nat) (q33 : Nat) (a163 : Nat) (J_193 : ∀ (h_193 : HW) (mc_193 ms_193 : Nat) (s0_193 : Int32) (cl_193 sl_193 : Nat) (H : Heap) (locs : List Loc) (ls : Array Slot), cl_193 + mc_193 ≤ mc ∧ sl_193 + ms_193 ≤ ms → mP G K h_193 H → mD A h_193 → va_S A s.heap H locs → lv_has ls 20 [(0, .ref b), (2, .int v2_4), (3, .ref q19), (5, .ref q33), (6, .ref a163)] → w_L_law_J193 c K rec_4 v2_4 q19 q33 a163 h_193 mc_193 ms_193 s0_193 → W p l e (rm_L_law mc ms) s m args below meth c1 H locs cl_193 sl_193 Q (F0 m 193 ls [.int s0_193])) : ∀ (h_192 : HW) (mc_192 ms_192 : Nat) (cl_192 sl_192 : Nat) (H : Heap) (locs : List Loc) (ls : Array Slot), cl_192 + mc_192 ≤ mc ∧ sl_192 + ms_192 ≤ ms → mP G K h_192 H → mD A h_192 → va_S A s.heap H locs → lv_has ls 20 [(0, .ref b), (2, .int v2_4), (3, .ref q19), (5, .ref q33), (6, .ref a163)] → w_L_law_J192 c K rec_4 v2_4 q19 q33 a163 h_192 mc_192 ms_192 → W p l e (rm_L_law mc ms) s m args below meth c1 H locs cl_192 sl_192 Q (F0 m 192 ls []) := by
                  intro h_192 mc_192 ms_192 cl_192 sl_192 H locs ls hf hP hD hS hl hm
                  unfold w_L_law_J192 at hm
                  refine lv_iconst (v := 0) hx hb dL_law_192 (by decide) ?_
                  exact J_193 h_192 mc_192 ms_192 (0 : Int32) cl_192 sl_192 H locs ls ⟨by omega, by omega⟩ hP hD hS (lv_sub hl [0, 1, 2, 3, 4] rfl) hm
