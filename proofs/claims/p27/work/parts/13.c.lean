/-! the law keeps to it -/
set_option maxHeartbeats 4000000 in
set_option maxRecDepth 100000 in
theorem hj_L_law_J797 {p : Program} {l : Launch} (hl0 : l.stackTraces = false) {e : Env} {s : State} {m : MethodId} {args : Array Value} {below : List Frame} {meth : Method} {c1 : Code} {A : Nat → Prop} {Q : State → Prop} {G : va_G} {K : (Nat → Nat) × (Nat → Nat)} {c : Nat → ClassId} {mc ms : Nat} {post : Int32 → HW → Prop} (hx : p.tables.exec = Jvm.exec) (hb : c1.code = code) (hml : c1.maxLocals = 20) (hown : s.vm.findClass RL = some m.cls) (hts : ∀ w ∈ lw_tb2, w.before args s = true) (hK : va_K G vwCl (TY c) s) (hN : NW K s) (hZ : ZE K A s s.heap) (hXX : XX s) (hA : ∀ q : Nat, s.heap.size ≤ q → A q) (hend : ∀ (H : Heap) (locs : List Loc) (ls : Array Slot) (pc cells slots : Nat) (v : Int32) (h1 : HW), cells ≤ mc → slots ≤ ms → narrow .boolean (.int v) = .int v → post v h1 → mP G K h1 H → mD A h1 → va_S A s.heap H locs → decode code pc = .ok (.ireturn, 1) → W p l e (rm_L_law mc ms) s m args below meth c1 H locs cells slots Q (F0 m pc ls [.int v])) (b : Nat) (v2_4 : Int32) (q19 : Nat) (q33 : Nat) (a163 : Nat) (q196 : Nat) (rec_207 : HW → Nat → Nat → Int32 → Int32 → Int32 → Prop) (v8_207 : Int32) (v9_207 : Int32) (a220 : Nat) (ih_207 : ∀ (h_207 : HW) (mc_207 : Nat) (ms_207 : Nat) (v1_207 : Int32) (v8_207 : Int32) (v9_207 : Int32) (cl_207 sl_207 : Nat) (H : Heap) (locs : List Loc) (ls : Array Slot), cl_207 + mc_207 ≤ mc ∧ sl_207 + ms_207 ≤ ms → mP G K h_207 H → mD A h_207 → va_S A s.heap H locs → lv_has ls 20 [(0, .ref b), (1, .int v1_207), (2, .int v2_4), (3, .ref q19), (5, .ref q33), (6, .ref a163), (7, .ref q196), (8, .int v8_207), (9, .int v9_207)] → rec_207 h_207 mc_207 ms_207 v1_207 v8_207 v9_207 → W p l e (rm_L_law mc ms) s m args below meth c1 H locs cl_207 sl_207 Q (F0 m 207 ls [])) : ∀ (h_797 : HW) (mc_797 ms_797 : Nat) (v1_797 : Int32) (v11_797 : Int32) (cl_797 sl_797 : Nat) (H : Heap) (locs : List Loc) (ls : Array Slot), cl_797 + mc_797 ≤ mc ∧ sl_797 + ms_797 ≤ ms → mP G K h_797 H → mD A h_797 → va_S A s.heap H locs → lv_has ls 20 [(0, .ref b), (1, .int v1_797), (2, .int v2_4), (3, .ref q19), (5, .ref q33), (6, .ref a163), (7, .ref q196), (8, .int v8_207), (9, .int v9_207), (10, .ref a220), (11, .int v11_797)] → w_L_law_J797 c K q19 a163 q196 rec_207 v8_207 v9_207 a220 h_797 mc_797 ms_797 v1_797 v11_797 → W p l e (rm_L_law mc ms) s m args below meth c1 H locs cl_797 sl_797 Q (F0 m 797 ls []) := by
                              intro h_797 mc_797 ms_797 v1_797 v11_797 cl_797 sl_797 H locs ls hf hP hD hS hl hm
                              unfold w_L_law_J797 at hm
                              refine lv_iload hx hb dL_law_797 (lv_at hl 10 rfl) ?_
                              have J_838 := hj_L_law_J838 hl0 hx hb hml hown hts hK hN hZ hXX hA hend b v2_4 q19 q33 a163 q196 rec_207 v9_207 v1_797 ih_207
                              refine lv_if_eq (tgt := 838) hx hb dL_law_799 (by decide) (fun c_799 => ?_) (fun c_799 => ?_)
                              · replace hm := hm.1 c_799
                                exact J_838 h_797 mc_797 ms_797 v8_207 cl_797 sl_797 H locs ls ⟨by omega, by omega⟩ hP hD hS (lv_sub hl [0, 1, 2, 3, 4, 5, 6, 7, 8] rfl) hm
                              · replace hm := hm.2 c_799
                                refine lv_bipush (v := 8) hx hb dL_law_802 (by decide) ?_
                                refine lv_istore (lv' := [(12, .int (8 : Int32)), (0, .ref b), (1, .int v1_797), (2, .int v2_4), (3, .ref q19), (5, .ref q33), (6, .ref a163), (7, .ref q196), (8, .int v8_207), (9, .int v9_207), (10, .ref a220), (11, .int v11_797)]) hx hb dL_law_804 hl (by decide) rfl (fun ls hl => ?_)
                                obtain ⟨n_806, hm⟩ := hm
                                have L_806 : ∀ (n_806 : Nat) (h_806 : HW) (mc_806 : Nat) (ms_806 : Nat) (v12_806 : Int32) (cl_806 sl_806 : Nat) (H : Heap) (locs : List Loc) (ls : Array Slot), cl_806 + mc_806 ≤ mc ∧ sl_806 + ms_806 ≤ ms → mP G K h_806 H → mD A h_806 → va_S A s.heap H locs → lv_has ls 20 [(0, .ref b), (1, .int v1_797), (2, .int v2_4), (3, .ref q19), (5, .ref q33), (6, .ref a163), (7, .ref q196), (8, .int v8_207), (9, .int v9_207), (10, .ref a220), (12, .int v12_806)] → itP4 (w_L_law_B806 c K q19 a163 q196 rec_207 v8_207 v9_207 a220 v1_797) n_806 h_806 mc_806 ms_806 v12_806 → W p l e (rm_L_law mc ms) s m args below meth c1 H locs cl_806 sl_806 Q (F0 m 806 ls []) := by
                                  intro n_806
                                  induction n_806 with
                                  | zero => intro h_806 mc_806 ms_806 v12_806 cl_806 sl_806 H locs ls hf hP hD hS hl hm; exact hm.elim
                                  | succ n_806 ih_806 =>
                                    intro h_806 mc_806 ms_806 v12_806 cl_806 sl_806 H locs ls hf hP hD hS hl hm
                                    have hm : (w_L_law_B806 c K q19 a163 q196 rec_207 v8_207 v9_207 a220 v1_797) (itP4 (w_L_law_B806 c K q19 a163 q196 rec_207 v8_207 v9_207 a220 v1_797) n_806) h_806 mc_806 ms_806 v12_806 := hm
                                    generalize itP4 (w_L_law_B806 c K q19 a163 q196 rec_207 v8_207 v9_207 a220 v1_797) n_806 = rec_806 at hm ih_806
                                    unfold w_L_law_B806 at hm
                                    refine lv_iload hx hb dL_law_806 (lv_at hl 10 rfl) ?_
                                    refine lv_if_le (tgt := 829) hx hb dL_law_808 (by decide) (fun c_808 => ?_) (fun c_808 => ?_)
                                    · replace hm := hm.1 c_808
                                      refine lv_aload hx hb dL_law_829 (lv_at hl 6 rfl) ?_
                                      refine lv_iconst (v := 0) hx hb dL_law_831 (by decide) ?_
                                      refine lv_aload hx hb dL_law_832 (lv_at hl 9 rfl) ?_
                                      obtain ⟨n834, f834, hq834, hi834, hv834, hm⟩ := hm
                                      refine mr_aastO (r := (RX10, TX10, 17)) (o := (some a220)) hx hb hK hP hZ hD hS 6 10 hq834 rfl hv834 rfl hi834 dL_law_834 (fun H locs hP hD hS => ?_)
                                      generalize hup h_806 q196 (eQ (c 6) n834 (va_up f834 (0 : Int32).toNatClampNeg (some a220))) = h834 at hm hP hD
                                      obtain ⟨x835, ex835⟩ : ∃ z : Int32, z = (v8_207 + 1) := ⟨_, rfl⟩
                                      replace hm := hm x835 ex835
                                      refine lv_iinc (k := 7) (v := x835) (lv' := [(8, .int x835), (0, .ref b), (1, .int v1_797), (2, .int v2_4), (3, .ref q19), (5, .ref q33), (6, .ref a163), (7, .ref q196), (9, .int v9_207), (10, .ref a220), (12, .int v12_806)]) hx hb dL_law_835 hl rfl ex835.symm (by decide) rfl (fun ls hl => ?_)
                                      exact J_838 h834 mc_806 ms_806 x835 cl_806 sl_806 H locs ls ⟨by omega, by omega⟩ hP hD hS (lv_sub hl [1, 2, 3, 4, 5, 6, 7, 0, 8] rfl) hm
                                    · replace hm := hm.2 c_808
                                      refine lv_aload hx hb dL_law_811 (lv_at hl 6 rfl) ?_
                                      refine lv_iload hx hb dL_law_813 (lv_at hl 10 rfl) ?_
                                      refine lv_aload hx hb dL_law_815 (lv_at hl 6 rfl) ?_
                                      refine lv_iload hx hb dL_law_817 (lv_at hl 10 rfl) ?_
                                      refine lv_iconst (v := 1) hx hb dL_law_819 (by decide) ?_
                                      refine lv_isub hx hb dL_law_820 ?_
                                      refine lv_topi (fun x820 ex820 => ?_)
                                      replace hm := hm x820 ex820
                                      obtain ⟨wq821, n821, f821, hq821, hi821, hm⟩ := hm
                                      refine mr_aldq (ty := (.object "HubTrainsLaw$Table")) hx hb hK (mRd hK hP hZ hS) 6 rfl hq821 rfl hi821 dL_law_821 (fun x821 ex821 => ?_)
                                      replace hm := hm x821 ex821
                                      obtain ⟨n822, f822, hq822, hi822, hv822, hm⟩ := hm
                                      refine mr_aastO (r := (RX10, TX10, 17)) (o := x821) hx hb hK hP hZ hD hS 6 10 hq822 rfl hv822 rfl hi822 dL_law_822 (fun H locs hP hD hS => ?_)
                                      generalize hup h_806 q196 (eQ (c 6) n822 (va_up f822 v12_806.toNatClampNeg x821)) = h822 at hm hP hD
                                      obtain ⟨x823, ex823⟩ : ∃ z : Int32, z = (v12_806 + (-1)) := ⟨_, rfl⟩
                                      replace hm := hm x823 ex823
                                      refine lv_iinc (k := 10) (v := x823) (lv' := [(12, .int x823), (0, .ref b), (1, .int v1_797), (2, .int v2_4), (3, .ref q19), (5, .ref q33), (6, .ref a163), (7, .ref q196), (8, .int v8_207), (9, .int v9_207), (10, .ref a220)]) hx hb dL_law_823 hl rfl ex823.symm (by decide) rfl (fun ls hl => ?_)
                                      refine lv_goto (tgt := 806) hx hb dL_law_826 (by decide) ?_
                                      exact ih_806 h822 mc_806 ms_806 x823 cl_806 sl_806 H locs ls ⟨by omega, by omega⟩ hP hD hS (lv_sub hl [1, 2, 3, 4, 5, 6, 7, 8, 9, 10, 0] rfl) hm
                                exact L_806 n_806 h_797 mc_797 ms_797 (8 : Int32) cl_797 sl_797 H locs ls ⟨by omega, by omega⟩ hP hD hS (lv_sub hl [1, 2, 3, 4, 5, 6, 7, 8, 9, 10, 0] rfl) hm

set_option maxHeartbeats 4000000 in
set_option maxRecDepth 100000 in
theorem hj_L_law_J447 {p : Program} {l : Launch} (hl0 : l.stackTraces = false) {e : Env} {s : State} {m : MethodId} {args : Array Value} {below : List Frame} {meth : Method} {c1 : Code} {A : Nat → Prop} {Q : State → Prop} {G : va_G} {K : (Nat → Nat) × (Nat → Nat)} {c : Nat → ClassId} {mc ms : Nat} {post : Int32 → HW → Prop} (hx : p.tables.exec = Jvm.exec) (hb : c1.code = code) (hml : c1.maxLocals = 20) (hown : s.vm.findClass RL = some m.cls) (hts : ∀ w ∈ lw_tb2, w.before args s = true) (hK : va_K G vwCl (TY c) s) (hN : NW K s) (hZ : ZE K A s s.heap) (hXX : XX s) (hA : ∀ q : Nat, s.heap.size ≤ q → A q) (hend : ∀ (H : Heap) (locs : List Loc) (ls : Array Slot) (pc cells slots : Nat) (v : Int32) (h1 : HW), cells ≤ mc → slots ≤ ms → narrow .boolean (.int v) = .int v → post v h1 → mP G K h1 H → mD A h1 → va_S A s.heap H locs → decode code pc = .ok (.ireturn, 1) → W p l e (rm_L_law mc ms) s m args below meth c1 H locs cells slots Q (F0 m pc ls [.int v])) (b : Nat) (v2_4 : Int32) (q19 : Nat) (q33 : Nat) (a163 : Nat) (q196 : Nat) (rec_207 : HW → Nat → Nat → Int32 → Int32 → Int32 → Prop) (v8_207 : Int32) (v9_207 : Int32) (a220 : Nat) (s0_380 : Int32) (h_439 : HW) (J_797 : ∀ (h_797 : HW) (mc_797 ms_797 : Nat) (v1_797 : Int32) (v11_797 : Int32) (cl_797 sl_797 : Nat) (H : Heap) (locs : List Loc) (ls : Array Slot), cl_797 + mc_797 ≤ mc ∧ sl_797 + ms_797 ≤ ms → mP G K h_797 H → mD A h_797 → va_S A s.heap H locs → lv_has ls 20 [(0, .ref b), (1, .int v1_797), (2, .int v2_4), (3, .ref q19), (5, .ref q33), (6, .ref a163), (7, .ref q196), (8, .int v8_207), (9, .int v9_207), (10, .ref a220), (11, .int v11_797)] → w_L_law_J797 c K q19 a163 q196 rec_207 v8_207 v9_207 a220 h_797 mc_797 ms_797 v1_797 v11_797 → W p l e (rm_L_law mc ms) s m args below meth c1 H locs cl_797 sl_797 Q (F0 m 797 ls [])) : ∀ (mc_447 ms_447 : Nat) (s0_447 : Int32) (cl_447 sl_447 : Nat) (H : Heap) (locs : List Loc) (ls : Array Slot), cl_447 + mc_447 ≤ mc ∧ sl_447 + ms_447 ≤ ms → mP G K h_439 H → mD A h_439 → va_S A s.heap H locs → lv_has ls 20 [(0, .ref b), (2, .int v2_4), (3, .ref q19), (5, .ref q33), (6, .ref a163), (7, .ref q196), (8, .int v8_207), (9, .int v9_207), (10, .ref a220), (11, .int s0_380)] → w_L_law_J447 c K q19 a163 q196 rec_207 v8_207 v9_207 a220 s0_380 h_439 mc_447 ms_447 s0_447 → W p l e (rm_L_law mc ms) s m args below meth c1 H locs cl_447 sl_447 Q (F0 m 447 ls [.int s0_447]) := by
                                          intro mc_447 ms_447 s0_447 cl_447 sl_447 H locs ls hf hP hD hS hl hm
                                          unfold w_L_law_J447 at hm
                                          refine lv_istore_n (lv' := [(1, .int s0_447), (0, .ref b), (2, .int v2_4), (3, .ref q19), (5, .ref q33), (6, .ref a163), (7, .ref q196), (8, .int v8_207), (9, .int v9_207), (10, .ref a220), (11, .int s0_380)]) hx hb dL_law_447 rfl hl (by decide) rfl (fun ls hl => ?_)
                                          refine lv_goto (tgt := 797) hx hb dL_law_448 (by decide) ?_
                                          exact J_797 h_439 mc_447 ms_447 s0_447 s0_380 cl_447 sl_447 H locs ls ⟨by omega, by omega⟩ hP hD hS (lv_sub hl [1, 0, 2, 3, 4, 5, 6, 7, 8, 9, 10] rfl) hm

set_option maxHeartbeats 4000000 in
set_option maxRecDepth 100000 in
theorem hj_L_law_J439 {p : Program} {l : Launch} (hl0 : l.stackTraces = false) {e : Env} {s : State} {m : MethodId} {args : Array Value} {below : List Frame} {meth : Method} {c1 : Code} {A : Nat → Prop} {Q : State → Prop} {G : va_G} {K : (Nat → Nat) × (Nat → Nat)} {c : Nat → ClassId} {mc ms : Nat} {post : Int32 → HW → Prop} (hx : p.tables.exec = Jvm.exec) (hb : c1.code = code) (hml : c1.maxLocals = 20) (hown : s.vm.findClass RL = some m.cls) (hts : ∀ w ∈ lw_tb2, w.before args s = true) (hK : va_K G vwCl (TY c) s) (hN : NW K s) (hZ : ZE K A s s.heap) (hXX : XX s) (hA : ∀ q : Nat, s.heap.size ≤ q → A q) (hend : ∀ (H : Heap) (locs : List Loc) (ls : Array Slot) (pc cells slots : Nat) (v : Int32) (h1 : HW), cells ≤ mc → slots ≤ ms → narrow .boolean (.int v) = .int v → post v h1 → mP G K h1 H → mD A h1 → va_S A s.heap H locs → decode code pc = .ok (.ireturn, 1) → W p l e (rm_L_law mc ms) s m args below meth c1 H locs cells slots Q (F0 m pc ls [.int v])) (b : Nat) (v2_4 : Int32) (q19 : Nat) (q33 : Nat) (a163 : Nat) (q196 : Nat) (rec_207 : HW → Nat → Nat → Int32 → Int32 → Int32 → Prop) (v8_207 : Int32) (v9_207 : Int32) (a220 : Nat) (s0_380 : Int32) (J_797 : ∀ (h_797 : HW) (mc_797 ms_797 : Nat) (v1_797 : Int32) (v11_797 : Int32) (cl_797 sl_797 : Nat) (H : Heap) (locs : List Loc) (ls : Array Slot), cl_797 + mc_797 ≤ mc ∧ sl_797 + ms_797 ≤ ms → mP G K h_797 H → mD A h_797 → va_S A s.heap H locs → lv_has ls 20 [(0, .ref b), (1, .int v1_797), (2, .int v2_4), (3, .ref q19), (5, .ref q33), (6, .ref a163), (7, .ref q196), (8, .int v8_207), (9, .int v9_207), (10, .ref a220), (11, .int v11_797)] → w_L_law_J797 c K q19 a163 q196 rec_207 v8_207 v9_207 a220 h_797 mc_797 ms_797 v1_797 v11_797 → W p l e (rm_L_law mc ms) s m args below meth c1 H locs cl_797 sl_797 Q (F0 m 797 ls [])) : ∀ (h_439 : HW) (mc_439 ms_439 : Nat) (s0_439 : Int32) (s1_439 : Int32) (cl_439 sl_439 : Nat) (H : Heap) (locs : List Loc) (ls : Array Slot), cl_439 + mc_439 ≤ mc ∧ sl_439 + ms_439 ≤ ms → mP G K h_439 H → mD A h_439 → va_S A s.heap H locs → lv_has ls 20 [(0, .ref b), (2, .int v2_4), (3, .ref q19), (5, .ref q33), (6, .ref a163), (7, .ref q196), (8, .int v8_207), (9, .int v9_207), (10, .ref a220), (11, .int s0_380)] → w_L_law_J439 c K q19 a163 q196 rec_207 v8_207 v9_207 a220 s0_380 h_439 mc_439 ms_439 s0_439 s1_439 → W p l e (rm_L_law mc ms) s m args below meth c1 H locs cl_439 sl_439 Q (F0 m 439 ls [.int s0_439, .int s1_439]) := by
                                        intro h_439 mc_439 ms_439 s0_439 s1_439 cl_439 sl_439 H locs ls hf hP hD hS hl hm
                                        unfold w_L_law_J439 at hm
                                        have J_447 := hj_L_law_J447 hl0 hx hb hml hown hts hK hN hZ hXX hA hend b v2_4 q19 q33 a163 q196 rec_207 v8_207 v9_207 a220 s0_380 h_439 J_797 
                                        refine lv_icmp_ne (tgt := 446) hx hb dL_law_439 (by decide) (fun c_439 => ?_) (fun c_439 => ?_)
                                        · replace hm := hm.2 c_439
                                          refine lv_iconst (v := 0) hx hb dL_law_446 (by decide) ?_
                                          exact J_447 mc_439 ms_439 (0 : Int32) cl_439 sl_439 H locs ls ⟨by omega, by omega⟩ hP hD hS (lv_sub hl [0, 1, 2, 3, 4, 5, 6, 7, 8, 9] rfl) hm
                                        · replace hm := hm.1 c_439
                                          refine lv_iconst (v := 1) hx hb dL_law_442 (by decide) ?_
                                          refine lv_goto (tgt := 447) hx hb dL_law_443 (by decide) ?_
                                          exact J_447 mc_439 ms_439 (1 : Int32) cl_439 sl_439 H locs ls ⟨by omega, by omega⟩ hP hD hS (lv_sub hl [0, 1, 2, 3, 4, 5, 6, 7, 8, 9] rfl) hm

set_option maxHeartbeats 4000000 in
set_option maxRecDepth 100000 in
theorem hj_L_law_J410 {p : Program} {l : Launch} (hl0 : l.stackTraces = false) {e : Env} {s : State} {m : MethodId} {args : Array Value} {below : List Frame} {meth : Method} {c1 : Code} {A : Nat → Prop} {Q : State → Prop} {G : va_G} {K : (Nat → Nat) × (Nat → Nat)} {c : Nat → ClassId} {mc ms : Nat} {post : Int32 → HW → Prop} (hx : p.tables.exec = Jvm.exec) (hb : c1.code = code) (hml : c1.maxLocals = 20) (hown : s.vm.findClass RL = some m.cls) (hts : ∀ w ∈ lw_tb2, w.before args s = true) (hK : va_K G vwCl (TY c) s) (hN : NW K s) (hZ : ZE K A s s.heap) (hXX : XX s) (hA : ∀ q : Nat, s.heap.size ≤ q → A q) (hend : ∀ (H : Heap) (locs : List Loc) (ls : Array Slot) (pc cells slots : Nat) (v : Int32) (h1 : HW), cells ≤ mc → slots ≤ ms → narrow .boolean (.int v) = .int v → post v h1 → mP G K h1 H → mD A h1 → va_S A s.heap H locs → decode code pc = .ok (.ireturn, 1) → W p l e (rm_L_law mc ms) s m args below meth c1 H locs cells slots Q (F0 m pc ls [.int v])) (b : Nat) (v2_4 : Int32) (q19 : Nat) (q33 : Nat) (a163 : Nat) (q196 : Nat) (rec_207 : HW → Nat → Nat → Int32 → Int32 → Int32 → Prop) (v8_207 : Int32) (v9_207 : Int32) (a220 : Nat) (x295 : Int32) (r322 : Int32) (h_380 : HW) (s0_380 : Int32) (J_797 : ∀ (h_797 : HW) (mc_797 ms_797 : Nat) (v1_797 : Int32) (v11_797 : Int32) (cl_797 sl_797 : Nat) (H : Heap) (locs : List Loc) (ls : Array Slot), cl_797 + mc_797 ≤ mc ∧ sl_797 + ms_797 ≤ ms → mP G K h_797 H → mD A h_797 → va_S A s.heap H locs → lv_has ls 20 [(0, .ref b), (1, .int v1_797), (2, .int v2_4), (3, .ref q19), (5, .ref q33), (6, .ref a163), (7, .ref q196), (8, .int v8_207), (9, .int v9_207), (10, .ref a220), (11, .int v11_797)] → w_L_law_J797 c K q19 a163 q196 rec_207 v8_207 v9_207 a220 h_797 mc_797 ms_797 v1_797 v11_797 → W p l e (rm_L_law mc ms) s m args below meth c1 H locs cl_797 sl_797 Q (F0 m 797 ls [])) : ∀ (mc_410 ms_410 : Nat) (s0_410 : Int32) (cl_410 sl_410 : Nat) (H : Heap) (locs : List Loc) (ls : Array Slot), cl_410 + mc_410 ≤ mc ∧ sl_410 + ms_410 ≤ ms → mP G K h_380 H → mD A h_380 → va_S A s.heap H locs → lv_has ls 20 [(0, .ref b), (2, .int v2_4), (3, .ref q19), (5, .ref q33), (6, .ref a163), (7, .ref q196), (8, .int v8_207), (9, .int v9_207), (10, .ref a220), (11, .int s0_380), (12, .int x295), (13, .int r322)] → w_L_law_J410 c K q19 a163 q196 rec_207 v8_207 v9_207 a220 x295 r322 h_380 s0_380 mc_410 ms_410 s0_410 → W p l e (rm_L_law mc ms) s m args below meth c1 H locs cl_410 sl_410 Q (F0 m 410 ls [.int s0_410]) := by
                                      intro mc_410 ms_410 s0_410 cl_410 sl_410 H locs ls hf hP hD hS hl hm
                                      unfold w_L_law_J410 at hm
                                      refine lv_istore (lv' := [(15, .int s0_410), (0, .ref b), (2, .int v2_4), (3, .ref q19), (5, .ref q33), (6, .ref a163), (7, .ref q196), (8, .int v8_207), (9, .int v9_207), (10, .ref a220), (11, .int s0_380), (12, .int x295), (13, .int r322)]) hx hb dL_law_410 hl (by decide) rfl (fun ls hl => ?_)
                                      refine lv_aload_n hx hb dL_law_412 rfl (lv_at hl 3 rfl) ?_
                                      refine lv_iload hx hb dL_law_413 (lv_at hl 11 rfl) ?_
                                      refine lv_iload hx hb dL_law_415 (lv_at hl 12 rfl) ?_
                                      obtain ⟨m417, z417, mB417, zB417, hbm417, hbs417, hm⟩ := hm
                                      refine hcSWi (As := [.ref q19, .int x295, .int r322]) (rest := []) ⟨hx, hb, hml, hown, hts⟩ (h_L_play l hl0 G K c h_380 q19 x295 r322 m417 z417 _ hm) (vx_cwSW 3 hts gL_law_L_play rfl rfl rfl he_L_play ⟨Nat.le_of_ble_eq_true rfl, Nat.le_of_ble_eq_true rfl⟩) hK hN hZ hXX hP hD hS hA rfl hl.1 rfl (Nat.le_of_ble_eq_true rfl) dL_law_417 ⟨by show cl_410 + m417 ≤ mc; omega, by show sl_410 + z417 ≤ ms; omega⟩ (fun r417 h417 H locs hm hP hD hS => ?_)
                                      replace hf : (cl_410 + m417) + mB417 ≤ mc ∧ (sl_410 + z417) + zB417 ≤ ms := ⟨by omega, by omega⟩
                                      clear hbm417 hbs417
                                      refine lv_iload hx hb dL_law_420 (lv_at hl 10 rfl) ?_
                                      have J_439 := hj_L_law_J439 hl0 hx hb hml hown hts hK hN hZ hXX hA hend b v2_4 q19 q33 a163 q196 rec_207 v8_207 v9_207 a220 s0_380 J_797 
                                      refine lv_if_eq (tgt := 437) hx hb dL_law_422 (by decide) (fun c_422 => ?_) (fun c_422 => ?_)
                                      · replace hm := hm.1 c_422
                                        refine lv_iload hx hb dL_law_437 (lv_at hl 0 rfl) ?_
                                        exact J_439 h417 mB417 zB417 s0_410 r417 (cl_410 + m417) (sl_410 + z417) H locs ls ⟨by omega, by omega⟩ hP hD hS (lv_sub hl [1, 2, 3, 4, 5, 6, 7, 8, 9, 10] rfl) hm
                                      · replace hm := hm.2 c_422
                                        refine lv_aload hx hb dL_law_425 (lv_at hl 5 rfl) ?_
                                        refine lv_iload hx hb dL_law_427 (lv_at hl 11 rfl) ?_
                                        refine lv_iload hx hb dL_law_429 (lv_at hl 12 rfl) ?_
                                        obtain ⟨⟨wr431, fr431, hrq431⟩, hm⟩ := hm
                                        obtain ⟨m431, z431, mB431, zB431, hbm431, hbs431, hm⟩ := hm
                                        refine hcVi (As := [.int x295, .int r322]) (rest := [.int r417]) ⟨hx, hb, hml, hown, hts⟩ (h_X10_plays_ l G K c h417 a163 x295 r322 m431 z431 _ hm) (cwV 2 hts gL_law_X10_plays_ rfl rfl rfl (heV_X10_plays_) ⟨Nat.le_of_ble_eq_true rfl, Nat.le_of_ble_eq_true rfl⟩) hK hN hZ hXX hP hD hS hA (mr_recv hK (mRd hK hP hZ hS) (ci := 10) rfl hrq431) rfl hl.1 rfl (Nat.le_of_ble_eq_true rfl) dL_law_431 ⟨by show (cl_410 + m417) + m431 ≤ mc; omega, by show (sl_410 + z417) + z431 ≤ ms; omega⟩ (fun r431 h431 H locs hm hP hD hS => ?_)
                                        replace hf : ((cl_410 + m417) + m431) + mB431 ≤ mc ∧ ((sl_410 + z417) + z431) + zB431 ≤ ms := ⟨by omega, by omega⟩
                                        clear hbm431 hbs431
                                        refine lv_goto (tgt := 439) hx hb dL_law_434 (by decide) ?_
                                        exact J_439 h431 mB431 zB431 r431 r417 ((cl_410 + m417) + m431) ((sl_410 + z417) + z431) H locs ls ⟨by omega, by omega⟩ hP hD hS (lv_sub hl [1, 2, 3, 4, 5, 6, 7, 8, 9, 10] rfl) hm

set_option maxHeartbeats 4000000 in
set_option maxRecDepth 100000 in
theorem hj_L_law_J380 {p : Program} {l : Launch} (hl0 : l.stackTraces = false) {e : Env} {s : State} {m : MethodId} {args : Array Value} {below : List Frame} {meth : Method} {c1 : Code} {A : Nat → Prop} {Q : State → Prop} {G : va_G} {K : (Nat → Nat) × (Nat → Nat)} {c : Nat → ClassId} {mc ms : Nat} {post : Int32 → HW → Prop} (hx : p.tables.exec = Jvm.exec) (hb : c1.code = code) (hml : c1.maxLocals = 20) (hown : s.vm.findClass RL = some m.cls) (hts : ∀ w ∈ lw_tb2, w.before args s = true) (hK : va_K G vwCl (TY c) s) (hN : NW K s) (hZ : ZE K A s s.heap) (hXX : XX s) (hA : ∀ q : Nat, s.heap.size ≤ q → A q) (hend : ∀ (H : Heap) (locs : List Loc) (ls : Array Slot) (pc cells slots : Nat) (v : Int32) (h1 : HW), cells ≤ mc → slots ≤ ms → narrow .boolean (.int v) = .int v → post v h1 → mP G K h1 H → mD A h1 → va_S A s.heap H locs → decode code pc = .ok (.ireturn, 1) → W p l e (rm_L_law mc ms) s m args below meth c1 H locs cells slots Q (F0 m pc ls [.int v])) (b : Nat) (v2_4 : Int32) (q19 : Nat) (q33 : Nat) (a163 : Nat) (q196 : Nat) (rec_207 : HW → Nat → Nat → Int32 → Int32 → Int32 → Prop) (v8_207 : Int32) (v9_207 : Int32) (a220 : Nat) (x295 : Int32) (r322 : Int32) (s0_345 : Int32) (J_797 : ∀ (h_797 : HW) (mc_797 ms_797 : Nat) (v1_797 : Int32) (v11_797 : Int32) (cl_797 sl_797 : Nat) (H : Heap) (locs : List Loc) (ls : Array Slot), cl_797 + mc_797 ≤ mc ∧ sl_797 + ms_797 ≤ ms → mP G K h_797 H → mD A h_797 → va_S A s.heap H locs → lv_has ls 20 [(0, .ref b), (1, .int v1_797), (2, .int v2_4), (3, .ref q19), (5, .ref q33), (6, .ref a163), (7, .ref q196), (8, .int v8_207), (9, .int v9_207), (10, .ref a220), (11, .int v11_797)] → w_L_law_J797 c K q19 a163 q196 rec_207 v8_207 v9_207 a220 h_797 mc_797 ms_797 v1_797 v11_797 → W p l e (rm_L_law mc ms) s m args below meth c1 H locs cl_797 sl_797 Q (F0 m 797 ls [])) : ∀ (h_380 : HW) (mc_380 ms_380 : Nat) (s0_380 : Int32) (cl_380 sl_380 : Nat) (H : Heap) (locs : List Loc) (ls : Array Slot), cl_380 + mc_380 ≤ mc ∧ sl_380 + ms_380 ≤ ms → mP G K h_380 H → mD A h_380 → va_S A s.heap H locs → lv_has ls 20 [(0, .ref b), (2, .int v2_4), (3, .ref q19), (5, .ref q33), (6, .ref a163), (7, .ref q196), (8, .int v8_207), (9, .int v9_207), (10, .ref a220), (12, .int x295), (13, .int r322), (14, .int s0_345)] → w_L_law_J380 c K q19 a163 q196 rec_207 v8_207 v9_207 a220 x295 r322 s0_345 h_380 mc_380 ms_380 s0_380 → W p l e (rm_L_law mc ms) s m args below meth c1 H locs cl_380 sl_380 Q (F0 m 380 ls [.int s0_380]) := by
                                    have hi_10 : ∀ w ∈ u_ws RX10 TX10 17, w ∈ lw_tb2 := fun w h => tin_wsX100 w h
                                    intro h_380 mc_380 ms_380 s0_380 cl_380 sl_380 H locs ls hf hP hD hS hl hm
                                    unfold w_L_law_J380 at hm
                                    refine lv_istore (lv' := [(11, .int s0_380), (0, .ref b), (2, .int v2_4), (3, .ref q19), (5, .ref q33), (6, .ref a163), (7, .ref q196), (8, .int v8_207), (9, .int v9_207), (10, .ref a220), (12, .int x295), (13, .int r322), (14, .int s0_345)]) hx hb dL_law_380 hl (by decide) rfl (fun ls hl => ?_)
                                    refine lv_iload hx hb dL_law_382 (lv_at hl 11 rfl) ?_
                                    refine lv_aload hx hb dL_law_384 (lv_at hl 5 rfl) ?_
                                    obtain ⟨wq386, fs386, g386, hq386, hv386, hm⟩ := hm
                                    refine mr_get (ci := 10) (C := RX10) (T := TX10) (N := 17) hx hb hts hi_10 hown hK (mRd hK hP hZ hS) hq386 rfl 12 (by decide) (hts (.fieldLink RL 138 "HubTrainsLaw$Table" "trains" "[[I") (tin_c [.fieldLink RL 138 "HubTrainsLaw$Table" "trains" "[[I"] [(1, 238)] rfl _ (List.mem_singleton.mpr rfl))) (fun _ h9 => h9) hv386 dL_law_386 ?_
                                    obtain ⟨wq389, xx389, hq389, hm⟩ := hm
                                    refine mr_alen hx hb hK (mRd hK hP hZ hS) 2 hq389 rfl dL_law_389 (fun x389 ex389 => ?_)
                                    replace hm := hm x389 ex389
                                    have J_410 := hj_L_law_J410 hl0 hx hb hml hown hts hK hN hZ hXX hA hend b v2_4 q19 q33 a163 q196 rec_207 v8_207 v9_207 a220 x295 r322 h_380 s0_380 J_797 
                                    refine lv_icmp_ne (tgt := 398) hx hb dL_law_390 (by decide) (fun c_390 => ?_) (fun c_390 => ?_)
                                    · replace hm := hm.2 c_390
                                      refine lv_iload hx hb dL_law_398 (lv_at hl 12 rfl) ?_
                                      refine lv_if_eq (tgt := 408) hx hb dL_law_400 (by decide) (fun c_400 => ?_) (fun c_400 => ?_)
                                      · replace hm := hm.1 c_400
                                        refine lv_ldc (v := (-2000000098)) hx hb hown (hts (.constant RL 42 (-2000000098)) (tin_c [.constant RL 42 (-2000000098)] [(3, 165)] rfl _ (List.mem_singleton.mpr rfl))) dL_law_408 ?_
                                        exact J_410 mc_380 ms_380 (-2000000098 : Int32) cl_380 sl_380 H locs ls ⟨by omega, by omega⟩ hP hD hS (lv_sub hl [1, 2, 3, 4, 5, 6, 7, 8, 9, 0, 10, 11] rfl) hm
                                      · replace hm := hm.2 c_400
                                        refine lv_ldc (v := (-2000000099)) hx hb hown (hts (.constant RL 85 (-2000000099)) (tin_c [.constant RL 85 (-2000000099)] [(4, 147)] rfl _ (List.mem_singleton.mpr rfl))) dL_law_403 ?_
                                        refine lv_goto (tgt := 410) hx hb dL_law_405 (by decide) ?_
                                        exact J_410 mc_380 ms_380 (-2000000099 : Int32) cl_380 sl_380 H locs ls ⟨by omega, by omega⟩ hP hD hS (lv_sub hl [1, 2, 3, 4, 5, 6, 7, 8, 9, 0, 10, 11] rfl) hm
                                    · replace hm := hm.1 c_390
                                      refine lv_ldc (v := (-2000000097)) hx hb hown (hts (.constant RL 52 (-2000000097)) (tin_c [.constant RL 52 (-2000000097)] [(3, 213)] rfl _ (List.mem_singleton.mpr rfl))) dL_law_393 ?_
                                      refine lv_goto (tgt := 410) hx hb dL_law_395 (by decide) ?_
                                      exact J_410 mc_380 ms_380 (-2000000097 : Int32) cl_380 sl_380 H locs ls ⟨by omega, by omega⟩ hP hD hS (lv_sub hl [1, 2, 3, 4, 5, 6, 7, 8, 9, 0, 10, 11] rfl) hm

set_option maxHeartbeats 4000000 in
set_option maxRecDepth 100000 in
theorem hj_L_law_J379 {p : Program} {l : Launch} (hl0 : l.stackTraces = false) {e : Env} {s : State} {m : MethodId} {args : Array Value} {below : List Frame} {meth : Method} {c1 : Code} {A : Nat → Prop} {Q : State → Prop} {G : va_G} {K : (Nat → Nat) × (Nat → Nat)} {c : Nat → ClassId} {mc ms : Nat} {post : Int32 → HW → Prop} (hx : p.tables.exec = Jvm.exec) (hb : c1.code = code) (hml : c1.maxLocals = 20) (hown : s.vm.findClass RL = some m.cls) (hts : ∀ w ∈ lw_tb2, w.before args s = true) (hK : va_K G vwCl (TY c) s) (hN : NW K s) (hZ : ZE K A s s.heap) (hXX : XX s) (hA : ∀ q : Nat, s.heap.size ≤ q → A q) (hend : ∀ (H : Heap) (locs : List Loc) (ls : Array Slot) (pc cells slots : Nat) (v : Int32) (h1 : HW), cells ≤ mc → slots ≤ ms → narrow .boolean (.int v) = .int v → post v h1 → mP G K h1 H → mD A h1 → va_S A s.heap H locs → decode code pc = .ok (.ireturn, 1) → W p l e (rm_L_law mc ms) s m args below meth c1 H locs cells slots Q (F0 m pc ls [.int v])) (b : Nat) (v2_4 : Int32) (q19 : Nat) (q33 : Nat) (a163 : Nat) (q196 : Nat) (rec_207 : HW → Nat → Nat → Int32 → Int32 → Int32 → Prop) (v8_207 : Int32) (v9_207 : Int32) (a220 : Nat) (x295 : Int32) (r322 : Int32) (s0_345 : Int32) (J_380 : ∀ (h_380 : HW) (mc_380 ms_380 : Nat) (s0_380 : Int32) (cl_380 sl_380 : Nat) (H : Heap) (locs : List Loc) (ls : Array Slot), cl_380 + mc_380 ≤ mc ∧ sl_380 + ms_380 ≤ ms → mP G K h_380 H → mD A h_380 → va_S A s.heap H locs → lv_has ls 20 [(0, .ref b), (2, .int v2_4), (3, .ref q19), (5, .ref q33), (6, .ref a163), (7, .ref q196), (8, .int v8_207), (9, .int v9_207), (10, .ref a220), (12, .int x295), (13, .int r322), (14, .int s0_345)] → w_L_law_J380 c K q19 a163 q196 rec_207 v8_207 v9_207 a220 x295 r322 s0_345 h_380 mc_380 ms_380 s0_380 → W p l e (rm_L_law mc ms) s m args below meth c1 H locs cl_380 sl_380 Q (F0 m 380 ls [.int s0_380])) : ∀ (h_379 : HW) (mc_379 ms_379 : Nat) (cl_379 sl_379 : Nat) (H : Heap) (locs : List Loc) (ls : Array Slot), cl_379 + mc_379 ≤ mc ∧ sl_379 + ms_379 ≤ ms → mP G K h_379 H → mD A h_379 → va_S A s.heap H locs → lv_has ls 20 [(0, .ref b), (2, .int v2_4), (3, .ref q19), (5, .ref q33), (6, .ref a163), (7, .ref q196), (8, .int v8_207), (9, .int v9_207), (10, .ref a220), (12, .int x295), (13, .int r322), (14, .int s0_345)] → w_L_law_J379 c K q19 a163 q196 rec_207 v8_207 v9_207 a220 x295 r322 s0_345 h_379 mc_379 ms_379 → W p l e (rm_L_law mc ms) s m args below meth c1 H locs cl_379 sl_379 Q (F0 m 379 ls []) := by
                                    intro h_379 mc_379 ms_379 cl_379 sl_379 H locs ls hf hP hD hS hl hm
                                    unfold w_L_law_J379 at hm
                                    refine lv_iconst (v := 0) hx hb dL_law_379 (by decide) ?_
                                    exact J_380 h_379 mc_379 ms_379 (0 : Int32) cl_379 sl_379 H locs ls ⟨by omega, by omega⟩ hP hD hS (lv_sub hl [0, 1, 2, 3, 4, 5, 6, 7, 8, 9, 10, 11] rfl) hm

set_option maxHeartbeats 4000000 in
set_option maxRecDepth 100000 in
theorem hj_L_law_J345 {p : Program} {l : Launch} (hl0 : l.stackTraces = false) {e : Env} {s : State} {m : MethodId} {args : Array Value} {below : List Frame} {meth : Method} {c1 : Code} {A : Nat → Prop} {Q : State → Prop} {G : va_G} {K : (Nat → Nat) × (Nat → Nat)} {c : Nat → ClassId} {mc ms : Nat} {post : Int32 → HW → Prop} (hx : p.tables.exec = Jvm.exec) (hb : c1.code = code) (hml : c1.maxLocals = 20) (hown : s.vm.findClass RL = some m.cls) (hts : ∀ w ∈ lw_tb2, w.before args s = true) (hK : va_K G vwCl (TY c) s) (hN : NW K s) (hZ : ZE K A s s.heap) (hXX : XX s) (hA : ∀ q : Nat, s.heap.size ≤ q → A q) (hend : ∀ (H : Heap) (locs : List Loc) (ls : Array Slot) (pc cells slots : Nat) (v : Int32) (h1 : HW), cells ≤ mc → slots ≤ ms → narrow .boolean (.int v) = .int v → post v h1 → mP G K h1 H → mD A h1 → va_S A s.heap H locs → decode code pc = .ok (.ireturn, 1) → W p l e (rm_L_law mc ms) s m args below meth c1 H locs cells slots Q (F0 m pc ls [.int v])) (b : Nat) (v2_4 : Int32) (q19 : Nat) (q33 : Nat) (a163 : Nat) (q196 : Nat) (rec_207 : HW → Nat → Nat → Int32 → Int32 → Int32 → Prop) (v8_207 : Int32) (v9_207 : Int32) (a220 : Nat) (x295 : Int32) (r322 : Int32) (h322 : HW) (J_797 : ∀ (h_797 : HW) (mc_797 ms_797 : Nat) (v1_797 : Int32) (v11_797 : Int32) (cl_797 sl_797 : Nat) (H : Heap) (locs : List Loc) (ls : Array Slot), cl_797 + mc_797 ≤ mc ∧ sl_797 + ms_797 ≤ ms → mP G K h_797 H → mD A h_797 → va_S A s.heap H locs → lv_has ls 20 [(0, .ref b), (1, .int v1_797), (2, .int v2_4), (3, .ref q19), (5, .ref q33), (6, .ref a163), (7, .ref q196), (8, .int v8_207), (9, .int v9_207), (10, .ref a220), (11, .int v11_797)] → w_L_law_J797 c K q19 a163 q196 rec_207 v8_207 v9_207 a220 h_797 mc_797 ms_797 v1_797 v11_797 → W p l e (rm_L_law mc ms) s m args below meth c1 H locs cl_797 sl_797 Q (F0 m 797 ls [])) : ∀ (mc_345 ms_345 : Nat) (s0_345 : Int32) (cl_345 sl_345 : Nat) (H : Heap) (locs : List Loc) (ls : Array Slot), cl_345 + mc_345 ≤ mc ∧ sl_345 + ms_345 ≤ ms → mP G K h322 H → mD A h322 → va_S A s.heap H locs → lv_has ls 20 [(0, .ref b), (2, .int v2_4), (3, .ref q19), (5, .ref q33), (6, .ref a163), (7, .ref q196), (8, .int v8_207), (9, .int v9_207), (10, .ref a220), (12, .int x295), (13, .int r322)] → w_L_law_J345 c K q19 a163 q196 rec_207 v8_207 v9_207 a220 x295 r322 h322 mc_345 ms_345 s0_345 → W p l e (rm_L_law mc ms) s m args below meth c1 H locs cl_345 sl_345 Q (F0 m 345 ls [.int s0_345]) := by
                                  have hi_10 : ∀ w ∈ u_ws RX10 TX10 17, w ∈ lw_tb2 := fun w h => tin_wsX100 w h
                                  intro mc_345 ms_345 s0_345 cl_345 sl_345 H locs ls hf hP hD hS hl hm
                                  unfold w_L_law_J345 at hm
                                  refine lv_istore (lv' := [(14, .int s0_345), (0, .ref b), (2, .int v2_4), (3, .ref q19), (5, .ref q33), (6, .ref a163), (7, .ref q196), (8, .int v8_207), (9, .int v9_207), (10, .ref a220), (12, .int x295), (13, .int r322)]) hx hb dL_law_345 hl (by decide) rfl (fun ls hl => ?_)
                                  refine lv_iload hx hb dL_law_347 (lv_at hl 11 rfl) ?_
                                  refine lv_aload hx hb dL_law_349 (lv_at hl 5 rfl) ?_
                                  obtain ⟨wq351, fs351, g351, hq351, hv351, hm⟩ := hm
                                  refine mr_get (ci := 10) (C := RX10) (T := TX10) (N := 17) hx hb hts hi_10 hown hK (mRd hK hP hZ hS) hq351 rfl 12 (by decide) (hts (.fieldLink RL 138 "HubTrainsLaw$Table" "trains" "[[I") (tin_c [.fieldLink RL 138 "HubTrainsLaw$Table" "trains" "[[I"] [(1, 238)] rfl _ (List.mem_singleton.mpr rfl))) (fun _ h9 => h9) hv351 dL_law_351 ?_
                                  obtain ⟨wq354, xx354, hq354, hm⟩ := hm
                                  refine mr_alen hx hb hK (mRd hK hP hZ hS) 2 hq354 rfl dL_law_354 (fun x354 ex354 => ?_)
                                  replace hm := hm x354 ex354
                                  have J_380 := hj_L_law_J380 hl0 hx hb hml hown hts hK hN hZ hXX hA hend b v2_4 q19 q33 a163 q196 rec_207 v8_207 v9_207 a220 x295 r322 s0_345 J_797 
                                  have J_379 := hj_L_law_J379 hl0 hx hb hml hown hts hK hN hZ hXX hA hend b v2_4 q19 q33 a163 q196 rec_207 v8_207 v9_207 a220 x295 r322 s0_345 J_380 
                                  refine lv_icmp_ge (tgt := 379) hx hb dL_law_355 (by decide) (fun c_355 => ?_) (fun c_355 => ?_)
                                  · replace hm := hm.1 c_355
                                    exact J_379 h322 mc_345 ms_345 cl_345 sl_345 H locs ls ⟨by omega, by omega⟩ hP hD hS (lv_sub hl [1, 2, 3, 4, 5, 6, 7, 8, 9, 10, 11, 0] rfl) hm
                                  · replace hm := hm.2 c_355
                                    refine lv_iload hx hb dL_law_358 (lv_at hl 0 rfl) ?_
                                    refine lv_if_eq (tgt := 379) hx hb dL_law_360 (by decide) (fun c_360 => ?_) (fun c_360 => ?_)
                                    · replace hm := hm.1 c_360
                                      exact J_379 h322 mc_345 ms_345 cl_345 sl_345 H locs ls ⟨by omega, by omega⟩ hP hD hS (lv_sub hl [1, 2, 3, 4, 5, 6, 7, 8, 9, 10, 11, 0] rfl) hm
                                    · replace hm := hm.2 c_360
                                      refine lv_aload hx hb dL_law_363 (lv_at hl 5 rfl) ?_
                                      refine lv_iload hx hb dL_law_365 (lv_at hl 10 rfl) ?_
                                      refine lv_iload hx hb dL_law_367 (lv_at hl 11 rfl) ?_
                                      obtain ⟨⟨wr369, fr369, hrq369⟩, hm⟩ := hm
                                      refine hcVi (As := [.int x295, .int r322]) (rest := []) ⟨hx, hb, hml, hown, hts⟩ (h_X10_why l G K c h322 a163 x295 r322 _ hm) (cwV 2 hts gL_law_X10_why rfl rfl rfl (heV_X10_why) ⟨Nat.le_of_ble_eq_true rfl, Nat.le_of_ble_eq_true rfl⟩) hK hN hZ hXX hP hD hS hA (mr_recv hK (mRd hK hP hZ hS) (ci := 10) rfl hrq369) rfl hl.1 rfl (Nat.le_of_ble_eq_true rfl) dL_law_369 ⟨by show cl_345 + 0 ≤ mc; omega, by show sl_345 + 0 ≤ ms; omega⟩ (fun r369 h369 H locs hm hP hD hS => ?_)
                                      refine lv_if_ne (tgt := 379) hx hb dL_law_372 (by decide) (fun c_372 => ?_) (fun c_372 => ?_)
                                      · replace hm := hm.2 c_372
                                        exact J_379 h369 mc_345 ms_345 cl_345 sl_345 H locs ls ⟨by omega, by omega⟩ hP hD hS (lv_sub hl [1, 2, 3, 4, 5, 6, 7, 8, 9, 10, 11, 0] rfl) hm
                                      · replace hm := hm.1 c_372
                                        refine lv_iconst (v := 1) hx hb dL_law_375 (by decide) ?_
                                        refine lv_goto (tgt := 380) hx hb dL_law_376 (by decide) ?_
                                        exact J_380 h369 mc_345 ms_345 (1 : Int32) cl_345 sl_345 H locs ls ⟨by omega, by omega⟩ hP hD hS (lv_sub hl [1, 2, 3, 4, 5, 6, 7, 8, 9, 10, 11, 0] rfl) hm

set_option maxHeartbeats 4000000 in
set_option maxRecDepth 100000 in
theorem hj_L_law_J321 {p : Program} {l : Launch} (hl0 : l.stackTraces = false) {e : Env} {s : State} {m : MethodId} {args : Array Value} {below : List Frame} {meth : Method} {c1 : Code} {A : Nat → Prop} {Q : State → Prop} {G : va_G} {K : (Nat → Nat) × (Nat → Nat)} {c : Nat → ClassId} {mc ms : Nat} {post : Int32 → HW → Prop} (hx : p.tables.exec = Jvm.exec) (hb : c1.code = code) (hml : c1.maxLocals = 20) (hown : s.vm.findClass RL = some m.cls) (hts : ∀ w ∈ lw_tb2, w.before args s = true) (hK : va_K G vwCl (TY c) s) (hN : NW K s) (hZ : ZE K A s s.heap) (hXX : XX s) (hA : ∀ q : Nat, s.heap.size ≤ q → A q) (hend : ∀ (H : Heap) (locs : List Loc) (ls : Array Slot) (pc cells slots : Nat) (v : Int32) (h1 : HW), cells ≤ mc → slots ≤ ms → narrow .boolean (.int v) = .int v → post v h1 → mP G K h1 H → mD A h1 → va_S A s.heap H locs → decode code pc = .ok (.ireturn, 1) → W p l e (rm_L_law mc ms) s m args below meth c1 H locs cells slots Q (F0 m pc ls [.int v])) (b : Nat) (v2_4 : Int32) (q19 : Nat) (q33 : Nat) (a163 : Nat) (q196 : Nat) (rec_207 : HW → Nat → Nat → Int32 → Int32 → Int32 → Prop) (v8_207 : Int32) (v9_207 : Int32) (a220 : Nat) (x295 : Int32) (h310 : HW) (J_797 : ∀ (h_797 : HW) (mc_797 ms_797 : Nat) (v1_797 : Int32) (v11_797 : Int32) (cl_797 sl_797 : Nat) (H : Heap) (locs : List Loc) (ls : Array Slot), cl_797 + mc_797 ≤ mc ∧ sl_797 + ms_797 ≤ ms → mP G K h_797 H → mD A h_797 → va_S A s.heap H locs → lv_has ls 20 [(0, .ref b), (1, .int v1_797), (2, .int v2_4), (3, .ref q19), (5, .ref q33), (6, .ref a163), (7, .ref q196), (8, .int v8_207), (9, .int v9_207), (10, .ref a220), (11, .int v11_797)] → w_L_law_J797 c K q19 a163 q196 rec_207 v8_207 v9_207 a220 h_797 mc_797 ms_797 v1_797 v11_797 → W p l e (rm_L_law mc ms) s m args below meth c1 H locs cl_797 sl_797 Q (F0 m 797 ls [])) : ∀ (mc_321 ms_321 : Nat) (s0_321 : Int32) (s1_321 : Int32) (s2_321 : Nat) (cl_321 sl_321 : Nat) (H : Heap) (locs : List Loc) (ls : Array Slot), cl_321 + mc_321 ≤ mc ∧ sl_321 + ms_321 ≤ ms → mP G K h310 H → mD A h310 → va_S A s.heap H locs → lv_has ls 20 [(0, .ref b), (2, .int v2_4), (3, .ref q19), (5, .ref q33), (6, .ref a163), (7, .ref q196), (8, .int v8_207), (9, .int v9_207), (10, .ref a220), (12, .int x295)] → w_L_law_J321 c K q19 a163 q196 rec_207 v8_207 v9_207 a220 x295 h310 mc_321 ms_321 s0_321 s1_321 s2_321 → W p l e (rm_L_law mc ms) s m args below meth c1 H locs cl_321 sl_321 Q (F0 m 321 ls [.int s0_321, .int s1_321, .ref s2_321]) := by
                                intro mc_321 ms_321 s0_321 s1_321 s2_321 cl_321 sl_321 H locs ls hf hP hD hS hl hm
                                unfold w_L_law_J321 at hm
                                refine lv_iadd hx hb dL_law_321 ?_
                                refine lv_topi (fun x321 ex321 => ?_)
                                replace hm := hm x321 ex321
                                obtain ⟨⟨wr322, fr322, hrq322⟩, hm⟩ := hm
                                refine hcVi (As := [.int x321]) (rest := []) ⟨hx, hb, hml, hown, hts⟩ (h_X9_below l G K c h310 s2_321 x321 _ hm) (cwV 1 hts gL_law_X9_below rfl rfl rfl (heV_X9_below) ⟨Nat.le_of_ble_eq_true rfl, Nat.le_of_ble_eq_true rfl⟩) hK hN hZ hXX hP hD hS hA (mr_recv hK (mRd hK hP hZ hS) (ci := 9) rfl hrq322) rfl hl.1 rfl (Nat.le_of_ble_eq_true rfl) dL_law_322 ⟨by show cl_321 + 0 ≤ mc; omega, by show sl_321 + 0 ≤ ms; omega⟩ (fun r322 h322 H locs hm hP hD hS => ?_)
                                refine lv_istore (lv' := [(13, .int r322), (0, .ref b), (2, .int v2_4), (3, .ref q19), (5, .ref q33), (6, .ref a163), (7, .ref q196), (8, .int v8_207), (9, .int v9_207), (10, .ref a220), (12, .int x295)]) hx hb dL_law_325 hl (by decide) rfl (fun ls hl => ?_)
                                refine lv_iload hx hb dL_law_327 (lv_at hl 10 rfl) ?_
                                refine lv_bipush (v := 10) hx hb dL_law_329 (by decide) ?_
                                refine lv_idiv hx hb dL_law_331 (by decide) ?_
                                refine lv_topi (fun x331 ex331 => ?_)
                                replace hm := hm x331 ex331
                                refine lv_iload hx hb dL_law_332 (lv_at hl 10 rfl) ?_
                                refine lv_bipush (v := 10) hx hb dL_law_334 (by decide) ?_
                                refine lv_irem hx hb dL_law_336 (by decide) ?_
                                refine lv_topi (fun x336 ex336 => ?_)
                                replace hm := hm x336 ex336
                                have J_345 := hj_L_law_J345 hl0 hx hb hml hown hts hK hN hZ hXX hA hend b v2_4 q19 q33 a163 q196 rec_207 v8_207 v9_207 a220 x295 r322 h322 J_797 
                                refine lv_icmp_gt (tgt := 344) hx hb dL_law_337 (by decide) (fun c_337 => ?_) (fun c_337 => ?_)
                                · replace hm := hm.1 c_337
                                  refine lv_iconst (v := 0) hx hb dL_law_344 (by decide) ?_
                                  exact J_345 mc_321 ms_321 (0 : Int32) cl_321 sl_321 H locs ls ⟨by omega, by omega⟩ hP hD hS (lv_sub hl [1, 2, 3, 4, 5, 6, 7, 8, 9, 10, 0] rfl) hm
                                · replace hm := hm.2 c_337
                                  refine lv_iconst (v := 1) hx hb dL_law_340 (by decide) ?_
                                  refine lv_goto (tgt := 345) hx hb dL_law_341 (by decide) ?_
                                  exact J_345 mc_321 ms_321 (1 : Int32) cl_321 sl_321 H locs ls ⟨by omega, by omega⟩ hP hD hS (lv_sub hl [1, 2, 3, 4, 5, 6, 7, 8, 9, 10, 0] rfl) hm

set_option maxHeartbeats 4000000 in
set_option maxRecDepth 100000 in
theorem hj_L_law_J268 {p : Program} {l : Launch} (hl0 : l.stackTraces = false) {e : Env} {s : State} {m : MethodId} {args : Array Value} {below : List Frame} {meth : Method} {c1 : Code} {A : Nat → Prop} {Q : State → Prop} {G : va_G} {K : (Nat → Nat) × (Nat → Nat)} {c : Nat → ClassId} {mc ms : Nat} {post : Int32 → HW → Prop} (hx : p.tables.exec = Jvm.exec) (hb : c1.code = code) (hml : c1.maxLocals = 20) (hown : s.vm.findClass RL = some m.cls) (hts : ∀ w ∈ lw_tb2, w.before args s = true) (hK : va_K G vwCl (TY c) s) (hN : NW K s) (hZ : ZE K A s s.heap) (hXX : XX s) (hA : ∀ q : Nat, s.heap.size ≤ q → A q) (hend : ∀ (H : Heap) (locs : List Loc) (ls : Array Slot) (pc cells slots : Nat) (v : Int32) (h1 : HW), cells ≤ mc → slots ≤ ms → narrow .boolean (.int v) = .int v → post v h1 → mP G K h1 H → mD A h1 → va_S A s.heap H locs → decode code pc = .ok (.ireturn, 1) → W p l e (rm_L_law mc ms) s m args below meth c1 H locs cells slots Q (F0 m pc ls [.int v])) (b : Nat) (v2_4 : Int32) (q19 : Nat) (q33 : Nat) (a163 : Nat) (q196 : Nat) (rec_207 : HW → Nat → Nat → Int32 → Int32 → Int32 → Prop) (v8_207 : Int32) (v9_207 : Int32) (a220 : Nat) (h232 : HW) (J_797 : ∀ (h_797 : HW) (mc_797 ms_797 : Nat) (v1_797 : Int32) (v11_797 : Int32) (cl_797 sl_797 : Nat) (H : Heap) (locs : List Loc) (ls : Array Slot), cl_797 + mc_797 ≤ mc ∧ sl_797 + ms_797 ≤ ms → mP G K h_797 H → mD A h_797 → va_S A s.heap H locs → lv_has ls 20 [(0, .ref b), (1, .int v1_797), (2, .int v2_4), (3, .ref q19), (5, .ref q33), (6, .ref a163), (7, .ref q196), (8, .int v8_207), (9, .int v9_207), (10, .ref a220), (11, .int v11_797)] → w_L_law_J797 c K q19 a163 q196 rec_207 v8_207 v9_207 a220 h_797 mc_797 ms_797 v1_797 v11_797 → W p l e (rm_L_law mc ms) s m args below meth c1 H locs cl_797 sl_797 Q (F0 m 797 ls [])) : ∀ (mc_268 ms_268 : Nat) (cl_268 sl_268 : Nat) (H : Heap) (locs : List Loc) (ls : Array Slot), cl_268 + mc_268 ≤ mc ∧ sl_268 + ms_268 ≤ ms → mP G K h232 H → mD A h232 → va_S A s.heap H locs → lv_has ls 20 [(0, .ref b), (2, .int v2_4), (3, .ref q19), (5, .ref q33), (6, .ref a163), (7, .ref q196), (8, .int v8_207), (9, .int v9_207), (10, .ref a220)] → w_L_law_J268 c K q19 q33 a163 q196 rec_207 v8_207 v9_207 a220 h232 mc_268 ms_268 → W p l e (rm_L_law mc ms) s m args below meth c1 H locs cl_268 sl_268 Q (F0 m 268 ls []) := by
                              have hi_10 : ∀ w ∈ u_ws RX10 TX10 17, w ∈ lw_tb2 := fun w h => tin_wsX100 w h
                              intro mc_268 ms_268 cl_268 sl_268 H locs ls hf hP hD hS hl hm
                              unfold w_L_law_J268 at hm
                              refine lv_aload hx hb dL_law_268 (lv_at hl 3 rfl) ?_
                              refine lv_aload hx hb dL_law_270 (lv_at hl 4 rfl) ?_
                              obtain ⟨wq272, fs272, g272, hq272, hv272, hm⟩ := hm
                              refine mr_get (ci := 10) (C := RX10) (T := TX10) (N := 17) hx hb hts hi_10 hown hK (mRd hK hP hZ hS) hq272 rfl 0 (by decide) (hts (.fieldLink RL 119 "HubTrainsLaw$Table" "most" "I") (tin_c [.fieldLink RL 119 "HubTrainsLaw$Table" "most" "I"] [(1, 219)] rfl _ (List.mem_singleton.mpr rfl))) (fun _ h9 => h9) hv272 dL_law_272 ?_
                              refine lv_iconst (v := 1) hx hb dL_law_275 (by decide) ?_
                              refine lv_iadd hx hb dL_law_276 ?_
                              refine lv_topi (fun x276 ex276 => ?_)
                              replace hm := hm x276 ex276
                              obtain ⟨⟨wr277, fr277, hrq277⟩, hm⟩ := hm
                              refine hcVi (As := [.int x276]) (rest := []) ⟨hx, hb, hml, hown, hts⟩ (h_X9_below l G K c h232 q33 x276 _ hm) (cwV 1 hts gL_law_X9_below rfl rfl rfl (heV_X9_below) ⟨Nat.le_of_ble_eq_true rfl, Nat.le_of_ble_eq_true rfl⟩) hK hN hZ hXX hP hD hS hA (mr_recv hK (mRd hK hP hZ hS) (ci := 9) rfl hrq277) rfl hl.1 rfl (Nat.le_of_ble_eq_true rfl) dL_law_277 ⟨by show cl_268 + 0 ≤ mc; omega, by show sl_268 + 0 ≤ ms; omega⟩ (fun r277 h277 H locs hm hP hD hS => ?_)
                              refine lv_bipush (v := 10) hx hb dL_law_280 (by decide) ?_
                              refine lv_imul hx hb dL_law_282 ?_
                              refine lv_topi (fun x282 ex282 => ?_)
                              replace hm := hm x282 ex282
                              refine lv_aload hx hb dL_law_283 (lv_at hl 3 rfl) ?_
                              refine lv_aload hx hb dL_law_285 (lv_at hl 4 rfl) ?_
                              obtain ⟨wq287, fs287, g287, hq287, hv287, hm⟩ := hm
                              refine mr_get (ci := 10) (C := RX10) (T := TX10) (N := 17) hx hb hts hi_10 hown hK (mRd hK hP hZ hS) hq287 rfl 0 (by decide) (hts (.fieldLink RL 119 "HubTrainsLaw$Table" "most" "I") (tin_c [.fieldLink RL 119 "HubTrainsLaw$Table" "most" "I"] [(1, 219)] rfl _ (List.mem_singleton.mpr rfl))) (fun _ h9 => h9) hv287 dL_law_287 ?_
                              refine lv_iconst (v := 1) hx hb dL_law_290 (by decide) ?_
                              refine lv_iadd hx hb dL_law_291 ?_
                              refine lv_topi (fun x291 ex291 => ?_)
                              replace hm := hm x291 ex291
                              obtain ⟨⟨wr292, fr292, hrq292⟩, hm⟩ := hm
                              refine hcVi (As := [.int x291]) (rest := [.int x282]) ⟨hx, hb, hml, hown, hts⟩ (h_X9_below l G K c h277 q33 x291 _ hm) (cwV 1 hts gL_law_X9_below rfl rfl rfl (heV_X9_below) ⟨Nat.le_of_ble_eq_true rfl, Nat.le_of_ble_eq_true rfl⟩) hK hN hZ hXX hP hD hS hA (mr_recv hK (mRd hK hP hZ hS) (ci := 9) rfl hrq292) rfl hl.1 rfl (Nat.le_of_ble_eq_true rfl) dL_law_292 ⟨by show cl_268 + 0 ≤ mc; omega, by show sl_268 + 0 ≤ ms; omega⟩ (fun r292 h292 H locs hm hP hD hS => ?_)
                              refine lv_iadd hx hb dL_law_295 ?_
                              refine lv_topi (fun x295 ex295 => ?_)
                              replace hm := hm x295 ex295
                              refine lv_istore (lv' := [(12, .int x295), (0, .ref b), (2, .int v2_4), (3, .ref q19), (5, .ref q33), (6, .ref a163), (7, .ref q196), (8, .int v8_207), (9, .int v9_207), (10, .ref a220)]) hx hb dL_law_296 hl (by decide) rfl (fun ls hl => ?_)
                              refine lv_aload hx hb dL_law_298 (lv_at hl 4 rfl) ?_
                              refine lv_aload hx hb dL_law_300 (lv_at hl 5 rfl) ?_
                              obtain ⟨wq302, fs302, g302, hq302, hv302, hm⟩ := hm
                              refine mr_get (ci := 10) (C := RX10) (T := TX10) (N := 17) hx hb hts hi_10 hown hK (mRd hK hP hZ hS) hq302 rfl 12 (by decide) (hts (.fieldLink RL 138 "HubTrainsLaw$Table" "trains" "[[I") (tin_c [.fieldLink RL 138 "HubTrainsLaw$Table" "trains" "[[I"] [(1, 238)] rfl _ (List.mem_singleton.mpr rfl))) (fun _ h9 => h9) hv302 dL_law_302 ?_
                              obtain ⟨wq305, xx305, hq305, hm⟩ := hm
                              refine mr_alen hx hb hK (mRd hK hP hZ hS) 2 hq305 rfl dL_law_305 (fun x305 ex305 => ?_)
                              replace hm := hm x305 ex305
                              refine lv_aload hx hb dL_law_306 (lv_at hl 4 rfl) ?_
                              refine lv_bipush (v := 9) hx hb dL_law_308 (by decide) ?_
                              obtain ⟨⟨wr310, fr310, hrq310⟩, hm⟩ := hm
                              refine hcVi (As := [.int (9 : Int32)]) (rest := [.int x305, .ref q33]) ⟨hx, hb, hml, hown, hts⟩ (h_X9_below l G K c h292 q33 (9 : Int32) _ hm) (cwV 1 hts gL_law_X9_below rfl rfl rfl (heV_X9_below) ⟨Nat.le_of_ble_eq_true rfl, Nat.le_of_ble_eq_true rfl⟩) hK hN hZ hXX hP hD hS hA (mr_recv hK (mRd hK hP hZ hS) (ci := 9) rfl hrq310) rfl hl.1 rfl (Nat.le_of_ble_eq_true rfl) dL_law_310 ⟨by show cl_268 + 0 ≤ mc; omega, by show sl_268 + 0 ≤ ms; omega⟩ (fun r310 h310 H locs hm hP hD hS => ?_)
                              have J_321 := hj_L_law_J321 hl0 hx hb hml hown hts hK hN hZ hXX hA hend b v2_4 q19 q33 a163 q196 rec_207 v8_207 v9_207 a220 x295 h310 J_797 
                              refine lv_if_ne (tgt := 320) hx hb dL_law_313 (by decide) (fun c_313 => ?_) (fun c_313 => ?_)
                              · replace hm := hm.2 c_313
                                refine lv_iconst (v := 0) hx hb dL_law_320 (by decide) ?_
                                exact J_321 mc_268 ms_268 (0 : Int32) x305 q33 cl_268 sl_268 H locs ls ⟨by omega, by omega⟩ hP hD hS (lv_sub hl [1, 2, 3, 4, 5, 6, 7, 8, 9, 0] rfl) hm
                              · replace hm := hm.1 c_313
                                refine lv_iconst (v := 1) hx hb dL_law_316 (by decide) ?_
                                refine lv_goto (tgt := 321) hx hb dL_law_317 (by decide) ?_
                                exact J_321 mc_268 ms_268 (1 : Int32) x305 q33 cl_268 sl_268 H locs ls ⟨by omega, by omega⟩ hP hD hS (lv_sub hl [1, 2, 3, 4, 5, 6, 7, 8, 9, 0] rfl) hm

set_option maxHeartbeats 4000000 in
set_option maxRecDepth 100000 in
theorem hj_L_law_J485 {p : Program} {l : Launch} (hl0 : l.stackTraces = false) {e : Env} {s : State} {m : MethodId} {args : Array Value} {below : List Frame} {meth : Method} {c1 : Code} {A : Nat → Prop} {Q : State → Prop} {G : va_G} {K : (Nat → Nat) × (Nat → Nat)} {c : Nat → ClassId} {mc ms : Nat} {post : Int32 → HW → Prop} (hx : p.tables.exec = Jvm.exec) (hb : c1.code = code) (hml : c1.maxLocals = 20) (hown : s.vm.findClass RL = some m.cls) (hts : ∀ w ∈ lw_tb2, w.before args s = true) (hK : va_K G vwCl (TY c) s) (hN : NW K s) (hZ : ZE K A s s.heap) (hXX : XX s) (hA : ∀ q : Nat, s.heap.size ≤ q → A q) (hend : ∀ (H : Heap) (locs : List Loc) (ls : Array Slot) (pc cells slots : Nat) (v : Int32) (h1 : HW), cells ≤ mc → slots ≤ ms → narrow .boolean (.int v) = .int v → post v h1 → mP G K h1 H → mD A h1 → va_S A s.heap H locs → decode code pc = .ok (.ireturn, 1) → W p l e (rm_L_law mc ms) s m args below meth c1 H locs cells slots Q (F0 m pc ls [.int v])) (b : Nat) (v2_4 : Int32) (q19 : Nat) (q33 : Nat) (a163 : Nat) (q196 : Nat) (rec_207 : HW → Nat → Nat → Int32 → Int32 → Int32 → Prop) (v8_207 : Int32) (v9_207 : Int32) (a220 : Nat) (r453 : Int32) (h_477 : HW) (J_797 : ∀ (h_797 : HW) (mc_797 ms_797 : Nat) (v1_797 : Int32) (v11_797 : Int32) (cl_797 sl_797 : Nat) (H : Heap) (locs : List Loc) (ls : Array Slot), cl_797 + mc_797 ≤ mc ∧ sl_797 + ms_797 ≤ ms → mP G K h_797 H → mD A h_797 → va_S A s.heap H locs → lv_has ls 20 [(0, .ref b), (1, .int v1_797), (2, .int v2_4), (3, .ref q19), (5, .ref q33), (6, .ref a163), (7, .ref q196), (8, .int v8_207), (9, .int v9_207), (10, .ref a220), (11, .int v11_797)] → w_L_law_J797 c K q19 a163 q196 rec_207 v8_207 v9_207 a220 h_797 mc_797 ms_797 v1_797 v11_797 → W p l e (rm_L_law mc ms) s m args below meth c1 H locs cl_797 sl_797 Q (F0 m 797 ls [])) : ∀ (mc_485 ms_485 : Nat) (s0_485 : Int32) (cl_485 sl_485 : Nat) (H : Heap) (locs : List Loc) (ls : Array Slot), cl_485 + mc_485 ≤ mc ∧ sl_485 + ms_485 ≤ ms → mP G K h_477 H → mD A h_477 → va_S A s.heap H locs → lv_has ls 20 [(0, .ref b), (2, .int v2_4), (3, .ref q19), (5, .ref q33), (6, .ref a163), (7, .ref q196), (8, .int v8_207), (9, .int v9_207), (10, .ref a220), (11, .int r453)] → w_L_law_J485 c K q19 a163 q196 rec_207 v8_207 v9_207 a220 r453 h_477 mc_485 ms_485 s0_485 → W p l e (rm_L_law mc ms) s m args below meth c1 H locs cl_485 sl_485 Q (F0 m 485 ls [.int s0_485]) := by
                                  intro mc_485 ms_485 s0_485 cl_485 sl_485 H locs ls hf hP hD hS hl hm
                                  unfold w_L_law_J485 at hm
                                  refine lv_istore_n (lv' := [(1, .int s0_485), (0, .ref b), (2, .int v2_4), (3, .ref q19), (5, .ref q33), (6, .ref a163), (7, .ref q196), (8, .int v8_207), (9, .int v9_207), (10, .ref a220), (11, .int r453)]) hx hb dL_law_485 rfl hl (by decide) rfl (fun ls hl => ?_)
                                  refine lv_goto (tgt := 797) hx hb dL_law_486 (by decide) ?_
                                  exact J_797 h_477 mc_485 ms_485 s0_485 r453 cl_485 sl_485 H locs ls ⟨by omega, by omega⟩ hP hD hS (lv_sub hl [1, 0, 2, 3, 4, 5, 6, 7, 8, 9, 10] rfl) hm
