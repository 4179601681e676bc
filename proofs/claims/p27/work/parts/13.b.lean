/-! the law keeps to it -/
set_option maxHeartbeats 4000000 in
set_option maxRecDepth 100000 in
theorem hj_L_law_J1011 {p : Program} {l : Launch} (hl0 : l.stackTraces = false) {e : Env} {s : State} {m : MethodId} {args : Array Value} {below : List Frame} {meth : Method} {c1 : Code} {A : Nat → Prop} {Q : State → Prop} {G : va_G} {K : (Nat → Nat) × (Nat → Nat)} {c : Nat → ClassId} {mc ms : Nat} {post : Int32 → HW → Prop} (hx : p.tables.exec = Jvm.exec) (hb : c1.code = code) (hml : c1.maxLocals = 20) (hown : s.vm.findClass RL = some m.cls) (hts : ∀ w ∈ lw_tb2, w.before args s = true) (hK : va_K G vwCl (TY c) s) (hN : NW K s) (hZ : ZE K A s s.heap) (hXX : XX s) (hA : ∀ q : Nat, s.heap.size ≤ q → A q) (hend : ∀ (H : Heap) (locs : List Loc) (ls : Array Slot) (pc cells slots : Nat) (v : Int32) (h1 : HW), cells ≤ mc → slots ≤ ms → narrow .boolean (.int v) = .int v → post v h1 → mP G h1 H → mD A h1 → va_S A s.heap H locs → decode code pc = .ok (.ireturn, 1) → W p l e (rm_L_law mc ms) s m args below meth c1 H locs cells slots Q (F0 m pc ls [.int v])) (b : Nat) (rec_4 : HW → Nat → Nat → Int32 → Int32 → Prop) (h_4 : HW) (mc_4 : Nat) (ms_4 : Nat) (v1_4 : Int32) (v2_4 : Int32) (ih_4 : ∀ (h_4 : HW) (mc_4 : Nat) (ms_4 : Nat) (v1_4 : Int32) (v2_4 : Int32) (cl_4 sl_4 : Nat) (H : Heap) (locs : List Loc) (ls : Array Slot), cl_4 + mc_4 ≤ mc ∧ sl_4 + ms_4 ≤ ms → mP G h_4 H → mD A h_4 → va_S A s.heap H locs → lv_has ls 20 [(0, .ref b), (1, .int v1_4), (2, .int v2_4)] → rec_4 h_4 mc_4 ms_4 v1_4 v2_4 → W p l e (rm_L_law mc ms) s m args below meth c1 H locs cl_4 sl_4 Q (F0 m 4 ls [])) : ∀ (h_1011 : HW) (mc_1011 ms_1011 : Nat) (s0_1011 : Int32) (cl_1011 sl_1011 : Nat) (H : Heap) (locs : List Loc) (ls : Array Slot), cl_1011 + mc_1011 ≤ mc ∧ sl_1011 + ms_1011 ≤ ms → mP G h_1011 H → mD A h_1011 → va_S A s.heap H locs → lv_has ls 20 [(0, .ref b), (2, .int v2_4)] → w_L_law_J1011 c K rec_4 v2_4 h_1011 mc_1011 ms_1011 s0_1011 → W p l e (rm_L_law mc ms) s m args below meth c1 H locs cl_1011 sl_1011 Q (F0 m 1011 ls [.int s0_1011]) := by
                                  intro h_1011 mc_1011 ms_1011 s0_1011 cl_1011 sl_1011 H locs ls hf hP hD hS hl hm
                                  unfold w_L_law_J1011 at hm
                                  refine lv_istore_n (lv' := [(1, .int s0_1011), (0, .ref b), (2, .int v2_4)]) hx hb dL_law_1011 rfl hl (by decide) rfl (fun ls hl => ?_)
                                  obtain ⟨x1012, ex1012⟩ : ∃ z : Int32, z = (v2_4 + 1) := ⟨_, rfl⟩
                                  replace hm := hm x1012 ex1012
                                  refine lv_iinc (k := 2) (v := x1012) (lv' := [(2, .int x1012), (1, .int s0_1011), (0, .ref b)]) hx hb dL_law_1012 hl rfl ex1012.symm (by decide) rfl (fun ls hl => ?_)
                                  refine lv_goto (tgt := 4) hx hb dL_law_1015 (by decide) ?_
                                  exact ih_4 h_1011 mc_1011 ms_1011 s0_1011 x1012 cl_1011 sl_1011 H locs ls ⟨by omega, by omega⟩ hP hD hS (lv_sub hl [2, 1, 0] rfl) hm

set_option maxHeartbeats 4000000 in
set_option maxRecDepth 100000 in
theorem hj_L_law_J1010 {p : Program} {l : Launch} (hl0 : l.stackTraces = false) {e : Env} {s : State} {m : MethodId} {args : Array Value} {below : List Frame} {meth : Method} {c1 : Code} {A : Nat → Prop} {Q : State → Prop} {G : va_G} {K : (Nat → Nat) × (Nat → Nat)} {c : Nat → ClassId} {mc ms : Nat} {post : Int32 → HW → Prop} (hx : p.tables.exec = Jvm.exec) (hb : c1.code = code) (hml : c1.maxLocals = 20) (hown : s.vm.findClass RL = some m.cls) (hts : ∀ w ∈ lw_tb2, w.before args s = true) (hK : va_K G vwCl (TY c) s) (hN : NW K s) (hZ : ZE K A s s.heap) (hXX : XX s) (hA : ∀ q : Nat, s.heap.size ≤ q → A q) (hend : ∀ (H : Heap) (locs : List Loc) (ls : Array Slot) (pc cells slots : Nat) (v : Int32) (h1 : HW), cells ≤ mc → slots ≤ ms → narrow .boolean (.int v) = .int v → post v h1 → mP G h1 H → mD A h1 → va_S A s.heap H locs → decode code pc = .ok (.ireturn, 1) → W p l e (rm_L_law mc ms) s m args below meth c1 H locs cells slots Q (F0 m pc ls [.int v])) (b : Nat) (rec_4 : HW → Nat → Nat → Int32 → Int32 → Prop) (v2_4 : Int32) (J_1011 : ∀ (h_1011 : HW) (mc_1011 ms_1011 : Nat) (s0_1011 : Int32) (cl_1011 sl_1011 : Nat) (H : Heap) (locs : List Loc) (ls : Array Slot), cl_1011 + mc_1011 ≤ mc ∧ sl_1011 + ms_1011 ≤ ms → mP G h_1011 H → mD A h_1011 → va_S A s.heap H locs → lv_has ls 20 [(0, .ref b), (2, .int v2_4)] → w_L_law_J1011 c K rec_4 v2_4 h_1011 mc_1011 ms_1011 s0_1011 → W p l e (rm_L_law mc ms) s m args below meth c1 H locs cl_1011 sl_1011 Q (F0 m 1011 ls [.int s0_1011])) : ∀ (h_1010 : HW) (mc_1010 ms_1010 : Nat) (cl_1010 sl_1010 : Nat) (H : Heap) (locs : List Loc) (ls : Array Slot), cl_1010 + mc_1010 ≤ mc ∧ sl_1010 + ms_1010 ≤ ms → mP G h_1010 H → mD A h_1010 → va_S A s.heap H locs → lv_has ls 20 [(0, .ref b), (2, .int v2_4)] → w_L_law_J1010 c K rec_4 v2_4 h_1010 mc_1010 ms_1010 → W p l e (rm_L_law mc ms) s m args below meth c1 H locs cl_1010 sl_1010 Q (F0 m 1010 ls []) := by
                                  intro h_1010 mc_1010 ms_1010 cl_1010 sl_1010 H locs ls hf hP hD hS hl hm
                                  unfold w_L_law_J1010 at hm
                                  refine lv_iconst (v := 0) hx hb dL_law_1010 (by decide) ?_
                                  exact J_1011 h_1010 mc_1010 ms_1010 (0 : Int32) cl_1010 sl_1010 H locs ls ⟨by omega, by omega⟩ hP hD hS (lv_sub hl [0, 1] rfl) hm

set_option maxHeartbeats 4000000 in
set_option maxRecDepth 100000 in
theorem hj_L_law_J915 {p : Program} {l : Launch} (hl0 : l.stackTraces = false) {e : Env} {s : State} {m : MethodId} {args : Array Value} {below : List Frame} {meth : Method} {c1 : Code} {A : Nat → Prop} {Q : State → Prop} {G : va_G} {K : (Nat → Nat) × (Nat → Nat)} {c : Nat → ClassId} {mc ms : Nat} {post : Int32 → HW → Prop} (hx : p.tables.exec = Jvm.exec) (hb : c1.code = code) (hml : c1.maxLocals = 20) (hown : s.vm.findClass RL = some m.cls) (hts : ∀ w ∈ lw_tb2, w.before args s = true) (hK : va_K G vwCl (TY c) s) (hN : NW K s) (hZ : ZE K A s s.heap) (hXX : XX s) (hA : ∀ q : Nat, s.heap.size ≤ q → A q) (hend : ∀ (H : Heap) (locs : List Loc) (ls : Array Slot) (pc cells slots : Nat) (v : Int32) (h1 : HW), cells ≤ mc → slots ≤ ms → narrow .boolean (.int v) = .int v → post v h1 → mP G h1 H → mD A h1 → va_S A s.heap H locs → decode code pc = .ok (.ireturn, 1) → W p l e (rm_L_law mc ms) s m args below meth c1 H locs cells slots Q (F0 m pc ls [.int v])) (b : Nat) (rec_4 : HW → Nat → Nat → Int32 → Int32 → Prop) (v2_4 : Int32) (q19 : Nat) (h_866 : HW) (v1_866 : Int32) : ∀ (mc_915 ms_915 : Nat) (cl_915 sl_915 : Nat) (H : Heap) (locs : List Loc) (ls : Array Slot), cl_915 + mc_915 ≤ mc ∧ sl_915 + ms_915 ≤ ms → mP G h_866 H → mD A h_866 → va_S A s.heap H locs → lv_has ls 20 [(0, .ref b), (1, .int v1_866), (2, .int v2_4), (3, .ref q19)] → w_L_law_J915 c K rec_4 v2_4 q19 h_866 v1_866 mc_915 ms_915 → W p l e (rm_L_law mc ms) s m args below meth c1 H locs cl_915 sl_915 Q (F0 m 915 ls []) := by
                                intro mc_915 ms_915 cl_915 sl_915 H locs ls hf hP hD hS hl hm
                                unfold w_L_law_J915 at hm
                                refine lv_iload_n hx hb dL_law_915 rfl (lv_at hl 1 rfl) ?_
                                have J_1011 := hj_L_law_J1011 hl0 hx hb hml hown hts hK hN hZ hXX hA hend b rec_4 h_4 mc_4 ms_4 v1_4 v2_4 ih_4
                                have J_1010 := hj_L_law_J1010 hl0 hx hb hml hown hts hK hN hZ hXX hA hend b rec_4 v2_4 J_1011 
                                refine lv_if_eq (tgt := 1010) hx hb dL_law_916 (by decide) (fun c_916 => ?_) (fun c_916 => ?_)
                                · replace hm := hm.1 c_916
                                  exact J_1010 h_866 mc_915 ms_915 cl_915 sl_915 H locs ls ⟨by omega, by omega⟩ hP hD hS (lv_sub hl [0, 2] rfl) hm
                                · replace hm := hm.2 c_916
                                  refine lv_aload_n hx hb dL_law_919 rfl (lv_at hl 3 rfl) ?_
                                  refine lv_iconst (v := 1) hx hb dL_law_920 (by decide) ?_
                                  obtain ⟨m921, z921, mB921, zB921, hbm921, hbs921, hm⟩ := hm
                                  refine hcSWi (As := [.ref q19, .int (1 : Int32)]) (rest := []) ⟨hx, hb, hml, hown, hts⟩ (h_L_load l hl0 G K c h_866 q19 (1 : Int32) m921 z921 _ hm) (vx_cwSW 2 hts gL_law_L_load rfl rfl rfl he_L_load ⟨Nat.le_of_ble_eq_true rfl, Nat.le_of_ble_eq_true rfl⟩) hK hN hZ hXX hP hD hS hA rfl hl.1 rfl (Nat.le_of_ble_eq_true rfl) dL_law_921 ⟨by show cl_915 + m921 ≤ mc; omega, by show sl_915 + z921 ≤ ms; omega⟩ (fun r921 h921 H locs hm hP hD hS => ?_)
                                  replace hf : (cl_915 + m921) + mB921 ≤ mc ∧ (sl_915 + z921) + zB921 ≤ ms := ⟨by omega, by omega⟩
                                  clear hbm921 hbs921
                                  refine lv_ldc (v := (-2000000098)) hx hb hown (hts (.constant RL 42 (-2000000098)) (tin_c [.constant RL 42 (-2000000098)] [(3, 165)] rfl _ (List.mem_singleton.mpr rfl))) dL_law_924 ?_
                                  refine lv_icmp_ne (tgt := 1010) hx hb dL_law_926 (by decide) (fun c_926 => ?_) (fun c_926 => ?_)
                                  · replace hm := hm.2 c_926
                                    exact J_1010 h921 mB921 zB921 (cl_915 + m921) (sl_915 + z921) H locs ls ⟨by omega, by omega⟩ hP hD hS (lv_sub hl [0, 2] rfl) hm
                                  · replace hm := hm.1 c_926
                                    refine lv_aload_n hx hb dL_law_929 rfl (lv_at hl 3 rfl) ?_
                                    refine lv_iconst (v := 0) hx hb dL_law_930 (by decide) ?_
                                    refine lv_iconst (v := (-1)) hx hb dL_law_931 (by decide) ?_
                                    obtain ⟨m932, z932, mB932, zB932, hbm932, hbs932, hm⟩ := hm
                                    refine hcSWi (As := [.ref q19, .int (0 : Int32), .int (-1 : Int32)]) (rest := []) ⟨hx, hb, hml, hown, hts⟩ (h_L_why l hl0 G K c h921 q19 (0 : Int32) (-1 : Int32) m932 z932 _ hm) (vx_cwSW 3 hts gL_law_L_why rfl rfl rfl he_L_why ⟨Nat.le_of_ble_eq_true rfl, Nat.le_of_ble_eq_true rfl⟩) hK hN hZ hXX hP hD hS hA rfl hl.1 rfl (Nat.le_of_ble_eq_true rfl) dL_law_932 ⟨by show (cl_915 + m921) + m932 ≤ mc; omega, by show (sl_915 + z921) + z932 ≤ ms; omega⟩ (fun r932 h932 H locs hm hP hD hS => ?_)
                                    replace hf : ((cl_915 + m921) + m932) + mB932 ≤ mc ∧ ((sl_915 + z921) + z932) + zB932 ≤ ms := ⟨by omega, by omega⟩
                                    clear hbm932 hbs932
                                    refine lv_ldc (v := (-2000000097)) hx hb hown (hts (.constant RL 52 (-2000000097)) (tin_c [.constant RL 52 (-2000000097)] [(3, 213)] rfl _ (List.mem_singleton.mpr rfl))) dL_law_935 ?_
                                    refine lv_icmp_ne (tgt := 1010) hx hb dL_law_937 (by decide) (fun c_937 => ?_) (fun c_937 => ?_)
                                    · replace hm := hm.2 c_937
                                      exact J_1010 h932 mB932 zB932 ((cl_915 + m921) + m932) ((sl_915 + z921) + z932) H locs ls ⟨by omega, by omega⟩ hP hD hS (lv_sub hl [0, 2] rfl) hm
                                    · replace hm := hm.1 c_937
                                      refine lv_aload_n hx hb dL_law_940 rfl (lv_at hl 3 rfl) ?_
                                      refine lv_bipush (v := 100) hx hb dL_law_941 (by decide) ?_
                                      refine lv_iconst (v := 0) hx hb dL_law_943 (by decide) ?_
                                      obtain ⟨m944, z944, mB944, zB944, hbm944, hbs944, hm⟩ := hm
                                      refine hcSWi (As := [.ref q19, .int (100 : Int32), .int (0 : Int32)]) (rest := []) ⟨hx, hb, hml, hown, hts⟩ (h_L_why l hl0 G K c h932 q19 (100 : Int32) (0 : Int32) m944 z944 _ hm) (vx_cwSW 3 hts gL_law_L_why rfl rfl rfl he_L_why ⟨Nat.le_of_ble_eq_true rfl, Nat.le_of_ble_eq_true rfl⟩) hK hN hZ hXX hP hD hS hA rfl hl.1 rfl (Nat.le_of_ble_eq_true rfl) dL_law_944 ⟨by show ((cl_915 + m921) + m932) + m944 ≤ mc; omega, by show ((sl_915 + z921) + z932) + z944 ≤ ms; omega⟩ (fun r944 h944 H locs hm hP hD hS => ?_)
                                      replace hf : (((cl_915 + m921) + m932) + m944) + mB944 ≤ mc ∧ (((sl_915 + z921) + z932) + z944) + zB944 ≤ ms := ⟨by omega, by omega⟩
                                      clear hbm944 hbs944
                                      refine lv_ldc (v := (-2000000098)) hx hb hown (hts (.constant RL 42 (-2000000098)) (tin_c [.constant RL 42 (-2000000098)] [(3, 165)] rfl _ (List.mem_singleton.mpr rfl))) dL_law_947 ?_
                                      refine lv_icmp_ne (tgt := 1010) hx hb dL_law_949 (by decide) (fun c_949 => ?_) (fun c_949 => ?_)
                                      · replace hm := hm.2 c_949
                                        exact J_1010 h944 mB944 zB944 (((cl_915 + m921) + m932) + m944) (((sl_915 + z921) + z932) + z944) H locs ls ⟨by omega, by omega⟩ hP hD hS (lv_sub hl [0, 2] rfl) hm
                                      · replace hm := hm.1 c_949
                                        refine lv_aload_n hx hb dL_law_952 rfl (lv_at hl 3 rfl) ?_
                                        refine lv_bipush (v := 10) hx hb dL_law_953 (by decide) ?_
                                        refine lv_iconst (v := 0) hx hb dL_law_955 (by decide) ?_
                                        obtain ⟨m956, z956, mB956, zB956, hbm956, hbs956, hm⟩ := hm
                                        refine hcSWi (As := [.ref q19, .int (10 : Int32), .int (0 : Int32)]) (rest := []) ⟨hx, hb, hml, hown, hts⟩ (h_L_rank l hl0 G K c h944 q19 (10 : Int32) (0 : Int32) m956 z956 _ hm) (vx_cwSW 3 hts gL_law_L_rank rfl rfl rfl he_L_rank ⟨Nat.le_of_ble_eq_true rfl, Nat.le_of_ble_eq_true rfl⟩) hK hN hZ hXX hP hD hS hA rfl hl.1 rfl (Nat.le_of_ble_eq_true rfl) dL_law_956 ⟨by show (((cl_915 + m921) + m932) + m944) + m956 ≤ mc; omega, by show (((sl_915 + z921) + z932) + z944) + z956 ≤ ms; omega⟩ (fun r956 h956 H locs hm hP hD hS => ?_)
                                        replace hf : ((((cl_915 + m921) + m932) + m944) + m956) + mB956 ≤ mc ∧ ((((sl_915 + z921) + z932) + z944) + z956) + zB956 ≤ ms := ⟨by omega, by omega⟩
                                        clear hbm956 hbs956
                                        refine lv_ldc (v := (-2000000098)) hx hb hown (hts (.constant RL 42 (-2000000098)) (tin_c [.constant RL 42 (-2000000098)] [(3, 165)] rfl _ (List.mem_singleton.mpr rfl))) dL_law_959 ?_
                                        refine lv_icmp_ne (tgt := 1010) hx hb dL_law_961 (by decide) (fun c_961 => ?_) (fun c_961 => ?_)
                                        · replace hm := hm.2 c_961
                                          exact J_1010 h956 mB956 zB956 ((((cl_915 + m921) + m932) + m944) + m956) ((((sl_915 + z921) + z932) + z944) + z956) H locs ls ⟨by omega, by omega⟩ hP hD hS (lv_sub hl [0, 2] rfl) hm
                                        · replace hm := hm.1 c_961
                                          refine lv_aload_n hx hb dL_law_964 rfl (lv_at hl 3 rfl) ?_
                                          refine lv_iconst (v := 4) hx hb dL_law_965 (by decide) ?_
                                          obtain ⟨m966, z966, mB966, zB966, hbm966, hbs966, hm⟩ := hm
                                          refine hcSWi (As := [.ref q19, .int (4 : Int32)]) (rest := []) ⟨hx, hb, hml, hown, hts⟩ (h_L_longest l hl0 G K c h956 q19 (4 : Int32) m966 z966 _ hm) (vx_cwSW 2 hts gL_law_L_longest rfl rfl rfl he_L_longest ⟨Nat.le_of_ble_eq_true rfl, Nat.le_of_ble_eq_true rfl⟩) hK hN hZ hXX hP hD hS hA rfl hl.1 rfl (Nat.le_of_ble_eq_true rfl) dL_law_966 ⟨by show ((((cl_915 + m921) + m932) + m944) + m956) + m966 ≤ mc; omega, by show ((((sl_915 + z921) + z932) + z944) + z956) + z966 ≤ ms; omega⟩ (fun r966 h966 H locs hm hP hD hS => ?_)
                                          replace hf : (((((cl_915 + m921) + m932) + m944) + m956) + m966) + mB966 ≤ mc ∧ (((((sl_915 + z921) + z932) + z944) + z956) + z966) + zB966 ≤ ms := ⟨by omega, by omega⟩
                                          clear hbm966 hbs966
                                          refine lv_ldc (v := (-2000000097)) hx hb hown (hts (.constant RL 52 (-2000000097)) (tin_c [.constant RL 52 (-2000000097)] [(3, 213)] rfl _ (List.mem_singleton.mpr rfl))) dL_law_969 ?_
                                          refine lv_icmp_ne (tgt := 1010) hx hb dL_law_971 (by decide) (fun c_971 => ?_) (fun c_971 => ?_)
                                          · replace hm := hm.2 c_971
                                            exact J_1010 h966 mB966 zB966 (((((cl_915 + m921) + m932) + m944) + m956) + m966) (((((sl_915 + z921) + z932) + z944) + z956) + z966) H locs ls ⟨by omega, by omega⟩ hP hD hS (lv_sub hl [0, 2] rfl) hm
                                          · replace hm := hm.1 c_971
                                            refine lv_aload_n hx hb dL_law_974 rfl (lv_at hl 3 rfl) ?_
                                            refine lv_iconst (v := (-1)) hx hb dL_law_975 (by decide) ?_
                                            obtain ⟨m976, z976, mB976, zB976, hbm976, hbs976, hm⟩ := hm
                                            refine hcSWi (As := [.ref q19, .int (-1 : Int32)]) (rest := []) ⟨hx, hb, hml, hown, hts⟩ (h_L_heaviest l hl0 G K c h966 q19 (-1 : Int32) m976 z976 _ hm) (vx_cwSW 2 hts gL_law_L_heaviest rfl rfl rfl he_L_heaviest ⟨Nat.le_of_ble_eq_true rfl, Nat.le_of_ble_eq_true rfl⟩) hK hN hZ hXX hP hD hS hA rfl hl.1 rfl (Nat.le_of_ble_eq_true rfl) dL_law_976 ⟨by show (((((cl_915 + m921) + m932) + m944) + m956) + m966) + m976 ≤ mc; omega, by show (((((sl_915 + z921) + z932) + z944) + z956) + z966) + z976 ≤ ms; omega⟩ (fun r976 h976 H locs hm hP hD hS => ?_)
                                            replace hf : ((((((cl_915 + m921) + m932) + m944) + m956) + m966) + m976) + mB976 ≤ mc ∧ ((((((sl_915 + z921) + z932) + z944) + z956) + z966) + z976) + zB976 ≤ ms := ⟨by omega, by omega⟩
                                            clear hbm976 hbs976
                                            refine lv_ldc (v := (-2000000097)) hx hb hown (hts (.constant RL 52 (-2000000097)) (tin_c [.constant RL 52 (-2000000097)] [(3, 213)] rfl _ (List.mem_singleton.mpr rfl))) dL_law_979 ?_
                                            refine lv_icmp_ne (tgt := 1010) hx hb dL_law_981 (by decide) (fun c_981 => ?_) (fun c_981 => ?_)
                                            · replace hm := hm.2 c_981
                                              exact J_1010 h976 mB976 zB976 ((((((cl_915 + m921) + m932) + m944) + m956) + m966) + m976) ((((((sl_915 + z921) + z932) + z944) + z956) + z966) + z976) H locs ls ⟨by omega, by omega⟩ hP hD hS (lv_sub hl [0, 2] rfl) hm
                                            · replace hm := hm.1 c_981
                                              refine lv_aload_n hx hb dL_law_984 rfl (lv_at hl 3 rfl) ?_
                                              refine lv_iconst (v := 5) hx hb dL_law_985 (by decide) ?_
                                              refine lv_iconst (v := 0) hx hb dL_law_986 (by decide) ?_
                                              obtain ⟨m987, z987, mB987, zB987, hbm987, hbs987, hm⟩ := hm
                                              refine hcSWi (As := [.ref q19, .int (5 : Int32), .int (0 : Int32)]) (rest := []) ⟨hx, hb, hml, hown, hts⟩ (h_L_laid l hl0 G K c h976 q19 (5 : Int32) (0 : Int32) m987 z987 _ hm) (vx_cwSW 3 hts gL_law_L_laid rfl rfl rfl he_L_laid ⟨Nat.le_of_ble_eq_true rfl, Nat.le_of_ble_eq_true rfl⟩) hK hN hZ hXX hP hD hS hA rfl hl.1 rfl (Nat.le_of_ble_eq_true rfl) dL_law_987 ⟨by show ((((((cl_915 + m921) + m932) + m944) + m956) + m966) + m976) + m987 ≤ mc; omega, by show ((((((sl_915 + z921) + z932) + z944) + z956) + z966) + z976) + z987 ≤ ms; omega⟩ (fun r987 h987 H locs hm hP hD hS => ?_)
                                              replace hf : (((((((cl_915 + m921) + m932) + m944) + m956) + m966) + m976) + m987) + mB987 ≤ mc ∧ (((((((sl_915 + z921) + z932) + z944) + z956) + z966) + z976) + z987) + zB987 ≤ ms := ⟨by omega, by omega⟩
                                              clear hbm987 hbs987
                                              refine lv_ldc (v := (-2000000097)) hx hb hown (hts (.constant RL 52 (-2000000097)) (tin_c [.constant RL 52 (-2000000097)] [(3, 213)] rfl _ (List.mem_singleton.mpr rfl))) dL_law_990 ?_
                                              refine lv_icmp_ne (tgt := 1010) hx hb dL_law_992 (by decide) (fun c_992 => ?_) (fun c_992 => ?_)
                                              · replace hm := hm.2 c_992
                                                exact J_1010 h987 mB987 zB987 (((((((cl_915 + m921) + m932) + m944) + m956) + m966) + m976) + m987) (((((((sl_915 + z921) + z932) + z944) + z956) + z966) + z976) + z987) H locs ls ⟨by omega, by omega⟩ hP hD hS (lv_sub hl [0, 2] rfl) hm
                                              · replace hm := hm.1 c_992
                                                refine lv_aload_n hx hb dL_law_995 rfl (lv_at hl 3 rfl) ?_
                                                refine lv_iconst (v := (-1)) hx hb dL_law_996 (by decide) ?_
                                                refine lv_iconst (v := 0) hx hb dL_law_997 (by decide) ?_
                                                obtain ⟨m998, z998, mB998, zB998, hbm998, hbs998, hm⟩ := hm
                                                refine hcSWi (As := [.ref q19, .int (-1 : Int32), .int (0 : Int32)]) (rest := []) ⟨hx, hb, hml, hown, hts⟩ (h_L_longestTile l hl0 G K c h987 q19 (-1 : Int32) (0 : Int32) m998 z998 _ hm) (vx_cwSW 3 hts gL_law_L_longestTile rfl rfl rfl he_L_longestTile ⟨Nat.le_of_ble_eq_true rfl, Nat.le_of_ble_eq_true rfl⟩) hK hN hZ hXX hP hD hS hA rfl hl.1 rfl (Nat.le_of_ble_eq_true rfl) dL_law_998 ⟨by show (((((((cl_915 + m921) + m932) + m944) + m956) + m966) + m976) + m987) + m998 ≤ mc; omega, by show (((((((sl_915 + z921) + z932) + z944) + z956) + z966) + z976) + z987) + z998 ≤ ms; omega⟩ (fun r998 h998 H locs hm hP hD hS => ?_)
                                                replace hf : ((((((((cl_915 + m921) + m932) + m944) + m956) + m966) + m976) + m987) + m998) + mB998 ≤ mc ∧ ((((((((sl_915 + z921) + z932) + z944) + z956) + z966) + z976) + z987) + z998) + zB998 ≤ ms := ⟨by omega, by omega⟩
                                                clear hbm998 hbs998
                                                refine lv_ldc (v := (-2000000097)) hx hb hown (hts (.constant RL 52 (-2000000097)) (tin_c [.constant RL 52 (-2000000097)] [(3, 213)] rfl _ (List.mem_singleton.mpr rfl))) dL_law_1001 ?_
                                                refine lv_icmp_ne (tgt := 1010) hx hb dL_law_1003 (by decide) (fun c_1003 => ?_) (fun c_1003 => ?_)
                                                · replace hm := hm.2 c_1003
                                                  exact J_1010 h998 mB998 zB998 ((((((((cl_915 + m921) + m932) + m944) + m956) + m966) + m976) + m987) + m998) ((((((((sl_915 + z921) + z932) + z944) + z956) + z966) + z976) + z987) + z998) H locs ls ⟨by omega, by omega⟩ hP hD hS (lv_sub hl [0, 2] rfl) hm
                                                · replace hm := hm.1 c_1003
                                                  refine lv_iconst (v := 1) hx hb dL_law_1006 (by decide) ?_
                                                  refine lv_goto (tgt := 1011) hx hb dL_law_1007 (by decide) ?_
                                                  exact J_1011 h998 mB998 zB998 (1 : Int32) ((((((((cl_915 + m921) + m932) + m944) + m956) + m966) + m976) + m987) + m998) ((((((((sl_915 + z921) + z932) + z944) + z956) + z966) + z976) + z987) + z998) H locs ls ⟨by omega, by omega⟩ hP hD hS (lv_sub hl [0, 2] rfl) hm

set_option maxHeartbeats 4000000 in
set_option maxRecDepth 100000 in
theorem hj_L_law_J908 {p : Program} {l : Launch} (hl0 : l.stackTraces = false) {e : Env} {s : State} {m : MethodId} {args : Array Value} {below : List Frame} {meth : Method} {c1 : Code} {A : Nat → Prop} {Q : State → Prop} {G : va_G} {K : (Nat → Nat) × (Nat → Nat)} {c : Nat → ClassId} {mc ms : Nat} {post : Int32 → HW → Prop} (hx : p.tables.exec = Jvm.exec) (hb : c1.code = code) (hml : c1.maxLocals = 20) (hown : s.vm.findClass RL = some m.cls) (hts : ∀ w ∈ lw_tb2, w.before args s = true) (hK : va_K G vwCl (TY c) s) (hN : NW K s) (hZ : ZE K A s s.heap) (hXX : XX s) (hA : ∀ q : Nat, s.heap.size ≤ q → A q) (hend : ∀ (H : Heap) (locs : List Loc) (ls : Array Slot) (pc cells slots : Nat) (v : Int32) (h1 : HW), cells ≤ mc → slots ≤ ms → narrow .boolean (.int v) = .int v → post v h1 → mP G h1 H → mD A h1 → va_S A s.heap H locs → decode code pc = .ok (.ireturn, 1) → W p l e (rm_L_law mc ms) s m args below meth c1 H locs cells slots Q (F0 m pc ls [.int v])) (b : Nat) (v2_4 : Int32) (q19 : Nat) (q196 : Nat) (v8_207 : Int32) (rec_866 : HW → Nat → Nat → Int32 → Int32 → Prop) (h_866 : HW) (mc_866 : Nat) (ms_866 : Nat) (v1_866 : Int32) (v9_866 : Int32) (ih_866 : ∀ (h_866 : HW) (mc_866 : Nat) (ms_866 : Nat) (v1_866 : Int32) (v9_866 : Int32) (cl_866 sl_866 : Nat) (H : Heap) (locs : List Loc) (ls : Array Slot), cl_866 + mc_866 ≤ mc ∧ sl_866 + ms_866 ≤ ms → mP G h_866 H → mD A h_866 → va_S A s.heap H locs → lv_has ls 20 [(0, .ref b), (1, .int v1_866), (2, .int v2_4), (3, .ref q19), (7, .ref q196), (8, .int v8_207), (9, .int v9_866)] → rec_866 h_866 mc_866 ms_866 v1_866 v9_866 → W p l e (rm_L_law mc ms) s m args below meth c1 H locs cl_866 sl_866 Q (F0 m 866 ls [])) : ∀ (h_908 : HW) (mc_908 ms_908 : Nat) (s0_908 : Int32) (cl_908 sl_908 : Nat) (H : Heap) (locs : List Loc) (ls : Array Slot), cl_908 + mc_908 ≤ mc ∧ sl_908 + ms_908 ≤ ms → mP G h_908 H → mD A h_908 → va_S A s.heap H locs → lv_has ls 20 [(0, .ref b), (2, .int v2_4), (3, .ref q19), (7, .ref q196), (8, .int v8_207), (9, .int v9_866)] → w_L_law_J908 c K rec_866 v9_866 h_908 mc_908 ms_908 s0_908 → W p l e (rm_L_law mc ms) s m args below meth c1 H locs cl_908 sl_908 Q (F0 m 908 ls [.int s0_908]) := by
                                      intro h_908 mc_908 ms_908 s0_908 cl_908 sl_908 H locs ls hf hP hD hS hl hm
                                      unfold w_L_law_J908 at hm
                                      refine lv_istore_n (lv' := [(1, .int s0_908), (0, .ref b), (2, .int v2_4), (3, .ref q19), (7, .ref q196), (8, .int v8_207), (9, .int v9_866)]) hx hb dL_law_908 rfl hl (by decide) rfl (fun ls hl => ?_)
                                      obtain ⟨x909, ex909⟩ : ∃ z : Int32, z = (v9_866 + 1) := ⟨_, rfl⟩
                                      replace hm := hm x909 ex909
                                      refine lv_iinc (k := 6) (v := x909) (lv' := [(9, .int x909), (1, .int s0_908), (0, .ref b), (2, .int v2_4), (3, .ref q19), (7, .ref q196), (8, .int v8_207)]) hx hb dL_law_909 hl rfl ex909.symm (by decide) rfl (fun ls hl => ?_)
                                      refine lv_goto (tgt := 866) hx hb dL_law_912 (by decide) ?_
                                      exact ih_866 h_908 mc_908 ms_908 s0_908 x909 cl_908 sl_908 H locs ls ⟨by omega, by omega⟩ hP hD hS (lv_sub hl [2, 1, 3, 4, 5, 6, 0] rfl) hm

set_option maxHeartbeats 4000000 in
set_option maxRecDepth 100000 in
theorem hj_L_law_J907 {p : Program} {l : Launch} (hl0 : l.stackTraces = false) {e : Env} {s : State} {m : MethodId} {args : Array Value} {below : List Frame} {meth : Method} {c1 : Code} {A : Nat → Prop} {Q : State → Prop} {G : va_G} {K : (Nat → Nat) × (Nat → Nat)} {c : Nat → ClassId} {mc ms : Nat} {post : Int32 → HW → Prop} (hx : p.tables.exec = Jvm.exec) (hb : c1.code = code) (hml : c1.maxLocals = 20) (hown : s.vm.findClass RL = some m.cls) (hts : ∀ w ∈ lw_tb2, w.before args s = true) (hK : va_K G vwCl (TY c) s) (hN : NW K s) (hZ : ZE K A s s.heap) (hXX : XX s) (hA : ∀ q : Nat, s.heap.size ≤ q → A q) (hend : ∀ (H : Heap) (locs : List Loc) (ls : Array Slot) (pc cells slots : Nat) (v : Int32) (h1 : HW), cells ≤ mc → slots ≤ ms → narrow .boolean (.int v) = .int v → post v h1 → mP G h1 H → mD A h1 → va_S A s.heap H locs → decode code pc = .ok (.ireturn, 1) → W p l e (rm_L_law mc ms) s m args below meth c1 H locs cells slots Q (F0 m pc ls [.int v])) (b : Nat) (v2_4 : Int32) (q19 : Nat) (q196 : Nat) (v8_207 : Int32) (rec_866 : HW → Nat → Nat → Int32 → Int32 → Prop) (v9_866 : Int32) (J_908 : ∀ (h_908 : HW) (mc_908 ms_908 : Nat) (s0_908 : Int32) (cl_908 sl_908 : Nat) (H : Heap) (locs : List Loc) (ls : Array Slot), cl_908 + mc_908 ≤ mc ∧ sl_908 + ms_908 ≤ ms → mP G h_908 H → mD A h_908 → va_S A s.heap H locs → lv_has ls 20 [(0, .ref b), (2, .int v2_4), (3, .ref q19), (7, .ref q196), (8, .int v8_207), (9, .int v9_866)] → w_L_law_J908 c K rec_866 v9_866 h_908 mc_908 ms_908 s0_908 → W p l e (rm_L_law mc ms) s m args below meth c1 H locs cl_908 sl_908 Q (F0 m 908 ls [.int s0_908])) : ∀ (h_907 : HW) (mc_907 ms_907 : Nat) (cl_907 sl_907 : Nat) (H : Heap) (locs : List Loc) (ls : Array Slot), cl_907 + mc_907 ≤ mc ∧ sl_907 + ms_907 ≤ ms → mP G h_907 H → mD A h_907 → va_S A s.heap H locs → lv_has ls 20 [(0, .ref b), (2, .int v2_4), (3, .ref q19), (7, .ref q196), (8, .int v8_207), (9, .int v9_866)] → w_L_law_J907 c K rec_866 v9_866 h_907 mc_907 ms_907 → W p l e (rm_L_law mc ms) s m args below meth c1 H locs cl_907 sl_907 Q (F0 m 907 ls []) := by
                                      intro h_907 mc_907 ms_907 cl_907 sl_907 H locs ls hf hP hD hS hl hm
                                      unfold w_L_law_J907 at hm
                                      refine lv_iconst (v := 0) hx hb dL_law_907 (by decide) ?_
                                      exact J_908 h_907 mc_907 ms_907 (0 : Int32) cl_907 sl_907 H locs ls ⟨by omega, by omega⟩ hP hD hS (lv_sub hl [0, 1, 2, 3, 4, 5] rfl) hm

set_option maxHeartbeats 4000000 in
set_option maxRecDepth 100000 in
theorem hj_L_law_J863 {p : Program} {l : Launch} (hl0 : l.stackTraces = false) {e : Env} {s : State} {m : MethodId} {args : Array Value} {below : List Frame} {meth : Method} {c1 : Code} {A : Nat → Prop} {Q : State → Prop} {G : va_G} {K : (Nat → Nat) × (Nat → Nat)} {c : Nat → ClassId} {mc ms : Nat} {post : Int32 → HW → Prop} (hx : p.tables.exec = Jvm.exec) (hb : c1.code = code) (hml : c1.maxLocals = 20) (hown : s.vm.findClass RL = some m.cls) (hts : ∀ w ∈ lw_tb2, w.before args s = true) (hK : va_K G vwCl (TY c) s) (hN : NW K s) (hZ : ZE K A s s.heap) (hXX : XX s) (hA : ∀ q : Nat, s.heap.size ≤ q → A q) (hend : ∀ (H : Heap) (locs : List Loc) (ls : Array Slot) (pc cells slots : Nat) (v : Int32) (h1 : HW), cells ≤ mc → slots ≤ ms → narrow .boolean (.int v) = .int v → post v h1 → mP G h1 H → mD A h1 → va_S A s.heap H locs → decode code pc = .ok (.ireturn, 1) → W p l e (rm_L_law mc ms) s m args below meth c1 H locs cells slots Q (F0 m pc ls [.int v])) (b : Nat) (rec_4 : HW → Nat → Nat → Int32 → Int32 → Prop) (v2_4 : Int32) (q19 : Nat) (q196 : Nat) (h_207 : HW) (v1_207 : Int32) (v8_207 : Int32) : ∀ (mc_863 ms_863 : Nat) (cl_863 sl_863 : Nat) (H : Heap) (locs : List Loc) (ls : Array Slot), cl_863 + mc_863 ≤ mc ∧ sl_863 + ms_863 ≤ ms → mP G h_207 H → mD A h_207 → va_S A s.heap H locs → lv_has ls 20 [(0, .ref b), (1, .int v1_207), (2, .int v2_4), (3, .ref q19), (7, .ref q196), (8, .int v8_207)] → w_L_law_J863 c K rec_4 v2_4 q19 q196 h_207 v1_207 v8_207 mc_863 ms_863 → W p l e (rm_L_law mc ms) s m args below meth c1 H locs cl_863 sl_863 Q (F0 m 863 ls []) := by
                          intro mc_863 ms_863 cl_863 sl_863 H locs ls hf hP hD hS hl hm
                          unfold w_L_law_J863 at hm
                          refine lv_iconst (v := 0) hx hb dL_law_863 (by decide) ?_
                          refine lv_istore (lv' := [(9, .int (0 : Int32)), (0, .ref b), (1, .int v1_207), (2, .int v2_4), (3, .ref q19), (7, .ref q196), (8, .int v8_207)]) hx hb dL_law_864 hl (by decide) rfl (fun ls hl => ?_)
                          obtain ⟨n_866, hm⟩ := hm
                          have L_866 : ∀ (n_866 : Nat) (h_866 : HW) (mc_866 : Nat) (ms_866 : Nat) (v1_866 : Int32) (v9_866 : Int32) (cl_866 sl_866 : Nat) (H : Heap) (locs : List Loc) (ls : Array Slot), cl_866 + mc_866 ≤ mc ∧ sl_866 + ms_866 ≤ ms → mP G h_866 H → mD A h_866 → va_S A s.heap H locs → lv_has ls 20 [(0, .ref b), (1, .int v1_866), (2, .int v2_4), (3, .ref q19), (7, .ref q196), (8, .int v8_207), (9, .int v9_866)] → itP5 (w_L_law_B866 c K rec_4 v2_4 q19 q196 v8_207) n_866 h_866 mc_866 ms_866 v1_866 v9_866 → W p l e (rm_L_law mc ms) s m args below meth c1 H locs cl_866 sl_866 Q (F0 m 866 ls []) := by
                            intro n_866
                            induction n_866 with
                            | zero => intro h_866 mc_866 ms_866 v1_866 v9_866 cl_866 sl_866 H locs ls hf hP hD hS hl hm; exact hm.elim
                            | succ n_866 ih_866 =>
                              intro h_866 mc_866 ms_866 v1_866 v9_866 cl_866 sl_866 H locs ls hf hP hD hS hl hm
                              have hm : (w_L_law_B866 c K rec_4 v2_4 q19 q196 v8_207) (itP5 (w_L_law_B866 c K rec_4 v2_4 q19 q196 v8_207) n_866) h_866 mc_866 ms_866 v1_866 v9_866 := hm
                              generalize itP5 (w_L_law_B866 c K rec_4 v2_4 q19 q196 v8_207) n_866 = rec_866 at hm ih_866
                              unfold w_L_law_B866 at hm
                              refine lv_iload hx hb dL_law_866 (lv_at hl 6 rfl) ?_
                              refine lv_bipush (v := 8) hx hb dL_law_868 (by decide) ?_
                              have J_915 := hj_L_law_J915 hl0 hx hb hml hown hts hK hN hZ hXX hA hend b rec_4 v2_4 q19 h_866 v1_866 
                              refine lv_icmp_ge (tgt := 915) hx hb dL_law_870 (by decide) (fun c_870 => ?_) (fun c_870 => ?_)
                              · replace hm := hm.1 c_870
                                exact J_915 mc_866 ms_866 cl_866 sl_866 H locs ls ⟨by omega, by omega⟩ hP hD hS (lv_sub hl [0, 1, 2, 3] rfl) hm
                              · replace hm := hm.2 c_870
                                refine lv_iload hx hb dL_law_873 (lv_at hl 6 rfl) ?_
                                refine lv_iload hx hb dL_law_875 (lv_at hl 5 rfl) ?_
                                refine lv_icmp_ge (tgt := 915) hx hb dL_law_877 (by decide) (fun c_877 => ?_) (fun c_877 => ?_)
                                · replace hm := hm.1 c_877
                                  exact J_915 mc_866 ms_866 cl_866 sl_866 H locs ls ⟨by omega, by omega⟩ hP hD hS (lv_sub hl [0, 1, 2, 3] rfl) hm
                                · replace hm := hm.2 c_877
                                  refine lv_iload_n hx hb dL_law_880 rfl (lv_at hl 1 rfl) ?_
                                  refine lv_if_eq (tgt := 915) hx hb dL_law_881 (by decide) (fun c_881 => ?_) (fun c_881 => ?_)
                                  · replace hm := hm.1 c_881
                                    exact J_915 mc_866 ms_866 cl_866 sl_866 H locs ls ⟨by omega, by omega⟩ hP hD hS (lv_sub hl [0, 1, 2, 3] rfl) hm
                                  · replace hm := hm.2 c_881
                                    refine lv_aload_n hx hb dL_law_884 rfl (lv_at hl 3 rfl) ?_
                                    obtain ⟨⟨wr885, fr885, hrq885⟩, hm⟩ := hm
                                    refine hcVi (As := []) (rest := []) ⟨hx, hb, hml, hown, hts⟩ (h_X7_undo l G K c h_866 q19 _ hm) (cwV 0 hts gL_law_X7_undo rfl rfl rfl (heV_X7_undo) ⟨Nat.le_of_ble_eq_true rfl, Nat.le_of_ble_eq_true rfl⟩) hK hN hZ hXX hP hD hS hA (mr_recv hK hP (ci := 7) rfl hrq885) rfl hl.1 rfl (Nat.le_of_ble_eq_true rfl) dL_law_885 ⟨by show cl_866 + 0 ≤ mc; omega, by show sl_866 + 0 ≤ ms; omega⟩ (fun r885 h885 H locs hm hP hD hS => ?_)
                                    have J_908 := hj_L_law_J908 hl0 hx hb hml hown hts hK hN hZ hXX hA hend b v2_4 q19 q196 v8_207 rec_866 h_866 mc_866 ms_866 v1_866 v9_866 ih_866
                                    have J_907 := hj_L_law_J907 hl0 hx hb hml hown hts hK hN hZ hXX hA hend b v2_4 q19 q196 v8_207 rec_866 v9_866 J_908 
                                    refine lv_if_lt (tgt := 907) hx hb dL_law_888 (by decide) (fun c_888 => ?_) (fun c_888 => ?_)
                                    · replace hm := hm.1 c_888
                                      exact J_907 h885 mc_866 ms_866 cl_866 sl_866 H locs ls ⟨by omega, by omega⟩ hP hD hS (lv_sub hl [0, 2, 3, 4, 5, 6] rfl) hm
                                    · replace hm := hm.2 c_888
                                      refine lv_aload_n hx hb dL_law_891 rfl (lv_at hl 3 rfl) ?_
                                      refine lv_aload hx hb dL_law_892 (lv_at hl 4 rfl) ?_
                                      refine lv_iload hx hb dL_law_894 (lv_at hl 6 rfl) ?_
                                      obtain ⟨wq896, n896, f896, x896, hq896, hi896, hv896, hm⟩ := hm
                                      refine mr_aldq (ty := (.object "HubTrainsLaw$Table")) hx hb hK hP 6 rfl hq896 rfl hi896 dL_law_896 (fun o896 eo896 => ?_)
                                      obtain rfl := eo896.trans hv896
                                      obtain ⟨m897, z897, mB897, zB897, hbm897, hbs897, hm⟩ := hm
                                      refine hcSi (As := [.ref q19, .ref x896]) (rest := []) ⟨hx, hb, hml, hown, hts⟩ (h_L_agrees l hl0 G K c h885 q19 x896 m897 z897 _ hm) (va_cwS 2 hts gL_law_L_agrees rfl rfl rfl he_L_agrees ⟨Nat.le_of_ble_eq_true rfl, Nat.le_of_ble_eq_true rfl⟩) hK hN hZ hXX hP hD hS hA rfl hl.1 rfl (Nat.le_of_ble_eq_true rfl) dL_law_897 ⟨by show cl_866 + m897 ≤ mc; omega, by show sl_866 + z897 ≤ ms; omega⟩ (fun r897 h897 H locs hm hP hD hS => ?_)
                                      replace hf : (cl_866 + m897) + mB897 ≤ mc ∧ (sl_866 + z897) + zB897 ≤ ms := ⟨by omega, by omega⟩
                                      clear hbm897 hbs897
                                      refine lv_if_eq (tgt := 907) hx hb dL_law_900 (by decide) (fun c_900 => ?_) (fun c_900 => ?_)
                                      · replace hm := hm.1 c_900
                                        exact J_907 h897 mB897 zB897 (cl_866 + m897) (sl_866 + z897) H locs ls ⟨by omega, by omega⟩ hP hD hS (lv_sub hl [0, 2, 3, 4, 5, 6] rfl) hm
                                      · replace hm := hm.2 c_900
                                        refine lv_iconst (v := 1) hx hb dL_law_903 (by decide) ?_
                                        refine lv_goto (tgt := 908) hx hb dL_law_904 (by decide) ?_
                                        exact J_908 h897 mB897 zB897 (1 : Int32) (cl_866 + m897) (sl_866 + z897) H locs ls ⟨by omega, by omega⟩ hP hD hS (lv_sub hl [0, 2, 3, 4, 5, 6] rfl) hm
                          exact L_866 n_866 h_207 mc_863 ms_863 v1_207 (0 : Int32) cl_863 sl_863 H locs ls ⟨by omega, by omega⟩ hP hD hS (lv_sub hl [1, 2, 3, 4, 5, 6, 0] rfl) hm

set_option maxHeartbeats 4000000 in
set_option maxRecDepth 100000 in
theorem hj_L_law_J857 {p : Program} {l : Launch} (hl0 : l.stackTraces = false) {e : Env} {s : State} {m : MethodId} {args : Array Value} {below : List Frame} {meth : Method} {c1 : Code} {A : Nat → Prop} {Q : State → Prop} {G : va_G} {K : (Nat → Nat) × (Nat → Nat)} {c : Nat → ClassId} {mc ms : Nat} {post : Int32 → HW → Prop} (hx : p.tables.exec = Jvm.exec) (hb : c1.code = code) (hml : c1.maxLocals = 20) (hown : s.vm.findClass RL = some m.cls) (hts : ∀ w ∈ lw_tb2, w.before args s = true) (hK : va_K G vwCl (TY c) s) (hN : NW K s) (hZ : ZE K A s s.heap) (hXX : XX s) (hA : ∀ q : Nat, s.heap.size ≤ q → A q) (hend : ∀ (H : Heap) (locs : List Loc) (ls : Array Slot) (pc cells slots : Nat) (v : Int32) (h1 : HW), cells ≤ mc → slots ≤ ms → narrow .boolean (.int v) = .int v → post v h1 → mP G h1 H → mD A h1 → va_S A s.heap H locs → decode code pc = .ok (.ireturn, 1) → W p l e (rm_L_law mc ms) s m args below meth c1 H locs cells slots Q (F0 m pc ls [.int v])) (b : Nat) (v2_4 : Int32) (q19 : Nat) (q33 : Nat) (a163 : Nat) (q196 : Nat) (rec_207 : HW → Nat → Nat → Int32 → Int32 → Int32 → Prop) (h_207 : HW) (mc_207 : Nat) (ms_207 : Nat) (v1_207 : Int32) (v8_207 : Int32) (v9_207 : Int32) (v8_838 : Int32) (h_856 : HW) (ih_207 : ∀ (h_207 : HW) (mc_207 : Nat) (ms_207 : Nat) (v1_207 : Int32) (v8_207 : Int32) (v9_207 : Int32) (cl_207 sl_207 : Nat) (H : Heap) (locs : List Loc) (ls : Array Slot), cl_207 + mc_207 ≤ mc ∧ sl_207 + ms_207 ≤ ms → mP G h_207 H → mD A h_207 → va_S A s.heap H locs → lv_has ls 20 [(0, .ref b), (1, .int v1_207), (2, .int v2_4), (3, .ref q19), (5, .ref q33), (6, .ref a163), (7, .ref q196), (8, .int v8_207), (9, .int v9_207)] → rec_207 h_207 mc_207 ms_207 v1_207 v8_207 v9_207 → W p l e (rm_L_law mc ms) s m args below meth c1 H locs cl_207 sl_207 Q (F0 m 207 ls [])) : ∀ (mc_857 ms_857 : Nat) (v1_857 : Int32) (cl_857 sl_857 : Nat) (H : Heap) (locs : List Loc) (ls : Array Slot), cl_857 + mc_857 ≤ mc ∧ sl_857 + ms_857 ≤ ms → mP G h_856 H → mD A h_856 → va_S A s.heap H locs → lv_has ls 20 [(0, .ref b), (1, .int v1_857), (2, .int v2_4), (3, .ref q19), (5, .ref q33), (6, .ref a163), (7, .ref q196), (8, .int v8_838), (9, .int v9_207)] → w_L_law_J857 c K rec_207 v9_207 v8_838 h_856 mc_857 ms_857 v1_857 → W p l e (rm_L_law mc ms) s m args below meth c1 H locs cl_857 sl_857 Q (F0 m 857 ls []) := by
                                    intro mc_857 ms_857 v1_857 cl_857 sl_857 H locs ls hf hP hD hS hl hm
                                    unfold w_L_law_J857 at hm
                                    obtain ⟨x857, ex857⟩ : ∃ z : Int32, z = (v9_207 + 1) := ⟨_, rfl⟩
                                    replace hm := hm x857 ex857
                                    refine lv_iinc (k := 8) (v := x857) (lv' := [(9, .int x857), (0, .ref b), (1, .int v1_857), (2, .int v2_4), (3, .ref q19), (5, .ref q33), (6, .ref a163), (7, .ref q196), (8, .int v8_838)]) hx hb dL_law_857 hl rfl ex857.symm (by decide) rfl (fun ls hl => ?_)
                                    refine lv_goto (tgt := 207) hx hb dL_law_860 (by decide) ?_
                                    exact ih_207 h_856 mc_857 ms_857 v1_857 v8_838 x857 cl_857 sl_857 H locs ls ⟨by omega, by omega⟩ hP hD hS (lv_sub hl [1, 2, 3, 4, 5, 6, 7, 8, 0] rfl) hm

set_option maxHeartbeats 4000000 in
set_option maxRecDepth 100000 in
theorem hj_L_law_J856 {p : Program} {l : Launch} (hl0 : l.stackTraces = false) {e : Env} {s : State} {m : MethodId} {args : Array Value} {below : List Frame} {meth : Method} {c1 : Code} {A : Nat → Prop} {Q : State → Prop} {G : va_G} {K : (Nat → Nat) × (Nat → Nat)} {c : Nat → ClassId} {mc ms : Nat} {post : Int32 → HW → Prop} (hx : p.tables.exec = Jvm.exec) (hb : c1.code = code) (hml : c1.maxLocals = 20) (hown : s.vm.findClass RL = some m.cls) (hts : ∀ w ∈ lw_tb2, w.before args s = true) (hK : va_K G vwCl (TY c) s) (hN : NW K s) (hZ : ZE K A s s.heap) (hXX : XX s) (hA : ∀ q : Nat, s.heap.size ≤ q → A q) (hend : ∀ (H : Heap) (locs : List Loc) (ls : Array Slot) (pc cells slots : Nat) (v : Int32) (h1 : HW), cells ≤ mc → slots ≤ ms → narrow .boolean (.int v) = .int v → post v h1 → mP G h1 H → mD A h1 → va_S A s.heap H locs → decode code pc = .ok (.ireturn, 1) → W p l e (rm_L_law mc ms) s m args below meth c1 H locs cells slots Q (F0 m pc ls [.int v])) (b : Nat) (v2_4 : Int32) (q19 : Nat) (q33 : Nat) (a163 : Nat) (q196 : Nat) (rec_207 : HW → Nat → Nat → Int32 → Int32 → Int32 → Prop) (v9_207 : Int32) (v8_838 : Int32) : ∀ (h_856 : HW) (mc_856 ms_856 : Nat) (s0_856 : Int32) (cl_856 sl_856 : Nat) (H : Heap) (locs : List Loc) (ls : Array Slot), cl_856 + mc_856 ≤ mc ∧ sl_856 + ms_856 ≤ ms → mP G h_856 H → mD A h_856 → va_S A s.heap H locs → lv_has ls 20 [(0, .ref b), (2, .int v2_4), (3, .ref q19), (5, .ref q33), (6, .ref a163), (7, .ref q196), (8, .int v8_838), (9, .int v9_207)] → w_L_law_J856 c K rec_207 v9_207 v8_838 h_856 mc_856 ms_856 s0_856 → W p l e (rm_L_law mc ms) s m args below meth c1 H locs cl_856 sl_856 Q (F0 m 856 ls [.int s0_856]) := by
                                  intro h_856 mc_856 ms_856 s0_856 cl_856 sl_856 H locs ls hf hP hD hS hl hm
                                  unfold w_L_law_J856 at hm
                                  have J_857 := hj_L_law_J857 hl0 hx hb hml hown hts hK hN hZ hXX hA hend b v2_4 q19 q33 a163 q196 rec_207 h_207 mc_207 ms_207 v1_207 v8_207 v9_207 v8_838 h_856 ih_207
                                  refine lv_istore_n (lv' := [(1, .int s0_856), (0, .ref b), (2, .int v2_4), (3, .ref q19), (5, .ref q33), (6, .ref a163), (7, .ref q196), (8, .int v8_838), (9, .int v9_207)]) hx hb dL_law_856 rfl hl (by decide) rfl (fun ls hl => ?_)
                                  exact J_857 mc_856 ms_856 s0_856 cl_856 sl_856 H locs ls ⟨by omega, by omega⟩ hP hD hS (lv_sub hl [1, 0, 2, 3, 4, 5, 6, 7, 8] rfl) hm

set_option maxHeartbeats 4000000 in
set_option maxRecDepth 100000 in
theorem hj_L_law_J855 {p : Program} {l : Launch} (hl0 : l.stackTraces = false) {e : Env} {s : State} {m : MethodId} {args : Array Value} {below : List Frame} {meth : Method} {c1 : Code} {A : Nat → Prop} {Q : State → Prop} {G : va_G} {K : (Nat → Nat) × (Nat → Nat)} {c : Nat → ClassId} {mc ms : Nat} {post : Int32 → HW → Prop} (hx : p.tables.exec = Jvm.exec) (hb : c1.code = code) (hml : c1.maxLocals = 20) (hown : s.vm.findClass RL = some m.cls) (hts : ∀ w ∈ lw_tb2, w.before args s = true) (hK : va_K G vwCl (TY c) s) (hN : NW K s) (hZ : ZE K A s s.heap) (hXX : XX s) (hA : ∀ q : Nat, s.heap.size ≤ q → A q) (hend : ∀ (H : Heap) (locs : List Loc) (ls : Array Slot) (pc cells slots : Nat) (v : Int32) (h1 : HW), cells ≤ mc → slots ≤ ms → narrow .boolean (.int v) = .int v → post v h1 → mP G h1 H → mD A h1 → va_S A s.heap H locs → decode code pc = .ok (.ireturn, 1) → W p l e (rm_L_law mc ms) s m args below meth c1 H locs cells slots Q (F0 m pc ls [.int v])) (b : Nat) (v2_4 : Int32) (q19 : Nat) (q33 : Nat) (a163 : Nat) (q196 : Nat) (rec_207 : HW → Nat → Nat → Int32 → Int32 → Int32 → Prop) (v9_207 : Int32) (v8_838 : Int32) (J_856 : ∀ (h_856 : HW) (mc_856 ms_856 : Nat) (s0_856 : Int32) (cl_856 sl_856 : Nat) (H : Heap) (locs : List Loc) (ls : Array Slot), cl_856 + mc_856 ≤ mc ∧ sl_856 + ms_856 ≤ ms → mP G h_856 H → mD A h_856 → va_S A s.heap H locs → lv_has ls 20 [(0, .ref b), (2, .int v2_4), (3, .ref q19), (5, .ref q33), (6, .ref a163), (7, .ref q196), (8, .int v8_838), (9, .int v9_207)] → w_L_law_J856 c K rec_207 v9_207 v8_838 h_856 mc_856 ms_856 s0_856 → W p l e (rm_L_law mc ms) s m args below meth c1 H locs cl_856 sl_856 Q (F0 m 856 ls [.int s0_856])) : ∀ (h_855 : HW) (mc_855 ms_855 : Nat) (cl_855 sl_855 : Nat) (H : Heap) (locs : List Loc) (ls : Array Slot), cl_855 + mc_855 ≤ mc ∧ sl_855 + ms_855 ≤ ms → mP G h_855 H → mD A h_855 → va_S A s.heap H locs → lv_has ls 20 [(0, .ref b), (2, .int v2_4), (3, .ref q19), (5, .ref q33), (6, .ref a163), (7, .ref q196), (8, .int v8_838), (9, .int v9_207)] → w_L_law_J855 c K rec_207 v9_207 v8_838 h_855 mc_855 ms_855 → W p l e (rm_L_law mc ms) s m args below meth c1 H locs cl_855 sl_855 Q (F0 m 855 ls []) := by
                                  intro h_855 mc_855 ms_855 cl_855 sl_855 H locs ls hf hP hD hS hl hm
                                  unfold w_L_law_J855 at hm
                                  refine lv_iconst (v := 0) hx hb dL_law_855 (by decide) ?_
                                  exact J_856 h_855 mc_855 ms_855 (0 : Int32) cl_855 sl_855 H locs ls ⟨by omega, by omega⟩ hP hD hS (lv_sub hl [0, 1, 2, 3, 4, 5, 6, 7] rfl) hm

set_option maxHeartbeats 4000000 in
set_option maxRecDepth 100000 in
theorem hj_L_law_J838 {p : Program} {l : Launch} (hl0 : l.stackTraces = false) {e : Env} {s : State} {m : MethodId} {args : Array Value} {below : List Frame} {meth : Method} {c1 : Code} {A : Nat → Prop} {Q : State → Prop} {G : va_G} {K : (Nat → Nat) × (Nat → Nat)} {c : Nat → ClassId} {mc ms : Nat} {post : Int32 → HW → Prop} (hx : p.tables.exec = Jvm.exec) (hb : c1.code = code) (hml : c1.maxLocals = 20) (hown : s.vm.findClass RL = some m.cls) (hts : ∀ w ∈ lw_tb2, w.before args s = true) (hK : va_K G vwCl (TY c) s) (hN : NW K s) (hZ : ZE K A s s.heap) (hXX : XX s) (hA : ∀ q : Nat, s.heap.size ≤ q → A q) (hend : ∀ (H : Heap) (locs : List Loc) (ls : Array Slot) (pc cells slots : Nat) (v : Int32) (h1 : HW), cells ≤ mc → slots ≤ ms → narrow .boolean (.int v) = .int v → post v h1 → mP G h1 H → mD A h1 → va_S A s.heap H locs → decode code pc = .ok (.ireturn, 1) → W p l e (rm_L_law mc ms) s m args below meth c1 H locs cells slots Q (F0 m pc ls [.int v])) (b : Nat) (v2_4 : Int32) (q19 : Nat) (q33 : Nat) (a163 : Nat) (q196 : Nat) (rec_207 : HW → Nat → Nat → Int32 → Int32 → Int32 → Prop) (v9_207 : Int32) (v1_797 : Int32) : ∀ (h_838 : HW) (mc_838 ms_838 : Nat) (v8_838 : Int32) (cl_838 sl_838 : Nat) (H : Heap) (locs : List Loc) (ls : Array Slot), cl_838 + mc_838 ≤ mc ∧ sl_838 + ms_838 ≤ ms → mP G h_838 H → mD A h_838 → va_S A s.heap H locs → lv_has ls 20 [(0, .ref b), (1, .int v1_797), (2, .int v2_4), (3, .ref q19), (5, .ref q33), (6, .ref a163), (7, .ref q196), (8, .int v8_838), (9, .int v9_207)] → w_L_law_J838 c K q19 a163 rec_207 v9_207 v1_797 h_838 mc_838 ms_838 v8_838 → W p l e (rm_L_law mc ms) s m args below meth c1 H locs cl_838 sl_838 Q (F0 m 838 ls []) := by
                                intro h_838 mc_838 ms_838 v8_838 cl_838 sl_838 H locs ls hf hP hD hS hl hm
                                unfold w_L_law_J838 at hm
                                refine lv_iload_n hx hb dL_law_838 rfl (lv_at hl 1 rfl) ?_
                                have J_856 := hj_L_law_J856 hl0 hx hb hml hown hts hK hN hZ hXX hA hend b v2_4 q19 q33 a163 q196 rec_207 v9_207 v8_838 
                                have J_855 := hj_L_law_J855 hl0 hx hb hml hown hts hK hN hZ hXX hA hend b v2_4 q19 q33 a163 q196 rec_207 v9_207 v8_838 J_856 
                                refine lv_if_eq (tgt := 855) hx hb dL_law_839 (by decide) (fun c_839 => ?_) (fun c_839 => ?_)
                                · replace hm := hm.1 c_839
                                  exact J_855 h_838 mc_838 ms_838 cl_838 sl_838 H locs ls ⟨by omega, by omega⟩ hP hD hS (lv_sub hl [0, 2, 3, 4, 5, 6, 7, 8] rfl) hm
                                · replace hm := hm.2 c_839
                                  refine lv_aload_n hx hb dL_law_842 rfl (lv_at hl 3 rfl) ?_
                                  refine lv_aload hx hb dL_law_843 (lv_at hl 5 rfl) ?_
                                  obtain ⟨m845, z845, mB845, zB845, hbm845, hbs845, hm⟩ := hm
                                  refine hcSi (As := [.ref q19, .ref a163]) (rest := []) ⟨hx, hb, hml, hown, hts⟩ (h_L_agrees l hl0 G K c h_838 q19 a163 m845 z845 _ hm) (va_cwS 2 hts gL_law_L_agrees rfl rfl rfl he_L_agrees ⟨Nat.le_of_ble_eq_true rfl, Nat.le_of_ble_eq_true rfl⟩) hK hN hZ hXX hP hD hS hA rfl hl.1 rfl (Nat.le_of_ble_eq_true rfl) dL_law_845 ⟨by show cl_838 + m845 ≤ mc; omega, by show sl_838 + z845 ≤ ms; omega⟩ (fun r845 h845 H locs hm hP hD hS => ?_)
                                  replace hf : (cl_838 + m845) + mB845 ≤ mc ∧ (sl_838 + z845) + zB845 ≤ ms := ⟨by omega, by omega⟩
                                  clear hbm845 hbs845
                                  refine lv_if_eq (tgt := 855) hx hb dL_law_848 (by decide) (fun c_848 => ?_) (fun c_848 => ?_)
                                  · replace hm := hm.1 c_848
                                    exact J_855 h845 mB845 zB845 (cl_838 + m845) (sl_838 + z845) H locs ls ⟨by omega, by omega⟩ hP hD hS (lv_sub hl [0, 2, 3, 4, 5, 6, 7, 8] rfl) hm
                                  · replace hm := hm.2 c_848
                                    refine lv_iconst (v := 1) hx hb dL_law_851 (by decide) ?_
                                    refine lv_goto (tgt := 856) hx hb dL_law_852 (by decide) ?_
                                    exact J_856 h845 mB845 zB845 (1 : Int32) (cl_838 + m845) (sl_838 + z845) H locs ls ⟨by omega, by omega⟩ hP hD hS (lv_sub hl [0, 2, 3, 4, 5, 6, 7, 8] rfl) hm
