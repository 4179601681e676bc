/-! the law keeps to it -/
set_option maxHeartbeats 4000000 in
set_option maxRecDepth 100000 in
theorem hj_L_law_J158 {p : Program} {l : Launch} (hl0 : l.stackTraces = false) {e : Env} {s : State} {m : MethodId} {args : Array Value} {below : List Frame} {meth : Method} {c1 : Code} {A : Nat → Prop} {Q : State → Prop} {G : va_G} {K : (Nat → Nat) × (Nat → Nat)} {c : Nat → ClassId} {mc ms : Nat} {post : Int32 → HW → Prop} (hx : p.tables.exec = Jvm.exec) (hb : c1.code = code) (hml : c1.maxLocals = 20) (hown : s.vm.findClass RL = some m.cls) (hts : ∀ w ∈ lw_tb2, w.before args s = true) (hK : va_K G vwCl (TY c) s) (hN : NW K s) (hZ : ZE K A s s.heap) (hXX : XX s) (hA : ∀ q : Nat, s.heap.size ≤ q → A q) (hend : ∀ (H : Heap) (locs : List Loc) (ls : Array Slot) (pc cells slots : Nat) (v : Int32) (h1 : HW), cells ≤ mc → slots ≤ ms → narrow .boolean (.int v) = .int v → post v h1 → mP G K h1 H → mD A h1 → va_S A s.heap H locs → decode code pc = .ok (.ireturn, 1) → W p l e (rm_L_law mc ms) s m args below meth c1 H locs cells slots Q (F0 m pc ls [.int v])) (b : Nat) (rec_4 : HW → Nat → Nat → Int32 → Int32 → Prop) (v2_4 : Int32) (q19 : Nat) (q29 : Nat) (q33 : Nat) (h_157 : HW) (ih_4 : ∀ (h_4 : HW) (mc_4 : Nat) (ms_4 : Nat) (v1_4 : Int32) (v2_4 : Int32) (cl_4 sl_4 : Nat) (H : Heap) (locs : List Loc) (ls : Array Slot), cl_4 + mc_4 ≤ mc ∧ sl_4 + ms_4 ≤ ms → mP G K h_4 H → mD A h_4 → va_S A s.heap H locs → lv_has ls 20 [(0, .ref b), (1, .int v1_4), (2, .int v2_4)] → rec_4 h_4 mc_4 ms_4 v1_4 v2_4 → W p l e (rm_L_law mc ms) s m args below meth c1 H locs cl_4 sl_4 Q (F0 m 4 ls [])) : ∀ (mc_158 ms_158 : Nat) (v1_158 : Int32) (cl_158 sl_158 : Nat) (H : Heap) (locs : List Loc) (ls : Array Slot), cl_158 + mc_158 ≤ mc ∧ sl_158 + ms_158 ≤ ms → mP G K h_157 H → mD A h_157 → va_S A s.heap H locs → lv_has ls 20 [(0, .ref b), (1, .int v1_158), (2, .int v2_4), (3, .ref q19), (4, .ref q29), (5, .ref q33)] → w_L_law_J158 c K rec_4 v2_4 q19 q29 q33 h_157 mc_158 ms_158 v1_158 → W p l e (rm_L_law mc ms) s m args below meth c1 H locs cl_158 sl_158 Q (F0 m 158 ls []) := by
                intro mc_158 ms_158 v1_158 cl_158 sl_158 H locs ls hf hP hD hS hl hm
                unfold w_L_law_J158 at hm
                refine lv_aload_n hx hb dL_law_158 rfl (lv_at hl 3 rfl) ?_
                refine lv_aload hx hb dL_law_159 (lv_at hl 4 rfl) ?_
                refine lv_aload hx hb dL_law_161 (lv_at hl 5 rfl) ?_
                obtain ⟨m163, z163, mB163, zB163, hbm163, hbs163, hm⟩ := hm
                refine hcSq (As := [.ref q19, .ref q29, .ref q33]) (rest := []) ⟨hx, hb, hml, hown, hts⟩ (h_L_randomTable l hl0 G K c h_157 q19 q29 q33 m163 z163 _ hm) (va_cwS 3 hts gL_law_L_randomTable rfl rfl rfl he_L_randomTable ⟨Nat.le_of_ble_eq_true rfl, Nat.le_of_ble_eq_true rfl⟩) hK hN hZ hXX hP hD hS hA rfl hl.1 rfl (Nat.le_of_ble_eq_true rfl) dL_law_163 ⟨by show cl_158 + m163 ≤ mc; omega, by show sl_158 + z163 ≤ ms; omega⟩ (fun r163 h163 H locs hm hP hD hS => ?_)
                obtain ⟨a163, rfl, hm⟩ := hm
                replace hf : (cl_158 + m163) + mB163 ≤ mc ∧ (sl_158 + z163) + zB163 ≤ ms := ⟨by omega, by omega⟩
                clear hbm163 hbs163
                refine lv_astore (lv' := [(6, .ref a163), (0, .ref b), (1, .int v1_158), (2, .int v2_4), (3, .ref q19), (4, .ref q29), (5, .ref q33)]) hx hb dL_law_166 hl (by decide) rfl (fun ls hl => ?_)
                refine lv_aload hx hb dL_law_168 (lv_at hl 0 rfl) ?_
                refine lv_ifnonnull (tgt := 175) hx hb dL_law_170 (by decide) ?_
                refine lv_iload_n hx hb dL_law_175 rfl (lv_at hl 2 rfl) ?_
                have J_193 := hj_L_law_J193 hl0 hx hb hml hown hts hK hN hZ hXX hA hend b rec_4 v2_4 q19 q33 a163 ih_4
                have J_192 := hj_L_law_J192 hl0 hx hb hml hown hts hK hN hZ hXX hA hend b rec_4 v2_4 q19 q33 a163 J_193 
                refine lv_if_eq (tgt := 192) hx hb dL_law_176 (by decide) (fun c_176 => ?_) (fun c_176 => ?_)
                · replace hm := hm.1 c_176
                  exact J_192 h163 mB163 zB163 (cl_158 + m163) (sl_158 + z163) H locs ls ⟨by omega, by omega⟩ hP hD hS (lv_sub hl [1, 3, 4, 6, 0] rfl) hm
                · replace hm := hm.2 c_176
                  refine lv_aload_n hx hb dL_law_179 rfl (lv_at hl 4 rfl) ?_
                  refine lv_aload hx hb dL_law_180 (lv_at hl 0 rfl) ?_
                  obtain ⟨m182, z182, mB182, zB182, hbm182, hbs182, hm⟩ := hm
                  refine hcSi (As := [.ref q19, .ref a163]) (rest := []) ⟨hx, hb, hml, hown, hts⟩ (h_L_agrees l hl0 G K c h163 q19 a163 m182 z182 _ hm) (va_cwS 2 hts gL_law_L_agrees rfl rfl rfl he_L_agrees ⟨Nat.le_of_ble_eq_true rfl, Nat.le_of_ble_eq_true rfl⟩) hK hN hZ hXX hP hD hS hA rfl hl.1 rfl (Nat.le_of_ble_eq_true rfl) dL_law_182 ⟨by show (cl_158 + m163) + m182 ≤ mc; omega, by show (sl_158 + z163) + z182 ≤ ms; omega⟩ (fun r182 h182 H locs hm hP hD hS => ?_)
                  replace hf : ((cl_158 + m163) + m182) + mB182 ≤ mc ∧ ((sl_158 + z163) + z182) + zB182 ≤ ms := ⟨by omega, by omega⟩
                  clear hbm182 hbs182
                  refine lv_if_eq (tgt := 192) hx hb dL_law_185 (by decide) (fun c_185 => ?_) (fun c_185 => ?_)
                  · replace hm := hm.1 c_185
                    exact J_192 h182 mB182 zB182 ((cl_158 + m163) + m182) ((sl_158 + z163) + z182) H locs ls ⟨by omega, by omega⟩ hP hD hS (lv_sub hl [1, 3, 4, 6, 0] rfl) hm
                  · replace hm := hm.2 c_185
                    refine lv_iconst (v := 1) hx hb dL_law_188 (by decide) ?_
                    refine lv_goto (tgt := 193) hx hb dL_law_189 (by decide) ?_
                    exact J_193 h182 mB182 zB182 (1 : Int32) ((cl_158 + m163) + m182) ((sl_158 + z163) + z182) H locs ls ⟨by omega, by omega⟩ hP hD hS (lv_sub hl [1, 3, 4, 6, 0] rfl) hm

set_option maxHeartbeats 4000000 in
set_option maxRecDepth 100000 in
theorem hj_L_law_J157 {p : Program} {l : Launch} (hl0 : l.stackTraces = false) {e : Env} {s : State} {m : MethodId} {args : Array Value} {below : List Frame} {meth : Method} {c1 : Code} {A : Nat → Prop} {Q : State → Prop} {G : va_G} {K : (Nat → Nat) × (Nat → Nat)} {c : Nat → ClassId} {mc ms : Nat} {post : Int32 → HW → Prop} (hx : p.tables.exec = Jvm.exec) (hb : c1.code = code) (hml : c1.maxLocals = 20) (hown : s.vm.findClass RL = some m.cls) (hts : ∀ w ∈ lw_tb2, w.before args s = true) (hK : va_K G vwCl (TY c) s) (hN : NW K s) (hZ : ZE K A s s.heap) (hXX : XX s) (hA : ∀ q : Nat, s.heap.size ≤ q → A q) (hend : ∀ (H : Heap) (locs : List Loc) (ls : Array Slot) (pc cells slots : Nat) (v : Int32) (h1 : HW), cells ≤ mc → slots ≤ ms → narrow .boolean (.int v) = .int v → post v h1 → mP G K h1 H → mD A h1 → va_S A s.heap H locs → decode code pc = .ok (.ireturn, 1) → W p l e (rm_L_law mc ms) s m args below meth c1 H locs cells slots Q (F0 m pc ls [.int v])) (b : Nat) (rec_4 : HW → Nat → Nat → Int32 → Int32 → Prop) (v2_4 : Int32) (q19 : Nat) (q29 : Nat) (q33 : Nat) (ih_4 : ∀ (h_4 : HW) (mc_4 : Nat) (ms_4 : Nat) (v1_4 : Int32) (v2_4 : Int32) (cl_4 sl_4 : Nat) (H : Heap) (locs : List Loc) (ls : Array Slot), cl_4 + mc_4 ≤ mc ∧ sl_4 + ms_4 ≤ ms → mP G K h_4 H → mD A h_4 → va_S A s.heap H locs → lv_has ls 20 [(0, .ref b), (1, .int v1_4), (2, .int v2_4)] → rec_4 h_4 mc_4 ms_4 v1_4 v2_4 → W p l e (rm_L_law mc ms) s m args below meth c1 H locs cl_4 sl_4 Q (F0 m 4 ls [])) : ∀ (h_157 : HW) (mc_157 ms_157 : Nat) (s0_157 : Int32) (cl_157 sl_157 : Nat) (H : Heap) (locs : List Loc) (ls : Array Slot), cl_157 + mc_157 ≤ mc ∧ sl_157 + ms_157 ≤ ms → mP G K h_157 H → mD A h_157 → va_S A s.heap H locs → lv_has ls 20 [(0, .ref b), (2, .int v2_4), (3, .ref q19), (4, .ref q29), (5, .ref q33)] → w_L_law_J157 c K rec_4 v2_4 q19 q29 q33 h_157 mc_157 ms_157 s0_157 → W p l e (rm_L_law mc ms) s m args below meth c1 H locs cl_157 sl_157 Q (F0 m 157 ls [.int s0_157]) := by
              intro h_157 mc_157 ms_157 s0_157 cl_157 sl_157 H locs ls hf hP hD hS hl hm
              unfold w_L_law_J157 at hm
              have J_158 := hj_L_law_J158 hl0 hx hb hml hown hts hK hN hZ hXX hA hend b rec_4 v2_4 q19 q29 q33 h_157 ih_4
              refine lv_istore_n (lv' := [(1, .int s0_157), (0, .ref b), (2, .int v2_4), (3, .ref q19), (4, .ref q29), (5, .ref q33)]) hx hb dL_law_157 rfl hl (by decide) rfl (fun ls hl => ?_)
              exact J_158 mc_157 ms_157 s0_157 cl_157 sl_157 H locs ls ⟨by omega, by omega⟩ hP hD hS (lv_sub hl [1, 0, 2, 3, 4, 5] rfl) hm

set_option maxHeartbeats 4000000 in
set_option maxRecDepth 100000 in
theorem hj_L_law_J156 {p : Program} {l : Launch} (hl0 : l.stackTraces = false) {e : Env} {s : State} {m : MethodId} {args : Array Value} {below : List Frame} {meth : Method} {c1 : Code} {A : Nat → Prop} {Q : State → Prop} {G : va_G} {K : (Nat → Nat) × (Nat → Nat)} {c : Nat → ClassId} {mc ms : Nat} {post : Int32 → HW → Prop} (hx : p.tables.exec = Jvm.exec) (hb : c1.code = code) (hml : c1.maxLocals = 20) (hown : s.vm.findClass RL = some m.cls) (hts : ∀ w ∈ lw_tb2, w.before args s = true) (hK : va_K G vwCl (TY c) s) (hN : NW K s) (hZ : ZE K A s s.heap) (hXX : XX s) (hA : ∀ q : Nat, s.heap.size ≤ q → A q) (hend : ∀ (H : Heap) (locs : List Loc) (ls : Array Slot) (pc cells slots : Nat) (v : Int32) (h1 : HW), cells ≤ mc → slots ≤ ms → narrow .boolean (.int v) = .int v → post v h1 → mP G K h1 H → mD A h1 → va_S A s.heap H locs → decode code pc = .ok (.ireturn, 1) → W p l e (rm_L_law mc ms) s m args below meth c1 H locs cells slots Q (F0 m pc ls [.int v])) (b : Nat) (rec_4 : HW → Nat → Nat → Int32 → Int32 → Prop) (v2_4 : Int32) (q19 : Nat) (q29 : Nat) (q33 : Nat) (J_157 : ∀ (h_157 : HW) (mc_157 ms_157 : Nat) (s0_157 : Int32) (cl_157 sl_157 : Nat) (H : Heap) (locs : List Loc) (ls : Array Slot), cl_157 + mc_157 ≤ mc ∧ sl_157 + ms_157 ≤ ms → mP G K h_157 H → mD A h_157 → va_S A s.heap H locs → lv_has ls 20 [(0, .ref b), (2, .int v2_4), (3, .ref q19), (4, .ref q29), (5, .ref q33)] → w_L_law_J157 c K rec_4 v2_4 q19 q29 q33 h_157 mc_157 ms_157 s0_157 → W p l e (rm_L_law mc ms) s m args below meth c1 H locs cl_157 sl_157 Q (F0 m 157 ls [.int s0_157])) : ∀ (h_156 : HW) (mc_156 ms_156 : Nat) (cl_156 sl_156 : Nat) (H : Heap) (locs : List Loc) (ls : Array Slot), cl_156 + mc_156 ≤ mc ∧ sl_156 + ms_156 ≤ ms → mP G K h_156 H → mD A h_156 → va_S A s.heap H locs → lv_has ls 20 [(0, .ref b), (2, .int v2_4), (3, .ref q19), (4, .ref q29), (5, .ref q33)] → w_L_law_J156 c K rec_4 v2_4 q19 q29 q33 h_156 mc_156 ms_156 → W p l e (rm_L_law mc ms) s m args below meth c1 H locs cl_156 sl_156 Q (F0 m 156 ls []) := by
              intro h_156 mc_156 ms_156 cl_156 sl_156 H locs ls hf hP hD hS hl hm
              unfold w_L_law_J156 at hm
              refine lv_iconst (v := 0) hx hb dL_law_156 (by decide) ?_
              exact J_157 h_156 mc_156 ms_156 (0 : Int32) cl_156 sl_156 H locs ls ⟨by omega, by omega⟩ hP hD hS (lv_sub hl [0, 1, 2, 3, 4] rfl) hm

set_option maxHeartbeats 40000000 in
set_option maxRecDepth 100000 in
theorem h_L_law {p : Program} {l : Launch} (hl0 : l.stackTraces = false) {e : Env} {s : State} {m : MethodId} {args : Array Value} {below : List Frame} {meth : Method} {c1 : Code} {A : Nat → Prop} {Q : State → Prop} {G : va_G} {K : (Nat → Nat) × (Nat → Nat)} {c : Nat → ClassId} {mc ms b L : Nat} {xs : Nat → Int32} {post : Int32 → HW → Prop} (hx : p.tables.exec = Jvm.exec) (hb : c1.code = code) (hml : c1.maxLocals = 20) (hown : s.vm.findClass RL = some m.cls) (hts : ∀ w ∈ lw_tb2, w.before args s = true) (hK : va_K G vwCl (TY c) s) (hN : NW K s) (hZ : ZE K A s s.heap) (hXX : XX s) (hA : ∀ q : Nat, s.heap.size ≤ q → A q) (hX : va_X b L xs s s.heap) (hbl : b < s.heap.size) (hbA : ¬ A b) (hend : ∀ (H : Heap) (locs : List Loc) (ls : Array Slot) (pc cells slots : Nat) (v : Int32) (h1 : HW), cells ≤ mc → slots ≤ ms → narrow .boolean (.int v) = .int v → post v h1 → mP G K h1 H → mD A h1 → va_S A s.heap H locs → decode code pc = .ok (.ireturn, 1) → W p l e (rm_L_law mc ms) s m args below meth c1 H locs cells slots Q (F0 m pc ls [.int v])) {h : HW} {H : Heap} {locs : List Loc} (hP : mP G K h H) (hD : mD A h) (hS : va_S A s.heap H locs) (hm : w_L_law c K h b L xs mc ms post) {ls : Array Slot} (hl : lv_has ls 20 [(0, .ref b)]) : W p l e (rm_L_law mc ms) s m args below meth c1 H locs 0 0 Q (F0 m 0 ls []) := by
  have hi_7 : ∀ w ∈ u_ws RX7 TX7 7, w ∈ lw_tb2 := fun w h => tin_wsX70 w h
  have hi_9 : ∀ w ∈ u_ws RX9 TX9 1, w ∈ lw_tb2 := fun w h => tin_wsX90 w h
  have hi_10 : ∀ w ∈ u_ws RX10 TX10 17, w ∈ lw_tb2 := fun w h => tin_wsX100 w h
  unfold w_L_law at hm
  have hf : 0 + mc ≤ mc ∧ 0 + ms ≤ ms := ⟨by omega, by omega⟩
  refine lv_iconst (v := 1) hx hb dL_law_0 (by decide) ?_
  refine lv_istore_n (lv' := [(1, .int (1 : Int32)), (0, .ref b)]) hx hb dL_law_1 rfl hl (by decide) rfl (fun ls hl => ?_)
  refine lv_iconst (v := 0) hx hb dL_law_2 (by decide) ?_
  refine lv_istore_n (lv' := [(2, .int (0 : Int32)), (1, .int (1 : Int32)), (0, .ref b)]) hx hb dL_law_3 rfl hl (by decide) rfl (fun ls hl => ?_)
  obtain ⟨n_4, hm⟩ := hm
  have L_4 : ∀ (n_4 : Nat) (h_4 : HW) (mc_4 : Nat) (ms_4 : Nat) (v1_4 : Int32) (v2_4 : Int32) (cl_4 sl_4 : Nat) (H : Heap) (locs : List Loc) (ls : Array Slot), cl_4 + mc_4 ≤ mc ∧ sl_4 + ms_4 ≤ ms → mP G K h_4 H → mD A h_4 → va_S A s.heap H locs → lv_has ls 20 [(0, .ref b), (1, .int v1_4), (2, .int v2_4)] → itP5 (w_L_law_B4 c K L xs post) n_4 h_4 mc_4 ms_4 v1_4 v2_4 → W p l e (rm_L_law mc ms) s m args below meth c1 H locs cl_4 sl_4 Q (F0 m 4 ls []) := by
    intro n_4
    induction n_4 with
    | zero => intro h_4 mc_4 ms_4 v1_4 v2_4 cl_4 sl_4 H locs ls hf hP hD hS hl hm; exact hm.elim
    | succ n_4 ih_4 =>
      intro h_4 mc_4 ms_4 v1_4 v2_4 cl_4 sl_4 H locs ls hf hP hD hS hl hm
      have hm : (w_L_law_B4 c K L xs post) (itP5 (w_L_law_B4 c K L xs post) n_4) h_4 mc_4 ms_4 v1_4 v2_4 := hm
      generalize itP5 (w_L_law_B4 c K L xs post) n_4 = rec_4 at hm ih_4
      unfold w_L_law_B4 at hm
      refine lv_iload_n hx hb dL_law_4 rfl (lv_at hl 2 rfl) ?_
      refine lv_aload_n hx hb dL_law_5 rfl (lv_at hl 0 rfl) ?_
      refine va_slen hx hb hX hbl hbA hS dL_law_6 ?_
      refine lv_topi (fun x6 ex6 => ?_)
      replace hm := hm x6 ex6
      refine lv_icmp_ge (tgt := 1018) hx hb dL_law_7 (by decide) (fun c_7 => ?_) (fun c_7 => ?_)
      · replace hm := hm.1 c_7
        refine lv_iload_n hx hb dL_law_1018 rfl (lv_at hl 1 rfl) ?_
        obtain ⟨hz, hm⟩ := hm
        exact hend H locs ls 1019 _ _ v1_4 h_4 (by omega) (by omega) (z01_n hz) hm hP hD hS dL_law_1019
      · replace hm := hm.2 c_7
        refine lv_iload_n hx hb dL_law_10 rfl (lv_at hl 2 rfl) ?_
        refine lv_iconst (v := 2) hx hb dL_law_11 (by decide) ?_
        refine lv_icmp_ge (tgt := 1018) hx hb dL_law_12 (by decide) (fun c_12 => ?_) (fun c_12 => ?_)
        · replace hm := hm.1 c_12
          refine lv_iload_n hx hb dL_law_1018 rfl (lv_at hl 1 rfl) ?_
          obtain ⟨hz, hm⟩ := hm
          exact hend H locs ls 1019 _ _ v1_4 h_4 (by omega) (by omega) (z01_n hz) hm hP hD hS dL_law_1019
        · replace hm := hm.2 c_12
          refine lv_iload_n hx hb dL_law_15 rfl (lv_at hl 1 rfl) ?_
          refine lv_if_eq (tgt := 1018) hx hb dL_law_16 (by decide) (fun c_16 => ?_) (fun c_16 => ?_)
          · replace hm := hm.1 c_16
            refine lv_iload_n hx hb dL_law_1018 rfl (lv_at hl 1 rfl) ?_
            obtain ⟨hz, hm⟩ := hm
            exact hend H locs ls 1019 _ _ v1_4 h_4 (by omega) (by omega) (z01_n hz) hm hP hD hS dL_law_1019
          · replace hm := hm.2 c_16
            obtain ⟨mB19, zB19, hc19, hs19, hm⟩ := hm
            refine mr_new (ci := 7) (C := RX7) (T := TX7) (N := 7) (n := 7) (fs := [.null, .null, .null, .int 0, .int 0, .null, .null]) hx hb hts hi_7 tyX7 (fun k hk => tyX7_ok k (Nat.lt_of_lt_of_le hk (by decide))) hown (hts (.classLink RL 14 RX7) (tin_c [.classLink RL 14 RX7] [(0, 31)] rfl _ (List.mem_singleton.mpr rfl))) (hts (.instantiable RX7 7) (tin_c [.instantiable RX7 7] [(0, 32)] rfl _ (List.mem_singleton.mpr rfl))) (hts (.initialized RX7) (tin_c [.initialized RX7] [(0, 1)] rfl _ (List.mem_singleton.mpr rfl))) hK hP hD hS hA rfl (fun j hj => by rcases (show j = 0 ∨ j = 1 ∨ j = 2 ∨ j = 3 ∨ j = 4 ∨ j = 5 ∨ j = 6 by omega) with rfl | rfl | rfl | rfl | rfl | rfl | rfl <;> rfl) (by show cl_4 + 1 ≤ mc; omega) (by show sl_4 + 7 ≤ ms; omega) dL_law_19 (fun q19 H hfr19 hP hD hS => ?_)
            replace hm := hm q19 hfr19
            generalize hup h_4 q19 (.inr (7, [.null, .null, .null, .int 0, .int 0, .null, .null])) = h19 at hm hP hD
            replace hf : (cl_4 + 1) + mB19 ≤ mc ∧ (sl_4 + 7) + zB19 ≤ ms := ⟨by omega, by omega⟩
            clear hc19 hs19
            refine lv_dup hx hb dL_law_22 rfl ?_
            obtain ⟨mB23, zB23, hbm23, hbs23, hm⟩ := hm
            refine hcIv (As := []) (rest := [.ref q19]) ⟨hx, hb, hml, hown, hts⟩ (h_X7_init l G K c h19 q19 _ hm) (cwI 0 hts gL_law_X7_init rfl rfl rfl (hts (.initialized RX7) (tin_c [.initialized RX7] [(0, 1)] rfl _ (List.mem_singleton.mpr rfl))) (hts (.methodLink RL 222 yX7_init) (tin_c [.methodLink RL 222 yX7_init] [(0, 33)] rfl _ (List.mem_singleton.mpr rfl))) (hts (.instanceMethod yX7_init) (tin_c [.instanceMethod yX7_init] [(0, 34)] rfl _ (List.mem_singleton.mpr rfl))) rfl he_X7_init ⟨Nat.le_of_ble_eq_true rfl, Nat.le_of_ble_eq_true rfl⟩) hK hN hZ hXX hP hD hS hA rfl hl.1 rfl (Nat.le_of_ble_eq_true rfl) dL_law_23 ⟨by show (cl_4 + 1) + 120 ≤ mc; omega, by show (sl_4 + 7) + 16666 ≤ ms; omega⟩ (fun h23 H locs hm hP hD hS => ?_)
            replace hf : ((cl_4 + 1) + 120) + mB23 ≤ mc ∧ ((sl_4 + 7) + 16666) + zB23 ≤ ms := ⟨by omega, by omega⟩
            clear hbm23 hbs23
            refine lv_astore_n (lv' := [(3, .ref q19), (0, .ref b), (1, .int v1_4), (2, .int v2_4)]) hx hb dL_law_26 rfl hl (by decide) rfl (fun ls hl => ?_)
            refine lv_bipush (v := 8) hx hb dL_law_27 (by decide) ?_
            obtain ⟨hn29, hb29, mB29, zB29, hc29, hs29, hm⟩ := hm
            refine mr_newa (atype := .int) (a0 := (fun N => (N, .inl (fun _ => 0)))) hx hb (hts (.arrayClass .int) (tin_c [.arrayClass .int] [(0, 61)] rfl _ (List.mem_singleton.mpr rfl))) hK 0 rfl hP hD hS hA (fun _ => rfl) hn29 (c65 hb29 (by decide)) (by show ((cl_4 + 1) + 120) + 1 ≤ mc; omega) (by show ((sl_4 + 7) + 16666) + _ ≤ ms; omega) dL_law_29 (fun q29 H hfr29 hP hD hS => ?_)
            replace hm := hm q29 hfr29
            generalize hup h23 q29 (eI (c 0) (8 : Int32).toNatClampNeg (fun _ => 0)) = h29 at hm hP hD
            replace hf : (((cl_4 + 1) + 120) + 1) + mB29 ≤ mc ∧ (((sl_4 + 7) + 16666) + (8 : Int32).toNatClampNeg) + zB29 ≤ ms := ⟨by omega, by omega⟩
            clear hc29 hs29 hb29
            refine lv_astore (lv' := [(4, .ref q29), (3, .ref q19), (0, .ref b), (1, .int v1_4), (2, .int v2_4)]) hx hb dL_law_31 hl (by decide) rfl (fun ls hl => ?_)
            obtain ⟨mB33, zB33, hc33, hs33, hm⟩ := hm
            refine mr_new (ci := 9) (C := RX9) (T := TX9) (N := 1) (n := 1) (fs := [.int 0]) hx hb hts hi_9 tyX9 (fun k hk => tyX9_ok k (Nat.lt_of_lt_of_le hk (by decide))) hown (hts (.classLink RL 115 RX9) (tin_c [.classLink RL 115 RX9] [(1, 195)] rfl _ (List.mem_singleton.mpr rfl))) (hts (.instantiable RX9 1) (tin_c [.instantiable RX9 1] [(1, 196)] rfl _ (List.mem_singleton.mpr rfl))) (hts (.initialized RX9) (tin_c [.initialized RX9] [(0, 9)] rfl _ (List.mem_singleton.mpr rfl))) hK hP hD hS hA rfl (fun j hj => by rcases (show j = 0 by omega) with rfl <;> rfl) (by show (((cl_4 + 1) + 120) + 1) + 1 ≤ mc; omega) (by show (((sl_4 + 7) + 16666) + (8 : Int32).toNatClampNeg) + 1 ≤ ms; omega) dL_law_33 (fun q33 H hfr33 hP hD hS => ?_)
            replace hm := hm q33 hfr33
            generalize hup h29 q33 (.inr (9, [.int 0])) = h33 at hm hP hD
            replace hf : ((((cl_4 + 1) + 120) + 1) + 1) + mB33 ≤ mc ∧ ((((sl_4 + 7) + 16666) + (8 : Int32).toNatClampNeg) + 1) + zB33 ≤ ms := ⟨by omega, by omega⟩
            clear hc33 hs33
            refine lv_dup hx hb dL_law_36 rfl ?_
            refine lv_aload_n hx hb dL_law_37 rfl (lv_at hl 2 rfl) ?_
            refine lv_iload_n hx hb dL_law_38 rfl (lv_at hl 4 rfl) ?_
            obtain ⟨hin39, hm⟩ := hm
            refine va_sld hx hb hX hbl hbA hS hin39 dL_law_39 ?_
            refine lv_topi (fun x39 ex39 => ?_)
            replace hm := hm x39 ex39
            refine hcIv (As := [.int x39]) (rest := [.ref q33]) ⟨hx, hb, hml, hown, hts⟩ (h_X9_init l G K c h33 q33 x39 _ hm) (cwI 1 hts gL_law_X9_init rfl rfl rfl (hts (.initialized RX9) (tin_c [.initialized RX9] [(0, 9)] rfl _ (List.mem_singleton.mpr rfl))) (hts (.methodLink RL 223 yX9_init) (tin_c [.methodLink RL 223 yX9_init] [(1, 197)] rfl _ (List.mem_singleton.mpr rfl))) (hts (.instanceMethod yX9_init) (tin_c [.instanceMethod yX9_init] [(1, 198)] rfl _ (List.mem_singleton.mpr rfl))) rfl he_X9_init ⟨Nat.le_of_ble_eq_true rfl, Nat.le_of_ble_eq_true rfl⟩) hK hN hZ hXX hP hD hS hA rfl hl.1 rfl (Nat.le_of_ble_eq_true rfl) dL_law_40 ⟨by show ((((cl_4 + 1) + 120) + 1) + 1) + 0 ≤ mc; omega, by show ((((sl_4 + 7) + 16666) + (8 : Int32).toNatClampNeg) + 1) + 0 ≤ ms; omega⟩ (fun h40 H locs hm hP hD hS => ?_)
            refine lv_astore (lv' := [(5, .ref q33), (4, .ref q29), (3, .ref q19), (0, .ref b), (1, .int v1_4), (2, .int v2_4)]) hx hb dL_law_43 hl (by decide) rfl (fun ls hl => ?_)
            obtain ⟨mB45, zB45, hc45, hs45, hm⟩ := hm
            refine mr_new (ci := 10) (C := RX10) (T := TX10) (N := 17) (n := 17) (fs := [.int 0, .int 0, .int 0, .int 0, .int 0, .int 0, .int 0, .int 0, .int 0, .int 0, .null, .null, .null, .null, .null, .null, .null]) hx hb hts hi_10 tyX10 (fun k hk => tyX10_ok k (Nat.lt_of_lt_of_le hk (by decide))) hown (hts (.classLink RL 111 RX10) (tin_c [.classLink RL 111 RX10] [(1, 210)] rfl _ (List.mem_singleton.mpr rfl))) (hts (.instantiable RX10 17) (tin_c [.instantiable RX10 17] [(1, 211)] rfl _ (List.mem_singleton.mpr rfl))) (hts (.initialized RX10) (tin_c [.initialized RX10] [(0, 10)] rfl _ (List.mem_singleton.mpr rfl))) hK hP hD hS hA rfl (fun j hj => by rcases (show j = 0 ∨ j = 1 ∨ j = 2 ∨ j = 3 ∨ j = 4 ∨ j = 5 ∨ j = 6 ∨ j = 7 ∨ j = 8 ∨ j = 9 ∨ j = 10 ∨ j = 11 ∨ j = 12 ∨ j = 13 ∨ j = 14 ∨ j = 15 ∨ j = 16 by omega) with rfl | rfl | rfl | rfl | rfl | rfl | rfl | rfl | rfl | rfl | rfl | rfl | rfl | rfl | rfl | rfl | rfl <;> rfl) (by show ((((cl_4 + 1) + 120) + 1) + 1) + 1 ≤ mc; omega) (by show ((((sl_4 + 7) + 16666) + (8 : Int32).toNatClampNeg) + 1) + 17 ≤ ms; omega) dL_law_45 (fun q45 H hfr45 hP hD hS => ?_)
            replace hm := hm q45 hfr45
            generalize hup h40 q45 (.inr (10, [.int 0, .int 0, .int 0, .int 0, .int 0, .int 0, .int 0, .int 0, .int 0, .int 0, .null, .null, .null, .null, .null, .null, .null])) = h45 at hm hP hD
            replace hf : (((((cl_4 + 1) + 120) + 1) + 1) + 1) + mB45 ≤ mc ∧ (((((sl_4 + 7) + 16666) + (8 : Int32).toNatClampNeg) + 1) + 17) + zB45 ≤ ms := ⟨by omega, by omega⟩
            clear hc45 hs45
            refine lv_dup hx hb dL_law_48 rfl ?_
            obtain ⟨m49, z49, mB49, zB49, hbm49, hbs49, hm⟩ := hm
            refine hcINv (As := []) (rest := [.ref q45]) ⟨hx, hb, hml, hown, hts⟩ (h_X10_init l G K c h45 q45 m49 z49 _ hm) ⟨va_cnB 0 hts gL_law_X10_init_n113 rfl rfl rfl (nwm_HubTrainsLaw_113 hN.2.1) (hts (.initialized RX10) (tin_c [.initialized RX10] [(0, 10)] rfl _ (List.mem_singleton.mpr rfl))) he_X10_init ⟨Nat.le_of_ble_eq_true rfl, Nat.le_of_ble_eq_true rfl⟩, rfl, (hts (.instanceMethod yX10_init) (tin_c [.instanceMethod yX10_init] [(1, 213)] rfl _ (List.mem_singleton.mpr rfl)))⟩ hK hN hZ hXX hP hD hS hA rfl hl.1 rfl (Nat.le_of_ble_eq_true rfl) dL_law_49 ⟨by show (((((cl_4 + 1) + 120) + 1) + 1) + 1) + m49 ≤ mc; omega, by show (((((sl_4 + 7) + 16666) + (8 : Int32).toNatClampNeg) + 1) + 17) + z49 ≤ ms; omega⟩ (fun h49 H locs hm hP hD hS => ?_)
            replace hf : ((((((cl_4 + 1) + 120) + 1) + 1) + 1) + m49) + mB49 ≤ mc ∧ ((((((sl_4 + 7) + 16666) + (8 : Int32).toNatClampNeg) + 1) + 17) + z49) + zB49 ≤ ms := ⟨by omega, by omega⟩
            clear hbm49 hbs49
            refine lv_astore (lv' := [(6, .ref q45), (5, .ref q33), (4, .ref q29), (3, .ref q19), (0, .ref b), (1, .int v1_4), (2, .int v2_4)]) hx hb dL_law_52 hl (by decide) rfl (fun ls hl => ?_)
            refine lv_aload hx hb dL_law_54 (lv_at hl 0 rfl) ?_
            obtain ⟨⟨wr56, fr56, hrq56⟩, hm⟩ := hm
            obtain ⟨m56, z56, mB56, zB56, hbm56, hbs56, hm⟩ := hm
            refine hcVv (As := []) (rest := []) ⟨hx, hb, hml, hown, hts⟩ (h_X10_deals l G K c h49 q45 m56 z56 _ hm) (cwV 0 hts gL_law_X10_deals rfl rfl rfl (heV_X10_deals) ⟨Nat.le_of_ble_eq_true rfl, Nat.le_of_ble_eq_true rfl⟩) hK hN hZ hXX hP hD hS hA (mr_recv hK (mRd hK hP hZ hS) (ci := 10) rfl hrq56) rfl hl.1 rfl (Nat.le_of_ble_eq_true rfl) dL_law_56 ⟨by show ((((((cl_4 + 1) + 120) + 1) + 1) + 1) + m49) + m56 ≤ mc; omega, by show ((((((sl_4 + 7) + 16666) + (8 : Int32).toNatClampNeg) + 1) + 17) + z49) + z56 ≤ ms; omega⟩ (fun h56 H locs hm hP hD hS => ?_)
            replace hf : (((((((cl_4 + 1) + 120) + 1) + 1) + 1) + m49) + m56) + mB56 ≤ mc ∧ (((((((sl_4 + 7) + 16666) + (8 : Int32).toNatClampNeg) + 1) + 17) + z49) + z56) + zB56 ≤ ms := ⟨by omega, by omega⟩
            clear hbm56 hbs56
            refine lv_aload_n hx hb dL_law_59 rfl (lv_at hl 3 rfl) ?_
            refine lv_aload hx hb dL_law_60 (lv_at hl 0 rfl) ?_
            obtain ⟨m62, z62, mB62, zB62, hbm62, hbs62, hm⟩ := hm
            refine hcSi (As := [.ref q19, .ref q45]) (rest := []) ⟨hx, hb, hml, hown, hts⟩ (h_L_agrees l hl0 G K c h56 q19 q45 m62 z62 _ hm) (va_cwS 2 hts gL_law_L_agrees rfl rfl rfl he_L_agrees ⟨Nat.le_of_ble_eq_true rfl, Nat.le_of_ble_eq_true rfl⟩) hK hN hZ hXX hP hD hS hA rfl hl.1 rfl (Nat.le_of_ble_eq_true rfl) dL_law_62 ⟨by show (((((((cl_4 + 1) + 120) + 1) + 1) + 1) + m49) + m56) + m62 ≤ mc; omega, by show (((((((sl_4 + 7) + 16666) + (8 : Int32).toNatClampNeg) + 1) + 17) + z49) + z56) + z62 ≤ ms; omega⟩ (fun r62 h62 H locs hm hP hD hS => ?_)
            replace hf : ((((((((cl_4 + 1) + 120) + 1) + 1) + 1) + m49) + m56) + m62) + mB62 ≤ mc ∧ ((((((((sl_4 + 7) + 16666) + (8 : Int32).toNatClampNeg) + 1) + 17) + z49) + z56) + z62) + zB62 ≤ ms := ⟨by omega, by omega⟩
            clear hbm62 hbs62
            have J_157 := hj_L_law_J157 hl0 hx hb hml hown hts hK hN hZ hXX hA hend b rec_4 v2_4 q19 q29 q33 ih_4
            have J_156 := hj_L_law_J156 hl0 hx hb hml hown hts hK hN hZ hXX hA hend b rec_4 v2_4 q19 q29 q33 J_157 
            refine lv_if_eq (tgt := 156) hx hb dL_law_65 (by decide) (fun c_65 => ?_) (fun c_65 => ?_)
            · replace hm := hm.1 c_65
              exact J_156 h62 mB62 zB62 ((((((((cl_4 + 1) + 120) + 1) + 1) + 1) + m49) + m56) + m62) ((((((((sl_4 + 7) + 16666) + (8 : Int32).toNatClampNeg) + 1) + 17) + z49) + z56) + z62) H locs ls ⟨by omega, by omega⟩ hP hD hS (lv_sub hl [4, 6, 3, 2, 1] rfl) hm
            · replace hm := hm.2 c_65
              refine lv_aload_n hx hb dL_law_68 rfl (lv_at hl 3 rfl) ?_
              obtain ⟨⟨wr69, fr69, hrq69⟩, hm⟩ := hm
              refine hcVi (As := []) (rest := []) ⟨hx, hb, hml, hown, hts⟩ (h_X7_errorOffset l G K c h62 q19 _ hm) (cwV 0 hts gL_law_X7_errorOffset rfl rfl rfl (heV_X7_errorOffset) ⟨Nat.le_of_ble_eq_true rfl, Nat.le_of_ble_eq_true rfl⟩) hK hN hZ hXX hP hD hS hA (mr_recv hK (mRd hK hP hZ hS) (ci := 7) rfl hrq69) rfl hl.1 rfl (Nat.le_of_ble_eq_true rfl) dL_law_69 ⟨by show ((((((((cl_4 + 1) + 120) + 1) + 1) + 1) + m49) + m56) + m62) + 0 ≤ mc; omega, by show ((((((((sl_4 + 7) + 16666) + (8 : Int32).toNatClampNeg) + 1) + 17) + z49) + z56) + z62) + 0 ≤ ms; omega⟩ (fun r69 h69 H locs hm hP hD hS => ?_)
              refine lv_iconst (v := (-1)) hx hb dL_law_72 (by decide) ?_
              refine lv_icmp_ne (tgt := 156) hx hb dL_law_73 (by decide) (fun c_73 => ?_) (fun c_73 => ?_)
              · replace hm := hm.2 c_73
                exact J_156 h69 mB62 zB62 ((((((((cl_4 + 1) + 120) + 1) + 1) + 1) + m49) + m56) + m62) ((((((((sl_4 + 7) + 16666) + (8 : Int32).toNatClampNeg) + 1) + 17) + z49) + z56) + z62) H locs ls ⟨by omega, by omega⟩ hP hD hS (lv_sub hl [4, 6, 3, 2, 1] rfl) hm
              · replace hm := hm.1 c_73
                refine lv_aload_n hx hb dL_law_76 rfl (lv_at hl 3 rfl) ?_
                obtain ⟨⟨wr77, fr77, hrq77⟩, hm⟩ := hm
                refine hcVi (As := []) (rest := []) ⟨hx, hb, hml, hown, hts⟩ (h_X7_undo l G K c h69 q19 _ hm) (cwV 0 hts gL_law_X7_undo rfl rfl rfl (heV_X7_undo) ⟨Nat.le_of_ble_eq_true rfl, Nat.le_of_ble_eq_true rfl⟩) hK hN hZ hXX hP hD hS hA (mr_recv hK (mRd hK hP hZ hS) (ci := 7) rfl hrq77) rfl hl.1 rfl (Nat.le_of_ble_eq_true rfl) dL_law_77 ⟨by show ((((((((cl_4 + 1) + 120) + 1) + 1) + 1) + m49) + m56) + m62) + 0 ≤ mc; omega, by show ((((((((sl_4 + 7) + 16666) + (8 : Int32).toNatClampNeg) + 1) + 17) + z49) + z56) + z62) + 0 ≤ ms; omega⟩ (fun r77 h77 H locs hm hP hD hS => ?_)
                refine lv_iconst (v := (-1)) hx hb dL_law_80 (by decide) ?_
                refine lv_icmp_ne (tgt := 156) hx hb dL_law_81 (by decide) (fun c_81 => ?_) (fun c_81 => ?_)
                · replace hm := hm.2 c_81
                  exact J_156 h77 mB62 zB62 ((((((((cl_4 + 1) + 120) + 1) + 1) + 1) + m49) + m56) + m62) ((((((((sl_4 + 7) + 16666) + (8 : Int32).toNatClampNeg) + 1) + 17) + z49) + z56) + z62) H locs ls ⟨by omega, by omega⟩ hP hD hS (lv_sub hl [4, 6, 3, 2, 1] rfl) hm
                · replace hm := hm.1 c_81
                  refine lv_aload_n hx hb dL_law_84 rfl (lv_at hl 3 rfl) ?_
                  refine lv_iconst (v := 0) hx hb dL_law_85 (by decide) ?_
                  refine lv_iconst (v := 0) hx hb dL_law_86 (by decide) ?_
                  obtain ⟨m87, z87, mB87, zB87, hbm87, hbs87, hm⟩ := hm
                  refine hcSWi (As := [.ref q19, .int (0 : Int32), .int (0 : Int32)]) (rest := []) ⟨hx, hb, hml, hown, hts⟩ (h_L_deal l hl0 G K c h77 q19 (0 : Int32) (0 : Int32) m87 z87 _ hm) (vx_cwSW 3 hts gL_law_L_deal rfl rfl rfl he_L_deal ⟨Nat.le_of_ble_eq_true rfl, Nat.le_of_ble_eq_true rfl⟩) hK hN hZ hXX hP hD hS hA rfl hl.1 rfl (Nat.le_of_ble_eq_true rfl) dL_law_87 ⟨by show ((((((((cl_4 + 1) + 120) + 1) + 1) + 1) + m49) + m56) + m62) + m87 ≤ mc; omega, by show ((((((((sl_4 + 7) + 16666) + (8 : Int32).toNatClampNeg) + 1) + 17) + z49) + z56) + z62) + z87 ≤ ms; omega⟩ (fun r87 h87 H locs hm hP hD hS => ?_)
                  replace hf : (((((((((cl_4 + 1) + 120) + 1) + 1) + 1) + m49) + m56) + m62) + m87) + mB87 ≤ mc ∧ (((((((((sl_4 + 7) + 16666) + (8 : Int32).toNatClampNeg) + 1) + 17) + z49) + z56) + z62) + z87) + zB87 ≤ ms := ⟨by omega, by omega⟩
                  clear hbm87 hbs87
                  refine lv_ldc (v := (-2000000099)) hx hb hown (hts (.constant RL 85 (-2000000099)) (tin_c [.constant RL 85 (-2000000099)] [(4, 147)] rfl _ (List.mem_singleton.mpr rfl))) dL_law_90 ?_
                  refine lv_icmp_ne (tgt := 156) hx hb dL_law_92 (by decide) (fun c_92 => ?_) (fun c_92 => ?_)
                  · replace hm := hm.2 c_92
                    exact J_156 h87 mB87 zB87 (((((((((cl_4 + 1) + 120) + 1) + 1) + 1) + m49) + m56) + m62) + m87) (((((((((sl_4 + 7) + 16666) + (8 : Int32).toNatClampNeg) + 1) + 17) + z49) + z56) + z62) + z87) H locs ls ⟨by omega, by omega⟩ hP hD hS (lv_sub hl [4, 6, 3, 2, 1] rfl) hm
                  · replace hm := hm.1 c_92
                    refine lv_aload_n hx hb dL_law_95 rfl (lv_at hl 3 rfl) ?_
                    refine lv_iconst (v := 4) hx hb dL_law_96 (by decide) ?_
                    refine lv_iconst (v := 0) hx hb dL_law_97 (by decide) ?_
                    obtain ⟨m98, z98, mB98, zB98, hbm98, hbs98, hm⟩ := hm
                    refine hcSWi (As := [.ref q19, .int (4 : Int32), .int (0 : Int32)]) (rest := []) ⟨hx, hb, hml, hown, hts⟩ (h_L_deal l hl0 G K c h87 q19 (4 : Int32) (0 : Int32) m98 z98 _ hm) (vx_cwSW 3 hts gL_law_L_deal rfl rfl rfl he_L_deal ⟨Nat.le_of_ble_eq_true rfl, Nat.le_of_ble_eq_true rfl⟩) hK hN hZ hXX hP hD hS hA rfl hl.1 rfl (Nat.le_of_ble_eq_true rfl) dL_law_98 ⟨by show (((((((((cl_4 + 1) + 120) + 1) + 1) + 1) + m49) + m56) + m62) + m87) + m98 ≤ mc; omega, by show (((((((((sl_4 + 7) + 16666) + (8 : Int32).toNatClampNeg) + 1) + 17) + z49) + z56) + z62) + z87) + z98 ≤ ms; omega⟩ (fun r98 h98 H locs hm hP hD hS => ?_)
                    replace hf : ((((((((((cl_4 + 1) + 120) + 1) + 1) + 1) + m49) + m56) + m62) + m87) + m98) + mB98 ≤ mc ∧ ((((((((((sl_4 + 7) + 16666) + (8 : Int32).toNatClampNeg) + 1) + 17) + z49) + z56) + z62) + z87) + z98) + zB98 ≤ ms := ⟨by omega, by omega⟩
                    clear hbm98 hbs98
                    refine lv_ldc (v := (-2000000098)) hx hb hown (hts (.constant RL 42 (-2000000098)) (tin_c [.constant RL 42 (-2000000098)] [(3, 165)] rfl _ (List.mem_singleton.mpr rfl))) dL_law_101 ?_
                    refine lv_icmp_ne (tgt := 156) hx hb dL_law_103 (by decide) (fun c_103 => ?_) (fun c_103 => ?_)
                    · replace hm := hm.2 c_103
                      exact J_156 h98 mB98 zB98 ((((((((((cl_4 + 1) + 120) + 1) + 1) + 1) + m49) + m56) + m62) + m87) + m98) ((((((((((sl_4 + 7) + 16666) + (8 : Int32).toNatClampNeg) + 1) + 17) + z49) + z56) + z62) + z87) + z98) H locs ls ⟨by omega, by omega⟩ hP hD hS (lv_sub hl [4, 6, 3, 2, 1] rfl) hm
                    · replace hm := hm.1 c_103
                      refine lv_aload_n hx hb dL_law_106 rfl (lv_at hl 3 rfl) ?_
                      refine lv_iconst (v := 0) hx hb dL_law_107 (by decide) ?_
                      obtain ⟨m108, z108, mB108, zB108, hbm108, hbs108, hm⟩ := hm
                      refine hcSWi (As := [.ref q19, .int (0 : Int32)]) (rest := []) ⟨hx, hb, hml, hown, hts⟩ (h_L_auto l hl0 G K c h98 q19 (0 : Int32) m108 z108 _ hm) (vx_cwSW 2 hts gL_law_L_auto rfl rfl rfl he_L_auto ⟨Nat.le_of_ble_eq_true rfl, Nat.le_of_ble_eq_true rfl⟩) hK hN hZ hXX hP hD hS hA rfl hl.1 rfl (Nat.le_of_ble_eq_true rfl) dL_law_108 ⟨by show ((((((((((cl_4 + 1) + 120) + 1) + 1) + 1) + m49) + m56) + m62) + m87) + m98) + m108 ≤ mc; omega, by show ((((((((((sl_4 + 7) + 16666) + (8 : Int32).toNatClampNeg) + 1) + 17) + z49) + z56) + z62) + z87) + z98) + z108 ≤ ms; omega⟩ (fun r108 h108 H locs hm hP hD hS => ?_)
                      replace hf : (((((((((((cl_4 + 1) + 120) + 1) + 1) + 1) + m49) + m56) + m62) + m87) + m98) + m108) + mB108 ≤ mc ∧ (((((((((((sl_4 + 7) + 16666) + (8 : Int32).toNatClampNeg) + 1) + 17) + z49) + z56) + z62) + z87) + z98) + z108) + zB108 ≤ ms := ⟨by omega, by omega⟩
                      clear hbm108 hbs108
                      refine lv_ldc (v := (-2000000098)) hx hb hown (hts (.constant RL 42 (-2000000098)) (tin_c [.constant RL 42 (-2000000098)] [(3, 165)] rfl _ (List.mem_singleton.mpr rfl))) dL_law_111 ?_
                      refine lv_icmp_ne (tgt := 156) hx hb dL_law_113 (by decide) (fun c_113 => ?_) (fun c_113 => ?_)
                      · replace hm := hm.2 c_113
                        exact J_156 h108 mB108 zB108 (((((((((((cl_4 + 1) + 120) + 1) + 1) + 1) + m49) + m56) + m62) + m87) + m98) + m108) (((((((((((sl_4 + 7) + 16666) + (8 : Int32).toNatClampNeg) + 1) + 17) + z49) + z56) + z62) + z87) + z98) + z108) H locs ls ⟨by omega, by omega⟩ hP hD hS (lv_sub hl [4, 6, 3, 2, 1] rfl) hm
                      · replace hm := hm.1 c_113
                        refine lv_aload_n hx hb dL_law_116 rfl (lv_at hl 3 rfl) ?_
                        refine lv_bipush (v := 33) hx hb dL_law_117 (by decide) ?_
                        refine lv_iconst (v := 3) hx hb dL_law_119 (by decide) ?_
                        obtain ⟨m120, z120, mB120, zB120, hbm120, hbs120, hm⟩ := hm
                        refine hcSWi (As := [.ref q19, .int (33 : Int32), .int (3 : Int32)]) (rest := []) ⟨hx, hb, hml, hown, hts⟩ (h_L_play l hl0 G K c h108 q19 (33 : Int32) (3 : Int32) m120 z120 _ hm) (vx_cwSW 3 hts gL_law_L_play rfl rfl rfl he_L_play ⟨Nat.le_of_ble_eq_true rfl, Nat.le_of_ble_eq_true rfl⟩) hK hN hZ hXX hP hD hS hA rfl hl.1 rfl (Nat.le_of_ble_eq_true rfl) dL_law_120 ⟨by show (((((((((((cl_4 + 1) + 120) + 1) + 1) + 1) + m49) + m56) + m62) + m87) + m98) + m108) + m120 ≤ mc; omega, by show (((((((((((sl_4 + 7) + 16666) + (8 : Int32).toNatClampNeg) + 1) + 17) + z49) + z56) + z62) + z87) + z98) + z108) + z120 ≤ ms; omega⟩ (fun r120 h120 H locs hm hP hD hS => ?_)
                        replace hf : ((((((((((((cl_4 + 1) + 120) + 1) + 1) + 1) + m49) + m56) + m62) + m87) + m98) + m108) + m120) + mB120 ≤ mc ∧ ((((((((((((sl_4 + 7) + 16666) + (8 : Int32).toNatClampNeg) + 1) + 17) + z49) + z56) + z62) + z87) + z98) + z108) + z120) + zB120 ≤ ms := ⟨by omega, by omega⟩
                        clear hbm120 hbs120
                        refine lv_ldc (v := (-2000000097)) hx hb hown (hts (.constant RL 52 (-2000000097)) (tin_c [.constant RL 52 (-2000000097)] [(3, 213)] rfl _ (List.mem_singleton.mpr rfl))) dL_law_123 ?_
                        refine lv_icmp_ne (tgt := 156) hx hb dL_law_125 (by decide) (fun c_125 => ?_) (fun c_125 => ?_)
                        · replace hm := hm.2 c_125
                          exact J_156 h120 mB120 zB120 ((((((((((((cl_4 + 1) + 120) + 1) + 1) + 1) + m49) + m56) + m62) + m87) + m98) + m108) + m120) ((((((((((((sl_4 + 7) + 16666) + (8 : Int32).toNatClampNeg) + 1) + 17) + z49) + z56) + z62) + z87) + z98) + z108) + z120) H locs ls ⟨by omega, by omega⟩ hP hD hS (lv_sub hl [4, 6, 3, 2, 1] rfl) hm
                        · replace hm := hm.1 c_125
                          refine lv_aload_n hx hb dL_law_128 rfl (lv_at hl 3 rfl) ?_
                          refine lv_bipush (v := 34) hx hb dL_law_129 (by decide) ?_
                          refine lv_iconst (v := 0) hx hb dL_law_131 (by decide) ?_
                          obtain ⟨m132, z132, mB132, zB132, hbm132, hbs132, hm⟩ := hm
                          refine hcSWi (As := [.ref q19, .int (34 : Int32), .int (0 : Int32)]) (rest := []) ⟨hx, hb, hml, hown, hts⟩ (h_L_play l hl0 G K c h120 q19 (34 : Int32) (0 : Int32) m132 z132 _ hm) (vx_cwSW 3 hts gL_law_L_play rfl rfl rfl he_L_play ⟨Nat.le_of_ble_eq_true rfl, Nat.le_of_ble_eq_true rfl⟩) hK hN hZ hXX hP hD hS hA rfl hl.1 rfl (Nat.le_of_ble_eq_true rfl) dL_law_132 ⟨by show ((((((((((((cl_4 + 1) + 120) + 1) + 1) + 1) + m49) + m56) + m62) + m87) + m98) + m108) + m120) + m132 ≤ mc; omega, by show ((((((((((((sl_4 + 7) + 16666) + (8 : Int32).toNatClampNeg) + 1) + 17) + z49) + z56) + z62) + z87) + z98) + z108) + z120) + z132 ≤ ms; omega⟩ (fun r132 h132 H locs hm hP hD hS => ?_)
                          replace hf : (((((((((((((cl_4 + 1) + 120) + 1) + 1) + 1) + m49) + m56) + m62) + m87) + m98) + m108) + m120) + m132) + mB132 ≤ mc ∧ (((((((((((((sl_4 + 7) + 16666) + (8 : Int32).toNatClampNeg) + 1) + 17) + z49) + z56) + z62) + z87) + z98) + z108) + z120) + z132) + zB132 ≤ ms := ⟨by omega, by omega⟩
                          clear hbm132 hbs132
                          refine lv_ldc (v := (-2000000098)) hx hb hown (hts (.constant RL 42 (-2000000098)) (tin_c [.constant RL 42 (-2000000098)] [(3, 165)] rfl _ (List.mem_singleton.mpr rfl))) dL_law_135 ?_
                          refine lv_icmp_ne (tgt := 156) hx hb dL_law_137 (by decide) (fun c_137 => ?_) (fun c_137 => ?_)
                          · replace hm := hm.2 c_137
                            exact J_156 h132 mB132 zB132 (((((((((((((cl_4 + 1) + 120) + 1) + 1) + 1) + m49) + m56) + m62) + m87) + m98) + m108) + m120) + m132) (((((((((((((sl_4 + 7) + 16666) + (8 : Int32).toNatClampNeg) + 1) + 17) + z49) + z56) + z62) + z87) + z98) + z108) + z120) + z132) H locs ls ⟨by omega, by omega⟩ hP hD hS (lv_sub hl [4, 6, 3, 2, 1] rfl) hm
                          · replace hm := hm.1 c_137
                            refine lv_aload_n hx hb dL_law_140 rfl (lv_at hl 3 rfl) ?_
                            refine lv_bipush (v := 33) hx hb dL_law_141 (by decide) ?_
                            refine lv_iconst (v := 0) hx hb dL_law_143 (by decide) ?_
                            obtain ⟨m144, z144, mB144, zB144, hbm144, hbs144, hm⟩ := hm
                            refine hcSWi (As := [.ref q19, .int (33 : Int32), .int (0 : Int32)]) (rest := []) ⟨hx, hb, hml, hown, hts⟩ (h_L_play l hl0 G K c h132 q19 (33 : Int32) (0 : Int32) m144 z144 _ hm) (vx_cwSW 3 hts gL_law_L_play rfl rfl rfl he_L_play ⟨Nat.le_of_ble_eq_true rfl, Nat.le_of_ble_eq_true rfl⟩) hK hN hZ hXX hP hD hS hA rfl hl.1 rfl (Nat.le_of_ble_eq_true rfl) dL_law_144 ⟨by show (((((((((((((cl_4 + 1) + 120) + 1) + 1) + 1) + m49) + m56) + m62) + m87) + m98) + m108) + m120) + m132) + m144 ≤ mc; omega, by show (((((((((((((sl_4 + 7) + 16666) + (8 : Int32).toNatClampNeg) + 1) + 17) + z49) + z56) + z62) + z87) + z98) + z108) + z120) + z132) + z144 ≤ ms; omega⟩ (fun r144 h144 H locs hm hP hD hS => ?_)
                            replace hf : ((((((((((((((cl_4 + 1) + 120) + 1) + 1) + 1) + m49) + m56) + m62) + m87) + m98) + m108) + m120) + m132) + m144) + mB144 ≤ mc ∧ ((((((((((((((sl_4 + 7) + 16666) + (8 : Int32).toNatClampNeg) + 1) + 17) + z49) + z56) + z62) + z87) + z98) + z108) + z120) + z132) + z144) + zB144 ≤ ms := ⟨by omega, by omega⟩
                            clear hbm144 hbs144
                            refine lv_ldc (v := (-2000000099)) hx hb hown (hts (.constant RL 85 (-2000000099)) (tin_c [.constant RL 85 (-2000000099)] [(4, 147)] rfl _ (List.mem_singleton.mpr rfl))) dL_law_147 ?_
                            refine lv_icmp_ne (tgt := 156) hx hb dL_law_149 (by decide) (fun c_149 => ?_) (fun c_149 => ?_)
                            · replace hm := hm.2 c_149
                              exact J_156 h144 mB144 zB144 ((((((((((((((cl_4 + 1) + 120) + 1) + 1) + 1) + m49) + m56) + m62) + m87) + m98) + m108) + m120) + m132) + m144) ((((((((((((((sl_4 + 7) + 16666) + (8 : Int32).toNatClampNeg) + 1) + 17) + z49) + z56) + z62) + z87) + z98) + z108) + z120) + z132) + z144) H locs ls ⟨by omega, by omega⟩ hP hD hS (lv_sub hl [4, 6, 3, 2, 1] rfl) hm
                            · replace hm := hm.1 c_149
                              refine lv_iconst (v := 1) hx hb dL_law_152 (by decide) ?_
                              refine lv_goto (tgt := 157) hx hb dL_law_153 (by decide) ?_
                              exact J_157 h144 mB144 zB144 (1 : Int32) ((((((((((((((cl_4 + 1) + 120) + 1) + 1) + 1) + m49) + m56) + m62) + m87) + m98) + m108) + m120) + m132) + m144) ((((((((((((((sl_4 + 7) + 16666) + (8 : Int32).toNatClampNeg) + 1) + 17) + z49) + z56) + z62) + z87) + z98) + z108) + z120) + z132) + z144) H locs ls ⟨by omega, by omega⟩ hP hD hS (lv_sub hl [4, 6, 3, 2, 1] rfl) hm
  exact L_4 n_4 h mc ms (1 : Int32) (0 : Int32) 0 0 H locs ls ⟨by omega, by omega⟩ hP hD hS (lv_sub hl [2, 1, 0] rfl) hm
