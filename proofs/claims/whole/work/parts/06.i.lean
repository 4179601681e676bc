theorem hd_X8_readSum : yX8_readSum.cls = RX8 ∧ yX8_readSum.cls ≠ "java/lang/invoke/MethodHandle" ∧ yX8_readSum.cls ≠ "java/lang/invoke/VarHandle" ∧ (parseMethodDescriptor yX8_readSum.desc).map (fun d => d.parameters.length) = some 0 := by decide +kernel
def f_X8_factor_J183 (s0_172 : Int32) (x_172 : MS) (s0_183 : Int32) : Option MS :=
  bd1 (f_X8_emit x_172 s0_183) fun (x183 : MS) => bd1 (f_X8_emit x183 s0_172) fun (x188 : MS) => some (x188)

def f_X8_factor_J172 (s0_155 : Int32) (s0_172 : Int32) (x_172 : MS) : Option MS :=
  if (0 : Int32) ≤ s0_155 then (f_X8_factor_J183 s0_172 x_172 1) else (f_X8_factor_J183 s0_172 x_172 0)

def f_X8_factor_J155 (s0_155 : Int32) (x_155 : MS) : Option MS :=
  if (0 : Int32) ≤ s0_155 then (f_X8_factor_J172 s0_155 s0_155 x_155) else (bd2 (f_X8_number x_155 0 9999) fun (r165 : Int32) (x165 : MS) => f_X8_factor_J172 s0_155 r165 x165)

def f_X8_factor_J37 (SM : MS → Option MS) (x_37 : MS) : Option MS :=
  bd1 (SM ((ss (ss x_37.1 3 ((x_37.1.1 3) + 1)) 9 ((x_37.1.1 9) + 1)), x_37.2)) fun (x58 : MS) => bd1 (f_X8_expect x58 41) fun (x64 : MS) => some (((ss x64.1 9 ((x64.1.1 9) - 1)), x64.2))

def f_X8_factor (SM : MS → Option MS) (x : MS) : Option MS :=
  bd1 (f_X8_isGood x) fun (r1 : Int32) => if r1 = 0 then (some (x)) else (bd2 (f_X8_ahead x) fun (r9 : Int32) (x9 : MS) => if r9 = 40 then (if (x9.1.1 9) = 4 then (bd1 (f_X8_report x9 (-6) (x9.1.1 3)) fun (x34 : MS) => f_X8_factor_J37 SM x34) else (f_X8_factor_J37 SM x9)) else (bd1 (f_X8_isDigit r9) fun (r79 : Int32) => if r79 = 0 then (bd2 (f_X8_takeWord x9 5) fun (r92 : Int32) (x92 : MS) => if r92 = 0 then (bd2 (f_X8_takeWord x92 6) fun (r105 : Int32) (x105 : MS) => if r105 = 0 then (bd2 (f_X8_takeWord x105 7) fun (r118 : Int32) (x118 : MS) => if r118 = 0 then (bd2 (f_X8_takeWord x118 8) fun (r131 : Int32) (x131 : MS) => if r131 = 0 then (bd2 (f_X8_takeWord x131 9) fun (r144 : Int32) (x144 : MS) => if r144 = 0 then (f_X8_factor_J155 (-1) x144) else (f_X8_factor_J155 4 x144)) else (f_X8_factor_J155 3 x131)) else (f_X8_factor_J155 2 x118)) else (f_X8_factor_J155 1 x105)) else (f_X8_factor_J155 0 x92)) else (f_X8_factor_J155 (-1) x9)))

abbrev rm_X8_factor (FF LL : Nat) : Room := { frames := FF + 10, cells := 0, slots := 0, locals := LL + 443 }
theorem hd_X8_factor : yX8_factor.cls = RX8 ∧ yX8_factor.cls ≠ "java/lang/invoke/MethodHandle" ∧ yX8_factor.cls ≠ "java/lang/invoke/VarHandle" ∧ (parseMethodDescriptor yX8_factor.desc).map (fun d => d.parameters.length) = some 0 := by decide +kernel
set_option maxHeartbeats 4000000 in
set_option maxRecDepth 100000 in
theorem k_X8_factor (l : Launch) (G : va_G) (K : (Nat → Nat) × (Nat → Nat)) (c : Nat → ClassId) (SM : MS → Option MS) (FF : Nat) (LL : Nat) (hSM : ∀ (ax : Nat → Nat) (x : MS) (x_r : MS), SM x = some x_r → zMv l yX8_readSum wsX8_readSum { frames := FF, cells := 0, slots := 0, locals := LL } G K (TY c) [.ref (ax 0)] (wM c ax x) (wM c ax x_r)) (ax : Nat → Nat) (x : MS) (x_r : MS) (hm : f_X8_factor SM x = some (x_r)) : zMv l yX8_factor wsX8_factor (rm_X8_factor FF LL) G K (TY c) [.ref (ax 0)] (wM c ax x) (wM c ax x_r) := by
  refine zMv.of (cc := cX8_factor) (maxL := 4) (lv := [(0, .ref (ax 0))]) (by decide) rfl (Nat.le_of_ble_eq_true rfl) rfl ?_
  intro p e s m args below meth c1 A Q H locs hx hb hml hown hts hK hN hZ hP hD hA hS hend ls hl
  have hown : s.vm.findClass RX8 = some m.cls := hown
  have hi_8 : ∀ w ∈ wsX80, w ∈ wsX8_factor := (fun w h => List.mem_cons_of_mem _ (List.mem_append_right _ (h)))
  unfold f_X8_factor at hm
  refine lv_aload_n hx hb dX8_factor_0 rfl (lv_at hl 0 rfl) ?_
  obtain ⟨r1, e_1, hm⟩ := bd1_s hm
  refine zcWi (As := []) (rest := []) ⟨hx, hb, hml, hown, hts⟩ (k_X8_isGood l G K c ax x r1 e_1) (cwV 0 hts gX8_factor_X8_isGood rfl rfl rfl hd_X8_isGood ⟨by dsimp only [rm_X8_factor, rm_X8_isGood]; omega, by dsimp only [rm_X8_factor, rm_X8_isGood]; omega⟩) hK hN hZ hP hD hS hA (va_recv hK hP (ci := 8) (q0 := 0) rfl rfl) rfl hl.1 rfl (Nat.le_of_ble_eq_true rfl) dX8_factor_1 ⟨Nat.zero_le _, Nat.zero_le _⟩ (fun H locs hP hD hS => ?_)
  have hP : va_P G vwCl (wM c ax x) H := hP
  have hD : va_D A (wM c ax x) := hD
  refine lv_if_ne (tgt := 8) hx hb dX8_factor_4 (by decide) (fun c_4 => ?_) (fun c_4 => ?_)
  · have hm := ifn c_4 hm
    refine lv_aload_n hx hb dX8_factor_8 rfl (lv_at hl 0 rfl) ?_
    obtain ⟨r9, x9, e_9, hm⟩ := bd2_s hm
    refine zcWi (As := []) (rest := []) ⟨hx, hb, hml, hown, hts⟩ (k_X8_ahead l G K c ax x r9 x9 e_9) (cwV 0 hts gX8_factor_X8_ahead rfl rfl rfl hd_X8_ahead ⟨by dsimp only [rm_X8_factor, rm_X8_ahead]; omega, by dsimp only [rm_X8_factor, rm_X8_ahead]; omega⟩) hK hN hZ hP hD hS hA (va_recv hK hP (ci := 8) (q0 := 0) rfl rfl) rfl hl.1 rfl (Nat.le_of_ble_eq_true rfl) dX8_factor_9 ⟨Nat.zero_le _, Nat.zero_le _⟩ (fun H locs hP hD hS => ?_)
    have hP : va_P G vwCl (wM c ax x9) H := hP
    have hD : va_D A (wM c ax x9) := hD
    refine lv_istore_n (lv' := [(1, .int r9), (0, .ref (ax 0))]) hx hb dX8_factor_12 rfl hl (by decide) rfl (fun ls hl => ?_)
    refine lv_iload_n hx hb dX8_factor_13 rfl (lv_at hl 0 rfl) ?_
    refine lv_bipush (v := 40) hx hb dX8_factor_14 (by decide) ?_
    refine lv_icmp_ne (tgt := 78) hx hb dX8_factor_16 (by decide) (fun c_16 => ?_) (fun c_16 => ?_)
    · have hm := ifn c_16 hm
      refine lv_iload_n hx hb dX8_factor_78 rfl (lv_at hl 0 rfl) ?_
      obtain ⟨r79, e_79, hm⟩ := bd1_s hm
      refine zcSi (As := [.int r9]) (rest := []) ⟨hx, hb, hml, hown, hts⟩ (k_X8_isDigit l G K c r9 r79 e_79) (va_cwS 1 hts gX8_factor_X8_isDigit rfl rfl rfl hd_X8_isDigit.2 ⟨by dsimp only [rm_X8_factor, rm_X8_isDigit]; omega, by dsimp only [rm_X8_factor, rm_X8_isDigit]; omega⟩) hK hN hZ hP hD hS hA [] rfl (by decide) rfl rfl hl.1 rfl (Nat.le_of_ble_eq_true rfl) dX8_factor_79 ⟨Nat.zero_le _, Nat.zero_le _⟩ (fun H locs hP hD hS => ?_)
      have hP : va_P G vwCl (wM c ax x9) H := hP
      have hD : va_D A (wM c ax x9) := hD
      have J_155 : ∀ (s0_155 : Int32) (x_155 : MS) (H : Heap) (locs : List Loc) (ls : Array Slot), va_P G vwCl (wM c ax x_155) H → va_D A (wM c ax x_155) → va_S A s.heap H locs → lv_has ls 4 [(0, .ref (ax 0))] → f_X8_factor_J155 s0_155 x_155 = some (x_r) → W p l e (rm_X8_factor FF LL) s m args below meth c1 H locs 0 0 Q (F0 m 155 ls [.int s0_155]) := by
        intro s0_155 x_155 H locs ls hP hD hS hl hm
        unfold f_X8_factor_J155 at hm
        refine lv_istore_n (lv' := [(2, .int s0_155), (0, .ref (ax 0))]) hx hb dX8_factor_155 rfl hl (by decide) rfl (fun ls hl => ?_)
        refine lv_iload_n hx hb dX8_factor_156 rfl (lv_at hl 0 rfl) ?_
        have J_172 : ∀ (s0_172 : Int32) (x_172 : MS) (H : Heap) (locs : List Loc) (ls : Array Slot), va_P G vwCl (wM c ax x_172) H → va_D A (wM c ax x_172) → va_S A s.heap H locs → lv_has ls 4 [(0, .ref (ax 0)), (2, .int s0_155)] → f_X8_factor_J172 s0_155 s0_172 x_172 = some (x_r) → W p l e (rm_X8_factor FF LL) s m args below meth c1 H locs 0 0 Q (F0 m 172 ls [.int s0_172]) := by
          intro s0_172 x_172 H locs ls hP hD hS hl hm
          unfold f_X8_factor_J172 at hm
          refine lv_istore_n (lv' := [(3, .int s0_172), (0, .ref (ax 0)), (2, .int s0_155)]) hx hb dX8_factor_172 rfl hl (by decide) rfl (fun ls hl => ?_)
          refine lv_aload_n hx hb dX8_factor_173 rfl (lv_at hl 1 rfl) ?_
          refine lv_iload_n hx hb dX8_factor_174 rfl (lv_at hl 2 rfl) ?_
          have J_183 : ∀ (s0_183 : Int32) (H : Heap) (locs : List Loc) (ls : Array Slot), va_P G vwCl (wM c ax x_172) H → va_D A (wM c ax x_172) → va_S A s.heap H locs → lv_has ls 4 [(0, .ref (ax 0)), (3, .int s0_172)] → f_X8_factor_J183 s0_172 x_172 s0_183 = some (x_r) → W p l e (rm_X8_factor FF LL) s m args below meth c1 H locs 0 0 Q (F0 m 183 ls [.int s0_183, .ref (ax 0)]) := by
            intro s0_183 H locs ls hP hD hS hl hm
            unfold f_X8_factor_J183 at hm
            obtain ⟨x183, e_183, hm⟩ := bd1_s hm
            refine zcWv (As := [.int s0_183]) (rest := []) ⟨hx, hb, hml, hown, hts⟩ (k_X8_emit l G K c ax x_172 s0_183 x183 e_183) (cwV 1 hts gX8_factor_X8_emit rfl rfl rfl hd_X8_emit ⟨by dsimp only [rm_X8_factor, rm_X8_emit]; omega, by dsimp only [rm_X8_factor, rm_X8_emit]; omega⟩) hK hN hZ hP hD hS hA (va_recv hK hP (ci := 8) (q0 := 0) rfl rfl) rfl hl.1 rfl (Nat.le_of_ble_eq_true rfl) dX8_factor_183 ⟨Nat.zero_le _, Nat.zero_le _⟩ (fun H locs hP hD hS => ?_)
            have hP : va_P G vwCl (wM c ax x183) H := hP
            have hD : va_D A (wM c ax x183) := hD
            refine lv_aload_n hx hb dX8_factor_186 rfl (lv_at hl 0 rfl) ?_
            refine lv_iload_n hx hb dX8_factor_187 rfl (lv_at hl 1 rfl) ?_
            obtain ⟨x188, e_188, hm⟩ := bd1_s hm
            refine zcWv (As := [.int s0_172]) (rest := []) ⟨hx, hb, hml, hown, hts⟩ (k_X8_emit l G K c ax x183 s0_172 x188 e_188) (cwV 1 hts gX8_factor_X8_emit rfl rfl rfl hd_X8_emit ⟨by dsimp only [rm_X8_factor, rm_X8_emit]; omega, by dsimp only [rm_X8_factor, rm_X8_emit]; omega⟩) hK hN hZ hP hD hS hA (va_recv hK hP (ci := 8) (q0 := 0) rfl rfl) rfl hl.1 rfl (Nat.le_of_ble_eq_true rfl) dX8_factor_188 ⟨Nat.zero_le _, Nat.zero_le _⟩ (fun H locs hP hD hS => ?_)
            have hP : va_P G vwCl (wM c ax x188) H := hP
            have hD : va_D A (wM c ax x188) := hD
            exact hend H locs ls _ _ (zc1 (fun (z0 : MS) => (wM c ax z0 : va_W)) (Option.some.inj hm)) hP hD hS dX8_factor_191
          refine lv_if_ge (tgt := 182) hx hb dX8_factor_175 (by decide) (fun c_175 => ?_) (fun c_175 => ?_)
          · have hm := ifp c_175 hm
            refine lv_iconst (v := 1) hx hb dX8_factor_182 (by decide) ?_
            exact J_183 1 H locs ls hP hD hS (lv_sub hl [1, 0] rfl) hm
          · have hm := ifn c_175 hm
            refine lv_iconst (v := 0) hx hb dX8_factor_178 (by decide) ?_
            refine lv_goto (tgt := 183) hx hb dX8_factor_179 (by decide) ?_
            exact J_183 0 H locs ls hP hD hS (lv_sub hl [1, 0] rfl) hm
        refine lv_if_ge (tgt := 171) hx hb dX8_factor_157 (by decide) (fun c_157 => ?_) (fun c_157 => ?_)
        · have hm := ifp c_157 hm
          refine lv_iload_n hx hb dX8_factor_171 rfl (lv_at hl 0 rfl) ?_
          exact J_172 s0_155 x_155 H locs ls hP hD hS (lv_sub hl [1, 0] rfl) hm
        · have hm := ifn c_157 hm
          refine lv_aload_n hx hb dX8_factor_160 rfl (lv_at hl 1 rfl) ?_
          refine lv_iconst (v := 0) hx hb dX8_factor_161 (by decide) ?_
          refine lv_sipush (v := 9999) hx hb dX8_factor_162 (by decide) ?_
          obtain ⟨r165, x165, e_165, hm⟩ := bd2_s hm
          refine zcWi (As := [.int 0, .int 9999]) (rest := []) ⟨hx, hb, hml, hown, hts⟩ (k_X8_number l G K c ax x_155 0 9999 r165 x165 e_165) (cwV 2 hts gX8_factor_X8_number rfl rfl rfl hd_X8_number ⟨by dsimp only [rm_X8_factor, rm_X8_number]; omega, by dsimp only [rm_X8_factor, rm_X8_number]; omega⟩) hK hN hZ hP hD hS hA (va_recv hK hP (ci := 8) (q0 := 0) rfl rfl) rfl hl.1 rfl (Nat.le_of_ble_eq_true rfl) dX8_factor_165 ⟨Nat.zero_le _, Nat.zero_le _⟩ (fun H locs hP hD hS => ?_)
          have hP : va_P G vwCl (wM c ax x165) H := hP
          have hD : va_D A (wM c ax x165) := hD
          refine lv_goto (tgt := 172) hx hb dX8_factor_168 (by decide) ?_
          exact J_172 r165 x165 H locs ls hP hD hS (lv_sub hl [1, 0] rfl) hm
      refine lv_if_eq (tgt := 89) hx hb dX8_factor_82 (by decide) (fun c_82 => ?_) (fun c_82 => ?_)
      · have hm := ifp c_82 hm
        refine lv_aload_n hx hb dX8_factor_89 rfl (lv_at hl 1 rfl) ?_
        refine va_ldcS hx hb hown (nws_HubTrainsModel_134 hN.2.2) dX8_factor_90 ?_
        obtain ⟨r92, x92, e_92, hm⟩ := bd2_s hm
        refine zcWi (As := [.ref (K.1 5)]) (rest := []) ⟨hx, hb, hml, hown, hts⟩ (k_X8_takeWord l G K c ax x9 5 r92 x92 e_92) (cwV 1 hts gX8_factor_X8_takeWord rfl rfl rfl hd_X8_takeWord ⟨by dsimp only [rm_X8_factor, rm_X8_takeWord]; omega, by dsimp only [rm_X8_factor, rm_X8_takeWord]; omega⟩) hK hN hZ hP hD hS hA (va_recv hK hP (ci := 8) (q0 := 0) rfl rfl) rfl hl.1 rfl (Nat.le_of_ble_eq_true rfl) dX8_factor_92 ⟨Nat.zero_le _, Nat.zero_le _⟩ (fun H locs hP hD hS => ?_)
        have hP : va_P G vwCl (wM c ax x92) H := hP
        have hD : va_D A (wM c ax x92) := hD
        refine lv_if_eq (tgt := 102) hx hb dX8_factor_95 (by decide) (fun c_95 => ?_) (fun c_95 => ?_)
        · have hm := ifp c_95 hm
          refine lv_aload_n hx hb dX8_factor_102 rfl (lv_at hl 1 rfl) ?_
          refine va_ldcS hx hb hown (nws_HubTrainsModel_140 hN.2.2) dX8_factor_103 ?_
          obtain ⟨r105, x105, e_105, hm⟩ := bd2_s hm
          refine zcWi (As := [.ref (K.1 6)]) (rest := []) ⟨hx, hb, hml, hown, hts⟩ (k_X8_takeWord l G K c ax x92 6 r105 x105 e_105) (cwV 1 hts gX8_factor_X8_takeWord rfl rfl rfl hd_X8_takeWord ⟨by dsimp only [rm_X8_factor, rm_X8_takeWord]; omega, by dsimp only [rm_X8_factor, rm_X8_takeWord]; omega⟩) hK hN hZ hP hD hS hA (va_recv hK hP (ci := 8) (q0 := 0) rfl rfl) rfl hl.1 rfl (Nat.le_of_ble_eq_true rfl) dX8_factor_105 ⟨Nat.zero_le _, Nat.zero_le _⟩ (fun H locs hP hD hS => ?_)
          have hP : va_P G vwCl (wM c ax x105) H := hP
          have hD : va_D A (wM c ax x105) := hD
          refine lv_if_eq (tgt := 115) hx hb dX8_factor_108 (by decide) (fun c_108 => ?_) (fun c_108 => ?_)
          · have hm := ifp c_108 hm
            refine lv_aload_n hx hb dX8_factor_115 rfl (lv_at hl 1 rfl) ?_
            refine va_ldcS hx hb hown (nws_HubTrainsModel_142 hN.2.2) dX8_factor_116 ?_
            obtain ⟨r118, x118, e_118, hm⟩ := bd2_s hm
            refine zcWi (As := [.ref (K.1 7)]) (rest := []) ⟨hx, hb, hml, hown, hts⟩ (k_X8_takeWord l G K c ax x105 7 r118 x118 e_118) (cwV 1 hts gX8_factor_X8_takeWord rfl rfl rfl hd_X8_takeWord ⟨by dsimp only [rm_X8_factor, rm_X8_takeWord]; omega, by dsimp only [rm_X8_factor, rm_X8_takeWord]; omega⟩) hK hN hZ hP hD hS hA (va_recv hK hP (ci := 8) (q0 := 0) rfl rfl) rfl hl.1 rfl (Nat.le_of_ble_eq_true rfl) dX8_factor_118 ⟨Nat.zero_le _, Nat.zero_le _⟩ (fun H locs hP hD hS => ?_)
            have hP : va_P G vwCl (wM c ax x118) H := hP
            have hD : va_D A (wM c ax x118) := hD
            refine lv_if_eq (tgt := 128) hx hb dX8_factor_121 (by decide) (fun c_121 => ?_) (fun c_121 => ?_)
            · have hm := ifp c_121 hm
              refine lv_aload_n hx hb dX8_factor_128 rfl (lv_at hl 1 rfl) ?_
              refine va_ldcS hx hb hown (nws_HubTrainsModel_144 hN.2.2) dX8_factor_129 ?_
              obtain ⟨r131, x131, e_131, hm⟩ := bd2_s hm
              refine zcWi (As := [.ref (K.1 8)]) (rest := []) ⟨hx, hb, hml, hown, hts⟩ (k_X8_takeWord l G K c ax x118 8 r131 x131 e_131) (cwV 1 hts gX8_factor_X8_takeWord rfl rfl rfl hd_X8_takeWord ⟨by dsimp only [rm_X8_factor, rm_X8_takeWord]; omega, by dsimp only [rm_X8_factor, rm_X8_takeWord]; omega⟩) hK hN hZ hP hD hS hA (va_recv hK hP (ci := 8) (q0 := 0) rfl rfl) rfl hl.1 rfl (Nat.le_of_ble_eq_true rfl) dX8_factor_131 ⟨Nat.zero_le _, Nat.zero_le _⟩ (fun H locs hP hD hS => ?_)
              have hP : va_P G vwCl (wM c ax x131) H := hP
              have hD : va_D A (wM c ax x131) := hD
              refine lv_if_eq (tgt := 141) hx hb dX8_factor_134 (by decide) (fun c_134 => ?_) (fun c_134 => ?_)
              · have hm := ifp c_134 hm
                refine lv_aload_n hx hb dX8_factor_141 rfl (lv_at hl 1 rfl) ?_
                refine va_ldcS hx hb hown (nws_HubTrainsModel_146 hN.2.2) dX8_factor_142 ?_
                obtain ⟨r144, x144, e_144, hm⟩ := bd2_s hm
                refine zcWi (As := [.ref (K.1 9)]) (rest := []) ⟨hx, hb, hml, hown, hts⟩ (k_X8_takeWord l G K c ax x131 9 r144 x144 e_144) (cwV 1 hts gX8_factor_X8_takeWord rfl rfl rfl hd_X8_takeWord ⟨by dsimp only [rm_X8_factor, rm_X8_takeWord]; omega, by dsimp only [rm_X8_factor, rm_X8_takeWord]; omega⟩) hK hN hZ hP hD hS hA (va_recv hK hP (ci := 8) (q0 := 0) rfl rfl) rfl hl.1 rfl (Nat.le_of_ble_eq_true rfl) dX8_factor_144 ⟨Nat.zero_le _, Nat.zero_le _⟩ (fun H locs hP hD hS => ?_)
                have hP : va_P G vwCl (wM c ax x144) H := hP
                have hD : va_D A (wM c ax x144) := hD
                refine lv_if_eq (tgt := 154) hx hb dX8_factor_147 (by decide) (fun c_147 => ?_) (fun c_147 => ?_)
                · have hm := ifp c_147 hm
                  refine lv_iconst (v := (-1)) hx hb dX8_factor_154 (by decide) ?_
                  exact J_155 (-1) x144 H locs ls hP hD hS (lv_sub hl [1] rfl) hm
                · have hm := ifn c_147 hm
                  refine lv_iconst (v := 4) hx hb dX8_factor_150 (by decide) ?_
                  refine lv_goto (tgt := 155) hx hb dX8_factor_151 (by decide) ?_
                  exact J_155 4 x144 H locs ls hP hD hS (lv_sub hl [1] rfl) hm
              · have hm := ifn c_134 hm
                refine lv_iconst (v := 3) hx hb dX8_factor_137 (by decide) ?_
                refine lv_goto (tgt := 155) hx hb dX8_factor_138 (by decide) ?_
                exact J_155 3 x131 H locs ls hP hD hS (lv_sub hl [1] rfl) hm
            · have hm := ifn c_121 hm
              refine lv_iconst (v := 2) hx hb dX8_factor_124 (by decide) ?_
              refine lv_goto (tgt := 155) hx hb dX8_factor_125 (by decide) ?_
              exact J_155 2 x118 H locs ls hP hD hS (lv_sub hl [1] rfl) hm
          · have hm := ifn c_108 hm
            refine lv_iconst (v := 1) hx hb dX8_factor_111 (by decide) ?_
            refine lv_goto (tgt := 155) hx hb dX8_factor_112 (by decide) ?_
            exact J_155 1 x105 H locs ls hP hD hS (lv_sub hl [1] rfl) hm
        · have hm := ifn c_95 hm
          refine lv_iconst (v := 0) hx hb dX8_factor_98 (by decide) ?_
          refine lv_goto (tgt := 155) hx hb dX8_factor_99 (by decide) ?_
          exact J_155 0 x92 H locs ls hP hD hS (lv_sub hl [1] rfl) hm
      · have hm := ifn c_82 hm
        refine lv_iconst (v := (-1)) hx hb dX8_factor_85 (by decide) ?_
        refine lv_goto (tgt := 155) hx hb dX8_factor_86 (by decide) ?_
        exact J_155 (-1) x9 H locs ls hP hD hS (lv_sub hl [1] rfl) hm
    · have hm := ifp c_16 hm
      refine lv_aload_n hx hb dX8_factor_19 rfl (lv_at hl 1 rfl) ?_
      refine va_get (D := G) (ci := 8) (v := .int (x9.1.1 9)) (C := RX8) (T := TX8) (N := 22) hx hb hts hi_8 hown hK hP 0 rfl rfl 14 (by decide) (hts (.fieldLink RX8 124 "HubTrainsModel" "nesting" "I") (List.mem_of_getElem? (i := 1) rfl)) (fun _ h9 => h9) rfl dX8_factor_20 ?_
      refine lv_iconst (v := 4) hx hb dX8_factor_23 (by decide) ?_
      have J_37 : ∀ (x_37 : MS) (H : Heap) (locs : List Loc) (ls : Array Slot), va_P G vwCl (wM c ax x_37) H → va_D A (wM c ax x_37) → va_S A s.heap H locs → lv_has ls 4 [(0, .ref (ax 0))] → f_X8_factor_J37 SM x_37 = some (x_r) → W p l e (rm_X8_factor FF LL) s m args below meth c1 H locs 0 0 Q (F0 m 37 ls []) := by
        intro x_37 H locs ls hP hD hS hl hm
        unfold f_X8_factor_J37 at hm
        refine lv_aload_n hx hb dX8_factor_37 rfl (lv_at hl 0 rfl) ?_
        refine lv_dup hx hb dX8_factor_38 rfl ?_
        refine va_get (D := G) (ci := 8) (v := .int (x_37.1.1 3)) (C := RX8) (T := TX8) (N := 22) hx hb hts hi_8 hown hK hP 0 rfl rfl 4 (by decide) (hts (.fieldLink RX8 83 "HubTrainsModel" "position" "I") (List.mem_of_getElem? (i := 2) rfl)) (fun _ h9 => h9) rfl dX8_factor_39 ?_
        refine lv_iconst (v := 1) hx hb dX8_factor_42 (by decide) ?_
        refine lv_iadd hx hb dX8_factor_43 ?_
        refine va_put (D := G) (ci := 8) (v := .int ((x_37.1.1 3) + 1)) (C := RX8) (T := TX8) (N := 22) hx hb hts hi_8 tyX8 tyX8_ok nmX8 hown hK hP hD hS 0 rfl rfl 4 (by decide) (hts (.fieldLink RX8 83 "HubTrainsModel" "position" "I") (List.mem_of_getElem? (i := 2) rfl)) (fun _ h9 => h9) rfl (tyX8_ok 4 (by decide)) rfl rfl (Nat.le_of_ble_eq_true rfl) dX8_factor_44 (fun H locs hP hD hS => ?_)
        have hP : va_P G vwCl (wM c ax ((ss x_37.1 3 ((x_37.1.1 3) + 1)), x_37.2)) H := hP
        have hD : va_D A (wM c ax ((ss x_37.1 3 ((x_37.1.1 3) + 1)), x_37.2)) := hD
        refine lv_aload_n hx hb dX8_factor_47 rfl (lv_at hl 0 rfl) ?_
        refine lv_dup hx hb dX8_factor_48 rfl ?_
        refine va_get (D := G) (ci := 8) (v := .int (x_37.1.1 9)) (C := RX8) (T := TX8) (N := 22) hx hb hts hi_8 hown hK hP 0 rfl rfl 14 (by decide) (hts (.fieldLink RX8 124 "HubTrainsModel" "nesting" "I") (List.mem_of_getElem? (i := 1) rfl)) (fun _ h9 => h9) rfl dX8_factor_49 ?_
        refine lv_iconst (v := 1) hx hb dX8_factor_52 (by decide) ?_
        refine lv_iadd hx hb dX8_factor_53 ?_
        refine va_put (D := G) (ci := 8) (v := .int ((x_37.1.1 9) + 1)) (C := RX8) (T := TX8) (N := 22) hx hb hts hi_8 tyX8 tyX8_ok nmX8 hown hK hP hD hS 0 rfl rfl 14 (by decide) (hts (.fieldLink RX8 124 "HubTrainsModel" "nesting" "I") (List.mem_of_getElem? (i := 1) rfl)) (fun _ h9 => h9) rfl (tyX8_ok 14 (by decide)) rfl rfl (Nat.le_of_ble_eq_true rfl) dX8_factor_54 (fun H locs hP hD hS => ?_)
        have hP : va_P G vwCl (wM c ax ((ss (ss x_37.1 3 ((x_37.1.1 3) + 1)) 9 ((x_37.1.1 9) + 1)), x_37.2)) H := hP
        have hD : va_D A (wM c ax ((ss (ss x_37.1 3 ((x_37.1.1 3) + 1)) 9 ((x_37.1.1 9) + 1)), x_37.2)) := hD
        refine lv_aload_n hx hb dX8_factor_57 rfl (lv_at hl 0 rfl) ?_
        obtain ⟨x58, e_58, hm⟩ := bd1_s hm
        refine zcWv (As := []) (rest := []) ⟨hx, hb, hml, hown, hts⟩ (hSM ax ((ss (ss x_37.1 3 ((x_37.1.1 3) + 1)) 9 ((x_37.1.1 9) + 1)), x_37.2) x58 e_58) (cwV 0 hts gX8_factor_X8_readSum rfl rfl rfl hd_X8_readSum ⟨by dsimp only [rm_X8_factor]; omega, by dsimp only [rm_X8_factor]; omega⟩) hK hN hZ hP hD hS hA (va_recv hK hP (ci := 8) (q0 := 0) rfl rfl) rfl hl.1 rfl (Nat.le_of_ble_eq_true rfl) dX8_factor_58 ⟨Nat.zero_le _, Nat.zero_le _⟩ (fun H locs hP hD hS => ?_)
        have hP : va_P G vwCl (wM c ax x58) H := hP
        have hD : va_D A (wM c ax x58) := hD
        refine lv_aload_n hx hb dX8_factor_61 rfl (lv_at hl 0 rfl) ?_
        refine lv_bipush (v := 41) hx hb dX8_factor_62 (by decide) ?_
        obtain ⟨x64, e_64, hm⟩ := bd1_s hm
        refine zcWv (As := [.int 41]) (rest := []) ⟨hx, hb, hml, hown, hts⟩ (k_X8_expect l G K c ax x58 41 x64 e_64) (cwV 1 hts gX8_factor_X8_expect rfl rfl rfl hd_X8_expect ⟨by dsimp only [rm_X8_factor, rm_X8_expect]; omega, by dsimp only [rm_X8_factor, rm_X8_expect]; omega⟩) hK hN hZ hP hD hS hA (va_recv hK hP (ci := 8) (q0 := 0) rfl rfl) rfl hl.1 rfl (Nat.le_of_ble_eq_true rfl) dX8_factor_64 ⟨Nat.zero_le _, Nat.zero_le _⟩ (fun H locs hP hD hS => ?_)
        have hP : va_P G vwCl (wM c ax x64) H := hP
        have hD : va_D A (wM c ax x64) := hD
        refine lv_aload_n hx hb dX8_factor_67 rfl (lv_at hl 0 rfl) ?_
        refine lv_dup hx hb dX8_factor_68 rfl ?_
        refine va_get (D := G) (ci := 8) (v := .int (x64.1.1 9)) (C := RX8) (T := TX8) (N := 22) hx hb hts hi_8 hown hK hP 0 rfl rfl 14 (by decide) (hts (.fieldLink RX8 124 "HubTrainsModel" "nesting" "I") (List.mem_of_getElem? (i := 1) rfl)) (fun _ h9 => h9) rfl dX8_factor_69 ?_
        refine lv_iconst (v := 1) hx hb dX8_factor_72 (by decide) ?_
        refine lv_isub hx hb dX8_factor_73 ?_
        refine va_put (D := G) (ci := 8) (v := .int ((x64.1.1 9) - 1)) (C := RX8) (T := TX8) (N := 22) hx hb hts hi_8 tyX8 tyX8_ok nmX8 hown hK hP hD hS 0 rfl rfl 14 (by decide) (hts (.fieldLink RX8 124 "HubTrainsModel" "nesting" "I") (List.mem_of_getElem? (i := 1) rfl)) (fun _ h9 => h9) rfl (tyX8_ok 14 (by decide)) rfl rfl (Nat.le_of_ble_eq_true rfl) dX8_factor_74 (fun H locs hP hD hS => ?_)
        have hP : va_P G vwCl (wM c ax ((ss x64.1 9 ((x64.1.1 9) - 1)), x64.2)) H := hP
        have hD : va_D A (wM c ax ((ss x64.1 9 ((x64.1.1 9) - 1)), x64.2)) := hD
        exact hend H locs ls _ _ (zc1 (fun (z0 : MS) => (wM c ax z0 : va_W)) (Option.some.inj hm)) hP hD hS dX8_factor_77
      refine lv_icmp_ne (tgt := 37) hx hb dX8_factor_24 (by decide) (fun c_24 => ?_) (fun c_24 => ?_)
      · have hm := ifn c_24 hm
        exact J_37 x9 H locs ls hP hD hS (lv_sub hl [1] rfl) hm
      · have hm := ifp c_24 hm
        refine lv_aload_n hx hb dX8_factor_27 rfl (lv_at hl 1 rfl) ?_
        refine lv_bipush (v := (-6)) hx hb dX8_factor_28 (by decide) ?_
        refine lv_aload_n hx hb dX8_factor_30 rfl (lv_at hl 1 rfl) ?_
        refine va_get (D := G) (ci := 8) (v := .int (x9.1.1 3)) (C := RX8) (T := TX8) (N := 22) hx hb hts hi_8 hown hK hP 0 rfl rfl 4 (by decide) (hts (.fieldLink RX8 83 "HubTrainsModel" "position" "I") (List.mem_of_getElem? (i := 2) rfl)) (fun _ h9 => h9) rfl dX8_factor_31 ?_
        obtain ⟨x34, e_34, hm⟩ := bd1_s hm
        refine zcWv (As := [.int (-6), .int (x9.1.1 3)]) (rest := []) ⟨hx, hb, hml, hown, hts⟩ (k_X8_report l G K c ax x9 (-6) (x9.1.1 3) x34 e_34) (cwV 2 hts gX8_factor_X8_report rfl rfl rfl hd_X8_report ⟨by dsimp only [rm_X8_factor, rm_X8_report]; omega, by dsimp only [rm_X8_factor, rm_X8_report]; omega⟩) hK hN hZ hP hD hS hA (va_recv hK hP (ci := 8) (q0 := 0) rfl rfl) rfl hl.1 rfl (Nat.le_of_ble_eq_true rfl) dX8_factor_34 ⟨Nat.zero_le _, Nat.zero_le _⟩ (fun H locs hP hD hS => ?_)
        have hP : va_P G vwCl (wM c ax x34) H := hP
        have hD : va_D A (wM c ax x34) := hD
        exact J_37 x34 H locs ls hP hD hS (lv_sub hl [1] rfl) hm
  · have hm := ifp c_4 hm
    exact hend H locs ls _ _ (zc1 (fun (z0 : MS) => (wM c ax z0 : va_W)) (Option.some.inj hm)) hP hD hS dX8_factor_7

def f_X8_term_J68 (rec_4 : MS → Option MS) (x55 : MS) (s0_68 : Int32) : Option MS :=
  bd1 (f_X8_emit x55 s0_68) fun (x68 : MS) => rec_4 x68

def f_X8_term_J43 (SM : MS → Option MS) (rec_4 : MS → Option MS) (x30 : MS) (s0_43 : Int32) : Option MS :=
  bd1 (f_X8_factor SM ((ss x30.1 3 ((x30.1.1 3) + 1)), x30.2)) fun (x55 : MS) => if s0_43 = 0 then (f_X8_term_J68 rec_4 x55 5) else (f_X8_term_J68 rec_4 x55 4)

def f_X8_term_J29 (SM : MS → Option MS) (rec_4 : MS → Option MS) (x_29 : MS) : Option MS :=
  bd2 (f_X8_ahead x_29) fun (r30 : Int32) (x30 : MS) => if r30 = 42 then (f_X8_term_J43 SM rec_4 x30 1) else (f_X8_term_J43 SM rec_4 x30 0)

def f_X8_term_B4 (SM : MS → Option MS) (rec_4 : MS → Option MS) (x_4 : MS) : Option MS :=
  bd1 (f_X8_isGood x_4) fun (r5 : Int32) => if r5 = 0 then (some (x_4)) else (bd2 (f_X8_ahead x_4) fun (r12 : Int32) (x12 : MS) => if r12 = 42 then (f_X8_term_J29 SM rec_4 x12) else (bd2 (f_X8_ahead x12) fun (r21 : Int32) (x21 : MS) => if r21 = 47 then (f_X8_term_J29 SM rec_4 x21) else (some (x21))))

def f_X8_term (SM : MS → Option MS) (x : MS) : Option MS :=
  bd1 (f_X8_factor SM x) fun (x1 : MS) => itr1 (f_X8_term_B4 SM) FUEL x1

abbrev rm_X8_term (FF LL : Nat) : Room := { frames := FF + 11, cells := 0, slots := 0, locals := LL + 466 }
theorem hd_X8_term : yX8_term.cls = RX8 ∧ yX8_term.cls ≠ "java/lang/invoke/MethodHandle" ∧ yX8_term.cls ≠ "java/lang/invoke/VarHandle" ∧ (parseMethodDescriptor yX8_term.desc).map (fun d => d.parameters.length) = some 0 := by decide +kernel
set_option maxHeartbeats 4000000 in
set_option maxRecDepth 100000 in
theorem k_X8_term (l : Launch) (G : va_G) (K : (Nat → Nat) × (Nat → Nat)) (c : Nat → ClassId) (SM : MS → Option MS) (FF : Nat) (LL : Nat) (hSM : ∀ (ax : Nat → Nat) (x : MS) (x_r : MS), SM x = some x_r → zMv l yX8_readSum wsX8_readSum { frames := FF, cells := 0, slots := 0, locals := LL } G K (TY c) [.ref (ax 0)] (wM c ax x) (wM c ax x_r)) (ax : Nat → Nat) (x : MS) (x_r : MS) (hm : f_X8_term SM x = some (x_r)) : zMv l yX8_term wsX8_term (rm_X8_term FF LL) G K (TY c) [.ref (ax 0)] (wM c ax x) (wM c ax x_r) := by
  refine zMv.of (cc := cX8_term) (maxL := 2) (lv := [(0, .ref (ax 0))]) (by decide) rfl (Nat.le_of_ble_eq_true rfl) rfl ?_
  intro p e s m args below meth c1 A Q H locs hx hb hml hown hts hK hN hZ hP hD hA hS hend ls hl
  have hown : s.vm.findClass RX8 = some m.cls := hown
  have hi_8 : ∀ w ∈ wsX80, w ∈ wsX8_term := (fun w h => List.mem_cons_of_mem _ (List.mem_append_right _ (h)))
  unfold f_X8_term at hm
  refine lv_aload_n hx hb dX8_term_0 rfl (lv_at hl 0 rfl) ?_
  obtain ⟨x1, e_1, hm⟩ := bd1_s hm
  refine zcWv (As := []) (rest := []) ⟨hx, hb, hml, hown, hts⟩ (k_X8_factor l G K c SM FF LL hSM ax x x1 e_1) (cwV 0 hts gX8_term_X8_factor rfl rfl rfl hd_X8_factor ⟨by dsimp only [rm_X8_term, rm_X8_factor]; omega, by dsimp only [rm_X8_term, rm_X8_factor]; omega⟩) hK hN hZ hP hD hS hA (va_recv hK hP (ci := 8) (q0 := 0) rfl rfl) rfl hl.1 rfl (Nat.le_of_ble_eq_true rfl) dX8_term_1 ⟨Nat.zero_le _, Nat.zero_le _⟩ (fun H locs hP hD hS => ?_)
  have hP : va_P G vwCl (wM c ax x1) H := hP
  have hD : va_D A (wM c ax x1) := hD
  have L_4 : ∀ (n_4 : Nat) (x_4 : MS) (H : Heap) (locs : List Loc) (ls : Array Slot), va_P G vwCl (wM c ax x_4) H → va_D A (wM c ax x_4) → va_S A s.heap H locs → lv_has ls 2 [(0, .ref (ax 0))] → itr1 (f_X8_term_B4 SM) n_4 x_4 = some (x_r) → W p l e (rm_X8_term FF LL) s m args below meth c1 H locs 0 0 Q (F0 m 4 ls []) := by
    intro n_4
    induction n_4 with
    | zero => intro x_4 H locs ls hP hD hS hl hm; exact (itr1_0 hm).elim
    | succ n_4 ih_4 =>
      intro x_4 H locs ls hP hD hS hl hm
      have hm := itr1_s hm
      unfold f_X8_term_B4 at hm
      refine lv_aload_n hx hb dX8_term_4 rfl (lv_at hl 0 rfl) ?_
      obtain ⟨r5, e_5, hm⟩ := bd1_s hm
      refine zcWi (As := []) (rest := []) ⟨hx, hb, hml, hown, hts⟩ (k_X8_isGood l G K c ax x_4 r5 e_5) (cwV 0 hts gX8_term_X8_isGood rfl rfl rfl hd_X8_isGood ⟨by dsimp only [rm_X8_term, rm_X8_isGood]; omega, by dsimp only [rm_X8_term, rm_X8_isGood]; omega⟩) hK hN hZ hP hD hS hA (va_recv hK hP (ci := 8) (q0 := 0) rfl rfl) rfl hl.1 rfl (Nat.le_of_ble_eq_true rfl) dX8_term_5 ⟨Nat.zero_le _, Nat.zero_le _⟩ (fun H locs hP hD hS => ?_)
      have hP : va_P G vwCl (wM c ax x_4) H := hP
      have hD : va_D A (wM c ax x_4) := hD
      refine lv_if_eq (tgt := 74) hx hb dX8_term_8 (by decide) (fun c_8 => ?_) (fun c_8 => ?_)
      · have hm := ifp c_8 hm
        exact hend H locs ls _ _ (zc1 (fun (z0 : MS) => (wM c ax z0 : va_W)) (Option.some.inj hm)) hP hD hS dX8_term_74
      · have hm := ifn c_8 hm
        refine lv_aload_n hx hb dX8_term_11 rfl (lv_at hl 0 rfl) ?_
        obtain ⟨r12, x12, e_12, hm⟩ := bd2_s hm
        refine zcWi (As := []) (rest := []) ⟨hx, hb, hml, hown, hts⟩ (k_X8_ahead l G K c ax x_4 r12 x12 e_12) (cwV 0 hts gX8_term_X8_ahead rfl rfl rfl hd_X8_ahead ⟨by dsimp only [rm_X8_term, rm_X8_ahead]; omega, by dsimp only [rm_X8_term, rm_X8_ahead]; omega⟩) hK hN hZ hP hD hS hA (va_recv hK hP (ci := 8) (q0 := 0) rfl rfl) rfl hl.1 rfl (Nat.le_of_ble_eq_true rfl) dX8_term_12 ⟨Nat.zero_le _, Nat.zero_le _⟩ (fun H locs hP hD hS => ?_)
        have hP : va_P G vwCl (wM c ax x12) H := hP
        have hD : va_D A (wM c ax x12) := hD
        refine lv_bipush (v := 42) hx hb dX8_term_15 (by decide) ?_
        have J_29 : ∀ (x_29 : MS) (H : Heap) (locs : List Loc) (ls : Array Slot), va_P G vwCl (wM c ax x_29) H → va_D A (wM c ax x_29) → va_S A s.heap H locs → lv_has ls 2 [(0, .ref (ax 0))] → f_X8_term_J29 SM (itr1 (f_X8_term_B4 SM) n_4) x_29 = some (x_r) → W p l e (rm_X8_term FF LL) s m args below meth c1 H locs 0 0 Q (F0 m 29 ls []) := by
          intro x_29 H locs ls hP hD hS hl hm
          unfold f_X8_term_J29 at hm
          refine lv_aload_n hx hb dX8_term_29 rfl (lv_at hl 0 rfl) ?_
          obtain ⟨r30, x30, e_30, hm⟩ := bd2_s hm
          refine zcWi (As := []) (rest := []) ⟨hx, hb, hml, hown, hts⟩ (k_X8_ahead l G K c ax x_29 r30 x30 e_30) (cwV 0 hts gX8_term_X8_ahead rfl rfl rfl hd_X8_ahead ⟨by dsimp only [rm_X8_term, rm_X8_ahead]; omega, by dsimp only [rm_X8_term, rm_X8_ahead]; omega⟩) hK hN hZ hP hD hS hA (va_recv hK hP (ci := 8) (q0 := 0) rfl rfl) rfl hl.1 rfl (Nat.le_of_ble_eq_true rfl) dX8_term_30 ⟨Nat.zero_le _, Nat.zero_le _⟩ (fun H locs hP hD hS => ?_)
          have hP : va_P G vwCl (wM c ax x30) H := hP
          have hD : va_D A (wM c ax x30) := hD
          refine lv_bipush (v := 42) hx hb dX8_term_33 (by decide) ?_
          have J_43 : ∀ (s0_43 : Int32) (H : Heap) (locs : List Loc) (ls : Array Slot), va_P G vwCl (wM c ax x30) H → va_D A (wM c ax x30) → va_S A s.heap H locs → lv_has ls 2 [(0, .ref (ax 0))] → f_X8_term_J43 SM (itr1 (f_X8_term_B4 SM) n_4) x30 s0_43 = some (x_r) → W p l e (rm_X8_term FF LL) s m args below meth c1 H locs 0 0 Q (F0 m 43 ls [.int s0_43]) := by
            intro s0_43 H locs ls hP hD hS hl hm
            unfold f_X8_term_J43 at hm
            refine lv_istore_n (lv' := [(1, .int s0_43), (0, .ref (ax 0))]) hx hb dX8_term_43 rfl hl (by decide) rfl (fun ls hl => ?_)
            refine lv_aload_n hx hb dX8_term_44 rfl (lv_at hl 1 rfl) ?_
            refine lv_dup hx hb dX8_term_45 rfl ?_
            refine va_get (D := G) (ci := 8) (v := .int (x30.1.1 3)) (C := RX8) (T := TX8) (N := 22) hx hb hts hi_8 hown hK hP 0 rfl rfl 4 (by decide) (hts (.fieldLink RX8 83 "HubTrainsModel" "position" "I") (List.mem_of_getElem? (i := 1) rfl)) (fun _ h9 => h9) rfl dX8_term_46 ?_
            refine lv_iconst (v := 1) hx hb dX8_term_49 (by decide) ?_
            refine lv_iadd hx hb dX8_term_50 ?_
            refine va_put (D := G) (ci := 8) (v := .int ((x30.1.1 3) + 1)) (C := RX8) (T := TX8) (N := 22) hx hb hts hi_8 tyX8 tyX8_ok nmX8 hown hK hP hD hS 0 rfl rfl 4 (by decide) (hts (.fieldLink RX8 83 "HubTrainsModel" "position" "I") (List.mem_of_getElem? (i := 1) rfl)) (fun _ h9 => h9) rfl (tyX8_ok 4 (by decide)) rfl rfl (Nat.le_of_ble_eq_true rfl) dX8_term_51 (fun H locs hP hD hS => ?_)
            have hP : va_P G vwCl (wM c ax ((ss x30.1 3 ((x30.1.1 3) + 1)), x30.2)) H := hP
            have hD : va_D A (wM c ax ((ss x30.1 3 ((x30.1.1 3) + 1)), x30.2)) := hD
            refine lv_aload_n hx hb dX8_term_54 rfl (lv_at hl 1 rfl) ?_
            obtain ⟨x55, e_55, hm⟩ := bd1_s hm
            refine zcWv (As := []) (rest := []) ⟨hx, hb, hml, hown, hts⟩ (k_X8_factor l G K c SM FF LL hSM ax ((ss x30.1 3 ((x30.1.1 3) + 1)), x30.2) x55 e_55) (cwV 0 hts gX8_term_X8_factor rfl rfl rfl hd_X8_factor ⟨by dsimp only [rm_X8_term, rm_X8_factor]; omega, by dsimp only [rm_X8_term, rm_X8_factor]; omega⟩) hK hN hZ hP hD hS hA (va_recv hK hP (ci := 8) (q0 := 0) rfl rfl) rfl hl.1 rfl (Nat.le_of_ble_eq_true rfl) dX8_term_55 ⟨Nat.zero_le _, Nat.zero_le _⟩ (fun H locs hP hD hS => ?_)
            have hP : va_P G vwCl (wM c ax x55) H := hP
            have hD : va_D A (wM c ax x55) := hD
            refine lv_aload_n hx hb dX8_term_58 rfl (lv_at hl 1 rfl) ?_
            refine lv_iload_n hx hb dX8_term_59 rfl (lv_at hl 0 rfl) ?_
            have J_68 : ∀ (s0_68 : Int32) (H : Heap) (locs : List Loc) (ls : Array Slot), va_P G vwCl (wM c ax x55) H → va_D A (wM c ax x55) → va_S A s.heap H locs → lv_has ls 2 [(0, .ref (ax 0))] → f_X8_term_J68 (itr1 (f_X8_term_B4 SM) n_4) x55 s0_68 = some (x_r) → W p l e (rm_X8_term FF LL) s m args below meth c1 H locs 0 0 Q (F0 m 68 ls [.int s0_68, .ref (ax 0)]) := by
              intro s0_68 H locs ls hP hD hS hl hm
              unfold f_X8_term_J68 at hm
              obtain ⟨x68, e_68, hm⟩ := bd1_s hm
              refine zcWv (As := [.int s0_68]) (rest := []) ⟨hx, hb, hml, hown, hts⟩ (k_X8_emit l G K c ax x55 s0_68 x68 e_68) (cwV 1 hts gX8_term_X8_emit rfl rfl rfl hd_X8_emit ⟨by dsimp only [rm_X8_term, rm_X8_emit]; omega, by dsimp only [rm_X8_term, rm_X8_emit]; omega⟩) hK hN hZ hP hD hS hA (va_recv hK hP (ci := 8) (q0 := 0) rfl rfl) rfl hl.1 rfl (Nat.le_of_ble_eq_true rfl) dX8_term_68 ⟨Nat.zero_le _, Nat.zero_le _⟩ (fun H locs hP hD hS => ?_)
              have hP : va_P G vwCl (wM c ax x68) H := hP
              have hD : va_D A (wM c ax x68) := hD
              refine lv_goto (tgt := 4) hx hb dX8_term_71 (by decide) ?_
              exact ih_4 x68 H locs ls hP hD hS (lv_sub hl [0] rfl) hm
            refine lv_if_eq (tgt := 67) hx hb dX8_term_60 (by decide) (fun c_60 => ?_) (fun c_60 => ?_)
            · have hm := ifp c_60 hm
              refine lv_iconst (v := 5) hx hb dX8_term_67 (by decide) ?_
              exact J_68 5 H locs ls hP hD hS (lv_sub hl [1] rfl) hm
            · have hm := ifn c_60 hm
              refine lv_iconst (v := 4) hx hb dX8_term_63 (by decide) ?_
              refine lv_goto (tgt := 68) hx hb dX8_term_64 (by decide) ?_
              exact J_68 4 H locs ls hP hD hS (lv_sub hl [1] rfl) hm
          refine lv_icmp_ne (tgt := 42) hx hb dX8_term_35 (by decide) (fun c_35 => ?_) (fun c_35 => ?_)
          · have hm := ifn c_35 hm
            refine lv_iconst (v := 0) hx hb dX8_term_42 (by decide) ?_
            exact J_43 0 H locs ls hP hD hS (lv_sub hl [0] rfl) hm
          · have hm := ifp c_35 hm
            refine lv_iconst (v := 1) hx hb dX8_term_38 (by decide) ?_
            refine lv_goto (tgt := 43) hx hb dX8_term_39 (by decide) ?_
            exact J_43 1 H locs ls hP hD hS (lv_sub hl [0] rfl) hm
        refine lv_icmp_eq (tgt := 29) hx hb dX8_term_17 (by decide) (fun c_17 => ?_) (fun c_17 => ?_)
        · have hm := ifp c_17 hm
          exact J_29 x12 H locs ls hP hD hS (lv_sub hl [0] rfl) hm
        · have hm := ifn c_17 hm
          refine lv_aload_n hx hb dX8_term_20 rfl (lv_at hl 0 rfl) ?_
          obtain ⟨r21, x21, e_21, hm⟩ := bd2_s hm
          refine zcWi (As := []) (rest := []) ⟨hx, hb, hml, hown, hts⟩ (k_X8_ahead l G K c ax x12 r21 x21 e_21) (cwV 0 hts gX8_term_X8_ahead rfl rfl rfl hd_X8_ahead ⟨by dsimp only [rm_X8_term, rm_X8_ahead]; omega, by dsimp only [rm_X8_term, rm_X8_ahead]; omega⟩) hK hN hZ hP hD hS hA (va_recv hK hP (ci := 8) (q0 := 0) rfl rfl) rfl hl.1 rfl (Nat.le_of_ble_eq_true rfl) dX8_term_21 ⟨Nat.zero_le _, Nat.zero_le _⟩ (fun H locs hP hD hS => ?_)
          have hP : va_P G vwCl (wM c ax x21) H := hP
          have hD : va_D A (wM c ax x21) := hD
          refine lv_bipush (v := 47) hx hb dX8_term_24 (by decide) ?_
          refine lv_icmp_ne (tgt := 74) hx hb dX8_term_26 (by decide) (fun c_26 => ?_) (fun c_26 => ?_)
          · have hm := ifn c_26 hm
            exact hend H locs ls _ _ (zc1 (fun (z0 : MS) => (wM c ax z0 : va_W)) (Option.some.inj hm)) hP hD hS dX8_term_74
          · have hm := ifp c_26 hm
            exact J_29 x21 H locs ls hP hD hS (lv_sub hl [0] rfl) hm
  exact L_4 FUEL x1 H locs ls hP hD hS (lv_sub hl [0] rfl) hm

def f_X8_readSum_J68 (rec_4 : MS → Option MS) (x55 : MS) (s0_68 : Int32) : Option MS :=
  bd1 (f_X8_emit x55 s0_68) fun (x68 : MS) => rec_4 x68

def f_X8_readSum_J43 (SM : MS → Option MS) (rec_4 : MS → Option MS) (x30 : MS) (s0_43 : Int32) : Option MS :=
  bd1 (f_X8_term SM ((ss x30.1 3 ((x30.1.1 3) + 1)), x30.2)) fun (x55 : MS) => if s0_43 = 0 then (f_X8_readSum_J68 rec_4 x55 3) else (f_X8_readSum_J68 rec_4 x55 2)

def f_X8_readSum_J29 (SM : MS → Option MS) (rec_4 : MS → Option MS) (x_29 : MS) : Option MS :=
  bd2 (f_X8_ahead x_29) fun (r30 : Int32) (x30 : MS) => if r30 = 43 then (f_X8_readSum_J43 SM rec_4 x30 1) else (f_X8_readSum_J43 SM rec_4 x30 0)

def f_X8_readSum_B4 (SM : MS → Option MS) (rec_4 : MS → Option MS) (x_4 : MS) : Option MS :=
  bd1 (f_X8_isGood x_4) fun (r5 : Int32) => if r5 = 0 then (some (x_4)) else (bd2 (f_X8_ahead x_4) fun (r12 : Int32) (x12 : MS) => if r12 = 43 then (f_X8_readSum_J29 SM rec_4 x12) else (bd2 (f_X8_ahead x12) fun (r21 : Int32) (x21 : MS) => if r21 = 45 then (f_X8_readSum_J29 SM rec_4 x21) else (some (x21))))

def f_X8_readSum (SM : MS → Option MS) (x : MS) : Option MS :=
  bd1 (f_X8_term SM x) fun (x1 : MS) => itr1 (f_X8_readSum_B4 SM) FUEL x1

abbrev rm_X8_readSum (FF LL : Nat) : Room := { frames := FF + 12, cells := 0, slots := 0, locals := LL + 487 }
theorem hd2_X8_readSum : yX8_readSum.cls = RX8 ∧ yX8_readSum.cls ≠ "java/lang/invoke/MethodHandle" ∧ yX8_readSum.cls ≠ "java/lang/invoke/VarHandle" ∧ (parseMethodDescriptor yX8_readSum.desc).map (fun d => d.parameters.length) = some 0 := by decide +kernel
set_option maxHeartbeats 4000000 in
set_option maxRecDepth 100000 in
theorem k_X8_readSum (l : Launch) (G : va_G) (K : (Nat → Nat) × (Nat → Nat)) (c : Nat → ClassId) (SM : MS → Option MS) (FF : Nat) (LL : Nat) (hSM : ∀ (ax : Nat → Nat) (x : MS) (x_r : MS), SM x = some x_r → zMv l yX8_readSum wsX8_readSum { frames := FF, cells := 0, slots := 0, locals := LL } G K (TY c) [.ref (ax 0)] (wM c ax x) (wM c ax x_r)) (ax : Nat → Nat) (x : MS) (x_r : MS) (hm : f_X8_readSum SM x = some (x_r)) : zMv l yX8_readSum wsX8_readSum (rm_X8_readSum FF LL) G K (TY c) [.ref (ax 0)] (wM c ax x) (wM c ax x_r) := by
  refine zMv.of (cc := cX8_readSum) (maxL := 2) (lv := [(0, .ref (ax 0))]) (by decide) rfl (Nat.le_of_ble_eq_true rfl) rfl ?_
  intro p e s m args below meth c1 A Q H locs hx hb hml hown hts hK hN hZ hP hD hA hS hend ls hl
  have hown : s.vm.findClass RX8 = some m.cls := hown
  have hi_8 : ∀ w ∈ wsX80, w ∈ wsX8_readSum := (fun w h => List.mem_cons_of_mem _ (List.mem_append_right _ (h)))
  unfold f_X8_readSum at hm
  refine lv_aload_n hx hb dX8_readSum_0 rfl (lv_at hl 0 rfl) ?_
  obtain ⟨x1, e_1, hm⟩ := bd1_s hm
  refine zcWv (As := []) (rest := []) ⟨hx, hb, hml, hown, hts⟩ (k_X8_term l G K c SM FF LL hSM ax x x1 e_1) (cwV 0 hts gX8_readSum_X8_term rfl rfl rfl hd_X8_term ⟨by dsimp only [rm_X8_readSum, rm_X8_term]; omega, by dsimp only [rm_X8_readSum, rm_X8_term]; omega⟩) hK hN hZ hP hD hS hA (va_recv hK hP (ci := 8) (q0 := 0) rfl rfl) rfl hl.1 rfl (Nat.le_of_ble_eq_true rfl) dX8_readSum_1 ⟨Nat.zero_le _, Nat.zero_le _⟩ (fun H locs hP hD hS => ?_)
  have hP : va_P G vwCl (wM c ax x1) H := hP
  have hD : va_D A (wM c ax x1) := hD
  have L_4 : ∀ (n_4 : Nat) (x_4 : MS) (H : Heap) (locs : List Loc) (ls : Array Slot), va_P G vwCl (wM c ax x_4) H → va_D A (wM c ax x_4) → va_S A s.heap H locs → lv_has ls 2 [(0, .ref (ax 0))] → itr1 (f_X8_readSum_B4 SM) n_4 x_4 = some (x_r) → W p l e (rm_X8_readSum FF LL) s m args below meth c1 H locs 0 0 Q (F0 m 4 ls []) := by
    intro n_4
    induction n_4 with
    | zero => intro x_4 H locs ls hP hD hS hl hm; exact (itr1_0 hm).elim
    | succ n_4 ih_4 =>
      intro x_4 H locs ls hP hD hS hl hm
      have hm := itr1_s hm
      unfold f_X8_readSum_B4 at hm
      refine lv_aload_n hx hb dX8_readSum_4 rfl (lv_at hl 0 rfl) ?_
      obtain ⟨r5, e_5, hm⟩ := bd1_s hm
      refine zcWi (As := []) (rest := []) ⟨hx, hb, hml, hown, hts⟩ (k_X8_isGood l G K c ax x_4 r5 e_5) (cwV 0 hts gX8_readSum_X8_isGood rfl rfl rfl hd_X8_isGood ⟨by dsimp only [rm_X8_readSum, rm_X8_isGood]; omega, by dsimp only [rm_X8_readSum, rm_X8_isGood]; omega⟩) hK hN hZ hP hD hS hA (va_recv hK hP (ci := 8) (q0 := 0) rfl rfl) rfl hl.1 rfl (Nat.le_of_ble_eq_true rfl) dX8_readSum_5 ⟨Nat.zero_le _, Nat.zero_le _⟩ (fun H locs hP hD hS => ?_)
      have hP : va_P G vwCl (wM c ax x_4) H := hP
      have hD : va_D A (wM c ax x_4) := hD
      refine lv_if_eq (tgt := 74) hx hb dX8_readSum_8 (by decide) (fun c_8 => ?_) (fun c_8 => ?_)
      · have hm := ifp c_8 hm
        exact hend H locs ls _ _ (zc1 (fun (z0 : MS) => (wM c ax z0 : va_W)) (Option.some.inj hm)) hP hD hS dX8_readSum_74
      · have hm := ifn c_8 hm
        refine lv_aload_n hx hb dX8_readSum_11 rfl (lv_at hl 0 rfl) ?_
        obtain ⟨r12, x12, e_12, hm⟩ := bd2_s hm
        refine zcWi (As := []) (rest := []) ⟨hx, hb, hml, hown, hts⟩ (k_X8_ahead l G K c ax x_4 r12 x12 e_12) (cwV 0 hts gX8_readSum_X8_ahead rfl rfl rfl hd_X8_ahead ⟨by dsimp only [rm_X8_readSum, rm_X8_ahead]; omega, by dsimp only [rm_X8_readSum, rm_X8_ahead]; omega⟩) hK hN hZ hP hD hS hA (va_recv hK hP (ci := 8) (q0 := 0) rfl rfl) rfl hl.1 rfl (Nat.le_of_ble_eq_true rfl) dX8_readSum_12 ⟨Nat.zero_le _, Nat.zero_le _⟩ (fun H locs hP hD hS => ?_)
        have hP : va_P G vwCl (wM c ax x12) H := hP
        have hD : va_D A (wM c ax x12) := hD
        refine lv_bipush (v := 43) hx hb dX8_readSum_15 (by decide) ?_
        have J_29 : ∀ (x_29 : MS) (H : Heap) (locs : List Loc) (ls : Array Slot), va_P G vwCl (wM c ax x_29) H → va_D A (wM c ax x_29) → va_S A s.heap H locs → lv_has ls 2 [(0, .ref (ax 0))] → f_X8_readSum_J29 SM (itr1 (f_X8_readSum_B4 SM) n_4) x_29 = some (x_r) → W p l e (rm_X8_readSum FF LL) s m args below meth c1 H locs 0 0 Q (F0 m 29 ls []) := by
          intro x_29 H locs ls hP hD hS hl hm
          unfold f_X8_readSum_J29 at hm
          refine lv_aload_n hx hb dX8_readSum_29 rfl (lv_at hl 0 rfl) ?_
          obtain ⟨r30, x30, e_30, hm⟩ := bd2_s hm
          refine zcWi (As := []) (rest := []) ⟨hx, hb, hml, hown, hts⟩ (k_X8_ahead l G K c ax x_29 r30 x30 e_30) (cwV 0 hts gX8_readSum_X8_ahead rfl rfl rfl hd_X8_ahead ⟨by dsimp only [rm_X8_readSum, rm_X8_ahead]; omega, by dsimp only [rm_X8_readSum, rm_X8_ahead]; omega⟩) hK hN hZ hP hD hS hA (va_recv hK hP (ci := 8) (q0 := 0) rfl rfl) rfl hl.1 rfl (Nat.le_of_ble_eq_true rfl) dX8_readSum_30 ⟨Nat.zero_le _, Nat.zero_le _⟩ (fun H locs hP hD hS => ?_)
          have hP : va_P G vwCl (wM c ax x30) H := hP
          have hD : va_D A (wM c ax x30) := hD
          refine lv_bipush (v := 43) hx hb dX8_readSum_33 (by decide) ?_
          have J_43 : ∀ (s0_43 : Int32) (H : Heap) (locs : List Loc) (ls : Array Slot), va_P G vwCl (wM c ax x30) H → va_D A (wM c ax x30) → va_S A s.heap H locs → lv_has ls 2 [(0, .ref (ax 0))] → f_X8_readSum_J43 SM (itr1 (f_X8_readSum_B4 SM) n_4) x30 s0_43 = some (x_r) → W p l e (rm_X8_readSum FF LL) s m args below meth c1 H locs 0 0 Q (F0 m 43 ls [.int s0_43]) := by
            intro s0_43 H locs ls hP hD hS hl hm
            unfold f_X8_readSum_J43 at hm
            refine lv_istore_n (lv' := [(1, .int s0_43), (0, .ref (ax 0))]) hx hb dX8_readSum_43 rfl hl (by decide) rfl (fun ls hl => ?_)
            refine lv_aload_n hx hb dX8_readSum_44 rfl (lv_at hl 1 rfl) ?_
            refine lv_dup hx hb dX8_readSum_45 rfl ?_
            refine va_get (D := G) (ci := 8) (v := .int (x30.1.1 3)) (C := RX8) (T := TX8) (N := 22) hx hb hts hi_8 hown hK hP 0 rfl rfl 4 (by decide) (hts (.fieldLink RX8 83 "HubTrainsModel" "position" "I") (List.mem_of_getElem? (i := 1) rfl)) (fun _ h9 => h9) rfl dX8_readSum_46 ?_
            refine lv_iconst (v := 1) hx hb dX8_readSum_49 (by decide) ?_
            refine lv_iadd hx hb dX8_readSum_50 ?_
            refine va_put (D := G) (ci := 8) (v := .int ((x30.1.1 3) + 1)) (C := RX8) (T := TX8) (N := 22) hx hb hts hi_8 tyX8 tyX8_ok nmX8 hown hK hP hD hS 0 rfl rfl 4 (by decide) (hts (.fieldLink RX8 83 "HubTrainsModel" "position" "I") (List.mem_of_getElem? (i := 1) rfl)) (fun _ h9 => h9) rfl (tyX8_ok 4 (by decide)) rfl rfl (Nat.le_of_ble_eq_true rfl) dX8_readSum_51 (fun H locs hP hD hS => ?_)
            have hP : va_P G vwCl (wM c ax ((ss x30.1 3 ((x30.1.1 3) + 1)), x30.2)) H := hP
            have hD : va_D A (wM c ax ((ss x30.1 3 ((x30.1.1 3) + 1)), x30.2)) := hD
            refine lv_aload_n hx hb dX8_readSum_54 rfl (lv_at hl 1 rfl) ?_
            obtain ⟨x55, e_55, hm⟩ := bd1_s hm
            refine zcWv (As := []) (rest := []) ⟨hx, hb, hml, hown, hts⟩ (k_X8_term l G K c SM FF LL hSM ax ((ss x30.1 3 ((x30.1.1 3) + 1)), x30.2) x55 e_55) (cwV 0 hts gX8_readSum_X8_term rfl rfl rfl hd_X8_term ⟨by dsimp only [rm_X8_readSum, rm_X8_term]; omega, by dsimp only [rm_X8_readSum, rm_X8_term]; omega⟩) hK hN hZ hP hD hS hA (va_recv hK hP (ci := 8) (q0 := 0) rfl rfl) rfl hl.1 rfl (Nat.le_of_ble_eq_true rfl) dX8_readSum_55 ⟨Nat.zero_le _, Nat.zero_le _⟩ (fun H locs hP hD hS => ?_)
            have hP : va_P G vwCl (wM c ax x55) H := hP
            have hD : va_D A (wM c ax x55) := hD
            refine lv_aload_n hx hb dX8_readSum_58 rfl (lv_at hl 1 rfl) ?_
            refine lv_iload_n hx hb dX8_readSum_59 rfl (lv_at hl 0 rfl) ?_
            have J_68 : ∀ (s0_68 : Int32) (H : Heap) (locs : List Loc) (ls : Array Slot), va_P G vwCl (wM c ax x55) H → va_D A (wM c ax x55) → va_S A s.heap H locs → lv_has ls 2 [(0, .ref (ax 0))] → f_X8_readSum_J68 (itr1 (f_X8_readSum_B4 SM) n_4) x55 s0_68 = some (x_r) → W p l e (rm_X8_readSum FF LL) s m args below meth c1 H locs 0 0 Q (F0 m 68 ls [.int s0_68, .ref (ax 0)]) := by
              intro s0_68 H locs ls hP hD hS hl hm
              unfold f_X8_readSum_J68 at hm
              obtain ⟨x68, e_68, hm⟩ := bd1_s hm
              refine zcWv (As := [.int s0_68]) (rest := []) ⟨hx, hb, hml, hown, hts⟩ (k_X8_emit l G K c ax x55 s0_68 x68 e_68) (cwV 1 hts gX8_readSum_X8_emit rfl rfl rfl hd_X8_emit ⟨by dsimp only [rm_X8_readSum, rm_X8_emit]; omega, by dsimp only [rm_X8_readSum, rm_X8_emit]; omega⟩) hK hN hZ hP hD hS hA (va_recv hK hP (ci := 8) (q0 := 0) rfl rfl) rfl hl.1 rfl (Nat.le_of_ble_eq_true rfl) dX8_readSum_68 ⟨Nat.zero_le _, Nat.zero_le _⟩ (fun H locs hP hD hS => ?_)
              have hP : va_P G vwCl (wM c ax x68) H := hP
              have hD : va_D A (wM c ax x68) := hD
              refine lv_goto (tgt := 4) hx hb dX8_readSum_71 (by decide) ?_
              exact ih_4 x68 H locs ls hP hD hS (lv_sub hl [0] rfl) hm
            refine lv_if_eq (tgt := 67) hx hb dX8_readSum_60 (by decide) (fun c_60 => ?_) (fun c_60 => ?_)
            · have hm := ifp c_60 hm
              refine lv_iconst (v := 3) hx hb dX8_readSum_67 (by decide) ?_
              exact J_68 3 H locs ls hP hD hS (lv_sub hl [1] rfl) hm
            · have hm := ifn c_60 hm
              refine lv_iconst (v := 2) hx hb dX8_readSum_63 (by decide) ?_
              refine lv_goto (tgt := 68) hx hb dX8_readSum_64 (by decide) ?_
              exact J_68 2 H locs ls hP hD hS (lv_sub hl [1] rfl) hm
          refine lv_icmp_ne (tgt := 42) hx hb dX8_readSum_35 (by decide) (fun c_35 => ?_) (fun c_35 => ?_)
          · have hm := ifn c_35 hm
            refine lv_iconst (v := 0) hx hb dX8_readSum_42 (by decide) ?_
            exact J_43 0 H locs ls hP hD hS (lv_sub hl [0] rfl) hm
          · have hm := ifp c_35 hm
            refine lv_iconst (v := 1) hx hb dX8_readSum_38 (by decide) ?_
            refine lv_goto (tgt := 43) hx hb dX8_readSum_39 (by decide) ?_
            exact J_43 1 H locs ls hP hD hS (lv_sub hl [0] rfl) hm
        refine lv_icmp_eq (tgt := 29) hx hb dX8_readSum_17 (by decide) (fun c_17 => ?_) (fun c_17 => ?_)
        · have hm := ifp c_17 hm
          exact J_29 x12 H locs ls hP hD hS (lv_sub hl [0] rfl) hm
        · have hm := ifn c_17 hm
          refine lv_aload_n hx hb dX8_readSum_20 rfl (lv_at hl 0 rfl) ?_
          obtain ⟨r21, x21, e_21, hm⟩ := bd2_s hm
          refine zcWi (As := []) (rest := []) ⟨hx, hb, hml, hown, hts⟩ (k_X8_ahead l G K c ax x12 r21 x21 e_21) (cwV 0 hts gX8_readSum_X8_ahead rfl rfl rfl hd_X8_ahead ⟨by dsimp only [rm_X8_readSum, rm_X8_ahead]; omega, by dsimp only [rm_X8_readSum, rm_X8_ahead]; omega⟩) hK hN hZ hP hD hS hA (va_recv hK hP (ci := 8) (q0 := 0) rfl rfl) rfl hl.1 rfl (Nat.le_of_ble_eq_true rfl) dX8_readSum_21 ⟨Nat.zero_le _, Nat.zero_le _⟩ (fun H locs hP hD hS => ?_)
          have hP : va_P G vwCl (wM c ax x21) H := hP
          have hD : va_D A (wM c ax x21) := hD
          refine lv_bipush (v := 45) hx hb dX8_readSum_24 (by decide) ?_
          refine lv_icmp_ne (tgt := 74) hx hb dX8_readSum_26 (by decide) (fun c_26 => ?_) (fun c_26 => ?_)
          · have hm := ifn c_26 hm
            exact hend H locs ls _ _ (zc1 (fun (z0 : MS) => (wM c ax z0 : va_W)) (Option.some.inj hm)) hP hD hS dX8_readSum_74
          · have hm := ifp c_26 hm
            exact J_29 x21 H locs ls hP hD hS (lv_sub hl [0] rfl) hm
  exact L_4 FUEL x1 H locs ls hP hD hS (lv_sub hl [0] rfl) hm

def sumM : Nat → MS → Option MS
  | 0 => fun _ => none
  | n + 1 => f_X8_readSum (sumM n)
theorem k_sumM (l : Launch) (G : va_G) (K : (Nat → Nat) × (Nat → Nat)) (c : Nat → ClassId) : ∀ (n : Nat) (ax : Nat → Nat) (x : MS) (x_r : MS), sumM n x = some x_r → zMv l yX8_readSum wsX8_readSum { frames := 12 * n, cells := 0, slots := 0, locals := 487 * n } G K (TY c) [.ref (ax 0)] (wM c ax x) (wM c ax x_r)
  | 0, _, _, _, h => by cases h
  | n + 1, ax, x, x_r, h => k_X8_readSum l G K c (sumM n) (12 * n) (487 * n) (k_sumM l G K c n) ax x x_r h

def f_X8_statement_J145 (x_145 : MS) : Option MS :=
  bd1 (f_X8_expect x_145 59) fun (x148 : MS) => some (x148)

def f_X8_statement_J39 (x_39 : MS) : Option MS :=
  gd (inb 0 1464) <| bd2 (f_X8_number x_39 0 ((x_39.1.2 2) (0 : Int32).toNatClampNeg)) fun (r52 : Int32) (x52 : MS) => gd (inb 3 1464) <| nmd (upd (x52.1.2 2) (3 : Int32).toNatClampNeg r52) fun (w55 : Nat → Int32) => f_X8_statement_J145 ((sa x52.1 2 w55), x52.2)

def f_X8_statement (x : MS) : Option MS :=
  bd2 (f_X8_ahead x) fun (r1 : Int32) (x1 : MS) => bd2 (f_X8_takeWord x1 1) fun (r13 : Int32) (x13 : MS) => if r13 = 0 then (bd2 (f_X8_takeWord x13 2) fun (r62 : Int32) (x62 : MS) => if r62 = 0 then (bd2 (f_X8_takeWord x62 3) fun (r95 : Int32) (x95 : MS) => if r95 = 0 then (bd2 (f_X8_takeWord x95 4) fun (r111 : Int32) (x111 : MS) => if r111 = 0 then (bd1 (f_X8_report x111 (-2) (x1.1.1 3)) fun (x142 : MS) => f_X8_statement_J145 x142) else (bd1 (f_X8_once x111 2 (x1.1.1 3)) fun (x120 : MS) => gd (inb 13 1464) <| nmd (upd (x120.1.2 2) (13 : Int32).toNatClampNeg 1) fun (w130 : Nat → Int32) => bd1 (sumM 8 ((sa x120.1 2 w130), x120.2)) fun (x132 : MS) => f_X8_statement_J145 x132)) else (bd1 (f_X8_readGive x95) fun (x102 : MS) => f_X8_statement_J145 x102)) else (bd1 (f_X8_once x62 1 (x1.1.1 3)) fun (x71 : MS) => bd2 (f_X8_number x71 0 9999) fun (r85 : Int32) (x85 : MS) => gd (inb 11 1464) <| nmd (upd (x85.1.2 2) (11 : Int32).toNatClampNeg r85) fun (w88 : Nat → Int32) => f_X8_statement_J145 ((sa x85.1 2 w88), x85.2))) else (bd1 (f_X8_once x13 0 (x1.1.1 3)) fun (x22 : MS) => if (x22.1.1 11) = 0 then (f_X8_statement_J39 x22) else (bd1 (f_X8_report x22 (-2) (x1.1.1 3)) fun (x36 : MS) => f_X8_statement_J39 x36))

abbrev rm_X8_statement : Room := { frames := 97, cells := 0, slots := 0, locals := 3917 }
theorem hd_X8_statement : yX8_statement.cls = RX8 ∧ yX8_statement.cls ≠ "java/lang/invoke/MethodHandle" ∧ yX8_statement.cls ≠ "java/lang/invoke/VarHandle" ∧ (parseMethodDescriptor yX8_statement.desc).map (fun d => d.parameters.length) = some 0 := by decide +kernel
set_option maxHeartbeats 4000000 in
set_option maxRecDepth 100000 in
theorem k_X8_statement (l : Launch) (G : va_G) (K : (Nat → Nat) × (Nat → Nat)) (c : Nat → ClassId) (ax : Nat → Nat) (x : MS) (x_r : MS) (hm : f_X8_statement x = some (x_r)) : zMv l yX8_statement wsX8_statement (rm_X8_statement) G K (TY c) [.ref (ax 0)] (wM c ax x) (wM c ax x_r) := by
  refine zMv.of (cc := cX8_statement) (maxL := 2) (lv := [(0, .ref (ax 0))]) (by decide) rfl (Nat.le_of_ble_eq_true rfl) rfl ?_
  intro p e s m args below meth c1 A Q H locs hx hb hml hown hts hK hN hZ hP hD hA hS hend ls hl
  have hown : s.vm.findClass RX8 = some m.cls := hown
  have hi_8 : ∀ w ∈ wsX80, w ∈ wsX8_statement := (fun w h => List.mem_cons_of_mem _ (List.mem_append_right _ (h)))
  unfold f_X8_statement at hm
  refine lv_aload_n hx hb dX8_statement_0 rfl (lv_at hl 0 rfl) ?_
  obtain ⟨r1, x1, e_1, hm⟩ := bd2_s hm
  refine zcWi (As := []) (rest := []) ⟨hx, hb, hml, hown, hts⟩ (k_X8_ahead l G K c ax x r1 x1 e_1) (cwV 0 hts gX8_statement_X8_ahead rfl rfl rfl hd_X8_ahead ⟨Nat.le_of_ble_eq_true rfl, Nat.le_of_ble_eq_true rfl⟩) hK hN hZ hP hD hS hA (va_recv hK hP (ci := 8) (q0 := 0) rfl rfl) rfl hl.1 rfl (Nat.le_of_ble_eq_true rfl) dX8_statement_1 ⟨Nat.zero_le _, Nat.zero_le _⟩ (fun H locs hP hD hS => ?_)
  have hP : va_P G vwCl (wM c ax x1) H := hP
  have hD : va_D A (wM c ax x1) := hD
  refine lv_pop hx hb dX8_statement_4 rfl ?_
  refine lv_aload_n hx hb dX8_statement_5 rfl (lv_at hl 0 rfl) ?_
  refine va_get (D := G) (ci := 8) (v := .int (x1.1.1 3)) (C := RX8) (T := TX8) (N := 22) hx hb hts hi_8 hown hK hP 0 rfl rfl 4 (by decide) (hts (.fieldLink RX8 83 "HubTrainsModel" "position" "I") (List.mem_of_getElem? (i := 1) rfl)) (fun _ h9 => h9) rfl dX8_statement_6 ?_
  refine lv_istore_n (lv' := [(1, .int (x1.1.1 3)), (0, .ref (ax 0))]) hx hb dX8_statement_9 rfl hl (by decide) rfl (fun ls hl => ?_)
  refine lv_aload_n hx hb dX8_statement_10 rfl (lv_at hl 1 rfl) ?_
  refine va_ldcS hx hb hown (nws_HubTrainsModel_173 hN.2.2) dX8_statement_11 ?_
  obtain ⟨r13, x13, e_13, hm⟩ := bd2_s hm
  refine zcWi (As := [.ref (K.1 1)]) (rest := []) ⟨hx, hb, hml, hown, hts⟩ (k_X8_takeWord l G K c ax x1 1 r13 x13 e_13) (cwV 1 hts gX8_statement_X8_takeWord rfl rfl rfl hd_X8_takeWord ⟨Nat.le_of_ble_eq_true rfl, Nat.le_of_ble_eq_true rfl⟩) hK hN hZ hP hD hS hA (va_recv hK hP (ci := 8) (q0 := 0) rfl rfl) rfl hl.1 rfl (Nat.le_of_ble_eq_true rfl) dX8_statement_13 ⟨Nat.zero_le _, Nat.zero_le _⟩ (fun H locs hP hD hS => ?_)
  have hP : va_P G vwCl (wM c ax x13) H := hP
  have hD : va_D A (wM c ax x13) := hD
  have J_145 : ∀ (x_145 : MS) (H : Heap) (locs : List Loc) (ls : Array Slot), va_P G vwCl (wM c ax x_145) H → va_D A (wM c ax x_145) → va_S A s.heap H locs → lv_has ls 2 [(0, .ref (ax 0))] → f_X8_statement_J145 x_145 = some (x_r) → W p l e (rm_X8_statement) s m args below meth c1 H locs 0 0 Q (F0 m 145 ls []) := by
    intro x_145 H locs ls hP hD hS hl hm
    unfold f_X8_statement_J145 at hm
    refine lv_aload_n hx hb dX8_statement_145 rfl (lv_at hl 0 rfl) ?_
    refine lv_bipush (v := 59) hx hb dX8_statement_146 (by decide) ?_
    obtain ⟨x148, e_148, hm⟩ := bd1_s hm
    refine zcWv (As := [.int 59]) (rest := []) ⟨hx, hb, hml, hown, hts⟩ (k_X8_expect l G K c ax x_145 59 x148 e_148) (cwV 1 hts gX8_statement_X8_expect rfl rfl rfl hd_X8_expect ⟨Nat.le_of_ble_eq_true rfl, Nat.le_of_ble_eq_true rfl⟩) hK hN hZ hP hD hS hA (va_recv hK hP (ci := 8) (q0 := 0) rfl rfl) rfl hl.1 rfl (Nat.le_of_ble_eq_true rfl) dX8_statement_148 ⟨Nat.zero_le _, Nat.zero_le _⟩ (fun H locs hP hD hS => ?_)
    have hP : va_P G vwCl (wM c ax x148) H := hP
    have hD : va_D A (wM c ax x148) := hD
    exact hend H locs ls _ _ (zc1 (fun (z0 : MS) => (wM c ax z0 : va_W)) (Option.some.inj hm)) hP hD hS dX8_statement_151
  refine lv_if_eq (tgt := 59) hx hb dX8_statement_16 (by decide) (fun c_16 => ?_) (fun c_16 => ?_)
  · have hm := ifp c_16 hm
    refine lv_aload_n hx hb dX8_statement_59 rfl (lv_at hl 1 rfl) ?_
    refine va_ldcS hx hb hown (nws_HubTrainsModel_178 hN.2.2) dX8_statement_60 ?_
    obtain ⟨r62, x62, e_62, hm⟩ := bd2_s hm
    refine zcWi (As := [.ref (K.1 2)]) (rest := []) ⟨hx, hb, hml, hown, hts⟩ (k_X8_takeWord l G K c ax x13 2 r62 x62 e_62) (cwV 1 hts gX8_statement_X8_takeWord rfl rfl rfl hd_X8_takeWord ⟨Nat.le_of_ble_eq_true rfl, Nat.le_of_ble_eq_true rfl⟩) hK hN hZ hP hD hS hA (va_recv hK hP (ci := 8) (q0 := 0) rfl rfl) rfl hl.1 rfl (Nat.le_of_ble_eq_true rfl) dX8_statement_62 ⟨Nat.zero_le _, Nat.zero_le _⟩ (fun H locs hP hD hS => ?_)
    have hP : va_P G vwCl (wM c ax x62) H := hP
    have hD : va_D A (wM c ax x62) := hD
    refine lv_if_eq (tgt := 92) hx hb dX8_statement_65 (by decide) (fun c_65 => ?_) (fun c_65 => ?_)
    · have hm := ifp c_65 hm
      refine lv_aload_n hx hb dX8_statement_92 rfl (lv_at hl 1 rfl) ?_
      refine va_ldcS hx hb hown (nws_HubTrainsModel_180 hN.2.2) dX8_statement_93 ?_
      obtain ⟨r95, x95, e_95, hm⟩ := bd2_s hm
      refine zcWi (As := [.ref (K.1 3)]) (rest := []) ⟨hx, hb, hml, hown, hts⟩ (k_X8_takeWord l G K c ax x62 3 r95 x95 e_95) (cwV 1 hts gX8_statement_X8_takeWord rfl rfl rfl hd_X8_takeWord ⟨Nat.le_of_ble_eq_true rfl, Nat.le_of_ble_eq_true rfl⟩) hK hN hZ hP hD hS hA (va_recv hK hP (ci := 8) (q0 := 0) rfl rfl) rfl hl.1 rfl (Nat.le_of_ble_eq_true rfl) dX8_statement_95 ⟨Nat.zero_le _, Nat.zero_le _⟩ (fun H locs hP hD hS => ?_)
      have hP : va_P G vwCl (wM c ax x95) H := hP
      have hD : va_D A (wM c ax x95) := hD
      refine lv_if_eq (tgt := 108) hx hb dX8_statement_98 (by decide) (fun c_98 => ?_) (fun c_98 => ?_)
      · have hm := ifp c_98 hm
        refine lv_aload_n hx hb dX8_statement_108 rfl (lv_at hl 1 rfl) ?_
        refine va_ldcS hx hb hown (nws_HubTrainsModel_185 hN.2.2) dX8_statement_109 ?_
        obtain ⟨r111, x111, e_111, hm⟩ := bd2_s hm
        refine zcWi (As := [.ref (K.1 4)]) (rest := []) ⟨hx, hb, hml, hown, hts⟩ (k_X8_takeWord l G K c ax x95 4 r111 x111 e_111) (cwV 1 hts gX8_statement_X8_takeWord rfl rfl rfl hd_X8_takeWord ⟨Nat.le_of_ble_eq_true rfl, Nat.le_of_ble_eq_true rfl⟩) hK hN hZ hP hD hS hA (va_recv hK hP (ci := 8) (q0 := 0) rfl rfl) rfl hl.1 rfl (Nat.le_of_ble_eq_true rfl) dX8_statement_111 ⟨Nat.zero_le _, Nat.zero_le _⟩ (fun H locs hP hD hS => ?_)
        have hP : va_P G vwCl (wM c ax x111) H := hP
        have hD : va_D A (wM c ax x111) := hD
        refine lv_if_eq (tgt := 138) hx hb dX8_statement_114 (by decide) (fun c_114 => ?_) (fun c_114 => ?_)
        · have hm := ifp c_114 hm
          refine lv_aload_n hx hb dX8_statement_138 rfl (lv_at hl 1 rfl) ?_
          refine lv_bipush (v := (-2)) hx hb dX8_statement_139 (by decide) ?_
          refine lv_iload_n hx hb dX8_statement_141 rfl (lv_at hl 0 rfl) ?_
          obtain ⟨x142, e_142, hm⟩ := bd1_s hm
          refine zcWv (As := [.int (-2), .int (x1.1.1 3)]) (rest := []) ⟨hx, hb, hml, hown, hts⟩ (k_X8_report l G K c ax x111 (-2) (x1.1.1 3) x142 e_142) (cwV 2 hts gX8_statement_X8_report rfl rfl rfl hd_X8_report ⟨Nat.le_of_ble_eq_true rfl, Nat.le_of_ble_eq_true rfl⟩) hK hN hZ hP hD hS hA (va_recv hK hP (ci := 8) (q0 := 0) rfl rfl) rfl hl.1 rfl (Nat.le_of_ble_eq_true rfl) dX8_statement_142 ⟨Nat.zero_le _, Nat.zero_le _⟩ (fun H locs hP hD hS => ?_)
          have hP : va_P G vwCl (wM c ax x142) H := hP
          have hD : va_D A (wM c ax x142) := hD
          exact J_145 x142 H locs ls hP hD hS (lv_sub hl [1] rfl) hm
        · have hm := ifn c_114 hm
          refine lv_aload_n hx hb dX8_statement_117 rfl (lv_at hl 1 rfl) ?_
          refine lv_iconst (v := 2) hx hb dX8_statement_118 (by decide) ?_
          refine lv_iload_n hx hb dX8_statement_119 rfl (lv_at hl 0 rfl) ?_
          obtain ⟨x120, e_120, hm⟩ := bd1_s hm
          refine zcWv (As := [.int 2, .int (x1.1.1 3)]) (rest := []) ⟨hx, hb, hml, hown, hts⟩ (k_X8_once l G K c ax x111 2 (x1.1.1 3) x120 e_120) (cwV 2 hts gX8_statement_X8_once rfl rfl rfl hd_X8_once ⟨Nat.le_of_ble_eq_true rfl, Nat.le_of_ble_eq_true rfl⟩) hK hN hZ hP hD hS hA (va_recv hK hP (ci := 8) (q0 := 0) rfl rfl) rfl hl.1 rfl (Nat.le_of_ble_eq_true rfl) dX8_statement_120 ⟨Nat.zero_le _, Nat.zero_le _⟩ (fun H locs hP hD hS => ?_)
          have hP : va_P G vwCl (wM c ax x120) H := hP
          have hD : va_D A (wM c ax x120) := hD
          refine lv_aload_n hx hb dX8_statement_123 rfl (lv_at hl 1 rfl) ?_
          refine va_get (D := G) (ci := 8) (v := .ref (ax 3)) (C := RX8) (T := TX8) (N := 22) hx hb hts hi_8 hown hK hP 0 rfl rfl 9 (by decide) (hts (.fieldLink RX8 20 "HubTrainsModel" "draft" "[I") (List.mem_of_getElem? (i := 3) rfl)) (fun _ h9 => h9) rfl dX8_statement_124 ?_
          refine lv_bipush (v := 13) hx hb dX8_statement_127 (by decide) ?_
          refine lv_iconst (v := 1) hx hb dX8_statement_129 (by decide) ?_
          obtain ⟨h_130, hm⟩ := gd_s hm
          refine va_iast (D := G) hx hb hK hP hD hS 3 0 rfl rfl (inb_s h_130) dX8_statement_130 (fun H locs hP hD hS => ?_)
          obtain ⟨w130, e_w130⟩ : ∃ z : Nat → Int32, z = upd (x120.1.2 2) (13 : Int32).toNatClampNeg 1 := ⟨_, rfl⟩
          have hP : va_P G vwCl (wM c ax ((sa x120.1 2 w130), x120.2)) H := by rw [e_w130]; exact hP
          have hD : va_D A (wM c ax ((sa x120.1 2 w130), x120.2)) := by rw [e_w130]; exact hD
          have hm := nmd_s hm w130 e_w130
          refine lv_aload_n hx hb dX8_statement_131 rfl (lv_at hl 1 rfl) ?_
          obtain ⟨x132, e_132, hm⟩ := bd1_s hm
          refine zcWv (As := []) (rest := []) ⟨hx, hb, hml, hown, hts⟩ (k_sumM l G K c 8 ax ((sa x120.1 2 w130), x120.2) x132 e_132) (cwV 0 hts gX8_statement_X8_readSum rfl rfl rfl hd_X8_readSum ⟨Nat.le_of_ble_eq_true rfl, Nat.le_of_ble_eq_true rfl⟩) hK hN hZ hP hD hS hA (va_recv hK hP (ci := 8) (q0 := 0) rfl rfl) rfl hl.1 rfl (Nat.le_of_ble_eq_true rfl) dX8_statement_132 ⟨Nat.zero_le _, Nat.zero_le _⟩ (fun H locs hP hD hS => ?_)
          have hP : va_P G vwCl (wM c ax x132) H := hP
          have hD : va_D A (wM c ax x132) := hD
          refine lv_goto (tgt := 145) hx hb dX8_statement_135 (by decide) ?_
          exact J_145 x132 H locs ls hP hD hS (lv_sub hl [1] rfl) hm
      · have hm := ifn c_98 hm
        refine lv_aload_n hx hb dX8_statement_101 rfl (lv_at hl 1 rfl) ?_
        obtain ⟨x102, e_102, hm⟩ := bd1_s hm
        refine zcWv (As := []) (rest := []) ⟨hx, hb, hml, hown, hts⟩ (k_X8_readGive l G K c ax x95 x102 e_102) (cwV 0 hts gX8_statement_X8_readGive rfl rfl rfl hd_X8_readGive ⟨Nat.le_of_ble_eq_true rfl, Nat.le_of_ble_eq_true rfl⟩) hK hN hZ hP hD hS hA (va_recv hK hP (ci := 8) (q0 := 0) rfl rfl) rfl hl.1 rfl (Nat.le_of_ble_eq_true rfl) dX8_statement_102 ⟨Nat.zero_le _, Nat.zero_le _⟩ (fun H locs hP hD hS => ?_)
        have hP : va_P G vwCl (wM c ax x102) H := hP
        have hD : va_D A (wM c ax x102) := hD
        refine lv_goto (tgt := 145) hx hb dX8_statement_105 (by decide) ?_
        exact J_145 x102 H locs ls hP hD hS (lv_sub hl [1] rfl) hm
    · have hm := ifn c_65 hm
      refine lv_aload_n hx hb dX8_statement_68 rfl (lv_at hl 1 rfl) ?_
      refine lv_iconst (v := 1) hx hb dX8_statement_69 (by decide) ?_
      refine lv_iload_n hx hb dX8_statement_70 rfl (lv_at hl 0 rfl) ?_
      obtain ⟨x71, e_71, hm⟩ := bd1_s hm
      refine zcWv (As := [.int 1, .int (x1.1.1 3)]) (rest := []) ⟨hx, hb, hml, hown, hts⟩ (k_X8_once l G K c ax x62 1 (x1.1.1 3) x71 e_71) (cwV 2 hts gX8_statement_X8_once rfl rfl rfl hd_X8_once ⟨Nat.le_of_ble_eq_true rfl, Nat.le_of_ble_eq_true rfl⟩) hK hN hZ hP hD hS hA (va_recv hK hP (ci := 8) (q0 := 0) rfl rfl) rfl hl.1 rfl (Nat.le_of_ble_eq_true rfl) dX8_statement_71 ⟨Nat.zero_le _, Nat.zero_le _⟩ (fun H locs hP hD hS => ?_)
      have hP : va_P G vwCl (wM c ax x71) H := hP
      have hD : va_D A (wM c ax x71) := hD
      refine lv_aload_n hx hb dX8_statement_74 rfl (lv_at hl 1 rfl) ?_
      refine va_get (D := G) (ci := 8) (v := .ref (ax 3)) (C := RX8) (T := TX8) (N := 22) hx hb hts hi_8 hown hK hP 0 rfl rfl 9 (by decide) (hts (.fieldLink RX8 20 "HubTrainsModel" "draft" "[I") (List.mem_of_getElem? (i := 3) rfl)) (fun _ h9 => h9) rfl dX8_statement_75 ?_
      refine lv_bipush (v := 11) hx hb dX8_statement_78 (by decide) ?_
      refine lv_aload_n hx hb dX8_statement_80 rfl (lv_at hl 1 rfl) ?_
      refine lv_iconst (v := 0) hx hb dX8_statement_81 (by decide) ?_
      refine lv_sipush (v := 9999) hx hb dX8_statement_82 (by decide) ?_
      obtain ⟨r85, x85, e_85, hm⟩ := bd2_s hm
      refine zcWi (As := [.int 0, .int 9999]) (rest := [.int 11, .ref (ax 3)]) ⟨hx, hb, hml, hown, hts⟩ (k_X8_number l G K c ax x71 0 9999 r85 x85 e_85) (cwV 2 hts gX8_statement_X8_number rfl rfl rfl hd_X8_number ⟨Nat.le_of_ble_eq_true rfl, Nat.le_of_ble_eq_true rfl⟩) hK hN hZ hP hD hS hA (va_recv hK hP (ci := 8) (q0 := 0) rfl rfl) rfl hl.1 rfl (Nat.le_of_ble_eq_true rfl) dX8_statement_85 ⟨Nat.zero_le _, Nat.zero_le _⟩ (fun H locs hP hD hS => ?_)
      have hP : va_P G vwCl (wM c ax x85) H := hP
      have hD : va_D A (wM c ax x85) := hD
      obtain ⟨h_88, hm⟩ := gd_s hm
      refine va_iast (D := G) hx hb hK hP hD hS 3 0 rfl rfl (inb_s h_88) dX8_statement_88 (fun H locs hP hD hS => ?_)
      obtain ⟨w88, e_w88⟩ : ∃ z : Nat → Int32, z = upd (x85.1.2 2) (11 : Int32).toNatClampNeg r85 := ⟨_, rfl⟩
      have hP : va_P G vwCl (wM c ax ((sa x85.1 2 w88), x85.2)) H := by rw [e_w88]; exact hP
      have hD : va_D A (wM c ax ((sa x85.1 2 w88), x85.2)) := by rw [e_w88]; exact hD
      have hm := nmd_s hm w88 e_w88
      refine lv_goto (tgt := 145) hx hb dX8_statement_89 (by decide) ?_
      exact J_145 ((sa x85.1 2 w88), x85.2) H locs ls hP hD hS (lv_sub hl [1] rfl) hm
  · have hm := ifn c_16 hm
    refine lv_aload_n hx hb dX8_statement_19 rfl (lv_at hl 1 rfl) ?_
    refine lv_iconst (v := 0) hx hb dX8_statement_20 (by decide) ?_
    refine lv_iload_n hx hb dX8_statement_21 rfl (lv_at hl 0 rfl) ?_
    obtain ⟨x22, e_22, hm⟩ := bd1_s hm
    refine zcWv (As := [.int 0, .int (x1.1.1 3)]) (rest := []) ⟨hx, hb, hml, hown, hts⟩ (k_X8_once l G K c ax x13 0 (x1.1.1 3) x22 e_22) (cwV 2 hts gX8_statement_X8_once rfl rfl rfl hd_X8_once ⟨Nat.le_of_ble_eq_true rfl, Nat.le_of_ble_eq_true rfl⟩) hK hN hZ hP hD hS hA (va_recv hK hP (ci := 8) (q0 := 0) rfl rfl) rfl hl.1 rfl (Nat.le_of_ble_eq_true rfl) dX8_statement_22 ⟨Nat.zero_le _, Nat.zero_le _⟩ (fun H locs hP hD hS => ?_)
    have hP : va_P G vwCl (wM c ax x22) H := hP
    have hD : va_D A (wM c ax x22) := hD
    refine lv_aload_n hx hb dX8_statement_25 rfl (lv_at hl 1 rfl) ?_
    refine va_get (D := G) (ci := 8) (v := .int (x22.1.1 11)) (C := RX8) (T := TX8) (N := 22) hx hb hts hi_8 hown hK hP 0 rfl rfl 16 (by decide) (hts (.fieldLink RX8 166 "HubTrainsModel" "isGiven" "Z") (List.mem_of_getElem? (i := 2) rfl)) (fun _ h9 => h9) rfl dX8_statement_26 ?_
    have J_39 : ∀ (x_39 : MS) (H : Heap) (locs : List Loc) (ls : Array Slot), va_P G vwCl (wM c ax x_39) H → va_D A (wM c ax x_39) → va_S A s.heap H locs → lv_has ls 2 [(0, .ref (ax 0))] → f_X8_statement_J39 x_39 = some (x_r) → W p l e (rm_X8_statement) s m args below meth c1 H locs 0 0 Q (F0 m 39 ls []) := by
      intro x_39 H locs ls hP hD hS hl hm
      unfold f_X8_statement_J39 at hm
      refine lv_aload_n hx hb dX8_statement_39 rfl (lv_at hl 0 rfl) ?_
      refine va_get (D := G) (ci := 8) (v := .ref (ax 3)) (C := RX8) (T := TX8) (N := 22) hx hb hts hi_8 hown hK hP 0 rfl rfl 9 (by decide) (hts (.fieldLink RX8 20 "HubTrainsModel" "draft" "[I") (List.mem_of_getElem? (i := 3) rfl)) (fun _ h9 => h9) rfl dX8_statement_40 ?_
      refine lv_iconst (v := 3) hx hb dX8_statement_43 (by decide) ?_
      refine lv_aload_n hx hb dX8_statement_44 rfl (lv_at hl 0 rfl) ?_
      refine lv_iconst (v := 0) hx hb dX8_statement_45 (by decide) ?_
      refine lv_aload_n hx hb dX8_statement_46 rfl (lv_at hl 0 rfl) ?_
      refine va_get (D := G) (ci := 8) (v := .ref (ax 3)) (C := RX8) (T := TX8) (N := 22) hx hb hts hi_8 hown hK hP 0 rfl rfl 9 (by decide) (hts (.fieldLink RX8 20 "HubTrainsModel" "draft" "[I") (List.mem_of_getElem? (i := 3) rfl)) (fun _ h9 => h9) rfl dX8_statement_47 ?_
      refine lv_iconst (v := 0) hx hb dX8_statement_50 (by decide) ?_
      obtain ⟨h_51, hm⟩ := gd_s hm
      refine va_iald (D := G) hx hb hK hP 3 0 rfl rfl (inb_s h_51) dX8_statement_51 ?_
      obtain ⟨r52, x52, e_52, hm⟩ := bd2_s hm
      refine zcWi (As := [.int 0, .int ((x_39.1.2 2) (0 : Int32).toNatClampNeg)]) (rest := [.int 3, .ref (ax 3)]) ⟨hx, hb, hml, hown, hts⟩ (k_X8_number l G K c ax x_39 0 ((x_39.1.2 2) (0 : Int32).toNatClampNeg) r52 x52 e_52) (cwV 2 hts gX8_statement_X8_number rfl rfl rfl hd_X8_number ⟨Nat.le_of_ble_eq_true rfl, Nat.le_of_ble_eq_true rfl⟩) hK hN hZ hP hD hS hA (va_recv hK hP (ci := 8) (q0 := 0) rfl rfl) rfl hl.1 rfl (Nat.le_of_ble_eq_true rfl) dX8_statement_52 ⟨Nat.zero_le _, Nat.zero_le _⟩ (fun H locs hP hD hS => ?_)
      have hP : va_P G vwCl (wM c ax x52) H := hP
      have hD : va_D A (wM c ax x52) := hD
      obtain ⟨h_55, hm⟩ := gd_s hm
      refine va_iast (D := G) hx hb hK hP hD hS 3 0 rfl rfl (inb_s h_55) dX8_statement_55 (fun H locs hP hD hS => ?_)
      obtain ⟨w55, e_w55⟩ : ∃ z : Nat → Int32, z = upd (x52.1.2 2) (3 : Int32).toNatClampNeg r52 := ⟨_, rfl⟩
      have hP : va_P G vwCl (wM c ax ((sa x52.1 2 w55), x52.2)) H := by rw [e_w55]; exact hP
      have hD : va_D A (wM c ax ((sa x52.1 2 w55), x52.2)) := by rw [e_w55]; exact hD
      have hm := nmd_s hm w55 e_w55
      refine lv_goto (tgt := 145) hx hb dX8_statement_56 (by decide) ?_
      exact J_145 ((sa x52.1 2 w55), x52.2) H locs ls hP hD hS (lv_sub hl [0] rfl) hm
    refine lv_if_eq (tgt := 39) hx hb dX8_statement_29 (by decide) (fun c_29 => ?_) (fun c_29 => ?_)
    · have hm := ifp c_29 hm
      exact J_39 x22 H locs ls hP hD hS (lv_sub hl [1] rfl) hm
    · have hm := ifn c_29 hm
      refine lv_aload_n hx hb dX8_statement_32 rfl (lv_at hl 1 rfl) ?_
      refine lv_bipush (v := (-2)) hx hb dX8_statement_33 (by decide) ?_
      refine lv_iload_n hx hb dX8_statement_35 rfl (lv_at hl 0 rfl) ?_
      obtain ⟨x36, e_36, hm⟩ := bd1_s hm
      refine zcWv (As := [.int (-2), .int (x1.1.1 3)]) (rest := []) ⟨hx, hb, hml, hown, hts⟩ (k_X8_report l G K c ax x22 (-2) (x1.1.1 3) x36 e_36) (cwV 2 hts gX8_statement_X8_report rfl rfl rfl hd_X8_report ⟨Nat.le_of_ble_eq_true rfl, Nat.le_of_ble_eq_true rfl⟩) hK hN hZ hP hD hS hA (va_recv hK hP (ci := 8) (q0 := 0) rfl rfl) rfl hl.1 rfl (Nat.le_of_ble_eq_true rfl) dX8_statement_36 ⟨Nat.zero_le _, Nat.zero_le _⟩ (fun H locs hP hD hS => ?_)
      have hP : va_P G vwCl (wM c ax x36) H := hP
      have hD : va_D A (wM c ax x36) := hD
      exact J_39 x36 H locs ls hP hD hS (lv_sub hl [1] rfl) hm

def f_X8_load_J154 (x_154 : MS) : Option (Int32 × MS) :=
  bd1 (f_X8_isGood ((ss x_154.1 6 (x_154.1.1 5)), x_154.2)) fun (r163 : Int32) => if r163 = 0 then (some ((x_154.1.1 4), ((ss x_154.1 6 (x_154.1.1 5)), x_154.2))) else (bd1 (f_X8_deal 1464 (x_154.1.2 2)) fun (h0178 : Nat → Int32) => bd1 (f_X8_remember ((sa (ss x_154.1 6 (x_154.1.1 5)) 2 h0178), x_154.2)) fun (x182 : MS) => bd1 (f_X8_copy 1464 1464 (x182.1.2 2) (x182.1.2 1) 1464) fun (h1196 : Nat → Int32) => gd (inb 7 1464) <| some ((h1196 (7 : Int32).toNatClampNeg), ((sa x182.1 1 h1196), x182.2)))

def f_X8_load_B132  (rec_132 : MS → Option (Int32 × MS)) (x_132 : MS) : Option (Int32 × MS) :=
  bd1 (f_X8_isGood x_132) fun (r133 : Int32) => if r133 = 0 then (f_X8_load_J154 x_132) else (bd2 (f_X8_ahead x_132) fun (r140 : Int32) (x140 : MS) => if r140 = (-1) then (f_X8_load_J154 x140) else (bd1 (f_X8_statement x140) fun (x148 : MS) => rec_132 x148))

def f_X8_load_J91 (x_91 : MS) : Option (Int32 × MS) :=
  bd2 (f_X8_number x_91 3 9) fun (r95 : Int32) (x95 : MS) => bd2 (f_X8_number x95 2 4) fun (r102 : Int32) (x102 : MS) => bd2 (f_X8_number x102 1 12) fun (r110 : Int32) (x110 : MS) => bd1 (f_X8_layGame 1464 (x110.1.2 2) r95 r102 r110) fun (h0123 : Nat → Int32) => bd1 (f_X8_expect ((sa x110.1 2 h0123), x110.2) 59) fun (x129 : MS) => itr1 f_X8_load_B132 FUEL x129

def f_X8_load_J23 (x : MS) (p0 : Int32) (s0_23 : Int32) : Option (Int32 × MS) :=
  bd2 (f_X8_fails ((ss x.1 0 0), x.2) s0_23 1) fun (r24 : Int32) (x24 : MS) => if r24 = 0 then (bd2 (f_X8_takeWord ((ss (ss (ss (ss (ss (ss (ss (ss x24.1 1 0) 2 p0) 3 0) 4 0) 5 (-1)) 9 0) 10 0) 11 0), x24.2) 0) fun (r75 : Int32) (x75 : MS) => if r75 = 0 then (bd1 (f_X8_report x75 (-2) (x75.1.1 3)) fun (x88 : MS) => f_X8_load_J91 x88) else (f_X8_load_J91 x75)) else (some (0, x24))

def f_X8_load (x : MS) (p0 : Int32) : Option (Int32 × MS) :=
  bd1 (f_X8_in p0 0 (x.1.1 1)) fun (r12 : Int32) => if r12 = 0 then (f_X8_load_J23 x p0 1) else (f_X8_load_J23 x p0 0)

abbrev rm_X8_load : Room := { frames := 98, cells := 0, slots := 0, locals := 3938 }
theorem hd_X8_load : yX8_load.cls = RX8 ∧ yX8_load.cls ≠ "java/lang/invoke/MethodHandle" ∧ yX8_load.cls ≠ "java/lang/invoke/VarHandle" ∧ (parseMethodDescriptor yX8_load.desc).map (fun d => d.parameters.length) = some 1 := by decide +kernel
set_option maxHeartbeats 4000000 in
set_option maxRecDepth 100000 in
theorem k_X8_load (l : Launch) (G : va_G) (K : (Nat → Nat) × (Nat → Nat)) (c : Nat → ClassId) (ax : Nat → Nat) (x : MS) (p0 : Int32) (r : Int32) (x_r : MS) (hm : f_X8_load x p0 = some (r, x_r)) : zMi l yX8_load wsX8_load (rm_X8_load) G K (TY c) [.ref (ax 0), .int p0] (wM c ax x) (wM c ax x_r) r := by
  refine zMi.of (cc := cX8_load) (maxL := 5) (lv := [(0, .ref (ax 0)), (1, .int p0)]) (by decide) rfl (Nat.le_of_ble_eq_true rfl) rfl ?_
  intro p e s m args below meth c1 A Q H locs hx hb hml hown hts hK hN hZ hP hD hA hS hend ls hl
  have hown : s.vm.findClass RX8 = some m.cls := hown
  have hi_8 : ∀ w ∈ wsX80, w ∈ wsX8_load := (fun w h => List.mem_cons_of_mem _ (List.mem_append_right _ (h)))
  unfold f_X8_load at hm
  refine lv_aload_n hx hb dX8_load_0 rfl (lv_at hl 0 rfl) ?_
  refine lv_iconst (v := 0) hx hb dX8_load_1 (by decide) ?_
  refine va_put (D := G) (ci := 8) (v := .int 0) (C := RX8) (T := TX8) (N := 22) hx hb hts hi_8 tyX8 tyX8_ok nmX8 hown hK hP hD hS 0 rfl rfl 0 (by decide) (hts (.fieldLink RX8 53 "HubTrainsModel" "thrown" "I") (List.mem_of_getElem? (i := 1) rfl)) (fun _ h9 => h9) rfl (tyX8_ok 0 (by decide)) rfl rfl (Nat.le_of_ble_eq_true rfl) dX8_load_2 (fun H locs hP hD hS => ?_)
  have hP : va_P G vwCl (wM c ax ((ss x.1 0 0), x.2)) H := hP
  have hD : va_D A (wM c ax ((ss x.1 0 0), x.2)) := hD
  refine lv_aload_n hx hb dX8_load_5 rfl (lv_at hl 0 rfl) ?_
  refine lv_iload_n hx hb dX8_load_6 rfl (lv_at hl 1 rfl) ?_
  refine lv_iconst (v := 0) hx hb dX8_load_7 (by decide) ?_
  refine lv_aload_n hx hb dX8_load_8 rfl (lv_at hl 0 rfl) ?_
  refine va_get (D := G) (ci := 8) (v := .int (x.1.1 1)) (C := RX8) (T := TX8) (N := 22) hx hb hts hi_8 hown hK hP 0 rfl rfl 2 (by decide) (hts (.fieldLink RX8 77 "HubTrainsModel" "bufferLength" "I") (List.mem_of_getElem? (i := 2) rfl)) (fun _ h9 => h9) rfl dX8_load_9 ?_
  obtain ⟨r12, e_12, hm⟩ := bd1_s hm
  refine zcSi (As := [.int p0, .int 0, .int (x.1.1 1)]) (rest := [.ref (ax 0)]) ⟨hx, hb, hml, hown, hts⟩ (k_X8_in l G K c p0 0 (x.1.1 1) r12 e_12) (va_cwS 3 hts gX8_load_X8_in rfl rfl rfl hd_X8_in.2 ⟨Nat.le_of_ble_eq_true rfl, Nat.le_of_ble_eq_true rfl⟩) hK hN hZ hP hD hS hA [] rfl (by decide) rfl rfl hl.1 rfl (Nat.le_of_ble_eq_true rfl) dX8_load_12 ⟨Nat.zero_le _, Nat.zero_le _⟩ (fun H locs hP hD hS => ?_)
  have hP : va_P G vwCl (wM c ax ((ss x.1 0 0), x.2)) H := hP
  have hD : va_D A (wM c ax ((ss x.1 0 0), x.2)) := hD
  have J_23 : ∀ (s0_23 : Int32) (H : Heap) (locs : List Loc) (ls : Array Slot), va_P G vwCl (wM c ax ((ss x.1 0 0), x.2)) H → va_D A (wM c ax ((ss x.1 0 0), x.2)) → va_S A s.heap H locs → lv_has ls 5 [(0, .ref (ax 0)), (1, .int p0)] → f_X8_load_J23 x p0 s0_23 = some (r, x_r) → W p l e (rm_X8_load) s m args below meth c1 H locs 0 0 Q (F0 m 23 ls [.int s0_23, .ref (ax 0)]) := by
    intro s0_23 H locs ls hP hD hS hl hm
    unfold f_X8_load_J23 at hm
    refine lv_iconst (v := 1) hx hb dX8_load_23 (by decide) ?_
    obtain ⟨r24, x24, e_24, hm⟩ := bd2_s hm
    refine zcWi (As := [.int s0_23, .int 1]) (rest := []) ⟨hx, hb, hml, hown, hts⟩ (k_X8_fails l G K c ax ((ss x.1 0 0), x.2) s0_23 1 r24 x24 e_24) (cwV 2 hts gX8_load_X8_fails rfl rfl rfl hd_X8_fails ⟨Nat.le_of_ble_eq_true rfl, Nat.le_of_ble_eq_true rfl⟩) hK hN hZ hP hD hS hA (va_recv hK hP (ci := 8) (q0 := 0) rfl rfl) rfl hl.1 rfl (Nat.le_of_ble_eq_true rfl) dX8_load_24 ⟨Nat.zero_le _, Nat.zero_le _⟩ (fun H locs hP hD hS => ?_)
    have hP : va_P G vwCl (wM c ax x24) H := hP
    have hD : va_D A (wM c ax x24) := hD
    refine lv_if_eq (tgt := 32) hx hb dX8_load_27 (by decide) (fun c_27 => ?_) (fun c_27 => ?_)
    · have hm := ifp c_27 hm
      refine lv_aload_n hx hb dX8_load_32 rfl (lv_at hl 0 rfl) ?_
      refine lv_iconst (v := 0) hx hb dX8_load_33 (by decide) ?_
      refine va_put (D := G) (ci := 8) (v := .int 0) (C := RX8) (T := TX8) (N := 22) hx hb hts hi_8 tyX8 tyX8_ok nmX8 hown hK hP hD hS 0 rfl rfl 2 (by decide) (hts (.fieldLink RX8 77 "HubTrainsModel" "bufferLength" "I") (List.mem_of_getElem? (i := 2) rfl)) (fun _ h9 => h9) rfl (tyX8_ok 2 (by decide)) rfl rfl (Nat.le_of_ble_eq_true rfl) dX8_load_34 (fun H locs hP hD hS => ?_)
      have hP : va_P G vwCl (wM c ax ((ss x24.1 1 0), x24.2)) H := hP
      have hD : va_D A (wM c ax ((ss x24.1 1 0), x24.2)) := hD
      refine lv_aload_n hx hb dX8_load_37 rfl (lv_at hl 0 rfl) ?_
      refine lv_iload_n hx hb dX8_load_38 rfl (lv_at hl 1 rfl) ?_
      refine va_put (D := G) (ci := 8) (v := .int p0) (C := RX8) (T := TX8) (N := 22) hx hb hts hi_8 tyX8 tyX8_ok nmX8 hown hK hP hD hS 0 rfl rfl 3 (by decide) (hts (.fieldLink RX8 80 "HubTrainsModel" "textLength" "I") (List.mem_of_getElem? (i := 3) rfl)) (fun _ h9 => h9) rfl (tyX8_ok 3 (by decide)) rfl rfl (Nat.le_of_ble_eq_true rfl) dX8_load_39 (fun H locs hP hD hS => ?_)
      have hP : va_P G vwCl (wM c ax ((ss (ss x24.1 1 0) 2 p0), x24.2)) H := hP
      have hD : va_D A (wM c ax ((ss (ss x24.1 1 0) 2 p0), x24.2)) := hD
      refine lv_aload_n hx hb dX8_load_42 rfl (lv_at hl 0 rfl) ?_
      refine lv_iconst (v := 0) hx hb dX8_load_43 (by decide) ?_
      refine va_put (D := G) (ci := 8) (v := .int 0) (C := RX8) (T := TX8) (N := 22) hx hb hts hi_8 tyX8 tyX8_ok nmX8 hown hK hP hD hS 0 rfl rfl 4 (by decide) (hts (.fieldLink RX8 83 "HubTrainsModel" "position" "I") (List.mem_of_getElem? (i := 4) rfl)) (fun _ h9 => h9) rfl (tyX8_ok 4 (by decide)) rfl rfl (Nat.le_of_ble_eq_true rfl) dX8_load_44 (fun H locs hP hD hS => ?_)
      have hP : va_P G vwCl (wM c ax ((ss (ss (ss x24.1 1 0) 2 p0) 3 0), x24.2)) H := hP
      have hD : va_D A (wM c ax ((ss (ss (ss x24.1 1 0) 2 p0) 3 0), x24.2)) := hD
      refine lv_aload_n hx hb dX8_load_47 rfl (lv_at hl 0 rfl) ?_
      refine lv_iconst (v := 0) hx hb dX8_load_48 (by decide) ?_
      refine va_put (D := G) (ci := 8) (v := .int 0) (C := RX8) (T := TX8) (N := 22) hx hb hts hi_8 tyX8 tyX8_ok nmX8 hown hK hP hD hS 0 rfl rfl 5 (by decide) (hts (.fieldLink RX8 89 "HubTrainsModel" "error" "I") (List.mem_of_getElem? (i := 5) rfl)) (fun _ h9 => h9) rfl (tyX8_ok 5 (by decide)) rfl rfl (Nat.le_of_ble_eq_true rfl) dX8_load_49 (fun H locs hP hD hS => ?_)
      have hP : va_P G vwCl (wM c ax ((ss (ss (ss (ss x24.1 1 0) 2 p0) 3 0) 4 0), x24.2)) H := hP
      have hD : va_D A (wM c ax ((ss (ss (ss (ss x24.1 1 0) 2 p0) 3 0) 4 0), x24.2)) := hD
      refine lv_aload_n hx hb dX8_load_52 rfl (lv_at hl 0 rfl) ?_
      refine lv_iconst (v := (-1)) hx hb dX8_load_53 (by decide) ?_
      refine va_put (D := G) (ci := 8) (v := .int (-1)) (C := RX8) (T := TX8) (N := 22) hx hb hts hi_8 tyX8 tyX8_ok nmX8 hown hK hP hD hS 0 rfl rfl 6 (by decide) (hts (.fieldLink RX8 92 "HubTrainsModel" "errorAt" "I") (List.mem_of_getElem? (i := 6) rfl)) (fun _ h9 => h9) rfl (tyX8_ok 6 (by decide)) rfl rfl (Nat.le_of_ble_eq_true rfl) dX8_load_54 (fun H locs hP hD hS => ?_)
      have hP : va_P G vwCl (wM c ax ((ss (ss (ss (ss (ss x24.1 1 0) 2 p0) 3 0) 4 0) 5 (-1)), x24.2)) H := hP
      have hD : va_D A (wM c ax ((ss (ss (ss (ss (ss x24.1 1 0) 2 p0) 3 0) 4 0) 5 (-1)), x24.2)) := hD
      refine lv_aload_n hx hb dX8_load_57 rfl (lv_at hl 0 rfl) ?_
      refine lv_iconst (v := 0) hx hb dX8_load_58 (by decide) ?_
      refine va_put (D := G) (ci := 8) (v := .int 0) (C := RX8) (T := TX8) (N := 22) hx hb hts hi_8 tyX8 tyX8_ok nmX8 hown hK hP hD hS 0 rfl rfl 14 (by decide) (hts (.fieldLink RX8 124 "HubTrainsModel" "nesting" "I") (List.mem_of_getElem? (i := 7) rfl)) (fun _ h9 => h9) rfl (tyX8_ok 14 (by decide)) rfl rfl (Nat.le_of_ble_eq_true rfl) dX8_load_59 (fun H locs hP hD hS => ?_)
      have hP : va_P G vwCl (wM c ax ((ss (ss (ss (ss (ss (ss x24.1 1 0) 2 p0) 3 0) 4 0) 5 (-1)) 9 0), x24.2)) H := hP
      have hD : va_D A (wM c ax ((ss (ss (ss (ss (ss (ss x24.1 1 0) 2 p0) 3 0) 4 0) 5 (-1)) 9 0), x24.2)) := hD
      refine lv_aload_n hx hb dX8_load_62 rfl (lv_at hl 0 rfl) ?_
      refine lv_iconst (v := 0) hx hb dX8_load_63 (by decide) ?_
      refine va_put (D := G) (ci := 8) (v := .int 0) (C := RX8) (T := TX8) (N := 22) hx hb hts hi_8 tyX8 tyX8_ok nmX8 hown hK hP hD hS 0 rfl rfl 15 (by decide) (hts (.fieldLink RX8 160 "HubTrainsModel" "seen" "I") (List.mem_of_getElem? (i := 8) rfl)) (fun _ h9 => h9) rfl (tyX8_ok 15 (by decide)) rfl rfl (Nat.le_of_ble_eq_true rfl) dX8_load_64 (fun H locs hP hD hS => ?_)
      have hP : va_P G vwCl (wM c ax ((ss (ss (ss (ss (ss (ss (ss x24.1 1 0) 2 p0) 3 0) 4 0) 5 (-1)) 9 0) 10 0), x24.2)) H := hP
      have hD : va_D A (wM c ax ((ss (ss (ss (ss (ss (ss (ss x24.1 1 0) 2 p0) 3 0) 4 0) 5 (-1)) 9 0) 10 0), x24.2)) := hD
      refine lv_aload_n hx hb dX8_load_67 rfl (lv_at hl 0 rfl) ?_
      refine lv_iconst (v := 0) hx hb dX8_load_68 (by decide) ?_
      refine va_put (D := G) (ci := 8) (v := .int 0) (C := RX8) (T := TX8) (N := 22) hx hb hts hi_8 tyX8 tyX8_ok nmX8 hown hK hP hD hS 0 rfl rfl 16 (by decide) (hts (.fieldLink RX8 166 "HubTrainsModel" "isGiven" "Z") (List.mem_of_getElem? (i := 9) rfl)) (fun _ h9 => h9) rfl (tyX8_ok 16 (by decide)) (by decide) (by decide) (Nat.le_of_ble_eq_true rfl) dX8_load_69 (fun H locs hP hD hS => ?_)
      have hP : va_P G vwCl (wM c ax ((ss (ss (ss (ss (ss (ss (ss (ss x24.1 1 0) 2 p0) 3 0) 4 0) 5 (-1)) 9 0) 10 0) 11 0), x24.2)) H := hP
      have hD : va_D A (wM c ax ((ss (ss (ss (ss (ss (ss (ss (ss x24.1 1 0) 2 p0) 3 0) 4 0) 5 (-1)) 9 0) 10 0) 11 0), x24.2)) := hD
      refine lv_aload_n hx hb dX8_load_72 rfl (lv_at hl 0 rfl) ?_
      refine va_ldcS hx hb hown (nws_HubTrainsModel_191 hN.2.2) dX8_load_73 ?_
      obtain ⟨r75, x75, e_75, hm⟩ := bd2_s hm
      refine zcWi (As := [.ref (K.1 0)]) (rest := []) ⟨hx, hb, hml, hown, hts⟩ (k_X8_takeWord l G K c ax ((ss (ss (ss (ss (ss (ss (ss (ss x24.1 1 0) 2 p0) 3 0) 4 0) 5 (-1)) 9 0) 10 0) 11 0), x24.2) 0 r75 x75 e_75) (cwV 1 hts gX8_load_X8_takeWord rfl rfl rfl hd_X8_takeWord ⟨Nat.le_of_ble_eq_true rfl, Nat.le_of_ble_eq_true rfl⟩) hK hN hZ hP hD hS hA (va_recv hK hP (ci := 8) (q0 := 0) rfl rfl) rfl hl.1 rfl (Nat.le_of_ble_eq_true rfl) dX8_load_75 ⟨Nat.zero_le _, Nat.zero_le _⟩ (fun H locs hP hD hS => ?_)
      have hP : va_P G vwCl (wM c ax x75) H := hP
      have hD : va_D A (wM c ax x75) := hD
      have J_91 : ∀ (x_91 : MS) (H : Heap) (locs : List Loc) (ls : Array Slot), va_P G vwCl (wM c ax x_91) H → va_D A (wM c ax x_91) → va_S A s.heap H locs → lv_has ls 5 [(0, .ref (ax 0))] → f_X8_load_J91 x_91 = some (r, x_r) → W p l e (rm_X8_load) s m args below meth c1 H locs 0 0 Q (F0 m 91 ls []) := by
        intro x_91 H locs ls hP hD hS hl hm
        unfold f_X8_load_J91 at hm
        refine lv_aload_n hx hb dX8_load_91 rfl (lv_at hl 0 rfl) ?_
        refine lv_iconst (v := 3) hx hb dX8_load_92 (by decide) ?_
        refine lv_bipush (v := 9) hx hb dX8_load_93 (by decide) ?_
        obtain ⟨r95, x95, e_95, hm⟩ := bd2_s hm
        refine zcWi (As := [.int 3, .int 9]) (rest := []) ⟨hx, hb, hml, hown, hts⟩ (k_X8_number l G K c ax x_91 3 9 r95 x95 e_95) (cwV 2 hts gX8_load_X8_number rfl rfl rfl hd_X8_number ⟨Nat.le_of_ble_eq_true rfl, Nat.le_of_ble_eq_true rfl⟩) hK hN hZ hP hD hS hA (va_recv hK hP (ci := 8) (q0 := 0) rfl rfl) rfl hl.1 rfl (Nat.le_of_ble_eq_true rfl) dX8_load_95 ⟨Nat.zero_le _, Nat.zero_le _⟩ (fun H locs hP hD hS => ?_)
        have hP : va_P G vwCl (wM c ax x95) H := hP
        have hD : va_D A (wM c ax x95) := hD
        refine lv_istore_n (lv' := [(2, .int r95), (0, .ref (ax 0))]) hx hb dX8_load_98 rfl hl (by decide) rfl (fun ls hl => ?_)
        refine lv_aload_n hx hb dX8_load_99 rfl (lv_at hl 1 rfl) ?_
        refine lv_iconst (v := 2) hx hb dX8_load_100 (by decide) ?_
        refine lv_iconst (v := 4) hx hb dX8_load_101 (by decide) ?_
        obtain ⟨r102, x102, e_102, hm⟩ := bd2_s hm
        refine zcWi (As := [.int 2, .int 4]) (rest := []) ⟨hx, hb, hml, hown, hts⟩ (k_X8_number l G K c ax x95 2 4 r102 x102 e_102) (cwV 2 hts gX8_load_X8_number rfl rfl rfl hd_X8_number ⟨Nat.le_of_ble_eq_true rfl, Nat.le_of_ble_eq_true rfl⟩) hK hN hZ hP hD hS hA (va_recv hK hP (ci := 8) (q0 := 0) rfl rfl) rfl hl.1 rfl (Nat.le_of_ble_eq_true rfl) dX8_load_102 ⟨Nat.zero_le _, Nat.zero_le _⟩ (fun H locs hP hD hS => ?_)
        have hP : va_P G vwCl (wM c ax x102) H := hP
        have hD : va_D A (wM c ax x102) := hD
        refine lv_istore_n (lv' := [(3, .int r102), (2, .int r95), (0, .ref (ax 0))]) hx hb dX8_load_105 rfl hl (by decide) rfl (fun ls hl => ?_)
        refine lv_aload_n hx hb dX8_load_106 rfl (lv_at hl 2 rfl) ?_
        refine lv_iconst (v := 1) hx hb dX8_load_107 (by decide) ?_
        refine lv_bipush (v := 12) hx hb dX8_load_108 (by decide) ?_
        obtain ⟨r110, x110, e_110, hm⟩ := bd2_s hm
        refine zcWi (As := [.int 1, .int 12]) (rest := []) ⟨hx, hb, hml, hown, hts⟩ (k_X8_number l G K c ax x102 1 12 r110 x110 e_110) (cwV 2 hts gX8_load_X8_number rfl rfl rfl hd_X8_number ⟨Nat.le_of_ble_eq_true rfl, Nat.le_of_ble_eq_true rfl⟩) hK hN hZ hP hD hS hA (va_recv hK hP (ci := 8) (q0 := 0) rfl rfl) rfl hl.1 rfl (Nat.le_of_ble_eq_true rfl) dX8_load_110 ⟨Nat.zero_le _, Nat.zero_le _⟩ (fun H locs hP hD hS => ?_)
        have hP : va_P G vwCl (wM c ax x110) H := hP
        have hD : va_D A (wM c ax x110) := hD
        refine lv_istore (lv' := [(4, .int r110), (3, .int r102), (2, .int r95), (0, .ref (ax 0))]) hx hb dX8_load_113 hl (by decide) rfl (fun ls hl => ?_)
        refine lv_aload_n hx hb dX8_load_115 rfl (lv_at hl 3 rfl) ?_
        refine va_get (D := G) (ci := 8) (v := .ref (ax 3)) (C := RX8) (T := TX8) (N := 22) hx hb hts hi_8 hown hK hP 0 rfl rfl 9 (by decide) (hts (.fieldLink RX8 20 "HubTrainsModel" "draft" "[I") (List.mem_of_getElem? (i := 10) rfl)) (fun _ h9 => h9) rfl dX8_load_116 ?_
        refine lv_iload_n hx hb dX8_load_119 rfl (lv_at hl 2 rfl) ?_
        refine lv_iload_n hx hb dX8_load_120 rfl (lv_at hl 1 rfl) ?_
        refine lv_iload hx hb dX8_load_121 (lv_at hl 0 rfl) ?_
        obtain ⟨h0123, e_123, hm⟩ := bd1_s hm
        refine zcSv (As := [.ref (ax 3), .int r95, .int r102, .int r110]) (rest := []) ⟨hx, hb, hml, hown, hts⟩ (k_X8_layGame l G K c (ax 3) 1464 (x110.1.2 2) r95 r102 r110 h0123 e_123) (va_cwS 4 hts gX8_load_X8_layGame rfl rfl rfl hd_X8_layGame.2 ⟨Nat.le_of_ble_eq_true rfl, Nat.le_of_ble_eq_true rfl⟩) hK hN hZ hP hD hS hA [3] rfl (by decide) rfl rfl hl.1 rfl (Nat.le_of_ble_eq_true rfl) dX8_load_123 ⟨Nat.zero_le _, Nat.zero_le _⟩ (fun H locs hP hD hS => ?_)
        have hP : va_P G vwCl (wM c ax ((sa x110.1 2 h0123), x110.2)) H := hP
        have hD : va_D A (wM c ax ((sa x110.1 2 h0123), x110.2)) := hD
        refine lv_aload_n hx hb dX8_load_126 rfl (lv_at hl 3 rfl) ?_
        refine lv_bipush (v := 59) hx hb dX8_load_127 (by decide) ?_
        obtain ⟨x129, e_129, hm⟩ := bd1_s hm
        refine zcWv (As := [.int 59]) (rest := []) ⟨hx, hb, hml, hown, hts⟩ (k_X8_expect l G K c ax ((sa x110.1 2 h0123), x110.2) 59 x129 e_129) (cwV 1 hts gX8_load_X8_expect rfl rfl rfl hd_X8_expect ⟨Nat.le_of_ble_eq_true rfl, Nat.le_of_ble_eq_true rfl⟩) hK hN hZ hP hD hS hA (va_recv hK hP (ci := 8) (q0 := 0) rfl rfl) rfl hl.1 rfl (Nat.le_of_ble_eq_true rfl) dX8_load_129 ⟨Nat.zero_le _, Nat.zero_le _⟩ (fun H locs hP hD hS => ?_)
        have hP : va_P G vwCl (wM c ax x129) H := hP
        have hD : va_D A (wM c ax x129) := hD
        have L_132 : ∀ (n_132 : Nat) (x_132 : MS) (H : Heap) (locs : List Loc) (ls : Array Slot), va_P G vwCl (wM c ax x_132) H → va_D A (wM c ax x_132) → va_S A s.heap H locs → lv_has ls 5 [(0, .ref (ax 0))] → itr1 f_X8_load_B132 n_132 x_132 = some (r, x_r) → W p l e (rm_X8_load) s m args below meth c1 H locs 0 0 Q (F0 m 132 ls []) := by
          intro n_132
          induction n_132 with
          | zero => intro x_132 H locs ls hP hD hS hl hm; exact (itr1_0 hm).elim
          | succ n_132 ih_132 =>
            intro x_132 H locs ls hP hD hS hl hm
            have hm := itr1_s hm
            unfold f_X8_load_B132 at hm
            refine lv_aload_n hx hb dX8_load_132 rfl (lv_at hl 0 rfl) ?_
            obtain ⟨r133, e_133, hm⟩ := bd1_s hm
            refine zcWi (As := []) (rest := []) ⟨hx, hb, hml, hown, hts⟩ (k_X8_isGood l G K c ax x_132 r133 e_133) (cwV 0 hts gX8_load_X8_isGood rfl rfl rfl hd_X8_isGood ⟨Nat.le_of_ble_eq_true rfl, Nat.le_of_ble_eq_true rfl⟩) hK hN hZ hP hD hS hA (va_recv hK hP (ci := 8) (q0 := 0) rfl rfl) rfl hl.1 rfl (Nat.le_of_ble_eq_true rfl) dX8_load_133 ⟨Nat.zero_le _, Nat.zero_le _⟩ (fun H locs hP hD hS => ?_)
            have hP : va_P G vwCl (wM c ax x_132) H := hP
            have hD : va_D A (wM c ax x_132) := hD
            have J_154 : ∀ (x_154 : MS) (H : Heap) (locs : List Loc) (ls : Array Slot), va_P G vwCl (wM c ax x_154) H → va_D A (wM c ax x_154) → va_S A s.heap H locs → lv_has ls 5 [(0, .ref (ax 0))] → f_X8_load_J154 x_154 = some (r, x_r) → W p l e (rm_X8_load) s m args below meth c1 H locs 0 0 Q (F0 m 154 ls []) := by
              intro x_154 H locs ls hP hD hS hl hm
              unfold f_X8_load_J154 at hm
              refine lv_aload_n hx hb dX8_load_154 rfl (lv_at hl 0 rfl) ?_
              refine lv_aload_n hx hb dX8_load_155 rfl (lv_at hl 0 rfl) ?_
              refine va_get (D := G) (ci := 8) (v := .int (x_154.1.1 5)) (C := RX8) (T := TX8) (N := 22) hx hb hts hi_8 hown hK hP 0 rfl rfl 6 (by decide) (hts (.fieldLink RX8 92 "HubTrainsModel" "errorAt" "I") (List.mem_of_getElem? (i := 6) rfl)) (fun _ h9 => h9) rfl dX8_load_156 ?_
              refine va_put (D := G) (ci := 8) (v := .int (x_154.1.1 5)) (C := RX8) (T := TX8) (N := 22) hx hb hts hi_8 tyX8 tyX8_ok nmX8 hown hK hP hD hS 0 rfl rfl 7 (by decide) (hts (.fieldLink RX8 13 "HubTrainsModel" "errorOffset" "I") (List.mem_of_getElem? (i := 11) rfl)) (fun _ h9 => h9) rfl (tyX8_ok 7 (by decide)) rfl rfl (Nat.le_of_ble_eq_true rfl) dX8_load_159 (fun H locs hP hD hS => ?_)
              have hP : va_P G vwCl (wM c ax ((ss x_154.1 6 (x_154.1.1 5)), x_154.2)) H := hP
              have hD : va_D A (wM c ax ((ss x_154.1 6 (x_154.1.1 5)), x_154.2)) := hD
              refine lv_aload_n hx hb dX8_load_162 rfl (lv_at hl 0 rfl) ?_
              obtain ⟨r163, e_163, hm⟩ := bd1_s hm
              refine zcWi (As := []) (rest := []) ⟨hx, hb, hml, hown, hts⟩ (k_X8_isGood l G K c ax ((ss x_154.1 6 (x_154.1.1 5)), x_154.2) r163 e_163) (cwV 0 hts gX8_load_X8_isGood rfl rfl rfl hd_X8_isGood ⟨Nat.le_of_ble_eq_true rfl, Nat.le_of_ble_eq_true rfl⟩) hK hN hZ hP hD hS hA (va_recv hK hP (ci := 8) (q0 := 0) rfl rfl) rfl hl.1 rfl (Nat.le_of_ble_eq_true rfl) dX8_load_163 ⟨Nat.zero_le _, Nat.zero_le _⟩ (fun H locs hP hD hS => ?_)
              have hP : va_P G vwCl (wM c ax ((ss x_154.1 6 (x_154.1.1 5)), x_154.2)) H := hP
              have hD : va_D A (wM c ax ((ss x_154.1 6 (x_154.1.1 5)), x_154.2)) := hD
              refine lv_if_ne (tgt := 174) hx hb dX8_load_166 (by decide) (fun c_166 => ?_) (fun c_166 => ?_)
              · have hm := ifn c_166 hm
                refine lv_aload_n hx hb dX8_load_174 rfl (lv_at hl 0 rfl) ?_
                refine va_get (D := G) (ci := 8) (v := .ref (ax 3)) (C := RX8) (T := TX8) (N := 22) hx hb hts hi_8 hown hK hP 0 rfl rfl 9 (by decide) (hts (.fieldLink RX8 20 "HubTrainsModel" "draft" "[I") (List.mem_of_getElem? (i := 10) rfl)) (fun _ h9 => h9) rfl dX8_load_175 ?_
                obtain ⟨h0178, e_178, hm⟩ := bd1_s hm
                refine zcSv (As := [.ref (ax 3)]) (rest := []) ⟨hx, hb, hml, hown, hts⟩ (k_X8_deal l G K c (ax 3) 1464 (x_154.1.2 2) h0178 e_178) (va_cwS 1 hts gX8_load_X8_deal rfl rfl rfl hd_X8_deal.2 ⟨Nat.le_of_ble_eq_true rfl, Nat.le_of_ble_eq_true rfl⟩) hK hN hZ hP hD hS hA [3] rfl (by decide) rfl rfl hl.1 rfl (Nat.le_of_ble_eq_true rfl) dX8_load_178 ⟨Nat.zero_le _, Nat.zero_le _⟩ (fun H locs hP hD hS => ?_)
                have hP : va_P G vwCl (wM c ax ((sa (ss x_154.1 6 (x_154.1.1 5)) 2 h0178), x_154.2)) H := hP
                have hD : va_D A (wM c ax ((sa (ss x_154.1 6 (x_154.1.1 5)) 2 h0178), x_154.2)) := hD
                refine lv_aload_n hx hb dX8_load_181 rfl (lv_at hl 0 rfl) ?_
                obtain ⟨x182, e_182, hm⟩ := bd1_s hm
                refine zcWv (As := []) (rest := []) ⟨hx, hb, hml, hown, hts⟩ (k_X8_remember l G K c ax ((sa (ss x_154.1 6 (x_154.1.1 5)) 2 h0178), x_154.2) x182 e_182) (cwV 0 hts gX8_load_X8_remember rfl rfl rfl hd_X8_remember ⟨Nat.le_of_ble_eq_true rfl, Nat.le_of_ble_eq_true rfl⟩) hK hN hZ hP hD hS hA (va_recv hK hP (ci := 8) (q0 := 0) rfl rfl) rfl hl.1 rfl (Nat.le_of_ble_eq_true rfl) dX8_load_182 ⟨Nat.zero_le _, Nat.zero_le _⟩ (fun H locs hP hD hS => ?_)
                have hP : va_P G vwCl (wM c ax x182) H := hP
                have hD : va_D A (wM c ax x182) := hD
                refine lv_aload_n hx hb dX8_load_185 rfl (lv_at hl 0 rfl) ?_
                refine va_get (D := G) (ci := 8) (v := .ref (ax 3)) (C := RX8) (T := TX8) (N := 22) hx hb hts hi_8 hown hK hP 0 rfl rfl 9 (by decide) (hts (.fieldLink RX8 20 "HubTrainsModel" "draft" "[I") (List.mem_of_getElem? (i := 10) rfl)) (fun _ h9 => h9) rfl dX8_load_186 ?_
                refine lv_aload_n hx hb dX8_load_189 rfl (lv_at hl 0 rfl) ?_
                refine va_get (D := G) (ci := 8) (v := .ref (ax 2)) (C := RX8) (T := TX8) (N := 22) hx hb hts hi_8 hown hK hP 0 rfl rfl 8 (by decide) (hts (.fieldLink RX8 17 "HubTrainsModel" "data" "[I") (List.mem_of_getElem? (i := 12) rfl)) (fun _ h9 => h9) rfl dX8_load_190 ?_
                refine lv_sipush (v := 1464) hx hb dX8_load_193 (by decide) ?_
                obtain ⟨h1196, e_196, hm⟩ := bd1_s hm
                refine zcSv (As := [.ref (ax 3), .ref (ax 2), .int 1464]) (rest := []) ⟨hx, hb, hml, hown, hts⟩ (k_X8_copy l G K c (ax 3) (ax 2) 1464 1464 (x182.1.2 2) (x182.1.2 1) 1464 h1196 e_196) (va_cwS 3 hts gX8_load_X8_copy rfl rfl rfl hd_X8_copy.2 ⟨Nat.le_of_ble_eq_true rfl, Nat.le_of_ble_eq_true rfl⟩) hK hN hZ hP hD hS hA [3, 2] rfl (by decide) rfl rfl hl.1 rfl (Nat.le_of_ble_eq_true rfl) dX8_load_196 ⟨Nat.zero_le _, Nat.zero_le _⟩ (fun H locs hP hD hS => ?_)
                have hP : va_P G vwCl (wM c ax ((sa x182.1 1 h1196), x182.2)) H := hP
                have hD : va_D A (wM c ax ((sa x182.1 1 h1196), x182.2)) := hD
                refine lv_aload_n hx hb dX8_load_199 rfl (lv_at hl 0 rfl) ?_
                refine va_get (D := G) (ci := 8) (v := .ref (ax 2)) (C := RX8) (T := TX8) (N := 22) hx hb hts hi_8 hown hK hP 0 rfl rfl 8 (by decide) (hts (.fieldLink RX8 17 "HubTrainsModel" "data" "[I") (List.mem_of_getElem? (i := 12) rfl)) (fun _ h9 => h9) rfl dX8_load_200 ?_
                refine lv_bipush (v := 7) hx hb dX8_load_203 (by decide) ?_
                obtain ⟨h_205, hm⟩ := gd_s hm
                refine va_iald (D := G) hx hb hK hP 2 0 rfl rfl (inb_s h_205) dX8_load_205 ?_
                exact hend H locs ls _ _ _ rfl (Prod.mk.inj (Option.some.inj hm)).1 (zc1 (fun (z0 : MS) => (wM c ax z0 : va_W)) (Prod.mk.inj (Option.some.inj hm)).2) hP hD hS dX8_load_206
              · have hm := ifp c_166 hm
                refine lv_aload_n hx hb dX8_load_169 rfl (lv_at hl 0 rfl) ?_
                refine va_get (D := G) (ci := 8) (v := .int (x_154.1.1 4)) (C := RX8) (T := TX8) (N := 22) hx hb hts hi_8 hown hK hP 0 rfl rfl 5 (by decide) (hts (.fieldLink RX8 89 "HubTrainsModel" "error" "I") (List.mem_of_getElem? (i := 5) rfl)) (fun _ h9 => h9) rfl dX8_load_170 ?_
                exact hend H locs ls _ _ _ rfl (Prod.mk.inj (Option.some.inj hm)).1 (zc1 (fun (z0 : MS) => (wM c ax z0 : va_W)) (Prod.mk.inj (Option.some.inj hm)).2) hP hD hS dX8_load_173
            refine lv_if_eq (tgt := 154) hx hb dX8_load_136 (by decide) (fun c_136 => ?_) (fun c_136 => ?_)
            · have hm := ifp c_136 hm
              exact J_154 x_132 H locs ls hP hD hS (lv_sub hl [0] rfl) hm
            · have hm := ifn c_136 hm
              refine lv_aload_n hx hb dX8_load_139 rfl (lv_at hl 0 rfl) ?_
              obtain ⟨r140, x140, e_140, hm⟩ := bd2_s hm
              refine zcWi (As := []) (rest := []) ⟨hx, hb, hml, hown, hts⟩ (k_X8_ahead l G K c ax x_132 r140 x140 e_140) (cwV 0 hts gX8_load_X8_ahead rfl rfl rfl hd_X8_ahead ⟨Nat.le_of_ble_eq_true rfl, Nat.le_of_ble_eq_true rfl⟩) hK hN hZ hP hD hS hA (va_recv hK hP (ci := 8) (q0 := 0) rfl rfl) rfl hl.1 rfl (Nat.le_of_ble_eq_true rfl) dX8_load_140 ⟨Nat.zero_le _, Nat.zero_le _⟩ (fun H locs hP hD hS => ?_)
              have hP : va_P G vwCl (wM c ax x140) H := hP
              have hD : va_D A (wM c ax x140) := hD
              refine lv_iconst (v := (-1)) hx hb dX8_load_143 (by decide) ?_
              refine lv_icmp_eq (tgt := 154) hx hb dX8_load_144 (by decide) (fun c_144 => ?_) (fun c_144 => ?_)
              · have hm := ifp c_144 hm
                exact J_154 x140 H locs ls hP hD hS (lv_sub hl [0] rfl) hm
              · have hm := ifn c_144 hm
                refine lv_aload_n hx hb dX8_load_147 rfl (lv_at hl 0 rfl) ?_
                obtain ⟨x148, e_148, hm⟩ := bd1_s hm
                refine zcWv (As := []) (rest := []) ⟨hx, hb, hml, hown, hts⟩ (k_X8_statement l G K c ax x140 x148 e_148) (cwV 0 hts gX8_load_X8_statement rfl rfl rfl hd_X8_statement ⟨Nat.le_of_ble_eq_true rfl, Nat.le_of_ble_eq_true rfl⟩) hK hN hZ hP hD hS hA (va_recv hK hP (ci := 8) (q0 := 0) rfl rfl) rfl hl.1 rfl (Nat.le_of_ble_eq_true rfl) dX8_load_148 ⟨Nat.zero_le _, Nat.zero_le _⟩ (fun H locs hP hD hS => ?_)
                have hP : va_P G vwCl (wM c ax x148) H := hP
                have hD : va_D A (wM c ax x148) := hD
                refine lv_goto (tgt := 132) hx hb dX8_load_151 (by decide) ?_
                exact ih_132 x148 H locs ls hP hD hS (lv_sub hl [0] rfl) hm
        exact L_132 FUEL x129 H locs ls hP hD hS (lv_sub hl [3] rfl) hm
      refine lv_if_ne (tgt := 91) hx hb dX8_load_78 (by decide) (fun c_78 => ?_) (fun c_78 => ?_)
      · have hm := ifn c_78 hm
        exact J_91 x75 H locs ls hP hD hS (lv_sub hl [0] rfl) hm
      · have hm := ifp c_78 hm
        refine lv_aload_n hx hb dX8_load_81 rfl (lv_at hl 0 rfl) ?_
        refine lv_bipush (v := (-2)) hx hb dX8_load_82 (by decide) ?_
        refine lv_aload_n hx hb dX8_load_84 rfl (lv_at hl 0 rfl) ?_
        refine va_get (D := G) (ci := 8) (v := .int (x75.1.1 3)) (C := RX8) (T := TX8) (N := 22) hx hb hts hi_8 hown hK hP 0 rfl rfl 4 (by decide) (hts (.fieldLink RX8 83 "HubTrainsModel" "position" "I") (List.mem_of_getElem? (i := 4) rfl)) (fun _ h9 => h9) rfl dX8_load_85 ?_
        obtain ⟨x88, e_88, hm⟩ := bd1_s hm
        refine zcWv (As := [.int (-2), .int (x75.1.1 3)]) (rest := []) ⟨hx, hb, hml, hown, hts⟩ (k_X8_report l G K c ax x75 (-2) (x75.1.1 3) x88 e_88) (cwV 2 hts gX8_load_X8_report rfl rfl rfl hd_X8_report ⟨Nat.le_of_ble_eq_true rfl, Nat.le_of_ble_eq_true rfl⟩) hK hN hZ hP hD hS hA (va_recv hK hP (ci := 8) (q0 := 0) rfl rfl) rfl hl.1 rfl (Nat.le_of_ble_eq_true rfl) dX8_load_88 ⟨Nat.zero_le _, Nat.zero_le _⟩ (fun H locs hP hD hS => ?_)
        have hP : va_P G vwCl (wM c ax x88) H := hP
        have hD : va_D A (wM c ax x88) := hD
        exact J_91 x88 H locs ls hP hD hS (lv_sub hl [0] rfl) hm
    · have hm := ifn c_27 hm
      refine lv_iconst (v := 0) hx hb dX8_load_30 (by decide) ?_
      exact hend H locs ls _ _ _ rfl (Prod.mk.inj (Option.some.inj hm)).1 (zc1 (fun (z0 : MS) => (wM c ax z0 : va_W)) (Prod.mk.inj (Option.some.inj hm)).2) hP hD hS dX8_load_31
  refine lv_if_ne (tgt := 22) hx hb dX8_load_15 (by decide) (fun c_15 => ?_) (fun c_15 => ?_)
  · have hm := ifn c_15 hm
    refine lv_iconst (v := 0) hx hb dX8_load_22 (by decide) ?_
    exact J_23 0 H locs ls hP hD hS (lv_sub hl [0, 1] rfl) hm
  · have hm := ifp c_15 hm
    refine lv_iconst (v := 1) hx hb dX8_load_18 (by decide) ?_
    refine lv_goto (tgt := 23) hx hb dX8_load_19 (by decide) ?_
    exact J_23 1 H locs ls hP hD hS (lv_sub hl [0, 1] rfl) hm
