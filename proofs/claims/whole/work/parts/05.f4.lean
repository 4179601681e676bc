
def f_X8_limited (p0 : Int64) : Option Int64 :=
  if (lg_cmp p0 1000000) ≤ 0 then (if (0 : Int32) ≤ (lg_cmp p0 (-1000000)) then (some (p0)) else (some ((-1000000)))) else (some (1000000))

abbrev rm_X8_limited : Room := { frames := 0, cells := 0, slots := 0, locals := 0 }
theorem hd_X8_limited : yX8_limited.cls = RX8 ∧ yX8_limited.cls ≠ "java/lang/invoke/MethodHandle" ∧ yX8_limited.cls ≠ "java/lang/invoke/VarHandle" ∧ (parseMethodDescriptor yX8_limited.desc).map (fun d => d.parameters.length) = some 1 := by decide +kernel
set_option maxHeartbeats 4000000 in
set_option maxRecDepth 100000 in
theorem k_X8_limited (l : Launch) (G : va_G) (K : (Nat → Nat) × (Nat → Nat)) (c : Nat → ClassId) (p0 : Int64) (r : Int64) (hm : f_X8_limited p0 = some (r)) : zMl l yX8_limited wsX8_limited (rm_X8_limited) G K (TY c) [.long p0] ([]) ([]) r := by
  refine zMl.of (cc := cX8_limited) (maxL := 2) (lv := [(0, .long p0)]) (by decide) rfl (Nat.le_of_ble_eq_true rfl) rfl ?_
  intro p e s m args below meth c1 A Q H locs hx hb hml hown hts hK hN hZ hP hD hA hS hend ls hl
  have hown : s.vm.findClass RX8 = some m.cls := hown
  unfold f_X8_limited at hm
  refine lv_lload_n hx hb dX8_limited_0 rfl (lv_at hl 0 rfl) ?_
  refine lv_ldc2 (v := 1000000) hx hb hown (hts (.constantLong RX8 219 (1000000)) (List.mem_of_getElem? (i := 1) rfl)) dX8_limited_1 ?_
  refine W.lcmp hx hb dX8_limited_4 ?_
  refine lv_if_le (tgt := 14) hx hb dX8_limited_5 (by decide) (fun c_5 => ?_) (fun c_5 => ?_)
  · have hm := ifp c_5 hm
    refine lv_lload_n hx hb dX8_limited_14 rfl (lv_at hl 0 rfl) ?_
    refine lv_ldc2 (v := (-1000000)) hx hb hown (hts (.constantLong RX8 221 (-1000000)) (List.mem_of_getElem? (i := 2) rfl)) dX8_limited_15 ?_
    refine W.lcmp hx hb dX8_limited_18 ?_
    refine lv_if_ge (tgt := 28) hx hb dX8_limited_19 (by decide) (fun c_19 => ?_) (fun c_19 => ?_)
    · have hm := ifp c_19 hm
      refine lv_lload_n hx hb dX8_limited_28 rfl (lv_at hl 0 rfl) ?_
      exact hend H locs ls _ _ _ (Option.some.inj hm) rfl hP hD hS dX8_limited_29
    · have hm := ifn c_19 hm
      refine lv_ldc2 (v := (-1000000)) hx hb hown (hts (.constantLong RX8 221 (-1000000)) (List.mem_of_getElem? (i := 2) rfl)) dX8_limited_22 ?_
      refine lv_goto (tgt := 29) hx hb dX8_limited_25 (by decide) ?_
      exact hend H locs ls _ _ _ (Option.some.inj hm) rfl hP hD hS dX8_limited_29
  · have hm := ifn c_5 hm
    refine lv_ldc2 (v := 1000000) hx hb hown (hts (.constantLong RX8 219 (1000000)) (List.mem_of_getElem? (i := 1) rfl)) dX8_limited_8 ?_
    refine lv_goto (tgt := 29) hx hb dX8_limited_11 (by decide) ?_
    exact hend H locs ls _ _ _ (Option.some.inj hm) rfl hP hD hS dX8_limited_29

def f_X8_operate_J47 (s0_47 : Int64) : Option Int64 :=
  bd1 (f_X8_limited s0_47) fun (r47 : Int64) => some (r47)

def f_X8_operate (p0 : Int32) (p1 : Int64) (p2 : Int64) : Option Int64 :=
  if p0 = 5 then (if (lg_cmp p2 0) = 0 then (some (0)) else (gd (nzl p2) <| bd1 (f_X8_limited (p1 / p2)) fun (r18 : Int64) => some (r18))) else (if p0 = 2 then (f_X8_operate_J47 (p1 + p2)) else (if p0 = 3 then (f_X8_operate_J47 (p1 - p2)) else (f_X8_operate_J47 (p1 * p2))))

abbrev rm_X8_operate : Room := { frames := 1, cells := 0, slots := 0, locals := 21 }
theorem hd_X8_operate : yX8_operate.cls = RX8 ∧ yX8_operate.cls ≠ "java/lang/invoke/MethodHandle" ∧ yX8_operate.cls ≠ "java/lang/invoke/VarHandle" ∧ (parseMethodDescriptor yX8_operate.desc).map (fun d => d.parameters.length) = some 3 := by decide +kernel
set_option maxHeartbeats 4000000 in
set_option maxRecDepth 100000 in
theorem k_X8_operate (l : Launch) (G : va_G) (K : (Nat → Nat) × (Nat → Nat)) (c : Nat → ClassId) (p0 : Int32) (p1 : Int64) (p2 : Int64) (r : Int64) (hm : f_X8_operate p0 p1 p2 = some (r)) : zMl l yX8_operate wsX8_operate (rm_X8_operate) G K (TY c) [.int p0, .long p1, .long p2] ([]) ([]) r := by
  refine zMl.of (cc := cX8_operate) (maxL := 5) (lv := [(0, .int p0), (1, .long p1), (3, .long p2)]) (by decide) rfl (Nat.le_of_ble_eq_true rfl) rfl ?_
  intro p e s m args below meth c1 A Q H locs hx hb hml hown hts hK hN hZ hP hD hA hS hend ls hl
  have hown : s.vm.findClass RX8 = some m.cls := hown
  unfold f_X8_operate at hm
  refine lv_iload_n hx hb dX8_operate_0 rfl (lv_at hl 0 rfl) ?_
  refine lv_iconst (v := 5) hx hb dX8_operate_1 (by decide) ?_
  refine lv_icmp_ne (tgt := 22) hx hb dX8_operate_2 (by decide) (fun c_2 => ?_) (fun c_2 => ?_)
  · have hm := ifn c_2 hm
    refine lv_iload_n hx hb dX8_operate_22 rfl (lv_at hl 0 rfl) ?_
    refine lv_iconst (v := 2) hx hb dX8_operate_23 (by decide) ?_
    have J_47 : ∀ (s0_47 : Int64) (H : Heap) (locs : List Loc) (ls : Array Slot), va_P G vwCl ([]) H → va_D A ([]) → va_S A s.heap H locs → lv_has ls 5 [] → f_X8_operate_J47 s0_47 = some (r) → W p l e (rm_X8_operate) s m args below meth c1 H locs 0 0 Q (F0 m 47 ls [.long s0_47]) := by
      intro s0_47 H locs ls hP hD hS hl hm
      unfold f_X8_operate_J47 at hm
      obtain ⟨r47, e_47, hm⟩ := bd1_s hm
      refine zcSl (As := [.long s0_47]) (rest := []) ⟨hx, hb, hml, hown, hts⟩ (k_X8_limited l G K c s0_47 r47 e_47) (va_cwS 1 hts gX8_operate_X8_limited rfl rfl rfl hd_X8_limited.2 ⟨Nat.le_of_ble_eq_true rfl, Nat.le_of_ble_eq_true rfl⟩) hK hN hZ hP hD hS hA [] rfl (by decide) rfl rfl hl.1 rfl (Nat.le_of_ble_eq_true rfl) dX8_operate_47 ⟨Nat.zero_le _, Nat.zero_le _⟩ (fun H locs hP hD hS => ?_)
      have hP : va_P G vwCl ([]) H := hP
      have hD : va_D A ([]) := hD
      exact hend H locs ls _ _ _ (Option.some.inj hm) rfl hP hD hS dX8_operate_50
    refine lv_icmp_ne (tgt := 33) hx hb dX8_operate_24 (by decide) (fun c_24 => ?_) (fun c_24 => ?_)
    · have hm := ifn c_24 hm
      refine lv_iload_n hx hb dX8_operate_33 rfl (lv_at hl 0 rfl) ?_
      refine lv_iconst (v := 3) hx hb dX8_operate_34 (by decide) ?_
      refine lv_icmp_ne (tgt := 44) hx hb dX8_operate_35 (by decide) (fun c_35 => ?_) (fun c_35 => ?_)
      · have hm := ifn c_35 hm
        refine lv_lload_n hx hb dX8_operate_44 rfl (lv_at hl 1 rfl) ?_
        refine lv_lload_n hx hb dX8_operate_45 rfl (lv_at hl 2 rfl) ?_
        refine lv_lmul hx hb dX8_operate_46 ?_
        exact J_47 (p1 * p2) H locs ls hP hD hS (lv_sub hl [] rfl) hm
      · have hm := ifp c_35 hm
        refine lv_lload_n hx hb dX8_operate_38 rfl (lv_at hl 1 rfl) ?_
        refine lv_lload_n hx hb dX8_operate_39 rfl (lv_at hl 2 rfl) ?_
        refine lv_lsub hx hb dX8_operate_40 ?_
        refine lv_goto (tgt := 47) hx hb dX8_operate_41 (by decide) ?_
        exact J_47 (p1 - p2) H locs ls hP hD hS (lv_sub hl [] rfl) hm
    · have hm := ifp c_24 hm
      refine lv_lload_n hx hb dX8_operate_27 rfl (lv_at hl 1 rfl) ?_
      refine lv_lload_n hx hb dX8_operate_28 rfl (lv_at hl 2 rfl) ?_
      refine lv_ladd hx hb dX8_operate_29 ?_
      refine lv_goto (tgt := 47) hx hb dX8_operate_30 (by decide) ?_
      exact J_47 (p1 + p2) H locs ls hP hD hS (lv_sub hl [] rfl) hm
  · have hm := ifp c_2 hm
    refine lv_lload_n hx hb dX8_operate_5 rfl (lv_at hl 2 rfl) ?_
    refine lv_lconst (v := 0) hx hb dX8_operate_6 (by decide) ?_
    refine W.lcmp hx hb dX8_operate_7 ?_
    refine lv_if_ne (tgt := 15) hx hb dX8_operate_8 (by decide) (fun c_8 => ?_) (fun c_8 => ?_)
    · have hm := ifn c_8 hm
      refine lv_lload_n hx hb dX8_operate_15 rfl (lv_at hl 1 rfl) ?_
      refine lv_lload_n hx hb dX8_operate_16 rfl (lv_at hl 2 rfl) ?_
      obtain ⟨h_17, hm⟩ := gd_s hm
      refine lv_ldiv hx hb dX8_operate_17 (nzl_s h_17) ?_
      obtain ⟨r18, e_18, hm⟩ := bd1_s hm
      refine zcSl (As := [.long (p1 / p2)]) (rest := []) ⟨hx, hb, hml, hown, hts⟩ (k_X8_limited l G K c (p1 / p2) r18 e_18) (va_cwS 1 hts gX8_operate_X8_limited rfl rfl rfl hd_X8_limited.2 ⟨Nat.le_of_ble_eq_true rfl, Nat.le_of_ble_eq_true rfl⟩) hK hN hZ hP hD hS hA [] rfl (by decide) rfl rfl hl.1 rfl (Nat.le_of_ble_eq_true rfl) dX8_operate_18 ⟨Nat.zero_le _, Nat.zero_le _⟩ (fun H locs hP hD hS => ?_)
      have hP : va_P G vwCl ([]) H := hP
      have hD : va_D A ([]) := hD
      exact hend H locs ls _ _ _ (Option.some.inj hm) rfl hP hD hS dX8_operate_21
    · have hm := ifp c_8 hm
      refine lv_lconst (v := 0) hx hb dX8_operate_11 (by decide) ?_
      refine lv_goto (tgt := 21) hx hb dX8_operate_12 (by decide) ?_
      exact hend H locs ls _ _ _ (Option.some.inj hm) rfl hP hD hS dX8_operate_21


def f_X8_fact (x : MS) (p0 : Int32) (p1 : Int32) (p2 : Int32) : Option Int32 :=
  if p0 = 0 then (bd1 (f_X8_pipsOf p1) fun (r33 : Int32) => some (r33)) else (if p0 = 1 then (bd1 (f_X8_isDouble p1) fun (r38 : Int32) => if r38 = 0 then (some (0)) else (some (1))) else (if p0 = 2 then (gd (inb 4 1464) <| if p2 = ((x.1.2 1) (4 : Int32).toNatClampNeg) then (some (1)) else (some (0))) else (if p0 = 3 then (gd (inb 1 1464) <| if p2 = ((x.1.2 1) (1 : Int32).toNatClampNeg) then (some (1)) else (some (0))) else (gd (inb 4 1464) <| bd1 (f_X8_hand x ((x.1.2 1) (4 : Int32).toNatClampNeg)) fun (r89 : Int32) => some ((r89 - 1))))))

abbrev rm_X8_fact : Room := { frames := 2, cells := 0, slots := 0, locals := 44 }
theorem hd_X8_fact : yX8_fact.cls = RX8 ∧ yX8_fact.cls ≠ "java/lang/invoke/MethodHandle" ∧ yX8_fact.cls ≠ "java/lang/invoke/VarHandle" ∧ (parseMethodDescriptor yX8_fact.desc).map (fun d => d.parameters.length) = some 3 := by decide +kernel
set_option maxHeartbeats 4000000 in
set_option maxRecDepth 100000 in
theorem k_X8_fact (l : Launch) (G : va_G) (K : (Nat → Nat) × (Nat → Nat)) (c : Nat → ClassId) (ax : Nat → Nat) (x : MS) (p0 : Int32) (p1 : Int32) (p2 : Int32) (r : Int32) (hm : f_X8_fact x p0 p1 p2 = some (r)) : zMi l yX8_fact wsX8_fact (rm_X8_fact) G K (TY c) [.ref (ax 0), .int p0, .int p1, .int p2] (wM c ax x) (wM c ax x) r := by
  refine zMi.of (cc := cX8_fact) (maxL := 4) (lv := [(0, .ref (ax 0)), (1, .int p0), (2, .int p1), (3, .int p2)]) (by decide) rfl (Nat.le_of_ble_eq_true rfl) rfl ?_
  intro p e s m args below meth c1 A Q H locs hx hb hml hown hts hK hN hZ hP hD hA hS hend ls hl
  have hown : s.vm.findClass RX8 = some m.cls := hown
  have hi_8 : ∀ w ∈ wsX80, w ∈ wsX8_fact := (fun w h => List.mem_cons_of_mem _ (List.mem_append_right _ (h)))
  unfold f_X8_fact at hm
  refine lv_iload_n hx hb dX8_fact_0 rfl (lv_at hl 1 rfl) ?_
  rcases Classical.em (p0 = 0) with c_1_0 | c_1_0
  · have hm := ifp c_1_0 hm
    refine lv_tableIn (off := 31) (tgt := 32) hx hb dX8_fact_1 (by rw [c_1_0]; decide) (by rw [c_1_0]; decide) (by rw [c_1_0]; rfl) (by decide) ?_
    refine lv_iload_n hx hb dX8_fact_32 rfl (lv_at hl 2 rfl) ?_
    obtain ⟨r33, e_33, hm⟩ := bd1_s hm
    refine zcSi (As := [.int p1]) (rest := []) ⟨hx, hb, hml, hown, hts⟩ (k_X8_pipsOf l G K c p1 r33 e_33) (va_cwS 1 hts gX8_fact_X8_pipsOf rfl rfl rfl hd_X8_pipsOf.2 ⟨Nat.le_of_ble_eq_true rfl, Nat.le_of_ble_eq_true rfl⟩) hK hN hZ hP hD hS hA [] rfl (by decide) rfl rfl hl.1 rfl (Nat.le_of_ble_eq_true rfl) dX8_fact_33 ⟨Nat.zero_le _, Nat.zero_le _⟩ (fun H locs hP hD hS => ?_)
    have hP : va_P G vwCl (wM c ax x) H := hP
    have hD : va_D A (wM c ax x) := hD
    exact hend H locs ls _ _ _ rfl (Option.some.inj hm) rfl hP hD hS dX8_fact_36
  · have hm := ifn c_1_0 hm
    rcases Classical.em (p0 = 1) with c_1_1 | c_1_1
    · have hm := ifp c_1_1 hm
      refine lv_tableIn (off := 36) (tgt := 37) hx hb dX8_fact_1 (by rw [c_1_1]; decide) (by rw [c_1_1]; decide) (by rw [c_1_1]; rfl) (by decide) ?_
      refine lv_iload_n hx hb dX8_fact_37 rfl (lv_at hl 2 rfl) ?_
      obtain ⟨r38, e_38, hm⟩ := bd1_s hm
      refine zcSi (As := [.int p1]) (rest := []) ⟨hx, hb, hml, hown, hts⟩ (k_X8_isDouble l G K c p1 r38 e_38) (va_cwS 1 hts gX8_fact_X8_isDouble rfl rfl rfl hd_X8_isDouble.2 ⟨Nat.le_of_ble_eq_true rfl, Nat.le_of_ble_eq_true rfl⟩) hK hN hZ hP hD hS hA [] rfl (by decide) rfl rfl hl.1 rfl (Nat.le_of_ble_eq_true rfl) dX8_fact_38 ⟨Nat.zero_le _, Nat.zero_le _⟩ (fun H locs hP hD hS => ?_)
      have hP : va_P G vwCl (wM c ax x) H := hP
      have hD : va_D A (wM c ax x) := hD
      refine lv_if_eq (tgt := 48) hx hb dX8_fact_41 (by decide) (fun c_41 => ?_) (fun c_41 => ?_)
      · have hm := ifp c_41 hm
        refine lv_iconst (v := 0) hx hb dX8_fact_48 (by decide) ?_
        exact hend H locs ls _ _ _ rfl (Option.some.inj hm) rfl hP hD hS dX8_fact_49
      · have hm := ifn c_41 hm
        refine lv_iconst (v := 1) hx hb dX8_fact_44 (by decide) ?_
        refine lv_goto (tgt := 49) hx hb dX8_fact_45 (by decide) ?_
        exact hend H locs ls _ _ _ rfl (Option.some.inj hm) rfl hP hD hS dX8_fact_49
    · have hm := ifn c_1_1 hm
      rcases Classical.em (p0 = 2) with c_1_2 | c_1_2
      · have hm := ifp c_1_2 hm
        refine lv_tableIn (off := 49) (tgt := 50) hx hb dX8_fact_1 (by rw [c_1_2]; decide) (by rw [c_1_2]; decide) (by rw [c_1_2]; rfl) (by decide) ?_
        refine lv_iload_n hx hb dX8_fact_50 rfl (lv_at hl 3 rfl) ?_
        refine lv_aload_n hx hb dX8_fact_51 rfl (lv_at hl 0 rfl) ?_
        refine va_get (D := G) (ci := 8) (v := .ref (ax 2)) (C := RX8) (T := TX8) (N := 22) hx hb hts hi_8 hown hK hP 0 rfl rfl 8 (by decide) (hts (.fieldLink RX8 17 "HubTrainsModel" "data" "[I") (List.mem_of_getElem? (i := 1) rfl)) (fun _ h9 => h9) rfl dX8_fact_52 ?_
        refine lv_iconst (v := 4) hx hb dX8_fact_55 (by decide) ?_
        obtain ⟨h_56, hm⟩ := gd_s hm
        refine va_iald (D := G) hx hb hK hP 2 0 rfl rfl (inb_s h_56) dX8_fact_56 ?_
        refine lv_icmp_ne (tgt := 64) hx hb dX8_fact_57 (by decide) (fun c_57 => ?_) (fun c_57 => ?_)
        · have hm := ifn c_57 hm
          refine lv_iconst (v := 0) hx hb dX8_fact_64 (by decide) ?_
          exact hend H locs ls _ _ _ rfl (Option.some.inj hm) rfl hP hD hS dX8_fact_65
        · have hm := ifp c_57 hm
          refine lv_iconst (v := 1) hx hb dX8_fact_60 (by decide) ?_
          refine lv_goto (tgt := 65) hx hb dX8_fact_61 (by decide) ?_
          exact hend H locs ls _ _ _ rfl (Option.some.inj hm) rfl hP hD hS dX8_fact_65
      · have hm := ifn c_1_2 hm
        rcases Classical.em (p0 = 3) with c_1_3 | c_1_3
        · have hm := ifp c_1_3 hm
          refine lv_tableIn (off := 65) (tgt := 66) hx hb dX8_fact_1 (by rw [c_1_3]; decide) (by rw [c_1_3]; decide) (by rw [c_1_3]; rfl) (by decide) ?_
          refine lv_iload_n hx hb dX8_fact_66 rfl (lv_at hl 3 rfl) ?_
          refine lv_aload_n hx hb dX8_fact_67 rfl (lv_at hl 0 rfl) ?_
          refine va_get (D := G) (ci := 8) (v := .ref (ax 2)) (C := RX8) (T := TX8) (N := 22) hx hb hts hi_8 hown hK hP 0 rfl rfl 8 (by decide) (hts (.fieldLink RX8 17 "HubTrainsModel" "data" "[I") (List.mem_of_getElem? (i := 1) rfl)) (fun _ h9 => h9) rfl dX8_fact_68 ?_
          refine lv_iconst (v := 1) hx hb dX8_fact_71 (by decide) ?_
          obtain ⟨h_72, hm⟩ := gd_s hm
          refine va_iald (D := G) hx hb hK hP 2 0 rfl rfl (inb_s h_72) dX8_fact_72 ?_
          refine lv_icmp_ne (tgt := 80) hx hb dX8_fact_73 (by decide) (fun c_73 => ?_) (fun c_73 => ?_)
          · have hm := ifn c_73 hm
            refine lv_iconst (v := 0) hx hb dX8_fact_80 (by decide) ?_
            exact hend H locs ls _ _ _ rfl (Option.some.inj hm) rfl hP hD hS dX8_fact_81
          · have hm := ifp c_73 hm
            refine lv_iconst (v := 1) hx hb dX8_fact_76 (by decide) ?_
            refine lv_goto (tgt := 81) hx hb dX8_fact_77 (by decide) ?_
            exact hend H locs ls _ _ _ rfl (Option.some.inj hm) rfl hP hD hS dX8_fact_81
        · have hm := ifn c_1_3 hm
          refine lv_tableOut (tgt := 82) hx hb dX8_fact_1 (sw_out (0) (3) (fun k hk hk2 hkx => by rcases (show k = 0 ∨ k = 1 ∨ k = 2 ∨ k = 3 by omega) with rfl | rfl | rfl | rfl <;> first | exact c_1_0 (hkx.trans (by decide)) | exact c_1_1 (hkx.trans (by decide)) | exact c_1_2 (hkx.trans (by decide)) | exact c_1_3 (hkx.trans (by decide)))) (by decide) ?_
          refine lv_aload_n hx hb dX8_fact_82 rfl (lv_at hl 0 rfl) ?_
          refine lv_aload_n hx hb dX8_fact_83 rfl (lv_at hl 0 rfl) ?_
          refine va_get (D := G) (ci := 8) (v := .ref (ax 2)) (C := RX8) (T := TX8) (N := 22) hx hb hts hi_8 hown hK hP 0 rfl rfl 8 (by decide) (hts (.fieldLink RX8 17 "HubTrainsModel" "data" "[I") (List.mem_of_getElem? (i := 1) rfl)) (fun _ h9 => h9) rfl dX8_fact_84 ?_
          refine lv_iconst (v := 4) hx hb dX8_fact_87 (by decide) ?_
          obtain ⟨h_88, hm⟩ := gd_s hm
          refine va_iald (D := G) hx hb hK hP 2 0 rfl rfl (inb_s h_88) dX8_fact_88 ?_
          obtain ⟨r89, e_89, hm⟩ := bd1_s hm
          refine zcWi (As := [.int ((x.1.2 1) (4 : Int32).toNatClampNeg)]) (rest := []) ⟨hx, hb, hml, hown, hts⟩ (k_X8_hand l G K c ax x ((x.1.2 1) (4 : Int32).toNatClampNeg) r89 e_89) (cwV 1 hts gX8_fact_X8_hand rfl rfl rfl hd_X8_hand ⟨Nat.le_of_ble_eq_true rfl, Nat.le_of_ble_eq_true rfl⟩) hK hN hZ hP hD hS hA (va_recv hK hP (ci := 8) (q0 := 0) rfl rfl) rfl hl.1 rfl (Nat.le_of_ble_eq_true rfl) dX8_fact_89 ⟨Nat.zero_le _, Nat.zero_le _⟩ (fun H locs hP hD hS => ?_)
          have hP : va_P G vwCl (wM c ax x) H := hP
          have hD : va_D A (wM c ax x) := hD
          refine lv_iconst (v := 1) hx hb dX8_fact_92 (by decide) ?_
          refine lv_isub hx hb dX8_fact_93 ?_
          exact hend H locs ls _ _ _ rfl (Option.some.inj hm) rfl hP hD hS dX8_fact_94

def f_X8_rankOf_J104 (rec_27 : Int32 → Int32 → MS → Option (Int32 × MS)) (v3_27 : Int32) (v4_27 : Int32) (x_27 : MS) (s0_104 : Int64) : Option (Int32 × MS) :=
  gd (inb v3_27 1000) <| nmd (vp_updL (x_27.2) v3_27.toNatClampNeg s0_104) fun (w104 : Nat → Int64) => rec_27 (v3_27 + 1) ((v4_27 + 1) + 1) (x_27.1, w104)

def f_X8_rankOf_B27 (p0 : Int32) (p1 : Int32) (rec_27 : Int32 → Int32 → MS → Option (Int32 × MS)) (v3_27 : Int32) (v4_27 : Int32) (x_27 : MS) : Option (Int32 × MS) :=
  gd (inb 14 1464) <| if ((x_27.1.2 1) (14 : Int32).toNatClampNeg) ≤ v4_27 then (gd (inb 0 1000) <| some (((x_27.2) (0 : Int32).toNatClampNeg).toInt32, x_27)) else (gd (inb (464 + v4_27) 1464) <| nmd ((x_27.1.2 1) (464 + v4_27).toNatClampNeg) fun (x5_50 : Int32) => if (1 : Int32) < x5_50 then (gd (inb ((v3_27 + (-1)) - 1) 1000) <| gd (inb (v3_27 + (-1)) 1000) <| bd1 (f_X8_operate x5_50 ((x_27.2) ((v3_27 + (-1)) - 1).toNatClampNeg) ((x_27.2) (v3_27 + (-1)).toNatClampNeg)) fun (r137 : Int64) => gd (inb ((v3_27 + (-1)) - 1) 1000) <| nmd (vp_updL (x_27.2) ((v3_27 + (-1)) - 1).toNatClampNeg r137) fun (w140 : Nat → Int64) => rec_27 (v3_27 + (-1)) (v4_27 + 1) (x_27.1, w140)) else (if x5_50 = 0 then (gd (inb (464 + (v4_27 + 1)) 1464) <| f_X8_rankOf_J104 rec_27 v3_27 v4_27 x_27 (((x_27.1.2 1) (464 + (v4_27 + 1)).toNatClampNeg).toInt64)) else (gd (inb (464 + (v4_27 + 1)) 1464) <| bd1 (f_X8_fact x_27 ((x_27.1.2 1) (464 + (v4_27 + 1)).toNatClampNeg) p0 p1) fun (r100 : Int32) => f_X8_rankOf_J104 rec_27 v3_27 v4_27 x_27 r100.toInt64)))

def f_X8_rankOf (x : MS) (p0 : Int32) (p1 : Int32) : Option (Int32 × MS) :=
  gd (inb 13 1464) <| if ((x.1.2 1) (13 : Int32).toNatClampNeg) = 0 then (bd1 (f_X8_pipsOf p0) fun (r11 : Int32) => some (r11, x)) else (gd (inb 0 1000) <| nmd (vp_updL (x.2) (0 : Int32).toNatClampNeg 0) fun (w23 : Nat → Int64) => itr3 (f_X8_rankOf_B27 p0 p1) FUEL 0 0 (x.1, w23))

abbrev rm_X8_rankOf : Room := { frames := 3, cells := 0, slots := 0, locals := 67 }
theorem hd_X8_rankOf : yX8_rankOf.cls = RX8 ∧ yX8_rankOf.cls ≠ "java/lang/invoke/MethodHandle" ∧ yX8_rankOf.cls ≠ "java/lang/invoke/VarHandle" ∧ (parseMethodDescriptor yX8_rankOf.desc).map (fun d => d.parameters.length) = some 2 := by decide +kernel
set_option maxHeartbeats 4000000 in
set_option maxRecDepth 100000 in
theorem k_X8_rankOf (l : Launch) (G : va_G) (K : (Nat → Nat) × (Nat → Nat)) (c : Nat → ClassId) (ax : Nat → Nat) (x : MS) (p0 : Int32) (p1 : Int32) (r : Int32) (x_r : MS) (hm : f_X8_rankOf x p0 p1 = some (r, x_r)) : zMi l yX8_rankOf wsX8_rankOf (rm_X8_rankOf) G K (TY c) [.ref (ax 0), .int p0, .int p1] (wM c ax x) (wM c ax x_r) r := by
  refine zMi.of (cc := cX8_rankOf) (maxL := 6) (lv := [(0, .ref (ax 0)), (1, .int p0), (2, .int p1)]) (by decide) rfl (Nat.le_of_ble_eq_true rfl) rfl ?_
  intro p e s m args below meth c1 A Q H locs hx hb hml hown hts hK hN hZ hP hD hA hS hend ls hl
  have hown : s.vm.findClass RX8 = some m.cls := hown
  have hi_8 : ∀ w ∈ wsX80, w ∈ wsX8_rankOf := (fun w h => List.mem_cons_of_mem _ (List.mem_append_right _ (h)))
  unfold f_X8_rankOf at hm
  refine lv_aload_n hx hb dX8_rankOf_0 rfl (lv_at hl 0 rfl) ?_
  refine va_get (D := G) (ci := 8) (v := .ref (ax 2)) (C := RX8) (T := TX8) (N := 22) hx hb hts hi_8 hown hK hP 0 rfl rfl 8 (by decide) (hts (.fieldLink RX8 17 "HubTrainsModel" "data" "[I") (List.mem_of_getElem? (i := 1) rfl)) (fun _ h9 => h9) rfl dX8_rankOf_1 ?_
  refine lv_bipush (v := 13) hx hb dX8_rankOf_4 (by decide) ?_
  obtain ⟨h_6, hm⟩ := gd_s hm
  refine va_iald (D := G) hx hb hK hP 2 0 rfl rfl (inb_s h_6) dX8_rankOf_6 ?_
  refine lv_if_ne (tgt := 15) hx hb dX8_rankOf_7 (by decide) (fun c_7 => ?_) (fun c_7 => ?_)
  · have hm := ifn c_7 hm
    refine lv_iconst (v := 0) hx hb dX8_rankOf_15 (by decide) ?_
    refine lv_istore_n (lv' := [(3, .int 0), (0, .ref (ax 0)), (1, .int p0), (2, .int p1)]) hx hb dX8_rankOf_16 rfl hl (by decide) rfl (fun ls hl => ?_)
    refine lv_aload_n hx hb dX8_rankOf_17 rfl (lv_at hl 1 rfl) ?_
    refine va_get (D := G) (ci := 8) (v := .ref (ax 9)) (C := RX8) (T := TX8) (N := 22) hx hb hts hi_8 hown hK hP 0 rfl rfl 17 (by decide) (hts (.fieldLink RX8 31 "HubTrainsModel" "stack" "[J") (List.mem_of_getElem? (i := 2) rfl)) (fun _ h9 => h9) rfl dX8_rankOf_18 ?_
    refine lv_iconst (v := 0) hx hb dX8_rankOf_21 (by decide) ?_
    refine lv_lconst (v := 0) hx hb dX8_rankOf_22 (by decide) ?_
    obtain ⟨h_23, hm⟩ := gd_s hm
    refine va_last (D := G) hx hb hK hP hD hS 9 1 rfl rfl (inb_s h_23) dX8_rankOf_23 (fun H locs hP hD hS => ?_)
    obtain ⟨w23, e_w23⟩ : ∃ z : Nat → Int64, z = vp_updL (x.2) (0 : Int32).toNatClampNeg 0 := ⟨_, rfl⟩
    have hP : va_P G vwCl (wM c ax (x.1, w23)) H := by rw [e_w23]; exact hP
    have hD : va_D A (wM c ax (x.1, w23)) := by rw [e_w23]; exact hD
    have hm := nmd_s hm w23 e_w23
    refine lv_iconst (v := 0) hx hb dX8_rankOf_24 (by decide) ?_
    refine lv_istore (lv' := [(4, .int 0), (3, .int 0), (0, .ref (ax 0)), (1, .int p0), (2, .int p1)]) hx hb dX8_rankOf_25 hl (by decide) rfl (fun ls hl => ?_)
    have L_27 : ∀ (n_27 : Nat) (v3_27 : Int32) (v4_27 : Int32) (x_27 : MS) (H : Heap) (locs : List Loc) (ls : Array Slot), va_P G vwCl (wM c ax x_27) H → va_D A (wM c ax x_27) → va_S A s.heap H locs → lv_has ls 6 [(0, .ref (ax 0)), (1, .int p0), (2, .int p1), (3, .int v3_27), (4, .int v4_27)] → itr3 (f_X8_rankOf_B27 p0 p1) n_27 v3_27 v4_27 x_27 = some (r, x_r) → W p l e (rm_X8_rankOf) s m args below meth c1 H locs 0 0 Q (F0 m 27 ls []) := by
      intro n_27
      induction n_27 with
      | zero => intro v3_27 v4_27 x_27 H locs ls hP hD hS hl hm; exact (itr3_0 hm).elim
      | succ n_27 ih_27 =>
        intro v3_27 v4_27 x_27 H locs ls hP hD hS hl hm
        have hm := itr3_s hm
        unfold f_X8_rankOf_B27 at hm
        refine lv_iload hx hb dX8_rankOf_27 (lv_at hl 4 rfl) ?_
        refine lv_aload_n hx hb dX8_rankOf_29 rfl (lv_at hl 0 rfl) ?_
        refine va_get (D := G) (ci := 8) (v := .ref (ax 2)) (C := RX8) (T := TX8) (N := 22) hx hb hts hi_8 hown hK hP 0 rfl rfl 8 (by decide) (hts (.fieldLink RX8 17 "HubTrainsModel" "data" "[I") (List.mem_of_getElem? (i := 1) rfl)) (fun _ h9 => h9) rfl dX8_rankOf_30 ?_
        refine lv_bipush (v := 14) hx hb dX8_rankOf_33 (by decide) ?_
        obtain ⟨h_35, hm⟩ := gd_s hm
        refine va_iald (D := G) hx hb hK hP 2 0 rfl rfl (inb_s h_35) dX8_rankOf_35 ?_
        refine lv_icmp_ge (tgt := 147) hx hb dX8_rankOf_36 (by decide) (fun c_36 => ?_) (fun c_36 => ?_)
        · have hm := ifp c_36 hm
          refine lv_aload_n hx hb dX8_rankOf_147 rfl (lv_at hl 0 rfl) ?_
          refine va_get (D := G) (ci := 8) (v := .ref (ax 9)) (C := RX8) (T := TX8) (N := 22) hx hb hts hi_8 hown hK hP 0 rfl rfl 17 (by decide) (hts (.fieldLink RX8 31 "HubTrainsModel" "stack" "[J") (List.mem_of_getElem? (i := 2) rfl)) (fun _ h9 => h9) rfl dX8_rankOf_148 ?_
          refine lv_iconst (v := 0) hx hb dX8_rankOf_151 (by decide) ?_
          obtain ⟨h_152, hm⟩ := gd_s hm
          refine va_lald (D := G) hx hb hK hP 9 1 rfl rfl (inb_s h_152) dX8_rankOf_152 ?_
          refine lv_l2i hx hb dX8_rankOf_153 rfl ?_
          exact hend H locs ls _ _ _ rfl (Prod.mk.inj (Option.some.inj hm)).1 (zc1 (fun (z0 : MS) => (wM c ax z0 : va_W)) (Prod.mk.inj (Option.some.inj hm)).2) hP hD hS dX8_rankOf_154
        · have hm := ifn c_36 hm
          refine lv_aload_n hx hb dX8_rankOf_39 rfl (lv_at hl 0 rfl) ?_
          refine va_get (D := G) (ci := 8) (v := .ref (ax 2)) (C := RX8) (T := TX8) (N := 22) hx hb hts hi_8 hown hK hP 0 rfl rfl 8 (by decide) (hts (.fieldLink RX8 17 "HubTrainsModel" "data" "[I") (List.mem_of_getElem? (i := 1) rfl)) (fun _ h9 => h9) rfl dX8_rankOf_40 ?_
          refine lv_sipush (v := 464) hx hb dX8_rankOf_43 (by decide) ?_
          refine lv_iload hx hb dX8_rankOf_46 (lv_at hl 4 rfl) ?_
          refine lv_iadd hx hb dX8_rankOf_48 ?_
          obtain ⟨h_49, hm⟩ := gd_s hm
          refine va_iald (D := G) hx hb hK hP 2 0 rfl rfl (inb_s h_49) dX8_rankOf_49 ?_
          refine lv_topi (fun x5_50 e_x5_50 => ?_)
          have hm := nmd_s hm x5_50 e_x5_50
          refine lv_istore (lv' := [(5, .int x5_50), (0, .ref (ax 0)), (1, .int p0), (2, .int p1), (3, .int v3_27), (4, .int v4_27)]) hx hb dX8_rankOf_50 hl (by decide) rfl (fun ls hl => ?_)
          refine lv_iload hx hb dX8_rankOf_52 (lv_at hl 0 rfl) ?_
          refine lv_iconst (v := 1) hx hb dX8_rankOf_54 (by decide) ?_
          refine lv_icmp_gt (tgt := 111) hx hb dX8_rankOf_55 (by decide) (fun c_55 => ?_) (fun c_55 => ?_)
          · have hm := ifp c_55 hm
            refine lv_iinc (k := 4) (v := (v3_27 + (-1))) (lv' := [(3, .int (v3_27 + (-1))), (5, .int x5_50), (0, .ref (ax 0)), (1, .int p0), (2, .int p1), (4, .int v4_27)]) hx hb dX8_rankOf_111 hl rfl rfl (by decide) rfl (fun ls hl => ?_)
            refine lv_aload_n hx hb dX8_rankOf_114 rfl (lv_at hl 2 rfl) ?_
            refine va_get (D := G) (ci := 8) (v := .ref (ax 9)) (C := RX8) (T := TX8) (N := 22) hx hb hts hi_8 hown hK hP 0 rfl rfl 17 (by decide) (hts (.fieldLink RX8 31 "HubTrainsModel" "stack" "[J") (List.mem_of_getElem? (i := 2) rfl)) (fun _ h9 => h9) rfl dX8_rankOf_115 ?_
            refine lv_iload_n hx hb dX8_rankOf_118 rfl (lv_at hl 0 rfl) ?_
            refine lv_iconst (v := 1) hx hb dX8_rankOf_119 (by decide) ?_
            refine lv_isub hx hb dX8_rankOf_120 ?_
            refine lv_iload hx hb dX8_rankOf_121 (lv_at hl 1 rfl) ?_
            refine lv_aload_n hx hb dX8_rankOf_123 rfl (lv_at hl 2 rfl) ?_
            refine va_get (D := G) (ci := 8) (v := .ref (ax 9)) (C := RX8) (T := TX8) (N := 22) hx hb hts hi_8 hown hK hP 0 rfl rfl 17 (by decide) (hts (.fieldLink RX8 31 "HubTrainsModel" "stack" "[J") (List.mem_of_getElem? (i := 2) rfl)) (fun _ h9 => h9) rfl dX8_rankOf_124 ?_
            refine lv_iload_n hx hb dX8_rankOf_127 rfl (lv_at hl 0 rfl) ?_
            refine lv_iconst (v := 1) hx hb dX8_rankOf_128 (by decide) ?_
            refine lv_isub hx hb dX8_rankOf_129 ?_
            obtain ⟨h_130, hm⟩ := gd_s hm
            refine va_lald (D := G) hx hb hK hP 9 1 rfl rfl (inb_s h_130) dX8_rankOf_130 ?_
            refine lv_aload_n hx hb dX8_rankOf_131 rfl (lv_at hl 2 rfl) ?_
            refine va_get (D := G) (ci := 8) (v := .ref (ax 9)) (C := RX8) (T := TX8) (N := 22) hx hb hts hi_8 hown hK hP 0 rfl rfl 17 (by decide) (hts (.fieldLink RX8 31 "HubTrainsModel" "stack" "[J") (List.mem_of_getElem? (i := 2) rfl)) (fun _ h9 => h9) rfl dX8_rankOf_132 ?_
            refine lv_iload_n hx hb dX8_rankOf_135 rfl (lv_at hl 0 rfl) ?_
            obtain ⟨h_136, hm⟩ := gd_s hm
            refine va_lald (D := G) hx hb hK hP 9 1 rfl rfl (inb_s h_136) dX8_rankOf_136 ?_
            obtain ⟨r137, e_137, hm⟩ := bd1_s hm
            refine zcSl (As := [.int x5_50, .long ((x_27.2) ((v3_27 + (-1)) - 1).toNatClampNeg), .long ((x_27.2) (v3_27 + (-1)).toNatClampNeg)]) (rest := [.int ((v3_27 + (-1)) - 1), .ref (ax 9)]) ⟨hx, hb, hml, hown, hts⟩ (k_X8_operate l G K c x5_50 ((x_27.2) ((v3_27 + (-1)) - 1).toNatClampNeg) ((x_27.2) (v3_27 + (-1)).toNatClampNeg) r137 e_137) (va_cwS 3 hts gX8_rankOf_X8_operate rfl rfl rfl hd_X8_operate.2 ⟨Nat.le_of_ble_eq_true rfl, Nat.le_of_ble_eq_true rfl⟩) hK hN hZ hP hD hS hA [] rfl (by decide) rfl rfl hl.1 rfl (Nat.le_of_ble_eq_true rfl) dX8_rankOf_137 ⟨Nat.zero_le _, Nat.zero_le _⟩ (fun H locs hP hD hS => ?_)
            have hP : va_P G vwCl (wM c ax x_27) H := hP
            have hD : va_D A (wM c ax x_27) := hD
            obtain ⟨h_140, hm⟩ := gd_s hm
            refine va_last (D := G) hx hb hK hP hD hS 9 1 rfl rfl (inb_s h_140) dX8_rankOf_140 (fun H locs hP hD hS => ?_)
            obtain ⟨w140, e_w140⟩ : ∃ z : Nat → Int64, z = vp_updL (x_27.2) ((v3_27 + (-1)) - 1).toNatClampNeg r137 := ⟨_, rfl⟩
            have hP : va_P G vwCl (wM c ax (x_27.1, w140)) H := by rw [e_w140]; exact hP
            have hD : va_D A (wM c ax (x_27.1, w140)) := by rw [e_w140]; exact hD
            have hm := nmd_s hm w140 e_w140
            refine lv_iinc (k := 5) (v := (v4_27 + 1)) (lv' := [(4, .int (v4_27 + 1)), (3, .int (v3_27 + (-1))), (5, .int x5_50), (0, .ref (ax 0)), (1, .int p0), (2, .int p1)]) hx hb dX8_rankOf_141 hl rfl rfl (by decide) rfl (fun ls hl => ?_)
            refine lv_goto (tgt := 27) hx hb dX8_rankOf_144 (by decide) ?_
            exact ih_27 (v3_27 + (-1)) (v4_27 + 1) (x_27.1, w140) H locs ls hP hD hS (lv_sub hl [3, 4, 5, 1, 0] rfl) hm
          · have hm := ifn c_55 hm
            refine lv_iinc (k := 5) (v := (v4_27 + 1)) (lv' := [(4, .int (v4_27 + 1)), (5, .int x5_50), (0, .ref (ax 0)), (1, .int p0), (2, .int p1), (3, .int v3_27)]) hx hb dX8_rankOf_58 hl rfl rfl (by decide) rfl (fun ls hl => ?_)
            refine lv_aload_n hx hb dX8_rankOf_61 rfl (lv_at hl 2 rfl) ?_
            refine va_get (D := G) (ci := 8) (v := .ref (ax 9)) (C := RX8) (T := TX8) (N := 22) hx hb hts hi_8 hown hK hP 0 rfl rfl 17 (by decide) (hts (.fieldLink RX8 31 "HubTrainsModel" "stack" "[J") (List.mem_of_getElem? (i := 2) rfl)) (fun _ h9 => h9) rfl dX8_rankOf_62 ?_
            refine lv_iload_n hx hb dX8_rankOf_65 rfl (lv_at hl 5 rfl) ?_
            refine lv_iload hx hb dX8_rankOf_66 (lv_at hl 1 rfl) ?_
            have J_104 : ∀ (s0_104 : Int64) (H : Heap) (locs : List Loc) (ls : Array Slot), va_P G vwCl (wM c ax x_27) H → va_D A (wM c ax x_27) → va_S A s.heap H locs → lv_has ls 6 [(0, .ref (ax 0)), (1, .int p0), (2, .int p1), (3, .int v3_27), (4, .int (v4_27 + 1))] → f_X8_rankOf_J104 (itr3 (f_X8_rankOf_B27 p0 p1) n_27) v3_27 v4_27 x_27 s0_104 = some (r, x_r) → W p l e (rm_X8_rankOf) s m args below meth c1 H locs 0 0 Q (F0 m 104 ls [.long s0_104, .int v3_27, .ref (ax 9)]) := by
              intro s0_104 H locs ls hP hD hS hl hm
              unfold f_X8_rankOf_J104 at hm
              obtain ⟨h_104, hm⟩ := gd_s hm
              refine va_last (D := G) hx hb hK hP hD hS 9 1 rfl rfl (inb_s h_104) dX8_rankOf_104 (fun H locs hP hD hS => ?_)
              obtain ⟨w104, e_w104⟩ : ∃ z : Nat → Int64, z = vp_updL (x_27.2) v3_27.toNatClampNeg s0_104 := ⟨_, rfl⟩
              have hP : va_P G vwCl (wM c ax (x_27.1, w104)) H := by rw [e_w104]; exact hP
              have hD : va_D A (wM c ax (x_27.1, w104)) := by rw [e_w104]; exact hD
              have hm := nmd_s hm w104 e_w104
              refine lv_iinc (k := 3) (v := (v3_27 + 1)) (lv' := [(3, .int (v3_27 + 1)), (0, .ref (ax 0)), (1, .int p0), (2, .int p1), (4, .int (v4_27 + 1))]) hx hb dX8_rankOf_105 hl rfl rfl (by decide) rfl (fun ls hl => ?_)
              refine lv_goto (tgt := 141) hx hb dX8_rankOf_108 (by decide) ?_
              refine lv_iinc (k := 4) (v := ((v4_27 + 1) + 1)) (lv' := [(4, .int ((v4_27 + 1) + 1)), (3, .int (v3_27 + 1)), (0, .ref (ax 0)), (1, .int p0), (2, .int p1)]) hx hb dX8_rankOf_141 hl rfl rfl (by decide) rfl (fun ls hl => ?_)
              refine lv_goto (tgt := 27) hx hb dX8_rankOf_144 (by decide) ?_
              exact ih_27 (v3_27 + 1) ((v4_27 + 1) + 1) (x_27.1, w104) H locs ls hP hD hS (lv_sub hl [2, 3, 4, 1, 0] rfl) hm
            refine lv_if_ne (tgt := 86) hx hb dX8_rankOf_68 (by decide) (fun c_68 => ?_) (fun c_68 => ?_)
            · have hm := ifn c_68 hm
              refine lv_aload_n hx hb dX8_rankOf_86 rfl (lv_at hl 2 rfl) ?_
              refine lv_aload_n hx hb dX8_rankOf_87 rfl (lv_at hl 2 rfl) ?_
              refine va_get (D := G) (ci := 8) (v := .ref (ax 2)) (C := RX8) (T := TX8) (N := 22) hx hb hts hi_8 hown hK hP 0 rfl rfl 8 (by decide) (hts (.fieldLink RX8 17 "HubTrainsModel" "data" "[I") (List.mem_of_getElem? (i := 1) rfl)) (fun _ h9 => h9) rfl dX8_rankOf_88 ?_
              refine lv_sipush (v := 464) hx hb dX8_rankOf_91 (by decide) ?_
              refine lv_iload hx hb dX8_rankOf_94 (lv_at hl 0 rfl) ?_
              refine lv_iadd hx hb dX8_rankOf_96 ?_
              obtain ⟨h_97, hm⟩ := gd_s hm
              refine va_iald (D := G) hx hb hK hP 2 0 rfl rfl (inb_s h_97) dX8_rankOf_97 ?_
              refine lv_iload_n hx hb dX8_rankOf_98 rfl (lv_at hl 3 rfl) ?_
              refine lv_iload_n hx hb dX8_rankOf_99 rfl (lv_at hl 4 rfl) ?_
              obtain ⟨r100, e_100, hm⟩ := bd1_s hm
              refine zcWi (As := [.int ((x_27.1.2 1) (464 + (v4_27 + 1)).toNatClampNeg), .int p0, .int p1]) (rest := [.int v3_27, .ref (ax 9)]) ⟨hx, hb, hml, hown, hts⟩ (k_X8_fact l G K c ax x_27 ((x_27.1.2 1) (464 + (v4_27 + 1)).toNatClampNeg) p0 p1 r100 e_100) (cwV 3 hts gX8_rankOf_X8_fact rfl rfl rfl hd_X8_fact ⟨Nat.le_of_ble_eq_true rfl, Nat.le_of_ble_eq_true rfl⟩) hK hN hZ hP hD hS hA (va_recv hK hP (ci := 8) (q0 := 0) rfl rfl) rfl hl.1 rfl (Nat.le_of_ble_eq_true rfl) dX8_rankOf_100 ⟨Nat.zero_le _, Nat.zero_le _⟩ (fun H locs hP hD hS => ?_)
              have hP : va_P G vwCl (wM c ax x_27) H := hP
              have hD : va_D A (wM c ax x_27) := hD
              refine lv_i2l hx hb dX8_rankOf_103 rfl ?_
              exact J_104 r100.toInt64 H locs ls hP hD hS (lv_sub hl [2, 3, 4, 5, 0] rfl) hm
            · have hm := ifp c_68 hm
              refine lv_aload_n hx hb dX8_rankOf_71 rfl (lv_at hl 2 rfl) ?_
              refine va_get (D := G) (ci := 8) (v := .ref (ax 2)) (C := RX8) (T := TX8) (N := 22) hx hb hts hi_8 hown hK hP 0 rfl rfl 8 (by decide) (hts (.fieldLink RX8 17 "HubTrainsModel" "data" "[I") (List.mem_of_getElem? (i := 1) rfl)) (fun _ h9 => h9) rfl dX8_rankOf_72 ?_
              refine lv_sipush (v := 464) hx hb dX8_rankOf_75 (by decide) ?_
              refine lv_iload hx hb dX8_rankOf_78 (lv_at hl 0 rfl) ?_
              refine lv_iadd hx hb dX8_rankOf_80 ?_
              obtain ⟨h_81, hm⟩ := gd_s hm
              refine va_iald (D := G) hx hb hK hP 2 0 rfl rfl (inb_s h_81) dX8_rankOf_81 ?_
              refine lv_i2l hx hb dX8_rankOf_82 rfl ?_
              refine lv_goto (tgt := 104) hx hb dX8_rankOf_83 (by decide) ?_
              exact J_104 (((x_27.1.2 1) (464 + (v4_27 + 1)).toNatClampNeg).toInt64) H locs ls hP hD hS (lv_sub hl [2, 3, 4, 5, 0] rfl) hm
    exact L_27 FUEL 0 0 (x.1, w23) H locs ls hP hD hS (lv_sub hl [2, 3, 4, 1, 0] rfl) hm
  · have hm := ifp c_7 hm
    refine lv_iload_n hx hb dX8_rankOf_10 rfl (lv_at hl 1 rfl) ?_
    obtain ⟨r11, e_11, hm⟩ := bd1_s hm
    refine zcSi (As := [.int p0]) (rest := []) ⟨hx, hb, hml, hown, hts⟩ (k_X8_pipsOf l G K c p0 r11 e_11) (va_cwS 1 hts gX8_rankOf_X8_pipsOf rfl rfl rfl hd_X8_pipsOf.2 ⟨Nat.le_of_ble_eq_true rfl, Nat.le_of_ble_eq_true rfl⟩) hK hN hZ hP hD hS hA [] rfl (by decide) rfl rfl hl.1 rfl (Nat.le_of_ble_eq_true rfl) dX8_rankOf_11 ⟨Nat.zero_le _, Nat.zero_le _⟩ (fun H locs hP hD hS => ?_)
    have hP : va_P G vwCl (wM c ax x) H := hP
    have hD : va_D A (wM c ax x) := hD
    exact hend H locs ls _ _ _ rfl (Prod.mk.inj (Option.some.inj hm)).1 (zc1 (fun (z0 : MS) => (wM c ax z0 : va_W)) (Prod.mk.inj (Option.some.inj hm)).2) hP hD hS dX8_rankOf_14

def f_X8_bestPlay_J62 (v3_6 : Int32) (rec_15 : Int32 → Int32 → Int32 → MS → Option (Int32 × MS)) (v4_15 : Int32) (r43 : Int32) (x43 : MS) : Option (Int32 × MS) :=
  rec_15 ((10 * v3_6) + v4_15) r43 (v4_15 + 1) x43

def f_X8_bestPlay_B15 (rec_6 : Int32 → Int32 → Int32 → MS → Option (Int32 × MS)) (v3_6 : Int32) (rec_15 : Int32 → Int32 → Int32 → MS → Option (Int32 × MS)) (v1_15 : Int32) (v2_15 : Int32) (v4_15 : Int32) (x_15 : MS) : Option (Int32 × MS) :=
  gd (inb 1 1464) <| if ((x_15.1.2 1) (1 : Int32).toNatClampNeg) < v4_15 then (rec_6 v1_15 v2_15 (v3_6 + 1) x_15) else (bd1 (f_X8_refusal x_15 v3_6 v4_15) fun (r30 : Int32) => if r30 = 0 then (bd2 (f_X8_rankOf x_15 v3_6 v4_15) fun (r43 : Int32) (x43 : MS) => if v1_15 = (-1) then (f_X8_bestPlay_J62 v3_6 rec_15 v4_15 r43 x43) else (if v2_15 < r43 then (f_X8_bestPlay_J62 v3_6 rec_15 v4_15 r43 x43) else (rec_15 v1_15 v2_15 (v4_15 + 1) x43))) else (rec_15 v1_15 v2_15 (v4_15 + 1) x_15))

def f_X8_bestPlay_B6  (rec_6 : Int32 → Int32 → Int32 → MS → Option (Int32 × MS)) (v1_6 : Int32) (v2_6 : Int32) (v3_6 : Int32) (x_6 : MS) : Option (Int32 × MS) :=
  if (100 : Int32) ≤ v3_6 then (some (v1_6, x_6)) else (itr4 (f_X8_bestPlay_B15 rec_6 v3_6) FUEL v1_6 v2_6 0 x_6)

def f_X8_bestPlay (x : MS) : Option (Int32 × MS) :=
  itr4 f_X8_bestPlay_B6 FUEL (-1) 0 0 x

abbrev rm_X8_bestPlay : Room := { frames := 4, cells := 0, slots := 0, locals := 92 }
theorem hd_X8_bestPlay : yX8_bestPlay.cls = RX8 ∧ yX8_bestPlay.cls ≠ "java/lang/invoke/MethodHandle" ∧ yX8_bestPlay.cls ≠ "java/lang/invoke/VarHandle" ∧ (parseMethodDescriptor yX8_bestPlay.desc).map (fun d => d.parameters.length) = some 0 := by decide +kernel
set_option maxHeartbeats 4000000 in
set_option maxRecDepth 100000 in
theorem k_X8_bestPlay (l : Launch) (G : va_G) (K : (Nat → Nat) × (Nat → Nat)) (c : Nat → ClassId) (ax : Nat → Nat) (x : MS) (r : Int32) (x_r : MS) (hm : f_X8_bestPlay x = some (r, x_r)) : zMi l yX8_bestPlay wsX8_bestPlay (rm_X8_bestPlay) G K (TY c) [.ref (ax 0)] (wM c ax x) (wM c ax x_r) r := by
  refine zMi.of (cc := cX8_bestPlay) (maxL := 6) (lv := [(0, .ref (ax 0))]) (by decide) rfl (Nat.le_of_ble_eq_true rfl) rfl ?_
  intro p e s m args below meth c1 A Q H locs hx hb hml hown hts hK hN hZ hP hD hA hS hend ls hl
  have hown : s.vm.findClass RX8 = some m.cls := hown
  have hi_8 : ∀ w ∈ wsX80, w ∈ wsX8_bestPlay := (fun w h => List.mem_cons_of_mem _ (List.mem_append_right _ (h)))
  unfold f_X8_bestPlay at hm
  refine lv_iconst (v := (-1)) hx hb dX8_bestPlay_0 (by decide) ?_
  refine lv_istore_n (lv' := [(1, .int (-1)), (0, .ref (ax 0))]) hx hb dX8_bestPlay_1 rfl hl (by decide) rfl (fun ls hl => ?_)
  refine lv_iconst (v := 0) hx hb dX8_bestPlay_2 (by decide) ?_
  refine lv_istore_n (lv' := [(2, .int 0), (1, .int (-1)), (0, .ref (ax 0))]) hx hb dX8_bestPlay_3 rfl hl (by decide) rfl (fun ls hl => ?_)
  refine lv_iconst (v := 0) hx hb dX8_bestPlay_4 (by decide) ?_
  refine lv_istore_n (lv' := [(3, .int 0), (2, .int 0), (1, .int (-1)), (0, .ref (ax 0))]) hx hb dX8_bestPlay_5 rfl hl (by decide) rfl (fun ls hl => ?_)
  have L_6 : ∀ (n_6 : Nat) (v1_6 : Int32) (v2_6 : Int32) (v3_6 : Int32) (x_6 : MS) (H : Heap) (locs : List Loc) (ls : Array Slot), va_P G vwCl (wM c ax x_6) H → va_D A (wM c ax x_6) → va_S A s.heap H locs → lv_has ls 6 [(0, .ref (ax 0)), (1, .int v1_6), (2, .int v2_6), (3, .int v3_6)] → itr4 f_X8_bestPlay_B6 n_6 v1_6 v2_6 v3_6 x_6 = some (r, x_r) → W p l e (rm_X8_bestPlay) s m args below meth c1 H locs 0 0 Q (F0 m 6 ls []) := by
    intro n_6
    induction n_6 with
    | zero => intro v1_6 v2_6 v3_6 x_6 H locs ls hP hD hS hl hm; exact (itr4_0 hm).elim
    | succ n_6 ih_6 =>
      intro v1_6 v2_6 v3_6 x_6 H locs ls hP hD hS hl hm
      have hm := itr4_s hm
      unfold f_X8_bestPlay_B6 at hm
      refine lv_iload_n hx hb dX8_bestPlay_6 rfl (lv_at hl 3 rfl) ?_
      refine lv_bipush (v := 100) hx hb dX8_bestPlay_7 (by decide) ?_
      refine lv_icmp_ge (tgt := 85) hx hb dX8_bestPlay_9 (by decide) (fun c_9 => ?_) (fun c_9 => ?_)
      · have hm := ifp c_9 hm
        refine lv_iload_n hx hb dX8_bestPlay_85 rfl (lv_at hl 1 rfl) ?_
        exact hend H locs ls _ _ _ rfl (Prod.mk.inj (Option.some.inj hm)).1 (zc1 (fun (z0 : MS) => (wM c ax z0 : va_W)) (Prod.mk.inj (Option.some.inj hm)).2) hP hD hS dX8_bestPlay_86
      · have hm := ifn c_9 hm
        refine lv_iconst (v := 0) hx hb dX8_bestPlay_12 (by decide) ?_
        refine lv_istore (lv' := [(4, .int 0), (0, .ref (ax 0)), (1, .int v1_6), (2, .int v2_6), (3, .int v3_6)]) hx hb dX8_bestPlay_13 hl (by decide) rfl (fun ls hl => ?_)
        have L_15 : ∀ (n_15 : Nat) (v1_15 : Int32) (v2_15 : Int32) (v4_15 : Int32) (x_15 : MS) (H : Heap) (locs : List Loc) (ls : Array Slot), va_P G vwCl (wM c ax x_15) H → va_D A (wM c ax x_15) → va_S A s.heap H locs → lv_has ls 6 [(0, .ref (ax 0)), (1, .int v1_15), (2, .int v2_15), (3, .int v3_6), (4, .int v4_15)] → itr4 (f_X8_bestPlay_B15 (itr4 f_X8_bestPlay_B6 n_6) v3_6) n_15 v1_15 v2_15 v4_15 x_15 = some (r, x_r) → W p l e (rm_X8_bestPlay) s m args below meth c1 H locs 0 0 Q (F0 m 15 ls []) := by
          intro n_15
          induction n_15 with
          | zero => intro v1_15 v2_15 v4_15 x_15 H locs ls hP hD hS hl hm; exact (itr4_0 hm).elim
          | succ n_15 ih_15 =>
            intro v1_15 v2_15 v4_15 x_15 H locs ls hP hD hS hl hm
            have hm := itr4_s hm
            unfold f_X8_bestPlay_B15 at hm
            refine lv_iload hx hb dX8_bestPlay_15 (lv_at hl 4 rfl) ?_
            refine lv_aload_n hx hb dX8_bestPlay_17 rfl (lv_at hl 0 rfl) ?_
            refine va_get (D := G) (ci := 8) (v := .ref (ax 2)) (C := RX8) (T := TX8) (N := 22) hx hb hts hi_8 hown hK hP 0 rfl rfl 8 (by decide) (hts (.fieldLink RX8 17 "HubTrainsModel" "data" "[I") (List.mem_of_getElem? (i := 1) rfl)) (fun _ h9 => h9) rfl dX8_bestPlay_18 ?_
            refine lv_iconst (v := 1) hx hb dX8_bestPlay_21 (by decide) ?_
            obtain ⟨h_22, hm⟩ := gd_s hm
            refine va_iald (D := G) hx hb hK hP 2 0 rfl rfl (inb_s h_22) dX8_bestPlay_22 ?_
            refine lv_icmp_gt (tgt := 79) hx hb dX8_bestPlay_23 (by decide) (fun c_23 => ?_) (fun c_23 => ?_)
            · have hm := ifp c_23 hm
              refine lv_iinc (k := 3) (v := (v3_6 + 1)) (lv' := [(3, .int (v3_6 + 1)), (0, .ref (ax 0)), (1, .int v1_15), (2, .int v2_15), (4, .int v4_15)]) hx hb dX8_bestPlay_79 hl rfl rfl (by decide) rfl (fun ls hl => ?_)
              refine lv_goto (tgt := 6) hx hb dX8_bestPlay_82 (by decide) ?_
              exact ih_6 v1_15 v2_15 (v3_6 + 1) x_15 H locs ls hP hD hS (lv_sub hl [1, 2, 3, 0] rfl) hm
            · have hm := ifn c_23 hm
              refine lv_aload_n hx hb dX8_bestPlay_26 rfl (lv_at hl 0 rfl) ?_
              refine lv_iload_n hx hb dX8_bestPlay_27 rfl (lv_at hl 3 rfl) ?_
              refine lv_iload hx hb dX8_bestPlay_28 (lv_at hl 4 rfl) ?_
              obtain ⟨r30, e_30, hm⟩ := bd1_s hm
              refine zcWi (As := [.int v3_6, .int v4_15]) (rest := []) ⟨hx, hb, hml, hown, hts⟩ (k_X8_refusal l G K c ax x_15 v3_6 v4_15 r30 e_30) (cwV 2 hts gX8_bestPlay_X8_refusal rfl rfl rfl hd_X8_refusal ⟨Nat.le_of_ble_eq_true rfl, Nat.le_of_ble_eq_true rfl⟩) hK hN hZ hP hD hS hA (va_recv hK hP (ci := 8) (q0 := 0) rfl rfl) rfl hl.1 rfl (Nat.le_of_ble_eq_true rfl) dX8_bestPlay_30 ⟨Nat.zero_le _, Nat.zero_le _⟩ (fun H locs hP hD hS => ?_)
              have hP : va_P G vwCl (wM c ax x_15) H := hP
              have hD : va_D A (wM c ax x_15) := hD
              refine lv_if_eq (tgt := 39) hx hb dX8_bestPlay_33 (by decide) (fun c_33 => ?_) (fun c_33 => ?_)
              · have hm := ifp c_33 hm
                refine lv_aload_n hx hb dX8_bestPlay_39 rfl (lv_at hl 0 rfl) ?_
                refine lv_iload_n hx hb dX8_bestPlay_40 rfl (lv_at hl 3 rfl) ?_
                refine lv_iload hx hb dX8_bestPlay_41 (lv_at hl 4 rfl) ?_
                obtain ⟨r43, x43, e_43, hm⟩ := bd2_s hm
                refine zcWi (As := [.int v3_6, .int v4_15]) (rest := []) ⟨hx, hb, hml, hown, hts⟩ (k_X8_rankOf l G K c ax x_15 v3_6 v4_15 r43 x43 e_43) (cwV 2 hts gX8_bestPlay_X8_rankOf rfl rfl rfl hd_X8_rankOf ⟨Nat.le_of_ble_eq_true rfl, Nat.le_of_ble_eq_true rfl⟩) hK hN hZ hP hD hS hA (va_recv hK hP (ci := 8) (q0 := 0) rfl rfl) rfl hl.1 rfl (Nat.le_of_ble_eq_true rfl) dX8_bestPlay_43 ⟨Nat.zero_le _, Nat.zero_le _⟩ (fun H locs hP hD hS => ?_)
                have hP : va_P G vwCl (wM c ax x43) H := hP
                have hD : va_D A (wM c ax x43) := hD
                refine lv_istore (lv' := [(5, .int r43), (0, .ref (ax 0)), (1, .int v1_15), (2, .int v2_15), (3, .int v3_6), (4, .int v4_15)]) hx hb dX8_bestPlay_46 hl (by decide) rfl (fun ls hl => ?_)
                refine lv_iload_n hx hb dX8_bestPlay_48 rfl (lv_at hl 2 rfl) ?_
                refine lv_iconst (v := (-1)) hx hb dX8_bestPlay_49 (by decide) ?_
                have J_62 : ∀ (H : Heap) (locs : List Loc) (ls : Array Slot), va_P G vwCl (wM c ax x43) H → va_D A (wM c ax x43) → va_S A s.heap H locs → lv_has ls 6 [(0, .ref (ax 0)), (3, .int v3_6), (4, .int v4_15), (5, .int r43)] → f_X8_bestPlay_J62 v3_6 (itr4 (f_X8_bestPlay_B15 (itr4 f_X8_bestPlay_B6 n_6) v3_6) n_15) v4_15 r43 x43 = some (r, x_r) → W p l e (rm_X8_bestPlay) s m args below meth c1 H locs 0 0 Q (F0 m 62 ls []) := by
                  intro  H locs ls hP hD hS hl hm
                  unfold f_X8_bestPlay_J62 at hm
                  refine lv_bipush (v := 10) hx hb dX8_bestPlay_62 (by decide) ?_
                  refine lv_iload_n hx hb dX8_bestPlay_64 rfl (lv_at hl 1 rfl) ?_
                  refine lv_imul hx hb dX8_bestPlay_65 ?_
                  refine lv_iload hx hb dX8_bestPlay_66 (lv_at hl 2 rfl) ?_
                  refine lv_iadd hx hb dX8_bestPlay_68 ?_
                  refine lv_istore_n (lv' := [(1, .int ((10 * v3_6) + v4_15)), (0, .ref (ax 0)), (3, .int v3_6), (4, .int v4_15), (5, .int r43)]) hx hb dX8_bestPlay_69 rfl hl (by decide) rfl (fun ls hl => ?_)
                  refine lv_iload hx hb dX8_bestPlay_70 (lv_at hl 4 rfl) ?_
                  refine lv_istore_n (lv' := [(2, .int r43), (1, .int ((10 * v3_6) + v4_15)), (0, .ref (ax 0)), (3, .int v3_6), (4, .int v4_15), (5, .int r43)]) hx hb dX8_bestPlay_72 rfl hl (by decide) rfl (fun ls hl => ?_)
                  refine lv_iinc (k := 4) (v := (v4_15 + 1)) (lv' := [(4, .int (v4_15 + 1)), (2, .int r43), (1, .int ((10 * v3_6) + v4_15)), (0, .ref (ax 0)), (3, .int v3_6), (5, .int r43)]) hx hb dX8_bestPlay_73 hl rfl rfl (by decide) rfl (fun ls hl => ?_)
                  refine lv_goto (tgt := 15) hx hb dX8_bestPlay_76 (by decide) ?_
                  exact ih_15 ((10 * v3_6) + v4_15) r43 (v4_15 + 1) x43 H locs ls hP hD hS (lv_sub hl [3, 2, 1, 4, 0] rfl) hm
                refine lv_icmp_eq (tgt := 62) hx hb dX8_bestPlay_50 (by decide) (fun c_50 => ?_) (fun c_50 => ?_)
                · have hm := ifp c_50 hm
                  exact J_62 H locs ls hP hD hS (lv_sub hl [1, 4, 5, 0] rfl) hm
                · have hm := ifn c_50 hm
                  refine lv_iload hx hb dX8_bestPlay_53 (lv_at hl 0 rfl) ?_
                  refine lv_iload_n hx hb dX8_bestPlay_55 rfl (lv_at hl 3 rfl) ?_
                  refine lv_icmp_gt (tgt := 62) hx hb dX8_bestPlay_56 (by decide) (fun c_56 => ?_) (fun c_56 => ?_)
                  · have hm := ifp c_56 hm
                    exact J_62 H locs ls hP hD hS (lv_sub hl [1, 4, 5, 0] rfl) hm
                  · have hm := ifn c_56 hm
                    refine lv_goto (tgt := 73) hx hb dX8_bestPlay_59 (by decide) ?_
                    refine lv_iinc (k := 5) (v := (v4_15 + 1)) (lv' := [(4, .int (v4_15 + 1)), (5, .int r43), (0, .ref (ax 0)), (1, .int v1_15), (2, .int v2_15), (3, .int v3_6)]) hx hb dX8_bestPlay_73 hl rfl rfl (by decide) rfl (fun ls hl => ?_)
                    refine lv_goto (tgt := 15) hx hb dX8_bestPlay_76 (by decide) ?_
                    exact ih_15 v1_15 v2_15 (v4_15 + 1) x43 H locs ls hP hD hS (lv_sub hl [2, 3, 4, 5, 0] rfl) hm
              · have hm := ifn c_33 hm
                refine lv_goto (tgt := 73) hx hb dX8_bestPlay_36 (by decide) ?_
                refine lv_iinc (k := 4) (v := (v4_15 + 1)) (lv' := [(4, .int (v4_15 + 1)), (0, .ref (ax 0)), (1, .int v1_15), (2, .int v2_15), (3, .int v3_6)]) hx hb dX8_bestPlay_73 hl rfl rfl (by decide) rfl (fun ls hl => ?_)
                refine lv_goto (tgt := 15) hx hb dX8_bestPlay_76 (by decide) ?_
                exact ih_15 v1_15 v2_15 (v4_15 + 1) x_15 H locs ls hP hD hS (lv_sub hl [1, 2, 3, 4, 0] rfl) hm
        exact L_15 FUEL v1_6 v2_6 0 x_6 H locs ls hP hD hS (lv_sub hl [1, 2, 3, 4, 0] rfl) hm
  exact L_6 FUEL (-1) 0 0 x H locs ls hP hD hS (lv_sub hl [3, 2, 1, 0] rfl) hm

def f_X8_pips_B4 (x : MS) (p0 : Int32) (rec_4 : Int32 → Int32 → Option Int32) (v2_4 : Int32) (v3_4 : Int32) : Option Int32 :=
  if (100 : Int32) ≤ v3_4 then (some (v2_4)) else (bd1 (f_X8_isInHand x p0 v3_4) fun (r14 : Int32) => if r14 = 0 then (rec_4 (v2_4 + 0) (v3_4 + 1)) else (bd1 (f_X8_pipsOf v3_4) fun (r21 : Int32) => rec_4 (v2_4 + r21) (v3_4 + 1)))

def f_X8_pips (x : MS) (p0 : Int32) : Option Int32 :=
  itr2 (f_X8_pips_B4 x p0) FUEL 0 0

abbrev rm_X8_pips : Room := { frames := 1, cells := 0, slots := 0, locals := 22 }
theorem hd_X8_pips : yX8_pips.cls = RX8 ∧ yX8_pips.cls ≠ "java/lang/invoke/MethodHandle" ∧ yX8_pips.cls ≠ "java/lang/invoke/VarHandle" ∧ (parseMethodDescriptor yX8_pips.desc).map (fun d => d.parameters.length) = some 1 := by decide +kernel
set_option maxHeartbeats 4000000 in
set_option maxRecDepth 100000 in
theorem k_X8_pips (l : Launch) (G : va_G) (K : (Nat → Nat) × (Nat → Nat)) (c : Nat → ClassId) (ax : Nat → Nat) (x : MS) (p0 : Int32) (r : Int32) (hm : f_X8_pips x p0 = some (r)) : zMi l yX8_pips wsX8_pips (rm_X8_pips) G K (TY c) [.ref (ax 0), .int p0] (wM c ax x) (wM c ax x) r := by
  refine zMi.of (cc := cX8_pips) (maxL := 4) (lv := [(0, .ref (ax 0)), (1, .int p0)]) (by decide) rfl (Nat.le_of_ble_eq_true rfl) rfl ?_
  intro p e s m args below meth c1 A Q H locs hx hb hml hown hts hK hN hZ hP hD hA hS hend ls hl
  have hown : s.vm.findClass RX8 = some m.cls := hown
  unfold f_X8_pips at hm
  refine lv_iconst (v := 0) hx hb dX8_pips_0 (by decide) ?_
  refine lv_istore_n (lv' := [(2, .int 0), (0, .ref (ax 0)), (1, .int p0)]) hx hb dX8_pips_1 rfl hl (by decide) rfl (fun ls hl => ?_)
  refine lv_iconst (v := 0) hx hb dX8_pips_2 (by decide) ?_
  refine lv_istore_n (lv' := [(3, .int 0), (2, .int 0), (0, .ref (ax 0)), (1, .int p0)]) hx hb dX8_pips_3 rfl hl (by decide) rfl (fun ls hl => ?_)
  have L_4 : ∀ (n_4 : Nat) (v2_4 : Int32) (v3_4 : Int32) (H : Heap) (locs : List Loc) (ls : Array Slot), va_P G vwCl (wM c ax x) H → va_D A (wM c ax x) → va_S A s.heap H locs → lv_has ls 4 [(0, .ref (ax 0)), (1, .int p0), (2, .int v2_4), (3, .int v3_4)] → itr2 (f_X8_pips_B4 x p0) n_4 v2_4 v3_4 = some (r) → W p l e (rm_X8_pips) s m args below meth c1 H locs 0 0 Q (F0 m 4 ls []) := by
    intro n_4
    induction n_4 with
    | zero => intro v2_4 v3_4 H locs ls hP hD hS hl hm; exact (itr2_0 hm).elim
    | succ n_4 ih_4 =>
      intro v2_4 v3_4 H locs ls hP hD hS hl hm
      have hm := itr2_s hm
      unfold f_X8_pips_B4 at hm
      refine lv_iload_n hx hb dX8_pips_4 rfl (lv_at hl 3 rfl) ?_
      refine lv_bipush (v := 100) hx hb dX8_pips_5 (by decide) ?_
      refine lv_icmp_ge (tgt := 36) hx hb dX8_pips_7 (by decide) (fun c_7 => ?_) (fun c_7 => ?_)
      · have hm := ifp c_7 hm
        refine lv_iload_n hx hb dX8_pips_36 rfl (lv_at hl 2 rfl) ?_
        exact hend H locs ls _ _ _ rfl (Option.some.inj hm) rfl hP hD hS dX8_pips_37
      · have hm := ifn c_7 hm
        refine lv_iload_n hx hb dX8_pips_10 rfl (lv_at hl 2 rfl) ?_
        refine lv_aload_n hx hb dX8_pips_11 rfl (lv_at hl 0 rfl) ?_
        refine lv_iload_n hx hb dX8_pips_12 rfl (lv_at hl 1 rfl) ?_
        refine lv_iload_n hx hb dX8_pips_13 rfl (lv_at hl 3 rfl) ?_
        obtain ⟨r14, e_14, hm⟩ := bd1_s hm
        refine zcWi (As := [.int p0, .int v3_4]) (rest := [.int v2_4]) ⟨hx, hb, hml, hown, hts⟩ (k_X8_isInHand l G K c ax x p0 v3_4 r14 e_14) (cwV 2 hts gX8_pips_X8_isInHand rfl rfl rfl hd_X8_isInHand ⟨Nat.le_of_ble_eq_true rfl, Nat.le_of_ble_eq_true rfl⟩) hK hN hZ hP hD hS hA (va_recv hK hP (ci := 8) (q0 := 0) rfl rfl) rfl hl.1 rfl (Nat.le_of_ble_eq_true rfl) dX8_pips_14 ⟨Nat.zero_le _, Nat.zero_le _⟩ (fun H locs hP hD hS => ?_)
        have hP : va_P G vwCl (wM c ax x) H := hP
        have hD : va_D A (wM c ax x) := hD
        refine lv_if_eq (tgt := 27) hx hb dX8_pips_17 (by decide) (fun c_17 => ?_) (fun c_17 => ?_)
        · have hm := ifp c_17 hm
          refine lv_iconst (v := 0) hx hb dX8_pips_27 (by decide) ?_
          refine lv_iadd hx hb dX8_pips_28 ?_
          refine lv_istore_n (lv' := [(2, .int (v2_4 + 0)), (0, .ref (ax 0)), (1, .int p0), (3, .int v3_4)]) hx hb dX8_pips_29 rfl hl (by decide) rfl (fun ls hl => ?_)
          refine lv_iinc (k := 3) (v := (v3_4 + 1)) (lv' := [(3, .int (v3_4 + 1)), (2, .int (v2_4 + 0)), (0, .ref (ax 0)), (1, .int p0)]) hx hb dX8_pips_30 hl rfl rfl (by decide) rfl (fun ls hl => ?_)
          refine lv_goto (tgt := 4) hx hb dX8_pips_33 (by decide) ?_
          exact ih_4 (v2_4 + 0) (v3_4 + 1) H locs ls hP hD hS (lv_sub hl [2, 3, 1, 0] rfl) hm
        · have hm := ifn c_17 hm
          refine lv_iload_n hx hb dX8_pips_20 rfl (lv_at hl 3 rfl) ?_
          obtain ⟨r21, e_21, hm⟩ := bd1_s hm
          refine zcSi (As := [.int v3_4]) (rest := [.int v2_4]) ⟨hx, hb, hml, hown, hts⟩ (k_X8_pipsOf l G K c v3_4 r21 e_21) (va_cwS 1 hts gX8_pips_X8_pipsOf rfl rfl rfl hd_X8_pipsOf.2 ⟨Nat.le_of_ble_eq_true rfl, Nat.le_of_ble_eq_true rfl⟩) hK hN hZ hP hD hS hA [] rfl (by decide) rfl rfl hl.1 rfl (Nat.le_of_ble_eq_true rfl) dX8_pips_21 ⟨Nat.zero_le _, Nat.zero_le _⟩ (fun H locs hP hD hS => ?_)
          have hP : va_P G vwCl (wM c ax x) H := hP
          have hD : va_D A (wM c ax x) := hD
          refine lv_goto (tgt := 28) hx hb dX8_pips_24 (by decide) ?_
          refine lv_iadd hx hb dX8_pips_28 ?_
          refine lv_istore_n (lv' := [(2, .int (v2_4 + r21)), (0, .ref (ax 0)), (1, .int p0), (3, .int v3_4)]) hx hb dX8_pips_29 rfl hl (by decide) rfl (fun ls hl => ?_)
          refine lv_iinc (k := 3) (v := (v3_4 + 1)) (lv' := [(3, .int (v3_4 + 1)), (2, .int (v2_4 + r21)), (0, .ref (ax 0)), (1, .int p0)]) hx hb dX8_pips_30 hl rfl rfl (by decide) rfl (fun ls hl => ?_)
          refine lv_goto (tgt := 4) hx hb dX8_pips_33 (by decide) ?_
          exact ih_4 (v2_4 + r21) (v3_4 + 1) H locs ls hP hD hS (lv_sub hl [2, 3, 1, 0] rfl) hm
  exact L_4 FUEL 0 0 H locs ls hP hD hS (lv_sub hl [2, 3, 1, 0] rfl) hm


def f_X8_nextTurn (x : MS) : Option MS :=
  gd (inb 4 1464) <| gd (inb 1 1464) <| gd (nz ((x.1.2 1) (1 : Int32).toNatClampNeg)) <| gd (inb 4 1464) <| nmd (upd (x.1.2 1) (4 : Int32).toNatClampNeg ((((x.1.2 1) (4 : Int32).toNatClampNeg) + 1) - (((x.1.2 1) (4 : Int32).toNatClampNeg) + 1) / ((x.1.2 1) (1 : Int32).toNatClampNeg) * ((x.1.2 1) (1 : Int32).toNatClampNeg))) fun (w20 : Nat → Int32) => gd (inb 5 1464) <| nmd (upd w20 (5 : Int32).toNatClampNeg 0) fun (w27 : Nat → Int32) => some (((sa x.1 1 w27), x.2))

abbrev rm_X8_nextTurn : Room := { frames := 0, cells := 0, slots := 0, locals := 0 }
theorem hd_X8_nextTurn : yX8_nextTurn.cls = RX8 ∧ yX8_nextTurn.cls ≠ "java/lang/invoke/MethodHandle" ∧ yX8_nextTurn.cls ≠ "java/lang/invoke/VarHandle" ∧ (parseMethodDescriptor yX8_nextTurn.desc).map (fun d => d.parameters.length) = some 0 := by decide +kernel
set_option maxHeartbeats 4000000 in
set_option maxRecDepth 100000 in
theorem k_X8_nextTurn (l : Launch) (G : va_G) (K : (Nat → Nat) × (Nat → Nat)) (c : Nat → ClassId) (ax : Nat → Nat) (x : MS) (x_r : MS) (hm : f_X8_nextTurn x = some (x_r)) : zMv l yX8_nextTurn wsX8_nextTurn (rm_X8_nextTurn) G K (TY c) [.ref (ax 0)] (wM c ax x) (wM c ax x_r) := by
  refine zMv.of (cc := cX8_nextTurn) (maxL := 1) (lv := [(0, .ref (ax 0))]) (by decide) rfl (Nat.le_of_ble_eq_true rfl) rfl ?_
  intro p e s m args below meth c1 A Q H locs hx hb hml hown hts hK hN hZ hP hD hA hS hend ls hl
  have hown : s.vm.findClass RX8 = some m.cls := hown
  have hi_8 : ∀ w ∈ wsX80, w ∈ wsX8_nextTurn := (fun w h => List.mem_cons_of_mem _ (List.mem_append_right _ (h)))
  unfold f_X8_nextTurn at hm
  refine lv_aload_n hx hb dX8_nextTurn_0 rfl (lv_at hl 0 rfl) ?_
  refine va_get (D := G) (ci := 8) (v := .ref (ax 2)) (C := RX8) (T := TX8) (N := 22) hx hb hts hi_8 hown hK hP 0 rfl rfl 8 (by decide) (hts (.fieldLink RX8 17 "HubTrainsModel" "data" "[I") (List.mem_of_getElem? (i := 1) rfl)) (fun _ h9 => h9) rfl dX8_nextTurn_1 ?_
  refine lv_iconst (v := 4) hx hb dX8_nextTurn_4 (by decide) ?_
  refine lv_aload_n hx hb dX8_nextTurn_5 rfl (lv_at hl 0 rfl) ?_
  refine va_get (D := G) (ci := 8) (v := .ref (ax 2)) (C := RX8) (T := TX8) (N := 22) hx hb hts hi_8 hown hK hP 0 rfl rfl 8 (by decide) (hts (.fieldLink RX8 17 "HubTrainsModel" "data" "[I") (List.mem_of_getElem? (i := 1) rfl)) (fun _ h9 => h9) rfl dX8_nextTurn_6 ?_
  refine lv_iconst (v := 4) hx hb dX8_nextTurn_9 (by decide) ?_
  obtain ⟨h_10, hm⟩ := gd_s hm
  refine va_iald (D := G) hx hb hK hP 2 0 rfl rfl (inb_s h_10) dX8_nextTurn_10 ?_
  refine lv_iconst (v := 1) hx hb dX8_nextTurn_11 (by decide) ?_
  refine lv_iadd hx hb dX8_nextTurn_12 ?_
  refine lv_aload_n hx hb dX8_nextTurn_13 rfl (lv_at hl 0 rfl) ?_
  refine va_get (D := G) (ci := 8) (v := .ref (ax 2)) (C := RX8) (T := TX8) (N := 22) hx hb hts hi_8 hown hK hP 0 rfl rfl 8 (by decide) (hts (.fieldLink RX8 17 "HubTrainsModel" "data" "[I") (List.mem_of_getElem? (i := 1) rfl)) (fun _ h9 => h9) rfl dX8_nextTurn_14 ?_
  refine lv_iconst (v := 1) hx hb dX8_nextTurn_17 (by decide) ?_
  obtain ⟨h_18, hm⟩ := gd_s hm
  refine va_iald (D := G) hx hb hK hP 2 0 rfl rfl (inb_s h_18) dX8_nextTurn_18 ?_
  obtain ⟨h_19, hm⟩ := gd_s hm
  refine lv_irem hx hb dX8_nextTurn_19 (nz_s h_19) ?_
  obtain ⟨h_20, hm⟩ := gd_s hm
  refine va_iast (D := G) hx hb hK hP hD hS 2 0 rfl rfl (inb_s h_20) dX8_nextTurn_20 (fun H locs hP hD hS => ?_)
  obtain ⟨w20, e_w20⟩ : ∃ z : Nat → Int32, z = upd (x.1.2 1) (4 : Int32).toNatClampNeg ((((x.1.2 1) (4 : Int32).toNatClampNeg) + 1) - (((x.1.2 1) (4 : Int32).toNatClampNeg) + 1) / ((x.1.2 1) (1 : Int32).toNatClampNeg) * ((x.1.2 1) (1 : Int32).toNatClampNeg)) := ⟨_, rfl⟩
  have hP : va_P G vwCl (wM c ax ((sa x.1 1 w20), x.2)) H := by rw [e_w20]; exact hP
  have hD : va_D A (wM c ax ((sa x.1 1 w20), x.2)) := by rw [e_w20]; exact hD
  have hm := nmd_s hm w20 e_w20
  refine lv_aload_n hx hb dX8_nextTurn_21 rfl (lv_at hl 0 rfl) ?_
  refine va_get (D := G) (ci := 8) (v := .ref (ax 2)) (C := RX8) (T := TX8) (N := 22) hx hb hts hi_8 hown hK hP 0 rfl rfl 8 (by decide) (hts (.fieldLink RX8 17 "HubTrainsModel" "data" "[I") (List.mem_of_getElem? (i := 1) rfl)) (fun _ h9 => h9) rfl dX8_nextTurn_22 ?_
  refine lv_iconst (v := 5) hx hb dX8_nextTurn_25 (by decide) ?_
  refine lv_iconst (v := 0) hx hb dX8_nextTurn_26 (by decide) ?_
  obtain ⟨h_27, hm⟩ := gd_s hm
  refine va_iast (D := G) hx hb hK hP hD hS 2 0 rfl rfl (inb_s h_27) dX8_nextTurn_27 (fun H locs hP hD hS => ?_)
  obtain ⟨w27, e_w27⟩ : ∃ z : Nat → Int32, z = upd w20 (5 : Int32).toNatClampNeg 0 := ⟨_, rfl⟩
  have hP : va_P G vwCl (wM c ax ((sa x.1 1 w27), x.2)) H := by rw [e_w27]; exact hP
  have hD : va_D A (wM c ax ((sa x.1 1 w27), x.2)) := by rw [e_w27]; exact hD
  have hm := nmd_s hm w27 e_w27
  exact hend H locs ls _ _ (zc1 (fun (z0 : MS) => (wM c ax z0 : va_W)) (Option.some.inj hm)) hP hD hS dX8_nextTurn_28

def f_X8_endRound_B21  (rec_21 : Int32 → MS → Option MS) (v1_21 : Int32) (x_21 : MS) : Option MS :=
  gd (inb 1 1464) <| if ((x_21.1.2 1) (1 : Int32).toNatClampNeg) ≤ v1_21 then (some (x_21)) else (gd (inb (15 + v1_21) 1464) <| bd1 (f_X8_pips x_21 v1_21) fun (r43 : Int32) => gd (inb (15 + v1_21) 1464) <| nmd (upd (x_21.1.2 1) (15 + v1_21).toNatClampNeg (((x_21.1.2 1) (15 + v1_21).toNatClampNeg) + r43)) fun (w47 : Nat → Int32) => rec_21 (v1_21 + 1) ((sa x_21.1 1 w47), x_21.2))

def f_X8_endRound (x : MS) : Option MS :=
  gd (inb 8 1464) <| nmd (upd (x.1.2 1) (8 : Int32).toNatClampNeg 1) fun (w7 : Nat → Int32) => gd (inb 9 1464) <| gd (inb 9 1464) <| nmd (upd w7 (9 : Int32).toNatClampNeg ((w7 (9 : Int32).toNatClampNeg) + 1)) fun (w18 : Nat → Int32) => itr2 f_X8_endRound_B21 FUEL 0 ((sa x.1 1 w18), x.2)

abbrev rm_X8_endRound : Room := { frames := 2, cells := 0, slots := 0, locals := 45 }
theorem hd_X8_endRound : yX8_endRound.cls = RX8 ∧ yX8_endRound.cls ≠ "java/lang/invoke/MethodHandle" ∧ yX8_endRound.cls ≠ "java/lang/invoke/VarHandle" ∧ (parseMethodDescriptor yX8_endRound.desc).map (fun d => d.parameters.length) = some 0 := by decide +kernel
set_option maxHeartbeats 4000000 in
set_option maxRecDepth 100000 in
theorem k_X8_endRound (l : Launch) (G : va_G) (K : (Nat → Nat) × (Nat → Nat)) (c : Nat → ClassId) (ax : Nat → Nat) (x : MS) (x_r : MS) (hm : f_X8_endRound x = some (x_r)) : zMv l yX8_endRound wsX8_endRound (rm_X8_endRound) G K (TY c) [.ref (ax 0)] (wM c ax x) (wM c ax x_r) := by
  refine zMv.of (cc := cX8_endRound) (maxL := 2) (lv := [(0, .ref (ax 0))]) (by decide) rfl (Nat.le_of_ble_eq_true rfl) rfl ?_
  intro p e s m args below meth c1 A Q H locs hx hb hml hown hts hK hN hZ hP hD hA hS hend ls hl
  have hown : s.vm.findClass RX8 = some m.cls := hown
  have hi_8 : ∀ w ∈ wsX80, w ∈ wsX8_endRound := (fun w h => List.mem_cons_of_mem _ (List.mem_append_right _ (h)))
  unfold f_X8_endRound at hm
  refine lv_aload_n hx hb dX8_endRound_0 rfl (lv_at hl 0 rfl) ?_
  refine va_get (D := G) (ci := 8) (v := .ref (ax 2)) (C := RX8) (T := TX8) (N := 22) hx hb hts hi_8 hown hK hP 0 rfl rfl 8 (by decide) (hts (.fieldLink RX8 17 "HubTrainsModel" "data" "[I") (List.mem_of_getElem? (i := 1) rfl)) (fun _ h9 => h9) rfl dX8_endRound_1 ?_
  refine lv_bipush (v := 8) hx hb dX8_endRound_4 (by decide) ?_
  refine lv_iconst (v := 1) hx hb dX8_endRound_6 (by decide) ?_
  obtain ⟨h_7, hm⟩ := gd_s hm
  refine va_iast (D := G) hx hb hK hP hD hS 2 0 rfl rfl (inb_s h_7) dX8_endRound_7 (fun H locs hP hD hS => ?_)
  obtain ⟨w7, e_w7⟩ : ∃ z : Nat → Int32, z = upd (x.1.2 1) (8 : Int32).toNatClampNeg 1 := ⟨_, rfl⟩
  have hP : va_P G vwCl (wM c ax ((sa x.1 1 w7), x.2)) H := by rw [e_w7]; exact hP
  have hD : va_D A (wM c ax ((sa x.1 1 w7), x.2)) := by rw [e_w7]; exact hD
  have hm := nmd_s hm w7 e_w7
  refine lv_aload_n hx hb dX8_endRound_8 rfl (lv_at hl 0 rfl) ?_
  refine va_get (D := G) (ci := 8) (v := .ref (ax 2)) (C := RX8) (T := TX8) (N := 22) hx hb hts hi_8 hown hK hP 0 rfl rfl 8 (by decide) (hts (.fieldLink RX8 17 "HubTrainsModel" "data" "[I") (List.mem_of_getElem? (i := 1) rfl)) (fun _ h9 => h9) rfl dX8_endRound_9 ?_
  refine lv_bipush (v := 9) hx hb dX8_endRound_12 (by decide) ?_
  refine lv_dup2_11 hx hb dX8_endRound_14 rfl rfl ?_
  obtain ⟨h_15, hm⟩ := gd_s hm
  refine va_iald (D := G) hx hb hK hP 2 0 rfl rfl (inb_s h_15) dX8_endRound_15 ?_
  refine lv_iconst (v := 1) hx hb dX8_endRound_16 (by decide) ?_
  refine lv_iadd hx hb dX8_endRound_17 ?_
  obtain ⟨h_18, hm⟩ := gd_s hm
  refine va_iast (D := G) hx hb hK hP hD hS 2 0 rfl rfl (inb_s h_18) dX8_endRound_18 (fun H locs hP hD hS => ?_)
  obtain ⟨w18, e_w18⟩ : ∃ z : Nat → Int32, z = upd w7 (9 : Int32).toNatClampNeg ((w7 (9 : Int32).toNatClampNeg) + 1) := ⟨_, rfl⟩
  have hP : va_P G vwCl (wM c ax ((sa x.1 1 w18), x.2)) H := by rw [e_w18]; exact hP
  have hD : va_D A (wM c ax ((sa x.1 1 w18), x.2)) := by rw [e_w18]; exact hD
  have hm := nmd_s hm w18 e_w18
  refine lv_iconst (v := 0) hx hb dX8_endRound_19 (by decide) ?_
  refine lv_istore_n (lv' := [(1, .int 0), (0, .ref (ax 0))]) hx hb dX8_endRound_20 rfl hl (by decide) rfl (fun ls hl => ?_)
  have L_21 : ∀ (n_21 : Nat) (v1_21 : Int32) (x_21 : MS) (H : Heap) (locs : List Loc) (ls : Array Slot), va_P G vwCl (wM c ax x_21) H → va_D A (wM c ax x_21) → va_S A s.heap H locs → lv_has ls 2 [(0, .ref (ax 0)), (1, .int v1_21)] → itr2 f_X8_endRound_B21 n_21 v1_21 x_21 = some (x_r) → W p l e (rm_X8_endRound) s m args below meth c1 H locs 0 0 Q (F0 m 21 ls []) := by
    intro n_21
    induction n_21 with
    | zero => intro v1_21 x_21 H locs ls hP hD hS hl hm; exact (itr2_0 hm).elim
    | succ n_21 ih_21 =>
      intro v1_21 x_21 H locs ls hP hD hS hl hm
      have hm := itr2_s hm
      unfold f_X8_endRound_B21 at hm
      refine lv_iload_n hx hb dX8_endRound_21 rfl (lv_at hl 1 rfl) ?_
      refine lv_aload_n hx hb dX8_endRound_22 rfl (lv_at hl 0 rfl) ?_
      refine va_get (D := G) (ci := 8) (v := .ref (ax 2)) (C := RX8) (T := TX8) (N := 22) hx hb hts hi_8 hown hK hP 0 rfl rfl 8 (by decide) (hts (.fieldLink RX8 17 "HubTrainsModel" "data" "[I") (List.mem_of_getElem? (i := 1) rfl)) (fun _ h9 => h9) rfl dX8_endRound_23 ?_
      refine lv_iconst (v := 1) hx hb dX8_endRound_26 (by decide) ?_
      obtain ⟨h_27, hm⟩ := gd_s hm
      refine va_iald (D := G) hx hb hK hP 2 0 rfl rfl (inb_s h_27) dX8_endRound_27 ?_
      refine lv_icmp_ge (tgt := 54) hx hb dX8_endRound_28 (by decide) (fun c_28 => ?_) (fun c_28 => ?_)
      · have hm := ifp c_28 hm
        exact hend H locs ls _ _ (zc1 (fun (z0 : MS) => (wM c ax z0 : va_W)) (Option.some.inj hm)) hP hD hS dX8_endRound_54
      · have hm := ifn c_28 hm
        refine lv_aload_n hx hb dX8_endRound_31 rfl (lv_at hl 0 rfl) ?_
        refine va_get (D := G) (ci := 8) (v := .ref (ax 2)) (C := RX8) (T := TX8) (N := 22) hx hb hts hi_8 hown hK hP 0 rfl rfl 8 (by decide) (hts (.fieldLink RX8 17 "HubTrainsModel" "data" "[I") (List.mem_of_getElem? (i := 1) rfl)) (fun _ h9 => h9) rfl dX8_endRound_32 ?_
        refine lv_bipush (v := 15) hx hb dX8_endRound_35 (by decide) ?_
        refine lv_iload_n hx hb dX8_endRound_37 rfl (lv_at hl 1 rfl) ?_
        refine lv_iadd hx hb dX8_endRound_38 ?_
        refine lv_dup2_11 hx hb dX8_endRound_39 rfl rfl ?_
        obtain ⟨h_40, hm⟩ := gd_s hm
        refine va_iald (D := G) hx hb hK hP 2 0 rfl rfl (inb_s h_40) dX8_endRound_40 ?_
        refine lv_aload_n hx hb dX8_endRound_41 rfl (lv_at hl 0 rfl) ?_
        refine lv_iload_n hx hb dX8_endRound_42 rfl (lv_at hl 1 rfl) ?_
        obtain ⟨r43, e_43, hm⟩ := bd1_s hm
        refine zcWi (As := [.int v1_21]) (rest := [.int ((x_21.1.2 1) (15 + v1_21).toNatClampNeg), .int (15 + v1_21), .ref (ax 2)]) ⟨hx, hb, hml, hown, hts⟩ (k_X8_pips l G K c ax x_21 v1_21 r43 e_43) (cwV 1 hts gX8_endRound_X8_pips rfl rfl rfl hd_X8_pips ⟨Nat.le_of_ble_eq_true rfl, Nat.le_of_ble_eq_true rfl⟩) hK hN hZ hP hD hS hA (va_recv hK hP (ci := 8) (q0 := 0) rfl rfl) rfl hl.1 rfl (Nat.le_of_ble_eq_true rfl) dX8_endRound_43 ⟨Nat.zero_le _, Nat.zero_le _⟩ (fun H locs hP hD hS => ?_)
        have hP : va_P G vwCl (wM c ax x_21) H := hP
        have hD : va_D A (wM c ax x_21) := hD
        refine lv_iadd hx hb dX8_endRound_46 ?_
        obtain ⟨h_47, hm⟩ := gd_s hm
        refine va_iast (D := G) hx hb hK hP hD hS 2 0 rfl rfl (inb_s h_47) dX8_endRound_47 (fun H locs hP hD hS => ?_)
        obtain ⟨w47, e_w47⟩ : ∃ z : Nat → Int32, z = upd (x_21.1.2 1) (15 + v1_21).toNatClampNeg (((x_21.1.2 1) (15 + v1_21).toNatClampNeg) + r43) := ⟨_, rfl⟩
        have hP : va_P G vwCl (wM c ax ((sa x_21.1 1 w47), x_21.2)) H := by rw [e_w47]; exact hP
        have hD : va_D A (wM c ax ((sa x_21.1 1 w47), x_21.2)) := by rw [e_w47]; exact hD
        have hm := nmd_s hm w47 e_w47
        refine lv_iinc (k := 1) (v := (v1_21 + 1)) (lv' := [(1, .int (v1_21 + 1)), (0, .ref (ax 0))]) hx hb dX8_endRound_48 hl rfl rfl (by decide) rfl (fun ls hl => ?_)
        refine lv_goto (tgt := 21) hx hb dX8_endRound_51 (by decide) ?_
        exact ih_21 (v1_21 + 1) ((sa x_21.1 1 w47), x_21.2) H locs ls hP hD hS (lv_sub hl [1, 0] rfl) hm
  exact L_21 FUEL 0 ((sa x.1 1 w18), x.2) H locs ls hP hD hS (lv_sub hl [1, 0] rfl) hm
