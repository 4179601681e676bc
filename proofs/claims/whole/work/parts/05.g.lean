
def f_X8_other (p0 : Int32) (p1 : Int32) : Option Int32 :=
  if (p0 / 10) = p1 then (some ((p0 - p0 / 10 * 10))) else (some ((p0 / 10)))

abbrev rm_X8_other : Room := { frames := 0, cells := 0, slots := 0, locals := 0 }
theorem hd_X8_other : yX8_other.cls = RX8 ∧ yX8_other.cls ≠ "java/lang/invoke/MethodHandle" ∧ yX8_other.cls ≠ "java/lang/invoke/VarHandle" ∧ (parseMethodDescriptor yX8_other.desc).map (fun d => d.parameters.length) = some 2 := by decide +kernel
set_option maxHeartbeats 4000000 in
set_option maxRecDepth 100000 in
theorem k_X8_other (l : Launch) (G : va_G) (K : (Nat → Nat) × (Nat → Nat)) (c : Nat → ClassId) (p0 : Int32) (p1 : Int32) (r : Int32) (hm : f_X8_other p0 p1 = some (r)) : zMi l yX8_other wsX8_other (rm_X8_other) G K (TY c) [.int p0, .int p1] ([]) ([]) r := by
  refine zMi.of (cc := cX8_other) (maxL := 2) (lv := [(0, .int p0), (1, .int p1)]) (by decide) rfl (Nat.le_of_ble_eq_true rfl) rfl ?_
  intro p e s m args below meth c1 A Q H locs hx hb hml hown hts hK hN hZ hP hD hA hS hend ls hl
  have hown : s.vm.findClass RX8 = some m.cls := hown
  unfold f_X8_other at hm
  refine lv_iload_n hx hb dX8_other_0 rfl (lv_at hl 0 rfl) ?_
  refine lv_bipush (v := 10) hx hb dX8_other_1 (by decide) ?_
  refine lv_idiv hx hb dX8_other_3 (by decide) ?_
  refine lv_iload_n hx hb dX8_other_4 rfl (lv_at hl 1 rfl) ?_
  refine lv_icmp_ne (tgt := 15) hx hb dX8_other_5 (by decide) (fun c_5 => ?_) (fun c_5 => ?_)
  · have hm := ifn c_5 hm
    refine lv_iload_n hx hb dX8_other_15 rfl (lv_at hl 0 rfl) ?_
    refine lv_bipush (v := 10) hx hb dX8_other_16 (by decide) ?_
    refine lv_idiv hx hb dX8_other_18 (by decide) ?_
    exact hend H locs ls _ _ _ rfl (Option.some.inj hm) rfl hP hD hS dX8_other_19
  · have hm := ifp c_5 hm
    refine lv_iload_n hx hb dX8_other_8 rfl (lv_at hl 0 rfl) ?_
    refine lv_bipush (v := 10) hx hb dX8_other_9 (by decide) ?_
    refine lv_irem hx hb dX8_other_11 (by decide) ?_
    refine lv_goto (tgt := 19) hx hb dX8_other_12 (by decide) ?_
    exact hend H locs ls _ _ _ rfl (Option.some.inj hm) rfl hP hD hS dX8_other_19

def f_X8_layRow_B24 (p0 : Int32) (p1 : Int32) (rec_24 : Int32 → MS → Option MS) (v4_24 : Int32) (x_24 : MS) : Option MS :=
  if (x_24.1.1 12) ≤ v4_24 then (some (x_24)) else (if ((p0 >>> (v4_24 &&& 31)) &&& 1) = 1 then (rec_24 (v4_24 + 1) x_24) else (gd (inb v4_24 12) <| bd1 (f_X8_fits ((x_24.1.2 4) v4_24.toNatClampNeg) p1) fun (r51 : Int32) => if r51 = 0 then (rec_24 (v4_24 + 1) x_24) else (gd (inb v4_24 12) <| bd1 (f_X8_other ((x_24.1.2 4) v4_24.toNatClampNeg) p1) fun (r77 : Int32) => nmd ((10 * (p0 ||| ((1 : Int32) <<< (v4_24 &&& 31)))) + r77) fun (x5_81 : Int32) => gd (inb ((10 * p0) + p1) 40960) <| gd (inb x5_81 40960) <| gd (inb ((10 * p0) + p1) 40960) <| nmd (upd (x_24.1.2 5) ((10 * p0) + p1).toNatClampNeg (if ((x_24.1.2 5) ((10 * p0) + p1).toNatClampNeg) < (((x_24.1.2 5) x5_81.toNatClampNeg) + 1) then (((x_24.1.2 5) x5_81.toNatClampNeg) + 1) else ((x_24.1.2 5) ((10 * p0) + p1).toNatClampNeg))) fun (w106 : Nat → Int32) => gd (inb ((10 * p0) + p1) 40960) <| gd (inb x5_81 40960) <| gd (inb v4_24 12) <| bd1 (f_X8_pipsOf ((x_24.1.2 4) v4_24.toNatClampNeg)) fun (r132 : Int32) => gd (inb ((10 * p0) + p1) 40960) <| nmd (upd (x_24.1.2 6) ((10 * p0) + p1).toNatClampNeg (if ((x_24.1.2 6) ((10 * p0) + p1).toNatClampNeg) < (((x_24.1.2 6) x5_81.toNatClampNeg) + r132) then (((x_24.1.2 6) x5_81.toNatClampNeg) + r132) else ((x_24.1.2 6) ((10 * p0) + p1).toNatClampNeg))) fun (w139 : Nat → Int32) => rec_24 (v4_24 + 1) ((sa (sa x_24.1 5 w106) 6 w139), x_24.2))))

def f_X8_layRow (x : MS) (p0 : Int32) (p1 : Int32) : Option MS :=
  gd (inb ((10 * p0) + p1) 40960) <| nmd (upd (x.1.2 5) ((10 * p0) + p1).toNatClampNeg 0) fun (w13 : Nat → Int32) => gd (inb ((10 * p0) + p1) 40960) <| nmd (upd (x.1.2 6) ((10 * p0) + p1).toNatClampNeg 0) fun (w20 : Nat → Int32) => itr2 (f_X8_layRow_B24 p0 p1) FUEL 0 ((sa (sa x.1 5 w13) 6 w20), x.2)

abbrev rm_X8_layRow : Room := { frames := 1, cells := 0, slots := 0, locals := 23 }
theorem hd_X8_layRow : yX8_layRow.cls = RX8 ∧ yX8_layRow.cls ≠ "java/lang/invoke/MethodHandle" ∧ yX8_layRow.cls ≠ "java/lang/invoke/VarHandle" ∧ (parseMethodDescriptor yX8_layRow.desc).map (fun d => d.parameters.length) = some 2 := by decide +kernel
set_option maxHeartbeats 4000000 in
set_option maxRecDepth 100000 in
theorem k_X8_layRow (l : Launch) (G : va_G) (K : (Nat → Nat) × (Nat → Nat)) (c : Nat → ClassId) (ax : Nat → Nat) (x : MS) (p0 : Int32) (p1 : Int32) (x_r : MS) (hm : f_X8_layRow x p0 p1 = some (x_r)) : zMv l yX8_layRow wsX8_layRow (rm_X8_layRow) G K (TY c) [.ref (ax 0), .int p0, .int p1] (wM c ax x) (wM c ax x_r) := by
  refine zMv.of (cc := cX8_layRow) (maxL := 6) (lv := [(0, .ref (ax 0)), (1, .int p0), (2, .int p1)]) (by decide) rfl (Nat.le_of_ble_eq_true rfl) rfl ?_
  intro p e s m args below meth c1 A Q H locs hx hb hml hown hts hK hN hZ hP hD hA hS hend ls hl
  have hown : s.vm.findClass RX8 = some m.cls := hown
  have hi_8 : ∀ w ∈ wsX80, w ∈ wsX8_layRow := (fun w h => List.mem_cons_of_mem _ (List.mem_append_right _ (h)))
  unfold f_X8_layRow at hm
  refine lv_bipush (v := 10) hx hb dX8_layRow_0 (by decide) ?_
  refine lv_iload_n hx hb dX8_layRow_2 rfl (lv_at hl 1 rfl) ?_
  refine lv_imul hx hb dX8_layRow_3 ?_
  refine lv_iload_n hx hb dX8_layRow_4 rfl (lv_at hl 2 rfl) ?_
  refine lv_iadd hx hb dX8_layRow_5 ?_
  refine lv_istore_n (lv' := [(3, .int ((10 * p0) + p1)), (0, .ref (ax 0)), (1, .int p0), (2, .int p1)]) hx hb dX8_layRow_6 rfl hl (by decide) rfl (fun ls hl => ?_)
  refine lv_aload_n hx hb dX8_layRow_7 rfl (lv_at hl 1 rfl) ?_
  refine va_get (D := G) (ci := 8) (v := .ref (ax 7)) (C := RX8) (T := TX8) (N := 22) hx hb hts hi_8 hown hK hP 0 rfl rfl 19 (by decide) (hts (.fieldLink RX8 39 "HubTrainsModel" "longer" "[I") (List.mem_of_getElem? (i := 1) rfl)) (fun _ h9 => h9) rfl dX8_layRow_8 ?_
  refine lv_iload_n hx hb dX8_layRow_11 rfl (lv_at hl 0 rfl) ?_
  refine lv_iconst (v := 0) hx hb dX8_layRow_12 (by decide) ?_
  obtain ⟨h_13, hm⟩ := gd_s hm
  refine va_iast (D := G) hx hb hK hP hD hS 7 0 rfl rfl (inb_s h_13) dX8_layRow_13 (fun H locs hP hD hS => ?_)
  obtain ⟨w13, e_w13⟩ : ∃ z : Nat → Int32, z = upd (x.1.2 5) ((10 * p0) + p1).toNatClampNeg 0 := ⟨_, rfl⟩
  have hP : va_P G vwCl (wM c ax ((sa x.1 5 w13), x.2)) H := by rw [e_w13]; exact hP
  have hD : va_D A (wM c ax ((sa x.1 5 w13), x.2)) := by rw [e_w13]; exact hD
  have hm := nmd_s hm w13 e_w13
  refine lv_aload_n hx hb dX8_layRow_14 rfl (lv_at hl 1 rfl) ?_
  refine va_get (D := G) (ci := 8) (v := .ref (ax 8)) (C := RX8) (T := TX8) (N := 22) hx hb hts hi_8 hown hK hP 0 rfl rfl 20 (by decide) (hts (.fieldLink RX8 42 "HubTrainsModel" "heavier" "[I") (List.mem_of_getElem? (i := 2) rfl)) (fun _ h9 => h9) rfl dX8_layRow_15 ?_
  refine lv_iload_n hx hb dX8_layRow_18 rfl (lv_at hl 0 rfl) ?_
  refine lv_iconst (v := 0) hx hb dX8_layRow_19 (by decide) ?_
  obtain ⟨h_20, hm⟩ := gd_s hm
  refine va_iast (D := G) hx hb hK hP hD hS 8 0 rfl rfl (inb_s h_20) dX8_layRow_20 (fun H locs hP hD hS => ?_)
  obtain ⟨w20, e_w20⟩ : ∃ z : Nat → Int32, z = upd (x.1.2 6) ((10 * p0) + p1).toNatClampNeg 0 := ⟨_, rfl⟩
  have hP : va_P G vwCl (wM c ax ((sa (sa x.1 5 w13) 6 w20), x.2)) H := by rw [e_w20]; exact hP
  have hD : va_D A (wM c ax ((sa (sa x.1 5 w13) 6 w20), x.2)) := by rw [e_w20]; exact hD
  have hm := nmd_s hm w20 e_w20
  refine lv_iconst (v := 0) hx hb dX8_layRow_21 (by decide) ?_
  refine lv_istore (lv' := [(4, .int 0), (3, .int ((10 * p0) + p1)), (0, .ref (ax 0)), (1, .int p0), (2, .int p1)]) hx hb dX8_layRow_22 hl (by decide) rfl (fun ls hl => ?_)
  have L_24 : ∀ (n_24 : Nat) (v4_24 : Int32) (x_24 : MS) (H : Heap) (locs : List Loc) (ls : Array Slot), va_P G vwCl (wM c ax x_24) H → va_D A (wM c ax x_24) → va_S A s.heap H locs → lv_has ls 6 [(0, .ref (ax 0)), (1, .int p0), (2, .int p1), (3, .int ((10 * p0) + p1)), (4, .int v4_24)] → itr2 (f_X8_layRow_B24 p0 p1) n_24 v4_24 x_24 = some (x_r) → W p l e (rm_X8_layRow) s m args below meth c1 H locs 0 0 Q (F0 m 24 ls []) := by
    intro n_24
    induction n_24 with
    | zero => intro v4_24 x_24 H locs ls hP hD hS hl hm; exact (itr2_0 hm).elim
    | succ n_24 ih_24 =>
      intro v4_24 x_24 H locs ls hP hD hS hl hm
      have hm := itr2_s hm
      unfold f_X8_layRow_B24 at hm
      refine lv_iload hx hb dX8_layRow_24 (lv_at hl 4 rfl) ?_
      refine lv_aload_n hx hb dX8_layRow_26 rfl (lv_at hl 0 rfl) ?_
      refine va_get (D := G) (ci := 8) (v := .int (x_24.1.1 12)) (C := RX8) (T := TX8) (N := 22) hx hb hts hi_8 hown hK hP 0 rfl rfl 21 (by decide) (hts (.fieldLink RX8 273 "HubTrainsModel" "inHand" "I") (List.mem_of_getElem? (i := 3) rfl)) (fun _ h9 => h9) rfl dX8_layRow_27 ?_
      refine lv_icmp_ge (tgt := 146) hx hb dX8_layRow_30 (by decide) (fun c_30 => ?_) (fun c_30 => ?_)
      · have hm := ifp c_30 hm
        exact hend H locs ls _ _ (zc1 (fun (z0 : MS) => (wM c ax z0 : va_W)) (Option.some.inj hm)) hP hD hS dX8_layRow_146
      · have hm := ifn c_30 hm
        refine lv_iload_n hx hb dX8_layRow_33 rfl (lv_at hl 1 rfl) ?_
        refine lv_iload hx hb dX8_layRow_34 (lv_at hl 4 rfl) ?_
        refine lv_ishr hx hb dX8_layRow_36 ?_
        refine lv_iconst (v := 1) hx hb dX8_layRow_37 (by decide) ?_
        refine lv_iand hx hb dX8_layRow_38 ?_
        refine lv_iconst (v := 1) hx hb dX8_layRow_39 (by decide) ?_
        refine lv_icmp_eq (tgt := 140) hx hb dX8_layRow_40 (by decide) (fun c_40 => ?_) (fun c_40 => ?_)
        · have hm := ifp c_40 hm
          refine lv_iinc (k := 4) (v := (v4_24 + 1)) (lv' := [(4, .int (v4_24 + 1)), (0, .ref (ax 0)), (1, .int p0), (2, .int p1), (3, .int ((10 * p0) + p1))]) hx hb dX8_layRow_140 hl rfl rfl (by decide) rfl (fun ls hl => ?_)
          refine lv_goto (tgt := 24) hx hb dX8_layRow_143 (by decide) ?_
          exact ih_24 (v4_24 + 1) x_24 H locs ls hP hD hS (lv_sub hl [1, 2, 3, 4, 0] rfl) hm
        · have hm := ifn c_40 hm
          refine lv_aload_n hx hb dX8_layRow_43 rfl (lv_at hl 0 rfl) ?_
          refine va_get (D := G) (ci := 8) (v := .ref (ax 6)) (C := RX8) (T := TX8) (N := 22) hx hb hts hi_8 hown hK hP 0 rfl rfl 18 (by decide) (hts (.fieldLink RX8 35 "HubTrainsModel" "tiles" "[I") (List.mem_of_getElem? (i := 4) rfl)) (fun _ h9 => h9) rfl dX8_layRow_44 ?_
          refine lv_iload hx hb dX8_layRow_47 (lv_at hl 4 rfl) ?_
          obtain ⟨h_49, hm⟩ := gd_s hm
          refine va_iald (D := G) hx hb hK hP 6 0 rfl rfl (inb_s h_49) dX8_layRow_49 ?_
          refine lv_iload_n hx hb dX8_layRow_50 rfl (lv_at hl 2 rfl) ?_
          obtain ⟨r51, e_51, hm⟩ := bd1_s hm
          refine zcSi (As := [.int ((x_24.1.2 4) v4_24.toNatClampNeg), .int p1]) (rest := []) ⟨hx, hb, hml, hown, hts⟩ (k_X8_fits l G K c ((x_24.1.2 4) v4_24.toNatClampNeg) p1 r51 e_51) (va_cwS 2 hts gX8_layRow_X8_fits rfl rfl rfl hd_X8_fits.2 ⟨Nat.le_of_ble_eq_true rfl, Nat.le_of_ble_eq_true rfl⟩) hK hN hZ hP hD hS hA [] rfl (by decide) rfl rfl hl.1 rfl (Nat.le_of_ble_eq_true rfl) dX8_layRow_51 ⟨Nat.zero_le _, Nat.zero_le _⟩ (fun H locs hP hD hS => ?_)
          have hP : va_P G vwCl (wM c ax x_24) H := hP
          have hD : va_D A (wM c ax x_24) := hD
          refine lv_if_ne (tgt := 60) hx hb dX8_layRow_54 (by decide) (fun c_54 => ?_) (fun c_54 => ?_)
          · have hm := ifn c_54 hm
            refine lv_bipush (v := 10) hx hb dX8_layRow_60 (by decide) ?_
            refine lv_iload_n hx hb dX8_layRow_62 rfl (lv_at hl 1 rfl) ?_
            refine lv_iconst (v := 1) hx hb dX8_layRow_63 (by decide) ?_
            refine lv_iload hx hb dX8_layRow_64 (lv_at hl 4 rfl) ?_
            refine lv_ishl hx hb dX8_layRow_66 ?_
            refine lv_ior hx hb dX8_layRow_67 ?_
            refine lv_imul hx hb dX8_layRow_68 ?_
            refine lv_aload_n hx hb dX8_layRow_69 rfl (lv_at hl 0 rfl) ?_
            refine va_get (D := G) (ci := 8) (v := .ref (ax 6)) (C := RX8) (T := TX8) (N := 22) hx hb hts hi_8 hown hK hP 0 rfl rfl 18 (by decide) (hts (.fieldLink RX8 35 "HubTrainsModel" "tiles" "[I") (List.mem_of_getElem? (i := 4) rfl)) (fun _ h9 => h9) rfl dX8_layRow_70 ?_
            refine lv_iload hx hb dX8_layRow_73 (lv_at hl 4 rfl) ?_
            obtain ⟨h_75, hm⟩ := gd_s hm
            refine va_iald (D := G) hx hb hK hP 6 0 rfl rfl (inb_s h_75) dX8_layRow_75 ?_
            refine lv_iload_n hx hb dX8_layRow_76 rfl (lv_at hl 2 rfl) ?_
            obtain ⟨r77, e_77, hm⟩ := bd1_s hm
            refine zcSi (As := [.int ((x_24.1.2 4) v4_24.toNatClampNeg), .int p1]) (rest := [.int (10 * (p0 ||| ((1 : Int32) <<< (v4_24 &&& 31))))]) ⟨hx, hb, hml, hown, hts⟩ (k_X8_other l G K c ((x_24.1.2 4) v4_24.toNatClampNeg) p1 r77 e_77) (va_cwS 2 hts gX8_layRow_X8_other rfl rfl rfl hd_X8_other.2 ⟨Nat.le_of_ble_eq_true rfl, Nat.le_of_ble_eq_true rfl⟩) hK hN hZ hP hD hS hA [] rfl (by decide) rfl rfl hl.1 rfl (Nat.le_of_ble_eq_true rfl) dX8_layRow_77 ⟨Nat.zero_le _, Nat.zero_le _⟩ (fun H locs hP hD hS => ?_)
            have hP : va_P G vwCl (wM c ax x_24) H := hP
            have hD : va_D A (wM c ax x_24) := hD
            refine lv_iadd hx hb dX8_layRow_80 ?_
            refine lv_topi (fun x5_81 e_x5_81 => ?_)
            have hm := nmd_s hm x5_81 e_x5_81
            refine lv_istore (lv' := [(5, .int x5_81), (0, .ref (ax 0)), (1, .int p0), (2, .int p1), (3, .int ((10 * p0) + p1)), (4, .int v4_24)]) hx hb dX8_layRow_81 hl (by decide) rfl (fun ls hl => ?_)
            refine lv_aload_n hx hb dX8_layRow_83 rfl (lv_at hl 1 rfl) ?_
            refine va_get (D := G) (ci := 8) (v := .ref (ax 7)) (C := RX8) (T := TX8) (N := 22) hx hb hts hi_8 hown hK hP 0 rfl rfl 19 (by decide) (hts (.fieldLink RX8 39 "HubTrainsModel" "longer" "[I") (List.mem_of_getElem? (i := 1) rfl)) (fun _ h9 => h9) rfl dX8_layRow_84 ?_
            refine lv_iload_n hx hb dX8_layRow_87 rfl (lv_at hl 4 rfl) ?_
            refine lv_aload_n hx hb dX8_layRow_88 rfl (lv_at hl 1 rfl) ?_
            refine va_get (D := G) (ci := 8) (v := .ref (ax 7)) (C := RX8) (T := TX8) (N := 22) hx hb hts hi_8 hown hK hP 0 rfl rfl 19 (by decide) (hts (.fieldLink RX8 39 "HubTrainsModel" "longer" "[I") (List.mem_of_getElem? (i := 1) rfl)) (fun _ h9 => h9) rfl dX8_layRow_89 ?_
            refine lv_iload_n hx hb dX8_layRow_92 rfl (lv_at hl 4 rfl) ?_
            obtain ⟨h_93, hm⟩ := gd_s hm
            refine va_iald (D := G) hx hb hK hP 7 0 rfl rfl (inb_s h_93) dX8_layRow_93 ?_
            refine lv_aload_n hx hb dX8_layRow_94 rfl (lv_at hl 1 rfl) ?_
            refine va_get (D := G) (ci := 8) (v := .ref (ax 7)) (C := RX8) (T := TX8) (N := 22) hx hb hts hi_8 hown hK hP 0 rfl rfl 19 (by decide) (hts (.fieldLink RX8 39 "HubTrainsModel" "longer" "[I") (List.mem_of_getElem? (i := 1) rfl)) (fun _ h9 => h9) rfl dX8_layRow_95 ?_
            refine lv_iload hx hb dX8_layRow_98 (lv_at hl 0 rfl) ?_
            obtain ⟨h_100, hm⟩ := gd_s hm
            refine va_iald (D := G) hx hb hK hP 7 0 rfl rfl (inb_s h_100) dX8_layRow_100 ?_
            refine lv_iconst (v := 1) hx hb dX8_layRow_101 (by decide) ?_
            refine lv_iadd hx hb dX8_layRow_102 ?_
            refine va_mmax hx hb (hml.trans hl.1.symm) hown (hts (.methodLink RX8 282 Lib.Math.max.name) (List.mem_of_getElem? (i := 5) rfl)) (hts (.static Lib.Math.max.name) (List.mem_of_getElem? (i := 6) rfl)) (hts (.initialized "java/lang/Math") (List.mem_of_getElem? (i := 7) rfl)) (hts (.code Lib.Math.max.name Lib.Math.max.code 2 (some .int)) (List.mem_of_getElem? (i := 8) rfl)) (Nat.le_of_ble_eq_true rfl) (Nat.le_of_ble_eq_true rfl) (Nat.zero_le _) (Nat.zero_le _) dX8_layRow_103 ?_
            obtain ⟨h_106, hm⟩ := gd_s hm
            refine va_iast (D := G) hx hb hK hP hD hS 7 0 rfl rfl (inb_s h_106) dX8_layRow_106 (fun H locs hP hD hS => ?_)
            obtain ⟨w106, e_w106⟩ : ∃ z : Nat → Int32, z = upd (x_24.1.2 5) ((10 * p0) + p1).toNatClampNeg (if ((x_24.1.2 5) ((10 * p0) + p1).toNatClampNeg) < (((x_24.1.2 5) x5_81.toNatClampNeg) + 1) then (((x_24.1.2 5) x5_81.toNatClampNeg) + 1) else ((x_24.1.2 5) ((10 * p0) + p1).toNatClampNeg)) := ⟨_, rfl⟩
            have hP : va_P G vwCl (wM c ax ((sa x_24.1 5 w106), x_24.2)) H := by rw [e_w106]; exact hP
            have hD : va_D A (wM c ax ((sa x_24.1 5 w106), x_24.2)) := by rw [e_w106]; exact hD
            have hm := nmd_s hm w106 e_w106
            refine lv_aload_n hx hb dX8_layRow_107 rfl (lv_at hl 1 rfl) ?_
            refine va_get (D := G) (ci := 8) (v := .ref (ax 8)) (C := RX8) (T := TX8) (N := 22) hx hb hts hi_8 hown hK hP 0 rfl rfl 20 (by decide) (hts (.fieldLink RX8 42 "HubTrainsModel" "heavier" "[I") (List.mem_of_getElem? (i := 2) rfl)) (fun _ h9 => h9) rfl dX8_layRow_108 ?_
            refine lv_iload_n hx hb dX8_layRow_111 rfl (lv_at hl 4 rfl) ?_
            refine lv_aload_n hx hb dX8_layRow_112 rfl (lv_at hl 1 rfl) ?_
            refine va_get (D := G) (ci := 8) (v := .ref (ax 8)) (C := RX8) (T := TX8) (N := 22) hx hb hts hi_8 hown hK hP 0 rfl rfl 20 (by decide) (hts (.fieldLink RX8 42 "HubTrainsModel" "heavier" "[I") (List.mem_of_getElem? (i := 2) rfl)) (fun _ h9 => h9) rfl dX8_layRow_113 ?_
            refine lv_iload_n hx hb dX8_layRow_116 rfl (lv_at hl 4 rfl) ?_
            obtain ⟨h_117, hm⟩ := gd_s hm
            refine va_iald (D := G) hx hb hK hP 8 0 rfl rfl (inb_s h_117) dX8_layRow_117 ?_
            refine lv_aload_n hx hb dX8_layRow_118 rfl (lv_at hl 1 rfl) ?_
            refine va_get (D := G) (ci := 8) (v := .ref (ax 8)) (C := RX8) (T := TX8) (N := 22) hx hb hts hi_8 hown hK hP 0 rfl rfl 20 (by decide) (hts (.fieldLink RX8 42 "HubTrainsModel" "heavier" "[I") (List.mem_of_getElem? (i := 2) rfl)) (fun _ h9 => h9) rfl dX8_layRow_119 ?_
            refine lv_iload hx hb dX8_layRow_122 (lv_at hl 0 rfl) ?_
            obtain ⟨h_124, hm⟩ := gd_s hm
            refine va_iald (D := G) hx hb hK hP 8 0 rfl rfl (inb_s h_124) dX8_layRow_124 ?_
            refine lv_aload_n hx hb dX8_layRow_125 rfl (lv_at hl 1 rfl) ?_
            refine va_get (D := G) (ci := 8) (v := .ref (ax 6)) (C := RX8) (T := TX8) (N := 22) hx hb hts hi_8 hown hK hP 0 rfl rfl 18 (by decide) (hts (.fieldLink RX8 35 "HubTrainsModel" "tiles" "[I") (List.mem_of_getElem? (i := 4) rfl)) (fun _ h9 => h9) rfl dX8_layRow_126 ?_
            refine lv_iload hx hb dX8_layRow_129 (lv_at hl 5 rfl) ?_
            obtain ⟨h_131, hm⟩ := gd_s hm
            refine va_iald (D := G) hx hb hK hP 6 0 rfl rfl (inb_s h_131) dX8_layRow_131 ?_
            obtain ⟨r132, e_132, hm⟩ := bd1_s hm
            refine zcSi (As := [.int ((x_24.1.2 4) v4_24.toNatClampNeg)]) (rest := [.int ((x_24.1.2 6) x5_81.toNatClampNeg), .int ((x_24.1.2 6) ((10 * p0) + p1).toNatClampNeg), .int ((10 * p0) + p1), .ref (ax 8)]) ⟨hx, hb, hml, hown, hts⟩ (k_X8_pipsOf l G K c ((x_24.1.2 4) v4_24.toNatClampNeg) r132 e_132) (va_cwS 1 hts gX8_layRow_X8_pipsOf rfl rfl rfl hd_X8_pipsOf.2 ⟨Nat.le_of_ble_eq_true rfl, Nat.le_of_ble_eq_true rfl⟩) hK hN hZ hP hD hS hA [] rfl (by decide) rfl rfl hl.1 rfl (Nat.le_of_ble_eq_true rfl) dX8_layRow_132 ⟨Nat.zero_le _, Nat.zero_le _⟩ (fun H locs hP hD hS => ?_)
            have hP : va_P G vwCl (wM c ax ((sa x_24.1 5 w106), x_24.2)) H := hP
            have hD : va_D A (wM c ax ((sa x_24.1 5 w106), x_24.2)) := hD
            refine lv_iadd hx hb dX8_layRow_135 ?_
            refine va_mmax hx hb (hml.trans hl.1.symm) hown (hts (.methodLink RX8 282 Lib.Math.max.name) (List.mem_of_getElem? (i := 5) rfl)) (hts (.static Lib.Math.max.name) (List.mem_of_getElem? (i := 6) rfl)) (hts (.initialized "java/lang/Math") (List.mem_of_getElem? (i := 7) rfl)) (hts (.code Lib.Math.max.name Lib.Math.max.code 2 (some .int)) (List.mem_of_getElem? (i := 8) rfl)) (Nat.le_of_ble_eq_true rfl) (Nat.le_of_ble_eq_true rfl) (Nat.zero_le _) (Nat.zero_le _) dX8_layRow_136 ?_
            obtain ⟨h_139, hm⟩ := gd_s hm
            refine va_iast (D := G) hx hb hK hP hD hS 8 0 rfl rfl (inb_s h_139) dX8_layRow_139 (fun H locs hP hD hS => ?_)
            obtain ⟨w139, e_w139⟩ : ∃ z : Nat → Int32, z = upd (x_24.1.2 6) ((10 * p0) + p1).toNatClampNeg (if ((x_24.1.2 6) ((10 * p0) + p1).toNatClampNeg) < (((x_24.1.2 6) x5_81.toNatClampNeg) + r132) then (((x_24.1.2 6) x5_81.toNatClampNeg) + r132) else ((x_24.1.2 6) ((10 * p0) + p1).toNatClampNeg)) := ⟨_, rfl⟩
            have hP : va_P G vwCl (wM c ax ((sa (sa x_24.1 5 w106) 6 w139), x_24.2)) H := by rw [e_w139]; exact hP
            have hD : va_D A (wM c ax ((sa (sa x_24.1 5 w106) 6 w139), x_24.2)) := by rw [e_w139]; exact hD
            have hm := nmd_s hm w139 e_w139
            refine lv_iinc (k := 5) (v := (v4_24 + 1)) (lv' := [(4, .int (v4_24 + 1)), (5, .int x5_81), (0, .ref (ax 0)), (1, .int p0), (2, .int p1), (3, .int ((10 * p0) + p1))]) hx hb dX8_layRow_140 hl rfl rfl (by decide) rfl (fun ls hl => ?_)
            refine lv_goto (tgt := 24) hx hb dX8_layRow_143 (by decide) ?_
            exact ih_24 (v4_24 + 1) ((sa (sa x_24.1 5 w106) 6 w139), x_24.2) H locs ls hP hD hS (lv_sub hl [2, 3, 4, 5, 0] rfl) hm
          · have hm := ifp c_54 hm
            refine lv_goto (tgt := 140) hx hb dX8_layRow_57 (by decide) ?_
            refine lv_iinc (k := 4) (v := (v4_24 + 1)) (lv' := [(4, .int (v4_24 + 1)), (0, .ref (ax 0)), (1, .int p0), (2, .int p1), (3, .int ((10 * p0) + p1))]) hx hb dX8_layRow_140 hl rfl rfl (by decide) rfl (fun ls hl => ?_)
            refine lv_goto (tgt := 24) hx hb dX8_layRow_143 (by decide) ?_
            exact ih_24 (v4_24 + 1) x_24 H locs ls hP hD hS (lv_sub hl [1, 2, 3, 4, 0] rfl) hm
  exact L_24 FUEL 0 ((sa (sa x.1 5 w13) 6 w20), x.2) H locs ls hP hD hS (lv_sub hl [2, 3, 4, 1, 0] rfl) hm

def f_X8_layRows_B71 (rec_64 : Int32 → MS → Option (Int32 × MS)) (v3_64 : Int32) (rec_71 : Int32 → MS → Option (Int32 × MS)) (v4_71 : Int32) (x_71 : MS) : Option (Int32 × MS) :=
  if (10 : Int32) ≤ v4_71 then (rec_64 (v3_64 + (-1)) x_71) else (bd1 (f_X8_layRow x_71 v3_64 v4_71) fun (x82 : MS) => rec_71 (v4_71 + 1) x82)

def f_X8_layRows_B64  (rec_64 : Int32 → MS → Option (Int32 × MS)) (v3_64 : Int32) (x_64 : MS) : Option (Int32 × MS) :=
  if v3_64 < 0 then (some (1, x_64)) else (itr2 (f_X8_layRows_B71 rec_64 v3_64) FUEL 0 x_64)

def f_X8_layRows_B24 (p0 : Int32) (rec_24 : Int32 → Int32 → MS → Option (Int32 × MS)) (v2_24 : Int32) (v3_24 : Int32) (x_24 : MS) : Option (Int32 × MS) :=
  if (100 : Int32) ≤ v3_24 then (nmd (((1 : Int32) <<< (v2_24 &&& 31)) - 1) fun (x3_63 : Int32) => itr2 f_X8_layRows_B64 FUEL x3_63 x_24) else (bd1 (f_X8_isInHand x_24 p0 v3_24) fun (r33 : Int32) => if r33 = 0 then (rec_24 v2_24 (v3_24 + 1) x_24) else (gd (inb v2_24 12) <| nmd (upd (x_24.1.2 4) v2_24.toNatClampNeg v3_24) fun (w48 : Nat → Int32) => rec_24 (v2_24 + 1) (v3_24 + 1) ((sa x_24.1 4 w48), x_24.2)))

def f_X8_layRows (x : MS) (p0 : Int32) : Option (Int32 × MS) :=
  bd1 (f_X8_hand x p0) fun (r3 : Int32) => if r3 ≤ 12 then (itr3 (f_X8_layRows_B24 p0) FUEL 0 0 ((ss x.1 12 r3), x.2)) else (some (0, ((ss x.1 12 r3), x.2)))

abbrev rm_X8_layRows : Room := { frames := 2, cells := 0, slots := 0, locals := 48 }
theorem hd_X8_layRows : yX8_layRows.cls = RX8 ∧ yX8_layRows.cls ≠ "java/lang/invoke/MethodHandle" ∧ yX8_layRows.cls ≠ "java/lang/invoke/VarHandle" ∧ (parseMethodDescriptor yX8_layRows.desc).map (fun d => d.parameters.length) = some 1 := by decide +kernel
set_option maxHeartbeats 4000000 in
set_option maxRecDepth 100000 in
theorem k_X8_layRows (l : Launch) (G : va_G) (K : (Nat → Nat) × (Nat → Nat)) (c : Nat → ClassId) (ax : Nat → Nat) (x : MS) (p0 : Int32) (r : Int32) (x_r : MS) (hm : f_X8_layRows x p0 = some (r, x_r)) : zMi l yX8_layRows wsX8_layRows (rm_X8_layRows) G K (TY c) [.ref (ax 0), .int p0] (wM c ax x) (wM c ax x_r) r := by
  refine zMi.of (cc := cX8_layRows) (maxL := 5) (lv := [(0, .ref (ax 0)), (1, .int p0)]) (by decide) rfl (Nat.le_of_ble_eq_true rfl) rfl ?_
  intro p e s m args below meth c1 A Q H locs hx hb hml hown hts hK hN hZ hP hD hA hS hend ls hl
  have hown : s.vm.findClass RX8 = some m.cls := hown
  have hi_8 : ∀ w ∈ wsX80, w ∈ wsX8_layRows := (fun w h => List.mem_cons_of_mem _ (List.mem_append_right _ (h)))
  unfold f_X8_layRows at hm
  refine lv_aload_n hx hb dX8_layRows_0 rfl (lv_at hl 0 rfl) ?_
  refine lv_aload_n hx hb dX8_layRows_1 rfl (lv_at hl 0 rfl) ?_
  refine lv_iload_n hx hb dX8_layRows_2 rfl (lv_at hl 1 rfl) ?_
  obtain ⟨r3, e_3, hm⟩ := bd1_s hm
  refine zcWi (As := [.int p0]) (rest := [.ref (ax 0)]) ⟨hx, hb, hml, hown, hts⟩ (k_X8_hand l G K c ax x p0 r3 e_3) (cwV 1 hts gX8_layRows_X8_hand rfl rfl rfl hd_X8_hand ⟨Nat.le_of_ble_eq_true rfl, Nat.le_of_ble_eq_true rfl⟩) hK hN hZ hP hD hS hA (va_recv hK hP (ci := 8) (q0 := 0) rfl rfl) rfl hl.1 rfl (Nat.le_of_ble_eq_true rfl) dX8_layRows_3 ⟨Nat.zero_le _, Nat.zero_le _⟩ (fun H locs hP hD hS => ?_)
  have hP : va_P G vwCl (wM c ax x) H := hP
  have hD : va_D A (wM c ax x) := hD
  refine va_put (D := G) (ci := 8) (v := .int r3) (C := RX8) (T := TX8) (N := 22) hx hb hts hi_8 tyX8 tyX8_ok nmX8 hown hK hP hD hS 0 rfl rfl 21 (by decide) (hts (.fieldLink RX8 273 "HubTrainsModel" "inHand" "I") (List.mem_of_getElem? (i := 1) rfl)) (fun _ h9 => h9) rfl (tyX8_ok 21 (by decide)) rfl rfl (Nat.le_of_ble_eq_true rfl) dX8_layRows_6 (fun H locs hP hD hS => ?_)
  have hP : va_P G vwCl (wM c ax ((ss x.1 12 r3), x.2)) H := hP
  have hD : va_D A (wM c ax ((ss x.1 12 r3), x.2)) := hD
  refine lv_aload_n hx hb dX8_layRows_9 rfl (lv_at hl 0 rfl) ?_
  refine va_get (D := G) (ci := 8) (v := .int r3) (C := RX8) (T := TX8) (N := 22) hx hb hts hi_8 hown hK hP 0 rfl rfl 21 (by decide) (hts (.fieldLink RX8 273 "HubTrainsModel" "inHand" "I") (List.mem_of_getElem? (i := 1) rfl)) (fun _ h9 => h9) rfl dX8_layRows_10 ?_
  refine lv_bipush (v := 12) hx hb dX8_layRows_13 (by decide) ?_
  refine lv_icmp_le (tgt := 20) hx hb dX8_layRows_15 (by decide) (fun c_15 => ?_) (fun c_15 => ?_)
  · have hm := ifp c_15 hm
    refine lv_iconst (v := 0) hx hb dX8_layRows_20 (by decide) ?_
    refine lv_istore_n (lv' := [(2, .int 0), (0, .ref (ax 0)), (1, .int p0)]) hx hb dX8_layRows_21 rfl hl (by decide) rfl (fun ls hl => ?_)
    refine lv_iconst (v := 0) hx hb dX8_layRows_22 (by decide) ?_
    refine lv_istore_n (lv' := [(3, .int 0), (2, .int 0), (0, .ref (ax 0)), (1, .int p0)]) hx hb dX8_layRows_23 rfl hl (by decide) rfl (fun ls hl => ?_)
    have L_24 : ∀ (n_24 : Nat) (v2_24 : Int32) (v3_24 : Int32) (x_24 : MS) (H : Heap) (locs : List Loc) (ls : Array Slot), va_P G vwCl (wM c ax x_24) H → va_D A (wM c ax x_24) → va_S A s.heap H locs → lv_has ls 5 [(0, .ref (ax 0)), (1, .int p0), (2, .int v2_24), (3, .int v3_24)] → itr3 (f_X8_layRows_B24 p0) n_24 v2_24 v3_24 x_24 = some (r, x_r) → W p l e (rm_X8_layRows) s m args below meth c1 H locs 0 0 Q (F0 m 24 ls []) := by
      intro n_24
      induction n_24 with
      | zero => intro v2_24 v3_24 x_24 H locs ls hP hD hS hl hm; exact (itr3_0 hm).elim
      | succ n_24 ih_24 =>
        intro v2_24 v3_24 x_24 H locs ls hP hD hS hl hm
        have hm := itr3_s hm
        unfold f_X8_layRows_B24 at hm
        refine lv_iload_n hx hb dX8_layRows_24 rfl (lv_at hl 3 rfl) ?_
        refine lv_bipush (v := 100) hx hb dX8_layRows_25 (by decide) ?_
        refine lv_icmp_ge (tgt := 58) hx hb dX8_layRows_27 (by decide) (fun c_27 => ?_) (fun c_27 => ?_)
        · have hm := ifp c_27 hm
          refine lv_iconst (v := 1) hx hb dX8_layRows_58 (by decide) ?_
          refine lv_iload_n hx hb dX8_layRows_59 rfl (lv_at hl 2 rfl) ?_
          refine lv_ishl hx hb dX8_layRows_60 ?_
          refine lv_iconst (v := 1) hx hb dX8_layRows_61 (by decide) ?_
          refine lv_isub hx hb dX8_layRows_62 ?_
          refine lv_topi (fun x3_63 e_x3_63 => ?_)
          have hm := nmd_s hm x3_63 e_x3_63
          refine lv_istore_n (lv' := [(3, .int x3_63), (0, .ref (ax 0)), (1, .int p0), (2, .int v2_24)]) hx hb dX8_layRows_63 rfl hl (by decide) rfl (fun ls hl => ?_)
          have L_64 : ∀ (n_64 : Nat) (v3_64 : Int32) (x_64 : MS) (H : Heap) (locs : List Loc) (ls : Array Slot), va_P G vwCl (wM c ax x_64) H → va_D A (wM c ax x_64) → va_S A s.heap H locs → lv_has ls 5 [(0, .ref (ax 0)), (3, .int v3_64)] → itr2 f_X8_layRows_B64 n_64 v3_64 x_64 = some (r, x_r) → W p l e (rm_X8_layRows) s m args below meth c1 H locs 0 0 Q (F0 m 64 ls []) := by
            intro n_64
            induction n_64 with
            | zero => intro v3_64 x_64 H locs ls hP hD hS hl hm; exact (itr2_0 hm).elim
            | succ n_64 ih_64 =>
              intro v3_64 x_64 H locs ls hP hD hS hl hm
              have hm := itr2_s hm
              unfold f_X8_layRows_B64 at hm
              refine lv_iload_n hx hb dX8_layRows_64 rfl (lv_at hl 1 rfl) ?_
              refine lv_if_lt (tgt := 97) hx hb dX8_layRows_65 (by decide) (fun c_65 => ?_) (fun c_65 => ?_)
              · have hm := ifp c_65 hm
                refine lv_iconst (v := 1) hx hb dX8_layRows_97 (by decide) ?_
                exact hend H locs ls _ _ _ (by decide) (Prod.mk.inj (Option.some.inj hm)).1 (zc1 (fun (z0 : MS) => (wM c ax z0 : va_W)) (Prod.mk.inj (Option.some.inj hm)).2) hP hD hS dX8_layRows_98
              · have hm := ifn c_65 hm
                refine lv_iconst (v := 0) hx hb dX8_layRows_68 (by decide) ?_
                refine lv_istore (lv' := [(4, .int 0), (0, .ref (ax 0)), (3, .int v3_64)]) hx hb dX8_layRows_69 hl (by decide) rfl (fun ls hl => ?_)
                have L_71 : ∀ (n_71 : Nat) (v4_71 : Int32) (x_71 : MS) (H : Heap) (locs : List Loc) (ls : Array Slot), va_P G vwCl (wM c ax x_71) H → va_D A (wM c ax x_71) → va_S A s.heap H locs → lv_has ls 5 [(0, .ref (ax 0)), (3, .int v3_64), (4, .int v4_71)] → itr2 (f_X8_layRows_B71 (itr2 f_X8_layRows_B64 n_64) v3_64) n_71 v4_71 x_71 = some (r, x_r) → W p l e (rm_X8_layRows) s m args below meth c1 H locs 0 0 Q (F0 m 71 ls []) := by
                  intro n_71
                  induction n_71 with
                  | zero => intro v4_71 x_71 H locs ls hP hD hS hl hm; exact (itr2_0 hm).elim
                  | succ n_71 ih_71 =>
                    intro v4_71 x_71 H locs ls hP hD hS hl hm
                    have hm := itr2_s hm
                    unfold f_X8_layRows_B71 at hm
                    refine lv_iload hx hb dX8_layRows_71 (lv_at hl 2 rfl) ?_
                    refine lv_bipush (v := 10) hx hb dX8_layRows_73 (by decide) ?_
                    refine lv_icmp_ge (tgt := 91) hx hb dX8_layRows_75 (by decide) (fun c_75 => ?_) (fun c_75 => ?_)
                    · have hm := ifp c_75 hm
                      refine lv_iinc (k := 1) (v := (v3_64 + (-1))) (lv' := [(3, .int (v3_64 + (-1))), (0, .ref (ax 0)), (4, .int v4_71)]) hx hb dX8_layRows_91 hl rfl rfl (by decide) rfl (fun ls hl => ?_)
                      refine lv_goto (tgt := 64) hx hb dX8_layRows_94 (by decide) ?_
                      exact ih_64 (v3_64 + (-1)) x_71 H locs ls hP hD hS (lv_sub hl [1, 0] rfl) hm
                    · have hm := ifn c_75 hm
                      refine lv_aload_n hx hb dX8_layRows_78 rfl (lv_at hl 0 rfl) ?_
                      refine lv_iload_n hx hb dX8_layRows_79 rfl (lv_at hl 1 rfl) ?_
                      refine lv_iload hx hb dX8_layRows_80 (lv_at hl 2 rfl) ?_
                      obtain ⟨x82, e_82, hm⟩ := bd1_s hm
                      refine zcWv (As := [.int v3_64, .int v4_71]) (rest := []) ⟨hx, hb, hml, hown, hts⟩ (k_X8_layRow l G K c ax x_71 v3_64 v4_71 x82 e_82) (cwV 2 hts gX8_layRows_X8_layRow rfl rfl rfl hd_X8_layRow ⟨Nat.le_of_ble_eq_true rfl, Nat.le_of_ble_eq_true rfl⟩) hK hN hZ hP hD hS hA (va_recv hK hP (ci := 8) (q0 := 0) rfl rfl) rfl hl.1 rfl (Nat.le_of_ble_eq_true rfl) dX8_layRows_82 ⟨Nat.zero_le _, Nat.zero_le _⟩ (fun H locs hP hD hS => ?_)
                      have hP : va_P G vwCl (wM c ax x82) H := hP
                      have hD : va_D A (wM c ax x82) := hD
                      refine lv_iinc (k := 2) (v := (v4_71 + 1)) (lv' := [(4, .int (v4_71 + 1)), (0, .ref (ax 0)), (3, .int v3_64)]) hx hb dX8_layRows_85 hl rfl rfl (by decide) rfl (fun ls hl => ?_)
                      refine lv_goto (tgt := 71) hx hb dX8_layRows_88 (by decide) ?_
                      exact ih_71 (v4_71 + 1) x82 H locs ls hP hD hS (lv_sub hl [1, 2, 0] rfl) hm
                exact L_71 FUEL 0 x_64 H locs ls hP hD hS (lv_sub hl [1, 2, 0] rfl) hm
          exact L_64 FUEL x3_63 x_24 H locs ls hP hD hS (lv_sub hl [1, 0] rfl) hm
        · have hm := ifn c_27 hm
          refine lv_aload_n hx hb dX8_layRows_30 rfl (lv_at hl 0 rfl) ?_
          refine lv_iload_n hx hb dX8_layRows_31 rfl (lv_at hl 1 rfl) ?_
          refine lv_iload_n hx hb dX8_layRows_32 rfl (lv_at hl 3 rfl) ?_
          obtain ⟨r33, e_33, hm⟩ := bd1_s hm
          refine zcWi (As := [.int p0, .int v3_24]) (rest := []) ⟨hx, hb, hml, hown, hts⟩ (k_X8_isInHand l G K c ax x_24 p0 v3_24 r33 e_33) (cwV 2 hts gX8_layRows_X8_isInHand rfl rfl rfl hd_X8_isInHand ⟨Nat.le_of_ble_eq_true rfl, Nat.le_of_ble_eq_true rfl⟩) hK hN hZ hP hD hS hA (va_recv hK hP (ci := 8) (q0 := 0) rfl rfl) rfl hl.1 rfl (Nat.le_of_ble_eq_true rfl) dX8_layRows_33 ⟨Nat.zero_le _, Nat.zero_le _⟩ (fun H locs hP hD hS => ?_)
          have hP : va_P G vwCl (wM c ax x_24) H := hP
          have hD : va_D A (wM c ax x_24) := hD
          refine lv_if_ne (tgt := 42) hx hb dX8_layRows_36 (by decide) (fun c_36 => ?_) (fun c_36 => ?_)
          · have hm := ifn c_36 hm
            refine lv_aload_n hx hb dX8_layRows_42 rfl (lv_at hl 0 rfl) ?_
            refine va_get (D := G) (ci := 8) (v := .ref (ax 6)) (C := RX8) (T := TX8) (N := 22) hx hb hts hi_8 hown hK hP 0 rfl rfl 18 (by decide) (hts (.fieldLink RX8 35 "HubTrainsModel" "tiles" "[I") (List.mem_of_getElem? (i := 2) rfl)) (fun _ h9 => h9) rfl dX8_layRows_43 ?_
            refine lv_iload_n hx hb dX8_layRows_46 rfl (lv_at hl 2 rfl) ?_
            refine lv_iload_n hx hb dX8_layRows_47 rfl (lv_at hl 3 rfl) ?_
            obtain ⟨h_48, hm⟩ := gd_s hm
            refine va_iast (D := G) hx hb hK hP hD hS 6 0 rfl rfl (inb_s h_48) dX8_layRows_48 (fun H locs hP hD hS => ?_)
            obtain ⟨w48, e_w48⟩ : ∃ z : Nat → Int32, z = upd (x_24.1.2 4) v2_24.toNatClampNeg v3_24 := ⟨_, rfl⟩
            have hP : va_P G vwCl (wM c ax ((sa x_24.1 4 w48), x_24.2)) H := by rw [e_w48]; exact hP
            have hD : va_D A (wM c ax ((sa x_24.1 4 w48), x_24.2)) := by rw [e_w48]; exact hD
            have hm := nmd_s hm w48 e_w48
            refine lv_iinc (k := 2) (v := (v2_24 + 1)) (lv' := [(2, .int (v2_24 + 1)), (0, .ref (ax 0)), (1, .int p0), (3, .int v3_24)]) hx hb dX8_layRows_49 hl rfl rfl (by decide) rfl (fun ls hl => ?_)
            refine lv_iinc (k := 3) (v := (v3_24 + 1)) (lv' := [(3, .int (v3_24 + 1)), (2, .int (v2_24 + 1)), (0, .ref (ax 0)), (1, .int p0)]) hx hb dX8_layRows_52 hl rfl rfl (by decide) rfl (fun ls hl => ?_)
            refine lv_goto (tgt := 24) hx hb dX8_layRows_55 (by decide) ?_
            exact ih_24 (v2_24 + 1) (v3_24 + 1) ((sa x_24.1 4 w48), x_24.2) H locs ls hP hD hS (lv_sub hl [2, 3, 1, 0] rfl) hm
          · have hm := ifp c_36 hm
            refine lv_goto (tgt := 52) hx hb dX8_layRows_39 (by decide) ?_
            refine lv_iinc (k := 3) (v := (v3_24 + 1)) (lv' := [(3, .int (v3_24 + 1)), (0, .ref (ax 0)), (1, .int p0), (2, .int v2_24)]) hx hb dX8_layRows_52 hl rfl rfl (by decide) rfl (fun ls hl => ?_)
            refine lv_goto (tgt := 24) hx hb dX8_layRows_55 (by decide) ?_
            exact ih_24 v2_24 (v3_24 + 1) x_24 H locs ls hP hD hS (lv_sub hl [1, 2, 3, 0] rfl) hm
    exact L_24 FUEL 0 0 ((ss x.1 12 r3), x.2) H locs ls hP hD hS (lv_sub hl [2, 3, 1, 0] rfl) hm
  · have hm := ifn c_15 hm
    refine lv_iconst (v := 0) hx hb dX8_layRows_18 (by decide) ?_
    exact hend H locs ls _ _ _ (by decide) (Prod.mk.inj (Option.some.inj hm)).1 (zc1 (fun (z0 : MS) => (wM c ax z0 : va_W)) (Prod.mk.inj (Option.some.inj hm)).2) hP hD hS dX8_layRows_19

def f_X8_nextIn_B2 (x : MS) (p0 : Int32) (p1 : Int32) (rec_2 : Int32 → Option Int32) (v3_2 : Int32) : Option Int32 :=
  if ((p0 >>> (v3_2 &&& 31)) &&& 1) = 1 then (rec_2 (v3_2 + 1)) else (gd (inb v3_2 12) <| bd1 (f_X8_fits ((x.1.2 4) v3_2.toNatClampNeg) p1) fun (r18 : Int32) => if r18 = 0 then (rec_2 (v3_2 + 1)) else (gd (inb v3_2 12) <| bd1 (f_X8_other ((x.1.2 4) v3_2.toNatClampNeg) p1) fun (r43 : Int32) => gd (inb ((10 * (p0 ||| ((1 : Int32) <<< (v3_2 &&& 31)))) + r43) 40960) <| gd (inb ((10 * p0) + p1) 40960) <| if ((x.1.2 5) ((10 * (p0 ||| ((1 : Int32) <<< (v3_2 &&& 31)))) + r43).toNatClampNeg) = (((x.1.2 5) ((10 * p0) + p1).toNatClampNeg) - 1) then (some (v3_2)) else (rec_2 (v3_2 + 1))))

def f_X8_nextIn (x : MS) (p0 : Int32) (p1 : Int32) : Option Int32 :=
  itr1 (f_X8_nextIn_B2 x p0 p1) FUEL 0

abbrev rm_X8_nextIn : Room := { frames := 1, cells := 0, slots := 0, locals := 21 }
theorem hd_X8_nextIn : yX8_nextIn.cls = RX8 ∧ yX8_nextIn.cls ≠ "java/lang/invoke/MethodHandle" ∧ yX8_nextIn.cls ≠ "java/lang/invoke/VarHandle" ∧ (parseMethodDescriptor yX8_nextIn.desc).map (fun d => d.parameters.length) = some 2 := by decide +kernel
set_option maxHeartbeats 4000000 in
set_option maxRecDepth 100000 in
theorem k_X8_nextIn (l : Launch) (G : va_G) (K : (Nat → Nat) × (Nat → Nat)) (c : Nat → ClassId) (ax : Nat → Nat) (x : MS) (p0 : Int32) (p1 : Int32) (r : Int32) (hm : f_X8_nextIn x p0 p1 = some (r)) : zMi l yX8_nextIn wsX8_nextIn (rm_X8_nextIn) G K (TY c) [.ref (ax 0), .int p0, .int p1] (wM c ax x) (wM c ax x) r := by
  refine zMi.of (cc := cX8_nextIn) (maxL := 4) (lv := [(0, .ref (ax 0)), (1, .int p0), (2, .int p1)]) (by decide) rfl (Nat.le_of_ble_eq_true rfl) rfl ?_
  intro p e s m args below meth c1 A Q H locs hx hb hml hown hts hK hN hZ hP hD hA hS hend ls hl
  have hown : s.vm.findClass RX8 = some m.cls := hown
  have hi_8 : ∀ w ∈ wsX80, w ∈ wsX8_nextIn := (fun w h => List.mem_cons_of_mem _ (List.mem_append_right _ (h)))
  unfold f_X8_nextIn at hm
  refine lv_iconst (v := 0) hx hb dX8_nextIn_0 (by decide) ?_
  refine lv_istore_n (lv' := [(3, .int 0), (0, .ref (ax 0)), (1, .int p0), (2, .int p1)]) hx hb dX8_nextIn_1 rfl hl (by decide) rfl (fun ls hl => ?_)
  have L_2 : ∀ (n_2 : Nat) (v3_2 : Int32) (H : Heap) (locs : List Loc) (ls : Array Slot), va_P G vwCl (wM c ax x) H → va_D A (wM c ax x) → va_S A s.heap H locs → lv_has ls 4 [(0, .ref (ax 0)), (1, .int p0), (2, .int p1), (3, .int v3_2)] → itr1 (f_X8_nextIn_B2 x p0 p1) n_2 v3_2 = some (r) → W p l e (rm_X8_nextIn) s m args below meth c1 H locs 0 0 Q (F0 m 2 ls []) := by
    intro n_2
    induction n_2 with
    | zero => intro v3_2 H locs ls hP hD hS hl hm; exact (itr1_0 hm).elim
    | succ n_2 ih_2 =>
      intro v3_2 H locs ls hP hD hS hl hm
      have hm := itr1_s hm
      unfold f_X8_nextIn_B2 at hm
      refine lv_iload_n hx hb dX8_nextIn_2 rfl (lv_at hl 1 rfl) ?_
      refine lv_iload_n hx hb dX8_nextIn_3 rfl (lv_at hl 3 rfl) ?_
      refine lv_ishr hx hb dX8_nextIn_4 ?_
      refine lv_iconst (v := 1) hx hb dX8_nextIn_5 (by decide) ?_
      refine lv_iand hx hb dX8_nextIn_6 ?_
      refine lv_iconst (v := 1) hx hb dX8_nextIn_7 (by decide) ?_
      refine lv_icmp_eq (tgt := 64) hx hb dX8_nextIn_8 (by decide) (fun c_8 => ?_) (fun c_8 => ?_)
      · have hm := ifp c_8 hm
        refine lv_iinc (k := 3) (v := (v3_2 + 1)) (lv' := [(3, .int (v3_2 + 1)), (0, .ref (ax 0)), (1, .int p0), (2, .int p1)]) hx hb dX8_nextIn_64 hl rfl rfl (by decide) rfl (fun ls hl => ?_)
        refine lv_goto (tgt := 2) hx hb dX8_nextIn_67 (by decide) ?_
        exact ih_2 (v3_2 + 1) H locs ls hP hD hS (lv_sub hl [1, 2, 3, 0] rfl) hm
      · have hm := ifn c_8 hm
        refine lv_aload_n hx hb dX8_nextIn_11 rfl (lv_at hl 0 rfl) ?_
        refine va_get (D := G) (ci := 8) (v := .ref (ax 6)) (C := RX8) (T := TX8) (N := 22) hx hb hts hi_8 hown hK hP 0 rfl rfl 18 (by decide) (hts (.fieldLink RX8 35 "HubTrainsModel" "tiles" "[I") (List.mem_of_getElem? (i := 1) rfl)) (fun _ h9 => h9) rfl dX8_nextIn_12 ?_
        refine lv_iload_n hx hb dX8_nextIn_15 rfl (lv_at hl 3 rfl) ?_
        obtain ⟨h_16, hm⟩ := gd_s hm
        refine va_iald (D := G) hx hb hK hP 6 0 rfl rfl (inb_s h_16) dX8_nextIn_16 ?_
        refine lv_iload_n hx hb dX8_nextIn_17 rfl (lv_at hl 2 rfl) ?_
        obtain ⟨r18, e_18, hm⟩ := bd1_s hm
        refine zcSi (As := [.int ((x.1.2 4) v3_2.toNatClampNeg), .int p1]) (rest := []) ⟨hx, hb, hml, hown, hts⟩ (k_X8_fits l G K c ((x.1.2 4) v3_2.toNatClampNeg) p1 r18 e_18) (va_cwS 2 hts gX8_nextIn_X8_fits rfl rfl rfl hd_X8_fits.2 ⟨Nat.le_of_ble_eq_true rfl, Nat.le_of_ble_eq_true rfl⟩) hK hN hZ hP hD hS hA [] rfl (by decide) rfl rfl hl.1 rfl (Nat.le_of_ble_eq_true rfl) dX8_nextIn_18 ⟨Nat.zero_le _, Nat.zero_le _⟩ (fun H locs hP hD hS => ?_)
        have hP : va_P G vwCl (wM c ax x) H := hP
        have hD : va_D A (wM c ax x) := hD
        refine lv_if_eq (tgt := 64) hx hb dX8_nextIn_21 (by decide) (fun c_21 => ?_) (fun c_21 => ?_)
        · have hm := ifp c_21 hm
          refine lv_iinc (k := 3) (v := (v3_2 + 1)) (lv' := [(3, .int (v3_2 + 1)), (0, .ref (ax 0)), (1, .int p0), (2, .int p1)]) hx hb dX8_nextIn_64 hl rfl rfl (by decide) rfl (fun ls hl => ?_)
          refine lv_goto (tgt := 2) hx hb dX8_nextIn_67 (by decide) ?_
          exact ih_2 (v3_2 + 1) H locs ls hP hD hS (lv_sub hl [1, 2, 3, 0] rfl) hm
        · have hm := ifn c_21 hm
          refine lv_aload_n hx hb dX8_nextIn_24 rfl (lv_at hl 0 rfl) ?_
          refine va_get (D := G) (ci := 8) (v := .ref (ax 7)) (C := RX8) (T := TX8) (N := 22) hx hb hts hi_8 hown hK hP 0 rfl rfl 19 (by decide) (hts (.fieldLink RX8 39 "HubTrainsModel" "longer" "[I") (List.mem_of_getElem? (i := 2) rfl)) (fun _ h9 => h9) rfl dX8_nextIn_25 ?_
          refine lv_bipush (v := 10) hx hb dX8_nextIn_28 (by decide) ?_
          refine lv_iload_n hx hb dX8_nextIn_30 rfl (lv_at hl 1 rfl) ?_
          refine lv_iconst (v := 1) hx hb dX8_nextIn_31 (by decide) ?_
          refine lv_iload_n hx hb dX8_nextIn_32 rfl (lv_at hl 3 rfl) ?_
          refine lv_ishl hx hb dX8_nextIn_33 ?_
          refine lv_ior hx hb dX8_nextIn_34 ?_
          refine lv_imul hx hb dX8_nextIn_35 ?_
          refine lv_aload_n hx hb dX8_nextIn_36 rfl (lv_at hl 0 rfl) ?_
          refine va_get (D := G) (ci := 8) (v := .ref (ax 6)) (C := RX8) (T := TX8) (N := 22) hx hb hts hi_8 hown hK hP 0 rfl rfl 18 (by decide) (hts (.fieldLink RX8 35 "HubTrainsModel" "tiles" "[I") (List.mem_of_getElem? (i := 1) rfl)) (fun _ h9 => h9) rfl dX8_nextIn_37 ?_
          refine lv_iload_n hx hb dX8_nextIn_40 rfl (lv_at hl 3 rfl) ?_
          obtain ⟨h_41, hm⟩ := gd_s hm
          refine va_iald (D := G) hx hb hK hP 6 0 rfl rfl (inb_s h_41) dX8_nextIn_41 ?_
          refine lv_iload_n hx hb dX8_nextIn_42 rfl (lv_at hl 2 rfl) ?_
          obtain ⟨r43, e_43, hm⟩ := bd1_s hm
          refine zcSi (As := [.int ((x.1.2 4) v3_2.toNatClampNeg), .int p1]) (rest := [.int (10 * (p0 ||| ((1 : Int32) <<< (v3_2 &&& 31)))), .ref (ax 7)]) ⟨hx, hb, hml, hown, hts⟩ (k_X8_other l G K c ((x.1.2 4) v3_2.toNatClampNeg) p1 r43 e_43) (va_cwS 2 hts gX8_nextIn_X8_other rfl rfl rfl hd_X8_other.2 ⟨Nat.le_of_ble_eq_true rfl, Nat.le_of_ble_eq_true rfl⟩) hK hN hZ hP hD hS hA [] rfl (by decide) rfl rfl hl.1 rfl (Nat.le_of_ble_eq_true rfl) dX8_nextIn_43 ⟨Nat.zero_le _, Nat.zero_le _⟩ (fun H locs hP hD hS => ?_)
          have hP : va_P G vwCl (wM c ax x) H := hP
          have hD : va_D A (wM c ax x) := hD
          refine lv_iadd hx hb dX8_nextIn_46 ?_
          obtain ⟨h_47, hm⟩ := gd_s hm
          refine va_iald (D := G) hx hb hK hP 7 0 rfl rfl (inb_s h_47) dX8_nextIn_47 ?_
          refine lv_aload_n hx hb dX8_nextIn_48 rfl (lv_at hl 0 rfl) ?_
          refine va_get (D := G) (ci := 8) (v := .ref (ax 7)) (C := RX8) (T := TX8) (N := 22) hx hb hts hi_8 hown hK hP 0 rfl rfl 19 (by decide) (hts (.fieldLink RX8 39 "HubTrainsModel" "longer" "[I") (List.mem_of_getElem? (i := 2) rfl)) (fun _ h9 => h9) rfl dX8_nextIn_49 ?_
          refine lv_bipush (v := 10) hx hb dX8_nextIn_52 (by decide) ?_
          refine lv_iload_n hx hb dX8_nextIn_54 rfl (lv_at hl 1 rfl) ?_
          refine lv_imul hx hb dX8_nextIn_55 ?_
          refine lv_iload_n hx hb dX8_nextIn_56 rfl (lv_at hl 2 rfl) ?_
          refine lv_iadd hx hb dX8_nextIn_57 ?_
          obtain ⟨h_58, hm⟩ := gd_s hm
          refine va_iald (D := G) hx hb hK hP 7 0 rfl rfl (inb_s h_58) dX8_nextIn_58 ?_
          refine lv_iconst (v := 1) hx hb dX8_nextIn_59 (by decide) ?_
          refine lv_isub hx hb dX8_nextIn_60 ?_
          refine lv_icmp_eq (tgt := 70) hx hb dX8_nextIn_61 (by decide) (fun c_61 => ?_) (fun c_61 => ?_)
          · have hm := ifp c_61 hm
            refine lv_iload_n hx hb dX8_nextIn_70 rfl (lv_at hl 3 rfl) ?_
            exact hend H locs ls _ _ _ rfl (Option.some.inj hm) rfl hP hD hS dX8_nextIn_71
          · have hm := ifn c_61 hm
            refine lv_iinc (k := 3) (v := (v3_2 + 1)) (lv' := [(3, .int (v3_2 + 1)), (0, .ref (ax 0)), (1, .int p0), (2, .int p1)]) hx hb dX8_nextIn_64 hl rfl rfl (by decide) rfl (fun ls hl => ?_)
            refine lv_goto (tgt := 2) hx hb dX8_nextIn_67 (by decide) ?_
            exact ih_2 (v3_2 + 1) H locs ls hP hD hS (lv_sub hl [1, 2, 3, 0] rfl) hm
  exact L_2 FUEL 0 H locs ls hP hD hS (lv_sub hl [1, 2, 3, 0] rfl) hm

def f_X8_noPlayer_J22 (x : MS) (s0_22 : Int32) : Option (Int32 × MS) :=
  bd2 (f_X8_fails x s0_22 1) fun (r23 : Int32) (x23 : MS) => gd (isb r23) <| some (r23, x23)

def f_X8_noPlayer (x : MS) (p0 : Int32) : Option (Int32 × MS) :=
  gd (inb 1 1464) <| bd1 (f_X8_in p0 0 (((x.1.2 1) (1 : Int32).toNatClampNeg) - 1)) fun (r11 : Int32) => if r11 = 0 then (f_X8_noPlayer_J22 x 1) else (f_X8_noPlayer_J22 x 0)

abbrev rm_X8_noPlayer : Room := { frames := 1, cells := 0, slots := 0, locals := 22 }
theorem hd_X8_noPlayer : yX8_noPlayer.cls = RX8 ∧ yX8_noPlayer.cls ≠ "java/lang/invoke/MethodHandle" ∧ yX8_noPlayer.cls ≠ "java/lang/invoke/VarHandle" ∧ (parseMethodDescriptor yX8_noPlayer.desc).map (fun d => d.parameters.length) = some 1 := by decide +kernel
set_option maxHeartbeats 4000000 in
set_option maxRecDepth 100000 in
theorem k_X8_noPlayer (l : Launch) (G : va_G) (K : (Nat → Nat) × (Nat → Nat)) (c : Nat → ClassId) (ax : Nat → Nat) (x : MS) (p0 : Int32) (r : Int32) (x_r : MS) (hm : f_X8_noPlayer x p0 = some (r, x_r)) : zMi l yX8_noPlayer wsX8_noPlayer (rm_X8_noPlayer) G K (TY c) [.ref (ax 0), .int p0] (wM c ax x) (wM c ax x_r) r := by
  refine zMi.of (cc := cX8_noPlayer) (maxL := 2) (lv := [(0, .ref (ax 0)), (1, .int p0)]) (by decide) rfl (Nat.le_of_ble_eq_true rfl) rfl ?_
  intro p e s m args below meth c1 A Q H locs hx hb hml hown hts hK hN hZ hP hD hA hS hend ls hl
  have hown : s.vm.findClass RX8 = some m.cls := hown
  have hi_8 : ∀ w ∈ wsX80, w ∈ wsX8_noPlayer := (fun w h => List.mem_cons_of_mem _ (List.mem_append_right _ (h)))
  unfold f_X8_noPlayer at hm
  refine lv_aload_n hx hb dX8_noPlayer_0 rfl (lv_at hl 0 rfl) ?_
  refine lv_iload_n hx hb dX8_noPlayer_1 rfl (lv_at hl 1 rfl) ?_
  refine lv_iconst (v := 0) hx hb dX8_noPlayer_2 (by decide) ?_
  refine lv_aload_n hx hb dX8_noPlayer_3 rfl (lv_at hl 0 rfl) ?_
  refine va_get (D := G) (ci := 8) (v := .ref (ax 2)) (C := RX8) (T := TX8) (N := 22) hx hb hts hi_8 hown hK hP 0 rfl rfl 8 (by decide) (hts (.fieldLink RX8 17 "HubTrainsModel" "data" "[I") (List.mem_of_getElem? (i := 1) rfl)) (fun _ h9 => h9) rfl dX8_noPlayer_4 ?_
  refine lv_iconst (v := 1) hx hb dX8_noPlayer_7 (by decide) ?_
  obtain ⟨h_8, hm⟩ := gd_s hm
  refine va_iald (D := G) hx hb hK hP 2 0 rfl rfl (inb_s h_8) dX8_noPlayer_8 ?_
  refine lv_iconst (v := 1) hx hb dX8_noPlayer_9 (by decide) ?_
  refine lv_isub hx hb dX8_noPlayer_10 ?_
  obtain ⟨r11, e_11, hm⟩ := bd1_s hm
  refine zcSi (As := [.int p0, .int 0, .int (((x.1.2 1) (1 : Int32).toNatClampNeg) - 1)]) (rest := [.ref (ax 0)]) ⟨hx, hb, hml, hown, hts⟩ (k_X8_in l G K c p0 0 (((x.1.2 1) (1 : Int32).toNatClampNeg) - 1) r11 e_11) (va_cwS 3 hts gX8_noPlayer_X8_in rfl rfl rfl hd_X8_in.2 ⟨Nat.le_of_ble_eq_true rfl, Nat.le_of_ble_eq_true rfl⟩) hK hN hZ hP hD hS hA [] rfl (by decide) rfl rfl hl.1 rfl (Nat.le_of_ble_eq_true rfl) dX8_noPlayer_11 ⟨Nat.zero_le _, Nat.zero_le _⟩ (fun H locs hP hD hS => ?_)
  have hP : va_P G vwCl (wM c ax x) H := hP
  have hD : va_D A (wM c ax x) := hD
  have J_22 : ∀ (s0_22 : Int32) (H : Heap) (locs : List Loc) (ls : Array Slot), va_P G vwCl (wM c ax x) H → va_D A (wM c ax x) → va_S A s.heap H locs → lv_has ls 2 [] → f_X8_noPlayer_J22 x s0_22 = some (r, x_r) → W p l e (rm_X8_noPlayer) s m args below meth c1 H locs 0 0 Q (F0 m 22 ls [.int s0_22, .ref (ax 0)]) := by
    intro s0_22 H locs ls hP hD hS hl hm
    unfold f_X8_noPlayer_J22 at hm
    refine lv_iconst (v := 1) hx hb dX8_noPlayer_22 (by decide) ?_
    obtain ⟨r23, x23, e_23, hm⟩ := bd2_s hm
    refine zcWi (As := [.int s0_22, .int 1]) (rest := []) ⟨hx, hb, hml, hown, hts⟩ (k_X8_fails l G K c ax x s0_22 1 r23 x23 e_23) (cwV 2 hts gX8_noPlayer_X8_fails rfl rfl rfl hd_X8_fails ⟨Nat.le_of_ble_eq_true rfl, Nat.le_of_ble_eq_true rfl⟩) hK hN hZ hP hD hS hA (va_recv hK hP (ci := 8) (q0 := 0) rfl rfl) rfl hl.1 rfl (Nat.le_of_ble_eq_true rfl) dX8_noPlayer_23 ⟨Nat.zero_le _, Nat.zero_le _⟩ (fun H locs hP hD hS => ?_)
    have hP : va_P G vwCl (wM c ax x23) H := hP
    have hD : va_D A (wM c ax x23) := hD
    obtain ⟨h_26, hm⟩ := gd_s hm
    exact hend H locs ls _ _ _ (isb_n h_26) (Prod.mk.inj (Option.some.inj hm)).1 (zc1 (fun (z0 : MS) => (wM c ax z0 : va_W)) (Prod.mk.inj (Option.some.inj hm)).2) hP hD hS dX8_noPlayer_26
  refine lv_if_ne (tgt := 21) hx hb dX8_noPlayer_14 (by decide) (fun c_14 => ?_) (fun c_14 => ?_)
  · have hm := ifn c_14 hm
    refine lv_iconst (v := 0) hx hb dX8_noPlayer_21 (by decide) ?_
    exact J_22 0 H locs ls hP hD hS (lv_sub hl [] rfl) hm
  · have hm := ifp c_14 hm
    refine lv_iconst (v := 1) hx hb dX8_noPlayer_17 (by decide) ?_
    refine lv_goto (tgt := 22) hx hb dX8_noPlayer_18 (by decide) ?_
    exact J_22 1 H locs ls hP hD hS (lv_sub hl [] rfl) hm

def f_X8_noTrain_J20 (x : MS) (s0_20 : Int32) : Option (Int32 × MS) :=
  bd2 (f_X8_fails x s0_20 1) fun (r21 : Int32) (x21 : MS) => gd (isb r21) <| some (r21, x21)

def f_X8_noTrain (x : MS) (p0 : Int32) : Option (Int32 × MS) :=
  gd (inb 1 1464) <| bd1 (f_X8_in p0 0 ((x.1.2 1) (1 : Int32).toNatClampNeg)) fun (r9 : Int32) => if r9 = 0 then (f_X8_noTrain_J20 x 1) else (f_X8_noTrain_J20 x 0)

abbrev rm_X8_noTrain : Room := { frames := 1, cells := 0, slots := 0, locals := 22 }
theorem hd_X8_noTrain : yX8_noTrain.cls = RX8 ∧ yX8_noTrain.cls ≠ "java/lang/invoke/MethodHandle" ∧ yX8_noTrain.cls ≠ "java/lang/invoke/VarHandle" ∧ (parseMethodDescriptor yX8_noTrain.desc).map (fun d => d.parameters.length) = some 1 := by decide +kernel
set_option maxHeartbeats 4000000 in
set_option maxRecDepth 100000 in
theorem k_X8_noTrain (l : Launch) (G : va_G) (K : (Nat → Nat) × (Nat → Nat)) (c : Nat → ClassId) (ax : Nat → Nat) (x : MS) (p0 : Int32) (r : Int32) (x_r : MS) (hm : f_X8_noTrain x p0 = some (r, x_r)) : zMi l yX8_noTrain wsX8_noTrain (rm_X8_noTrain) G K (TY c) [.ref (ax 0), .int p0] (wM c ax x) (wM c ax x_r) r := by
  refine zMi.of (cc := cX8_noTrain) (maxL := 2) (lv := [(0, .ref (ax 0)), (1, .int p0)]) (by decide) rfl (Nat.le_of_ble_eq_true rfl) rfl ?_
  intro p e s m args below meth c1 A Q H locs hx hb hml hown hts hK hN hZ hP hD hA hS hend ls hl
  have hown : s.vm.findClass RX8 = some m.cls := hown
  have hi_8 : ∀ w ∈ wsX80, w ∈ wsX8_noTrain := (fun w h => List.mem_cons_of_mem _ (List.mem_append_right _ (h)))
  unfold f_X8_noTrain at hm
  refine lv_aload_n hx hb dX8_noTrain_0 rfl (lv_at hl 0 rfl) ?_
  refine lv_iload_n hx hb dX8_noTrain_1 rfl (lv_at hl 1 rfl) ?_
  refine lv_iconst (v := 0) hx hb dX8_noTrain_2 (by decide) ?_
  refine lv_aload_n hx hb dX8_noTrain_3 rfl (lv_at hl 0 rfl) ?_
  refine va_get (D := G) (ci := 8) (v := .ref (ax 2)) (C := RX8) (T := TX8) (N := 22) hx hb hts hi_8 hown hK hP 0 rfl rfl 8 (by decide) (hts (.fieldLink RX8 17 "HubTrainsModel" "data" "[I") (List.mem_of_getElem? (i := 1) rfl)) (fun _ h9 => h9) rfl dX8_noTrain_4 ?_
  refine lv_iconst (v := 1) hx hb dX8_noTrain_7 (by decide) ?_
  obtain ⟨h_8, hm⟩ := gd_s hm
  refine va_iald (D := G) hx hb hK hP 2 0 rfl rfl (inb_s h_8) dX8_noTrain_8 ?_
  obtain ⟨r9, e_9, hm⟩ := bd1_s hm
  refine zcSi (As := [.int p0, .int 0, .int ((x.1.2 1) (1 : Int32).toNatClampNeg)]) (rest := [.ref (ax 0)]) ⟨hx, hb, hml, hown, hts⟩ (k_X8_in l G K c p0 0 ((x.1.2 1) (1 : Int32).toNatClampNeg) r9 e_9) (va_cwS 3 hts gX8_noTrain_X8_in rfl rfl rfl hd_X8_in.2 ⟨Nat.le_of_ble_eq_true rfl, Nat.le_of_ble_eq_true rfl⟩) hK hN hZ hP hD hS hA [] rfl (by decide) rfl rfl hl.1 rfl (Nat.le_of_ble_eq_true rfl) dX8_noTrain_9 ⟨Nat.zero_le _, Nat.zero_le _⟩ (fun H locs hP hD hS => ?_)
  have hP : va_P G vwCl (wM c ax x) H := hP
  have hD : va_D A (wM c ax x) := hD
  have J_20 : ∀ (s0_20 : Int32) (H : Heap) (locs : List Loc) (ls : Array Slot), va_P G vwCl (wM c ax x) H → va_D A (wM c ax x) → va_S A s.heap H locs → lv_has ls 2 [] → f_X8_noTrain_J20 x s0_20 = some (r, x_r) → W p l e (rm_X8_noTrain) s m args below meth c1 H locs 0 0 Q (F0 m 20 ls [.int s0_20, .ref (ax 0)]) := by
    intro s0_20 H locs ls hP hD hS hl hm
    unfold f_X8_noTrain_J20 at hm
    refine lv_iconst (v := 1) hx hb dX8_noTrain_20 (by decide) ?_
    obtain ⟨r21, x21, e_21, hm⟩ := bd2_s hm
    refine zcWi (As := [.int s0_20, .int 1]) (rest := []) ⟨hx, hb, hml, hown, hts⟩ (k_X8_fails l G K c ax x s0_20 1 r21 x21 e_21) (cwV 2 hts gX8_noTrain_X8_fails rfl rfl rfl hd_X8_fails ⟨Nat.le_of_ble_eq_true rfl, Nat.le_of_ble_eq_true rfl⟩) hK hN hZ hP hD hS hA (va_recv hK hP (ci := 8) (q0 := 0) rfl rfl) rfl hl.1 rfl (Nat.le_of_ble_eq_true rfl) dX8_noTrain_21 ⟨Nat.zero_le _, Nat.zero_le _⟩ (fun H locs hP hD hS => ?_)
    have hP : va_P G vwCl (wM c ax x21) H := hP
    have hD : va_D A (wM c ax x21) := hD
    obtain ⟨h_24, hm⟩ := gd_s hm
    exact hend H locs ls _ _ _ (isb_n h_24) (Prod.mk.inj (Option.some.inj hm)).1 (zc1 (fun (z0 : MS) => (wM c ax z0 : va_W)) (Prod.mk.inj (Option.some.inj hm)).2) hP hD hS dX8_noTrain_24
  refine lv_if_ne (tgt := 19) hx hb dX8_noTrain_12 (by decide) (fun c_12 => ?_) (fun c_12 => ?_)
  · have hm := ifn c_12 hm
    refine lv_iconst (v := 0) hx hb dX8_noTrain_19 (by decide) ?_
    exact J_20 0 H locs ls hP hD hS (lv_sub hl [] rfl) hm
  · have hm := ifp c_12 hm
    refine lv_iconst (v := 1) hx hb dX8_noTrain_15 (by decide) ?_
    refine lv_goto (tgt := 20) hx hb dX8_noTrain_16 (by decide) ?_
    exact J_20 1 H locs ls hP hD hS (lv_sub hl [] rfl) hm


def f_X8_told (x : MS) (p0 : Int32) : Option Int32 :=
  if p0 = 10 then (bd1 (f_X8_plays x) fun (r29 : Int32) => some (r29)) else (if p0 = 11 then (gd (inb 10 1464) <| some (((x.1.2 1) (10 : Int32).toNatClampNeg))) else (if p0 = 12 then (gd (inb 11 1464) <| some (((x.1.2 1) (11 : Int32).toNatClampNeg))) else (gd (inb p0 1464) <| some (((x.1.2 1) p0.toNatClampNeg)))))

abbrev rm_X8_told : Room := { frames := 4, cells := 0, slots := 0, locals := 87 }
theorem hd_X8_told : yX8_told.cls = RX8 ∧ yX8_told.cls ≠ "java/lang/invoke/MethodHandle" ∧ yX8_told.cls ≠ "java/lang/invoke/VarHandle" ∧ (parseMethodDescriptor yX8_told.desc).map (fun d => d.parameters.length) = some 1 := by decide +kernel
set_option maxHeartbeats 4000000 in
set_option maxRecDepth 100000 in
theorem k_X8_told (l : Launch) (G : va_G) (K : (Nat → Nat) × (Nat → Nat)) (c : Nat → ClassId) (ax : Nat → Nat) (x : MS) (p0 : Int32) (r : Int32) (hm : f_X8_told x p0 = some (r)) : zMi l yX8_told wsX8_told (rm_X8_told) G K (TY c) [.ref (ax 0), .int p0] (wM c ax x) (wM c ax x) r := by
  refine zMi.of (cc := cX8_told) (maxL := 2) (lv := [(0, .ref (ax 0)), (1, .int p0)]) (by decide) rfl (Nat.le_of_ble_eq_true rfl) rfl ?_
  intro p e s m args below meth c1 A Q H locs hx hb hml hown hts hK hN hZ hP hD hA hS hend ls hl
  have hown : s.vm.findClass RX8 = some m.cls := hown
  have hi_8 : ∀ w ∈ wsX80, w ∈ wsX8_told := (fun w h => List.mem_cons_of_mem _ (List.mem_append_right _ (h)))
  unfold f_X8_told at hm
  refine lv_iload_n hx hb dX8_told_0 rfl (lv_at hl 1 rfl) ?_
  rcases Classical.em (p0 = 10) with c_1_10 | c_1_10
  · have hm := ifp c_1_10 hm
    refine lv_tableIn (off := 27) (tgt := 28) hx hb dX8_told_1 (by rw [c_1_10]; decide) (by rw [c_1_10]; decide) (by rw [c_1_10]; rfl) (by decide) ?_
    refine lv_aload_n hx hb dX8_told_28 rfl (lv_at hl 0 rfl) ?_
    obtain ⟨r29, e_29, hm⟩ := bd1_s hm
    refine zcWi (As := []) (rest := []) ⟨hx, hb, hml, hown, hts⟩ (k_X8_plays l G K c ax x r29 e_29) (cwV 0 hts gX8_told_X8_plays rfl rfl rfl hd_X8_plays ⟨Nat.le_of_ble_eq_true rfl, Nat.le_of_ble_eq_true rfl⟩) hK hN hZ hP hD hS hA (va_recv hK hP (ci := 8) (q0 := 0) rfl rfl) rfl hl.1 rfl (Nat.le_of_ble_eq_true rfl) dX8_told_29 ⟨Nat.zero_le _, Nat.zero_le _⟩ (fun H locs hP hD hS => ?_)
    have hP : va_P G vwCl (wM c ax x) H := hP
    have hD : va_D A (wM c ax x) := hD
    exact hend H locs ls _ _ _ rfl (Option.some.inj hm) rfl hP hD hS dX8_told_32
  · have hm := ifn c_1_10 hm
    rcases Classical.em (p0 = 11) with c_1_11 | c_1_11
    · have hm := ifp c_1_11 hm
      refine lv_tableIn (off := 32) (tgt := 33) hx hb dX8_told_1 (by rw [c_1_11]; decide) (by rw [c_1_11]; decide) (by rw [c_1_11]; rfl) (by decide) ?_
      refine lv_aload_n hx hb dX8_told_33 rfl (lv_at hl 0 rfl) ?_
      refine va_get (D := G) (ci := 8) (v := .ref (ax 2)) (C := RX8) (T := TX8) (N := 22) hx hb hts hi_8 hown hK hP 0 rfl rfl 8 (by decide) (hts (.fieldLink RX8 17 "HubTrainsModel" "data" "[I") (List.mem_of_getElem? (i := 1) rfl)) (fun _ h9 => h9) rfl dX8_told_34 ?_
      refine lv_bipush (v := 10) hx hb dX8_told_37 (by decide) ?_
      obtain ⟨h_39, hm⟩ := gd_s hm
      refine va_iald (D := G) hx hb hK hP 2 0 rfl rfl (inb_s h_39) dX8_told_39 ?_
      exact hend H locs ls _ _ _ rfl (Option.some.inj hm) rfl hP hD hS dX8_told_40
    · have hm := ifn c_1_11 hm
      rcases Classical.em (p0 = 12) with c_1_12 | c_1_12
      · have hm := ifp c_1_12 hm
        refine lv_tableIn (off := 40) (tgt := 41) hx hb dX8_told_1 (by rw [c_1_12]; decide) (by rw [c_1_12]; decide) (by rw [c_1_12]; rfl) (by decide) ?_
        refine lv_aload_n hx hb dX8_told_41 rfl (lv_at hl 0 rfl) ?_
        refine va_get (D := G) (ci := 8) (v := .ref (ax 2)) (C := RX8) (T := TX8) (N := 22) hx hb hts hi_8 hown hK hP 0 rfl rfl 8 (by decide) (hts (.fieldLink RX8 17 "HubTrainsModel" "data" "[I") (List.mem_of_getElem? (i := 1) rfl)) (fun _ h9 => h9) rfl dX8_told_42 ?_
        refine lv_bipush (v := 11) hx hb dX8_told_45 (by decide) ?_
        obtain ⟨h_47, hm⟩ := gd_s hm
        refine va_iald (D := G) hx hb hK hP 2 0 rfl rfl (inb_s h_47) dX8_told_47 ?_
        exact hend H locs ls _ _ _ rfl (Option.some.inj hm) rfl hP hD hS dX8_told_48
      · have hm := ifn c_1_12 hm
        refine lv_tableOut (tgt := 49) hx hb dX8_told_1 (sw_out (10) (12) (fun k hk hk2 hkx => by rcases (show k = 10 ∨ k = 11 ∨ k = 12 by omega) with rfl | rfl | rfl <;> first | exact c_1_10 (hkx.trans (by decide)) | exact c_1_11 (hkx.trans (by decide)) | exact c_1_12 (hkx.trans (by decide)))) (by decide) ?_
        refine lv_aload_n hx hb dX8_told_49 rfl (lv_at hl 0 rfl) ?_
        refine va_get (D := G) (ci := 8) (v := .ref (ax 2)) (C := RX8) (T := TX8) (N := 22) hx hb hts hi_8 hown hK hP 0 rfl rfl 8 (by decide) (hts (.fieldLink RX8 17 "HubTrainsModel" "data" "[I") (List.mem_of_getElem? (i := 1) rfl)) (fun _ h9 => h9) rfl dX8_told_50 ?_
        refine lv_iload_n hx hb dX8_told_53 rfl (lv_at hl 1 rfl) ?_
        obtain ⟨h_54, hm⟩ := gd_s hm
        refine va_iald (D := G) hx hb hK hP 2 0 rfl rfl (inb_s h_54) dX8_told_54 ?_
        exact hend H locs ls _ _ _ rfl (Option.some.inj hm) rfl hP hD hS dX8_told_55

def f_X8_state_J21 (x : MS) (p0 : Int32) (s0_21 : Int32) : Option (Int32 × MS) :=
  bd2 (f_X8_fails ((ss x.1 0 0), x.2) s0_21 1) fun (r22 : Int32) (x22 : MS) => if r22 = 0 then (bd1 (f_X8_told x22 p0) fun (r34 : Int32) => some (r34, x22)) else (some (0, x22))

def f_X8_state (x : MS) (p0 : Int32) : Option (Int32 × MS) :=
  bd1 (f_X8_in p0 0 12) fun (r10 : Int32) => if r10 = 0 then (f_X8_state_J21 x p0 1) else (f_X8_state_J21 x p0 0)

abbrev rm_X8_state : Room := { frames := 5, cells := 0, slots := 0, locals := 108 }
theorem hd_X8_state : yX8_state.cls = RX8 ∧ yX8_state.cls ≠ "java/lang/invoke/MethodHandle" ∧ yX8_state.cls ≠ "java/lang/invoke/VarHandle" ∧ (parseMethodDescriptor yX8_state.desc).map (fun d => d.parameters.length) = some 1 := by decide +kernel
set_option maxHeartbeats 4000000 in
set_option maxRecDepth 100000 in
theorem k_X8_state (l : Launch) (G : va_G) (K : (Nat → Nat) × (Nat → Nat)) (c : Nat → ClassId) (ax : Nat → Nat) (x : MS) (p0 : Int32) (r : Int32) (x_r : MS) (hm : f_X8_state x p0 = some (r, x_r)) : zMi l yX8_state wsX8_state (rm_X8_state) G K (TY c) [.ref (ax 0), .int p0] (wM c ax x) (wM c ax x_r) r := by
  refine zMi.of (cc := cX8_state) (maxL := 2) (lv := [(0, .ref (ax 0)), (1, .int p0)]) (by decide) rfl (Nat.le_of_ble_eq_true rfl) rfl ?_
  intro p e s m args below meth c1 A Q H locs hx hb hml hown hts hK hN hZ hP hD hA hS hend ls hl
  have hown : s.vm.findClass RX8 = some m.cls := hown
  have hi_8 : ∀ w ∈ wsX80, w ∈ wsX8_state := (fun w h => List.mem_cons_of_mem _ (List.mem_append_right _ (h)))
  unfold f_X8_state at hm
  refine lv_aload_n hx hb dX8_state_0 rfl (lv_at hl 0 rfl) ?_
  refine lv_iconst (v := 0) hx hb dX8_state_1 (by decide) ?_
  refine va_put (D := G) (ci := 8) (v := .int 0) (C := RX8) (T := TX8) (N := 22) hx hb hts hi_8 tyX8 tyX8_ok nmX8 hown hK hP hD hS 0 rfl rfl 0 (by decide) (hts (.fieldLink RX8 53 "HubTrainsModel" "thrown" "I") (List.mem_of_getElem? (i := 1) rfl)) (fun _ h9 => h9) rfl (tyX8_ok 0 (by decide)) rfl rfl (Nat.le_of_ble_eq_true rfl) dX8_state_2 (fun H locs hP hD hS => ?_)
  have hP : va_P G vwCl (wM c ax ((ss x.1 0 0), x.2)) H := hP
  have hD : va_D A (wM c ax ((ss x.1 0 0), x.2)) := hD
  refine lv_aload_n hx hb dX8_state_5 rfl (lv_at hl 0 rfl) ?_
  refine lv_iload_n hx hb dX8_state_6 rfl (lv_at hl 1 rfl) ?_
  refine lv_iconst (v := 0) hx hb dX8_state_7 (by decide) ?_
  refine lv_bipush (v := 12) hx hb dX8_state_8 (by decide) ?_
  obtain ⟨r10, e_10, hm⟩ := bd1_s hm
  refine zcSi (As := [.int p0, .int 0, .int 12]) (rest := [.ref (ax 0)]) ⟨hx, hb, hml, hown, hts⟩ (k_X8_in l G K c p0 0 12 r10 e_10) (va_cwS 3 hts gX8_state_X8_in rfl rfl rfl hd_X8_in.2 ⟨Nat.le_of_ble_eq_true rfl, Nat.le_of_ble_eq_true rfl⟩) hK hN hZ hP hD hS hA [] rfl (by decide) rfl rfl hl.1 rfl (Nat.le_of_ble_eq_true rfl) dX8_state_10 ⟨Nat.zero_le _, Nat.zero_le _⟩ (fun H locs hP hD hS => ?_)
  have hP : va_P G vwCl (wM c ax ((ss x.1 0 0), x.2)) H := hP
  have hD : va_D A (wM c ax ((ss x.1 0 0), x.2)) := hD
  have J_21 : ∀ (s0_21 : Int32) (H : Heap) (locs : List Loc) (ls : Array Slot), va_P G vwCl (wM c ax ((ss x.1 0 0), x.2)) H → va_D A (wM c ax ((ss x.1 0 0), x.2)) → va_S A s.heap H locs → lv_has ls 2 [(0, .ref (ax 0)), (1, .int p0)] → f_X8_state_J21 x p0 s0_21 = some (r, x_r) → W p l e (rm_X8_state) s m args below meth c1 H locs 0 0 Q (F0 m 21 ls [.int s0_21, .ref (ax 0)]) := by
    intro s0_21 H locs ls hP hD hS hl hm
    unfold f_X8_state_J21 at hm
    refine lv_iconst (v := 1) hx hb dX8_state_21 (by decide) ?_
    obtain ⟨r22, x22, e_22, hm⟩ := bd2_s hm
    refine zcWi (As := [.int s0_21, .int 1]) (rest := []) ⟨hx, hb, hml, hown, hts⟩ (k_X8_fails l G K c ax ((ss x.1 0 0), x.2) s0_21 1 r22 x22 e_22) (cwV 2 hts gX8_state_X8_fails rfl rfl rfl hd_X8_fails ⟨Nat.le_of_ble_eq_true rfl, Nat.le_of_ble_eq_true rfl⟩) hK hN hZ hP hD hS hA (va_recv hK hP (ci := 8) (q0 := 0) rfl rfl) rfl hl.1 rfl (Nat.le_of_ble_eq_true rfl) dX8_state_22 ⟨Nat.zero_le _, Nat.zero_le _⟩ (fun H locs hP hD hS => ?_)
    have hP : va_P G vwCl (wM c ax x22) H := hP
    have hD : va_D A (wM c ax x22) := hD
    refine lv_if_eq (tgt := 32) hx hb dX8_state_25 (by decide) (fun c_25 => ?_) (fun c_25 => ?_)
    · have hm := ifp c_25 hm
      refine lv_aload_n hx hb dX8_state_32 rfl (lv_at hl 0 rfl) ?_
      refine lv_iload_n hx hb dX8_state_33 rfl (lv_at hl 1 rfl) ?_
      obtain ⟨r34, e_34, hm⟩ := bd1_s hm
      refine zcWi (As := [.int p0]) (rest := []) ⟨hx, hb, hml, hown, hts⟩ (k_X8_told l G K c ax x22 p0 r34 e_34) (cwV 1 hts gX8_state_X8_told rfl rfl rfl hd_X8_told ⟨Nat.le_of_ble_eq_true rfl, Nat.le_of_ble_eq_true rfl⟩) hK hN hZ hP hD hS hA (va_recv hK hP (ci := 8) (q0 := 0) rfl rfl) rfl hl.1 rfl (Nat.le_of_ble_eq_true rfl) dX8_state_34 ⟨Nat.zero_le _, Nat.zero_le _⟩ (fun H locs hP hD hS => ?_)
      have hP : va_P G vwCl (wM c ax x22) H := hP
      have hD : va_D A (wM c ax x22) := hD
      exact hend H locs ls _ _ _ rfl (Prod.mk.inj (Option.some.inj hm)).1 (zc1 (fun (z0 : MS) => (wM c ax z0 : va_W)) (Prod.mk.inj (Option.some.inj hm)).2) hP hD hS dX8_state_37
    · have hm := ifn c_25 hm
      refine lv_iconst (v := 0) hx hb dX8_state_28 (by decide) ?_
      refine lv_goto (tgt := 37) hx hb dX8_state_29 (by decide) ?_
      exact hend H locs ls _ _ _ rfl (Prod.mk.inj (Option.some.inj hm)).1 (zc1 (fun (z0 : MS) => (wM c ax z0 : va_W)) (Prod.mk.inj (Option.some.inj hm)).2) hP hD hS dX8_state_37
  refine lv_if_ne (tgt := 20) hx hb dX8_state_13 (by decide) (fun c_13 => ?_) (fun c_13 => ?_)
  · have hm := ifn c_13 hm
    refine lv_iconst (v := 0) hx hb dX8_state_20 (by decide) ?_
    exact J_21 0 H locs ls hP hD hS (lv_sub hl [0, 1] rfl) hm
  · have hm := ifp c_13 hm
    refine lv_iconst (v := 1) hx hb dX8_state_16 (by decide) ?_
    refine lv_goto (tgt := 21) hx hb dX8_state_17 (by decide) ?_
    exact J_21 1 H locs ls hP hD hS (lv_sub hl [0, 1] rfl) hm

def f_X8_playable_B26 (x : MS) (rec_4 : Int32 → Int32 → Option Int32) (v2_4 : Int32) (v3_4 : Int32) (rec_26 : Int32 → Int32 → Option Int32) (v4_26 : Int32) (v5_26 : Int32) : Option Int32 :=
  gd (inb 1 1464) <| if ((x.1.2 1) (1 : Int32).toNatClampNeg) < v5_26 then (if v4_26 = 0 then (rec_4 (v2_4 + 0) (v3_4 + 1)) else (rec_4 (v2_4 + 1) (v3_4 + 1))) else (bd1 (f_X8_refusal x v3_4 v5_26) fun (r43 : Int32) => if r43 = 0 then (rec_26 (v4_26 ||| 1) (v5_26 + 1)) else (rec_26 (v4_26 ||| 0) (v5_26 + 1)))

def f_X8_playable_B4 (x : MS) (p0 : Int32) (rec_4 : Int32 → Int32 → Option Int32) (v2_4 : Int32) (v3_4 : Int32) : Option Int32 :=
  if (100 : Int32) ≤ v3_4 then (some (v2_4)) else (gd (inb 4 1464) <| if p0 = ((x.1.2 1) (4 : Int32).toNatClampNeg) then (itr2 (f_X8_playable_B26 x rec_4 v2_4 v3_4) FUEL 0 0) else (some (v2_4)))

def f_X8_playable (x : MS) (p0 : Int32) : Option Int32 :=
  itr2 (f_X8_playable_B4 x p0) FUEL 0 0

abbrev rm_X8_playable : Room := { frames := 3, cells := 0, slots := 0, locals := 64 }
theorem hd_X8_playable : yX8_playable.cls = RX8 ∧ yX8_playable.cls ≠ "java/lang/invoke/MethodHandle" ∧ yX8_playable.cls ≠ "java/lang/invoke/VarHandle" ∧ (parseMethodDescriptor yX8_playable.desc).map (fun d => d.parameters.length) = some 1 := by decide +kernel
set_option maxHeartbeats 4000000 in
set_option maxRecDepth 100000 in
theorem k_X8_playable (l : Launch) (G : va_G) (K : (Nat → Nat) × (Nat → Nat)) (c : Nat → ClassId) (ax : Nat → Nat) (x : MS) (p0 : Int32) (r : Int32) (hm : f_X8_playable x p0 = some (r)) : zMi l yX8_playable wsX8_playable (rm_X8_playable) G K (TY c) [.ref (ax 0), .int p0] (wM c ax x) (wM c ax x) r := by
  refine zMi.of (cc := cX8_playable) (maxL := 6) (lv := [(0, .ref (ax 0)), (1, .int p0)]) (by decide) rfl (Nat.le_of_ble_eq_true rfl) rfl ?_
  intro p e s m args below meth c1 A Q H locs hx hb hml hown hts hK hN hZ hP hD hA hS hend ls hl
  have hown : s.vm.findClass RX8 = some m.cls := hown
  have hi_8 : ∀ w ∈ wsX80, w ∈ wsX8_playable := (fun w h => List.mem_cons_of_mem _ (List.mem_append_right _ (h)))
  unfold f_X8_playable at hm
  refine lv_iconst (v := 0) hx hb dX8_playable_0 (by decide) ?_
  refine lv_istore_n (lv' := [(2, .int 0), (0, .ref (ax 0)), (1, .int p0)]) hx hb dX8_playable_1 rfl hl (by decide) rfl (fun ls hl => ?_)
  refine lv_iconst (v := 0) hx hb dX8_playable_2 (by decide) ?_
  refine lv_istore_n (lv' := [(3, .int 0), (2, .int 0), (0, .ref (ax 0)), (1, .int p0)]) hx hb dX8_playable_3 rfl hl (by decide) rfl (fun ls hl => ?_)
  have L_4 : ∀ (n_4 : Nat) (v2_4 : Int32) (v3_4 : Int32) (H : Heap) (locs : List Loc) (ls : Array Slot), va_P G vwCl (wM c ax x) H → va_D A (wM c ax x) → va_S A s.heap H locs → lv_has ls 6 [(0, .ref (ax 0)), (1, .int p0), (2, .int v2_4), (3, .int v3_4)] → itr2 (f_X8_playable_B4 x p0) n_4 v2_4 v3_4 = some (r) → W p l e (rm_X8_playable) s m args below meth c1 H locs 0 0 Q (F0 m 4 ls []) := by
    intro n_4
    induction n_4 with
    | zero => intro v2_4 v3_4 H locs ls hP hD hS hl hm; exact (itr2_0 hm).elim
    | succ n_4 ih_4 =>
      intro v2_4 v3_4 H locs ls hP hD hS hl hm
      have hm := itr2_s hm
      unfold f_X8_playable_B4 at hm
      refine lv_iload_n hx hb dX8_playable_4 rfl (lv_at hl 3 rfl) ?_
      refine lv_bipush (v := 100) hx hb dX8_playable_5 (by decide) ?_
      refine lv_icmp_ge (tgt := 82) hx hb dX8_playable_7 (by decide) (fun c_7 => ?_) (fun c_7 => ?_)
      · have hm := ifp c_7 hm
        refine lv_iload_n hx hb dX8_playable_82 rfl (lv_at hl 2 rfl) ?_
        exact hend H locs ls _ _ _ rfl (Option.some.inj hm) rfl hP hD hS dX8_playable_83
      · have hm := ifn c_7 hm
        refine lv_iload_n hx hb dX8_playable_10 rfl (lv_at hl 1 rfl) ?_
        refine lv_aload_n hx hb dX8_playable_11 rfl (lv_at hl 0 rfl) ?_
        refine va_get (D := G) (ci := 8) (v := .ref (ax 2)) (C := RX8) (T := TX8) (N := 22) hx hb hts hi_8 hown hK hP 0 rfl rfl 8 (by decide) (hts (.fieldLink RX8 17 "HubTrainsModel" "data" "[I") (List.mem_of_getElem? (i := 1) rfl)) (fun _ h9 => h9) rfl dX8_playable_12 ?_
        refine lv_iconst (v := 4) hx hb dX8_playable_15 (by decide) ?_
        obtain ⟨h_16, hm⟩ := gd_s hm
        refine va_iald (D := G) hx hb hK hP 2 0 rfl rfl (inb_s h_16) dX8_playable_16 ?_
        refine lv_icmp_ne (tgt := 82) hx hb dX8_playable_17 (by decide) (fun c_17 => ?_) (fun c_17 => ?_)
        · have hm := ifn c_17 hm
          refine lv_iload_n hx hb dX8_playable_82 rfl (lv_at hl 2 rfl) ?_
          exact hend H locs ls _ _ _ rfl (Option.some.inj hm) rfl hP hD hS dX8_playable_83
        · have hm := ifp c_17 hm
          refine lv_iconst (v := 0) hx hb dX8_playable_20 (by decide) ?_
          refine lv_istore (lv' := [(4, .int 0), (0, .ref (ax 0)), (1, .int p0), (2, .int v2_4), (3, .int v3_4)]) hx hb dX8_playable_21 hl (by decide) rfl (fun ls hl => ?_)
          refine lv_iconst (v := 0) hx hb dX8_playable_23 (by decide) ?_
          refine lv_istore (lv' := [(5, .int 0), (4, .int 0), (0, .ref (ax 0)), (1, .int p0), (2, .int v2_4), (3, .int v3_4)]) hx hb dX8_playable_24 hl (by decide) rfl (fun ls hl => ?_)
          have L_26 : ∀ (n_26 : Nat) (v4_26 : Int32) (v5_26 : Int32) (H : Heap) (locs : List Loc) (ls : Array Slot), va_P G vwCl (wM c ax x) H → va_D A (wM c ax x) → va_S A s.heap H locs → lv_has ls 6 [(0, .ref (ax 0)), (1, .int p0), (2, .int v2_4), (3, .int v3_4), (4, .int v4_26), (5, .int v5_26)] → itr2 (f_X8_playable_B26 x (itr2 (f_X8_playable_B4 x p0) n_4) v2_4 v3_4) n_26 v4_26 v5_26 = some (r) → W p l e (rm_X8_playable) s m args below meth c1 H locs 0 0 Q (F0 m 26 ls []) := by
            intro n_26
            induction n_26 with
            | zero => intro v4_26 v5_26 H locs ls hP hD hS hl hm; exact (itr2_0 hm).elim
            | succ n_26 ih_26 =>
              intro v4_26 v5_26 H locs ls hP hD hS hl hm
              have hm := itr2_s hm
              unfold f_X8_playable_B26 at hm
              refine lv_iload hx hb dX8_playable_26 (lv_at hl 5 rfl) ?_
              refine lv_aload_n hx hb dX8_playable_28 rfl (lv_at hl 0 rfl) ?_
              refine va_get (D := G) (ci := 8) (v := .ref (ax 2)) (C := RX8) (T := TX8) (N := 22) hx hb hts hi_8 hown hK hP 0 rfl rfl 8 (by decide) (hts (.fieldLink RX8 17 "HubTrainsModel" "data" "[I") (List.mem_of_getElem? (i := 1) rfl)) (fun _ h9 => h9) rfl dX8_playable_29 ?_
              refine lv_iconst (v := 1) hx hb dX8_playable_32 (by decide) ?_
              obtain ⟨h_33, hm⟩ := gd_s hm
              refine va_iald (D := G) hx hb hK hP 2 0 rfl rfl (inb_s h_33) dX8_playable_33 ?_
              refine lv_icmp_gt (tgt := 63) hx hb dX8_playable_34 (by decide) (fun c_34 => ?_) (fun c_34 => ?_)
              · have hm := ifp c_34 hm
                refine lv_iload_n hx hb dX8_playable_63 rfl (lv_at hl 2 rfl) ?_
                refine lv_iload hx hb dX8_playable_64 (lv_at hl 4 rfl) ?_
                refine lv_if_eq (tgt := 73) hx hb dX8_playable_66 (by decide) (fun c_66 => ?_) (fun c_66 => ?_)
                · have hm := ifp c_66 hm
                  refine lv_iconst (v := 0) hx hb dX8_playable_73 (by decide) ?_
                  refine lv_iadd hx hb dX8_playable_74 ?_
                  refine lv_istore_n (lv' := [(2, .int (v2_4 + 0)), (0, .ref (ax 0)), (1, .int p0), (3, .int v3_4), (4, .int v4_26), (5, .int v5_26)]) hx hb dX8_playable_75 rfl hl (by decide) rfl (fun ls hl => ?_)
                  refine lv_iinc (k := 3) (v := (v3_4 + 1)) (lv' := [(3, .int (v3_4 + 1)), (2, .int (v2_4 + 0)), (0, .ref (ax 0)), (1, .int p0), (4, .int v4_26), (5, .int v5_26)]) hx hb dX8_playable_76 hl rfl rfl (by decide) rfl (fun ls hl => ?_)
                  refine lv_goto (tgt := 4) hx hb dX8_playable_79 (by decide) ?_
                  exact ih_4 (v2_4 + 0) (v3_4 + 1) H locs ls hP hD hS (lv_sub hl [2, 3, 1, 0] rfl) hm
                · have hm := ifn c_66 hm
                  refine lv_iconst (v := 1) hx hb dX8_playable_69 (by decide) ?_
                  refine lv_goto (tgt := 74) hx hb dX8_playable_70 (by decide) ?_
                  refine lv_iadd hx hb dX8_playable_74 ?_
                  refine lv_istore_n (lv' := [(2, .int (v2_4 + 1)), (0, .ref (ax 0)), (1, .int p0), (3, .int v3_4), (4, .int v4_26), (5, .int v5_26)]) hx hb dX8_playable_75 rfl hl (by decide) rfl (fun ls hl => ?_)
                  refine lv_iinc (k := 3) (v := (v3_4 + 1)) (lv' := [(3, .int (v3_4 + 1)), (2, .int (v2_4 + 1)), (0, .ref (ax 0)), (1, .int p0), (4, .int v4_26), (5, .int v5_26)]) hx hb dX8_playable_76 hl rfl rfl (by decide) rfl (fun ls hl => ?_)
                  refine lv_goto (tgt := 4) hx hb dX8_playable_79 (by decide) ?_
                  exact ih_4 (v2_4 + 1) (v3_4 + 1) H locs ls hP hD hS (lv_sub hl [2, 3, 1, 0] rfl) hm
              · have hm := ifn c_34 hm
                refine lv_iload hx hb dX8_playable_37 (lv_at hl 4 rfl) ?_
                refine lv_aload_n hx hb dX8_playable_39 rfl (lv_at hl 0 rfl) ?_
                refine lv_iload_n hx hb dX8_playable_40 rfl (lv_at hl 3 rfl) ?_
                refine lv_iload hx hb dX8_playable_41 (lv_at hl 5 rfl) ?_
                obtain ⟨r43, e_43, hm⟩ := bd1_s hm
                refine zcWi (As := [.int v3_4, .int v5_26]) (rest := [.int v4_26]) ⟨hx, hb, hml, hown, hts⟩ (k_X8_refusal l G K c ax x v3_4 v5_26 r43 e_43) (cwV 2 hts gX8_playable_X8_refusal rfl rfl rfl hd_X8_refusal ⟨Nat.le_of_ble_eq_true rfl, Nat.le_of_ble_eq_true rfl⟩) hK hN hZ hP hD hS hA (va_recv hK hP (ci := 8) (q0 := 0) rfl rfl) rfl hl.1 rfl (Nat.le_of_ble_eq_true rfl) dX8_playable_43 ⟨Nat.zero_le _, Nat.zero_le _⟩ (fun H locs hP hD hS => ?_)
                have hP : va_P G vwCl (wM c ax x) H := hP
                have hD : va_D A (wM c ax x) := hD
                refine lv_if_ne (tgt := 53) hx hb dX8_playable_46 (by decide) (fun c_46 => ?_) (fun c_46 => ?_)
                · have hm := ifn c_46 hm
                  refine lv_iconst (v := 0) hx hb dX8_playable_53 (by decide) ?_
                  refine lv_ior hx hb dX8_playable_54 ?_
                  refine lv_istore (lv' := [(4, .int (v4_26 ||| 0)), (0, .ref (ax 0)), (1, .int p0), (2, .int v2_4), (3, .int v3_4), (5, .int v5_26)]) hx hb dX8_playable_55 hl (by decide) rfl (fun ls hl => ?_)
                  refine lv_iinc (k := 5) (v := (v5_26 + 1)) (lv' := [(5, .int (v5_26 + 1)), (4, .int (v4_26 ||| 0)), (0, .ref (ax 0)), (1, .int p0), (2, .int v2_4), (3, .int v3_4)]) hx hb dX8_playable_57 hl rfl rfl (by decide) rfl (fun ls hl => ?_)
                  refine lv_goto (tgt := 26) hx hb dX8_playable_60 (by decide) ?_
                  exact ih_26 (v4_26 ||| 0) (v5_26 + 1) H locs ls hP hD hS (lv_sub hl [2, 3, 4, 5, 1, 0] rfl) hm
                · have hm := ifp c_46 hm
                  refine lv_iconst (v := 1) hx hb dX8_playable_49 (by decide) ?_
                  refine lv_goto (tgt := 54) hx hb dX8_playable_50 (by decide) ?_
                  refine lv_ior hx hb dX8_playable_54 ?_
                  refine lv_istore (lv' := [(4, .int (v4_26 ||| 1)), (0, .ref (ax 0)), (1, .int p0), (2, .int v2_4), (3, .int v3_4), (5, .int v5_26)]) hx hb dX8_playable_55 hl (by decide) rfl (fun ls hl => ?_)
                  refine lv_iinc (k := 5) (v := (v5_26 + 1)) (lv' := [(5, .int (v5_26 + 1)), (4, .int (v4_26 ||| 1)), (0, .ref (ax 0)), (1, .int p0), (2, .int v2_4), (3, .int v3_4)]) hx hb dX8_playable_57 hl rfl rfl (by decide) rfl (fun ls hl => ?_)
                  refine lv_goto (tgt := 26) hx hb dX8_playable_60 (by decide) ?_
                  exact ih_26 (v4_26 ||| 1) (v5_26 + 1) H locs ls hP hD hS (lv_sub hl [2, 3, 4, 5, 1, 0] rfl) hm
          exact L_26 FUEL 0 0 H locs ls hP hD hS (lv_sub hl [2, 3, 4, 5, 1, 0] rfl) hm
  exact L_4 FUEL 0 0 H locs ls hP hD hS (lv_sub hl [2, 3, 1, 0] rfl) hm


def f_X8_toldPlayer (x : MS) (p0 : Int32) (p1 : Int32) : Option Int32 :=
  if p1 = 0 then (bd1 (f_X8_hand x p0) fun (r6 : Int32) => some (r6)) else (if p1 = 1 then (bd1 (f_X8_pips x p0) fun (r19 : Int32) => some (r19)) else (if p1 = 2 then (gd (inb (15 + p0) 1464) <| some (((x.1.2 1) (15 + p0).toNatClampNeg))) else (bd1 (f_X8_playable x p0) fun (r44 : Int32) => some (r44))))

abbrev rm_X8_toldPlayer : Room := { frames := 4, cells := 0, slots := 0, locals := 89 }
theorem hd_X8_toldPlayer : yX8_toldPlayer.cls = RX8 ∧ yX8_toldPlayer.cls ≠ "java/lang/invoke/MethodHandle" ∧ yX8_toldPlayer.cls ≠ "java/lang/invoke/VarHandle" ∧ (parseMethodDescriptor yX8_toldPlayer.desc).map (fun d => d.parameters.length) = some 2 := by decide +kernel
set_option maxHeartbeats 4000000 in
set_option maxRecDepth 100000 in
theorem k_X8_toldPlayer (l : Launch) (G : va_G) (K : (Nat → Nat) × (Nat → Nat)) (c : Nat → ClassId) (ax : Nat → Nat) (x : MS) (p0 : Int32) (p1 : Int32) (r : Int32) (hm : f_X8_toldPlayer x p0 p1 = some (r)) : zMi l yX8_toldPlayer wsX8_toldPlayer (rm_X8_toldPlayer) G K (TY c) [.ref (ax 0), .int p0, .int p1] (wM c ax x) (wM c ax x) r := by
  refine zMi.of (cc := cX8_toldPlayer) (maxL := 3) (lv := [(0, .ref (ax 0)), (1, .int p0), (2, .int p1)]) (by decide) rfl (Nat.le_of_ble_eq_true rfl) rfl ?_
  intro p e s m args below meth c1 A Q H locs hx hb hml hown hts hK hN hZ hP hD hA hS hend ls hl
  have hown : s.vm.findClass RX8 = some m.cls := hown
  have hi_8 : ∀ w ∈ wsX80, w ∈ wsX8_toldPlayer := (fun w h => List.mem_cons_of_mem _ (List.mem_append_right _ (h)))
  unfold f_X8_toldPlayer at hm
  refine lv_iload_n hx hb dX8_toldPlayer_0 rfl (lv_at hl 2 rfl) ?_
  refine lv_if_ne (tgt := 12) hx hb dX8_toldPlayer_1 (by decide) (fun c_1 => ?_) (fun c_1 => ?_)
  · have hm := ifn c_1 hm
    refine lv_iload_n hx hb dX8_toldPlayer_12 rfl (lv_at hl 2 rfl) ?_
    refine lv_iconst (v := 1) hx hb dX8_toldPlayer_13 (by decide) ?_
    refine lv_icmp_ne (tgt := 25) hx hb dX8_toldPlayer_14 (by decide) (fun c_14 => ?_) (fun c_14 => ?_)
    · have hm := ifn c_14 hm
      refine lv_iload_n hx hb dX8_toldPlayer_25 rfl (lv_at hl 2 rfl) ?_
      refine lv_iconst (v := 2) hx hb dX8_toldPlayer_26 (by decide) ?_
      refine lv_icmp_ne (tgt := 42) hx hb dX8_toldPlayer_27 (by decide) (fun c_27 => ?_) (fun c_27 => ?_)
      · have hm := ifn c_27 hm
        refine lv_aload_n hx hb dX8_toldPlayer_42 rfl (lv_at hl 0 rfl) ?_
        refine lv_iload_n hx hb dX8_toldPlayer_43 rfl (lv_at hl 1 rfl) ?_
        obtain ⟨r44, e_44, hm⟩ := bd1_s hm
        refine zcWi (As := [.int p0]) (rest := []) ⟨hx, hb, hml, hown, hts⟩ (k_X8_playable l G K c ax x p0 r44 e_44) (cwV 1 hts gX8_toldPlayer_X8_playable rfl rfl rfl hd_X8_playable ⟨Nat.le_of_ble_eq_true rfl, Nat.le_of_ble_eq_true rfl⟩) hK hN hZ hP hD hS hA (va_recv hK hP (ci := 8) (q0 := 0) rfl rfl) rfl hl.1 rfl (Nat.le_of_ble_eq_true rfl) dX8_toldPlayer_44 ⟨Nat.zero_le _, Nat.zero_le _⟩ (fun H locs hP hD hS => ?_)
        have hP : va_P G vwCl (wM c ax x) H := hP
        have hD : va_D A (wM c ax x) := hD
        exact hend H locs ls _ _ _ rfl (Option.some.inj hm) rfl hP hD hS dX8_toldPlayer_47
      · have hm := ifp c_27 hm
        refine lv_aload_n hx hb dX8_toldPlayer_30 rfl (lv_at hl 0 rfl) ?_
        refine va_get (D := G) (ci := 8) (v := .ref (ax 2)) (C := RX8) (T := TX8) (N := 22) hx hb hts hi_8 hown hK hP 0 rfl rfl 8 (by decide) (hts (.fieldLink RX8 17 "HubTrainsModel" "data" "[I") (List.mem_of_getElem? (i := 1) rfl)) (fun _ h9 => h9) rfl dX8_toldPlayer_31 ?_
        refine lv_bipush (v := 15) hx hb dX8_toldPlayer_34 (by decide) ?_
        refine lv_iload_n hx hb dX8_toldPlayer_36 rfl (lv_at hl 1 rfl) ?_
        refine lv_iadd hx hb dX8_toldPlayer_37 ?_
        obtain ⟨h_38, hm⟩ := gd_s hm
        refine va_iald (D := G) hx hb hK hP 2 0 rfl rfl (inb_s h_38) dX8_toldPlayer_38 ?_
        refine lv_goto (tgt := 47) hx hb dX8_toldPlayer_39 (by decide) ?_
        exact hend H locs ls _ _ _ rfl (Option.some.inj hm) rfl hP hD hS dX8_toldPlayer_47
    · have hm := ifp c_14 hm
      refine lv_aload_n hx hb dX8_toldPlayer_17 rfl (lv_at hl 0 rfl) ?_
      refine lv_iload_n hx hb dX8_toldPlayer_18 rfl (lv_at hl 1 rfl) ?_
      obtain ⟨r19, e_19, hm⟩ := bd1_s hm
      refine zcWi (As := [.int p0]) (rest := []) ⟨hx, hb, hml, hown, hts⟩ (k_X8_pips l G K c ax x p0 r19 e_19) (cwV 1 hts gX8_toldPlayer_X8_pips rfl rfl rfl hd_X8_pips ⟨Nat.le_of_ble_eq_true rfl, Nat.le_of_ble_eq_true rfl⟩) hK hN hZ hP hD hS hA (va_recv hK hP (ci := 8) (q0 := 0) rfl rfl) rfl hl.1 rfl (Nat.le_of_ble_eq_true rfl) dX8_toldPlayer_19 ⟨Nat.zero_le _, Nat.zero_le _⟩ (fun H locs hP hD hS => ?_)
      have hP : va_P G vwCl (wM c ax x) H := hP
      have hD : va_D A (wM c ax x) := hD
      refine lv_goto (tgt := 47) hx hb dX8_toldPlayer_22 (by decide) ?_
      exact hend H locs ls _ _ _ rfl (Option.some.inj hm) rfl hP hD hS dX8_toldPlayer_47
  · have hm := ifp c_1 hm
    refine lv_aload_n hx hb dX8_toldPlayer_4 rfl (lv_at hl 0 rfl) ?_
    refine lv_iload_n hx hb dX8_toldPlayer_5 rfl (lv_at hl 1 rfl) ?_
    obtain ⟨r6, e_6, hm⟩ := bd1_s hm
    refine zcWi (As := [.int p0]) (rest := []) ⟨hx, hb, hml, hown, hts⟩ (k_X8_hand l G K c ax x p0 r6 e_6) (cwV 1 hts gX8_toldPlayer_X8_hand rfl rfl rfl hd_X8_hand ⟨Nat.le_of_ble_eq_true rfl, Nat.le_of_ble_eq_true rfl⟩) hK hN hZ hP hD hS hA (va_recv hK hP (ci := 8) (q0 := 0) rfl rfl) rfl hl.1 rfl (Nat.le_of_ble_eq_true rfl) dX8_toldPlayer_6 ⟨Nat.zero_le _, Nat.zero_le _⟩ (fun H locs hP hD hS => ?_)
    have hP : va_P G vwCl (wM c ax x) H := hP
    have hD : va_D A (wM c ax x) := hD
    refine lv_goto (tgt := 47) hx hb dX8_toldPlayer_9 (by decide) ?_
    exact hend H locs ls _ _ _ rfl (Option.some.inj hm) rfl hP hD hS dX8_toldPlayer_47

def f_X8_player_J28 (p0 : Int32) (p1 : Int32) (x7 : MS) (s0_28 : Int32) : Option (Int32 × MS) :=
  bd2 (f_X8_fails x7 s0_28 2) fun (r29 : Int32) (x29 : MS) => if r29 = 0 then (bd1 (f_X8_toldPlayer x29 p0 p1) fun (r42 : Int32) => some (r42, x29)) else (some (0, x29))

def f_X8_player (x : MS) (p0 : Int32) (p1 : Int32) : Option (Int32 × MS) :=
  bd2 (f_X8_noPlayer ((ss x.1 0 0), x.2) p0) fun (r7 : Int32) (x7 : MS) => if r7 = 0 then (bd1 (f_X8_in p1 0 3) fun (r17 : Int32) => if r17 = 0 then (f_X8_player_J28 p0 p1 x7 1) else (f_X8_player_J28 p0 p1 x7 0)) else (some (0, x7))

abbrev rm_X8_player : Room := { frames := 5, cells := 0, slots := 0, locals := 111 }
theorem hd_X8_player : yX8_player.cls = RX8 ∧ yX8_player.cls ≠ "java/lang/invoke/MethodHandle" ∧ yX8_player.cls ≠ "java/lang/invoke/VarHandle" ∧ (parseMethodDescriptor yX8_player.desc).map (fun d => d.parameters.length) = some 2 := by decide +kernel
set_option maxHeartbeats 4000000 in
set_option maxRecDepth 100000 in
theorem k_X8_player (l : Launch) (G : va_G) (K : (Nat → Nat) × (Nat → Nat)) (c : Nat → ClassId) (ax : Nat → Nat) (x : MS) (p0 : Int32) (p1 : Int32) (r : Int32) (x_r : MS) (hm : f_X8_player x p0 p1 = some (r, x_r)) : zMi l yX8_player wsX8_player (rm_X8_player) G K (TY c) [.ref (ax 0), .int p0, .int p1] (wM c ax x) (wM c ax x_r) r := by
  refine zMi.of (cc := cX8_player) (maxL := 3) (lv := [(0, .ref (ax 0)), (1, .int p0), (2, .int p1)]) (by decide) rfl (Nat.le_of_ble_eq_true rfl) rfl ?_
  intro p e s m args below meth c1 A Q H locs hx hb hml hown hts hK hN hZ hP hD hA hS hend ls hl
  have hown : s.vm.findClass RX8 = some m.cls := hown
  have hi_8 : ∀ w ∈ wsX80, w ∈ wsX8_player := (fun w h => List.mem_cons_of_mem _ (List.mem_append_right _ (h)))
  unfold f_X8_player at hm
  refine lv_aload_n hx hb dX8_player_0 rfl (lv_at hl 0 rfl) ?_
  refine lv_iconst (v := 0) hx hb dX8_player_1 (by decide) ?_
  refine va_put (D := G) (ci := 8) (v := .int 0) (C := RX8) (T := TX8) (N := 22) hx hb hts hi_8 tyX8 tyX8_ok nmX8 hown hK hP hD hS 0 rfl rfl 0 (by decide) (hts (.fieldLink RX8 53 "HubTrainsModel" "thrown" "I") (List.mem_of_getElem? (i := 1) rfl)) (fun _ h9 => h9) rfl (tyX8_ok 0 (by decide)) rfl rfl (Nat.le_of_ble_eq_true rfl) dX8_player_2 (fun H locs hP hD hS => ?_)
  have hP : va_P G vwCl (wM c ax ((ss x.1 0 0), x.2)) H := hP
  have hD : va_D A (wM c ax ((ss x.1 0 0), x.2)) := hD
  refine lv_aload_n hx hb dX8_player_5 rfl (lv_at hl 0 rfl) ?_
  refine lv_iload_n hx hb dX8_player_6 rfl (lv_at hl 1 rfl) ?_
  obtain ⟨r7, x7, e_7, hm⟩ := bd2_s hm
  refine zcWi (As := [.int p0]) (rest := []) ⟨hx, hb, hml, hown, hts⟩ (k_X8_noPlayer l G K c ax ((ss x.1 0 0), x.2) p0 r7 x7 e_7) (cwV 1 hts gX8_player_X8_noPlayer rfl rfl rfl hd_X8_noPlayer ⟨Nat.le_of_ble_eq_true rfl, Nat.le_of_ble_eq_true rfl⟩) hK hN hZ hP hD hS hA (va_recv hK hP (ci := 8) (q0 := 0) rfl rfl) rfl hl.1 rfl (Nat.le_of_ble_eq_true rfl) dX8_player_7 ⟨Nat.zero_le _, Nat.zero_le _⟩ (fun H locs hP hD hS => ?_)
  have hP : va_P G vwCl (wM c ax x7) H := hP
  have hD : va_D A (wM c ax x7) := hD
  refine lv_if_ne (tgt := 35) hx hb dX8_player_10 (by decide) (fun c_10 => ?_) (fun c_10 => ?_)
  · have hm := ifn c_10 hm
    refine lv_iconst (v := 0) hx hb dX8_player_35 (by decide) ?_
    refine lv_goto (tgt := 45) hx hb dX8_player_36 (by decide) ?_
    exact hend H locs ls _ _ _ rfl (Prod.mk.inj (Option.some.inj hm)).1 (zc1 (fun (z0 : MS) => (wM c ax z0 : va_W)) (Prod.mk.inj (Option.some.inj hm)).2) hP hD hS dX8_player_45
  · have hm := ifp c_10 hm
    refine lv_aload_n hx hb dX8_player_13 rfl (lv_at hl 0 rfl) ?_
    refine lv_iload_n hx hb dX8_player_14 rfl (lv_at hl 2 rfl) ?_
    refine lv_iconst (v := 0) hx hb dX8_player_15 (by decide) ?_
    refine lv_iconst (v := 3) hx hb dX8_player_16 (by decide) ?_
    obtain ⟨r17, e_17, hm⟩ := bd1_s hm
    refine zcSi (As := [.int p1, .int 0, .int 3]) (rest := [.ref (ax 0)]) ⟨hx, hb, hml, hown, hts⟩ (k_X8_in l G K c p1 0 3 r17 e_17) (va_cwS 3 hts gX8_player_X8_in rfl rfl rfl hd_X8_in.2 ⟨Nat.le_of_ble_eq_true rfl, Nat.le_of_ble_eq_true rfl⟩) hK hN hZ hP hD hS hA [] rfl (by decide) rfl rfl hl.1 rfl (Nat.le_of_ble_eq_true rfl) dX8_player_17 ⟨Nat.zero_le _, Nat.zero_le _⟩ (fun H locs hP hD hS => ?_)
    have hP : va_P G vwCl (wM c ax x7) H := hP
    have hD : va_D A (wM c ax x7) := hD
    have J_28 : ∀ (s0_28 : Int32) (H : Heap) (locs : List Loc) (ls : Array Slot), va_P G vwCl (wM c ax x7) H → va_D A (wM c ax x7) → va_S A s.heap H locs → lv_has ls 3 [(0, .ref (ax 0)), (1, .int p0), (2, .int p1)] → f_X8_player_J28 p0 p1 x7 s0_28 = some (r, x_r) → W p l e (rm_X8_player) s m args below meth c1 H locs 0 0 Q (F0 m 28 ls [.int s0_28, .ref (ax 0)]) := by
      intro s0_28 H locs ls hP hD hS hl hm
      unfold f_X8_player_J28 at hm
      refine lv_iconst (v := 2) hx hb dX8_player_28 (by decide) ?_
      obtain ⟨r29, x29, e_29, hm⟩ := bd2_s hm
      refine zcWi (As := [.int s0_28, .int 2]) (rest := []) ⟨hx, hb, hml, hown, hts⟩ (k_X8_fails l G K c ax x7 s0_28 2 r29 x29 e_29) (cwV 2 hts gX8_player_X8_fails rfl rfl rfl hd_X8_fails ⟨Nat.le_of_ble_eq_true rfl, Nat.le_of_ble_eq_true rfl⟩) hK hN hZ hP hD hS hA (va_recv hK hP (ci := 8) (q0 := 0) rfl rfl) rfl hl.1 rfl (Nat.le_of_ble_eq_true rfl) dX8_player_29 ⟨Nat.zero_le _, Nat.zero_le _⟩ (fun H locs hP hD hS => ?_)
      have hP : va_P G vwCl (wM c ax x29) H := hP
      have hD : va_D A (wM c ax x29) := hD
      refine lv_if_eq (tgt := 39) hx hb dX8_player_32 (by decide) (fun c_32 => ?_) (fun c_32 => ?_)
      · have hm := ifp c_32 hm
        refine lv_aload_n hx hb dX8_player_39 rfl (lv_at hl 0 rfl) ?_
        refine lv_iload_n hx hb dX8_player_40 rfl (lv_at hl 1 rfl) ?_
        refine lv_iload_n hx hb dX8_player_41 rfl (lv_at hl 2 rfl) ?_
        obtain ⟨r42, e_42, hm⟩ := bd1_s hm
        refine zcWi (As := [.int p0, .int p1]) (rest := []) ⟨hx, hb, hml, hown, hts⟩ (k_X8_toldPlayer l G K c ax x29 p0 p1 r42 e_42) (cwV 2 hts gX8_player_X8_toldPlayer rfl rfl rfl hd_X8_toldPlayer ⟨Nat.le_of_ble_eq_true rfl, Nat.le_of_ble_eq_true rfl⟩) hK hN hZ hP hD hS hA (va_recv hK hP (ci := 8) (q0 := 0) rfl rfl) rfl hl.1 rfl (Nat.le_of_ble_eq_true rfl) dX8_player_42 ⟨Nat.zero_le _, Nat.zero_le _⟩ (fun H locs hP hD hS => ?_)
        have hP : va_P G vwCl (wM c ax x29) H := hP
        have hD : va_D A (wM c ax x29) := hD
        exact hend H locs ls _ _ _ rfl (Prod.mk.inj (Option.some.inj hm)).1 (zc1 (fun (z0 : MS) => (wM c ax z0 : va_W)) (Prod.mk.inj (Option.some.inj hm)).2) hP hD hS dX8_player_45
      · have hm := ifn c_32 hm
        refine lv_iconst (v := 0) hx hb dX8_player_35 (by decide) ?_
        refine lv_goto (tgt := 45) hx hb dX8_player_36 (by decide) ?_
        exact hend H locs ls _ _ _ rfl (Prod.mk.inj (Option.some.inj hm)).1 (zc1 (fun (z0 : MS) => (wM c ax z0 : va_W)) (Prod.mk.inj (Option.some.inj hm)).2) hP hD hS dX8_player_45
    refine lv_if_ne (tgt := 27) hx hb dX8_player_20 (by decide) (fun c_20 => ?_) (fun c_20 => ?_)
    · have hm := ifn c_20 hm
      refine lv_iconst (v := 0) hx hb dX8_player_27 (by decide) ?_
      exact J_28 0 H locs ls hP hD hS (lv_sub hl [0, 1, 2] rfl) hm
    · have hm := ifp c_20 hm
      refine lv_iconst (v := 1) hx hb dX8_player_23 (by decide) ?_
      refine lv_goto (tgt := 28) hx hb dX8_player_24 (by decide) ?_
      exact J_28 1 H locs ls hP hD hS (lv_sub hl [0, 1, 2] rfl) hm

def f_X8_tileOf_J19 (x : MS) (p0 : Int32) (rec_5 : Int32 → Int32 → Option Int32) (v3_5 : Int32) (v4_5 : Int32) : Option Int32 :=
  bd1 (f_X8_isInHand x p0 v4_5) fun (r24 : Int32) => if r24 = 0 then (rec_5 (v3_5 - 0) (v4_5 + 1)) else (rec_5 (v3_5 - 1) (v4_5 + 1))

def f_X8_tileOf_B5 (x : MS) (p0 : Int32) (rec_5 : Int32 → Int32 → Option Int32) (v3_5 : Int32) (v4_5 : Int32) : Option Int32 :=
  bd1 (f_X8_isInHand x p0 v4_5) fun (r9 : Int32) => if r9 = 0 then (f_X8_tileOf_J19 x p0 rec_5 v3_5 v4_5) else (if v3_5 ≤ 0 then (some (v4_5)) else (f_X8_tileOf_J19 x p0 rec_5 v3_5 v4_5))

def f_X8_tileOf (x : MS) (p0 : Int32) (p1 : Int32) : Option Int32 :=
  itr2 (f_X8_tileOf_B5 x p0) FUEL p1 0

abbrev rm_X8_tileOf : Room := { frames := 1, cells := 0, slots := 0, locals := 22 }
theorem hd_X8_tileOf : yX8_tileOf.cls = RX8 ∧ yX8_tileOf.cls ≠ "java/lang/invoke/MethodHandle" ∧ yX8_tileOf.cls ≠ "java/lang/invoke/VarHandle" ∧ (parseMethodDescriptor yX8_tileOf.desc).map (fun d => d.parameters.length) = some 2 := by decide +kernel
set_option maxHeartbeats 4000000 in
set_option maxRecDepth 100000 in
theorem k_X8_tileOf (l : Launch) (G : va_G) (K : (Nat → Nat) × (Nat → Nat)) (c : Nat → ClassId) (ax : Nat → Nat) (x : MS) (p0 : Int32) (p1 : Int32) (r : Int32) (hm : f_X8_tileOf x p0 p1 = some (r)) : zMi l yX8_tileOf wsX8_tileOf (rm_X8_tileOf) G K (TY c) [.ref (ax 0), .int p0, .int p1] (wM c ax x) (wM c ax x) r := by
  refine zMi.of (cc := cX8_tileOf) (maxL := 5) (lv := [(0, .ref (ax 0)), (1, .int p0), (2, .int p1)]) (by decide) rfl (Nat.le_of_ble_eq_true rfl) rfl ?_
  intro p e s m args below meth c1 A Q H locs hx hb hml hown hts hK hN hZ hP hD hA hS hend ls hl
  have hown : s.vm.findClass RX8 = some m.cls := hown
  unfold f_X8_tileOf at hm
  refine lv_iload_n hx hb dX8_tileOf_0 rfl (lv_at hl 2 rfl) ?_
  refine lv_istore_n (lv' := [(3, .int p1), (0, .ref (ax 0)), (1, .int p0), (2, .int p1)]) hx hb dX8_tileOf_1 rfl hl (by decide) rfl (fun ls hl => ?_)
  refine lv_iconst (v := 0) hx hb dX8_tileOf_2 (by decide) ?_
  refine lv_istore (lv' := [(4, .int 0), (3, .int p1), (0, .ref (ax 0)), (1, .int p0), (2, .int p1)]) hx hb dX8_tileOf_3 hl (by decide) rfl (fun ls hl => ?_)
  have L_5 : ∀ (n_5 : Nat) (v3_5 : Int32) (v4_5 : Int32) (H : Heap) (locs : List Loc) (ls : Array Slot), va_P G vwCl (wM c ax x) H → va_D A (wM c ax x) → va_S A s.heap H locs → lv_has ls 5 [(0, .ref (ax 0)), (1, .int p0), (3, .int v3_5), (4, .int v4_5)] → itr2 (f_X8_tileOf_B5 x p0) n_5 v3_5 v4_5 = some (r) → W p l e (rm_X8_tileOf) s m args below meth c1 H locs 0 0 Q (F0 m 5 ls []) := by
    intro n_5
    induction n_5 with
    | zero => intro v3_5 v4_5 H locs ls hP hD hS hl hm; exact (itr2_0 hm).elim
    | succ n_5 ih_5 =>
      intro v3_5 v4_5 H locs ls hP hD hS hl hm
      have hm := itr2_s hm
      unfold f_X8_tileOf_B5 at hm
      refine lv_aload_n hx hb dX8_tileOf_5 rfl (lv_at hl 0 rfl) ?_
      refine lv_iload_n hx hb dX8_tileOf_6 rfl (lv_at hl 1 rfl) ?_
      refine lv_iload hx hb dX8_tileOf_7 (lv_at hl 3 rfl) ?_
      obtain ⟨r9, e_9, hm⟩ := bd1_s hm
      refine zcWi (As := [.int p0, .int v4_5]) (rest := []) ⟨hx, hb, hml, hown, hts⟩ (k_X8_isInHand l G K c ax x p0 v4_5 r9 e_9) (cwV 2 hts gX8_tileOf_X8_isInHand rfl rfl rfl hd_X8_isInHand ⟨Nat.le_of_ble_eq_true rfl, Nat.le_of_ble_eq_true rfl⟩) hK hN hZ hP hD hS hA (va_recv hK hP (ci := 8) (q0 := 0) rfl rfl) rfl hl.1 rfl (Nat.le_of_ble_eq_true rfl) dX8_tileOf_9 ⟨Nat.zero_le _, Nat.zero_le _⟩ (fun H locs hP hD hS => ?_)
      have hP : va_P G vwCl (wM c ax x) H := hP
      have hD : va_D A (wM c ax x) := hD
      have J_19 : ∀ (H : Heap) (locs : List Loc) (ls : Array Slot), va_P G vwCl (wM c ax x) H → va_D A (wM c ax x) → va_S A s.heap H locs → lv_has ls 5 [(0, .ref (ax 0)), (1, .int p0), (3, .int v3_5), (4, .int v4_5)] → f_X8_tileOf_J19 x p0 (itr2 (f_X8_tileOf_B5 x p0) n_5) v3_5 v4_5 = some (r) → W p l e (rm_X8_tileOf) s m args below meth c1 H locs 0 0 Q (F0 m 19 ls []) := by
        intro  H locs ls hP hD hS hl hm
        unfold f_X8_tileOf_J19 at hm
        refine lv_iload_n hx hb dX8_tileOf_19 rfl (lv_at hl 2 rfl) ?_
        refine lv_aload_n hx hb dX8_tileOf_20 rfl (lv_at hl 0 rfl) ?_
        refine lv_iload_n hx hb dX8_tileOf_21 rfl (lv_at hl 1 rfl) ?_
        refine lv_iload hx hb dX8_tileOf_22 (lv_at hl 3 rfl) ?_
        obtain ⟨r24, e_24, hm⟩ := bd1_s hm
        refine zcWi (As := [.int p0, .int v4_5]) (rest := [.int v3_5]) ⟨hx, hb, hml, hown, hts⟩ (k_X8_isInHand l G K c ax x p0 v4_5 r24 e_24) (cwV 2 hts gX8_tileOf_X8_isInHand rfl rfl rfl hd_X8_isInHand ⟨Nat.le_of_ble_eq_true rfl, Nat.le_of_ble_eq_true rfl⟩) hK hN hZ hP hD hS hA (va_recv hK hP (ci := 8) (q0 := 0) rfl rfl) rfl hl.1 rfl (Nat.le_of_ble_eq_true rfl) dX8_tileOf_24 ⟨Nat.zero_le _, Nat.zero_le _⟩ (fun H locs hP hD hS => ?_)
        have hP : va_P G vwCl (wM c ax x) H := hP
        have hD : va_D A (wM c ax x) := hD
        refine lv_if_eq (tgt := 34) hx hb dX8_tileOf_27 (by decide) (fun c_27 => ?_) (fun c_27 => ?_)
        · have hm := ifp c_27 hm
          refine lv_iconst (v := 0) hx hb dX8_tileOf_34 (by decide) ?_
          refine lv_isub hx hb dX8_tileOf_35 ?_
          refine lv_istore_n (lv' := [(3, .int (v3_5 - 0)), (0, .ref (ax 0)), (1, .int p0), (4, .int v4_5)]) hx hb dX8_tileOf_36 rfl hl (by decide) rfl (fun ls hl => ?_)
          refine lv_iinc (k := 3) (v := (v4_5 + 1)) (lv' := [(4, .int (v4_5 + 1)), (3, .int (v3_5 - 0)), (0, .ref (ax 0)), (1, .int p0)]) hx hb dX8_tileOf_37 hl rfl rfl (by decide) rfl (fun ls hl => ?_)
          refine lv_goto (tgt := 5) hx hb dX8_tileOf_40 (by decide) ?_
          exact ih_5 (v3_5 - 0) (v4_5 + 1) H locs ls hP hD hS (lv_sub hl [2, 3, 1, 0] rfl) hm
        · have hm := ifn c_27 hm
          refine lv_iconst (v := 1) hx hb dX8_tileOf_30 (by decide) ?_
          refine lv_goto (tgt := 35) hx hb dX8_tileOf_31 (by decide) ?_
          refine lv_isub hx hb dX8_tileOf_35 ?_
          refine lv_istore_n (lv' := [(3, .int (v3_5 - 1)), (0, .ref (ax 0)), (1, .int p0), (4, .int v4_5)]) hx hb dX8_tileOf_36 rfl hl (by decide) rfl (fun ls hl => ?_)
          refine lv_iinc (k := 3) (v := (v4_5 + 1)) (lv' := [(4, .int (v4_5 + 1)), (3, .int (v3_5 - 1)), (0, .ref (ax 0)), (1, .int p0)]) hx hb dX8_tileOf_37 hl rfl rfl (by decide) rfl (fun ls hl => ?_)
          refine lv_goto (tgt := 5) hx hb dX8_tileOf_40 (by decide) ?_
          exact ih_5 (v3_5 - 1) (v4_5 + 1) H locs ls hP hD hS (lv_sub hl [2, 3, 1, 0] rfl) hm
      refine lv_if_eq (tgt := 19) hx hb dX8_tileOf_12 (by decide) (fun c_12 => ?_) (fun c_12 => ?_)
      · have hm := ifp c_12 hm
        exact J_19 H locs ls hP hD hS (lv_sub hl [0, 1, 2, 3] rfl) hm
      · have hm := ifn c_12 hm
        refine lv_iload_n hx hb dX8_tileOf_15 rfl (lv_at hl 2 rfl) ?_
        refine lv_if_le (tgt := 43) hx hb dX8_tileOf_16 (by decide) (fun c_16 => ?_) (fun c_16 => ?_)
        · have hm := ifp c_16 hm
          refine lv_iload hx hb dX8_tileOf_43 (lv_at hl 3 rfl) ?_
          exact hend H locs ls _ _ _ rfl (Option.some.inj hm) rfl hP hD hS dX8_tileOf_45
        · have hm := ifn c_16 hm
          exact J_19 H locs ls hP hD hS (lv_sub hl [0, 1, 2, 3] rfl) hm
  exact L_5 FUEL p1 0 H locs ls hP hD hS (lv_sub hl [2, 3, 1, 0] rfl) hm

def f_X8_tile_J34 (p0 : Int32) (p1 : Int32) (x7 : MS) (s0_34 : Int32) : Option (Int32 × MS) :=
  bd2 (f_X8_fails x7 s0_34 2) fun (r35 : Int32) (x35 : MS) => if r35 = 0 then (bd1 (f_X8_tileOf x35 p0 p1) fun (r48 : Int32) => some (r48, x35)) else (some (0, x35))

def f_X8_tile (x : MS) (p0 : Int32) (p1 : Int32) : Option (Int32 × MS) :=
  bd2 (f_X8_noPlayer ((ss x.1 0 0), x.2) p0) fun (r7 : Int32) (x7 : MS) => if r7 = 0 then (bd1 (f_X8_hand x7 p0) fun (r18 : Int32) => bd1 (f_X8_in p1 0 (r18 - 1)) fun (r23 : Int32) => if r23 = 0 then (f_X8_tile_J34 p0 p1 x7 1) else (f_X8_tile_J34 p0 p1 x7 0)) else (some (0, x7))

abbrev rm_X8_tile : Room := { frames := 2, cells := 0, slots := 0, locals := 46 }
theorem hd_X8_tile : yX8_tile.cls = RX8 ∧ yX8_tile.cls ≠ "java/lang/invoke/MethodHandle" ∧ yX8_tile.cls ≠ "java/lang/invoke/VarHandle" ∧ (parseMethodDescriptor yX8_tile.desc).map (fun d => d.parameters.length) = some 2 := by decide +kernel
set_option maxHeartbeats 4000000 in
set_option maxRecDepth 100000 in
theorem k_X8_tile (l : Launch) (G : va_G) (K : (Nat → Nat) × (Nat → Nat)) (c : Nat → ClassId) (ax : Nat → Nat) (x : MS) (p0 : Int32) (p1 : Int32) (r : Int32) (x_r : MS) (hm : f_X8_tile x p0 p1 = some (r, x_r)) : zMi l yX8_tile wsX8_tile (rm_X8_tile) G K (TY c) [.ref (ax 0), .int p0, .int p1] (wM c ax x) (wM c ax x_r) r := by
  refine zMi.of (cc := cX8_tile) (maxL := 3) (lv := [(0, .ref (ax 0)), (1, .int p0), (2, .int p1)]) (by decide) rfl (Nat.le_of_ble_eq_true rfl) rfl ?_
  intro p e s m args below meth c1 A Q H locs hx hb hml hown hts hK hN hZ hP hD hA hS hend ls hl
  have hown : s.vm.findClass RX8 = some m.cls := hown
  have hi_8 : ∀ w ∈ wsX80, w ∈ wsX8_tile := (fun w h => List.mem_cons_of_mem _ (List.mem_append_right _ (h)))
  unfold f_X8_tile at hm
  refine lv_aload_n hx hb dX8_tile_0 rfl (lv_at hl 0 rfl) ?_
  refine lv_iconst (v := 0) hx hb dX8_tile_1 (by decide) ?_
  refine va_put (D := G) (ci := 8) (v := .int 0) (C := RX8) (T := TX8) (N := 22) hx hb hts hi_8 tyX8 tyX8_ok nmX8 hown hK hP hD hS 0 rfl rfl 0 (by decide) (hts (.fieldLink RX8 53 "HubTrainsModel" "thrown" "I") (List.mem_of_getElem? (i := 1) rfl)) (fun _ h9 => h9) rfl (tyX8_ok 0 (by decide)) rfl rfl (Nat.le_of_ble_eq_true rfl) dX8_tile_2 (fun H locs hP hD hS => ?_)
  have hP : va_P G vwCl (wM c ax ((ss x.1 0 0), x.2)) H := hP
  have hD : va_D A (wM c ax ((ss x.1 0 0), x.2)) := hD
  refine lv_aload_n hx hb dX8_tile_5 rfl (lv_at hl 0 rfl) ?_
  refine lv_iload_n hx hb dX8_tile_6 rfl (lv_at hl 1 rfl) ?_
  obtain ⟨r7, x7, e_7, hm⟩ := bd2_s hm
  refine zcWi (As := [.int p0]) (rest := []) ⟨hx, hb, hml, hown, hts⟩ (k_X8_noPlayer l G K c ax ((ss x.1 0 0), x.2) p0 r7 x7 e_7) (cwV 1 hts gX8_tile_X8_noPlayer rfl rfl rfl hd_X8_noPlayer ⟨Nat.le_of_ble_eq_true rfl, Nat.le_of_ble_eq_true rfl⟩) hK hN hZ hP hD hS hA (va_recv hK hP (ci := 8) (q0 := 0) rfl rfl) rfl hl.1 rfl (Nat.le_of_ble_eq_true rfl) dX8_tile_7 ⟨Nat.zero_le _, Nat.zero_le _⟩ (fun H locs hP hD hS => ?_)
  have hP : va_P G vwCl (wM c ax x7) H := hP
  have hD : va_D A (wM c ax x7) := hD
  refine lv_if_ne (tgt := 41) hx hb dX8_tile_10 (by decide) (fun c_10 => ?_) (fun c_10 => ?_)
  · have hm := ifn c_10 hm
    refine lv_iconst (v := 0) hx hb dX8_tile_41 (by decide) ?_
    refine lv_goto (tgt := 51) hx hb dX8_tile_42 (by decide) ?_
    exact hend H locs ls _ _ _ rfl (Prod.mk.inj (Option.some.inj hm)).1 (zc1 (fun (z0 : MS) => (wM c ax z0 : va_W)) (Prod.mk.inj (Option.some.inj hm)).2) hP hD hS dX8_tile_51
  · have hm := ifp c_10 hm
    refine lv_aload_n hx hb dX8_tile_13 rfl (lv_at hl 0 rfl) ?_
    refine lv_iload_n hx hb dX8_tile_14 rfl (lv_at hl 2 rfl) ?_
    refine lv_iconst (v := 0) hx hb dX8_tile_15 (by decide) ?_
    refine lv_aload_n hx hb dX8_tile_16 rfl (lv_at hl 0 rfl) ?_
    refine lv_iload_n hx hb dX8_tile_17 rfl (lv_at hl 1 rfl) ?_
    obtain ⟨r18, e_18, hm⟩ := bd1_s hm
    refine zcWi (As := [.int p0]) (rest := [.int 0, .int p1, .ref (ax 0)]) ⟨hx, hb, hml, hown, hts⟩ (k_X8_hand l G K c ax x7 p0 r18 e_18) (cwV 1 hts gX8_tile_X8_hand rfl rfl rfl hd_X8_hand ⟨Nat.le_of_ble_eq_true rfl, Nat.le_of_ble_eq_true rfl⟩) hK hN hZ hP hD hS hA (va_recv hK hP (ci := 8) (q0 := 0) rfl rfl) rfl hl.1 rfl (Nat.le_of_ble_eq_true rfl) dX8_tile_18 ⟨Nat.zero_le _, Nat.zero_le _⟩ (fun H locs hP hD hS => ?_)
    have hP : va_P G vwCl (wM c ax x7) H := hP
    have hD : va_D A (wM c ax x7) := hD
    refine lv_iconst (v := 1) hx hb dX8_tile_21 (by decide) ?_
    refine lv_isub hx hb dX8_tile_22 ?_
    obtain ⟨r23, e_23, hm⟩ := bd1_s hm
    refine zcSi (As := [.int p1, .int 0, .int (r18 - 1)]) (rest := [.ref (ax 0)]) ⟨hx, hb, hml, hown, hts⟩ (k_X8_in l G K c p1 0 (r18 - 1) r23 e_23) (va_cwS 3 hts gX8_tile_X8_in rfl rfl rfl hd_X8_in.2 ⟨Nat.le_of_ble_eq_true rfl, Nat.le_of_ble_eq_true rfl⟩) hK hN hZ hP hD hS hA [] rfl (by decide) rfl rfl hl.1 rfl (Nat.le_of_ble_eq_true rfl) dX8_tile_23 ⟨Nat.zero_le _, Nat.zero_le _⟩ (fun H locs hP hD hS => ?_)
    have hP : va_P G vwCl (wM c ax x7) H := hP
    have hD : va_D A (wM c ax x7) := hD
    have J_34 : ∀ (s0_34 : Int32) (H : Heap) (locs : List Loc) (ls : Array Slot), va_P G vwCl (wM c ax x7) H → va_D A (wM c ax x7) → va_S A s.heap H locs → lv_has ls 3 [(0, .ref (ax 0)), (1, .int p0), (2, .int p1)] → f_X8_tile_J34 p0 p1 x7 s0_34 = some (r, x_r) → W p l e (rm_X8_tile) s m args below meth c1 H locs 0 0 Q (F0 m 34 ls [.int s0_34, .ref (ax 0)]) := by
      intro s0_34 H locs ls hP hD hS hl hm
      unfold f_X8_tile_J34 at hm
      refine lv_iconst (v := 2) hx hb dX8_tile_34 (by decide) ?_
      obtain ⟨r35, x35, e_35, hm⟩ := bd2_s hm
      refine zcWi (As := [.int s0_34, .int 2]) (rest := []) ⟨hx, hb, hml, hown, hts⟩ (k_X8_fails l G K c ax x7 s0_34 2 r35 x35 e_35) (cwV 2 hts gX8_tile_X8_fails rfl rfl rfl hd_X8_fails ⟨Nat.le_of_ble_eq_true rfl, Nat.le_of_ble_eq_true rfl⟩) hK hN hZ hP hD hS hA (va_recv hK hP (ci := 8) (q0 := 0) rfl rfl) rfl hl.1 rfl (Nat.le_of_ble_eq_true rfl) dX8_tile_35 ⟨Nat.zero_le _, Nat.zero_le _⟩ (fun H locs hP hD hS => ?_)
      have hP : va_P G vwCl (wM c ax x35) H := hP
      have hD : va_D A (wM c ax x35) := hD
      refine lv_if_eq (tgt := 45) hx hb dX8_tile_38 (by decide) (fun c_38 => ?_) (fun c_38 => ?_)
      · have hm := ifp c_38 hm
        refine lv_aload_n hx hb dX8_tile_45 rfl (lv_at hl 0 rfl) ?_
        refine lv_iload_n hx hb dX8_tile_46 rfl (lv_at hl 1 rfl) ?_
        refine lv_iload_n hx hb dX8_tile_47 rfl (lv_at hl 2 rfl) ?_
        obtain ⟨r48, e_48, hm⟩ := bd1_s hm
        refine zcWi (As := [.int p0, .int p1]) (rest := []) ⟨hx, hb, hml, hown, hts⟩ (k_X8_tileOf l G K c ax x35 p0 p1 r48 e_48) (cwV 2 hts gX8_tile_X8_tileOf rfl rfl rfl hd_X8_tileOf ⟨Nat.le_of_ble_eq_true rfl, Nat.le_of_ble_eq_true rfl⟩) hK hN hZ hP hD hS hA (va_recv hK hP (ci := 8) (q0 := 0) rfl rfl) rfl hl.1 rfl (Nat.le_of_ble_eq_true rfl) dX8_tile_48 ⟨Nat.zero_le _, Nat.zero_le _⟩ (fun H locs hP hD hS => ?_)
        have hP : va_P G vwCl (wM c ax x35) H := hP
        have hD : va_D A (wM c ax x35) := hD
        exact hend H locs ls _ _ _ rfl (Prod.mk.inj (Option.some.inj hm)).1 (zc1 (fun (z0 : MS) => (wM c ax z0 : va_W)) (Prod.mk.inj (Option.some.inj hm)).2) hP hD hS dX8_tile_51
      · have hm := ifn c_38 hm
        refine lv_iconst (v := 0) hx hb dX8_tile_41 (by decide) ?_
        refine lv_goto (tgt := 51) hx hb dX8_tile_42 (by decide) ?_
        exact hend H locs ls _ _ _ rfl (Prod.mk.inj (Option.some.inj hm)).1 (zc1 (fun (z0 : MS) => (wM c ax z0 : va_W)) (Prod.mk.inj (Option.some.inj hm)).2) hP hD hS dX8_tile_51
    refine lv_if_ne (tgt := 33) hx hb dX8_tile_26 (by decide) (fun c_26 => ?_) (fun c_26 => ?_)
    · have hm := ifn c_26 hm
      refine lv_iconst (v := 0) hx hb dX8_tile_33 (by decide) ?_
      exact J_34 0 H locs ls hP hD hS (lv_sub hl [0, 1, 2] rfl) hm
    · have hm := ifp c_26 hm
      refine lv_iconst (v := 1) hx hb dX8_tile_29 (by decide) ?_
      refine lv_goto (tgt := 34) hx hb dX8_tile_30 (by decide) ?_
      exact J_34 1 H locs ls hP hD hS (lv_sub hl [0, 1, 2] rfl) hm

def f_X8_toldTrain_B49 (x : MS) (p0 : Int32) (r3 : Int32) (rec_49 : Int32 → Int32 → Option Int32) (v4_49 : Int32) (v5_49 : Int32) : Option Int32 :=
  if r3 ≤ v5_49 then (some (v4_49)) else (bd1 (f_X8_ofTrain x p0 (3 + v5_49)) fun (r63 : Int32) => bd1 (f_X8_pipsOf r63) fun (r66 : Int32) => rec_49 (v4_49 + r66) (v5_49 + 1))

def f_X8_toldTrain (x : MS) (p0 : Int32) (p1 : Int32) : Option Int32 :=
  bd1 (f_X8_ofTrain x p0 0) fun (r3 : Int32) => if (3 : Int32) ≤ p1 then (if p1 = 3 then (if r3 = 0 then (some ((-1))) else (bd1 (f_X8_ofTrain x p0 ((3 + r3) - 1)) fun (r42 : Int32) => some (r42))) else (itr2 (f_X8_toldTrain_B49 x p0 r3) FUEL 0 0)) else (bd1 (f_X8_ofTrain x p0 p1) fun (r18 : Int32) => some (r18))

abbrev rm_X8_toldTrain : Room := { frames := 2, cells := 0, slots := 0, locals := 42 }
theorem hd_X8_toldTrain : yX8_toldTrain.cls = RX8 ∧ yX8_toldTrain.cls ≠ "java/lang/invoke/MethodHandle" ∧ yX8_toldTrain.cls ≠ "java/lang/invoke/VarHandle" ∧ (parseMethodDescriptor yX8_toldTrain.desc).map (fun d => d.parameters.length) = some 2 := by decide +kernel
set_option maxHeartbeats 4000000 in
set_option maxRecDepth 100000 in
theorem k_X8_toldTrain (l : Launch) (G : va_G) (K : (Nat → Nat) × (Nat → Nat)) (c : Nat → ClassId) (ax : Nat → Nat) (x : MS) (p0 : Int32) (p1 : Int32) (r : Int32) (hm : f_X8_toldTrain x p0 p1 = some (r)) : zMi l yX8_toldTrain wsX8_toldTrain (rm_X8_toldTrain) G K (TY c) [.ref (ax 0), .int p0, .int p1] (wM c ax x) (wM c ax x) r := by
  refine zMi.of (cc := cX8_toldTrain) (maxL := 6) (lv := [(0, .ref (ax 0)), (1, .int p0), (2, .int p1)]) (by decide) rfl (Nat.le_of_ble_eq_true rfl) rfl ?_
  intro p e s m args below meth c1 A Q H locs hx hb hml hown hts hK hN hZ hP hD hA hS hend ls hl
  have hown : s.vm.findClass RX8 = some m.cls := hown
  unfold f_X8_toldTrain at hm
  refine lv_aload_n hx hb dX8_toldTrain_0 rfl (lv_at hl 0 rfl) ?_
  refine lv_iload_n hx hb dX8_toldTrain_1 rfl (lv_at hl 1 rfl) ?_
  refine lv_iconst (v := 0) hx hb dX8_toldTrain_2 (by decide) ?_
  obtain ⟨r3, e_3, hm⟩ := bd1_s hm
  refine zcWi (As := [.int p0, .int 0]) (rest := []) ⟨hx, hb, hml, hown, hts⟩ (k_X8_ofTrain l G K c ax x p0 0 r3 e_3) (cwV 2 hts gX8_toldTrain_X8_ofTrain rfl rfl rfl hd_X8_ofTrain ⟨Nat.le_of_ble_eq_true rfl, Nat.le_of_ble_eq_true rfl⟩) hK hN hZ hP hD hS hA (va_recv hK hP (ci := 8) (q0 := 0) rfl rfl) rfl hl.1 rfl (Nat.le_of_ble_eq_true rfl) dX8_toldTrain_3 ⟨Nat.zero_le _, Nat.zero_le _⟩ (fun H locs hP hD hS => ?_)
  have hP : va_P G vwCl (wM c ax x) H := hP
  have hD : va_D A (wM c ax x) := hD
  refine lv_istore_n (lv' := [(3, .int r3), (0, .ref (ax 0)), (1, .int p0), (2, .int p1)]) hx hb dX8_toldTrain_6 rfl hl (by decide) rfl (fun ls hl => ?_)
  refine lv_iconst (v := 0) hx hb dX8_toldTrain_7 (by decide) ?_
  refine lv_istore (lv' := [(4, .int 0), (3, .int r3), (0, .ref (ax 0)), (1, .int p0), (2, .int p1)]) hx hb dX8_toldTrain_8 hl (by decide) rfl (fun ls hl => ?_)
  refine lv_iload_n hx hb dX8_toldTrain_10 rfl (lv_at hl 4 rfl) ?_
  refine lv_iconst (v := 3) hx hb dX8_toldTrain_11 (by decide) ?_
  refine lv_icmp_ge (tgt := 22) hx hb dX8_toldTrain_12 (by decide) (fun c_12 => ?_) (fun c_12 => ?_)
  · have hm := ifp c_12 hm
    refine lv_iload_n hx hb dX8_toldTrain_22 rfl (lv_at hl 4 rfl) ?_
    refine lv_iconst (v := 3) hx hb dX8_toldTrain_23 (by decide) ?_
    refine lv_icmp_ne (tgt := 46) hx hb dX8_toldTrain_24 (by decide) (fun c_24 => ?_) (fun c_24 => ?_)
    · have hm := ifn c_24 hm
      refine lv_iconst (v := 0) hx hb dX8_toldTrain_46 (by decide) ?_
      refine lv_istore (lv' := [(5, .int 0), (4, .int 0), (3, .int r3), (0, .ref (ax 0)), (1, .int p0), (2, .int p1)]) hx hb dX8_toldTrain_47 hl (by decide) rfl (fun ls hl => ?_)
      have L_49 : ∀ (n_49 : Nat) (v4_49 : Int32) (v5_49 : Int32) (H : Heap) (locs : List Loc) (ls : Array Slot), va_P G vwCl (wM c ax x) H → va_D A (wM c ax x) → va_S A s.heap H locs → lv_has ls 6 [(0, .ref (ax 0)), (1, .int p0), (3, .int r3), (4, .int v4_49), (5, .int v5_49)] → itr2 (f_X8_toldTrain_B49 x p0 r3) n_49 v4_49 v5_49 = some (r) → W p l e (rm_X8_toldTrain) s m args below meth c1 H locs 0 0 Q (F0 m 49 ls []) := by
        intro n_49
        induction n_49 with
        | zero => intro v4_49 v5_49 H locs ls hP hD hS hl hm; exact (itr2_0 hm).elim
        | succ n_49 ih_49 =>
          intro v4_49 v5_49 H locs ls hP hD hS hl hm
          have hm := itr2_s hm
          unfold f_X8_toldTrain_B49 at hm
          refine lv_iload hx hb dX8_toldTrain_49 (lv_at hl 4 rfl) ?_
          refine lv_iload_n hx hb dX8_toldTrain_51 rfl (lv_at hl 2 rfl) ?_
          refine lv_icmp_ge (tgt := 78) hx hb dX8_toldTrain_52 (by decide) (fun c_52 => ?_) (fun c_52 => ?_)
          · have hm := ifp c_52 hm
            refine lv_iload hx hb dX8_toldTrain_78 (lv_at hl 3 rfl) ?_
            exact hend H locs ls _ _ _ rfl (Option.some.inj hm) rfl hP hD hS dX8_toldTrain_80
          · have hm := ifn c_52 hm
            refine lv_iload hx hb dX8_toldTrain_55 (lv_at hl 3 rfl) ?_
            refine lv_aload_n hx hb dX8_toldTrain_57 rfl (lv_at hl 0 rfl) ?_
            refine lv_iload_n hx hb dX8_toldTrain_58 rfl (lv_at hl 1 rfl) ?_
            refine lv_iconst (v := 3) hx hb dX8_toldTrain_59 (by decide) ?_
            refine lv_iload hx hb dX8_toldTrain_60 (lv_at hl 4 rfl) ?_
            refine lv_iadd hx hb dX8_toldTrain_62 ?_
            obtain ⟨r63, e_63, hm⟩ := bd1_s hm
            refine zcWi (As := [.int p0, .int (3 + v5_49)]) (rest := [.int v4_49]) ⟨hx, hb, hml, hown, hts⟩ (k_X8_ofTrain l G K c ax x p0 (3 + v5_49) r63 e_63) (cwV 2 hts gX8_toldTrain_X8_ofTrain rfl rfl rfl hd_X8_ofTrain ⟨Nat.le_of_ble_eq_true rfl, Nat.le_of_ble_eq_true rfl⟩) hK hN hZ hP hD hS hA (va_recv hK hP (ci := 8) (q0 := 0) rfl rfl) rfl hl.1 rfl (Nat.le_of_ble_eq_true rfl) dX8_toldTrain_63 ⟨Nat.zero_le _, Nat.zero_le _⟩ (fun H locs hP hD hS => ?_)
            have hP : va_P G vwCl (wM c ax x) H := hP
            have hD : va_D A (wM c ax x) := hD
            obtain ⟨r66, e_66, hm⟩ := bd1_s hm
            refine zcSi (As := [.int r63]) (rest := [.int v4_49]) ⟨hx, hb, hml, hown, hts⟩ (k_X8_pipsOf l G K c r63 r66 e_66) (va_cwS 1 hts gX8_toldTrain_X8_pipsOf rfl rfl rfl hd_X8_pipsOf.2 ⟨Nat.le_of_ble_eq_true rfl, Nat.le_of_ble_eq_true rfl⟩) hK hN hZ hP hD hS hA [] rfl (by decide) rfl rfl hl.1 rfl (Nat.le_of_ble_eq_true rfl) dX8_toldTrain_66 ⟨Nat.zero_le _, Nat.zero_le _⟩ (fun H locs hP hD hS => ?_)
            have hP : va_P G vwCl (wM c ax x) H := hP
            have hD : va_D A (wM c ax x) := hD
            refine lv_iadd hx hb dX8_toldTrain_69 ?_
            refine lv_istore (lv' := [(4, .int (v4_49 + r66)), (0, .ref (ax 0)), (1, .int p0), (3, .int r3), (5, .int v5_49)]) hx hb dX8_toldTrain_70 hl (by decide) rfl (fun ls hl => ?_)
            refine lv_iinc (k := 4) (v := (v5_49 + 1)) (lv' := [(5, .int (v5_49 + 1)), (4, .int (v4_49 + r66)), (0, .ref (ax 0)), (1, .int p0), (3, .int r3)]) hx hb dX8_toldTrain_72 hl rfl rfl (by decide) rfl (fun ls hl => ?_)
            refine lv_goto (tgt := 49) hx hb dX8_toldTrain_75 (by decide) ?_
            exact ih_49 (v4_49 + r66) (v5_49 + 1) H locs ls hP hD hS (lv_sub hl [2, 3, 4, 1, 0] rfl) hm
      exact L_49 FUEL 0 0 H locs ls hP hD hS (lv_sub hl [3, 4, 2, 1, 0] rfl) hm
    · have hm := ifp c_24 hm
      refine lv_iload_n hx hb dX8_toldTrain_27 rfl (lv_at hl 1 rfl) ?_
      refine lv_if_ne (tgt := 35) hx hb dX8_toldTrain_28 (by decide) (fun c_28 => ?_) (fun c_28 => ?_)
      · have hm := ifn c_28 hm
        refine lv_aload_n hx hb dX8_toldTrain_35 rfl (lv_at hl 2 rfl) ?_
        refine lv_iload_n hx hb dX8_toldTrain_36 rfl (lv_at hl 3 rfl) ?_
        refine lv_iconst (v := 3) hx hb dX8_toldTrain_37 (by decide) ?_
        refine lv_iload_n hx hb dX8_toldTrain_38 rfl (lv_at hl 1 rfl) ?_
        refine lv_iadd hx hb dX8_toldTrain_39 ?_
        refine lv_iconst (v := 1) hx hb dX8_toldTrain_40 (by decide) ?_
        refine lv_isub hx hb dX8_toldTrain_41 ?_
        obtain ⟨r42, e_42, hm⟩ := bd1_s hm
        refine zcWi (As := [.int p0, .int ((3 + r3) - 1)]) (rest := []) ⟨hx, hb, hml, hown, hts⟩ (k_X8_ofTrain l G K c ax x p0 ((3 + r3) - 1) r42 e_42) (cwV 2 hts gX8_toldTrain_X8_ofTrain rfl rfl rfl hd_X8_ofTrain ⟨Nat.le_of_ble_eq_true rfl, Nat.le_of_ble_eq_true rfl⟩) hK hN hZ hP hD hS hA (va_recv hK hP (ci := 8) (q0 := 0) rfl rfl) rfl hl.1 rfl (Nat.le_of_ble_eq_true rfl) dX8_toldTrain_42 ⟨Nat.zero_le _, Nat.zero_le _⟩ (fun H locs hP hD hS => ?_)
        have hP : va_P G vwCl (wM c ax x) H := hP
        have hD : va_D A (wM c ax x) := hD
        exact hend H locs ls _ _ _ rfl (Option.some.inj hm) rfl hP hD hS dX8_toldTrain_45
      · have hm := ifp c_28 hm
        refine lv_iconst (v := (-1)) hx hb dX8_toldTrain_31 (by decide) ?_
        refine lv_goto (tgt := 45) hx hb dX8_toldTrain_32 (by decide) ?_
        exact hend H locs ls _ _ _ rfl (Option.some.inj hm) rfl hP hD hS dX8_toldTrain_45
  · have hm := ifn c_12 hm
    refine lv_aload_n hx hb dX8_toldTrain_15 rfl (lv_at hl 2 rfl) ?_
    refine lv_iload_n hx hb dX8_toldTrain_16 rfl (lv_at hl 3 rfl) ?_
    refine lv_iload_n hx hb dX8_toldTrain_17 rfl (lv_at hl 4 rfl) ?_
    obtain ⟨r18, e_18, hm⟩ := bd1_s hm
    refine zcWi (As := [.int p0, .int p1]) (rest := []) ⟨hx, hb, hml, hown, hts⟩ (k_X8_ofTrain l G K c ax x p0 p1 r18 e_18) (cwV 2 hts gX8_toldTrain_X8_ofTrain rfl rfl rfl hd_X8_ofTrain ⟨Nat.le_of_ble_eq_true rfl, Nat.le_of_ble_eq_true rfl⟩) hK hN hZ hP hD hS hA (va_recv hK hP (ci := 8) (q0 := 0) rfl rfl) rfl hl.1 rfl (Nat.le_of_ble_eq_true rfl) dX8_toldTrain_18 ⟨Nat.zero_le _, Nat.zero_le _⟩ (fun H locs hP hD hS => ?_)
    have hP : va_P G vwCl (wM c ax x) H := hP
    have hD : va_D A (wM c ax x) := hD
    exact hend H locs ls _ _ _ rfl (Option.some.inj hm) rfl hP hD hS dX8_toldTrain_21

def f_X8_train_J28 (p0 : Int32) (p1 : Int32) (x7 : MS) (s0_28 : Int32) : Option (Int32 × MS) :=
  bd2 (f_X8_fails x7 s0_28 2) fun (r29 : Int32) (x29 : MS) => if r29 = 0 then (bd1 (f_X8_toldTrain x29 p0 p1) fun (r42 : Int32) => some (r42, x29)) else (some (0, x29))

def f_X8_train (x : MS) (p0 : Int32) (p1 : Int32) : Option (Int32 × MS) :=
  bd2 (f_X8_noTrain ((ss x.1 0 0), x.2) p0) fun (r7 : Int32) (x7 : MS) => if r7 = 0 then (bd1 (f_X8_in p1 0 4) fun (r17 : Int32) => if r17 = 0 then (f_X8_train_J28 p0 p1 x7 1) else (f_X8_train_J28 p0 p1 x7 0)) else (some (0, x7))

abbrev rm_X8_train : Room := { frames := 3, cells := 0, slots := 0, locals := 67 }
theorem hd_X8_train : yX8_train.cls = RX8 ∧ yX8_train.cls ≠ "java/lang/invoke/MethodHandle" ∧ yX8_train.cls ≠ "java/lang/invoke/VarHandle" ∧ (parseMethodDescriptor yX8_train.desc).map (fun d => d.parameters.length) = some 2 := by decide +kernel
set_option maxHeartbeats 4000000 in
set_option maxRecDepth 100000 in
theorem k_X8_train (l : Launch) (G : va_G) (K : (Nat → Nat) × (Nat → Nat)) (c : Nat → ClassId) (ax : Nat → Nat) (x : MS) (p0 : Int32) (p1 : Int32) (r : Int32) (x_r : MS) (hm : f_X8_train x p0 p1 = some (r, x_r)) : zMi l yX8_train wsX8_train (rm_X8_train) G K (TY c) [.ref (ax 0), .int p0, .int p1] (wM c ax x) (wM c ax x_r) r := by
  refine zMi.of (cc := cX8_train) (maxL := 3) (lv := [(0, .ref (ax 0)), (1, .int p0), (2, .int p1)]) (by decide) rfl (Nat.le_of_ble_eq_true rfl) rfl ?_
  intro p e s m args below meth c1 A Q H locs hx hb hml hown hts hK hN hZ hP hD hA hS hend ls hl
  have hown : s.vm.findClass RX8 = some m.cls := hown
  have hi_8 : ∀ w ∈ wsX80, w ∈ wsX8_train := (fun w h => List.mem_cons_of_mem _ (List.mem_append_right _ (h)))
  unfold f_X8_train at hm
  refine lv_aload_n hx hb dX8_train_0 rfl (lv_at hl 0 rfl) ?_
  refine lv_iconst (v := 0) hx hb dX8_train_1 (by decide) ?_
  refine va_put (D := G) (ci := 8) (v := .int 0) (C := RX8) (T := TX8) (N := 22) hx hb hts hi_8 tyX8 tyX8_ok nmX8 hown hK hP hD hS 0 rfl rfl 0 (by decide) (hts (.fieldLink RX8 53 "HubTrainsModel" "thrown" "I") (List.mem_of_getElem? (i := 1) rfl)) (fun _ h9 => h9) rfl (tyX8_ok 0 (by decide)) rfl rfl (Nat.le_of_ble_eq_true rfl) dX8_train_2 (fun H locs hP hD hS => ?_)
  have hP : va_P G vwCl (wM c ax ((ss x.1 0 0), x.2)) H := hP
  have hD : va_D A (wM c ax ((ss x.1 0 0), x.2)) := hD
  refine lv_aload_n hx hb dX8_train_5 rfl (lv_at hl 0 rfl) ?_
  refine lv_iload_n hx hb dX8_train_6 rfl (lv_at hl 1 rfl) ?_
  obtain ⟨r7, x7, e_7, hm⟩ := bd2_s hm
  refine zcWi (As := [.int p0]) (rest := []) ⟨hx, hb, hml, hown, hts⟩ (k_X8_noTrain l G K c ax ((ss x.1 0 0), x.2) p0 r7 x7 e_7) (cwV 1 hts gX8_train_X8_noTrain rfl rfl rfl hd_X8_noTrain ⟨Nat.le_of_ble_eq_true rfl, Nat.le_of_ble_eq_true rfl⟩) hK hN hZ hP hD hS hA (va_recv hK hP (ci := 8) (q0 := 0) rfl rfl) rfl hl.1 rfl (Nat.le_of_ble_eq_true rfl) dX8_train_7 ⟨Nat.zero_le _, Nat.zero_le _⟩ (fun H locs hP hD hS => ?_)
  have hP : va_P G vwCl (wM c ax x7) H := hP
  have hD : va_D A (wM c ax x7) := hD
  refine lv_if_ne (tgt := 35) hx hb dX8_train_10 (by decide) (fun c_10 => ?_) (fun c_10 => ?_)
  · have hm := ifn c_10 hm
    refine lv_iconst (v := 0) hx hb dX8_train_35 (by decide) ?_
    refine lv_goto (tgt := 45) hx hb dX8_train_36 (by decide) ?_
    exact hend H locs ls _ _ _ rfl (Prod.mk.inj (Option.some.inj hm)).1 (zc1 (fun (z0 : MS) => (wM c ax z0 : va_W)) (Prod.mk.inj (Option.some.inj hm)).2) hP hD hS dX8_train_45
  · have hm := ifp c_10 hm
    refine lv_aload_n hx hb dX8_train_13 rfl (lv_at hl 0 rfl) ?_
    refine lv_iload_n hx hb dX8_train_14 rfl (lv_at hl 2 rfl) ?_
    refine lv_iconst (v := 0) hx hb dX8_train_15 (by decide) ?_
    refine lv_iconst (v := 4) hx hb dX8_train_16 (by decide) ?_
    obtain ⟨r17, e_17, hm⟩ := bd1_s hm
    refine zcSi (As := [.int p1, .int 0, .int 4]) (rest := [.ref (ax 0)]) ⟨hx, hb, hml, hown, hts⟩ (k_X8_in l G K c p1 0 4 r17 e_17) (va_cwS 3 hts gX8_train_X8_in rfl rfl rfl hd_X8_in.2 ⟨Nat.le_of_ble_eq_true rfl, Nat.le_of_ble_eq_true rfl⟩) hK hN hZ hP hD hS hA [] rfl (by decide) rfl rfl hl.1 rfl (Nat.le_of_ble_eq_true rfl) dX8_train_17 ⟨Nat.zero_le _, Nat.zero_le _⟩ (fun H locs hP hD hS => ?_)
    have hP : va_P G vwCl (wM c ax x7) H := hP
    have hD : va_D A (wM c ax x7) := hD
    have J_28 : ∀ (s0_28 : Int32) (H : Heap) (locs : List Loc) (ls : Array Slot), va_P G vwCl (wM c ax x7) H → va_D A (wM c ax x7) → va_S A s.heap H locs → lv_has ls 3 [(0, .ref (ax 0)), (1, .int p0), (2, .int p1)] → f_X8_train_J28 p0 p1 x7 s0_28 = some (r, x_r) → W p l e (rm_X8_train) s m args below meth c1 H locs 0 0 Q (F0 m 28 ls [.int s0_28, .ref (ax 0)]) := by
      intro s0_28 H locs ls hP hD hS hl hm
      unfold f_X8_train_J28 at hm
      refine lv_iconst (v := 2) hx hb dX8_train_28 (by decide) ?_
      obtain ⟨r29, x29, e_29, hm⟩ := bd2_s hm
      refine zcWi (As := [.int s0_28, .int 2]) (rest := []) ⟨hx, hb, hml, hown, hts⟩ (k_X8_fails l G K c ax x7 s0_28 2 r29 x29 e_29) (cwV 2 hts gX8_train_X8_fails rfl rfl rfl hd_X8_fails ⟨Nat.le_of_ble_eq_true rfl, Nat.le_of_ble_eq_true rfl⟩) hK hN hZ hP hD hS hA (va_recv hK hP (ci := 8) (q0 := 0) rfl rfl) rfl hl.1 rfl (Nat.le_of_ble_eq_true rfl) dX8_train_29 ⟨Nat.zero_le _, Nat.zero_le _⟩ (fun H locs hP hD hS => ?_)
      have hP : va_P G vwCl (wM c ax x29) H := hP
      have hD : va_D A (wM c ax x29) := hD
      refine lv_if_eq (tgt := 39) hx hb dX8_train_32 (by decide) (fun c_32 => ?_) (fun c_32 => ?_)
      · have hm := ifp c_32 hm
        refine lv_aload_n hx hb dX8_train_39 rfl (lv_at hl 0 rfl) ?_
        refine lv_iload_n hx hb dX8_train_40 rfl (lv_at hl 1 rfl) ?_
        refine lv_iload_n hx hb dX8_train_41 rfl (lv_at hl 2 rfl) ?_
        obtain ⟨r42, e_42, hm⟩ := bd1_s hm
        refine zcWi (As := [.int p0, .int p1]) (rest := []) ⟨hx, hb, hml, hown, hts⟩ (k_X8_toldTrain l G K c ax x29 p0 p1 r42 e_42) (cwV 2 hts gX8_train_X8_toldTrain rfl rfl rfl hd_X8_toldTrain ⟨Nat.le_of_ble_eq_true rfl, Nat.le_of_ble_eq_true rfl⟩) hK hN hZ hP hD hS hA (va_recv hK hP (ci := 8) (q0 := 0) rfl rfl) rfl hl.1 rfl (Nat.le_of_ble_eq_true rfl) dX8_train_42 ⟨Nat.zero_le _, Nat.zero_le _⟩ (fun H locs hP hD hS => ?_)
        have hP : va_P G vwCl (wM c ax x29) H := hP
        have hD : va_D A (wM c ax x29) := hD
        exact hend H locs ls _ _ _ rfl (Prod.mk.inj (Option.some.inj hm)).1 (zc1 (fun (z0 : MS) => (wM c ax z0 : va_W)) (Prod.mk.inj (Option.some.inj hm)).2) hP hD hS dX8_train_45
      · have hm := ifn c_32 hm
        refine lv_iconst (v := 0) hx hb dX8_train_35 (by decide) ?_
        refine lv_goto (tgt := 45) hx hb dX8_train_36 (by decide) ?_
        exact hend H locs ls _ _ _ rfl (Prod.mk.inj (Option.some.inj hm)).1 (zc1 (fun (z0 : MS) => (wM c ax z0 : va_W)) (Prod.mk.inj (Option.some.inj hm)).2) hP hD hS dX8_train_45
    refine lv_if_ne (tgt := 27) hx hb dX8_train_20 (by decide) (fun c_20 => ?_) (fun c_20 => ?_)
    · have hm := ifn c_20 hm
      refine lv_iconst (v := 0) hx hb dX8_train_27 (by decide) ?_
      exact J_28 0 H locs ls hP hD hS (lv_sub hl [0, 1, 2] rfl) hm
    · have hm := ifp c_20 hm
      refine lv_iconst (v := 1) hx hb dX8_train_23 (by decide) ?_
      refine lv_goto (tgt := 28) hx hb dX8_train_24 (by decide) ?_
      exact J_28 1 H locs ls hP hD hS (lv_sub hl [0, 1, 2] rfl) hm

def f_X8_laid_J35 (p0 : Int32) (p1 : Int32) (x7 : MS) (s0_35 : Int32) : Option (Int32 × MS) :=
  bd2 (f_X8_fails x7 s0_35 2) fun (r36 : Int32) (x36 : MS) => if r36 = 0 then (bd1 (f_X8_ofTrain x36 p0 (3 + p1)) fun (r51 : Int32) => some (r51, x36)) else (some (0, x36))

def f_X8_laid (x : MS) (p0 : Int32) (p1 : Int32) : Option (Int32 × MS) :=
  bd2 (f_X8_noTrain ((ss x.1 0 0), x.2) p0) fun (r7 : Int32) (x7 : MS) => if r7 = 0 then (bd1 (f_X8_ofTrain x7 p0 0) fun (r19 : Int32) => bd1 (f_X8_in p1 0 (r19 - 1)) fun (r24 : Int32) => if r24 = 0 then (f_X8_laid_J35 p0 p1 x7 1) else (f_X8_laid_J35 p0 p1 x7 0)) else (some (0, x7))

abbrev rm_X8_laid : Room := { frames := 2, cells := 0, slots := 0, locals := 43 }
theorem hd_X8_laid : yX8_laid.cls = RX8 ∧ yX8_laid.cls ≠ "java/lang/invoke/MethodHandle" ∧ yX8_laid.cls ≠ "java/lang/invoke/VarHandle" ∧ (parseMethodDescriptor yX8_laid.desc).map (fun d => d.parameters.length) = some 2 := by decide +kernel
set_option maxHeartbeats 4000000 in
set_option maxRecDepth 100000 in
theorem k_X8_laid (l : Launch) (G : va_G) (K : (Nat → Nat) × (Nat → Nat)) (c : Nat → ClassId) (ax : Nat → Nat) (x : MS) (p0 : Int32) (p1 : Int32) (r : Int32) (x_r : MS) (hm : f_X8_laid x p0 p1 = some (r, x_r)) : zMi l yX8_laid wsX8_laid (rm_X8_laid) G K (TY c) [.ref (ax 0), .int p0, .int p1] (wM c ax x) (wM c ax x_r) r := by
  refine zMi.of (cc := cX8_laid) (maxL := 3) (lv := [(0, .ref (ax 0)), (1, .int p0), (2, .int p1)]) (by decide) rfl (Nat.le_of_ble_eq_true rfl) rfl ?_
  intro p e s m args below meth c1 A Q H locs hx hb hml hown hts hK hN hZ hP hD hA hS hend ls hl
  have hown : s.vm.findClass RX8 = some m.cls := hown
  have hi_8 : ∀ w ∈ wsX80, w ∈ wsX8_laid := (fun w h => List.mem_cons_of_mem _ (List.mem_append_right _ (h)))
  unfold f_X8_laid at hm
  refine lv_aload_n hx hb dX8_laid_0 rfl (lv_at hl 0 rfl) ?_
  refine lv_iconst (v := 0) hx hb dX8_laid_1 (by decide) ?_
  refine va_put (D := G) (ci := 8) (v := .int 0) (C := RX8) (T := TX8) (N := 22) hx hb hts hi_8 tyX8 tyX8_ok nmX8 hown hK hP hD hS 0 rfl rfl 0 (by decide) (hts (.fieldLink RX8 53 "HubTrainsModel" "thrown" "I") (List.mem_of_getElem? (i := 1) rfl)) (fun _ h9 => h9) rfl (tyX8_ok 0 (by decide)) rfl rfl (Nat.le_of_ble_eq_true rfl) dX8_laid_2 (fun H locs hP hD hS => ?_)
  have hP : va_P G vwCl (wM c ax ((ss x.1 0 0), x.2)) H := hP
  have hD : va_D A (wM c ax ((ss x.1 0 0), x.2)) := hD
  refine lv_aload_n hx hb dX8_laid_5 rfl (lv_at hl 0 rfl) ?_
  refine lv_iload_n hx hb dX8_laid_6 rfl (lv_at hl 1 rfl) ?_
  obtain ⟨r7, x7, e_7, hm⟩ := bd2_s hm
  refine zcWi (As := [.int p0]) (rest := []) ⟨hx, hb, hml, hown, hts⟩ (k_X8_noTrain l G K c ax ((ss x.1 0 0), x.2) p0 r7 x7 e_7) (cwV 1 hts gX8_laid_X8_noTrain rfl rfl rfl hd_X8_noTrain ⟨Nat.le_of_ble_eq_true rfl, Nat.le_of_ble_eq_true rfl⟩) hK hN hZ hP hD hS hA (va_recv hK hP (ci := 8) (q0 := 0) rfl rfl) rfl hl.1 rfl (Nat.le_of_ble_eq_true rfl) dX8_laid_7 ⟨Nat.zero_le _, Nat.zero_le _⟩ (fun H locs hP hD hS => ?_)
  have hP : va_P G vwCl (wM c ax x7) H := hP
  have hD : va_D A (wM c ax x7) := hD
  refine lv_if_ne (tgt := 42) hx hb dX8_laid_10 (by decide) (fun c_10 => ?_) (fun c_10 => ?_)
  · have hm := ifn c_10 hm
    refine lv_iconst (v := 0) hx hb dX8_laid_42 (by decide) ?_
    refine lv_goto (tgt := 54) hx hb dX8_laid_43 (by decide) ?_
    exact hend H locs ls _ _ _ rfl (Prod.mk.inj (Option.some.inj hm)).1 (zc1 (fun (z0 : MS) => (wM c ax z0 : va_W)) (Prod.mk.inj (Option.some.inj hm)).2) hP hD hS dX8_laid_54
  · have hm := ifp c_10 hm
    refine lv_aload_n hx hb dX8_laid_13 rfl (lv_at hl 0 rfl) ?_
    refine lv_iload_n hx hb dX8_laid_14 rfl (lv_at hl 2 rfl) ?_
    refine lv_iconst (v := 0) hx hb dX8_laid_15 (by decide) ?_
    refine lv_aload_n hx hb dX8_laid_16 rfl (lv_at hl 0 rfl) ?_
    refine lv_iload_n hx hb dX8_laid_17 rfl (lv_at hl 1 rfl) ?_
    refine lv_iconst (v := 0) hx hb dX8_laid_18 (by decide) ?_
    obtain ⟨r19, e_19, hm⟩ := bd1_s hm
    refine zcWi (As := [.int p0, .int 0]) (rest := [.int 0, .int p1, .ref (ax 0)]) ⟨hx, hb, hml, hown, hts⟩ (k_X8_ofTrain l G K c ax x7 p0 0 r19 e_19) (cwV 2 hts gX8_laid_X8_ofTrain rfl rfl rfl hd_X8_ofTrain ⟨Nat.le_of_ble_eq_true rfl, Nat.le_of_ble_eq_true rfl⟩) hK hN hZ hP hD hS hA (va_recv hK hP (ci := 8) (q0 := 0) rfl rfl) rfl hl.1 rfl (Nat.le_of_ble_eq_true rfl) dX8_laid_19 ⟨Nat.zero_le _, Nat.zero_le _⟩ (fun H locs hP hD hS => ?_)
    have hP : va_P G vwCl (wM c ax x7) H := hP
    have hD : va_D A (wM c ax x7) := hD
    refine lv_iconst (v := 1) hx hb dX8_laid_22 (by decide) ?_
    refine lv_isub hx hb dX8_laid_23 ?_
    obtain ⟨r24, e_24, hm⟩ := bd1_s hm
    refine zcSi (As := [.int p1, .int 0, .int (r19 - 1)]) (rest := [.ref (ax 0)]) ⟨hx, hb, hml, hown, hts⟩ (k_X8_in l G K c p1 0 (r19 - 1) r24 e_24) (va_cwS 3 hts gX8_laid_X8_in rfl rfl rfl hd_X8_in.2 ⟨Nat.le_of_ble_eq_true rfl, Nat.le_of_ble_eq_true rfl⟩) hK hN hZ hP hD hS hA [] rfl (by decide) rfl rfl hl.1 rfl (Nat.le_of_ble_eq_true rfl) dX8_laid_24 ⟨Nat.zero_le _, Nat.zero_le _⟩ (fun H locs hP hD hS => ?_)
    have hP : va_P G vwCl (wM c ax x7) H := hP
    have hD : va_D A (wM c ax x7) := hD
    have J_35 : ∀ (s0_35 : Int32) (H : Heap) (locs : List Loc) (ls : Array Slot), va_P G vwCl (wM c ax x7) H → va_D A (wM c ax x7) → va_S A s.heap H locs → lv_has ls 3 [(0, .ref (ax 0)), (1, .int p0), (2, .int p1)] → f_X8_laid_J35 p0 p1 x7 s0_35 = some (r, x_r) → W p l e (rm_X8_laid) s m args below meth c1 H locs 0 0 Q (F0 m 35 ls [.int s0_35, .ref (ax 0)]) := by
      intro s0_35 H locs ls hP hD hS hl hm
      unfold f_X8_laid_J35 at hm
      refine lv_iconst (v := 2) hx hb dX8_laid_35 (by decide) ?_
      obtain ⟨r36, x36, e_36, hm⟩ := bd2_s hm
      refine zcWi (As := [.int s0_35, .int 2]) (rest := []) ⟨hx, hb, hml, hown, hts⟩ (k_X8_fails l G K c ax x7 s0_35 2 r36 x36 e_36) (cwV 2 hts gX8_laid_X8_fails rfl rfl rfl hd_X8_fails ⟨Nat.le_of_ble_eq_true rfl, Nat.le_of_ble_eq_true rfl⟩) hK hN hZ hP hD hS hA (va_recv hK hP (ci := 8) (q0 := 0) rfl rfl) rfl hl.1 rfl (Nat.le_of_ble_eq_true rfl) dX8_laid_36 ⟨Nat.zero_le _, Nat.zero_le _⟩ (fun H locs hP hD hS => ?_)
      have hP : va_P G vwCl (wM c ax x36) H := hP
      have hD : va_D A (wM c ax x36) := hD
      refine lv_if_eq (tgt := 46) hx hb dX8_laid_39 (by decide) (fun c_39 => ?_) (fun c_39 => ?_)
      · have hm := ifp c_39 hm
        refine lv_aload_n hx hb dX8_laid_46 rfl (lv_at hl 0 rfl) ?_
        refine lv_iload_n hx hb dX8_laid_47 rfl (lv_at hl 1 rfl) ?_
        refine lv_iconst (v := 3) hx hb dX8_laid_48 (by decide) ?_
        refine lv_iload_n hx hb dX8_laid_49 rfl (lv_at hl 2 rfl) ?_
        refine lv_iadd hx hb dX8_laid_50 ?_
        obtain ⟨r51, e_51, hm⟩ := bd1_s hm
        refine zcWi (As := [.int p0, .int (3 + p1)]) (rest := []) ⟨hx, hb, hml, hown, hts⟩ (k_X8_ofTrain l G K c ax x36 p0 (3 + p1) r51 e_51) (cwV 2 hts gX8_laid_X8_ofTrain rfl rfl rfl hd_X8_ofTrain ⟨Nat.le_of_ble_eq_true rfl, Nat.le_of_ble_eq_true rfl⟩) hK hN hZ hP hD hS hA (va_recv hK hP (ci := 8) (q0 := 0) rfl rfl) rfl hl.1 rfl (Nat.le_of_ble_eq_true rfl) dX8_laid_51 ⟨Nat.zero_le _, Nat.zero_le _⟩ (fun H locs hP hD hS => ?_)
        have hP : va_P G vwCl (wM c ax x36) H := hP
        have hD : va_D A (wM c ax x36) := hD
        exact hend H locs ls _ _ _ rfl (Prod.mk.inj (Option.some.inj hm)).1 (zc1 (fun (z0 : MS) => (wM c ax z0 : va_W)) (Prod.mk.inj (Option.some.inj hm)).2) hP hD hS dX8_laid_54
      · have hm := ifn c_39 hm
        refine lv_iconst (v := 0) hx hb dX8_laid_42 (by decide) ?_
        refine lv_goto (tgt := 54) hx hb dX8_laid_43 (by decide) ?_
        exact hend H locs ls _ _ _ rfl (Prod.mk.inj (Option.some.inj hm)).1 (zc1 (fun (z0 : MS) => (wM c ax z0 : va_W)) (Prod.mk.inj (Option.some.inj hm)).2) hP hD hS dX8_laid_54
    refine lv_if_ne (tgt := 34) hx hb dX8_laid_27 (by decide) (fun c_27 => ?_) (fun c_27 => ?_)
    · have hm := ifn c_27 hm
      refine lv_iconst (v := 0) hx hb dX8_laid_34 (by decide) ?_
      exact J_35 0 H locs ls hP hD hS (lv_sub hl [0, 1, 2] rfl) hm
    · have hm := ifp c_27 hm
      refine lv_iconst (v := 1) hx hb dX8_laid_30 (by decide) ?_
      refine lv_goto (tgt := 35) hx hb dX8_laid_31 (by decide) ?_
      exact J_35 1 H locs ls hP hD hS (lv_sub hl [0, 1, 2] rfl) hm

def f_X8_noTileOn_J25 (x2 : MS) (s0_25 : Int32) : Option (Int32 × MS) :=
  bd2 (f_X8_fails x2 s0_25 2) fun (r26 : Int32) (x26 : MS) => if r26 = 0 then (some (0, x26)) else (some (1, x26))

def f_X8_noTileOn (x : MS) (p0 : Int32) (p1 : Int32) : Option (Int32 × MS) :=
  bd2 (f_X8_noTrain x p1) fun (r2 : Int32) (x2 : MS) => if r2 = 0 then (bd1 (f_X8_isTile 1464 (x2.1.2 1) p0) fun (r14 : Int32) => if r14 = 0 then (f_X8_noTileOn_J25 x2 1) else (f_X8_noTileOn_J25 x2 0)) else (some (1, x2))

abbrev rm_X8_noTileOn : Room := { frames := 2, cells := 0, slots := 0, locals := 43 }
theorem hd_X8_noTileOn : yX8_noTileOn.cls = RX8 ∧ yX8_noTileOn.cls ≠ "java/lang/invoke/MethodHandle" ∧ yX8_noTileOn.cls ≠ "java/lang/invoke/VarHandle" ∧ (parseMethodDescriptor yX8_noTileOn.desc).map (fun d => d.parameters.length) = some 2 := by decide +kernel
set_option maxHeartbeats 4000000 in
set_option maxRecDepth 100000 in
theorem k_X8_noTileOn (l : Launch) (G : va_G) (K : (Nat → Nat) × (Nat → Nat)) (c : Nat → ClassId) (ax : Nat → Nat) (x : MS) (p0 : Int32) (p1 : Int32) (r : Int32) (x_r : MS) (hm : f_X8_noTileOn x p0 p1 = some (r, x_r)) : zMi l yX8_noTileOn wsX8_noTileOn (rm_X8_noTileOn) G K (TY c) [.ref (ax 0), .int p0, .int p1] (wM c ax x) (wM c ax x_r) r := by
  refine zMi.of (cc := cX8_noTileOn) (maxL := 3) (lv := [(0, .ref (ax 0)), (1, .int p0), (2, .int p1)]) (by decide) rfl (Nat.le_of_ble_eq_true rfl) rfl ?_
  intro p e s m args below meth c1 A Q H locs hx hb hml hown hts hK hN hZ hP hD hA hS hend ls hl
  have hown : s.vm.findClass RX8 = some m.cls := hown
  have hi_8 : ∀ w ∈ wsX80, w ∈ wsX8_noTileOn := (fun w h => List.mem_cons_of_mem _ (List.mem_append_right _ (h)))
  unfold f_X8_noTileOn at hm
  refine lv_aload_n hx hb dX8_noTileOn_0 rfl (lv_at hl 0 rfl) ?_
  refine lv_iload_n hx hb dX8_noTileOn_1 rfl (lv_at hl 2 rfl) ?_
  obtain ⟨r2, x2, e_2, hm⟩ := bd2_s hm
  refine zcWi (As := [.int p1]) (rest := []) ⟨hx, hb, hml, hown, hts⟩ (k_X8_noTrain l G K c ax x p1 r2 x2 e_2) (cwV 1 hts gX8_noTileOn_X8_noTrain rfl rfl rfl hd_X8_noTrain ⟨Nat.le_of_ble_eq_true rfl, Nat.le_of_ble_eq_true rfl⟩) hK hN hZ hP hD hS hA (va_recv hK hP (ci := 8) (q0 := 0) rfl rfl) rfl hl.1 rfl (Nat.le_of_ble_eq_true rfl) dX8_noTileOn_2 ⟨Nat.zero_le _, Nat.zero_le _⟩ (fun H locs hP hD hS => ?_)
  have hP : va_P G vwCl (wM c ax x2) H := hP
  have hD : va_D A (wM c ax x2) := hD
  refine lv_if_ne (tgt := 32) hx hb dX8_noTileOn_5 (by decide) (fun c_5 => ?_) (fun c_5 => ?_)
  · have hm := ifn c_5 hm
    refine lv_iconst (v := 1) hx hb dX8_noTileOn_32 (by decide) ?_
    refine lv_goto (tgt := 37) hx hb dX8_noTileOn_33 (by decide) ?_
    exact hend H locs ls _ _ _ (by decide) (Prod.mk.inj (Option.some.inj hm)).1 (zc1 (fun (z0 : MS) => (wM c ax z0 : va_W)) (Prod.mk.inj (Option.some.inj hm)).2) hP hD hS dX8_noTileOn_37
  · have hm := ifp c_5 hm
    refine lv_aload_n hx hb dX8_noTileOn_8 rfl (lv_at hl 0 rfl) ?_
    refine lv_aload_n hx hb dX8_noTileOn_9 rfl (lv_at hl 0 rfl) ?_
    refine va_get (D := G) (ci := 8) (v := .ref (ax 2)) (C := RX8) (T := TX8) (N := 22) hx hb hts hi_8 hown hK hP 0 rfl rfl 8 (by decide) (hts (.fieldLink RX8 17 "HubTrainsModel" "data" "[I") (List.mem_of_getElem? (i := 1) rfl)) (fun _ h9 => h9) rfl dX8_noTileOn_10 ?_
    refine lv_iload_n hx hb dX8_noTileOn_13 rfl (lv_at hl 1 rfl) ?_
    obtain ⟨r14, e_14, hm⟩ := bd1_s hm
    refine zcSi (As := [.ref (ax 2), .int p0]) (rest := [.ref (ax 0)]) ⟨hx, hb, hml, hown, hts⟩ (k_X8_isTile l G K c (ax 2) 1464 (x2.1.2 1) p0 r14 e_14) (va_cwS 2 hts gX8_noTileOn_X8_isTile rfl rfl rfl hd_X8_isTile.2 ⟨Nat.le_of_ble_eq_true rfl, Nat.le_of_ble_eq_true rfl⟩) hK hN hZ hP hD hS hA [2] rfl (by decide) rfl rfl hl.1 rfl (Nat.le_of_ble_eq_true rfl) dX8_noTileOn_14 ⟨Nat.zero_le _, Nat.zero_le _⟩ (fun H locs hP hD hS => ?_)
    have hP : va_P G vwCl (wM c ax x2) H := hP
    have hD : va_D A (wM c ax x2) := hD
    have J_25 : ∀ (s0_25 : Int32) (H : Heap) (locs : List Loc) (ls : Array Slot), va_P G vwCl (wM c ax x2) H → va_D A (wM c ax x2) → va_S A s.heap H locs → lv_has ls 3 [] → f_X8_noTileOn_J25 x2 s0_25 = some (r, x_r) → W p l e (rm_X8_noTileOn) s m args below meth c1 H locs 0 0 Q (F0 m 25 ls [.int s0_25, .ref (ax 0)]) := by
      intro s0_25 H locs ls hP hD hS hl hm
      unfold f_X8_noTileOn_J25 at hm
      refine lv_iconst (v := 2) hx hb dX8_noTileOn_25 (by decide) ?_
      obtain ⟨r26, x26, e_26, hm⟩ := bd2_s hm
      refine zcWi (As := [.int s0_25, .int 2]) (rest := []) ⟨hx, hb, hml, hown, hts⟩ (k_X8_fails l G K c ax x2 s0_25 2 r26 x26 e_26) (cwV 2 hts gX8_noTileOn_X8_fails rfl rfl rfl hd_X8_fails ⟨Nat.le_of_ble_eq_true rfl, Nat.le_of_ble_eq_true rfl⟩) hK hN hZ hP hD hS hA (va_recv hK hP (ci := 8) (q0 := 0) rfl rfl) rfl hl.1 rfl (Nat.le_of_ble_eq_true rfl) dX8_noTileOn_26 ⟨Nat.zero_le _, Nat.zero_le _⟩ (fun H locs hP hD hS => ?_)
      have hP : va_P G vwCl (wM c ax x26) H := hP
      have hD : va_D A (wM c ax x26) := hD
      refine lv_if_eq (tgt := 36) hx hb dX8_noTileOn_29 (by decide) (fun c_29 => ?_) (fun c_29 => ?_)
      · have hm := ifp c_29 hm
        refine lv_iconst (v := 0) hx hb dX8_noTileOn_36 (by decide) ?_
        exact hend H locs ls _ _ _ (by decide) (Prod.mk.inj (Option.some.inj hm)).1 (zc1 (fun (z0 : MS) => (wM c ax z0 : va_W)) (Prod.mk.inj (Option.some.inj hm)).2) hP hD hS dX8_noTileOn_37
      · have hm := ifn c_29 hm
        refine lv_iconst (v := 1) hx hb dX8_noTileOn_32 (by decide) ?_
        refine lv_goto (tgt := 37) hx hb dX8_noTileOn_33 (by decide) ?_
        exact hend H locs ls _ _ _ (by decide) (Prod.mk.inj (Option.some.inj hm)).1 (zc1 (fun (z0 : MS) => (wM c ax z0 : va_W)) (Prod.mk.inj (Option.some.inj hm)).2) hP hD hS dX8_noTileOn_37
    refine lv_if_ne (tgt := 24) hx hb dX8_noTileOn_17 (by decide) (fun c_17 => ?_) (fun c_17 => ?_)
    · have hm := ifn c_17 hm
      refine lv_iconst (v := 0) hx hb dX8_noTileOn_24 (by decide) ?_
      exact J_25 0 H locs ls hP hD hS (lv_sub hl [] rfl) hm
    · have hm := ifp c_17 hm
      refine lv_iconst (v := 1) hx hb dX8_noTileOn_20 (by decide) ?_
      refine lv_goto (tgt := 25) hx hb dX8_noTileOn_21 (by decide) ?_
      exact J_25 1 H locs ls hP hD hS (lv_sub hl [] rfl) hm


def f_X8_why (x : MS) (p0 : Int32) (p1 : Int32) : Option (Int32 × MS) :=
  bd2 (f_X8_noTileOn ((ss x.1 0 0), x.2) p0 p1) fun (r8 : Int32) (x8 : MS) => if r8 = 0 then (bd1 (f_X8_refusal x8 p0 p1) fun (r21 : Int32) => some (r21, x8)) else (some (0, x8))

abbrev rm_X8_why : Room := { frames := 3, cells := 0, slots := 0, locals := 65 }
theorem hd_X8_why : yX8_why.cls = RX8 ∧ yX8_why.cls ≠ "java/lang/invoke/MethodHandle" ∧ yX8_why.cls ≠ "java/lang/invoke/VarHandle" ∧ (parseMethodDescriptor yX8_why.desc).map (fun d => d.parameters.length) = some 2 := by decide +kernel
set_option maxHeartbeats 4000000 in
set_option maxRecDepth 100000 in
theorem k_X8_why (l : Launch) (G : va_G) (K : (Nat → Nat) × (Nat → Nat)) (c : Nat → ClassId) (ax : Nat → Nat) (x : MS) (p0 : Int32) (p1 : Int32) (r : Int32) (x_r : MS) (hm : f_X8_why x p0 p1 = some (r, x_r)) : zMi l yX8_why wsX8_why (rm_X8_why) G K (TY c) [.ref (ax 0), .int p0, .int p1] (wM c ax x) (wM c ax x_r) r := by
  refine zMi.of (cc := cX8_why) (maxL := 3) (lv := [(0, .ref (ax 0)), (1, .int p0), (2, .int p1)]) (by decide) rfl (Nat.le_of_ble_eq_true rfl) rfl ?_
  intro p e s m args below meth c1 A Q H locs hx hb hml hown hts hK hN hZ hP hD hA hS hend ls hl
  have hown : s.vm.findClass RX8 = some m.cls := hown
  have hi_8 : ∀ w ∈ wsX80, w ∈ wsX8_why := (fun w h => List.mem_cons_of_mem _ (List.mem_append_right _ (h)))
  unfold f_X8_why at hm
  refine lv_aload_n hx hb dX8_why_0 rfl (lv_at hl 0 rfl) ?_
  refine lv_iconst (v := 0) hx hb dX8_why_1 (by decide) ?_
  refine va_put (D := G) (ci := 8) (v := .int 0) (C := RX8) (T := TX8) (N := 22) hx hb hts hi_8 tyX8 tyX8_ok nmX8 hown hK hP hD hS 0 rfl rfl 0 (by decide) (hts (.fieldLink RX8 53 "HubTrainsModel" "thrown" "I") (List.mem_of_getElem? (i := 1) rfl)) (fun _ h9 => h9) rfl (tyX8_ok 0 (by decide)) rfl rfl (Nat.le_of_ble_eq_true rfl) dX8_why_2 (fun H locs hP hD hS => ?_)
  have hP : va_P G vwCl (wM c ax ((ss x.1 0 0), x.2)) H := hP
  have hD : va_D A (wM c ax ((ss x.1 0 0), x.2)) := hD
  refine lv_aload_n hx hb dX8_why_5 rfl (lv_at hl 0 rfl) ?_
  refine lv_iload_n hx hb dX8_why_6 rfl (lv_at hl 1 rfl) ?_
  refine lv_iload_n hx hb dX8_why_7 rfl (lv_at hl 2 rfl) ?_
  obtain ⟨r8, x8, e_8, hm⟩ := bd2_s hm
  refine zcWi (As := [.int p0, .int p1]) (rest := []) ⟨hx, hb, hml, hown, hts⟩ (k_X8_noTileOn l G K c ax ((ss x.1 0 0), x.2) p0 p1 r8 x8 e_8) (cwV 2 hts gX8_why_X8_noTileOn rfl rfl rfl hd_X8_noTileOn ⟨Nat.le_of_ble_eq_true rfl, Nat.le_of_ble_eq_true rfl⟩) hK hN hZ hP hD hS hA (va_recv hK hP (ci := 8) (q0 := 0) rfl rfl) rfl hl.1 rfl (Nat.le_of_ble_eq_true rfl) dX8_why_8 ⟨Nat.zero_le _, Nat.zero_le _⟩ (fun H locs hP hD hS => ?_)
  have hP : va_P G vwCl (wM c ax x8) H := hP
  have hD : va_D A (wM c ax x8) := hD
  refine lv_if_eq (tgt := 18) hx hb dX8_why_11 (by decide) (fun c_11 => ?_) (fun c_11 => ?_)
  · have hm := ifp c_11 hm
    refine lv_aload_n hx hb dX8_why_18 rfl (lv_at hl 0 rfl) ?_
    refine lv_iload_n hx hb dX8_why_19 rfl (lv_at hl 1 rfl) ?_
    refine lv_iload_n hx hb dX8_why_20 rfl (lv_at hl 2 rfl) ?_
    obtain ⟨r21, e_21, hm⟩ := bd1_s hm
    refine zcWi (As := [.int p0, .int p1]) (rest := []) ⟨hx, hb, hml, hown, hts⟩ (k_X8_refusal l G K c ax x8 p0 p1 r21 e_21) (cwV 2 hts gX8_why_X8_refusal rfl rfl rfl hd_X8_refusal ⟨Nat.le_of_ble_eq_true rfl, Nat.le_of_ble_eq_true rfl⟩) hK hN hZ hP hD hS hA (va_recv hK hP (ci := 8) (q0 := 0) rfl rfl) rfl hl.1 rfl (Nat.le_of_ble_eq_true rfl) dX8_why_21 ⟨Nat.zero_le _, Nat.zero_le _⟩ (fun H locs hP hD hS => ?_)
    have hP : va_P G vwCl (wM c ax x8) H := hP
    have hD : va_D A (wM c ax x8) := hD
    exact hend H locs ls _ _ _ rfl (Prod.mk.inj (Option.some.inj hm)).1 (zc1 (fun (z0 : MS) => (wM c ax z0 : va_W)) (Prod.mk.inj (Option.some.inj hm)).2) hP hD hS dX8_why_24
  · have hm := ifn c_11 hm
    refine lv_iconst (v := 0) hx hb dX8_why_14 (by decide) ?_
    refine lv_goto (tgt := 24) hx hb dX8_why_15 (by decide) ?_
    exact hend H locs ls _ _ _ rfl (Prod.mk.inj (Option.some.inj hm)).1 (zc1 (fun (z0 : MS) => (wM c ax z0 : va_W)) (Prod.mk.inj (Option.some.inj hm)).2) hP hD hS dX8_why_24


def f_X8_best (x : MS) : Option (Int32 × MS) :=
  bd2 (f_X8_bestPlay ((ss x.1 0 0), x.2)) fun (r6 : Int32) (x6 : MS) => some (r6, x6)

abbrev rm_X8_best : Room := { frames := 5, cells := 0, slots := 0, locals := 117 }
theorem hd_X8_best : yX8_best.cls = RX8 ∧ yX8_best.cls ≠ "java/lang/invoke/MethodHandle" ∧ yX8_best.cls ≠ "java/lang/invoke/VarHandle" ∧ (parseMethodDescriptor yX8_best.desc).map (fun d => d.parameters.length) = some 0 := by decide +kernel
set_option maxHeartbeats 4000000 in
set_option maxRecDepth 100000 in
theorem k_X8_best (l : Launch) (G : va_G) (K : (Nat → Nat) × (Nat → Nat)) (c : Nat → ClassId) (ax : Nat → Nat) (x : MS) (r : Int32) (x_r : MS) (hm : f_X8_best x = some (r, x_r)) : zMi l yX8_best wsX8_best (rm_X8_best) G K (TY c) [.ref (ax 0)] (wM c ax x) (wM c ax x_r) r := by
  refine zMi.of (cc := cX8_best) (maxL := 1) (lv := [(0, .ref (ax 0))]) (by decide) rfl (Nat.le_of_ble_eq_true rfl) rfl ?_
  intro p e s m args below meth c1 A Q H locs hx hb hml hown hts hK hN hZ hP hD hA hS hend ls hl
  have hown : s.vm.findClass RX8 = some m.cls := hown
  have hi_8 : ∀ w ∈ wsX80, w ∈ wsX8_best := (fun w h => List.mem_cons_of_mem _ (List.mem_append_right _ (h)))
  unfold f_X8_best at hm
  refine lv_aload_n hx hb dX8_best_0 rfl (lv_at hl 0 rfl) ?_
  refine lv_iconst (v := 0) hx hb dX8_best_1 (by decide) ?_
  refine va_put (D := G) (ci := 8) (v := .int 0) (C := RX8) (T := TX8) (N := 22) hx hb hts hi_8 tyX8 tyX8_ok nmX8 hown hK hP hD hS 0 rfl rfl 0 (by decide) (hts (.fieldLink RX8 53 "HubTrainsModel" "thrown" "I") (List.mem_of_getElem? (i := 1) rfl)) (fun _ h9 => h9) rfl (tyX8_ok 0 (by decide)) rfl rfl (Nat.le_of_ble_eq_true rfl) dX8_best_2 (fun H locs hP hD hS => ?_)
  have hP : va_P G vwCl (wM c ax ((ss x.1 0 0), x.2)) H := hP
  have hD : va_D A (wM c ax ((ss x.1 0 0), x.2)) := hD
  refine lv_aload_n hx hb dX8_best_5 rfl (lv_at hl 0 rfl) ?_
  obtain ⟨r6, x6, e_6, hm⟩ := bd2_s hm
  refine zcWi (As := []) (rest := []) ⟨hx, hb, hml, hown, hts⟩ (k_X8_bestPlay l G K c ax ((ss x.1 0 0), x.2) r6 x6 e_6) (cwV 0 hts gX8_best_X8_bestPlay rfl rfl rfl hd_X8_bestPlay ⟨Nat.le_of_ble_eq_true rfl, Nat.le_of_ble_eq_true rfl⟩) hK hN hZ hP hD hS hA (va_recv hK hP (ci := 8) (q0 := 0) rfl rfl) rfl hl.1 rfl (Nat.le_of_ble_eq_true rfl) dX8_best_6 ⟨Nat.zero_le _, Nat.zero_le _⟩ (fun H locs hP hD hS => ?_)
  have hP : va_P G vwCl (wM c ax x6) H := hP
  have hD : va_D A (wM c ax x6) := hD
  exact hend H locs ls _ _ _ rfl (Prod.mk.inj (Option.some.inj hm)).1 (zc1 (fun (z0 : MS) => (wM c ax z0 : va_W)) (Prod.mk.inj (Option.some.inj hm)).2) hP hD hS dX8_best_9

def f_X8_rank_J29 (p0 : Int32) (p1 : Int32) (x8 : MS) (s0_29 : Int32) : Option (Int32 × MS) :=
  bd2 (f_X8_fails x8 s0_29 3) fun (r30 : Int32) (x30 : MS) => if r30 = 0 then (bd2 (f_X8_rankOf x30 p0 p1) fun (r43 : Int32) (x43 : MS) => some (r43, x43)) else (some (0, x30))

def f_X8_rank (x : MS) (p0 : Int32) (p1 : Int32) : Option (Int32 × MS) :=
  bd2 (f_X8_noTileOn ((ss x.1 0 0), x.2) p0 p1) fun (r8 : Int32) (x8 : MS) => if r8 = 0 then (bd1 (f_X8_refusal x8 p0 p1) fun (r18 : Int32) => if r18 = 0 then (f_X8_rank_J29 p0 p1 x8 0) else (f_X8_rank_J29 p0 p1 x8 1)) else (some (0, x8))

abbrev rm_X8_rank : Room := { frames := 4, cells := 0, slots := 0, locals := 92 }
theorem hd_X8_rank : yX8_rank.cls = RX8 ∧ yX8_rank.cls ≠ "java/lang/invoke/MethodHandle" ∧ yX8_rank.cls ≠ "java/lang/invoke/VarHandle" ∧ (parseMethodDescriptor yX8_rank.desc).map (fun d => d.parameters.length) = some 2 := by decide +kernel
set_option maxHeartbeats 4000000 in
set_option maxRecDepth 100000 in
theorem k_X8_rank (l : Launch) (G : va_G) (K : (Nat → Nat) × (Nat → Nat)) (c : Nat → ClassId) (ax : Nat → Nat) (x : MS) (p0 : Int32) (p1 : Int32) (r : Int32) (x_r : MS) (hm : f_X8_rank x p0 p1 = some (r, x_r)) : zMi l yX8_rank wsX8_rank (rm_X8_rank) G K (TY c) [.ref (ax 0), .int p0, .int p1] (wM c ax x) (wM c ax x_r) r := by
  refine zMi.of (cc := cX8_rank) (maxL := 3) (lv := [(0, .ref (ax 0)), (1, .int p0), (2, .int p1)]) (by decide) rfl (Nat.le_of_ble_eq_true rfl) rfl ?_
  intro p e s m args below meth c1 A Q H locs hx hb hml hown hts hK hN hZ hP hD hA hS hend ls hl
  have hown : s.vm.findClass RX8 = some m.cls := hown
  have hi_8 : ∀ w ∈ wsX80, w ∈ wsX8_rank := (fun w h => List.mem_cons_of_mem _ (List.mem_append_right _ (h)))
  unfold f_X8_rank at hm
  refine lv_aload_n hx hb dX8_rank_0 rfl (lv_at hl 0 rfl) ?_
  refine lv_iconst (v := 0) hx hb dX8_rank_1 (by decide) ?_
  refine va_put (D := G) (ci := 8) (v := .int 0) (C := RX8) (T := TX8) (N := 22) hx hb hts hi_8 tyX8 tyX8_ok nmX8 hown hK hP hD hS 0 rfl rfl 0 (by decide) (hts (.fieldLink RX8 53 "HubTrainsModel" "thrown" "I") (List.mem_of_getElem? (i := 1) rfl)) (fun _ h9 => h9) rfl (tyX8_ok 0 (by decide)) rfl rfl (Nat.le_of_ble_eq_true rfl) dX8_rank_2 (fun H locs hP hD hS => ?_)
  have hP : va_P G vwCl (wM c ax ((ss x.1 0 0), x.2)) H := hP
  have hD : va_D A (wM c ax ((ss x.1 0 0), x.2)) := hD
  refine lv_aload_n hx hb dX8_rank_5 rfl (lv_at hl 0 rfl) ?_
  refine lv_iload_n hx hb dX8_rank_6 rfl (lv_at hl 1 rfl) ?_
  refine lv_iload_n hx hb dX8_rank_7 rfl (lv_at hl 2 rfl) ?_
  obtain ⟨r8, x8, e_8, hm⟩ := bd2_s hm
  refine zcWi (As := [.int p0, .int p1]) (rest := []) ⟨hx, hb, hml, hown, hts⟩ (k_X8_noTileOn l G K c ax ((ss x.1 0 0), x.2) p0 p1 r8 x8 e_8) (cwV 2 hts gX8_rank_X8_noTileOn rfl rfl rfl hd_X8_noTileOn ⟨Nat.le_of_ble_eq_true rfl, Nat.le_of_ble_eq_true rfl⟩) hK hN hZ hP hD hS hA (va_recv hK hP (ci := 8) (q0 := 0) rfl rfl) rfl hl.1 rfl (Nat.le_of_ble_eq_true rfl) dX8_rank_8 ⟨Nat.zero_le _, Nat.zero_le _⟩ (fun H locs hP hD hS => ?_)
  have hP : va_P G vwCl (wM c ax x8) H := hP
  have hD : va_D A (wM c ax x8) := hD
  refine lv_if_ne (tgt := 36) hx hb dX8_rank_11 (by decide) (fun c_11 => ?_) (fun c_11 => ?_)
  · have hm := ifn c_11 hm
    refine lv_iconst (v := 0) hx hb dX8_rank_36 (by decide) ?_
    refine lv_goto (tgt := 46) hx hb dX8_rank_37 (by decide) ?_
    exact hend H locs ls _ _ _ rfl (Prod.mk.inj (Option.some.inj hm)).1 (zc1 (fun (z0 : MS) => (wM c ax z0 : va_W)) (Prod.mk.inj (Option.some.inj hm)).2) hP hD hS dX8_rank_46
  · have hm := ifp c_11 hm
    refine lv_aload_n hx hb dX8_rank_14 rfl (lv_at hl 0 rfl) ?_
    refine lv_aload_n hx hb dX8_rank_15 rfl (lv_at hl 0 rfl) ?_
    refine lv_iload_n hx hb dX8_rank_16 rfl (lv_at hl 1 rfl) ?_
    refine lv_iload_n hx hb dX8_rank_17 rfl (lv_at hl 2 rfl) ?_
    obtain ⟨r18, e_18, hm⟩ := bd1_s hm
    refine zcWi (As := [.int p0, .int p1]) (rest := [.ref (ax 0)]) ⟨hx, hb, hml, hown, hts⟩ (k_X8_refusal l G K c ax x8 p0 p1 r18 e_18) (cwV 2 hts gX8_rank_X8_refusal rfl rfl rfl hd_X8_refusal ⟨Nat.le_of_ble_eq_true rfl, Nat.le_of_ble_eq_true rfl⟩) hK hN hZ hP hD hS hA (va_recv hK hP (ci := 8) (q0 := 0) rfl rfl) rfl hl.1 rfl (Nat.le_of_ble_eq_true rfl) dX8_rank_18 ⟨Nat.zero_le _, Nat.zero_le _⟩ (fun H locs hP hD hS => ?_)
    have hP : va_P G vwCl (wM c ax x8) H := hP
    have hD : va_D A (wM c ax x8) := hD
    have J_29 : ∀ (s0_29 : Int32) (H : Heap) (locs : List Loc) (ls : Array Slot), va_P G vwCl (wM c ax x8) H → va_D A (wM c ax x8) → va_S A s.heap H locs → lv_has ls 3 [(0, .ref (ax 0)), (1, .int p0), (2, .int p1)] → f_X8_rank_J29 p0 p1 x8 s0_29 = some (r, x_r) → W p l e (rm_X8_rank) s m args below meth c1 H locs 0 0 Q (F0 m 29 ls [.int s0_29, .ref (ax 0)]) := by
      intro s0_29 H locs ls hP hD hS hl hm
      unfold f_X8_rank_J29 at hm
      refine lv_iconst (v := 3) hx hb dX8_rank_29 (by decide) ?_
      obtain ⟨r30, x30, e_30, hm⟩ := bd2_s hm
      refine zcWi (As := [.int s0_29, .int 3]) (rest := []) ⟨hx, hb, hml, hown, hts⟩ (k_X8_fails l G K c ax x8 s0_29 3 r30 x30 e_30) (cwV 2 hts gX8_rank_X8_fails rfl rfl rfl hd_X8_fails ⟨Nat.le_of_ble_eq_true rfl, Nat.le_of_ble_eq_true rfl⟩) hK hN hZ hP hD hS hA (va_recv hK hP (ci := 8) (q0 := 0) rfl rfl) rfl hl.1 rfl (Nat.le_of_ble_eq_true rfl) dX8_rank_30 ⟨Nat.zero_le _, Nat.zero_le _⟩ (fun H locs hP hD hS => ?_)
      have hP : va_P G vwCl (wM c ax x30) H := hP
      have hD : va_D A (wM c ax x30) := hD
      refine lv_if_eq (tgt := 40) hx hb dX8_rank_33 (by decide) (fun c_33 => ?_) (fun c_33 => ?_)
      · have hm := ifp c_33 hm
        refine lv_aload_n hx hb dX8_rank_40 rfl (lv_at hl 0 rfl) ?_
        refine lv_iload_n hx hb dX8_rank_41 rfl (lv_at hl 1 rfl) ?_
        refine lv_iload_n hx hb dX8_rank_42 rfl (lv_at hl 2 rfl) ?_
        obtain ⟨r43, x43, e_43, hm⟩ := bd2_s hm
        refine zcWi (As := [.int p0, .int p1]) (rest := []) ⟨hx, hb, hml, hown, hts⟩ (k_X8_rankOf l G K c ax x30 p0 p1 r43 x43 e_43) (cwV 2 hts gX8_rank_X8_rankOf rfl rfl rfl hd_X8_rankOf ⟨Nat.le_of_ble_eq_true rfl, Nat.le_of_ble_eq_true rfl⟩) hK hN hZ hP hD hS hA (va_recv hK hP (ci := 8) (q0 := 0) rfl rfl) rfl hl.1 rfl (Nat.le_of_ble_eq_true rfl) dX8_rank_43 ⟨Nat.zero_le _, Nat.zero_le _⟩ (fun H locs hP hD hS => ?_)
        have hP : va_P G vwCl (wM c ax x43) H := hP
        have hD : va_D A (wM c ax x43) := hD
        exact hend H locs ls _ _ _ rfl (Prod.mk.inj (Option.some.inj hm)).1 (zc1 (fun (z0 : MS) => (wM c ax z0 : va_W)) (Prod.mk.inj (Option.some.inj hm)).2) hP hD hS dX8_rank_46
      · have hm := ifn c_33 hm
        refine lv_iconst (v := 0) hx hb dX8_rank_36 (by decide) ?_
        refine lv_goto (tgt := 46) hx hb dX8_rank_37 (by decide) ?_
        exact hend H locs ls _ _ _ rfl (Prod.mk.inj (Option.some.inj hm)).1 (zc1 (fun (z0 : MS) => (wM c ax z0 : va_W)) (Prod.mk.inj (Option.some.inj hm)).2) hP hD hS dX8_rank_46
    refine lv_if_eq (tgt := 28) hx hb dX8_rank_21 (by decide) (fun c_21 => ?_) (fun c_21 => ?_)
    · have hm := ifp c_21 hm
      refine lv_iconst (v := 0) hx hb dX8_rank_28 (by decide) ?_
      exact J_29 0 H locs ls hP hD hS (lv_sub hl [0, 1, 2] rfl) hm
    · have hm := ifn c_21 hm
      refine lv_iconst (v := 1) hx hb dX8_rank_24 (by decide) ?_
      refine lv_goto (tgt := 29) hx hb dX8_rank_25 (by decide) ?_
      exact J_29 1 H locs ls hP hD hS (lv_sub hl [0, 1, 2] rfl) hm


def f_X8_longest (x : MS) (p0 : Int32) : Option (Int32 × MS) :=
  bd2 (f_X8_noPlayer ((ss x.1 0 0), x.2) p0) fun (r7 : Int32) (x7 : MS) => if r7 = 0 then (bd2 (f_X8_layRows x7 p0) fun (r17 : Int32) (x17 : MS) => if r17 = 0 then (some ((-2), x17)) else (bd1 (f_X8_ofTrain x17 p0 1) fun (r30 : Int32) => gd (inb r30 40960) <| some (((x17.1.2 5) r30.toNatClampNeg), x17))) else (some (0, x7))

abbrev rm_X8_longest : Room := { frames := 3, cells := 0, slots := 0, locals := 72 }
theorem hd_X8_longest : yX8_longest.cls = RX8 ∧ yX8_longest.cls ≠ "java/lang/invoke/MethodHandle" ∧ yX8_longest.cls ≠ "java/lang/invoke/VarHandle" ∧ (parseMethodDescriptor yX8_longest.desc).map (fun d => d.parameters.length) = some 1 := by decide +kernel
set_option maxHeartbeats 4000000 in
set_option maxRecDepth 100000 in
theorem k_X8_longest (l : Launch) (G : va_G) (K : (Nat → Nat) × (Nat → Nat)) (c : Nat → ClassId) (ax : Nat → Nat) (x : MS) (p0 : Int32) (r : Int32) (x_r : MS) (hm : f_X8_longest x p0 = some (r, x_r)) : zMi l yX8_longest wsX8_longest (rm_X8_longest) G K (TY c) [.ref (ax 0), .int p0] (wM c ax x) (wM c ax x_r) r := by
  refine zMi.of (cc := cX8_longest) (maxL := 2) (lv := [(0, .ref (ax 0)), (1, .int p0)]) (by decide) rfl (Nat.le_of_ble_eq_true rfl) rfl ?_
  intro p e s m args below meth c1 A Q H locs hx hb hml hown hts hK hN hZ hP hD hA hS hend ls hl
  have hown : s.vm.findClass RX8 = some m.cls := hown
  have hi_8 : ∀ w ∈ wsX80, w ∈ wsX8_longest := (fun w h => List.mem_cons_of_mem _ (List.mem_append_right _ (h)))
  unfold f_X8_longest at hm
  refine lv_aload_n hx hb dX8_longest_0 rfl (lv_at hl 0 rfl) ?_
  refine lv_iconst (v := 0) hx hb dX8_longest_1 (by decide) ?_
  refine va_put (D := G) (ci := 8) (v := .int 0) (C := RX8) (T := TX8) (N := 22) hx hb hts hi_8 tyX8 tyX8_ok nmX8 hown hK hP hD hS 0 rfl rfl 0 (by decide) (hts (.fieldLink RX8 53 "HubTrainsModel" "thrown" "I") (List.mem_of_getElem? (i := 1) rfl)) (fun _ h9 => h9) rfl (tyX8_ok 0 (by decide)) rfl rfl (Nat.le_of_ble_eq_true rfl) dX8_longest_2 (fun H locs hP hD hS => ?_)
  have hP : va_P G vwCl (wM c ax ((ss x.1 0 0), x.2)) H := hP
  have hD : va_D A (wM c ax ((ss x.1 0 0), x.2)) := hD
  refine lv_aload_n hx hb dX8_longest_5 rfl (lv_at hl 0 rfl) ?_
  refine lv_iload_n hx hb dX8_longest_6 rfl (lv_at hl 1 rfl) ?_
  obtain ⟨r7, x7, e_7, hm⟩ := bd2_s hm
  refine zcWi (As := [.int p0]) (rest := []) ⟨hx, hb, hml, hown, hts⟩ (k_X8_noPlayer l G K c ax ((ss x.1 0 0), x.2) p0 r7 x7 e_7) (cwV 1 hts gX8_longest_X8_noPlayer rfl rfl rfl hd_X8_noPlayer ⟨Nat.le_of_ble_eq_true rfl, Nat.le_of_ble_eq_true rfl⟩) hK hN hZ hP hD hS hA (va_recv hK hP (ci := 8) (q0 := 0) rfl rfl) rfl hl.1 rfl (Nat.le_of_ble_eq_true rfl) dX8_longest_7 ⟨Nat.zero_le _, Nat.zero_le _⟩ (fun H locs hP hD hS => ?_)
  have hP : va_P G vwCl (wM c ax x7) H := hP
  have hD : va_D A (wM c ax x7) := hD
  refine lv_if_eq (tgt := 15) hx hb dX8_longest_10 (by decide) (fun c_10 => ?_) (fun c_10 => ?_)
  · have hm := ifp c_10 hm
    refine lv_aload_n hx hb dX8_longest_15 rfl (lv_at hl 0 rfl) ?_
    refine lv_iload_n hx hb dX8_longest_16 rfl (lv_at hl 1 rfl) ?_
    obtain ⟨r17, x17, e_17, hm⟩ := bd2_s hm
    refine zcWi (As := [.int p0]) (rest := []) ⟨hx, hb, hml, hown, hts⟩ (k_X8_layRows l G K c ax x7 p0 r17 x17 e_17) (cwV 1 hts gX8_longest_X8_layRows rfl rfl rfl hd_X8_layRows ⟨Nat.le_of_ble_eq_true rfl, Nat.le_of_ble_eq_true rfl⟩) hK hN hZ hP hD hS hA (va_recv hK hP (ci := 8) (q0 := 0) rfl rfl) rfl hl.1 rfl (Nat.le_of_ble_eq_true rfl) dX8_longest_17 ⟨Nat.zero_le _, Nat.zero_le _⟩ (fun H locs hP hD hS => ?_)
    have hP : va_P G vwCl (wM c ax x17) H := hP
    have hD : va_D A (wM c ax x17) := hD
    refine lv_if_eq (tgt := 37) hx hb dX8_longest_20 (by decide) (fun c_20 => ?_) (fun c_20 => ?_)
    · have hm := ifp c_20 hm
      refine lv_bipush (v := (-2)) hx hb dX8_longest_37 (by decide) ?_
      exact hend H locs ls _ _ _ rfl (Prod.mk.inj (Option.some.inj hm)).1 (zc1 (fun (z0 : MS) => (wM c ax z0 : va_W)) (Prod.mk.inj (Option.some.inj hm)).2) hP hD hS dX8_longest_39
    · have hm := ifn c_20 hm
      refine lv_aload_n hx hb dX8_longest_23 rfl (lv_at hl 0 rfl) ?_
      refine va_get (D := G) (ci := 8) (v := .ref (ax 7)) (C := RX8) (T := TX8) (N := 22) hx hb hts hi_8 hown hK hP 0 rfl rfl 19 (by decide) (hts (.fieldLink RX8 39 "HubTrainsModel" "longer" "[I") (List.mem_of_getElem? (i := 2) rfl)) (fun _ h9 => h9) rfl dX8_longest_24 ?_
      refine lv_aload_n hx hb dX8_longest_27 rfl (lv_at hl 0 rfl) ?_
      refine lv_iload_n hx hb dX8_longest_28 rfl (lv_at hl 1 rfl) ?_
      refine lv_iconst (v := 1) hx hb dX8_longest_29 (by decide) ?_
      obtain ⟨r30, e_30, hm⟩ := bd1_s hm
      refine zcWi (As := [.int p0, .int 1]) (rest := [.ref (ax 7)]) ⟨hx, hb, hml, hown, hts⟩ (k_X8_ofTrain l G K c ax x17 p0 1 r30 e_30) (cwV 2 hts gX8_longest_X8_ofTrain rfl rfl rfl hd_X8_ofTrain ⟨Nat.le_of_ble_eq_true rfl, Nat.le_of_ble_eq_true rfl⟩) hK hN hZ hP hD hS hA (va_recv hK hP (ci := 8) (q0 := 0) rfl rfl) rfl hl.1 rfl (Nat.le_of_ble_eq_true rfl) dX8_longest_30 ⟨Nat.zero_le _, Nat.zero_le _⟩ (fun H locs hP hD hS => ?_)
      have hP : va_P G vwCl (wM c ax x17) H := hP
      have hD : va_D A (wM c ax x17) := hD
      obtain ⟨h_33, hm⟩ := gd_s hm
      refine va_iald (D := G) hx hb hK hP 7 0 rfl rfl (inb_s h_33) dX8_longest_33 ?_
      refine lv_goto (tgt := 39) hx hb dX8_longest_34 (by decide) ?_
      exact hend H locs ls _ _ _ rfl (Prod.mk.inj (Option.some.inj hm)).1 (zc1 (fun (z0 : MS) => (wM c ax z0 : va_W)) (Prod.mk.inj (Option.some.inj hm)).2) hP hD hS dX8_longest_39
  · have hm := ifn c_10 hm
    refine lv_iconst (v := 0) hx hb dX8_longest_13 (by decide) ?_
    exact hend H locs ls _ _ _ rfl (Prod.mk.inj (Option.some.inj hm)).1 (zc1 (fun (z0 : MS) => (wM c ax z0 : va_W)) (Prod.mk.inj (Option.some.inj hm)).2) hP hD hS dX8_longest_14

def f_X8_longestTile_B71 (p1 : Int32) (x60 : MS) (rec_71 : Int32 → Int32 → Int32 → Option (Int32 × MS)) (v3_71 : Int32) (v4_71 : Int32) (v6_71 : Int32) : Option (Int32 × MS) :=
  if p1 ≤ v6_71 then (bd1 (f_X8_nextIn x60 v4_71 v3_71) fun (r121 : Int32) => gd (inb r121 12) <| some (((x60.1.2 4) r121.toNatClampNeg), x60)) else (bd1 (f_X8_nextIn x60 v4_71 v3_71) fun (r81 : Int32) => gd (inb r81 12) <| bd1 (f_X8_other ((x60.1.2 4) r81.toNatClampNeg) v3_71) fun (r94 : Int32) => nmd (v4_71 ||| ((1 : Int32) <<< (r81 &&& 31))) fun (x4_105 : Int32) => rec_71 r94 x4_105 (v6_71 + 1))

def f_X8_longestTile_J59 (p1 : Int32) (r18 : Int32) (x27 : MS) (s0_59 : Int32) : Option (Int32 × MS) :=
  bd2 (f_X8_fails x27 s0_59 2) fun (r60 : Int32) (x60 : MS) => if r60 = 0 then (itr3 (f_X8_longestTile_B71 p1 x60) FUEL r18 0 0) else (some (0, x60))

def f_X8_longestTile (x : MS) (p0 : Int32) (p1 : Int32) : Option (Int32 × MS) :=
  bd2 (f_X8_noPlayer ((ss x.1 0 0), x.2) p0) fun (r7 : Int32) (x7 : MS) => if r7 = 0 then (bd1 (f_X8_ofTrain x7 p0 1) fun (r18 : Int32) => bd2 (f_X8_layRows x7 p0) fun (r27 : Int32) (x27 : MS) => if r27 = 0 then (f_X8_longestTile_J59 p1 r18 x27 1) else (gd (inb r18 40960) <| bd1 (f_X8_in p1 0 (((x27.1.2 5) r18.toNatClampNeg) - 1)) fun (r48 : Int32) => if r48 = 0 then (f_X8_longestTile_J59 p1 r18 x27 1) else (f_X8_longestTile_J59 p1 r18 x27 0))) else (some (0, x7))

abbrev rm_X8_longestTile : Room := { frames := 3, cells := 0, slots := 0, locals := 72 }
theorem hd_X8_longestTile : yX8_longestTile.cls = RX8 ∧ yX8_longestTile.cls ≠ "java/lang/invoke/MethodHandle" ∧ yX8_longestTile.cls ≠ "java/lang/invoke/VarHandle" ∧ (parseMethodDescriptor yX8_longestTile.desc).map (fun d => d.parameters.length) = some 2 := by decide +kernel
set_option maxHeartbeats 4000000 in
set_option maxRecDepth 100000 in
theorem k_X8_longestTile (l : Launch) (G : va_G) (K : (Nat → Nat) × (Nat → Nat)) (c : Nat → ClassId) (ax : Nat → Nat) (x : MS) (p0 : Int32) (p1 : Int32) (r : Int32) (x_r : MS) (hm : f_X8_longestTile x p0 p1 = some (r, x_r)) : zMi l yX8_longestTile wsX8_longestTile (rm_X8_longestTile) G K (TY c) [.ref (ax 0), .int p0, .int p1] (wM c ax x) (wM c ax x_r) r := by
  refine zMi.of (cc := cX8_longestTile) (maxL := 8) (lv := [(0, .ref (ax 0)), (1, .int p0), (2, .int p1)]) (by decide) rfl (Nat.le_of_ble_eq_true rfl) rfl ?_
  intro p e s m args below meth c1 A Q H locs hx hb hml hown hts hK hN hZ hP hD hA hS hend ls hl
  have hown : s.vm.findClass RX8 = some m.cls := hown
  have hi_8 : ∀ w ∈ wsX80, w ∈ wsX8_longestTile := (fun w h => List.mem_cons_of_mem _ (List.mem_append_right _ (h)))
  unfold f_X8_longestTile at hm
  refine lv_aload_n hx hb dX8_longestTile_0 rfl (lv_at hl 0 rfl) ?_
  refine lv_iconst (v := 0) hx hb dX8_longestTile_1 (by decide) ?_
  refine va_put (D := G) (ci := 8) (v := .int 0) (C := RX8) (T := TX8) (N := 22) hx hb hts hi_8 tyX8 tyX8_ok nmX8 hown hK hP hD hS 0 rfl rfl 0 (by decide) (hts (.fieldLink RX8 53 "HubTrainsModel" "thrown" "I") (List.mem_of_getElem? (i := 1) rfl)) (fun _ h9 => h9) rfl (tyX8_ok 0 (by decide)) rfl rfl (Nat.le_of_ble_eq_true rfl) dX8_longestTile_2 (fun H locs hP hD hS => ?_)
  have hP : va_P G vwCl (wM c ax ((ss x.1 0 0), x.2)) H := hP
  have hD : va_D A (wM c ax ((ss x.1 0 0), x.2)) := hD
  refine lv_aload_n hx hb dX8_longestTile_5 rfl (lv_at hl 0 rfl) ?_
  refine lv_iload_n hx hb dX8_longestTile_6 rfl (lv_at hl 1 rfl) ?_
  obtain ⟨r7, x7, e_7, hm⟩ := bd2_s hm
  refine zcWi (As := [.int p0]) (rest := []) ⟨hx, hb, hml, hown, hts⟩ (k_X8_noPlayer l G K c ax ((ss x.1 0 0), x.2) p0 r7 x7 e_7) (cwV 1 hts gX8_longestTile_X8_noPlayer rfl rfl rfl hd_X8_noPlayer ⟨Nat.le_of_ble_eq_true rfl, Nat.le_of_ble_eq_true rfl⟩) hK hN hZ hP hD hS hA (va_recv hK hP (ci := 8) (q0 := 0) rfl rfl) rfl hl.1 rfl (Nat.le_of_ble_eq_true rfl) dX8_longestTile_7 ⟨Nat.zero_le _, Nat.zero_le _⟩ (fun H locs hP hD hS => ?_)
  have hP : va_P G vwCl (wM c ax x7) H := hP
  have hD : va_D A (wM c ax x7) := hD
  refine lv_if_eq (tgt := 15) hx hb dX8_longestTile_10 (by decide) (fun c_10 => ?_) (fun c_10 => ?_)
  · have hm := ifp c_10 hm
    refine lv_aload_n hx hb dX8_longestTile_15 rfl (lv_at hl 0 rfl) ?_
    refine lv_iload_n hx hb dX8_longestTile_16 rfl (lv_at hl 1 rfl) ?_
    refine lv_iconst (v := 1) hx hb dX8_longestTile_17 (by decide) ?_
    obtain ⟨r18, e_18, hm⟩ := bd1_s hm
    refine zcWi (As := [.int p0, .int 1]) (rest := []) ⟨hx, hb, hml, hown, hts⟩ (k_X8_ofTrain l G K c ax x7 p0 1 r18 e_18) (cwV 2 hts gX8_longestTile_X8_ofTrain rfl rfl rfl hd_X8_ofTrain ⟨Nat.le_of_ble_eq_true rfl, Nat.le_of_ble_eq_true rfl⟩) hK hN hZ hP hD hS hA (va_recv hK hP (ci := 8) (q0 := 0) rfl rfl) rfl hl.1 rfl (Nat.le_of_ble_eq_true rfl) dX8_longestTile_18 ⟨Nat.zero_le _, Nat.zero_le _⟩ (fun H locs hP hD hS => ?_)
    have hP : va_P G vwCl (wM c ax x7) H := hP
    have hD : va_D A (wM c ax x7) := hD
    refine lv_istore_n (lv' := [(3, .int r18), (0, .ref (ax 0)), (1, .int p0), (2, .int p1)]) hx hb dX8_longestTile_21 rfl hl (by decide) rfl (fun ls hl => ?_)
    refine lv_iconst (v := 0) hx hb dX8_longestTile_22 (by decide) ?_
    refine lv_istore (lv' := [(4, .int 0), (3, .int r18), (0, .ref (ax 0)), (1, .int p0), (2, .int p1)]) hx hb dX8_longestTile_23 hl (by decide) rfl (fun ls hl => ?_)
    refine lv_aload_n hx hb dX8_longestTile_25 rfl (lv_at hl 2 rfl) ?_
    refine lv_iload_n hx hb dX8_longestTile_26 rfl (lv_at hl 3 rfl) ?_
    obtain ⟨r27, x27, e_27, hm⟩ := bd2_s hm
    refine zcWi (As := [.int p0]) (rest := []) ⟨hx, hb, hml, hown, hts⟩ (k_X8_layRows l G K c ax x7 p0 r27 x27 e_27) (cwV 1 hts gX8_longestTile_X8_layRows rfl rfl rfl hd_X8_layRows ⟨Nat.le_of_ble_eq_true rfl, Nat.le_of_ble_eq_true rfl⟩) hK hN hZ hP hD hS hA (va_recv hK hP (ci := 8) (q0 := 0) rfl rfl) rfl hl.1 rfl (Nat.le_of_ble_eq_true rfl) dX8_longestTile_27 ⟨Nat.zero_le _, Nat.zero_le _⟩ (fun H locs hP hD hS => ?_)
    have hP : va_P G vwCl (wM c ax x27) H := hP
    have hD : va_D A (wM c ax x27) := hD
    refine lv_istore (lv' := [(5, .int r27), (4, .int 0), (3, .int r18), (0, .ref (ax 0)), (1, .int p0), (2, .int p1)]) hx hb dX8_longestTile_30 hl (by decide) rfl (fun ls hl => ?_)
    refine lv_aload_n hx hb dX8_longestTile_32 rfl (lv_at hl 3 rfl) ?_
    refine lv_iload hx hb dX8_longestTile_33 (lv_at hl 0 rfl) ?_
    have J_59 : ∀ (s0_59 : Int32) (H : Heap) (locs : List Loc) (ls : Array Slot), va_P G vwCl (wM c ax x27) H → va_D A (wM c ax x27) → va_S A s.heap H locs → lv_has ls 8 [(0, .ref (ax 0)), (2, .int p1), (3, .int r18), (4, .int 0)] → f_X8_longestTile_J59 p1 r18 x27 s0_59 = some (r, x_r) → W p l e (rm_X8_longestTile) s m args below meth c1 H locs 0 0 Q (F0 m 59 ls [.int s0_59, .ref (ax 0)]) := by
      intro s0_59 H locs ls hP hD hS hl hm
      unfold f_X8_longestTile_J59 at hm
      refine lv_iconst (v := 2) hx hb dX8_longestTile_59 (by decide) ?_
      obtain ⟨r60, x60, e_60, hm⟩ := bd2_s hm
      refine zcWi (As := [.int s0_59, .int 2]) (rest := []) ⟨hx, hb, hml, hown, hts⟩ (k_X8_fails l G K c ax x27 s0_59 2 r60 x60 e_60) (cwV 2 hts gX8_longestTile_X8_fails rfl rfl rfl hd_X8_fails ⟨Nat.le_of_ble_eq_true rfl, Nat.le_of_ble_eq_true rfl⟩) hK hN hZ hP hD hS hA (va_recv hK hP (ci := 8) (q0 := 0) rfl rfl) rfl hl.1 rfl (Nat.le_of_ble_eq_true rfl) dX8_longestTile_60 ⟨Nat.zero_le _, Nat.zero_le _⟩ (fun H locs hP hD hS => ?_)
      have hP : va_P G vwCl (wM c ax x60) H := hP
      have hD : va_D A (wM c ax x60) := hD
      refine lv_if_eq (tgt := 68) hx hb dX8_longestTile_63 (by decide) (fun c_63 => ?_) (fun c_63 => ?_)
      · have hm := ifp c_63 hm
        refine lv_iconst (v := 0) hx hb dX8_longestTile_68 (by decide) ?_
        refine lv_istore (lv' := [(6, .int 0), (0, .ref (ax 0)), (2, .int p1), (3, .int r18), (4, .int 0)]) hx hb dX8_longestTile_69 hl (by decide) rfl (fun ls hl => ?_)
        have L_71 : ∀ (n_71 : Nat) (v3_71 : Int32) (v4_71 : Int32) (v6_71 : Int32) (H : Heap) (locs : List Loc) (ls : Array Slot), va_P G vwCl (wM c ax x60) H → va_D A (wM c ax x60) → va_S A s.heap H locs → lv_has ls 8 [(0, .ref (ax 0)), (2, .int p1), (3, .int v3_71), (4, .int v4_71), (6, .int v6_71)] → itr3 (f_X8_longestTile_B71 p1 x60) n_71 v3_71 v4_71 v6_71 = some (r, x_r) → W p l e (rm_X8_longestTile) s m args below meth c1 H locs 0 0 Q (F0 m 71 ls []) := by
          intro n_71
          induction n_71 with
          | zero => intro v3_71 v4_71 v6_71 H locs ls hP hD hS hl hm; exact (itr3_0 hm).elim
          | succ n_71 ih_71 =>
            intro v3_71 v4_71 v6_71 H locs ls hP hD hS hl hm
            have hm := itr3_s hm
            unfold f_X8_longestTile_B71 at hm
            refine lv_iload hx hb dX8_longestTile_71 (lv_at hl 4 rfl) ?_
            refine lv_iload_n hx hb dX8_longestTile_73 rfl (lv_at hl 1 rfl) ?_
            refine lv_icmp_ge (tgt := 113) hx hb dX8_longestTile_74 (by decide) (fun c_74 => ?_) (fun c_74 => ?_)
            · have hm := ifp c_74 hm
              refine lv_aload_n hx hb dX8_longestTile_113 rfl (lv_at hl 0 rfl) ?_
              refine va_get (D := G) (ci := 8) (v := .ref (ax 6)) (C := RX8) (T := TX8) (N := 22) hx hb hts hi_8 hown hK hP 0 rfl rfl 18 (by decide) (hts (.fieldLink RX8 35 "HubTrainsModel" "tiles" "[I") (List.mem_of_getElem? (i := 3) rfl)) (fun _ h9 => h9) rfl dX8_longestTile_114 ?_
              refine lv_aload_n hx hb dX8_longestTile_117 rfl (lv_at hl 0 rfl) ?_
              refine lv_iload hx hb dX8_longestTile_118 (lv_at hl 3 rfl) ?_
              refine lv_iload_n hx hb dX8_longestTile_120 rfl (lv_at hl 2 rfl) ?_
              obtain ⟨r121, e_121, hm⟩ := bd1_s hm
              refine zcWi (As := [.int v4_71, .int v3_71]) (rest := [.ref (ax 6)]) ⟨hx, hb, hml, hown, hts⟩ (k_X8_nextIn l G K c ax x60 v4_71 v3_71 r121 e_121) (cwV 2 hts gX8_longestTile_X8_nextIn rfl rfl rfl hd_X8_nextIn ⟨Nat.le_of_ble_eq_true rfl, Nat.le_of_ble_eq_true rfl⟩) hK hN hZ hP hD hS hA (va_recv hK hP (ci := 8) (q0 := 0) rfl rfl) rfl hl.1 rfl (Nat.le_of_ble_eq_true rfl) dX8_longestTile_121 ⟨Nat.zero_le _, Nat.zero_le _⟩ (fun H locs hP hD hS => ?_)
              have hP : va_P G vwCl (wM c ax x60) H := hP
              have hD : va_D A (wM c ax x60) := hD
              obtain ⟨h_124, hm⟩ := gd_s hm
              refine va_iald (D := G) hx hb hK hP 6 0 rfl rfl (inb_s h_124) dX8_longestTile_124 ?_
              exact hend H locs ls _ _ _ rfl (Prod.mk.inj (Option.some.inj hm)).1 (zc1 (fun (z0 : MS) => (wM c ax z0 : va_W)) (Prod.mk.inj (Option.some.inj hm)).2) hP hD hS dX8_longestTile_125
            · have hm := ifn c_74 hm
              refine lv_aload_n hx hb dX8_longestTile_77 rfl (lv_at hl 0 rfl) ?_
              refine lv_iload hx hb dX8_longestTile_78 (lv_at hl 3 rfl) ?_
              refine lv_iload_n hx hb dX8_longestTile_80 rfl (lv_at hl 2 rfl) ?_
              obtain ⟨r81, e_81, hm⟩ := bd1_s hm
              refine zcWi (As := [.int v4_71, .int v3_71]) (rest := []) ⟨hx, hb, hml, hown, hts⟩ (k_X8_nextIn l G K c ax x60 v4_71 v3_71 r81 e_81) (cwV 2 hts gX8_longestTile_X8_nextIn rfl rfl rfl hd_X8_nextIn ⟨Nat.le_of_ble_eq_true rfl, Nat.le_of_ble_eq_true rfl⟩) hK hN hZ hP hD hS hA (va_recv hK hP (ci := 8) (q0 := 0) rfl rfl) rfl hl.1 rfl (Nat.le_of_ble_eq_true rfl) dX8_longestTile_81 ⟨Nat.zero_le _, Nat.zero_le _⟩ (fun H locs hP hD hS => ?_)
              have hP : va_P G vwCl (wM c ax x60) H := hP
              have hD : va_D A (wM c ax x60) := hD
              refine lv_istore (lv' := [(7, .int r81), (0, .ref (ax 0)), (2, .int p1), (3, .int v3_71), (4, .int v4_71), (6, .int v6_71)]) hx hb dX8_longestTile_84 hl (by decide) rfl (fun ls hl => ?_)
              refine lv_aload_n hx hb dX8_longestTile_86 rfl (lv_at hl 1 rfl) ?_
              refine va_get (D := G) (ci := 8) (v := .ref (ax 6)) (C := RX8) (T := TX8) (N := 22) hx hb hts hi_8 hown hK hP 0 rfl rfl 18 (by decide) (hts (.fieldLink RX8 35 "HubTrainsModel" "tiles" "[I") (List.mem_of_getElem? (i := 3) rfl)) (fun _ h9 => h9) rfl dX8_longestTile_87 ?_
              refine lv_iload hx hb dX8_longestTile_90 (lv_at hl 0 rfl) ?_
              obtain ⟨h_92, hm⟩ := gd_s hm
              refine va_iald (D := G) hx hb hK hP 6 0 rfl rfl (inb_s h_92) dX8_longestTile_92 ?_
              refine lv_iload_n hx hb dX8_longestTile_93 rfl (lv_at hl 3 rfl) ?_
              obtain ⟨r94, e_94, hm⟩ := bd1_s hm
              refine zcSi (As := [.int ((x60.1.2 4) r81.toNatClampNeg), .int v3_71]) (rest := []) ⟨hx, hb, hml, hown, hts⟩ (k_X8_other l G K c ((x60.1.2 4) r81.toNatClampNeg) v3_71 r94 e_94) (va_cwS 2 hts gX8_longestTile_X8_other rfl rfl rfl hd_X8_other.2 ⟨Nat.le_of_ble_eq_true rfl, Nat.le_of_ble_eq_true rfl⟩) hK hN hZ hP hD hS hA [] rfl (by decide) rfl rfl hl.1 rfl (Nat.le_of_ble_eq_true rfl) dX8_longestTile_94 ⟨Nat.zero_le _, Nat.zero_le _⟩ (fun H locs hP hD hS => ?_)
              have hP : va_P G vwCl (wM c ax x60) H := hP
              have hD : va_D A (wM c ax x60) := hD
              refine lv_istore_n (lv' := [(3, .int r94), (7, .int r81), (0, .ref (ax 0)), (2, .int p1), (4, .int v4_71), (6, .int v6_71)]) hx hb dX8_longestTile_97 rfl hl (by decide) rfl (fun ls hl => ?_)
              refine lv_iload hx hb dX8_longestTile_98 (lv_at hl 4 rfl) ?_
              refine lv_iconst (v := 1) hx hb dX8_longestTile_100 (by decide) ?_
              refine lv_iload hx hb dX8_longestTile_101 (lv_at hl 1 rfl) ?_
              refine lv_ishl hx hb dX8_longestTile_103 ?_
              refine lv_ior hx hb dX8_longestTile_104 ?_
              refine lv_topi (fun x4_105 e_x4_105 => ?_)
              have hm := nmd_s hm x4_105 e_x4_105
              refine lv_istore (lv' := [(4, .int x4_105), (3, .int r94), (7, .int r81), (0, .ref (ax 0)), (2, .int p1), (6, .int v6_71)]) hx hb dX8_longestTile_105 hl (by decide) rfl (fun ls hl => ?_)
              refine lv_iinc (k := 5) (v := (v6_71 + 1)) (lv' := [(6, .int (v6_71 + 1)), (4, .int x4_105), (3, .int r94), (7, .int r81), (0, .ref (ax 0)), (2, .int p1)]) hx hb dX8_longestTile_107 hl rfl rfl (by decide) rfl (fun ls hl => ?_)
              refine lv_goto (tgt := 71) hx hb dX8_longestTile_110 (by decide) ?_
              exact ih_71 r94 x4_105 (v6_71 + 1) H locs ls hP hD hS (lv_sub hl [4, 5, 2, 1, 0] rfl) hm
        exact L_71 FUEL r18 0 0 H locs ls hP hD hS (lv_sub hl [1, 2, 3, 4, 0] rfl) hm
      · have hm := ifn c_63 hm
        refine lv_iconst (v := 0) hx hb dX8_longestTile_66 (by decide) ?_
        exact hend H locs ls _ _ _ rfl (Prod.mk.inj (Option.some.inj hm)).1 (zc1 (fun (z0 : MS) => (wM c ax z0 : va_W)) (Prod.mk.inj (Option.some.inj hm)).2) hP hD hS dX8_longestTile_67
    refine lv_if_eq (tgt := 54) hx hb dX8_longestTile_35 (by decide) (fun c_35 => ?_) (fun c_35 => ?_)
    · have hm := ifp c_35 hm
      refine lv_iconst (v := 1) hx hb dX8_longestTile_54 (by decide) ?_
      refine lv_goto (tgt := 59) hx hb dX8_longestTile_55 (by decide) ?_
      exact J_59 1 H locs ls hP hD hS (lv_sub hl [3, 5, 2, 1] rfl) hm
    · have hm := ifn c_35 hm
      refine lv_iload_n hx hb dX8_longestTile_38 rfl (lv_at hl 5 rfl) ?_
      refine lv_iconst (v := 0) hx hb dX8_longestTile_39 (by decide) ?_
      refine lv_aload_n hx hb dX8_longestTile_40 rfl (lv_at hl 3 rfl) ?_
      refine va_get (D := G) (ci := 8) (v := .ref (ax 7)) (C := RX8) (T := TX8) (N := 22) hx hb hts hi_8 hown hK hP 0 rfl rfl 19 (by decide) (hts (.fieldLink RX8 39 "HubTrainsModel" "longer" "[I") (List.mem_of_getElem? (i := 2) rfl)) (fun _ h9 => h9) rfl dX8_longestTile_41 ?_
      refine lv_iload_n hx hb dX8_longestTile_44 rfl (lv_at hl 2 rfl) ?_
      obtain ⟨h_45, hm⟩ := gd_s hm
      refine va_iald (D := G) hx hb hK hP 7 0 rfl rfl (inb_s h_45) dX8_longestTile_45 ?_
      refine lv_iconst (v := 1) hx hb dX8_longestTile_46 (by decide) ?_
      refine lv_isub hx hb dX8_longestTile_47 ?_
      obtain ⟨r48, e_48, hm⟩ := bd1_s hm
      refine zcSi (As := [.int p1, .int 0, .int (((x27.1.2 5) r18.toNatClampNeg) - 1)]) (rest := [.ref (ax 0)]) ⟨hx, hb, hml, hown, hts⟩ (k_X8_in l G K c p1 0 (((x27.1.2 5) r18.toNatClampNeg) - 1) r48 e_48) (va_cwS 3 hts gX8_longestTile_X8_in rfl rfl rfl hd_X8_in.2 ⟨Nat.le_of_ble_eq_true rfl, Nat.le_of_ble_eq_true rfl⟩) hK hN hZ hP hD hS hA [] rfl (by decide) rfl rfl hl.1 rfl (Nat.le_of_ble_eq_true rfl) dX8_longestTile_48 ⟨Nat.zero_le _, Nat.zero_le _⟩ (fun H locs hP hD hS => ?_)
      have hP : va_P G vwCl (wM c ax x27) H := hP
      have hD : va_D A (wM c ax x27) := hD
      refine lv_if_ne (tgt := 58) hx hb dX8_longestTile_51 (by decide) (fun c_51 => ?_) (fun c_51 => ?_)
      · have hm := ifn c_51 hm
        refine lv_iconst (v := 0) hx hb dX8_longestTile_58 (by decide) ?_
        exact J_59 0 H locs ls hP hD hS (lv_sub hl [3, 5, 2, 1] rfl) hm
      · have hm := ifp c_51 hm
        refine lv_iconst (v := 1) hx hb dX8_longestTile_54 (by decide) ?_
        refine lv_goto (tgt := 59) hx hb dX8_longestTile_55 (by decide) ?_
        exact J_59 1 H locs ls hP hD hS (lv_sub hl [3, 5, 2, 1] rfl) hm
  · have hm := ifn c_10 hm
    refine lv_iconst (v := 0) hx hb dX8_longestTile_13 (by decide) ?_
    exact hend H locs ls _ _ _ rfl (Prod.mk.inj (Option.some.inj hm)).1 (zc1 (fun (z0 : MS) => (wM c ax z0 : va_W)) (Prod.mk.inj (Option.some.inj hm)).2) hP hD hS dX8_longestTile_14


def f_X8_heaviest (x : MS) (p0 : Int32) : Option (Int32 × MS) :=
  bd2 (f_X8_noPlayer ((ss x.1 0 0), x.2) p0) fun (r7 : Int32) (x7 : MS) => if r7 = 0 then (bd2 (f_X8_layRows x7 p0) fun (r17 : Int32) (x17 : MS) => if r17 = 0 then (some ((-2), x17)) else (bd1 (f_X8_ofTrain x17 p0 1) fun (r30 : Int32) => gd (inb r30 40960) <| some (((x17.1.2 6) r30.toNatClampNeg), x17))) else (some (0, x7))

abbrev rm_X8_heaviest : Room := { frames := 3, cells := 0, slots := 0, locals := 72 }
theorem hd_X8_heaviest : yX8_heaviest.cls = RX8 ∧ yX8_heaviest.cls ≠ "java/lang/invoke/MethodHandle" ∧ yX8_heaviest.cls ≠ "java/lang/invoke/VarHandle" ∧ (parseMethodDescriptor yX8_heaviest.desc).map (fun d => d.parameters.length) = some 1 := by decide +kernel
set_option maxHeartbeats 4000000 in
set_option maxRecDepth 100000 in
theorem k_X8_heaviest (l : Launch) (G : va_G) (K : (Nat → Nat) × (Nat → Nat)) (c : Nat → ClassId) (ax : Nat → Nat) (x : MS) (p0 : Int32) (r : Int32) (x_r : MS) (hm : f_X8_heaviest x p0 = some (r, x_r)) : zMi l yX8_heaviest wsX8_heaviest (rm_X8_heaviest) G K (TY c) [.ref (ax 0), .int p0] (wM c ax x) (wM c ax x_r) r := by
  refine zMi.of (cc := cX8_heaviest) (maxL := 2) (lv := [(0, .ref (ax 0)), (1, .int p0)]) (by decide) rfl (Nat.le_of_ble_eq_true rfl) rfl ?_
  intro p e s m args below meth c1 A Q H locs hx hb hml hown hts hK hN hZ hP hD hA hS hend ls hl
  have hown : s.vm.findClass RX8 = some m.cls := hown
  have hi_8 : ∀ w ∈ wsX80, w ∈ wsX8_heaviest := (fun w h => List.mem_cons_of_mem _ (List.mem_append_right _ (h)))
  unfold f_X8_heaviest at hm
  refine lv_aload_n hx hb dX8_heaviest_0 rfl (lv_at hl 0 rfl) ?_
  refine lv_iconst (v := 0) hx hb dX8_heaviest_1 (by decide) ?_
  refine va_put (D := G) (ci := 8) (v := .int 0) (C := RX8) (T := TX8) (N := 22) hx hb hts hi_8 tyX8 tyX8_ok nmX8 hown hK hP hD hS 0 rfl rfl 0 (by decide) (hts (.fieldLink RX8 53 "HubTrainsModel" "thrown" "I") (List.mem_of_getElem? (i := 1) rfl)) (fun _ h9 => h9) rfl (tyX8_ok 0 (by decide)) rfl rfl (Nat.le_of_ble_eq_true rfl) dX8_heaviest_2 (fun H locs hP hD hS => ?_)
  have hP : va_P G vwCl (wM c ax ((ss x.1 0 0), x.2)) H := hP
  have hD : va_D A (wM c ax ((ss x.1 0 0), x.2)) := hD
  refine lv_aload_n hx hb dX8_heaviest_5 rfl (lv_at hl 0 rfl) ?_
  refine lv_iload_n hx hb dX8_heaviest_6 rfl (lv_at hl 1 rfl) ?_
  obtain ⟨r7, x7, e_7, hm⟩ := bd2_s hm
  refine zcWi (As := [.int p0]) (rest := []) ⟨hx, hb, hml, hown, hts⟩ (k_X8_noPlayer l G K c ax ((ss x.1 0 0), x.2) p0 r7 x7 e_7) (cwV 1 hts gX8_heaviest_X8_noPlayer rfl rfl rfl hd_X8_noPlayer ⟨Nat.le_of_ble_eq_true rfl, Nat.le_of_ble_eq_true rfl⟩) hK hN hZ hP hD hS hA (va_recv hK hP (ci := 8) (q0 := 0) rfl rfl) rfl hl.1 rfl (Nat.le_of_ble_eq_true rfl) dX8_heaviest_7 ⟨Nat.zero_le _, Nat.zero_le _⟩ (fun H locs hP hD hS => ?_)
  have hP : va_P G vwCl (wM c ax x7) H := hP
  have hD : va_D A (wM c ax x7) := hD
  refine lv_if_eq (tgt := 15) hx hb dX8_heaviest_10 (by decide) (fun c_10 => ?_) (fun c_10 => ?_)
  · have hm := ifp c_10 hm
    refine lv_aload_n hx hb dX8_heaviest_15 rfl (lv_at hl 0 rfl) ?_
    refine lv_iload_n hx hb dX8_heaviest_16 rfl (lv_at hl 1 rfl) ?_
    obtain ⟨r17, x17, e_17, hm⟩ := bd2_s hm
    refine zcWi (As := [.int p0]) (rest := []) ⟨hx, hb, hml, hown, hts⟩ (k_X8_layRows l G K c ax x7 p0 r17 x17 e_17) (cwV 1 hts gX8_heaviest_X8_layRows rfl rfl rfl hd_X8_layRows ⟨Nat.le_of_ble_eq_true rfl, Nat.le_of_ble_eq_true rfl⟩) hK hN hZ hP hD hS hA (va_recv hK hP (ci := 8) (q0 := 0) rfl rfl) rfl hl.1 rfl (Nat.le_of_ble_eq_true rfl) dX8_heaviest_17 ⟨Nat.zero_le _, Nat.zero_le _⟩ (fun H locs hP hD hS => ?_)
    have hP : va_P G vwCl (wM c ax x17) H := hP
    have hD : va_D A (wM c ax x17) := hD
    refine lv_if_eq (tgt := 37) hx hb dX8_heaviest_20 (by decide) (fun c_20 => ?_) (fun c_20 => ?_)
    · have hm := ifp c_20 hm
      refine lv_bipush (v := (-2)) hx hb dX8_heaviest_37 (by decide) ?_
      exact hend H locs ls _ _ _ rfl (Prod.mk.inj (Option.some.inj hm)).1 (zc1 (fun (z0 : MS) => (wM c ax z0 : va_W)) (Prod.mk.inj (Option.some.inj hm)).2) hP hD hS dX8_heaviest_39
    · have hm := ifn c_20 hm
      refine lv_aload_n hx hb dX8_heaviest_23 rfl (lv_at hl 0 rfl) ?_
      refine va_get (D := G) (ci := 8) (v := .ref (ax 8)) (C := RX8) (T := TX8) (N := 22) hx hb hts hi_8 hown hK hP 0 rfl rfl 20 (by decide) (hts (.fieldLink RX8 42 "HubTrainsModel" "heavier" "[I") (List.mem_of_getElem? (i := 2) rfl)) (fun _ h9 => h9) rfl dX8_heaviest_24 ?_
      refine lv_aload_n hx hb dX8_heaviest_27 rfl (lv_at hl 0 rfl) ?_
      refine lv_iload_n hx hb dX8_heaviest_28 rfl (lv_at hl 1 rfl) ?_
      refine lv_iconst (v := 1) hx hb dX8_heaviest_29 (by decide) ?_
      obtain ⟨r30, e_30, hm⟩ := bd1_s hm
      refine zcWi (As := [.int p0, .int 1]) (rest := [.ref (ax 8)]) ⟨hx, hb, hml, hown, hts⟩ (k_X8_ofTrain l G K c ax x17 p0 1 r30 e_30) (cwV 2 hts gX8_heaviest_X8_ofTrain rfl rfl rfl hd_X8_ofTrain ⟨Nat.le_of_ble_eq_true rfl, Nat.le_of_ble_eq_true rfl⟩) hK hN hZ hP hD hS hA (va_recv hK hP (ci := 8) (q0 := 0) rfl rfl) rfl hl.1 rfl (Nat.le_of_ble_eq_true rfl) dX8_heaviest_30 ⟨Nat.zero_le _, Nat.zero_le _⟩ (fun H locs hP hD hS => ?_)
      have hP : va_P G vwCl (wM c ax x17) H := hP
      have hD : va_D A (wM c ax x17) := hD
      obtain ⟨h_33, hm⟩ := gd_s hm
      refine va_iald (D := G) hx hb hK hP 8 0 rfl rfl (inb_s h_33) dX8_heaviest_33 ?_
      refine lv_goto (tgt := 39) hx hb dX8_heaviest_34 (by decide) ?_
      exact hend H locs ls _ _ _ rfl (Prod.mk.inj (Option.some.inj hm)).1 (zc1 (fun (z0 : MS) => (wM c ax z0 : va_W)) (Prod.mk.inj (Option.some.inj hm)).2) hP hD hS dX8_heaviest_39
  · have hm := ifn c_10 hm
    refine lv_iconst (v := 0) hx hb dX8_heaviest_13 (by decide) ?_
    exact hend H locs ls _ _ _ rfl (Prod.mk.inj (Option.some.inj hm)).1 (zc1 (fun (z0 : MS) => (wM c ax z0 : va_W)) (Prod.mk.inj (Option.some.inj hm)).2) hP hD hS dX8_heaviest_14

def f_X8_winner_B31 (x23 : MS) (rec_31 : Int32 → Int32 → Option (Int32 × MS)) (v1_31 : Int32) (v2_31 : Int32) : Option (Int32 × MS) :=
  gd (inb 1 1464) <| if ((x23.1.2 1) (1 : Int32).toNatClampNeg) ≤ v2_31 then (bd1 (f_X8_copy 464 1464 (x23.1.2 3) (x23.1.2 1) 464) fun (h173 : Nat → Int32) => some (v1_31, ((sa x23.1 1 h173), x23.2))) else (bd1 (f_X8_pips x23 v2_31) fun (r43 : Int32) => bd1 (f_X8_pips x23 v1_31) fun (r48 : Int32) => if r48 ≤ r43 then (rec_31 v1_31 (v2_31 + 1)) else (rec_31 v2_31 (v2_31 + 1)))

def f_X8_winner (x : MS) : Option (Int32 × MS) :=
  bd1 (f_X8_copy 1464 464 (x.1.2 1) (x.1.2 3) 464) fun (h116 : Nat → Int32) => bd2 (f_X8_goOn ((sa (ss x.1 0 0) 3 h116), x.2) 2147483647) fun (r23 : Int32) (x23 : MS) => itr2 (f_X8_winner_B31 x23) FUEL 0 1

abbrev rm_X8_winner : Room := { frames := 7, cells := 0, slots := 0, locals := 160 }
theorem hd_X8_winner : yX8_winner.cls = RX8 ∧ yX8_winner.cls ≠ "java/lang/invoke/MethodHandle" ∧ yX8_winner.cls ≠ "java/lang/invoke/VarHandle" ∧ (parseMethodDescriptor yX8_winner.desc).map (fun d => d.parameters.length) = some 0 := by decide +kernel
set_option maxHeartbeats 4000000 in
set_option maxRecDepth 100000 in
theorem k_X8_winner (l : Launch) (G : va_G) (K : (Nat → Nat) × (Nat → Nat)) (c : Nat → ClassId) (ax : Nat → Nat) (x : MS) (r : Int32) (x_r : MS) (hm : f_X8_winner x = some (r, x_r)) : zMi l yX8_winner wsX8_winner (rm_X8_winner) G K (TY c) [.ref (ax 0)] (wM c ax x) (wM c ax x_r) r := by
  refine zMi.of (cc := cX8_winner) (maxL := 3) (lv := [(0, .ref (ax 0))]) (by decide) rfl (Nat.le_of_ble_eq_true rfl) rfl ?_
  intro p e s m args below meth c1 A Q H locs hx hb hml hown hts hK hN hZ hP hD hA hS hend ls hl
  have hown : s.vm.findClass RX8 = some m.cls := hown
  have hi_8 : ∀ w ∈ wsX80, w ∈ wsX8_winner := (fun w h => List.mem_cons_of_mem _ (List.mem_append_right _ (h)))
  unfold f_X8_winner at hm
  refine lv_aload_n hx hb dX8_winner_0 rfl (lv_at hl 0 rfl) ?_
  refine lv_iconst (v := 0) hx hb dX8_winner_1 (by decide) ?_
  refine va_put (D := G) (ci := 8) (v := .int 0) (C := RX8) (T := TX8) (N := 22) hx hb hts hi_8 tyX8 tyX8_ok nmX8 hown hK hP hD hS 0 rfl rfl 0 (by decide) (hts (.fieldLink RX8 53 "HubTrainsModel" "thrown" "I") (List.mem_of_getElem? (i := 1) rfl)) (fun _ h9 => h9) rfl (tyX8_ok 0 (by decide)) rfl rfl (Nat.le_of_ble_eq_true rfl) dX8_winner_2 (fun H locs hP hD hS => ?_)
  have hP : va_P G vwCl (wM c ax ((ss x.1 0 0), x.2)) H := hP
  have hD : va_D A (wM c ax ((ss x.1 0 0), x.2)) := hD
  refine lv_aload_n hx hb dX8_winner_5 rfl (lv_at hl 0 rfl) ?_
  refine va_get (D := G) (ci := 8) (v := .ref (ax 2)) (C := RX8) (T := TX8) (N := 22) hx hb hts hi_8 hown hK hP 0 rfl rfl 8 (by decide) (hts (.fieldLink RX8 17 "HubTrainsModel" "data" "[I") (List.mem_of_getElem? (i := 2) rfl)) (fun _ h9 => h9) rfl dX8_winner_6 ?_
  refine lv_aload_n hx hb dX8_winner_9 rfl (lv_at hl 0 rfl) ?_
  refine va_get (D := G) (ci := 8) (v := .ref (ax 4)) (C := RX8) (T := TX8) (N := 22) hx hb hts hi_8 hown hK hP 0 rfl rfl 10 (by decide) (hts (.fieldLink RX8 23 "HubTrainsModel" "aside" "[I") (List.mem_of_getElem? (i := 3) rfl)) (fun _ h9 => h9) rfl dX8_winner_10 ?_
  refine lv_sipush (v := 464) hx hb dX8_winner_13 (by decide) ?_
  obtain ⟨h116, e_16, hm⟩ := bd1_s hm
  refine zcSv (As := [.ref (ax 2), .ref (ax 4), .int 464]) (rest := []) ⟨hx, hb, hml, hown, hts⟩ (k_X8_copy l G K c (ax 2) (ax 4) 1464 464 (x.1.2 1) (x.1.2 3) 464 h116 e_16) (va_cwS 3 hts gX8_winner_X8_copy rfl rfl rfl hd_X8_copy.2 ⟨Nat.le_of_ble_eq_true rfl, Nat.le_of_ble_eq_true rfl⟩) hK hN hZ hP hD hS hA [2, 4] rfl (by decide) rfl rfl hl.1 rfl (Nat.le_of_ble_eq_true rfl) dX8_winner_16 ⟨Nat.zero_le _, Nat.zero_le _⟩ (fun H locs hP hD hS => ?_)
  have hP : va_P G vwCl (wM c ax ((sa (ss x.1 0 0) 3 h116), x.2)) H := hP
  have hD : va_D A (wM c ax ((sa (ss x.1 0 0) 3 h116), x.2)) := hD
  refine lv_aload_n hx hb dX8_winner_19 rfl (lv_at hl 0 rfl) ?_
  refine lv_ldcw (v := 2147483647) hx hb hown (hts (.constant RX8 319 (2147483647)) (List.mem_of_getElem? (i := 4) rfl)) dX8_winner_20 ?_
  obtain ⟨r23, x23, e_23, hm⟩ := bd2_s hm
  refine zcWi (As := [.int 2147483647]) (rest := []) ⟨hx, hb, hml, hown, hts⟩ (k_X8_goOn l G K c ax ((sa (ss x.1 0 0) 3 h116), x.2) 2147483647 r23 x23 e_23) (cwV 1 hts gX8_winner_X8_goOn rfl rfl rfl hd_X8_goOn ⟨Nat.le_of_ble_eq_true rfl, Nat.le_of_ble_eq_true rfl⟩) hK hN hZ hP hD hS hA (va_recv hK hP (ci := 8) (q0 := 0) rfl rfl) rfl hl.1 rfl (Nat.le_of_ble_eq_true rfl) dX8_winner_23 ⟨Nat.zero_le _, Nat.zero_le _⟩ (fun H locs hP hD hS => ?_)
  have hP : va_P G vwCl (wM c ax x23) H := hP
  have hD : va_D A (wM c ax x23) := hD
  refine lv_pop hx hb dX8_winner_26 rfl ?_
  refine lv_iconst (v := 0) hx hb dX8_winner_27 (by decide) ?_
  refine lv_istore_n (lv' := [(1, .int 0), (0, .ref (ax 0))]) hx hb dX8_winner_28 rfl hl (by decide) rfl (fun ls hl => ?_)
  refine lv_iconst (v := 1) hx hb dX8_winner_29 (by decide) ?_
  refine lv_istore_n (lv' := [(2, .int 1), (1, .int 0), (0, .ref (ax 0))]) hx hb dX8_winner_30 rfl hl (by decide) rfl (fun ls hl => ?_)
  have L_31 : ∀ (n_31 : Nat) (v1_31 : Int32) (v2_31 : Int32) (H : Heap) (locs : List Loc) (ls : Array Slot), va_P G vwCl (wM c ax x23) H → va_D A (wM c ax x23) → va_S A s.heap H locs → lv_has ls 3 [(0, .ref (ax 0)), (1, .int v1_31), (2, .int v2_31)] → itr2 (f_X8_winner_B31 x23) n_31 v1_31 v2_31 = some (r, x_r) → W p l e (rm_X8_winner) s m args below meth c1 H locs 0 0 Q (F0 m 31 ls []) := by
    intro n_31
    induction n_31 with
    | zero => intro v1_31 v2_31 H locs ls hP hD hS hl hm; exact (itr2_0 hm).elim
    | succ n_31 ih_31 =>
      intro v1_31 v2_31 H locs ls hP hD hS hl hm
      have hm := itr2_s hm
      unfold f_X8_winner_B31 at hm
      refine lv_iload_n hx hb dX8_winner_31 rfl (lv_at hl 2 rfl) ?_
      refine lv_aload_n hx hb dX8_winner_32 rfl (lv_at hl 0 rfl) ?_
      refine va_get (D := G) (ci := 8) (v := .ref (ax 2)) (C := RX8) (T := TX8) (N := 22) hx hb hts hi_8 hown hK hP 0 rfl rfl 8 (by decide) (hts (.fieldLink RX8 17 "HubTrainsModel" "data" "[I") (List.mem_of_getElem? (i := 2) rfl)) (fun _ h9 => h9) rfl dX8_winner_33 ?_
      refine lv_iconst (v := 1) hx hb dX8_winner_36 (by decide) ?_
      obtain ⟨h_37, hm⟩ := gd_s hm
      refine va_iald (D := G) hx hb hK hP 2 0 rfl rfl (inb_s h_37) dX8_winner_37 ?_
      refine lv_icmp_ge (tgt := 62) hx hb dX8_winner_38 (by decide) (fun c_38 => ?_) (fun c_38 => ?_)
      · have hm := ifp c_38 hm
        refine lv_aload_n hx hb dX8_winner_62 rfl (lv_at hl 0 rfl) ?_
        refine va_get (D := G) (ci := 8) (v := .ref (ax 4)) (C := RX8) (T := TX8) (N := 22) hx hb hts hi_8 hown hK hP 0 rfl rfl 10 (by decide) (hts (.fieldLink RX8 23 "HubTrainsModel" "aside" "[I") (List.mem_of_getElem? (i := 3) rfl)) (fun _ h9 => h9) rfl dX8_winner_63 ?_
        refine lv_aload_n hx hb dX8_winner_66 rfl (lv_at hl 0 rfl) ?_
        refine va_get (D := G) (ci := 8) (v := .ref (ax 2)) (C := RX8) (T := TX8) (N := 22) hx hb hts hi_8 hown hK hP 0 rfl rfl 8 (by decide) (hts (.fieldLink RX8 17 "HubTrainsModel" "data" "[I") (List.mem_of_getElem? (i := 2) rfl)) (fun _ h9 => h9) rfl dX8_winner_67 ?_
        refine lv_sipush (v := 464) hx hb dX8_winner_70 (by decide) ?_
        obtain ⟨h173, e_73, hm⟩ := bd1_s hm
        refine zcSv (As := [.ref (ax 4), .ref (ax 2), .int 464]) (rest := []) ⟨hx, hb, hml, hown, hts⟩ (k_X8_copy l G K c (ax 4) (ax 2) 464 1464 (x23.1.2 3) (x23.1.2 1) 464 h173 e_73) (va_cwS 3 hts gX8_winner_X8_copy rfl rfl rfl hd_X8_copy.2 ⟨Nat.le_of_ble_eq_true rfl, Nat.le_of_ble_eq_true rfl⟩) hK hN hZ hP hD hS hA [4, 2] rfl (by decide) rfl rfl hl.1 rfl (Nat.le_of_ble_eq_true rfl) dX8_winner_73 ⟨Nat.zero_le _, Nat.zero_le _⟩ (fun H locs hP hD hS => ?_)
        have hP : va_P G vwCl (wM c ax ((sa x23.1 1 h173), x23.2)) H := hP
        have hD : va_D A (wM c ax ((sa x23.1 1 h173), x23.2)) := hD
        refine lv_iload_n hx hb dX8_winner_76 rfl (lv_at hl 1 rfl) ?_
        exact hend H locs ls _ _ _ rfl (Prod.mk.inj (Option.some.inj hm)).1 (zc1 (fun (z0 : MS) => (wM c ax z0 : va_W)) (Prod.mk.inj (Option.some.inj hm)).2) hP hD hS dX8_winner_77
      · have hm := ifn c_38 hm
        refine lv_aload_n hx hb dX8_winner_41 rfl (lv_at hl 0 rfl) ?_
        refine lv_iload_n hx hb dX8_winner_42 rfl (lv_at hl 2 rfl) ?_
        obtain ⟨r43, e_43, hm⟩ := bd1_s hm
        refine zcWi (As := [.int v2_31]) (rest := []) ⟨hx, hb, hml, hown, hts⟩ (k_X8_pips l G K c ax x23 v2_31 r43 e_43) (cwV 1 hts gX8_winner_X8_pips rfl rfl rfl hd_X8_pips ⟨Nat.le_of_ble_eq_true rfl, Nat.le_of_ble_eq_true rfl⟩) hK hN hZ hP hD hS hA (va_recv hK hP (ci := 8) (q0 := 0) rfl rfl) rfl hl.1 rfl (Nat.le_of_ble_eq_true rfl) dX8_winner_43 ⟨Nat.zero_le _, Nat.zero_le _⟩ (fun H locs hP hD hS => ?_)
        have hP : va_P G vwCl (wM c ax x23) H := hP
        have hD : va_D A (wM c ax x23) := hD
        refine lv_aload_n hx hb dX8_winner_46 rfl (lv_at hl 0 rfl) ?_
        refine lv_iload_n hx hb dX8_winner_47 rfl (lv_at hl 1 rfl) ?_
        obtain ⟨r48, e_48, hm⟩ := bd1_s hm
        refine zcWi (As := [.int v1_31]) (rest := [.int r43]) ⟨hx, hb, hml, hown, hts⟩ (k_X8_pips l G K c ax x23 v1_31 r48 e_48) (cwV 1 hts gX8_winner_X8_pips rfl rfl rfl hd_X8_pips ⟨Nat.le_of_ble_eq_true rfl, Nat.le_of_ble_eq_true rfl⟩) hK hN hZ hP hD hS hA (va_recv hK hP (ci := 8) (q0 := 0) rfl rfl) rfl hl.1 rfl (Nat.le_of_ble_eq_true rfl) dX8_winner_48 ⟨Nat.zero_le _, Nat.zero_le _⟩ (fun H locs hP hD hS => ?_)
        have hP : va_P G vwCl (wM c ax x23) H := hP
        have hD : va_D A (wM c ax x23) := hD
        refine lv_icmp_ge (tgt := 56) hx hb dX8_winner_51 (by decide) (fun c_51 => ?_) (fun c_51 => ?_)
        · have hm := ifp c_51 hm
          refine lv_iinc (k := 2) (v := (v2_31 + 1)) (lv' := [(2, .int (v2_31 + 1)), (0, .ref (ax 0)), (1, .int v1_31)]) hx hb dX8_winner_56 hl rfl rfl (by decide) rfl (fun ls hl => ?_)
          refine lv_goto (tgt := 31) hx hb dX8_winner_59 (by decide) ?_
          exact ih_31 v1_31 (v2_31 + 1) H locs ls hP hD hS (lv_sub hl [1, 2, 0] rfl) hm
        · have hm := ifn c_51 hm
          refine lv_iload_n hx hb dX8_winner_54 rfl (lv_at hl 2 rfl) ?_
          refine lv_istore_n (lv' := [(1, .int v2_31), (0, .ref (ax 0)), (2, .int v2_31)]) hx hb dX8_winner_55 rfl hl (by decide) rfl (fun ls hl => ?_)
          refine lv_iinc (k := 2) (v := (v2_31 + 1)) (lv' := [(2, .int (v2_31 + 1)), (1, .int v2_31), (0, .ref (ax 0))]) hx hb dX8_winner_56 hl rfl rfl (by decide) rfl (fun ls hl => ?_)
          refine lv_goto (tgt := 31) hx hb dX8_winner_59 (by decide) ?_
          exact ih_31 v2_31 (v2_31 + 1) H locs ls hP hD hS (lv_sub hl [2, 1, 0] rfl) hm
  exact L_31 FUEL 0 1 H locs ls hP hD hS (lv_sub hl [2, 1, 0] rfl) hm


def f_X8_stepsToEnd (x : MS) : Option (Int32 × MS) :=
  bd1 (f_X8_copy 1464 464 (x.1.2 1) (x.1.2 3) 464) fun (h116 : Nat → Int32) => bd2 (f_X8_goOn ((sa (ss x.1 0 0) 3 h116), x.2) 2147483647) fun (r23 : Int32) (x23 : MS) => bd1 (f_X8_copy 464 1464 (x23.1.2 3) (x23.1.2 1) 464) fun (h138 : Nat → Int32) => some (r23, ((sa x23.1 1 h138), x23.2))

abbrev rm_X8_stepsToEnd : Room := { frames := 7, cells := 0, slots := 0, locals := 160 }
theorem hd_X8_stepsToEnd : yX8_stepsToEnd.cls = RX8 ∧ yX8_stepsToEnd.cls ≠ "java/lang/invoke/MethodHandle" ∧ yX8_stepsToEnd.cls ≠ "java/lang/invoke/VarHandle" ∧ (parseMethodDescriptor yX8_stepsToEnd.desc).map (fun d => d.parameters.length) = some 0 := by decide +kernel
set_option maxHeartbeats 4000000 in
set_option maxRecDepth 100000 in
theorem k_X8_stepsToEnd (l : Launch) (G : va_G) (K : (Nat → Nat) × (Nat → Nat)) (c : Nat → ClassId) (ax : Nat → Nat) (x : MS) (r : Int32) (x_r : MS) (hm : f_X8_stepsToEnd x = some (r, x_r)) : zMi l yX8_stepsToEnd wsX8_stepsToEnd (rm_X8_stepsToEnd) G K (TY c) [.ref (ax 0)] (wM c ax x) (wM c ax x_r) r := by
  refine zMi.of (cc := cX8_stepsToEnd) (maxL := 2) (lv := [(0, .ref (ax 0))]) (by decide) rfl (Nat.le_of_ble_eq_true rfl) rfl ?_
  intro p e s m args below meth c1 A Q H locs hx hb hml hown hts hK hN hZ hP hD hA hS hend ls hl
  have hown : s.vm.findClass RX8 = some m.cls := hown
  have hi_8 : ∀ w ∈ wsX80, w ∈ wsX8_stepsToEnd := (fun w h => List.mem_cons_of_mem _ (List.mem_append_right _ (h)))
  unfold f_X8_stepsToEnd at hm
  refine lv_aload_n hx hb dX8_stepsToEnd_0 rfl (lv_at hl 0 rfl) ?_
  refine lv_iconst (v := 0) hx hb dX8_stepsToEnd_1 (by decide) ?_
  refine va_put (D := G) (ci := 8) (v := .int 0) (C := RX8) (T := TX8) (N := 22) hx hb hts hi_8 tyX8 tyX8_ok nmX8 hown hK hP hD hS 0 rfl rfl 0 (by decide) (hts (.fieldLink RX8 53 "HubTrainsModel" "thrown" "I") (List.mem_of_getElem? (i := 1) rfl)) (fun _ h9 => h9) rfl (tyX8_ok 0 (by decide)) rfl rfl (Nat.le_of_ble_eq_true rfl) dX8_stepsToEnd_2 (fun H locs hP hD hS => ?_)
  have hP : va_P G vwCl (wM c ax ((ss x.1 0 0), x.2)) H := hP
  have hD : va_D A (wM c ax ((ss x.1 0 0), x.2)) := hD
  refine lv_aload_n hx hb dX8_stepsToEnd_5 rfl (lv_at hl 0 rfl) ?_
  refine va_get (D := G) (ci := 8) (v := .ref (ax 2)) (C := RX8) (T := TX8) (N := 22) hx hb hts hi_8 hown hK hP 0 rfl rfl 8 (by decide) (hts (.fieldLink RX8 17 "HubTrainsModel" "data" "[I") (List.mem_of_getElem? (i := 2) rfl)) (fun _ h9 => h9) rfl dX8_stepsToEnd_6 ?_
  refine lv_aload_n hx hb dX8_stepsToEnd_9 rfl (lv_at hl 0 rfl) ?_
  refine va_get (D := G) (ci := 8) (v := .ref (ax 4)) (C := RX8) (T := TX8) (N := 22) hx hb hts hi_8 hown hK hP 0 rfl rfl 10 (by decide) (hts (.fieldLink RX8 23 "HubTrainsModel" "aside" "[I") (List.mem_of_getElem? (i := 3) rfl)) (fun _ h9 => h9) rfl dX8_stepsToEnd_10 ?_
  refine lv_sipush (v := 464) hx hb dX8_stepsToEnd_13 (by decide) ?_
  obtain ⟨h116, e_16, hm⟩ := bd1_s hm
  refine zcSv (As := [.ref (ax 2), .ref (ax 4), .int 464]) (rest := []) ⟨hx, hb, hml, hown, hts⟩ (k_X8_copy l G K c (ax 2) (ax 4) 1464 464 (x.1.2 1) (x.1.2 3) 464 h116 e_16) (va_cwS 3 hts gX8_stepsToEnd_X8_copy rfl rfl rfl hd_X8_copy.2 ⟨Nat.le_of_ble_eq_true rfl, Nat.le_of_ble_eq_true rfl⟩) hK hN hZ hP hD hS hA [2, 4] rfl (by decide) rfl rfl hl.1 rfl (Nat.le_of_ble_eq_true rfl) dX8_stepsToEnd_16 ⟨Nat.zero_le _, Nat.zero_le _⟩ (fun H locs hP hD hS => ?_)
  have hP : va_P G vwCl (wM c ax ((sa (ss x.1 0 0) 3 h116), x.2)) H := hP
  have hD : va_D A (wM c ax ((sa (ss x.1 0 0) 3 h116), x.2)) := hD
  refine lv_aload_n hx hb dX8_stepsToEnd_19 rfl (lv_at hl 0 rfl) ?_
  refine lv_ldcw (v := 2147483647) hx hb hown (hts (.constant RX8 319 (2147483647)) (List.mem_of_getElem? (i := 4) rfl)) dX8_stepsToEnd_20 ?_
  obtain ⟨r23, x23, e_23, hm⟩ := bd2_s hm
  refine zcWi (As := [.int 2147483647]) (rest := []) ⟨hx, hb, hml, hown, hts⟩ (k_X8_goOn l G K c ax ((sa (ss x.1 0 0) 3 h116), x.2) 2147483647 r23 x23 e_23) (cwV 1 hts gX8_stepsToEnd_X8_goOn rfl rfl rfl hd_X8_goOn ⟨Nat.le_of_ble_eq_true rfl, Nat.le_of_ble_eq_true rfl⟩) hK hN hZ hP hD hS hA (va_recv hK hP (ci := 8) (q0 := 0) rfl rfl) rfl hl.1 rfl (Nat.le_of_ble_eq_true rfl) dX8_stepsToEnd_23 ⟨Nat.zero_le _, Nat.zero_le _⟩ (fun H locs hP hD hS => ?_)
  have hP : va_P G vwCl (wM c ax x23) H := hP
  have hD : va_D A (wM c ax x23) := hD
  refine lv_istore_n (lv' := [(1, .int r23), (0, .ref (ax 0))]) hx hb dX8_stepsToEnd_26 rfl hl (by decide) rfl (fun ls hl => ?_)
  refine lv_aload_n hx hb dX8_stepsToEnd_27 rfl (lv_at hl 1 rfl) ?_
  refine va_get (D := G) (ci := 8) (v := .ref (ax 4)) (C := RX8) (T := TX8) (N := 22) hx hb hts hi_8 hown hK hP 0 rfl rfl 10 (by decide) (hts (.fieldLink RX8 23 "HubTrainsModel" "aside" "[I") (List.mem_of_getElem? (i := 3) rfl)) (fun _ h9 => h9) rfl dX8_stepsToEnd_28 ?_
  refine lv_aload_n hx hb dX8_stepsToEnd_31 rfl (lv_at hl 1 rfl) ?_
  refine va_get (D := G) (ci := 8) (v := .ref (ax 2)) (C := RX8) (T := TX8) (N := 22) hx hb hts hi_8 hown hK hP 0 rfl rfl 8 (by decide) (hts (.fieldLink RX8 17 "HubTrainsModel" "data" "[I") (List.mem_of_getElem? (i := 2) rfl)) (fun _ h9 => h9) rfl dX8_stepsToEnd_32 ?_
  refine lv_sipush (v := 464) hx hb dX8_stepsToEnd_35 (by decide) ?_
  obtain ⟨h138, e_38, hm⟩ := bd1_s hm
  refine zcSv (As := [.ref (ax 4), .ref (ax 2), .int 464]) (rest := []) ⟨hx, hb, hml, hown, hts⟩ (k_X8_copy l G K c (ax 4) (ax 2) 464 1464 (x23.1.2 3) (x23.1.2 1) 464 h138 e_38) (va_cwS 3 hts gX8_stepsToEnd_X8_copy rfl rfl rfl hd_X8_copy.2 ⟨Nat.le_of_ble_eq_true rfl, Nat.le_of_ble_eq_true rfl⟩) hK hN hZ hP hD hS hA [4, 2] rfl (by decide) rfl rfl hl.1 rfl (Nat.le_of_ble_eq_true rfl) dX8_stepsToEnd_38 ⟨Nat.zero_le _, Nat.zero_le _⟩ (fun H locs hP hD hS => ?_)
  have hP : va_P G vwCl (wM c ax ((sa x23.1 1 h138), x23.2)) H := hP
  have hD : va_D A (wM c ax ((sa x23.1 1 h138), x23.2)) := hD
  refine lv_iload_n hx hb dX8_stepsToEnd_41 rfl (lv_at hl 0 rfl) ?_
  exact hend H locs ls _ _ _ rfl (Prod.mk.inj (Option.some.inj hm)).1 (zc1 (fun (z0 : MS) => (wM c ax z0 : va_W)) (Prod.mk.inj (Option.some.inj hm)).2) hP hD hS dX8_stepsToEnd_42

def f_X8_checksum_B137 (x : MS) (rec_124 : Int64 → Int32 → Option (Int64 × MS)) (v3_124 : Int32) (rec_137 : Int64 → Int32 → Option (Int64 × MS)) (v1_137 : Int64) (v4_137 : Int32) : Option (Int64 × MS) :=
  if (5 : Int32) ≤ v4_137 then (rec_124 v1_137 (v3_124 + 1)) else (bd1 (f_X8_toldTrain ((ss x.1 0 0), x.2) v3_124 v4_137) fun (r152 : Int32) => nmd ((31 * v1_137) + r152.toInt64) fun (x1_157 : Int64) => rec_137 x1_157 (v4_137 + 1))

def f_X8_checksum_B124 (x : MS) (rec_124 : Int64 → Int32 → Option (Int64 × MS)) (v1_124 : Int64) (v3_124 : Int32) : Option (Int64 × MS) :=
  gd (inb 1 1464) <| if ((x.1.2 1) (1 : Int32).toNatClampNeg) < v3_124 then (some (v1_124, ((ss x.1 0 0), x.2))) else (itr2 (f_X8_checksum_B137 x rec_124 v3_124) FUEL v1_124 0)

def f_X8_checksum_B79 (x : MS) (rec_36 : Int64 → Int32 → Option (Int64 × MS)) (v3_36 : Int32) (rec_79 : Int64 → Int32 → Option (Int64 × MS)) (v1_79 : Int64) (v4_79 : Int32) : Option (Int64 × MS) :=
  if (100 : Int32) ≤ v4_79 then (rec_36 v1_79 (v3_36 + 1)) else (bd1 (f_X8_isInHand ((ss x.1 0 0), x.2) v3_36 v4_79) fun (r90 : Int32) => if r90 = 0 then (rec_79 v1_79 (v4_79 + 1)) else (nmd ((31 * v1_79) + v4_79.toInt64) fun (x1_109 : Int64) => rec_79 x1_109 (v4_79 + 1)))

def f_X8_checksum_B49 (x : MS) (rec_36 : Int64 → Int32 → Option (Int64 × MS)) (v3_36 : Int32) (rec_49 : Int64 → Int32 → Option (Int64 × MS)) (v1_49 : Int64) (v4_49 : Int32) : Option (Int64 × MS) :=
  if (4 : Int32) ≤ v4_49 then (itr2 (f_X8_checksum_B79 x rec_36 v3_36) FUEL v1_49 0) else (bd1 (f_X8_toldPlayer ((ss x.1 0 0), x.2) v3_36 v4_49) fun (r64 : Int32) => nmd ((31 * v1_49) + r64.toInt64) fun (x1_69 : Int64) => rec_49 x1_69 (v4_49 + 1))

def f_X8_checksum_B36 (x : MS) (rec_36 : Int64 → Int32 → Option (Int64 × MS)) (v1_36 : Int64) (v3_36 : Int32) : Option (Int64 × MS) :=
  gd (inb 1 1464) <| if ((x.1.2 1) (1 : Int32).toNatClampNeg) ≤ v3_36 then (itr2 (f_X8_checksum_B124 x) FUEL v1_36 0) else (itr2 (f_X8_checksum_B49 x rec_36 v3_36) FUEL v1_36 0)

def f_X8_checksum_B9 (x : MS) (rec_9 : Int64 → Int32 → Option (Int64 × MS)) (v1_9 : Int64) (v3_9 : Int32) : Option (Int64 × MS) :=
  if (13 : Int32) ≤ v3_9 then (itr2 (f_X8_checksum_B36 x) FUEL v1_9 0) else (bd1 (f_X8_told ((ss x.1 0 0), x.2) v3_9) fun (r22 : Int32) => nmd ((31 * v1_9) + r22.toInt64) fun (x1_27 : Int64) => rec_9 x1_27 (v3_9 + 1))

def f_X8_checksum (x : MS) : Option (Int64 × MS) :=
  itr2 (f_X8_checksum_B9 x) FUEL 0 0

abbrev rm_X8_checksum : Room := { frames := 5, cells := 0, slots := 0, locals := 111 }
theorem hd_X8_checksum : yX8_checksum.cls = RX8 ∧ yX8_checksum.cls ≠ "java/lang/invoke/MethodHandle" ∧ yX8_checksum.cls ≠ "java/lang/invoke/VarHandle" ∧ (parseMethodDescriptor yX8_checksum.desc).map (fun d => d.parameters.length) = some 0 := by decide +kernel
set_option maxHeartbeats 4000000 in
set_option maxRecDepth 100000 in
theorem k_X8_checksum (l : Launch) (G : va_G) (K : (Nat → Nat) × (Nat → Nat)) (c : Nat → ClassId) (ax : Nat → Nat) (x : MS) (r : Int64) (x_r : MS) (hm : f_X8_checksum x = some (r, x_r)) : zMl l yX8_checksum wsX8_checksum (rm_X8_checksum) G K (TY c) [.ref (ax 0)] (wM c ax x) (wM c ax x_r) r := by
  refine zMl.of (cc := cX8_checksum) (maxL := 5) (lv := [(0, .ref (ax 0))]) (by decide) rfl (Nat.le_of_ble_eq_true rfl) rfl ?_
  intro p e s m args below meth c1 A Q H locs hx hb hml hown hts hK hN hZ hP hD hA hS hend ls hl
  have hown : s.vm.findClass RX8 = some m.cls := hown
  have hi_8 : ∀ w ∈ wsX80, w ∈ wsX8_checksum := (fun w h => List.mem_cons_of_mem _ (List.mem_append_right _ (h)))
  unfold f_X8_checksum at hm
  refine lv_aload_n hx hb dX8_checksum_0 rfl (lv_at hl 0 rfl) ?_
  refine lv_iconst (v := 0) hx hb dX8_checksum_1 (by decide) ?_
  refine va_put (D := G) (ci := 8) (v := .int 0) (C := RX8) (T := TX8) (N := 22) hx hb hts hi_8 tyX8 tyX8_ok nmX8 hown hK hP hD hS 0 rfl rfl 0 (by decide) (hts (.fieldLink RX8 53 "HubTrainsModel" "thrown" "I") (List.mem_of_getElem? (i := 1) rfl)) (fun _ h9 => h9) rfl (tyX8_ok 0 (by decide)) rfl rfl (Nat.le_of_ble_eq_true rfl) dX8_checksum_2 (fun H locs hP hD hS => ?_)
  have hP : va_P G vwCl (wM c ax ((ss x.1 0 0), x.2)) H := hP
  have hD : va_D A (wM c ax ((ss x.1 0 0), x.2)) := hD
  refine lv_lconst (v := 0) hx hb dX8_checksum_5 (by decide) ?_
  refine lv_lstore_n (lv' := [(1, .long 0), (0, .ref (ax 0))]) hx hb dX8_checksum_6 rfl hl (by decide) rfl (fun ls hl => ?_)
  refine lv_iconst (v := 0) hx hb dX8_checksum_7 (by decide) ?_
  refine lv_istore_n (lv' := [(3, .int 0), (1, .long 0), (0, .ref (ax 0))]) hx hb dX8_checksum_8 rfl hl (by decide) rfl (fun ls hl => ?_)
  have L_9 : ∀ (n_9 : Nat) (v1_9 : Int64) (v3_9 : Int32) (H : Heap) (locs : List Loc) (ls : Array Slot), va_P G vwCl (wM c ax ((ss x.1 0 0), x.2)) H → va_D A (wM c ax ((ss x.1 0 0), x.2)) → va_S A s.heap H locs → lv_has ls 5 [(0, .ref (ax 0)), (1, .long v1_9), (3, .int v3_9)] → itr2 (f_X8_checksum_B9 x) n_9 v1_9 v3_9 = some (r, x_r) → W p l e (rm_X8_checksum) s m args below meth c1 H locs 0 0 Q (F0 m 9 ls []) := by
    intro n_9
    induction n_9 with
    | zero => intro v1_9 v3_9 H locs ls hP hD hS hl hm; exact (itr2_0 hm).elim
    | succ n_9 ih_9 =>
      intro v1_9 v3_9 H locs ls hP hD hS hl hm
      have hm := itr2_s hm
      unfold f_X8_checksum_B9 at hm
      refine lv_iload_n hx hb dX8_checksum_9 rfl (lv_at hl 2 rfl) ?_
      refine lv_bipush (v := 13) hx hb dX8_checksum_10 (by decide) ?_
      refine lv_icmp_ge (tgt := 34) hx hb dX8_checksum_12 (by decide) (fun c_12 => ?_) (fun c_12 => ?_)
      · have hm := ifp c_12 hm
        refine lv_iconst (v := 0) hx hb dX8_checksum_34 (by decide) ?_
        refine lv_istore_n (lv' := [(3, .int 0), (0, .ref (ax 0)), (1, .long v1_9)]) hx hb dX8_checksum_35 rfl hl (by decide) rfl (fun ls hl => ?_)
        have L_36 : ∀ (n_36 : Nat) (v1_36 : Int64) (v3_36 : Int32) (H : Heap) (locs : List Loc) (ls : Array Slot), va_P G vwCl (wM c ax ((ss x.1 0 0), x.2)) H → va_D A (wM c ax ((ss x.1 0 0), x.2)) → va_S A s.heap H locs → lv_has ls 5 [(0, .ref (ax 0)), (1, .long v1_36), (3, .int v3_36)] → itr2 (f_X8_checksum_B36 x) n_36 v1_36 v3_36 = some (r, x_r) → W p l e (rm_X8_checksum) s m args below meth c1 H locs 0 0 Q (F0 m 36 ls []) := by
          intro n_36
          induction n_36 with
          | zero => intro v1_36 v3_36 H locs ls hP hD hS hl hm; exact (itr2_0 hm).elim
          | succ n_36 ih_36 =>
            intro v1_36 v3_36 H locs ls hP hD hS hl hm
            have hm := itr2_s hm
            unfold f_X8_checksum_B36 at hm
            refine lv_iload_n hx hb dX8_checksum_36 rfl (lv_at hl 2 rfl) ?_
            refine lv_aload_n hx hb dX8_checksum_37 rfl (lv_at hl 0 rfl) ?_
            refine va_get (D := G) (ci := 8) (v := .ref (ax 2)) (C := RX8) (T := TX8) (N := 22) hx hb hts hi_8 hown hK hP 0 rfl rfl 8 (by decide) (hts (.fieldLink RX8 17 "HubTrainsModel" "data" "[I") (List.mem_of_getElem? (i := 3) rfl)) (fun _ h9 => h9) rfl dX8_checksum_38 ?_
            refine lv_iconst (v := 1) hx hb dX8_checksum_41 (by decide) ?_
            obtain ⟨h_42, hm⟩ := gd_s hm
            refine va_iald (D := G) hx hb hK hP 2 0 rfl rfl (inb_s h_42) dX8_checksum_42 ?_
            refine lv_icmp_ge (tgt := 122) hx hb dX8_checksum_43 (by decide) (fun c_43 => ?_) (fun c_43 => ?_)
            · have hm := ifp c_43 hm
              refine lv_iconst (v := 0) hx hb dX8_checksum_122 (by decide) ?_
              refine lv_istore_n (lv' := [(3, .int 0), (0, .ref (ax 0)), (1, .long v1_36)]) hx hb dX8_checksum_123 rfl hl (by decide) rfl (fun ls hl => ?_)
              have L_124 : ∀ (n_124 : Nat) (v1_124 : Int64) (v3_124 : Int32) (H : Heap) (locs : List Loc) (ls : Array Slot), va_P G vwCl (wM c ax ((ss x.1 0 0), x.2)) H → va_D A (wM c ax ((ss x.1 0 0), x.2)) → va_S A s.heap H locs → lv_has ls 5 [(0, .ref (ax 0)), (1, .long v1_124), (3, .int v3_124)] → itr2 (f_X8_checksum_B124 x) n_124 v1_124 v3_124 = some (r, x_r) → W p l e (rm_X8_checksum) s m args below meth c1 H locs 0 0 Q (F0 m 124 ls []) := by
                intro n_124
                induction n_124 with
                | zero => intro v1_124 v3_124 H locs ls hP hD hS hl hm; exact (itr2_0 hm).elim
                | succ n_124 ih_124 =>
                  intro v1_124 v3_124 H locs ls hP hD hS hl hm
                  have hm := itr2_s hm
                  unfold f_X8_checksum_B124 at hm
                  refine lv_iload_n hx hb dX8_checksum_124 rfl (lv_at hl 2 rfl) ?_
                  refine lv_aload_n hx hb dX8_checksum_125 rfl (lv_at hl 0 rfl) ?_
                  refine va_get (D := G) (ci := 8) (v := .ref (ax 2)) (C := RX8) (T := TX8) (N := 22) hx hb hts hi_8 hown hK hP 0 rfl rfl 8 (by decide) (hts (.fieldLink RX8 17 "HubTrainsModel" "data" "[I") (List.mem_of_getElem? (i := 3) rfl)) (fun _ h9 => h9) rfl dX8_checksum_126 ?_
                  refine lv_iconst (v := 1) hx hb dX8_checksum_129 (by decide) ?_
                  obtain ⟨h_130, hm⟩ := gd_s hm
                  refine va_iald (D := G) hx hb hK hP 2 0 rfl rfl (inb_s h_130) dX8_checksum_130 ?_
                  refine lv_icmp_gt (tgt := 170) hx hb dX8_checksum_131 (by decide) (fun c_131 => ?_) (fun c_131 => ?_)
                  · have hm := ifp c_131 hm
                    refine lv_lload_n hx hb dX8_checksum_170 rfl (lv_at hl 1 rfl) ?_
                    exact hend H locs ls _ _ _ (Prod.mk.inj (Option.some.inj hm)).1 (zc1 (fun (z0 : MS) => (wM c ax z0 : va_W)) (Prod.mk.inj (Option.some.inj hm)).2) hP hD hS dX8_checksum_171
                  · have hm := ifn c_131 hm
                    refine lv_iconst (v := 0) hx hb dX8_checksum_134 (by decide) ?_
                    refine lv_istore (lv' := [(4, .int 0), (0, .ref (ax 0)), (1, .long v1_124), (3, .int v3_124)]) hx hb dX8_checksum_135 hl (by decide) rfl (fun ls hl => ?_)
                    have L_137 : ∀ (n_137 : Nat) (v1_137 : Int64) (v4_137 : Int32) (H : Heap) (locs : List Loc) (ls : Array Slot), va_P G vwCl (wM c ax ((ss x.1 0 0), x.2)) H → va_D A (wM c ax ((ss x.1 0 0), x.2)) → va_S A s.heap H locs → lv_has ls 5 [(0, .ref (ax 0)), (1, .long v1_137), (3, .int v3_124), (4, .int v4_137)] → itr2 (f_X8_checksum_B137 x (itr2 (f_X8_checksum_B124 x) n_124) v3_124) n_137 v1_137 v4_137 = some (r, x_r) → W p l e (rm_X8_checksum) s m args below meth c1 H locs 0 0 Q (F0 m 137 ls []) := by
                      intro n_137
                      induction n_137 with
                      | zero => intro v1_137 v4_137 H locs ls hP hD hS hl hm; exact (itr2_0 hm).elim
                      | succ n_137 ih_137 =>
                        intro v1_137 v4_137 H locs ls hP hD hS hl hm
                        have hm := itr2_s hm
                        unfold f_X8_checksum_B137 at hm
                        refine lv_iload hx hb dX8_checksum_137 (lv_at hl 3 rfl) ?_
                        refine lv_iconst (v := 5) hx hb dX8_checksum_139 (by decide) ?_
                        refine lv_icmp_ge (tgt := 164) hx hb dX8_checksum_140 (by decide) (fun c_140 => ?_) (fun c_140 => ?_)
                        · have hm := ifp c_140 hm
                          refine lv_iinc (k := 2) (v := (v3_124 + 1)) (lv' := [(3, .int (v3_124 + 1)), (0, .ref (ax 0)), (1, .long v1_137), (4, .int v4_137)]) hx hb dX8_checksum_164 hl rfl rfl (by decide) rfl (fun ls hl => ?_)
                          refine lv_goto (tgt := 124) hx hb dX8_checksum_167 (by decide) ?_
                          exact ih_124 v1_137 (v3_124 + 1) H locs ls hP hD hS (lv_sub hl [1, 2, 0] rfl) hm
                        · have hm := ifn c_140 hm
                          refine lv_ldc2 (v := 31) hx hb hown (hts (.constantLong RX8 329 (31)) (List.mem_of_getElem? (i := 2) rfl)) dX8_checksum_143 ?_
                          refine lv_lload_n hx hb dX8_checksum_146 rfl (lv_at hl 1 rfl) ?_
                          refine lv_lmul hx hb dX8_checksum_147 ?_
                          refine lv_aload_n hx hb dX8_checksum_148 rfl (lv_at hl 0 rfl) ?_
                          refine lv_iload_n hx hb dX8_checksum_149 rfl (lv_at hl 2 rfl) ?_
                          refine lv_iload hx hb dX8_checksum_150 (lv_at hl 3 rfl) ?_
                          obtain ⟨r152, e_152, hm⟩ := bd1_s hm
                          refine zcWi (As := [.int v3_124, .int v4_137]) (rest := [.long (31 * v1_137)]) ⟨hx, hb, hml, hown, hts⟩ (k_X8_toldTrain l G K c ax ((ss x.1 0 0), x.2) v3_124 v4_137 r152 e_152) (cwV 2 hts gX8_checksum_X8_toldTrain rfl rfl rfl hd_X8_toldTrain ⟨Nat.le_of_ble_eq_true rfl, Nat.le_of_ble_eq_true rfl⟩) hK hN hZ hP hD hS hA (va_recv hK hP (ci := 8) (q0 := 0) rfl rfl) rfl hl.1 rfl (Nat.le_of_ble_eq_true rfl) dX8_checksum_152 ⟨Nat.zero_le _, Nat.zero_le _⟩ (fun H locs hP hD hS => ?_)
                          have hP : va_P G vwCl (wM c ax ((ss x.1 0 0), x.2)) H := hP
                          have hD : va_D A (wM c ax ((ss x.1 0 0), x.2)) := hD
                          refine lv_i2l hx hb dX8_checksum_155 rfl ?_
                          refine lv_ladd hx hb dX8_checksum_156 ?_
                          refine lv_topl (fun x1_157 e_x1_157 => ?_)
                          have hm := nmd_s hm x1_157 e_x1_157
                          refine lv_lstore_n (lv' := [(1, .long x1_157), (0, .ref (ax 0)), (3, .int v3_124), (4, .int v4_137)]) hx hb dX8_checksum_157 rfl hl (by decide) rfl (fun ls hl => ?_)
                          refine lv_iinc (k := 3) (v := (v4_137 + 1)) (lv' := [(4, .int (v4_137 + 1)), (1, .long x1_157), (0, .ref (ax 0)), (3, .int v3_124)]) hx hb dX8_checksum_158 hl rfl rfl (by decide) rfl (fun ls hl => ?_)
                          refine lv_goto (tgt := 137) hx hb dX8_checksum_161 (by decide) ?_
                          exact ih_137 x1_157 (v4_137 + 1) H locs ls hP hD hS (lv_sub hl [2, 1, 3, 0] rfl) hm
                    exact L_137 FUEL v1_124 0 H locs ls hP hD hS (lv_sub hl [1, 2, 3, 0] rfl) hm
              exact L_124 FUEL v1_36 0 H locs ls hP hD hS (lv_sub hl [1, 2, 0] rfl) hm
            · have hm := ifn c_43 hm
              refine lv_iconst (v := 0) hx hb dX8_checksum_46 (by decide) ?_
              refine lv_istore (lv' := [(4, .int 0), (0, .ref (ax 0)), (1, .long v1_36), (3, .int v3_36)]) hx hb dX8_checksum_47 hl (by decide) rfl (fun ls hl => ?_)
              have L_49 : ∀ (n_49 : Nat) (v1_49 : Int64) (v4_49 : Int32) (H : Heap) (locs : List Loc) (ls : Array Slot), va_P G vwCl (wM c ax ((ss x.1 0 0), x.2)) H → va_D A (wM c ax ((ss x.1 0 0), x.2)) → va_S A s.heap H locs → lv_has ls 5 [(0, .ref (ax 0)), (1, .long v1_49), (3, .int v3_36), (4, .int v4_49)] → itr2 (f_X8_checksum_B49 x (itr2 (f_X8_checksum_B36 x) n_36) v3_36) n_49 v1_49 v4_49 = some (r, x_r) → W p l e (rm_X8_checksum) s m args below meth c1 H locs 0 0 Q (F0 m 49 ls []) := by
                intro n_49
                induction n_49 with
                | zero => intro v1_49 v4_49 H locs ls hP hD hS hl hm; exact (itr2_0 hm).elim
                | succ n_49 ih_49 =>
                  intro v1_49 v4_49 H locs ls hP hD hS hl hm
                  have hm := itr2_s hm
                  unfold f_X8_checksum_B49 at hm
                  refine lv_iload hx hb dX8_checksum_49 (lv_at hl 3 rfl) ?_
                  refine lv_iconst (v := 4) hx hb dX8_checksum_51 (by decide) ?_
                  refine lv_icmp_ge (tgt := 76) hx hb dX8_checksum_52 (by decide) (fun c_52 => ?_) (fun c_52 => ?_)
                  · have hm := ifp c_52 hm
                    refine lv_iconst (v := 0) hx hb dX8_checksum_76 (by decide) ?_
                    refine lv_istore (lv' := [(4, .int 0), (0, .ref (ax 0)), (1, .long v1_49), (3, .int v3_36)]) hx hb dX8_checksum_77 hl (by decide) rfl (fun ls hl => ?_)
                    have L_79 : ∀ (n_79 : Nat) (v1_79 : Int64) (v4_79 : Int32) (H : Heap) (locs : List Loc) (ls : Array Slot), va_P G vwCl (wM c ax ((ss x.1 0 0), x.2)) H → va_D A (wM c ax ((ss x.1 0 0), x.2)) → va_S A s.heap H locs → lv_has ls 5 [(0, .ref (ax 0)), (1, .long v1_79), (3, .int v3_36), (4, .int v4_79)] → itr2 (f_X8_checksum_B79 x (itr2 (f_X8_checksum_B36 x) n_36) v3_36) n_79 v1_79 v4_79 = some (r, x_r) → W p l e (rm_X8_checksum) s m args below meth c1 H locs 0 0 Q (F0 m 79 ls []) := by
                      intro n_79
                      induction n_79 with
                      | zero => intro v1_79 v4_79 H locs ls hP hD hS hl hm; exact (itr2_0 hm).elim
                      | succ n_79 ih_79 =>
                        intro v1_79 v4_79 H locs ls hP hD hS hl hm
                        have hm := itr2_s hm
                        unfold f_X8_checksum_B79 at hm
                        refine lv_iload hx hb dX8_checksum_79 (lv_at hl 3 rfl) ?_
                        refine lv_bipush (v := 100) hx hb dX8_checksum_81 (by decide) ?_
                        refine lv_icmp_ge (tgt := 116) hx hb dX8_checksum_83 (by decide) (fun c_83 => ?_) (fun c_83 => ?_)
                        · have hm := ifp c_83 hm
                          refine lv_iinc (k := 2) (v := (v3_36 + 1)) (lv' := [(3, .int (v3_36 + 1)), (0, .ref (ax 0)), (1, .long v1_79), (4, .int v4_79)]) hx hb dX8_checksum_116 hl rfl rfl (by decide) rfl (fun ls hl => ?_)
                          refine lv_goto (tgt := 36) hx hb dX8_checksum_119 (by decide) ?_
                          exact ih_36 v1_79 (v3_36 + 1) H locs ls hP hD hS (lv_sub hl [1, 2, 0] rfl) hm
                        · have hm := ifn c_83 hm
                          refine lv_aload_n hx hb dX8_checksum_86 rfl (lv_at hl 0 rfl) ?_
                          refine lv_iload_n hx hb dX8_checksum_87 rfl (lv_at hl 2 rfl) ?_
                          refine lv_iload hx hb dX8_checksum_88 (lv_at hl 3 rfl) ?_
                          obtain ⟨r90, e_90, hm⟩ := bd1_s hm
                          refine zcWi (As := [.int v3_36, .int v4_79]) (rest := []) ⟨hx, hb, hml, hown, hts⟩ (k_X8_isInHand l G K c ax ((ss x.1 0 0), x.2) v3_36 v4_79 r90 e_90) (cwV 2 hts gX8_checksum_X8_isInHand rfl rfl rfl hd_X8_isInHand ⟨Nat.le_of_ble_eq_true rfl, Nat.le_of_ble_eq_true rfl⟩) hK hN hZ hP hD hS hA (va_recv hK hP (ci := 8) (q0 := 0) rfl rfl) rfl hl.1 rfl (Nat.le_of_ble_eq_true rfl) dX8_checksum_90 ⟨Nat.zero_le _, Nat.zero_le _⟩ (fun H locs hP hD hS => ?_)
                          have hP : va_P G vwCl (wM c ax ((ss x.1 0 0), x.2)) H := hP
                          have hD : va_D A (wM c ax ((ss x.1 0 0), x.2)) := hD
                          refine lv_if_eq (tgt := 108) hx hb dX8_checksum_93 (by decide) (fun c_93 => ?_) (fun c_93 => ?_)
                          · have hm := ifp c_93 hm
                            refine lv_lload_n hx hb dX8_checksum_108 rfl (lv_at hl 1 rfl) ?_
                            refine lv_lstore_n (lv' := [(1, .long v1_79), (0, .ref (ax 0)), (3, .int v3_36), (4, .int v4_79)]) hx hb dX8_checksum_109 rfl hl (by decide) rfl (fun ls hl => ?_)
                            refine lv_iinc (k := 3) (v := (v4_79 + 1)) (lv' := [(4, .int (v4_79 + 1)), (1, .long v1_79), (0, .ref (ax 0)), (3, .int v3_36)]) hx hb dX8_checksum_110 hl rfl rfl (by decide) rfl (fun ls hl => ?_)
                            refine lv_goto (tgt := 79) hx hb dX8_checksum_113 (by decide) ?_
                            exact ih_79 v1_79 (v4_79 + 1) H locs ls hP hD hS (lv_sub hl [2, 1, 3, 0] rfl) hm
                          · have hm := ifn c_93 hm
                            refine lv_ldc2 (v := 31) hx hb hown (hts (.constantLong RX8 329 (31)) (List.mem_of_getElem? (i := 2) rfl)) dX8_checksum_96 ?_
                            refine lv_lload_n hx hb dX8_checksum_99 rfl (lv_at hl 1 rfl) ?_
                            refine lv_lmul hx hb dX8_checksum_100 ?_
                            refine lv_iload hx hb dX8_checksum_101 (lv_at hl 3 rfl) ?_
                            refine lv_i2l hx hb dX8_checksum_103 rfl ?_
                            refine lv_ladd hx hb dX8_checksum_104 ?_
                            refine lv_goto (tgt := 109) hx hb dX8_checksum_105 (by decide) ?_
                            refine lv_topl (fun x1_109 e_x1_109 => ?_)
                            have hm := nmd_s hm x1_109 e_x1_109
                            refine lv_lstore_n (lv' := [(1, .long x1_109), (0, .ref (ax 0)), (3, .int v3_36), (4, .int v4_79)]) hx hb dX8_checksum_109 rfl hl (by decide) rfl (fun ls hl => ?_)
                            refine lv_iinc (k := 3) (v := (v4_79 + 1)) (lv' := [(4, .int (v4_79 + 1)), (1, .long x1_109), (0, .ref (ax 0)), (3, .int v3_36)]) hx hb dX8_checksum_110 hl rfl rfl (by decide) rfl (fun ls hl => ?_)
                            refine lv_goto (tgt := 79) hx hb dX8_checksum_113 (by decide) ?_
                            exact ih_79 x1_109 (v4_79 + 1) H locs ls hP hD hS (lv_sub hl [2, 1, 3, 0] rfl) hm
                    exact L_79 FUEL v1_49 0 H locs ls hP hD hS (lv_sub hl [1, 2, 3, 0] rfl) hm
                  · have hm := ifn c_52 hm
                    refine lv_ldc2 (v := 31) hx hb hown (hts (.constantLong RX8 329 (31)) (List.mem_of_getElem? (i := 2) rfl)) dX8_checksum_55 ?_
                    refine lv_lload_n hx hb dX8_checksum_58 rfl (lv_at hl 1 rfl) ?_
                    refine lv_lmul hx hb dX8_checksum_59 ?_
                    refine lv_aload_n hx hb dX8_checksum_60 rfl (lv_at hl 0 rfl) ?_
                    refine lv_iload_n hx hb dX8_checksum_61 rfl (lv_at hl 2 rfl) ?_
                    refine lv_iload hx hb dX8_checksum_62 (lv_at hl 3 rfl) ?_
                    obtain ⟨r64, e_64, hm⟩ := bd1_s hm
                    refine zcWi (As := [.int v3_36, .int v4_49]) (rest := [.long (31 * v1_49)]) ⟨hx, hb, hml, hown, hts⟩ (k_X8_toldPlayer l G K c ax ((ss x.1 0 0), x.2) v3_36 v4_49 r64 e_64) (cwV 2 hts gX8_checksum_X8_toldPlayer rfl rfl rfl hd_X8_toldPlayer ⟨Nat.le_of_ble_eq_true rfl, Nat.le_of_ble_eq_true rfl⟩) hK hN hZ hP hD hS hA (va_recv hK hP (ci := 8) (q0 := 0) rfl rfl) rfl hl.1 rfl (Nat.le_of_ble_eq_true rfl) dX8_checksum_64 ⟨Nat.zero_le _, Nat.zero_le _⟩ (fun H locs hP hD hS => ?_)
                    have hP : va_P G vwCl (wM c ax ((ss x.1 0 0), x.2)) H := hP
                    have hD : va_D A (wM c ax ((ss x.1 0 0), x.2)) := hD
                    refine lv_i2l hx hb dX8_checksum_67 rfl ?_
                    refine lv_ladd hx hb dX8_checksum_68 ?_
                    refine lv_topl (fun x1_69 e_x1_69 => ?_)
                    have hm := nmd_s hm x1_69 e_x1_69
                    refine lv_lstore_n (lv' := [(1, .long x1_69), (0, .ref (ax 0)), (3, .int v3_36), (4, .int v4_49)]) hx hb dX8_checksum_69 rfl hl (by decide) rfl (fun ls hl => ?_)
                    refine lv_iinc (k := 3) (v := (v4_49 + 1)) (lv' := [(4, .int (v4_49 + 1)), (1, .long x1_69), (0, .ref (ax 0)), (3, .int v3_36)]) hx hb dX8_checksum_70 hl rfl rfl (by decide) rfl (fun ls hl => ?_)
                    refine lv_goto (tgt := 49) hx hb dX8_checksum_73 (by decide) ?_
                    exact ih_49 x1_69 (v4_49 + 1) H locs ls hP hD hS (lv_sub hl [2, 1, 3, 0] rfl) hm
              exact L_49 FUEL v1_36 0 H locs ls hP hD hS (lv_sub hl [1, 2, 3, 0] rfl) hm
        exact L_36 FUEL v1_9 0 H locs ls hP hD hS (lv_sub hl [1, 2, 0] rfl) hm
      · have hm := ifn c_12 hm
        refine lv_ldc2 (v := 31) hx hb hown (hts (.constantLong RX8 329 (31)) (List.mem_of_getElem? (i := 2) rfl)) dX8_checksum_15 ?_
        refine lv_lload_n hx hb dX8_checksum_18 rfl (lv_at hl 1 rfl) ?_
        refine lv_lmul hx hb dX8_checksum_19 ?_
        refine lv_aload_n hx hb dX8_checksum_20 rfl (lv_at hl 0 rfl) ?_
        refine lv_iload_n hx hb dX8_checksum_21 rfl (lv_at hl 2 rfl) ?_
        obtain ⟨r22, e_22, hm⟩ := bd1_s hm
        refine zcWi (As := [.int v3_9]) (rest := [.long (31 * v1_9)]) ⟨hx, hb, hml, hown, hts⟩ (k_X8_told l G K c ax ((ss x.1 0 0), x.2) v3_9 r22 e_22) (cwV 1 hts gX8_checksum_X8_told rfl rfl rfl hd_X8_told ⟨Nat.le_of_ble_eq_true rfl, Nat.le_of_ble_eq_true rfl⟩) hK hN hZ hP hD hS hA (va_recv hK hP (ci := 8) (q0 := 0) rfl rfl) rfl hl.1 rfl (Nat.le_of_ble_eq_true rfl) dX8_checksum_22 ⟨Nat.zero_le _, Nat.zero_le _⟩ (fun H locs hP hD hS => ?_)
        have hP : va_P G vwCl (wM c ax ((ss x.1 0 0), x.2)) H := hP
        have hD : va_D A (wM c ax ((ss x.1 0 0), x.2)) := hD
        refine lv_i2l hx hb dX8_checksum_25 rfl ?_
        refine lv_ladd hx hb dX8_checksum_26 ?_
        refine lv_topl (fun x1_27 e_x1_27 => ?_)
        have hm := nmd_s hm x1_27 e_x1_27
        refine lv_lstore_n (lv' := [(1, .long x1_27), (0, .ref (ax 0)), (3, .int v3_9)]) hx hb dX8_checksum_27 rfl hl (by decide) rfl (fun ls hl => ?_)
        refine lv_iinc (k := 2) (v := (v3_9 + 1)) (lv' := [(3, .int (v3_9 + 1)), (1, .long x1_27), (0, .ref (ax 0))]) hx hb dX8_checksum_28 hl rfl rfl (by decide) rfl (fun ls hl => ?_)
        refine lv_goto (tgt := 9) hx hb dX8_checksum_31 (by decide) ?_
        exact ih_9 x1_27 (v3_9 + 1) H locs ls hP hD hS (lv_sub hl [2, 1, 0] rfl) hm
  exact L_9 FUEL 0 0 H locs ls hP hD hS (lv_sub hl [2, 1, 0] rfl) hm
