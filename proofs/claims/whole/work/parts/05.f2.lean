def f_X8_append_J76 (rec_23 : Int32 → MS → Option (Int32 × MS)) (v6_23 : Int32) (x_23 : MS) (s0_76 : Int32) : Option (Int32 × MS) :=
  gd (inb (x_23.1.1 1) 500) <| nmd (upd (x_23.1.2 0) (x_23.1.1 1).toNatClampNeg ((s0_76 >>> ((24 - (8 * (v6_23 - v6_23 / 4 * 4))) &&& 31)) &&& 255)) fun (w103 : Nat → Int32) => rec_23 (v6_23 + 1) ((sa (ss x_23.1 1 ((x_23.1.1 1) + 1)) 0 w103), x_23.2)

def f_X8_append_B23 (p0 : Int32) (p1 : Int32) (p2 : Int32) (p3 : Int32) (p4 : Int32) (rec_23 : Int32 → MS → Option (Int32 × MS)) (v6_23 : Int32) (x_23 : MS) : Option (Int32 × MS) :=
  if (20 : Int32) ≤ v6_23 then (some ((x_23.1.1 1), x_23)) else (if (4 : Int32) ≤ v6_23 then (if (8 : Int32) ≤ v6_23 then (if (12 : Int32) ≤ v6_23 then (if (16 : Int32) ≤ v6_23 then (f_X8_append_J76 rec_23 v6_23 x_23 p4) else (f_X8_append_J76 rec_23 v6_23 x_23 p3)) else (f_X8_append_J76 rec_23 v6_23 x_23 p2)) else (f_X8_append_J76 rec_23 v6_23 x_23 p1)) else (f_X8_append_J76 rec_23 v6_23 x_23 p0))

def f_X8_append (x : MS) (p0 : Int32) (p1 : Int32) (p2 : Int32) (p3 : Int32) (p4 : Int32) : Option (Int32 × MS) :=
  if ((x.1.1 1) + 20) ≤ 500 then (itr2 (f_X8_append_B23 p0 p1 p2 p3 p4) FUEL 0 ((ss x.1 0 0), x.2)) else (some ((-1), ((ss x.1 0 0), x.2)))

abbrev rm_X8_append : Room := { frames := 0, cells := 0, slots := 0, locals := 0 }
theorem hd_X8_append : yX8_append.cls = RX8 ∧ yX8_append.cls ≠ "java/lang/invoke/MethodHandle" ∧ yX8_append.cls ≠ "java/lang/invoke/VarHandle" ∧ (parseMethodDescriptor yX8_append.desc).map (fun d => d.parameters.length) = some 5 := by decide +kernel
set_option maxHeartbeats 4000000 in
set_option maxRecDepth 100000 in
theorem k_X8_append (l : Launch) (G : va_G) (K : (Nat → Nat) × (Nat → Nat)) (c : Nat → ClassId) (ax : Nat → Nat) (x : MS) (p0 : Int32) (p1 : Int32) (p2 : Int32) (p3 : Int32) (p4 : Int32) (r : Int32) (x_r : MS) (hm : f_X8_append x p0 p1 p2 p3 p4 = some (r, x_r)) : zMi l yX8_append wsX8_append (rm_X8_append) G K (TY c) [.ref (ax 0), .int p0, .int p1, .int p2, .int p3, .int p4] (wM c ax x) (wM c ax x_r) r := by
  refine zMi.of (cc := cX8_append) (maxL := 8) (lv := [(0, .ref (ax 0)), (1, .int p0), (2, .int p1), (3, .int p2), (4, .int p3), (5, .int p4)]) (by decide) rfl (Nat.le_of_ble_eq_true rfl) rfl ?_
  intro p e s m args below meth c1 A Q H locs hx hb hml hown hts hK hN hZ hP hD hA hS hend ls hl
  have hown : s.vm.findClass RX8 = some m.cls := hown
  have hi_8 : ∀ w ∈ wsX80, w ∈ wsX8_append := (fun w h => List.mem_cons_of_mem _ (List.mem_append_right _ (h)))
  unfold f_X8_append at hm
  refine lv_aload_n hx hb dX8_append_0 rfl (lv_at hl 0 rfl) ?_
  refine lv_iconst (v := 0) hx hb dX8_append_1 (by decide) ?_
  refine va_put (D := G) (ci := 8) (v := .int 0) (C := RX8) (T := TX8) (N := 22) hx hb hts hi_8 tyX8 tyX8_ok nmX8 hown hK hP hD hS 0 rfl rfl 0 (by decide) (hts (.fieldLink RX8 53 "HubTrainsModel" "thrown" "I") (List.mem_of_getElem? (i := 1) rfl)) (fun _ h9 => h9) rfl (tyX8_ok 0 (by decide)) rfl rfl (Nat.le_of_ble_eq_true rfl) dX8_append_2 (fun H locs hP hD hS => ?_)
  have hP : va_P G vwCl (wM c ax ((ss x.1 0 0), x.2)) H := hP
  have hD : va_D A (wM c ax ((ss x.1 0 0), x.2)) := hD
  refine lv_aload_n hx hb dX8_append_5 rfl (lv_at hl 0 rfl) ?_
  refine va_get (D := G) (ci := 8) (v := .int (x.1.1 1)) (C := RX8) (T := TX8) (N := 22) hx hb hts hi_8 hown hK hP 0 rfl rfl 2 (by decide) (hts (.fieldLink RX8 77 "HubTrainsModel" "bufferLength" "I") (List.mem_of_getElem? (i := 2) rfl)) (fun _ h9 => h9) rfl dX8_append_6 ?_
  refine lv_bipush (v := 20) hx hb dX8_append_9 (by decide) ?_
  refine lv_iadd hx hb dX8_append_11 ?_
  refine lv_sipush (v := 500) hx hb dX8_append_12 (by decide) ?_
  refine lv_icmp_le (tgt := 20) hx hb dX8_append_15 (by decide) (fun c_15 => ?_) (fun c_15 => ?_)
  · have hm := ifp c_15 hm
    refine lv_iconst (v := 0) hx hb dX8_append_20 (by decide) ?_
    refine lv_istore (lv' := [(6, .int 0), (0, .ref (ax 0)), (1, .int p0), (2, .int p1), (3, .int p2), (4, .int p3), (5, .int p4)]) hx hb dX8_append_21 hl (by decide) rfl (fun ls hl => ?_)
    have L_23 : ∀ (n_23 : Nat) (v6_23 : Int32) (x_23 : MS) (H : Heap) (locs : List Loc) (ls : Array Slot), va_P G vwCl (wM c ax x_23) H → va_D A (wM c ax x_23) → va_S A s.heap H locs → lv_has ls 8 [(0, .ref (ax 0)), (1, .int p0), (2, .int p1), (3, .int p2), (4, .int p3), (5, .int p4), (6, .int v6_23)] → itr2 (f_X8_append_B23 p0 p1 p2 p3 p4) n_23 v6_23 x_23 = some (r, x_r) → W p l e (rm_X8_append) s m args below meth c1 H locs 0 0 Q (F0 m 23 ls []) := by
      intro n_23
      induction n_23 with
      | zero => intro v6_23 x_23 H locs ls hP hD hS hl hm; exact (itr2_0 hm).elim
      | succ n_23 ih_23 =>
        intro v6_23 x_23 H locs ls hP hD hS hl hm
        have hm := itr2_s hm
        unfold f_X8_append_B23 at hm
        refine lv_iload hx hb dX8_append_23 (lv_at hl 6 rfl) ?_
        refine lv_bipush (v := 20) hx hb dX8_append_25 (by decide) ?_
        refine lv_icmp_ge (tgt := 120) hx hb dX8_append_27 (by decide) (fun c_27 => ?_) (fun c_27 => ?_)
        · have hm := ifp c_27 hm
          refine lv_aload_n hx hb dX8_append_120 rfl (lv_at hl 0 rfl) ?_
          refine va_get (D := G) (ci := 8) (v := .int (x_23.1.1 1)) (C := RX8) (T := TX8) (N := 22) hx hb hts hi_8 hown hK hP 0 rfl rfl 2 (by decide) (hts (.fieldLink RX8 77 "HubTrainsModel" "bufferLength" "I") (List.mem_of_getElem? (i := 2) rfl)) (fun _ h9 => h9) rfl dX8_append_121 ?_
          exact hend H locs ls _ _ _ rfl (Prod.mk.inj (Option.some.inj hm)).1 (zc1 (fun (z0 : MS) => (wM c ax z0 : va_W)) (Prod.mk.inj (Option.some.inj hm)).2) hP hD hS dX8_append_124
        · have hm := ifn c_27 hm
          refine lv_iload hx hb dX8_append_30 (lv_at hl 6 rfl) ?_
          refine lv_iconst (v := 4) hx hb dX8_append_32 (by decide) ?_
          have J_76 : ∀ (s0_76 : Int32) (H : Heap) (locs : List Loc) (ls : Array Slot), va_P G vwCl (wM c ax x_23) H → va_D A (wM c ax x_23) → va_S A s.heap H locs → lv_has ls 8 [(0, .ref (ax 0)), (1, .int p0), (2, .int p1), (3, .int p2), (4, .int p3), (5, .int p4), (6, .int v6_23)] → f_X8_append_J76 (itr2 (f_X8_append_B23 p0 p1 p2 p3 p4) n_23) v6_23 x_23 s0_76 = some (r, x_r) → W p l e (rm_X8_append) s m args below meth c1 H locs 0 0 Q (F0 m 76 ls [.int s0_76]) := by
            intro s0_76 H locs ls hP hD hS hl hm
            unfold f_X8_append_J76 at hm
            refine lv_istore (lv' := [(7, .int s0_76), (0, .ref (ax 0)), (1, .int p0), (2, .int p1), (3, .int p2), (4, .int p3), (5, .int p4), (6, .int v6_23)]) hx hb dX8_append_76 hl (by decide) rfl (fun ls hl => ?_)
            refine lv_aload_n hx hb dX8_append_78 rfl (lv_at hl 1 rfl) ?_
            refine va_get (D := G) (ci := 8) (v := .ref (ax 1)) (C := RX8) (T := TX8) (N := 22) hx hb hts hi_8 hown hK hP 0 rfl rfl 1 (by decide) (hts (.fieldLink RX8 9 "HubTrainsModel" "buffer" "[I") (List.mem_of_getElem? (i := 3) rfl)) (fun _ h9 => h9) rfl dX8_append_79 ?_
            refine lv_aload_n hx hb dX8_append_82 rfl (lv_at hl 1 rfl) ?_
            refine va_get (D := G) (ci := 8) (v := .int (x_23.1.1 1)) (C := RX8) (T := TX8) (N := 22) hx hb hts hi_8 hown hK hP 0 rfl rfl 2 (by decide) (hts (.fieldLink RX8 77 "HubTrainsModel" "bufferLength" "I") (List.mem_of_getElem? (i := 2) rfl)) (fun _ h9 => h9) rfl dX8_append_83 ?_
            refine lv_iload hx hb dX8_append_86 (lv_at hl 0 rfl) ?_
            refine lv_bipush (v := 24) hx hb dX8_append_88 (by decide) ?_
            refine lv_bipush (v := 8) hx hb dX8_append_90 (by decide) ?_
            refine lv_iload hx hb dX8_append_92 (lv_at hl 7 rfl) ?_
            refine lv_iconst (v := 4) hx hb dX8_append_94 (by decide) ?_
            refine lv_irem hx hb dX8_append_95 (by decide) ?_
            refine lv_imul hx hb dX8_append_96 ?_
            refine lv_isub hx hb dX8_append_97 ?_
            refine lv_ishr hx hb dX8_append_98 ?_
            refine lv_sipush (v := 255) hx hb dX8_append_99 (by decide) ?_
            refine lv_iand hx hb dX8_append_102 ?_
            obtain ⟨h_103, hm⟩ := gd_s hm
            refine va_iast (D := G) hx hb hK hP hD hS 1 0 rfl rfl (inb_s h_103) dX8_append_103 (fun H locs hP hD hS => ?_)
            obtain ⟨w103, e_w103⟩ : ∃ z : Nat → Int32, z = upd (x_23.1.2 0) (x_23.1.1 1).toNatClampNeg ((s0_76 >>> ((24 - (8 * (v6_23 - v6_23 / 4 * 4))) &&& 31)) &&& 255) := ⟨_, rfl⟩
            have hP : va_P G vwCl (wM c ax ((sa x_23.1 0 w103), x_23.2)) H := by rw [e_w103]; exact hP
            have hD : va_D A (wM c ax ((sa x_23.1 0 w103), x_23.2)) := by rw [e_w103]; exact hD
            have hm := nmd_s hm w103 e_w103
            refine lv_aload_n hx hb dX8_append_104 rfl (lv_at hl 1 rfl) ?_
            refine lv_dup hx hb dX8_append_105 rfl ?_
            refine va_get (D := G) (ci := 8) (v := .int (x_23.1.1 1)) (C := RX8) (T := TX8) (N := 22) hx hb hts hi_8 hown hK hP 0 rfl rfl 2 (by decide) (hts (.fieldLink RX8 77 "HubTrainsModel" "bufferLength" "I") (List.mem_of_getElem? (i := 2) rfl)) (fun _ h9 => h9) rfl dX8_append_106 ?_
            refine lv_iconst (v := 1) hx hb dX8_append_109 (by decide) ?_
            refine lv_iadd hx hb dX8_append_110 ?_
            refine va_put (D := G) (ci := 8) (v := .int ((x_23.1.1 1) + 1)) (C := RX8) (T := TX8) (N := 22) hx hb hts hi_8 tyX8 tyX8_ok nmX8 hown hK hP hD hS 0 rfl rfl 2 (by decide) (hts (.fieldLink RX8 77 "HubTrainsModel" "bufferLength" "I") (List.mem_of_getElem? (i := 2) rfl)) (fun _ h9 => h9) rfl (tyX8_ok 2 (by decide)) rfl rfl (Nat.le_of_ble_eq_true rfl) dX8_append_111 (fun H locs hP hD hS => ?_)
            have hP : va_P G vwCl (wM c ax ((sa (ss x_23.1 1 ((x_23.1.1 1) + 1)) 0 w103), x_23.2)) H := hP
            have hD : va_D A (wM c ax ((sa (ss x_23.1 1 ((x_23.1.1 1) + 1)) 0 w103), x_23.2)) := hD
            refine lv_iinc (k := 7) (v := (v6_23 + 1)) (lv' := [(6, .int (v6_23 + 1)), (7, .int s0_76), (0, .ref (ax 0)), (1, .int p0), (2, .int p1), (3, .int p2), (4, .int p3), (5, .int p4)]) hx hb dX8_append_114 hl rfl rfl (by decide) rfl (fun ls hl => ?_)
            refine lv_goto (tgt := 23) hx hb dX8_append_117 (by decide) ?_
            exact ih_23 (v6_23 + 1) ((sa (ss x_23.1 1 ((x_23.1.1 1) + 1)) 0 w103), x_23.2) H locs ls hP hD hS (lv_sub hl [2, 3, 4, 5, 6, 7, 0] rfl) hm
          refine lv_icmp_ge (tgt := 40) hx hb dX8_append_33 (by decide) (fun c_33 => ?_) (fun c_33 => ?_)
          · have hm := ifp c_33 hm
            refine lv_iload hx hb dX8_append_40 (lv_at hl 6 rfl) ?_
            refine lv_bipush (v := 8) hx hb dX8_append_42 (by decide) ?_
            refine lv_icmp_ge (tgt := 51) hx hb dX8_append_44 (by decide) (fun c_44 => ?_) (fun c_44 => ?_)
            · have hm := ifp c_44 hm
              refine lv_iload hx hb dX8_append_51 (lv_at hl 6 rfl) ?_
              refine lv_bipush (v := 12) hx hb dX8_append_53 (by decide) ?_
              refine lv_icmp_ge (tgt := 62) hx hb dX8_append_55 (by decide) (fun c_55 => ?_) (fun c_55 => ?_)
              · have hm := ifp c_55 hm
                refine lv_iload hx hb dX8_append_62 (lv_at hl 6 rfl) ?_
                refine lv_bipush (v := 16) hx hb dX8_append_64 (by decide) ?_
                refine lv_icmp_ge (tgt := 74) hx hb dX8_append_66 (by decide) (fun c_66 => ?_) (fun c_66 => ?_)
                · have hm := ifp c_66 hm
                  refine lv_iload hx hb dX8_append_74 (lv_at hl 5 rfl) ?_
                  exact J_76 p4 H locs ls hP hD hS (lv_sub hl [0, 1, 2, 3, 4, 5, 6] rfl) hm
                · have hm := ifn c_66 hm
                  refine lv_iload hx hb dX8_append_69 (lv_at hl 4 rfl) ?_
                  refine lv_goto (tgt := 76) hx hb dX8_append_71 (by decide) ?_
                  exact J_76 p3 H locs ls hP hD hS (lv_sub hl [0, 1, 2, 3, 4, 5, 6] rfl) hm
              · have hm := ifn c_55 hm
                refine lv_iload_n hx hb dX8_append_58 rfl (lv_at hl 3 rfl) ?_
                refine lv_goto (tgt := 76) hx hb dX8_append_59 (by decide) ?_
                exact J_76 p2 H locs ls hP hD hS (lv_sub hl [0, 1, 2, 3, 4, 5, 6] rfl) hm
            · have hm := ifn c_44 hm
              refine lv_iload_n hx hb dX8_append_47 rfl (lv_at hl 2 rfl) ?_
              refine lv_goto (tgt := 76) hx hb dX8_append_48 (by decide) ?_
              exact J_76 p1 H locs ls hP hD hS (lv_sub hl [0, 1, 2, 3, 4, 5, 6] rfl) hm
          · have hm := ifn c_33 hm
            refine lv_iload_n hx hb dX8_append_36 rfl (lv_at hl 1 rfl) ?_
            refine lv_goto (tgt := 76) hx hb dX8_append_37 (by decide) ?_
            exact J_76 p0 H locs ls hP hD hS (lv_sub hl [0, 1, 2, 3, 4, 5, 6] rfl) hm
    exact L_23 FUEL 0 ((ss x.1 0 0), x.2) H locs ls hP hD hS (lv_sub hl [1, 2, 3, 4, 5, 6, 0] rfl) hm
  · have hm := ifn c_15 hm
    refine lv_iconst (v := (-1)) hx hb dX8_append_18 (by decide) ?_
    exact hend H locs ls _ _ _ rfl (Prod.mk.inj (Option.some.inj hm)).1 (zc1 (fun (z0 : MS) => (wM c ax z0 : va_W)) (Prod.mk.inj (Option.some.inj hm)).2) hP hD hS dX8_append_19


def f_X8_byteAt (x : MS) (p0 : Int32) : Option Int32 :=
  if (x.1.1 2) ≤ p0 then (some ((-1))) else (gd (inb p0 500) <| some (((x.1.2 0) p0.toNatClampNeg)))

abbrev rm_X8_byteAt : Room := { frames := 0, cells := 0, slots := 0, locals := 0 }
theorem hd_X8_byteAt : yX8_byteAt.cls = RX8 ∧ yX8_byteAt.cls ≠ "java/lang/invoke/MethodHandle" ∧ yX8_byteAt.cls ≠ "java/lang/invoke/VarHandle" ∧ (parseMethodDescriptor yX8_byteAt.desc).map (fun d => d.parameters.length) = some 1 := by decide +kernel
set_option maxHeartbeats 4000000 in
set_option maxRecDepth 100000 in
theorem k_X8_byteAt (l : Launch) (G : va_G) (K : (Nat → Nat) × (Nat → Nat)) (c : Nat → ClassId) (ax : Nat → Nat) (x : MS) (p0 : Int32) (r : Int32) (hm : f_X8_byteAt x p0 = some (r)) : zMi l yX8_byteAt wsX8_byteAt (rm_X8_byteAt) G K (TY c) [.ref (ax 0), .int p0] (wM c ax x) (wM c ax x) r := by
  refine zMi.of (cc := cX8_byteAt) (maxL := 2) (lv := [(0, .ref (ax 0)), (1, .int p0)]) (by decide) rfl (Nat.le_of_ble_eq_true rfl) rfl ?_
  intro p e s m args below meth c1 A Q H locs hx hb hml hown hts hK hN hZ hP hD hA hS hend ls hl
  have hown : s.vm.findClass RX8 = some m.cls := hown
  have hi_8 : ∀ w ∈ wsX80, w ∈ wsX8_byteAt := (fun w h => List.mem_cons_of_mem _ (List.mem_append_right _ (h)))
  unfold f_X8_byteAt at hm
  refine lv_iload_n hx hb dX8_byteAt_0 rfl (lv_at hl 1 rfl) ?_
  refine lv_aload_n hx hb dX8_byteAt_1 rfl (lv_at hl 0 rfl) ?_
  refine va_get (D := G) (ci := 8) (v := .int (x.1.1 2)) (C := RX8) (T := TX8) (N := 22) hx hb hts hi_8 hown hK hP 0 rfl rfl 3 (by decide) (hts (.fieldLink RX8 80 "HubTrainsModel" "textLength" "I") (List.mem_of_getElem? (i := 1) rfl)) (fun _ h9 => h9) rfl dX8_byteAt_2 ?_
  refine lv_icmp_ge (tgt := 17) hx hb dX8_byteAt_5 (by decide) (fun c_5 => ?_) (fun c_5 => ?_)
  · have hm := ifp c_5 hm
    refine lv_iconst (v := (-1)) hx hb dX8_byteAt_17 (by decide) ?_
    exact hend H locs ls _ _ _ rfl (Option.some.inj hm) rfl hP hD hS dX8_byteAt_18
  · have hm := ifn c_5 hm
    refine lv_aload_n hx hb dX8_byteAt_8 rfl (lv_at hl 0 rfl) ?_
    refine va_get (D := G) (ci := 8) (v := .ref (ax 1)) (C := RX8) (T := TX8) (N := 22) hx hb hts hi_8 hown hK hP 0 rfl rfl 1 (by decide) (hts (.fieldLink RX8 9 "HubTrainsModel" "buffer" "[I") (List.mem_of_getElem? (i := 2) rfl)) (fun _ h9 => h9) rfl dX8_byteAt_9 ?_
    refine lv_iload_n hx hb dX8_byteAt_12 rfl (lv_at hl 1 rfl) ?_
    obtain ⟨h_13, hm⟩ := gd_s hm
    refine va_iald (D := G) hx hb hK hP 1 0 rfl rfl (inb_s h_13) dX8_byteAt_13 ?_
    refine lv_goto (tgt := 18) hx hb dX8_byteAt_14 (by decide) ?_
    exact hend H locs ls _ _ _ rfl (Option.some.inj hm) rfl hP hD hS dX8_byteAt_18

def f_X8_ahead_B0  (rec_0 : MS → Option (Int32 × MS)) (x_0 : MS) : Option (Int32 × MS) :=
  bd1 (f_X8_byteAt x_0 (x_0.1.1 3)) fun (r5 : Int32) => if r5 = 32 then (rec_0 ((ss x_0.1 3 ((x_0.1.1 3) + 1)), x_0.2)) else (bd1 (f_X8_byteAt x_0 (x_0.1.1 3)) fun (r31 : Int32) => some (r31, x_0))

def f_X8_ahead (x : MS) : Option (Int32 × MS) :=
  itr1 f_X8_ahead_B0 FUEL x

abbrev rm_X8_ahead : Room := { frames := 1, cells := 0, slots := 0, locals := 21 }
theorem hd_X8_ahead : yX8_ahead.cls = RX8 ∧ yX8_ahead.cls ≠ "java/lang/invoke/MethodHandle" ∧ yX8_ahead.cls ≠ "java/lang/invoke/VarHandle" ∧ (parseMethodDescriptor yX8_ahead.desc).map (fun d => d.parameters.length) = some 0 := by decide +kernel
set_option maxHeartbeats 4000000 in
set_option maxRecDepth 100000 in
theorem k_X8_ahead (l : Launch) (G : va_G) (K : (Nat → Nat) × (Nat → Nat)) (c : Nat → ClassId) (ax : Nat → Nat) (x : MS) (r : Int32) (x_r : MS) (hm : f_X8_ahead x = some (r, x_r)) : zMi l yX8_ahead wsX8_ahead (rm_X8_ahead) G K (TY c) [.ref (ax 0)] (wM c ax x) (wM c ax x_r) r := by
  refine zMi.of (cc := cX8_ahead) (maxL := 1) (lv := [(0, .ref (ax 0))]) (by decide) rfl (Nat.le_of_ble_eq_true rfl) rfl ?_
  intro p e s m args below meth c1 A Q H locs hx hb hml hown hts hK hN hZ hP hD hA hS hend ls hl
  have hown : s.vm.findClass RX8 = some m.cls := hown
  have hi_8 : ∀ w ∈ wsX80, w ∈ wsX8_ahead := (fun w h => List.mem_cons_of_mem _ (List.mem_append_right _ (h)))
  unfold f_X8_ahead at hm
  have L_0 : ∀ (n_0 : Nat) (x_0 : MS) (H : Heap) (locs : List Loc) (ls : Array Slot), va_P G vwCl (wM c ax x_0) H → va_D A (wM c ax x_0) → va_S A s.heap H locs → lv_has ls 1 [(0, .ref (ax 0))] → itr1 f_X8_ahead_B0 n_0 x_0 = some (r, x_r) → W p l e (rm_X8_ahead) s m args below meth c1 H locs 0 0 Q (F0 m 0 ls []) := by
    intro n_0
    induction n_0 with
    | zero => intro x_0 H locs ls hP hD hS hl hm; exact (itr1_0 hm).elim
    | succ n_0 ih_0 =>
      intro x_0 H locs ls hP hD hS hl hm
      have hm := itr1_s hm
      unfold f_X8_ahead_B0 at hm
      refine lv_aload_n hx hb dX8_ahead_0 rfl (lv_at hl 0 rfl) ?_
      refine lv_aload_n hx hb dX8_ahead_1 rfl (lv_at hl 0 rfl) ?_
      refine va_get (D := G) (ci := 8) (v := .int (x_0.1.1 3)) (C := RX8) (T := TX8) (N := 22) hx hb hts hi_8 hown hK hP 0 rfl rfl 4 (by decide) (hts (.fieldLink RX8 83 "HubTrainsModel" "position" "I") (List.mem_of_getElem? (i := 1) rfl)) (fun _ h9 => h9) rfl dX8_ahead_2 ?_
      obtain ⟨r5, e_5, hm⟩ := bd1_s hm
      refine zcWi (As := [.int (x_0.1.1 3)]) (rest := []) ⟨hx, hb, hml, hown, hts⟩ (k_X8_byteAt l G K c ax x_0 (x_0.1.1 3) r5 e_5) (cwV 1 hts gX8_ahead_X8_byteAt rfl rfl rfl hd_X8_byteAt ⟨Nat.le_of_ble_eq_true rfl, Nat.le_of_ble_eq_true rfl⟩) hK hN hZ hP hD hS hA (va_recv hK hP (ci := 8) (q0 := 0) rfl rfl) rfl hl.1 rfl (Nat.le_of_ble_eq_true rfl) dX8_ahead_5 ⟨Nat.zero_le _, Nat.zero_le _⟩ (fun H locs hP hD hS => ?_)
      have hP : va_P G vwCl (wM c ax x_0) H := hP
      have hD : va_D A (wM c ax x_0) := hD
      refine lv_bipush (v := 32) hx hb dX8_ahead_8 (by decide) ?_
      refine lv_icmp_ne (tgt := 26) hx hb dX8_ahead_10 (by decide) (fun c_10 => ?_) (fun c_10 => ?_)
      · have hm := ifn c_10 hm
        refine lv_aload_n hx hb dX8_ahead_26 rfl (lv_at hl 0 rfl) ?_
        refine lv_aload_n hx hb dX8_ahead_27 rfl (lv_at hl 0 rfl) ?_
        refine va_get (D := G) (ci := 8) (v := .int (x_0.1.1 3)) (C := RX8) (T := TX8) (N := 22) hx hb hts hi_8 hown hK hP 0 rfl rfl 4 (by decide) (hts (.fieldLink RX8 83 "HubTrainsModel" "position" "I") (List.mem_of_getElem? (i := 1) rfl)) (fun _ h9 => h9) rfl dX8_ahead_28 ?_
        obtain ⟨r31, e_31, hm⟩ := bd1_s hm
        refine zcWi (As := [.int (x_0.1.1 3)]) (rest := []) ⟨hx, hb, hml, hown, hts⟩ (k_X8_byteAt l G K c ax x_0 (x_0.1.1 3) r31 e_31) (cwV 1 hts gX8_ahead_X8_byteAt rfl rfl rfl hd_X8_byteAt ⟨Nat.le_of_ble_eq_true rfl, Nat.le_of_ble_eq_true rfl⟩) hK hN hZ hP hD hS hA (va_recv hK hP (ci := 8) (q0 := 0) rfl rfl) rfl hl.1 rfl (Nat.le_of_ble_eq_true rfl) dX8_ahead_31 ⟨Nat.zero_le _, Nat.zero_le _⟩ (fun H locs hP hD hS => ?_)
        have hP : va_P G vwCl (wM c ax x_0) H := hP
        have hD : va_D A (wM c ax x_0) := hD
        exact hend H locs ls _ _ _ rfl (Prod.mk.inj (Option.some.inj hm)).1 (zc1 (fun (z0 : MS) => (wM c ax z0 : va_W)) (Prod.mk.inj (Option.some.inj hm)).2) hP hD hS dX8_ahead_34
      · have hm := ifp c_10 hm
        refine lv_aload_n hx hb dX8_ahead_13 rfl (lv_at hl 0 rfl) ?_
        refine lv_dup hx hb dX8_ahead_14 rfl ?_
        refine va_get (D := G) (ci := 8) (v := .int (x_0.1.1 3)) (C := RX8) (T := TX8) (N := 22) hx hb hts hi_8 hown hK hP 0 rfl rfl 4 (by decide) (hts (.fieldLink RX8 83 "HubTrainsModel" "position" "I") (List.mem_of_getElem? (i := 1) rfl)) (fun _ h9 => h9) rfl dX8_ahead_15 ?_
        refine lv_iconst (v := 1) hx hb dX8_ahead_18 (by decide) ?_
        refine lv_iadd hx hb dX8_ahead_19 ?_
        refine va_put (D := G) (ci := 8) (v := .int ((x_0.1.1 3) + 1)) (C := RX8) (T := TX8) (N := 22) hx hb hts hi_8 tyX8 tyX8_ok nmX8 hown hK hP hD hS 0 rfl rfl 4 (by decide) (hts (.fieldLink RX8 83 "HubTrainsModel" "position" "I") (List.mem_of_getElem? (i := 1) rfl)) (fun _ h9 => h9) rfl (tyX8_ok 4 (by decide)) rfl rfl (Nat.le_of_ble_eq_true rfl) dX8_ahead_20 (fun H locs hP hD hS => ?_)
        have hP : va_P G vwCl (wM c ax ((ss x_0.1 3 ((x_0.1.1 3) + 1)), x_0.2)) H := hP
        have hD : va_D A (wM c ax ((ss x_0.1 3 ((x_0.1.1 3) + 1)), x_0.2)) := hD
        refine lv_goto (tgt := 0) hx hb dX8_ahead_23 (by decide) ?_
        exact ih_0 ((ss x_0.1 3 ((x_0.1.1 3) + 1)), x_0.2) H locs ls hP hD hS (lv_sub hl [0] rfl) hm
  exact L_0 FUEL x H locs ls hP hD hS (lv_sub hl [0] rfl) hm


def f_X8_isGood (x : MS) : Option Int32 :=
  if (x.1.1 4) = 0 then (some (1)) else (some (0))

abbrev rm_X8_isGood : Room := { frames := 0, cells := 0, slots := 0, locals := 0 }
theorem hd_X8_isGood : yX8_isGood.cls = RX8 ∧ yX8_isGood.cls ≠ "java/lang/invoke/MethodHandle" ∧ yX8_isGood.cls ≠ "java/lang/invoke/VarHandle" ∧ (parseMethodDescriptor yX8_isGood.desc).map (fun d => d.parameters.length) = some 0 := by decide +kernel
set_option maxHeartbeats 4000000 in
set_option maxRecDepth 100000 in
theorem k_X8_isGood (l : Launch) (G : va_G) (K : (Nat → Nat) × (Nat → Nat)) (c : Nat → ClassId) (ax : Nat → Nat) (x : MS) (r : Int32) (hm : f_X8_isGood x = some (r)) : zMi l yX8_isGood wsX8_isGood (rm_X8_isGood) G K (TY c) [.ref (ax 0)] (wM c ax x) (wM c ax x) r := by
  refine zMi.of (cc := cX8_isGood) (maxL := 1) (lv := [(0, .ref (ax 0))]) (by decide) rfl (Nat.le_of_ble_eq_true rfl) rfl ?_
  intro p e s m args below meth c1 A Q H locs hx hb hml hown hts hK hN hZ hP hD hA hS hend ls hl
  have hown : s.vm.findClass RX8 = some m.cls := hown
  have hi_8 : ∀ w ∈ wsX80, w ∈ wsX8_isGood := (fun w h => List.mem_cons_of_mem _ (List.mem_append_right _ (h)))
  unfold f_X8_isGood at hm
  refine lv_aload_n hx hb dX8_isGood_0 rfl (lv_at hl 0 rfl) ?_
  refine va_get (D := G) (ci := 8) (v := .int (x.1.1 4)) (C := RX8) (T := TX8) (N := 22) hx hb hts hi_8 hown hK hP 0 rfl rfl 5 (by decide) (hts (.fieldLink RX8 89 "HubTrainsModel" "error" "I") (List.mem_of_getElem? (i := 1) rfl)) (fun _ h9 => h9) rfl dX8_isGood_1 ?_
  refine lv_if_ne (tgt := 11) hx hb dX8_isGood_4 (by decide) (fun c_4 => ?_) (fun c_4 => ?_)
  · have hm := ifn c_4 hm
    refine lv_iconst (v := 0) hx hb dX8_isGood_11 (by decide) ?_
    exact hend H locs ls _ _ _ (by decide) (Option.some.inj hm) rfl hP hD hS dX8_isGood_12
  · have hm := ifp c_4 hm
    refine lv_iconst (v := 1) hx hb dX8_isGood_7 (by decide) ?_
    refine lv_goto (tgt := 12) hx hb dX8_isGood_8 (by decide) ?_
    exact hend H locs ls _ _ _ (by decide) (Option.some.inj hm) rfl hP hD hS dX8_isGood_12


def f_X8_report (x : MS) (p0 : Int32) (p1 : Int32) : Option MS :=
  if (x.1.1 4) = 0 then (some (((ss (ss x.1 4 p0) 5 p1), x.2))) else (some (x))

abbrev rm_X8_report : Room := { frames := 0, cells := 0, slots := 0, locals := 0 }
theorem hd_X8_report : yX8_report.cls = RX8 ∧ yX8_report.cls ≠ "java/lang/invoke/MethodHandle" ∧ yX8_report.cls ≠ "java/lang/invoke/VarHandle" ∧ (parseMethodDescriptor yX8_report.desc).map (fun d => d.parameters.length) = some 2 := by decide +kernel
set_option maxHeartbeats 4000000 in
set_option maxRecDepth 100000 in
theorem k_X8_report (l : Launch) (G : va_G) (K : (Nat → Nat) × (Nat → Nat)) (c : Nat → ClassId) (ax : Nat → Nat) (x : MS) (p0 : Int32) (p1 : Int32) (x_r : MS) (hm : f_X8_report x p0 p1 = some (x_r)) : zMv l yX8_report wsX8_report (rm_X8_report) G K (TY c) [.ref (ax 0), .int p0, .int p1] (wM c ax x) (wM c ax x_r) := by
  refine zMv.of (cc := cX8_report) (maxL := 3) (lv := [(0, .ref (ax 0)), (1, .int p0), (2, .int p1)]) (by decide) rfl (Nat.le_of_ble_eq_true rfl) rfl ?_
  intro p e s m args below meth c1 A Q H locs hx hb hml hown hts hK hN hZ hP hD hA hS hend ls hl
  have hown : s.vm.findClass RX8 = some m.cls := hown
  have hi_8 : ∀ w ∈ wsX80, w ∈ wsX8_report := (fun w h => List.mem_cons_of_mem _ (List.mem_append_right _ (h)))
  unfold f_X8_report at hm
  refine lv_aload_n hx hb dX8_report_0 rfl (lv_at hl 0 rfl) ?_
  refine va_get (D := G) (ci := 8) (v := .int (x.1.1 4)) (C := RX8) (T := TX8) (N := 22) hx hb hts hi_8 hown hK hP 0 rfl rfl 5 (by decide) (hts (.fieldLink RX8 89 "HubTrainsModel" "error" "I") (List.mem_of_getElem? (i := 1) rfl)) (fun _ h9 => h9) rfl dX8_report_1 ?_
  refine lv_if_eq (tgt := 8) hx hb dX8_report_4 (by decide) (fun c_4 => ?_) (fun c_4 => ?_)
  · have hm := ifp c_4 hm
    refine lv_aload_n hx hb dX8_report_8 rfl (lv_at hl 0 rfl) ?_
    refine lv_iload_n hx hb dX8_report_9 rfl (lv_at hl 1 rfl) ?_
    refine va_put (D := G) (ci := 8) (v := .int p0) (C := RX8) (T := TX8) (N := 22) hx hb hts hi_8 tyX8 tyX8_ok nmX8 hown hK hP hD hS 0 rfl rfl 5 (by decide) (hts (.fieldLink RX8 89 "HubTrainsModel" "error" "I") (List.mem_of_getElem? (i := 1) rfl)) (fun _ h9 => h9) rfl (tyX8_ok 5 (by decide)) rfl rfl (Nat.le_of_ble_eq_true rfl) dX8_report_10 (fun H locs hP hD hS => ?_)
    have hP : va_P G vwCl (wM c ax ((ss x.1 4 p0), x.2)) H := hP
    have hD : va_D A (wM c ax ((ss x.1 4 p0), x.2)) := hD
    refine lv_aload_n hx hb dX8_report_13 rfl (lv_at hl 0 rfl) ?_
    refine lv_iload_n hx hb dX8_report_14 rfl (lv_at hl 2 rfl) ?_
    refine va_put (D := G) (ci := 8) (v := .int p1) (C := RX8) (T := TX8) (N := 22) hx hb hts hi_8 tyX8 tyX8_ok nmX8 hown hK hP hD hS 0 rfl rfl 6 (by decide) (hts (.fieldLink RX8 92 "HubTrainsModel" "errorAt" "I") (List.mem_of_getElem? (i := 2) rfl)) (fun _ h9 => h9) rfl (tyX8_ok 6 (by decide)) rfl rfl (Nat.le_of_ble_eq_true rfl) dX8_report_15 (fun H locs hP hD hS => ?_)
    have hP : va_P G vwCl (wM c ax ((ss (ss x.1 4 p0) 5 p1), x.2)) H := hP
    have hD : va_D A (wM c ax ((ss (ss x.1 4 p0) 5 p1), x.2)) := hD
    exact hend H locs ls _ _ (zc1 (fun (z0 : MS) => (wM c ax z0 : va_W)) (Option.some.inj hm)) hP hD hS dX8_report_18
  · have hm := ifn c_4 hm
    exact hend H locs ls _ _ (zc1 (fun (z0 : MS) => (wM c ax z0 : va_W)) (Option.some.inj hm)) hP hD hS dX8_report_7


def f_X8_isDigit (p0 : Int32) : Option Int32 :=
  bd1 (f_X8_in p0 48 57) fun (r5 : Int32) => gd (isb r5) <| some (r5)

abbrev rm_X8_isDigit : Room := { frames := 1, cells := 0, slots := 0, locals := 22 }
theorem hd_X8_isDigit : yX8_isDigit.cls = RX8 ∧ yX8_isDigit.cls ≠ "java/lang/invoke/MethodHandle" ∧ yX8_isDigit.cls ≠ "java/lang/invoke/VarHandle" ∧ (parseMethodDescriptor yX8_isDigit.desc).map (fun d => d.parameters.length) = some 1 := by decide +kernel
set_option maxHeartbeats 4000000 in
set_option maxRecDepth 100000 in
theorem k_X8_isDigit (l : Launch) (G : va_G) (K : (Nat → Nat) × (Nat → Nat)) (c : Nat → ClassId) (p0 : Int32) (r : Int32) (hm : f_X8_isDigit p0 = some (r)) : zMi l yX8_isDigit wsX8_isDigit (rm_X8_isDigit) G K (TY c) [.int p0] ([]) ([]) r := by
  refine zMi.of (cc := cX8_isDigit) (maxL := 1) (lv := [(0, .int p0)]) (by decide) rfl (Nat.le_of_ble_eq_true rfl) rfl ?_
  intro p e s m args below meth c1 A Q H locs hx hb hml hown hts hK hN hZ hP hD hA hS hend ls hl
  have hown : s.vm.findClass RX8 = some m.cls := hown
  unfold f_X8_isDigit at hm
  refine lv_iload_n hx hb dX8_isDigit_0 rfl (lv_at hl 0 rfl) ?_
  refine lv_bipush (v := 48) hx hb dX8_isDigit_1 (by decide) ?_
  refine lv_bipush (v := 57) hx hb dX8_isDigit_3 (by decide) ?_
  obtain ⟨r5, e_5, hm⟩ := bd1_s hm
  refine zcSi (As := [.int p0, .int 48, .int 57]) (rest := []) ⟨hx, hb, hml, hown, hts⟩ (k_X8_in l G K c p0 48 57 r5 e_5) (va_cwS 3 hts gX8_isDigit_X8_in rfl rfl rfl hd_X8_in.2 ⟨Nat.le_of_ble_eq_true rfl, Nat.le_of_ble_eq_true rfl⟩) hK hN hZ hP hD hS hA [] rfl (by decide) rfl rfl hl.1 rfl (Nat.le_of_ble_eq_true rfl) dX8_isDigit_5 ⟨Nat.zero_le _, Nat.zero_le _⟩ (fun H locs hP hD hS => ?_)
  have hP : va_P G vwCl ([]) H := hP
  have hD : va_D A ([]) := hD
  obtain ⟨h_8, hm⟩ := gd_s hm
  exact hend H locs ls _ _ _ (isb_n h_8) (Option.some.inj hm) rfl hP hD hS dX8_isDigit_8

def f_X8_takeWord_J48 (p0 : Nat) (x10 : MS) (v2_16 : Int32) : Option (Int32 × MS) :=
  gd (decide (p0 < 10)) <| if v2_16 < (slen p0) then (some (0, x10)) else (bd1 (f_X8_byteAt x10 ((x10.1.1 3) + v2_16)) fun (r63 : Int32) => bd1 (f_X8_in r63 97 122) fun (r70 : Int32) => if r70 = 0 then (some (1, ((ss x10.1 3 ((x10.1.1 3) + v2_16)), x10.2))) else (some (0, x10)))

def f_X8_takeWord_B16 (p0 : Nat) (x10 : MS) (rec_16 : Int32 → Option (Int32 × MS)) (v2_16 : Int32) : Option (Int32 × MS) :=
  gd (decide (p0 < 10)) <| if (slen p0) ≤ v2_16 then (f_X8_takeWord_J48 p0 x10 v2_16) else (bd1 (f_X8_byteAt x10 ((x10.1.1 3) + v2_16)) fun (r31 : Int32) => gd (scg p0 v2_16) <| if r31 = (schr p0 v2_16) then (rec_16 (v2_16 + 1)) else (f_X8_takeWord_J48 p0 x10 v2_16))

def f_X8_takeWord (x : MS) (p0 : Nat) : Option (Int32 × MS) :=
  bd1 (f_X8_isGood x) fun (r1 : Int32) => if r1 = 0 then (some (0, x)) else (bd2 (f_X8_ahead x) fun (r10 : Int32) (x10 : MS) => itr1 (f_X8_takeWord_B16 p0 x10) FUEL 0)

abbrev rm_X8_takeWord : Room := { frames := 8, cells := 0, slots := 0, locals := 400 }
theorem hd_X8_takeWord : yX8_takeWord.cls = RX8 ∧ yX8_takeWord.cls ≠ "java/lang/invoke/MethodHandle" ∧ yX8_takeWord.cls ≠ "java/lang/invoke/VarHandle" ∧ (parseMethodDescriptor yX8_takeWord.desc).map (fun d => d.parameters.length) = some 1 := by decide +kernel
set_option maxHeartbeats 4000000 in
set_option maxRecDepth 100000 in
theorem k_X8_takeWord (l : Launch) (G : va_G) (K : (Nat → Nat) × (Nat → Nat)) (c : Nat → ClassId) (ax : Nat → Nat) (x : MS) (p0 : Nat) (r : Int32) (x_r : MS) (hm : f_X8_takeWord x p0 = some (r, x_r)) : zMi l yX8_takeWord wsX8_takeWord (rm_X8_takeWord) G K (TY c) [.ref (ax 0), .ref (K.1 p0)] (wM c ax x) (wM c ax x_r) r := by
  refine zMi.of (cc := cX8_takeWord) (maxL := 3) (lv := [(0, .ref (ax 0)), (1, .ref (K.1 p0))]) (by decide) rfl (Nat.le_of_ble_eq_true rfl) rfl ?_
  intro p e s m args below meth c1 A Q H locs hx hb hml hown hts hK hN hZ hP hD hA hS hend ls hl
  have hown : s.vm.findClass RX8 = some m.cls := hown
  have hi_8 : ∀ w ∈ wsX80, w ∈ wsX8_takeWord := (fun w h => List.mem_cons_of_mem _ (List.mem_append_right _ (h)))
  unfold f_X8_takeWord at hm
  refine lv_aload_n hx hb dX8_takeWord_0 rfl (lv_at hl 0 rfl) ?_
  obtain ⟨r1, e_1, hm⟩ := bd1_s hm
  refine zcWi (As := []) (rest := []) ⟨hx, hb, hml, hown, hts⟩ (k_X8_isGood l G K c ax x r1 e_1) (cwV 0 hts gX8_takeWord_X8_isGood rfl rfl rfl hd_X8_isGood ⟨Nat.le_of_ble_eq_true rfl, Nat.le_of_ble_eq_true rfl⟩) hK hN hZ hP hD hS hA (va_recv hK hP (ci := 8) (q0 := 0) rfl rfl) rfl hl.1 rfl (Nat.le_of_ble_eq_true rfl) dX8_takeWord_1 ⟨Nat.zero_le _, Nat.zero_le _⟩ (fun H locs hP hD hS => ?_)
  have hP : va_P G vwCl (wM c ax x) H := hP
  have hD : va_D A (wM c ax x) := hD
  refine lv_if_ne (tgt := 9) hx hb dX8_takeWord_4 (by decide) (fun c_4 => ?_) (fun c_4 => ?_)
  · have hm := ifn c_4 hm
    refine lv_aload_n hx hb dX8_takeWord_9 rfl (lv_at hl 0 rfl) ?_
    obtain ⟨r10, x10, e_10, hm⟩ := bd2_s hm
    refine zcWi (As := []) (rest := []) ⟨hx, hb, hml, hown, hts⟩ (k_X8_ahead l G K c ax x r10 x10 e_10) (cwV 0 hts gX8_takeWord_X8_ahead rfl rfl rfl hd_X8_ahead ⟨Nat.le_of_ble_eq_true rfl, Nat.le_of_ble_eq_true rfl⟩) hK hN hZ hP hD hS hA (va_recv hK hP (ci := 8) (q0 := 0) rfl rfl) rfl hl.1 rfl (Nat.le_of_ble_eq_true rfl) dX8_takeWord_10 ⟨Nat.zero_le _, Nat.zero_le _⟩ (fun H locs hP hD hS => ?_)
    have hP : va_P G vwCl (wM c ax x10) H := hP
    have hD : va_D A (wM c ax x10) := hD
    refine lv_pop hx hb dX8_takeWord_13 rfl ?_
    refine lv_iconst (v := 0) hx hb dX8_takeWord_14 (by decide) ?_
    refine lv_istore_n (lv' := [(2, .int 0), (0, .ref (ax 0)), (1, .ref (K.1 p0))]) hx hb dX8_takeWord_15 rfl hl (by decide) rfl (fun ls hl => ?_)
    have L_16 : ∀ (n_16 : Nat) (v2_16 : Int32) (H : Heap) (locs : List Loc) (ls : Array Slot), va_P G vwCl (wM c ax x10) H → va_D A (wM c ax x10) → va_S A s.heap H locs → lv_has ls 3 [(0, .ref (ax 0)), (1, .ref (K.1 p0)), (2, .int v2_16)] → itr1 (f_X8_takeWord_B16 p0 x10) n_16 v2_16 = some (r, x_r) → W p l e (rm_X8_takeWord) s m args below meth c1 H locs 0 0 Q (F0 m 16 ls []) := by
      intro n_16
      induction n_16 with
      | zero => intro v2_16 H locs ls hP hD hS hl hm; exact (itr1_0 hm).elim
      | succ n_16 ih_16 =>
        intro v2_16 H locs ls hP hD hS hl hm
        have hm := itr1_s hm
        unfold f_X8_takeWord_B16 at hm
        refine lv_iload_n hx hb dX8_takeWord_16 rfl (lv_at hl 2 rfl) ?_
        refine lv_aload_n hx hb dX8_takeWord_17 rfl (lv_at hl 1 rfl) ?_
        obtain ⟨h_18, hm⟩ := gd_s hm
        refine zcVi (As := []) (rest := [.int v2_16]) ⟨hx, hb, hml, hown, hts⟩ (k_strlen l G K c p0 h_18) (cwV 0 hts gX8_takeWord_J0_length_8abf5 rfl rfl rfl hd_J0_length_8abf5 ⟨Nat.le_of_ble_eq_true rfl, Nat.le_of_ble_eq_true rfl⟩) hK hN hZ hP hD hS hA (vk_recv hZ.1 (of_decide_eq_true h_18) hS) [] rfl rfl rfl rfl hl.1 rfl (Nat.le_of_ble_eq_true rfl) dX8_takeWord_18 ⟨Nat.zero_le _, Nat.zero_le _⟩ (fun H locs hP hD hS => ?_)
        have hP : va_P G vwCl (wM c ax x10) H := hP
        have hD : va_D A (wM c ax x10) := hD
        have J_48 : ∀ (H : Heap) (locs : List Loc) (ls : Array Slot), va_P G vwCl (wM c ax x10) H → va_D A (wM c ax x10) → va_S A s.heap H locs → lv_has ls 3 [(0, .ref (ax 0)), (1, .ref (K.1 p0)), (2, .int v2_16)] → f_X8_takeWord_J48 p0 x10 v2_16 = some (r, x_r) → W p l e (rm_X8_takeWord) s m args below meth c1 H locs 0 0 Q (F0 m 48 ls []) := by
          intro  H locs ls hP hD hS hl hm
          unfold f_X8_takeWord_J48 at hm
          refine lv_iload_n hx hb dX8_takeWord_48 rfl (lv_at hl 2 rfl) ?_
          refine lv_aload_n hx hb dX8_takeWord_49 rfl (lv_at hl 1 rfl) ?_
          obtain ⟨h_50, hm⟩ := gd_s hm
          refine zcVi (As := []) (rest := [.int v2_16]) ⟨hx, hb, hml, hown, hts⟩ (k_strlen l G K c p0 h_50) (cwV 0 hts gX8_takeWord_J0_length_8abf5 rfl rfl rfl hd_J0_length_8abf5 ⟨Nat.le_of_ble_eq_true rfl, Nat.le_of_ble_eq_true rfl⟩) hK hN hZ hP hD hS hA (vk_recv hZ.1 (of_decide_eq_true h_50) hS) [] rfl rfl rfl rfl hl.1 rfl (Nat.le_of_ble_eq_true rfl) dX8_takeWord_50 ⟨Nat.zero_le _, Nat.zero_le _⟩ (fun H locs hP hD hS => ?_)
          have hP : va_P G vwCl (wM c ax x10) H := hP
          have hD : va_D A (wM c ax x10) := hD
          refine lv_icmp_lt (tgt := 76) hx hb dX8_takeWord_53 (by decide) (fun c_53 => ?_) (fun c_53 => ?_)
          · have hm := ifp c_53 hm
            refine lv_iconst (v := 0) hx hb dX8_takeWord_76 (by decide) ?_
            exact hend H locs ls _ _ _ (by decide) (Prod.mk.inj (Option.some.inj hm)).1 (zc1 (fun (z0 : MS) => (wM c ax z0 : va_W)) (Prod.mk.inj (Option.some.inj hm)).2) hP hD hS dX8_takeWord_77
          · have hm := ifn c_53 hm
            refine lv_aload_n hx hb dX8_takeWord_56 rfl (lv_at hl 0 rfl) ?_
            refine lv_aload_n hx hb dX8_takeWord_57 rfl (lv_at hl 0 rfl) ?_
            refine va_get (D := G) (ci := 8) (v := .int (x10.1.1 3)) (C := RX8) (T := TX8) (N := 22) hx hb hts hi_8 hown hK hP 0 rfl rfl 4 (by decide) (hts (.fieldLink RX8 83 "HubTrainsModel" "position" "I") (List.mem_of_getElem? (i := 1) rfl)) (fun _ h9 => h9) rfl dX8_takeWord_58 ?_
            refine lv_iload_n hx hb dX8_takeWord_61 rfl (lv_at hl 2 rfl) ?_
            refine lv_iadd hx hb dX8_takeWord_62 ?_
            obtain ⟨r63, e_63, hm⟩ := bd1_s hm
            refine zcWi (As := [.int ((x10.1.1 3) + v2_16)]) (rest := []) ⟨hx, hb, hml, hown, hts⟩ (k_X8_byteAt l G K c ax x10 ((x10.1.1 3) + v2_16) r63 e_63) (cwV 1 hts gX8_takeWord_X8_byteAt rfl rfl rfl hd_X8_byteAt ⟨Nat.le_of_ble_eq_true rfl, Nat.le_of_ble_eq_true rfl⟩) hK hN hZ hP hD hS hA (va_recv hK hP (ci := 8) (q0 := 0) rfl rfl) rfl hl.1 rfl (Nat.le_of_ble_eq_true rfl) dX8_takeWord_63 ⟨Nat.zero_le _, Nat.zero_le _⟩ (fun H locs hP hD hS => ?_)
            have hP : va_P G vwCl (wM c ax x10) H := hP
            have hD : va_D A (wM c ax x10) := hD
            refine lv_bipush (v := 97) hx hb dX8_takeWord_66 (by decide) ?_
            refine lv_bipush (v := 122) hx hb dX8_takeWord_68 (by decide) ?_
            obtain ⟨r70, e_70, hm⟩ := bd1_s hm
            refine zcSi (As := [.int r63, .int 97, .int 122]) (rest := []) ⟨hx, hb, hml, hown, hts⟩ (k_X8_in l G K c r63 97 122 r70 e_70) (va_cwS 3 hts gX8_takeWord_X8_in rfl rfl rfl hd_X8_in.2 ⟨Nat.le_of_ble_eq_true rfl, Nat.le_of_ble_eq_true rfl⟩) hK hN hZ hP hD hS hA [] rfl (by decide) rfl rfl hl.1 rfl (Nat.le_of_ble_eq_true rfl) dX8_takeWord_70 ⟨Nat.zero_le _, Nat.zero_le _⟩ (fun H locs hP hD hS => ?_)
            have hP : va_P G vwCl (wM c ax x10) H := hP
            have hD : va_D A (wM c ax x10) := hD
            refine lv_if_eq (tgt := 78) hx hb dX8_takeWord_73 (by decide) (fun c_73 => ?_) (fun c_73 => ?_)
            · have hm := ifp c_73 hm
              refine lv_aload_n hx hb dX8_takeWord_78 rfl (lv_at hl 0 rfl) ?_
              refine lv_dup hx hb dX8_takeWord_79 rfl ?_
              refine va_get (D := G) (ci := 8) (v := .int (x10.1.1 3)) (C := RX8) (T := TX8) (N := 22) hx hb hts hi_8 hown hK hP 0 rfl rfl 4 (by decide) (hts (.fieldLink RX8 83 "HubTrainsModel" "position" "I") (List.mem_of_getElem? (i := 1) rfl)) (fun _ h9 => h9) rfl dX8_takeWord_80 ?_
              refine lv_iload_n hx hb dX8_takeWord_83 rfl (lv_at hl 2 rfl) ?_
              refine lv_iadd hx hb dX8_takeWord_84 ?_
              refine va_put (D := G) (ci := 8) (v := .int ((x10.1.1 3) + v2_16)) (C := RX8) (T := TX8) (N := 22) hx hb hts hi_8 tyX8 tyX8_ok nmX8 hown hK hP hD hS 0 rfl rfl 4 (by decide) (hts (.fieldLink RX8 83 "HubTrainsModel" "position" "I") (List.mem_of_getElem? (i := 1) rfl)) (fun _ h9 => h9) rfl (tyX8_ok 4 (by decide)) rfl rfl (Nat.le_of_ble_eq_true rfl) dX8_takeWord_85 (fun H locs hP hD hS => ?_)
              have hP : va_P G vwCl (wM c ax ((ss x10.1 3 ((x10.1.1 3) + v2_16)), x10.2)) H := hP
              have hD : va_D A (wM c ax ((ss x10.1 3 ((x10.1.1 3) + v2_16)), x10.2)) := hD
              refine lv_iconst (v := 1) hx hb dX8_takeWord_88 (by decide) ?_
              exact hend H locs ls _ _ _ (by decide) (Prod.mk.inj (Option.some.inj hm)).1 (zc1 (fun (z0 : MS) => (wM c ax z0 : va_W)) (Prod.mk.inj (Option.some.inj hm)).2) hP hD hS dX8_takeWord_89
            · have hm := ifn c_73 hm
              refine lv_iconst (v := 0) hx hb dX8_takeWord_76 (by decide) ?_
              exact hend H locs ls _ _ _ (by decide) (Prod.mk.inj (Option.some.inj hm)).1 (zc1 (fun (z0 : MS) => (wM c ax z0 : va_W)) (Prod.mk.inj (Option.some.inj hm)).2) hP hD hS dX8_takeWord_77
        refine lv_icmp_ge (tgt := 48) hx hb dX8_takeWord_21 (by decide) (fun c_21 => ?_) (fun c_21 => ?_)
        · have hm := ifp c_21 hm
          exact J_48 H locs ls hP hD hS (lv_sub hl [0, 1, 2] rfl) hm
        · have hm := ifn c_21 hm
          refine lv_aload_n hx hb dX8_takeWord_24 rfl (lv_at hl 0 rfl) ?_
          refine lv_aload_n hx hb dX8_takeWord_25 rfl (lv_at hl 0 rfl) ?_
          refine va_get (D := G) (ci := 8) (v := .int (x10.1.1 3)) (C := RX8) (T := TX8) (N := 22) hx hb hts hi_8 hown hK hP 0 rfl rfl 4 (by decide) (hts (.fieldLink RX8 83 "HubTrainsModel" "position" "I") (List.mem_of_getElem? (i := 1) rfl)) (fun _ h9 => h9) rfl dX8_takeWord_26 ?_
          refine lv_iload_n hx hb dX8_takeWord_29 rfl (lv_at hl 2 rfl) ?_
          refine lv_iadd hx hb dX8_takeWord_30 ?_
          obtain ⟨r31, e_31, hm⟩ := bd1_s hm
          refine zcWi (As := [.int ((x10.1.1 3) + v2_16)]) (rest := []) ⟨hx, hb, hml, hown, hts⟩ (k_X8_byteAt l G K c ax x10 ((x10.1.1 3) + v2_16) r31 e_31) (cwV 1 hts gX8_takeWord_X8_byteAt rfl rfl rfl hd_X8_byteAt ⟨Nat.le_of_ble_eq_true rfl, Nat.le_of_ble_eq_true rfl⟩) hK hN hZ hP hD hS hA (va_recv hK hP (ci := 8) (q0 := 0) rfl rfl) rfl hl.1 rfl (Nat.le_of_ble_eq_true rfl) dX8_takeWord_31 ⟨Nat.zero_le _, Nat.zero_le _⟩ (fun H locs hP hD hS => ?_)
          have hP : va_P G vwCl (wM c ax x10) H := hP
          have hD : va_D A (wM c ax x10) := hD
          refine lv_aload_n hx hb dX8_takeWord_34 rfl (lv_at hl 1 rfl) ?_
          refine lv_iload_n hx hb dX8_takeWord_35 rfl (lv_at hl 2 rfl) ?_
          obtain ⟨h_36, hm⟩ := gd_s hm
          refine zcVi (As := [.int v2_16]) (rest := [.int r31]) ⟨hx, hb, hml, hown, hts⟩ (k_strchr l G K c p0 v2_16 h_36) (cwV 1 hts gX8_takeWord_J0_charAt_5068e rfl rfl rfl hd_J0_charAt_5068e ⟨Nat.le_of_ble_eq_true rfl, Nat.le_of_ble_eq_true rfl⟩) hK hN hZ hP hD hS hA (vk_recv hZ.1 (scg_i h_36) hS) [] rfl rfl rfl rfl hl.1 rfl (Nat.le_of_ble_eq_true rfl) dX8_takeWord_36 ⟨Nat.zero_le _, Nat.zero_le _⟩ (fun H locs hP hD hS => ?_)
          have hP : va_P G vwCl (wM c ax x10) H := hP
          have hD : va_D A (wM c ax x10) := hD
          refine lv_icmp_ne (tgt := 48) hx hb dX8_takeWord_39 (by decide) (fun c_39 => ?_) (fun c_39 => ?_)
          · have hm := ifn c_39 hm
            exact J_48 H locs ls hP hD hS (lv_sub hl [0, 1, 2] rfl) hm
          · have hm := ifp c_39 hm
            refine lv_iinc (k := 2) (v := (v2_16 + 1)) (lv' := [(2, .int (v2_16 + 1)), (0, .ref (ax 0)), (1, .ref (K.1 p0))]) hx hb dX8_takeWord_42 hl rfl rfl (by decide) rfl (fun ls hl => ?_)
            refine lv_goto (tgt := 16) hx hb dX8_takeWord_45 (by decide) ?_
            exact ih_16 (v2_16 + 1) H locs ls hP hD hS (lv_sub hl [1, 2, 0] rfl) hm
    exact L_16 FUEL 0 H locs ls hP hD hS (lv_sub hl [1, 2, 0] rfl) hm
  · have hm := ifp c_4 hm
    refine lv_iconst (v := 0) hx hb dX8_takeWord_7 (by decide) ?_
    exact hend H locs ls _ _ _ (by decide) (Prod.mk.inj (Option.some.inj hm)).1 (zc1 (fun (z0 : MS) => (wM c ax z0 : va_W)) (Prod.mk.inj (Option.some.inj hm)).2) hP hD hS dX8_takeWord_8


def f_X8_expect (x : MS) (p0 : Int32) : Option MS :=
  bd1 (f_X8_isGood x) fun (r1 : Int32) => if r1 = 0 then (some (x)) else (bd2 (f_X8_ahead x) fun (r9 : Int32) (x9 : MS) => if r9 = p0 then (some (((ss x9.1 3 ((x9.1.1 3) + 1)), x9.2))) else (bd1 (f_X8_report x9 (-2) (x9.1.1 3)) fun (x36 : MS) => some (x36)))

abbrev rm_X8_expect : Room := { frames := 2, cells := 0, slots := 0, locals := 41 }
theorem hd_X8_expect : yX8_expect.cls = RX8 ∧ yX8_expect.cls ≠ "java/lang/invoke/MethodHandle" ∧ yX8_expect.cls ≠ "java/lang/invoke/VarHandle" ∧ (parseMethodDescriptor yX8_expect.desc).map (fun d => d.parameters.length) = some 1 := by decide +kernel
set_option maxHeartbeats 4000000 in
set_option maxRecDepth 100000 in
theorem k_X8_expect (l : Launch) (G : va_G) (K : (Nat → Nat) × (Nat → Nat)) (c : Nat → ClassId) (ax : Nat → Nat) (x : MS) (p0 : Int32) (x_r : MS) (hm : f_X8_expect x p0 = some (x_r)) : zMv l yX8_expect wsX8_expect (rm_X8_expect) G K (TY c) [.ref (ax 0), .int p0] (wM c ax x) (wM c ax x_r) := by
  refine zMv.of (cc := cX8_expect) (maxL := 2) (lv := [(0, .ref (ax 0)), (1, .int p0)]) (by decide) rfl (Nat.le_of_ble_eq_true rfl) rfl ?_
  intro p e s m args below meth c1 A Q H locs hx hb hml hown hts hK hN hZ hP hD hA hS hend ls hl
  have hown : s.vm.findClass RX8 = some m.cls := hown
  have hi_8 : ∀ w ∈ wsX80, w ∈ wsX8_expect := (fun w h => List.mem_cons_of_mem _ (List.mem_append_right _ (h)))
  unfold f_X8_expect at hm
  refine lv_aload_n hx hb dX8_expect_0 rfl (lv_at hl 0 rfl) ?_
  obtain ⟨r1, e_1, hm⟩ := bd1_s hm
  refine zcWi (As := []) (rest := []) ⟨hx, hb, hml, hown, hts⟩ (k_X8_isGood l G K c ax x r1 e_1) (cwV 0 hts gX8_expect_X8_isGood rfl rfl rfl hd_X8_isGood ⟨Nat.le_of_ble_eq_true rfl, Nat.le_of_ble_eq_true rfl⟩) hK hN hZ hP hD hS hA (va_recv hK hP (ci := 8) (q0 := 0) rfl rfl) rfl hl.1 rfl (Nat.le_of_ble_eq_true rfl) dX8_expect_1 ⟨Nat.zero_le _, Nat.zero_le _⟩ (fun H locs hP hD hS => ?_)
  have hP : va_P G vwCl (wM c ax x) H := hP
  have hD : va_D A (wM c ax x) := hD
  refine lv_if_ne (tgt := 8) hx hb dX8_expect_4 (by decide) (fun c_4 => ?_) (fun c_4 => ?_)
  · have hm := ifn c_4 hm
    refine lv_aload_n hx hb dX8_expect_8 rfl (lv_at hl 0 rfl) ?_
    obtain ⟨r9, x9, e_9, hm⟩ := bd2_s hm
    refine zcWi (As := []) (rest := []) ⟨hx, hb, hml, hown, hts⟩ (k_X8_ahead l G K c ax x r9 x9 e_9) (cwV 0 hts gX8_expect_X8_ahead rfl rfl rfl hd_X8_ahead ⟨Nat.le_of_ble_eq_true rfl, Nat.le_of_ble_eq_true rfl⟩) hK hN hZ hP hD hS hA (va_recv hK hP (ci := 8) (q0 := 0) rfl rfl) rfl hl.1 rfl (Nat.le_of_ble_eq_true rfl) dX8_expect_9 ⟨Nat.zero_le _, Nat.zero_le _⟩ (fun H locs hP hD hS => ?_)
    have hP : va_P G vwCl (wM c ax x9) H := hP
    have hD : va_D A (wM c ax x9) := hD
    refine lv_iload_n hx hb dX8_expect_12 rfl (lv_at hl 1 rfl) ?_
    refine lv_icmp_ne (tgt := 29) hx hb dX8_expect_13 (by decide) (fun c_13 => ?_) (fun c_13 => ?_)
    · have hm := ifn c_13 hm
      refine lv_aload_n hx hb dX8_expect_29 rfl (lv_at hl 0 rfl) ?_
      refine lv_bipush (v := (-2)) hx hb dX8_expect_30 (by decide) ?_
      refine lv_aload_n hx hb dX8_expect_32 rfl (lv_at hl 0 rfl) ?_
      refine va_get (D := G) (ci := 8) (v := .int (x9.1.1 3)) (C := RX8) (T := TX8) (N := 22) hx hb hts hi_8 hown hK hP 0 rfl rfl 4 (by decide) (hts (.fieldLink RX8 83 "HubTrainsModel" "position" "I") (List.mem_of_getElem? (i := 1) rfl)) (fun _ h9 => h9) rfl dX8_expect_33 ?_
      obtain ⟨x36, e_36, hm⟩ := bd1_s hm
      refine zcWv (As := [.int (-2), .int (x9.1.1 3)]) (rest := []) ⟨hx, hb, hml, hown, hts⟩ (k_X8_report l G K c ax x9 (-2) (x9.1.1 3) x36 e_36) (cwV 2 hts gX8_expect_X8_report rfl rfl rfl hd_X8_report ⟨Nat.le_of_ble_eq_true rfl, Nat.le_of_ble_eq_true rfl⟩) hK hN hZ hP hD hS hA (va_recv hK hP (ci := 8) (q0 := 0) rfl rfl) rfl hl.1 rfl (Nat.le_of_ble_eq_true rfl) dX8_expect_36 ⟨Nat.zero_le _, Nat.zero_le _⟩ (fun H locs hP hD hS => ?_)
      have hP : va_P G vwCl (wM c ax x36) H := hP
      have hD : va_D A (wM c ax x36) := hD
      exact hend H locs ls _ _ (zc1 (fun (z0 : MS) => (wM c ax z0 : va_W)) (Option.some.inj hm)) hP hD hS dX8_expect_39
    · have hm := ifp c_13 hm
      refine lv_aload_n hx hb dX8_expect_16 rfl (lv_at hl 0 rfl) ?_
      refine lv_dup hx hb dX8_expect_17 rfl ?_
      refine va_get (D := G) (ci := 8) (v := .int (x9.1.1 3)) (C := RX8) (T := TX8) (N := 22) hx hb hts hi_8 hown hK hP 0 rfl rfl 4 (by decide) (hts (.fieldLink RX8 83 "HubTrainsModel" "position" "I") (List.mem_of_getElem? (i := 1) rfl)) (fun _ h9 => h9) rfl dX8_expect_18 ?_
      refine lv_iconst (v := 1) hx hb dX8_expect_21 (by decide) ?_
      refine lv_iadd hx hb dX8_expect_22 ?_
      refine va_put (D := G) (ci := 8) (v := .int ((x9.1.1 3) + 1)) (C := RX8) (T := TX8) (N := 22) hx hb hts hi_8 tyX8 tyX8_ok nmX8 hown hK hP hD hS 0 rfl rfl 4 (by decide) (hts (.fieldLink RX8 83 "HubTrainsModel" "position" "I") (List.mem_of_getElem? (i := 1) rfl)) (fun _ h9 => h9) rfl (tyX8_ok 4 (by decide)) rfl rfl (Nat.le_of_ble_eq_true rfl) dX8_expect_23 (fun H locs hP hD hS => ?_)
      have hP : va_P G vwCl (wM c ax ((ss x9.1 3 ((x9.1.1 3) + 1)), x9.2)) H := hP
      have hD : va_D A (wM c ax ((ss x9.1 3 ((x9.1.1 3) + 1)), x9.2)) := hD
      refine lv_goto (tgt := 39) hx hb dX8_expect_26 (by decide) ?_
      exact hend H locs ls _ _ (zc1 (fun (z0 : MS) => (wM c ax z0 : va_W)) (Option.some.inj hm)) hP hD hS dX8_expect_39
  · have hm := ifp c_4 hm
    exact hend H locs ls _ _ (zc1 (fun (z0 : MS) => (wM c ax z0 : va_W)) (Option.some.inj hm)) hP hD hS dX8_expect_7

def f_X8_number_J109 (v3_41 : Int32) (x_109 : MS) : Option (Int32 × MS) :=
  bd1 (f_X8_isGood x_109) fun (r110 : Int32) => if r110 = 0 then (some (0, x_109)) else (some (v3_41, x_109))

def f_X8_number_B41 (p0 : Int32) (p1 : Int32) (rec_41 : Int32 → MS → Option (Int32 × MS)) (v3_41 : Int32) (x_41 : MS) : Option (Int32 × MS) :=
  bd1 (f_X8_byteAt x_41 (x_41.1.1 3)) fun (r46 : Int32) => bd1 (f_X8_isDigit r46) fun (r49 : Int32) => if r49 = 0 then (bd1 (f_X8_in v3_41 p0 p1) fun (r93 : Int32) => if r93 = 0 then (bd1 (f_X8_report x_41 (-3) (x_41.1.1 8)) fun (x106 : MS) => f_X8_number_J109 v3_41 x106) else (f_X8_number_J109 v3_41 x_41)) else (bd1 (f_X8_byteAt x_41 (x_41.1.1 3)) fun (r66 : Int32) => bd1 (f_X8_min 100000000 (((10 * v3_41) + r66) - 48)) fun (r73 : Int32) => rec_41 r73 ((ss x_41.1 3 ((x_41.1.1 3) + 1)), x_41.2))

def f_X8_number (x : MS) (p0 : Int32) (p1 : Int32) : Option (Int32 × MS) :=
  bd1 (f_X8_isGood x) fun (r1 : Int32) => if r1 = 0 then (some (0, x)) else (bd2 (f_X8_ahead x) fun (r10 : Int32) (x10 : MS) => bd1 (f_X8_isDigit r10) fun (r13 : Int32) => if r13 = 0 then (bd1 (f_X8_report x10 (-2) (x10.1.1 3)) fun (x26 : MS) => some (0, x26)) else (itr2 (f_X8_number_B41 p0 p1) FUEL 0 ((ss x10.1 8 (x10.1.1 3)), x10.2)))

abbrev rm_X8_number : Room := { frames := 2, cells := 0, slots := 0, locals := 42 }
theorem hd_X8_number : yX8_number.cls = RX8 ∧ yX8_number.cls ≠ "java/lang/invoke/MethodHandle" ∧ yX8_number.cls ≠ "java/lang/invoke/VarHandle" ∧ (parseMethodDescriptor yX8_number.desc).map (fun d => d.parameters.length) = some 2 := by decide +kernel
set_option maxHeartbeats 4000000 in
set_option maxRecDepth 100000 in
theorem k_X8_number (l : Launch) (G : va_G) (K : (Nat → Nat) × (Nat → Nat)) (c : Nat → ClassId) (ax : Nat → Nat) (x : MS) (p0 : Int32) (p1 : Int32) (r : Int32) (x_r : MS) (hm : f_X8_number x p0 p1 = some (r, x_r)) : zMi l yX8_number wsX8_number (rm_X8_number) G K (TY c) [.ref (ax 0), .int p0, .int p1] (wM c ax x) (wM c ax x_r) r := by
  refine zMi.of (cc := cX8_number) (maxL := 4) (lv := [(0, .ref (ax 0)), (1, .int p0), (2, .int p1)]) (by decide) rfl (Nat.le_of_ble_eq_true rfl) rfl ?_
  intro p e s m args below meth c1 A Q H locs hx hb hml hown hts hK hN hZ hP hD hA hS hend ls hl
  have hown : s.vm.findClass RX8 = some m.cls := hown
  have hi_8 : ∀ w ∈ wsX80, w ∈ wsX8_number := (fun w h => List.mem_cons_of_mem _ (List.mem_append_right _ (h)))
  unfold f_X8_number at hm
  refine lv_aload_n hx hb dX8_number_0 rfl (lv_at hl 0 rfl) ?_
  obtain ⟨r1, e_1, hm⟩ := bd1_s hm
  refine zcWi (As := []) (rest := []) ⟨hx, hb, hml, hown, hts⟩ (k_X8_isGood l G K c ax x r1 e_1) (cwV 0 hts gX8_number_X8_isGood rfl rfl rfl hd_X8_isGood ⟨Nat.le_of_ble_eq_true rfl, Nat.le_of_ble_eq_true rfl⟩) hK hN hZ hP hD hS hA (va_recv hK hP (ci := 8) (q0 := 0) rfl rfl) rfl hl.1 rfl (Nat.le_of_ble_eq_true rfl) dX8_number_1 ⟨Nat.zero_le _, Nat.zero_le _⟩ (fun H locs hP hD hS => ?_)
  have hP : va_P G vwCl (wM c ax x) H := hP
  have hD : va_D A (wM c ax x) := hD
  refine lv_if_ne (tgt := 9) hx hb dX8_number_4 (by decide) (fun c_4 => ?_) (fun c_4 => ?_)
  · have hm := ifn c_4 hm
    refine lv_aload_n hx hb dX8_number_9 rfl (lv_at hl 0 rfl) ?_
    obtain ⟨r10, x10, e_10, hm⟩ := bd2_s hm
    refine zcWi (As := []) (rest := []) ⟨hx, hb, hml, hown, hts⟩ (k_X8_ahead l G K c ax x r10 x10 e_10) (cwV 0 hts gX8_number_X8_ahead rfl rfl rfl hd_X8_ahead ⟨Nat.le_of_ble_eq_true rfl, Nat.le_of_ble_eq_true rfl⟩) hK hN hZ hP hD hS hA (va_recv hK hP (ci := 8) (q0 := 0) rfl rfl) rfl hl.1 rfl (Nat.le_of_ble_eq_true rfl) dX8_number_10 ⟨Nat.zero_le _, Nat.zero_le _⟩ (fun H locs hP hD hS => ?_)
    have hP : va_P G vwCl (wM c ax x10) H := hP
    have hD : va_D A (wM c ax x10) := hD
    obtain ⟨r13, e_13, hm⟩ := bd1_s hm
    refine zcSi (As := [.int r10]) (rest := []) ⟨hx, hb, hml, hown, hts⟩ (k_X8_isDigit l G K c r10 r13 e_13) (va_cwS 1 hts gX8_number_X8_isDigit rfl rfl rfl hd_X8_isDigit.2 ⟨Nat.le_of_ble_eq_true rfl, Nat.le_of_ble_eq_true rfl⟩) hK hN hZ hP hD hS hA [] rfl (by decide) rfl rfl hl.1 rfl (Nat.le_of_ble_eq_true rfl) dX8_number_13 ⟨Nat.zero_le _, Nat.zero_le _⟩ (fun H locs hP hD hS => ?_)
    have hP : va_P G vwCl (wM c ax x10) H := hP
    have hD : va_D A (wM c ax x10) := hD
    refine lv_if_ne (tgt := 31) hx hb dX8_number_16 (by decide) (fun c_16 => ?_) (fun c_16 => ?_)
    · have hm := ifn c_16 hm
      refine lv_aload_n hx hb dX8_number_31 rfl (lv_at hl 0 rfl) ?_
      refine lv_aload_n hx hb dX8_number_32 rfl (lv_at hl 0 rfl) ?_
      refine va_get (D := G) (ci := 8) (v := .int (x10.1.1 3)) (C := RX8) (T := TX8) (N := 22) hx hb hts hi_8 hown hK hP 0 rfl rfl 4 (by decide) (hts (.fieldLink RX8 83 "HubTrainsModel" "position" "I") (List.mem_of_getElem? (i := 1) rfl)) (fun _ h9 => h9) rfl dX8_number_33 ?_
      refine va_put (D := G) (ci := 8) (v := .int (x10.1.1 3)) (C := RX8) (T := TX8) (N := 22) hx hb hts hi_8 tyX8 tyX8_ok nmX8 hown hK hP hD hS 0 rfl rfl 13 (by decide) (hts (.fieldLink RX8 120 "HubTrainsModel" "numberStart" "I") (List.mem_of_getElem? (i := 2) rfl)) (fun _ h9 => h9) rfl (tyX8_ok 13 (by decide)) rfl rfl (Nat.le_of_ble_eq_true rfl) dX8_number_36 (fun H locs hP hD hS => ?_)
      have hP : va_P G vwCl (wM c ax ((ss x10.1 8 (x10.1.1 3)), x10.2)) H := hP
      have hD : va_D A (wM c ax ((ss x10.1 8 (x10.1.1 3)), x10.2)) := hD
      refine lv_iconst (v := 0) hx hb dX8_number_39 (by decide) ?_
      refine lv_istore_n (lv' := [(3, .int 0), (0, .ref (ax 0)), (1, .int p0), (2, .int p1)]) hx hb dX8_number_40 rfl hl (by decide) rfl (fun ls hl => ?_)
      have L_41 : ∀ (n_41 : Nat) (v3_41 : Int32) (x_41 : MS) (H : Heap) (locs : List Loc) (ls : Array Slot), va_P G vwCl (wM c ax x_41) H → va_D A (wM c ax x_41) → va_S A s.heap H locs → lv_has ls 4 [(0, .ref (ax 0)), (1, .int p0), (2, .int p1), (3, .int v3_41)] → itr2 (f_X8_number_B41 p0 p1) n_41 v3_41 x_41 = some (r, x_r) → W p l e (rm_X8_number) s m args below meth c1 H locs 0 0 Q (F0 m 41 ls []) := by
        intro n_41
        induction n_41 with
        | zero => intro v3_41 x_41 H locs ls hP hD hS hl hm; exact (itr2_0 hm).elim
        | succ n_41 ih_41 =>
          intro v3_41 x_41 H locs ls hP hD hS hl hm
          have hm := itr2_s hm
          unfold f_X8_number_B41 at hm
          refine lv_aload_n hx hb dX8_number_41 rfl (lv_at hl 0 rfl) ?_
          refine lv_aload_n hx hb dX8_number_42 rfl (lv_at hl 0 rfl) ?_
          refine va_get (D := G) (ci := 8) (v := .int (x_41.1.1 3)) (C := RX8) (T := TX8) (N := 22) hx hb hts hi_8 hown hK hP 0 rfl rfl 4 (by decide) (hts (.fieldLink RX8 83 "HubTrainsModel" "position" "I") (List.mem_of_getElem? (i := 1) rfl)) (fun _ h9 => h9) rfl dX8_number_43 ?_
          obtain ⟨r46, e_46, hm⟩ := bd1_s hm
          refine zcWi (As := [.int (x_41.1.1 3)]) (rest := []) ⟨hx, hb, hml, hown, hts⟩ (k_X8_byteAt l G K c ax x_41 (x_41.1.1 3) r46 e_46) (cwV 1 hts gX8_number_X8_byteAt rfl rfl rfl hd_X8_byteAt ⟨Nat.le_of_ble_eq_true rfl, Nat.le_of_ble_eq_true rfl⟩) hK hN hZ hP hD hS hA (va_recv hK hP (ci := 8) (q0 := 0) rfl rfl) rfl hl.1 rfl (Nat.le_of_ble_eq_true rfl) dX8_number_46 ⟨Nat.zero_le _, Nat.zero_le _⟩ (fun H locs hP hD hS => ?_)
          have hP : va_P G vwCl (wM c ax x_41) H := hP
          have hD : va_D A (wM c ax x_41) := hD
          obtain ⟨r49, e_49, hm⟩ := bd1_s hm
          refine zcSi (As := [.int r46]) (rest := []) ⟨hx, hb, hml, hown, hts⟩ (k_X8_isDigit l G K c r46 r49 e_49) (va_cwS 1 hts gX8_number_X8_isDigit rfl rfl rfl hd_X8_isDigit.2 ⟨Nat.le_of_ble_eq_true rfl, Nat.le_of_ble_eq_true rfl⟩) hK hN hZ hP hD hS hA [] rfl (by decide) rfl rfl hl.1 rfl (Nat.le_of_ble_eq_true rfl) dX8_number_49 ⟨Nat.zero_le _, Nat.zero_le _⟩ (fun H locs hP hD hS => ?_)
          have hP : va_P G vwCl (wM c ax x_41) H := hP
          have hD : va_D A (wM c ax x_41) := hD
          refine lv_if_eq (tgt := 90) hx hb dX8_number_52 (by decide) (fun c_52 => ?_) (fun c_52 => ?_)
          · have hm := ifp c_52 hm
            refine lv_iload_n hx hb dX8_number_90 rfl (lv_at hl 3 rfl) ?_
            refine lv_iload_n hx hb dX8_number_91 rfl (lv_at hl 1 rfl) ?_
            refine lv_iload_n hx hb dX8_number_92 rfl (lv_at hl 2 rfl) ?_
            obtain ⟨r93, e_93, hm⟩ := bd1_s hm
            refine zcSi (As := [.int v3_41, .int p0, .int p1]) (rest := []) ⟨hx, hb, hml, hown, hts⟩ (k_X8_in l G K c v3_41 p0 p1 r93 e_93) (va_cwS 3 hts gX8_number_X8_in rfl rfl rfl hd_X8_in.2 ⟨Nat.le_of_ble_eq_true rfl, Nat.le_of_ble_eq_true rfl⟩) hK hN hZ hP hD hS hA [] rfl (by decide) rfl rfl hl.1 rfl (Nat.le_of_ble_eq_true rfl) dX8_number_93 ⟨Nat.zero_le _, Nat.zero_le _⟩ (fun H locs hP hD hS => ?_)
            have hP : va_P G vwCl (wM c ax x_41) H := hP
            have hD : va_D A (wM c ax x_41) := hD
            have J_109 : ∀ (x_109 : MS) (H : Heap) (locs : List Loc) (ls : Array Slot), va_P G vwCl (wM c ax x_109) H → va_D A (wM c ax x_109) → va_S A s.heap H locs → lv_has ls 4 [(0, .ref (ax 0)), (3, .int v3_41)] → f_X8_number_J109 v3_41 x_109 = some (r, x_r) → W p l e (rm_X8_number) s m args below meth c1 H locs 0 0 Q (F0 m 109 ls []) := by
              intro x_109 H locs ls hP hD hS hl hm
              unfold f_X8_number_J109 at hm
              refine lv_aload_n hx hb dX8_number_109 rfl (lv_at hl 0 rfl) ?_
              obtain ⟨r110, e_110, hm⟩ := bd1_s hm
              refine zcWi (As := []) (rest := []) ⟨hx, hb, hml, hown, hts⟩ (k_X8_isGood l G K c ax x_109 r110 e_110) (cwV 0 hts gX8_number_X8_isGood rfl rfl rfl hd_X8_isGood ⟨Nat.le_of_ble_eq_true rfl, Nat.le_of_ble_eq_true rfl⟩) hK hN hZ hP hD hS hA (va_recv hK hP (ci := 8) (q0 := 0) rfl rfl) rfl hl.1 rfl (Nat.le_of_ble_eq_true rfl) dX8_number_110 ⟨Nat.zero_le _, Nat.zero_le _⟩ (fun H locs hP hD hS => ?_)
              have hP : va_P G vwCl (wM c ax x_109) H := hP
              have hD : va_D A (wM c ax x_109) := hD
              refine lv_if_eq (tgt := 120) hx hb dX8_number_113 (by decide) (fun c_113 => ?_) (fun c_113 => ?_)
              · have hm := ifp c_113 hm
                refine lv_iconst (v := 0) hx hb dX8_number_120 (by decide) ?_
                exact hend H locs ls _ _ _ rfl (Prod.mk.inj (Option.some.inj hm)).1 (zc1 (fun (z0 : MS) => (wM c ax z0 : va_W)) (Prod.mk.inj (Option.some.inj hm)).2) hP hD hS dX8_number_121
              · have hm := ifn c_113 hm
                refine lv_iload_n hx hb dX8_number_116 rfl (lv_at hl 1 rfl) ?_
                refine lv_goto (tgt := 121) hx hb dX8_number_117 (by decide) ?_
                exact hend H locs ls _ _ _ rfl (Prod.mk.inj (Option.some.inj hm)).1 (zc1 (fun (z0 : MS) => (wM c ax z0 : va_W)) (Prod.mk.inj (Option.some.inj hm)).2) hP hD hS dX8_number_121
            refine lv_if_ne (tgt := 109) hx hb dX8_number_96 (by decide) (fun c_96 => ?_) (fun c_96 => ?_)
            · have hm := ifn c_96 hm
              exact J_109 x_41 H locs ls hP hD hS (lv_sub hl [0, 3] rfl) hm
            · have hm := ifp c_96 hm
              refine lv_aload_n hx hb dX8_number_99 rfl (lv_at hl 0 rfl) ?_
              refine lv_bipush (v := (-3)) hx hb dX8_number_100 (by decide) ?_
              refine lv_aload_n hx hb dX8_number_102 rfl (lv_at hl 0 rfl) ?_
              refine va_get (D := G) (ci := 8) (v := .int (x_41.1.1 8)) (C := RX8) (T := TX8) (N := 22) hx hb hts hi_8 hown hK hP 0 rfl rfl 13 (by decide) (hts (.fieldLink RX8 120 "HubTrainsModel" "numberStart" "I") (List.mem_of_getElem? (i := 2) rfl)) (fun _ h9 => h9) rfl dX8_number_103 ?_
              obtain ⟨x106, e_106, hm⟩ := bd1_s hm
              refine zcWv (As := [.int (-3), .int (x_41.1.1 8)]) (rest := []) ⟨hx, hb, hml, hown, hts⟩ (k_X8_report l G K c ax x_41 (-3) (x_41.1.1 8) x106 e_106) (cwV 2 hts gX8_number_X8_report rfl rfl rfl hd_X8_report ⟨Nat.le_of_ble_eq_true rfl, Nat.le_of_ble_eq_true rfl⟩) hK hN hZ hP hD hS hA (va_recv hK hP (ci := 8) (q0 := 0) rfl rfl) rfl hl.1 rfl (Nat.le_of_ble_eq_true rfl) dX8_number_106 ⟨Nat.zero_le _, Nat.zero_le _⟩ (fun H locs hP hD hS => ?_)
              have hP : va_P G vwCl (wM c ax x106) H := hP
              have hD : va_D A (wM c ax x106) := hD
              exact J_109 x106 H locs ls hP hD hS (lv_sub hl [0, 3] rfl) hm
          · have hm := ifn c_52 hm
            refine lv_ldc (v := 100000000) hx hb hown (hts (.constant RX8 123 (100000000)) (List.mem_of_getElem? (i := 3) rfl)) dX8_number_55 ?_
            refine lv_bipush (v := 10) hx hb dX8_number_57 (by decide) ?_
            refine lv_iload_n hx hb dX8_number_59 rfl (lv_at hl 3 rfl) ?_
            refine lv_imul hx hb dX8_number_60 ?_
            refine lv_aload_n hx hb dX8_number_61 rfl (lv_at hl 0 rfl) ?_
            refine lv_aload_n hx hb dX8_number_62 rfl (lv_at hl 0 rfl) ?_
            refine va_get (D := G) (ci := 8) (v := .int (x_41.1.1 3)) (C := RX8) (T := TX8) (N := 22) hx hb hts hi_8 hown hK hP 0 rfl rfl 4 (by decide) (hts (.fieldLink RX8 83 "HubTrainsModel" "position" "I") (List.mem_of_getElem? (i := 1) rfl)) (fun _ h9 => h9) rfl dX8_number_63 ?_
            obtain ⟨r66, e_66, hm⟩ := bd1_s hm
            refine zcWi (As := [.int (x_41.1.1 3)]) (rest := [.int (10 * v3_41), .int 100000000]) ⟨hx, hb, hml, hown, hts⟩ (k_X8_byteAt l G K c ax x_41 (x_41.1.1 3) r66 e_66) (cwV 1 hts gX8_number_X8_byteAt rfl rfl rfl hd_X8_byteAt ⟨Nat.le_of_ble_eq_true rfl, Nat.le_of_ble_eq_true rfl⟩) hK hN hZ hP hD hS hA (va_recv hK hP (ci := 8) (q0 := 0) rfl rfl) rfl hl.1 rfl (Nat.le_of_ble_eq_true rfl) dX8_number_66 ⟨Nat.zero_le _, Nat.zero_le _⟩ (fun H locs hP hD hS => ?_)
            have hP : va_P G vwCl (wM c ax x_41) H := hP
            have hD : va_D A (wM c ax x_41) := hD
            refine lv_iadd hx hb dX8_number_69 ?_
            refine lv_bipush (v := 48) hx hb dX8_number_70 (by decide) ?_
            refine lv_isub hx hb dX8_number_72 ?_
            obtain ⟨r73, e_73, hm⟩ := bd1_s hm
            refine zcSi (As := [.int 100000000, .int (((10 * v3_41) + r66) - 48)]) (rest := []) ⟨hx, hb, hml, hown, hts⟩ (k_X8_min l G K c 100000000 (((10 * v3_41) + r66) - 48) r73 e_73) (va_cwS 2 hts gX8_number_X8_min rfl rfl rfl hd_X8_min.2 ⟨Nat.le_of_ble_eq_true rfl, Nat.le_of_ble_eq_true rfl⟩) hK hN hZ hP hD hS hA [] rfl (by decide) rfl rfl hl.1 rfl (Nat.le_of_ble_eq_true rfl) dX8_number_73 ⟨Nat.zero_le _, Nat.zero_le _⟩ (fun H locs hP hD hS => ?_)
            have hP : va_P G vwCl (wM c ax x_41) H := hP
            have hD : va_D A (wM c ax x_41) := hD
            refine lv_istore_n (lv' := [(3, .int r73), (0, .ref (ax 0)), (1, .int p0), (2, .int p1)]) hx hb dX8_number_76 rfl hl (by decide) rfl (fun ls hl => ?_)
            refine lv_aload_n hx hb dX8_number_77 rfl (lv_at hl 1 rfl) ?_
            refine lv_dup hx hb dX8_number_78 rfl ?_
            refine va_get (D := G) (ci := 8) (v := .int (x_41.1.1 3)) (C := RX8) (T := TX8) (N := 22) hx hb hts hi_8 hown hK hP 0 rfl rfl 4 (by decide) (hts (.fieldLink RX8 83 "HubTrainsModel" "position" "I") (List.mem_of_getElem? (i := 1) rfl)) (fun _ h9 => h9) rfl dX8_number_79 ?_
            refine lv_iconst (v := 1) hx hb dX8_number_82 (by decide) ?_
            refine lv_iadd hx hb dX8_number_83 ?_
            refine va_put (D := G) (ci := 8) (v := .int ((x_41.1.1 3) + 1)) (C := RX8) (T := TX8) (N := 22) hx hb hts hi_8 tyX8 tyX8_ok nmX8 hown hK hP hD hS 0 rfl rfl 4 (by decide) (hts (.fieldLink RX8 83 "HubTrainsModel" "position" "I") (List.mem_of_getElem? (i := 1) rfl)) (fun _ h9 => h9) rfl (tyX8_ok 4 (by decide)) rfl rfl (Nat.le_of_ble_eq_true rfl) dX8_number_84 (fun H locs hP hD hS => ?_)
            have hP : va_P G vwCl (wM c ax ((ss x_41.1 3 ((x_41.1.1 3) + 1)), x_41.2)) H := hP
            have hD : va_D A (wM c ax ((ss x_41.1 3 ((x_41.1.1 3) + 1)), x_41.2)) := hD
            refine lv_goto (tgt := 41) hx hb dX8_number_87 (by decide) ?_
            exact ih_41 r73 ((ss x_41.1 3 ((x_41.1.1 3) + 1)), x_41.2) H locs ls hP hD hS (lv_sub hl [1, 2, 3, 0] rfl) hm
      exact L_41 FUEL 0 ((ss x10.1 8 (x10.1.1 3)), x10.2) H locs ls hP hD hS (lv_sub hl [1, 2, 3, 0] rfl) hm
    · have hm := ifp c_16 hm
      refine lv_aload_n hx hb dX8_number_19 rfl (lv_at hl 0 rfl) ?_
      refine lv_bipush (v := (-2)) hx hb dX8_number_20 (by decide) ?_
      refine lv_aload_n hx hb dX8_number_22 rfl (lv_at hl 0 rfl) ?_
      refine va_get (D := G) (ci := 8) (v := .int (x10.1.1 3)) (C := RX8) (T := TX8) (N := 22) hx hb hts hi_8 hown hK hP 0 rfl rfl 4 (by decide) (hts (.fieldLink RX8 83 "HubTrainsModel" "position" "I") (List.mem_of_getElem? (i := 1) rfl)) (fun _ h9 => h9) rfl dX8_number_23 ?_
      obtain ⟨x26, e_26, hm⟩ := bd1_s hm
      refine zcWv (As := [.int (-2), .int (x10.1.1 3)]) (rest := []) ⟨hx, hb, hml, hown, hts⟩ (k_X8_report l G K c ax x10 (-2) (x10.1.1 3) x26 e_26) (cwV 2 hts gX8_number_X8_report rfl rfl rfl hd_X8_report ⟨Nat.le_of_ble_eq_true rfl, Nat.le_of_ble_eq_true rfl⟩) hK hN hZ hP hD hS hA (va_recv hK hP (ci := 8) (q0 := 0) rfl rfl) rfl hl.1 rfl (Nat.le_of_ble_eq_true rfl) dX8_number_26 ⟨Nat.zero_le _, Nat.zero_le _⟩ (fun H locs hP hD hS => ?_)
      have hP : va_P G vwCl (wM c ax x26) H := hP
      have hD : va_D A (wM c ax x26) := hD
      refine lv_iconst (v := 0) hx hb dX8_number_29 (by decide) ?_
      exact hend H locs ls _ _ _ rfl (Prod.mk.inj (Option.some.inj hm)).1 (zc1 (fun (z0 : MS) => (wM c ax z0 : va_W)) (Prod.mk.inj (Option.some.inj hm)).2) hP hD hS dX8_number_30
  · have hm := ifp c_4 hm
    refine lv_iconst (v := 0) hx hb dX8_number_7 (by decide) ?_
    exact hend H locs ls _ _ _ rfl (Prod.mk.inj (Option.some.inj hm)).1 (zc1 (fun (z0 : MS) => (wM c ax z0 : va_W)) (Prod.mk.inj (Option.some.inj hm)).2) hP hD hS dX8_number_8


def f_X8_emit (x : MS) (p0 : Int32) : Option MS :=
  bd1 (f_X8_isGood x) fun (r1 : Int32) => if r1 = 0 then (some (x)) else (gd (inb 14 1464) <| gd (inb (464 + ((x.1.2 2) (14 : Int32).toNatClampNeg)) 1464) <| nmd (upd (x.1.2 2) (464 + ((x.1.2 2) (14 : Int32).toNatClampNeg)).toNatClampNeg p0) fun (w24 : Nat → Int32) => gd (inb 14 1464) <| gd (inb 14 1464) <| nmd (upd w24 (14 : Int32).toNatClampNeg ((w24 (14 : Int32).toNatClampNeg) + 1)) fun (w35 : Nat → Int32) => some (((sa x.1 2 w35), x.2)))

abbrev rm_X8_emit : Room := { frames := 1, cells := 0, slots := 0, locals := 20 }
theorem hd_X8_emit : yX8_emit.cls = RX8 ∧ yX8_emit.cls ≠ "java/lang/invoke/MethodHandle" ∧ yX8_emit.cls ≠ "java/lang/invoke/VarHandle" ∧ (parseMethodDescriptor yX8_emit.desc).map (fun d => d.parameters.length) = some 1 := by decide +kernel
set_option maxHeartbeats 4000000 in
set_option maxRecDepth 100000 in
theorem k_X8_emit (l : Launch) (G : va_G) (K : (Nat → Nat) × (Nat → Nat)) (c : Nat → ClassId) (ax : Nat → Nat) (x : MS) (p0 : Int32) (x_r : MS) (hm : f_X8_emit x p0 = some (x_r)) : zMv l yX8_emit wsX8_emit (rm_X8_emit) G K (TY c) [.ref (ax 0), .int p0] (wM c ax x) (wM c ax x_r) := by
  refine zMv.of (cc := cX8_emit) (maxL := 2) (lv := [(0, .ref (ax 0)), (1, .int p0)]) (by decide) rfl (Nat.le_of_ble_eq_true rfl) rfl ?_
  intro p e s m args below meth c1 A Q H locs hx hb hml hown hts hK hN hZ hP hD hA hS hend ls hl
  have hown : s.vm.findClass RX8 = some m.cls := hown
  have hi_8 : ∀ w ∈ wsX80, w ∈ wsX8_emit := (fun w h => List.mem_cons_of_mem _ (List.mem_append_right _ (h)))
  unfold f_X8_emit at hm
  refine lv_aload_n hx hb dX8_emit_0 rfl (lv_at hl 0 rfl) ?_
  obtain ⟨r1, e_1, hm⟩ := bd1_s hm
  refine zcWi (As := []) (rest := []) ⟨hx, hb, hml, hown, hts⟩ (k_X8_isGood l G K c ax x r1 e_1) (cwV 0 hts gX8_emit_X8_isGood rfl rfl rfl hd_X8_isGood ⟨Nat.le_of_ble_eq_true rfl, Nat.le_of_ble_eq_true rfl⟩) hK hN hZ hP hD hS hA (va_recv hK hP (ci := 8) (q0 := 0) rfl rfl) rfl hl.1 rfl (Nat.le_of_ble_eq_true rfl) dX8_emit_1 ⟨Nat.zero_le _, Nat.zero_le _⟩ (fun H locs hP hD hS => ?_)
  have hP : va_P G vwCl (wM c ax x) H := hP
  have hD : va_D A (wM c ax x) := hD
  refine lv_if_ne (tgt := 8) hx hb dX8_emit_4 (by decide) (fun c_4 => ?_) (fun c_4 => ?_)
  · have hm := ifn c_4 hm
    refine lv_aload_n hx hb dX8_emit_8 rfl (lv_at hl 0 rfl) ?_
    refine va_get (D := G) (ci := 8) (v := .ref (ax 3)) (C := RX8) (T := TX8) (N := 22) hx hb hts hi_8 hown hK hP 0 rfl rfl 9 (by decide) (hts (.fieldLink RX8 20 "HubTrainsModel" "draft" "[I") (List.mem_of_getElem? (i := 1) rfl)) (fun _ h9 => h9) rfl dX8_emit_9 ?_
    refine lv_sipush (v := 464) hx hb dX8_emit_12 (by decide) ?_
    refine lv_aload_n hx hb dX8_emit_15 rfl (lv_at hl 0 rfl) ?_
    refine va_get (D := G) (ci := 8) (v := .ref (ax 3)) (C := RX8) (T := TX8) (N := 22) hx hb hts hi_8 hown hK hP 0 rfl rfl 9 (by decide) (hts (.fieldLink RX8 20 "HubTrainsModel" "draft" "[I") (List.mem_of_getElem? (i := 1) rfl)) (fun _ h9 => h9) rfl dX8_emit_16 ?_
    refine lv_bipush (v := 14) hx hb dX8_emit_19 (by decide) ?_
    obtain ⟨h_21, hm⟩ := gd_s hm
    refine va_iald (D := G) hx hb hK hP 3 0 rfl rfl (inb_s h_21) dX8_emit_21 ?_
    refine lv_iadd hx hb dX8_emit_22 ?_
    refine lv_iload_n hx hb dX8_emit_23 rfl (lv_at hl 1 rfl) ?_
    obtain ⟨h_24, hm⟩ := gd_s hm
    refine va_iast (D := G) hx hb hK hP hD hS 3 0 rfl rfl (inb_s h_24) dX8_emit_24 (fun H locs hP hD hS => ?_)
    obtain ⟨w24, e_w24⟩ : ∃ z : Nat → Int32, z = upd (x.1.2 2) (464 + ((x.1.2 2) (14 : Int32).toNatClampNeg)).toNatClampNeg p0 := ⟨_, rfl⟩
    have hP : va_P G vwCl (wM c ax ((sa x.1 2 w24), x.2)) H := by rw [e_w24]; exact hP
    have hD : va_D A (wM c ax ((sa x.1 2 w24), x.2)) := by rw [e_w24]; exact hD
    have hm := nmd_s hm w24 e_w24
    refine lv_aload_n hx hb dX8_emit_25 rfl (lv_at hl 0 rfl) ?_
    refine va_get (D := G) (ci := 8) (v := .ref (ax 3)) (C := RX8) (T := TX8) (N := 22) hx hb hts hi_8 hown hK hP 0 rfl rfl 9 (by decide) (hts (.fieldLink RX8 20 "HubTrainsModel" "draft" "[I") (List.mem_of_getElem? (i := 1) rfl)) (fun _ h9 => h9) rfl dX8_emit_26 ?_
    refine lv_bipush (v := 14) hx hb dX8_emit_29 (by decide) ?_
    refine lv_dup2_11 hx hb dX8_emit_31 rfl rfl ?_
    obtain ⟨h_32, hm⟩ := gd_s hm
    refine va_iald (D := G) hx hb hK hP 3 0 rfl rfl (inb_s h_32) dX8_emit_32 ?_
    refine lv_iconst (v := 1) hx hb dX8_emit_33 (by decide) ?_
    refine lv_iadd hx hb dX8_emit_34 ?_
    obtain ⟨h_35, hm⟩ := gd_s hm
    refine va_iast (D := G) hx hb hK hP hD hS 3 0 rfl rfl (inb_s h_35) dX8_emit_35 (fun H locs hP hD hS => ?_)
    obtain ⟨w35, e_w35⟩ : ∃ z : Nat → Int32, z = upd w24 (14 : Int32).toNatClampNeg ((w24 (14 : Int32).toNatClampNeg) + 1) := ⟨_, rfl⟩
    have hP : va_P G vwCl (wM c ax ((sa x.1 2 w35), x.2)) H := by rw [e_w35]; exact hP
    have hD : va_D A (wM c ax ((sa x.1 2 w35), x.2)) := by rw [e_w35]; exact hD
    have hm := nmd_s hm w35 e_w35
    exact hend H locs ls _ _ (zc1 (fun (z0 : MS) => (wM c ax z0 : va_W)) (Option.some.inj hm)) hP hD hS dX8_emit_36
  · have hm := ifp c_4 hm
    exact hend H locs ls _ _ (zc1 (fun (z0 : MS) => (wM c ax z0 : va_W)) (Option.some.inj hm)) hP hD hS dX8_emit_7
