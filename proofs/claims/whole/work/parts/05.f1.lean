
def f_X8_thrown (x : MS) : Option Int32 :=
  some ((x.1.1 0))

abbrev rm_X8_thrown : Room := { frames := 0, cells := 0, slots := 0, locals := 0 }
theorem hd_X8_thrown : yX8_thrown.cls = RX8 ∧ yX8_thrown.cls ≠ "java/lang/invoke/MethodHandle" ∧ yX8_thrown.cls ≠ "java/lang/invoke/VarHandle" ∧ (parseMethodDescriptor yX8_thrown.desc).map (fun d => d.parameters.length) = some 0 := by decide +kernel
set_option maxHeartbeats 4000000 in
set_option maxRecDepth 100000 in
theorem k_X8_thrown (l : Launch) (G : va_G) (K : (Nat → Nat) × (Nat → Nat)) (c : Nat → ClassId) (ax : Nat → Nat) (x : MS) (r : Int32) (hm : f_X8_thrown x = some (r)) : zMi l yX8_thrown wsX8_thrown (rm_X8_thrown) G K (TY c) [.ref (ax 0)] (wM c ax x) (wM c ax x) r := by
  refine zMi.of (cc := cX8_thrown) (maxL := 1) (lv := [(0, .ref (ax 0))]) (by decide) rfl (Nat.le_of_ble_eq_true rfl) rfl ?_
  intro p e s m args below meth c1 A Q H locs hx hb hml hown hts hK hN hZ hP hD hA hS hend ls hl
  have hown : s.vm.findClass RX8 = some m.cls := hown
  have hi_8 : ∀ w ∈ wsX80, w ∈ wsX8_thrown := (fun w h => List.mem_cons_of_mem _ (List.mem_append_right _ (h)))
  unfold f_X8_thrown at hm
  refine lv_aload_n hx hb dX8_thrown_0 rfl (lv_at hl 0 rfl) ?_
  refine va_get (D := G) (ci := 8) (v := .int (x.1.1 0)) (C := RX8) (T := TX8) (N := 22) hx hb hts hi_8 hown hK hP 0 rfl rfl 0 (by decide) (hts (.fieldLink RX8 53 "HubTrainsModel" "thrown" "I") (List.mem_of_getElem? (i := 1) rfl)) (fun _ h9 => h9) rfl dX8_thrown_1 ?_
  exact hend H locs ls _ _ _ rfl (Option.some.inj hm) rfl hP hD hS dX8_thrown_4

def f_X8_fails_J16 (x_16 : MS) : Option (Int32 × MS) :=
  if (x_16.1.1 0) = 0 then (some (0, x_16)) else (some (1, x_16))

def f_X8_fails (x : MS) (p0 : Int32) (p1 : Int32) : Option (Int32 × MS) :=
  if p0 = 0 then (f_X8_fails_J16 x) else (if (x.1.1 0) = 0 then (f_X8_fails_J16 ((ss x.1 0 p1), x.2)) else (f_X8_fails_J16 x))

abbrev rm_X8_fails : Room := { frames := 0, cells := 0, slots := 0, locals := 0 }
theorem hd_X8_fails : yX8_fails.cls = RX8 ∧ yX8_fails.cls ≠ "java/lang/invoke/MethodHandle" ∧ yX8_fails.cls ≠ "java/lang/invoke/VarHandle" ∧ (parseMethodDescriptor yX8_fails.desc).map (fun d => d.parameters.length) = some 2 := by decide +kernel
set_option maxHeartbeats 4000000 in
set_option maxRecDepth 100000 in
theorem k_X8_fails (l : Launch) (G : va_G) (K : (Nat → Nat) × (Nat → Nat)) (c : Nat → ClassId) (ax : Nat → Nat) (x : MS) (p0 : Int32) (p1 : Int32) (r : Int32) (x_r : MS) (hm : f_X8_fails x p0 p1 = some (r, x_r)) : zMi l yX8_fails wsX8_fails (rm_X8_fails) G K (TY c) [.ref (ax 0), .int p0, .int p1] (wM c ax x) (wM c ax x_r) r := by
  refine zMi.of (cc := cX8_fails) (maxL := 3) (lv := [(0, .ref (ax 0)), (1, .int p0), (2, .int p1)]) (by decide) rfl (Nat.le_of_ble_eq_true rfl) rfl ?_
  intro p e s m args below meth c1 A Q H locs hx hb hml hown hts hK hN hZ hP hD hA hS hend ls hl
  have hown : s.vm.findClass RX8 = some m.cls := hown
  have hi_8 : ∀ w ∈ wsX80, w ∈ wsX8_fails := (fun w h => List.mem_cons_of_mem _ (List.mem_append_right _ (h)))
  unfold f_X8_fails at hm
  refine lv_iload_n hx hb dX8_fails_0 rfl (lv_at hl 1 rfl) ?_
  have J_16 : ∀ (x_16 : MS) (H : Heap) (locs : List Loc) (ls : Array Slot), va_P G vwCl (wM c ax x_16) H → va_D A (wM c ax x_16) → va_S A s.heap H locs → lv_has ls 3 [(0, .ref (ax 0))] → f_X8_fails_J16 x_16 = some (r, x_r) → W p l e (rm_X8_fails) s m args below meth c1 H locs 0 0 Q (F0 m 16 ls []) := by
    intro x_16 H locs ls hP hD hS hl hm
    unfold f_X8_fails_J16 at hm
    refine lv_aload_n hx hb dX8_fails_16 rfl (lv_at hl 0 rfl) ?_
    refine va_get (D := G) (ci := 8) (v := .int (x_16.1.1 0)) (C := RX8) (T := TX8) (N := 22) hx hb hts hi_8 hown hK hP 0 rfl rfl 0 (by decide) (hts (.fieldLink RX8 53 "HubTrainsModel" "thrown" "I") (List.mem_of_getElem? (i := 1) rfl)) (fun _ h9 => h9) rfl dX8_fails_17 ?_
    refine lv_if_eq (tgt := 27) hx hb dX8_fails_20 (by decide) (fun c_20 => ?_) (fun c_20 => ?_)
    · have hm := ifp c_20 hm
      refine lv_iconst (v := 0) hx hb dX8_fails_27 (by decide) ?_
      exact hend H locs ls _ _ _ (by decide) (Prod.mk.inj (Option.some.inj hm)).1 (zc1 (fun (z0 : MS) => (wM c ax z0 : va_W)) (Prod.mk.inj (Option.some.inj hm)).2) hP hD hS dX8_fails_28
    · have hm := ifn c_20 hm
      refine lv_iconst (v := 1) hx hb dX8_fails_23 (by decide) ?_
      refine lv_goto (tgt := 28) hx hb dX8_fails_24 (by decide) ?_
      exact hend H locs ls _ _ _ (by decide) (Prod.mk.inj (Option.some.inj hm)).1 (zc1 (fun (z0 : MS) => (wM c ax z0 : va_W)) (Prod.mk.inj (Option.some.inj hm)).2) hP hD hS dX8_fails_28
  refine lv_if_eq (tgt := 16) hx hb dX8_fails_1 (by decide) (fun c_1 => ?_) (fun c_1 => ?_)
  · have hm := ifp c_1 hm
    exact J_16 x H locs ls hP hD hS (lv_sub hl [0] rfl) hm
  · have hm := ifn c_1 hm
    refine lv_aload_n hx hb dX8_fails_4 rfl (lv_at hl 0 rfl) ?_
    refine va_get (D := G) (ci := 8) (v := .int (x.1.1 0)) (C := RX8) (T := TX8) (N := 22) hx hb hts hi_8 hown hK hP 0 rfl rfl 0 (by decide) (hts (.fieldLink RX8 53 "HubTrainsModel" "thrown" "I") (List.mem_of_getElem? (i := 1) rfl)) (fun _ h9 => h9) rfl dX8_fails_5 ?_
    refine lv_if_ne (tgt := 16) hx hb dX8_fails_8 (by decide) (fun c_8 => ?_) (fun c_8 => ?_)
    · have hm := ifn c_8 hm
      exact J_16 x H locs ls hP hD hS (lv_sub hl [0] rfl) hm
    · have hm := ifp c_8 hm
      refine lv_aload_n hx hb dX8_fails_11 rfl (lv_at hl 0 rfl) ?_
      refine lv_iload_n hx hb dX8_fails_12 rfl (lv_at hl 2 rfl) ?_
      refine va_put (D := G) (ci := 8) (v := .int p1) (C := RX8) (T := TX8) (N := 22) hx hb hts hi_8 tyX8 tyX8_ok nmX8 hown hK hP hD hS 0 rfl rfl 0 (by decide) (hts (.fieldLink RX8 53 "HubTrainsModel" "thrown" "I") (List.mem_of_getElem? (i := 1) rfl)) (fun _ h9 => h9) rfl (tyX8_ok 0 (by decide)) rfl rfl (Nat.le_of_ble_eq_true rfl) dX8_fails_13 (fun H locs hP hD hS => ?_)
      have hP : va_P G vwCl (wM c ax ((ss x.1 0 p1), x.2)) H := hP
      have hD : va_D A (wM c ax ((ss x.1 0 p1), x.2)) := hD
      exact J_16 ((ss x.1 0 p1), x.2) H locs ls hP hD hS (lv_sub hl [0] rfl) hm


def f_X8_in (p0 : Int32) (p1 : Int32) (p2 : Int32) : Option Int32 :=
  if p0 < p1 then (some (0)) else (if p2 < p0 then (some (0)) else (some (1)))

abbrev rm_X8_in : Room := { frames := 0, cells := 0, slots := 0, locals := 0 }
theorem hd_X8_in : yX8_in.cls = RX8 ∧ yX8_in.cls ≠ "java/lang/invoke/MethodHandle" ∧ yX8_in.cls ≠ "java/lang/invoke/VarHandle" ∧ (parseMethodDescriptor yX8_in.desc).map (fun d => d.parameters.length) = some 3 := by decide +kernel
set_option maxHeartbeats 4000000 in
set_option maxRecDepth 100000 in
theorem k_X8_in (l : Launch) (G : va_G) (K : (Nat → Nat) × (Nat → Nat)) (c : Nat → ClassId) (p0 : Int32) (p1 : Int32) (p2 : Int32) (r : Int32) (hm : f_X8_in p0 p1 p2 = some (r)) : zMi l yX8_in wsX8_in (rm_X8_in) G K (TY c) [.int p0, .int p1, .int p2] ([]) ([]) r := by
  refine zMi.of (cc := cX8_in) (maxL := 3) (lv := [(0, .int p0), (1, .int p1), (2, .int p2)]) (by decide) rfl (Nat.le_of_ble_eq_true rfl) rfl ?_
  intro p e s m args below meth c1 A Q H locs hx hb hml hown hts hK hN hZ hP hD hA hS hend ls hl
  have hown : s.vm.findClass RX8 = some m.cls := hown
  unfold f_X8_in at hm
  refine lv_iload_n hx hb dX8_in_0 rfl (lv_at hl 0 rfl) ?_
  refine lv_iload_n hx hb dX8_in_1 rfl (lv_at hl 1 rfl) ?_
  refine lv_icmp_lt (tgt := 14) hx hb dX8_in_2 (by decide) (fun c_2 => ?_) (fun c_2 => ?_)
  · have hm := ifp c_2 hm
    refine lv_iconst (v := 0) hx hb dX8_in_14 (by decide) ?_
    exact hend H locs ls _ _ _ (by decide) (Option.some.inj hm) rfl hP hD hS dX8_in_15
  · have hm := ifn c_2 hm
    refine lv_iload_n hx hb dX8_in_5 rfl (lv_at hl 0 rfl) ?_
    refine lv_iload_n hx hb dX8_in_6 rfl (lv_at hl 2 rfl) ?_
    refine lv_icmp_gt (tgt := 14) hx hb dX8_in_7 (by decide) (fun c_7 => ?_) (fun c_7 => ?_)
    · have hm := ifp c_7 hm
      refine lv_iconst (v := 0) hx hb dX8_in_14 (by decide) ?_
      exact hend H locs ls _ _ _ (by decide) (Option.some.inj hm) rfl hP hD hS dX8_in_15
    · have hm := ifn c_7 hm
      refine lv_iconst (v := 1) hx hb dX8_in_10 (by decide) ?_
      refine lv_goto (tgt := 15) hx hb dX8_in_11 (by decide) ?_
      exact hend H locs ls _ _ _ (by decide) (Option.some.inj hm) rfl hP hD hS dX8_in_15


def f_X8_min (p0 : Int32) (p1 : Int32) : Option Int32 :=
  if p1 ≤ p0 then (some (p1)) else (some (p0))

abbrev rm_X8_min : Room := { frames := 0, cells := 0, slots := 0, locals := 0 }
theorem hd_X8_min : yX8_min.cls = RX8 ∧ yX8_min.cls ≠ "java/lang/invoke/MethodHandle" ∧ yX8_min.cls ≠ "java/lang/invoke/VarHandle" ∧ (parseMethodDescriptor yX8_min.desc).map (fun d => d.parameters.length) = some 2 := by decide +kernel
set_option maxHeartbeats 4000000 in
set_option maxRecDepth 100000 in
theorem k_X8_min (l : Launch) (G : va_G) (K : (Nat → Nat) × (Nat → Nat)) (c : Nat → ClassId) (p0 : Int32) (p1 : Int32) (r : Int32) (hm : f_X8_min p0 p1 = some (r)) : zMi l yX8_min wsX8_min (rm_X8_min) G K (TY c) [.int p0, .int p1] ([]) ([]) r := by
  refine zMi.of (cc := cX8_min) (maxL := 2) (lv := [(0, .int p0), (1, .int p1)]) (by decide) rfl (Nat.le_of_ble_eq_true rfl) rfl ?_
  intro p e s m args below meth c1 A Q H locs hx hb hml hown hts hK hN hZ hP hD hA hS hend ls hl
  have hown : s.vm.findClass RX8 = some m.cls := hown
  unfold f_X8_min at hm
  refine lv_iload_n hx hb dX8_min_0 rfl (lv_at hl 0 rfl) ?_
  refine lv_iload_n hx hb dX8_min_1 rfl (lv_at hl 1 rfl) ?_
  refine lv_icmp_ge (tgt := 9) hx hb dX8_min_2 (by decide) (fun c_2 => ?_) (fun c_2 => ?_)
  · have hm := ifp c_2 hm
    refine lv_iload_n hx hb dX8_min_9 rfl (lv_at hl 1 rfl) ?_
    exact hend H locs ls _ _ _ rfl (Option.some.inj hm) rfl hP hD hS dX8_min_10
  · have hm := ifn c_2 hm
    refine lv_iload_n hx hb dX8_min_5 rfl (lv_at hl 0 rfl) ?_
    refine lv_goto (tgt := 10) hx hb dX8_min_6 (by decide) ?_
    exact hend H locs ls _ _ _ rfl (Option.some.inj hm) rfl hP hD hS dX8_min_10

def f_X8_copy_B2 (n0 : Nat) (n1 : Nat) (h0 : Nat → Int32) (p2 : Int32) (rec_2 : Int32 → (Nat → Int32) → Option ((Nat → Int32))) (v3_2 : Int32) (h1_2 : Nat → Int32) : Option ((Nat → Int32)) :=
  if p2 ≤ v3_2 then (some (h1_2)) else (gd (inb v3_2 n0) <| gd (inb v3_2 n1) <| nmd (upd h1_2 v3_2.toNatClampNeg (h0 v3_2.toNatClampNeg)) fun (w12 : Nat → Int32) => rec_2 (v3_2 + 1) w12)

def f_X8_copy (n0 : Nat) (n1 : Nat) (h0 : Nat → Int32) (h1 : Nat → Int32) (p2 : Int32) : Option ((Nat → Int32)) :=
  itr2 (f_X8_copy_B2 n0 n1 h0 p2) FUEL 0 h1

abbrev rm_X8_copy : Room := { frames := 0, cells := 0, slots := 0, locals := 0 }
theorem hd_X8_copy : yX8_copy.cls = RX8 ∧ yX8_copy.cls ≠ "java/lang/invoke/MethodHandle" ∧ yX8_copy.cls ≠ "java/lang/invoke/VarHandle" ∧ (parseMethodDescriptor yX8_copy.desc).map (fun d => d.parameters.length) = some 3 := by decide +kernel
set_option maxHeartbeats 4000000 in
set_option maxRecDepth 100000 in
theorem k_X8_copy (l : Launch) (G : va_G) (K : (Nat → Nat) × (Nat → Nat)) (c : Nat → ClassId) (q0 : Nat) (q1 : Nat) (n0 : Nat) (n1 : Nat) (h0 : Nat → Int32) (h1 : Nat → Int32) (p2 : Int32) (h1_r : Nat → Int32) (hm : f_X8_copy n0 n1 h0 h1 p2 = some (h1_r)) : zMv l yX8_copy wsX8_copy (rm_X8_copy) G K (TY c) [.ref q0, .ref q1, .int p2] (([(q0, .inl (c 0, n0, .inl h0))]) ++ ([(q1, .inl (c 0, n1, .inl h1))])) (([(q0, .inl (c 0, n0, .inl h0))]) ++ ([(q1, .inl (c 0, n1, .inl h1_r))])) := by
  refine zMv.of (cc := cX8_copy) (maxL := 4) (lv := [(0, .ref q0), (1, .ref q1), (2, .int p2)]) (by decide) rfl (Nat.le_of_ble_eq_true rfl) rfl ?_
  intro p e s m args below meth c1 A Q H locs hx hb hml hown hts hK hN hZ hP hD hA hS hend ls hl
  have hown : s.vm.findClass RX8 = some m.cls := hown
  unfold f_X8_copy at hm
  refine lv_iconst (v := 0) hx hb dX8_copy_0 (by decide) ?_
  refine lv_istore_n (lv' := [(3, .int 0), (0, .ref q0), (1, .ref q1), (2, .int p2)]) hx hb dX8_copy_1 rfl hl (by decide) rfl (fun ls hl => ?_)
  have L_2 : ∀ (n_2 : Nat) (v3_2 : Int32) (h1_2 : Nat → Int32) (H : Heap) (locs : List Loc) (ls : Array Slot), va_P G vwCl (([(q0, .inl (c 0, n0, .inl h0))]) ++ ([(q1, .inl (c 0, n1, .inl h1_2))])) H → va_D A (([(q0, .inl (c 0, n0, .inl h0))]) ++ ([(q1, .inl (c 0, n1, .inl h1_2))])) → va_S A s.heap H locs → lv_has ls 4 [(0, .ref q0), (1, .ref q1), (2, .int p2), (3, .int v3_2)] → itr2 (f_X8_copy_B2 n0 n1 h0 p2) n_2 v3_2 h1_2 = some (h1_r) → W p l e (rm_X8_copy) s m args below meth c1 H locs 0 0 Q (F0 m 2 ls []) := by
    intro n_2
    induction n_2 with
    | zero => intro v3_2 h1_2 H locs ls hP hD hS hl hm; exact (itr2_0 hm).elim
    | succ n_2 ih_2 =>
      intro v3_2 h1_2 H locs ls hP hD hS hl hm
      have hm := itr2_s hm
      unfold f_X8_copy_B2 at hm
      refine lv_iload_n hx hb dX8_copy_2 rfl (lv_at hl 3 rfl) ?_
      refine lv_iload_n hx hb dX8_copy_3 rfl (lv_at hl 2 rfl) ?_
      refine lv_icmp_ge (tgt := 19) hx hb dX8_copy_4 (by decide) (fun c_4 => ?_) (fun c_4 => ?_)
      · have hm := ifp c_4 hm
        exact hend H locs ls _ _ (zc1 (fun (z1 : Nat → Int32) => (([(q0, .inl (c 0, n0, .inl h0))]) ++ ([(q1, .inl (c 0, n1, .inl z1))]) : va_W)) (Option.some.inj hm)) hP hD hS dX8_copy_19
      · have hm := ifn c_4 hm
        refine lv_aload_n hx hb dX8_copy_7 rfl (lv_at hl 1 rfl) ?_
        refine lv_iload_n hx hb dX8_copy_8 rfl (lv_at hl 3 rfl) ?_
        refine lv_aload_n hx hb dX8_copy_9 rfl (lv_at hl 0 rfl) ?_
        refine lv_iload_n hx hb dX8_copy_10 rfl (lv_at hl 3 rfl) ?_
        obtain ⟨h_11, hm⟩ := gd_s hm
        refine va_iald (D := G) hx hb hK hP 0 0 rfl rfl (inb_s h_11) dX8_copy_11 ?_
        obtain ⟨h_12, hm⟩ := gd_s hm
        refine va_iast (D := G) hx hb hK hP hD hS 1 0 rfl rfl (inb_s h_12) dX8_copy_12 (fun H locs hP hD hS => ?_)
        obtain ⟨w12, e_w12⟩ : ∃ z : Nat → Int32, z = upd h1_2 v3_2.toNatClampNeg (h0 v3_2.toNatClampNeg) := ⟨_, rfl⟩
        have hP : va_P G vwCl (([(q0, .inl (c 0, n0, .inl h0))]) ++ ([(q1, .inl (c 0, n1, .inl w12))])) H := by rw [e_w12]; exact hP
        have hD : va_D A (([(q0, .inl (c 0, n0, .inl h0))]) ++ ([(q1, .inl (c 0, n1, .inl w12))])) := by rw [e_w12]; exact hD
        have hm := nmd_s hm w12 e_w12
        refine lv_iinc (k := 3) (v := (v3_2 + 1)) (lv' := [(3, .int (v3_2 + 1)), (0, .ref q0), (1, .ref q1), (2, .int p2)]) hx hb dX8_copy_13 hl rfl rfl (by decide) rfl (fun ls hl => ?_)
        refine lv_goto (tgt := 2) hx hb dX8_copy_16 (by decide) ?_
        exact ih_2 (v3_2 + 1) w12 H locs ls hP hD hS (lv_sub hl [1, 2, 3, 0] rfl) hm
  exact L_2 FUEL 0 h1 H locs ls hP hD hS (lv_sub hl [1, 2, 3, 0] rfl) hm

def f_X8_layGame_B46 (n0 : Nat) (rec_46 : Int32 → (Nat → Int32) → Option ((Nat → Int32))) (v4_46 : Int32) (h0_46 : Nat → Int32) : Option ((Nat → Int32)) :=
  if (100 : Int32) ≤ v4_46 then (some (h0_46)) else (gd (inb (19 + v4_46) n0) <| nmd (upd h0_46 (19 + v4_46).toNatClampNeg (-1)) fun (w60 : Nat → Int32) => rec_46 (v4_46 + 1) w60)

def f_X8_layGame_B3 (n0 : Nat) (p1 : Int32) (p2 : Int32) (p3 : Int32) (rec_3 : Int32 → (Nat → Int32) → Option ((Nat → Int32))) (v4_3 : Int32) (h0_3 : Nat → Int32) : Option ((Nat → Int32)) :=
  if (1464 : Int32) ≤ v4_3 then (gd (inb 0 n0) <| nmd (upd h0_3 (0 : Int32).toNatClampNeg p1) fun (w25 : Nat → Int32) => gd (inb 1 n0) <| nmd (upd w25 (1 : Int32).toNatClampNeg p2) fun (w29 : Nat → Int32) => gd (inb 2 n0) <| nmd (upd w29 (2 : Int32).toNatClampNeg p3) fun (w33 : Nat → Int32) => gd (inb 3 n0) <| nmd (upd w33 (3 : Int32).toNatClampNeg p1) fun (w37 : Nat → Int32) => gd (inb 11 n0) <| nmd (upd w37 (11 : Int32).toNatClampNeg 1) fun (w42 : Nat → Int32) => itr2 (f_X8_layGame_B46 n0) FUEL 0 w42) else (gd (inb v4_3 n0) <| nmd (upd h0_3 v4_3.toNatClampNeg 0) fun (w15 : Nat → Int32) => rec_3 (v4_3 + 1) w15)

def f_X8_layGame (n0 : Nat) (h0 : Nat → Int32) (p1 : Int32) (p2 : Int32) (p3 : Int32) : Option ((Nat → Int32)) :=
  itr2 (f_X8_layGame_B3 n0 p1 p2 p3) FUEL 0 h0

abbrev rm_X8_layGame : Room := { frames := 0, cells := 0, slots := 0, locals := 0 }
theorem hd_X8_layGame : yX8_layGame.cls = RX8 ∧ yX8_layGame.cls ≠ "java/lang/invoke/MethodHandle" ∧ yX8_layGame.cls ≠ "java/lang/invoke/VarHandle" ∧ (parseMethodDescriptor yX8_layGame.desc).map (fun d => d.parameters.length) = some 4 := by decide +kernel
set_option maxHeartbeats 4000000 in
set_option maxRecDepth 100000 in
theorem k_X8_layGame (l : Launch) (G : va_G) (K : (Nat → Nat) × (Nat → Nat)) (c : Nat → ClassId) (q0 : Nat) (n0 : Nat) (h0 : Nat → Int32) (p1 : Int32) (p2 : Int32) (p3 : Int32) (h0_r : Nat → Int32) (hm : f_X8_layGame n0 h0 p1 p2 p3 = some (h0_r)) : zMv l yX8_layGame wsX8_layGame (rm_X8_layGame) G K (TY c) [.ref q0, .int p1, .int p2, .int p3] ([(q0, .inl (c 0, n0, .inl h0))]) ([(q0, .inl (c 0, n0, .inl h0_r))]) := by
  refine zMv.of (cc := cX8_layGame) (maxL := 5) (lv := [(0, .ref q0), (1, .int p1), (2, .int p2), (3, .int p3)]) (by decide) rfl (Nat.le_of_ble_eq_true rfl) rfl ?_
  intro p e s m args below meth c1 A Q H locs hx hb hml hown hts hK hN hZ hP hD hA hS hend ls hl
  have hown : s.vm.findClass RX8 = some m.cls := hown
  unfold f_X8_layGame at hm
  refine lv_iconst (v := 0) hx hb dX8_layGame_0 (by decide) ?_
  refine lv_istore (lv' := [(4, .int 0), (0, .ref q0), (1, .int p1), (2, .int p2), (3, .int p3)]) hx hb dX8_layGame_1 hl (by decide) rfl (fun ls hl => ?_)
  have L_3 : ∀ (n_3 : Nat) (v4_3 : Int32) (h0_3 : Nat → Int32) (H : Heap) (locs : List Loc) (ls : Array Slot), va_P G vwCl ([(q0, .inl (c 0, n0, .inl h0_3))]) H → va_D A ([(q0, .inl (c 0, n0, .inl h0_3))]) → va_S A s.heap H locs → lv_has ls 5 [(0, .ref q0), (1, .int p1), (2, .int p2), (3, .int p3), (4, .int v4_3)] → itr2 (f_X8_layGame_B3 n0 p1 p2 p3) n_3 v4_3 h0_3 = some (h0_r) → W p l e (rm_X8_layGame) s m args below meth c1 H locs 0 0 Q (F0 m 3 ls []) := by
    intro n_3
    induction n_3 with
    | zero => intro v4_3 h0_3 H locs ls hP hD hS hl hm; exact (itr2_0 hm).elim
    | succ n_3 ih_3 =>
      intro v4_3 h0_3 H locs ls hP hD hS hl hm
      have hm := itr2_s hm
      unfold f_X8_layGame_B3 at hm
      refine lv_iload hx hb dX8_layGame_3 (lv_at hl 4 rfl) ?_
      refine lv_sipush (v := 1464) hx hb dX8_layGame_5 (by decide) ?_
      refine lv_icmp_ge (tgt := 22) hx hb dX8_layGame_8 (by decide) (fun c_8 => ?_) (fun c_8 => ?_)
      · have hm := ifp c_8 hm
        refine lv_aload_n hx hb dX8_layGame_22 rfl (lv_at hl 0 rfl) ?_
        refine lv_iconst (v := 0) hx hb dX8_layGame_23 (by decide) ?_
        refine lv_iload_n hx hb dX8_layGame_24 rfl (lv_at hl 1 rfl) ?_
        obtain ⟨h_25, hm⟩ := gd_s hm
        refine va_iast (D := G) hx hb hK hP hD hS 0 0 rfl rfl (inb_s h_25) dX8_layGame_25 (fun H locs hP hD hS => ?_)
        obtain ⟨w25, e_w25⟩ : ∃ z : Nat → Int32, z = upd h0_3 (0 : Int32).toNatClampNeg p1 := ⟨_, rfl⟩
        have hP : va_P G vwCl ([(q0, .inl (c 0, n0, .inl w25))]) H := by rw [e_w25]; exact hP
        have hD : va_D A ([(q0, .inl (c 0, n0, .inl w25))]) := by rw [e_w25]; exact hD
        have hm := nmd_s hm w25 e_w25
        refine lv_aload_n hx hb dX8_layGame_26 rfl (lv_at hl 0 rfl) ?_
        refine lv_iconst (v := 1) hx hb dX8_layGame_27 (by decide) ?_
        refine lv_iload_n hx hb dX8_layGame_28 rfl (lv_at hl 2 rfl) ?_
        obtain ⟨h_29, hm⟩ := gd_s hm
        refine va_iast (D := G) hx hb hK hP hD hS 0 0 rfl rfl (inb_s h_29) dX8_layGame_29 (fun H locs hP hD hS => ?_)
        obtain ⟨w29, e_w29⟩ : ∃ z : Nat → Int32, z = upd w25 (1 : Int32).toNatClampNeg p2 := ⟨_, rfl⟩
        have hP : va_P G vwCl ([(q0, .inl (c 0, n0, .inl w29))]) H := by rw [e_w29]; exact hP
        have hD : va_D A ([(q0, .inl (c 0, n0, .inl w29))]) := by rw [e_w29]; exact hD
        have hm := nmd_s hm w29 e_w29
        refine lv_aload_n hx hb dX8_layGame_30 rfl (lv_at hl 0 rfl) ?_
        refine lv_iconst (v := 2) hx hb dX8_layGame_31 (by decide) ?_
        refine lv_iload_n hx hb dX8_layGame_32 rfl (lv_at hl 3 rfl) ?_
        obtain ⟨h_33, hm⟩ := gd_s hm
        refine va_iast (D := G) hx hb hK hP hD hS 0 0 rfl rfl (inb_s h_33) dX8_layGame_33 (fun H locs hP hD hS => ?_)
        obtain ⟨w33, e_w33⟩ : ∃ z : Nat → Int32, z = upd w29 (2 : Int32).toNatClampNeg p3 := ⟨_, rfl⟩
        have hP : va_P G vwCl ([(q0, .inl (c 0, n0, .inl w33))]) H := by rw [e_w33]; exact hP
        have hD : va_D A ([(q0, .inl (c 0, n0, .inl w33))]) := by rw [e_w33]; exact hD
        have hm := nmd_s hm w33 e_w33
        refine lv_aload_n hx hb dX8_layGame_34 rfl (lv_at hl 0 rfl) ?_
        refine lv_iconst (v := 3) hx hb dX8_layGame_35 (by decide) ?_
        refine lv_iload_n hx hb dX8_layGame_36 rfl (lv_at hl 1 rfl) ?_
        obtain ⟨h_37, hm⟩ := gd_s hm
        refine va_iast (D := G) hx hb hK hP hD hS 0 0 rfl rfl (inb_s h_37) dX8_layGame_37 (fun H locs hP hD hS => ?_)
        obtain ⟨w37, e_w37⟩ : ∃ z : Nat → Int32, z = upd w33 (3 : Int32).toNatClampNeg p1 := ⟨_, rfl⟩
        have hP : va_P G vwCl ([(q0, .inl (c 0, n0, .inl w37))]) H := by rw [e_w37]; exact hP
        have hD : va_D A ([(q0, .inl (c 0, n0, .inl w37))]) := by rw [e_w37]; exact hD
        have hm := nmd_s hm w37 e_w37
        refine lv_aload_n hx hb dX8_layGame_38 rfl (lv_at hl 0 rfl) ?_
        refine lv_bipush (v := 11) hx hb dX8_layGame_39 (by decide) ?_
        refine lv_iconst (v := 1) hx hb dX8_layGame_41 (by decide) ?_
        obtain ⟨h_42, hm⟩ := gd_s hm
        refine va_iast (D := G) hx hb hK hP hD hS 0 0 rfl rfl (inb_s h_42) dX8_layGame_42 (fun H locs hP hD hS => ?_)
        obtain ⟨w42, e_w42⟩ : ∃ z : Nat → Int32, z = upd w37 (11 : Int32).toNatClampNeg 1 := ⟨_, rfl⟩
        have hP : va_P G vwCl ([(q0, .inl (c 0, n0, .inl w42))]) H := by rw [e_w42]; exact hP
        have hD : va_D A ([(q0, .inl (c 0, n0, .inl w42))]) := by rw [e_w42]; exact hD
        have hm := nmd_s hm w42 e_w42
        refine lv_iconst (v := 0) hx hb dX8_layGame_43 (by decide) ?_
        refine lv_istore (lv' := [(4, .int 0), (0, .ref q0), (1, .int p1), (2, .int p2), (3, .int p3)]) hx hb dX8_layGame_44 hl (by decide) rfl (fun ls hl => ?_)
        have L_46 : ∀ (n_46 : Nat) (v4_46 : Int32) (h0_46 : Nat → Int32) (H : Heap) (locs : List Loc) (ls : Array Slot), va_P G vwCl ([(q0, .inl (c 0, n0, .inl h0_46))]) H → va_D A ([(q0, .inl (c 0, n0, .inl h0_46))]) → va_S A s.heap H locs → lv_has ls 5 [(0, .ref q0), (4, .int v4_46)] → itr2 (f_X8_layGame_B46 n0) n_46 v4_46 h0_46 = some (h0_r) → W p l e (rm_X8_layGame) s m args below meth c1 H locs 0 0 Q (F0 m 46 ls []) := by
          intro n_46
          induction n_46 with
          | zero => intro v4_46 h0_46 H locs ls hP hD hS hl hm; exact (itr2_0 hm).elim
          | succ n_46 ih_46 =>
            intro v4_46 h0_46 H locs ls hP hD hS hl hm
            have hm := itr2_s hm
            unfold f_X8_layGame_B46 at hm
            refine lv_iload hx hb dX8_layGame_46 (lv_at hl 1 rfl) ?_
            refine lv_bipush (v := 100) hx hb dX8_layGame_48 (by decide) ?_
            refine lv_icmp_ge (tgt := 67) hx hb dX8_layGame_50 (by decide) (fun c_50 => ?_) (fun c_50 => ?_)
            · have hm := ifp c_50 hm
              exact hend H locs ls _ _ (zc1 (fun (z0 : Nat → Int32) => ([(q0, .inl (c 0, n0, .inl z0))] : va_W)) (Option.some.inj hm)) hP hD hS dX8_layGame_67
            · have hm := ifn c_50 hm
              refine lv_aload_n hx hb dX8_layGame_53 rfl (lv_at hl 0 rfl) ?_
              refine lv_bipush (v := 19) hx hb dX8_layGame_54 (by decide) ?_
              refine lv_iload hx hb dX8_layGame_56 (lv_at hl 1 rfl) ?_
              refine lv_iadd hx hb dX8_layGame_58 ?_
              refine lv_iconst (v := (-1)) hx hb dX8_layGame_59 (by decide) ?_
              obtain ⟨h_60, hm⟩ := gd_s hm
              refine va_iast (D := G) hx hb hK hP hD hS 0 0 rfl rfl (inb_s h_60) dX8_layGame_60 (fun H locs hP hD hS => ?_)
              obtain ⟨w60, e_w60⟩ : ∃ z : Nat → Int32, z = upd h0_46 (19 + v4_46).toNatClampNeg (-1) := ⟨_, rfl⟩
              have hP : va_P G vwCl ([(q0, .inl (c 0, n0, .inl w60))]) H := by rw [e_w60]; exact hP
              have hD : va_D A ([(q0, .inl (c 0, n0, .inl w60))]) := by rw [e_w60]; exact hD
              have hm := nmd_s hm w60 e_w60
              refine lv_iinc (k := 1) (v := (v4_46 + 1)) (lv' := [(4, .int (v4_46 + 1)), (0, .ref q0)]) hx hb dX8_layGame_61 hl rfl rfl (by decide) rfl (fun ls hl => ?_)
              refine lv_goto (tgt := 46) hx hb dX8_layGame_64 (by decide) ?_
              exact ih_46 (v4_46 + 1) w60 H locs ls hP hD hS (lv_sub hl [1, 0] rfl) hm
        exact L_46 FUEL 0 w42 H locs ls hP hD hS (lv_sub hl [1, 0] rfl) hm
      · have hm := ifn c_8 hm
        refine lv_aload_n hx hb dX8_layGame_11 rfl (lv_at hl 0 rfl) ?_
        refine lv_iload hx hb dX8_layGame_12 (lv_at hl 4 rfl) ?_
        refine lv_iconst (v := 0) hx hb dX8_layGame_14 (by decide) ?_
        obtain ⟨h_15, hm⟩ := gd_s hm
        refine va_iast (D := G) hx hb hK hP hD hS 0 0 rfl rfl (inb_s h_15) dX8_layGame_15 (fun H locs hP hD hS => ?_)
        obtain ⟨w15, e_w15⟩ : ∃ z : Nat → Int32, z = upd h0_3 v4_3.toNatClampNeg 0 := ⟨_, rfl⟩
        have hP : va_P G vwCl ([(q0, .inl (c 0, n0, .inl w15))]) H := by rw [e_w15]; exact hP
        have hD : va_D A ([(q0, .inl (c 0, n0, .inl w15))]) := by rw [e_w15]; exact hD
        have hm := nmd_s hm w15 e_w15
        refine lv_iinc (k := 4) (v := (v4_3 + 1)) (lv' := [(4, .int (v4_3 + 1)), (0, .ref q0), (1, .int p1), (2, .int p2), (3, .int p3)]) hx hb dX8_layGame_16 hl rfl rfl (by decide) rfl (fun ls hl => ?_)
        refine lv_goto (tgt := 3) hx hb dX8_layGame_19 (by decide) ?_
        exact ih_3 (v4_3 + 1) w15 H locs ls hP hD hS (lv_sub hl [1, 2, 3, 4, 0] rfl) hm
  exact L_3 FUEL 0 h0 H locs ls hP hD hS (lv_sub hl [1, 2, 3, 4, 0] rfl) hm


def f_X8_isTile (n0 : Nat) (h0 : Nat → Int32) (p1 : Int32) : Option Int32 :=
  bd1 (f_X8_in p1 0 99) fun (r4 : Int32) => if r4 = 0 then (some (0)) else (if (p1 - p1 / 10 * 10) < (p1 / 10) then (some (0)) else (gd (inb 0 n0) <| if (h0 (0 : Int32).toNatClampNeg) < (p1 - p1 / 10 * 10) then (some (0)) else (some (1))))

abbrev rm_X8_isTile : Room := { frames := 1, cells := 0, slots := 0, locals := 22 }
theorem hd_X8_isTile : yX8_isTile.cls = RX8 ∧ yX8_isTile.cls ≠ "java/lang/invoke/MethodHandle" ∧ yX8_isTile.cls ≠ "java/lang/invoke/VarHandle" ∧ (parseMethodDescriptor yX8_isTile.desc).map (fun d => d.parameters.length) = some 2 := by decide +kernel
set_option maxHeartbeats 4000000 in
set_option maxRecDepth 100000 in
theorem k_X8_isTile (l : Launch) (G : va_G) (K : (Nat → Nat) × (Nat → Nat)) (c : Nat → ClassId) (q0 : Nat) (n0 : Nat) (h0 : Nat → Int32) (p1 : Int32) (r : Int32) (hm : f_X8_isTile n0 h0 p1 = some (r)) : zMi l yX8_isTile wsX8_isTile (rm_X8_isTile) G K (TY c) [.ref q0, .int p1] ([(q0, .inl (c 0, n0, .inl h0))]) ([(q0, .inl (c 0, n0, .inl h0))]) r := by
  refine zMi.of (cc := cX8_isTile) (maxL := 2) (lv := [(0, .ref q0), (1, .int p1)]) (by decide) rfl (Nat.le_of_ble_eq_true rfl) rfl ?_
  intro p e s m args below meth c1 A Q H locs hx hb hml hown hts hK hN hZ hP hD hA hS hend ls hl
  have hown : s.vm.findClass RX8 = some m.cls := hown
  unfold f_X8_isTile at hm
  refine lv_iload_n hx hb dX8_isTile_0 rfl (lv_at hl 1 rfl) ?_
  refine lv_iconst (v := 0) hx hb dX8_isTile_1 (by decide) ?_
  refine lv_bipush (v := 99) hx hb dX8_isTile_2 (by decide) ?_
  obtain ⟨r4, e_4, hm⟩ := bd1_s hm
  refine zcSi (As := [.int p1, .int 0, .int 99]) (rest := []) ⟨hx, hb, hml, hown, hts⟩ (k_X8_in l G K c p1 0 99 r4 e_4) (va_cwS 3 hts gX8_isTile_X8_in rfl rfl rfl hd_X8_in.2 ⟨Nat.le_of_ble_eq_true rfl, Nat.le_of_ble_eq_true rfl⟩) hK hN hZ hP hD hS hA [] rfl (by decide) rfl rfl hl.1 rfl (Nat.le_of_ble_eq_true rfl) dX8_isTile_4 ⟨Nat.zero_le _, Nat.zero_le _⟩ (fun H locs hP hD hS => ?_)
  have hP : va_P G vwCl ([(q0, .inl (c 0, n0, .inl h0))]) H := hP
  have hD : va_D A ([(q0, .inl (c 0, n0, .inl h0))]) := hD
  refine lv_if_eq (tgt := 35) hx hb dX8_isTile_7 (by decide) (fun c_7 => ?_) (fun c_7 => ?_)
  · have hm := ifp c_7 hm
    refine lv_iconst (v := 0) hx hb dX8_isTile_35 (by decide) ?_
    exact hend H locs ls _ _ _ (by decide) (Option.some.inj hm) rfl hP hD hS dX8_isTile_36
  · have hm := ifn c_7 hm
    refine lv_iload_n hx hb dX8_isTile_10 rfl (lv_at hl 1 rfl) ?_
    refine lv_bipush (v := 10) hx hb dX8_isTile_11 (by decide) ?_
    refine lv_idiv hx hb dX8_isTile_13 (by decide) ?_
    refine lv_iload_n hx hb dX8_isTile_14 rfl (lv_at hl 1 rfl) ?_
    refine lv_bipush (v := 10) hx hb dX8_isTile_15 (by decide) ?_
    refine lv_irem hx hb dX8_isTile_17 (by decide) ?_
    refine lv_icmp_gt (tgt := 35) hx hb dX8_isTile_18 (by decide) (fun c_18 => ?_) (fun c_18 => ?_)
    · have hm := ifp c_18 hm
      refine lv_iconst (v := 0) hx hb dX8_isTile_35 (by decide) ?_
      exact hend H locs ls _ _ _ (by decide) (Option.some.inj hm) rfl hP hD hS dX8_isTile_36
    · have hm := ifn c_18 hm
      refine lv_iload_n hx hb dX8_isTile_21 rfl (lv_at hl 1 rfl) ?_
      refine lv_bipush (v := 10) hx hb dX8_isTile_22 (by decide) ?_
      refine lv_irem hx hb dX8_isTile_24 (by decide) ?_
      refine lv_aload_n hx hb dX8_isTile_25 rfl (lv_at hl 0 rfl) ?_
      refine lv_iconst (v := 0) hx hb dX8_isTile_26 (by decide) ?_
      obtain ⟨h_27, hm⟩ := gd_s hm
      refine va_iald (D := G) hx hb hK hP 0 0 rfl rfl (inb_s h_27) dX8_isTile_27 ?_
      refine lv_icmp_gt (tgt := 35) hx hb dX8_isTile_28 (by decide) (fun c_28 => ?_) (fun c_28 => ?_)
      · have hm := ifp c_28 hm
        refine lv_iconst (v := 0) hx hb dX8_isTile_35 (by decide) ?_
        exact hend H locs ls _ _ _ (by decide) (Option.some.inj hm) rfl hP hD hS dX8_isTile_36
      · have hm := ifn c_28 hm
        refine lv_iconst (v := 1) hx hb dX8_isTile_31 (by decide) ?_
        refine lv_goto (tgt := 36) hx hb dX8_isTile_32 (by decide) ?_
        exact hend H locs ls _ _ _ (by decide) (Option.some.inj hm) rfl hP hD hS dX8_isTile_36


def f_X8_pipsOf (p0 : Int32) : Option Int32 :=
  some (((p0 / 10) + (p0 - p0 / 10 * 10)))

abbrev rm_X8_pipsOf : Room := { frames := 0, cells := 0, slots := 0, locals := 0 }
theorem hd_X8_pipsOf : yX8_pipsOf.cls = RX8 ∧ yX8_pipsOf.cls ≠ "java/lang/invoke/MethodHandle" ∧ yX8_pipsOf.cls ≠ "java/lang/invoke/VarHandle" ∧ (parseMethodDescriptor yX8_pipsOf.desc).map (fun d => d.parameters.length) = some 1 := by decide +kernel
set_option maxHeartbeats 4000000 in
set_option maxRecDepth 100000 in
theorem k_X8_pipsOf (l : Launch) (G : va_G) (K : (Nat → Nat) × (Nat → Nat)) (c : Nat → ClassId) (p0 : Int32) (r : Int32) (hm : f_X8_pipsOf p0 = some (r)) : zMi l yX8_pipsOf wsX8_pipsOf (rm_X8_pipsOf) G K (TY c) [.int p0] ([]) ([]) r := by
  refine zMi.of (cc := cX8_pipsOf) (maxL := 1) (lv := [(0, .int p0)]) (by decide) rfl (Nat.le_of_ble_eq_true rfl) rfl ?_
  intro p e s m args below meth c1 A Q H locs hx hb hml hown hts hK hN hZ hP hD hA hS hend ls hl
  have hown : s.vm.findClass RX8 = some m.cls := hown
  unfold f_X8_pipsOf at hm
  refine lv_iload_n hx hb dX8_pipsOf_0 rfl (lv_at hl 0 rfl) ?_
  refine lv_bipush (v := 10) hx hb dX8_pipsOf_1 (by decide) ?_
  refine lv_idiv hx hb dX8_pipsOf_3 (by decide) ?_
  refine lv_iload_n hx hb dX8_pipsOf_4 rfl (lv_at hl 0 rfl) ?_
  refine lv_bipush (v := 10) hx hb dX8_pipsOf_5 (by decide) ?_
  refine lv_irem hx hb dX8_pipsOf_7 (by decide) ?_
  refine lv_iadd hx hb dX8_pipsOf_8 ?_
  exact hend H locs ls _ _ _ rfl (Option.some.inj hm) rfl hP hD hS dX8_pipsOf_9


def f_X8_isDouble (p0 : Int32) : Option Int32 :=
  if (p0 / 10) = (p0 - p0 / 10 * 10) then (some (1)) else (some (0))

abbrev rm_X8_isDouble : Room := { frames := 0, cells := 0, slots := 0, locals := 0 }
theorem hd_X8_isDouble : yX8_isDouble.cls = RX8 ∧ yX8_isDouble.cls ≠ "java/lang/invoke/MethodHandle" ∧ yX8_isDouble.cls ≠ "java/lang/invoke/VarHandle" ∧ (parseMethodDescriptor yX8_isDouble.desc).map (fun d => d.parameters.length) = some 1 := by decide +kernel
set_option maxHeartbeats 4000000 in
set_option maxRecDepth 100000 in
theorem k_X8_isDouble (l : Launch) (G : va_G) (K : (Nat → Nat) × (Nat → Nat)) (c : Nat → ClassId) (p0 : Int32) (r : Int32) (hm : f_X8_isDouble p0 = some (r)) : zMi l yX8_isDouble wsX8_isDouble (rm_X8_isDouble) G K (TY c) [.int p0] ([]) ([]) r := by
  refine zMi.of (cc := cX8_isDouble) (maxL := 1) (lv := [(0, .int p0)]) (by decide) rfl (Nat.le_of_ble_eq_true rfl) rfl ?_
  intro p e s m args below meth c1 A Q H locs hx hb hml hown hts hK hN hZ hP hD hA hS hend ls hl
  have hown : s.vm.findClass RX8 = some m.cls := hown
  unfold f_X8_isDouble at hm
  refine lv_iload_n hx hb dX8_isDouble_0 rfl (lv_at hl 0 rfl) ?_
  refine lv_bipush (v := 10) hx hb dX8_isDouble_1 (by decide) ?_
  refine lv_idiv hx hb dX8_isDouble_3 (by decide) ?_
  refine lv_iload_n hx hb dX8_isDouble_4 rfl (lv_at hl 0 rfl) ?_
  refine lv_bipush (v := 10) hx hb dX8_isDouble_5 (by decide) ?_
  refine lv_irem hx hb dX8_isDouble_7 (by decide) ?_
  refine lv_icmp_ne (tgt := 15) hx hb dX8_isDouble_8 (by decide) (fun c_8 => ?_) (fun c_8 => ?_)
  · have hm := ifn c_8 hm
    refine lv_iconst (v := 0) hx hb dX8_isDouble_15 (by decide) ?_
    exact hend H locs ls _ _ _ (by decide) (Option.some.inj hm) rfl hP hD hS dX8_isDouble_16
  · have hm := ifp c_8 hm
    refine lv_iconst (v := 1) hx hb dX8_isDouble_11 (by decide) ?_
    refine lv_goto (tgt := 16) hx hb dX8_isDouble_12 (by decide) ?_
    exact hend H locs ls _ _ _ (by decide) (Option.some.inj hm) rfl hP hD hS dX8_isDouble_16


def f_X8_codeOf (p0 : Int32) (p1 : Int32) : Option Int32 :=
  bd1 (f_X8_min p0 p1) fun (r4 : Int32) => bd1 (f_X8_min p0 p1) fun (r14 : Int32) => some (((((10 * r4) + p0) + p1) - r14))

abbrev rm_X8_codeOf : Room := { frames := 1, cells := 0, slots := 0, locals := 21 }
theorem hd_X8_codeOf : yX8_codeOf.cls = RX8 ∧ yX8_codeOf.cls ≠ "java/lang/invoke/MethodHandle" ∧ yX8_codeOf.cls ≠ "java/lang/invoke/VarHandle" ∧ (parseMethodDescriptor yX8_codeOf.desc).map (fun d => d.parameters.length) = some 2 := by decide +kernel
set_option maxHeartbeats 4000000 in
set_option maxRecDepth 100000 in
theorem k_X8_codeOf (l : Launch) (G : va_G) (K : (Nat → Nat) × (Nat → Nat)) (c : Nat → ClassId) (p0 : Int32) (p1 : Int32) (r : Int32) (hm : f_X8_codeOf p0 p1 = some (r)) : zMi l yX8_codeOf wsX8_codeOf (rm_X8_codeOf) G K (TY c) [.int p0, .int p1] ([]) ([]) r := by
  refine zMi.of (cc := cX8_codeOf) (maxL := 2) (lv := [(0, .int p0), (1, .int p1)]) (by decide) rfl (Nat.le_of_ble_eq_true rfl) rfl ?_
  intro p e s m args below meth c1 A Q H locs hx hb hml hown hts hK hN hZ hP hD hA hS hend ls hl
  have hown : s.vm.findClass RX8 = some m.cls := hown
  unfold f_X8_codeOf at hm
  refine lv_bipush (v := 10) hx hb dX8_codeOf_0 (by decide) ?_
  refine lv_iload_n hx hb dX8_codeOf_2 rfl (lv_at hl 0 rfl) ?_
  refine lv_iload_n hx hb dX8_codeOf_3 rfl (lv_at hl 1 rfl) ?_
  obtain ⟨r4, e_4, hm⟩ := bd1_s hm
  refine zcSi (As := [.int p0, .int p1]) (rest := [.int 10]) ⟨hx, hb, hml, hown, hts⟩ (k_X8_min l G K c p0 p1 r4 e_4) (va_cwS 2 hts gX8_codeOf_X8_min rfl rfl rfl hd_X8_min.2 ⟨Nat.le_of_ble_eq_true rfl, Nat.le_of_ble_eq_true rfl⟩) hK hN hZ hP hD hS hA [] rfl (by decide) rfl rfl hl.1 rfl (Nat.le_of_ble_eq_true rfl) dX8_codeOf_4 ⟨Nat.zero_le _, Nat.zero_le _⟩ (fun H locs hP hD hS => ?_)
  have hP : va_P G vwCl ([]) H := hP
  have hD : va_D A ([]) := hD
  refine lv_imul hx hb dX8_codeOf_7 ?_
  refine lv_iload_n hx hb dX8_codeOf_8 rfl (lv_at hl 0 rfl) ?_
  refine lv_iadd hx hb dX8_codeOf_9 ?_
  refine lv_iload_n hx hb dX8_codeOf_10 rfl (lv_at hl 1 rfl) ?_
  refine lv_iadd hx hb dX8_codeOf_11 ?_
  refine lv_iload_n hx hb dX8_codeOf_12 rfl (lv_at hl 0 rfl) ?_
  refine lv_iload_n hx hb dX8_codeOf_13 rfl (lv_at hl 1 rfl) ?_
  obtain ⟨r14, e_14, hm⟩ := bd1_s hm
  refine zcSi (As := [.int p0, .int p1]) (rest := [.int (((10 * r4) + p0) + p1)]) ⟨hx, hb, hml, hown, hts⟩ (k_X8_min l G K c p0 p1 r14 e_14) (va_cwS 2 hts gX8_codeOf_X8_min rfl rfl rfl hd_X8_min.2 ⟨Nat.le_of_ble_eq_true rfl, Nat.le_of_ble_eq_true rfl⟩) hK hN hZ hP hD hS hA [] rfl (by decide) rfl rfl hl.1 rfl (Nat.le_of_ble_eq_true rfl) dX8_codeOf_14 ⟨Nat.zero_le _, Nat.zero_le _⟩ (fun H locs hP hD hS => ?_)
  have hP : va_P G vwCl ([]) H := hP
  have hD : va_D A ([]) := hD
  refine lv_isub hx hb dX8_codeOf_17 ?_
  exact hend H locs ls _ _ _ rfl (Option.some.inj hm) rfl hP hD hS dX8_codeOf_18

def f_X8_handOf_B4 (n0 : Nat) (h0 : Nat → Int32) (p1 : Int32) (rec_4 : Int32 → Int32 → Option Int32) (v2_4 : Int32) (v3_4 : Int32) : Option Int32 :=
  if (100 : Int32) ≤ v3_4 then (some (v2_4)) else (gd (inb (19 + v3_4) n0) <| if (h0 (19 + v3_4).toNatClampNeg) = p1 then (rec_4 (v2_4 + 1) (v3_4 + 1)) else (rec_4 (v2_4 + 0) (v3_4 + 1)))

def f_X8_handOf (n0 : Nat) (h0 : Nat → Int32) (p1 : Int32) : Option Int32 :=
  itr2 (f_X8_handOf_B4 n0 h0 p1) FUEL 0 0

abbrev rm_X8_handOf : Room := { frames := 0, cells := 0, slots := 0, locals := 0 }
theorem hd_X8_handOf : yX8_handOf.cls = RX8 ∧ yX8_handOf.cls ≠ "java/lang/invoke/MethodHandle" ∧ yX8_handOf.cls ≠ "java/lang/invoke/VarHandle" ∧ (parseMethodDescriptor yX8_handOf.desc).map (fun d => d.parameters.length) = some 2 := by decide +kernel
set_option maxHeartbeats 4000000 in
set_option maxRecDepth 100000 in
theorem k_X8_handOf (l : Launch) (G : va_G) (K : (Nat → Nat) × (Nat → Nat)) (c : Nat → ClassId) (q0 : Nat) (n0 : Nat) (h0 : Nat → Int32) (p1 : Int32) (r : Int32) (hm : f_X8_handOf n0 h0 p1 = some (r)) : zMi l yX8_handOf wsX8_handOf (rm_X8_handOf) G K (TY c) [.ref q0, .int p1] ([(q0, .inl (c 0, n0, .inl h0))]) ([(q0, .inl (c 0, n0, .inl h0))]) r := by
  refine zMi.of (cc := cX8_handOf) (maxL := 4) (lv := [(0, .ref q0), (1, .int p1)]) (by decide) rfl (Nat.le_of_ble_eq_true rfl) rfl ?_
  intro p e s m args below meth c1 A Q H locs hx hb hml hown hts hK hN hZ hP hD hA hS hend ls hl
  have hown : s.vm.findClass RX8 = some m.cls := hown
  unfold f_X8_handOf at hm
  refine lv_iconst (v := 0) hx hb dX8_handOf_0 (by decide) ?_
  refine lv_istore_n (lv' := [(2, .int 0), (0, .ref q0), (1, .int p1)]) hx hb dX8_handOf_1 rfl hl (by decide) rfl (fun ls hl => ?_)
  refine lv_iconst (v := 0) hx hb dX8_handOf_2 (by decide) ?_
  refine lv_istore_n (lv' := [(3, .int 0), (2, .int 0), (0, .ref q0), (1, .int p1)]) hx hb dX8_handOf_3 rfl hl (by decide) rfl (fun ls hl => ?_)
  have L_4 : ∀ (n_4 : Nat) (v2_4 : Int32) (v3_4 : Int32) (H : Heap) (locs : List Loc) (ls : Array Slot), va_P G vwCl ([(q0, .inl (c 0, n0, .inl h0))]) H → va_D A ([(q0, .inl (c 0, n0, .inl h0))]) → va_S A s.heap H locs → lv_has ls 4 [(0, .ref q0), (1, .int p1), (2, .int v2_4), (3, .int v3_4)] → itr2 (f_X8_handOf_B4 n0 h0 p1) n_4 v2_4 v3_4 = some (r) → W p l e (rm_X8_handOf) s m args below meth c1 H locs 0 0 Q (F0 m 4 ls []) := by
    intro n_4
    induction n_4 with
    | zero => intro v2_4 v3_4 H locs ls hP hD hS hl hm; exact (itr2_0 hm).elim
    | succ n_4 ih_4 =>
      intro v2_4 v3_4 H locs ls hP hD hS hl hm
      have hm := itr2_s hm
      unfold f_X8_handOf_B4 at hm
      refine lv_iload_n hx hb dX8_handOf_4 rfl (lv_at hl 3 rfl) ?_
      refine lv_bipush (v := 100) hx hb dX8_handOf_5 (by decide) ?_
      refine lv_icmp_ge (tgt := 34) hx hb dX8_handOf_7 (by decide) (fun c_7 => ?_) (fun c_7 => ?_)
      · have hm := ifp c_7 hm
        refine lv_iload_n hx hb dX8_handOf_34 rfl (lv_at hl 2 rfl) ?_
        exact hend H locs ls _ _ _ rfl (Option.some.inj hm) rfl hP hD hS dX8_handOf_35
      · have hm := ifn c_7 hm
        refine lv_iload_n hx hb dX8_handOf_10 rfl (lv_at hl 2 rfl) ?_
        refine lv_aload_n hx hb dX8_handOf_11 rfl (lv_at hl 0 rfl) ?_
        refine lv_bipush (v := 19) hx hb dX8_handOf_12 (by decide) ?_
        refine lv_iload_n hx hb dX8_handOf_14 rfl (lv_at hl 3 rfl) ?_
        refine lv_iadd hx hb dX8_handOf_15 ?_
        obtain ⟨h_16, hm⟩ := gd_s hm
        refine va_iald (D := G) hx hb hK hP 0 0 rfl rfl (inb_s h_16) dX8_handOf_16 ?_
        refine lv_iload_n hx hb dX8_handOf_17 rfl (lv_at hl 1 rfl) ?_
        refine lv_icmp_ne (tgt := 25) hx hb dX8_handOf_18 (by decide) (fun c_18 => ?_) (fun c_18 => ?_)
        · have hm := ifn c_18 hm
          refine lv_iconst (v := 0) hx hb dX8_handOf_25 (by decide) ?_
          refine lv_iadd hx hb dX8_handOf_26 ?_
          refine lv_istore_n (lv' := [(2, .int (v2_4 + 0)), (0, .ref q0), (1, .int p1), (3, .int v3_4)]) hx hb dX8_handOf_27 rfl hl (by decide) rfl (fun ls hl => ?_)
          refine lv_iinc (k := 3) (v := (v3_4 + 1)) (lv' := [(3, .int (v3_4 + 1)), (2, .int (v2_4 + 0)), (0, .ref q0), (1, .int p1)]) hx hb dX8_handOf_28 hl rfl rfl (by decide) rfl (fun ls hl => ?_)
          refine lv_goto (tgt := 4) hx hb dX8_handOf_31 (by decide) ?_
          exact ih_4 (v2_4 + 0) (v3_4 + 1) H locs ls hP hD hS (lv_sub hl [2, 3, 1, 0] rfl) hm
        · have hm := ifp c_18 hm
          refine lv_iconst (v := 1) hx hb dX8_handOf_21 (by decide) ?_
          refine lv_goto (tgt := 26) hx hb dX8_handOf_22 (by decide) ?_
          refine lv_iadd hx hb dX8_handOf_26 ?_
          refine lv_istore_n (lv' := [(2, .int (v2_4 + 1)), (0, .ref q0), (1, .int p1), (3, .int v3_4)]) hx hb dX8_handOf_27 rfl hl (by decide) rfl (fun ls hl => ?_)
          refine lv_iinc (k := 3) (v := (v3_4 + 1)) (lv' := [(3, .int (v3_4 + 1)), (2, .int (v2_4 + 1)), (0, .ref q0), (1, .int p1)]) hx hb dX8_handOf_28 hl rfl rfl (by decide) rfl (fun ls hl => ?_)
          refine lv_goto (tgt := 4) hx hb dX8_handOf_31 (by decide) ?_
          exact ih_4 (v2_4 + 1) (v3_4 + 1) H locs ls hP hD hS (lv_sub hl [2, 3, 1, 0] rfl) hm
  exact L_4 FUEL 0 0 H locs ls hP hD hS (lv_sub hl [2, 3, 1, 0] rfl) hm


def f_X8_trainAt (p0 : Int32) : Option Int32 :=
  some ((174 + (58 * p0)))

abbrev rm_X8_trainAt : Room := { frames := 0, cells := 0, slots := 0, locals := 0 }
theorem hd_X8_trainAt : yX8_trainAt.cls = RX8 ∧ yX8_trainAt.cls ≠ "java/lang/invoke/MethodHandle" ∧ yX8_trainAt.cls ≠ "java/lang/invoke/VarHandle" ∧ (parseMethodDescriptor yX8_trainAt.desc).map (fun d => d.parameters.length) = some 1 := by decide +kernel
set_option maxHeartbeats 4000000 in
set_option maxRecDepth 100000 in
theorem k_X8_trainAt (l : Launch) (G : va_G) (K : (Nat → Nat) × (Nat → Nat)) (c : Nat → ClassId) (p0 : Int32) (r : Int32) (hm : f_X8_trainAt p0 = some (r)) : zMi l yX8_trainAt wsX8_trainAt (rm_X8_trainAt) G K (TY c) [.int p0] ([]) ([]) r := by
  refine zMi.of (cc := cX8_trainAt) (maxL := 1) (lv := [(0, .int p0)]) (by decide) rfl (Nat.le_of_ble_eq_true rfl) rfl ?_
  intro p e s m args below meth c1 A Q H locs hx hb hml hown hts hK hN hZ hP hD hA hS hend ls hl
  have hown : s.vm.findClass RX8 = some m.cls := hown
  unfold f_X8_trainAt at hm
  refine lv_sipush (v := 174) hx hb dX8_trainAt_0 (by decide) ?_
  refine lv_bipush (v := 58) hx hb dX8_trainAt_3 (by decide) ?_
  refine lv_iload_n hx hb dX8_trainAt_5 rfl (lv_at hl 0 rfl) ?_
  refine lv_imul hx hb dX8_trainAt_6 ?_
  refine lv_iadd hx hb dX8_trainAt_7 ?_
  exact hend H locs ls _ _ _ rfl (Option.some.inj hm) rfl hP hD hS dX8_trainAt_8

def f_X8_deal_J251 (n0 : Nat) (rec_205 : Int32 → (Nat → Int32) → Option ((Nat → Int32))) (v3_205 : Int32) (w231 : Nat → Int32) (r234 : Int32) (s0_251 : Int32) : Option ((Nat → Int32)) :=
  gd (inb (r234 + 2) n0) <| nmd (upd w231 (r234 + 2).toNatClampNeg s0_251) fun (w251 : Nat → Int32) => rec_205 (v3_205 + 1) w251

def f_X8_deal_B205 (n0 : Nat) (rec_205 : Int32 → (Nat → Int32) → Option ((Nat → Int32))) (v3_205 : Int32) (h0_205 : Nat → Int32) : Option ((Nat → Int32)) :=
  gd (inb 1 n0) <| if (h0_205 (1 : Int32).toNatClampNeg) < v3_205 then (gd (inb 4 n0) <| nmd (upd h0_205 (4 : Int32).toNatClampNeg 0) fun (w261 : Nat → Int32) => gd (inb 5 n0) <| nmd (upd w261 (5 : Int32).toNatClampNeg 0) fun (w265 : Nat → Int32) => gd (inb 6 n0) <| nmd (upd w265 (6 : Int32).toNatClampNeg (-1)) fun (w270 : Nat → Int32) => gd (inb 8 n0) <| nmd (upd w270 (8 : Int32).toNatClampNeg 0) fun (w275 : Nat → Int32) => gd (inb 10 n0) <| nmd (upd w275 (10 : Int32).toNatClampNeg 0) fun (w280 : Nat → Int32) => some (w280)) else (bd1 (f_X8_trainAt v3_205) fun (r214 : Int32) => gd (inb (r214 + 0) n0) <| nmd (upd h0_205 (r214 + 0).toNatClampNeg 0) fun (w220 : Nat → Int32) => bd1 (f_X8_trainAt v3_205) fun (r223 : Int32) => gd (inb 3 n0) <| gd (inb (r223 + 1) n0) <| nmd (upd w220 (r223 + 1).toNatClampNeg (w220 (3 : Int32).toNatClampNeg)) fun (w231 : Nat → Int32) => bd1 (f_X8_trainAt v3_205) fun (r234 : Int32) => gd (inb 1 n0) <| if v3_205 = (w231 (1 : Int32).toNatClampNeg) then (f_X8_deal_J251 n0 rec_205 v3_205 w231 r234 1) else (f_X8_deal_J251 n0 rec_205 v3_205 w231 r234 0))

def f_X8_deal_B151 (n0 : Nat) (v1_6 : Int32) (rec_137 : Int32 → Int32 → (Nat → Int32) → Option ((Nat → Int32))) (v3_137 : Int32) (rec_151 : Int32 → Int32 → (Nat → Int32) → Option ((Nat → Int32))) (v2_151 : Int32) (v4_151 : Int32) (h0_151 : Nat → Int32) : Option ((Nat → Int32)) :=
  gd (inb 2 n0) <| if (h0_151 (2 : Int32).toNatClampNeg) ≤ v4_151 then (rec_137 v2_151 (v3_137 + 1) h0_151) else (if v1_6 ≤ v2_151 then (rec_137 v2_151 (v3_137 + 1) h0_151) else (gd (inb (119 + v2_151) n0) <| gd (inb (19 + (h0_151 (119 + v2_151).toNatClampNeg)) n0) <| nmd (upd h0_151 (19 + (h0_151 (119 + v2_151).toNatClampNeg)).toNatClampNeg v3_137) fun (w175 : Nat → Int32) => rec_151 (v2_151 + 1) (v4_151 + 1) w175))

def f_X8_deal_B137 (n0 : Nat) (v1_6 : Int32) (rec_137 : Int32 → Int32 → (Nat → Int32) → Option ((Nat → Int32))) (v2_137 : Int32) (v3_137 : Int32) (h0_137 : Nat → Int32) : Option ((Nat → Int32)) :=
  gd (inb 1 n0) <| if (h0_137 (1 : Int32).toNatClampNeg) ≤ v3_137 then (gd (inb 12 n0) <| nmd (upd h0_137 (12 : Int32).toNatClampNeg v2_137) fun (w195 : Nat → Int32) => gd (inb 7 n0) <| nmd (upd w195 (7 : Int32).toNatClampNeg (v1_6 - v2_137)) fun (w202 : Nat → Int32) => itr2 (f_X8_deal_B205 n0) FUEL 0 w202) else (bd1 (f_X8_handOf n0 h0_137 v3_137) fun (r146 : Int32) => itr3 (f_X8_deal_B151 n0 v1_6 rec_137 v3_137) FUEL v2_137 r146 h0_137)

def f_X8_deal_B63 (n0 : Nat) (v1_6 : Int32) (rec_63 : Int32 → (Nat → Int32) → Option ((Nat → Int32))) (v3_63 : Int32) (h0_63 : Nat → Int32) : Option ((Nat → Int32)) :=
  if v3_63 ≤ 0 then (itr3 (f_X8_deal_B137 n0 v1_6) FUEL 0 0 h0_63) else (gd (inb 11 n0) <| gd (inb 11 n0) <| nmd (upd h0_63 (11 : Int32).toNatClampNeg (((h0_63 (11 : Int32).toNatClampNeg) * 1103515245) + 12345)) fun (w81 : Nat → Int32) => gd (inb 11 n0) <| gd (nz (v3_63 + 1)) <| nmd ((((w81 (11 : Int32).toNatClampNeg).toUInt32 >>> ((16 : Int32).toUInt32 &&& Int32.toUInt32 31)).toInt32 &&& 32767) - (((w81 (11 : Int32).toNatClampNeg).toUInt32 >>> ((16 : Int32).toUInt32 &&& Int32.toUInt32 31)).toInt32 &&& 32767) / (v3_63 + 1) * (v3_63 + 1)) fun (x4_97 : Int32) => gd (inb (119 + v3_63) n0) <| nmd (w81 (119 + v3_63).toNatClampNeg) fun (x5_105 : Int32) => gd (inb (119 + x4_97) n0) <| gd (inb (119 + v3_63) n0) <| nmd (upd w81 (119 + v3_63).toNatClampNeg (w81 (119 + x4_97).toNatClampNeg)) fun (w119 : Nat → Int32) => gd (inb (119 + x4_97) n0) <| nmd (upd w119 (119 + x4_97).toNatClampNeg x5_105) fun (w128 : Nat → Int32) => rec_63 (v3_63 + (-1)) w128)

def f_X8_deal_B6 (n0 : Nat) (rec_6 : Int32 → Int32 → (Nat → Int32) → Option ((Nat → Int32))) (v1_6 : Int32) (v3_6 : Int32) (h0_6 : Nat → Int32) : Option ((Nat → Int32)) :=
  if (100 : Int32) ≤ v3_6 then (itr2 (f_X8_deal_B63 n0 v1_6) FUEL (v1_6 - 1) h0_6) else (bd1 (f_X8_isTile n0 h0_6 v3_6) fun (r14 : Int32) => if r14 = 0 then (rec_6 v1_6 (v3_6 + 1) h0_6) else (gd (inb (19 + v3_6) n0) <| if (h0_6 (19 + v3_6).toNatClampNeg) = (-1) then (gd (inb 3 n0) <| if v3_6 = (11 * (h0_6 (3 : Int32).toNatClampNeg)) then (rec_6 v1_6 (v3_6 + 1) h0_6) else (gd (inb (119 + v1_6) n0) <| nmd (upd h0_6 (119 + v1_6).toNatClampNeg v3_6) fun (w49 : Nat → Int32) => rec_6 (v1_6 + 1) (v3_6 + 1) w49)) else (rec_6 v1_6 (v3_6 + 1) h0_6)))

def f_X8_deal (n0 : Nat) (h0 : Nat → Int32) : Option ((Nat → Int32)) :=
  itr3 (f_X8_deal_B6 n0) FUEL 0 0 h0

abbrev rm_X8_deal : Room := { frames := 2, cells := 0, slots := 0, locals := 43 }
theorem hd_X8_deal : yX8_deal.cls = RX8 ∧ yX8_deal.cls ≠ "java/lang/invoke/MethodHandle" ∧ yX8_deal.cls ≠ "java/lang/invoke/VarHandle" ∧ (parseMethodDescriptor yX8_deal.desc).map (fun d => d.parameters.length) = some 1 := by decide +kernel
set_option maxHeartbeats 4000000 in
set_option maxRecDepth 100000 in
theorem k_X8_deal (l : Launch) (G : va_G) (K : (Nat → Nat) × (Nat → Nat)) (c : Nat → ClassId) (q0 : Nat) (n0 : Nat) (h0 : Nat → Int32) (h0_r : Nat → Int32) (hm : f_X8_deal n0 h0 = some (h0_r)) : zMv l yX8_deal wsX8_deal (rm_X8_deal) G K (TY c) [.ref q0] ([(q0, .inl (c 0, n0, .inl h0))]) ([(q0, .inl (c 0, n0, .inl h0_r))]) := by
  refine zMv.of (cc := cX8_deal) (maxL := 6) (lv := [(0, .ref q0)]) (by decide) rfl (Nat.le_of_ble_eq_true rfl) rfl ?_
  intro p e s m args below meth c1 A Q H locs hx hb hml hown hts hK hN hZ hP hD hA hS hend ls hl
  have hown : s.vm.findClass RX8 = some m.cls := hown
  unfold f_X8_deal at hm
  refine lv_iconst (v := 0) hx hb dX8_deal_0 (by decide) ?_
  refine lv_istore_n (lv' := [(1, .int 0), (0, .ref q0)]) hx hb dX8_deal_1 rfl hl (by decide) rfl (fun ls hl => ?_)
  refine lv_iconst (v := 0) hx hb dX8_deal_2 (by decide) ?_
  refine lv_istore_n (lv' := [(2, .int 0), (1, .int 0), (0, .ref q0)]) hx hb dX8_deal_3 rfl hl (by decide) rfl (fun ls hl => ?_)
  refine lv_iconst (v := 0) hx hb dX8_deal_4 (by decide) ?_
  refine lv_istore_n (lv' := [(3, .int 0), (2, .int 0), (1, .int 0), (0, .ref q0)]) hx hb dX8_deal_5 rfl hl (by decide) rfl (fun ls hl => ?_)
  have L_6 : ∀ (n_6 : Nat) (v1_6 : Int32) (v3_6 : Int32) (h0_6 : Nat → Int32) (H : Heap) (locs : List Loc) (ls : Array Slot), va_P G vwCl ([(q0, .inl (c 0, n0, .inl h0_6))]) H → va_D A ([(q0, .inl (c 0, n0, .inl h0_6))]) → va_S A s.heap H locs → lv_has ls 6 [(0, .ref q0), (1, .int v1_6), (2, .int 0), (3, .int v3_6)] → itr3 (f_X8_deal_B6 n0) n_6 v1_6 v3_6 h0_6 = some (h0_r) → W p l e (rm_X8_deal) s m args below meth c1 H locs 0 0 Q (F0 m 6 ls []) := by
    intro n_6
    induction n_6 with
    | zero => intro v1_6 v3_6 h0_6 H locs ls hP hD hS hl hm; exact (itr3_0 hm).elim
    | succ n_6 ih_6 =>
      intro v1_6 v3_6 h0_6 H locs ls hP hD hS hl hm
      have hm := itr3_s hm
      unfold f_X8_deal_B6 at hm
      refine lv_iload_n hx hb dX8_deal_6 rfl (lv_at hl 3 rfl) ?_
      refine lv_bipush (v := 100) hx hb dX8_deal_7 (by decide) ?_
      refine lv_icmp_ge (tgt := 59) hx hb dX8_deal_9 (by decide) (fun c_9 => ?_) (fun c_9 => ?_)
      · have hm := ifp c_9 hm
        refine lv_iload_n hx hb dX8_deal_59 rfl (lv_at hl 1 rfl) ?_
        refine lv_iconst (v := 1) hx hb dX8_deal_60 (by decide) ?_
        refine lv_isub hx hb dX8_deal_61 ?_
        refine lv_istore_n (lv' := [(3, .int (v1_6 - 1)), (0, .ref q0), (1, .int v1_6), (2, .int 0)]) hx hb dX8_deal_62 rfl hl (by decide) rfl (fun ls hl => ?_)
        have L_63 : ∀ (n_63 : Nat) (v3_63 : Int32) (h0_63 : Nat → Int32) (H : Heap) (locs : List Loc) (ls : Array Slot), va_P G vwCl ([(q0, .inl (c 0, n0, .inl h0_63))]) H → va_D A ([(q0, .inl (c 0, n0, .inl h0_63))]) → va_S A s.heap H locs → lv_has ls 6 [(0, .ref q0), (1, .int v1_6), (2, .int 0), (3, .int v3_63)] → itr2 (f_X8_deal_B63 n0 v1_6) n_63 v3_63 h0_63 = some (h0_r) → W p l e (rm_X8_deal) s m args below meth c1 H locs 0 0 Q (F0 m 63 ls []) := by
          intro n_63
          induction n_63 with
          | zero => intro v3_63 h0_63 H locs ls hP hD hS hl hm; exact (itr2_0 hm).elim
          | succ n_63 ih_63 =>
            intro v3_63 h0_63 H locs ls hP hD hS hl hm
            have hm := itr2_s hm
            unfold f_X8_deal_B63 at hm
            refine lv_iload_n hx hb dX8_deal_63 rfl (lv_at hl 3 rfl) ?_
            refine lv_if_le (tgt := 135) hx hb dX8_deal_64 (by decide) (fun c_64 => ?_) (fun c_64 => ?_)
            · have hm := ifp c_64 hm
              refine lv_iconst (v := 0) hx hb dX8_deal_135 (by decide) ?_
              refine lv_istore_n (lv' := [(3, .int 0), (0, .ref q0), (1, .int v1_6), (2, .int 0)]) hx hb dX8_deal_136 rfl hl (by decide) rfl (fun ls hl => ?_)
              have L_137 : ∀ (n_137 : Nat) (v2_137 : Int32) (v3_137 : Int32) (h0_137 : Nat → Int32) (H : Heap) (locs : List Loc) (ls : Array Slot), va_P G vwCl ([(q0, .inl (c 0, n0, .inl h0_137))]) H → va_D A ([(q0, .inl (c 0, n0, .inl h0_137))]) → va_S A s.heap H locs → lv_has ls 6 [(0, .ref q0), (1, .int v1_6), (2, .int v2_137), (3, .int v3_137)] → itr3 (f_X8_deal_B137 n0 v1_6) n_137 v2_137 v3_137 h0_137 = some (h0_r) → W p l e (rm_X8_deal) s m args below meth c1 H locs 0 0 Q (F0 m 137 ls []) := by
                intro n_137
                induction n_137 with
                | zero => intro v2_137 v3_137 h0_137 H locs ls hP hD hS hl hm; exact (itr3_0 hm).elim
                | succ n_137 ih_137 =>
                  intro v2_137 v3_137 h0_137 H locs ls hP hD hS hl hm
                  have hm := itr3_s hm
                  unfold f_X8_deal_B137 at hm
                  refine lv_iload_n hx hb dX8_deal_137 rfl (lv_at hl 3 rfl) ?_
                  refine lv_aload_n hx hb dX8_deal_138 rfl (lv_at hl 0 rfl) ?_
                  refine lv_iconst (v := 1) hx hb dX8_deal_139 (by decide) ?_
                  obtain ⟨h_140, hm⟩ := gd_s hm
                  refine va_iald (D := G) hx hb hK hP 0 0 rfl rfl (inb_s h_140) dX8_deal_140 ?_
                  refine lv_icmp_ge (tgt := 191) hx hb dX8_deal_141 (by decide) (fun c_141 => ?_) (fun c_141 => ?_)
                  · have hm := ifp c_141 hm
                    refine lv_aload_n hx hb dX8_deal_191 rfl (lv_at hl 0 rfl) ?_
                    refine lv_bipush (v := 12) hx hb dX8_deal_192 (by decide) ?_
                    refine lv_iload_n hx hb dX8_deal_194 rfl (lv_at hl 2 rfl) ?_
                    obtain ⟨h_195, hm⟩ := gd_s hm
                    refine va_iast (D := G) hx hb hK hP hD hS 0 0 rfl rfl (inb_s h_195) dX8_deal_195 (fun H locs hP hD hS => ?_)
                    obtain ⟨w195, e_w195⟩ : ∃ z : Nat → Int32, z = upd h0_137 (12 : Int32).toNatClampNeg v2_137 := ⟨_, rfl⟩
                    have hP : va_P G vwCl ([(q0, .inl (c 0, n0, .inl w195))]) H := by rw [e_w195]; exact hP
                    have hD : va_D A ([(q0, .inl (c 0, n0, .inl w195))]) := by rw [e_w195]; exact hD
                    have hm := nmd_s hm w195 e_w195
                    refine lv_aload_n hx hb dX8_deal_196 rfl (lv_at hl 0 rfl) ?_
                    refine lv_bipush (v := 7) hx hb dX8_deal_197 (by decide) ?_
                    refine lv_iload_n hx hb dX8_deal_199 rfl (lv_at hl 1 rfl) ?_
                    refine lv_iload_n hx hb dX8_deal_200 rfl (lv_at hl 2 rfl) ?_
                    refine lv_isub hx hb dX8_deal_201 ?_
                    obtain ⟨h_202, hm⟩ := gd_s hm
                    refine va_iast (D := G) hx hb hK hP hD hS 0 0 rfl rfl (inb_s h_202) dX8_deal_202 (fun H locs hP hD hS => ?_)
                    obtain ⟨w202, e_w202⟩ : ∃ z : Nat → Int32, z = upd w195 (7 : Int32).toNatClampNeg (v1_6 - v2_137) := ⟨_, rfl⟩
                    have hP : va_P G vwCl ([(q0, .inl (c 0, n0, .inl w202))]) H := by rw [e_w202]; exact hP
                    have hD : va_D A ([(q0, .inl (c 0, n0, .inl w202))]) := by rw [e_w202]; exact hD
                    have hm := nmd_s hm w202 e_w202
                    refine lv_iconst (v := 0) hx hb dX8_deal_203 (by decide) ?_
                    refine lv_istore_n (lv' := [(3, .int 0), (0, .ref q0), (1, .int v1_6), (2, .int v2_137)]) hx hb dX8_deal_204 rfl hl (by decide) rfl (fun ls hl => ?_)
                    have L_205 : ∀ (n_205 : Nat) (v3_205 : Int32) (h0_205 : Nat → Int32) (H : Heap) (locs : List Loc) (ls : Array Slot), va_P G vwCl ([(q0, .inl (c 0, n0, .inl h0_205))]) H → va_D A ([(q0, .inl (c 0, n0, .inl h0_205))]) → va_S A s.heap H locs → lv_has ls 6 [(0, .ref q0), (3, .int v3_205)] → itr2 (f_X8_deal_B205 n0) n_205 v3_205 h0_205 = some (h0_r) → W p l e (rm_X8_deal) s m args below meth c1 H locs 0 0 Q (F0 m 205 ls []) := by
                      intro n_205
                      induction n_205 with
                      | zero => intro v3_205 h0_205 H locs ls hP hD hS hl hm; exact (itr2_0 hm).elim
                      | succ n_205 ih_205 =>
                        intro v3_205 h0_205 H locs ls hP hD hS hl hm
                        have hm := itr2_s hm
                        unfold f_X8_deal_B205 at hm
                        refine lv_iload_n hx hb dX8_deal_205 rfl (lv_at hl 1 rfl) ?_
                        refine lv_aload_n hx hb dX8_deal_206 rfl (lv_at hl 0 rfl) ?_
                        refine lv_iconst (v := 1) hx hb dX8_deal_207 (by decide) ?_
                        obtain ⟨h_208, hm⟩ := gd_s hm
                        refine va_iald (D := G) hx hb hK hP 0 0 rfl rfl (inb_s h_208) dX8_deal_208 ?_
                        refine lv_icmp_gt (tgt := 258) hx hb dX8_deal_209 (by decide) (fun c_209 => ?_) (fun c_209 => ?_)
                        · have hm := ifp c_209 hm
                          refine lv_aload_n hx hb dX8_deal_258 rfl (lv_at hl 0 rfl) ?_
                          refine lv_iconst (v := 4) hx hb dX8_deal_259 (by decide) ?_
                          refine lv_iconst (v := 0) hx hb dX8_deal_260 (by decide) ?_
                          obtain ⟨h_261, hm⟩ := gd_s hm
                          refine va_iast (D := G) hx hb hK hP hD hS 0 0 rfl rfl (inb_s h_261) dX8_deal_261 (fun H locs hP hD hS => ?_)
                          obtain ⟨w261, e_w261⟩ : ∃ z : Nat → Int32, z = upd h0_205 (4 : Int32).toNatClampNeg 0 := ⟨_, rfl⟩
                          have hP : va_P G vwCl ([(q0, .inl (c 0, n0, .inl w261))]) H := by rw [e_w261]; exact hP
                          have hD : va_D A ([(q0, .inl (c 0, n0, .inl w261))]) := by rw [e_w261]; exact hD
                          have hm := nmd_s hm w261 e_w261
                          refine lv_aload_n hx hb dX8_deal_262 rfl (lv_at hl 0 rfl) ?_
                          refine lv_iconst (v := 5) hx hb dX8_deal_263 (by decide) ?_
                          refine lv_iconst (v := 0) hx hb dX8_deal_264 (by decide) ?_
                          obtain ⟨h_265, hm⟩ := gd_s hm
                          refine va_iast (D := G) hx hb hK hP hD hS 0 0 rfl rfl (inb_s h_265) dX8_deal_265 (fun H locs hP hD hS => ?_)
                          obtain ⟨w265, e_w265⟩ : ∃ z : Nat → Int32, z = upd w261 (5 : Int32).toNatClampNeg 0 := ⟨_, rfl⟩
                          have hP : va_P G vwCl ([(q0, .inl (c 0, n0, .inl w265))]) H := by rw [e_w265]; exact hP
                          have hD : va_D A ([(q0, .inl (c 0, n0, .inl w265))]) := by rw [e_w265]; exact hD
                          have hm := nmd_s hm w265 e_w265
                          refine lv_aload_n hx hb dX8_deal_266 rfl (lv_at hl 0 rfl) ?_
                          refine lv_bipush (v := 6) hx hb dX8_deal_267 (by decide) ?_
                          refine lv_iconst (v := (-1)) hx hb dX8_deal_269 (by decide) ?_
                          obtain ⟨h_270, hm⟩ := gd_s hm
                          refine va_iast (D := G) hx hb hK hP hD hS 0 0 rfl rfl (inb_s h_270) dX8_deal_270 (fun H locs hP hD hS => ?_)
                          obtain ⟨w270, e_w270⟩ : ∃ z : Nat → Int32, z = upd w265 (6 : Int32).toNatClampNeg (-1) := ⟨_, rfl⟩
                          have hP : va_P G vwCl ([(q0, .inl (c 0, n0, .inl w270))]) H := by rw [e_w270]; exact hP
                          have hD : va_D A ([(q0, .inl (c 0, n0, .inl w270))]) := by rw [e_w270]; exact hD
                          have hm := nmd_s hm w270 e_w270
                          refine lv_aload_n hx hb dX8_deal_271 rfl (lv_at hl 0 rfl) ?_
                          refine lv_bipush (v := 8) hx hb dX8_deal_272 (by decide) ?_
                          refine lv_iconst (v := 0) hx hb dX8_deal_274 (by decide) ?_
                          obtain ⟨h_275, hm⟩ := gd_s hm
                          refine va_iast (D := G) hx hb hK hP hD hS 0 0 rfl rfl (inb_s h_275) dX8_deal_275 (fun H locs hP hD hS => ?_)
                          obtain ⟨w275, e_w275⟩ : ∃ z : Nat → Int32, z = upd w270 (8 : Int32).toNatClampNeg 0 := ⟨_, rfl⟩
                          have hP : va_P G vwCl ([(q0, .inl (c 0, n0, .inl w275))]) H := by rw [e_w275]; exact hP
                          have hD : va_D A ([(q0, .inl (c 0, n0, .inl w275))]) := by rw [e_w275]; exact hD
                          have hm := nmd_s hm w275 e_w275
                          refine lv_aload_n hx hb dX8_deal_276 rfl (lv_at hl 0 rfl) ?_
                          refine lv_bipush (v := 10) hx hb dX8_deal_277 (by decide) ?_
                          refine lv_iconst (v := 0) hx hb dX8_deal_279 (by decide) ?_
                          obtain ⟨h_280, hm⟩ := gd_s hm
                          refine va_iast (D := G) hx hb hK hP hD hS 0 0 rfl rfl (inb_s h_280) dX8_deal_280 (fun H locs hP hD hS => ?_)
                          obtain ⟨w280, e_w280⟩ : ∃ z : Nat → Int32, z = upd w275 (10 : Int32).toNatClampNeg 0 := ⟨_, rfl⟩
                          have hP : va_P G vwCl ([(q0, .inl (c 0, n0, .inl w280))]) H := by rw [e_w280]; exact hP
                          have hD : va_D A ([(q0, .inl (c 0, n0, .inl w280))]) := by rw [e_w280]; exact hD
                          have hm := nmd_s hm w280 e_w280
                          exact hend H locs ls _ _ (zc1 (fun (z0 : Nat → Int32) => ([(q0, .inl (c 0, n0, .inl z0))] : va_W)) (Option.some.inj hm)) hP hD hS dX8_deal_281
                        · have hm := ifn c_209 hm
                          refine lv_aload_n hx hb dX8_deal_212 rfl (lv_at hl 0 rfl) ?_
                          refine lv_iload_n hx hb dX8_deal_213 rfl (lv_at hl 1 rfl) ?_
                          obtain ⟨r214, e_214, hm⟩ := bd1_s hm
                          refine zcSi (As := [.int v3_205]) (rest := [.ref q0]) ⟨hx, hb, hml, hown, hts⟩ (k_X8_trainAt l G K c v3_205 r214 e_214) (va_cwS 1 hts gX8_deal_X8_trainAt rfl rfl rfl hd_X8_trainAt.2 ⟨Nat.le_of_ble_eq_true rfl, Nat.le_of_ble_eq_true rfl⟩) hK hN hZ hP hD hS hA [] rfl (by decide) rfl rfl hl.1 rfl (Nat.le_of_ble_eq_true rfl) dX8_deal_214 ⟨Nat.zero_le _, Nat.zero_le _⟩ (fun H locs hP hD hS => ?_)
                          have hP : va_P G vwCl ([(q0, .inl (c 0, n0, .inl h0_205))]) H := hP
                          have hD : va_D A ([(q0, .inl (c 0, n0, .inl h0_205))]) := hD
                          refine lv_iconst (v := 0) hx hb dX8_deal_217 (by decide) ?_
                          refine lv_iadd hx hb dX8_deal_218 ?_
                          refine lv_iconst (v := 0) hx hb dX8_deal_219 (by decide) ?_
                          obtain ⟨h_220, hm⟩ := gd_s hm
                          refine va_iast (D := G) hx hb hK hP hD hS 0 0 rfl rfl (inb_s h_220) dX8_deal_220 (fun H locs hP hD hS => ?_)
                          obtain ⟨w220, e_w220⟩ : ∃ z : Nat → Int32, z = upd h0_205 (r214 + 0).toNatClampNeg 0 := ⟨_, rfl⟩
                          have hP : va_P G vwCl ([(q0, .inl (c 0, n0, .inl w220))]) H := by rw [e_w220]; exact hP
                          have hD : va_D A ([(q0, .inl (c 0, n0, .inl w220))]) := by rw [e_w220]; exact hD
                          have hm := nmd_s hm w220 e_w220
                          refine lv_aload_n hx hb dX8_deal_221 rfl (lv_at hl 0 rfl) ?_
                          refine lv_iload_n hx hb dX8_deal_222 rfl (lv_at hl 1 rfl) ?_
                          obtain ⟨r223, e_223, hm⟩ := bd1_s hm
                          refine zcSi (As := [.int v3_205]) (rest := [.ref q0]) ⟨hx, hb, hml, hown, hts⟩ (k_X8_trainAt l G K c v3_205 r223 e_223) (va_cwS 1 hts gX8_deal_X8_trainAt rfl rfl rfl hd_X8_trainAt.2 ⟨Nat.le_of_ble_eq_true rfl, Nat.le_of_ble_eq_true rfl⟩) hK hN hZ hP hD hS hA [] rfl (by decide) rfl rfl hl.1 rfl (Nat.le_of_ble_eq_true rfl) dX8_deal_223 ⟨Nat.zero_le _, Nat.zero_le _⟩ (fun H locs hP hD hS => ?_)
                          have hP : va_P G vwCl ([(q0, .inl (c 0, n0, .inl w220))]) H := hP
                          have hD : va_D A ([(q0, .inl (c 0, n0, .inl w220))]) := hD
                          refine lv_iconst (v := 1) hx hb dX8_deal_226 (by decide) ?_
                          refine lv_iadd hx hb dX8_deal_227 ?_
                          refine lv_aload_n hx hb dX8_deal_228 rfl (lv_at hl 0 rfl) ?_
                          refine lv_iconst (v := 3) hx hb dX8_deal_229 (by decide) ?_
                          obtain ⟨h_230, hm⟩ := gd_s hm
                          refine va_iald (D := G) hx hb hK hP 0 0 rfl rfl (inb_s h_230) dX8_deal_230 ?_
                          obtain ⟨h_231, hm⟩ := gd_s hm
                          refine va_iast (D := G) hx hb hK hP hD hS 0 0 rfl rfl (inb_s h_231) dX8_deal_231 (fun H locs hP hD hS => ?_)
                          obtain ⟨w231, e_w231⟩ : ∃ z : Nat → Int32, z = upd w220 (r223 + 1).toNatClampNeg (w220 (3 : Int32).toNatClampNeg) := ⟨_, rfl⟩
                          have hP : va_P G vwCl ([(q0, .inl (c 0, n0, .inl w231))]) H := by rw [e_w231]; exact hP
                          have hD : va_D A ([(q0, .inl (c 0, n0, .inl w231))]) := by rw [e_w231]; exact hD
                          have hm := nmd_s hm w231 e_w231
                          refine lv_aload_n hx hb dX8_deal_232 rfl (lv_at hl 0 rfl) ?_
                          refine lv_iload_n hx hb dX8_deal_233 rfl (lv_at hl 1 rfl) ?_
                          obtain ⟨r234, e_234, hm⟩ := bd1_s hm
                          refine zcSi (As := [.int v3_205]) (rest := [.ref q0]) ⟨hx, hb, hml, hown, hts⟩ (k_X8_trainAt l G K c v3_205 r234 e_234) (va_cwS 1 hts gX8_deal_X8_trainAt rfl rfl rfl hd_X8_trainAt.2 ⟨Nat.le_of_ble_eq_true rfl, Nat.le_of_ble_eq_true rfl⟩) hK hN hZ hP hD hS hA [] rfl (by decide) rfl rfl hl.1 rfl (Nat.le_of_ble_eq_true rfl) dX8_deal_234 ⟨Nat.zero_le _, Nat.zero_le _⟩ (fun H locs hP hD hS => ?_)
                          have hP : va_P G vwCl ([(q0, .inl (c 0, n0, .inl w231))]) H := hP
                          have hD : va_D A ([(q0, .inl (c 0, n0, .inl w231))]) := hD
                          refine lv_iconst (v := 2) hx hb dX8_deal_237 (by decide) ?_
                          refine lv_iadd hx hb dX8_deal_238 ?_
                          refine lv_iload_n hx hb dX8_deal_239 rfl (lv_at hl 1 rfl) ?_
                          refine lv_aload_n hx hb dX8_deal_240 rfl (lv_at hl 0 rfl) ?_
                          refine lv_iconst (v := 1) hx hb dX8_deal_241 (by decide) ?_
                          obtain ⟨h_242, hm⟩ := gd_s hm
                          refine va_iald (D := G) hx hb hK hP 0 0 rfl rfl (inb_s h_242) dX8_deal_242 ?_
                          have J_251 : ∀ (s0_251 : Int32) (H : Heap) (locs : List Loc) (ls : Array Slot), va_P G vwCl ([(q0, .inl (c 0, n0, .inl w231))]) H → va_D A ([(q0, .inl (c 0, n0, .inl w231))]) → va_S A s.heap H locs → lv_has ls 6 [(0, .ref q0), (3, .int v3_205)] → f_X8_deal_J251 n0 (itr2 (f_X8_deal_B205 n0) n_205) v3_205 w231 r234 s0_251 = some (h0_r) → W p l e (rm_X8_deal) s m args below meth c1 H locs 0 0 Q (F0 m 251 ls [.int s0_251, .int (r234 + 2), .ref q0]) := by
                            intro s0_251 H locs ls hP hD hS hl hm
                            unfold f_X8_deal_J251 at hm
                            obtain ⟨h_251, hm⟩ := gd_s hm
                            refine va_iast (D := G) hx hb hK hP hD hS 0 0 rfl rfl (inb_s h_251) dX8_deal_251 (fun H locs hP hD hS => ?_)
                            obtain ⟨w251, e_w251⟩ : ∃ z : Nat → Int32, z = upd w231 (r234 + 2).toNatClampNeg s0_251 := ⟨_, rfl⟩
                            have hP : va_P G vwCl ([(q0, .inl (c 0, n0, .inl w251))]) H := by rw [e_w251]; exact hP
                            have hD : va_D A ([(q0, .inl (c 0, n0, .inl w251))]) := by rw [e_w251]; exact hD
                            have hm := nmd_s hm w251 e_w251
                            refine lv_iinc (k := 1) (v := (v3_205 + 1)) (lv' := [(3, .int (v3_205 + 1)), (0, .ref q0)]) hx hb dX8_deal_252 hl rfl rfl (by decide) rfl (fun ls hl => ?_)
                            refine lv_goto (tgt := 205) hx hb dX8_deal_255 (by decide) ?_
                            exact ih_205 (v3_205 + 1) w251 H locs ls hP hD hS (lv_sub hl [1, 0] rfl) hm
                          refine lv_icmp_ne (tgt := 250) hx hb dX8_deal_243 (by decide) (fun c_243 => ?_) (fun c_243 => ?_)
                          · have hm := ifn c_243 hm
                            refine lv_iconst (v := 0) hx hb dX8_deal_250 (by decide) ?_
                            exact J_251 0 H locs ls hP hD hS (lv_sub hl [0, 1] rfl) hm
                          · have hm := ifp c_243 hm
                            refine lv_iconst (v := 1) hx hb dX8_deal_246 (by decide) ?_
                            refine lv_goto (tgt := 251) hx hb dX8_deal_247 (by decide) ?_
                            exact J_251 1 H locs ls hP hD hS (lv_sub hl [0, 1] rfl) hm
                    exact L_205 FUEL 0 w202 H locs ls hP hD hS (lv_sub hl [1, 0] rfl) hm
                  · have hm := ifn c_141 hm
                    refine lv_aload_n hx hb dX8_deal_144 rfl (lv_at hl 0 rfl) ?_
                    refine lv_iload_n hx hb dX8_deal_145 rfl (lv_at hl 3 rfl) ?_
                    obtain ⟨r146, e_146, hm⟩ := bd1_s hm
                    refine zcSi (As := [.ref q0, .int v3_137]) (rest := []) ⟨hx, hb, hml, hown, hts⟩ (k_X8_handOf l G K c q0 n0 h0_137 v3_137 r146 e_146) (va_cwS 2 hts gX8_deal_X8_handOf rfl rfl rfl hd_X8_handOf.2 ⟨Nat.le_of_ble_eq_true rfl, Nat.le_of_ble_eq_true rfl⟩) hK hN hZ hP hD hS hA [0] rfl (by decide) rfl rfl hl.1 rfl (Nat.le_of_ble_eq_true rfl) dX8_deal_146 ⟨Nat.zero_le _, Nat.zero_le _⟩ (fun H locs hP hD hS => ?_)
                    have hP : va_P G vwCl ([(q0, .inl (c 0, n0, .inl h0_137))]) H := hP
                    have hD : va_D A ([(q0, .inl (c 0, n0, .inl h0_137))]) := hD
                    refine lv_istore (lv' := [(4, .int r146), (0, .ref q0), (1, .int v1_6), (2, .int v2_137), (3, .int v3_137)]) hx hb dX8_deal_149 hl (by decide) rfl (fun ls hl => ?_)
                    have L_151 : ∀ (n_151 : Nat) (v2_151 : Int32) (v4_151 : Int32) (h0_151 : Nat → Int32) (H : Heap) (locs : List Loc) (ls : Array Slot), va_P G vwCl ([(q0, .inl (c 0, n0, .inl h0_151))]) H → va_D A ([(q0, .inl (c 0, n0, .inl h0_151))]) → va_S A s.heap H locs → lv_has ls 6 [(0, .ref q0), (1, .int v1_6), (2, .int v2_151), (3, .int v3_137), (4, .int v4_151)] → itr3 (f_X8_deal_B151 n0 v1_6 (itr3 (f_X8_deal_B137 n0 v1_6) n_137) v3_137) n_151 v2_151 v4_151 h0_151 = some (h0_r) → W p l e (rm_X8_deal) s m args below meth c1 H locs 0 0 Q (F0 m 151 ls []) := by
                      intro n_151
                      induction n_151 with
                      | zero => intro v2_151 v4_151 h0_151 H locs ls hP hD hS hl hm; exact (itr3_0 hm).elim
                      | succ n_151 ih_151 =>
                        intro v2_151 v4_151 h0_151 H locs ls hP hD hS hl hm
                        have hm := itr3_s hm
                        unfold f_X8_deal_B151 at hm
                        refine lv_iload hx hb dX8_deal_151 (lv_at hl 4 rfl) ?_
                        refine lv_aload_n hx hb dX8_deal_153 rfl (lv_at hl 0 rfl) ?_
                        refine lv_iconst (v := 2) hx hb dX8_deal_154 (by decide) ?_
                        obtain ⟨h_155, hm⟩ := gd_s hm
                        refine va_iald (D := G) hx hb hK hP 0 0 rfl rfl (inb_s h_155) dX8_deal_155 ?_
                        refine lv_icmp_ge (tgt := 185) hx hb dX8_deal_156 (by decide) (fun c_156 => ?_) (fun c_156 => ?_)
                        · have hm := ifp c_156 hm
                          refine lv_iinc (k := 3) (v := (v3_137 + 1)) (lv' := [(3, .int (v3_137 + 1)), (0, .ref q0), (1, .int v1_6), (2, .int v2_151), (4, .int v4_151)]) hx hb dX8_deal_185 hl rfl rfl (by decide) rfl (fun ls hl => ?_)
                          refine lv_goto (tgt := 137) hx hb dX8_deal_188 (by decide) ?_
                          exact ih_137 v2_151 (v3_137 + 1) h0_151 H locs ls hP hD hS (lv_sub hl [1, 2, 3, 0] rfl) hm
                        · have hm := ifn c_156 hm
                          refine lv_iload_n hx hb dX8_deal_159 rfl (lv_at hl 2 rfl) ?_
                          refine lv_iload_n hx hb dX8_deal_160 rfl (lv_at hl 1 rfl) ?_
                          refine lv_icmp_ge (tgt := 185) hx hb dX8_deal_161 (by decide) (fun c_161 => ?_) (fun c_161 => ?_)
                          · have hm := ifp c_161 hm
                            refine lv_iinc (k := 3) (v := (v3_137 + 1)) (lv' := [(3, .int (v3_137 + 1)), (0, .ref q0), (1, .int v1_6), (2, .int v2_151), (4, .int v4_151)]) hx hb dX8_deal_185 hl rfl rfl (by decide) rfl (fun ls hl => ?_)
                            refine lv_goto (tgt := 137) hx hb dX8_deal_188 (by decide) ?_
                            exact ih_137 v2_151 (v3_137 + 1) h0_151 H locs ls hP hD hS (lv_sub hl [1, 2, 3, 0] rfl) hm
                          · have hm := ifn c_161 hm
                            refine lv_aload_n hx hb dX8_deal_164 rfl (lv_at hl 0 rfl) ?_
                            refine lv_bipush (v := 19) hx hb dX8_deal_165 (by decide) ?_
                            refine lv_aload_n hx hb dX8_deal_167 rfl (lv_at hl 0 rfl) ?_
                            refine lv_bipush (v := 119) hx hb dX8_deal_168 (by decide) ?_
                            refine lv_iload_n hx hb dX8_deal_170 rfl (lv_at hl 2 rfl) ?_
                            refine lv_iadd hx hb dX8_deal_171 ?_
                            obtain ⟨h_172, hm⟩ := gd_s hm
                            refine va_iald (D := G) hx hb hK hP 0 0 rfl rfl (inb_s h_172) dX8_deal_172 ?_
                            refine lv_iadd hx hb dX8_deal_173 ?_
                            refine lv_iload_n hx hb dX8_deal_174 rfl (lv_at hl 3 rfl) ?_
                            obtain ⟨h_175, hm⟩ := gd_s hm
                            refine va_iast (D := G) hx hb hK hP hD hS 0 0 rfl rfl (inb_s h_175) dX8_deal_175 (fun H locs hP hD hS => ?_)
                            obtain ⟨w175, e_w175⟩ : ∃ z : Nat → Int32, z = upd h0_151 (19 + (h0_151 (119 + v2_151).toNatClampNeg)).toNatClampNeg v3_137 := ⟨_, rfl⟩
                            have hP : va_P G vwCl ([(q0, .inl (c 0, n0, .inl w175))]) H := by rw [e_w175]; exact hP
                            have hD : va_D A ([(q0, .inl (c 0, n0, .inl w175))]) := by rw [e_w175]; exact hD
                            have hm := nmd_s hm w175 e_w175
                            refine lv_iinc (k := 2) (v := (v2_151 + 1)) (lv' := [(2, .int (v2_151 + 1)), (0, .ref q0), (1, .int v1_6), (3, .int v3_137), (4, .int v4_151)]) hx hb dX8_deal_176 hl rfl rfl (by decide) rfl (fun ls hl => ?_)
                            refine lv_iinc (k := 4) (v := (v4_151 + 1)) (lv' := [(4, .int (v4_151 + 1)), (2, .int (v2_151 + 1)), (0, .ref q0), (1, .int v1_6), (3, .int v3_137)]) hx hb dX8_deal_179 hl rfl rfl (by decide) rfl (fun ls hl => ?_)
                            refine lv_goto (tgt := 151) hx hb dX8_deal_182 (by decide) ?_
                            exact ih_151 (v2_151 + 1) (v4_151 + 1) w175 H locs ls hP hD hS (lv_sub hl [2, 3, 1, 4, 0] rfl) hm
                    exact L_151 FUEL v2_137 r146 h0_137 H locs ls hP hD hS (lv_sub hl [1, 2, 3, 4, 0] rfl) hm
              exact L_137 FUEL 0 0 h0_63 H locs ls hP hD hS (lv_sub hl [1, 2, 3, 0] rfl) hm
            · have hm := ifn c_64 hm
              refine lv_aload_n hx hb dX8_deal_67 rfl (lv_at hl 0 rfl) ?_
              refine lv_bipush (v := 11) hx hb dX8_deal_68 (by decide) ?_
              refine lv_aload_n hx hb dX8_deal_70 rfl (lv_at hl 0 rfl) ?_
              refine lv_bipush (v := 11) hx hb dX8_deal_71 (by decide) ?_
              obtain ⟨h_73, hm⟩ := gd_s hm
              refine va_iald (D := G) hx hb hK hP 0 0 rfl rfl (inb_s h_73) dX8_deal_73 ?_
              refine lv_ldc (v := 1103515245) hx hb hown (hts (.constant RX8 68 (1103515245)) (List.mem_of_getElem? (i := 1) rfl)) dX8_deal_74 ?_
              refine lv_imul hx hb dX8_deal_76 ?_
              refine lv_sipush (v := 12345) hx hb dX8_deal_77 (by decide) ?_
              refine lv_iadd hx hb dX8_deal_80 ?_
              obtain ⟨h_81, hm⟩ := gd_s hm
              refine va_iast (D := G) hx hb hK hP hD hS 0 0 rfl rfl (inb_s h_81) dX8_deal_81 (fun H locs hP hD hS => ?_)
              obtain ⟨w81, e_w81⟩ : ∃ z : Nat → Int32, z = upd h0_63 (11 : Int32).toNatClampNeg (((h0_63 (11 : Int32).toNatClampNeg) * 1103515245) + 12345) := ⟨_, rfl⟩
              have hP : va_P G vwCl ([(q0, .inl (c 0, n0, .inl w81))]) H := by rw [e_w81]; exact hP
              have hD : va_D A ([(q0, .inl (c 0, n0, .inl w81))]) := by rw [e_w81]; exact hD
              have hm := nmd_s hm w81 e_w81
              refine lv_aload_n hx hb dX8_deal_82 rfl (lv_at hl 0 rfl) ?_
              refine lv_bipush (v := 11) hx hb dX8_deal_83 (by decide) ?_
              obtain ⟨h_85, hm⟩ := gd_s hm
              refine va_iald (D := G) hx hb hK hP 0 0 rfl rfl (inb_s h_85) dX8_deal_85 ?_
              refine lv_bipush (v := 16) hx hb dX8_deal_86 (by decide) ?_
              refine lv_iushr hx hb dX8_deal_88 rfl ?_
              refine lv_sipush (v := 32767) hx hb dX8_deal_89 (by decide) ?_
              refine lv_iand hx hb dX8_deal_92 ?_
              refine lv_iload_n hx hb dX8_deal_93 rfl (lv_at hl 3 rfl) ?_
              refine lv_iconst (v := 1) hx hb dX8_deal_94 (by decide) ?_
              refine lv_iadd hx hb dX8_deal_95 ?_
              obtain ⟨h_96, hm⟩ := gd_s hm
              refine lv_irem hx hb dX8_deal_96 (nz_s h_96) ?_
              refine lv_topi (fun x4_97 e_x4_97 => ?_)
              have hm := nmd_s hm x4_97 e_x4_97
              refine lv_istore (lv' := [(4, .int x4_97), (0, .ref q0), (1, .int v1_6), (2, .int 0), (3, .int v3_63)]) hx hb dX8_deal_97 hl (by decide) rfl (fun ls hl => ?_)
              refine lv_aload_n hx hb dX8_deal_99 rfl (lv_at hl 1 rfl) ?_
              refine lv_bipush (v := 119) hx hb dX8_deal_100 (by decide) ?_
              refine lv_iload_n hx hb dX8_deal_102 rfl (lv_at hl 4 rfl) ?_
              refine lv_iadd hx hb dX8_deal_103 ?_
              obtain ⟨h_104, hm⟩ := gd_s hm
              refine va_iald (D := G) hx hb hK hP 0 0 rfl rfl (inb_s h_104) dX8_deal_104 ?_
              refine lv_topi (fun x5_105 e_x5_105 => ?_)
              have hm := nmd_s hm x5_105 e_x5_105
              refine lv_istore (lv' := [(5, .int x5_105), (4, .int x4_97), (0, .ref q0), (1, .int v1_6), (2, .int 0), (3, .int v3_63)]) hx hb dX8_deal_105 hl (by decide) rfl (fun ls hl => ?_)
              refine lv_aload_n hx hb dX8_deal_107 rfl (lv_at hl 2 rfl) ?_
              refine lv_bipush (v := 119) hx hb dX8_deal_108 (by decide) ?_
              refine lv_iload_n hx hb dX8_deal_110 rfl (lv_at hl 5 rfl) ?_
              refine lv_iadd hx hb dX8_deal_111 ?_
              refine lv_aload_n hx hb dX8_deal_112 rfl (lv_at hl 2 rfl) ?_
              refine lv_bipush (v := 119) hx hb dX8_deal_113 (by decide) ?_
              refine lv_iload hx hb dX8_deal_115 (lv_at hl 1 rfl) ?_
              refine lv_iadd hx hb dX8_deal_117 ?_
              obtain ⟨h_118, hm⟩ := gd_s hm
              refine va_iald (D := G) hx hb hK hP 0 0 rfl rfl (inb_s h_118) dX8_deal_118 ?_
              obtain ⟨h_119, hm⟩ := gd_s hm
              refine va_iast (D := G) hx hb hK hP hD hS 0 0 rfl rfl (inb_s h_119) dX8_deal_119 (fun H locs hP hD hS => ?_)
              obtain ⟨w119, e_w119⟩ : ∃ z : Nat → Int32, z = upd w81 (119 + v3_63).toNatClampNeg (w81 (119 + x4_97).toNatClampNeg) := ⟨_, rfl⟩
              have hP : va_P G vwCl ([(q0, .inl (c 0, n0, .inl w119))]) H := by rw [e_w119]; exact hP
              have hD : va_D A ([(q0, .inl (c 0, n0, .inl w119))]) := by rw [e_w119]; exact hD
              have hm := nmd_s hm w119 e_w119
              refine lv_aload_n hx hb dX8_deal_120 rfl (lv_at hl 2 rfl) ?_
              refine lv_bipush (v := 119) hx hb dX8_deal_121 (by decide) ?_
              refine lv_iload hx hb dX8_deal_123 (lv_at hl 1 rfl) ?_
              refine lv_iadd hx hb dX8_deal_125 ?_
              refine lv_iload hx hb dX8_deal_126 (lv_at hl 0 rfl) ?_
              obtain ⟨h_128, hm⟩ := gd_s hm
              refine va_iast (D := G) hx hb hK hP hD hS 0 0 rfl rfl (inb_s h_128) dX8_deal_128 (fun H locs hP hD hS => ?_)
              obtain ⟨w128, e_w128⟩ : ∃ z : Nat → Int32, z = upd w119 (119 + x4_97).toNatClampNeg x5_105 := ⟨_, rfl⟩
              have hP : va_P G vwCl ([(q0, .inl (c 0, n0, .inl w128))]) H := by rw [e_w128]; exact hP
              have hD : va_D A ([(q0, .inl (c 0, n0, .inl w128))]) := by rw [e_w128]; exact hD
              have hm := nmd_s hm w128 e_w128
              refine lv_iinc (k := 5) (v := (v3_63 + (-1))) (lv' := [(3, .int (v3_63 + (-1))), (5, .int x5_105), (4, .int x4_97), (0, .ref q0), (1, .int v1_6), (2, .int 0)]) hx hb dX8_deal_129 hl rfl rfl (by decide) rfl (fun ls hl => ?_)
              refine lv_goto (tgt := 63) hx hb dX8_deal_132 (by decide) ?_
              exact ih_63 (v3_63 + (-1)) w128 H locs ls hP hD hS (lv_sub hl [3, 4, 5, 0] rfl) hm
        exact L_63 FUEL (v1_6 - 1) h0_6 H locs ls hP hD hS (lv_sub hl [1, 2, 3, 0] rfl) hm
      · have hm := ifn c_9 hm
        refine lv_aload_n hx hb dX8_deal_12 rfl (lv_at hl 0 rfl) ?_
        refine lv_iload_n hx hb dX8_deal_13 rfl (lv_at hl 3 rfl) ?_
        obtain ⟨r14, e_14, hm⟩ := bd1_s hm
        refine zcSi (As := [.ref q0, .int v3_6]) (rest := []) ⟨hx, hb, hml, hown, hts⟩ (k_X8_isTile l G K c q0 n0 h0_6 v3_6 r14 e_14) (va_cwS 2 hts gX8_deal_X8_isTile rfl rfl rfl hd_X8_isTile.2 ⟨Nat.le_of_ble_eq_true rfl, Nat.le_of_ble_eq_true rfl⟩) hK hN hZ hP hD hS hA [0] rfl (by decide) rfl rfl hl.1 rfl (Nat.le_of_ble_eq_true rfl) dX8_deal_14 ⟨Nat.zero_le _, Nat.zero_le _⟩ (fun H locs hP hD hS => ?_)
        have hP : va_P G vwCl ([(q0, .inl (c 0, n0, .inl h0_6))]) H := hP
        have hD : va_D A ([(q0, .inl (c 0, n0, .inl h0_6))]) := hD
        refine lv_if_eq (tgt := 53) hx hb dX8_deal_17 (by decide) (fun c_17 => ?_) (fun c_17 => ?_)
        · have hm := ifp c_17 hm
          refine lv_iinc (k := 3) (v := (v3_6 + 1)) (lv' := [(3, .int (v3_6 + 1)), (0, .ref q0), (1, .int v1_6), (2, .int 0)]) hx hb dX8_deal_53 hl rfl rfl (by decide) rfl (fun ls hl => ?_)
          refine lv_goto (tgt := 6) hx hb dX8_deal_56 (by decide) ?_
          exact ih_6 v1_6 (v3_6 + 1) h0_6 H locs ls hP hD hS (lv_sub hl [1, 2, 3, 0] rfl) hm
        · have hm := ifn c_17 hm
          refine lv_aload_n hx hb dX8_deal_20 rfl (lv_at hl 0 rfl) ?_
          refine lv_bipush (v := 19) hx hb dX8_deal_21 (by decide) ?_
          refine lv_iload_n hx hb dX8_deal_23 rfl (lv_at hl 3 rfl) ?_
          refine lv_iadd hx hb dX8_deal_24 ?_
          obtain ⟨h_25, hm⟩ := gd_s hm
          refine va_iald (D := G) hx hb hK hP 0 0 rfl rfl (inb_s h_25) dX8_deal_25 ?_
          refine lv_iconst (v := (-1)) hx hb dX8_deal_26 (by decide) ?_
          refine lv_icmp_ne (tgt := 53) hx hb dX8_deal_27 (by decide) (fun c_27 => ?_) (fun c_27 => ?_)
          · have hm := ifn c_27 hm
            refine lv_iinc (k := 3) (v := (v3_6 + 1)) (lv' := [(3, .int (v3_6 + 1)), (0, .ref q0), (1, .int v1_6), (2, .int 0)]) hx hb dX8_deal_53 hl rfl rfl (by decide) rfl (fun ls hl => ?_)
            refine lv_goto (tgt := 6) hx hb dX8_deal_56 (by decide) ?_
            exact ih_6 v1_6 (v3_6 + 1) h0_6 H locs ls hP hD hS (lv_sub hl [1, 2, 3, 0] rfl) hm
          · have hm := ifp c_27 hm
            refine lv_iload_n hx hb dX8_deal_30 rfl (lv_at hl 3 rfl) ?_
            refine lv_bipush (v := 11) hx hb dX8_deal_31 (by decide) ?_
            refine lv_aload_n hx hb dX8_deal_33 rfl (lv_at hl 0 rfl) ?_
            refine lv_iconst (v := 3) hx hb dX8_deal_34 (by decide) ?_
            obtain ⟨h_35, hm⟩ := gd_s hm
            refine va_iald (D := G) hx hb hK hP 0 0 rfl rfl (inb_s h_35) dX8_deal_35 ?_
            refine lv_imul hx hb dX8_deal_36 ?_
            refine lv_icmp_ne (tgt := 43) hx hb dX8_deal_37 (by decide) (fun c_37 => ?_) (fun c_37 => ?_)
            · have hm := ifn c_37 hm
              refine lv_aload_n hx hb dX8_deal_43 rfl (lv_at hl 0 rfl) ?_
              refine lv_bipush (v := 119) hx hb dX8_deal_44 (by decide) ?_
              refine lv_iload_n hx hb dX8_deal_46 rfl (lv_at hl 1 rfl) ?_
              refine lv_iadd hx hb dX8_deal_47 ?_
              refine lv_iload_n hx hb dX8_deal_48 rfl (lv_at hl 3 rfl) ?_
              obtain ⟨h_49, hm⟩ := gd_s hm
              refine va_iast (D := G) hx hb hK hP hD hS 0 0 rfl rfl (inb_s h_49) dX8_deal_49 (fun H locs hP hD hS => ?_)
              obtain ⟨w49, e_w49⟩ : ∃ z : Nat → Int32, z = upd h0_6 (119 + v1_6).toNatClampNeg v3_6 := ⟨_, rfl⟩
              have hP : va_P G vwCl ([(q0, .inl (c 0, n0, .inl w49))]) H := by rw [e_w49]; exact hP
              have hD : va_D A ([(q0, .inl (c 0, n0, .inl w49))]) := by rw [e_w49]; exact hD
              have hm := nmd_s hm w49 e_w49
              refine lv_iinc (k := 1) (v := (v1_6 + 1)) (lv' := [(1, .int (v1_6 + 1)), (0, .ref q0), (2, .int 0), (3, .int v3_6)]) hx hb dX8_deal_50 hl rfl rfl (by decide) rfl (fun ls hl => ?_)
              refine lv_iinc (k := 3) (v := (v3_6 + 1)) (lv' := [(3, .int (v3_6 + 1)), (1, .int (v1_6 + 1)), (0, .ref q0), (2, .int 0)]) hx hb dX8_deal_53 hl rfl rfl (by decide) rfl (fun ls hl => ?_)
              refine lv_goto (tgt := 6) hx hb dX8_deal_56 (by decide) ?_
              exact ih_6 (v1_6 + 1) (v3_6 + 1) w49 H locs ls hP hD hS (lv_sub hl [2, 1, 3, 0] rfl) hm
            · have hm := ifp c_37 hm
              refine lv_goto (tgt := 53) hx hb dX8_deal_40 (by decide) ?_
              refine lv_iinc (k := 3) (v := (v3_6 + 1)) (lv' := [(3, .int (v3_6 + 1)), (0, .ref q0), (1, .int v1_6), (2, .int 0)]) hx hb dX8_deal_53 hl rfl rfl (by decide) rfl (fun ls hl => ?_)
              refine lv_goto (tgt := 6) hx hb dX8_deal_56 (by decide) ?_
              exact ih_6 v1_6 (v3_6 + 1) h0_6 H locs ls hP hD hS (lv_sub hl [1, 2, 3, 0] rfl) hm
  exact L_6 FUEL 0 0 h0 H locs ls hP hD hS (lv_sub hl [3, 2, 1, 0] rfl) hm
