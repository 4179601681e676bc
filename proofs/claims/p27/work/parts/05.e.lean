def f_X5_store_B3 (p0 : Int32) (rec_3 : Int32 → SA → Option SA) (v2_3 : Int32) (tk_3 : SA) : Option SA :=
  if v2_3 < 0 then (some (tk_3)) else (if (500 : Int32) ≤ (tk_3.1 0) then (some (tk_3)) else (bd1 (f_X7_put 500 (tk_3.2 0) (tk_3.1 0) ((p0.toUInt32 >>> ((v2_3 : Int32).toUInt32 &&& Int32.toUInt32 31)).toInt32 &&& 255)) fun (h034 : Nat → Int32) => rec_3 (v2_3 + (-8)) (sa (ss tk_3 0 ((tk_3.1 0) + 1)) 0 h034)))

def f_X5_store (tk : SA) (p0 : Int32) : Option SA :=
  itr2 (f_X5_store_B3 p0) FUEL 24 tk

abbrev rm_X5_store : Room := { frames := 1, cells := 0, slots := 0, locals := 22 }
theorem hd_X5_store : yX5_store.cls = RX5 ∧ yX5_store.cls ≠ "java/lang/invoke/MethodHandle" ∧ yX5_store.cls ≠ "java/lang/invoke/VarHandle" ∧ (parseMethodDescriptor yX5_store.desc).map (fun d => d.parameters.length) = some 1 := by decide +kernel
set_option maxHeartbeats 4000000 in
set_option maxRecDepth 100000 in
theorem k_X5_store (l : Launch) (G : va_G) (K : (Nat → Nat) × (Nat → Nat)) (c : Nat → ClassId) (tka0 : Nat) (tka1 : Nat) (tk : SA) (p0 : Int32) (tk_r : SA) (hm : f_X5_store tk p0 = some (tk_r)) : zMv l yX5_store wsX5_store (rm_X5_store) G K (TY c) [.ref tka0, .int p0] (wO c tka0 tka1 tk) (wO c tka0 tka1 tk_r) := by
  refine zMv.of (cc := cX5_store) (maxL := 3) (lv := [(0, .ref tka0), (1, .int p0)]) (by decide) rfl (Nat.le_of_ble_eq_true rfl) rfl ?_
  intro p e s m args below meth c1 A Q H locs hx hb hml hown hts hK hN hZ hP hD hA hS hend ls hl
  have hown : s.vm.findClass RX5 = some m.cls := hown
  have hi_5 : ∀ w ∈ wsX50, w ∈ wsX5_store := (fun w h => List.mem_cons_of_mem _ (List.mem_append_right _ (h)))
  unfold f_X5_store at hm
  refine lv_bipush (v := 24) hx hb dX5_store_0 (by decide) ?_
  refine lv_istore_n (lv' := [(2, .int 24), (0, .ref tka0), (1, .int p0)]) hx hb dX5_store_2 rfl hl (by decide) rfl (fun ls hl => ?_)
  have L_3 : ∀ (n_3 : Nat) (v2_3 : Int32) (tk_3 : SA) (H : Heap) (locs : List Loc) (ls : Array Slot), va_P G vwCl (wO c tka0 tka1 tk_3) H → va_D A (wO c tka0 tka1 tk_3) → va_S A s.heap H locs → lv_has ls 3 [(0, .ref tka0), (1, .int p0), (2, .int v2_3)] → itr2 (f_X5_store_B3 p0) n_3 v2_3 tk_3 = some (tk_r) → W p l e (rm_X5_store) s m args below meth c1 H locs 0 0 Q (F0 m 3 ls []) := by
    intro n_3
    induction n_3 with
    | zero => intro v2_3 tk_3 H locs ls hP hD hS hl hm; exact (itr2_0 hm).elim
    | succ n_3 ih_3 =>
      intro v2_3 tk_3 H locs ls hP hD hS hl hm
      have hm := itr2_s hm
      unfold f_X5_store_B3 at hm
      refine lv_iload_n hx hb dX5_store_3 rfl (lv_at hl 2 rfl) ?_
      refine lv_if_lt (tgt := 53) hx hb dX5_store_4 (by decide) (fun c_4 => ?_) (fun c_4 => ?_)
      · have hm := ifp c_4 hm
        exact hend H locs ls _ _ (zc1 (fun (z0 : SA) => (wO c tka0 tka1 z0 : va_W)) (Option.some.inj hm)) hP hD hS dX5_store_53
      · have hm := ifn c_4 hm
        refine lv_aload_n hx hb dX5_store_7 rfl (lv_at hl 0 rfl) ?_
        refine va_get (D := G) (ci := 5) (v := .int (tk_3.1 0)) (C := RX5) (T := TX5) (N := 7) hx hb hts hi_5 hown hK hP 0 rfl rfl 1 (by decide) (hts (.fieldLink RX5 15 "HubTrains$Tokens" "stored" "I") (List.mem_of_getElem? (i := 1) rfl)) (fun _ h9 => h9) rfl dX5_store_8 ?_
        refine lv_aload_n hx hb dX5_store_11 rfl (lv_at hl 0 rfl) ?_
        refine va_get (D := G) (ci := 5) (v := .ref tka1) (C := RX5) (T := TX5) (N := 7) hx hb hts hi_5 hown hK hP 0 rfl rfl 0 (by decide) (hts (.fieldLink RX5 9 "HubTrains$Tokens" "bytes" "[I") (List.mem_of_getElem? (i := 2) rfl)) (fun _ h9 => h9) rfl dX5_store_12 ?_
        refine va_alen (D := G) (v := 500) hx hb hK hP 1 0 rfl rfl rfl dX5_store_15 ?_
        refine lv_icmp_ge (tgt := 53) hx hb dX5_store_16 (by decide) (fun c_16 => ?_) (fun c_16 => ?_)
        · have hm := ifp c_16 hm
          exact hend H locs ls _ _ (zc1 (fun (z0 : SA) => (wO c tka0 tka1 z0 : va_W)) (Option.some.inj hm)) hP hD hS dX5_store_53
        · have hm := ifn c_16 hm
          refine lv_aload_n hx hb dX5_store_19 rfl (lv_at hl 0 rfl) ?_
          refine va_get (D := G) (ci := 5) (v := .ref tka1) (C := RX5) (T := TX5) (N := 7) hx hb hts hi_5 hown hK hP 0 rfl rfl 0 (by decide) (hts (.fieldLink RX5 9 "HubTrains$Tokens" "bytes" "[I") (List.mem_of_getElem? (i := 2) rfl)) (fun _ h9 => h9) rfl dX5_store_20 ?_
          refine lv_aload_n hx hb dX5_store_23 rfl (lv_at hl 0 rfl) ?_
          refine va_get (D := G) (ci := 5) (v := .int (tk_3.1 0)) (C := RX5) (T := TX5) (N := 7) hx hb hts hi_5 hown hK hP 0 rfl rfl 1 (by decide) (hts (.fieldLink RX5 15 "HubTrains$Tokens" "stored" "I") (List.mem_of_getElem? (i := 1) rfl)) (fun _ h9 => h9) rfl dX5_store_24 ?_
          refine lv_iload_n hx hb dX5_store_27 rfl (lv_at hl 1 rfl) ?_
          refine lv_iload_n hx hb dX5_store_28 rfl (lv_at hl 2 rfl) ?_
          refine lv_iushr hx hb dX5_store_29 rfl ?_
          refine lv_sipush (v := 255) hx hb dX5_store_30 (by decide) ?_
          refine lv_iand hx hb dX5_store_33 ?_
          obtain ⟨h034, e_34, hm⟩ := bd1_s hm
          refine zcSNv (As := [.ref tka1, .int (tk_3.1 0), .int ((p0.toUInt32 >>> ((v2_3 : Int32).toUInt32 &&& Int32.toUInt32 31)).toInt32 &&& 255)]) (rest := []) ⟨hx, hb, hml, hown, hts⟩ (k_X7_put l G K c tka1 500 (tk_3.2 0) (tk_3.1 0) ((p0.toUInt32 >>> ((v2_3 : Int32).toUInt32 &&& Int32.toUInt32 31)).toInt32 &&& 255) h034 e_34) ⟨va_cnB 3 hts gX5_store_X7_put_n19 rfl rfl rfl (nwm_HubTrains_Tokens_19 hN.2.1) (hts (.initialized RX7) (List.mem_of_getElem? (i := 4) rfl)) hd_X7_put.2 ⟨Nat.le_of_ble_eq_true rfl, Nat.le_of_ble_eq_true rfl⟩, (hts (.static yX7_put) (List.mem_of_getElem? (i := 3) rfl)), trivial⟩ hK hN hZ hP hD hS hA [1] rfl (by decide) rfl rfl hl.1 rfl (Nat.le_of_ble_eq_true rfl) dX5_store_34 ⟨Nat.zero_le _, Nat.zero_le _⟩ (fun H locs hP hD hS => ?_)
          have hP : va_P G vwCl (wO c tka0 tka1 (sa tk_3 0 h034)) H := hP
          have hD : va_D A (wO c tka0 tka1 (sa tk_3 0 h034)) := hD
          refine lv_aload_n hx hb dX5_store_37 rfl (lv_at hl 0 rfl) ?_
          refine lv_dup hx hb dX5_store_38 rfl ?_
          refine va_get (D := G) (ci := 5) (v := .int (tk_3.1 0)) (C := RX5) (T := TX5) (N := 7) hx hb hts hi_5 hown hK hP 0 rfl rfl 1 (by decide) (hts (.fieldLink RX5 15 "HubTrains$Tokens" "stored" "I") (List.mem_of_getElem? (i := 1) rfl)) (fun _ h9 => h9) rfl dX5_store_39 ?_
          refine lv_iconst (v := 1) hx hb dX5_store_42 (by decide) ?_
          refine lv_iadd hx hb dX5_store_43 ?_
          refine va_put (D := G) (ci := 5) (v := .int ((tk_3.1 0) + 1)) (C := RX5) (T := TX5) (N := 7) hx hb hts hi_5 tyX5 tyX5_ok nmX5 hown hK hP hD hS 0 rfl rfl 1 (by decide) (hts (.fieldLink RX5 15 "HubTrains$Tokens" "stored" "I") (List.mem_of_getElem? (i := 1) rfl)) (fun _ h9 => h9) rfl (tyX5_ok 1 (by decide)) rfl rfl (Nat.le_of_ble_eq_true rfl) dX5_store_44 (fun H locs hP hD hS => ?_)
          have hP : va_P G vwCl (wO c tka0 tka1 (sa (ss tk_3 0 ((tk_3.1 0) + 1)) 0 h034)) H := hP
          have hD : va_D A (wO c tka0 tka1 (sa (ss tk_3 0 ((tk_3.1 0) + 1)) 0 h034)) := hD
          refine lv_iinc (k := 2) (v := (v2_3 + (-8))) (lv' := [(2, .int (v2_3 + (-8))), (0, .ref tka0), (1, .int p0)]) hx hb dX5_store_47 hl rfl rfl (by decide) rfl (fun ls hl => ?_)
          refine lv_goto (tgt := 3) hx hb dX5_store_50 (by decide) ?_
          exact ih_3 (v2_3 + (-8)) (sa (ss tk_3 0 ((tk_3.1 0) + 1)) 0 h034) H locs ls hP hD hS (lv_sub hl [1, 2, 0] rfl) hm
  exact L_3 FUEL 24 tk H locs ls hP hD hS (lv_sub hl [1, 2, 0] rfl) hm

def f_X5_advance_J288 (s0_24 : Int32) (tk_201 : SA) (s0_288 : Int32) : Option SA :=
  if s0_24 ≤ (tk_201.1 3) then (some ((ss (ss tk_201 2 s0_288) 4 s0_24))) else (some ((ss (ss tk_201 2 s0_288) 4 ((tk_201.1 3) + 1))))

def f_X5_advance_J257 (s0_24 : Int32) (tk_201 : SA) : Option SA :=
  if (tk_201.1 4) ≤ (tk_201.1 3) then (if s0_24 ≤ (tk_201.1 3) then (f_X5_advance_J288 s0_24 tk_201 0) else (f_X5_advance_J288 s0_24 tk_201 3)) else (some ((ss tk_201 2 2)))

def f_X5_advance_B201 (s0_24 : Int32) (rec_201 : SA → Option SA) (tk_201 : SA) : Option SA :=
  if (tk_201.1 4) < 0 then (f_X5_advance_J257 s0_24 tk_201) else (if s0_24 ≤ (tk_201.1 4) then (f_X5_advance_J257 s0_24 tk_201) else (gd (inb (tk_201.1 4) 500) <| if ((tk_201.2 0) (tk_201.1 4).toNatClampNeg) < 97 then (f_X5_advance_J257 s0_24 tk_201) else (gd (inb (tk_201.1 4) 500) <| if (122 : Int32) < ((tk_201.2 0) (tk_201.1 4).toNatClampNeg) then (f_X5_advance_J257 s0_24 tk_201) else (rec_201 (ss tk_201 4 ((tk_201.1 4) + 1))))))

def f_X5_advance_J184 (s0_24 : Int32) (tk_88 : SA) : Option SA :=
  if (tk_88.1 4) ≤ (tk_88.1 3) then (itr1 (f_X5_advance_B201 s0_24) FUEL tk_88) else (some ((ss tk_88 2 1)))

def f_X5_advance_J168 (rec_88 : SA → Option SA) (tk_88 : SA) (s0_168 : Int32) : Option SA :=
  rec_88 (ss (ss tk_88 5 s0_168) 4 ((tk_88.1 4) + 1))

def f_X5_advance_B88 (s0_24 : Int32) (rec_88 : SA → Option SA) (tk_88 : SA) : Option SA :=
  if (tk_88.1 4) < 0 then (f_X5_advance_J184 s0_24 tk_88) else (if s0_24 ≤ (tk_88.1 4) then (f_X5_advance_J184 s0_24 tk_88) else (gd (inb (tk_88.1 4) 500) <| if ((tk_88.2 0) (tk_88.1 4).toNatClampNeg) < 48 then (f_X5_advance_J184 s0_24 tk_88) else (gd (inb (tk_88.1 4) 500) <| if (57 : Int32) < ((tk_88.2 0) (tk_88.1 4).toNatClampNeg) then (f_X5_advance_J184 s0_24 tk_88) else (if (1000000 : Int32) ≤ (tk_88.1 5) then (f_X5_advance_J168 rec_88 tk_88 (tk_88.1 5)) else (gd (inb (tk_88.1 4) 500) <| f_X5_advance_J168 rec_88 tk_88 (((10 * (tk_88.1 5)) + ((tk_88.2 0) (tk_88.1 4).toNatClampNeg)) - 48))))))

def f_X5_advance_J75 (s0_24 : Int32) (tk_33 : SA) : Option SA :=
  itr1 (f_X5_advance_B88 s0_24) FUEL (ss (ss tk_33 4 (tk_33.1 3)) 5 0)

def f_X5_advance_B33 (s0_24 : Int32) (rec_33 : SA → Option SA) (tk_33 : SA) : Option SA :=
  if (tk_33.1 3) < 0 then (f_X5_advance_J75 s0_24 tk_33) else (if s0_24 ≤ (tk_33.1 3) then (f_X5_advance_J75 s0_24 tk_33) else (gd (inb (tk_33.1 3) 500) <| if ((tk_33.2 0) (tk_33.1 3).toNatClampNeg) = 32 then (rec_33 (ss tk_33 3 ((tk_33.1 3) + 1))) else (f_X5_advance_J75 s0_24 tk_33)))

def f_X5_advance_J24 (tk : SA) (s0_24 : Int32) : Option SA :=
  itr1 (f_X5_advance_B33 s0_24) FUEL (ss tk 3 (tk.1 4))

def f_X5_advance (tk : SA) : Option SA :=
  if (500 : Int32) ≤ (tk.1 1) then (f_X5_advance_J24 tk 500) else (f_X5_advance_J24 tk (tk.1 1))

abbrev rm_X5_advance : Room := { frames := 0, cells := 0, slots := 0, locals := 0 }
theorem hd_X5_advance : yX5_advance.cls = RX5 ∧ yX5_advance.cls ≠ "java/lang/invoke/MethodHandle" ∧ yX5_advance.cls ≠ "java/lang/invoke/VarHandle" ∧ (parseMethodDescriptor yX5_advance.desc).map (fun d => d.parameters.length) = some 0 := by decide +kernel
set_option maxHeartbeats 4000000 in
set_option maxRecDepth 100000 in
theorem k_X5_advance (l : Launch) (G : va_G) (K : (Nat → Nat) × (Nat → Nat)) (c : Nat → ClassId) (tka0 : Nat) (tka1 : Nat) (tk : SA) (tk_r : SA) (hm : f_X5_advance tk = some (tk_r)) : zMv l yX5_advance wsX5_advance (rm_X5_advance) G K (TY c) [.ref tka0] (wO c tka0 tka1 tk) (wO c tka0 tka1 tk_r) := by
  refine zMv.of (cc := cX5_advance) (maxL := 2) (lv := [(0, .ref tka0)]) (by decide) rfl (Nat.le_of_ble_eq_true rfl) rfl ?_
  intro p e s m args below meth c1 A Q H locs hx hb hml hown hts hK hN hZ hP hD hA hS hend ls hl
  have hown : s.vm.findClass RX5 = some m.cls := hown
  have hi_5 : ∀ w ∈ wsX50, w ∈ wsX5_advance := (fun w h => List.mem_cons_of_mem _ (List.mem_append_right _ (h)))
  unfold f_X5_advance at hm
  refine lv_aload_n hx hb dX5_advance_0 rfl (lv_at hl 0 rfl) ?_
  refine va_get (D := G) (ci := 5) (v := .int (tk.1 1)) (C := RX5) (T := TX5) (N := 7) hx hb hts hi_5 hown hK hP 0 rfl rfl 2 (by decide) (hts (.fieldLink RX5 32 "HubTrains$Tokens" "length" "I") (List.mem_of_getElem? (i := 1) rfl)) (fun _ h9 => h9) rfl dX5_advance_1 ?_
  refine lv_aload_n hx hb dX5_advance_4 rfl (lv_at hl 0 rfl) ?_
  refine va_get (D := G) (ci := 5) (v := .ref tka1) (C := RX5) (T := TX5) (N := 7) hx hb hts hi_5 hown hK hP 0 rfl rfl 0 (by decide) (hts (.fieldLink RX5 9 "HubTrains$Tokens" "bytes" "[I") (List.mem_of_getElem? (i := 2) rfl)) (fun _ h9 => h9) rfl dX5_advance_5 ?_
  refine va_alen (D := G) (v := 500) hx hb hK hP 1 0 rfl rfl rfl dX5_advance_8 ?_
  have J_24 : ∀ (s0_24 : Int32) (H : Heap) (locs : List Loc) (ls : Array Slot), va_P G vwCl (wO c tka0 tka1 tk) H → va_D A (wO c tka0 tka1 tk) → va_S A s.heap H locs → lv_has ls 2 [(0, .ref tka0)] → f_X5_advance_J24 tk s0_24 = some (tk_r) → W p l e (rm_X5_advance) s m args below meth c1 H locs 0 0 Q (F0 m 24 ls [.int s0_24]) := by
    intro s0_24 H locs ls hP hD hS hl hm
    unfold f_X5_advance_J24 at hm
    refine lv_istore_n (lv' := [(1, .int s0_24), (0, .ref tka0)]) hx hb dX5_advance_24 rfl hl (by decide) rfl (fun ls hl => ?_)
    refine lv_aload_n hx hb dX5_advance_25 rfl (lv_at hl 1 rfl) ?_
    refine lv_aload_n hx hb dX5_advance_26 rfl (lv_at hl 1 rfl) ?_
    refine va_get (D := G) (ci := 5) (v := .int (tk.1 4)) (C := RX5) (T := TX5) (N := 7) hx hb hts hi_5 hown hK hP 0 rfl rfl 5 (by decide) (hts (.fieldLink RX5 35 "HubTrains$Tokens" "end" "I") (List.mem_of_getElem? (i := 3) rfl)) (fun _ h9 => h9) rfl dX5_advance_27 ?_
    refine va_put (D := G) (ci := 5) (v := .int (tk.1 4)) (C := RX5) (T := TX5) (N := 7) hx hb hts hi_5 tyX5 tyX5_ok nmX5 hown hK hP hD hS 0 rfl rfl 4 (by decide) (hts (.fieldLink RX5 41 "HubTrains$Tokens" "start" "I") (List.mem_of_getElem? (i := 4) rfl)) (fun _ h9 => h9) rfl (tyX5_ok 4 (by decide)) rfl rfl (Nat.le_of_ble_eq_true rfl) dX5_advance_30 (fun H locs hP hD hS => ?_)
    have hP : va_P G vwCl (wO c tka0 tka1 (ss tk 3 (tk.1 4))) H := hP
    have hD : va_D A (wO c tka0 tka1 (ss tk 3 (tk.1 4))) := hD
    have L_33 : ∀ (n_33 : Nat) (tk_33 : SA) (H : Heap) (locs : List Loc) (ls : Array Slot), va_P G vwCl (wO c tka0 tka1 tk_33) H → va_D A (wO c tka0 tka1 tk_33) → va_S A s.heap H locs → lv_has ls 2 [(0, .ref tka0), (1, .int s0_24)] → itr1 (f_X5_advance_B33 s0_24) n_33 tk_33 = some (tk_r) → W p l e (rm_X5_advance) s m args below meth c1 H locs 0 0 Q (F0 m 33 ls []) := by
      intro n_33
      induction n_33 with
      | zero => intro tk_33 H locs ls hP hD hS hl hm; exact (itr1_0 hm).elim
      | succ n_33 ih_33 =>
        intro tk_33 H locs ls hP hD hS hl hm
        have hm := itr1_s hm
        unfold f_X5_advance_B33 at hm
        refine lv_aload_n hx hb dX5_advance_33 rfl (lv_at hl 0 rfl) ?_
        refine va_get (D := G) (ci := 5) (v := .int (tk_33.1 3)) (C := RX5) (T := TX5) (N := 7) hx hb hts hi_5 hown hK hP 0 rfl rfl 4 (by decide) (hts (.fieldLink RX5 41 "HubTrains$Tokens" "start" "I") (List.mem_of_getElem? (i := 4) rfl)) (fun _ h9 => h9) rfl dX5_advance_34 ?_
        have J_75 : ∀ (H : Heap) (locs : List Loc) (ls : Array Slot), va_P G vwCl (wO c tka0 tka1 tk_33) H → va_D A (wO c tka0 tka1 tk_33) → va_S A s.heap H locs → lv_has ls 2 [(0, .ref tka0), (1, .int s0_24)] → f_X5_advance_J75 s0_24 tk_33 = some (tk_r) → W p l e (rm_X5_advance) s m args below meth c1 H locs 0 0 Q (F0 m 75 ls []) := by
          intro  H locs ls hP hD hS hl hm
          unfold f_X5_advance_J75 at hm
          refine lv_aload_n hx hb dX5_advance_75 rfl (lv_at hl 0 rfl) ?_
          refine lv_aload_n hx hb dX5_advance_76 rfl (lv_at hl 0 rfl) ?_
          refine va_get (D := G) (ci := 5) (v := .int (tk_33.1 3)) (C := RX5) (T := TX5) (N := 7) hx hb hts hi_5 hown hK hP 0 rfl rfl 4 (by decide) (hts (.fieldLink RX5 41 "HubTrains$Tokens" "start" "I") (List.mem_of_getElem? (i := 4) rfl)) (fun _ h9 => h9) rfl dX5_advance_77 ?_
          refine va_put (D := G) (ci := 5) (v := .int (tk_33.1 3)) (C := RX5) (T := TX5) (N := 7) hx hb hts hi_5 tyX5 tyX5_ok nmX5 hown hK hP hD hS 0 rfl rfl 5 (by decide) (hts (.fieldLink RX5 35 "HubTrains$Tokens" "end" "I") (List.mem_of_getElem? (i := 3) rfl)) (fun _ h9 => h9) rfl (tyX5_ok 5 (by decide)) rfl rfl (Nat.le_of_ble_eq_true rfl) dX5_advance_80 (fun H locs hP hD hS => ?_)
          have hP : va_P G vwCl (wO c tka0 tka1 (ss tk_33 4 (tk_33.1 3))) H := hP
          have hD : va_D A (wO c tka0 tka1 (ss tk_33 4 (tk_33.1 3))) := hD
          refine lv_aload_n hx hb dX5_advance_83 rfl (lv_at hl 0 rfl) ?_
          refine lv_iconst (v := 0) hx hb dX5_advance_84 (by decide) ?_
          refine va_put (D := G) (ci := 5) (v := .int 0) (C := RX5) (T := TX5) (N := 7) hx hb hts hi_5 tyX5 tyX5_ok nmX5 hown hK hP hD hS 0 rfl rfl 6 (by decide) (hts (.fieldLink RX5 44 "HubTrains$Tokens" "number" "I") (List.mem_of_getElem? (i := 5) rfl)) (fun _ h9 => h9) rfl (tyX5_ok 6 (by decide)) rfl rfl (Nat.le_of_ble_eq_true rfl) dX5_advance_85 (fun H locs hP hD hS => ?_)
          have hP : va_P G vwCl (wO c tka0 tka1 (ss (ss tk_33 4 (tk_33.1 3)) 5 0)) H := hP
          have hD : va_D A (wO c tka0 tka1 (ss (ss tk_33 4 (tk_33.1 3)) 5 0)) := hD
          have L_88 : ∀ (n_88 : Nat) (tk_88 : SA) (H : Heap) (locs : List Loc) (ls : Array Slot), va_P G vwCl (wO c tka0 tka1 tk_88) H → va_D A (wO c tka0 tka1 tk_88) → va_S A s.heap H locs → lv_has ls 2 [(0, .ref tka0), (1, .int s0_24)] → itr1 (f_X5_advance_B88 s0_24) n_88 tk_88 = some (tk_r) → W p l e (rm_X5_advance) s m args below meth c1 H locs 0 0 Q (F0 m 88 ls []) := by
            intro n_88
            induction n_88 with
            | zero => intro tk_88 H locs ls hP hD hS hl hm; exact (itr1_0 hm).elim
            | succ n_88 ih_88 =>
              intro tk_88 H locs ls hP hD hS hl hm
              have hm := itr1_s hm
              unfold f_X5_advance_B88 at hm
              refine lv_aload_n hx hb dX5_advance_88 rfl (lv_at hl 0 rfl) ?_
              refine va_get (D := G) (ci := 5) (v := .int (tk_88.1 4)) (C := RX5) (T := TX5) (N := 7) hx hb hts hi_5 hown hK hP 0 rfl rfl 5 (by decide) (hts (.fieldLink RX5 35 "HubTrains$Tokens" "end" "I") (List.mem_of_getElem? (i := 3) rfl)) (fun _ h9 => h9) rfl dX5_advance_89 ?_
              have J_184 : ∀ (H : Heap) (locs : List Loc) (ls : Array Slot), va_P G vwCl (wO c tka0 tka1 tk_88) H → va_D A (wO c tka0 tka1 tk_88) → va_S A s.heap H locs → lv_has ls 2 [(0, .ref tka0), (1, .int s0_24)] → f_X5_advance_J184 s0_24 tk_88 = some (tk_r) → W p l e (rm_X5_advance) s m args below meth c1 H locs 0 0 Q (F0 m 184 ls []) := by
                intro  H locs ls hP hD hS hl hm
                unfold f_X5_advance_J184 at hm
                refine lv_aload_n hx hb dX5_advance_184 rfl (lv_at hl 0 rfl) ?_
                refine va_get (D := G) (ci := 5) (v := .int (tk_88.1 4)) (C := RX5) (T := TX5) (N := 7) hx hb hts hi_5 hown hK hP 0 rfl rfl 5 (by decide) (hts (.fieldLink RX5 35 "HubTrains$Tokens" "end" "I") (List.mem_of_getElem? (i := 3) rfl)) (fun _ h9 => h9) rfl dX5_advance_185 ?_
                refine lv_aload_n hx hb dX5_advance_188 rfl (lv_at hl 0 rfl) ?_
                refine va_get (D := G) (ci := 5) (v := .int (tk_88.1 3)) (C := RX5) (T := TX5) (N := 7) hx hb hts hi_5 hown hK hP 0 rfl rfl 4 (by decide) (hts (.fieldLink RX5 41 "HubTrains$Tokens" "start" "I") (List.mem_of_getElem? (i := 4) rfl)) (fun _ h9 => h9) rfl dX5_advance_189 ?_
                refine lv_icmp_le (tgt := 201) hx hb dX5_advance_192 (by decide) (fun c_192 => ?_) (fun c_192 => ?_)
                · have hm := ifp c_192 hm
                  have L_201 : ∀ (n_201 : Nat) (tk_201 : SA) (H : Heap) (locs : List Loc) (ls : Array Slot), va_P G vwCl (wO c tka0 tka1 tk_201) H → va_D A (wO c tka0 tka1 tk_201) → va_S A s.heap H locs → lv_has ls 2 [(0, .ref tka0), (1, .int s0_24)] → itr1 (f_X5_advance_B201 s0_24) n_201 tk_201 = some (tk_r) → W p l e (rm_X5_advance) s m args below meth c1 H locs 0 0 Q (F0 m 201 ls []) := by
                    intro n_201
                    induction n_201 with
                    | zero => intro tk_201 H locs ls hP hD hS hl hm; exact (itr1_0 hm).elim
                    | succ n_201 ih_201 =>
                      intro tk_201 H locs ls hP hD hS hl hm
                      have hm := itr1_s hm
                      unfold f_X5_advance_B201 at hm
                      refine lv_aload_n hx hb dX5_advance_201 rfl (lv_at hl 0 rfl) ?_
                      refine va_get (D := G) (ci := 5) (v := .int (tk_201.1 4)) (C := RX5) (T := TX5) (N := 7) hx hb hts hi_5 hown hK hP 0 rfl rfl 5 (by decide) (hts (.fieldLink RX5 35 "HubTrains$Tokens" "end" "I") (List.mem_of_getElem? (i := 3) rfl)) (fun _ h9 => h9) rfl dX5_advance_202 ?_
                      have J_257 : ∀ (H : Heap) (locs : List Loc) (ls : Array Slot), va_P G vwCl (wO c tka0 tka1 tk_201) H → va_D A (wO c tka0 tka1 tk_201) → va_S A s.heap H locs → lv_has ls 2 [(0, .ref tka0), (1, .int s0_24)] → f_X5_advance_J257 s0_24 tk_201 = some (tk_r) → W p l e (rm_X5_advance) s m args below meth c1 H locs 0 0 Q (F0 m 257 ls []) := by
                        intro  H locs ls hP hD hS hl hm
                        unfold f_X5_advance_J257 at hm
                        refine lv_aload_n hx hb dX5_advance_257 rfl (lv_at hl 0 rfl) ?_
                        refine va_get (D := G) (ci := 5) (v := .int (tk_201.1 4)) (C := RX5) (T := TX5) (N := 7) hx hb hts hi_5 hown hK hP 0 rfl rfl 5 (by decide) (hts (.fieldLink RX5 35 "HubTrains$Tokens" "end" "I") (List.mem_of_getElem? (i := 3) rfl)) (fun _ h9 => h9) rfl dX5_advance_258 ?_
                        refine lv_aload_n hx hb dX5_advance_261 rfl (lv_at hl 0 rfl) ?_
                        refine va_get (D := G) (ci := 5) (v := .int (tk_201.1 3)) (C := RX5) (T := TX5) (N := 7) hx hb hts hi_5 hown hK hP 0 rfl rfl 4 (by decide) (hts (.fieldLink RX5 41 "HubTrains$Tokens" "start" "I") (List.mem_of_getElem? (i := 4) rfl)) (fun _ h9 => h9) rfl dX5_advance_262 ?_
                        refine lv_icmp_le (tgt := 274) hx hb dX5_advance_265 (by decide) (fun c_265 => ?_) (fun c_265 => ?_)
                        · have hm := ifp c_265 hm
                          refine lv_aload_n hx hb dX5_advance_274 rfl (lv_at hl 0 rfl) ?_
                          refine lv_aload_n hx hb dX5_advance_275 rfl (lv_at hl 0 rfl) ?_
                          refine va_get (D := G) (ci := 5) (v := .int (tk_201.1 3)) (C := RX5) (T := TX5) (N := 7) hx hb hts hi_5 hown hK hP 0 rfl rfl 4 (by decide) (hts (.fieldLink RX5 41 "HubTrains$Tokens" "start" "I") (List.mem_of_getElem? (i := 4) rfl)) (fun _ h9 => h9) rfl dX5_advance_276 ?_
                          refine lv_iload_n hx hb dX5_advance_279 rfl (lv_at hl 1 rfl) ?_
                          have J_288 : ∀ (s0_288 : Int32) (H : Heap) (locs : List Loc) (ls : Array Slot), va_P G vwCl (wO c tka0 tka1 tk_201) H → va_D A (wO c tka0 tka1 tk_201) → va_S A s.heap H locs → lv_has ls 2 [(0, .ref tka0), (1, .int s0_24)] → f_X5_advance_J288 s0_24 tk_201 s0_288 = some (tk_r) → W p l e (rm_X5_advance) s m args below meth c1 H locs 0 0 Q (F0 m 288 ls [.int s0_288, .ref tka0]) := by
                            intro s0_288 H locs ls hP hD hS hl hm
                            unfold f_X5_advance_J288 at hm
                            refine va_put (D := G) (ci := 5) (v := .int s0_288) (C := RX5) (T := TX5) (N := 7) hx hb hts hi_5 tyX5 tyX5_ok nmX5 hown hK hP hD hS 0 rfl rfl 3 (by decide) (hts (.fieldLink RX5 48 "HubTrains$Tokens" "kind" "I") (List.mem_of_getElem? (i := 7) rfl)) (fun _ h9 => h9) rfl (tyX5_ok 3 (by decide)) rfl rfl (Nat.le_of_ble_eq_true rfl) dX5_advance_288 (fun H locs hP hD hS => ?_)
                            have hP : va_P G vwCl (wO c tka0 tka1 (ss tk_201 2 s0_288)) H := hP
                            have hD : va_D A (wO c tka0 tka1 (ss tk_201 2 s0_288)) := hD
                            refine lv_aload_n hx hb dX5_advance_291 rfl (lv_at hl 0 rfl) ?_
                            refine lv_aload_n hx hb dX5_advance_292 rfl (lv_at hl 0 rfl) ?_
                            refine va_get (D := G) (ci := 5) (v := .int (tk_201.1 3)) (C := RX5) (T := TX5) (N := 7) hx hb hts hi_5 hown hK hP 0 rfl rfl 4 (by decide) (hts (.fieldLink RX5 41 "HubTrains$Tokens" "start" "I") (List.mem_of_getElem? (i := 4) rfl)) (fun _ h9 => h9) rfl dX5_advance_293 ?_
                            refine lv_iload_n hx hb dX5_advance_296 rfl (lv_at hl 1 rfl) ?_
                            refine lv_icmp_ge (tgt := 309) hx hb dX5_advance_297 (by decide) (fun c_297 => ?_) (fun c_297 => ?_)
                            · have hm := ifp c_297 hm
                              refine lv_iload_n hx hb dX5_advance_309 rfl (lv_at hl 1 rfl) ?_
                              refine va_put (D := G) (ci := 5) (v := .int s0_24) (C := RX5) (T := TX5) (N := 7) hx hb hts hi_5 tyX5 tyX5_ok nmX5 hown hK hP hD hS 0 rfl rfl 5 (by decide) (hts (.fieldLink RX5 35 "HubTrains$Tokens" "end" "I") (List.mem_of_getElem? (i := 3) rfl)) (fun _ h9 => h9) rfl (tyX5_ok 5 (by decide)) rfl rfl (Nat.le_of_ble_eq_true rfl) dX5_advance_310 (fun H locs hP hD hS => ?_)
                              have hP : va_P G vwCl (wO c tka0 tka1 (ss (ss tk_201 2 s0_288) 4 s0_24)) H := hP
                              have hD : va_D A (wO c tka0 tka1 (ss (ss tk_201 2 s0_288) 4 s0_24)) := hD
                              exact hend H locs ls _ _ (zc1 (fun (z0 : SA) => (wO c tka0 tka1 z0 : va_W)) (Option.some.inj hm)) hP hD hS dX5_advance_313
                            · have hm := ifn c_297 hm
                              refine lv_aload_n hx hb dX5_advance_300 rfl (lv_at hl 0 rfl) ?_
                              refine va_get (D := G) (ci := 5) (v := .int (tk_201.1 3)) (C := RX5) (T := TX5) (N := 7) hx hb hts hi_5 hown hK hP 0 rfl rfl 4 (by decide) (hts (.fieldLink RX5 41 "HubTrains$Tokens" "start" "I") (List.mem_of_getElem? (i := 4) rfl)) (fun _ h9 => h9) rfl dX5_advance_301 ?_
                              refine lv_iconst (v := 1) hx hb dX5_advance_304 (by decide) ?_
                              refine lv_iadd hx hb dX5_advance_305 ?_
                              refine lv_goto (tgt := 310) hx hb dX5_advance_306 (by decide) ?_
                              refine va_put (D := G) (ci := 5) (v := .int ((tk_201.1 3) + 1)) (C := RX5) (T := TX5) (N := 7) hx hb hts hi_5 tyX5 tyX5_ok nmX5 hown hK hP hD hS 0 rfl rfl 5 (by decide) (hts (.fieldLink RX5 35 "HubTrains$Tokens" "end" "I") (List.mem_of_getElem? (i := 3) rfl)) (fun _ h9 => h9) rfl (tyX5_ok 5 (by decide)) rfl rfl (Nat.le_of_ble_eq_true rfl) dX5_advance_310 (fun H locs hP hD hS => ?_)
                              have hP : va_P G vwCl (wO c tka0 tka1 (ss (ss tk_201 2 s0_288) 4 ((tk_201.1 3) + 1))) H := hP
                              have hD : va_D A (wO c tka0 tka1 (ss (ss tk_201 2 s0_288) 4 ((tk_201.1 3) + 1))) := hD
                              exact hend H locs ls _ _ (zc1 (fun (z0 : SA) => (wO c tka0 tka1 z0 : va_W)) (Option.some.inj hm)) hP hD hS dX5_advance_313
                          refine lv_icmp_ge (tgt := 287) hx hb dX5_advance_280 (by decide) (fun c_280 => ?_) (fun c_280 => ?_)
                          · have hm := ifp c_280 hm
                            refine lv_iconst (v := 0) hx hb dX5_advance_287 (by decide) ?_
                            exact J_288 0 H locs ls hP hD hS (lv_sub hl [0, 1] rfl) hm
                          · have hm := ifn c_280 hm
                            refine lv_iconst (v := 3) hx hb dX5_advance_283 (by decide) ?_
                            refine lv_goto (tgt := 288) hx hb dX5_advance_284 (by decide) ?_
                            exact J_288 3 H locs ls hP hD hS (lv_sub hl [0, 1] rfl) hm
                        · have hm := ifn c_265 hm
                          refine lv_aload_n hx hb dX5_advance_268 rfl (lv_at hl 0 rfl) ?_
                          refine lv_iconst (v := 2) hx hb dX5_advance_269 (by decide) ?_
                          refine va_put (D := G) (ci := 5) (v := .int 2) (C := RX5) (T := TX5) (N := 7) hx hb hts hi_5 tyX5 tyX5_ok nmX5 hown hK hP hD hS 0 rfl rfl 3 (by decide) (hts (.fieldLink RX5 48 "HubTrains$Tokens" "kind" "I") (List.mem_of_getElem? (i := 7) rfl)) (fun _ h9 => h9) rfl (tyX5_ok 3 (by decide)) rfl rfl (Nat.le_of_ble_eq_true rfl) dX5_advance_270 (fun H locs hP hD hS => ?_)
                          have hP : va_P G vwCl (wO c tka0 tka1 (ss tk_201 2 2)) H := hP
                          have hD : va_D A (wO c tka0 tka1 (ss tk_201 2 2)) := hD
                          exact hend H locs ls _ _ (zc1 (fun (z0 : SA) => (wO c tka0 tka1 z0 : va_W)) (Option.some.inj hm)) hP hD hS dX5_advance_273
                      refine lv_if_lt (tgt := 257) hx hb dX5_advance_205 (by decide) (fun c_205 => ?_) (fun c_205 => ?_)
                      · have hm := ifp c_205 hm
                        exact J_257 H locs ls hP hD hS (lv_sub hl [0, 1] rfl) hm
                      · have hm := ifn c_205 hm
                        refine lv_aload_n hx hb dX5_advance_208 rfl (lv_at hl 0 rfl) ?_
                        refine va_get (D := G) (ci := 5) (v := .int (tk_201.1 4)) (C := RX5) (T := TX5) (N := 7) hx hb hts hi_5 hown hK hP 0 rfl rfl 5 (by decide) (hts (.fieldLink RX5 35 "HubTrains$Tokens" "end" "I") (List.mem_of_getElem? (i := 3) rfl)) (fun _ h9 => h9) rfl dX5_advance_209 ?_
                        refine lv_iload_n hx hb dX5_advance_212 rfl (lv_at hl 1 rfl) ?_
                        refine lv_icmp_ge (tgt := 257) hx hb dX5_advance_213 (by decide) (fun c_213 => ?_) (fun c_213 => ?_)
                        · have hm := ifp c_213 hm
                          exact J_257 H locs ls hP hD hS (lv_sub hl [0, 1] rfl) hm
                        · have hm := ifn c_213 hm
                          refine lv_aload_n hx hb dX5_advance_216 rfl (lv_at hl 0 rfl) ?_
                          refine va_get (D := G) (ci := 5) (v := .ref tka1) (C := RX5) (T := TX5) (N := 7) hx hb hts hi_5 hown hK hP 0 rfl rfl 0 (by decide) (hts (.fieldLink RX5 9 "HubTrains$Tokens" "bytes" "[I") (List.mem_of_getElem? (i := 2) rfl)) (fun _ h9 => h9) rfl dX5_advance_217 ?_
                          refine lv_aload_n hx hb dX5_advance_220 rfl (lv_at hl 0 rfl) ?_
                          refine va_get (D := G) (ci := 5) (v := .int (tk_201.1 4)) (C := RX5) (T := TX5) (N := 7) hx hb hts hi_5 hown hK hP 0 rfl rfl 5 (by decide) (hts (.fieldLink RX5 35 "HubTrains$Tokens" "end" "I") (List.mem_of_getElem? (i := 3) rfl)) (fun _ h9 => h9) rfl dX5_advance_221 ?_
                          obtain ⟨h_224, hm⟩ := gd_s hm
                          refine va_iald (D := G) hx hb hK hP 1 0 rfl rfl (inb_s h_224) dX5_advance_224 ?_
                          refine lv_bipush (v := 97) hx hb dX5_advance_225 (by decide) ?_
                          refine lv_icmp_lt (tgt := 257) hx hb dX5_advance_227 (by decide) (fun c_227 => ?_) (fun c_227 => ?_)
                          · have hm := ifp c_227 hm
                            exact J_257 H locs ls hP hD hS (lv_sub hl [0, 1] rfl) hm
                          · have hm := ifn c_227 hm
                            refine lv_aload_n hx hb dX5_advance_230 rfl (lv_at hl 0 rfl) ?_
                            refine va_get (D := G) (ci := 5) (v := .ref tka1) (C := RX5) (T := TX5) (N := 7) hx hb hts hi_5 hown hK hP 0 rfl rfl 0 (by decide) (hts (.fieldLink RX5 9 "HubTrains$Tokens" "bytes" "[I") (List.mem_of_getElem? (i := 2) rfl)) (fun _ h9 => h9) rfl dX5_advance_231 ?_
                            refine lv_aload_n hx hb dX5_advance_234 rfl (lv_at hl 0 rfl) ?_
                            refine va_get (D := G) (ci := 5) (v := .int (tk_201.1 4)) (C := RX5) (T := TX5) (N := 7) hx hb hts hi_5 hown hK hP 0 rfl rfl 5 (by decide) (hts (.fieldLink RX5 35 "HubTrains$Tokens" "end" "I") (List.mem_of_getElem? (i := 3) rfl)) (fun _ h9 => h9) rfl dX5_advance_235 ?_
                            obtain ⟨h_238, hm⟩ := gd_s hm
                            refine va_iald (D := G) hx hb hK hP 1 0 rfl rfl (inb_s h_238) dX5_advance_238 ?_
                            refine lv_bipush (v := 122) hx hb dX5_advance_239 (by decide) ?_
                            refine lv_icmp_gt (tgt := 257) hx hb dX5_advance_241 (by decide) (fun c_241 => ?_) (fun c_241 => ?_)
                            · have hm := ifp c_241 hm
                              exact J_257 H locs ls hP hD hS (lv_sub hl [0, 1] rfl) hm
                            · have hm := ifn c_241 hm
                              refine lv_aload_n hx hb dX5_advance_244 rfl (lv_at hl 0 rfl) ?_
                              refine lv_dup hx hb dX5_advance_245 rfl ?_
                              refine va_get (D := G) (ci := 5) (v := .int (tk_201.1 4)) (C := RX5) (T := TX5) (N := 7) hx hb hts hi_5 hown hK hP 0 rfl rfl 5 (by decide) (hts (.fieldLink RX5 35 "HubTrains$Tokens" "end" "I") (List.mem_of_getElem? (i := 3) rfl)) (fun _ h9 => h9) rfl dX5_advance_246 ?_
                              refine lv_iconst (v := 1) hx hb dX5_advance_249 (by decide) ?_
                              refine lv_iadd hx hb dX5_advance_250 ?_
                              refine va_put (D := G) (ci := 5) (v := .int ((tk_201.1 4) + 1)) (C := RX5) (T := TX5) (N := 7) hx hb hts hi_5 tyX5 tyX5_ok nmX5 hown hK hP hD hS 0 rfl rfl 5 (by decide) (hts (.fieldLink RX5 35 "HubTrains$Tokens" "end" "I") (List.mem_of_getElem? (i := 3) rfl)) (fun _ h9 => h9) rfl (tyX5_ok 5 (by decide)) rfl rfl (Nat.le_of_ble_eq_true rfl) dX5_advance_251 (fun H locs hP hD hS => ?_)
                              have hP : va_P G vwCl (wO c tka0 tka1 (ss tk_201 4 ((tk_201.1 4) + 1))) H := hP
                              have hD : va_D A (wO c tka0 tka1 (ss tk_201 4 ((tk_201.1 4) + 1))) := hD
                              refine lv_goto (tgt := 201) hx hb dX5_advance_254 (by decide) ?_
                              exact ih_201 (ss tk_201 4 ((tk_201.1 4) + 1)) H locs ls hP hD hS (lv_sub hl [0, 1] rfl) hm
                  exact L_201 FUEL tk_88 H locs ls hP hD hS (lv_sub hl [0, 1] rfl) hm
                · have hm := ifn c_192 hm
                  refine lv_aload_n hx hb dX5_advance_195 rfl (lv_at hl 0 rfl) ?_
                  refine lv_iconst (v := 1) hx hb dX5_advance_196 (by decide) ?_
                  refine va_put (D := G) (ci := 5) (v := .int 1) (C := RX5) (T := TX5) (N := 7) hx hb hts hi_5 tyX5 tyX5_ok nmX5 hown hK hP hD hS 0 rfl rfl 3 (by decide) (hts (.fieldLink RX5 48 "HubTrains$Tokens" "kind" "I") (List.mem_of_getElem? (i := 7) rfl)) (fun _ h9 => h9) rfl (tyX5_ok 3 (by decide)) rfl rfl (Nat.le_of_ble_eq_true rfl) dX5_advance_197 (fun H locs hP hD hS => ?_)
                  have hP : va_P G vwCl (wO c tka0 tka1 (ss tk_88 2 1)) H := hP
                  have hD : va_D A (wO c tka0 tka1 (ss tk_88 2 1)) := hD
                  exact hend H locs ls _ _ (zc1 (fun (z0 : SA) => (wO c tka0 tka1 z0 : va_W)) (Option.some.inj hm)) hP hD hS dX5_advance_200
              refine lv_if_lt (tgt := 184) hx hb dX5_advance_92 (by decide) (fun c_92 => ?_) (fun c_92 => ?_)
              · have hm := ifp c_92 hm
                exact J_184 H locs ls hP hD hS (lv_sub hl [0, 1] rfl) hm
              · have hm := ifn c_92 hm
                refine lv_aload_n hx hb dX5_advance_95 rfl (lv_at hl 0 rfl) ?_
                refine va_get (D := G) (ci := 5) (v := .int (tk_88.1 4)) (C := RX5) (T := TX5) (N := 7) hx hb hts hi_5 hown hK hP 0 rfl rfl 5 (by decide) (hts (.fieldLink RX5 35 "HubTrains$Tokens" "end" "I") (List.mem_of_getElem? (i := 3) rfl)) (fun _ h9 => h9) rfl dX5_advance_96 ?_
                refine lv_iload_n hx hb dX5_advance_99 rfl (lv_at hl 1 rfl) ?_
                refine lv_icmp_ge (tgt := 184) hx hb dX5_advance_100 (by decide) (fun c_100 => ?_) (fun c_100 => ?_)
                · have hm := ifp c_100 hm
                  exact J_184 H locs ls hP hD hS (lv_sub hl [0, 1] rfl) hm
                · have hm := ifn c_100 hm
                  refine lv_aload_n hx hb dX5_advance_103 rfl (lv_at hl 0 rfl) ?_
                  refine va_get (D := G) (ci := 5) (v := .ref tka1) (C := RX5) (T := TX5) (N := 7) hx hb hts hi_5 hown hK hP 0 rfl rfl 0 (by decide) (hts (.fieldLink RX5 9 "HubTrains$Tokens" "bytes" "[I") (List.mem_of_getElem? (i := 2) rfl)) (fun _ h9 => h9) rfl dX5_advance_104 ?_
                  refine lv_aload_n hx hb dX5_advance_107 rfl (lv_at hl 0 rfl) ?_
                  refine va_get (D := G) (ci := 5) (v := .int (tk_88.1 4)) (C := RX5) (T := TX5) (N := 7) hx hb hts hi_5 hown hK hP 0 rfl rfl 5 (by decide) (hts (.fieldLink RX5 35 "HubTrains$Tokens" "end" "I") (List.mem_of_getElem? (i := 3) rfl)) (fun _ h9 => h9) rfl dX5_advance_108 ?_
                  obtain ⟨h_111, hm⟩ := gd_s hm
                  refine va_iald (D := G) hx hb hK hP 1 0 rfl rfl (inb_s h_111) dX5_advance_111 ?_
                  refine lv_bipush (v := 48) hx hb dX5_advance_112 (by decide) ?_
                  refine lv_icmp_lt (tgt := 184) hx hb dX5_advance_114 (by decide) (fun c_114 => ?_) (fun c_114 => ?_)
                  · have hm := ifp c_114 hm
                    exact J_184 H locs ls hP hD hS (lv_sub hl [0, 1] rfl) hm
                  · have hm := ifn c_114 hm
                    refine lv_aload_n hx hb dX5_advance_117 rfl (lv_at hl 0 rfl) ?_
                    refine va_get (D := G) (ci := 5) (v := .ref tka1) (C := RX5) (T := TX5) (N := 7) hx hb hts hi_5 hown hK hP 0 rfl rfl 0 (by decide) (hts (.fieldLink RX5 9 "HubTrains$Tokens" "bytes" "[I") (List.mem_of_getElem? (i := 2) rfl)) (fun _ h9 => h9) rfl dX5_advance_118 ?_
                    refine lv_aload_n hx hb dX5_advance_121 rfl (lv_at hl 0 rfl) ?_
                    refine va_get (D := G) (ci := 5) (v := .int (tk_88.1 4)) (C := RX5) (T := TX5) (N := 7) hx hb hts hi_5 hown hK hP 0 rfl rfl 5 (by decide) (hts (.fieldLink RX5 35 "HubTrains$Tokens" "end" "I") (List.mem_of_getElem? (i := 3) rfl)) (fun _ h9 => h9) rfl dX5_advance_122 ?_
                    obtain ⟨h_125, hm⟩ := gd_s hm
                    refine va_iald (D := G) hx hb hK hP 1 0 rfl rfl (inb_s h_125) dX5_advance_125 ?_
                    refine lv_bipush (v := 57) hx hb dX5_advance_126 (by decide) ?_
                    refine lv_icmp_gt (tgt := 184) hx hb dX5_advance_128 (by decide) (fun c_128 => ?_) (fun c_128 => ?_)
                    · have hm := ifp c_128 hm
                      exact J_184 H locs ls hP hD hS (lv_sub hl [0, 1] rfl) hm
                    · have hm := ifn c_128 hm
                      refine lv_aload_n hx hb dX5_advance_131 rfl (lv_at hl 0 rfl) ?_
                      refine lv_aload_n hx hb dX5_advance_132 rfl (lv_at hl 0 rfl) ?_
                      refine va_get (D := G) (ci := 5) (v := .int (tk_88.1 5)) (C := RX5) (T := TX5) (N := 7) hx hb hts hi_5 hown hK hP 0 rfl rfl 6 (by decide) (hts (.fieldLink RX5 44 "HubTrains$Tokens" "number" "I") (List.mem_of_getElem? (i := 5) rfl)) (fun _ h9 => h9) rfl dX5_advance_133 ?_
                      refine lv_ldc (v := 1000000) hx hb hown (hts (.constant RX5 47 (1000000)) (List.mem_of_getElem? (i := 6) rfl)) dX5_advance_136 ?_
                      have J_168 : ∀ (s0_168 : Int32) (H : Heap) (locs : List Loc) (ls : Array Slot), va_P G vwCl (wO c tka0 tka1 tk_88) H → va_D A (wO c tka0 tka1 tk_88) → va_S A s.heap H locs → lv_has ls 2 [(0, .ref tka0), (1, .int s0_24)] → f_X5_advance_J168 (itr1 (f_X5_advance_B88 s0_24) n_88) tk_88 s0_168 = some (tk_r) → W p l e (rm_X5_advance) s m args below meth c1 H locs 0 0 Q (F0 m 168 ls [.int s0_168, .ref tka0]) := by
                        intro s0_168 H locs ls hP hD hS hl hm
                        unfold f_X5_advance_J168 at hm
                        refine va_put (D := G) (ci := 5) (v := .int s0_168) (C := RX5) (T := TX5) (N := 7) hx hb hts hi_5 tyX5 tyX5_ok nmX5 hown hK hP hD hS 0 rfl rfl 6 (by decide) (hts (.fieldLink RX5 44 "HubTrains$Tokens" "number" "I") (List.mem_of_getElem? (i := 5) rfl)) (fun _ h9 => h9) rfl (tyX5_ok 6 (by decide)) rfl rfl (Nat.le_of_ble_eq_true rfl) dX5_advance_168 (fun H locs hP hD hS => ?_)
                        have hP : va_P G vwCl (wO c tka0 tka1 (ss tk_88 5 s0_168)) H := hP
                        have hD : va_D A (wO c tka0 tka1 (ss tk_88 5 s0_168)) := hD
                        refine lv_aload_n hx hb dX5_advance_171 rfl (lv_at hl 0 rfl) ?_
                        refine lv_dup hx hb dX5_advance_172 rfl ?_
                        refine va_get (D := G) (ci := 5) (v := .int (tk_88.1 4)) (C := RX5) (T := TX5) (N := 7) hx hb hts hi_5 hown hK hP 0 rfl rfl 5 (by decide) (hts (.fieldLink RX5 35 "HubTrains$Tokens" "end" "I") (List.mem_of_getElem? (i := 3) rfl)) (fun _ h9 => h9) rfl dX5_advance_173 ?_
                        refine lv_iconst (v := 1) hx hb dX5_advance_176 (by decide) ?_
                        refine lv_iadd hx hb dX5_advance_177 ?_
                        refine va_put (D := G) (ci := 5) (v := .int ((tk_88.1 4) + 1)) (C := RX5) (T := TX5) (N := 7) hx hb hts hi_5 tyX5 tyX5_ok nmX5 hown hK hP hD hS 0 rfl rfl 5 (by decide) (hts (.fieldLink RX5 35 "HubTrains$Tokens" "end" "I") (List.mem_of_getElem? (i := 3) rfl)) (fun _ h9 => h9) rfl (tyX5_ok 5 (by decide)) rfl rfl (Nat.le_of_ble_eq_true rfl) dX5_advance_178 (fun H locs hP hD hS => ?_)
                        have hP : va_P G vwCl (wO c tka0 tka1 (ss (ss tk_88 5 s0_168) 4 ((tk_88.1 4) + 1))) H := hP
                        have hD : va_D A (wO c tka0 tka1 (ss (ss tk_88 5 s0_168) 4 ((tk_88.1 4) + 1))) := hD
                        refine lv_goto (tgt := 88) hx hb dX5_advance_181 (by decide) ?_
                        exact ih_88 (ss (ss tk_88 5 s0_168) 4 ((tk_88.1 4) + 1)) H locs ls hP hD hS (lv_sub hl [0, 1] rfl) hm
                      refine lv_icmp_ge (tgt := 164) hx hb dX5_advance_138 (by decide) (fun c_138 => ?_) (fun c_138 => ?_)
                      · have hm := ifp c_138 hm
                        refine lv_aload_n hx hb dX5_advance_164 rfl (lv_at hl 0 rfl) ?_
                        refine va_get (D := G) (ci := 5) (v := .int (tk_88.1 5)) (C := RX5) (T := TX5) (N := 7) hx hb hts hi_5 hown hK hP 0 rfl rfl 6 (by decide) (hts (.fieldLink RX5 44 "HubTrains$Tokens" "number" "I") (List.mem_of_getElem? (i := 5) rfl)) (fun _ h9 => h9) rfl dX5_advance_165 ?_
                        exact J_168 (tk_88.1 5) H locs ls hP hD hS (lv_sub hl [0, 1] rfl) hm
                      · have hm := ifn c_138 hm
                        refine lv_bipush (v := 10) hx hb dX5_advance_141 (by decide) ?_
                        refine lv_aload_n hx hb dX5_advance_143 rfl (lv_at hl 0 rfl) ?_
                        refine va_get (D := G) (ci := 5) (v := .int (tk_88.1 5)) (C := RX5) (T := TX5) (N := 7) hx hb hts hi_5 hown hK hP 0 rfl rfl 6 (by decide) (hts (.fieldLink RX5 44 "HubTrains$Tokens" "number" "I") (List.mem_of_getElem? (i := 5) rfl)) (fun _ h9 => h9) rfl dX5_advance_144 ?_
                        refine lv_imul hx hb dX5_advance_147 ?_
                        refine lv_aload_n hx hb dX5_advance_148 rfl (lv_at hl 0 rfl) ?_
                        refine va_get (D := G) (ci := 5) (v := .ref tka1) (C := RX5) (T := TX5) (N := 7) hx hb hts hi_5 hown hK hP 0 rfl rfl 0 (by decide) (hts (.fieldLink RX5 9 "HubTrains$Tokens" "bytes" "[I") (List.mem_of_getElem? (i := 2) rfl)) (fun _ h9 => h9) rfl dX5_advance_149 ?_
                        refine lv_aload_n hx hb dX5_advance_152 rfl (lv_at hl 0 rfl) ?_
                        refine va_get (D := G) (ci := 5) (v := .int (tk_88.1 4)) (C := RX5) (T := TX5) (N := 7) hx hb hts hi_5 hown hK hP 0 rfl rfl 5 (by decide) (hts (.fieldLink RX5 35 "HubTrains$Tokens" "end" "I") (List.mem_of_getElem? (i := 3) rfl)) (fun _ h9 => h9) rfl dX5_advance_153 ?_
                        obtain ⟨h_156, hm⟩ := gd_s hm
                        refine va_iald (D := G) hx hb hK hP 1 0 rfl rfl (inb_s h_156) dX5_advance_156 ?_
                        refine lv_iadd hx hb dX5_advance_157 ?_
                        refine lv_bipush (v := 48) hx hb dX5_advance_158 (by decide) ?_
                        refine lv_isub hx hb dX5_advance_160 ?_
                        refine lv_goto (tgt := 168) hx hb dX5_advance_161 (by decide) ?_
                        exact J_168 (((10 * (tk_88.1 5)) + ((tk_88.2 0) (tk_88.1 4).toNatClampNeg)) - 48) H locs ls hP hD hS (lv_sub hl [0, 1] rfl) hm
          exact L_88 FUEL (ss (ss tk_33 4 (tk_33.1 3)) 5 0) H locs ls hP hD hS (lv_sub hl [0, 1] rfl) hm
        refine lv_if_lt (tgt := 75) hx hb dX5_advance_37 (by decide) (fun c_37 => ?_) (fun c_37 => ?_)
        · have hm := ifp c_37 hm
          exact J_75 H locs ls hP hD hS (lv_sub hl [0, 1] rfl) hm
        · have hm := ifn c_37 hm
          refine lv_aload_n hx hb dX5_advance_40 rfl (lv_at hl 0 rfl) ?_
          refine va_get (D := G) (ci := 5) (v := .int (tk_33.1 3)) (C := RX5) (T := TX5) (N := 7) hx hb hts hi_5 hown hK hP 0 rfl rfl 4 (by decide) (hts (.fieldLink RX5 41 "HubTrains$Tokens" "start" "I") (List.mem_of_getElem? (i := 4) rfl)) (fun _ h9 => h9) rfl dX5_advance_41 ?_
          refine lv_iload_n hx hb dX5_advance_44 rfl (lv_at hl 1 rfl) ?_
          refine lv_icmp_ge (tgt := 75) hx hb dX5_advance_45 (by decide) (fun c_45 => ?_) (fun c_45 => ?_)
          · have hm := ifp c_45 hm
            exact J_75 H locs ls hP hD hS (lv_sub hl [0, 1] rfl) hm
          · have hm := ifn c_45 hm
            refine lv_aload_n hx hb dX5_advance_48 rfl (lv_at hl 0 rfl) ?_
            refine va_get (D := G) (ci := 5) (v := .ref tka1) (C := RX5) (T := TX5) (N := 7) hx hb hts hi_5 hown hK hP 0 rfl rfl 0 (by decide) (hts (.fieldLink RX5 9 "HubTrains$Tokens" "bytes" "[I") (List.mem_of_getElem? (i := 2) rfl)) (fun _ h9 => h9) rfl dX5_advance_49 ?_
            refine lv_aload_n hx hb dX5_advance_52 rfl (lv_at hl 0 rfl) ?_
            refine va_get (D := G) (ci := 5) (v := .int (tk_33.1 3)) (C := RX5) (T := TX5) (N := 7) hx hb hts hi_5 hown hK hP 0 rfl rfl 4 (by decide) (hts (.fieldLink RX5 41 "HubTrains$Tokens" "start" "I") (List.mem_of_getElem? (i := 4) rfl)) (fun _ h9 => h9) rfl dX5_advance_53 ?_
            obtain ⟨h_56, hm⟩ := gd_s hm
            refine va_iald (D := G) hx hb hK hP 1 0 rfl rfl (inb_s h_56) dX5_advance_56 ?_
            refine lv_bipush (v := 32) hx hb dX5_advance_57 (by decide) ?_
            refine lv_icmp_ne (tgt := 75) hx hb dX5_advance_59 (by decide) (fun c_59 => ?_) (fun c_59 => ?_)
            · have hm := ifn c_59 hm
              exact J_75 H locs ls hP hD hS (lv_sub hl [0, 1] rfl) hm
            · have hm := ifp c_59 hm
              refine lv_aload_n hx hb dX5_advance_62 rfl (lv_at hl 0 rfl) ?_
              refine lv_dup hx hb dX5_advance_63 rfl ?_
              refine va_get (D := G) (ci := 5) (v := .int (tk_33.1 3)) (C := RX5) (T := TX5) (N := 7) hx hb hts hi_5 hown hK hP 0 rfl rfl 4 (by decide) (hts (.fieldLink RX5 41 "HubTrains$Tokens" "start" "I") (List.mem_of_getElem? (i := 4) rfl)) (fun _ h9 => h9) rfl dX5_advance_64 ?_
              refine lv_iconst (v := 1) hx hb dX5_advance_67 (by decide) ?_
              refine lv_iadd hx hb dX5_advance_68 ?_
              refine va_put (D := G) (ci := 5) (v := .int ((tk_33.1 3) + 1)) (C := RX5) (T := TX5) (N := 7) hx hb hts hi_5 tyX5 tyX5_ok nmX5 hown hK hP hD hS 0 rfl rfl 4 (by decide) (hts (.fieldLink RX5 41 "HubTrains$Tokens" "start" "I") (List.mem_of_getElem? (i := 4) rfl)) (fun _ h9 => h9) rfl (tyX5_ok 4 (by decide)) rfl rfl (Nat.le_of_ble_eq_true rfl) dX5_advance_69 (fun H locs hP hD hS => ?_)
              have hP : va_P G vwCl (wO c tka0 tka1 (ss tk_33 3 ((tk_33.1 3) + 1))) H := hP
              have hD : va_D A (wO c tka0 tka1 (ss tk_33 3 ((tk_33.1 3) + 1))) := hD
              refine lv_goto (tgt := 33) hx hb dX5_advance_72 (by decide) ?_
              exact ih_33 (ss tk_33 3 ((tk_33.1 3) + 1)) H locs ls hP hD hS (lv_sub hl [0, 1] rfl) hm
    exact L_33 FUEL (ss tk 3 (tk.1 4)) H locs ls hP hD hS (lv_sub hl [1, 0] rfl) hm
  refine lv_icmp_ge (tgt := 19) hx hb dX5_advance_9 (by decide) (fun c_9 => ?_) (fun c_9 => ?_)
  · have hm := ifp c_9 hm
    refine lv_aload_n hx hb dX5_advance_19 rfl (lv_at hl 0 rfl) ?_
    refine va_get (D := G) (ci := 5) (v := .ref tka1) (C := RX5) (T := TX5) (N := 7) hx hb hts hi_5 hown hK hP 0 rfl rfl 0 (by decide) (hts (.fieldLink RX5 9 "HubTrains$Tokens" "bytes" "[I") (List.mem_of_getElem? (i := 2) rfl)) (fun _ h9 => h9) rfl dX5_advance_20 ?_
    refine va_alen (D := G) (v := 500) hx hb hK hP 1 0 rfl rfl rfl dX5_advance_23 ?_
    exact J_24 500 H locs ls hP hD hS (lv_sub hl [0] rfl) hm
  · have hm := ifn c_9 hm
    refine lv_aload_n hx hb dX5_advance_12 rfl (lv_at hl 0 rfl) ?_
    refine va_get (D := G) (ci := 5) (v := .int (tk.1 1)) (C := RX5) (T := TX5) (N := 7) hx hb hts hi_5 hown hK hP 0 rfl rfl 2 (by decide) (hts (.fieldLink RX5 32 "HubTrains$Tokens" "length" "I") (List.mem_of_getElem? (i := 1) rfl)) (fun _ h9 => h9) rfl dX5_advance_13 ?_
    refine lv_goto (tgt := 24) hx hb dX5_advance_16 (by decide) ?_
    exact J_24 (tk.1 1) H locs ls hP hD hS (lv_sub hl [0] rfl) hm


def f_X5_begin (tk : SA) (p0 : Int32) : Option SA :=
  nmd (if 0 < (if 500 < p0 then 500 else p0) then (if 500 < p0 then 500 else p0) else 0) fun (y14 : Int32) => bd1 (f_X5_advance (ss (ss tk 1 y14) 4 0)) fun (tk23 : SA) => some (tk23)

abbrev rm_X5_begin : Room := { frames := 1, cells := 0, slots := 0, locals := 23 }
theorem hd_X5_begin : yX5_begin.cls = RX5 ∧ yX5_begin.cls ≠ "java/lang/invoke/MethodHandle" ∧ yX5_begin.cls ≠ "java/lang/invoke/VarHandle" ∧ (parseMethodDescriptor yX5_begin.desc).map (fun d => d.parameters.length) = some 1 := by decide +kernel
set_option maxHeartbeats 4000000 in
set_option maxRecDepth 100000 in
theorem k_X5_begin (l : Launch) (G : va_G) (K : (Nat → Nat) × (Nat → Nat)) (c : Nat → ClassId) (tka0 : Nat) (tka1 : Nat) (tk : SA) (p0 : Int32) (tk_r : SA) (hm : f_X5_begin tk p0 = some (tk_r)) : zMv l yX5_begin wsX5_begin (rm_X5_begin) G K (TY c) [.ref tka0, .int p0] (wO c tka0 tka1 tk) (wO c tka0 tka1 tk_r) := by
  refine zMv.of (cc := cX5_begin) (maxL := 2) (lv := [(0, .ref tka0), (1, .int p0)]) (by decide) rfl (Nat.le_of_ble_eq_true rfl) rfl ?_
  intro p e s m args below meth c1 A Q H locs hx hb hml hown hts hK hN hZ hP hD hA hS hend ls hl
  have hown : s.vm.findClass RX5 = some m.cls := hown
  have hi_5 : ∀ w ∈ wsX50, w ∈ wsX5_begin := (fun w h => List.mem_cons_of_mem _ (List.mem_append_right _ (h)))
  unfold f_X5_begin at hm
  refine lv_aload_n hx hb dX5_begin_0 rfl (lv_at hl 0 rfl) ?_
  refine lv_iconst (v := 0) hx hb dX5_begin_1 (by decide) ?_
  refine lv_iload_n hx hb dX5_begin_2 rfl (lv_at hl 1 rfl) ?_
  refine lv_aload_n hx hb dX5_begin_3 rfl (lv_at hl 0 rfl) ?_
  refine va_get (D := G) (ci := 5) (v := .ref tka1) (C := RX5) (T := TX5) (N := 7) hx hb hts hi_5 hown hK hP 0 rfl rfl 0 (by decide) (hts (.fieldLink RX5 9 "HubTrains$Tokens" "bytes" "[I") (List.mem_of_getElem? (i := 1) rfl)) (fun _ h9 => h9) rfl dX5_begin_4 ?_
  refine va_alen (D := G) (v := 500) hx hb hK hP 1 0 rfl rfl rfl dX5_begin_7 ?_
  refine va_mmin hx hb (hml.trans hl.1.symm) hown (hts (.methodLink RX5 23 Lib.Math.min.name) (List.mem_of_getElem? (i := 2) rfl)) (hts (.static Lib.Math.min.name) (List.mem_of_getElem? (i := 3) rfl)) (hts (.initialized "java/lang/Math") (List.mem_of_getElem? (i := 4) rfl)) (hts (.code Lib.Math.min.name Lib.Math.min.code 2 (some .int)) (List.mem_of_getElem? (i := 5) rfl)) (Nat.le_of_ble_eq_true rfl) (Nat.le_of_ble_eq_true rfl) (Nat.zero_le _) (Nat.zero_le _) dX5_begin_8 ?_
  refine va_mmax hx hb (hml.trans hl.1.symm) hown (hts (.methodLink RX5 29 Lib.Math.max.name) (List.mem_of_getElem? (i := 6) rfl)) (hts (.static Lib.Math.max.name) (List.mem_of_getElem? (i := 7) rfl)) (hts (.initialized "java/lang/Math") (List.mem_of_getElem? (i := 4) rfl)) (hts (.code Lib.Math.max.name Lib.Math.max.code 2 (some .int)) (List.mem_of_getElem? (i := 8) rfl)) (Nat.le_of_ble_eq_true rfl) (Nat.le_of_ble_eq_true rfl) (Nat.zero_le _) (Nat.zero_le _) dX5_begin_11 ?_
  refine lv_topi (fun y14 e_y14 => ?_)
  have hm := nmd_s hm y14 e_y14
  refine va_put (D := G) (ci := 5) (v := .int y14) (C := RX5) (T := TX5) (N := 7) hx hb hts hi_5 tyX5 tyX5_ok nmX5 hown hK hP hD hS 0 rfl rfl 2 (by decide) (hts (.fieldLink RX5 32 "HubTrains$Tokens" "length" "I") (List.mem_of_getElem? (i := 9) rfl)) (fun _ h9 => h9) rfl (tyX5_ok 2 (by decide)) rfl rfl (Nat.le_of_ble_eq_true rfl) dX5_begin_14 (fun H locs hP hD hS => ?_)
  have hP : va_P G vwCl (wO c tka0 tka1 (ss tk 1 y14)) H := hP
  have hD : va_D A (wO c tka0 tka1 (ss tk 1 y14)) := hD
  refine lv_aload_n hx hb dX5_begin_17 rfl (lv_at hl 0 rfl) ?_
  refine lv_iconst (v := 0) hx hb dX5_begin_18 (by decide) ?_
  refine va_put (D := G) (ci := 5) (v := .int 0) (C := RX5) (T := TX5) (N := 7) hx hb hts hi_5 tyX5 tyX5_ok nmX5 hown hK hP hD hS 0 rfl rfl 5 (by decide) (hts (.fieldLink RX5 35 "HubTrains$Tokens" "end" "I") (List.mem_of_getElem? (i := 10) rfl)) (fun _ h9 => h9) rfl (tyX5_ok 5 (by decide)) rfl rfl (Nat.le_of_ble_eq_true rfl) dX5_begin_19 (fun H locs hP hD hS => ?_)
  have hP : va_P G vwCl (wO c tka0 tka1 (ss (ss tk 1 y14) 4 0)) H := hP
  have hD : va_D A (wO c tka0 tka1 (ss (ss tk 1 y14) 4 0)) := hD
  refine lv_aload_n hx hb dX5_begin_22 rfl (lv_at hl 0 rfl) ?_
  obtain ⟨tk23, e_23, hm⟩ := bd1_s hm
  refine zcVv (As := []) (rest := []) ⟨hx, hb, hml, hown, hts⟩ (k_X5_advance l G K c tka0 tka1 (ss (ss tk 1 y14) 4 0) tk23 e_23) (cwV 0 hts gX5_begin_X5_advance rfl rfl rfl hd_X5_advance ⟨Nat.le_of_ble_eq_true rfl, Nat.le_of_ble_eq_true rfl⟩) hK hN hZ hP hD hS hA (va_recv hK hP (ci := 5) (q0 := 0) rfl rfl) [0, 1] rfl (by decide) rfl rfl hl.1 rfl (Nat.le_of_ble_eq_true rfl) dX5_begin_23 ⟨Nat.zero_le _, Nat.zero_le _⟩ (fun H locs hP hD hS => ?_)
  have hP : va_P G vwCl (wO c tka0 tka1 tk23) H := hP
  have hD : va_D A (wO c tka0 tka1 tk23) := hD
  exact hend H locs ls _ _ (zc1 (fun (z0 : SA) => (wO c tka0 tka1 z0 : va_W)) (Option.some.inj hm)) hP hD hS dX5_begin_26


def f_X5_isNumber (tk : SA) : Option Int32 :=
  if (tk.1 2) = 1 then (some (1)) else (some (0))

abbrev rm_X5_isNumber : Room := { frames := 0, cells := 0, slots := 0, locals := 0 }
theorem hd_X5_isNumber : yX5_isNumber.cls = RX5 ∧ yX5_isNumber.cls ≠ "java/lang/invoke/MethodHandle" ∧ yX5_isNumber.cls ≠ "java/lang/invoke/VarHandle" ∧ (parseMethodDescriptor yX5_isNumber.desc).map (fun d => d.parameters.length) = some 0 := by decide +kernel
set_option maxHeartbeats 4000000 in
set_option maxRecDepth 100000 in
theorem k_X5_isNumber (l : Launch) (G : va_G) (K : (Nat → Nat) × (Nat → Nat)) (c : Nat → ClassId) (tka0 : Nat) (tka1 : Nat) (tk : SA) (r : Int32) (hm : f_X5_isNumber tk = some (r)) : zMi l yX5_isNumber wsX5_isNumber (rm_X5_isNumber) G K (TY c) [.ref tka0] (wO c tka0 tka1 tk) (wO c tka0 tka1 tk) r := by
  refine zMi.of (cc := cX5_isNumber) (maxL := 1) (lv := [(0, .ref tka0)]) (by decide) rfl (Nat.le_of_ble_eq_true rfl) rfl ?_
  intro p e s m args below meth c1 A Q H locs hx hb hml hown hts hK hN hZ hP hD hA hS hend ls hl
  have hown : s.vm.findClass RX5 = some m.cls := hown
  have hi_5 : ∀ w ∈ wsX50, w ∈ wsX5_isNumber := (fun w h => List.mem_cons_of_mem _ (List.mem_append_right _ (h)))
  unfold f_X5_isNumber at hm
  refine lv_aload_n hx hb dX5_isNumber_0 rfl (lv_at hl 0 rfl) ?_
  refine va_get (D := G) (ci := 5) (v := .int (tk.1 2)) (C := RX5) (T := TX5) (N := 7) hx hb hts hi_5 hown hK hP 0 rfl rfl 3 (by decide) (hts (.fieldLink RX5 48 "HubTrains$Tokens" "kind" "I") (List.mem_of_getElem? (i := 1) rfl)) (fun _ h9 => h9) rfl dX5_isNumber_1 ?_
  refine lv_iconst (v := 1) hx hb dX5_isNumber_4 (by decide) ?_
  refine lv_icmp_ne (tgt := 12) hx hb dX5_isNumber_5 (by decide) (fun c_5 => ?_) (fun c_5 => ?_)
  · have hm := ifn c_5 hm
    refine lv_iconst (v := 0) hx hb dX5_isNumber_12 (by decide) ?_
    exact hend H locs ls _ _ _ (by decide) (Option.some.inj hm) rfl hP hD hS dX5_isNumber_13
  · have hm := ifp c_5 hm
    refine lv_iconst (v := 1) hx hb dX5_isNumber_8 (by decide) ?_
    refine lv_goto (tgt := 13) hx hb dX5_isNumber_9 (by decide) ?_
    exact hend H locs ls _ _ _ (by decide) (Option.some.inj hm) rfl hP hD hS dX5_isNumber_13

def f_X5_isWord_B30 (tk : SA) (p0 : Nat) (rec_30 : Int32 → Int32 → Option Int32) (v2_30 : Int32) (v3_30 : Int32) : Option Int32 :=
  gd (decide (p0 < 22)) <| if (slen p0) ≤ v3_30 then (gd (isb v2_30) <| some (v2_30)) else (if v2_30 = 0 then (rec_30 0 (v3_30 + 1)) else (if ((tk.1 3) + v3_30) < 0 then (rec_30 0 (v3_30 + 1)) else (if (500 : Int32) ≤ ((tk.1 3) + v3_30) then (rec_30 0 (v3_30 + 1)) else (gd (inb ((tk.1 3) + v3_30) 500) <| gd (scg p0 v3_30) <| if ((tk.2 0) ((tk.1 3) + v3_30).toNatClampNeg) = (schr p0 v3_30) then (rec_30 1 (v3_30 + 1)) else (rec_30 0 (v3_30 + 1))))))

def f_X5_isWord (tk : SA) (p0 : Nat) : Option Int32 :=
  if (tk.1 2) = 2 then (gd (decide (p0 < 22)) <| if ((tk.1 4) - (tk.1 3)) = (slen p0) then (itr2 (f_X5_isWord_B30 tk p0) FUEL 1 0) else (some (0))) else (some (0))

abbrev rm_X5_isWord : Room := { frames := 8, cells := 0, slots := 0, locals := 400 }
theorem hd_X5_isWord : yX5_isWord.cls = RX5 ∧ yX5_isWord.cls ≠ "java/lang/invoke/MethodHandle" ∧ yX5_isWord.cls ≠ "java/lang/invoke/VarHandle" ∧ (parseMethodDescriptor yX5_isWord.desc).map (fun d => d.parameters.length) = some 1 := by decide +kernel
set_option maxHeartbeats 4000000 in
set_option maxRecDepth 100000 in
theorem k_X5_isWord (l : Launch) (G : va_G) (K : (Nat → Nat) × (Nat → Nat)) (c : Nat → ClassId) (tka0 : Nat) (tka1 : Nat) (tk : SA) (p0 : Nat) (r : Int32) (hm : f_X5_isWord tk p0 = some (r)) : zMi l yX5_isWord wsX5_isWord (rm_X5_isWord) G K (TY c) [.ref tka0, .ref (K.1 p0)] (wO c tka0 tka1 tk) (wO c tka0 tka1 tk) r := by
  refine zMi.of (cc := cX5_isWord) (maxL := 5) (lv := [(0, .ref tka0), (1, .ref (K.1 p0))]) (by decide) rfl (Nat.le_of_ble_eq_true rfl) rfl ?_
  intro p e s m args below meth c1 A Q H locs hx hb hml hown hts hK hN hZ hP hD hA hS hend ls hl
  have hown : s.vm.findClass RX5 = some m.cls := hown
  have hi_5 : ∀ w ∈ wsX50, w ∈ wsX5_isWord := (fun w h => List.mem_cons_of_mem _ (List.mem_append_left _ (List.mem_append_right _ (h))))
  unfold f_X5_isWord at hm
  refine lv_aload_n hx hb dX5_isWord_0 rfl (lv_at hl 0 rfl) ?_
  refine va_get (D := G) (ci := 5) (v := .int (tk.1 2)) (C := RX5) (T := TX5) (N := 7) hx hb hts hi_5 hown hK hP 0 rfl rfl 3 (by decide) (hts (.fieldLink RX5 48 "HubTrains$Tokens" "kind" "I") (List.mem_of_getElem? (i := 1) rfl)) (fun _ h9 => h9) rfl dX5_isWord_1 ?_
  refine lv_iconst (v := 2) hx hb dX5_isWord_4 (by decide) ?_
  refine lv_icmp_ne (tgt := 24) hx hb dX5_isWord_5 (by decide) (fun c_5 => ?_) (fun c_5 => ?_)
  · have hm := ifn c_5 hm
    refine lv_iconst (v := 0) hx hb dX5_isWord_24 (by decide) ?_
    exact hend H locs ls _ _ _ (by decide) (Option.some.inj hm) rfl hP hD hS dX5_isWord_25
  · have hm := ifp c_5 hm
    refine lv_aload_n hx hb dX5_isWord_8 rfl (lv_at hl 0 rfl) ?_
    refine va_get (D := G) (ci := 5) (v := .int (tk.1 4)) (C := RX5) (T := TX5) (N := 7) hx hb hts hi_5 hown hK hP 0 rfl rfl 5 (by decide) (hts (.fieldLink RX5 35 "HubTrains$Tokens" "end" "I") (List.mem_of_getElem? (i := 2) rfl)) (fun _ h9 => h9) rfl dX5_isWord_9 ?_
    refine lv_aload_n hx hb dX5_isWord_12 rfl (lv_at hl 0 rfl) ?_
    refine va_get (D := G) (ci := 5) (v := .int (tk.1 3)) (C := RX5) (T := TX5) (N := 7) hx hb hts hi_5 hown hK hP 0 rfl rfl 4 (by decide) (hts (.fieldLink RX5 41 "HubTrains$Tokens" "start" "I") (List.mem_of_getElem? (i := 3) rfl)) (fun _ h9 => h9) rfl dX5_isWord_13 ?_
    refine lv_isub hx hb dX5_isWord_16 ?_
    refine lv_aload_n hx hb dX5_isWord_17 rfl (lv_at hl 1 rfl) ?_
    obtain ⟨h_18, hm⟩ := gd_s hm
    refine zcVi (As := []) (rest := [.int ((tk.1 4) - (tk.1 3))]) ⟨hx, hb, hml, hown, hts⟩ (k_strlen l G K c p0 h_18) (cwV 0 hts gX5_isWord_J0_length_8abf5 rfl rfl rfl hd_J0_length_8abf5 ⟨Nat.le_of_ble_eq_true rfl, Nat.le_of_ble_eq_true rfl⟩) hK hN hZ hP hD hS hA (zk_recv hZ.1 (of_decide_eq_true h_18) hS) [] rfl rfl rfl rfl hl.1 rfl (Nat.le_of_ble_eq_true rfl) dX5_isWord_18 ⟨Nat.zero_le _, Nat.zero_le _⟩ (fun H locs hP hD hS => ?_)
    have hP : va_P G vwCl (wO c tka0 tka1 tk) H := hP
    have hD : va_D A (wO c tka0 tka1 tk) := hD
    refine lv_icmp_eq (tgt := 26) hx hb dX5_isWord_21 (by decide) (fun c_21 => ?_) (fun c_21 => ?_)
    · have hm := ifp c_21 hm
      refine lv_iconst (v := 1) hx hb dX5_isWord_26 (by decide) ?_
      refine lv_istore_n (lv' := [(2, .int 1), (0, .ref tka0), (1, .ref (K.1 p0))]) hx hb dX5_isWord_27 rfl hl (by decide) rfl (fun ls hl => ?_)
      refine lv_iconst (v := 0) hx hb dX5_isWord_28 (by decide) ?_
      refine lv_istore_n (lv' := [(3, .int 0), (2, .int 1), (0, .ref tka0), (1, .ref (K.1 p0))]) hx hb dX5_isWord_29 rfl hl (by decide) rfl (fun ls hl => ?_)
      have L_30 : ∀ (n_30 : Nat) (v2_30 : Int32) (v3_30 : Int32) (H : Heap) (locs : List Loc) (ls : Array Slot), va_P G vwCl (wO c tka0 tka1 tk) H → va_D A (wO c tka0 tka1 tk) → va_S A s.heap H locs → lv_has ls 5 [(0, .ref tka0), (1, .ref (K.1 p0)), (2, .int v2_30), (3, .int v3_30)] → itr2 (f_X5_isWord_B30 tk p0) n_30 v2_30 v3_30 = some (r) → W p l e (rm_X5_isWord) s m args below meth c1 H locs 0 0 Q (F0 m 30 ls []) := by
        intro n_30
        induction n_30 with
        | zero => intro v2_30 v3_30 H locs ls hP hD hS hl hm; exact (itr2_0 hm).elim
        | succ n_30 ih_30 =>
          intro v2_30 v3_30 H locs ls hP hD hS hl hm
          have hm := itr2_s hm
          unfold f_X5_isWord_B30 at hm
          refine lv_iload_n hx hb dX5_isWord_30 rfl (lv_at hl 3 rfl) ?_
          refine lv_aload_n hx hb dX5_isWord_31 rfl (lv_at hl 1 rfl) ?_
          obtain ⟨h_32, hm⟩ := gd_s hm
          refine zcVi (As := []) (rest := [.int v3_30]) ⟨hx, hb, hml, hown, hts⟩ (k_strlen l G K c p0 h_32) (cwV 0 hts gX5_isWord_J0_length_8abf5 rfl rfl rfl hd_J0_length_8abf5 ⟨Nat.le_of_ble_eq_true rfl, Nat.le_of_ble_eq_true rfl⟩) hK hN hZ hP hD hS hA (zk_recv hZ.1 (of_decide_eq_true h_32) hS) [] rfl rfl rfl rfl hl.1 rfl (Nat.le_of_ble_eq_true rfl) dX5_isWord_32 ⟨Nat.zero_le _, Nat.zero_le _⟩ (fun H locs hP hD hS => ?_)
          have hP : va_P G vwCl (wO c tka0 tka1 tk) H := hP
          have hD : va_D A (wO c tka0 tka1 tk) := hD
          refine lv_icmp_ge (tgt := 92) hx hb dX5_isWord_35 (by decide) (fun c_35 => ?_) (fun c_35 => ?_)
          · have hm := ifp c_35 hm
            refine lv_iload_n hx hb dX5_isWord_92 rfl (lv_at hl 2 rfl) ?_
            obtain ⟨h_93, hm⟩ := gd_s hm
            exact hend H locs ls _ _ _ (isb_n h_93) (Option.some.inj hm) rfl hP hD hS dX5_isWord_93
          · have hm := ifn c_35 hm
            refine lv_aload_n hx hb dX5_isWord_38 rfl (lv_at hl 0 rfl) ?_
            refine va_get (D := G) (ci := 5) (v := .int (tk.1 3)) (C := RX5) (T := TX5) (N := 7) hx hb hts hi_5 hown hK hP 0 rfl rfl 4 (by decide) (hts (.fieldLink RX5 41 "HubTrains$Tokens" "start" "I") (List.mem_of_getElem? (i := 3) rfl)) (fun _ h9 => h9) rfl dX5_isWord_39 ?_
            refine lv_iload_n hx hb dX5_isWord_42 rfl (lv_at hl 3 rfl) ?_
            refine lv_iadd hx hb dX5_isWord_43 ?_
            refine lv_istore (lv' := [(4, .int ((tk.1 3) + v3_30)), (0, .ref tka0), (1, .ref (K.1 p0)), (2, .int v2_30), (3, .int v3_30)]) hx hb dX5_isWord_44 hl (by decide) rfl (fun ls hl => ?_)
            refine lv_iload_n hx hb dX5_isWord_46 rfl (lv_at hl 3 rfl) ?_
            refine lv_if_eq (tgt := 84) hx hb dX5_isWord_47 (by decide) (fun c_47 => ?_) (fun c_47 => ?_)
            · have hm := ifp c_47 hm
              refine lv_iconst (v := 0) hx hb dX5_isWord_84 (by decide) ?_
              refine lv_istore_n (lv' := [(2, .int 0), (4, .int ((tk.1 3) + v3_30)), (0, .ref tka0), (1, .ref (K.1 p0)), (3, .int v3_30)]) hx hb dX5_isWord_85 rfl hl (by decide) rfl (fun ls hl => ?_)
              refine lv_iinc (k := 4) (v := (v3_30 + 1)) (lv' := [(3, .int (v3_30 + 1)), (2, .int 0), (4, .int ((tk.1 3) + v3_30)), (0, .ref tka0), (1, .ref (K.1 p0))]) hx hb dX5_isWord_86 hl rfl rfl (by decide) rfl (fun ls hl => ?_)
              refine lv_goto (tgt := 30) hx hb dX5_isWord_89 (by decide) ?_
              exact ih_30 0 (v3_30 + 1) H locs ls hP hD hS (lv_sub hl [3, 4, 1, 0] rfl) hm
            · have hm := ifn c_47 hm
              refine lv_iload hx hb dX5_isWord_50 (lv_at hl 0 rfl) ?_
              refine lv_if_lt (tgt := 84) hx hb dX5_isWord_52 (by decide) (fun c_52 => ?_) (fun c_52 => ?_)
              · have hm := ifp c_52 hm
                refine lv_iconst (v := 0) hx hb dX5_isWord_84 (by decide) ?_
                refine lv_istore_n (lv' := [(2, .int 0), (4, .int ((tk.1 3) + v3_30)), (0, .ref tka0), (1, .ref (K.1 p0)), (3, .int v3_30)]) hx hb dX5_isWord_85 rfl hl (by decide) rfl (fun ls hl => ?_)
                refine lv_iinc (k := 4) (v := (v3_30 + 1)) (lv' := [(3, .int (v3_30 + 1)), (2, .int 0), (4, .int ((tk.1 3) + v3_30)), (0, .ref tka0), (1, .ref (K.1 p0))]) hx hb dX5_isWord_86 hl rfl rfl (by decide) rfl (fun ls hl => ?_)
                refine lv_goto (tgt := 30) hx hb dX5_isWord_89 (by decide) ?_
                exact ih_30 0 (v3_30 + 1) H locs ls hP hD hS (lv_sub hl [3, 4, 1, 0] rfl) hm
              · have hm := ifn c_52 hm
                refine lv_iload hx hb dX5_isWord_55 (lv_at hl 0 rfl) ?_
                refine lv_aload_n hx hb dX5_isWord_57 rfl (lv_at hl 1 rfl) ?_
                refine va_get (D := G) (ci := 5) (v := .ref tka1) (C := RX5) (T := TX5) (N := 7) hx hb hts hi_5 hown hK hP 0 rfl rfl 0 (by decide) (hts (.fieldLink RX5 9 "HubTrains$Tokens" "bytes" "[I") (List.mem_of_getElem? (i := 4) rfl)) (fun _ h9 => h9) rfl dX5_isWord_58 ?_
                refine va_alen (D := G) (v := 500) hx hb hK hP 1 0 rfl rfl rfl dX5_isWord_61 ?_
                refine lv_icmp_ge (tgt := 84) hx hb dX5_isWord_62 (by decide) (fun c_62 => ?_) (fun c_62 => ?_)
                · have hm := ifp c_62 hm
                  refine lv_iconst (v := 0) hx hb dX5_isWord_84 (by decide) ?_
                  refine lv_istore_n (lv' := [(2, .int 0), (4, .int ((tk.1 3) + v3_30)), (0, .ref tka0), (1, .ref (K.1 p0)), (3, .int v3_30)]) hx hb dX5_isWord_85 rfl hl (by decide) rfl (fun ls hl => ?_)
                  refine lv_iinc (k := 4) (v := (v3_30 + 1)) (lv' := [(3, .int (v3_30 + 1)), (2, .int 0), (4, .int ((tk.1 3) + v3_30)), (0, .ref tka0), (1, .ref (K.1 p0))]) hx hb dX5_isWord_86 hl rfl rfl (by decide) rfl (fun ls hl => ?_)
                  refine lv_goto (tgt := 30) hx hb dX5_isWord_89 (by decide) ?_
                  exact ih_30 0 (v3_30 + 1) H locs ls hP hD hS (lv_sub hl [3, 4, 1, 0] rfl) hm
                · have hm := ifn c_62 hm
                  refine lv_aload_n hx hb dX5_isWord_65 rfl (lv_at hl 1 rfl) ?_
                  refine va_get (D := G) (ci := 5) (v := .ref tka1) (C := RX5) (T := TX5) (N := 7) hx hb hts hi_5 hown hK hP 0 rfl rfl 0 (by decide) (hts (.fieldLink RX5 9 "HubTrains$Tokens" "bytes" "[I") (List.mem_of_getElem? (i := 4) rfl)) (fun _ h9 => h9) rfl dX5_isWord_66 ?_
                  refine lv_iload hx hb dX5_isWord_69 (lv_at hl 0 rfl) ?_
                  obtain ⟨h_71, hm⟩ := gd_s hm
                  refine va_iald (D := G) hx hb hK hP 1 0 rfl rfl (inb_s h_71) dX5_isWord_71 ?_
                  refine lv_aload_n hx hb dX5_isWord_72 rfl (lv_at hl 2 rfl) ?_
                  refine lv_iload_n hx hb dX5_isWord_73 rfl (lv_at hl 4 rfl) ?_
                  obtain ⟨h_74, hm⟩ := gd_s hm
                  refine zcVi (As := [.int v3_30]) (rest := [.int ((tk.2 0) ((tk.1 3) + v3_30).toNatClampNeg)]) ⟨hx, hb, hml, hown, hts⟩ (k_strchr l G K c p0 v3_30 h_74) (cwV 1 hts gX5_isWord_J0_charAt_5068e rfl rfl rfl hd_J0_charAt_5068e ⟨Nat.le_of_ble_eq_true rfl, Nat.le_of_ble_eq_true rfl⟩) hK hN hZ hP hD hS hA (zk_recv hZ.1 (scg_i h_74) hS) [] rfl rfl rfl rfl hl.1 rfl (Nat.le_of_ble_eq_true rfl) dX5_isWord_74 ⟨Nat.zero_le _, Nat.zero_le _⟩ (fun H locs hP hD hS => ?_)
                  have hP : va_P G vwCl (wO c tka0 tka1 tk) H := hP
                  have hD : va_D A (wO c tka0 tka1 tk) := hD
                  refine lv_icmp_ne (tgt := 84) hx hb dX5_isWord_77 (by decide) (fun c_77 => ?_) (fun c_77 => ?_)
                  · have hm := ifn c_77 hm
                    refine lv_iconst (v := 0) hx hb dX5_isWord_84 (by decide) ?_
                    refine lv_istore_n (lv' := [(2, .int 0), (4, .int ((tk.1 3) + v3_30)), (0, .ref tka0), (1, .ref (K.1 p0)), (3, .int v3_30)]) hx hb dX5_isWord_85 rfl hl (by decide) rfl (fun ls hl => ?_)
                    refine lv_iinc (k := 4) (v := (v3_30 + 1)) (lv' := [(3, .int (v3_30 + 1)), (2, .int 0), (4, .int ((tk.1 3) + v3_30)), (0, .ref tka0), (1, .ref (K.1 p0))]) hx hb dX5_isWord_86 hl rfl rfl (by decide) rfl (fun ls hl => ?_)
                    refine lv_goto (tgt := 30) hx hb dX5_isWord_89 (by decide) ?_
                    exact ih_30 0 (v3_30 + 1) H locs ls hP hD hS (lv_sub hl [3, 4, 1, 0] rfl) hm
                  · have hm := ifp c_77 hm
                    refine lv_iconst (v := 1) hx hb dX5_isWord_80 (by decide) ?_
                    refine lv_goto (tgt := 85) hx hb dX5_isWord_81 (by decide) ?_
                    refine lv_istore_n (lv' := [(2, .int 1), (4, .int ((tk.1 3) + v3_30)), (0, .ref tka0), (1, .ref (K.1 p0)), (3, .int v3_30)]) hx hb dX5_isWord_85 rfl hl (by decide) rfl (fun ls hl => ?_)
                    refine lv_iinc (k := 4) (v := (v3_30 + 1)) (lv' := [(3, .int (v3_30 + 1)), (2, .int 1), (4, .int ((tk.1 3) + v3_30)), (0, .ref tka0), (1, .ref (K.1 p0))]) hx hb dX5_isWord_86 hl rfl rfl (by decide) rfl (fun ls hl => ?_)
                    refine lv_goto (tgt := 30) hx hb dX5_isWord_89 (by decide) ?_
                    exact ih_30 1 (v3_30 + 1) H locs ls hP hD hS (lv_sub hl [3, 4, 1, 0] rfl) hm
      exact L_30 FUEL 1 0 H locs ls hP hD hS (lv_sub hl [2, 3, 1, 0] rfl) hm
    · have hm := ifn c_21 hm
      refine lv_iconst (v := 0) hx hb dX5_isWord_24 (by decide) ?_
      exact hend H locs ls _ _ _ (by decide) (Option.some.inj hm) rfl hP hD hS dX5_isWord_25


def f_X5_isSign (tk : SA) (p0 : Int32) : Option Int32 :=
  if (tk.1 2) = 3 then (if (tk.1 3) < 0 then (some (0)) else (if (500 : Int32) ≤ (tk.1 3) then (some (0)) else (gd (inb (tk.1 3) 500) <| if ((tk.2 0) (tk.1 3).toNatClampNeg) = p0 then (some (1)) else (some (0))))) else (some (0))

abbrev rm_X5_isSign : Room := { frames := 0, cells := 0, slots := 0, locals := 0 }
theorem hd_X5_isSign : yX5_isSign.cls = RX5 ∧ yX5_isSign.cls ≠ "java/lang/invoke/MethodHandle" ∧ yX5_isSign.cls ≠ "java/lang/invoke/VarHandle" ∧ (parseMethodDescriptor yX5_isSign.desc).map (fun d => d.parameters.length) = some 1 := by decide +kernel
set_option maxHeartbeats 4000000 in
set_option maxRecDepth 100000 in
theorem k_X5_isSign (l : Launch) (G : va_G) (K : (Nat → Nat) × (Nat → Nat)) (c : Nat → ClassId) (tka0 : Nat) (tka1 : Nat) (tk : SA) (p0 : Int32) (r : Int32) (hm : f_X5_isSign tk p0 = some (r)) : zMi l yX5_isSign wsX5_isSign (rm_X5_isSign) G K (TY c) [.ref tka0, .int p0] (wO c tka0 tka1 tk) (wO c tka0 tka1 tk) r := by
  refine zMi.of (cc := cX5_isSign) (maxL := 2) (lv := [(0, .ref tka0), (1, .int p0)]) (by decide) rfl (Nat.le_of_ble_eq_true rfl) rfl ?_
  intro p e s m args below meth c1 A Q H locs hx hb hml hown hts hK hN hZ hP hD hA hS hend ls hl
  have hown : s.vm.findClass RX5 = some m.cls := hown
  have hi_5 : ∀ w ∈ wsX50, w ∈ wsX5_isSign := (fun w h => List.mem_cons_of_mem _ (List.mem_append_right _ (h)))
  unfold f_X5_isSign at hm
  refine lv_aload_n hx hb dX5_isSign_0 rfl (lv_at hl 0 rfl) ?_
  refine va_get (D := G) (ci := 5) (v := .int (tk.1 2)) (C := RX5) (T := TX5) (N := 7) hx hb hts hi_5 hown hK hP 0 rfl rfl 3 (by decide) (hts (.fieldLink RX5 48 "HubTrains$Tokens" "kind" "I") (List.mem_of_getElem? (i := 1) rfl)) (fun _ h9 => h9) rfl dX5_isSign_1 ?_
  refine lv_iconst (v := 3) hx hb dX5_isSign_4 (by decide) ?_
  refine lv_icmp_ne (tgt := 44) hx hb dX5_isSign_5 (by decide) (fun c_5 => ?_) (fun c_5 => ?_)
  · have hm := ifn c_5 hm
    refine lv_iconst (v := 0) hx hb dX5_isSign_44 (by decide) ?_
    exact hend H locs ls _ _ _ (by decide) (Option.some.inj hm) rfl hP hD hS dX5_isSign_45
  · have hm := ifp c_5 hm
    refine lv_aload_n hx hb dX5_isSign_8 rfl (lv_at hl 0 rfl) ?_
    refine va_get (D := G) (ci := 5) (v := .int (tk.1 3)) (C := RX5) (T := TX5) (N := 7) hx hb hts hi_5 hown hK hP 0 rfl rfl 4 (by decide) (hts (.fieldLink RX5 41 "HubTrains$Tokens" "start" "I") (List.mem_of_getElem? (i := 2) rfl)) (fun _ h9 => h9) rfl dX5_isSign_9 ?_
    refine lv_if_lt (tgt := 44) hx hb dX5_isSign_12 (by decide) (fun c_12 => ?_) (fun c_12 => ?_)
    · have hm := ifp c_12 hm
      refine lv_iconst (v := 0) hx hb dX5_isSign_44 (by decide) ?_
      exact hend H locs ls _ _ _ (by decide) (Option.some.inj hm) rfl hP hD hS dX5_isSign_45
    · have hm := ifn c_12 hm
      refine lv_aload_n hx hb dX5_isSign_15 rfl (lv_at hl 0 rfl) ?_
      refine va_get (D := G) (ci := 5) (v := .int (tk.1 3)) (C := RX5) (T := TX5) (N := 7) hx hb hts hi_5 hown hK hP 0 rfl rfl 4 (by decide) (hts (.fieldLink RX5 41 "HubTrains$Tokens" "start" "I") (List.mem_of_getElem? (i := 2) rfl)) (fun _ h9 => h9) rfl dX5_isSign_16 ?_
      refine lv_aload_n hx hb dX5_isSign_19 rfl (lv_at hl 0 rfl) ?_
      refine va_get (D := G) (ci := 5) (v := .ref tka1) (C := RX5) (T := TX5) (N := 7) hx hb hts hi_5 hown hK hP 0 rfl rfl 0 (by decide) (hts (.fieldLink RX5 9 "HubTrains$Tokens" "bytes" "[I") (List.mem_of_getElem? (i := 3) rfl)) (fun _ h9 => h9) rfl dX5_isSign_20 ?_
      refine va_alen (D := G) (v := 500) hx hb hK hP 1 0 rfl rfl rfl dX5_isSign_23 ?_
      refine lv_icmp_ge (tgt := 44) hx hb dX5_isSign_24 (by decide) (fun c_24 => ?_) (fun c_24 => ?_)
      · have hm := ifp c_24 hm
        refine lv_iconst (v := 0) hx hb dX5_isSign_44 (by decide) ?_
        exact hend H locs ls _ _ _ (by decide) (Option.some.inj hm) rfl hP hD hS dX5_isSign_45
      · have hm := ifn c_24 hm
        refine lv_aload_n hx hb dX5_isSign_27 rfl (lv_at hl 0 rfl) ?_
        refine va_get (D := G) (ci := 5) (v := .ref tka1) (C := RX5) (T := TX5) (N := 7) hx hb hts hi_5 hown hK hP 0 rfl rfl 0 (by decide) (hts (.fieldLink RX5 9 "HubTrains$Tokens" "bytes" "[I") (List.mem_of_getElem? (i := 3) rfl)) (fun _ h9 => h9) rfl dX5_isSign_28 ?_
        refine lv_aload_n hx hb dX5_isSign_31 rfl (lv_at hl 0 rfl) ?_
        refine va_get (D := G) (ci := 5) (v := .int (tk.1 3)) (C := RX5) (T := TX5) (N := 7) hx hb hts hi_5 hown hK hP 0 rfl rfl 4 (by decide) (hts (.fieldLink RX5 41 "HubTrains$Tokens" "start" "I") (List.mem_of_getElem? (i := 2) rfl)) (fun _ h9 => h9) rfl dX5_isSign_32 ?_
        obtain ⟨h_35, hm⟩ := gd_s hm
        refine va_iald (D := G) hx hb hK hP 1 0 rfl rfl (inb_s h_35) dX5_isSign_35 ?_
        refine lv_iload_n hx hb dX5_isSign_36 rfl (lv_at hl 1 rfl) ?_
        refine lv_icmp_ne (tgt := 44) hx hb dX5_isSign_37 (by decide) (fun c_37 => ?_) (fun c_37 => ?_)
        · have hm := ifn c_37 hm
          refine lv_iconst (v := 0) hx hb dX5_isSign_44 (by decide) ?_
          exact hend H locs ls _ _ _ (by decide) (Option.some.inj hm) rfl hP hD hS dX5_isSign_45
        · have hm := ifp c_37 hm
          refine lv_iconst (v := 1) hx hb dX5_isSign_40 (by decide) ?_
          refine lv_goto (tgt := 45) hx hb dX5_isSign_41 (by decide) ?_
          exact hend H locs ls _ _ _ (by decide) (Option.some.inj hm) rfl hP hD hS dX5_isSign_45


def f_X3_fail (rd : RS) (p0 : Int32) (p1 : Int32) : Option (Int32 × RS) :=
  some (0, ((ss (ss rd.1 6 p0) 7 p1), rd.2.1, rd.2.2))

abbrev rm_X3_fail : Room := { frames := 0, cells := 0, slots := 0, locals := 0 }
theorem hd_X3_fail : yX3_fail.cls = RX3 ∧ yX3_fail.cls ≠ "java/lang/invoke/MethodHandle" ∧ yX3_fail.cls ≠ "java/lang/invoke/VarHandle" ∧ (parseMethodDescriptor yX3_fail.desc).map (fun d => d.parameters.length) = some 2 := by decide +kernel
set_option maxHeartbeats 4000000 in
set_option maxRecDepth 100000 in
theorem k_X3_fail (l : Launch) (G : va_G) (K : (Nat → Nat) × (Nat → Nat)) (c : Nat → ClassId) (ard : Nat → Nat) (rd : RS) (p0 : Int32) (p1 : Int32) (r : Int32) (rd_r : RS) (hm : f_X3_fail rd p0 p1 = some (r, rd_r)) : zMi l yX3_fail wsX3_fail (rm_X3_fail) G K (TY c) [.ref (ard 0), .int p0, .int p1] (wR c ard rd) (wR c ard rd_r) r := by
  refine zMi.of (cc := cX3_fail) (maxL := 3) (lv := [(0, .ref (ard 0)), (1, .int p0), (2, .int p1)]) (by decide) rfl (Nat.le_of_ble_eq_true rfl) rfl ?_
  intro p e s m args below meth c1 A Q H locs hx hb hml hown hts hK hN hZ hP hD hA hS hend ls hl
  have hown : s.vm.findClass RX3 = some m.cls := hown
  have hi_3 : ∀ w ∈ wsX30, w ∈ wsX3_fail := (fun w h => List.mem_cons_of_mem _ (List.mem_append_right _ (h)))
  unfold f_X3_fail at hm
  refine lv_aload_n hx hb dX3_fail_0 rfl (lv_at hl 0 rfl) ?_
  refine lv_iload_n hx hb dX3_fail_1 rfl (lv_at hl 1 rfl) ?_
  refine va_put (D := G) (ci := 3) (v := .int p0) (C := RX3) (T := TX3) (N := 11) hx hb hts hi_3 tyX3 tyX3_ok nmX3 hown hK hP hD hS 0 rfl rfl 9 (by decide) (hts (.fieldLink RX3 56 "HubTrains$SetupReader" "error" "I") (List.mem_of_getElem? (i := 1) rfl)) (fun _ h9 => h9) rfl (tyX3_ok 9 (by decide)) rfl rfl (Nat.le_of_ble_eq_true rfl) dX3_fail_2 (fun H locs hP hD hS => ?_)
  have hP : va_P G vwCl (wR c ard ((ss rd.1 6 p0), rd.2.1, rd.2.2)) H := hP
  have hD : va_D A (wR c ard ((ss rd.1 6 p0), rd.2.1, rd.2.2)) := hD
  refine lv_aload_n hx hb dX3_fail_5 rfl (lv_at hl 0 rfl) ?_
  refine lv_iload_n hx hb dX3_fail_6 rfl (lv_at hl 2 rfl) ?_
  refine va_put (D := G) (ci := 3) (v := .int p1) (C := RX3) (T := TX3) (N := 11) hx hb hts hi_3 tyX3 tyX3_ok nmX3 hown hK hP hD hS 0 rfl rfl 10 (by decide) (hts (.fieldLink RX3 29 "HubTrains$SetupReader" "errorOffset" "I") (List.mem_of_getElem? (i := 2) rfl)) (fun _ h9 => h9) rfl (tyX3_ok 10 (by decide)) rfl rfl (Nat.le_of_ble_eq_true rfl) dX3_fail_7 (fun H locs hP hD hS => ?_)
  have hP : va_P G vwCl (wR c ard ((ss (ss rd.1 6 p0) 7 p1), rd.2.1, rd.2.2)) H := hP
  have hD : va_D A (wR c ard ((ss (ss rd.1 6 p0) 7 p1), rd.2.1, rd.2.2)) := hD
  refine lv_iconst (v := 0) hx hb dX3_fail_10 (by decide) ?_
  exact hend H locs ls _ _ _ (by decide) (Prod.mk.inj (Option.some.inj hm)).1 (zc1 (fun (z0 : RS) => (wR c ard z0 : va_W)) (Prod.mk.inj (Option.some.inj hm)).2) hP hD hS dX3_fail_11

def f_X3_takeNumber_J51 (rd : RS) : Option (Int32 × RS) :=
  bd2 (f_X3_fail ((ss rd.1 0 (rd.2.1.1 5)), rd.2.1, rd.2.2) (-3) (rd.2.1.1 3)) fun (r61 : Int32) (rd61 : RS) => gd (isb r61) <| some (r61, rd61)

def f_X3_takeNumber (rd : RS) (p0 : Int32) (p1 : Int32) : Option (Int32 × RS) :=
  bd1 (f_X5_isNumber rd.2.1) fun (r4 : Int32) => if r4 = 0 then (bd2 (f_X3_fail rd (-2) (rd.2.1.1 3)) fun (r20 : Int32) (rd20 : RS) => gd (isb r20) <| some (r20, rd20)) else (if (rd.2.1.1 5) < p0 then (f_X3_takeNumber_J51 rd) else (if (rd.2.1.1 5) ≤ p1 then (bd1 (f_X5_advance rd.2.1) fun (tk69 : SA) => some (1, ((ss rd.1 0 (rd.2.1.1 5)), tk69, rd.2.2))) else (f_X3_takeNumber_J51 rd)))

abbrev rm_X3_takeNumber : Room := { frames := 1, cells := 0, slots := 0, locals := 22 }
theorem hd_X3_takeNumber : yX3_takeNumber.cls = RX3 ∧ yX3_takeNumber.cls ≠ "java/lang/invoke/MethodHandle" ∧ yX3_takeNumber.cls ≠ "java/lang/invoke/VarHandle" ∧ (parseMethodDescriptor yX3_takeNumber.desc).map (fun d => d.parameters.length) = some 2 := by decide +kernel
set_option maxHeartbeats 4000000 in
set_option maxRecDepth 100000 in
theorem k_X3_takeNumber (l : Launch) (G : va_G) (K : (Nat → Nat) × (Nat → Nat)) (c : Nat → ClassId) (ard : Nat → Nat) (rd : RS) (p0 : Int32) (p1 : Int32) (r : Int32) (rd_r : RS) (hm : f_X3_takeNumber rd p0 p1 = some (r, rd_r)) : zMi l yX3_takeNumber wsX3_takeNumber (rm_X3_takeNumber) G K (TY c) [.ref (ard 0), .int p0, .int p1] (wR c ard rd) (wR c ard rd_r) r := by
  refine zMi.of (cc := cX3_takeNumber) (maxL := 3) (lv := [(0, .ref (ard 0)), (1, .int p0), (2, .int p1)]) (by decide) rfl (Nat.le_of_ble_eq_true rfl) rfl ?_
  intro p e s m args below meth c1 A Q H locs hx hb hml hown hts hK hN hZ hP hD hA hS hend ls hl
  have hown : s.vm.findClass RX3 = some m.cls := hown
  have hi_3 : ∀ w ∈ wsX30, w ∈ wsX3_takeNumber := (fun w h => List.mem_cons_of_mem _ (List.mem_append_left _ (List.mem_append_right _ (h))))
  have hi_5 : ∀ w ∈ wsX50, w ∈ wsX3_takeNumber := (fun w h => List.mem_cons_of_mem _ (List.mem_append_right _ (h)))
  unfold f_X3_takeNumber at hm
  refine lv_aload_n hx hb dX3_takeNumber_0 rfl (lv_at hl 0 rfl) ?_
  refine va_get (D := G) (ci := 3) (v := .ref (ard 2)) (C := RX3) (T := TX3) (N := 11) hx hb hts hi_3 hown hK hP 0 rfl rfl 0 (by decide) (hts (.fieldLink RX3 12 "HubTrains$SetupReader" "tokens" "LHubTrains$Tokens;") (List.mem_of_getElem? (i := 1) rfl)) (fun _ h9 => h9) rfl dX3_takeNumber_1 ?_
  obtain ⟨r4, e_4, hm⟩ := bd1_s hm
  refine zcVi (As := []) (rest := []) ⟨hx, hb, hml, hown, hts⟩ (k_X5_isNumber l G K c (ard 2) (ard 3) rd.2.1 r4 e_4) (cwV 0 hts gX3_takeNumber_X5_isNumber rfl rfl rfl hd_X5_isNumber ⟨Nat.le_of_ble_eq_true rfl, Nat.le_of_ble_eq_true rfl⟩) hK hN hZ hP hD hS hA (va_recv hK hP (ci := 5) (q0 := 2) rfl rfl) [2, 3] rfl (by decide) rfl rfl hl.1 rfl (Nat.le_of_ble_eq_true rfl) dX3_takeNumber_4 ⟨Nat.zero_le _, Nat.zero_le _⟩ (fun H locs hP hD hS => ?_)
  have hP : va_P G vwCl (wR c ard rd) H := hP
  have hD : va_D A (wR c ard rd) := hD
  refine lv_if_ne (tgt := 24) hx hb dX3_takeNumber_7 (by decide) (fun c_7 => ?_) (fun c_7 => ?_)
  · have hm := ifn c_7 hm
    refine lv_aload_n hx hb dX3_takeNumber_24 rfl (lv_at hl 0 rfl) ?_
    refine lv_aload_n hx hb dX3_takeNumber_25 rfl (lv_at hl 0 rfl) ?_
    refine va_get (D := G) (ci := 3) (v := .ref (ard 2)) (C := RX3) (T := TX3) (N := 11) hx hb hts hi_3 hown hK hP 0 rfl rfl 0 (by decide) (hts (.fieldLink RX3 12 "HubTrains$SetupReader" "tokens" "LHubTrains$Tokens;") (List.mem_of_getElem? (i := 1) rfl)) (fun _ h9 => h9) rfl dX3_takeNumber_26 ?_
    refine va_getN (D := G) (ci := 5) (v := .int (rd.2.1.1 5)) (C := RX5) (T := TX5) (N := 7) hx hb hts hi_5 hown hK hP 2 rfl rfl 6 (by decide) (va_Nw.use rfl (nwf_HubTrains_SetupReader_196 hN.1)) (fun _ h9 => h9) rfl dX3_takeNumber_29 ?_
    refine va_put (D := G) (ci := 3) (v := .int (rd.2.1.1 5)) (C := RX3) (T := TX3) (N := 11) hx hb hts hi_3 tyX3 tyX3_ok nmX3 hown hK hP hD hS 0 rfl rfl 2 (by decide) (hts (.fieldLink RX3 104 "HubTrains$SetupReader" "number" "I") (List.mem_of_getElem? (i := 2) rfl)) (fun _ h9 => h9) rfl (tyX3_ok 2 (by decide)) rfl rfl (Nat.le_of_ble_eq_true rfl) dX3_takeNumber_32 (fun H locs hP hD hS => ?_)
    have hP : va_P G vwCl (wR c ard ((ss rd.1 0 (rd.2.1.1 5)), rd.2.1, rd.2.2)) H := hP
    have hD : va_D A (wR c ard ((ss rd.1 0 (rd.2.1.1 5)), rd.2.1, rd.2.2)) := hD
    refine lv_aload_n hx hb dX3_takeNumber_35 rfl (lv_at hl 0 rfl) ?_
    refine va_get (D := G) (ci := 3) (v := .int (rd.2.1.1 5)) (C := RX3) (T := TX3) (N := 11) hx hb hts hi_3 hown hK hP 0 rfl rfl 2 (by decide) (hts (.fieldLink RX3 104 "HubTrains$SetupReader" "number" "I") (List.mem_of_getElem? (i := 2) rfl)) (fun _ h9 => h9) rfl dX3_takeNumber_36 ?_
    refine lv_iload_n hx hb dX3_takeNumber_39 rfl (lv_at hl 1 rfl) ?_
    have J_51 : ∀ (H : Heap) (locs : List Loc) (ls : Array Slot), va_P G vwCl (wR c ard ((ss rd.1 0 (rd.2.1.1 5)), rd.2.1, rd.2.2)) H → va_D A (wR c ard ((ss rd.1 0 (rd.2.1.1 5)), rd.2.1, rd.2.2)) → va_S A s.heap H locs → lv_has ls 3 [(0, .ref (ard 0))] → f_X3_takeNumber_J51 rd = some (r, rd_r) → W p l e (rm_X3_takeNumber) s m args below meth c1 H locs 0 0 Q (F0 m 51 ls []) := by
      intro  H locs ls hP hD hS hl hm
      unfold f_X3_takeNumber_J51 at hm
      refine lv_aload_n hx hb dX3_takeNumber_51 rfl (lv_at hl 0 rfl) ?_
      refine lv_bipush (v := (-3)) hx hb dX3_takeNumber_52 (by decide) ?_
      refine lv_aload_n hx hb dX3_takeNumber_54 rfl (lv_at hl 0 rfl) ?_
      refine va_get (D := G) (ci := 3) (v := .ref (ard 2)) (C := RX3) (T := TX3) (N := 11) hx hb hts hi_3 hown hK hP 0 rfl rfl 0 (by decide) (hts (.fieldLink RX3 12 "HubTrains$SetupReader" "tokens" "LHubTrains$Tokens;") (List.mem_of_getElem? (i := 1) rfl)) (fun _ h9 => h9) rfl dX3_takeNumber_55 ?_
      refine va_getN (D := G) (ci := 5) (v := .int (rd.2.1.1 3)) (C := RX5) (T := TX5) (N := 7) hx hb hts hi_5 hown hK hP 2 rfl rfl 4 (by decide) (va_Nw.use rfl (nwf_HubTrains_SetupReader_91 hN.1)) (fun _ h9 => h9) rfl dX3_takeNumber_58 ?_
      obtain ⟨r61, rd61, e_61, hm⟩ := bd2_s hm
      refine zcVi (As := [.int (-3), .int (rd.2.1.1 3)]) (rest := []) ⟨hx, hb, hml, hown, hts⟩ (k_X3_fail l G K c ard ((ss rd.1 0 (rd.2.1.1 5)), rd.2.1, rd.2.2) (-3) (rd.2.1.1 3) r61 rd61 e_61) (cwV 2 hts gX3_takeNumber_X3_fail rfl rfl rfl hd_X3_fail ⟨Nat.le_of_ble_eq_true rfl, Nat.le_of_ble_eq_true rfl⟩) hK hN hZ hP hD hS hA (va_recv hK hP (ci := 3) (q0 := 0) rfl rfl) [0, 1, 2, 3, 4, 5, 6, 7, 8, 9, 10, 11, 12, 13] rfl (by decide) rfl rfl hl.1 rfl (Nat.le_of_ble_eq_true rfl) dX3_takeNumber_61 ⟨Nat.zero_le _, Nat.zero_le _⟩ (fun H locs hP hD hS => ?_)
      have hP : va_P G vwCl (wR c ard rd61) H := hP
      have hD : va_D A (wR c ard rd61) := hD
      obtain ⟨h_64, hm⟩ := gd_s hm
      exact hend H locs ls _ _ _ (isb_n h_64) (Prod.mk.inj (Option.some.inj hm)).1 (zc1 (fun (z0 : RS) => (wR c ard z0 : va_W)) (Prod.mk.inj (Option.some.inj hm)).2) hP hD hS dX3_takeNumber_64
    refine lv_icmp_lt (tgt := 51) hx hb dX3_takeNumber_40 (by decide) (fun c_40 => ?_) (fun c_40 => ?_)
    · have hm := ifp c_40 hm
      exact J_51 H locs ls hP hD hS (lv_sub hl [0] rfl) hm
    · have hm := ifn c_40 hm
      refine lv_aload_n hx hb dX3_takeNumber_43 rfl (lv_at hl 0 rfl) ?_
      refine va_get (D := G) (ci := 3) (v := .int (rd.2.1.1 5)) (C := RX3) (T := TX3) (N := 11) hx hb hts hi_3 hown hK hP 0 rfl rfl 2 (by decide) (hts (.fieldLink RX3 104 "HubTrains$SetupReader" "number" "I") (List.mem_of_getElem? (i := 2) rfl)) (fun _ h9 => h9) rfl dX3_takeNumber_44 ?_
      refine lv_iload_n hx hb dX3_takeNumber_47 rfl (lv_at hl 2 rfl) ?_
      refine lv_icmp_le (tgt := 65) hx hb dX3_takeNumber_48 (by decide) (fun c_48 => ?_) (fun c_48 => ?_)
      · have hm := ifp c_48 hm
        refine lv_aload_n hx hb dX3_takeNumber_65 rfl (lv_at hl 0 rfl) ?_
        refine va_get (D := G) (ci := 3) (v := .ref (ard 2)) (C := RX3) (T := TX3) (N := 11) hx hb hts hi_3 hown hK hP 0 rfl rfl 0 (by decide) (hts (.fieldLink RX3 12 "HubTrains$SetupReader" "tokens" "LHubTrains$Tokens;") (List.mem_of_getElem? (i := 1) rfl)) (fun _ h9 => h9) rfl dX3_takeNumber_66 ?_
        obtain ⟨tk69, e_69, hm⟩ := bd1_s hm
        refine zcVv (As := []) (rest := []) ⟨hx, hb, hml, hown, hts⟩ (k_X5_advance l G K c (ard 2) (ard 3) rd.2.1 tk69 e_69) (cwV 0 hts gX3_takeNumber_X5_advance rfl rfl rfl hd_X5_advance ⟨Nat.le_of_ble_eq_true rfl, Nat.le_of_ble_eq_true rfl⟩) hK hN hZ hP hD hS hA (va_recv hK hP (ci := 5) (q0 := 2) rfl rfl) [2, 3] rfl (by decide) rfl rfl hl.1 rfl (Nat.le_of_ble_eq_true rfl) dX3_takeNumber_69 ⟨Nat.zero_le _, Nat.zero_le _⟩ (fun H locs hP hD hS => ?_)
        have hP : va_P G vwCl (wR c ard ((ss rd.1 0 (rd.2.1.1 5)), tk69, rd.2.2)) H := hP
        have hD : va_D A (wR c ard ((ss rd.1 0 (rd.2.1.1 5)), tk69, rd.2.2)) := hD
        refine lv_iconst (v := 1) hx hb dX3_takeNumber_72 (by decide) ?_
        exact hend H locs ls _ _ _ (by decide) (Prod.mk.inj (Option.some.inj hm)).1 (zc1 (fun (z0 : RS) => (wR c ard z0 : va_W)) (Prod.mk.inj (Option.some.inj hm)).2) hP hD hS dX3_takeNumber_73
      · have hm := ifn c_48 hm
        exact J_51 H locs ls hP hD hS (lv_sub hl [0] rfl) hm
  · have hm := ifp c_7 hm
    refine lv_aload_n hx hb dX3_takeNumber_10 rfl (lv_at hl 0 rfl) ?_
    refine lv_bipush (v := (-2)) hx hb dX3_takeNumber_11 (by decide) ?_
    refine lv_aload_n hx hb dX3_takeNumber_13 rfl (lv_at hl 0 rfl) ?_
    refine va_get (D := G) (ci := 3) (v := .ref (ard 2)) (C := RX3) (T := TX3) (N := 11) hx hb hts hi_3 hown hK hP 0 rfl rfl 0 (by decide) (hts (.fieldLink RX3 12 "HubTrains$SetupReader" "tokens" "LHubTrains$Tokens;") (List.mem_of_getElem? (i := 1) rfl)) (fun _ h9 => h9) rfl dX3_takeNumber_14 ?_
    refine va_getN (D := G) (ci := 5) (v := .int (rd.2.1.1 3)) (C := RX5) (T := TX5) (N := 7) hx hb hts hi_5 hown hK hP 2 rfl rfl 4 (by decide) (va_Nw.use rfl (nwf_HubTrains_SetupReader_91 hN.1)) (fun _ h9 => h9) rfl dX3_takeNumber_17 ?_
    obtain ⟨r20, rd20, e_20, hm⟩ := bd2_s hm
    refine zcVi (As := [.int (-2), .int (rd.2.1.1 3)]) (rest := []) ⟨hx, hb, hml, hown, hts⟩ (k_X3_fail l G K c ard rd (-2) (rd.2.1.1 3) r20 rd20 e_20) (cwV 2 hts gX3_takeNumber_X3_fail rfl rfl rfl hd_X3_fail ⟨Nat.le_of_ble_eq_true rfl, Nat.le_of_ble_eq_true rfl⟩) hK hN hZ hP hD hS hA (va_recv hK hP (ci := 3) (q0 := 0) rfl rfl) [0, 1, 2, 3, 4, 5, 6, 7, 8, 9, 10, 11, 12, 13] rfl (by decide) rfl rfl hl.1 rfl (Nat.le_of_ble_eq_true rfl) dX3_takeNumber_20 ⟨Nat.zero_le _, Nat.zero_le _⟩ (fun H locs hP hD hS => ?_)
    have hP : va_P G vwCl (wR c ard rd20) H := hP
    have hD : va_D A (wR c ard rd20) := hD
    obtain ⟨h_23, hm⟩ := gd_s hm
    exact hend H locs ls _ _ _ (isb_n h_23) (Prod.mk.inj (Option.some.inj hm)).1 (zc1 (fun (z0 : RS) => (wR c ard z0 : va_W)) (Prod.mk.inj (Option.some.inj hm)).2) hP hD hS dX3_takeNumber_23


def f_X3_takeSign (rd : RS) (p0 : Int32) : Option (Int32 × RS) :=
  bd1 (f_X5_isSign rd.2.1 p0) fun (r5 : Int32) => if r5 = 0 then (bd2 (f_X3_fail rd (-2) (rd.2.1.1 3)) fun (r21 : Int32) (rd21 : RS) => gd (isb r21) <| some (r21, rd21)) else (bd1 (f_X5_advance rd.2.1) fun (tk29 : SA) => some (1, (rd.1, tk29, rd.2.2)))

abbrev rm_X3_takeSign : Room := { frames := 1, cells := 0, slots := 0, locals := 22 }
theorem hd_X3_takeSign : yX3_takeSign.cls = RX3 ∧ yX3_takeSign.cls ≠ "java/lang/invoke/MethodHandle" ∧ yX3_takeSign.cls ≠ "java/lang/invoke/VarHandle" ∧ (parseMethodDescriptor yX3_takeSign.desc).map (fun d => d.parameters.length) = some 1 := by decide +kernel
set_option maxHeartbeats 4000000 in
set_option maxRecDepth 100000 in
theorem k_X3_takeSign (l : Launch) (G : va_G) (K : (Nat → Nat) × (Nat → Nat)) (c : Nat → ClassId) (ard : Nat → Nat) (rd : RS) (p0 : Int32) (r : Int32) (rd_r : RS) (hm : f_X3_takeSign rd p0 = some (r, rd_r)) : zMi l yX3_takeSign wsX3_takeSign (rm_X3_takeSign) G K (TY c) [.ref (ard 0), .int p0] (wR c ard rd) (wR c ard rd_r) r := by
  refine zMi.of (cc := cX3_takeSign) (maxL := 2) (lv := [(0, .ref (ard 0)), (1, .int p0)]) (by decide) rfl (Nat.le_of_ble_eq_true rfl) rfl ?_
  intro p e s m args below meth c1 A Q H locs hx hb hml hown hts hK hN hZ hP hD hA hS hend ls hl
  have hown : s.vm.findClass RX3 = some m.cls := hown
  have hi_3 : ∀ w ∈ wsX30, w ∈ wsX3_takeSign := (fun w h => List.mem_cons_of_mem _ (List.mem_append_left _ (List.mem_append_right _ (h))))
  have hi_5 : ∀ w ∈ wsX50, w ∈ wsX3_takeSign := (fun w h => List.mem_cons_of_mem _ (List.mem_append_right _ (h)))
  unfold f_X3_takeSign at hm
  refine lv_aload_n hx hb dX3_takeSign_0 rfl (lv_at hl 0 rfl) ?_
  refine va_get (D := G) (ci := 3) (v := .ref (ard 2)) (C := RX3) (T := TX3) (N := 11) hx hb hts hi_3 hown hK hP 0 rfl rfl 0 (by decide) (hts (.fieldLink RX3 12 "HubTrains$SetupReader" "tokens" "LHubTrains$Tokens;") (List.mem_of_getElem? (i := 1) rfl)) (fun _ h9 => h9) rfl dX3_takeSign_1 ?_
  refine lv_iload_n hx hb dX3_takeSign_4 rfl (lv_at hl 1 rfl) ?_
  obtain ⟨r5, e_5, hm⟩ := bd1_s hm
  refine zcVi (As := [.int p0]) (rest := []) ⟨hx, hb, hml, hown, hts⟩ (k_X5_isSign l G K c (ard 2) (ard 3) rd.2.1 p0 r5 e_5) (cwV 1 hts gX3_takeSign_X5_isSign rfl rfl rfl hd_X5_isSign ⟨Nat.le_of_ble_eq_true rfl, Nat.le_of_ble_eq_true rfl⟩) hK hN hZ hP hD hS hA (va_recv hK hP (ci := 5) (q0 := 2) rfl rfl) [2, 3] rfl (by decide) rfl rfl hl.1 rfl (Nat.le_of_ble_eq_true rfl) dX3_takeSign_5 ⟨Nat.zero_le _, Nat.zero_le _⟩ (fun H locs hP hD hS => ?_)
  have hP : va_P G vwCl (wR c ard rd) H := hP
  have hD : va_D A (wR c ard rd) := hD
  refine lv_if_ne (tgt := 25) hx hb dX3_takeSign_8 (by decide) (fun c_8 => ?_) (fun c_8 => ?_)
  · have hm := ifn c_8 hm
    refine lv_aload_n hx hb dX3_takeSign_25 rfl (lv_at hl 0 rfl) ?_
    refine va_get (D := G) (ci := 3) (v := .ref (ard 2)) (C := RX3) (T := TX3) (N := 11) hx hb hts hi_3 hown hK hP 0 rfl rfl 0 (by decide) (hts (.fieldLink RX3 12 "HubTrains$SetupReader" "tokens" "LHubTrains$Tokens;") (List.mem_of_getElem? (i := 1) rfl)) (fun _ h9 => h9) rfl dX3_takeSign_26 ?_
    obtain ⟨tk29, e_29, hm⟩ := bd1_s hm
    refine zcVv (As := []) (rest := []) ⟨hx, hb, hml, hown, hts⟩ (k_X5_advance l G K c (ard 2) (ard 3) rd.2.1 tk29 e_29) (cwV 0 hts gX3_takeSign_X5_advance rfl rfl rfl hd_X5_advance ⟨Nat.le_of_ble_eq_true rfl, Nat.le_of_ble_eq_true rfl⟩) hK hN hZ hP hD hS hA (va_recv hK hP (ci := 5) (q0 := 2) rfl rfl) [2, 3] rfl (by decide) rfl rfl hl.1 rfl (Nat.le_of_ble_eq_true rfl) dX3_takeSign_29 ⟨Nat.zero_le _, Nat.zero_le _⟩ (fun H locs hP hD hS => ?_)
    have hP : va_P G vwCl (wR c ard (rd.1, tk29, rd.2.2)) H := hP
    have hD : va_D A (wR c ard (rd.1, tk29, rd.2.2)) := hD
    refine lv_iconst (v := 1) hx hb dX3_takeSign_32 (by decide) ?_
    exact hend H locs ls _ _ _ (by decide) (Prod.mk.inj (Option.some.inj hm)).1 (zc1 (fun (z0 : RS) => (wR c ard z0 : va_W)) (Prod.mk.inj (Option.some.inj hm)).2) hP hD hS dX3_takeSign_33
  · have hm := ifp c_8 hm
    refine lv_aload_n hx hb dX3_takeSign_11 rfl (lv_at hl 0 rfl) ?_
    refine lv_bipush (v := (-2)) hx hb dX3_takeSign_12 (by decide) ?_
    refine lv_aload_n hx hb dX3_takeSign_14 rfl (lv_at hl 0 rfl) ?_
    refine va_get (D := G) (ci := 3) (v := .ref (ard 2)) (C := RX3) (T := TX3) (N := 11) hx hb hts hi_3 hown hK hP 0 rfl rfl 0 (by decide) (hts (.fieldLink RX3 12 "HubTrains$SetupReader" "tokens" "LHubTrains$Tokens;") (List.mem_of_getElem? (i := 1) rfl)) (fun _ h9 => h9) rfl dX3_takeSign_15 ?_
    refine va_getN (D := G) (ci := 5) (v := .int (rd.2.1.1 3)) (C := RX5) (T := TX5) (N := 7) hx hb hts hi_5 hown hK hP 2 rfl rfl 4 (by decide) (va_Nw.use rfl (nwf_HubTrains_SetupReader_91 hN.1)) (fun _ h9 => h9) rfl dX3_takeSign_18 ?_
    obtain ⟨r21, rd21, e_21, hm⟩ := bd2_s hm
    refine zcVi (As := [.int (-2), .int (rd.2.1.1 3)]) (rest := []) ⟨hx, hb, hml, hown, hts⟩ (k_X3_fail l G K c ard rd (-2) (rd.2.1.1 3) r21 rd21 e_21) (cwV 2 hts gX3_takeSign_X3_fail rfl rfl rfl hd_X3_fail ⟨Nat.le_of_ble_eq_true rfl, Nat.le_of_ble_eq_true rfl⟩) hK hN hZ hP hD hS hA (va_recv hK hP (ci := 3) (q0 := 0) rfl rfl) [0, 1, 2, 3, 4, 5, 6, 7, 8, 9, 10, 11, 12, 13] rfl (by decide) rfl rfl hl.1 rfl (Nat.le_of_ble_eq_true rfl) dX3_takeSign_21 ⟨Nat.zero_le _, Nat.zero_le _⟩ (fun H locs hP hD hS => ?_)
    have hP : va_P G vwCl (wR c ard rd21) H := hP
    have hD : va_D A (wR c ard rd21) := hD
    obtain ⟨h_24, hm⟩ := gd_s hm
    exact hend H locs ls _ _ _ (isb_n h_24) (Prod.mk.inj (Option.some.inj hm)).1 (zc1 (fun (z0 : RS) => (wR c ard z0 : va_W)) (Prod.mk.inj (Option.some.inj hm)).2) hP hD hS dX3_takeSign_24


def f_X3_addStep (rd : RS) (p0 : Int32) : Option RS :=
  if (500 : Int32) ≤ (rd.1.1 5) then (some (rd)) else (bd1 (f_X7_put 500 (rd.1.2 0) (rd.1.1 5) p0) fun (h021 : Nat → Int32) => some (((sa (ss rd.1 5 ((rd.1.1 5) + 1)) 0 h021), rd.2.1, rd.2.2)))

abbrev rm_X3_addStep : Room := { frames := 1, cells := 0, slots := 0, locals := 22 }
theorem hd_X3_addStep : yX3_addStep.cls = RX3 ∧ yX3_addStep.cls ≠ "java/lang/invoke/MethodHandle" ∧ yX3_addStep.cls ≠ "java/lang/invoke/VarHandle" ∧ (parseMethodDescriptor yX3_addStep.desc).map (fun d => d.parameters.length) = some 1 := by decide +kernel
set_option maxHeartbeats 4000000 in
set_option maxRecDepth 100000 in
theorem k_X3_addStep (l : Launch) (G : va_G) (K : (Nat → Nat) × (Nat → Nat)) (c : Nat → ClassId) (ard : Nat → Nat) (rd : RS) (p0 : Int32) (rd_r : RS) (hm : f_X3_addStep rd p0 = some (rd_r)) : zMv l yX3_addStep wsX3_addStep (rm_X3_addStep) G K (TY c) [.ref (ard 0), .int p0] (wR c ard rd) (wR c ard rd_r) := by
  refine zMv.of (cc := cX3_addStep) (maxL := 2) (lv := [(0, .ref (ard 0)), (1, .int p0)]) (by decide) rfl (Nat.le_of_ble_eq_true rfl) rfl ?_
  intro p e s m args below meth c1 A Q H locs hx hb hml hown hts hK hN hZ hP hD hA hS hend ls hl
  have hown : s.vm.findClass RX3 = some m.cls := hown
  have hi_3 : ∀ w ∈ wsX30, w ∈ wsX3_addStep := (fun w h => List.mem_cons_of_mem _ (List.mem_append_right _ (h)))
  unfold f_X3_addStep at hm
  refine lv_aload_n hx hb dX3_addStep_0 rfl (lv_at hl 0 rfl) ?_
  refine va_get (D := G) (ci := 3) (v := .int (rd.1.1 5)) (C := RX3) (T := TX3) (N := 11) hx hb hts hi_3 hown hK hP 0 rfl rfl 8 (by decide) (hts (.fieldLink RX3 50 "HubTrains$SetupReader" "stepCount" "I") (List.mem_of_getElem? (i := 1) rfl)) (fun _ h9 => h9) rfl dX3_addStep_1 ?_
  refine lv_aload_n hx hb dX3_addStep_4 rfl (lv_at hl 0 rfl) ?_
  refine va_get (D := G) (ci := 3) (v := .ref (ard 1)) (C := RX3) (T := TX3) (N := 11) hx hb hts hi_3 hown hK hP 0 rfl rfl 7 (by decide) (hts (.fieldLink RX3 25 "HubTrains$SetupReader" "steps" "[I") (List.mem_of_getElem? (i := 2) rfl)) (fun _ h9 => h9) rfl dX3_addStep_5 ?_
  refine va_alen (D := G) (v := 500) hx hb hK hP 1 0 rfl rfl rfl dX3_addStep_8 ?_
  refine lv_icmp_ge (tgt := 34) hx hb dX3_addStep_9 (by decide) (fun c_9 => ?_) (fun c_9 => ?_)
  · have hm := ifp c_9 hm
    exact hend H locs ls _ _ (zc1 (fun (z0 : RS) => (wR c ard z0 : va_W)) (Option.some.inj hm)) hP hD hS dX3_addStep_34
  · have hm := ifn c_9 hm
    refine lv_aload_n hx hb dX3_addStep_12 rfl (lv_at hl 0 rfl) ?_
    refine va_get (D := G) (ci := 3) (v := .ref (ard 1)) (C := RX3) (T := TX3) (N := 11) hx hb hts hi_3 hown hK hP 0 rfl rfl 7 (by decide) (hts (.fieldLink RX3 25 "HubTrains$SetupReader" "steps" "[I") (List.mem_of_getElem? (i := 2) rfl)) (fun _ h9 => h9) rfl dX3_addStep_13 ?_
    refine lv_aload_n hx hb dX3_addStep_16 rfl (lv_at hl 0 rfl) ?_
    refine va_get (D := G) (ci := 3) (v := .int (rd.1.1 5)) (C := RX3) (T := TX3) (N := 11) hx hb hts hi_3 hown hK hP 0 rfl rfl 8 (by decide) (hts (.fieldLink RX3 50 "HubTrains$SetupReader" "stepCount" "I") (List.mem_of_getElem? (i := 1) rfl)) (fun _ h9 => h9) rfl dX3_addStep_17 ?_
    refine lv_iload_n hx hb dX3_addStep_20 rfl (lv_at hl 1 rfl) ?_
    obtain ⟨h021, e_21, hm⟩ := bd1_s hm
    refine zcSNv (As := [.ref (ard 1), .int (rd.1.1 5), .int p0]) (rest := []) ⟨hx, hb, hml, hown, hts⟩ (k_X7_put l G K c (ard 1) 500 (rd.1.2 0) (rd.1.1 5) p0 h021 e_21) ⟨va_cnB 3 hts gX3_addStep_X7_put_n166 rfl rfl rfl (nwm_HubTrains_SetupReader_166 hN.2.1) (hts (.initialized RX7) (List.mem_of_getElem? (i := 4) rfl)) hd_X7_put.2 ⟨Nat.le_of_ble_eq_true rfl, Nat.le_of_ble_eq_true rfl⟩, (hts (.static yX7_put) (List.mem_of_getElem? (i := 3) rfl)), trivial⟩ hK hN hZ hP hD hS hA [1] rfl (by decide) rfl rfl hl.1 rfl (Nat.le_of_ble_eq_true rfl) dX3_addStep_21 ⟨Nat.zero_le _, Nat.zero_le _⟩ (fun H locs hP hD hS => ?_)
    have hP : va_P G vwCl (wR c ard ((sa rd.1 0 h021), rd.2.1, rd.2.2)) H := hP
    have hD : va_D A (wR c ard ((sa rd.1 0 h021), rd.2.1, rd.2.2)) := hD
    refine lv_aload_n hx hb dX3_addStep_24 rfl (lv_at hl 0 rfl) ?_
    refine lv_dup hx hb dX3_addStep_25 rfl ?_
    refine va_get (D := G) (ci := 3) (v := .int (rd.1.1 5)) (C := RX3) (T := TX3) (N := 11) hx hb hts hi_3 hown hK hP 0 rfl rfl 8 (by decide) (hts (.fieldLink RX3 50 "HubTrains$SetupReader" "stepCount" "I") (List.mem_of_getElem? (i := 1) rfl)) (fun _ h9 => h9) rfl dX3_addStep_26 ?_
    refine lv_iconst (v := 1) hx hb dX3_addStep_29 (by decide) ?_
    refine lv_iadd hx hb dX3_addStep_30 ?_
    refine va_put (D := G) (ci := 3) (v := .int ((rd.1.1 5) + 1)) (C := RX3) (T := TX3) (N := 11) hx hb hts hi_3 tyX3 tyX3_ok nmX3 hown hK hP hD hS 0 rfl rfl 8 (by decide) (hts (.fieldLink RX3 50 "HubTrains$SetupReader" "stepCount" "I") (List.mem_of_getElem? (i := 1) rfl)) (fun _ h9 => h9) rfl (tyX3_ok 8 (by decide)) rfl rfl (Nat.le_of_ble_eq_true rfl) dX3_addStep_31 (fun H locs hP hD hS => ?_)
    have hP : va_P G vwCl (wR c ard ((sa (ss rd.1 5 ((rd.1.1 5) + 1)) 0 h021), rd.2.1, rd.2.2)) H := hP
    have hD : va_D A (wR c ard ((sa (ss rd.1 5 ((rd.1.1 5) + 1)) 0 h021), rd.2.1, rd.2.2)) := hD
    exact hend H locs ls _ _ (zc1 (fun (z0 : RS) => (wR c ard z0 : va_W)) (Option.some.inj hm)) hP hD hS dX3_addStep_34


def f_X3_variableHere (rd : RS) : Option Int32 :=
  bd1 (f_X5_isWord rd.2.1 5) fun (r6 : Int32) => if r6 = 0 then (bd1 (f_X5_isWord rd.2.1 6) fun (r20 : Int32) => if r20 = 0 then (bd1 (f_X5_isWord rd.2.1 7) fun (r35 : Int32) => if r35 = 0 then (bd1 (f_X5_isWord rd.2.1 8) fun (r50 : Int32) => if r50 = 0 then (bd1 (f_X5_isWord rd.2.1 9) fun (r65 : Int32) => if r65 = 0 then (some (0)) else (some ((-5)))) else (some ((-4)))) else (some ((-3)))) else (some ((-2)))) else (some ((-1)))

abbrev rm_X3_variableHere : Room := { frames := 9, cells := 0, slots := 0, locals := 424 }
theorem hd_X3_variableHere : yX3_variableHere.cls = RX3 ∧ yX3_variableHere.cls ≠ "java/lang/invoke/MethodHandle" ∧ yX3_variableHere.cls ≠ "java/lang/invoke/VarHandle" ∧ (parseMethodDescriptor yX3_variableHere.desc).map (fun d => d.parameters.length) = some 0 := by decide +kernel
set_option maxHeartbeats 4000000 in
set_option maxRecDepth 100000 in
theorem k_X3_variableHere (l : Launch) (G : va_G) (K : (Nat → Nat) × (Nat → Nat)) (c : Nat → ClassId) (ard : Nat → Nat) (rd : RS) (r : Int32) (hm : f_X3_variableHere rd = some (r)) : zMi l yX3_variableHere wsX3_variableHere (rm_X3_variableHere) G K (TY c) [.ref (ard 0)] (wR c ard rd) (wR c ard rd) r := by
  refine zMi.of (cc := cX3_variableHere) (maxL := 1) (lv := [(0, .ref (ard 0))]) (by decide) rfl (Nat.le_of_ble_eq_true rfl) rfl ?_
  intro p e s m args below meth c1 A Q H locs hx hb hml hown hts hK hN hZ hP hD hA hS hend ls hl
  have hown : s.vm.findClass RX3 = some m.cls := hown
  have hi_3 : ∀ w ∈ wsX30, w ∈ wsX3_variableHere := (fun w h => List.mem_cons_of_mem _ (List.mem_append_left _ (List.mem_append_left _ (List.mem_append_right _ (h)))))
  unfold f_X3_variableHere at hm
  refine lv_aload_n hx hb dX3_variableHere_0 rfl (lv_at hl 0 rfl) ?_
  refine va_get (D := G) (ci := 3) (v := .ref (ard 2)) (C := RX3) (T := TX3) (N := 11) hx hb hts hi_3 hown hK hP 0 rfl rfl 0 (by decide) (hts (.fieldLink RX3 12 "HubTrains$SetupReader" "tokens" "LHubTrains$Tokens;") (List.mem_of_getElem? (i := 1) rfl)) (fun _ h9 => h9) rfl dX3_variableHere_1 ?_
  refine va_ldcS hx hb hown (nws_HubTrains_SetupReader_186 hN.2.2) dX3_variableHere_4 ?_
  obtain ⟨r6, e_6, hm⟩ := bd1_s hm
  refine zcVi (As := [.ref (K.1 5)]) (rest := []) ⟨hx, hb, hml, hown, hts⟩ (k_X5_isWord l G K c (ard 2) (ard 3) rd.2.1 5 r6 e_6) (cwV 1 hts gX3_variableHere_X5_isWord rfl rfl rfl hd_X5_isWord ⟨Nat.le_of_ble_eq_true rfl, Nat.le_of_ble_eq_true rfl⟩) hK hN hZ hP hD hS hA (va_recv hK hP (ci := 5) (q0 := 2) rfl rfl) [2, 3] rfl (by decide) rfl rfl hl.1 rfl (Nat.le_of_ble_eq_true rfl) dX3_variableHere_6 ⟨Nat.zero_le _, Nat.zero_le _⟩ (fun H locs hP hD hS => ?_)
  have hP : va_P G vwCl (wR c ard rd) H := hP
  have hD : va_D A (wR c ard rd) := hD
  refine lv_if_eq (tgt := 14) hx hb dX3_variableHere_9 (by decide) (fun c_9 => ?_) (fun c_9 => ?_)
  · have hm := ifp c_9 hm
    refine lv_aload_n hx hb dX3_variableHere_14 rfl (lv_at hl 0 rfl) ?_
    refine va_get (D := G) (ci := 3) (v := .ref (ard 2)) (C := RX3) (T := TX3) (N := 11) hx hb hts hi_3 hown hK hP 0 rfl rfl 0 (by decide) (hts (.fieldLink RX3 12 "HubTrains$SetupReader" "tokens" "LHubTrains$Tokens;") (List.mem_of_getElem? (i := 1) rfl)) (fun _ h9 => h9) rfl dX3_variableHere_15 ?_
    refine va_ldcS hx hb hown (nws_HubTrains_SetupReader_188 hN.2.2) dX3_variableHere_18 ?_
    obtain ⟨r20, e_20, hm⟩ := bd1_s hm
    refine zcVi (As := [.ref (K.1 6)]) (rest := []) ⟨hx, hb, hml, hown, hts⟩ (k_X5_isWord l G K c (ard 2) (ard 3) rd.2.1 6 r20 e_20) (cwV 1 hts gX3_variableHere_X5_isWord rfl rfl rfl hd_X5_isWord ⟨Nat.le_of_ble_eq_true rfl, Nat.le_of_ble_eq_true rfl⟩) hK hN hZ hP hD hS hA (va_recv hK hP (ci := 5) (q0 := 2) rfl rfl) [2, 3] rfl (by decide) rfl rfl hl.1 rfl (Nat.le_of_ble_eq_true rfl) dX3_variableHere_20 ⟨Nat.zero_le _, Nat.zero_le _⟩ (fun H locs hP hD hS => ?_)
    have hP : va_P G vwCl (wR c ard rd) H := hP
    have hD : va_D A (wR c ard rd) := hD
    refine lv_if_eq (tgt := 29) hx hb dX3_variableHere_23 (by decide) (fun c_23 => ?_) (fun c_23 => ?_)
    · have hm := ifp c_23 hm
      refine lv_aload_n hx hb dX3_variableHere_29 rfl (lv_at hl 0 rfl) ?_
      refine va_get (D := G) (ci := 3) (v := .ref (ard 2)) (C := RX3) (T := TX3) (N := 11) hx hb hts hi_3 hown hK hP 0 rfl rfl 0 (by decide) (hts (.fieldLink RX3 12 "HubTrains$SetupReader" "tokens" "LHubTrains$Tokens;") (List.mem_of_getElem? (i := 1) rfl)) (fun _ h9 => h9) rfl dX3_variableHere_30 ?_
      refine va_ldcS hx hb hown (nws_HubTrains_SetupReader_190 hN.2.2) dX3_variableHere_33 ?_
      obtain ⟨r35, e_35, hm⟩ := bd1_s hm
      refine zcVi (As := [.ref (K.1 7)]) (rest := []) ⟨hx, hb, hml, hown, hts⟩ (k_X5_isWord l G K c (ard 2) (ard 3) rd.2.1 7 r35 e_35) (cwV 1 hts gX3_variableHere_X5_isWord rfl rfl rfl hd_X5_isWord ⟨Nat.le_of_ble_eq_true rfl, Nat.le_of_ble_eq_true rfl⟩) hK hN hZ hP hD hS hA (va_recv hK hP (ci := 5) (q0 := 2) rfl rfl) [2, 3] rfl (by decide) rfl rfl hl.1 rfl (Nat.le_of_ble_eq_true rfl) dX3_variableHere_35 ⟨Nat.zero_le _, Nat.zero_le _⟩ (fun H locs hP hD hS => ?_)
      have hP : va_P G vwCl (wR c ard rd) H := hP
      have hD : va_D A (wR c ard rd) := hD
      refine lv_if_eq (tgt := 44) hx hb dX3_variableHere_38 (by decide) (fun c_38 => ?_) (fun c_38 => ?_)
      · have hm := ifp c_38 hm
        refine lv_aload_n hx hb dX3_variableHere_44 rfl (lv_at hl 0 rfl) ?_
        refine va_get (D := G) (ci := 3) (v := .ref (ard 2)) (C := RX3) (T := TX3) (N := 11) hx hb hts hi_3 hown hK hP 0 rfl rfl 0 (by decide) (hts (.fieldLink RX3 12 "HubTrains$SetupReader" "tokens" "LHubTrains$Tokens;") (List.mem_of_getElem? (i := 1) rfl)) (fun _ h9 => h9) rfl dX3_variableHere_45 ?_
        refine va_ldcS hx hb hown (nws_HubTrains_SetupReader_192 hN.2.2) dX3_variableHere_48 ?_
        obtain ⟨r50, e_50, hm⟩ := bd1_s hm
        refine zcVi (As := [.ref (K.1 8)]) (rest := []) ⟨hx, hb, hml, hown, hts⟩ (k_X5_isWord l G K c (ard 2) (ard 3) rd.2.1 8 r50 e_50) (cwV 1 hts gX3_variableHere_X5_isWord rfl rfl rfl hd_X5_isWord ⟨Nat.le_of_ble_eq_true rfl, Nat.le_of_ble_eq_true rfl⟩) hK hN hZ hP hD hS hA (va_recv hK hP (ci := 5) (q0 := 2) rfl rfl) [2, 3] rfl (by decide) rfl rfl hl.1 rfl (Nat.le_of_ble_eq_true rfl) dX3_variableHere_50 ⟨Nat.zero_le _, Nat.zero_le _⟩ (fun H locs hP hD hS => ?_)
        have hP : va_P G vwCl (wR c ard rd) H := hP
        have hD : va_D A (wR c ard rd) := hD
        refine lv_if_eq (tgt := 59) hx hb dX3_variableHere_53 (by decide) (fun c_53 => ?_) (fun c_53 => ?_)
        · have hm := ifp c_53 hm
          refine lv_aload_n hx hb dX3_variableHere_59 rfl (lv_at hl 0 rfl) ?_
          refine va_get (D := G) (ci := 3) (v := .ref (ard 2)) (C := RX3) (T := TX3) (N := 11) hx hb hts hi_3 hown hK hP 0 rfl rfl 0 (by decide) (hts (.fieldLink RX3 12 "HubTrains$SetupReader" "tokens" "LHubTrains$Tokens;") (List.mem_of_getElem? (i := 1) rfl)) (fun _ h9 => h9) rfl dX3_variableHere_60 ?_
          refine va_ldcS hx hb hown (nws_HubTrains_SetupReader_194 hN.2.2) dX3_variableHere_63 ?_
          obtain ⟨r65, e_65, hm⟩ := bd1_s hm
          refine zcVi (As := [.ref (K.1 9)]) (rest := []) ⟨hx, hb, hml, hown, hts⟩ (k_X5_isWord l G K c (ard 2) (ard 3) rd.2.1 9 r65 e_65) (cwV 1 hts gX3_variableHere_X5_isWord rfl rfl rfl hd_X5_isWord ⟨Nat.le_of_ble_eq_true rfl, Nat.le_of_ble_eq_true rfl⟩) hK hN hZ hP hD hS hA (va_recv hK hP (ci := 5) (q0 := 2) rfl rfl) [2, 3] rfl (by decide) rfl rfl hl.1 rfl (Nat.le_of_ble_eq_true rfl) dX3_variableHere_65 ⟨Nat.zero_le _, Nat.zero_le _⟩ (fun H locs hP hD hS => ?_)
          have hP : va_P G vwCl (wR c ard rd) H := hP
          have hD : va_D A (wR c ard rd) := hD
          refine lv_if_eq (tgt := 76) hx hb dX3_variableHere_68 (by decide) (fun c_68 => ?_) (fun c_68 => ?_)
          · have hm := ifp c_68 hm
            refine lv_iconst (v := 0) hx hb dX3_variableHere_76 (by decide) ?_
            exact hend H locs ls _ _ _ rfl (Option.some.inj hm) rfl hP hD hS dX3_variableHere_77
          · have hm := ifn c_68 hm
            refine lv_bipush (v := (-5)) hx hb dX3_variableHere_71 (by decide) ?_
            refine lv_goto (tgt := 77) hx hb dX3_variableHere_73 (by decide) ?_
            exact hend H locs ls _ _ _ rfl (Option.some.inj hm) rfl hP hD hS dX3_variableHere_77
        · have hm := ifn c_53 hm
          refine lv_bipush (v := (-4)) hx hb dX3_variableHere_56 (by decide) ?_
          exact hend H locs ls _ _ _ rfl (Option.some.inj hm) rfl hP hD hS dX3_variableHere_58
      · have hm := ifn c_38 hm
        refine lv_bipush (v := (-3)) hx hb dX3_variableHere_41 (by decide) ?_
        exact hend H locs ls _ _ _ rfl (Option.some.inj hm) rfl hP hD hS dX3_variableHere_43
    · have hm := ifn c_23 hm
      refine lv_bipush (v := (-2)) hx hb dX3_variableHere_26 (by decide) ?_
      exact hend H locs ls _ _ _ rfl (Option.some.inj hm) rfl hP hD hS dX3_variableHere_28
  · have hm := ifn c_9 hm
    refine lv_iconst (v := (-1)) hx hb dX3_variableHere_12 (by decide) ?_
    exact hend H locs ls _ _ _ rfl (Option.some.inj hm) rfl hP hD hS dX3_variableHere_13


def f_X3_readHub (rd : RS) : Option (Int32 × RS) :=
  bd1 (f_X5_advance rd.2.1) fun (tk9 : SA) => bd2 (f_X3_takeNumber ((ss rd.1 1 1), tk9, rd.2.2) 0 (rd.2.2.1.1 0)) fun (r21 : Int32) (rd21 : RS) => if r21 = 0 then (some (0, rd21)) else (some (1, (rd21.1, rd21.2.1, ((ss rd21.2.2.1 3 (rd21.1.1 0)), (rd21.2.2.2.1), rd21.2.2.2.2.1, rd21.2.2.2.2.2))))

abbrev rm_X3_readHub : Room := { frames := 2, cells := 0, slots := 0, locals := 44 }
theorem hd_X3_readHub : yX3_readHub.cls = RX3 ∧ yX3_readHub.cls ≠ "java/lang/invoke/MethodHandle" ∧ yX3_readHub.cls ≠ "java/lang/invoke/VarHandle" ∧ (parseMethodDescriptor yX3_readHub.desc).map (fun d => d.parameters.length) = some 0 := by decide +kernel
set_option maxHeartbeats 4000000 in
set_option maxRecDepth 100000 in
theorem k_X3_readHub (l : Launch) (G : va_G) (K : (Nat → Nat) × (Nat → Nat)) (c : Nat → ClassId) (ard : Nat → Nat) (rd : RS) (r : Int32) (rd_r : RS) (hm : f_X3_readHub rd = some (r, rd_r)) : zMi l yX3_readHub wsX3_readHub (rm_X3_readHub) G K (TY c) [.ref (ard 0)] (wR c ard rd) (wR c ard rd_r) r := by
  refine zMi.of (cc := cX3_readHub) (maxL := 1) (lv := [(0, .ref (ard 0))]) (by decide) rfl (Nat.le_of_ble_eq_true rfl) rfl ?_
  intro p e s m args below meth c1 A Q H locs hx hb hml hown hts hK hN hZ hP hD hA hS hend ls hl
  have hown : s.vm.findClass RX3 = some m.cls := hown
  have hi_1 : ∀ w ∈ wsX10, w ∈ wsX3_readHub := (fun w h => List.mem_cons_of_mem _ (List.mem_append_left _ (List.mem_append_right _ (h))))
  have hi_3 : ∀ w ∈ wsX30, w ∈ wsX3_readHub := (fun w h => List.mem_cons_of_mem _ (List.mem_append_left _ (List.mem_append_left _ (List.mem_append_right _ (h)))))
  unfold f_X3_readHub at hm
  refine lv_aload_n hx hb dX3_readHub_0 rfl (lv_at hl 0 rfl) ?_
  refine lv_iconst (v := 1) hx hb dX3_readHub_1 (by decide) ?_
  refine va_put (D := G) (ci := 3) (v := .int 1) (C := RX3) (T := TX3) (N := 11) hx hb hts hi_3 tyX3 tyX3_ok nmX3 hown hK hP hD hS 0 rfl rfl 3 (by decide) (hts (.fieldLink RX3 40 "HubTrains$SetupReader" "hubTold" "Z") (List.mem_of_getElem? (i := 1) rfl)) (fun _ h9 => h9) rfl (tyX3_ok 3 (by decide)) (by decide) (by decide) (Nat.le_of_ble_eq_true rfl) dX3_readHub_2 (fun H locs hP hD hS => ?_)
  have hP : va_P G vwCl (wR c ard ((ss rd.1 1 1), rd.2.1, rd.2.2)) H := hP
  have hD : va_D A (wR c ard ((ss rd.1 1 1), rd.2.1, rd.2.2)) := hD
  refine lv_aload_n hx hb dX3_readHub_5 rfl (lv_at hl 0 rfl) ?_
  refine va_get (D := G) (ci := 3) (v := .ref (ard 2)) (C := RX3) (T := TX3) (N := 11) hx hb hts hi_3 hown hK hP 0 rfl rfl 0 (by decide) (hts (.fieldLink RX3 12 "HubTrains$SetupReader" "tokens" "LHubTrains$Tokens;") (List.mem_of_getElem? (i := 2) rfl)) (fun _ h9 => h9) rfl dX3_readHub_6 ?_
  obtain ⟨tk9, e_9, hm⟩ := bd1_s hm
  refine zcVv (As := []) (rest := []) ⟨hx, hb, hml, hown, hts⟩ (k_X5_advance l G K c (ard 2) (ard 3) rd.2.1 tk9 e_9) (cwV 0 hts gX3_readHub_X5_advance rfl rfl rfl hd_X5_advance ⟨Nat.le_of_ble_eq_true rfl, Nat.le_of_ble_eq_true rfl⟩) hK hN hZ hP hD hS hA (va_recv hK hP (ci := 5) (q0 := 2) rfl rfl) [2, 3] rfl (by decide) rfl rfl hl.1 rfl (Nat.le_of_ble_eq_true rfl) dX3_readHub_9 ⟨Nat.zero_le _, Nat.zero_le _⟩ (fun H locs hP hD hS => ?_)
  have hP : va_P G vwCl (wR c ard ((ss rd.1 1 1), tk9, rd.2.2)) H := hP
  have hD : va_D A (wR c ard ((ss rd.1 1 1), tk9, rd.2.2)) := hD
  refine lv_aload_n hx hb dX3_readHub_12 rfl (lv_at hl 0 rfl) ?_
  refine lv_iconst (v := 0) hx hb dX3_readHub_13 (by decide) ?_
  refine lv_aload_n hx hb dX3_readHub_14 rfl (lv_at hl 0 rfl) ?_
  refine va_get (D := G) (ci := 3) (v := .ref (ard 4)) (C := RX3) (T := TX3) (N := 11) hx hb hts hi_3 hown hK hP 0 rfl rfl 1 (by decide) (hts (.fieldLink RX3 21 "HubTrains$SetupReader" "game" "LHubTrains$Game;") (List.mem_of_getElem? (i := 3) rfl)) (fun _ h9 => h9) rfl dX3_readHub_15 ?_
  refine va_getN (D := G) (ci := 1) (v := .int (rd.2.2.1.1 0)) (C := RX1) (T := TX1) (N := 16) hx hb hts hi_1 hown hK hP 4 rfl rfl 0 (by decide) (va_Nw.use rfl (nwf_HubTrains_SetupReader_107 hN.1)) (fun _ h9 => h9) rfl dX3_readHub_18 ?_
  obtain ⟨r21, rd21, e_21, hm⟩ := bd2_s hm
  refine zcVi (As := [.int 0, .int (rd.2.2.1.1 0)]) (rest := []) ⟨hx, hb, hml, hown, hts⟩ (k_X3_takeNumber l G K c ard ((ss rd.1 1 1), tk9, rd.2.2) 0 (rd.2.2.1.1 0) r21 rd21 e_21) (cwV 2 hts gX3_readHub_X3_takeNumber rfl rfl rfl hd_X3_takeNumber ⟨Nat.le_of_ble_eq_true rfl, Nat.le_of_ble_eq_true rfl⟩) hK hN hZ hP hD hS hA (va_recv hK hP (ci := 3) (q0 := 0) rfl rfl) [0, 1, 2, 3, 4, 5, 6, 7, 8, 9, 10, 11, 12, 13] rfl (by decide) rfl rfl hl.1 rfl (Nat.le_of_ble_eq_true rfl) dX3_readHub_21 ⟨Nat.zero_le _, Nat.zero_le _⟩ (fun H locs hP hD hS => ?_)
  have hP : va_P G vwCl (wR c ard rd21) H := hP
  have hD : va_D A (wR c ard rd21) := hD
  refine lv_if_ne (tgt := 29) hx hb dX3_readHub_24 (by decide) (fun c_24 => ?_) (fun c_24 => ?_)
  · have hm := ifn c_24 hm
    refine lv_aload_n hx hb dX3_readHub_29 rfl (lv_at hl 0 rfl) ?_
    refine va_get (D := G) (ci := 3) (v := .ref (ard 4)) (C := RX3) (T := TX3) (N := 11) hx hb hts hi_3 hown hK hP 0 rfl rfl 1 (by decide) (hts (.fieldLink RX3 21 "HubTrains$SetupReader" "game" "LHubTrains$Game;") (List.mem_of_getElem? (i := 3) rfl)) (fun _ h9 => h9) rfl dX3_readHub_30 ?_
    refine lv_aload_n hx hb dX3_readHub_33 rfl (lv_at hl 0 rfl) ?_
    refine va_get (D := G) (ci := 3) (v := .int (rd21.1.1 0)) (C := RX3) (T := TX3) (N := 11) hx hb hts hi_3 hown hK hP 0 rfl rfl 2 (by decide) (hts (.fieldLink RX3 104 "HubTrains$SetupReader" "number" "I") (List.mem_of_getElem? (i := 4) rfl)) (fun _ h9 => h9) rfl dX3_readHub_34 ?_
    refine va_putN (D := G) (ci := 1) (v := .int (rd21.1.1 0)) (C := RX1) (T := TX1) (N := 16) hx hb hts hi_1 tyX1 tyX1_ok nmX1 hown hK hP hD hS 4 rfl rfl 3 (by decide) (va_Nw.use rfl (nwf_HubTrains_SetupReader_110 hN.1)) (fun _ h9 => h9) rfl (tyX1_ok 3 (by decide)) rfl rfl (Nat.le_of_ble_eq_true rfl) dX3_readHub_37 (fun H locs hP hD hS => ?_)
    have hP : va_P G vwCl (wR c ard (rd21.1, rd21.2.1, ((ss rd21.2.2.1 3 (rd21.1.1 0)), (rd21.2.2.2.1), rd21.2.2.2.2.1, rd21.2.2.2.2.2))) H := hP
    have hD : va_D A (wR c ard (rd21.1, rd21.2.1, ((ss rd21.2.2.1 3 (rd21.1.1 0)), (rd21.2.2.2.1), rd21.2.2.2.2.1, rd21.2.2.2.2.2))) := hD
    refine lv_iconst (v := 1) hx hb dX3_readHub_40 (by decide) ?_
    exact hend H locs ls _ _ _ (by decide) (Prod.mk.inj (Option.some.inj hm)).1 (zc1 (fun (z0 : RS) => (wR c ard z0 : va_W)) (Prod.mk.inj (Option.some.inj hm)).2) hP hD hS dX3_readHub_41
  · have hm := ifp c_24 hm
    refine lv_iconst (v := 0) hx hb dX3_readHub_27 (by decide) ?_
    exact hend H locs ls _ _ _ (by decide) (Prod.mk.inj (Option.some.inj hm)).1 (zc1 (fun (z0 : RS) => (wR c ard z0 : va_W)) (Prod.mk.inj (Option.some.inj hm)).2) hP hD hS dX3_readHub_28


def f_X3_readSeed (rd : RS) : Option (Int32 × RS) :=
  bd1 (f_X5_advance rd.2.1) fun (tk9 : SA) => bd2 (f_X3_takeNumber ((ss rd.1 2 1), tk9, rd.2.2) 0 9999) fun (r17 : Int32) (rd17 : RS) => if r17 = 0 then (some (0, rd17)) else (some (1, (rd17.1, rd17.2.1, ((ss rd17.2.2.1 4 (rd17.1.1 0)), (rd17.2.2.2.1), rd17.2.2.2.2.1, rd17.2.2.2.2.2))))

abbrev rm_X3_readSeed : Room := { frames := 2, cells := 0, slots := 0, locals := 44 }
theorem hd_X3_readSeed : yX3_readSeed.cls = RX3 ∧ yX3_readSeed.cls ≠ "java/lang/invoke/MethodHandle" ∧ yX3_readSeed.cls ≠ "java/lang/invoke/VarHandle" ∧ (parseMethodDescriptor yX3_readSeed.desc).map (fun d => d.parameters.length) = some 0 := by decide +kernel
set_option maxHeartbeats 4000000 in
set_option maxRecDepth 100000 in
theorem k_X3_readSeed (l : Launch) (G : va_G) (K : (Nat → Nat) × (Nat → Nat)) (c : Nat → ClassId) (ard : Nat → Nat) (rd : RS) (r : Int32) (rd_r : RS) (hm : f_X3_readSeed rd = some (r, rd_r)) : zMi l yX3_readSeed wsX3_readSeed (rm_X3_readSeed) G K (TY c) [.ref (ard 0)] (wR c ard rd) (wR c ard rd_r) r := by
  refine zMi.of (cc := cX3_readSeed) (maxL := 1) (lv := [(0, .ref (ard 0))]) (by decide) rfl (Nat.le_of_ble_eq_true rfl) rfl ?_
  intro p e s m args below meth c1 A Q H locs hx hb hml hown hts hK hN hZ hP hD hA hS hend ls hl
  have hown : s.vm.findClass RX3 = some m.cls := hown
  have hi_1 : ∀ w ∈ wsX10, w ∈ wsX3_readSeed := (fun w h => List.mem_cons_of_mem _ (List.mem_append_left _ (List.mem_append_right _ (h))))
  have hi_3 : ∀ w ∈ wsX30, w ∈ wsX3_readSeed := (fun w h => List.mem_cons_of_mem _ (List.mem_append_left _ (List.mem_append_left _ (List.mem_append_right _ (h)))))
  unfold f_X3_readSeed at hm
  refine lv_aload_n hx hb dX3_readSeed_0 rfl (lv_at hl 0 rfl) ?_
  refine lv_iconst (v := 1) hx hb dX3_readSeed_1 (by decide) ?_
  refine va_put (D := G) (ci := 3) (v := .int 1) (C := RX3) (T := TX3) (N := 11) hx hb hts hi_3 tyX3 tyX3_ok nmX3 hown hK hP hD hS 0 rfl rfl 4 (by decide) (hts (.fieldLink RX3 44 "HubTrains$SetupReader" "seedTold" "Z") (List.mem_of_getElem? (i := 1) rfl)) (fun _ h9 => h9) rfl (tyX3_ok 4 (by decide)) (by decide) (by decide) (Nat.le_of_ble_eq_true rfl) dX3_readSeed_2 (fun H locs hP hD hS => ?_)
  have hP : va_P G vwCl (wR c ard ((ss rd.1 2 1), rd.2.1, rd.2.2)) H := hP
  have hD : va_D A (wR c ard ((ss rd.1 2 1), rd.2.1, rd.2.2)) := hD
  refine lv_aload_n hx hb dX3_readSeed_5 rfl (lv_at hl 0 rfl) ?_
  refine va_get (D := G) (ci := 3) (v := .ref (ard 2)) (C := RX3) (T := TX3) (N := 11) hx hb hts hi_3 hown hK hP 0 rfl rfl 0 (by decide) (hts (.fieldLink RX3 12 "HubTrains$SetupReader" "tokens" "LHubTrains$Tokens;") (List.mem_of_getElem? (i := 2) rfl)) (fun _ h9 => h9) rfl dX3_readSeed_6 ?_
  obtain ⟨tk9, e_9, hm⟩ := bd1_s hm
  refine zcVv (As := []) (rest := []) ⟨hx, hb, hml, hown, hts⟩ (k_X5_advance l G K c (ard 2) (ard 3) rd.2.1 tk9 e_9) (cwV 0 hts gX3_readSeed_X5_advance rfl rfl rfl hd_X5_advance ⟨Nat.le_of_ble_eq_true rfl, Nat.le_of_ble_eq_true rfl⟩) hK hN hZ hP hD hS hA (va_recv hK hP (ci := 5) (q0 := 2) rfl rfl) [2, 3] rfl (by decide) rfl rfl hl.1 rfl (Nat.le_of_ble_eq_true rfl) dX3_readSeed_9 ⟨Nat.zero_le _, Nat.zero_le _⟩ (fun H locs hP hD hS => ?_)
  have hP : va_P G vwCl (wR c ard ((ss rd.1 2 1), tk9, rd.2.2)) H := hP
  have hD : va_D A (wR c ard ((ss rd.1 2 1), tk9, rd.2.2)) := hD
  refine lv_aload_n hx hb dX3_readSeed_12 rfl (lv_at hl 0 rfl) ?_
  refine lv_iconst (v := 0) hx hb dX3_readSeed_13 (by decide) ?_
  refine lv_sipush (v := 9999) hx hb dX3_readSeed_14 (by decide) ?_
  obtain ⟨r17, rd17, e_17, hm⟩ := bd2_s hm
  refine zcVi (As := [.int 0, .int 9999]) (rest := []) ⟨hx, hb, hml, hown, hts⟩ (k_X3_takeNumber l G K c ard ((ss rd.1 2 1), tk9, rd.2.2) 0 9999 r17 rd17 e_17) (cwV 2 hts gX3_readSeed_X3_takeNumber rfl rfl rfl hd_X3_takeNumber ⟨Nat.le_of_ble_eq_true rfl, Nat.le_of_ble_eq_true rfl⟩) hK hN hZ hP hD hS hA (va_recv hK hP (ci := 3) (q0 := 0) rfl rfl) [0, 1, 2, 3, 4, 5, 6, 7, 8, 9, 10, 11, 12, 13] rfl (by decide) rfl rfl hl.1 rfl (Nat.le_of_ble_eq_true rfl) dX3_readSeed_17 ⟨Nat.zero_le _, Nat.zero_le _⟩ (fun H locs hP hD hS => ?_)
  have hP : va_P G vwCl (wR c ard rd17) H := hP
  have hD : va_D A (wR c ard rd17) := hD
  refine lv_if_ne (tgt := 25) hx hb dX3_readSeed_20 (by decide) (fun c_20 => ?_) (fun c_20 => ?_)
  · have hm := ifn c_20 hm
    refine lv_aload_n hx hb dX3_readSeed_25 rfl (lv_at hl 0 rfl) ?_
    refine va_get (D := G) (ci := 3) (v := .ref (ard 4)) (C := RX3) (T := TX3) (N := 11) hx hb hts hi_3 hown hK hP 0 rfl rfl 1 (by decide) (hts (.fieldLink RX3 21 "HubTrains$SetupReader" "game" "LHubTrains$Game;") (List.mem_of_getElem? (i := 3) rfl)) (fun _ h9 => h9) rfl dX3_readSeed_26 ?_
    refine lv_aload_n hx hb dX3_readSeed_29 rfl (lv_at hl 0 rfl) ?_
    refine va_get (D := G) (ci := 3) (v := .int (rd17.1.1 0)) (C := RX3) (T := TX3) (N := 11) hx hb hts hi_3 hown hK hP 0 rfl rfl 2 (by decide) (hts (.fieldLink RX3 104 "HubTrains$SetupReader" "number" "I") (List.mem_of_getElem? (i := 4) rfl)) (fun _ h9 => h9) rfl dX3_readSeed_30 ?_
    refine va_putN (D := G) (ci := 1) (v := .int (rd17.1.1 0)) (C := RX1) (T := TX1) (N := 16) hx hb hts hi_1 tyX1 tyX1_ok nmX1 hown hK hP hD hS 4 rfl rfl 4 (by decide) (va_Nw.use rfl (nwf_HubTrains_SetupReader_113 hN.1)) (fun _ h9 => h9) rfl (tyX1_ok 4 (by decide)) rfl rfl (Nat.le_of_ble_eq_true rfl) dX3_readSeed_33 (fun H locs hP hD hS => ?_)
    have hP : va_P G vwCl (wR c ard (rd17.1, rd17.2.1, ((ss rd17.2.2.1 4 (rd17.1.1 0)), (rd17.2.2.2.1), rd17.2.2.2.2.1, rd17.2.2.2.2.2))) H := hP
    have hD : va_D A (wR c ard (rd17.1, rd17.2.1, ((ss rd17.2.2.1 4 (rd17.1.1 0)), (rd17.2.2.2.1), rd17.2.2.2.2.1, rd17.2.2.2.2.2))) := hD
    refine lv_iconst (v := 1) hx hb dX3_readSeed_36 (by decide) ?_
    exact hend H locs ls _ _ _ (by decide) (Prod.mk.inj (Option.some.inj hm)).1 (zc1 (fun (z0 : RS) => (wR c ard z0 : va_W)) (Prod.mk.inj (Option.some.inj hm)).2) hP hD hS dX3_readSeed_37
  · have hm := ifp c_20 hm
    refine lv_iconst (v := 0) hx hb dX3_readSeed_23 (by decide) ?_
    exact hend H locs ls _ _ _ (by decide) (Prod.mk.inj (Option.some.inj hm)).1 (zc1 (fun (z0 : RS) => (wR c ard z0 : va_W)) (Prod.mk.inj (Option.some.inj hm)).2) hP hD hS dX3_readSeed_24


def f_X3_readTile (rd : RS) (p0 : Int32) : Option (Int32 × RS) :=
  bd2 (f_X3_takeNumber rd 0 (rd.2.2.1.1 0)) fun (r17 : Int32) (rd17 : RS) => if r17 = 0 then (some (0, rd17)) else (bd2 (f_X3_takeSign rd17 45) fun (r33 : Int32) (rd33 : RS) => if r33 = 0 then (some (0, rd33)) else (bd2 (f_X3_takeNumber rd33 0 (rd33.2.2.1.1 0)) fun (r48 : Int32) (rd48 : RS) => if r48 = 0 then (some (0, rd48)) else (nmd ((10 * (if (rd48.1.1 0) < (rd17.1.1 0) then (rd48.1.1 0) else (rd17.1.1 0))) + (if (rd17.1.1 0) < (rd48.1.1 0) then (rd48.1.1 0) else (rd17.1.1 0))) fun (x4_76 : Int32) => bd1 (f_X1_isFree rd48.2.2 x4_76) fun (r84 : Int32) => if r84 = 0 then (bd2 (f_X3_fail rd48 (-4) (rd.2.1.1 3)) fun (r94 : Int32) (rd94 : RS) => gd (isb r94) <| some (r94, rd94)) else (bd1 (f_X1_handCount rd48.2.2 p0) fun (r103 : Int32) => if r103 < (rd48.2.2.1.1 2) then (bd1 (f_X7_put 100 (rd48.2.2.1.2 0) x4_76 p0) fun (h0134 : Nat → Int32) => some (1, (rd48.1, rd48.2.1, ((sa rd48.2.2.1 0 h0134), (rd48.2.2.2.1), rd48.2.2.2.2.1, rd48.2.2.2.2.2)))) else (bd2 (f_X3_fail rd48 (-5) (rd.2.1.1 3)) fun (r120 : Int32) (rd120 : RS) => gd (isb r120) <| some (r120, rd120))))))

abbrev rm_X3_readTile : Room := { frames := 3, cells := 0, slots := 0, locals := 61 }
theorem hd_X3_readTile : yX3_readTile.cls = RX3 ∧ yX3_readTile.cls ≠ "java/lang/invoke/MethodHandle" ∧ yX3_readTile.cls ≠ "java/lang/invoke/VarHandle" ∧ (parseMethodDescriptor yX3_readTile.desc).map (fun d => d.parameters.length) = some 1 := by decide +kernel
set_option maxHeartbeats 4000000 in
set_option maxRecDepth 100000 in
theorem k_X3_readTile (l : Launch) (G : va_G) (K : (Nat → Nat) × (Nat → Nat)) (c : Nat → ClassId) (ard : Nat → Nat) (rd : RS) (p0 : Int32) (r : Int32) (rd_r : RS) (hm : f_X3_readTile rd p0 = some (r, rd_r)) : zMi l yX3_readTile wsX3_readTile (rm_X3_readTile) G K (TY c) [.ref (ard 0), .int p0] (wR c ard rd) (wR c ard rd_r) r := by
  refine zMi.of (cc := cX3_readTile) (maxL := 5) (lv := [(0, .ref (ard 0)), (1, .int p0)]) (by decide) rfl (Nat.le_of_ble_eq_true rfl) rfl ?_
  intro p e s m args below meth c1 A Q H locs hx hb hml hown hts hK hN hZ hP hD hA hS hend ls hl
  have hown : s.vm.findClass RX3 = some m.cls := hown
  have hi_1 : ∀ w ∈ wsX10, w ∈ wsX3_readTile := (fun w h => List.mem_cons_of_mem _ (List.mem_append_right _ (h)))
  have hi_3 : ∀ w ∈ wsX30, w ∈ wsX3_readTile := (fun w h => List.mem_cons_of_mem _ (List.mem_append_left _ (List.mem_append_left _ (List.mem_append_right _ (h)))))
  have hi_5 : ∀ w ∈ wsX50, w ∈ wsX3_readTile := (fun w h => List.mem_cons_of_mem _ (List.mem_append_left _ (List.mem_append_right _ (h))))
  unfold f_X3_readTile at hm
  refine lv_aload_n hx hb dX3_readTile_0 rfl (lv_at hl 0 rfl) ?_
  refine va_get (D := G) (ci := 3) (v := .ref (ard 2)) (C := RX3) (T := TX3) (N := 11) hx hb hts hi_3 hown hK hP 0 rfl rfl 0 (by decide) (hts (.fieldLink RX3 12 "HubTrains$SetupReader" "tokens" "LHubTrains$Tokens;") (List.mem_of_getElem? (i := 1) rfl)) (fun _ h9 => h9) rfl dX3_readTile_1 ?_
  refine va_getN (D := G) (ci := 5) (v := .int (rd.2.1.1 3)) (C := RX5) (T := TX5) (N := 7) hx hb hts hi_5 hown hK hP 2 rfl rfl 4 (by decide) (va_Nw.use rfl (nwf_HubTrains_SetupReader_91 hN.1)) (fun _ h9 => h9) rfl dX3_readTile_4 ?_
  refine lv_istore_n (lv' := [(2, .int (rd.2.1.1 3)), (0, .ref (ard 0)), (1, .int p0)]) hx hb dX3_readTile_7 rfl hl (by decide) rfl (fun ls hl => ?_)
  refine lv_aload_n hx hb dX3_readTile_8 rfl (lv_at hl 1 rfl) ?_
  refine lv_iconst (v := 0) hx hb dX3_readTile_9 (by decide) ?_
  refine lv_aload_n hx hb dX3_readTile_10 rfl (lv_at hl 1 rfl) ?_
  refine va_get (D := G) (ci := 3) (v := .ref (ard 4)) (C := RX3) (T := TX3) (N := 11) hx hb hts hi_3 hown hK hP 0 rfl rfl 1 (by decide) (hts (.fieldLink RX3 21 "HubTrains$SetupReader" "game" "LHubTrains$Game;") (List.mem_of_getElem? (i := 2) rfl)) (fun _ h9 => h9) rfl dX3_readTile_11 ?_
  refine va_getN (D := G) (ci := 1) (v := .int (rd.2.2.1.1 0)) (C := RX1) (T := TX1) (N := 16) hx hb hts hi_1 hown hK hP 4 rfl rfl 0 (by decide) (va_Nw.use rfl (nwf_HubTrains_SetupReader_107 hN.1)) (fun _ h9 => h9) rfl dX3_readTile_14 ?_
  obtain ⟨r17, rd17, e_17, hm⟩ := bd2_s hm
  refine zcVi (As := [.int 0, .int (rd.2.2.1.1 0)]) (rest := []) ⟨hx, hb, hml, hown, hts⟩ (k_X3_takeNumber l G K c ard rd 0 (rd.2.2.1.1 0) r17 rd17 e_17) (cwV 2 hts gX3_readTile_X3_takeNumber rfl rfl rfl hd_X3_takeNumber ⟨Nat.le_of_ble_eq_true rfl, Nat.le_of_ble_eq_true rfl⟩) hK hN hZ hP hD hS hA (va_recv hK hP (ci := 3) (q0 := 0) rfl rfl) [0, 1, 2, 3, 4, 5, 6, 7, 8, 9, 10, 11, 12, 13] rfl (by decide) rfl rfl hl.1 rfl (Nat.le_of_ble_eq_true rfl) dX3_readTile_17 ⟨Nat.zero_le _, Nat.zero_le _⟩ (fun H locs hP hD hS => ?_)
  have hP : va_P G vwCl (wR c ard rd17) H := hP
  have hD : va_D A (wR c ard rd17) := hD
  refine lv_if_ne (tgt := 25) hx hb dX3_readTile_20 (by decide) (fun c_20 => ?_) (fun c_20 => ?_)
  · have hm := ifn c_20 hm
    refine lv_aload_n hx hb dX3_readTile_25 rfl (lv_at hl 1 rfl) ?_
    refine va_get (D := G) (ci := 3) (v := .int (rd17.1.1 0)) (C := RX3) (T := TX3) (N := 11) hx hb hts hi_3 hown hK hP 0 rfl rfl 2 (by decide) (hts (.fieldLink RX3 104 "HubTrains$SetupReader" "number" "I") (List.mem_of_getElem? (i := 3) rfl)) (fun _ h9 => h9) rfl dX3_readTile_26 ?_
    refine lv_istore_n (lv' := [(3, .int (rd17.1.1 0)), (2, .int (rd.2.1.1 3)), (0, .ref (ard 0)), (1, .int p0)]) hx hb dX3_readTile_29 rfl hl (by decide) rfl (fun ls hl => ?_)
    refine lv_aload_n hx hb dX3_readTile_30 rfl (lv_at hl 2 rfl) ?_
    refine lv_bipush (v := 45) hx hb dX3_readTile_31 (by decide) ?_
    obtain ⟨r33, rd33, e_33, hm⟩ := bd2_s hm
    refine zcVi (As := [.int 45]) (rest := []) ⟨hx, hb, hml, hown, hts⟩ (k_X3_takeSign l G K c ard rd17 45 r33 rd33 e_33) (cwV 1 hts gX3_readTile_X3_takeSign rfl rfl rfl hd_X3_takeSign ⟨Nat.le_of_ble_eq_true rfl, Nat.le_of_ble_eq_true rfl⟩) hK hN hZ hP hD hS hA (va_recv hK hP (ci := 3) (q0 := 0) rfl rfl) [0, 1, 2, 3, 4, 5, 6, 7, 8, 9, 10, 11, 12, 13] rfl (by decide) rfl rfl hl.1 rfl (Nat.le_of_ble_eq_true rfl) dX3_readTile_33 ⟨Nat.zero_le _, Nat.zero_le _⟩ (fun H locs hP hD hS => ?_)
    have hP : va_P G vwCl (wR c ard rd33) H := hP
    have hD : va_D A (wR c ard rd33) := hD
    refine lv_if_eq (tgt := 54) hx hb dX3_readTile_36 (by decide) (fun c_36 => ?_) (fun c_36 => ?_)
    · have hm := ifp c_36 hm
      refine lv_iconst (v := 0) hx hb dX3_readTile_54 (by decide) ?_
      exact hend H locs ls _ _ _ (by decide) (Prod.mk.inj (Option.some.inj hm)).1 (zc1 (fun (z0 : RS) => (wR c ard z0 : va_W)) (Prod.mk.inj (Option.some.inj hm)).2) hP hD hS dX3_readTile_55
    · have hm := ifn c_36 hm
      refine lv_aload_n hx hb dX3_readTile_39 rfl (lv_at hl 2 rfl) ?_
      refine lv_iconst (v := 0) hx hb dX3_readTile_40 (by decide) ?_
      refine lv_aload_n hx hb dX3_readTile_41 rfl (lv_at hl 2 rfl) ?_
      refine va_get (D := G) (ci := 3) (v := .ref (ard 4)) (C := RX3) (T := TX3) (N := 11) hx hb hts hi_3 hown hK hP 0 rfl rfl 1 (by decide) (hts (.fieldLink RX3 21 "HubTrains$SetupReader" "game" "LHubTrains$Game;") (List.mem_of_getElem? (i := 2) rfl)) (fun _ h9 => h9) rfl dX3_readTile_42 ?_
      refine va_getN (D := G) (ci := 1) (v := .int (rd33.2.2.1.1 0)) (C := RX1) (T := TX1) (N := 16) hx hb hts hi_1 hown hK hP 4 rfl rfl 0 (by decide) (va_Nw.use rfl (nwf_HubTrains_SetupReader_107 hN.1)) (fun _ h9 => h9) rfl dX3_readTile_45 ?_
      obtain ⟨r48, rd48, e_48, hm⟩ := bd2_s hm
      refine zcVi (As := [.int 0, .int (rd33.2.2.1.1 0)]) (rest := []) ⟨hx, hb, hml, hown, hts⟩ (k_X3_takeNumber l G K c ard rd33 0 (rd33.2.2.1.1 0) r48 rd48 e_48) (cwV 2 hts gX3_readTile_X3_takeNumber rfl rfl rfl hd_X3_takeNumber ⟨Nat.le_of_ble_eq_true rfl, Nat.le_of_ble_eq_true rfl⟩) hK hN hZ hP hD hS hA (va_recv hK hP (ci := 3) (q0 := 0) rfl rfl) [0, 1, 2, 3, 4, 5, 6, 7, 8, 9, 10, 11, 12, 13] rfl (by decide) rfl rfl hl.1 rfl (Nat.le_of_ble_eq_true rfl) dX3_readTile_48 ⟨Nat.zero_le _, Nat.zero_le _⟩ (fun H locs hP hD hS => ?_)
      have hP : va_P G vwCl (wR c ard rd48) H := hP
      have hD : va_D A (wR c ard rd48) := hD
      refine lv_if_ne (tgt := 56) hx hb dX3_readTile_51 (by decide) (fun c_51 => ?_) (fun c_51 => ?_)
      · have hm := ifn c_51 hm
        refine lv_bipush (v := 10) hx hb dX3_readTile_56 (by decide) ?_
        refine lv_iload_n hx hb dX3_readTile_58 rfl (lv_at hl 0 rfl) ?_
        refine lv_aload_n hx hb dX3_readTile_59 rfl (lv_at hl 2 rfl) ?_
        refine va_get (D := G) (ci := 3) (v := .int (rd48.1.1 0)) (C := RX3) (T := TX3) (N := 11) hx hb hts hi_3 hown hK hP 0 rfl rfl 2 (by decide) (hts (.fieldLink RX3 104 "HubTrains$SetupReader" "number" "I") (List.mem_of_getElem? (i := 3) rfl)) (fun _ h9 => h9) rfl dX3_readTile_60 ?_
        refine va_mmin hx hb (hml.trans hl.1.symm) hown (hts (.methodLink RX3 147 Lib.Math.min.name) (List.mem_of_getElem? (i := 4) rfl)) (hts (.static Lib.Math.min.name) (List.mem_of_getElem? (i := 5) rfl)) (hts (.initialized "java/lang/Math") (List.mem_of_getElem? (i := 6) rfl)) (hts (.code Lib.Math.min.name Lib.Math.min.code 2 (some .int)) (List.mem_of_getElem? (i := 7) rfl)) (Nat.le_of_ble_eq_true rfl) (Nat.le_of_ble_eq_true rfl) (Nat.zero_le _) (Nat.zero_le _) dX3_readTile_63 ?_
        refine lv_imul hx hb dX3_readTile_66 ?_
        refine lv_iload_n hx hb dX3_readTile_67 rfl (lv_at hl 0 rfl) ?_
        refine lv_aload_n hx hb dX3_readTile_68 rfl (lv_at hl 2 rfl) ?_
        refine va_get (D := G) (ci := 3) (v := .int (rd48.1.1 0)) (C := RX3) (T := TX3) (N := 11) hx hb hts hi_3 hown hK hP 0 rfl rfl 2 (by decide) (hts (.fieldLink RX3 104 "HubTrains$SetupReader" "number" "I") (List.mem_of_getElem? (i := 3) rfl)) (fun _ h9 => h9) rfl dX3_readTile_69 ?_
        refine va_mmax hx hb (hml.trans hl.1.symm) hown (hts (.methodLink RX3 153 Lib.Math.max.name) (List.mem_of_getElem? (i := 8) rfl)) (hts (.static Lib.Math.max.name) (List.mem_of_getElem? (i := 9) rfl)) (hts (.initialized "java/lang/Math") (List.mem_of_getElem? (i := 6) rfl)) (hts (.code Lib.Math.max.name Lib.Math.max.code 2 (some .int)) (List.mem_of_getElem? (i := 10) rfl)) (Nat.le_of_ble_eq_true rfl) (Nat.le_of_ble_eq_true rfl) (Nat.zero_le _) (Nat.zero_le _) dX3_readTile_72 ?_
        refine lv_iadd hx hb dX3_readTile_75 ?_
        refine lv_topi (fun x4_76 e_x4_76 => ?_)
        have hm := nmd_s hm x4_76 e_x4_76
        refine lv_istore (lv' := [(4, .int x4_76), (3, .int (rd17.1.1 0)), (2, .int (rd.2.1.1 3)), (0, .ref (ard 0)), (1, .int p0)]) hx hb dX3_readTile_76 hl (by decide) rfl (fun ls hl => ?_)
        refine lv_aload_n hx hb dX3_readTile_78 rfl (lv_at hl 3 rfl) ?_
        refine va_get (D := G) (ci := 3) (v := .ref (ard 4)) (C := RX3) (T := TX3) (N := 11) hx hb hts hi_3 hown hK hP 0 rfl rfl 1 (by decide) (hts (.fieldLink RX3 21 "HubTrains$SetupReader" "game" "LHubTrains$Game;") (List.mem_of_getElem? (i := 2) rfl)) (fun _ h9 => h9) rfl dX3_readTile_79 ?_
        refine lv_iload hx hb dX3_readTile_82 (lv_at hl 0 rfl) ?_
        obtain ⟨r84, e_84, hm⟩ := bd1_s hm
        refine zcVi (As := [.int x4_76]) (rest := []) ⟨hx, hb, hml, hown, hts⟩ (k_X1_isFree l G K c (fun i => ard (i + 4)) rd48.2.2 x4_76 r84 e_84) (cwV 1 hts gX3_readTile_X1_isFree rfl rfl rfl hd_X1_isFree ⟨Nat.le_of_ble_eq_true rfl, Nat.le_of_ble_eq_true rfl⟩) hK hN hZ hP hD hS hA (va_recv hK hP (ci := 1) (q0 := 4) rfl rfl) [4, 5, 6, 7, 8, 9, 10, 11, 12, 13] rfl (by decide) rfl rfl hl.1 rfl (Nat.le_of_ble_eq_true rfl) dX3_readTile_84 ⟨Nat.zero_le _, Nat.zero_le _⟩ (fun H locs hP hD hS => ?_)
        have hP : va_P G vwCl (wR c ard rd48) H := hP
        have hD : va_D A (wR c ard rd48) := hD
        refine lv_if_ne (tgt := 98) hx hb dX3_readTile_87 (by decide) (fun c_87 => ?_) (fun c_87 => ?_)
        · have hm := ifn c_87 hm
          refine lv_aload_n hx hb dX3_readTile_98 rfl (lv_at hl 3 rfl) ?_
          refine va_get (D := G) (ci := 3) (v := .ref (ard 4)) (C := RX3) (T := TX3) (N := 11) hx hb hts hi_3 hown hK hP 0 rfl rfl 1 (by decide) (hts (.fieldLink RX3 21 "HubTrains$SetupReader" "game" "LHubTrains$Game;") (List.mem_of_getElem? (i := 2) rfl)) (fun _ h9 => h9) rfl dX3_readTile_99 ?_
          refine lv_iload_n hx hb dX3_readTile_102 rfl (lv_at hl 4 rfl) ?_
          obtain ⟨r103, e_103, hm⟩ := bd1_s hm
          refine zcVi (As := [.int p0]) (rest := []) ⟨hx, hb, hml, hown, hts⟩ (k_X1_handCount l G K c (fun i => ard (i + 4)) rd48.2.2 p0 r103 e_103) (cwV 1 hts gX3_readTile_X1_handCount rfl rfl rfl hd_X1_handCount ⟨Nat.le_of_ble_eq_true rfl, Nat.le_of_ble_eq_true rfl⟩) hK hN hZ hP hD hS hA (va_recv hK hP (ci := 1) (q0 := 4) rfl rfl) [4, 5, 6, 7, 8, 9, 10, 11, 12, 13] rfl (by decide) rfl rfl hl.1 rfl (Nat.le_of_ble_eq_true rfl) dX3_readTile_103 ⟨Nat.zero_le _, Nat.zero_le _⟩ (fun H locs hP hD hS => ?_)
          have hP : va_P G vwCl (wR c ard rd48) H := hP
          have hD : va_D A (wR c ard rd48) := hD
          refine lv_aload_n hx hb dX3_readTile_106 rfl (lv_at hl 3 rfl) ?_
          refine va_get (D := G) (ci := 3) (v := .ref (ard 4)) (C := RX3) (T := TX3) (N := 11) hx hb hts hi_3 hown hK hP 0 rfl rfl 1 (by decide) (hts (.fieldLink RX3 21 "HubTrains$SetupReader" "game" "LHubTrains$Game;") (List.mem_of_getElem? (i := 2) rfl)) (fun _ h9 => h9) rfl dX3_readTile_107 ?_
          refine va_getN (D := G) (ci := 1) (v := .int (rd48.2.2.1.1 2)) (C := RX1) (T := TX1) (N := 16) hx hb hts hi_1 hown hK hP 4 rfl rfl 2 (by decide) (va_Nw.use rfl (nwf_HubTrains_SetupReader_119 hN.1)) (fun _ h9 => h9) rfl dX3_readTile_110 ?_
          refine lv_icmp_lt (tgt := 124) hx hb dX3_readTile_113 (by decide) (fun c_113 => ?_) (fun c_113 => ?_)
          · have hm := ifp c_113 hm
            refine lv_aload_n hx hb dX3_readTile_124 rfl (lv_at hl 3 rfl) ?_
            refine va_get (D := G) (ci := 3) (v := .ref (ard 4)) (C := RX3) (T := TX3) (N := 11) hx hb hts hi_3 hown hK hP 0 rfl rfl 1 (by decide) (hts (.fieldLink RX3 21 "HubTrains$SetupReader" "game" "LHubTrains$Game;") (List.mem_of_getElem? (i := 2) rfl)) (fun _ h9 => h9) rfl dX3_readTile_125 ?_
            refine va_getN (D := G) (ci := 1) (v := .ref (ard 5)) (C := RX1) (T := TX1) (N := 16) hx hb hts hi_1 hown hK hP 4 rfl rfl 12 (by decide) (va_Nw.use rfl (nwf_HubTrains_SetupReader_163 hN.1)) (fun _ h9 => h9) rfl dX3_readTile_128 ?_
            refine lv_iload hx hb dX3_readTile_131 (lv_at hl 0 rfl) ?_
            refine lv_iload_n hx hb dX3_readTile_133 rfl (lv_at hl 4 rfl) ?_
            obtain ⟨h0134, e_134, hm⟩ := bd1_s hm
            refine zcSNv (As := [.ref (ard 5), .int x4_76, .int p0]) (rest := []) ⟨hx, hb, hml, hown, hts⟩ (k_X7_put l G K c (ard 5) 100 (rd48.2.2.1.2 0) x4_76 p0 h0134 e_134) ⟨va_cnB 3 hts gX3_readTile_X7_put_n166 rfl rfl rfl (nwm_HubTrains_SetupReader_166 hN.2.1) (hts (.initialized RX7) (List.mem_of_getElem? (i := 58) rfl)) hd_X7_put.2 ⟨Nat.le_of_ble_eq_true rfl, Nat.le_of_ble_eq_true rfl⟩, (hts (.static yX7_put) (List.mem_of_getElem? (i := 70) rfl)), trivial⟩ hK hN hZ hP hD hS hA [5] rfl (by decide) rfl rfl hl.1 rfl (Nat.le_of_ble_eq_true rfl) dX3_readTile_134 ⟨Nat.zero_le _, Nat.zero_le _⟩ (fun H locs hP hD hS => ?_)
            have hP : va_P G vwCl (wR c ard (rd48.1, rd48.2.1, ((sa rd48.2.2.1 0 h0134), (rd48.2.2.2.1), rd48.2.2.2.2.1, rd48.2.2.2.2.2))) H := hP
            have hD : va_D A (wR c ard (rd48.1, rd48.2.1, ((sa rd48.2.2.1 0 h0134), (rd48.2.2.2.1), rd48.2.2.2.2.1, rd48.2.2.2.2.2))) := hD
            refine lv_iconst (v := 1) hx hb dX3_readTile_137 (by decide) ?_
            exact hend H locs ls _ _ _ (by decide) (Prod.mk.inj (Option.some.inj hm)).1 (zc1 (fun (z0 : RS) => (wR c ard z0 : va_W)) (Prod.mk.inj (Option.some.inj hm)).2) hP hD hS dX3_readTile_138
          · have hm := ifn c_113 hm
            refine lv_aload_n hx hb dX3_readTile_116 rfl (lv_at hl 3 rfl) ?_
            refine lv_bipush (v := (-5)) hx hb dX3_readTile_117 (by decide) ?_
            refine lv_iload_n hx hb dX3_readTile_119 rfl (lv_at hl 2 rfl) ?_
            obtain ⟨r120, rd120, e_120, hm⟩ := bd2_s hm
            refine zcVi (As := [.int (-5), .int (rd.2.1.1 3)]) (rest := []) ⟨hx, hb, hml, hown, hts⟩ (k_X3_fail l G K c ard rd48 (-5) (rd.2.1.1 3) r120 rd120 e_120) (cwV 2 hts gX3_readTile_X3_fail rfl rfl rfl hd_X3_fail ⟨Nat.le_of_ble_eq_true rfl, Nat.le_of_ble_eq_true rfl⟩) hK hN hZ hP hD hS hA (va_recv hK hP (ci := 3) (q0 := 0) rfl rfl) [0, 1, 2, 3, 4, 5, 6, 7, 8, 9, 10, 11, 12, 13] rfl (by decide) rfl rfl hl.1 rfl (Nat.le_of_ble_eq_true rfl) dX3_readTile_120 ⟨Nat.zero_le _, Nat.zero_le _⟩ (fun H locs hP hD hS => ?_)
            have hP : va_P G vwCl (wR c ard rd120) H := hP
            have hD : va_D A (wR c ard rd120) := hD
            obtain ⟨h_123, hm⟩ := gd_s hm
            exact hend H locs ls _ _ _ (isb_n h_123) (Prod.mk.inj (Option.some.inj hm)).1 (zc1 (fun (z0 : RS) => (wR c ard z0 : va_W)) (Prod.mk.inj (Option.some.inj hm)).2) hP hD hS dX3_readTile_123
        · have hm := ifp c_87 hm
          refine lv_aload_n hx hb dX3_readTile_90 rfl (lv_at hl 3 rfl) ?_
          refine lv_bipush (v := (-4)) hx hb dX3_readTile_91 (by decide) ?_
          refine lv_iload_n hx hb dX3_readTile_93 rfl (lv_at hl 2 rfl) ?_
          obtain ⟨r94, rd94, e_94, hm⟩ := bd2_s hm
          refine zcVi (As := [.int (-4), .int (rd.2.1.1 3)]) (rest := []) ⟨hx, hb, hml, hown, hts⟩ (k_X3_fail l G K c ard rd48 (-4) (rd.2.1.1 3) r94 rd94 e_94) (cwV 2 hts gX3_readTile_X3_fail rfl rfl rfl hd_X3_fail ⟨Nat.le_of_ble_eq_true rfl, Nat.le_of_ble_eq_true rfl⟩) hK hN hZ hP hD hS hA (va_recv hK hP (ci := 3) (q0 := 0) rfl rfl) [0, 1, 2, 3, 4, 5, 6, 7, 8, 9, 10, 11, 12, 13] rfl (by decide) rfl rfl hl.1 rfl (Nat.le_of_ble_eq_true rfl) dX3_readTile_94 ⟨Nat.zero_le _, Nat.zero_le _⟩ (fun H locs hP hD hS => ?_)
          have hP : va_P G vwCl (wR c ard rd94) H := hP
          have hD : va_D A (wR c ard rd94) := hD
          obtain ⟨h_97, hm⟩ := gd_s hm
          exact hend H locs ls _ _ _ (isb_n h_97) (Prod.mk.inj (Option.some.inj hm)).1 (zc1 (fun (z0 : RS) => (wR c ard z0 : va_W)) (Prod.mk.inj (Option.some.inj hm)).2) hP hD hS dX3_readTile_97
      · have hm := ifp c_51 hm
        refine lv_iconst (v := 0) hx hb dX3_readTile_54 (by decide) ?_
        exact hend H locs ls _ _ _ (by decide) (Prod.mk.inj (Option.some.inj hm)).1 (zc1 (fun (z0 : RS) => (wR c ard z0 : va_W)) (Prod.mk.inj (Option.some.inj hm)).2) hP hD hS dX3_readTile_55
  · have hm := ifp c_20 hm
    refine lv_iconst (v := 0) hx hb dX3_readTile_23 (by decide) ?_
    exact hend H locs ls _ _ _ (by decide) (Prod.mk.inj (Option.some.inj hm)).1 (zc1 (fun (z0 : RS) => (wR c ard z0 : va_W)) (Prod.mk.inj (Option.some.inj hm)).2) hP hD hS dX3_readTile_24

def f_X3_readGive_B44 (rd23 : RS) (rec_44 : Int32 → Int32 → RS → Option (Int32 × RS)) (v2_44 : Int32) (v3_44 : Int32) (rd_44 : RS) : Option (Int32 × RS) :=
  if v2_44 = 0 then (gd (isb v2_44) <| some (v2_44, rd_44)) else (bd1 (f_X5_isNumber rd_44.2.1) fun (r52 : Int32) => if r52 = 0 then (gd (isb v2_44) <| some (v2_44, rd_44)) else (if (500 : Int32) ≤ v3_44 then (gd (isb v2_44) <| some (v2_44, rd_44)) else (bd2 (f_X3_readTile rd_44 (rd23.1.1 0)) fun (r67 : Int32) (rd67 : RS) => rec_44 r67 (v3_44 + 1) rd67)))

def f_X3_readGive (rd : RS) : Option (Int32 × RS) :=
  bd1 (f_X5_advance rd.2.1) fun (tk9 : SA) => bd2 (f_X3_takeNumber ((ss rd.1 4 1), tk9, rd.2.2) 0 ((rd.2.2.1.1 1) - 1)) fun (r23 : Int32) (rd23 : RS) => if r23 = 0 then (some (0, rd23)) else (bd2 (f_X3_readTile rd23 (rd23.1.1 0)) fun (r38 : Int32) (rd38 : RS) => itr3 (f_X3_readGive_B44 rd23) FUEL r38 0 rd38)

abbrev rm_X3_readGive : Room := { frames := 4, cells := 0, slots := 0, locals := 85 }
theorem hd_X3_readGive : yX3_readGive.cls = RX3 ∧ yX3_readGive.cls ≠ "java/lang/invoke/MethodHandle" ∧ yX3_readGive.cls ≠ "java/lang/invoke/VarHandle" ∧ (parseMethodDescriptor yX3_readGive.desc).map (fun d => d.parameters.length) = some 0 := by decide +kernel
set_option maxHeartbeats 4000000 in
set_option maxRecDepth 100000 in
theorem k_X3_readGive (l : Launch) (G : va_G) (K : (Nat → Nat) × (Nat → Nat)) (c : Nat → ClassId) (ard : Nat → Nat) (rd : RS) (r : Int32) (rd_r : RS) (hm : f_X3_readGive rd = some (r, rd_r)) : zMi l yX3_readGive wsX3_readGive (rm_X3_readGive) G K (TY c) [.ref (ard 0)] (wR c ard rd) (wR c ard rd_r) r := by
  refine zMi.of (cc := cX3_readGive) (maxL := 4) (lv := [(0, .ref (ard 0))]) (by decide) rfl (Nat.le_of_ble_eq_true rfl) rfl ?_
  intro p e s m args below meth c1 A Q H locs hx hb hml hown hts hK hN hZ hP hD hA hS hend ls hl
  have hown : s.vm.findClass RX3 = some m.cls := hown
  have hi_1 : ∀ w ∈ wsX10, w ∈ wsX3_readGive := (fun w h => List.mem_cons_of_mem _ (List.mem_append_left _ (List.mem_append_right _ (h))))
  have hi_3 : ∀ w ∈ wsX30, w ∈ wsX3_readGive := (fun w h => List.mem_cons_of_mem _ (List.mem_append_left _ (List.mem_append_left _ (List.mem_append_right _ (h)))))
  unfold f_X3_readGive at hm
  refine lv_aload_n hx hb dX3_readGive_0 rfl (lv_at hl 0 rfl) ?_
  refine lv_iconst (v := 1) hx hb dX3_readGive_1 (by decide) ?_
  refine va_put (D := G) (ci := 3) (v := .int 1) (C := RX3) (T := TX3) (N := 11) hx hb hts hi_3 tyX3 tyX3_ok nmX3 hown hK hP hD hS 0 rfl rfl 6 (by decide) (hts (.fieldLink RX3 53 "HubTrains$SetupReader" "tilesGiven" "Z") (List.mem_of_getElem? (i := 1) rfl)) (fun _ h9 => h9) rfl (tyX3_ok 6 (by decide)) (by decide) (by decide) (Nat.le_of_ble_eq_true rfl) dX3_readGive_2 (fun H locs hP hD hS => ?_)
  have hP : va_P G vwCl (wR c ard ((ss rd.1 4 1), rd.2.1, rd.2.2)) H := hP
  have hD : va_D A (wR c ard ((ss rd.1 4 1), rd.2.1, rd.2.2)) := hD
  refine lv_aload_n hx hb dX3_readGive_5 rfl (lv_at hl 0 rfl) ?_
  refine va_get (D := G) (ci := 3) (v := .ref (ard 2)) (C := RX3) (T := TX3) (N := 11) hx hb hts hi_3 hown hK hP 0 rfl rfl 0 (by decide) (hts (.fieldLink RX3 12 "HubTrains$SetupReader" "tokens" "LHubTrains$Tokens;") (List.mem_of_getElem? (i := 2) rfl)) (fun _ h9 => h9) rfl dX3_readGive_6 ?_
  obtain ⟨tk9, e_9, hm⟩ := bd1_s hm
  refine zcVv (As := []) (rest := []) ⟨hx, hb, hml, hown, hts⟩ (k_X5_advance l G K c (ard 2) (ard 3) rd.2.1 tk9 e_9) (cwV 0 hts gX3_readGive_X5_advance rfl rfl rfl hd_X5_advance ⟨Nat.le_of_ble_eq_true rfl, Nat.le_of_ble_eq_true rfl⟩) hK hN hZ hP hD hS hA (va_recv hK hP (ci := 5) (q0 := 2) rfl rfl) [2, 3] rfl (by decide) rfl rfl hl.1 rfl (Nat.le_of_ble_eq_true rfl) dX3_readGive_9 ⟨Nat.zero_le _, Nat.zero_le _⟩ (fun H locs hP hD hS => ?_)
  have hP : va_P G vwCl (wR c ard ((ss rd.1 4 1), tk9, rd.2.2)) H := hP
  have hD : va_D A (wR c ard ((ss rd.1 4 1), tk9, rd.2.2)) := hD
  refine lv_aload_n hx hb dX3_readGive_12 rfl (lv_at hl 0 rfl) ?_
  refine lv_iconst (v := 0) hx hb dX3_readGive_13 (by decide) ?_
  refine lv_aload_n hx hb dX3_readGive_14 rfl (lv_at hl 0 rfl) ?_
  refine va_get (D := G) (ci := 3) (v := .ref (ard 4)) (C := RX3) (T := TX3) (N := 11) hx hb hts hi_3 hown hK hP 0 rfl rfl 1 (by decide) (hts (.fieldLink RX3 21 "HubTrains$SetupReader" "game" "LHubTrains$Game;") (List.mem_of_getElem? (i := 3) rfl)) (fun _ h9 => h9) rfl dX3_readGive_15 ?_
  refine va_getN (D := G) (ci := 1) (v := .int (rd.2.2.1.1 1)) (C := RX1) (T := TX1) (N := 16) hx hb hts hi_1 hown hK hP 4 rfl rfl 1 (by decide) (va_Nw.use rfl (nwf_HubTrains_SetupReader_116 hN.1)) (fun _ h9 => h9) rfl dX3_readGive_18 ?_
  refine lv_iconst (v := 1) hx hb dX3_readGive_21 (by decide) ?_
  refine lv_isub hx hb dX3_readGive_22 ?_
  obtain ⟨r23, rd23, e_23, hm⟩ := bd2_s hm
  refine zcVi (As := [.int 0, .int ((rd.2.2.1.1 1) - 1)]) (rest := []) ⟨hx, hb, hml, hown, hts⟩ (k_X3_takeNumber l G K c ard ((ss rd.1 4 1), tk9, rd.2.2) 0 ((rd.2.2.1.1 1) - 1) r23 rd23 e_23) (cwV 2 hts gX3_readGive_X3_takeNumber rfl rfl rfl hd_X3_takeNumber ⟨Nat.le_of_ble_eq_true rfl, Nat.le_of_ble_eq_true rfl⟩) hK hN hZ hP hD hS hA (va_recv hK hP (ci := 3) (q0 := 0) rfl rfl) [0, 1, 2, 3, 4, 5, 6, 7, 8, 9, 10, 11, 12, 13] rfl (by decide) rfl rfl hl.1 rfl (Nat.le_of_ble_eq_true rfl) dX3_readGive_23 ⟨Nat.zero_le _, Nat.zero_le _⟩ (fun H locs hP hD hS => ?_)
  have hP : va_P G vwCl (wR c ard rd23) H := hP
  have hD : va_D A (wR c ard rd23) := hD
  refine lv_if_ne (tgt := 31) hx hb dX3_readGive_26 (by decide) (fun c_26 => ?_) (fun c_26 => ?_)
  · have hm := ifn c_26 hm
    refine lv_aload_n hx hb dX3_readGive_31 rfl (lv_at hl 0 rfl) ?_
    refine va_get (D := G) (ci := 3) (v := .int (rd23.1.1 0)) (C := RX3) (T := TX3) (N := 11) hx hb hts hi_3 hown hK hP 0 rfl rfl 2 (by decide) (hts (.fieldLink RX3 104 "HubTrains$SetupReader" "number" "I") (List.mem_of_getElem? (i := 4) rfl)) (fun _ h9 => h9) rfl dX3_readGive_32 ?_
    refine lv_istore_n (lv' := [(1, .int (rd23.1.1 0)), (0, .ref (ard 0))]) hx hb dX3_readGive_35 rfl hl (by decide) rfl (fun ls hl => ?_)
    refine lv_aload_n hx hb dX3_readGive_36 rfl (lv_at hl 1 rfl) ?_
    refine lv_iload_n hx hb dX3_readGive_37 rfl (lv_at hl 0 rfl) ?_
    obtain ⟨r38, rd38, e_38, hm⟩ := bd2_s hm
    refine zcVi (As := [.int (rd23.1.1 0)]) (rest := []) ⟨hx, hb, hml, hown, hts⟩ (k_X3_readTile l G K c ard rd23 (rd23.1.1 0) r38 rd38 e_38) (cwV 1 hts gX3_readGive_X3_readTile rfl rfl rfl hd_X3_readTile ⟨Nat.le_of_ble_eq_true rfl, Nat.le_of_ble_eq_true rfl⟩) hK hN hZ hP hD hS hA (va_recv hK hP (ci := 3) (q0 := 0) rfl rfl) [0, 1, 2, 3, 4, 5, 6, 7, 8, 9, 10, 11, 12, 13] rfl (by decide) rfl rfl hl.1 rfl (Nat.le_of_ble_eq_true rfl) dX3_readGive_38 ⟨Nat.zero_le _, Nat.zero_le _⟩ (fun H locs hP hD hS => ?_)
    have hP : va_P G vwCl (wR c ard rd38) H := hP
    have hD : va_D A (wR c ard rd38) := hD
    refine lv_istore_n (lv' := [(2, .int r38), (1, .int (rd23.1.1 0)), (0, .ref (ard 0))]) hx hb dX3_readGive_41 rfl hl (by decide) rfl (fun ls hl => ?_)
    refine lv_iconst (v := 0) hx hb dX3_readGive_42 (by decide) ?_
    refine lv_istore_n (lv' := [(3, .int 0), (2, .int r38), (1, .int (rd23.1.1 0)), (0, .ref (ard 0))]) hx hb dX3_readGive_43 rfl hl (by decide) rfl (fun ls hl => ?_)
    have L_44 : ∀ (n_44 : Nat) (v2_44 : Int32) (v3_44 : Int32) (rd_44 : RS) (H : Heap) (locs : List Loc) (ls : Array Slot), va_P G vwCl (wR c ard rd_44) H → va_D A (wR c ard rd_44) → va_S A s.heap H locs → lv_has ls 4 [(0, .ref (ard 0)), (1, .int (rd23.1.1 0)), (2, .int v2_44), (3, .int v3_44)] → itr3 (f_X3_readGive_B44 rd23) n_44 v2_44 v3_44 rd_44 = some (r, rd_r) → W p l e (rm_X3_readGive) s m args below meth c1 H locs 0 0 Q (F0 m 44 ls []) := by
      intro n_44
      induction n_44 with
      | zero => intro v2_44 v3_44 rd_44 H locs ls hP hD hS hl hm; exact (itr3_0 hm).elim
      | succ n_44 ih_44 =>
        intro v2_44 v3_44 rd_44 H locs ls hP hD hS hl hm
        have hm := itr3_s hm
        unfold f_X3_readGive_B44 at hm
        refine lv_iload_n hx hb dX3_readGive_44 rfl (lv_at hl 2 rfl) ?_
        refine lv_if_eq (tgt := 77) hx hb dX3_readGive_45 (by decide) (fun c_45 => ?_) (fun c_45 => ?_)
        · have hm := ifp c_45 hm
          refine lv_iload_n hx hb dX3_readGive_77 rfl (lv_at hl 2 rfl) ?_
          obtain ⟨h_78, hm⟩ := gd_s hm
          exact hend H locs ls _ _ _ (isb_n h_78) (Prod.mk.inj (Option.some.inj hm)).1 (zc1 (fun (z0 : RS) => (wR c ard z0 : va_W)) (Prod.mk.inj (Option.some.inj hm)).2) hP hD hS dX3_readGive_78
        · have hm := ifn c_45 hm
          refine lv_aload_n hx hb dX3_readGive_48 rfl (lv_at hl 0 rfl) ?_
          refine va_get (D := G) (ci := 3) (v := .ref (ard 2)) (C := RX3) (T := TX3) (N := 11) hx hb hts hi_3 hown hK hP 0 rfl rfl 0 (by decide) (hts (.fieldLink RX3 12 "HubTrains$SetupReader" "tokens" "LHubTrains$Tokens;") (List.mem_of_getElem? (i := 2) rfl)) (fun _ h9 => h9) rfl dX3_readGive_49 ?_
          obtain ⟨r52, e_52, hm⟩ := bd1_s hm
          refine zcVi (As := []) (rest := []) ⟨hx, hb, hml, hown, hts⟩ (k_X5_isNumber l G K c (ard 2) (ard 3) rd_44.2.1 r52 e_52) (cwV 0 hts gX3_readGive_X5_isNumber rfl rfl rfl hd_X5_isNumber ⟨Nat.le_of_ble_eq_true rfl, Nat.le_of_ble_eq_true rfl⟩) hK hN hZ hP hD hS hA (va_recv hK hP (ci := 5) (q0 := 2) rfl rfl) [2, 3] rfl (by decide) rfl rfl hl.1 rfl (Nat.le_of_ble_eq_true rfl) dX3_readGive_52 ⟨Nat.zero_le _, Nat.zero_le _⟩ (fun H locs hP hD hS => ?_)
          have hP : va_P G vwCl (wR c ard rd_44) H := hP
          have hD : va_D A (wR c ard rd_44) := hD
          refine lv_if_eq (tgt := 77) hx hb dX3_readGive_55 (by decide) (fun c_55 => ?_) (fun c_55 => ?_)
          · have hm := ifp c_55 hm
            refine lv_iload_n hx hb dX3_readGive_77 rfl (lv_at hl 2 rfl) ?_
            obtain ⟨h_78, hm⟩ := gd_s hm
            exact hend H locs ls _ _ _ (isb_n h_78) (Prod.mk.inj (Option.some.inj hm)).1 (zc1 (fun (z0 : RS) => (wR c ard z0 : va_W)) (Prod.mk.inj (Option.some.inj hm)).2) hP hD hS dX3_readGive_78
          · have hm := ifn c_55 hm
            refine lv_iload_n hx hb dX3_readGive_58 rfl (lv_at hl 3 rfl) ?_
            refine lv_sipush (v := 500) hx hb dX3_readGive_59 (by decide) ?_
            refine lv_icmp_ge (tgt := 77) hx hb dX3_readGive_62 (by decide) (fun c_62 => ?_) (fun c_62 => ?_)
            · have hm := ifp c_62 hm
              refine lv_iload_n hx hb dX3_readGive_77 rfl (lv_at hl 2 rfl) ?_
              obtain ⟨h_78, hm⟩ := gd_s hm
              exact hend H locs ls _ _ _ (isb_n h_78) (Prod.mk.inj (Option.some.inj hm)).1 (zc1 (fun (z0 : RS) => (wR c ard z0 : va_W)) (Prod.mk.inj (Option.some.inj hm)).2) hP hD hS dX3_readGive_78
            · have hm := ifn c_62 hm
              refine lv_aload_n hx hb dX3_readGive_65 rfl (lv_at hl 0 rfl) ?_
              refine lv_iload_n hx hb dX3_readGive_66 rfl (lv_at hl 1 rfl) ?_
              obtain ⟨r67, rd67, e_67, hm⟩ := bd2_s hm
              refine zcVi (As := [.int (rd23.1.1 0)]) (rest := []) ⟨hx, hb, hml, hown, hts⟩ (k_X3_readTile l G K c ard rd_44 (rd23.1.1 0) r67 rd67 e_67) (cwV 1 hts gX3_readGive_X3_readTile rfl rfl rfl hd_X3_readTile ⟨Nat.le_of_ble_eq_true rfl, Nat.le_of_ble_eq_true rfl⟩) hK hN hZ hP hD hS hA (va_recv hK hP (ci := 3) (q0 := 0) rfl rfl) [0, 1, 2, 3, 4, 5, 6, 7, 8, 9, 10, 11, 12, 13] rfl (by decide) rfl rfl hl.1 rfl (Nat.le_of_ble_eq_true rfl) dX3_readGive_67 ⟨Nat.zero_le _, Nat.zero_le _⟩ (fun H locs hP hD hS => ?_)
              have hP : va_P G vwCl (wR c ard rd67) H := hP
              have hD : va_D A (wR c ard rd67) := hD
              refine lv_istore_n (lv' := [(2, .int r67), (0, .ref (ard 0)), (1, .int (rd23.1.1 0)), (3, .int v3_44)]) hx hb dX3_readGive_70 rfl hl (by decide) rfl (fun ls hl => ?_)
              refine lv_iinc (k := 3) (v := (v3_44 + 1)) (lv' := [(3, .int (v3_44 + 1)), (2, .int r67), (0, .ref (ard 0)), (1, .int (rd23.1.1 0))]) hx hb dX3_readGive_71 hl rfl rfl (by decide) rfl (fun ls hl => ?_)
              refine lv_goto (tgt := 44) hx hb dX3_readGive_74 (by decide) ?_
              exact ih_44 r67 (v3_44 + 1) rd67 H locs ls hP hD hS (lv_sub hl [2, 3, 1, 0] rfl) hm
    exact L_44 FUEL r38 0 rd38 H locs ls hP hD hS (lv_sub hl [3, 2, 1, 0] rfl) hm
  · have hm := ifp c_26 hm
    refine lv_iconst (v := 0) hx hb dX3_readGive_29 (by decide) ?_
    exact hend H locs ls _ _ _ (by decide) (Prod.mk.inj (Option.some.inj hm)).1 (zc1 (fun (z0 : RS) => (wR c ard z0 : va_W)) (Prod.mk.inj (Option.some.inj hm)).2) hP hD hS dX3_readGive_30


def f_X3_readHead (rd : RS) : Option (Int32 × RS) :=
  bd1 (f_X5_isWord rd.2.1 0) fun (r6 : Int32) => if r6 = 0 then (bd2 (f_X3_fail rd (-2) (rd.2.1.1 3)) fun (r22 : Int32) (rd22 : RS) => gd (isb r22) <| some (r22, rd22)) else (bd1 (f_X5_advance rd.2.1) fun (tk30 : SA) => bd2 (f_X3_takeNumber (rd.1, tk30, rd.2.2) 3 9) fun (r37 : Int32) (rd37 : RS) => if r37 = 0 then (some (0, rd37)) else (bd2 (f_X3_takeNumber (rd37.1, rd37.2.1, ((ss (ss (ss rd37.2.2.1 0 (rd37.1.1 0)) 3 (rd37.1.1 0)) 4 1), (rd37.2.2.2.1), rd37.2.2.2.2.1, rd37.2.2.2.2.2)) 2 4) fun (r78 : Int32) (rd78 : RS) => if r78 = 0 then (some (0, rd78)) else (bd2 (f_X3_takeNumber (rd78.1, rd78.2.1, ((ss rd78.2.2.1 1 (rd78.1.1 0)), (rd78.2.2.2.1), rd78.2.2.2.2.1, rd78.2.2.2.2.2)) 1 12) fun (r101 : Int32) (rd101 : RS) => if r101 = 0 then (some (0, rd101)) else (bd2 (f_X3_takeSign (rd101.1, rd101.2.1, ((ss rd101.2.2.1 2 (rd101.1.1 0)), (rd101.2.2.2.1), rd101.2.2.2.2.1, rd101.2.2.2.2.2)) 59) fun (r123 : Int32) (rd123 : RS) => gd (isb r123) <| some (r123, rd123)))))

abbrev rm_X3_readHead : Room := { frames := 9, cells := 0, slots := 0, locals := 424 }
theorem hd_X3_readHead : yX3_readHead.cls = RX3 ∧ yX3_readHead.cls ≠ "java/lang/invoke/MethodHandle" ∧ yX3_readHead.cls ≠ "java/lang/invoke/VarHandle" ∧ (parseMethodDescriptor yX3_readHead.desc).map (fun d => d.parameters.length) = some 0 := by decide +kernel
set_option maxHeartbeats 4000000 in
set_option maxRecDepth 100000 in
theorem k_X3_readHead (l : Launch) (G : va_G) (K : (Nat → Nat) × (Nat → Nat)) (c : Nat → ClassId) (ard : Nat → Nat) (rd : RS) (r : Int32) (rd_r : RS) (hm : f_X3_readHead rd = some (r, rd_r)) : zMi l yX3_readHead wsX3_readHead (rm_X3_readHead) G K (TY c) [.ref (ard 0)] (wR c ard rd) (wR c ard rd_r) r := by
  refine zMi.of (cc := cX3_readHead) (maxL := 1) (lv := [(0, .ref (ard 0))]) (by decide) rfl (Nat.le_of_ble_eq_true rfl) rfl ?_
  intro p e s m args below meth c1 A Q H locs hx hb hml hown hts hK hN hZ hP hD hA hS hend ls hl
  have hown : s.vm.findClass RX3 = some m.cls := hown
  have hi_1 : ∀ w ∈ wsX10, w ∈ wsX3_readHead := (fun w h => List.mem_cons_of_mem _ (List.mem_append_left _ (List.mem_append_right _ (h))))
  have hi_3 : ∀ w ∈ wsX30, w ∈ wsX3_readHead := (fun w h => List.mem_cons_of_mem _ (List.mem_append_left _ (List.mem_append_left _ (List.mem_append_left _ (List.mem_append_right _ (h))))))
  have hi_5 : ∀ w ∈ wsX50, w ∈ wsX3_readHead := (fun w h => List.mem_cons_of_mem _ (List.mem_append_left _ (List.mem_append_left _ (List.mem_append_right _ (h)))))
  unfold f_X3_readHead at hm
  refine lv_aload_n hx hb dX3_readHead_0 rfl (lv_at hl 0 rfl) ?_
  refine va_get (D := G) (ci := 3) (v := .ref (ard 2)) (C := RX3) (T := TX3) (N := 11) hx hb hts hi_3 hown hK hP 0 rfl rfl 0 (by decide) (hts (.fieldLink RX3 12 "HubTrains$SetupReader" "tokens" "LHubTrains$Tokens;") (List.mem_of_getElem? (i := 1) rfl)) (fun _ h9 => h9) rfl dX3_readHead_1 ?_
  refine va_ldcS hx hb hown (nws_HubTrains_SetupReader_85 hN.2.2) dX3_readHead_4 ?_
  obtain ⟨r6, e_6, hm⟩ := bd1_s hm
  refine zcVi (As := [.ref (K.1 0)]) (rest := []) ⟨hx, hb, hml, hown, hts⟩ (k_X5_isWord l G K c (ard 2) (ard 3) rd.2.1 0 r6 e_6) (cwV 1 hts gX3_readHead_X5_isWord rfl rfl rfl hd_X5_isWord ⟨Nat.le_of_ble_eq_true rfl, Nat.le_of_ble_eq_true rfl⟩) hK hN hZ hP hD hS hA (va_recv hK hP (ci := 5) (q0 := 2) rfl rfl) [2, 3] rfl (by decide) rfl rfl hl.1 rfl (Nat.le_of_ble_eq_true rfl) dX3_readHead_6 ⟨Nat.zero_le _, Nat.zero_le _⟩ (fun H locs hP hD hS => ?_)
  have hP : va_P G vwCl (wR c ard rd) H := hP
  have hD : va_D A (wR c ard rd) := hD
  refine lv_if_ne (tgt := 26) hx hb dX3_readHead_9 (by decide) (fun c_9 => ?_) (fun c_9 => ?_)
  · have hm := ifn c_9 hm
    refine lv_aload_n hx hb dX3_readHead_26 rfl (lv_at hl 0 rfl) ?_
    refine va_get (D := G) (ci := 3) (v := .ref (ard 2)) (C := RX3) (T := TX3) (N := 11) hx hb hts hi_3 hown hK hP 0 rfl rfl 0 (by decide) (hts (.fieldLink RX3 12 "HubTrains$SetupReader" "tokens" "LHubTrains$Tokens;") (List.mem_of_getElem? (i := 1) rfl)) (fun _ h9 => h9) rfl dX3_readHead_27 ?_
    obtain ⟨tk30, e_30, hm⟩ := bd1_s hm
    refine zcVv (As := []) (rest := []) ⟨hx, hb, hml, hown, hts⟩ (k_X5_advance l G K c (ard 2) (ard 3) rd.2.1 tk30 e_30) (cwV 0 hts gX3_readHead_X5_advance rfl rfl rfl hd_X5_advance ⟨Nat.le_of_ble_eq_true rfl, Nat.le_of_ble_eq_true rfl⟩) hK hN hZ hP hD hS hA (va_recv hK hP (ci := 5) (q0 := 2) rfl rfl) [2, 3] rfl (by decide) rfl rfl hl.1 rfl (Nat.le_of_ble_eq_true rfl) dX3_readHead_30 ⟨Nat.zero_le _, Nat.zero_le _⟩ (fun H locs hP hD hS => ?_)
    have hP : va_P G vwCl (wR c ard (rd.1, tk30, rd.2.2)) H := hP
    have hD : va_D A (wR c ard (rd.1, tk30, rd.2.2)) := hD
    refine lv_aload_n hx hb dX3_readHead_33 rfl (lv_at hl 0 rfl) ?_
    refine lv_iconst (v := 3) hx hb dX3_readHead_34 (by decide) ?_
    refine lv_bipush (v := 9) hx hb dX3_readHead_35 (by decide) ?_
    obtain ⟨r37, rd37, e_37, hm⟩ := bd2_s hm
    refine zcVi (As := [.int 3, .int 9]) (rest := []) ⟨hx, hb, hml, hown, hts⟩ (k_X3_takeNumber l G K c ard (rd.1, tk30, rd.2.2) 3 9 r37 rd37 e_37) (cwV 2 hts gX3_readHead_X3_takeNumber rfl rfl rfl hd_X3_takeNumber ⟨Nat.le_of_ble_eq_true rfl, Nat.le_of_ble_eq_true rfl⟩) hK hN hZ hP hD hS hA (va_recv hK hP (ci := 3) (q0 := 0) rfl rfl) [0, 1, 2, 3, 4, 5, 6, 7, 8, 9, 10, 11, 12, 13] rfl (by decide) rfl rfl hl.1 rfl (Nat.le_of_ble_eq_true rfl) dX3_readHead_37 ⟨Nat.zero_le _, Nat.zero_le _⟩ (fun H locs hP hD hS => ?_)
    have hP : va_P G vwCl (wR c ard rd37) H := hP
    have hD : va_D A (wR c ard rd37) := hD
    refine lv_if_ne (tgt := 45) hx hb dX3_readHead_40 (by decide) (fun c_40 => ?_) (fun c_40 => ?_)
    · have hm := ifn c_40 hm
      refine lv_aload_n hx hb dX3_readHead_45 rfl (lv_at hl 0 rfl) ?_
      refine va_get (D := G) (ci := 3) (v := .ref (ard 4)) (C := RX3) (T := TX3) (N := 11) hx hb hts hi_3 hown hK hP 0 rfl rfl 1 (by decide) (hts (.fieldLink RX3 21 "HubTrains$SetupReader" "game" "LHubTrains$Game;") (List.mem_of_getElem? (i := 2) rfl)) (fun _ h9 => h9) rfl dX3_readHead_46 ?_
      refine lv_aload_n hx hb dX3_readHead_49 rfl (lv_at hl 0 rfl) ?_
      refine va_get (D := G) (ci := 3) (v := .int (rd37.1.1 0)) (C := RX3) (T := TX3) (N := 11) hx hb hts hi_3 hown hK hP 0 rfl rfl 2 (by decide) (hts (.fieldLink RX3 104 "HubTrains$SetupReader" "number" "I") (List.mem_of_getElem? (i := 3) rfl)) (fun _ h9 => h9) rfl dX3_readHead_50 ?_
      refine va_putN (D := G) (ci := 1) (v := .int (rd37.1.1 0)) (C := RX1) (T := TX1) (N := 16) hx hb hts hi_1 tyX1 tyX1_ok nmX1 hown hK hP hD hS 4 rfl rfl 0 (by decide) (va_Nw.use rfl (nwf_HubTrains_SetupReader_107 hN.1)) (fun _ h9 => h9) rfl (tyX1_ok 0 (by decide)) rfl rfl (Nat.le_of_ble_eq_true rfl) dX3_readHead_53 (fun H locs hP hD hS => ?_)
      have hP : va_P G vwCl (wR c ard (rd37.1, rd37.2.1, ((ss rd37.2.2.1 0 (rd37.1.1 0)), (rd37.2.2.2.1), rd37.2.2.2.2.1, rd37.2.2.2.2.2))) H := hP
      have hD : va_D A (wR c ard (rd37.1, rd37.2.1, ((ss rd37.2.2.1 0 (rd37.1.1 0)), (rd37.2.2.2.1), rd37.2.2.2.2.1, rd37.2.2.2.2.2))) := hD
      refine lv_aload_n hx hb dX3_readHead_56 rfl (lv_at hl 0 rfl) ?_
      refine va_get (D := G) (ci := 3) (v := .ref (ard 4)) (C := RX3) (T := TX3) (N := 11) hx hb hts hi_3 hown hK hP 0 rfl rfl 1 (by decide) (hts (.fieldLink RX3 21 "HubTrains$SetupReader" "game" "LHubTrains$Game;") (List.mem_of_getElem? (i := 2) rfl)) (fun _ h9 => h9) rfl dX3_readHead_57 ?_
      refine lv_aload_n hx hb dX3_readHead_60 rfl (lv_at hl 0 rfl) ?_
      refine va_get (D := G) (ci := 3) (v := .int (rd37.1.1 0)) (C := RX3) (T := TX3) (N := 11) hx hb hts hi_3 hown hK hP 0 rfl rfl 2 (by decide) (hts (.fieldLink RX3 104 "HubTrains$SetupReader" "number" "I") (List.mem_of_getElem? (i := 3) rfl)) (fun _ h9 => h9) rfl dX3_readHead_61 ?_
      refine va_putN (D := G) (ci := 1) (v := .int (rd37.1.1 0)) (C := RX1) (T := TX1) (N := 16) hx hb hts hi_1 tyX1 tyX1_ok nmX1 hown hK hP hD hS 4 rfl rfl 3 (by decide) (va_Nw.use rfl (nwf_HubTrains_SetupReader_110 hN.1)) (fun _ h9 => h9) rfl (tyX1_ok 3 (by decide)) rfl rfl (Nat.le_of_ble_eq_true rfl) dX3_readHead_64 (fun H locs hP hD hS => ?_)
      have hP : va_P G vwCl (wR c ard (rd37.1, rd37.2.1, ((ss (ss rd37.2.2.1 0 (rd37.1.1 0)) 3 (rd37.1.1 0)), (rd37.2.2.2.1), rd37.2.2.2.2.1, rd37.2.2.2.2.2))) H := hP
      have hD : va_D A (wR c ard (rd37.1, rd37.2.1, ((ss (ss rd37.2.2.1 0 (rd37.1.1 0)) 3 (rd37.1.1 0)), (rd37.2.2.2.1), rd37.2.2.2.2.1, rd37.2.2.2.2.2))) := hD
      refine lv_aload_n hx hb dX3_readHead_67 rfl (lv_at hl 0 rfl) ?_
      refine va_get (D := G) (ci := 3) (v := .ref (ard 4)) (C := RX3) (T := TX3) (N := 11) hx hb hts hi_3 hown hK hP 0 rfl rfl 1 (by decide) (hts (.fieldLink RX3 21 "HubTrains$SetupReader" "game" "LHubTrains$Game;") (List.mem_of_getElem? (i := 2) rfl)) (fun _ h9 => h9) rfl dX3_readHead_68 ?_
      refine lv_iconst (v := 1) hx hb dX3_readHead_71 (by decide) ?_
      refine va_putN (D := G) (ci := 1) (v := .int 1) (C := RX1) (T := TX1) (N := 16) hx hb hts hi_1 tyX1 tyX1_ok nmX1 hown hK hP hD hS 4 rfl rfl 4 (by decide) (va_Nw.use rfl (nwf_HubTrains_SetupReader_113 hN.1)) (fun _ h9 => h9) rfl (tyX1_ok 4 (by decide)) rfl rfl (Nat.le_of_ble_eq_true rfl) dX3_readHead_72 (fun H locs hP hD hS => ?_)
      have hP : va_P G vwCl (wR c ard (rd37.1, rd37.2.1, ((ss (ss (ss rd37.2.2.1 0 (rd37.1.1 0)) 3 (rd37.1.1 0)) 4 1), (rd37.2.2.2.1), rd37.2.2.2.2.1, rd37.2.2.2.2.2))) H := hP
      have hD : va_D A (wR c ard (rd37.1, rd37.2.1, ((ss (ss (ss rd37.2.2.1 0 (rd37.1.1 0)) 3 (rd37.1.1 0)) 4 1), (rd37.2.2.2.1), rd37.2.2.2.2.1, rd37.2.2.2.2.2))) := hD
      refine lv_aload_n hx hb dX3_readHead_75 rfl (lv_at hl 0 rfl) ?_
      refine lv_iconst (v := 2) hx hb dX3_readHead_76 (by decide) ?_
      refine lv_iconst (v := 4) hx hb dX3_readHead_77 (by decide) ?_
      obtain ⟨r78, rd78, e_78, hm⟩ := bd2_s hm
      refine zcVi (As := [.int 2, .int 4]) (rest := []) ⟨hx, hb, hml, hown, hts⟩ (k_X3_takeNumber l G K c ard (rd37.1, rd37.2.1, ((ss (ss (ss rd37.2.2.1 0 (rd37.1.1 0)) 3 (rd37.1.1 0)) 4 1), (rd37.2.2.2.1), rd37.2.2.2.2.1, rd37.2.2.2.2.2)) 2 4 r78 rd78 e_78) (cwV 2 hts gX3_readHead_X3_takeNumber rfl rfl rfl hd_X3_takeNumber ⟨Nat.le_of_ble_eq_true rfl, Nat.le_of_ble_eq_true rfl⟩) hK hN hZ hP hD hS hA (va_recv hK hP (ci := 3) (q0 := 0) rfl rfl) [0, 1, 2, 3, 4, 5, 6, 7, 8, 9, 10, 11, 12, 13] rfl (by decide) rfl rfl hl.1 rfl (Nat.le_of_ble_eq_true rfl) dX3_readHead_78 ⟨Nat.zero_le _, Nat.zero_le _⟩ (fun H locs hP hD hS => ?_)
      have hP : va_P G vwCl (wR c ard rd78) H := hP
      have hD : va_D A (wR c ard rd78) := hD
      refine lv_if_ne (tgt := 86) hx hb dX3_readHead_81 (by decide) (fun c_81 => ?_) (fun c_81 => ?_)
      · have hm := ifn c_81 hm
        refine lv_aload_n hx hb dX3_readHead_86 rfl (lv_at hl 0 rfl) ?_
        refine va_get (D := G) (ci := 3) (v := .ref (ard 4)) (C := RX3) (T := TX3) (N := 11) hx hb hts hi_3 hown hK hP 0 rfl rfl 1 (by decide) (hts (.fieldLink RX3 21 "HubTrains$SetupReader" "game" "LHubTrains$Game;") (List.mem_of_getElem? (i := 2) rfl)) (fun _ h9 => h9) rfl dX3_readHead_87 ?_
        refine lv_aload_n hx hb dX3_readHead_90 rfl (lv_at hl 0 rfl) ?_
        refine va_get (D := G) (ci := 3) (v := .int (rd78.1.1 0)) (C := RX3) (T := TX3) (N := 11) hx hb hts hi_3 hown hK hP 0 rfl rfl 2 (by decide) (hts (.fieldLink RX3 104 "HubTrains$SetupReader" "number" "I") (List.mem_of_getElem? (i := 3) rfl)) (fun _ h9 => h9) rfl dX3_readHead_91 ?_
        refine va_putN (D := G) (ci := 1) (v := .int (rd78.1.1 0)) (C := RX1) (T := TX1) (N := 16) hx hb hts hi_1 tyX1 tyX1_ok nmX1 hown hK hP hD hS 4 rfl rfl 1 (by decide) (va_Nw.use rfl (nwf_HubTrains_SetupReader_116 hN.1)) (fun _ h9 => h9) rfl (tyX1_ok 1 (by decide)) rfl rfl (Nat.le_of_ble_eq_true rfl) dX3_readHead_94 (fun H locs hP hD hS => ?_)
        have hP : va_P G vwCl (wR c ard (rd78.1, rd78.2.1, ((ss rd78.2.2.1 1 (rd78.1.1 0)), (rd78.2.2.2.1), rd78.2.2.2.2.1, rd78.2.2.2.2.2))) H := hP
        have hD : va_D A (wR c ard (rd78.1, rd78.2.1, ((ss rd78.2.2.1 1 (rd78.1.1 0)), (rd78.2.2.2.1), rd78.2.2.2.2.1, rd78.2.2.2.2.2))) := hD
        refine lv_aload_n hx hb dX3_readHead_97 rfl (lv_at hl 0 rfl) ?_
        refine lv_iconst (v := 1) hx hb dX3_readHead_98 (by decide) ?_
        refine lv_bipush (v := 12) hx hb dX3_readHead_99 (by decide) ?_
        obtain ⟨r101, rd101, e_101, hm⟩ := bd2_s hm
        refine zcVi (As := [.int 1, .int 12]) (rest := []) ⟨hx, hb, hml, hown, hts⟩ (k_X3_takeNumber l G K c ard (rd78.1, rd78.2.1, ((ss rd78.2.2.1 1 (rd78.1.1 0)), (rd78.2.2.2.1), rd78.2.2.2.2.1, rd78.2.2.2.2.2)) 1 12 r101 rd101 e_101) (cwV 2 hts gX3_readHead_X3_takeNumber rfl rfl rfl hd_X3_takeNumber ⟨Nat.le_of_ble_eq_true rfl, Nat.le_of_ble_eq_true rfl⟩) hK hN hZ hP hD hS hA (va_recv hK hP (ci := 3) (q0 := 0) rfl rfl) [0, 1, 2, 3, 4, 5, 6, 7, 8, 9, 10, 11, 12, 13] rfl (by decide) rfl rfl hl.1 rfl (Nat.le_of_ble_eq_true rfl) dX3_readHead_101 ⟨Nat.zero_le _, Nat.zero_le _⟩ (fun H locs hP hD hS => ?_)
        have hP : va_P G vwCl (wR c ard rd101) H := hP
        have hD : va_D A (wR c ard rd101) := hD
        refine lv_if_ne (tgt := 109) hx hb dX3_readHead_104 (by decide) (fun c_104 => ?_) (fun c_104 => ?_)
        · have hm := ifn c_104 hm
          refine lv_aload_n hx hb dX3_readHead_109 rfl (lv_at hl 0 rfl) ?_
          refine va_get (D := G) (ci := 3) (v := .ref (ard 4)) (C := RX3) (T := TX3) (N := 11) hx hb hts hi_3 hown hK hP 0 rfl rfl 1 (by decide) (hts (.fieldLink RX3 21 "HubTrains$SetupReader" "game" "LHubTrains$Game;") (List.mem_of_getElem? (i := 2) rfl)) (fun _ h9 => h9) rfl dX3_readHead_110 ?_
          refine lv_aload_n hx hb dX3_readHead_113 rfl (lv_at hl 0 rfl) ?_
          refine va_get (D := G) (ci := 3) (v := .int (rd101.1.1 0)) (C := RX3) (T := TX3) (N := 11) hx hb hts hi_3 hown hK hP 0 rfl rfl 2 (by decide) (hts (.fieldLink RX3 104 "HubTrains$SetupReader" "number" "I") (List.mem_of_getElem? (i := 3) rfl)) (fun _ h9 => h9) rfl dX3_readHead_114 ?_
          refine va_putN (D := G) (ci := 1) (v := .int (rd101.1.1 0)) (C := RX1) (T := TX1) (N := 16) hx hb hts hi_1 tyX1 tyX1_ok nmX1 hown hK hP hD hS 4 rfl rfl 2 (by decide) (va_Nw.use rfl (nwf_HubTrains_SetupReader_119 hN.1)) (fun _ h9 => h9) rfl (tyX1_ok 2 (by decide)) rfl rfl (Nat.le_of_ble_eq_true rfl) dX3_readHead_117 (fun H locs hP hD hS => ?_)
          have hP : va_P G vwCl (wR c ard (rd101.1, rd101.2.1, ((ss rd101.2.2.1 2 (rd101.1.1 0)), (rd101.2.2.2.1), rd101.2.2.2.2.1, rd101.2.2.2.2.2))) H := hP
          have hD : va_D A (wR c ard (rd101.1, rd101.2.1, ((ss rd101.2.2.1 2 (rd101.1.1 0)), (rd101.2.2.2.1), rd101.2.2.2.2.1, rd101.2.2.2.2.2))) := hD
          refine lv_aload_n hx hb dX3_readHead_120 rfl (lv_at hl 0 rfl) ?_
          refine lv_bipush (v := 59) hx hb dX3_readHead_121 (by decide) ?_
          obtain ⟨r123, rd123, e_123, hm⟩ := bd2_s hm
          refine zcVi (As := [.int 59]) (rest := []) ⟨hx, hb, hml, hown, hts⟩ (k_X3_takeSign l G K c ard (rd101.1, rd101.2.1, ((ss rd101.2.2.1 2 (rd101.1.1 0)), (rd101.2.2.2.1), rd101.2.2.2.2.1, rd101.2.2.2.2.2)) 59 r123 rd123 e_123) (cwV 1 hts gX3_readHead_X3_takeSign rfl rfl rfl hd_X3_takeSign ⟨Nat.le_of_ble_eq_true rfl, Nat.le_of_ble_eq_true rfl⟩) hK hN hZ hP hD hS hA (va_recv hK hP (ci := 3) (q0 := 0) rfl rfl) [0, 1, 2, 3, 4, 5, 6, 7, 8, 9, 10, 11, 12, 13] rfl (by decide) rfl rfl hl.1 rfl (Nat.le_of_ble_eq_true rfl) dX3_readHead_123 ⟨Nat.zero_le _, Nat.zero_le _⟩ (fun H locs hP hD hS => ?_)
          have hP : va_P G vwCl (wR c ard rd123) H := hP
          have hD : va_D A (wR c ard rd123) := hD
          obtain ⟨h_126, hm⟩ := gd_s hm
          exact hend H locs ls _ _ _ (isb_n h_126) (Prod.mk.inj (Option.some.inj hm)).1 (zc1 (fun (z0 : RS) => (wR c ard z0 : va_W)) (Prod.mk.inj (Option.some.inj hm)).2) hP hD hS dX3_readHead_126
        · have hm := ifp c_104 hm
          refine lv_iconst (v := 0) hx hb dX3_readHead_107 (by decide) ?_
          exact hend H locs ls _ _ _ (by decide) (Prod.mk.inj (Option.some.inj hm)).1 (zc1 (fun (z0 : RS) => (wR c ard z0 : va_W)) (Prod.mk.inj (Option.some.inj hm)).2) hP hD hS dX3_readHead_108
      · have hm := ifp c_81 hm
        refine lv_iconst (v := 0) hx hb dX3_readHead_84 (by decide) ?_
        exact hend H locs ls _ _ _ (by decide) (Prod.mk.inj (Option.some.inj hm)).1 (zc1 (fun (z0 : RS) => (wR c ard z0 : va_W)) (Prod.mk.inj (Option.some.inj hm)).2) hP hD hS dX3_readHead_85
    · have hm := ifp c_40 hm
      refine lv_iconst (v := 0) hx hb dX3_readHead_43 (by decide) ?_
      exact hend H locs ls _ _ _ (by decide) (Prod.mk.inj (Option.some.inj hm)).1 (zc1 (fun (z0 : RS) => (wR c ard z0 : va_W)) (Prod.mk.inj (Option.some.inj hm)).2) hP hD hS dX3_readHead_44
  · have hm := ifp c_9 hm
    refine lv_aload_n hx hb dX3_readHead_12 rfl (lv_at hl 0 rfl) ?_
    refine lv_bipush (v := (-2)) hx hb dX3_readHead_13 (by decide) ?_
    refine lv_aload_n hx hb dX3_readHead_15 rfl (lv_at hl 0 rfl) ?_
    refine va_get (D := G) (ci := 3) (v := .ref (ard 2)) (C := RX3) (T := TX3) (N := 11) hx hb hts hi_3 hown hK hP 0 rfl rfl 0 (by decide) (hts (.fieldLink RX3 12 "HubTrains$SetupReader" "tokens" "LHubTrains$Tokens;") (List.mem_of_getElem? (i := 1) rfl)) (fun _ h9 => h9) rfl dX3_readHead_16 ?_
    refine va_getN (D := G) (ci := 5) (v := .int (rd.2.1.1 3)) (C := RX5) (T := TX5) (N := 7) hx hb hts hi_5 hown hK hP 2 rfl rfl 4 (by decide) (va_Nw.use rfl (nwf_HubTrains_SetupReader_91 hN.1)) (fun _ h9 => h9) rfl dX3_readHead_19 ?_
    obtain ⟨r22, rd22, e_22, hm⟩ := bd2_s hm
    refine zcVi (As := [.int (-2), .int (rd.2.1.1 3)]) (rest := []) ⟨hx, hb, hml, hown, hts⟩ (k_X3_fail l G K c ard rd (-2) (rd.2.1.1 3) r22 rd22 e_22) (cwV 2 hts gX3_readHead_X3_fail rfl rfl rfl hd_X3_fail ⟨Nat.le_of_ble_eq_true rfl, Nat.le_of_ble_eq_true rfl⟩) hK hN hZ hP hD hS hA (va_recv hK hP (ci := 3) (q0 := 0) rfl rfl) [0, 1, 2, 3, 4, 5, 6, 7, 8, 9, 10, 11, 12, 13] rfl (by decide) rfl rfl hl.1 rfl (Nat.le_of_ble_eq_true rfl) dX3_readHead_22 ⟨Nat.zero_le _, Nat.zero_le _⟩ (fun H locs hP hD hS => ?_)
    have hP : va_P G vwCl (wR c ard rd22) H := hP
    have hD : va_D A (wR c ard rd22) := hD
    obtain ⟨h_25, hm⟩ := gd_s hm
    exact hend H locs ls _ _ _ (isb_n h_25) (Prod.mk.inj (Option.some.inj hm)).1 (zc1 (fun (z0 : RS) => (wR c ard z0 : va_W)) (Prod.mk.inj (Option.some.inj hm)).2) hP hD hS dX3_readHead_25
