
def f_X1_takeOver (g : GS) (go : GS) : Option GS :=
  gd (isb (go.1.1 6)) <| gd (isb (go.1.1 8)) <| bd1 (f_X7_copy 100 100 (go.1.2 0) (g.1.2 0)) fun (h1104 : Nat → Int32) => bd1 (f_X7_copy 4 4 (go.1.2 1) (g.1.2 1)) fun (h1115 : Nat → Int32) => bd1 (f_X4_takeOver g.2.2.1 go.2.2.1) fun (k126 : SA) => bd1 (f_X6_takeOver g.2.2.2 go.2.2.2) fun (t137 : SA) => some (((sa (sa (ss (ss (ss (ss (ss (ss (ss (ss (ss (ss (ss g.1 0 (go.1.1 0)) 1 (go.1.1 1)) 2 (go.1.1 2)) 3 (go.1.1 3)) 4 (go.1.1 4)) 5 (go.1.1 5)) 6 (go.1.1 6)) 7 (go.1.1 7)) 8 (go.1.1 8)) 9 (go.1.1 9)) 10 (go.1.1 10)) 0 h1104) 1 h1115), (go.2.1), k126, t137))

abbrev rm_X1_takeOver : Room := { frames := 3, cells := 0, slots := 0, locals := 82 }
theorem hd_X1_takeOver : yX1_takeOver.cls = RX1 ∧ yX1_takeOver.cls ≠ "java/lang/invoke/MethodHandle" ∧ yX1_takeOver.cls ≠ "java/lang/invoke/VarHandle" ∧ (parseMethodDescriptor yX1_takeOver.desc).map (fun d => d.parameters.length) = some 1 := by decide +kernel
set_option maxHeartbeats 4000000 in
set_option maxRecDepth 100000 in
theorem k_X1_takeOver (l : Launch) (G : va_G) (K : (Nat → Nat) × (Nat → Nat)) (c : Nat → ClassId) (ag : Nat → Nat) (ago : Nat → Nat) (g : GS) (go : GS) (g_r : GS) (hm : f_X1_takeOver g go = some (g_r)) : zMv l yX1_takeOver wsX1_takeOver (rm_X1_takeOver) G K (TY c) [.ref (ag 0), .ref (ago 0)] ((wG c ag g) ++ (wG c ago go)) ((wG c ag g_r) ++ (wG c ago go)) := by
  refine zMv.of (cc := cX1_takeOver) (maxL := 2) (lv := [(0, .ref (ag 0)), (1, .ref (ago 0))]) (by decide) rfl (Nat.le_of_ble_eq_true rfl) rfl ?_
  intro p e s m args below meth c1 A Q H locs hx hb hml hown hts hK hN hZ hP hD hA hS hend ls hl
  have hown : s.vm.findClass RX1 = some m.cls := hown
  have hi_1 : ∀ w ∈ wsX10, w ∈ wsX1_takeOver := (fun w h => List.mem_cons_of_mem _ (List.mem_append_left _ (List.mem_append_left _ (List.mem_append_right _ (h)))))
  unfold f_X1_takeOver at hm
  refine lv_aload_n hx hb dX1_takeOver_0 rfl (lv_at hl 0 rfl) ?_
  refine lv_aload_n hx hb dX1_takeOver_1 rfl (lv_at hl 1 rfl) ?_
  refine va_get (D := G) (ci := 1) (v := .int (go.1.1 0)) (C := RX1) (T := TX1) (N := 16) hx hb hts hi_1 hown hK hP 10 rfl rfl 0 (by decide) (hts (.fieldLink RX1 9 "HubTrains$Game" "greatest" "I") (List.mem_of_getElem? (i := 1) rfl)) (fun _ h9 => h9) rfl dX1_takeOver_2 ?_
  refine va_put (D := G) (ci := 1) (v := .int (go.1.1 0)) (C := RX1) (T := TX1) (N := 16) hx hb hts hi_1 tyX1 tyX1_ok nmX1 hown hK hP hD hS 0 rfl rfl 0 (by decide) (hts (.fieldLink RX1 9 "HubTrains$Game" "greatest" "I") (List.mem_of_getElem? (i := 1) rfl)) (fun _ h9 => h9) rfl (tyX1_ok 0 (by decide)) rfl rfl (Nat.le_of_ble_eq_true rfl) dX1_takeOver_5 (fun H locs hP hD hS => ?_)
  have hP : va_P G vwCl ((wG c ag ((ss g.1 0 (go.1.1 0)), (g.2.1), g.2.2.1, g.2.2.2)) ++ (wG c ago go)) H := hP
  have hD : va_D A ((wG c ag ((ss g.1 0 (go.1.1 0)), (g.2.1), g.2.2.1, g.2.2.2)) ++ (wG c ago go)) := hD
  refine lv_aload_n hx hb dX1_takeOver_8 rfl (lv_at hl 0 rfl) ?_
  refine lv_aload_n hx hb dX1_takeOver_9 rfl (lv_at hl 1 rfl) ?_
  refine va_get (D := G) (ci := 1) (v := .int (go.1.1 1)) (C := RX1) (T := TX1) (N := 16) hx hb hts hi_1 hown hK hP 10 rfl rfl 1 (by decide) (hts (.fieldLink RX1 15 "HubTrains$Game" "players" "I") (List.mem_of_getElem? (i := 2) rfl)) (fun _ h9 => h9) rfl dX1_takeOver_10 ?_
  refine va_put (D := G) (ci := 1) (v := .int (go.1.1 1)) (C := RX1) (T := TX1) (N := 16) hx hb hts hi_1 tyX1 tyX1_ok nmX1 hown hK hP hD hS 0 rfl rfl 1 (by decide) (hts (.fieldLink RX1 15 "HubTrains$Game" "players" "I") (List.mem_of_getElem? (i := 2) rfl)) (fun _ h9 => h9) rfl (tyX1_ok 1 (by decide)) rfl rfl (Nat.le_of_ble_eq_true rfl) dX1_takeOver_13 (fun H locs hP hD hS => ?_)
  have hP : va_P G vwCl ((wG c ag ((ss (ss g.1 0 (go.1.1 0)) 1 (go.1.1 1)), (g.2.1), g.2.2.1, g.2.2.2)) ++ (wG c ago go)) H := hP
  have hD : va_D A ((wG c ag ((ss (ss g.1 0 (go.1.1 0)) 1 (go.1.1 1)), (g.2.1), g.2.2.1, g.2.2.2)) ++ (wG c ago go)) := hD
  refine lv_aload_n hx hb dX1_takeOver_16 rfl (lv_at hl 0 rfl) ?_
  refine lv_aload_n hx hb dX1_takeOver_17 rfl (lv_at hl 1 rfl) ?_
  refine va_get (D := G) (ci := 1) (v := .int (go.1.1 2)) (C := RX1) (T := TX1) (N := 16) hx hb hts hi_1 hown hK hP 10 rfl rfl 2 (by decide) (hts (.fieldLink RX1 18 "HubTrains$Game" "handSize" "I") (List.mem_of_getElem? (i := 3) rfl)) (fun _ h9 => h9) rfl dX1_takeOver_18 ?_
  refine va_put (D := G) (ci := 1) (v := .int (go.1.1 2)) (C := RX1) (T := TX1) (N := 16) hx hb hts hi_1 tyX1 tyX1_ok nmX1 hown hK hP hD hS 0 rfl rfl 2 (by decide) (hts (.fieldLink RX1 18 "HubTrains$Game" "handSize" "I") (List.mem_of_getElem? (i := 3) rfl)) (fun _ h9 => h9) rfl (tyX1_ok 2 (by decide)) rfl rfl (Nat.le_of_ble_eq_true rfl) dX1_takeOver_21 (fun H locs hP hD hS => ?_)
  have hP : va_P G vwCl ((wG c ag ((ss (ss (ss g.1 0 (go.1.1 0)) 1 (go.1.1 1)) 2 (go.1.1 2)), (g.2.1), g.2.2.1, g.2.2.2)) ++ (wG c ago go)) H := hP
  have hD : va_D A ((wG c ag ((ss (ss (ss g.1 0 (go.1.1 0)) 1 (go.1.1 1)) 2 (go.1.1 2)), (g.2.1), g.2.2.1, g.2.2.2)) ++ (wG c ago go)) := hD
  refine lv_aload_n hx hb dX1_takeOver_24 rfl (lv_at hl 0 rfl) ?_
  refine lv_aload_n hx hb dX1_takeOver_25 rfl (lv_at hl 1 rfl) ?_
  refine va_get (D := G) (ci := 1) (v := .int (go.1.1 3)) (C := RX1) (T := TX1) (N := 16) hx hb hts hi_1 hown hK hP 10 rfl rfl 3 (by decide) (hts (.fieldLink RX1 21 "HubTrains$Game" "hub" "I") (List.mem_of_getElem? (i := 4) rfl)) (fun _ h9 => h9) rfl dX1_takeOver_26 ?_
  refine va_put (D := G) (ci := 1) (v := .int (go.1.1 3)) (C := RX1) (T := TX1) (N := 16) hx hb hts hi_1 tyX1 tyX1_ok nmX1 hown hK hP hD hS 0 rfl rfl 3 (by decide) (hts (.fieldLink RX1 21 "HubTrains$Game" "hub" "I") (List.mem_of_getElem? (i := 4) rfl)) (fun _ h9 => h9) rfl (tyX1_ok 3 (by decide)) rfl rfl (Nat.le_of_ble_eq_true rfl) dX1_takeOver_29 (fun H locs hP hD hS => ?_)
  have hP : va_P G vwCl ((wG c ag ((ss (ss (ss (ss g.1 0 (go.1.1 0)) 1 (go.1.1 1)) 2 (go.1.1 2)) 3 (go.1.1 3)), (g.2.1), g.2.2.1, g.2.2.2)) ++ (wG c ago go)) H := hP
  have hD : va_D A ((wG c ag ((ss (ss (ss (ss g.1 0 (go.1.1 0)) 1 (go.1.1 1)) 2 (go.1.1 2)) 3 (go.1.1 3)), (g.2.1), g.2.2.1, g.2.2.2)) ++ (wG c ago go)) := hD
  refine lv_aload_n hx hb dX1_takeOver_32 rfl (lv_at hl 0 rfl) ?_
  refine lv_aload_n hx hb dX1_takeOver_33 rfl (lv_at hl 1 rfl) ?_
  refine va_get (D := G) (ci := 1) (v := .int (go.1.1 4)) (C := RX1) (T := TX1) (N := 16) hx hb hts hi_1 hown hK hP 10 rfl rfl 4 (by decide) (hts (.fieldLink RX1 24 "HubTrains$Game" "seed" "I") (List.mem_of_getElem? (i := 5) rfl)) (fun _ h9 => h9) rfl dX1_takeOver_34 ?_
  refine va_put (D := G) (ci := 1) (v := .int (go.1.1 4)) (C := RX1) (T := TX1) (N := 16) hx hb hts hi_1 tyX1 tyX1_ok nmX1 hown hK hP hD hS 0 rfl rfl 4 (by decide) (hts (.fieldLink RX1 24 "HubTrains$Game" "seed" "I") (List.mem_of_getElem? (i := 5) rfl)) (fun _ h9 => h9) rfl (tyX1_ok 4 (by decide)) rfl rfl (Nat.le_of_ble_eq_true rfl) dX1_takeOver_37 (fun H locs hP hD hS => ?_)
  have hP : va_P G vwCl ((wG c ag ((ss (ss (ss (ss (ss g.1 0 (go.1.1 0)) 1 (go.1.1 1)) 2 (go.1.1 2)) 3 (go.1.1 3)) 4 (go.1.1 4)), (g.2.1), g.2.2.1, g.2.2.2)) ++ (wG c ago go)) H := hP
  have hD : va_D A ((wG c ag ((ss (ss (ss (ss (ss g.1 0 (go.1.1 0)) 1 (go.1.1 1)) 2 (go.1.1 2)) 3 (go.1.1 3)) 4 (go.1.1 4)), (g.2.1), g.2.2.1, g.2.2.2)) ++ (wG c ago go)) := hD
  refine lv_aload_n hx hb dX1_takeOver_40 rfl (lv_at hl 0 rfl) ?_
  refine lv_aload_n hx hb dX1_takeOver_41 rfl (lv_at hl 1 rfl) ?_
  refine va_get (D := G) (ci := 1) (v := .int (go.1.1 5)) (C := RX1) (T := TX1) (N := 16) hx hb hts hi_1 hown hK hP 10 rfl rfl 5 (by decide) (hts (.fieldLink RX1 57 "HubTrains$Game" "turn" "I") (List.mem_of_getElem? (i := 6) rfl)) (fun _ h9 => h9) rfl dX1_takeOver_42 ?_
  refine va_put (D := G) (ci := 1) (v := .int (go.1.1 5)) (C := RX1) (T := TX1) (N := 16) hx hb hts hi_1 tyX1 tyX1_ok nmX1 hown hK hP hD hS 0 rfl rfl 5 (by decide) (hts (.fieldLink RX1 57 "HubTrains$Game" "turn" "I") (List.mem_of_getElem? (i := 6) rfl)) (fun _ h9 => h9) rfl (tyX1_ok 5 (by decide)) rfl rfl (Nat.le_of_ble_eq_true rfl) dX1_takeOver_45 (fun H locs hP hD hS => ?_)
  have hP : va_P G vwCl ((wG c ag ((ss (ss (ss (ss (ss (ss g.1 0 (go.1.1 0)) 1 (go.1.1 1)) 2 (go.1.1 2)) 3 (go.1.1 3)) 4 (go.1.1 4)) 5 (go.1.1 5)), (g.2.1), g.2.2.1, g.2.2.2)) ++ (wG c ago go)) H := hP
  have hD : va_D A ((wG c ag ((ss (ss (ss (ss (ss (ss g.1 0 (go.1.1 0)) 1 (go.1.1 1)) 2 (go.1.1 2)) 3 (go.1.1 3)) 4 (go.1.1 4)) 5 (go.1.1 5)), (g.2.1), g.2.2.1, g.2.2.2)) ++ (wG c ago go)) := hD
  refine lv_aload_n hx hb dX1_takeOver_48 rfl (lv_at hl 0 rfl) ?_
  refine lv_aload_n hx hb dX1_takeOver_49 rfl (lv_at hl 1 rfl) ?_
  refine va_get (D := G) (ci := 1) (v := .int (go.1.1 6)) (C := RX1) (T := TX1) (N := 16) hx hb hts hi_1 hown hK hP 10 rfl rfl 6 (by decide) (hts (.fieldLink RX1 60 "HubTrains$Game" "drew" "Z") (List.mem_of_getElem? (i := 7) rfl)) (fun _ h9 => h9) rfl dX1_takeOver_50 ?_
  obtain ⟨h_53, hm⟩ := gd_s hm
  refine va_put (D := G) (ci := 1) (v := .int (go.1.1 6)) (C := RX1) (T := TX1) (N := 16) hx hb hts hi_1 tyX1 tyX1_ok nmX1 hown hK hP hD hS 0 rfl rfl 6 (by decide) (hts (.fieldLink RX1 60 "HubTrains$Game" "drew" "Z") (List.mem_of_getElem? (i := 7) rfl)) (fun _ h9 => h9) rfl (tyX1_ok 6 (by decide)) (isb_n h_53) (isb_f h_53) (Nat.le_of_ble_eq_true rfl) dX1_takeOver_53 (fun H locs hP hD hS => ?_)
  have hP : va_P G vwCl ((wG c ag ((ss (ss (ss (ss (ss (ss (ss g.1 0 (go.1.1 0)) 1 (go.1.1 1)) 2 (go.1.1 2)) 3 (go.1.1 3)) 4 (go.1.1 4)) 5 (go.1.1 5)) 6 (go.1.1 6)), (g.2.1), g.2.2.1, g.2.2.2)) ++ (wG c ago go)) H := hP
  have hD : va_D A ((wG c ag ((ss (ss (ss (ss (ss (ss (ss g.1 0 (go.1.1 0)) 1 (go.1.1 1)) 2 (go.1.1 2)) 3 (go.1.1 3)) 4 (go.1.1 4)) 5 (go.1.1 5)) 6 (go.1.1 6)), (g.2.1), g.2.2.1, g.2.2.2)) ++ (wG c ago go)) := hD
  refine lv_aload_n hx hb dX1_takeOver_56 rfl (lv_at hl 0 rfl) ?_
  refine lv_aload_n hx hb dX1_takeOver_57 rfl (lv_at hl 1 rfl) ?_
  refine va_get (D := G) (ci := 1) (v := .int (go.1.1 7)) (C := RX1) (T := TX1) (N := 16) hx hb hts hi_1 hown hK hP 10 rfl rfl 7 (by decide) (hts (.fieldLink RX1 27 "HubTrains$Game" "uncovered" "I") (List.mem_of_getElem? (i := 8) rfl)) (fun _ h9 => h9) rfl dX1_takeOver_58 ?_
  refine va_put (D := G) (ci := 1) (v := .int (go.1.1 7)) (C := RX1) (T := TX1) (N := 16) hx hb hts hi_1 tyX1 tyX1_ok nmX1 hown hK hP hD hS 0 rfl rfl 7 (by decide) (hts (.fieldLink RX1 27 "HubTrains$Game" "uncovered" "I") (List.mem_of_getElem? (i := 8) rfl)) (fun _ h9 => h9) rfl (tyX1_ok 7 (by decide)) rfl rfl (Nat.le_of_ble_eq_true rfl) dX1_takeOver_61 (fun H locs hP hD hS => ?_)
  have hP : va_P G vwCl ((wG c ag ((ss (ss (ss (ss (ss (ss (ss (ss g.1 0 (go.1.1 0)) 1 (go.1.1 1)) 2 (go.1.1 2)) 3 (go.1.1 3)) 4 (go.1.1 4)) 5 (go.1.1 5)) 6 (go.1.1 6)) 7 (go.1.1 7)), (g.2.1), g.2.2.1, g.2.2.2)) ++ (wG c ago go)) H := hP
  have hD : va_D A ((wG c ag ((ss (ss (ss (ss (ss (ss (ss (ss g.1 0 (go.1.1 0)) 1 (go.1.1 1)) 2 (go.1.1 2)) 3 (go.1.1 3)) 4 (go.1.1 4)) 5 (go.1.1 5)) 6 (go.1.1 6)) 7 (go.1.1 7)), (g.2.1), g.2.2.1, g.2.2.2)) ++ (wG c ago go)) := hD
  refine lv_aload_n hx hb dX1_takeOver_64 rfl (lv_at hl 0 rfl) ?_
  refine lv_aload_n hx hb dX1_takeOver_65 rfl (lv_at hl 1 rfl) ?_
  refine va_get (D := G) (ci := 1) (v := .int (go.1.1 8)) (C := RX1) (T := TX1) (N := 16) hx hb hts hi_1 hown hK hP 10 rfl rfl 8 (by decide) (hts (.fieldLink RX1 64 "HubTrains$Game" "over" "Z") (List.mem_of_getElem? (i := 9) rfl)) (fun _ h9 => h9) rfl dX1_takeOver_66 ?_
  obtain ⟨h_69, hm⟩ := gd_s hm
  refine va_put (D := G) (ci := 1) (v := .int (go.1.1 8)) (C := RX1) (T := TX1) (N := 16) hx hb hts hi_1 tyX1 tyX1_ok nmX1 hown hK hP hD hS 0 rfl rfl 8 (by decide) (hts (.fieldLink RX1 64 "HubTrains$Game" "over" "Z") (List.mem_of_getElem? (i := 9) rfl)) (fun _ h9 => h9) rfl (tyX1_ok 8 (by decide)) (isb_n h_69) (isb_f h_69) (Nat.le_of_ble_eq_true rfl) dX1_takeOver_69 (fun H locs hP hD hS => ?_)
  have hP : va_P G vwCl ((wG c ag ((ss (ss (ss (ss (ss (ss (ss (ss (ss g.1 0 (go.1.1 0)) 1 (go.1.1 1)) 2 (go.1.1 2)) 3 (go.1.1 3)) 4 (go.1.1 4)) 5 (go.1.1 5)) 6 (go.1.1 6)) 7 (go.1.1 7)) 8 (go.1.1 8)), (g.2.1), g.2.2.1, g.2.2.2)) ++ (wG c ago go)) H := hP
  have hD : va_D A ((wG c ag ((ss (ss (ss (ss (ss (ss (ss (ss (ss g.1 0 (go.1.1 0)) 1 (go.1.1 1)) 2 (go.1.1 2)) 3 (go.1.1 3)) 4 (go.1.1 4)) 5 (go.1.1 5)) 6 (go.1.1 6)) 7 (go.1.1 7)) 8 (go.1.1 8)), (g.2.1), g.2.2.1, g.2.2.2)) ++ (wG c ago go)) := hD
  refine lv_aload_n hx hb dX1_takeOver_72 rfl (lv_at hl 0 rfl) ?_
  refine lv_aload_n hx hb dX1_takeOver_73 rfl (lv_at hl 1 rfl) ?_
  refine va_get (D := G) (ci := 1) (v := .int (go.1.1 9)) (C := RX1) (T := TX1) (N := 16) hx hb hts hi_1 hown hK hP 10 rfl rfl 9 (by decide) (hts (.fieldLink RX1 67 "HubTrains$Game" "rounds" "I") (List.mem_of_getElem? (i := 10) rfl)) (fun _ h9 => h9) rfl dX1_takeOver_74 ?_
  refine va_put (D := G) (ci := 1) (v := .int (go.1.1 9)) (C := RX1) (T := TX1) (N := 16) hx hb hts hi_1 tyX1 tyX1_ok nmX1 hown hK hP hD hS 0 rfl rfl 9 (by decide) (hts (.fieldLink RX1 67 "HubTrains$Game" "rounds" "I") (List.mem_of_getElem? (i := 10) rfl)) (fun _ h9 => h9) rfl (tyX1_ok 9 (by decide)) rfl rfl (Nat.le_of_ble_eq_true rfl) dX1_takeOver_77 (fun H locs hP hD hS => ?_)
  have hP : va_P G vwCl ((wG c ag ((ss (ss (ss (ss (ss (ss (ss (ss (ss (ss g.1 0 (go.1.1 0)) 1 (go.1.1 1)) 2 (go.1.1 2)) 3 (go.1.1 3)) 4 (go.1.1 4)) 5 (go.1.1 5)) 6 (go.1.1 6)) 7 (go.1.1 7)) 8 (go.1.1 8)) 9 (go.1.1 9)), (g.2.1), g.2.2.1, g.2.2.2)) ++ (wG c ago go)) H := hP
  have hD : va_D A ((wG c ag ((ss (ss (ss (ss (ss (ss (ss (ss (ss (ss g.1 0 (go.1.1 0)) 1 (go.1.1 1)) 2 (go.1.1 2)) 3 (go.1.1 3)) 4 (go.1.1 4)) 5 (go.1.1 5)) 6 (go.1.1 6)) 7 (go.1.1 7)) 8 (go.1.1 8)) 9 (go.1.1 9)), (g.2.1), g.2.2.1, g.2.2.2)) ++ (wG c ago go)) := hD
  refine lv_aload_n hx hb dX1_takeOver_80 rfl (lv_at hl 0 rfl) ?_
  refine lv_aload_n hx hb dX1_takeOver_81 rfl (lv_at hl 1 rfl) ?_
  refine va_get (D := G) (ci := 1) (v := .int (go.1.1 10)) (C := RX1) (T := TX1) (N := 16) hx hb hts hi_1 hown hK hP 10 rfl rfl 10 (by decide) (hts (.fieldLink RX1 70 "HubTrains$Game" "passes" "I") (List.mem_of_getElem? (i := 11) rfl)) (fun _ h9 => h9) rfl dX1_takeOver_82 ?_
  refine va_put (D := G) (ci := 1) (v := .int (go.1.1 10)) (C := RX1) (T := TX1) (N := 16) hx hb hts hi_1 tyX1 tyX1_ok nmX1 hown hK hP hD hS 0 rfl rfl 10 (by decide) (hts (.fieldLink RX1 70 "HubTrains$Game" "passes" "I") (List.mem_of_getElem? (i := 11) rfl)) (fun _ h9 => h9) rfl (tyX1_ok 10 (by decide)) rfl rfl (Nat.le_of_ble_eq_true rfl) dX1_takeOver_85 (fun H locs hP hD hS => ?_)
  have hP : va_P G vwCl ((wG c ag ((ss (ss (ss (ss (ss (ss (ss (ss (ss (ss (ss g.1 0 (go.1.1 0)) 1 (go.1.1 1)) 2 (go.1.1 2)) 3 (go.1.1 3)) 4 (go.1.1 4)) 5 (go.1.1 5)) 6 (go.1.1 6)) 7 (go.1.1 7)) 8 (go.1.1 8)) 9 (go.1.1 9)) 10 (go.1.1 10)), (g.2.1), g.2.2.1, g.2.2.2)) ++ (wG c ago go)) H := hP
  have hD : va_D A ((wG c ag ((ss (ss (ss (ss (ss (ss (ss (ss (ss (ss (ss g.1 0 (go.1.1 0)) 1 (go.1.1 1)) 2 (go.1.1 2)) 3 (go.1.1 3)) 4 (go.1.1 4)) 5 (go.1.1 5)) 6 (go.1.1 6)) 7 (go.1.1 7)) 8 (go.1.1 8)) 9 (go.1.1 9)) 10 (go.1.1 10)), (g.2.1), g.2.2.1, g.2.2.2)) ++ (wG c ago go)) := hD
  refine lv_aload_n hx hb dX1_takeOver_88 rfl (lv_at hl 0 rfl) ?_
  refine lv_aload_n hx hb dX1_takeOver_89 rfl (lv_at hl 1 rfl) ?_
  refine va_get (D := G) (ci := 1) (v := va_rf (go.2.1)) (C := RX1) (T := TX1) (N := 16) hx hb hts hi_1 hown hK hP 10 rfl rfl 11 (by decide) (hts (.fieldLink RX1 73 "HubTrains$Game" "formula" "LHubTrains$Formula;") (List.mem_of_getElem? (i := 12) rfl)) (fun _ h9 => h9) rfl dX1_takeOver_90 ?_
  refine va_put (D := G) (ci := 1) (v := va_rf (go.2.1)) (C := RX1) (T := TX1) (N := 16) hx hb hts hi_1 tyX1 tyX1_ok nmX1 hown hK hP hD hS 0 rfl rfl 11 (by decide) (hts (.fieldLink RX1 73 "HubTrains$Game" "formula" "LHubTrains$Formula;") (List.mem_of_getElem? (i := 12) rfl)) (fun _ h9 => h9) rfl (tyX1_ok 11 (by decide)) (zrf_n _) (zrf_f _) (Nat.le_of_ble_eq_true rfl) dX1_takeOver_93 (fun H locs hP hD hS => ?_)
  have hP : va_P G vwCl ((wG c ag ((ss (ss (ss (ss (ss (ss (ss (ss (ss (ss (ss g.1 0 (go.1.1 0)) 1 (go.1.1 1)) 2 (go.1.1 2)) 3 (go.1.1 3)) 4 (go.1.1 4)) 5 (go.1.1 5)) 6 (go.1.1 6)) 7 (go.1.1 7)) 8 (go.1.1 8)) 9 (go.1.1 9)) 10 (go.1.1 10)), (go.2.1), g.2.2.1, g.2.2.2)) ++ (wG c ago go)) H := hP
  have hD : va_D A ((wG c ag ((ss (ss (ss (ss (ss (ss (ss (ss (ss (ss (ss g.1 0 (go.1.1 0)) 1 (go.1.1 1)) 2 (go.1.1 2)) 3 (go.1.1 3)) 4 (go.1.1 4)) 5 (go.1.1 5)) 6 (go.1.1 6)) 7 (go.1.1 7)) 8 (go.1.1 8)) 9 (go.1.1 9)) 10 (go.1.1 10)), (go.2.1), g.2.2.1, g.2.2.2)) ++ (wG c ago go)) := hD
  refine lv_aload_n hx hb dX1_takeOver_96 rfl (lv_at hl 1 rfl) ?_
  refine va_get (D := G) (ci := 1) (v := .ref (ago 1)) (C := RX1) (T := TX1) (N := 16) hx hb hts hi_1 hown hK hP 10 rfl rfl 12 (by decide) (hts (.fieldLink RX1 30 "HubTrains$Game" "holders" "[I") (List.mem_of_getElem? (i := 13) rfl)) (fun _ h9 => h9) rfl dX1_takeOver_97 ?_
  refine lv_aload_n hx hb dX1_takeOver_100 rfl (lv_at hl 0 rfl) ?_
  refine va_get (D := G) (ci := 1) (v := .ref (ag 1)) (C := RX1) (T := TX1) (N := 16) hx hb hts hi_1 hown hK hP 0 rfl rfl 12 (by decide) (hts (.fieldLink RX1 30 "HubTrains$Game" "holders" "[I") (List.mem_of_getElem? (i := 13) rfl)) (fun _ h9 => h9) rfl dX1_takeOver_101 ?_
  obtain ⟨h1104, e_104, hm⟩ := bd1_s hm
  refine zcSNv (As := [.ref (ago 1), .ref (ag 1)]) (rest := []) ⟨hx, hb, hml, hown, hts⟩ (k_X7_copy l G K c (ago 1) (ag 1) 100 100 (go.1.2 0) (g.1.2 0) h1104 e_104) ⟨va_cnB 2 hts gX1_takeOver_X7_copy_n77 rfl rfl rfl (nwm_HubTrains_Game_77 hN.2.1) (hts (.initialized RX7) (List.mem_of_getElem? (i := 18) rfl)) hd_X7_copy.2 ⟨Nat.le_of_ble_eq_true rfl, Nat.le_of_ble_eq_true rfl⟩, (hts (.static yX7_copy) (List.mem_of_getElem? (i := 17) rfl)), trivial⟩ hK hN hZ hP hD hS hA [11, 1] rfl (by decide) rfl rfl hl.1 rfl (Nat.le_of_ble_eq_true rfl) dX1_takeOver_104 ⟨Nat.zero_le _, Nat.zero_le _⟩ (fun H locs hP hD hS => ?_)
  have hP : va_P G vwCl ((wG c ag ((sa (ss (ss (ss (ss (ss (ss (ss (ss (ss (ss (ss g.1 0 (go.1.1 0)) 1 (go.1.1 1)) 2 (go.1.1 2)) 3 (go.1.1 3)) 4 (go.1.1 4)) 5 (go.1.1 5)) 6 (go.1.1 6)) 7 (go.1.1 7)) 8 (go.1.1 8)) 9 (go.1.1 9)) 10 (go.1.1 10)) 0 h1104), (go.2.1), g.2.2.1, g.2.2.2)) ++ (wG c ago go)) H := hP
  have hD : va_D A ((wG c ag ((sa (ss (ss (ss (ss (ss (ss (ss (ss (ss (ss (ss g.1 0 (go.1.1 0)) 1 (go.1.1 1)) 2 (go.1.1 2)) 3 (go.1.1 3)) 4 (go.1.1 4)) 5 (go.1.1 5)) 6 (go.1.1 6)) 7 (go.1.1 7)) 8 (go.1.1 8)) 9 (go.1.1 9)) 10 (go.1.1 10)) 0 h1104), (go.2.1), g.2.2.1, g.2.2.2)) ++ (wG c ago go)) := hD
  refine lv_aload_n hx hb dX1_takeOver_107 rfl (lv_at hl 1 rfl) ?_
  refine va_get (D := G) (ci := 1) (v := .ref (ago 2)) (C := RX1) (T := TX1) (N := 16) hx hb hts hi_1 hown hK hP 10 rfl rfl 13 (by decide) (hts (.fieldLink RX1 34 "HubTrains$Game" "totals" "[I") (List.mem_of_getElem? (i := 14) rfl)) (fun _ h9 => h9) rfl dX1_takeOver_108 ?_
  refine lv_aload_n hx hb dX1_takeOver_111 rfl (lv_at hl 0 rfl) ?_
  refine va_get (D := G) (ci := 1) (v := .ref (ag 2)) (C := RX1) (T := TX1) (N := 16) hx hb hts hi_1 hown hK hP 0 rfl rfl 13 (by decide) (hts (.fieldLink RX1 34 "HubTrains$Game" "totals" "[I") (List.mem_of_getElem? (i := 14) rfl)) (fun _ h9 => h9) rfl dX1_takeOver_112 ?_
  obtain ⟨h1115, e_115, hm⟩ := bd1_s hm
  refine zcSNv (As := [.ref (ago 2), .ref (ag 2)]) (rest := []) ⟨hx, hb, hml, hown, hts⟩ (k_X7_copy l G K c (ago 2) (ag 2) 4 4 (go.1.2 1) (g.1.2 1) h1115 e_115) ⟨va_cnB 2 hts gX1_takeOver_X7_copy_n77 rfl rfl rfl (nwm_HubTrains_Game_77 hN.2.1) (hts (.initialized RX7) (List.mem_of_getElem? (i := 18) rfl)) hd_X7_copy.2 ⟨Nat.le_of_ble_eq_true rfl, Nat.le_of_ble_eq_true rfl⟩, (hts (.static yX7_copy) (List.mem_of_getElem? (i := 17) rfl)), trivial⟩ hK hN hZ hP hD hS hA [12, 2] rfl (by decide) rfl rfl hl.1 rfl (Nat.le_of_ble_eq_true rfl) dX1_takeOver_115 ⟨Nat.zero_le _, Nat.zero_le _⟩ (fun H locs hP hD hS => ?_)
  have hP : va_P G vwCl ((wG c ag ((sa (sa (ss (ss (ss (ss (ss (ss (ss (ss (ss (ss (ss g.1 0 (go.1.1 0)) 1 (go.1.1 1)) 2 (go.1.1 2)) 3 (go.1.1 3)) 4 (go.1.1 4)) 5 (go.1.1 5)) 6 (go.1.1 6)) 7 (go.1.1 7)) 8 (go.1.1 8)) 9 (go.1.1 9)) 10 (go.1.1 10)) 0 h1104) 1 h1115), (go.2.1), g.2.2.1, g.2.2.2)) ++ (wG c ago go)) H := hP
  have hD : va_D A ((wG c ag ((sa (sa (ss (ss (ss (ss (ss (ss (ss (ss (ss (ss (ss g.1 0 (go.1.1 0)) 1 (go.1.1 1)) 2 (go.1.1 2)) 3 (go.1.1 3)) 4 (go.1.1 4)) 5 (go.1.1 5)) 6 (go.1.1 6)) 7 (go.1.1 7)) 8 (go.1.1 8)) 9 (go.1.1 9)) 10 (go.1.1 10)) 0 h1104) 1 h1115), (go.2.1), g.2.2.1, g.2.2.2)) ++ (wG c ago go)) := hD
  refine lv_aload_n hx hb dX1_takeOver_118 rfl (lv_at hl 0 rfl) ?_
  refine va_get (D := G) (ci := 1) (v := .ref (ag 3)) (C := RX1) (T := TX1) (N := 16) hx hb hts hi_1 hown hK hP 0 rfl rfl 14 (by decide) (hts (.fieldLink RX1 40 "HubTrains$Game" "stock" "LHubTrains$Stock;") (List.mem_of_getElem? (i := 15) rfl)) (fun _ h9 => h9) rfl dX1_takeOver_119 ?_
  refine lv_aload_n hx hb dX1_takeOver_122 rfl (lv_at hl 1 rfl) ?_
  refine va_get (D := G) (ci := 1) (v := .ref (ago 3)) (C := RX1) (T := TX1) (N := 16) hx hb hts hi_1 hown hK hP 10 rfl rfl 14 (by decide) (hts (.fieldLink RX1 40 "HubTrains$Game" "stock" "LHubTrains$Stock;") (List.mem_of_getElem? (i := 15) rfl)) (fun _ h9 => h9) rfl dX1_takeOver_123 ?_
  obtain ⟨k126, e_126, hm⟩ := bd1_s hm
  refine zcVv (As := [.ref (ago 3)]) (rest := []) ⟨hx, hb, hml, hown, hts⟩ (k_X4_takeOver l G K c (ag 3) (ag 4) (ago 3) (ago 4) g.2.2.1 go.2.2.1 k126 e_126) (cwV 1 hts gX1_takeOver_X4_takeOver rfl rfl rfl hd_X4_takeOver ⟨Nat.le_of_ble_eq_true rfl, Nat.le_of_ble_eq_true rfl⟩) hK hN hZ hP hD hS hA (va_recv hK hP (ci := 4) (q0 := 3) rfl rfl) [3, 4, 13, 14] rfl (by decide) rfl rfl hl.1 rfl (Nat.le_of_ble_eq_true rfl) dX1_takeOver_126 ⟨Nat.zero_le _, Nat.zero_le _⟩ (fun H locs hP hD hS => ?_)
  have hP : va_P G vwCl ((wG c ag ((sa (sa (ss (ss (ss (ss (ss (ss (ss (ss (ss (ss (ss g.1 0 (go.1.1 0)) 1 (go.1.1 1)) 2 (go.1.1 2)) 3 (go.1.1 3)) 4 (go.1.1 4)) 5 (go.1.1 5)) 6 (go.1.1 6)) 7 (go.1.1 7)) 8 (go.1.1 8)) 9 (go.1.1 9)) 10 (go.1.1 10)) 0 h1104) 1 h1115), (go.2.1), k126, g.2.2.2)) ++ (wG c ago go)) H := hP
  have hD : va_D A ((wG c ag ((sa (sa (ss (ss (ss (ss (ss (ss (ss (ss (ss (ss (ss g.1 0 (go.1.1 0)) 1 (go.1.1 1)) 2 (go.1.1 2)) 3 (go.1.1 3)) 4 (go.1.1 4)) 5 (go.1.1 5)) 6 (go.1.1 6)) 7 (go.1.1 7)) 8 (go.1.1 8)) 9 (go.1.1 9)) 10 (go.1.1 10)) 0 h1104) 1 h1115), (go.2.1), k126, g.2.2.2)) ++ (wG c ago go)) := hD
  refine lv_aload_n hx hb dX1_takeOver_129 rfl (lv_at hl 0 rfl) ?_
  refine va_get (D := G) (ci := 1) (v := .ref (ag 5)) (C := RX1) (T := TX1) (N := 16) hx hb hts hi_1 hown hK hP 0 rfl rfl 15 (by decide) (hts (.fieldLink RX1 47 "HubTrains$Game" "tracks" "LHubTrains$Tracks;") (List.mem_of_getElem? (i := 16) rfl)) (fun _ h9 => h9) rfl dX1_takeOver_130 ?_
  refine lv_aload_n hx hb dX1_takeOver_133 rfl (lv_at hl 1 rfl) ?_
  refine va_get (D := G) (ci := 1) (v := .ref (ago 5)) (C := RX1) (T := TX1) (N := 16) hx hb hts hi_1 hown hK hP 10 rfl rfl 15 (by decide) (hts (.fieldLink RX1 47 "HubTrains$Game" "tracks" "LHubTrains$Tracks;") (List.mem_of_getElem? (i := 16) rfl)) (fun _ h9 => h9) rfl dX1_takeOver_134 ?_
  obtain ⟨t137, e_137, hm⟩ := bd1_s hm
  refine zcVv (As := [.ref (ago 5)]) (rest := []) ⟨hx, hb, hml, hown, hts⟩ (k_X6_takeOver l G K c (ag 5) (ag 6) (ag 7) (ag 8) (ag 9) (ago 5) (ago 6) (ago 7) (ago 8) (ago 9) g.2.2.2 go.2.2.2 t137 e_137) (cwV 1 hts gX1_takeOver_X6_takeOver rfl rfl rfl hd_X6_takeOver ⟨Nat.le_of_ble_eq_true rfl, Nat.le_of_ble_eq_true rfl⟩) hK hN hZ hP hD hS hA (va_recv hK hP (ci := 6) (q0 := 5) rfl rfl) [5, 6, 7, 8, 9, 15, 16, 17, 18, 19] rfl (by decide) rfl rfl hl.1 rfl (Nat.le_of_ble_eq_true rfl) dX1_takeOver_137 ⟨Nat.zero_le _, Nat.zero_le _⟩ (fun H locs hP hD hS => ?_)
  have hP : va_P G vwCl ((wG c ag ((sa (sa (ss (ss (ss (ss (ss (ss (ss (ss (ss (ss (ss g.1 0 (go.1.1 0)) 1 (go.1.1 1)) 2 (go.1.1 2)) 3 (go.1.1 3)) 4 (go.1.1 4)) 5 (go.1.1 5)) 6 (go.1.1 6)) 7 (go.1.1 7)) 8 (go.1.1 8)) 9 (go.1.1 9)) 10 (go.1.1 10)) 0 h1104) 1 h1115), (go.2.1), k126, t137)) ++ (wG c ago go)) H := hP
  have hD : va_D A ((wG c ag ((sa (sa (ss (ss (ss (ss (ss (ss (ss (ss (ss (ss (ss g.1 0 (go.1.1 0)) 1 (go.1.1 1)) 2 (go.1.1 2)) 3 (go.1.1 3)) 4 (go.1.1 4)) 5 (go.1.1 5)) 6 (go.1.1 6)) 7 (go.1.1 7)) 8 (go.1.1 8)) 9 (go.1.1 9)) 10 (go.1.1 10)) 0 h1104) 1 h1115), (go.2.1), k126, t137)) ++ (wG c ago go)) := hD
  exact hend H locs ls _ _ (zc1 (fun (z0 : GS) => ((wG c ag z0) ++ (wG c ago go) : va_W)) (Option.some.inj hm)) hP hD hS dX1_takeOver_140


def f_X1_clearHands (g : GS) : Option GS :=
  bd1 (f_J7_fill_53178 100 (g.1.2 0) (-1)) fun (h05 : Nat → Int32) => some (((sa g.1 0 h05), (g.2.1), g.2.2.1, g.2.2.2))

abbrev rm_X1_clearHands : Room := { frames := 1, cells := 0, slots := 0, locals := 23 }
theorem hd_X1_clearHands : yX1_clearHands.cls = RX1 ∧ yX1_clearHands.cls ≠ "java/lang/invoke/MethodHandle" ∧ yX1_clearHands.cls ≠ "java/lang/invoke/VarHandle" ∧ (parseMethodDescriptor yX1_clearHands.desc).map (fun d => d.parameters.length) = some 0 := by decide +kernel
set_option maxHeartbeats 4000000 in
set_option maxRecDepth 100000 in
theorem k_X1_clearHands (l : Launch) (G : va_G) (K : (Nat → Nat) × (Nat → Nat)) (c : Nat → ClassId) (ag : Nat → Nat) (g : GS) (g_r : GS) (hm : f_X1_clearHands g = some (g_r)) : zMv l yX1_clearHands wsX1_clearHands (rm_X1_clearHands) G K (TY c) [.ref (ag 0)] (wG c ag g) (wG c ag g_r) := by
  refine zMv.of (cc := cX1_clearHands) (maxL := 1) (lv := [(0, .ref (ag 0))]) (by decide) rfl (Nat.le_of_ble_eq_true rfl) rfl ?_
  intro p e s m args below meth c1 A Q H locs hx hb hml hown hts hK hN hZ hP hD hA hS hend ls hl
  have hown : s.vm.findClass RX1 = some m.cls := hown
  have hi_1 : ∀ w ∈ wsX10, w ∈ wsX1_clearHands := (fun w h => List.mem_cons_of_mem _ (List.mem_append_right _ (h)))
  unfold f_X1_clearHands at hm
  refine lv_aload_n hx hb dX1_clearHands_0 rfl (lv_at hl 0 rfl) ?_
  refine va_get (D := G) (ci := 1) (v := .ref (ag 1)) (C := RX1) (T := TX1) (N := 16) hx hb hts hi_1 hown hK hP 0 rfl rfl 12 (by decide) (hts (.fieldLink RX1 30 "HubTrains$Game" "holders" "[I") (List.mem_of_getElem? (i := 1) rfl)) (fun _ h9 => h9) rfl dX1_clearHands_1 ?_
  refine lv_iconst (v := (-1)) hx hb dX1_clearHands_4 (by decide) ?_
  obtain ⟨h05, e_5, hm⟩ := bd1_s hm
  refine zcSv (As := [.ref (ag 1), .int (-1)]) (rest := []) ⟨hx, hb, hml, hown, hts⟩ (k_J7_fill_53178 l G K c (ag 1) 100 (g.1.2 0) (-1) h05 e_5) (va_cwS 2 hts gX1_clearHands_J7_fill_53178 rfl rfl rfl hd_J7_fill_53178.2 ⟨Nat.le_of_ble_eq_true rfl, Nat.le_of_ble_eq_true rfl⟩) hK hN hZ hP hD hS hA [1] rfl (by decide) rfl rfl hl.1 rfl (Nat.le_of_ble_eq_true rfl) dX1_clearHands_5 ⟨Nat.zero_le _, Nat.zero_le _⟩ (fun H locs hP hD hS => ?_)
  have hP : va_P G vwCl (wG c ag ((sa g.1 0 h05), (g.2.1), g.2.2.1, g.2.2.2)) H := hP
  have hD : va_D A (wG c ag ((sa g.1 0 h05), (g.2.1), g.2.2.1, g.2.2.2)) := hD
  exact hend H locs ls _ _ (zc1 (fun (z0 : GS) => (wG c ag z0 : va_W)) (Option.some.inj hm)) hP hD hS dX1_clearHands_8


def f_X1_holderOf (g : GS) (p0 : Int32) : Option Int32 :=
  if p0 < 0 then (some ((-1))) else (if (100 : Int32) ≤ p0 then (some ((-1))) else (gd (inb p0 100) <| some (((g.1.2 0) p0.toNatClampNeg))))

abbrev rm_X1_holderOf : Room := { frames := 0, cells := 0, slots := 0, locals := 0 }
theorem hd_X1_holderOf : yX1_holderOf.cls = RX1 ∧ yX1_holderOf.cls ≠ "java/lang/invoke/MethodHandle" ∧ yX1_holderOf.cls ≠ "java/lang/invoke/VarHandle" ∧ (parseMethodDescriptor yX1_holderOf.desc).map (fun d => d.parameters.length) = some 1 := by decide +kernel
set_option maxHeartbeats 4000000 in
set_option maxRecDepth 100000 in
theorem k_X1_holderOf (l : Launch) (G : va_G) (K : (Nat → Nat) × (Nat → Nat)) (c : Nat → ClassId) (ag : Nat → Nat) (g : GS) (p0 : Int32) (r : Int32) (hm : f_X1_holderOf g p0 = some (r)) : zMi l yX1_holderOf wsX1_holderOf (rm_X1_holderOf) G K (TY c) [.ref (ag 0), .int p0] (wG c ag g) (wG c ag g) r := by
  refine zMi.of (cc := cX1_holderOf) (maxL := 2) (lv := [(0, .ref (ag 0)), (1, .int p0)]) (by decide) rfl (Nat.le_of_ble_eq_true rfl) rfl ?_
  intro p e s m args below meth c1 A Q H locs hx hb hml hown hts hK hN hZ hP hD hA hS hend ls hl
  have hown : s.vm.findClass RX1 = some m.cls := hown
  have hi_1 : ∀ w ∈ wsX10, w ∈ wsX1_holderOf := (fun w h => List.mem_cons_of_mem _ (List.mem_append_right _ (h)))
  unfold f_X1_holderOf at hm
  refine lv_iload_n hx hb dX1_holderOf_0 rfl (lv_at hl 1 rfl) ?_
  refine lv_if_lt (tgt := 22) hx hb dX1_holderOf_1 (by decide) (fun c_1 => ?_) (fun c_1 => ?_)
  · have hm := ifp c_1 hm
    refine lv_iconst (v := (-1)) hx hb dX1_holderOf_22 (by decide) ?_
    exact hend H locs ls _ _ _ rfl (Option.some.inj hm) rfl hP hD hS dX1_holderOf_23
  · have hm := ifn c_1 hm
    refine lv_iload_n hx hb dX1_holderOf_4 rfl (lv_at hl 1 rfl) ?_
    refine lv_aload_n hx hb dX1_holderOf_5 rfl (lv_at hl 0 rfl) ?_
    refine va_get (D := G) (ci := 1) (v := .ref (ag 1)) (C := RX1) (T := TX1) (N := 16) hx hb hts hi_1 hown hK hP 0 rfl rfl 12 (by decide) (hts (.fieldLink RX1 30 "HubTrains$Game" "holders" "[I") (List.mem_of_getElem? (i := 1) rfl)) (fun _ h9 => h9) rfl dX1_holderOf_6 ?_
    refine va_alen (D := G) (v := 100) hx hb hK hP 1 0 rfl rfl rfl dX1_holderOf_9 ?_
    refine lv_icmp_ge (tgt := 22) hx hb dX1_holderOf_10 (by decide) (fun c_10 => ?_) (fun c_10 => ?_)
    · have hm := ifp c_10 hm
      refine lv_iconst (v := (-1)) hx hb dX1_holderOf_22 (by decide) ?_
      exact hend H locs ls _ _ _ rfl (Option.some.inj hm) rfl hP hD hS dX1_holderOf_23
    · have hm := ifn c_10 hm
      refine lv_aload_n hx hb dX1_holderOf_13 rfl (lv_at hl 0 rfl) ?_
      refine va_get (D := G) (ci := 1) (v := .ref (ag 1)) (C := RX1) (T := TX1) (N := 16) hx hb hts hi_1 hown hK hP 0 rfl rfl 12 (by decide) (hts (.fieldLink RX1 30 "HubTrains$Game" "holders" "[I") (List.mem_of_getElem? (i := 1) rfl)) (fun _ h9 => h9) rfl dX1_holderOf_14 ?_
      refine lv_iload_n hx hb dX1_holderOf_17 rfl (lv_at hl 1 rfl) ?_
      obtain ⟨h_18, hm⟩ := gd_s hm
      refine va_iald (D := G) hx hb hK hP 1 0 rfl rfl (inb_s h_18) dX1_holderOf_18 ?_
      refine lv_goto (tgt := 23) hx hb dX1_holderOf_19 (by decide) ?_
      exact hend H locs ls _ _ _ rfl (Option.some.inj hm) rfl hP hD hS dX1_holderOf_23


def f_X1_isInSet (g : GS) (p0 : Int32) : Option Int32 :=
  if p0 < 0 then (some (0)) else (if (100 : Int32) ≤ p0 then (some (0)) else (bd1 (f_X7_lowNumber p0) fun (r11 : Int32) => bd1 (f_X7_highNumber p0) fun (r15 : Int32) => if r15 < r11 then (some (0)) else (bd1 (f_X7_highNumber p0) fun (r22 : Int32) => if (g.1.1 0) < r22 then (some (0)) else (some (1)))))

abbrev rm_X1_isInSet : Room := { frames := 1, cells := 0, slots := 0, locals := 20 }
theorem hd_X1_isInSet : yX1_isInSet.cls = RX1 ∧ yX1_isInSet.cls ≠ "java/lang/invoke/MethodHandle" ∧ yX1_isInSet.cls ≠ "java/lang/invoke/VarHandle" ∧ (parseMethodDescriptor yX1_isInSet.desc).map (fun d => d.parameters.length) = some 1 := by decide +kernel
set_option maxHeartbeats 4000000 in
set_option maxRecDepth 100000 in
theorem k_X1_isInSet (l : Launch) (G : va_G) (K : (Nat → Nat) × (Nat → Nat)) (c : Nat → ClassId) (ag : Nat → Nat) (g : GS) (p0 : Int32) (r : Int32) (hm : f_X1_isInSet g p0 = some (r)) : zMi l yX1_isInSet wsX1_isInSet (rm_X1_isInSet) G K (TY c) [.ref (ag 0), .int p0] (wG c ag g) (wG c ag g) r := by
  refine zMi.of (cc := cX1_isInSet) (maxL := 2) (lv := [(0, .ref (ag 0)), (1, .int p0)]) (by decide) rfl (Nat.le_of_ble_eq_true rfl) rfl ?_
  intro p e s m args below meth c1 A Q H locs hx hb hml hown hts hK hN hZ hP hD hA hS hend ls hl
  have hown : s.vm.findClass RX1 = some m.cls := hown
  have hi_1 : ∀ w ∈ wsX10, w ∈ wsX1_isInSet := (fun w h => List.mem_cons_of_mem _ (List.mem_append_right _ (h)))
  unfold f_X1_isInSet at hm
  refine lv_iload_n hx hb dX1_isInSet_0 rfl (lv_at hl 1 rfl) ?_
  refine lv_if_lt (tgt := 36) hx hb dX1_isInSet_1 (by decide) (fun c_1 => ?_) (fun c_1 => ?_)
  · have hm := ifp c_1 hm
    refine lv_iconst (v := 0) hx hb dX1_isInSet_36 (by decide) ?_
    exact hend H locs ls _ _ _ (by decide) (Option.some.inj hm) rfl hP hD hS dX1_isInSet_37
  · have hm := ifn c_1 hm
    refine lv_iload_n hx hb dX1_isInSet_4 rfl (lv_at hl 1 rfl) ?_
    refine lv_bipush (v := 100) hx hb dX1_isInSet_5 (by decide) ?_
    refine lv_icmp_ge (tgt := 36) hx hb dX1_isInSet_7 (by decide) (fun c_7 => ?_) (fun c_7 => ?_)
    · have hm := ifp c_7 hm
      refine lv_iconst (v := 0) hx hb dX1_isInSet_36 (by decide) ?_
      exact hend H locs ls _ _ _ (by decide) (Option.some.inj hm) rfl hP hD hS dX1_isInSet_37
    · have hm := ifn c_7 hm
      refine lv_iload_n hx hb dX1_isInSet_10 rfl (lv_at hl 1 rfl) ?_
      obtain ⟨r11, e_11, hm⟩ := bd1_s hm
      refine zcSNi (As := [.int p0]) (rest := []) ⟨hx, hb, hml, hown, hts⟩ (k_X7_lowNumber l G K c p0 r11 e_11) ⟨va_cnB 1 hts gX1_isInSet_X7_lowNumber_n126 rfl rfl rfl (nwm_HubTrains_Game_126 hN.2.1) (hts (.initialized RX7) (List.mem_of_getElem? (i := 3) rfl)) hd_X7_lowNumber.2 ⟨Nat.le_of_ble_eq_true rfl, Nat.le_of_ble_eq_true rfl⟩, (hts (.static yX7_lowNumber) (List.mem_of_getElem? (i := 2) rfl)), trivial⟩ hK hN hZ hP hD hS hA [] rfl (by decide) rfl rfl hl.1 rfl (Nat.le_of_ble_eq_true rfl) dX1_isInSet_11 ⟨Nat.zero_le _, Nat.zero_le _⟩ (fun H locs hP hD hS => ?_)
      have hP : va_P G vwCl (wG c ag g) H := hP
      have hD : va_D A (wG c ag g) := hD
      refine lv_iload_n hx hb dX1_isInSet_14 rfl (lv_at hl 1 rfl) ?_
      obtain ⟨r15, e_15, hm⟩ := bd1_s hm
      refine zcSNi (As := [.int p0]) (rest := [.int r11]) ⟨hx, hb, hml, hown, hts⟩ (k_X7_highNumber l G K c p0 r15 e_15) ⟨va_cnB 1 hts gX1_isInSet_X7_highNumber_n129 rfl rfl rfl (nwm_HubTrains_Game_129 hN.2.1) (hts (.initialized RX7) (List.mem_of_getElem? (i := 3) rfl)) hd_X7_highNumber.2 ⟨Nat.le_of_ble_eq_true rfl, Nat.le_of_ble_eq_true rfl⟩, (hts (.static yX7_highNumber) (List.mem_of_getElem? (i := 5) rfl)), trivial⟩ hK hN hZ hP hD hS hA [] rfl (by decide) rfl rfl hl.1 rfl (Nat.le_of_ble_eq_true rfl) dX1_isInSet_15 ⟨Nat.zero_le _, Nat.zero_le _⟩ (fun H locs hP hD hS => ?_)
      have hP : va_P G vwCl (wG c ag g) H := hP
      have hD : va_D A (wG c ag g) := hD
      refine lv_icmp_gt (tgt := 36) hx hb dX1_isInSet_18 (by decide) (fun c_18 => ?_) (fun c_18 => ?_)
      · have hm := ifp c_18 hm
        refine lv_iconst (v := 0) hx hb dX1_isInSet_36 (by decide) ?_
        exact hend H locs ls _ _ _ (by decide) (Option.some.inj hm) rfl hP hD hS dX1_isInSet_37
      · have hm := ifn c_18 hm
        refine lv_iload_n hx hb dX1_isInSet_21 rfl (lv_at hl 1 rfl) ?_
        obtain ⟨r22, e_22, hm⟩ := bd1_s hm
        refine zcSNi (As := [.int p0]) (rest := []) ⟨hx, hb, hml, hown, hts⟩ (k_X7_highNumber l G K c p0 r22 e_22) ⟨va_cnB 1 hts gX1_isInSet_X7_highNumber_n129 rfl rfl rfl (nwm_HubTrains_Game_129 hN.2.1) (hts (.initialized RX7) (List.mem_of_getElem? (i := 3) rfl)) hd_X7_highNumber.2 ⟨Nat.le_of_ble_eq_true rfl, Nat.le_of_ble_eq_true rfl⟩, (hts (.static yX7_highNumber) (List.mem_of_getElem? (i := 5) rfl)), trivial⟩ hK hN hZ hP hD hS hA [] rfl (by decide) rfl rfl hl.1 rfl (Nat.le_of_ble_eq_true rfl) dX1_isInSet_22 ⟨Nat.zero_le _, Nat.zero_le _⟩ (fun H locs hP hD hS => ?_)
        have hP : va_P G vwCl (wG c ag g) H := hP
        have hD : va_D A (wG c ag g) := hD
        refine lv_aload_n hx hb dX1_isInSet_25 rfl (lv_at hl 0 rfl) ?_
        refine va_get (D := G) (ci := 1) (v := .int (g.1.1 0)) (C := RX1) (T := TX1) (N := 16) hx hb hts hi_1 hown hK hP 0 rfl rfl 0 (by decide) (hts (.fieldLink RX1 9 "HubTrains$Game" "greatest" "I") (List.mem_of_getElem? (i := 1) rfl)) (fun _ h9 => h9) rfl dX1_isInSet_26 ?_
        refine lv_icmp_gt (tgt := 36) hx hb dX1_isInSet_29 (by decide) (fun c_29 => ?_) (fun c_29 => ?_)
        · have hm := ifp c_29 hm
          refine lv_iconst (v := 0) hx hb dX1_isInSet_36 (by decide) ?_
          exact hend H locs ls _ _ _ (by decide) (Option.some.inj hm) rfl hP hD hS dX1_isInSet_37
        · have hm := ifn c_29 hm
          refine lv_iconst (v := 1) hx hb dX1_isInSet_32 (by decide) ?_
          refine lv_goto (tgt := 37) hx hb dX1_isInSet_33 (by decide) ?_
          exact hend H locs ls _ _ _ (by decide) (Option.some.inj hm) rfl hP hD hS dX1_isInSet_37


def f_X1_isFree (g : GS) (p0 : Int32) : Option Int32 :=
  bd1 (f_X1_holderOf g p0) fun (r2 : Int32) => if r2 = (-1) then (bd1 (f_X7_isDouble p0) fun (r10 : Int32) => if r10 = 0 then (some (1)) else (bd1 (f_X7_lowNumber p0) fun (r17 : Int32) => if r17 = (g.1.1 3) then (some (0)) else (some (1)))) else (some (0))

abbrev rm_X1_isFree : Room := { frames := 2, cells := 0, slots := 0, locals := 40 }
theorem hd_X1_isFree : yX1_isFree.cls = RX1 ∧ yX1_isFree.cls ≠ "java/lang/invoke/MethodHandle" ∧ yX1_isFree.cls ≠ "java/lang/invoke/VarHandle" ∧ (parseMethodDescriptor yX1_isFree.desc).map (fun d => d.parameters.length) = some 1 := by decide +kernel
set_option maxHeartbeats 4000000 in
set_option maxRecDepth 100000 in
theorem k_X1_isFree (l : Launch) (G : va_G) (K : (Nat → Nat) × (Nat → Nat)) (c : Nat → ClassId) (ag : Nat → Nat) (g : GS) (p0 : Int32) (r : Int32) (hm : f_X1_isFree g p0 = some (r)) : zMi l yX1_isFree wsX1_isFree (rm_X1_isFree) G K (TY c) [.ref (ag 0), .int p0] (wG c ag g) (wG c ag g) r := by
  refine zMi.of (cc := cX1_isFree) (maxL := 2) (lv := [(0, .ref (ag 0)), (1, .int p0)]) (by decide) rfl (Nat.le_of_ble_eq_true rfl) rfl ?_
  intro p e s m args below meth c1 A Q H locs hx hb hml hown hts hK hN hZ hP hD hA hS hend ls hl
  have hown : s.vm.findClass RX1 = some m.cls := hown
  have hi_1 : ∀ w ∈ wsX10, w ∈ wsX1_isFree := (fun w h => List.mem_cons_of_mem _ (List.mem_append_right _ (h)))
  unfold f_X1_isFree at hm
  refine lv_aload_n hx hb dX1_isFree_0 rfl (lv_at hl 0 rfl) ?_
  refine lv_iload_n hx hb dX1_isFree_1 rfl (lv_at hl 1 rfl) ?_
  obtain ⟨r2, e_2, hm⟩ := bd1_s hm
  refine zcVi (As := [.int p0]) (rest := []) ⟨hx, hb, hml, hown, hts⟩ (k_X1_holderOf l G K c ag g p0 r2 e_2) (cwV 1 hts gX1_isFree_X1_holderOf rfl rfl rfl hd_X1_holderOf ⟨Nat.le_of_ble_eq_true rfl, Nat.le_of_ble_eq_true rfl⟩) hK hN hZ hP hD hS hA (va_recv hK hP (ci := 1) (q0 := 0) rfl rfl) [0, 1, 2, 3, 4, 5, 6, 7, 8, 9] rfl (by decide) rfl rfl hl.1 rfl (Nat.le_of_ble_eq_true rfl) dX1_isFree_2 ⟨Nat.zero_le _, Nat.zero_le _⟩ (fun H locs hP hD hS => ?_)
  have hP : va_P G vwCl (wG c ag g) H := hP
  have hD : va_D A (wG c ag g) := hD
  refine lv_iconst (v := (-1)) hx hb dX1_isFree_5 (by decide) ?_
  refine lv_icmp_ne (tgt := 31) hx hb dX1_isFree_6 (by decide) (fun c_6 => ?_) (fun c_6 => ?_)
  · have hm := ifn c_6 hm
    refine lv_iconst (v := 0) hx hb dX1_isFree_31 (by decide) ?_
    exact hend H locs ls _ _ _ (by decide) (Option.some.inj hm) rfl hP hD hS dX1_isFree_32
  · have hm := ifp c_6 hm
    refine lv_iload_n hx hb dX1_isFree_9 rfl (lv_at hl 1 rfl) ?_
    obtain ⟨r10, e_10, hm⟩ := bd1_s hm
    refine zcSNi (As := [.int p0]) (rest := []) ⟨hx, hb, hml, hown, hts⟩ (k_X7_isDouble l G K c p0 r10 e_10) ⟨va_cnB 1 hts gX1_isFree_X7_isDouble_n135 rfl rfl rfl (nwm_HubTrains_Game_135 hN.2.1) (hts (.initialized RX7) (List.mem_of_getElem? (i := 9) rfl)) hd_X7_isDouble.2 ⟨Nat.le_of_ble_eq_true rfl, Nat.le_of_ble_eq_true rfl⟩, (hts (.static yX7_isDouble) (List.mem_of_getElem? (i := 8) rfl)), trivial⟩ hK hN hZ hP hD hS hA [] rfl (by decide) rfl rfl hl.1 rfl (Nat.le_of_ble_eq_true rfl) dX1_isFree_10 ⟨Nat.zero_le _, Nat.zero_le _⟩ (fun H locs hP hD hS => ?_)
    have hP : va_P G vwCl (wG c ag g) H := hP
    have hD : va_D A (wG c ag g) := hD
    refine lv_if_eq (tgt := 27) hx hb dX1_isFree_13 (by decide) (fun c_13 => ?_) (fun c_13 => ?_)
    · have hm := ifp c_13 hm
      refine lv_iconst (v := 1) hx hb dX1_isFree_27 (by decide) ?_
      refine lv_goto (tgt := 32) hx hb dX1_isFree_28 (by decide) ?_
      exact hend H locs ls _ _ _ (by decide) (Option.some.inj hm) rfl hP hD hS dX1_isFree_32
    · have hm := ifn c_13 hm
      refine lv_iload_n hx hb dX1_isFree_16 rfl (lv_at hl 1 rfl) ?_
      obtain ⟨r17, e_17, hm⟩ := bd1_s hm
      refine zcSNi (As := [.int p0]) (rest := []) ⟨hx, hb, hml, hown, hts⟩ (k_X7_lowNumber l G K c p0 r17 e_17) ⟨va_cnB 1 hts gX1_isFree_X7_lowNumber_n126 rfl rfl rfl (nwm_HubTrains_Game_126 hN.2.1) (hts (.initialized RX7) (List.mem_of_getElem? (i := 9) rfl)) hd_X7_lowNumber.2 ⟨Nat.le_of_ble_eq_true rfl, Nat.le_of_ble_eq_true rfl⟩, (hts (.static yX7_lowNumber) (List.mem_of_getElem? (i := 12) rfl)), trivial⟩ hK hN hZ hP hD hS hA [] rfl (by decide) rfl rfl hl.1 rfl (Nat.le_of_ble_eq_true rfl) dX1_isFree_17 ⟨Nat.zero_le _, Nat.zero_le _⟩ (fun H locs hP hD hS => ?_)
      have hP : va_P G vwCl (wG c ag g) H := hP
      have hD : va_D A (wG c ag g) := hD
      refine lv_aload_n hx hb dX1_isFree_20 rfl (lv_at hl 0 rfl) ?_
      refine va_get (D := G) (ci := 1) (v := .int (g.1.1 3)) (C := RX1) (T := TX1) (N := 16) hx hb hts hi_1 hown hK hP 0 rfl rfl 3 (by decide) (hts (.fieldLink RX1 21 "HubTrains$Game" "hub" "I") (List.mem_of_getElem? (i := 1) rfl)) (fun _ h9 => h9) rfl dX1_isFree_21 ?_
      refine lv_icmp_eq (tgt := 31) hx hb dX1_isFree_24 (by decide) (fun c_24 => ?_) (fun c_24 => ?_)
      · have hm := ifp c_24 hm
        refine lv_iconst (v := 0) hx hb dX1_isFree_31 (by decide) ?_
        exact hend H locs ls _ _ _ (by decide) (Option.some.inj hm) rfl hP hD hS dX1_isFree_32
      · have hm := ifn c_24 hm
        refine lv_iconst (v := 1) hx hb dX1_isFree_27 (by decide) ?_
        refine lv_goto (tgt := 32) hx hb dX1_isFree_28 (by decide) ?_
        exact hend H locs ls _ _ _ (by decide) (Option.some.inj hm) rfl hP hD hS dX1_isFree_32

def f_X1_handCount_B4 (g : GS) (p0 : Int32) (rec_4 : Int32 → Int32 → Option Int32) (v2_4 : Int32) (v3_4 : Int32) : Option Int32 :=
  if (100 : Int32) ≤ v3_4 then (some (v2_4)) else (bd1 (f_X1_holderOf g v3_4) fun (r12 : Int32) => if r12 = p0 then (rec_4 (v2_4 + 1) (v3_4 + 1)) else (rec_4 v2_4 (v3_4 + 1)))

def f_X1_handCount (g : GS) (p0 : Int32) : Option Int32 :=
  itr2 (f_X1_handCount_B4 g p0) FUEL 0 0

abbrev rm_X1_handCount : Room := { frames := 1, cells := 0, slots := 0, locals := 21 }
theorem hd_X1_handCount : yX1_handCount.cls = RX1 ∧ yX1_handCount.cls ≠ "java/lang/invoke/MethodHandle" ∧ yX1_handCount.cls ≠ "java/lang/invoke/VarHandle" ∧ (parseMethodDescriptor yX1_handCount.desc).map (fun d => d.parameters.length) = some 1 := by decide +kernel
set_option maxHeartbeats 4000000 in
set_option maxRecDepth 100000 in
theorem k_X1_handCount (l : Launch) (G : va_G) (K : (Nat → Nat) × (Nat → Nat)) (c : Nat → ClassId) (ag : Nat → Nat) (g : GS) (p0 : Int32) (r : Int32) (hm : f_X1_handCount g p0 = some (r)) : zMi l yX1_handCount wsX1_handCount (rm_X1_handCount) G K (TY c) [.ref (ag 0), .int p0] (wG c ag g) (wG c ag g) r := by
  refine zMi.of (cc := cX1_handCount) (maxL := 4) (lv := [(0, .ref (ag 0)), (1, .int p0)]) (by decide) rfl (Nat.le_of_ble_eq_true rfl) rfl ?_
  intro p e s m args below meth c1 A Q H locs hx hb hml hown hts hK hN hZ hP hD hA hS hend ls hl
  have hown : s.vm.findClass RX1 = some m.cls := hown
  unfold f_X1_handCount at hm
  refine lv_iconst (v := 0) hx hb dX1_handCount_0 (by decide) ?_
  refine lv_istore_n (lv' := [(2, .int 0), (0, .ref (ag 0)), (1, .int p0)]) hx hb dX1_handCount_1 rfl hl (by decide) rfl (fun ls hl => ?_)
  refine lv_iconst (v := 0) hx hb dX1_handCount_2 (by decide) ?_
  refine lv_istore_n (lv' := [(3, .int 0), (2, .int 0), (0, .ref (ag 0)), (1, .int p0)]) hx hb dX1_handCount_3 rfl hl (by decide) rfl (fun ls hl => ?_)
  have L_4 : ∀ (n_4 : Nat) (v2_4 : Int32) (v3_4 : Int32) (H : Heap) (locs : List Loc) (ls : Array Slot), va_P G vwCl (wG c ag g) H → va_D A (wG c ag g) → va_S A s.heap H locs → lv_has ls 4 [(0, .ref (ag 0)), (1, .int p0), (2, .int v2_4), (3, .int v3_4)] → itr2 (f_X1_handCount_B4 g p0) n_4 v2_4 v3_4 = some (r) → W p l e (rm_X1_handCount) s m args below meth c1 H locs 0 0 Q (F0 m 4 ls []) := by
    intro n_4
    induction n_4 with
    | zero => intro v2_4 v3_4 H locs ls hP hD hS hl hm; exact (itr2_0 hm).elim
    | succ n_4 ih_4 =>
      intro v2_4 v3_4 H locs ls hP hD hS hl hm
      have hm := itr2_s hm
      unfold f_X1_handCount_B4 at hm
      refine lv_iload_n hx hb dX1_handCount_4 rfl (lv_at hl 3 rfl) ?_
      refine lv_bipush (v := 100) hx hb dX1_handCount_5 (by decide) ?_
      refine lv_icmp_ge (tgt := 28) hx hb dX1_handCount_7 (by decide) (fun c_7 => ?_) (fun c_7 => ?_)
      · have hm := ifp c_7 hm
        refine lv_iload_n hx hb dX1_handCount_28 rfl (lv_at hl 2 rfl) ?_
        exact hend H locs ls _ _ _ rfl (Option.some.inj hm) rfl hP hD hS dX1_handCount_29
      · have hm := ifn c_7 hm
        refine lv_aload_n hx hb dX1_handCount_10 rfl (lv_at hl 0 rfl) ?_
        refine lv_iload_n hx hb dX1_handCount_11 rfl (lv_at hl 3 rfl) ?_
        obtain ⟨r12, e_12, hm⟩ := bd1_s hm
        refine zcVi (As := [.int v3_4]) (rest := []) ⟨hx, hb, hml, hown, hts⟩ (k_X1_holderOf l G K c ag g v3_4 r12 e_12) (cwV 1 hts gX1_handCount_X1_holderOf rfl rfl rfl hd_X1_holderOf ⟨Nat.le_of_ble_eq_true rfl, Nat.le_of_ble_eq_true rfl⟩) hK hN hZ hP hD hS hA (va_recv hK hP (ci := 1) (q0 := 0) rfl rfl) [0, 1, 2, 3, 4, 5, 6, 7, 8, 9] rfl (by decide) rfl rfl hl.1 rfl (Nat.le_of_ble_eq_true rfl) dX1_handCount_12 ⟨Nat.zero_le _, Nat.zero_le _⟩ (fun H locs hP hD hS => ?_)
        have hP : va_P G vwCl (wG c ag g) H := hP
        have hD : va_D A (wG c ag g) := hD
        refine lv_iload_n hx hb dX1_handCount_15 rfl (lv_at hl 1 rfl) ?_
        refine lv_icmp_ne (tgt := 22) hx hb dX1_handCount_16 (by decide) (fun c_16 => ?_) (fun c_16 => ?_)
        · have hm := ifn c_16 hm
          refine lv_iinc (k := 3) (v := (v3_4 + 1)) (lv' := [(3, .int (v3_4 + 1)), (0, .ref (ag 0)), (1, .int p0), (2, .int v2_4)]) hx hb dX1_handCount_22 hl rfl rfl (by decide) rfl (fun ls hl => ?_)
          refine lv_goto (tgt := 4) hx hb dX1_handCount_25 (by decide) ?_
          exact ih_4 v2_4 (v3_4 + 1) H locs ls hP hD hS (lv_sub hl [1, 2, 3, 0] rfl) hm
        · have hm := ifp c_16 hm
          refine lv_iinc (k := 2) (v := (v2_4 + 1)) (lv' := [(2, .int (v2_4 + 1)), (0, .ref (ag 0)), (1, .int p0), (3, .int v3_4)]) hx hb dX1_handCount_19 hl rfl rfl (by decide) rfl (fun ls hl => ?_)
          refine lv_iinc (k := 3) (v := (v3_4 + 1)) (lv' := [(3, .int (v3_4 + 1)), (2, .int (v2_4 + 1)), (0, .ref (ag 0)), (1, .int p0)]) hx hb dX1_handCount_22 hl rfl rfl (by decide) rfl (fun ls hl => ?_)
          refine lv_goto (tgt := 4) hx hb dX1_handCount_25 (by decide) ?_
          exact ih_4 (v2_4 + 1) (v3_4 + 1) H locs ls hP hD hS (lv_sub hl [2, 3, 1, 0] rfl) hm
  exact L_4 FUEL 0 0 H locs ls hP hD hS (lv_sub hl [2, 3, 1, 0] rfl) hm

def f_X1_handPips_B4 (g : GS) (p0 : Int32) (rec_4 : Int32 → Int32 → Option Int32) (v2_4 : Int32) (v3_4 : Int32) : Option Int32 :=
  if (100 : Int32) ≤ v3_4 then (some (v2_4)) else (bd1 (f_X1_holderOf g v3_4) fun (r12 : Int32) => if r12 = p0 then (bd1 (f_X7_pipsOf v3_4) fun (r21 : Int32) => rec_4 (v2_4 + r21) (v3_4 + 1)) else (rec_4 v2_4 (v3_4 + 1)))

def f_X1_handPips (g : GS) (p0 : Int32) : Option Int32 :=
  itr2 (f_X1_handPips_B4 g p0) FUEL 0 0

abbrev rm_X1_handPips : Room := { frames := 2, cells := 0, slots := 0, locals := 40 }
theorem hd_X1_handPips : yX1_handPips.cls = RX1 ∧ yX1_handPips.cls ≠ "java/lang/invoke/MethodHandle" ∧ yX1_handPips.cls ≠ "java/lang/invoke/VarHandle" ∧ (parseMethodDescriptor yX1_handPips.desc).map (fun d => d.parameters.length) = some 1 := by decide +kernel
set_option maxHeartbeats 4000000 in
set_option maxRecDepth 100000 in
theorem k_X1_handPips (l : Launch) (G : va_G) (K : (Nat → Nat) × (Nat → Nat)) (c : Nat → ClassId) (ag : Nat → Nat) (g : GS) (p0 : Int32) (r : Int32) (hm : f_X1_handPips g p0 = some (r)) : zMi l yX1_handPips wsX1_handPips (rm_X1_handPips) G K (TY c) [.ref (ag 0), .int p0] (wG c ag g) (wG c ag g) r := by
  refine zMi.of (cc := cX1_handPips) (maxL := 4) (lv := [(0, .ref (ag 0)), (1, .int p0)]) (by decide) rfl (Nat.le_of_ble_eq_true rfl) rfl ?_
  intro p e s m args below meth c1 A Q H locs hx hb hml hown hts hK hN hZ hP hD hA hS hend ls hl
  have hown : s.vm.findClass RX1 = some m.cls := hown
  unfold f_X1_handPips at hm
  refine lv_iconst (v := 0) hx hb dX1_handPips_0 (by decide) ?_
  refine lv_istore_n (lv' := [(2, .int 0), (0, .ref (ag 0)), (1, .int p0)]) hx hb dX1_handPips_1 rfl hl (by decide) rfl (fun ls hl => ?_)
  refine lv_iconst (v := 0) hx hb dX1_handPips_2 (by decide) ?_
  refine lv_istore_n (lv' := [(3, .int 0), (2, .int 0), (0, .ref (ag 0)), (1, .int p0)]) hx hb dX1_handPips_3 rfl hl (by decide) rfl (fun ls hl => ?_)
  have L_4 : ∀ (n_4 : Nat) (v2_4 : Int32) (v3_4 : Int32) (H : Heap) (locs : List Loc) (ls : Array Slot), va_P G vwCl (wG c ag g) H → va_D A (wG c ag g) → va_S A s.heap H locs → lv_has ls 4 [(0, .ref (ag 0)), (1, .int p0), (2, .int v2_4), (3, .int v3_4)] → itr2 (f_X1_handPips_B4 g p0) n_4 v2_4 v3_4 = some (r) → W p l e (rm_X1_handPips) s m args below meth c1 H locs 0 0 Q (F0 m 4 ls []) := by
    intro n_4
    induction n_4 with
    | zero => intro v2_4 v3_4 H locs ls hP hD hS hl hm; exact (itr2_0 hm).elim
    | succ n_4 ih_4 =>
      intro v2_4 v3_4 H locs ls hP hD hS hl hm
      have hm := itr2_s hm
      unfold f_X1_handPips_B4 at hm
      refine lv_iload_n hx hb dX1_handPips_4 rfl (lv_at hl 3 rfl) ?_
      refine lv_bipush (v := 100) hx hb dX1_handPips_5 (by decide) ?_
      refine lv_icmp_ge (tgt := 32) hx hb dX1_handPips_7 (by decide) (fun c_7 => ?_) (fun c_7 => ?_)
      · have hm := ifp c_7 hm
        refine lv_iload_n hx hb dX1_handPips_32 rfl (lv_at hl 2 rfl) ?_
        exact hend H locs ls _ _ _ rfl (Option.some.inj hm) rfl hP hD hS dX1_handPips_33
      · have hm := ifn c_7 hm
        refine lv_aload_n hx hb dX1_handPips_10 rfl (lv_at hl 0 rfl) ?_
        refine lv_iload_n hx hb dX1_handPips_11 rfl (lv_at hl 3 rfl) ?_
        obtain ⟨r12, e_12, hm⟩ := bd1_s hm
        refine zcVi (As := [.int v3_4]) (rest := []) ⟨hx, hb, hml, hown, hts⟩ (k_X1_holderOf l G K c ag g v3_4 r12 e_12) (cwV 1 hts gX1_handPips_X1_holderOf rfl rfl rfl hd_X1_holderOf ⟨Nat.le_of_ble_eq_true rfl, Nat.le_of_ble_eq_true rfl⟩) hK hN hZ hP hD hS hA (va_recv hK hP (ci := 1) (q0 := 0) rfl rfl) [0, 1, 2, 3, 4, 5, 6, 7, 8, 9] rfl (by decide) rfl rfl hl.1 rfl (Nat.le_of_ble_eq_true rfl) dX1_handPips_12 ⟨Nat.zero_le _, Nat.zero_le _⟩ (fun H locs hP hD hS => ?_)
        have hP : va_P G vwCl (wG c ag g) H := hP
        have hD : va_D A (wG c ag g) := hD
        refine lv_iload_n hx hb dX1_handPips_15 rfl (lv_at hl 1 rfl) ?_
        refine lv_icmp_ne (tgt := 26) hx hb dX1_handPips_16 (by decide) (fun c_16 => ?_) (fun c_16 => ?_)
        · have hm := ifn c_16 hm
          refine lv_iinc (k := 3) (v := (v3_4 + 1)) (lv' := [(3, .int (v3_4 + 1)), (0, .ref (ag 0)), (1, .int p0), (2, .int v2_4)]) hx hb dX1_handPips_26 hl rfl rfl (by decide) rfl (fun ls hl => ?_)
          refine lv_goto (tgt := 4) hx hb dX1_handPips_29 (by decide) ?_
          exact ih_4 v2_4 (v3_4 + 1) H locs ls hP hD hS (lv_sub hl [1, 2, 3, 0] rfl) hm
        · have hm := ifp c_16 hm
          refine lv_iload_n hx hb dX1_handPips_19 rfl (lv_at hl 2 rfl) ?_
          refine lv_iload_n hx hb dX1_handPips_20 rfl (lv_at hl 3 rfl) ?_
          obtain ⟨r21, e_21, hm⟩ := bd1_s hm
          refine zcSNi (As := [.int v3_4]) (rest := [.int v2_4]) ⟨hx, hb, hml, hown, hts⟩ (k_X7_pipsOf l G K c v3_4 r21 e_21) ⟨va_cnB 1 hts gX1_handPips_X7_pipsOf_n138 rfl rfl rfl (nwm_HubTrains_Game_138 hN.2.1) (hts (.initialized RX7) (List.mem_of_getElem? (i := 8) rfl)) hd_X7_pipsOf.2 ⟨Nat.le_of_ble_eq_true rfl, Nat.le_of_ble_eq_true rfl⟩, (hts (.static yX7_pipsOf) (List.mem_of_getElem? (i := 7) rfl)), trivial⟩ hK hN hZ hP hD hS hA [] rfl (by decide) rfl rfl hl.1 rfl (Nat.le_of_ble_eq_true rfl) dX1_handPips_21 ⟨Nat.zero_le _, Nat.zero_le _⟩ (fun H locs hP hD hS => ?_)
          have hP : va_P G vwCl (wG c ag g) H := hP
          have hD : va_D A (wG c ag g) := hD
          refine lv_iadd hx hb dX1_handPips_24 ?_
          refine lv_istore_n (lv' := [(2, .int (v2_4 + r21)), (0, .ref (ag 0)), (1, .int p0), (3, .int v3_4)]) hx hb dX1_handPips_25 rfl hl (by decide) rfl (fun ls hl => ?_)
          refine lv_iinc (k := 3) (v := (v3_4 + 1)) (lv' := [(3, .int (v3_4 + 1)), (2, .int (v2_4 + r21)), (0, .ref (ag 0)), (1, .int p0)]) hx hb dX1_handPips_26 hl rfl rfl (by decide) rfl (fun ls hl => ?_)
          refine lv_goto (tgt := 4) hx hb dX1_handPips_29 (by decide) ?_
          exact ih_4 (v2_4 + r21) (v3_4 + 1) H locs ls hP hD hS (lv_sub hl [2, 3, 1, 0] rfl) hm
  exact L_4 FUEL 0 0 H locs ls hP hD hS (lv_sub hl [2, 3, 1, 0] rfl) hm

def f_X1_tileInHand_B5 (g : GS) (p0 : Int32) (p1 : Int32) (rec_5 : Int32 → Int32 → Option Int32) (v3_5 : Int32) (v4_5 : Int32) : Option Int32 :=
  if (100 : Int32) ≤ v4_5 then (some ((-1))) else (bd1 (f_X1_holderOf g v4_5) fun (r15 : Int32) => if r15 = p0 then (if v3_5 = p1 then (some (v4_5)) else (rec_5 (v3_5 + 1) (v4_5 + 1))) else (rec_5 v3_5 (v4_5 + 1)))

def f_X1_tileInHand (g : GS) (p0 : Int32) (p1 : Int32) : Option Int32 :=
  itr2 (f_X1_tileInHand_B5 g p0 p1) FUEL 0 0

abbrev rm_X1_tileInHand : Room := { frames := 1, cells := 0, slots := 0, locals := 21 }
theorem hd_X1_tileInHand : yX1_tileInHand.cls = RX1 ∧ yX1_tileInHand.cls ≠ "java/lang/invoke/MethodHandle" ∧ yX1_tileInHand.cls ≠ "java/lang/invoke/VarHandle" ∧ (parseMethodDescriptor yX1_tileInHand.desc).map (fun d => d.parameters.length) = some 2 := by decide +kernel
set_option maxHeartbeats 4000000 in
set_option maxRecDepth 100000 in
theorem k_X1_tileInHand (l : Launch) (G : va_G) (K : (Nat → Nat) × (Nat → Nat)) (c : Nat → ClassId) (ag : Nat → Nat) (g : GS) (p0 : Int32) (p1 : Int32) (r : Int32) (hm : f_X1_tileInHand g p0 p1 = some (r)) : zMi l yX1_tileInHand wsX1_tileInHand (rm_X1_tileInHand) G K (TY c) [.ref (ag 0), .int p0, .int p1] (wG c ag g) (wG c ag g) r := by
  refine zMi.of (cc := cX1_tileInHand) (maxL := 5) (lv := [(0, .ref (ag 0)), (1, .int p0), (2, .int p1)]) (by decide) rfl (Nat.le_of_ble_eq_true rfl) rfl ?_
  intro p e s m args below meth c1 A Q H locs hx hb hml hown hts hK hN hZ hP hD hA hS hend ls hl
  have hown : s.vm.findClass RX1 = some m.cls := hown
  unfold f_X1_tileInHand at hm
  refine lv_iconst (v := 0) hx hb dX1_tileInHand_0 (by decide) ?_
  refine lv_istore_n (lv' := [(3, .int 0), (0, .ref (ag 0)), (1, .int p0), (2, .int p1)]) hx hb dX1_tileInHand_1 rfl hl (by decide) rfl (fun ls hl => ?_)
  refine lv_iconst (v := 0) hx hb dX1_tileInHand_2 (by decide) ?_
  refine lv_istore (lv' := [(4, .int 0), (3, .int 0), (0, .ref (ag 0)), (1, .int p0), (2, .int p1)]) hx hb dX1_tileInHand_3 hl (by decide) rfl (fun ls hl => ?_)
  have L_5 : ∀ (n_5 : Nat) (v3_5 : Int32) (v4_5 : Int32) (H : Heap) (locs : List Loc) (ls : Array Slot), va_P G vwCl (wG c ag g) H → va_D A (wG c ag g) → va_S A s.heap H locs → lv_has ls 5 [(0, .ref (ag 0)), (1, .int p0), (2, .int p1), (3, .int v3_5), (4, .int v4_5)] → itr2 (f_X1_tileInHand_B5 g p0 p1) n_5 v3_5 v4_5 = some (r) → W p l e (rm_X1_tileInHand) s m args below meth c1 H locs 0 0 Q (F0 m 5 ls []) := by
    intro n_5
    induction n_5 with
    | zero => intro v3_5 v4_5 H locs ls hP hD hS hl hm; exact (itr2_0 hm).elim
    | succ n_5 ih_5 =>
      intro v3_5 v4_5 H locs ls hP hD hS hl hm
      have hm := itr2_s hm
      unfold f_X1_tileInHand_B5 at hm
      refine lv_iload hx hb dX1_tileInHand_5 (lv_at hl 4 rfl) ?_
      refine lv_bipush (v := 100) hx hb dX1_tileInHand_7 (by decide) ?_
      refine lv_icmp_ge (tgt := 39) hx hb dX1_tileInHand_9 (by decide) (fun c_9 => ?_) (fun c_9 => ?_)
      · have hm := ifp c_9 hm
        refine lv_iconst (v := (-1)) hx hb dX1_tileInHand_39 (by decide) ?_
        exact hend H locs ls _ _ _ rfl (Option.some.inj hm) rfl hP hD hS dX1_tileInHand_40
      · have hm := ifn c_9 hm
        refine lv_aload_n hx hb dX1_tileInHand_12 rfl (lv_at hl 0 rfl) ?_
        refine lv_iload hx hb dX1_tileInHand_13 (lv_at hl 4 rfl) ?_
        obtain ⟨r15, e_15, hm⟩ := bd1_s hm
        refine zcVi (As := [.int v4_5]) (rest := []) ⟨hx, hb, hml, hown, hts⟩ (k_X1_holderOf l G K c ag g v4_5 r15 e_15) (cwV 1 hts gX1_tileInHand_X1_holderOf rfl rfl rfl hd_X1_holderOf ⟨Nat.le_of_ble_eq_true rfl, Nat.le_of_ble_eq_true rfl⟩) hK hN hZ hP hD hS hA (va_recv hK hP (ci := 1) (q0 := 0) rfl rfl) [0, 1, 2, 3, 4, 5, 6, 7, 8, 9] rfl (by decide) rfl rfl hl.1 rfl (Nat.le_of_ble_eq_true rfl) dX1_tileInHand_15 ⟨Nat.zero_le _, Nat.zero_le _⟩ (fun H locs hP hD hS => ?_)
        have hP : va_P G vwCl (wG c ag g) H := hP
        have hD : va_D A (wG c ag g) := hD
        refine lv_iload_n hx hb dX1_tileInHand_18 rfl (lv_at hl 1 rfl) ?_
        refine lv_icmp_ne (tgt := 33) hx hb dX1_tileInHand_19 (by decide) (fun c_19 => ?_) (fun c_19 => ?_)
        · have hm := ifn c_19 hm
          refine lv_iinc (k := 4) (v := (v4_5 + 1)) (lv' := [(4, .int (v4_5 + 1)), (0, .ref (ag 0)), (1, .int p0), (2, .int p1), (3, .int v3_5)]) hx hb dX1_tileInHand_33 hl rfl rfl (by decide) rfl (fun ls hl => ?_)
          refine lv_goto (tgt := 5) hx hb dX1_tileInHand_36 (by decide) ?_
          exact ih_5 v3_5 (v4_5 + 1) H locs ls hP hD hS (lv_sub hl [1, 2, 3, 4, 0] rfl) hm
        · have hm := ifp c_19 hm
          refine lv_iload_n hx hb dX1_tileInHand_22 rfl (lv_at hl 3 rfl) ?_
          refine lv_iload_n hx hb dX1_tileInHand_23 rfl (lv_at hl 2 rfl) ?_
          refine lv_icmp_ne (tgt := 30) hx hb dX1_tileInHand_24 (by decide) (fun c_24 => ?_) (fun c_24 => ?_)
          · have hm := ifn c_24 hm
            refine lv_iinc (k := 3) (v := (v3_5 + 1)) (lv' := [(3, .int (v3_5 + 1)), (0, .ref (ag 0)), (1, .int p0), (2, .int p1), (4, .int v4_5)]) hx hb dX1_tileInHand_30 hl rfl rfl (by decide) rfl (fun ls hl => ?_)
            refine lv_iinc (k := 4) (v := (v4_5 + 1)) (lv' := [(4, .int (v4_5 + 1)), (3, .int (v3_5 + 1)), (0, .ref (ag 0)), (1, .int p0), (2, .int p1)]) hx hb dX1_tileInHand_33 hl rfl rfl (by decide) rfl (fun ls hl => ?_)
            refine lv_goto (tgt := 5) hx hb dX1_tileInHand_36 (by decide) ?_
            exact ih_5 (v3_5 + 1) (v4_5 + 1) H locs ls hP hD hS (lv_sub hl [2, 3, 4, 1, 0] rfl) hm
          · have hm := ifp c_24 hm
            refine lv_iload hx hb dX1_tileInHand_27 (lv_at hl 4 rfl) ?_
            exact hend H locs ls _ _ _ rfl (Option.some.inj hm) rfl hP hD hS dX1_tileInHand_29
  exact L_5 FUEL 0 0 H locs ls hP hD hS (lv_sub hl [2, 3, 4, 1, 0] rfl) hm


def f_X1_isOpen (g : GS) (p0 : Int32) : Option Int32 :=
  if p0 = (g.1.1 1) then (some (1)) else (bd1 (f_X6_isOpen g.2.2.2 p0) fun (r13 : Int32) => if r13 = 0 then (some (0)) else (some (1)))

abbrev rm_X1_isOpen : Room := { frames := 2, cells := 0, slots := 0, locals := 42 }
theorem hd_X1_isOpen : yX1_isOpen.cls = RX1 ∧ yX1_isOpen.cls ≠ "java/lang/invoke/MethodHandle" ∧ yX1_isOpen.cls ≠ "java/lang/invoke/VarHandle" ∧ (parseMethodDescriptor yX1_isOpen.desc).map (fun d => d.parameters.length) = some 1 := by decide +kernel
set_option maxHeartbeats 4000000 in
set_option maxRecDepth 100000 in
theorem k_X1_isOpen (l : Launch) (G : va_G) (K : (Nat → Nat) × (Nat → Nat)) (c : Nat → ClassId) (ag : Nat → Nat) (g : GS) (p0 : Int32) (r : Int32) (hm : f_X1_isOpen g p0 = some (r)) : zMi l yX1_isOpen wsX1_isOpen (rm_X1_isOpen) G K (TY c) [.ref (ag 0), .int p0] (wG c ag g) (wG c ag g) r := by
  refine zMi.of (cc := cX1_isOpen) (maxL := 2) (lv := [(0, .ref (ag 0)), (1, .int p0)]) (by decide) rfl (Nat.le_of_ble_eq_true rfl) rfl ?_
  intro p e s m args below meth c1 A Q H locs hx hb hml hown hts hK hN hZ hP hD hA hS hend ls hl
  have hown : s.vm.findClass RX1 = some m.cls := hown
  have hi_1 : ∀ w ∈ wsX10, w ∈ wsX1_isOpen := (fun w h => List.mem_cons_of_mem _ (List.mem_append_left _ (List.mem_append_right _ (h))))
  unfold f_X1_isOpen at hm
  refine lv_iload_n hx hb dX1_isOpen_0 rfl (lv_at hl 1 rfl) ?_
  refine lv_aload_n hx hb dX1_isOpen_1 rfl (lv_at hl 0 rfl) ?_
  refine va_get (D := G) (ci := 1) (v := .int (g.1.1 1)) (C := RX1) (T := TX1) (N := 16) hx hb hts hi_1 hown hK hP 0 rfl rfl 1 (by decide) (hts (.fieldLink RX1 15 "HubTrains$Game" "players" "I") (List.mem_of_getElem? (i := 1) rfl)) (fun _ h9 => h9) rfl dX1_isOpen_2 ?_
  refine lv_icmp_eq (tgt := 19) hx hb dX1_isOpen_5 (by decide) (fun c_5 => ?_) (fun c_5 => ?_)
  · have hm := ifp c_5 hm
    refine lv_iconst (v := 1) hx hb dX1_isOpen_19 (by decide) ?_
    refine lv_goto (tgt := 24) hx hb dX1_isOpen_20 (by decide) ?_
    exact hend H locs ls _ _ _ (by decide) (Option.some.inj hm) rfl hP hD hS dX1_isOpen_24
  · have hm := ifn c_5 hm
    refine lv_aload_n hx hb dX1_isOpen_8 rfl (lv_at hl 0 rfl) ?_
    refine va_get (D := G) (ci := 1) (v := .ref (ag 5)) (C := RX1) (T := TX1) (N := 16) hx hb hts hi_1 hown hK hP 0 rfl rfl 15 (by decide) (hts (.fieldLink RX1 47 "HubTrains$Game" "tracks" "LHubTrains$Tracks;") (List.mem_of_getElem? (i := 2) rfl)) (fun _ h9 => h9) rfl dX1_isOpen_9 ?_
    refine lv_iload_n hx hb dX1_isOpen_12 rfl (lv_at hl 1 rfl) ?_
    obtain ⟨r13, e_13, hm⟩ := bd1_s hm
    refine zcVi (As := [.int p0]) (rest := []) ⟨hx, hb, hml, hown, hts⟩ (k_X6_isOpen l G K c (ag 5) (ag 6) (ag 7) (ag 8) (ag 9) g.2.2.2 p0 r13 e_13) (cwV 1 hts gX1_isOpen_X6_isOpen rfl rfl rfl hd_X6_isOpen ⟨Nat.le_of_ble_eq_true rfl, Nat.le_of_ble_eq_true rfl⟩) hK hN hZ hP hD hS hA (va_recv hK hP (ci := 6) (q0 := 5) rfl rfl) [5, 6, 7, 8, 9] rfl (by decide) rfl rfl hl.1 rfl (Nat.le_of_ble_eq_true rfl) dX1_isOpen_13 ⟨Nat.zero_le _, Nat.zero_le _⟩ (fun H locs hP hD hS => ?_)
    have hP : va_P G vwCl (wG c ag g) H := hP
    have hD : va_D A (wG c ag g) := hD
    refine lv_if_eq (tgt := 23) hx hb dX1_isOpen_16 (by decide) (fun c_16 => ?_) (fun c_16 => ?_)
    · have hm := ifp c_16 hm
      refine lv_iconst (v := 0) hx hb dX1_isOpen_23 (by decide) ?_
      exact hend H locs ls _ _ _ (by decide) (Option.some.inj hm) rfl hP hD hS dX1_isOpen_24
    · have hm := ifn c_16 hm
      refine lv_iconst (v := 1) hx hb dX1_isOpen_19 (by decide) ?_
      refine lv_goto (tgt := 24) hx hb dX1_isOpen_20 (by decide) ?_
      exact hend H locs ls _ _ _ (by decide) (Option.some.inj hm) rfl hP hD hS dX1_isOpen_24

def f_X1_obstacle_J67 (g : GS) (p0 : Int32) (p1 : Int32) : Option Int32 :=
  bd1 (f_X6_endOf g.2.2.2 p1) fun (r73 : Int32) => bd1 (f_X7_hasNumber p0 r73) fun (r76 : Int32) => if r76 = 0 then (some (5)) else (some (0))

def f_X1_obstacle_J41 (g : GS) (p0 : Int32) (p1 : Int32) : Option Int32 :=
  if (g.1.1 7) = (-1) then (if p1 = (g.1.1 5) then (f_X1_obstacle_J67 g p0 p1) else (bd1 (f_X1_isOpen g p1) fun (r59 : Int32) => if r59 = 0 then (some (4)) else (f_X1_obstacle_J67 g p0 p1))) else (f_X1_obstacle_J67 g p0 p1)

def f_X1_obstacle (g : GS) (p0 : Int32) (p1 : Int32) : Option Int32 :=
  if (g.1.1 8) = 0 then (bd1 (f_X1_holderOf g p0) fun (r11 : Int32) => if r11 = (g.1.1 5) then (if (g.1.1 7) = (-1) then (f_X1_obstacle_J41 g p0 p1) else (if (g.1.1 7) = p1 then (f_X1_obstacle_J41 g p0 p1) else (some (3)))) else (some (2))) else (some (1))

abbrev rm_X1_obstacle : Room := { frames := 3, cells := 0, slots := 0, locals := 63 }
theorem hd_X1_obstacle : yX1_obstacle.cls = RX1 ∧ yX1_obstacle.cls ≠ "java/lang/invoke/MethodHandle" ∧ yX1_obstacle.cls ≠ "java/lang/invoke/VarHandle" ∧ (parseMethodDescriptor yX1_obstacle.desc).map (fun d => d.parameters.length) = some 2 := by decide +kernel
set_option maxHeartbeats 4000000 in
set_option maxRecDepth 100000 in
theorem k_X1_obstacle (l : Launch) (G : va_G) (K : (Nat → Nat) × (Nat → Nat)) (c : Nat → ClassId) (ag : Nat → Nat) (g : GS) (p0 : Int32) (p1 : Int32) (r : Int32) (hm : f_X1_obstacle g p0 p1 = some (r)) : zMi l yX1_obstacle wsX1_obstacle (rm_X1_obstacle) G K (TY c) [.ref (ag 0), .int p0, .int p1] (wG c ag g) (wG c ag g) r := by
  refine zMi.of (cc := cX1_obstacle) (maxL := 3) (lv := [(0, .ref (ag 0)), (1, .int p0), (2, .int p1)]) (by decide) rfl (Nat.le_of_ble_eq_true rfl) rfl ?_
  intro p e s m args below meth c1 A Q H locs hx hb hml hown hts hK hN hZ hP hD hA hS hend ls hl
  have hown : s.vm.findClass RX1 = some m.cls := hown
  have hi_1 : ∀ w ∈ wsX10, w ∈ wsX1_obstacle := (fun w h => List.mem_cons_of_mem _ (List.mem_append_left _ (List.mem_append_right _ (h))))
  unfold f_X1_obstacle at hm
  refine lv_aload_n hx hb dX1_obstacle_0 rfl (lv_at hl 0 rfl) ?_
  refine va_get (D := G) (ci := 1) (v := .int (g.1.1 8)) (C := RX1) (T := TX1) (N := 16) hx hb hts hi_1 hown hK hP 0 rfl rfl 8 (by decide) (hts (.fieldLink RX1 64 "HubTrains$Game" "over" "Z") (List.mem_of_getElem? (i := 1) rfl)) (fun _ h9 => h9) rfl dX1_obstacle_1 ?_
  refine lv_if_eq (tgt := 9) hx hb dX1_obstacle_4 (by decide) (fun c_4 => ?_) (fun c_4 => ?_)
  · have hm := ifp c_4 hm
    refine lv_aload_n hx hb dX1_obstacle_9 rfl (lv_at hl 0 rfl) ?_
    refine lv_iload_n hx hb dX1_obstacle_10 rfl (lv_at hl 1 rfl) ?_
    obtain ⟨r11, e_11, hm⟩ := bd1_s hm
    refine zcVi (As := [.int p0]) (rest := []) ⟨hx, hb, hml, hown, hts⟩ (k_X1_holderOf l G K c ag g p0 r11 e_11) (cwV 1 hts gX1_obstacle_X1_holderOf rfl rfl rfl hd_X1_holderOf ⟨Nat.le_of_ble_eq_true rfl, Nat.le_of_ble_eq_true rfl⟩) hK hN hZ hP hD hS hA (va_recv hK hP (ci := 1) (q0 := 0) rfl rfl) [0, 1, 2, 3, 4, 5, 6, 7, 8, 9] rfl (by decide) rfl rfl hl.1 rfl (Nat.le_of_ble_eq_true rfl) dX1_obstacle_11 ⟨Nat.zero_le _, Nat.zero_le _⟩ (fun H locs hP hD hS => ?_)
    have hP : va_P G vwCl (wG c ag g) H := hP
    have hD : va_D A (wG c ag g) := hD
    refine lv_aload_n hx hb dX1_obstacle_14 rfl (lv_at hl 0 rfl) ?_
    refine va_get (D := G) (ci := 1) (v := .int (g.1.1 5)) (C := RX1) (T := TX1) (N := 16) hx hb hts hi_1 hown hK hP 0 rfl rfl 5 (by decide) (hts (.fieldLink RX1 57 "HubTrains$Game" "turn" "I") (List.mem_of_getElem? (i := 2) rfl)) (fun _ h9 => h9) rfl dX1_obstacle_15 ?_
    refine lv_icmp_eq (tgt := 23) hx hb dX1_obstacle_18 (by decide) (fun c_18 => ?_) (fun c_18 => ?_)
    · have hm := ifp c_18 hm
      refine lv_aload_n hx hb dX1_obstacle_23 rfl (lv_at hl 0 rfl) ?_
      refine va_get (D := G) (ci := 1) (v := .int (g.1.1 7)) (C := RX1) (T := TX1) (N := 16) hx hb hts hi_1 hown hK hP 0 rfl rfl 7 (by decide) (hts (.fieldLink RX1 27 "HubTrains$Game" "uncovered" "I") (List.mem_of_getElem? (i := 3) rfl)) (fun _ h9 => h9) rfl dX1_obstacle_24 ?_
      refine lv_iconst (v := (-1)) hx hb dX1_obstacle_27 (by decide) ?_
      have J_41 : ∀ (H : Heap) (locs : List Loc) (ls : Array Slot), va_P G vwCl (wG c ag g) H → va_D A (wG c ag g) → va_S A s.heap H locs → lv_has ls 3 [(0, .ref (ag 0)), (1, .int p0), (2, .int p1)] → f_X1_obstacle_J41 g p0 p1 = some (r) → W p l e (rm_X1_obstacle) s m args below meth c1 H locs 0 0 Q (F0 m 41 ls []) := by
        intro  H locs ls hP hD hS hl hm
        unfold f_X1_obstacle_J41 at hm
        refine lv_aload_n hx hb dX1_obstacle_41 rfl (lv_at hl 0 rfl) ?_
        refine va_get (D := G) (ci := 1) (v := .int (g.1.1 7)) (C := RX1) (T := TX1) (N := 16) hx hb hts hi_1 hown hK hP 0 rfl rfl 7 (by decide) (hts (.fieldLink RX1 27 "HubTrains$Game" "uncovered" "I") (List.mem_of_getElem? (i := 3) rfl)) (fun _ h9 => h9) rfl dX1_obstacle_42 ?_
        refine lv_iconst (v := (-1)) hx hb dX1_obstacle_45 (by decide) ?_
        have J_67 : ∀ (H : Heap) (locs : List Loc) (ls : Array Slot), va_P G vwCl (wG c ag g) H → va_D A (wG c ag g) → va_S A s.heap H locs → lv_has ls 3 [(0, .ref (ag 0)), (1, .int p0), (2, .int p1)] → f_X1_obstacle_J67 g p0 p1 = some (r) → W p l e (rm_X1_obstacle) s m args below meth c1 H locs 0 0 Q (F0 m 67 ls []) := by
          intro  H locs ls hP hD hS hl hm
          unfold f_X1_obstacle_J67 at hm
          refine lv_iload_n hx hb dX1_obstacle_67 rfl (lv_at hl 1 rfl) ?_
          refine lv_aload_n hx hb dX1_obstacle_68 rfl (lv_at hl 0 rfl) ?_
          refine va_get (D := G) (ci := 1) (v := .ref (ag 5)) (C := RX1) (T := TX1) (N := 16) hx hb hts hi_1 hown hK hP 0 rfl rfl 15 (by decide) (hts (.fieldLink RX1 47 "HubTrains$Game" "tracks" "LHubTrains$Tracks;") (List.mem_of_getElem? (i := 4) rfl)) (fun _ h9 => h9) rfl dX1_obstacle_69 ?_
          refine lv_iload_n hx hb dX1_obstacle_72 rfl (lv_at hl 2 rfl) ?_
          obtain ⟨r73, e_73, hm⟩ := bd1_s hm
          refine zcVi (As := [.int p1]) (rest := [.int p0]) ⟨hx, hb, hml, hown, hts⟩ (k_X6_endOf l G K c (ag 5) (ag 6) (ag 7) (ag 8) (ag 9) g.2.2.2 p1 r73 e_73) (cwV 1 hts gX1_obstacle_X6_endOf rfl rfl rfl hd_X6_endOf ⟨Nat.le_of_ble_eq_true rfl, Nat.le_of_ble_eq_true rfl⟩) hK hN hZ hP hD hS hA (va_recv hK hP (ci := 6) (q0 := 5) rfl rfl) [5, 6, 7, 8, 9] rfl (by decide) rfl rfl hl.1 rfl (Nat.le_of_ble_eq_true rfl) dX1_obstacle_73 ⟨Nat.zero_le _, Nat.zero_le _⟩ (fun H locs hP hD hS => ?_)
          have hP : va_P G vwCl (wG c ag g) H := hP
          have hD : va_D A (wG c ag g) := hD
          obtain ⟨r76, e_76, hm⟩ := bd1_s hm
          refine zcSNi (As := [.int p0, .int r73]) (rest := []) ⟨hx, hb, hml, hown, hts⟩ (k_X7_hasNumber l G K c p0 r73 r76 e_76) ⟨va_cnB 2 hts gX1_obstacle_X7_hasNumber_n147 rfl rfl rfl (nwm_HubTrains_Game_147 hN.2.1) (hts (.initialized RX7) (List.mem_of_getElem? (i := 23) rfl)) hd_X7_hasNumber.2 ⟨Nat.le_of_ble_eq_true rfl, Nat.le_of_ble_eq_true rfl⟩, (hts (.static yX7_hasNumber) (List.mem_of_getElem? (i := 30) rfl)), trivial⟩ hK hN hZ hP hD hS hA [] rfl (by decide) rfl rfl hl.1 rfl (Nat.le_of_ble_eq_true rfl) dX1_obstacle_76 ⟨Nat.zero_le _, Nat.zero_le _⟩ (fun H locs hP hD hS => ?_)
          have hP : va_P G vwCl (wG c ag g) H := hP
          have hD : va_D A (wG c ag g) := hD
          refine lv_if_eq (tgt := 86) hx hb dX1_obstacle_79 (by decide) (fun c_79 => ?_) (fun c_79 => ?_)
          · have hm := ifp c_79 hm
            refine lv_iconst (v := 5) hx hb dX1_obstacle_86 (by decide) ?_
            exact hend H locs ls _ _ _ rfl (Option.some.inj hm) rfl hP hD hS dX1_obstacle_87
          · have hm := ifn c_79 hm
            refine lv_iconst (v := 0) hx hb dX1_obstacle_82 (by decide) ?_
            refine lv_goto (tgt := 87) hx hb dX1_obstacle_83 (by decide) ?_
            exact hend H locs ls _ _ _ rfl (Option.some.inj hm) rfl hP hD hS dX1_obstacle_87
        refine lv_icmp_ne (tgt := 67) hx hb dX1_obstacle_46 (by decide) (fun c_46 => ?_) (fun c_46 => ?_)
        · have hm := ifn c_46 hm
          exact J_67 H locs ls hP hD hS (lv_sub hl [0, 1, 2] rfl) hm
        · have hm := ifp c_46 hm
          refine lv_iload_n hx hb dX1_obstacle_49 rfl (lv_at hl 2 rfl) ?_
          refine lv_aload_n hx hb dX1_obstacle_50 rfl (lv_at hl 0 rfl) ?_
          refine va_get (D := G) (ci := 1) (v := .int (g.1.1 5)) (C := RX1) (T := TX1) (N := 16) hx hb hts hi_1 hown hK hP 0 rfl rfl 5 (by decide) (hts (.fieldLink RX1 57 "HubTrains$Game" "turn" "I") (List.mem_of_getElem? (i := 2) rfl)) (fun _ h9 => h9) rfl dX1_obstacle_51 ?_
          refine lv_icmp_eq (tgt := 67) hx hb dX1_obstacle_54 (by decide) (fun c_54 => ?_) (fun c_54 => ?_)
          · have hm := ifp c_54 hm
            exact J_67 H locs ls hP hD hS (lv_sub hl [0, 1, 2] rfl) hm
          · have hm := ifn c_54 hm
            refine lv_aload_n hx hb dX1_obstacle_57 rfl (lv_at hl 0 rfl) ?_
            refine lv_iload_n hx hb dX1_obstacle_58 rfl (lv_at hl 2 rfl) ?_
            obtain ⟨r59, e_59, hm⟩ := bd1_s hm
            refine zcVi (As := [.int p1]) (rest := []) ⟨hx, hb, hml, hown, hts⟩ (k_X1_isOpen l G K c ag g p1 r59 e_59) (cwV 1 hts gX1_obstacle_X1_isOpen rfl rfl rfl hd_X1_isOpen ⟨Nat.le_of_ble_eq_true rfl, Nat.le_of_ble_eq_true rfl⟩) hK hN hZ hP hD hS hA (va_recv hK hP (ci := 1) (q0 := 0) rfl rfl) [0, 1, 2, 3, 4, 5, 6, 7, 8, 9] rfl (by decide) rfl rfl hl.1 rfl (Nat.le_of_ble_eq_true rfl) dX1_obstacle_59 ⟨Nat.zero_le _, Nat.zero_le _⟩ (fun H locs hP hD hS => ?_)
            have hP : va_P G vwCl (wG c ag g) H := hP
            have hD : va_D A (wG c ag g) := hD
            refine lv_if_ne (tgt := 67) hx hb dX1_obstacle_62 (by decide) (fun c_62 => ?_) (fun c_62 => ?_)
            · have hm := ifn c_62 hm
              exact J_67 H locs ls hP hD hS (lv_sub hl [0, 1, 2] rfl) hm
            · have hm := ifp c_62 hm
              refine lv_iconst (v := 4) hx hb dX1_obstacle_65 (by decide) ?_
              exact hend H locs ls _ _ _ rfl (Option.some.inj hm) rfl hP hD hS dX1_obstacle_66
      refine lv_icmp_eq (tgt := 41) hx hb dX1_obstacle_28 (by decide) (fun c_28 => ?_) (fun c_28 => ?_)
      · have hm := ifp c_28 hm
        exact J_41 H locs ls hP hD hS (lv_sub hl [0, 1, 2] rfl) hm
      · have hm := ifn c_28 hm
        refine lv_aload_n hx hb dX1_obstacle_31 rfl (lv_at hl 0 rfl) ?_
        refine va_get (D := G) (ci := 1) (v := .int (g.1.1 7)) (C := RX1) (T := TX1) (N := 16) hx hb hts hi_1 hown hK hP 0 rfl rfl 7 (by decide) (hts (.fieldLink RX1 27 "HubTrains$Game" "uncovered" "I") (List.mem_of_getElem? (i := 3) rfl)) (fun _ h9 => h9) rfl dX1_obstacle_32 ?_
        refine lv_iload_n hx hb dX1_obstacle_35 rfl (lv_at hl 2 rfl) ?_
        refine lv_icmp_eq (tgt := 41) hx hb dX1_obstacle_36 (by decide) (fun c_36 => ?_) (fun c_36 => ?_)
        · have hm := ifp c_36 hm
          exact J_41 H locs ls hP hD hS (lv_sub hl [0, 1, 2] rfl) hm
        · have hm := ifn c_36 hm
          refine lv_iconst (v := 3) hx hb dX1_obstacle_39 (by decide) ?_
          exact hend H locs ls _ _ _ rfl (Option.some.inj hm) rfl hP hD hS dX1_obstacle_40
    · have hm := ifn c_18 hm
      refine lv_iconst (v := 2) hx hb dX1_obstacle_21 (by decide) ?_
      exact hend H locs ls _ _ _ rfl (Option.some.inj hm) rfl hP hD hS dX1_obstacle_22
  · have hm := ifn c_4 hm
    refine lv_iconst (v := 1) hx hb dX1_obstacle_7 (by decide) ?_
    exact hend H locs ls _ _ _ rfl (Option.some.inj hm) rfl hP hD hS dX1_obstacle_8


def f_X1_canPlay (g : GS) (p0 : Int32) (p1 : Int32) : Option Int32 :=
  bd1 (f_X1_obstacle g p0 p1) fun (r3 : Int32) => if r3 = 0 then (some (1)) else (some (0))

abbrev rm_X1_canPlay : Room := { frames := 4, cells := 0, slots := 0, locals := 85 }
theorem hd_X1_canPlay : yX1_canPlay.cls = RX1 ∧ yX1_canPlay.cls ≠ "java/lang/invoke/MethodHandle" ∧ yX1_canPlay.cls ≠ "java/lang/invoke/VarHandle" ∧ (parseMethodDescriptor yX1_canPlay.desc).map (fun d => d.parameters.length) = some 2 := by decide +kernel
set_option maxHeartbeats 4000000 in
set_option maxRecDepth 100000 in
theorem k_X1_canPlay (l : Launch) (G : va_G) (K : (Nat → Nat) × (Nat → Nat)) (c : Nat → ClassId) (ag : Nat → Nat) (g : GS) (p0 : Int32) (p1 : Int32) (r : Int32) (hm : f_X1_canPlay g p0 p1 = some (r)) : zMi l yX1_canPlay wsX1_canPlay (rm_X1_canPlay) G K (TY c) [.ref (ag 0), .int p0, .int p1] (wG c ag g) (wG c ag g) r := by
  refine zMi.of (cc := cX1_canPlay) (maxL := 3) (lv := [(0, .ref (ag 0)), (1, .int p0), (2, .int p1)]) (by decide) rfl (Nat.le_of_ble_eq_true rfl) rfl ?_
  intro p e s m args below meth c1 A Q H locs hx hb hml hown hts hK hN hZ hP hD hA hS hend ls hl
  have hown : s.vm.findClass RX1 = some m.cls := hown
  unfold f_X1_canPlay at hm
  refine lv_aload_n hx hb dX1_canPlay_0 rfl (lv_at hl 0 rfl) ?_
  refine lv_iload_n hx hb dX1_canPlay_1 rfl (lv_at hl 1 rfl) ?_
  refine lv_iload_n hx hb dX1_canPlay_2 rfl (lv_at hl 2 rfl) ?_
  obtain ⟨r3, e_3, hm⟩ := bd1_s hm
  refine zcVi (As := [.int p0, .int p1]) (rest := []) ⟨hx, hb, hml, hown, hts⟩ (k_X1_obstacle l G K c ag g p0 p1 r3 e_3) (cwV 2 hts gX1_canPlay_X1_obstacle rfl rfl rfl hd_X1_obstacle ⟨Nat.le_of_ble_eq_true rfl, Nat.le_of_ble_eq_true rfl⟩) hK hN hZ hP hD hS hA (va_recv hK hP (ci := 1) (q0 := 0) rfl rfl) [0, 1, 2, 3, 4, 5, 6, 7, 8, 9] rfl (by decide) rfl rfl hl.1 rfl (Nat.le_of_ble_eq_true rfl) dX1_canPlay_3 ⟨Nat.zero_le _, Nat.zero_le _⟩ (fun H locs hP hD hS => ?_)
  have hP : va_P G vwCl (wG c ag g) H := hP
  have hD : va_D A (wG c ag g) := hD
  refine lv_if_ne (tgt := 13) hx hb dX1_canPlay_6 (by decide) (fun c_6 => ?_) (fun c_6 => ?_)
  · have hm := ifn c_6 hm
    refine lv_iconst (v := 0) hx hb dX1_canPlay_13 (by decide) ?_
    exact hend H locs ls _ _ _ (by decide) (Option.some.inj hm) rfl hP hD hS dX1_canPlay_14
  · have hm := ifp c_6 hm
    refine lv_iconst (v := 1) hx hb dX1_canPlay_9 (by decide) ?_
    refine lv_goto (tgt := 14) hx hb dX1_canPlay_10 (by decide) ?_
    exact hend H locs ls _ _ _ (by decide) (Option.some.inj hm) rfl hP hD hS dX1_canPlay_14

def f_X1_playsOf_B4 (g : GS) (p0 : Int32) (rec_4 : Int32 → Int32 → Option Int32) (v2_4 : Int32) (v3_4 : Int32) : Option Int32 :=
  if (g.1.1 1) < v3_4 then (some (v2_4)) else (bd1 (f_X1_obstacle g p0 v3_4) fun (r15 : Int32) => if r15 = 0 then (rec_4 (v2_4 + 1) (v3_4 + 1)) else (rec_4 v2_4 (v3_4 + 1)))

def f_X1_playsOf (g : GS) (p0 : Int32) : Option Int32 :=
  itr2 (f_X1_playsOf_B4 g p0) FUEL 0 0

abbrev rm_X1_playsOf : Room := { frames := 4, cells := 0, slots := 0, locals := 85 }
theorem hd_X1_playsOf : yX1_playsOf.cls = RX1 ∧ yX1_playsOf.cls ≠ "java/lang/invoke/MethodHandle" ∧ yX1_playsOf.cls ≠ "java/lang/invoke/VarHandle" ∧ (parseMethodDescriptor yX1_playsOf.desc).map (fun d => d.parameters.length) = some 1 := by decide +kernel
set_option maxHeartbeats 4000000 in
set_option maxRecDepth 100000 in
theorem k_X1_playsOf (l : Launch) (G : va_G) (K : (Nat → Nat) × (Nat → Nat)) (c : Nat → ClassId) (ag : Nat → Nat) (g : GS) (p0 : Int32) (r : Int32) (hm : f_X1_playsOf g p0 = some (r)) : zMi l yX1_playsOf wsX1_playsOf (rm_X1_playsOf) G K (TY c) [.ref (ag 0), .int p0] (wG c ag g) (wG c ag g) r := by
  refine zMi.of (cc := cX1_playsOf) (maxL := 4) (lv := [(0, .ref (ag 0)), (1, .int p0)]) (by decide) rfl (Nat.le_of_ble_eq_true rfl) rfl ?_
  intro p e s m args below meth c1 A Q H locs hx hb hml hown hts hK hN hZ hP hD hA hS hend ls hl
  have hown : s.vm.findClass RX1 = some m.cls := hown
  have hi_1 : ∀ w ∈ wsX10, w ∈ wsX1_playsOf := (fun w h => List.mem_cons_of_mem _ (List.mem_append_left _ (List.mem_append_right _ (h))))
  unfold f_X1_playsOf at hm
  refine lv_iconst (v := 0) hx hb dX1_playsOf_0 (by decide) ?_
  refine lv_istore_n (lv' := [(2, .int 0), (0, .ref (ag 0)), (1, .int p0)]) hx hb dX1_playsOf_1 rfl hl (by decide) rfl (fun ls hl => ?_)
  refine lv_iconst (v := 0) hx hb dX1_playsOf_2 (by decide) ?_
  refine lv_istore_n (lv' := [(3, .int 0), (2, .int 0), (0, .ref (ag 0)), (1, .int p0)]) hx hb dX1_playsOf_3 rfl hl (by decide) rfl (fun ls hl => ?_)
  have L_4 : ∀ (n_4 : Nat) (v2_4 : Int32) (v3_4 : Int32) (H : Heap) (locs : List Loc) (ls : Array Slot), va_P G vwCl (wG c ag g) H → va_D A (wG c ag g) → va_S A s.heap H locs → lv_has ls 4 [(0, .ref (ag 0)), (1, .int p0), (2, .int v2_4), (3, .int v3_4)] → itr2 (f_X1_playsOf_B4 g p0) n_4 v2_4 v3_4 = some (r) → W p l e (rm_X1_playsOf) s m args below meth c1 H locs 0 0 Q (F0 m 4 ls []) := by
    intro n_4
    induction n_4 with
    | zero => intro v2_4 v3_4 H locs ls hP hD hS hl hm; exact (itr2_0 hm).elim
    | succ n_4 ih_4 =>
      intro v2_4 v3_4 H locs ls hP hD hS hl hm
      have hm := itr2_s hm
      unfold f_X1_playsOf_B4 at hm
      refine lv_iload_n hx hb dX1_playsOf_4 rfl (lv_at hl 3 rfl) ?_
      refine lv_aload_n hx hb dX1_playsOf_5 rfl (lv_at hl 0 rfl) ?_
      refine va_get (D := G) (ci := 1) (v := .int (g.1.1 1)) (C := RX1) (T := TX1) (N := 16) hx hb hts hi_1 hown hK hP 0 rfl rfl 1 (by decide) (hts (.fieldLink RX1 15 "HubTrains$Game" "players" "I") (List.mem_of_getElem? (i := 1) rfl)) (fun _ h9 => h9) rfl dX1_playsOf_6 ?_
      refine lv_icmp_gt (tgt := 30) hx hb dX1_playsOf_9 (by decide) (fun c_9 => ?_) (fun c_9 => ?_)
      · have hm := ifp c_9 hm
        refine lv_iload_n hx hb dX1_playsOf_30 rfl (lv_at hl 2 rfl) ?_
        exact hend H locs ls _ _ _ rfl (Option.some.inj hm) rfl hP hD hS dX1_playsOf_31
      · have hm := ifn c_9 hm
        refine lv_aload_n hx hb dX1_playsOf_12 rfl (lv_at hl 0 rfl) ?_
        refine lv_iload_n hx hb dX1_playsOf_13 rfl (lv_at hl 1 rfl) ?_
        refine lv_iload_n hx hb dX1_playsOf_14 rfl (lv_at hl 3 rfl) ?_
        obtain ⟨r15, e_15, hm⟩ := bd1_s hm
        refine zcVi (As := [.int p0, .int v3_4]) (rest := []) ⟨hx, hb, hml, hown, hts⟩ (k_X1_obstacle l G K c ag g p0 v3_4 r15 e_15) (cwV 2 hts gX1_playsOf_X1_obstacle rfl rfl rfl hd_X1_obstacle ⟨Nat.le_of_ble_eq_true rfl, Nat.le_of_ble_eq_true rfl⟩) hK hN hZ hP hD hS hA (va_recv hK hP (ci := 1) (q0 := 0) rfl rfl) [0, 1, 2, 3, 4, 5, 6, 7, 8, 9] rfl (by decide) rfl rfl hl.1 rfl (Nat.le_of_ble_eq_true rfl) dX1_playsOf_15 ⟨Nat.zero_le _, Nat.zero_le _⟩ (fun H locs hP hD hS => ?_)
        have hP : va_P G vwCl (wG c ag g) H := hP
        have hD : va_D A (wG c ag g) := hD
        refine lv_if_ne (tgt := 24) hx hb dX1_playsOf_18 (by decide) (fun c_18 => ?_) (fun c_18 => ?_)
        · have hm := ifn c_18 hm
          refine lv_iinc (k := 3) (v := (v3_4 + 1)) (lv' := [(3, .int (v3_4 + 1)), (0, .ref (ag 0)), (1, .int p0), (2, .int v2_4)]) hx hb dX1_playsOf_24 hl rfl rfl (by decide) rfl (fun ls hl => ?_)
          refine lv_goto (tgt := 4) hx hb dX1_playsOf_27 (by decide) ?_
          exact ih_4 v2_4 (v3_4 + 1) H locs ls hP hD hS (lv_sub hl [1, 2, 3, 0] rfl) hm
        · have hm := ifp c_18 hm
          refine lv_iinc (k := 2) (v := (v2_4 + 1)) (lv' := [(2, .int (v2_4 + 1)), (0, .ref (ag 0)), (1, .int p0), (3, .int v3_4)]) hx hb dX1_playsOf_21 hl rfl rfl (by decide) rfl (fun ls hl => ?_)
          refine lv_iinc (k := 3) (v := (v3_4 + 1)) (lv' := [(3, .int (v3_4 + 1)), (2, .int (v2_4 + 1)), (0, .ref (ag 0)), (1, .int p0)]) hx hb dX1_playsOf_24 hl rfl rfl (by decide) rfl (fun ls hl => ?_)
          refine lv_goto (tgt := 4) hx hb dX1_playsOf_27 (by decide) ?_
          exact ih_4 (v2_4 + 1) (v3_4 + 1) H locs ls hP hD hS (lv_sub hl [2, 3, 1, 0] rfl) hm
  exact L_4 FUEL 0 0 H locs ls hP hD hS (lv_sub hl [2, 3, 1, 0] rfl) hm

def f_X1_playsNow_B4 (g : GS) (rec_4 : Int32 → Int32 → Option Int32) (v1_4 : Int32) (v2_4 : Int32) : Option Int32 :=
  if (100 : Int32) ≤ v2_4 then (some (v1_4)) else (bd1 (f_X1_holderOf g v2_4) fun (r12 : Int32) => if r12 = (g.1.1 5) then (bd1 (f_X1_playsOf g v2_4) fun (r25 : Int32) => rec_4 (v1_4 + r25) (v2_4 + 1)) else (rec_4 v1_4 (v2_4 + 1)))

def f_X1_playsNow (g : GS) : Option Int32 :=
  itr2 (f_X1_playsNow_B4 g) FUEL 0 0

abbrev rm_X1_playsNow : Room := { frames := 5, cells := 0, slots := 0, locals := 108 }
theorem hd_X1_playsNow : yX1_playsNow.cls = RX1 ∧ yX1_playsNow.cls ≠ "java/lang/invoke/MethodHandle" ∧ yX1_playsNow.cls ≠ "java/lang/invoke/VarHandle" ∧ (parseMethodDescriptor yX1_playsNow.desc).map (fun d => d.parameters.length) = some 0 := by decide +kernel
set_option maxHeartbeats 4000000 in
set_option maxRecDepth 100000 in
theorem k_X1_playsNow (l : Launch) (G : va_G) (K : (Nat → Nat) × (Nat → Nat)) (c : Nat → ClassId) (ag : Nat → Nat) (g : GS) (r : Int32) (hm : f_X1_playsNow g = some (r)) : zMi l yX1_playsNow wsX1_playsNow (rm_X1_playsNow) G K (TY c) [.ref (ag 0)] (wG c ag g) (wG c ag g) r := by
  refine zMi.of (cc := cX1_playsNow) (maxL := 3) (lv := [(0, .ref (ag 0))]) (by decide) rfl (Nat.le_of_ble_eq_true rfl) rfl ?_
  intro p e s m args below meth c1 A Q H locs hx hb hml hown hts hK hN hZ hP hD hA hS hend ls hl
  have hown : s.vm.findClass RX1 = some m.cls := hown
  have hi_1 : ∀ w ∈ wsX10, w ∈ wsX1_playsNow := (fun w h => List.mem_cons_of_mem _ (List.mem_append_left _ (List.mem_append_right _ (h))))
  unfold f_X1_playsNow at hm
  refine lv_iconst (v := 0) hx hb dX1_playsNow_0 (by decide) ?_
  refine lv_istore_n (lv' := [(1, .int 0), (0, .ref (ag 0))]) hx hb dX1_playsNow_1 rfl hl (by decide) rfl (fun ls hl => ?_)
  refine lv_iconst (v := 0) hx hb dX1_playsNow_2 (by decide) ?_
  refine lv_istore_n (lv' := [(2, .int 0), (1, .int 0), (0, .ref (ag 0))]) hx hb dX1_playsNow_3 rfl hl (by decide) rfl (fun ls hl => ?_)
  have L_4 : ∀ (n_4 : Nat) (v1_4 : Int32) (v2_4 : Int32) (H : Heap) (locs : List Loc) (ls : Array Slot), va_P G vwCl (wG c ag g) H → va_D A (wG c ag g) → va_S A s.heap H locs → lv_has ls 3 [(0, .ref (ag 0)), (1, .int v1_4), (2, .int v2_4)] → itr2 (f_X1_playsNow_B4 g) n_4 v1_4 v2_4 = some (r) → W p l e (rm_X1_playsNow) s m args below meth c1 H locs 0 0 Q (F0 m 4 ls []) := by
    intro n_4
    induction n_4 with
    | zero => intro v1_4 v2_4 H locs ls hP hD hS hl hm; exact (itr2_0 hm).elim
    | succ n_4 ih_4 =>
      intro v1_4 v2_4 H locs ls hP hD hS hl hm
      have hm := itr2_s hm
      unfold f_X1_playsNow_B4 at hm
      refine lv_iload_n hx hb dX1_playsNow_4 rfl (lv_at hl 2 rfl) ?_
      refine lv_bipush (v := 100) hx hb dX1_playsNow_5 (by decide) ?_
      refine lv_icmp_ge (tgt := 36) hx hb dX1_playsNow_7 (by decide) (fun c_7 => ?_) (fun c_7 => ?_)
      · have hm := ifp c_7 hm
        refine lv_iload_n hx hb dX1_playsNow_36 rfl (lv_at hl 1 rfl) ?_
        exact hend H locs ls _ _ _ rfl (Option.some.inj hm) rfl hP hD hS dX1_playsNow_37
      · have hm := ifn c_7 hm
        refine lv_aload_n hx hb dX1_playsNow_10 rfl (lv_at hl 0 rfl) ?_
        refine lv_iload_n hx hb dX1_playsNow_11 rfl (lv_at hl 2 rfl) ?_
        obtain ⟨r12, e_12, hm⟩ := bd1_s hm
        refine zcVi (As := [.int v2_4]) (rest := []) ⟨hx, hb, hml, hown, hts⟩ (k_X1_holderOf l G K c ag g v2_4 r12 e_12) (cwV 1 hts gX1_playsNow_X1_holderOf rfl rfl rfl hd_X1_holderOf ⟨Nat.le_of_ble_eq_true rfl, Nat.le_of_ble_eq_true rfl⟩) hK hN hZ hP hD hS hA (va_recv hK hP (ci := 1) (q0 := 0) rfl rfl) [0, 1, 2, 3, 4, 5, 6, 7, 8, 9] rfl (by decide) rfl rfl hl.1 rfl (Nat.le_of_ble_eq_true rfl) dX1_playsNow_12 ⟨Nat.zero_le _, Nat.zero_le _⟩ (fun H locs hP hD hS => ?_)
        have hP : va_P G vwCl (wG c ag g) H := hP
        have hD : va_D A (wG c ag g) := hD
        refine lv_aload_n hx hb dX1_playsNow_15 rfl (lv_at hl 0 rfl) ?_
        refine va_get (D := G) (ci := 1) (v := .int (g.1.1 5)) (C := RX1) (T := TX1) (N := 16) hx hb hts hi_1 hown hK hP 0 rfl rfl 5 (by decide) (hts (.fieldLink RX1 57 "HubTrains$Game" "turn" "I") (List.mem_of_getElem? (i := 1) rfl)) (fun _ h9 => h9) rfl dX1_playsNow_16 ?_
        refine lv_icmp_ne (tgt := 30) hx hb dX1_playsNow_19 (by decide) (fun c_19 => ?_) (fun c_19 => ?_)
        · have hm := ifn c_19 hm
          refine lv_iinc (k := 2) (v := (v2_4 + 1)) (lv' := [(2, .int (v2_4 + 1)), (0, .ref (ag 0)), (1, .int v1_4)]) hx hb dX1_playsNow_30 hl rfl rfl (by decide) rfl (fun ls hl => ?_)
          refine lv_goto (tgt := 4) hx hb dX1_playsNow_33 (by decide) ?_
          exact ih_4 v1_4 (v2_4 + 1) H locs ls hP hD hS (lv_sub hl [1, 2, 0] rfl) hm
        · have hm := ifp c_19 hm
          refine lv_iload_n hx hb dX1_playsNow_22 rfl (lv_at hl 1 rfl) ?_
          refine lv_aload_n hx hb dX1_playsNow_23 rfl (lv_at hl 0 rfl) ?_
          refine lv_iload_n hx hb dX1_playsNow_24 rfl (lv_at hl 2 rfl) ?_
          obtain ⟨r25, e_25, hm⟩ := bd1_s hm
          refine zcVi (As := [.int v2_4]) (rest := [.int v1_4]) ⟨hx, hb, hml, hown, hts⟩ (k_X1_playsOf l G K c ag g v2_4 r25 e_25) (cwV 1 hts gX1_playsNow_X1_playsOf rfl rfl rfl hd_X1_playsOf ⟨Nat.le_of_ble_eq_true rfl, Nat.le_of_ble_eq_true rfl⟩) hK hN hZ hP hD hS hA (va_recv hK hP (ci := 1) (q0 := 0) rfl rfl) [0, 1, 2, 3, 4, 5, 6, 7, 8, 9] rfl (by decide) rfl rfl hl.1 rfl (Nat.le_of_ble_eq_true rfl) dX1_playsNow_25 ⟨Nat.zero_le _, Nat.zero_le _⟩ (fun H locs hP hD hS => ?_)
          have hP : va_P G vwCl (wG c ag g) H := hP
          have hD : va_D A (wG c ag g) := hD
          refine lv_iadd hx hb dX1_playsNow_28 ?_
          refine lv_istore_n (lv' := [(1, .int (v1_4 + r25)), (0, .ref (ag 0)), (2, .int v2_4)]) hx hb dX1_playsNow_29 rfl hl (by decide) rfl (fun ls hl => ?_)
          refine lv_iinc (k := 2) (v := (v2_4 + 1)) (lv' := [(2, .int (v2_4 + 1)), (1, .int (v1_4 + r25)), (0, .ref (ag 0))]) hx hb dX1_playsNow_30 hl rfl rfl (by decide) rfl (fun ls hl => ?_)
          refine lv_goto (tgt := 4) hx hb dX1_playsNow_33 (by decide) ?_
          exact ih_4 (v1_4 + r25) (v2_4 + 1) H locs ls hP hD hS (lv_sub hl [2, 1, 0] rfl) hm
  exact L_4 FUEL 0 0 H locs ls hP hD hS (lv_sub hl [2, 1, 0] rfl) hm

def f_X1_playableTiles_B4 (g : GS) (p0 : Int32) (rec_4 : Int32 → Int32 → Option Int32) (v2_4 : Int32) (v3_4 : Int32) : Option Int32 :=
  if (100 : Int32) ≤ v3_4 then (some (v2_4)) else (if p0 = (g.1.1 5) then (bd1 (f_X1_holderOf g v3_4) fun (r20 : Int32) => if r20 = p0 then (bd1 (f_X1_playsOf g v3_4) fun (r29 : Int32) => if r29 ≤ 0 then (rec_4 v2_4 (v3_4 + 1)) else (rec_4 (v2_4 + 1) (v3_4 + 1))) else (rec_4 v2_4 (v3_4 + 1))) else (rec_4 v2_4 (v3_4 + 1)))

def f_X1_playableTiles (g : GS) (p0 : Int32) : Option Int32 :=
  itr2 (f_X1_playableTiles_B4 g p0) FUEL 0 0

abbrev rm_X1_playableTiles : Room := { frames := 5, cells := 0, slots := 0, locals := 108 }
theorem hd_X1_playableTiles : yX1_playableTiles.cls = RX1 ∧ yX1_playableTiles.cls ≠ "java/lang/invoke/MethodHandle" ∧ yX1_playableTiles.cls ≠ "java/lang/invoke/VarHandle" ∧ (parseMethodDescriptor yX1_playableTiles.desc).map (fun d => d.parameters.length) = some 1 := by decide +kernel
set_option maxHeartbeats 4000000 in
set_option maxRecDepth 100000 in
theorem k_X1_playableTiles (l : Launch) (G : va_G) (K : (Nat → Nat) × (Nat → Nat)) (c : Nat → ClassId) (ag : Nat → Nat) (g : GS) (p0 : Int32) (r : Int32) (hm : f_X1_playableTiles g p0 = some (r)) : zMi l yX1_playableTiles wsX1_playableTiles (rm_X1_playableTiles) G K (TY c) [.ref (ag 0), .int p0] (wG c ag g) (wG c ag g) r := by
  refine zMi.of (cc := cX1_playableTiles) (maxL := 4) (lv := [(0, .ref (ag 0)), (1, .int p0)]) (by decide) rfl (Nat.le_of_ble_eq_true rfl) rfl ?_
  intro p e s m args below meth c1 A Q H locs hx hb hml hown hts hK hN hZ hP hD hA hS hend ls hl
  have hown : s.vm.findClass RX1 = some m.cls := hown
  have hi_1 : ∀ w ∈ wsX10, w ∈ wsX1_playableTiles := (fun w h => List.mem_cons_of_mem _ (List.mem_append_left _ (List.mem_append_right _ (h))))
  unfold f_X1_playableTiles at hm
  refine lv_iconst (v := 0) hx hb dX1_playableTiles_0 (by decide) ?_
  refine lv_istore_n (lv' := [(2, .int 0), (0, .ref (ag 0)), (1, .int p0)]) hx hb dX1_playableTiles_1 rfl hl (by decide) rfl (fun ls hl => ?_)
  refine lv_iconst (v := 0) hx hb dX1_playableTiles_2 (by decide) ?_
  refine lv_istore_n (lv' := [(3, .int 0), (2, .int 0), (0, .ref (ag 0)), (1, .int p0)]) hx hb dX1_playableTiles_3 rfl hl (by decide) rfl (fun ls hl => ?_)
  have L_4 : ∀ (n_4 : Nat) (v2_4 : Int32) (v3_4 : Int32) (H : Heap) (locs : List Loc) (ls : Array Slot), va_P G vwCl (wG c ag g) H → va_D A (wG c ag g) → va_S A s.heap H locs → lv_has ls 4 [(0, .ref (ag 0)), (1, .int p0), (2, .int v2_4), (3, .int v3_4)] → itr2 (f_X1_playableTiles_B4 g p0) n_4 v2_4 v3_4 = some (r) → W p l e (rm_X1_playableTiles) s m args below meth c1 H locs 0 0 Q (F0 m 4 ls []) := by
    intro n_4
    induction n_4 with
    | zero => intro v2_4 v3_4 H locs ls hP hD hS hl hm; exact (itr2_0 hm).elim
    | succ n_4 ih_4 =>
      intro v2_4 v3_4 H locs ls hP hD hS hl hm
      have hm := itr2_s hm
      unfold f_X1_playableTiles_B4 at hm
      refine lv_iload_n hx hb dX1_playableTiles_4 rfl (lv_at hl 3 rfl) ?_
      refine lv_bipush (v := 100) hx hb dX1_playableTiles_5 (by decide) ?_
      refine lv_icmp_ge (tgt := 44) hx hb dX1_playableTiles_7 (by decide) (fun c_7 => ?_) (fun c_7 => ?_)
      · have hm := ifp c_7 hm
        refine lv_iload_n hx hb dX1_playableTiles_44 rfl (lv_at hl 2 rfl) ?_
        exact hend H locs ls _ _ _ rfl (Option.some.inj hm) rfl hP hD hS dX1_playableTiles_45
      · have hm := ifn c_7 hm
        refine lv_iload_n hx hb dX1_playableTiles_10 rfl (lv_at hl 1 rfl) ?_
        refine lv_aload_n hx hb dX1_playableTiles_11 rfl (lv_at hl 0 rfl) ?_
        refine va_get (D := G) (ci := 1) (v := .int (g.1.1 5)) (C := RX1) (T := TX1) (N := 16) hx hb hts hi_1 hown hK hP 0 rfl rfl 5 (by decide) (hts (.fieldLink RX1 57 "HubTrains$Game" "turn" "I") (List.mem_of_getElem? (i := 1) rfl)) (fun _ h9 => h9) rfl dX1_playableTiles_12 ?_
        refine lv_icmp_ne (tgt := 38) hx hb dX1_playableTiles_15 (by decide) (fun c_15 => ?_) (fun c_15 => ?_)
        · have hm := ifn c_15 hm
          refine lv_iinc (k := 3) (v := (v3_4 + 1)) (lv' := [(3, .int (v3_4 + 1)), (0, .ref (ag 0)), (1, .int p0), (2, .int v2_4)]) hx hb dX1_playableTiles_38 hl rfl rfl (by decide) rfl (fun ls hl => ?_)
          refine lv_goto (tgt := 4) hx hb dX1_playableTiles_41 (by decide) ?_
          exact ih_4 v2_4 (v3_4 + 1) H locs ls hP hD hS (lv_sub hl [1, 2, 3, 0] rfl) hm
        · have hm := ifp c_15 hm
          refine lv_aload_n hx hb dX1_playableTiles_18 rfl (lv_at hl 0 rfl) ?_
          refine lv_iload_n hx hb dX1_playableTiles_19 rfl (lv_at hl 3 rfl) ?_
          obtain ⟨r20, e_20, hm⟩ := bd1_s hm
          refine zcVi (As := [.int v3_4]) (rest := []) ⟨hx, hb, hml, hown, hts⟩ (k_X1_holderOf l G K c ag g v3_4 r20 e_20) (cwV 1 hts gX1_playableTiles_X1_holderOf rfl rfl rfl hd_X1_holderOf ⟨Nat.le_of_ble_eq_true rfl, Nat.le_of_ble_eq_true rfl⟩) hK hN hZ hP hD hS hA (va_recv hK hP (ci := 1) (q0 := 0) rfl rfl) [0, 1, 2, 3, 4, 5, 6, 7, 8, 9] rfl (by decide) rfl rfl hl.1 rfl (Nat.le_of_ble_eq_true rfl) dX1_playableTiles_20 ⟨Nat.zero_le _, Nat.zero_le _⟩ (fun H locs hP hD hS => ?_)
          have hP : va_P G vwCl (wG c ag g) H := hP
          have hD : va_D A (wG c ag g) := hD
          refine lv_iload_n hx hb dX1_playableTiles_23 rfl (lv_at hl 1 rfl) ?_
          refine lv_icmp_ne (tgt := 38) hx hb dX1_playableTiles_24 (by decide) (fun c_24 => ?_) (fun c_24 => ?_)
          · have hm := ifn c_24 hm
            refine lv_iinc (k := 3) (v := (v3_4 + 1)) (lv' := [(3, .int (v3_4 + 1)), (0, .ref (ag 0)), (1, .int p0), (2, .int v2_4)]) hx hb dX1_playableTiles_38 hl rfl rfl (by decide) rfl (fun ls hl => ?_)
            refine lv_goto (tgt := 4) hx hb dX1_playableTiles_41 (by decide) ?_
            exact ih_4 v2_4 (v3_4 + 1) H locs ls hP hD hS (lv_sub hl [1, 2, 3, 0] rfl) hm
          · have hm := ifp c_24 hm
            refine lv_aload_n hx hb dX1_playableTiles_27 rfl (lv_at hl 0 rfl) ?_
            refine lv_iload_n hx hb dX1_playableTiles_28 rfl (lv_at hl 3 rfl) ?_
            obtain ⟨r29, e_29, hm⟩ := bd1_s hm
            refine zcVi (As := [.int v3_4]) (rest := []) ⟨hx, hb, hml, hown, hts⟩ (k_X1_playsOf l G K c ag g v3_4 r29 e_29) (cwV 1 hts gX1_playableTiles_X1_playsOf rfl rfl rfl hd_X1_playsOf ⟨Nat.le_of_ble_eq_true rfl, Nat.le_of_ble_eq_true rfl⟩) hK hN hZ hP hD hS hA (va_recv hK hP (ci := 1) (q0 := 0) rfl rfl) [0, 1, 2, 3, 4, 5, 6, 7, 8, 9] rfl (by decide) rfl rfl hl.1 rfl (Nat.le_of_ble_eq_true rfl) dX1_playableTiles_29 ⟨Nat.zero_le _, Nat.zero_le _⟩ (fun H locs hP hD hS => ?_)
            have hP : va_P G vwCl (wG c ag g) H := hP
            have hD : va_D A (wG c ag g) := hD
            refine lv_if_le (tgt := 38) hx hb dX1_playableTiles_32 (by decide) (fun c_32 => ?_) (fun c_32 => ?_)
            · have hm := ifp c_32 hm
              refine lv_iinc (k := 3) (v := (v3_4 + 1)) (lv' := [(3, .int (v3_4 + 1)), (0, .ref (ag 0)), (1, .int p0), (2, .int v2_4)]) hx hb dX1_playableTiles_38 hl rfl rfl (by decide) rfl (fun ls hl => ?_)
              refine lv_goto (tgt := 4) hx hb dX1_playableTiles_41 (by decide) ?_
              exact ih_4 v2_4 (v3_4 + 1) H locs ls hP hD hS (lv_sub hl [1, 2, 3, 0] rfl) hm
            · have hm := ifn c_32 hm
              refine lv_iinc (k := 2) (v := (v2_4 + 1)) (lv' := [(2, .int (v2_4 + 1)), (0, .ref (ag 0)), (1, .int p0), (3, .int v3_4)]) hx hb dX1_playableTiles_35 hl rfl rfl (by decide) rfl (fun ls hl => ?_)
              refine lv_iinc (k := 3) (v := (v3_4 + 1)) (lv' := [(3, .int (v3_4 + 1)), (2, .int (v2_4 + 1)), (0, .ref (ag 0)), (1, .int p0)]) hx hb dX1_playableTiles_38 hl rfl rfl (by decide) rfl (fun ls hl => ?_)
              refine lv_goto (tgt := 4) hx hb dX1_playableTiles_41 (by decide) ?_
              exact ih_4 (v2_4 + 1) (v3_4 + 1) H locs ls hP hD hS (lv_sub hl [2, 3, 1, 0] rfl) hm
  exact L_4 FUEL 0 0 H locs ls hP hD hS (lv_sub hl [2, 3, 1, 0] rfl) hm


def f_X1_mayDraw (g : GS) : Option Int32 :=
  if (g.1.1 8) = 0 then (if (g.1.1 6) = 0 then (bd1 (f_X4_size g.2.2.1) fun (r18 : Int32) => if r18 ≤ 0 then (some (0)) else (bd1 (f_X1_playsNow g) fun (r25 : Int32) => if r25 = 0 then (some (1)) else (some (0)))) else (some (0))) else (some (0))

abbrev rm_X1_mayDraw : Room := { frames := 6, cells := 0, slots := 0, locals := 130 }
theorem hd_X1_mayDraw : yX1_mayDraw.cls = RX1 ∧ yX1_mayDraw.cls ≠ "java/lang/invoke/MethodHandle" ∧ yX1_mayDraw.cls ≠ "java/lang/invoke/VarHandle" ∧ (parseMethodDescriptor yX1_mayDraw.desc).map (fun d => d.parameters.length) = some 0 := by decide +kernel
set_option maxHeartbeats 4000000 in
set_option maxRecDepth 100000 in
theorem k_X1_mayDraw (l : Launch) (G : va_G) (K : (Nat → Nat) × (Nat → Nat)) (c : Nat → ClassId) (ag : Nat → Nat) (g : GS) (r : Int32) (hm : f_X1_mayDraw g = some (r)) : zMi l yX1_mayDraw wsX1_mayDraw (rm_X1_mayDraw) G K (TY c) [.ref (ag 0)] (wG c ag g) (wG c ag g) r := by
  refine zMi.of (cc := cX1_mayDraw) (maxL := 1) (lv := [(0, .ref (ag 0))]) (by decide) rfl (Nat.le_of_ble_eq_true rfl) rfl ?_
  intro p e s m args below meth c1 A Q H locs hx hb hml hown hts hK hN hZ hP hD hA hS hend ls hl
  have hown : s.vm.findClass RX1 = some m.cls := hown
  have hi_1 : ∀ w ∈ wsX10, w ∈ wsX1_mayDraw := (fun w h => List.mem_cons_of_mem _ (List.mem_append_left _ (List.mem_append_left _ (List.mem_append_right _ (h)))))
  unfold f_X1_mayDraw at hm
  refine lv_aload_n hx hb dX1_mayDraw_0 rfl (lv_at hl 0 rfl) ?_
  refine va_get (D := G) (ci := 1) (v := .int (g.1.1 8)) (C := RX1) (T := TX1) (N := 16) hx hb hts hi_1 hown hK hP 0 rfl rfl 8 (by decide) (hts (.fieldLink RX1 64 "HubTrains$Game" "over" "Z") (List.mem_of_getElem? (i := 1) rfl)) (fun _ h9 => h9) rfl dX1_mayDraw_1 ?_
  refine lv_if_ne (tgt := 35) hx hb dX1_mayDraw_4 (by decide) (fun c_4 => ?_) (fun c_4 => ?_)
  · have hm := ifn c_4 hm
    refine lv_iconst (v := 0) hx hb dX1_mayDraw_35 (by decide) ?_
    exact hend H locs ls _ _ _ (by decide) (Option.some.inj hm) rfl hP hD hS dX1_mayDraw_36
  · have hm := ifp c_4 hm
    refine lv_aload_n hx hb dX1_mayDraw_7 rfl (lv_at hl 0 rfl) ?_
    refine va_get (D := G) (ci := 1) (v := .int (g.1.1 6)) (C := RX1) (T := TX1) (N := 16) hx hb hts hi_1 hown hK hP 0 rfl rfl 6 (by decide) (hts (.fieldLink RX1 60 "HubTrains$Game" "drew" "Z") (List.mem_of_getElem? (i := 2) rfl)) (fun _ h9 => h9) rfl dX1_mayDraw_8 ?_
    refine lv_if_ne (tgt := 35) hx hb dX1_mayDraw_11 (by decide) (fun c_11 => ?_) (fun c_11 => ?_)
    · have hm := ifn c_11 hm
      refine lv_iconst (v := 0) hx hb dX1_mayDraw_35 (by decide) ?_
      exact hend H locs ls _ _ _ (by decide) (Option.some.inj hm) rfl hP hD hS dX1_mayDraw_36
    · have hm := ifp c_11 hm
      refine lv_aload_n hx hb dX1_mayDraw_14 rfl (lv_at hl 0 rfl) ?_
      refine va_get (D := G) (ci := 1) (v := .ref (ag 3)) (C := RX1) (T := TX1) (N := 16) hx hb hts hi_1 hown hK hP 0 rfl rfl 14 (by decide) (hts (.fieldLink RX1 40 "HubTrains$Game" "stock" "LHubTrains$Stock;") (List.mem_of_getElem? (i := 3) rfl)) (fun _ h9 => h9) rfl dX1_mayDraw_15 ?_
      obtain ⟨r18, e_18, hm⟩ := bd1_s hm
      refine zcVi (As := []) (rest := []) ⟨hx, hb, hml, hown, hts⟩ (k_X4_size l G K c (ag 3) (ag 4) g.2.2.1 r18 e_18) (cwV 0 hts gX1_mayDraw_X4_size rfl rfl rfl hd_X4_size ⟨Nat.le_of_ble_eq_true rfl, Nat.le_of_ble_eq_true rfl⟩) hK hN hZ hP hD hS hA (va_recv hK hP (ci := 4) (q0 := 3) rfl rfl) [3, 4] rfl (by decide) rfl rfl hl.1 rfl (Nat.le_of_ble_eq_true rfl) dX1_mayDraw_18 ⟨Nat.zero_le _, Nat.zero_le _⟩ (fun H locs hP hD hS => ?_)
      have hP : va_P G vwCl (wG c ag g) H := hP
      have hD : va_D A (wG c ag g) := hD
      refine lv_if_le (tgt := 35) hx hb dX1_mayDraw_21 (by decide) (fun c_21 => ?_) (fun c_21 => ?_)
      · have hm := ifp c_21 hm
        refine lv_iconst (v := 0) hx hb dX1_mayDraw_35 (by decide) ?_
        exact hend H locs ls _ _ _ (by decide) (Option.some.inj hm) rfl hP hD hS dX1_mayDraw_36
      · have hm := ifn c_21 hm
        refine lv_aload_n hx hb dX1_mayDraw_24 rfl (lv_at hl 0 rfl) ?_
        obtain ⟨r25, e_25, hm⟩ := bd1_s hm
        refine zcVi (As := []) (rest := []) ⟨hx, hb, hml, hown, hts⟩ (k_X1_playsNow l G K c ag g r25 e_25) (cwV 0 hts gX1_mayDraw_X1_playsNow rfl rfl rfl hd_X1_playsNow ⟨Nat.le_of_ble_eq_true rfl, Nat.le_of_ble_eq_true rfl⟩) hK hN hZ hP hD hS hA (va_recv hK hP (ci := 1) (q0 := 0) rfl rfl) [0, 1, 2, 3, 4, 5, 6, 7, 8, 9] rfl (by decide) rfl rfl hl.1 rfl (Nat.le_of_ble_eq_true rfl) dX1_mayDraw_25 ⟨Nat.zero_le _, Nat.zero_le _⟩ (fun H locs hP hD hS => ?_)
        have hP : va_P G vwCl (wG c ag g) H := hP
        have hD : va_D A (wG c ag g) := hD
        refine lv_if_ne (tgt := 35) hx hb dX1_mayDraw_28 (by decide) (fun c_28 => ?_) (fun c_28 => ?_)
        · have hm := ifn c_28 hm
          refine lv_iconst (v := 0) hx hb dX1_mayDraw_35 (by decide) ?_
          exact hend H locs ls _ _ _ (by decide) (Option.some.inj hm) rfl hP hD hS dX1_mayDraw_36
        · have hm := ifp c_28 hm
          refine lv_iconst (v := 1) hx hb dX1_mayDraw_31 (by decide) ?_
          refine lv_goto (tgt := 36) hx hb dX1_mayDraw_32 (by decide) ?_
          exact hend H locs ls _ _ _ (by decide) (Option.some.inj hm) rfl hP hD hS dX1_mayDraw_36

def f_X1_mayPass_J24 (g : GS) : Option Int32 :=
  bd1 (f_X1_playsNow g) fun (r25 : Int32) => if r25 = 0 then (some (1)) else (some (0))

def f_X1_mayPass (g : GS) : Option Int32 :=
  if (g.1.1 8) = 0 then (if (g.1.1 6) = 0 then (bd1 (f_X4_size g.2.2.1) fun (r18 : Int32) => if r18 = 0 then (f_X1_mayPass_J24 g) else (some (0))) else (f_X1_mayPass_J24 g)) else (some (0))

abbrev rm_X1_mayPass : Room := { frames := 6, cells := 0, slots := 0, locals := 130 }
theorem hd_X1_mayPass : yX1_mayPass.cls = RX1 ∧ yX1_mayPass.cls ≠ "java/lang/invoke/MethodHandle" ∧ yX1_mayPass.cls ≠ "java/lang/invoke/VarHandle" ∧ (parseMethodDescriptor yX1_mayPass.desc).map (fun d => d.parameters.length) = some 0 := by decide +kernel
set_option maxHeartbeats 4000000 in
set_option maxRecDepth 100000 in
theorem k_X1_mayPass (l : Launch) (G : va_G) (K : (Nat → Nat) × (Nat → Nat)) (c : Nat → ClassId) (ag : Nat → Nat) (g : GS) (r : Int32) (hm : f_X1_mayPass g = some (r)) : zMi l yX1_mayPass wsX1_mayPass (rm_X1_mayPass) G K (TY c) [.ref (ag 0)] (wG c ag g) (wG c ag g) r := by
  refine zMi.of (cc := cX1_mayPass) (maxL := 1) (lv := [(0, .ref (ag 0))]) (by decide) rfl (Nat.le_of_ble_eq_true rfl) rfl ?_
  intro p e s m args below meth c1 A Q H locs hx hb hml hown hts hK hN hZ hP hD hA hS hend ls hl
  have hown : s.vm.findClass RX1 = some m.cls := hown
  have hi_1 : ∀ w ∈ wsX10, w ∈ wsX1_mayPass := (fun w h => List.mem_cons_of_mem _ (List.mem_append_left _ (List.mem_append_left _ (List.mem_append_right _ (h)))))
  unfold f_X1_mayPass at hm
  refine lv_aload_n hx hb dX1_mayPass_0 rfl (lv_at hl 0 rfl) ?_
  refine va_get (D := G) (ci := 1) (v := .int (g.1.1 8)) (C := RX1) (T := TX1) (N := 16) hx hb hts hi_1 hown hK hP 0 rfl rfl 8 (by decide) (hts (.fieldLink RX1 64 "HubTrains$Game" "over" "Z") (List.mem_of_getElem? (i := 1) rfl)) (fun _ h9 => h9) rfl dX1_mayPass_1 ?_
  refine lv_if_ne (tgt := 35) hx hb dX1_mayPass_4 (by decide) (fun c_4 => ?_) (fun c_4 => ?_)
  · have hm := ifn c_4 hm
    refine lv_iconst (v := 0) hx hb dX1_mayPass_35 (by decide) ?_
    exact hend H locs ls _ _ _ (by decide) (Option.some.inj hm) rfl hP hD hS dX1_mayPass_36
  · have hm := ifp c_4 hm
    refine lv_aload_n hx hb dX1_mayPass_7 rfl (lv_at hl 0 rfl) ?_
    refine va_get (D := G) (ci := 1) (v := .int (g.1.1 6)) (C := RX1) (T := TX1) (N := 16) hx hb hts hi_1 hown hK hP 0 rfl rfl 6 (by decide) (hts (.fieldLink RX1 60 "HubTrains$Game" "drew" "Z") (List.mem_of_getElem? (i := 2) rfl)) (fun _ h9 => h9) rfl dX1_mayPass_8 ?_
    have J_24 : ∀ (H : Heap) (locs : List Loc) (ls : Array Slot), va_P G vwCl (wG c ag g) H → va_D A (wG c ag g) → va_S A s.heap H locs → lv_has ls 1 [(0, .ref (ag 0))] → f_X1_mayPass_J24 g = some (r) → W p l e (rm_X1_mayPass) s m args below meth c1 H locs 0 0 Q (F0 m 24 ls []) := by
      intro  H locs ls hP hD hS hl hm
      unfold f_X1_mayPass_J24 at hm
      refine lv_aload_n hx hb dX1_mayPass_24 rfl (lv_at hl 0 rfl) ?_
      obtain ⟨r25, e_25, hm⟩ := bd1_s hm
      refine zcVi (As := []) (rest := []) ⟨hx, hb, hml, hown, hts⟩ (k_X1_playsNow l G K c ag g r25 e_25) (cwV 0 hts gX1_mayPass_X1_playsNow rfl rfl rfl hd_X1_playsNow ⟨Nat.le_of_ble_eq_true rfl, Nat.le_of_ble_eq_true rfl⟩) hK hN hZ hP hD hS hA (va_recv hK hP (ci := 1) (q0 := 0) rfl rfl) [0, 1, 2, 3, 4, 5, 6, 7, 8, 9] rfl (by decide) rfl rfl hl.1 rfl (Nat.le_of_ble_eq_true rfl) dX1_mayPass_25 ⟨Nat.zero_le _, Nat.zero_le _⟩ (fun H locs hP hD hS => ?_)
      have hP : va_P G vwCl (wG c ag g) H := hP
      have hD : va_D A (wG c ag g) := hD
      refine lv_if_ne (tgt := 35) hx hb dX1_mayPass_28 (by decide) (fun c_28 => ?_) (fun c_28 => ?_)
      · have hm := ifn c_28 hm
        refine lv_iconst (v := 0) hx hb dX1_mayPass_35 (by decide) ?_
        exact hend H locs ls _ _ _ (by decide) (Option.some.inj hm) rfl hP hD hS dX1_mayPass_36
      · have hm := ifp c_28 hm
        refine lv_iconst (v := 1) hx hb dX1_mayPass_31 (by decide) ?_
        refine lv_goto (tgt := 36) hx hb dX1_mayPass_32 (by decide) ?_
        exact hend H locs ls _ _ _ (by decide) (Option.some.inj hm) rfl hP hD hS dX1_mayPass_36
    refine lv_if_ne (tgt := 24) hx hb dX1_mayPass_11 (by decide) (fun c_11 => ?_) (fun c_11 => ?_)
    · have hm := ifn c_11 hm
      exact J_24 H locs ls hP hD hS (lv_sub hl [0] rfl) hm
    · have hm := ifp c_11 hm
      refine lv_aload_n hx hb dX1_mayPass_14 rfl (lv_at hl 0 rfl) ?_
      refine va_get (D := G) (ci := 1) (v := .ref (ag 3)) (C := RX1) (T := TX1) (N := 16) hx hb hts hi_1 hown hK hP 0 rfl rfl 14 (by decide) (hts (.fieldLink RX1 40 "HubTrains$Game" "stock" "LHubTrains$Stock;") (List.mem_of_getElem? (i := 3) rfl)) (fun _ h9 => h9) rfl dX1_mayPass_15 ?_
      obtain ⟨r18, e_18, hm⟩ := bd1_s hm
      refine zcVi (As := []) (rest := []) ⟨hx, hb, hml, hown, hts⟩ (k_X4_size l G K c (ag 3) (ag 4) g.2.2.1 r18 e_18) (cwV 0 hts gX1_mayPass_X4_size rfl rfl rfl hd_X4_size ⟨Nat.le_of_ble_eq_true rfl, Nat.le_of_ble_eq_true rfl⟩) hK hN hZ hP hD hS hA (va_recv hK hP (ci := 4) (q0 := 3) rfl rfl) [3, 4] rfl (by decide) rfl rfl hl.1 rfl (Nat.le_of_ble_eq_true rfl) dX1_mayPass_18 ⟨Nat.zero_le _, Nat.zero_le _⟩ (fun H locs hP hD hS => ?_)
      have hP : va_P G vwCl (wG c ag g) H := hP
      have hD : va_D A (wG c ag g) := hD
      refine lv_if_ne (tgt := 35) hx hb dX1_mayPass_21 (by decide) (fun c_21 => ?_) (fun c_21 => ?_)
      · have hm := ifn c_21 hm
        refine lv_iconst (v := 0) hx hb dX1_mayPass_35 (by decide) ?_
        exact hend H locs ls _ _ _ (by decide) (Option.some.inj hm) rfl hP hD hS dX1_mayPass_36
      · have hm := ifp c_21 hm
        exact J_24 H locs ls hP hD hS (lv_sub hl [0] rfl) hm


def f_X1_drawTile (g : GS) : Option (Int32 × GS) :=
  bd2 (f_X4_takeFirst g.2.2.1) fun (r4 : Int32) (k4 : SA) => bd1 (f_X7_put 100 (g.1.2 0) r4 (g.1.1 5)) fun (h017 : Nat → Int32) => some (r4, ((sa (ss (ss g.1 6 1) 10 0) 0 h017), (g.2.1), k4, g.2.2.2))

abbrev rm_X1_drawTile : Room := { frames := 2, cells := 0, slots := 0, locals := 42 }
theorem hd_X1_drawTile : yX1_drawTile.cls = RX1 ∧ yX1_drawTile.cls ≠ "java/lang/invoke/MethodHandle" ∧ yX1_drawTile.cls ≠ "java/lang/invoke/VarHandle" ∧ (parseMethodDescriptor yX1_drawTile.desc).map (fun d => d.parameters.length) = some 0 := by decide +kernel
set_option maxHeartbeats 4000000 in
set_option maxRecDepth 100000 in
theorem k_X1_drawTile (l : Launch) (G : va_G) (K : (Nat → Nat) × (Nat → Nat)) (c : Nat → ClassId) (ag : Nat → Nat) (g : GS) (r : Int32) (g_r : GS) (hm : f_X1_drawTile g = some (r, g_r)) : zMi l yX1_drawTile wsX1_drawTile (rm_X1_drawTile) G K (TY c) [.ref (ag 0)] (wG c ag g) (wG c ag g_r) r := by
  refine zMi.of (cc := cX1_drawTile) (maxL := 2) (lv := [(0, .ref (ag 0))]) (by decide) rfl (Nat.le_of_ble_eq_true rfl) rfl ?_
  intro p e s m args below meth c1 A Q H locs hx hb hml hown hts hK hN hZ hP hD hA hS hend ls hl
  have hown : s.vm.findClass RX1 = some m.cls := hown
  have hi_1 : ∀ w ∈ wsX10, w ∈ wsX1_drawTile := (fun w h => List.mem_cons_of_mem _ (List.mem_append_left _ (List.mem_append_right _ (h))))
  unfold f_X1_drawTile at hm
  refine lv_aload_n hx hb dX1_drawTile_0 rfl (lv_at hl 0 rfl) ?_
  refine va_get (D := G) (ci := 1) (v := .ref (ag 3)) (C := RX1) (T := TX1) (N := 16) hx hb hts hi_1 hown hK hP 0 rfl rfl 14 (by decide) (hts (.fieldLink RX1 40 "HubTrains$Game" "stock" "LHubTrains$Stock;") (List.mem_of_getElem? (i := 1) rfl)) (fun _ h9 => h9) rfl dX1_drawTile_1 ?_
  obtain ⟨r4, k4, e_4, hm⟩ := bd2_s hm
  refine zcVi (As := []) (rest := []) ⟨hx, hb, hml, hown, hts⟩ (k_X4_takeFirst l G K c (ag 3) (ag 4) g.2.2.1 r4 k4 e_4) (cwV 0 hts gX1_drawTile_X4_takeFirst rfl rfl rfl hd_X4_takeFirst ⟨Nat.le_of_ble_eq_true rfl, Nat.le_of_ble_eq_true rfl⟩) hK hN hZ hP hD hS hA (va_recv hK hP (ci := 4) (q0 := 3) rfl rfl) [3, 4] rfl (by decide) rfl rfl hl.1 rfl (Nat.le_of_ble_eq_true rfl) dX1_drawTile_4 ⟨Nat.zero_le _, Nat.zero_le _⟩ (fun H locs hP hD hS => ?_)
  have hP : va_P G vwCl (wG c ag (g.1, (g.2.1), k4, g.2.2.2)) H := hP
  have hD : va_D A (wG c ag (g.1, (g.2.1), k4, g.2.2.2)) := hD
  refine lv_istore_n (lv' := [(1, .int r4), (0, .ref (ag 0))]) hx hb dX1_drawTile_7 rfl hl (by decide) rfl (fun ls hl => ?_)
  refine lv_aload_n hx hb dX1_drawTile_8 rfl (lv_at hl 1 rfl) ?_
  refine va_get (D := G) (ci := 1) (v := .ref (ag 1)) (C := RX1) (T := TX1) (N := 16) hx hb hts hi_1 hown hK hP 0 rfl rfl 12 (by decide) (hts (.fieldLink RX1 30 "HubTrains$Game" "holders" "[I") (List.mem_of_getElem? (i := 2) rfl)) (fun _ h9 => h9) rfl dX1_drawTile_9 ?_
  refine lv_iload_n hx hb dX1_drawTile_12 rfl (lv_at hl 0 rfl) ?_
  refine lv_aload_n hx hb dX1_drawTile_13 rfl (lv_at hl 1 rfl) ?_
  refine va_get (D := G) (ci := 1) (v := .int (g.1.1 5)) (C := RX1) (T := TX1) (N := 16) hx hb hts hi_1 hown hK hP 0 rfl rfl 5 (by decide) (hts (.fieldLink RX1 57 "HubTrains$Game" "turn" "I") (List.mem_of_getElem? (i := 3) rfl)) (fun _ h9 => h9) rfl dX1_drawTile_14 ?_
  obtain ⟨h017, e_17, hm⟩ := bd1_s hm
  refine zcSNv (As := [.ref (ag 1), .int r4, .int (g.1.1 5)]) (rest := []) ⟨hx, hb, hml, hown, hts⟩ (k_X7_put l G K c (ag 1) 100 (g.1.2 0) r4 (g.1.1 5) h017 e_17) ⟨va_cnB 3 hts gX1_drawTile_X7_put_n122 rfl rfl rfl (nwm_HubTrains_Game_122 hN.2.1) (hts (.initialized RX7) (List.mem_of_getElem? (i := 15) rfl)) hd_X7_put.2 ⟨Nat.le_of_ble_eq_true rfl, Nat.le_of_ble_eq_true rfl⟩, (hts (.static yX7_put) (List.mem_of_getElem? (i := 17) rfl)), trivial⟩ hK hN hZ hP hD hS hA [1] rfl (by decide) rfl rfl hl.1 rfl (Nat.le_of_ble_eq_true rfl) dX1_drawTile_17 ⟨Nat.zero_le _, Nat.zero_le _⟩ (fun H locs hP hD hS => ?_)
  have hP : va_P G vwCl (wG c ag ((sa g.1 0 h017), (g.2.1), k4, g.2.2.2)) H := hP
  have hD : va_D A (wG c ag ((sa g.1 0 h017), (g.2.1), k4, g.2.2.2)) := hD
  refine lv_aload_n hx hb dX1_drawTile_20 rfl (lv_at hl 1 rfl) ?_
  refine lv_iconst (v := 1) hx hb dX1_drawTile_21 (by decide) ?_
  refine va_put (D := G) (ci := 1) (v := .int 1) (C := RX1) (T := TX1) (N := 16) hx hb hts hi_1 tyX1 tyX1_ok nmX1 hown hK hP hD hS 0 rfl rfl 6 (by decide) (hts (.fieldLink RX1 60 "HubTrains$Game" "drew" "Z") (List.mem_of_getElem? (i := 4) rfl)) (fun _ h9 => h9) rfl (tyX1_ok 6 (by decide)) (by decide) (by decide) (Nat.le_of_ble_eq_true rfl) dX1_drawTile_22 (fun H locs hP hD hS => ?_)
  have hP : va_P G vwCl (wG c ag ((sa (ss g.1 6 1) 0 h017), (g.2.1), k4, g.2.2.2)) H := hP
  have hD : va_D A (wG c ag ((sa (ss g.1 6 1) 0 h017), (g.2.1), k4, g.2.2.2)) := hD
  refine lv_aload_n hx hb dX1_drawTile_25 rfl (lv_at hl 1 rfl) ?_
  refine lv_iconst (v := 0) hx hb dX1_drawTile_26 (by decide) ?_
  refine va_put (D := G) (ci := 1) (v := .int 0) (C := RX1) (T := TX1) (N := 16) hx hb hts hi_1 tyX1 tyX1_ok nmX1 hown hK hP hD hS 0 rfl rfl 10 (by decide) (hts (.fieldLink RX1 70 "HubTrains$Game" "passes" "I") (List.mem_of_getElem? (i := 5) rfl)) (fun _ h9 => h9) rfl (tyX1_ok 10 (by decide)) rfl rfl (Nat.le_of_ble_eq_true rfl) dX1_drawTile_27 (fun H locs hP hD hS => ?_)
  have hP : va_P G vwCl (wG c ag ((sa (ss (ss g.1 6 1) 10 0) 0 h017), (g.2.1), k4, g.2.2.2)) H := hP
  have hD : va_D A (wG c ag ((sa (ss (ss g.1 6 1) 10 0) 0 h017), (g.2.1), k4, g.2.2.2)) := hD
  refine lv_iload_n hx hb dX1_drawTile_30 rfl (lv_at hl 0 rfl) ?_
  exact hend H locs ls _ _ _ rfl (Prod.mk.inj (Option.some.inj hm)).1 (zc1 (fun (z0 : GS) => (wG c ag z0 : va_W)) (Prod.mk.inj (Option.some.inj hm)).2) hP hD hS dX1_drawTile_31


def f_X1_nextTurn (g : GS) : Option GS :=
  if (g.1.1 1) ≤ ((g.1.1 5) + 1) then (some (((ss (ss g.1 5 0) 6 0), (g.2.1), g.2.2.1, g.2.2.2))) else (some (((ss (ss g.1 5 ((g.1.1 5) + 1)) 6 0), (g.2.1), g.2.2.1, g.2.2.2)))

abbrev rm_X1_nextTurn : Room := { frames := 0, cells := 0, slots := 0, locals := 0 }
theorem hd_X1_nextTurn : yX1_nextTurn.cls = RX1 ∧ yX1_nextTurn.cls ≠ "java/lang/invoke/MethodHandle" ∧ yX1_nextTurn.cls ≠ "java/lang/invoke/VarHandle" ∧ (parseMethodDescriptor yX1_nextTurn.desc).map (fun d => d.parameters.length) = some 0 := by decide +kernel
set_option maxHeartbeats 4000000 in
set_option maxRecDepth 100000 in
theorem k_X1_nextTurn (l : Launch) (G : va_G) (K : (Nat → Nat) × (Nat → Nat)) (c : Nat → ClassId) (ag : Nat → Nat) (g : GS) (g_r : GS) (hm : f_X1_nextTurn g = some (g_r)) : zMv l yX1_nextTurn wsX1_nextTurn (rm_X1_nextTurn) G K (TY c) [.ref (ag 0)] (wG c ag g) (wG c ag g_r) := by
  refine zMv.of (cc := cX1_nextTurn) (maxL := 1) (lv := [(0, .ref (ag 0))]) (by decide) rfl (Nat.le_of_ble_eq_true rfl) rfl ?_
  intro p e s m args below meth c1 A Q H locs hx hb hml hown hts hK hN hZ hP hD hA hS hend ls hl
  have hown : s.vm.findClass RX1 = some m.cls := hown
  have hi_1 : ∀ w ∈ wsX10, w ∈ wsX1_nextTurn := (fun w h => List.mem_cons_of_mem _ (List.mem_append_right _ (h)))
  unfold f_X1_nextTurn at hm
  refine lv_aload_n hx hb dX1_nextTurn_0 rfl (lv_at hl 0 rfl) ?_
  refine lv_aload_n hx hb dX1_nextTurn_1 rfl (lv_at hl 0 rfl) ?_
  refine va_get (D := G) (ci := 1) (v := .int (g.1.1 5)) (C := RX1) (T := TX1) (N := 16) hx hb hts hi_1 hown hK hP 0 rfl rfl 5 (by decide) (hts (.fieldLink RX1 57 "HubTrains$Game" "turn" "I") (List.mem_of_getElem? (i := 1) rfl)) (fun _ h9 => h9) rfl dX1_nextTurn_2 ?_
  refine lv_iconst (v := 1) hx hb dX1_nextTurn_5 (by decide) ?_
  refine lv_iadd hx hb dX1_nextTurn_6 ?_
  refine lv_aload_n hx hb dX1_nextTurn_7 rfl (lv_at hl 0 rfl) ?_
  refine va_get (D := G) (ci := 1) (v := .int (g.1.1 1)) (C := RX1) (T := TX1) (N := 16) hx hb hts hi_1 hown hK hP 0 rfl rfl 1 (by decide) (hts (.fieldLink RX1 15 "HubTrains$Game" "players" "I") (List.mem_of_getElem? (i := 2) rfl)) (fun _ h9 => h9) rfl dX1_nextTurn_8 ?_
  refine lv_icmp_ge (tgt := 23) hx hb dX1_nextTurn_11 (by decide) (fun c_11 => ?_) (fun c_11 => ?_)
  · have hm := ifp c_11 hm
    refine lv_iconst (v := 0) hx hb dX1_nextTurn_23 (by decide) ?_
    refine va_put (D := G) (ci := 1) (v := .int 0) (C := RX1) (T := TX1) (N := 16) hx hb hts hi_1 tyX1 tyX1_ok nmX1 hown hK hP hD hS 0 rfl rfl 5 (by decide) (hts (.fieldLink RX1 57 "HubTrains$Game" "turn" "I") (List.mem_of_getElem? (i := 1) rfl)) (fun _ h9 => h9) rfl (tyX1_ok 5 (by decide)) rfl rfl (Nat.le_of_ble_eq_true rfl) dX1_nextTurn_24 (fun H locs hP hD hS => ?_)
    have hP : va_P G vwCl (wG c ag ((ss g.1 5 0), (g.2.1), g.2.2.1, g.2.2.2)) H := hP
    have hD : va_D A (wG c ag ((ss g.1 5 0), (g.2.1), g.2.2.1, g.2.2.2)) := hD
    refine lv_aload_n hx hb dX1_nextTurn_27 rfl (lv_at hl 0 rfl) ?_
    refine lv_iconst (v := 0) hx hb dX1_nextTurn_28 (by decide) ?_
    refine va_put (D := G) (ci := 1) (v := .int 0) (C := RX1) (T := TX1) (N := 16) hx hb hts hi_1 tyX1 tyX1_ok nmX1 hown hK hP hD hS 0 rfl rfl 6 (by decide) (hts (.fieldLink RX1 60 "HubTrains$Game" "drew" "Z") (List.mem_of_getElem? (i := 3) rfl)) (fun _ h9 => h9) rfl (tyX1_ok 6 (by decide)) (by decide) (by decide) (Nat.le_of_ble_eq_true rfl) dX1_nextTurn_29 (fun H locs hP hD hS => ?_)
    have hP : va_P G vwCl (wG c ag ((ss (ss g.1 5 0) 6 0), (g.2.1), g.2.2.1, g.2.2.2)) H := hP
    have hD : va_D A (wG c ag ((ss (ss g.1 5 0) 6 0), (g.2.1), g.2.2.1, g.2.2.2)) := hD
    exact hend H locs ls _ _ (zc1 (fun (z0 : GS) => (wG c ag z0 : va_W)) (Option.some.inj hm)) hP hD hS dX1_nextTurn_32
  · have hm := ifn c_11 hm
    refine lv_aload_n hx hb dX1_nextTurn_14 rfl (lv_at hl 0 rfl) ?_
    refine va_get (D := G) (ci := 1) (v := .int (g.1.1 5)) (C := RX1) (T := TX1) (N := 16) hx hb hts hi_1 hown hK hP 0 rfl rfl 5 (by decide) (hts (.fieldLink RX1 57 "HubTrains$Game" "turn" "I") (List.mem_of_getElem? (i := 1) rfl)) (fun _ h9 => h9) rfl dX1_nextTurn_15 ?_
    refine lv_iconst (v := 1) hx hb dX1_nextTurn_18 (by decide) ?_
    refine lv_iadd hx hb dX1_nextTurn_19 ?_
    refine lv_goto (tgt := 24) hx hb dX1_nextTurn_20 (by decide) ?_
    refine va_put (D := G) (ci := 1) (v := .int ((g.1.1 5) + 1)) (C := RX1) (T := TX1) (N := 16) hx hb hts hi_1 tyX1 tyX1_ok nmX1 hown hK hP hD hS 0 rfl rfl 5 (by decide) (hts (.fieldLink RX1 57 "HubTrains$Game" "turn" "I") (List.mem_of_getElem? (i := 1) rfl)) (fun _ h9 => h9) rfl (tyX1_ok 5 (by decide)) rfl rfl (Nat.le_of_ble_eq_true rfl) dX1_nextTurn_24 (fun H locs hP hD hS => ?_)
    have hP : va_P G vwCl (wG c ag ((ss g.1 5 ((g.1.1 5) + 1)), (g.2.1), g.2.2.1, g.2.2.2)) H := hP
    have hD : va_D A (wG c ag ((ss g.1 5 ((g.1.1 5) + 1)), (g.2.1), g.2.2.1, g.2.2.2)) := hD
    refine lv_aload_n hx hb dX1_nextTurn_27 rfl (lv_at hl 0 rfl) ?_
    refine lv_iconst (v := 0) hx hb dX1_nextTurn_28 (by decide) ?_
    refine va_put (D := G) (ci := 1) (v := .int 0) (C := RX1) (T := TX1) (N := 16) hx hb hts hi_1 tyX1 tyX1_ok nmX1 hown hK hP hD hS 0 rfl rfl 6 (by decide) (hts (.fieldLink RX1 60 "HubTrains$Game" "drew" "Z") (List.mem_of_getElem? (i := 3) rfl)) (fun _ h9 => h9) rfl (tyX1_ok 6 (by decide)) (by decide) (by decide) (Nat.le_of_ble_eq_true rfl) dX1_nextTurn_29 (fun H locs hP hD hS => ?_)
    have hP : va_P G vwCl (wG c ag ((ss (ss g.1 5 ((g.1.1 5) + 1)) 6 0), (g.2.1), g.2.2.1, g.2.2.2)) H := hP
    have hD : va_D A (wG c ag ((ss (ss g.1 5 ((g.1.1 5) + 1)) 6 0), (g.2.1), g.2.2.1, g.2.2.2)) := hD
    exact hend H locs ls _ _ (zc1 (fun (z0 : GS) => (wG c ag z0 : va_W)) (Option.some.inj hm)) hP hD hS dX1_nextTurn_32

def f_X1_endRound_B17  (rec_17 : Int32 → GS → Option GS) (v1_17 : Int32) (g_17 : GS) : Option GS :=
  if (g_17.1.1 1) ≤ v1_17 then (some (g_17)) else (bd1 (f_X7_look 4 (g_17.1.2 1) v1_17) fun (r35 : Int32) => bd1 (f_X1_handPips g_17 v1_17) fun (r40 : Int32) => bd1 (f_X7_put 4 (g_17.1.2 1) v1_17 (r35 + r40)) fun (h044 : Nat → Int32) => rec_17 (v1_17 + 1) ((sa g_17.1 1 h044), (g_17.2.1), g_17.2.2.1, g_17.2.2.2))

def f_X1_endRound (g : GS) : Option GS :=
  itr2 f_X1_endRound_B17 FUEL 0 ((ss (ss g.1 8 1) 9 ((g.1.1 9) + 1)), (g.2.1), g.2.2.1, g.2.2.2)

abbrev rm_X1_endRound : Room := { frames := 3, cells := 0, slots := 0, locals := 63 }
theorem hd_X1_endRound : yX1_endRound.cls = RX1 ∧ yX1_endRound.cls ≠ "java/lang/invoke/MethodHandle" ∧ yX1_endRound.cls ≠ "java/lang/invoke/VarHandle" ∧ (parseMethodDescriptor yX1_endRound.desc).map (fun d => d.parameters.length) = some 0 := by decide +kernel
set_option maxHeartbeats 4000000 in
set_option maxRecDepth 100000 in
theorem k_X1_endRound (l : Launch) (G : va_G) (K : (Nat → Nat) × (Nat → Nat)) (c : Nat → ClassId) (ag : Nat → Nat) (g : GS) (g_r : GS) (hm : f_X1_endRound g = some (g_r)) : zMv l yX1_endRound wsX1_endRound (rm_X1_endRound) G K (TY c) [.ref (ag 0)] (wG c ag g) (wG c ag g_r) := by
  refine zMv.of (cc := cX1_endRound) (maxL := 2) (lv := [(0, .ref (ag 0))]) (by decide) rfl (Nat.le_of_ble_eq_true rfl) rfl ?_
  intro p e s m args below meth c1 A Q H locs hx hb hml hown hts hK hN hZ hP hD hA hS hend ls hl
  have hown : s.vm.findClass RX1 = some m.cls := hown
  have hi_1 : ∀ w ∈ wsX10, w ∈ wsX1_endRound := (fun w h => List.mem_cons_of_mem _ (List.mem_append_right _ (h)))
  unfold f_X1_endRound at hm
  refine lv_aload_n hx hb dX1_endRound_0 rfl (lv_at hl 0 rfl) ?_
  refine lv_iconst (v := 1) hx hb dX1_endRound_1 (by decide) ?_
  refine va_put (D := G) (ci := 1) (v := .int 1) (C := RX1) (T := TX1) (N := 16) hx hb hts hi_1 tyX1 tyX1_ok nmX1 hown hK hP hD hS 0 rfl rfl 8 (by decide) (hts (.fieldLink RX1 64 "HubTrains$Game" "over" "Z") (List.mem_of_getElem? (i := 1) rfl)) (fun _ h9 => h9) rfl (tyX1_ok 8 (by decide)) (by decide) (by decide) (Nat.le_of_ble_eq_true rfl) dX1_endRound_2 (fun H locs hP hD hS => ?_)
  have hP : va_P G vwCl (wG c ag ((ss g.1 8 1), (g.2.1), g.2.2.1, g.2.2.2)) H := hP
  have hD : va_D A (wG c ag ((ss g.1 8 1), (g.2.1), g.2.2.1, g.2.2.2)) := hD
  refine lv_aload_n hx hb dX1_endRound_5 rfl (lv_at hl 0 rfl) ?_
  refine lv_dup hx hb dX1_endRound_6 rfl ?_
  refine va_get (D := G) (ci := 1) (v := .int (g.1.1 9)) (C := RX1) (T := TX1) (N := 16) hx hb hts hi_1 hown hK hP 0 rfl rfl 9 (by decide) (hts (.fieldLink RX1 67 "HubTrains$Game" "rounds" "I") (List.mem_of_getElem? (i := 2) rfl)) (fun _ h9 => h9) rfl dX1_endRound_7 ?_
  refine lv_iconst (v := 1) hx hb dX1_endRound_10 (by decide) ?_
  refine lv_iadd hx hb dX1_endRound_11 ?_
  refine va_put (D := G) (ci := 1) (v := .int ((g.1.1 9) + 1)) (C := RX1) (T := TX1) (N := 16) hx hb hts hi_1 tyX1 tyX1_ok nmX1 hown hK hP hD hS 0 rfl rfl 9 (by decide) (hts (.fieldLink RX1 67 "HubTrains$Game" "rounds" "I") (List.mem_of_getElem? (i := 2) rfl)) (fun _ h9 => h9) rfl (tyX1_ok 9 (by decide)) rfl rfl (Nat.le_of_ble_eq_true rfl) dX1_endRound_12 (fun H locs hP hD hS => ?_)
  have hP : va_P G vwCl (wG c ag ((ss (ss g.1 8 1) 9 ((g.1.1 9) + 1)), (g.2.1), g.2.2.1, g.2.2.2)) H := hP
  have hD : va_D A (wG c ag ((ss (ss g.1 8 1) 9 ((g.1.1 9) + 1)), (g.2.1), g.2.2.1, g.2.2.2)) := hD
  refine lv_iconst (v := 0) hx hb dX1_endRound_15 (by decide) ?_
  refine lv_istore_n (lv' := [(1, .int 0), (0, .ref (ag 0))]) hx hb dX1_endRound_16 rfl hl (by decide) rfl (fun ls hl => ?_)
  have L_17 : ∀ (n_17 : Nat) (v1_17 : Int32) (g_17 : GS) (H : Heap) (locs : List Loc) (ls : Array Slot), va_P G vwCl (wG c ag g_17) H → va_D A (wG c ag g_17) → va_S A s.heap H locs → lv_has ls 2 [(0, .ref (ag 0)), (1, .int v1_17)] → itr2 f_X1_endRound_B17 n_17 v1_17 g_17 = some (g_r) → W p l e (rm_X1_endRound) s m args below meth c1 H locs 0 0 Q (F0 m 17 ls []) := by
    intro n_17
    induction n_17 with
    | zero => intro v1_17 g_17 H locs ls hP hD hS hl hm; exact (itr2_0 hm).elim
    | succ n_17 ih_17 =>
      intro v1_17 g_17 H locs ls hP hD hS hl hm
      have hm := itr2_s hm
      unfold f_X1_endRound_B17 at hm
      refine lv_iload_n hx hb dX1_endRound_17 rfl (lv_at hl 1 rfl) ?_
      refine lv_aload_n hx hb dX1_endRound_18 rfl (lv_at hl 0 rfl) ?_
      refine va_get (D := G) (ci := 1) (v := .int (g_17.1.1 1)) (C := RX1) (T := TX1) (N := 16) hx hb hts hi_1 hown hK hP 0 rfl rfl 1 (by decide) (hts (.fieldLink RX1 15 "HubTrains$Game" "players" "I") (List.mem_of_getElem? (i := 3) rfl)) (fun _ h9 => h9) rfl dX1_endRound_19 ?_
      refine lv_icmp_ge (tgt := 53) hx hb dX1_endRound_22 (by decide) (fun c_22 => ?_) (fun c_22 => ?_)
      · have hm := ifp c_22 hm
        exact hend H locs ls _ _ (zc1 (fun (z0 : GS) => (wG c ag z0 : va_W)) (Option.some.inj hm)) hP hD hS dX1_endRound_53
      · have hm := ifn c_22 hm
        refine lv_aload_n hx hb dX1_endRound_25 rfl (lv_at hl 0 rfl) ?_
        refine va_get (D := G) (ci := 1) (v := .ref (ag 2)) (C := RX1) (T := TX1) (N := 16) hx hb hts hi_1 hown hK hP 0 rfl rfl 13 (by decide) (hts (.fieldLink RX1 34 "HubTrains$Game" "totals" "[I") (List.mem_of_getElem? (i := 4) rfl)) (fun _ h9 => h9) rfl dX1_endRound_26 ?_
        refine lv_iload_n hx hb dX1_endRound_29 rfl (lv_at hl 1 rfl) ?_
        refine lv_aload_n hx hb dX1_endRound_30 rfl (lv_at hl 0 rfl) ?_
        refine va_get (D := G) (ci := 1) (v := .ref (ag 2)) (C := RX1) (T := TX1) (N := 16) hx hb hts hi_1 hown hK hP 0 rfl rfl 13 (by decide) (hts (.fieldLink RX1 34 "HubTrains$Game" "totals" "[I") (List.mem_of_getElem? (i := 4) rfl)) (fun _ h9 => h9) rfl dX1_endRound_31 ?_
        refine lv_iload_n hx hb dX1_endRound_34 rfl (lv_at hl 1 rfl) ?_
        obtain ⟨r35, e_35, hm⟩ := bd1_s hm
        refine zcSNi (As := [.ref (ag 2), .int v1_17]) (rest := [.int v1_17, .ref (ag 2)]) ⟨hx, hb, hml, hown, hts⟩ (k_X7_look l G K c (ag 2) 4 (g_17.1.2 1) v1_17 r35 e_35) ⟨va_cnB 2 hts gX1_endRound_X7_look_n185 rfl rfl rfl (nwm_HubTrains_Game_185 hN.2.1) (hts (.initialized RX7) (List.mem_of_getElem? (i := 6) rfl)) hd_X7_look.2 ⟨Nat.le_of_ble_eq_true rfl, Nat.le_of_ble_eq_true rfl⟩, (hts (.static yX7_look) (List.mem_of_getElem? (i := 5) rfl)), trivial⟩ hK hN hZ hP hD hS hA [2] rfl (by decide) rfl rfl hl.1 rfl (Nat.le_of_ble_eq_true rfl) dX1_endRound_35 ⟨Nat.zero_le _, Nat.zero_le _⟩ (fun H locs hP hD hS => ?_)
        have hP : va_P G vwCl (wG c ag g_17) H := hP
        have hD : va_D A (wG c ag g_17) := hD
        refine lv_aload_n hx hb dX1_endRound_38 rfl (lv_at hl 0 rfl) ?_
        refine lv_iload_n hx hb dX1_endRound_39 rfl (lv_at hl 1 rfl) ?_
        obtain ⟨r40, e_40, hm⟩ := bd1_s hm
        refine zcVi (As := [.int v1_17]) (rest := [.int r35, .int v1_17, .ref (ag 2)]) ⟨hx, hb, hml, hown, hts⟩ (k_X1_handPips l G K c ag g_17 v1_17 r40 e_40) (cwV 1 hts gX1_endRound_X1_handPips rfl rfl rfl hd_X1_handPips ⟨Nat.le_of_ble_eq_true rfl, Nat.le_of_ble_eq_true rfl⟩) hK hN hZ hP hD hS hA (va_recv hK hP (ci := 1) (q0 := 0) rfl rfl) [0, 1, 2, 3, 4, 5, 6, 7, 8, 9] rfl (by decide) rfl rfl hl.1 rfl (Nat.le_of_ble_eq_true rfl) dX1_endRound_40 ⟨Nat.zero_le _, Nat.zero_le _⟩ (fun H locs hP hD hS => ?_)
        have hP : va_P G vwCl (wG c ag g_17) H := hP
        have hD : va_D A (wG c ag g_17) := hD
        refine lv_iadd hx hb dX1_endRound_43 ?_
        obtain ⟨h044, e_44, hm⟩ := bd1_s hm
        refine zcSNv (As := [.ref (ag 2), .int v1_17, .int (r35 + r40)]) (rest := []) ⟨hx, hb, hml, hown, hts⟩ (k_X7_put l G K c (ag 2) 4 (g_17.1.2 1) v1_17 (r35 + r40) h044 e_44) ⟨va_cnB 3 hts gX1_endRound_X7_put_n122 rfl rfl rfl (nwm_HubTrains_Game_122 hN.2.1) (hts (.initialized RX7) (List.mem_of_getElem? (i := 6) rfl)) hd_X7_put.2 ⟨Nat.le_of_ble_eq_true rfl, Nat.le_of_ble_eq_true rfl⟩, (hts (.static yX7_put) (List.mem_of_getElem? (i := 26) rfl)), trivial⟩ hK hN hZ hP hD hS hA [2] rfl (by decide) rfl rfl hl.1 rfl (Nat.le_of_ble_eq_true rfl) dX1_endRound_44 ⟨Nat.zero_le _, Nat.zero_le _⟩ (fun H locs hP hD hS => ?_)
        have hP : va_P G vwCl (wG c ag ((sa g_17.1 1 h044), (g_17.2.1), g_17.2.2.1, g_17.2.2.2)) H := hP
        have hD : va_D A (wG c ag ((sa g_17.1 1 h044), (g_17.2.1), g_17.2.2.1, g_17.2.2.2)) := hD
        refine lv_iinc (k := 1) (v := (v1_17 + 1)) (lv' := [(1, .int (v1_17 + 1)), (0, .ref (ag 0))]) hx hb dX1_endRound_47 hl rfl rfl (by decide) rfl (fun ls hl => ?_)
        refine lv_goto (tgt := 17) hx hb dX1_endRound_50 (by decide) ?_
        exact ih_17 (v1_17 + 1) ((sa g_17.1 1 h044), (g_17.2.1), g_17.2.2.1, g_17.2.2.2) H locs ls hP hD hS (lv_sub hl [1, 0] rfl) hm
  exact L_17 FUEL 0 ((ss (ss g.1 8 1) 9 ((g.1.1 9) + 1)), (g.2.1), g.2.2.1, g.2.2.2) H locs ls hP hD hS (lv_sub hl [1, 0] rfl) hm


def f_X1_passTurn (g : GS) : Option GS :=
  bd1 (f_X6_setOpen g.2.2.2 (g.1.1 5) 1) fun (t9 : SA) => if ((g.1.1 10) + 1) < (g.1.1 1) then (bd1 (f_X1_nextTurn ((ss g.1 10 ((g.1.1 10) + 1)), (g.2.1), g.2.2.1, t9)) fun (g41 : GS) => some (g41)) else (bd1 (f_X1_endRound ((ss g.1 10 ((g.1.1 10) + 1)), (g.2.1), g.2.2.1, t9)) fun (g34 : GS) => some (g34))

abbrev rm_X1_passTurn : Room := { frames := 4, cells := 0, slots := 0, locals := 84 }
theorem hd_X1_passTurn : yX1_passTurn.cls = RX1 ∧ yX1_passTurn.cls ≠ "java/lang/invoke/MethodHandle" ∧ yX1_passTurn.cls ≠ "java/lang/invoke/VarHandle" ∧ (parseMethodDescriptor yX1_passTurn.desc).map (fun d => d.parameters.length) = some 0 := by decide +kernel
set_option maxHeartbeats 4000000 in
set_option maxRecDepth 100000 in
theorem k_X1_passTurn (l : Launch) (G : va_G) (K : (Nat → Nat) × (Nat → Nat)) (c : Nat → ClassId) (ag : Nat → Nat) (g : GS) (g_r : GS) (hm : f_X1_passTurn g = some (g_r)) : zMv l yX1_passTurn wsX1_passTurn (rm_X1_passTurn) G K (TY c) [.ref (ag 0)] (wG c ag g) (wG c ag g_r) := by
  refine zMv.of (cc := cX1_passTurn) (maxL := 1) (lv := [(0, .ref (ag 0))]) (by decide) rfl (Nat.le_of_ble_eq_true rfl) rfl ?_
  intro p e s m args below meth c1 A Q H locs hx hb hml hown hts hK hN hZ hP hD hA hS hend ls hl
  have hown : s.vm.findClass RX1 = some m.cls := hown
  have hi_1 : ∀ w ∈ wsX10, w ∈ wsX1_passTurn := (fun w h => List.mem_cons_of_mem _ (List.mem_append_left _ (List.mem_append_right _ (h))))
  unfold f_X1_passTurn at hm
  refine lv_aload_n hx hb dX1_passTurn_0 rfl (lv_at hl 0 rfl) ?_
  refine va_get (D := G) (ci := 1) (v := .ref (ag 5)) (C := RX1) (T := TX1) (N := 16) hx hb hts hi_1 hown hK hP 0 rfl rfl 15 (by decide) (hts (.fieldLink RX1 47 "HubTrains$Game" "tracks" "LHubTrains$Tracks;") (List.mem_of_getElem? (i := 1) rfl)) (fun _ h9 => h9) rfl dX1_passTurn_1 ?_
  refine lv_aload_n hx hb dX1_passTurn_4 rfl (lv_at hl 0 rfl) ?_
  refine va_get (D := G) (ci := 1) (v := .int (g.1.1 5)) (C := RX1) (T := TX1) (N := 16) hx hb hts hi_1 hown hK hP 0 rfl rfl 5 (by decide) (hts (.fieldLink RX1 57 "HubTrains$Game" "turn" "I") (List.mem_of_getElem? (i := 2) rfl)) (fun _ h9 => h9) rfl dX1_passTurn_5 ?_
  refine lv_iconst (v := 1) hx hb dX1_passTurn_8 (by decide) ?_
  obtain ⟨t9, e_9, hm⟩ := bd1_s hm
  refine zcVv (As := [.int (g.1.1 5), .int 1]) (rest := []) ⟨hx, hb, hml, hown, hts⟩ (k_X6_setOpen l G K c (ag 5) (ag 6) (ag 7) (ag 8) (ag 9) g.2.2.2 (g.1.1 5) 1 t9 e_9) (cwV 2 hts gX1_passTurn_X6_setOpen rfl rfl rfl hd_X6_setOpen ⟨Nat.le_of_ble_eq_true rfl, Nat.le_of_ble_eq_true rfl⟩) hK hN hZ hP hD hS hA (va_recv hK hP (ci := 6) (q0 := 5) rfl rfl) [5, 6, 7, 8, 9] rfl (by decide) rfl rfl hl.1 rfl (Nat.le_of_ble_eq_true rfl) dX1_passTurn_9 ⟨Nat.zero_le _, Nat.zero_le _⟩ (fun H locs hP hD hS => ?_)
  have hP : va_P G vwCl (wG c ag (g.1, (g.2.1), g.2.2.1, t9)) H := hP
  have hD : va_D A (wG c ag (g.1, (g.2.1), g.2.2.1, t9)) := hD
  refine lv_aload_n hx hb dX1_passTurn_12 rfl (lv_at hl 0 rfl) ?_
  refine lv_dup hx hb dX1_passTurn_13 rfl ?_
  refine va_get (D := G) (ci := 1) (v := .int (g.1.1 10)) (C := RX1) (T := TX1) (N := 16) hx hb hts hi_1 hown hK hP 0 rfl rfl 10 (by decide) (hts (.fieldLink RX1 70 "HubTrains$Game" "passes" "I") (List.mem_of_getElem? (i := 3) rfl)) (fun _ h9 => h9) rfl dX1_passTurn_14 ?_
  refine lv_iconst (v := 1) hx hb dX1_passTurn_17 (by decide) ?_
  refine lv_iadd hx hb dX1_passTurn_18 ?_
  refine va_put (D := G) (ci := 1) (v := .int ((g.1.1 10) + 1)) (C := RX1) (T := TX1) (N := 16) hx hb hts hi_1 tyX1 tyX1_ok nmX1 hown hK hP hD hS 0 rfl rfl 10 (by decide) (hts (.fieldLink RX1 70 "HubTrains$Game" "passes" "I") (List.mem_of_getElem? (i := 3) rfl)) (fun _ h9 => h9) rfl (tyX1_ok 10 (by decide)) rfl rfl (Nat.le_of_ble_eq_true rfl) dX1_passTurn_19 (fun H locs hP hD hS => ?_)
  have hP : va_P G vwCl (wG c ag ((ss g.1 10 ((g.1.1 10) + 1)), (g.2.1), g.2.2.1, t9)) H := hP
  have hD : va_D A (wG c ag ((ss g.1 10 ((g.1.1 10) + 1)), (g.2.1), g.2.2.1, t9)) := hD
  refine lv_aload_n hx hb dX1_passTurn_22 rfl (lv_at hl 0 rfl) ?_
  refine va_get (D := G) (ci := 1) (v := .int ((g.1.1 10) + 1)) (C := RX1) (T := TX1) (N := 16) hx hb hts hi_1 hown hK hP 0 rfl rfl 10 (by decide) (hts (.fieldLink RX1 70 "HubTrains$Game" "passes" "I") (List.mem_of_getElem? (i := 3) rfl)) (fun _ h9 => h9) rfl dX1_passTurn_23 ?_
  refine lv_aload_n hx hb dX1_passTurn_26 rfl (lv_at hl 0 rfl) ?_
  refine va_get (D := G) (ci := 1) (v := .int (g.1.1 1)) (C := RX1) (T := TX1) (N := 16) hx hb hts hi_1 hown hK hP 0 rfl rfl 1 (by decide) (hts (.fieldLink RX1 15 "HubTrains$Game" "players" "I") (List.mem_of_getElem? (i := 4) rfl)) (fun _ h9 => h9) rfl dX1_passTurn_27 ?_
  refine lv_icmp_lt (tgt := 40) hx hb dX1_passTurn_30 (by decide) (fun c_30 => ?_) (fun c_30 => ?_)
  · have hm := ifp c_30 hm
    refine lv_aload_n hx hb dX1_passTurn_40 rfl (lv_at hl 0 rfl) ?_
    obtain ⟨g41, e_41, hm⟩ := bd1_s hm
    refine zcVv (As := []) (rest := []) ⟨hx, hb, hml, hown, hts⟩ (k_X1_nextTurn l G K c ag ((ss g.1 10 ((g.1.1 10) + 1)), (g.2.1), g.2.2.1, t9) g41 e_41) (cwV 0 hts gX1_passTurn_X1_nextTurn rfl rfl rfl hd_X1_nextTurn ⟨Nat.le_of_ble_eq_true rfl, Nat.le_of_ble_eq_true rfl⟩) hK hN hZ hP hD hS hA (va_recv hK hP (ci := 1) (q0 := 0) rfl rfl) [0, 1, 2, 3, 4, 5, 6, 7, 8, 9] rfl (by decide) rfl rfl hl.1 rfl (Nat.le_of_ble_eq_true rfl) dX1_passTurn_41 ⟨Nat.zero_le _, Nat.zero_le _⟩ (fun H locs hP hD hS => ?_)
    have hP : va_P G vwCl (wG c ag g41) H := hP
    have hD : va_D A (wG c ag g41) := hD
    exact hend H locs ls _ _ (zc1 (fun (z0 : GS) => (wG c ag z0 : va_W)) (Option.some.inj hm)) hP hD hS dX1_passTurn_44
  · have hm := ifn c_30 hm
    refine lv_aload_n hx hb dX1_passTurn_33 rfl (lv_at hl 0 rfl) ?_
    obtain ⟨g34, e_34, hm⟩ := bd1_s hm
    refine zcVv (As := []) (rest := []) ⟨hx, hb, hml, hown, hts⟩ (k_X1_endRound l G K c ag ((ss g.1 10 ((g.1.1 10) + 1)), (g.2.1), g.2.2.1, t9) g34 e_34) (cwV 0 hts gX1_passTurn_X1_endRound rfl rfl rfl hd_X1_endRound ⟨Nat.le_of_ble_eq_true rfl, Nat.le_of_ble_eq_true rfl⟩) hK hN hZ hP hD hS hA (va_recv hK hP (ci := 1) (q0 := 0) rfl rfl) [0, 1, 2, 3, 4, 5, 6, 7, 8, 9] rfl (by decide) rfl rfl hl.1 rfl (Nat.le_of_ble_eq_true rfl) dX1_passTurn_34 ⟨Nat.zero_le _, Nat.zero_le _⟩ (fun H locs hP hD hS => ?_)
    have hP : va_P G vwCl (wG c ag g34) H := hP
    have hD : va_D A (wG c ag g34) := hD
    refine lv_goto (tgt := 44) hx hb dX1_passTurn_37 (by decide) ?_
    exact hend H locs ls _ _ (zc1 (fun (z0 : GS) => (wG c ag z0 : va_W)) (Option.some.inj hm)) hP hD hS dX1_passTurn_44

def f_X1_layTile_J48 (p0 : Int32) (g_35 : GS) (s0_48 : Int32) : Option GS :=
  bd1 (f_X1_handCount ((ss (ss g_35.1 7 s0_48) 10 0), (g_35.2.1), g_35.2.2.1, g_35.2.2.2) (g_35.1.1 5)) fun (r61 : Int32) => if r61 = 0 then (bd1 (f_X1_endRound ((ss (ss g_35.1 7 s0_48) 10 0), (g_35.2.1), g_35.2.2.1, g_35.2.2.2)) fun (g68 : GS) => some (g68)) else (bd1 (f_X7_isDouble p0) fun (r75 : Int32) => if r75 = 0 then (bd1 (f_X1_nextTurn ((ss (ss g_35.1 7 s0_48) 10 0), (g_35.2.1), g_35.2.2.1, g_35.2.2.2)) fun (g90 : GS) => some (g90)) else (some (((ss (ss (ss g_35.1 7 s0_48) 10 0) 6 0), (g_35.2.1), g_35.2.2.1, g_35.2.2.2))))

def f_X1_layTile_J35 (p0 : Int32) (p1 : Int32) (g_35 : GS) : Option GS :=
  bd1 (f_X7_isDouble p0) fun (r37 : Int32) => if r37 = 0 then (f_X1_layTile_J48 p0 g_35 (-1)) else (f_X1_layTile_J48 p0 g_35 p1)

def f_X1_layTile (g : GS) (p0 : Int32) (p1 : Int32) : Option GS :=
  bd1 (f_X7_put 100 (g.1.2 0) p0 (-1)) fun (h06 : Nat → Int32) => bd1 (f_X6_lay g.2.2.2 p0 p1) fun (t15 : SA) => if p1 = (g.1.1 5) then (bd1 (f_X6_setOpen t15 p1 0) fun (t32 : SA) => f_X1_layTile_J35 p0 p1 ((sa g.1 0 h06), (g.2.1), g.2.2.1, t32)) else (f_X1_layTile_J35 p0 p1 ((sa g.1 0 h06), (g.2.1), g.2.2.1, t15))

abbrev rm_X1_layTile : Room := { frames := 4, cells := 0, slots := 0, locals := 84 }
theorem hd_X1_layTile : yX1_layTile.cls = RX1 ∧ yX1_layTile.cls ≠ "java/lang/invoke/MethodHandle" ∧ yX1_layTile.cls ≠ "java/lang/invoke/VarHandle" ∧ (parseMethodDescriptor yX1_layTile.desc).map (fun d => d.parameters.length) = some 2 := by decide +kernel
set_option maxHeartbeats 4000000 in
set_option maxRecDepth 100000 in
theorem k_X1_layTile (l : Launch) (G : va_G) (K : (Nat → Nat) × (Nat → Nat)) (c : Nat → ClassId) (ag : Nat → Nat) (g : GS) (p0 : Int32) (p1 : Int32) (g_r : GS) (hm : f_X1_layTile g p0 p1 = some (g_r)) : zMv l yX1_layTile wsX1_layTile (rm_X1_layTile) G K (TY c) [.ref (ag 0), .int p0, .int p1] (wG c ag g) (wG c ag g_r) := by
  refine zMv.of (cc := cX1_layTile) (maxL := 3) (lv := [(0, .ref (ag 0)), (1, .int p0), (2, .int p1)]) (by decide) rfl (Nat.le_of_ble_eq_true rfl) rfl ?_
  intro p e s m args below meth c1 A Q H locs hx hb hml hown hts hK hN hZ hP hD hA hS hend ls hl
  have hown : s.vm.findClass RX1 = some m.cls := hown
  have hi_1 : ∀ w ∈ wsX10, w ∈ wsX1_layTile := (fun w h => List.mem_cons_of_mem _ (List.mem_append_left _ (List.mem_append_right _ (h))))
  unfold f_X1_layTile at hm
  refine lv_aload_n hx hb dX1_layTile_0 rfl (lv_at hl 0 rfl) ?_
  refine va_get (D := G) (ci := 1) (v := .ref (ag 1)) (C := RX1) (T := TX1) (N := 16) hx hb hts hi_1 hown hK hP 0 rfl rfl 12 (by decide) (hts (.fieldLink RX1 30 "HubTrains$Game" "holders" "[I") (List.mem_of_getElem? (i := 1) rfl)) (fun _ h9 => h9) rfl dX1_layTile_1 ?_
  refine lv_iload_n hx hb dX1_layTile_4 rfl (lv_at hl 1 rfl) ?_
  refine lv_iconst (v := (-1)) hx hb dX1_layTile_5 (by decide) ?_
  obtain ⟨h06, e_6, hm⟩ := bd1_s hm
  refine zcSNv (As := [.ref (ag 1), .int p0, .int (-1)]) (rest := []) ⟨hx, hb, hml, hown, hts⟩ (k_X7_put l G K c (ag 1) 100 (g.1.2 0) p0 (-1) h06 e_6) ⟨va_cnB 3 hts gX1_layTile_X7_put_n122 rfl rfl rfl (nwm_HubTrains_Game_122 hN.2.1) (hts (.initialized RX7) (List.mem_of_getElem? (i := 8) rfl)) hd_X7_put.2 ⟨Nat.le_of_ble_eq_true rfl, Nat.le_of_ble_eq_true rfl⟩, (hts (.static yX7_put) (List.mem_of_getElem? (i := 7) rfl)), trivial⟩ hK hN hZ hP hD hS hA [1] rfl (by decide) rfl rfl hl.1 rfl (Nat.le_of_ble_eq_true rfl) dX1_layTile_6 ⟨Nat.zero_le _, Nat.zero_le _⟩ (fun H locs hP hD hS => ?_)
  have hP : va_P G vwCl (wG c ag ((sa g.1 0 h06), (g.2.1), g.2.2.1, g.2.2.2)) H := hP
  have hD : va_D A (wG c ag ((sa g.1 0 h06), (g.2.1), g.2.2.1, g.2.2.2)) := hD
  refine lv_aload_n hx hb dX1_layTile_9 rfl (lv_at hl 0 rfl) ?_
  refine va_get (D := G) (ci := 1) (v := .ref (ag 5)) (C := RX1) (T := TX1) (N := 16) hx hb hts hi_1 hown hK hP 0 rfl rfl 15 (by decide) (hts (.fieldLink RX1 47 "HubTrains$Game" "tracks" "LHubTrains$Tracks;") (List.mem_of_getElem? (i := 2) rfl)) (fun _ h9 => h9) rfl dX1_layTile_10 ?_
  refine lv_iload_n hx hb dX1_layTile_13 rfl (lv_at hl 1 rfl) ?_
  refine lv_iload_n hx hb dX1_layTile_14 rfl (lv_at hl 2 rfl) ?_
  obtain ⟨t15, e_15, hm⟩ := bd1_s hm
  refine zcVv (As := [.int p0, .int p1]) (rest := []) ⟨hx, hb, hml, hown, hts⟩ (k_X6_lay l G K c (ag 5) (ag 6) (ag 7) (ag 8) (ag 9) g.2.2.2 p0 p1 t15 e_15) (cwV 2 hts gX1_layTile_X6_lay rfl rfl rfl hd_X6_lay ⟨Nat.le_of_ble_eq_true rfl, Nat.le_of_ble_eq_true rfl⟩) hK hN hZ hP hD hS hA (va_recv hK hP (ci := 6) (q0 := 5) rfl rfl) [5, 6, 7, 8, 9] rfl (by decide) rfl rfl hl.1 rfl (Nat.le_of_ble_eq_true rfl) dX1_layTile_15 ⟨Nat.zero_le _, Nat.zero_le _⟩ (fun H locs hP hD hS => ?_)
  have hP : va_P G vwCl (wG c ag ((sa g.1 0 h06), (g.2.1), g.2.2.1, t15)) H := hP
  have hD : va_D A (wG c ag ((sa g.1 0 h06), (g.2.1), g.2.2.1, t15)) := hD
  refine lv_iload_n hx hb dX1_layTile_18 rfl (lv_at hl 2 rfl) ?_
  refine lv_aload_n hx hb dX1_layTile_19 rfl (lv_at hl 0 rfl) ?_
  refine va_get (D := G) (ci := 1) (v := .int (g.1.1 5)) (C := RX1) (T := TX1) (N := 16) hx hb hts hi_1 hown hK hP 0 rfl rfl 5 (by decide) (hts (.fieldLink RX1 57 "HubTrains$Game" "turn" "I") (List.mem_of_getElem? (i := 3) rfl)) (fun _ h9 => h9) rfl dX1_layTile_20 ?_
  have J_35 : ∀ (g_35 : GS) (H : Heap) (locs : List Loc) (ls : Array Slot), va_P G vwCl (wG c ag g_35) H → va_D A (wG c ag g_35) → va_S A s.heap H locs → lv_has ls 3 [(0, .ref (ag 0)), (1, .int p0), (2, .int p1)] → f_X1_layTile_J35 p0 p1 g_35 = some (g_r) → W p l e (rm_X1_layTile) s m args below meth c1 H locs 0 0 Q (F0 m 35 ls []) := by
    intro g_35 H locs ls hP hD hS hl hm
    unfold f_X1_layTile_J35 at hm
    refine lv_aload_n hx hb dX1_layTile_35 rfl (lv_at hl 0 rfl) ?_
    refine lv_iload_n hx hb dX1_layTile_36 rfl (lv_at hl 1 rfl) ?_
    obtain ⟨r37, e_37, hm⟩ := bd1_s hm
    refine zcSNi (As := [.int p0]) (rest := [.ref (ag 0)]) ⟨hx, hb, hml, hown, hts⟩ (k_X7_isDouble l G K c p0 r37 e_37) ⟨va_cnB 1 hts gX1_layTile_X7_isDouble_n135 rfl rfl rfl (nwm_HubTrains_Game_135 hN.2.1) (hts (.initialized RX7) (List.mem_of_getElem? (i := 8) rfl)) hd_X7_isDouble.2 ⟨Nat.le_of_ble_eq_true rfl, Nat.le_of_ble_eq_true rfl⟩, (hts (.static yX7_isDouble) (List.mem_of_getElem? (i := 38) rfl)), trivial⟩ hK hN hZ hP hD hS hA [] rfl (by decide) rfl rfl hl.1 rfl (Nat.le_of_ble_eq_true rfl) dX1_layTile_37 ⟨Nat.zero_le _, Nat.zero_le _⟩ (fun H locs hP hD hS => ?_)
    have hP : va_P G vwCl (wG c ag g_35) H := hP
    have hD : va_D A (wG c ag g_35) := hD
    have J_48 : ∀ (s0_48 : Int32) (H : Heap) (locs : List Loc) (ls : Array Slot), va_P G vwCl (wG c ag g_35) H → va_D A (wG c ag g_35) → va_S A s.heap H locs → lv_has ls 3 [(0, .ref (ag 0)), (1, .int p0)] → f_X1_layTile_J48 p0 g_35 s0_48 = some (g_r) → W p l e (rm_X1_layTile) s m args below meth c1 H locs 0 0 Q (F0 m 48 ls [.int s0_48, .ref (ag 0)]) := by
      intro s0_48 H locs ls hP hD hS hl hm
      unfold f_X1_layTile_J48 at hm
      refine va_put (D := G) (ci := 1) (v := .int s0_48) (C := RX1) (T := TX1) (N := 16) hx hb hts hi_1 tyX1 tyX1_ok nmX1 hown hK hP hD hS 0 rfl rfl 7 (by decide) (hts (.fieldLink RX1 27 "HubTrains$Game" "uncovered" "I") (List.mem_of_getElem? (i := 4) rfl)) (fun _ h9 => h9) rfl (tyX1_ok 7 (by decide)) rfl rfl (Nat.le_of_ble_eq_true rfl) dX1_layTile_48 (fun H locs hP hD hS => ?_)
      have hP : va_P G vwCl (wG c ag ((ss g_35.1 7 s0_48), (g_35.2.1), g_35.2.2.1, g_35.2.2.2)) H := hP
      have hD : va_D A (wG c ag ((ss g_35.1 7 s0_48), (g_35.2.1), g_35.2.2.1, g_35.2.2.2)) := hD
      refine lv_aload_n hx hb dX1_layTile_51 rfl (lv_at hl 0 rfl) ?_
      refine lv_iconst (v := 0) hx hb dX1_layTile_52 (by decide) ?_
      refine va_put (D := G) (ci := 1) (v := .int 0) (C := RX1) (T := TX1) (N := 16) hx hb hts hi_1 tyX1 tyX1_ok nmX1 hown hK hP hD hS 0 rfl rfl 10 (by decide) (hts (.fieldLink RX1 70 "HubTrains$Game" "passes" "I") (List.mem_of_getElem? (i := 5) rfl)) (fun _ h9 => h9) rfl (tyX1_ok 10 (by decide)) rfl rfl (Nat.le_of_ble_eq_true rfl) dX1_layTile_53 (fun H locs hP hD hS => ?_)
      have hP : va_P G vwCl (wG c ag ((ss (ss g_35.1 7 s0_48) 10 0), (g_35.2.1), g_35.2.2.1, g_35.2.2.2)) H := hP
      have hD : va_D A (wG c ag ((ss (ss g_35.1 7 s0_48) 10 0), (g_35.2.1), g_35.2.2.1, g_35.2.2.2)) := hD
      refine lv_aload_n hx hb dX1_layTile_56 rfl (lv_at hl 0 rfl) ?_
      refine lv_aload_n hx hb dX1_layTile_57 rfl (lv_at hl 0 rfl) ?_
      refine va_get (D := G) (ci := 1) (v := .int (g_35.1.1 5)) (C := RX1) (T := TX1) (N := 16) hx hb hts hi_1 hown hK hP 0 rfl rfl 5 (by decide) (hts (.fieldLink RX1 57 "HubTrains$Game" "turn" "I") (List.mem_of_getElem? (i := 3) rfl)) (fun _ h9 => h9) rfl dX1_layTile_58 ?_
      obtain ⟨r61, e_61, hm⟩ := bd1_s hm
      refine zcVi (As := [.int (g_35.1.1 5)]) (rest := []) ⟨hx, hb, hml, hown, hts⟩ (k_X1_handCount l G K c ag ((ss (ss g_35.1 7 s0_48) 10 0), (g_35.2.1), g_35.2.2.1, g_35.2.2.2) (g_35.1.1 5) r61 e_61) (cwV 1 hts gX1_layTile_X1_handCount rfl rfl rfl hd_X1_handCount ⟨Nat.le_of_ble_eq_true rfl, Nat.le_of_ble_eq_true rfl⟩) hK hN hZ hP hD hS hA (va_recv hK hP (ci := 1) (q0 := 0) rfl rfl) [0, 1, 2, 3, 4, 5, 6, 7, 8, 9] rfl (by decide) rfl rfl hl.1 rfl (Nat.le_of_ble_eq_true rfl) dX1_layTile_61 ⟨Nat.zero_le _, Nat.zero_le _⟩ (fun H locs hP hD hS => ?_)
      have hP : va_P G vwCl (wG c ag ((ss (ss g_35.1 7 s0_48) 10 0), (g_35.2.1), g_35.2.2.1, g_35.2.2.2)) H := hP
      have hD : va_D A (wG c ag ((ss (ss g_35.1 7 s0_48) 10 0), (g_35.2.1), g_35.2.2.1, g_35.2.2.2)) := hD
      refine lv_if_ne (tgt := 74) hx hb dX1_layTile_64 (by decide) (fun c_64 => ?_) (fun c_64 => ?_)
      · have hm := ifn c_64 hm
        refine lv_iload_n hx hb dX1_layTile_74 rfl (lv_at hl 1 rfl) ?_
        obtain ⟨r75, e_75, hm⟩ := bd1_s hm
        refine zcSNi (As := [.int p0]) (rest := []) ⟨hx, hb, hml, hown, hts⟩ (k_X7_isDouble l G K c p0 r75 e_75) ⟨va_cnB 1 hts gX1_layTile_X7_isDouble_n135 rfl rfl rfl (nwm_HubTrains_Game_135 hN.2.1) (hts (.initialized RX7) (List.mem_of_getElem? (i := 8) rfl)) hd_X7_isDouble.2 ⟨Nat.le_of_ble_eq_true rfl, Nat.le_of_ble_eq_true rfl⟩, (hts (.static yX7_isDouble) (List.mem_of_getElem? (i := 38) rfl)), trivial⟩ hK hN hZ hP hD hS hA [] rfl (by decide) rfl rfl hl.1 rfl (Nat.le_of_ble_eq_true rfl) dX1_layTile_75 ⟨Nat.zero_le _, Nat.zero_le _⟩ (fun H locs hP hD hS => ?_)
        have hP : va_P G vwCl (wG c ag ((ss (ss g_35.1 7 s0_48) 10 0), (g_35.2.1), g_35.2.2.1, g_35.2.2.2)) H := hP
        have hD : va_D A (wG c ag ((ss (ss g_35.1 7 s0_48) 10 0), (g_35.2.1), g_35.2.2.1, g_35.2.2.2)) := hD
        refine lv_if_eq (tgt := 89) hx hb dX1_layTile_78 (by decide) (fun c_78 => ?_) (fun c_78 => ?_)
        · have hm := ifp c_78 hm
          refine lv_aload_n hx hb dX1_layTile_89 rfl (lv_at hl 0 rfl) ?_
          obtain ⟨g90, e_90, hm⟩ := bd1_s hm
          refine zcVv (As := []) (rest := []) ⟨hx, hb, hml, hown, hts⟩ (k_X1_nextTurn l G K c ag ((ss (ss g_35.1 7 s0_48) 10 0), (g_35.2.1), g_35.2.2.1, g_35.2.2.2) g90 e_90) (cwV 0 hts gX1_layTile_X1_nextTurn rfl rfl rfl hd_X1_nextTurn ⟨Nat.le_of_ble_eq_true rfl, Nat.le_of_ble_eq_true rfl⟩) hK hN hZ hP hD hS hA (va_recv hK hP (ci := 1) (q0 := 0) rfl rfl) [0, 1, 2, 3, 4, 5, 6, 7, 8, 9] rfl (by decide) rfl rfl hl.1 rfl (Nat.le_of_ble_eq_true rfl) dX1_layTile_90 ⟨Nat.zero_le _, Nat.zero_le _⟩ (fun H locs hP hD hS => ?_)
          have hP : va_P G vwCl (wG c ag g90) H := hP
          have hD : va_D A (wG c ag g90) := hD
          exact hend H locs ls _ _ (zc1 (fun (z0 : GS) => (wG c ag z0 : va_W)) (Option.some.inj hm)) hP hD hS dX1_layTile_93
        · have hm := ifn c_78 hm
          refine lv_aload_n hx hb dX1_layTile_81 rfl (lv_at hl 0 rfl) ?_
          refine lv_iconst (v := 0) hx hb dX1_layTile_82 (by decide) ?_
          refine va_put (D := G) (ci := 1) (v := .int 0) (C := RX1) (T := TX1) (N := 16) hx hb hts hi_1 tyX1 tyX1_ok nmX1 hown hK hP hD hS 0 rfl rfl 6 (by decide) (hts (.fieldLink RX1 60 "HubTrains$Game" "drew" "Z") (List.mem_of_getElem? (i := 6) rfl)) (fun _ h9 => h9) rfl (tyX1_ok 6 (by decide)) (by decide) (by decide) (Nat.le_of_ble_eq_true rfl) dX1_layTile_83 (fun H locs hP hD hS => ?_)
          have hP : va_P G vwCl (wG c ag ((ss (ss (ss g_35.1 7 s0_48) 10 0) 6 0), (g_35.2.1), g_35.2.2.1, g_35.2.2.2)) H := hP
          have hD : va_D A (wG c ag ((ss (ss (ss g_35.1 7 s0_48) 10 0) 6 0), (g_35.2.1), g_35.2.2.1, g_35.2.2.2)) := hD
          refine lv_goto (tgt := 93) hx hb dX1_layTile_86 (by decide) ?_
          exact hend H locs ls _ _ (zc1 (fun (z0 : GS) => (wG c ag z0 : va_W)) (Option.some.inj hm)) hP hD hS dX1_layTile_93
      · have hm := ifp c_64 hm
        refine lv_aload_n hx hb dX1_layTile_67 rfl (lv_at hl 0 rfl) ?_
        obtain ⟨g68, e_68, hm⟩ := bd1_s hm
        refine zcVv (As := []) (rest := []) ⟨hx, hb, hml, hown, hts⟩ (k_X1_endRound l G K c ag ((ss (ss g_35.1 7 s0_48) 10 0), (g_35.2.1), g_35.2.2.1, g_35.2.2.2) g68 e_68) (cwV 0 hts gX1_layTile_X1_endRound rfl rfl rfl hd_X1_endRound ⟨Nat.le_of_ble_eq_true rfl, Nat.le_of_ble_eq_true rfl⟩) hK hN hZ hP hD hS hA (va_recv hK hP (ci := 1) (q0 := 0) rfl rfl) [0, 1, 2, 3, 4, 5, 6, 7, 8, 9] rfl (by decide) rfl rfl hl.1 rfl (Nat.le_of_ble_eq_true rfl) dX1_layTile_68 ⟨Nat.zero_le _, Nat.zero_le _⟩ (fun H locs hP hD hS => ?_)
        have hP : va_P G vwCl (wG c ag g68) H := hP
        have hD : va_D A (wG c ag g68) := hD
        refine lv_goto (tgt := 93) hx hb dX1_layTile_71 (by decide) ?_
        exact hend H locs ls _ _ (zc1 (fun (z0 : GS) => (wG c ag z0 : va_W)) (Option.some.inj hm)) hP hD hS dX1_layTile_93
    refine lv_if_eq (tgt := 47) hx hb dX1_layTile_40 (by decide) (fun c_40 => ?_) (fun c_40 => ?_)
    · have hm := ifp c_40 hm
      refine lv_iconst (v := (-1)) hx hb dX1_layTile_47 (by decide) ?_
      exact J_48 (-1) H locs ls hP hD hS (lv_sub hl [0, 1] rfl) hm
    · have hm := ifn c_40 hm
      refine lv_iload_n hx hb dX1_layTile_43 rfl (lv_at hl 2 rfl) ?_
      refine lv_goto (tgt := 48) hx hb dX1_layTile_44 (by decide) ?_
      exact J_48 p1 H locs ls hP hD hS (lv_sub hl [0, 1] rfl) hm
  refine lv_icmp_ne (tgt := 35) hx hb dX1_layTile_23 (by decide) (fun c_23 => ?_) (fun c_23 => ?_)
  · have hm := ifn c_23 hm
    exact J_35 ((sa g.1 0 h06), (g.2.1), g.2.2.1, t15) H locs ls hP hD hS (lv_sub hl [0, 1, 2] rfl) hm
  · have hm := ifp c_23 hm
    refine lv_aload_n hx hb dX1_layTile_26 rfl (lv_at hl 0 rfl) ?_
    refine va_get (D := G) (ci := 1) (v := .ref (ag 5)) (C := RX1) (T := TX1) (N := 16) hx hb hts hi_1 hown hK hP 0 rfl rfl 15 (by decide) (hts (.fieldLink RX1 47 "HubTrains$Game" "tracks" "LHubTrains$Tracks;") (List.mem_of_getElem? (i := 2) rfl)) (fun _ h9 => h9) rfl dX1_layTile_27 ?_
    refine lv_iload_n hx hb dX1_layTile_30 rfl (lv_at hl 2 rfl) ?_
    refine lv_iconst (v := 0) hx hb dX1_layTile_31 (by decide) ?_
    obtain ⟨t32, e_32, hm⟩ := bd1_s hm
    refine zcVv (As := [.int p1, .int 0]) (rest := []) ⟨hx, hb, hml, hown, hts⟩ (k_X6_setOpen l G K c (ag 5) (ag 6) (ag 7) (ag 8) (ag 9) t15 p1 0 t32 e_32) (cwV 2 hts gX1_layTile_X6_setOpen rfl rfl rfl hd_X6_setOpen ⟨Nat.le_of_ble_eq_true rfl, Nat.le_of_ble_eq_true rfl⟩) hK hN hZ hP hD hS hA (va_recv hK hP (ci := 6) (q0 := 5) rfl rfl) [5, 6, 7, 8, 9] rfl (by decide) rfl rfl hl.1 rfl (Nat.le_of_ble_eq_true rfl) dX1_layTile_32 ⟨Nat.zero_le _, Nat.zero_le _⟩ (fun H locs hP hD hS => ?_)
    have hP : va_P G vwCl (wG c ag ((sa g.1 0 h06), (g.2.1), g.2.2.1, t32)) H := hP
    have hD : va_D A (wG c ag ((sa g.1 0 h06), (g.2.1), g.2.2.1, t32)) := hD
    exact J_35 ((sa g.1 0 h06), (g.2.1), g.2.2.1, t32) H locs ls hP hD hS (lv_sub hl [0, 1, 2] rfl) hm

def f_X1_fillHand_B6 (p0 : Int32) (rec_6 : Int32 → GS → Option GS) (v2_6 : Int32) (g_6 : GS) : Option GS :=
  if (g_6.1.1 2) ≤ v2_6 then (some (g_6)) else (bd1 (f_X4_size g_6.2.2.1) fun (r18 : Int32) => if r18 ≤ 0 then (some (g_6)) else (bd2 (f_X4_takeFirst g_6.2.2.1) fun (r32 : Int32) (k32 : SA) => bd1 (f_X7_put 100 (g_6.1.2 0) r32 p0) fun (h036 : Nat → Int32) => rec_6 (v2_6 + 1) ((sa g_6.1 0 h036), (g_6.2.1), k32, g_6.2.2.2)))

def f_X1_fillHand (g : GS) (p0 : Int32) : Option GS :=
  bd1 (f_X1_handCount g p0) fun (r2 : Int32) => itr2 (f_X1_fillHand_B6 p0) FUEL r2 g

abbrev rm_X1_fillHand : Room := { frames := 2, cells := 0, slots := 0, locals := 44 }
theorem hd_X1_fillHand : yX1_fillHand.cls = RX1 ∧ yX1_fillHand.cls ≠ "java/lang/invoke/MethodHandle" ∧ yX1_fillHand.cls ≠ "java/lang/invoke/VarHandle" ∧ (parseMethodDescriptor yX1_fillHand.desc).map (fun d => d.parameters.length) = some 1 := by decide +kernel
set_option maxHeartbeats 4000000 in
set_option maxRecDepth 100000 in
theorem k_X1_fillHand (l : Launch) (G : va_G) (K : (Nat → Nat) × (Nat → Nat)) (c : Nat → ClassId) (ag : Nat → Nat) (g : GS) (p0 : Int32) (g_r : GS) (hm : f_X1_fillHand g p0 = some (g_r)) : zMv l yX1_fillHand wsX1_fillHand (rm_X1_fillHand) G K (TY c) [.ref (ag 0), .int p0] (wG c ag g) (wG c ag g_r) := by
  refine zMv.of (cc := cX1_fillHand) (maxL := 3) (lv := [(0, .ref (ag 0)), (1, .int p0)]) (by decide) rfl (Nat.le_of_ble_eq_true rfl) rfl ?_
  intro p e s m args below meth c1 A Q H locs hx hb hml hown hts hK hN hZ hP hD hA hS hend ls hl
  have hown : s.vm.findClass RX1 = some m.cls := hown
  have hi_1 : ∀ w ∈ wsX10, w ∈ wsX1_fillHand := (fun w h => List.mem_cons_of_mem _ (List.mem_append_left _ (List.mem_append_right _ (h))))
  unfold f_X1_fillHand at hm
  refine lv_aload_n hx hb dX1_fillHand_0 rfl (lv_at hl 0 rfl) ?_
  refine lv_iload_n hx hb dX1_fillHand_1 rfl (lv_at hl 1 rfl) ?_
  obtain ⟨r2, e_2, hm⟩ := bd1_s hm
  refine zcVi (As := [.int p0]) (rest := []) ⟨hx, hb, hml, hown, hts⟩ (k_X1_handCount l G K c ag g p0 r2 e_2) (cwV 1 hts gX1_fillHand_X1_handCount rfl rfl rfl hd_X1_handCount ⟨Nat.le_of_ble_eq_true rfl, Nat.le_of_ble_eq_true rfl⟩) hK hN hZ hP hD hS hA (va_recv hK hP (ci := 1) (q0 := 0) rfl rfl) [0, 1, 2, 3, 4, 5, 6, 7, 8, 9] rfl (by decide) rfl rfl hl.1 rfl (Nat.le_of_ble_eq_true rfl) dX1_fillHand_2 ⟨Nat.zero_le _, Nat.zero_le _⟩ (fun H locs hP hD hS => ?_)
  have hP : va_P G vwCl (wG c ag g) H := hP
  have hD : va_D A (wG c ag g) := hD
  refine lv_istore_n (lv' := [(2, .int r2), (0, .ref (ag 0)), (1, .int p0)]) hx hb dX1_fillHand_5 rfl hl (by decide) rfl (fun ls hl => ?_)
  have L_6 : ∀ (n_6 : Nat) (v2_6 : Int32) (g_6 : GS) (H : Heap) (locs : List Loc) (ls : Array Slot), va_P G vwCl (wG c ag g_6) H → va_D A (wG c ag g_6) → va_S A s.heap H locs → lv_has ls 3 [(0, .ref (ag 0)), (1, .int p0), (2, .int v2_6)] → itr2 (f_X1_fillHand_B6 p0) n_6 v2_6 g_6 = some (g_r) → W p l e (rm_X1_fillHand) s m args below meth c1 H locs 0 0 Q (F0 m 6 ls []) := by
    intro n_6
    induction n_6 with
    | zero => intro v2_6 g_6 H locs ls hP hD hS hl hm; exact (itr2_0 hm).elim
    | succ n_6 ih_6 =>
      intro v2_6 g_6 H locs ls hP hD hS hl hm
      have hm := itr2_s hm
      unfold f_X1_fillHand_B6 at hm
      refine lv_iload_n hx hb dX1_fillHand_6 rfl (lv_at hl 2 rfl) ?_
      refine lv_aload_n hx hb dX1_fillHand_7 rfl (lv_at hl 0 rfl) ?_
      refine va_get (D := G) (ci := 1) (v := .int (g_6.1.1 2)) (C := RX1) (T := TX1) (N := 16) hx hb hts hi_1 hown hK hP 0 rfl rfl 2 (by decide) (hts (.fieldLink RX1 18 "HubTrains$Game" "handSize" "I") (List.mem_of_getElem? (i := 1) rfl)) (fun _ h9 => h9) rfl dX1_fillHand_8 ?_
      refine lv_icmp_ge (tgt := 45) hx hb dX1_fillHand_11 (by decide) (fun c_11 => ?_) (fun c_11 => ?_)
      · have hm := ifp c_11 hm
        exact hend H locs ls _ _ (zc1 (fun (z0 : GS) => (wG c ag z0 : va_W)) (Option.some.inj hm)) hP hD hS dX1_fillHand_45
      · have hm := ifn c_11 hm
        refine lv_aload_n hx hb dX1_fillHand_14 rfl (lv_at hl 0 rfl) ?_
        refine va_get (D := G) (ci := 1) (v := .ref (ag 3)) (C := RX1) (T := TX1) (N := 16) hx hb hts hi_1 hown hK hP 0 rfl rfl 14 (by decide) (hts (.fieldLink RX1 40 "HubTrains$Game" "stock" "LHubTrains$Stock;") (List.mem_of_getElem? (i := 2) rfl)) (fun _ h9 => h9) rfl dX1_fillHand_15 ?_
        obtain ⟨r18, e_18, hm⟩ := bd1_s hm
        refine zcVi (As := []) (rest := []) ⟨hx, hb, hml, hown, hts⟩ (k_X4_size l G K c (ag 3) (ag 4) g_6.2.2.1 r18 e_18) (cwV 0 hts gX1_fillHand_X4_size rfl rfl rfl hd_X4_size ⟨Nat.le_of_ble_eq_true rfl, Nat.le_of_ble_eq_true rfl⟩) hK hN hZ hP hD hS hA (va_recv hK hP (ci := 4) (q0 := 3) rfl rfl) [3, 4] rfl (by decide) rfl rfl hl.1 rfl (Nat.le_of_ble_eq_true rfl) dX1_fillHand_18 ⟨Nat.zero_le _, Nat.zero_le _⟩ (fun H locs hP hD hS => ?_)
        have hP : va_P G vwCl (wG c ag g_6) H := hP
        have hD : va_D A (wG c ag g_6) := hD
        refine lv_if_le (tgt := 45) hx hb dX1_fillHand_21 (by decide) (fun c_21 => ?_) (fun c_21 => ?_)
        · have hm := ifp c_21 hm
          exact hend H locs ls _ _ (zc1 (fun (z0 : GS) => (wG c ag z0 : va_W)) (Option.some.inj hm)) hP hD hS dX1_fillHand_45
        · have hm := ifn c_21 hm
          refine lv_aload_n hx hb dX1_fillHand_24 rfl (lv_at hl 0 rfl) ?_
          refine va_get (D := G) (ci := 1) (v := .ref (ag 1)) (C := RX1) (T := TX1) (N := 16) hx hb hts hi_1 hown hK hP 0 rfl rfl 12 (by decide) (hts (.fieldLink RX1 30 "HubTrains$Game" "holders" "[I") (List.mem_of_getElem? (i := 3) rfl)) (fun _ h9 => h9) rfl dX1_fillHand_25 ?_
          refine lv_aload_n hx hb dX1_fillHand_28 rfl (lv_at hl 0 rfl) ?_
          refine va_get (D := G) (ci := 1) (v := .ref (ag 3)) (C := RX1) (T := TX1) (N := 16) hx hb hts hi_1 hown hK hP 0 rfl rfl 14 (by decide) (hts (.fieldLink RX1 40 "HubTrains$Game" "stock" "LHubTrains$Stock;") (List.mem_of_getElem? (i := 2) rfl)) (fun _ h9 => h9) rfl dX1_fillHand_29 ?_
          obtain ⟨r32, k32, e_32, hm⟩ := bd2_s hm
          refine zcVi (As := []) (rest := [.ref (ag 1)]) ⟨hx, hb, hml, hown, hts⟩ (k_X4_takeFirst l G K c (ag 3) (ag 4) g_6.2.2.1 r32 k32 e_32) (cwV 0 hts gX1_fillHand_X4_takeFirst rfl rfl rfl hd_X4_takeFirst ⟨Nat.le_of_ble_eq_true rfl, Nat.le_of_ble_eq_true rfl⟩) hK hN hZ hP hD hS hA (va_recv hK hP (ci := 4) (q0 := 3) rfl rfl) [3, 4] rfl (by decide) rfl rfl hl.1 rfl (Nat.le_of_ble_eq_true rfl) dX1_fillHand_32 ⟨Nat.zero_le _, Nat.zero_le _⟩ (fun H locs hP hD hS => ?_)
          have hP : va_P G vwCl (wG c ag (g_6.1, (g_6.2.1), k32, g_6.2.2.2)) H := hP
          have hD : va_D A (wG c ag (g_6.1, (g_6.2.1), k32, g_6.2.2.2)) := hD
          refine lv_iload_n hx hb dX1_fillHand_35 rfl (lv_at hl 1 rfl) ?_
          obtain ⟨h036, e_36, hm⟩ := bd1_s hm
          refine zcSNv (As := [.ref (ag 1), .int r32, .int p0]) (rest := []) ⟨hx, hb, hml, hown, hts⟩ (k_X7_put l G K c (ag 1) 100 (g_6.1.2 0) r32 p0 h036 e_36) ⟨va_cnB 3 hts gX1_fillHand_X7_put_n122 rfl rfl rfl (nwm_HubTrains_Game_122 hN.2.1) (hts (.initialized RX7) (List.mem_of_getElem? (i := 26) rfl)) hd_X7_put.2 ⟨Nat.le_of_ble_eq_true rfl, Nat.le_of_ble_eq_true rfl⟩, (hts (.static yX7_put) (List.mem_of_getElem? (i := 28) rfl)), trivial⟩ hK hN hZ hP hD hS hA [1] rfl (by decide) rfl rfl hl.1 rfl (Nat.le_of_ble_eq_true rfl) dX1_fillHand_36 ⟨Nat.zero_le _, Nat.zero_le _⟩ (fun H locs hP hD hS => ?_)
          have hP : va_P G vwCl (wG c ag ((sa g_6.1 0 h036), (g_6.2.1), k32, g_6.2.2.2)) H := hP
          have hD : va_D A (wG c ag ((sa g_6.1 0 h036), (g_6.2.1), k32, g_6.2.2.2)) := hD
          refine lv_iinc (k := 2) (v := (v2_6 + 1)) (lv' := [(2, .int (v2_6 + 1)), (0, .ref (ag 0)), (1, .int p0)]) hx hb dX1_fillHand_39 hl rfl rfl (by decide) rfl (fun ls hl => ?_)
          refine lv_goto (tgt := 6) hx hb dX1_fillHand_42 (by decide) ?_
          exact ih_6 (v2_6 + 1) ((sa g_6.1 0 h036), (g_6.2.1), k32, g_6.2.2.2) H locs ls hP hD hS (lv_sub hl [1, 2, 0] rfl) hm
  exact L_6 FUEL r2 g H locs ls hP hD hS (lv_sub hl [1, 2, 0] rfl) hm

def f_X1_dealRound_B62  (rec_62 : Int32 → GS → Option GS) (v1_62 : Int32) (g_62 : GS) : Option GS :=
  if (g_62.1.1 1) ≤ v1_62 then (bd1 (f_X6_begin g_62.2.2.2 (g_62.1.1 3)) fun (t89 : SA) => some (((ss (ss (ss (ss (ss g_62.1 5 0) 6 0) 7 (-1)) 8 0) 10 0), (g_62.2.1), g_62.2.2.1, t89))) else (bd1 (f_X1_fillHand g_62 v1_62) fun (g72 : GS) => rec_62 (v1_62 + 1) g72)

def f_X1_dealRound_B9  (rec_9 : Int32 → GS → Option GS) (v1_9 : Int32) (g_9 : GS) : Option GS :=
  if (100 : Int32) ≤ v1_9 then (bd2 (f_X4_mix g_9.2.2.1 (g_9.1.1 4)) fun (r54 : Int32) (k54 : SA) => itr2 f_X1_dealRound_B62 FUEL 0 ((ss g_9.1 4 r54), (g_9.2.1), k54, g_9.2.2.2)) else (bd1 (f_X1_isInSet g_9 v1_9) fun (r17 : Int32) => if r17 = 0 then (rec_9 (v1_9 + 1) g_9) else (bd1 (f_X1_isFree g_9 v1_9) fun (r25 : Int32) => if r25 = 0 then (rec_9 (v1_9 + 1) g_9) else (bd1 (f_X4_add g_9.2.2.1 v1_9) fun (k36 : SA) => rec_9 (v1_9 + 1) (g_9.1, (g_9.2.1), k36, g_9.2.2.2))))

def f_X1_dealRound (g : GS) : Option GS :=
  bd1 (f_X4_clear g.2.2.1) fun (k4 : SA) => itr2 f_X1_dealRound_B9 FUEL 0 (g.1, (g.2.1), k4, g.2.2.2)

abbrev rm_X1_dealRound : Room := { frames := 3, cells := 0, slots := 0, locals := 66 }
theorem hd_X1_dealRound : yX1_dealRound.cls = RX1 ∧ yX1_dealRound.cls ≠ "java/lang/invoke/MethodHandle" ∧ yX1_dealRound.cls ≠ "java/lang/invoke/VarHandle" ∧ (parseMethodDescriptor yX1_dealRound.desc).map (fun d => d.parameters.length) = some 0 := by decide +kernel
set_option maxHeartbeats 4000000 in
set_option maxRecDepth 100000 in
theorem k_X1_dealRound (l : Launch) (G : va_G) (K : (Nat → Nat) × (Nat → Nat)) (c : Nat → ClassId) (ag : Nat → Nat) (g : GS) (g_r : GS) (hm : f_X1_dealRound g = some (g_r)) : zMv l yX1_dealRound wsX1_dealRound (rm_X1_dealRound) G K (TY c) [.ref (ag 0)] (wG c ag g) (wG c ag g_r) := by
  refine zMv.of (cc := cX1_dealRound) (maxL := 2) (lv := [(0, .ref (ag 0))]) (by decide) rfl (Nat.le_of_ble_eq_true rfl) rfl ?_
  intro p e s m args below meth c1 A Q H locs hx hb hml hown hts hK hN hZ hP hD hA hS hend ls hl
  have hown : s.vm.findClass RX1 = some m.cls := hown
  have hi_1 : ∀ w ∈ wsX10, w ∈ wsX1_dealRound := (fun w h => List.mem_cons_of_mem _ (List.mem_append_left _ (List.mem_append_left _ (List.mem_append_right _ (h)))))
  unfold f_X1_dealRound at hm
  refine lv_aload_n hx hb dX1_dealRound_0 rfl (lv_at hl 0 rfl) ?_
  refine va_get (D := G) (ci := 1) (v := .ref (ag 3)) (C := RX1) (T := TX1) (N := 16) hx hb hts hi_1 hown hK hP 0 rfl rfl 14 (by decide) (hts (.fieldLink RX1 40 "HubTrains$Game" "stock" "LHubTrains$Stock;") (List.mem_of_getElem? (i := 1) rfl)) (fun _ h9 => h9) rfl dX1_dealRound_1 ?_
  obtain ⟨k4, e_4, hm⟩ := bd1_s hm
  refine zcVv (As := []) (rest := []) ⟨hx, hb, hml, hown, hts⟩ (k_X4_clear l G K c (ag 3) (ag 4) g.2.2.1 k4 e_4) (cwV 0 hts gX1_dealRound_X4_clear rfl rfl rfl hd_X4_clear ⟨Nat.le_of_ble_eq_true rfl, Nat.le_of_ble_eq_true rfl⟩) hK hN hZ hP hD hS hA (va_recv hK hP (ci := 4) (q0 := 3) rfl rfl) [3, 4] rfl (by decide) rfl rfl hl.1 rfl (Nat.le_of_ble_eq_true rfl) dX1_dealRound_4 ⟨Nat.zero_le _, Nat.zero_le _⟩ (fun H locs hP hD hS => ?_)
  have hP : va_P G vwCl (wG c ag (g.1, (g.2.1), k4, g.2.2.2)) H := hP
  have hD : va_D A (wG c ag (g.1, (g.2.1), k4, g.2.2.2)) := hD
  refine lv_iconst (v := 0) hx hb dX1_dealRound_7 (by decide) ?_
  refine lv_istore_n (lv' := [(1, .int 0), (0, .ref (ag 0))]) hx hb dX1_dealRound_8 rfl hl (by decide) rfl (fun ls hl => ?_)
  have L_9 : ∀ (n_9 : Nat) (v1_9 : Int32) (g_9 : GS) (H : Heap) (locs : List Loc) (ls : Array Slot), va_P G vwCl (wG c ag g_9) H → va_D A (wG c ag g_9) → va_S A s.heap H locs → lv_has ls 2 [(0, .ref (ag 0)), (1, .int v1_9)] → itr2 f_X1_dealRound_B9 n_9 v1_9 g_9 = some (g_r) → W p l e (rm_X1_dealRound) s m args below meth c1 H locs 0 0 Q (F0 m 9 ls []) := by
    intro n_9
    induction n_9 with
    | zero => intro v1_9 g_9 H locs ls hP hD hS hl hm; exact (itr2_0 hm).elim
    | succ n_9 ih_9 =>
      intro v1_9 g_9 H locs ls hP hD hS hl hm
      have hm := itr2_s hm
      unfold f_X1_dealRound_B9 at hm
      refine lv_iload_n hx hb dX1_dealRound_9 rfl (lv_at hl 1 rfl) ?_
      refine lv_bipush (v := 100) hx hb dX1_dealRound_10 (by decide) ?_
      refine lv_icmp_ge (tgt := 45) hx hb dX1_dealRound_12 (by decide) (fun c_12 => ?_) (fun c_12 => ?_)
      · have hm := ifp c_12 hm
        refine lv_aload_n hx hb dX1_dealRound_45 rfl (lv_at hl 0 rfl) ?_
        refine lv_aload_n hx hb dX1_dealRound_46 rfl (lv_at hl 0 rfl) ?_
        refine va_get (D := G) (ci := 1) (v := .ref (ag 3)) (C := RX1) (T := TX1) (N := 16) hx hb hts hi_1 hown hK hP 0 rfl rfl 14 (by decide) (hts (.fieldLink RX1 40 "HubTrains$Game" "stock" "LHubTrains$Stock;") (List.mem_of_getElem? (i := 1) rfl)) (fun _ h9 => h9) rfl dX1_dealRound_47 ?_
        refine lv_aload_n hx hb dX1_dealRound_50 rfl (lv_at hl 0 rfl) ?_
        refine va_get (D := G) (ci := 1) (v := .int (g_9.1.1 4)) (C := RX1) (T := TX1) (N := 16) hx hb hts hi_1 hown hK hP 0 rfl rfl 4 (by decide) (hts (.fieldLink RX1 24 "HubTrains$Game" "seed" "I") (List.mem_of_getElem? (i := 2) rfl)) (fun _ h9 => h9) rfl dX1_dealRound_51 ?_
        obtain ⟨r54, k54, e_54, hm⟩ := bd2_s hm
        refine zcVi (As := [.int (g_9.1.1 4)]) (rest := [.ref (ag 0)]) ⟨hx, hb, hml, hown, hts⟩ (k_X4_mix l G K c (ag 3) (ag 4) g_9.2.2.1 (g_9.1.1 4) r54 k54 e_54) (cwV 1 hts gX1_dealRound_X4_mix rfl rfl rfl hd_X4_mix ⟨Nat.le_of_ble_eq_true rfl, Nat.le_of_ble_eq_true rfl⟩) hK hN hZ hP hD hS hA (va_recv hK hP (ci := 4) (q0 := 3) rfl rfl) [3, 4] rfl (by decide) rfl rfl hl.1 rfl (Nat.le_of_ble_eq_true rfl) dX1_dealRound_54 ⟨Nat.zero_le _, Nat.zero_le _⟩ (fun H locs hP hD hS => ?_)
        have hP : va_P G vwCl (wG c ag (g_9.1, (g_9.2.1), k54, g_9.2.2.2)) H := hP
        have hD : va_D A (wG c ag (g_9.1, (g_9.2.1), k54, g_9.2.2.2)) := hD
        refine va_put (D := G) (ci := 1) (v := .int r54) (C := RX1) (T := TX1) (N := 16) hx hb hts hi_1 tyX1 tyX1_ok nmX1 hown hK hP hD hS 0 rfl rfl 4 (by decide) (hts (.fieldLink RX1 24 "HubTrains$Game" "seed" "I") (List.mem_of_getElem? (i := 2) rfl)) (fun _ h9 => h9) rfl (tyX1_ok 4 (by decide)) rfl rfl (Nat.le_of_ble_eq_true rfl) dX1_dealRound_57 (fun H locs hP hD hS => ?_)
        have hP : va_P G vwCl (wG c ag ((ss g_9.1 4 r54), (g_9.2.1), k54, g_9.2.2.2)) H := hP
        have hD : va_D A (wG c ag ((ss g_9.1 4 r54), (g_9.2.1), k54, g_9.2.2.2)) := hD
        refine lv_iconst (v := 0) hx hb dX1_dealRound_60 (by decide) ?_
        refine lv_istore_n (lv' := [(1, .int 0), (0, .ref (ag 0))]) hx hb dX1_dealRound_61 rfl hl (by decide) rfl (fun ls hl => ?_)
        have L_62 : ∀ (n_62 : Nat) (v1_62 : Int32) (g_62 : GS) (H : Heap) (locs : List Loc) (ls : Array Slot), va_P G vwCl (wG c ag g_62) H → va_D A (wG c ag g_62) → va_S A s.heap H locs → lv_has ls 2 [(0, .ref (ag 0)), (1, .int v1_62)] → itr2 f_X1_dealRound_B62 n_62 v1_62 g_62 = some (g_r) → W p l e (rm_X1_dealRound) s m args below meth c1 H locs 0 0 Q (F0 m 62 ls []) := by
          intro n_62
          induction n_62 with
          | zero => intro v1_62 g_62 H locs ls hP hD hS hl hm; exact (itr2_0 hm).elim
          | succ n_62 ih_62 =>
            intro v1_62 g_62 H locs ls hP hD hS hl hm
            have hm := itr2_s hm
            unfold f_X1_dealRound_B62 at hm
            refine lv_iload_n hx hb dX1_dealRound_62 rfl (lv_at hl 1 rfl) ?_
            refine lv_aload_n hx hb dX1_dealRound_63 rfl (lv_at hl 0 rfl) ?_
            refine va_get (D := G) (ci := 1) (v := .int (g_62.1.1 1)) (C := RX1) (T := TX1) (N := 16) hx hb hts hi_1 hown hK hP 0 rfl rfl 1 (by decide) (hts (.fieldLink RX1 15 "HubTrains$Game" "players" "I") (List.mem_of_getElem? (i := 3) rfl)) (fun _ h9 => h9) rfl dX1_dealRound_64 ?_
            refine lv_icmp_ge (tgt := 81) hx hb dX1_dealRound_67 (by decide) (fun c_67 => ?_) (fun c_67 => ?_)
            · have hm := ifp c_67 hm
              refine lv_aload_n hx hb dX1_dealRound_81 rfl (lv_at hl 0 rfl) ?_
              refine va_get (D := G) (ci := 1) (v := .ref (ag 5)) (C := RX1) (T := TX1) (N := 16) hx hb hts hi_1 hown hK hP 0 rfl rfl 15 (by decide) (hts (.fieldLink RX1 47 "HubTrains$Game" "tracks" "LHubTrains$Tracks;") (List.mem_of_getElem? (i := 4) rfl)) (fun _ h9 => h9) rfl dX1_dealRound_82 ?_
              refine lv_aload_n hx hb dX1_dealRound_85 rfl (lv_at hl 0 rfl) ?_
              refine va_get (D := G) (ci := 1) (v := .int (g_62.1.1 3)) (C := RX1) (T := TX1) (N := 16) hx hb hts hi_1 hown hK hP 0 rfl rfl 3 (by decide) (hts (.fieldLink RX1 21 "HubTrains$Game" "hub" "I") (List.mem_of_getElem? (i := 5) rfl)) (fun _ h9 => h9) rfl dX1_dealRound_86 ?_
              obtain ⟨t89, e_89, hm⟩ := bd1_s hm
              refine zcVv (As := [.int (g_62.1.1 3)]) (rest := []) ⟨hx, hb, hml, hown, hts⟩ (k_X6_begin l G K c (ag 5) (ag 6) (ag 7) (ag 8) (ag 9) g_62.2.2.2 (g_62.1.1 3) t89 e_89) (cwV 1 hts gX1_dealRound_X6_begin rfl rfl rfl hd_X6_begin ⟨Nat.le_of_ble_eq_true rfl, Nat.le_of_ble_eq_true rfl⟩) hK hN hZ hP hD hS hA (va_recv hK hP (ci := 6) (q0 := 5) rfl rfl) [5, 6, 7, 8, 9] rfl (by decide) rfl rfl hl.1 rfl (Nat.le_of_ble_eq_true rfl) dX1_dealRound_89 ⟨Nat.zero_le _, Nat.zero_le _⟩ (fun H locs hP hD hS => ?_)
              have hP : va_P G vwCl (wG c ag (g_62.1, (g_62.2.1), g_62.2.2.1, t89)) H := hP
              have hD : va_D A (wG c ag (g_62.1, (g_62.2.1), g_62.2.2.1, t89)) := hD
              refine lv_aload_n hx hb dX1_dealRound_92 rfl (lv_at hl 0 rfl) ?_
              refine lv_iconst (v := 0) hx hb dX1_dealRound_93 (by decide) ?_
              refine va_put (D := G) (ci := 1) (v := .int 0) (C := RX1) (T := TX1) (N := 16) hx hb hts hi_1 tyX1 tyX1_ok nmX1 hown hK hP hD hS 0 rfl rfl 5 (by decide) (hts (.fieldLink RX1 57 "HubTrains$Game" "turn" "I") (List.mem_of_getElem? (i := 6) rfl)) (fun _ h9 => h9) rfl (tyX1_ok 5 (by decide)) rfl rfl (Nat.le_of_ble_eq_true rfl) dX1_dealRound_94 (fun H locs hP hD hS => ?_)
              have hP : va_P G vwCl (wG c ag ((ss g_62.1 5 0), (g_62.2.1), g_62.2.2.1, t89)) H := hP
              have hD : va_D A (wG c ag ((ss g_62.1 5 0), (g_62.2.1), g_62.2.2.1, t89)) := hD
              refine lv_aload_n hx hb dX1_dealRound_97 rfl (lv_at hl 0 rfl) ?_
              refine lv_iconst (v := 0) hx hb dX1_dealRound_98 (by decide) ?_
              refine va_put (D := G) (ci := 1) (v := .int 0) (C := RX1) (T := TX1) (N := 16) hx hb hts hi_1 tyX1 tyX1_ok nmX1 hown hK hP hD hS 0 rfl rfl 6 (by decide) (hts (.fieldLink RX1 60 "HubTrains$Game" "drew" "Z") (List.mem_of_getElem? (i := 7) rfl)) (fun _ h9 => h9) rfl (tyX1_ok 6 (by decide)) (by decide) (by decide) (Nat.le_of_ble_eq_true rfl) dX1_dealRound_99 (fun H locs hP hD hS => ?_)
              have hP : va_P G vwCl (wG c ag ((ss (ss g_62.1 5 0) 6 0), (g_62.2.1), g_62.2.2.1, t89)) H := hP
              have hD : va_D A (wG c ag ((ss (ss g_62.1 5 0) 6 0), (g_62.2.1), g_62.2.2.1, t89)) := hD
              refine lv_aload_n hx hb dX1_dealRound_102 rfl (lv_at hl 0 rfl) ?_
              refine lv_iconst (v := (-1)) hx hb dX1_dealRound_103 (by decide) ?_
              refine va_put (D := G) (ci := 1) (v := .int (-1)) (C := RX1) (T := TX1) (N := 16) hx hb hts hi_1 tyX1 tyX1_ok nmX1 hown hK hP hD hS 0 rfl rfl 7 (by decide) (hts (.fieldLink RX1 27 "HubTrains$Game" "uncovered" "I") (List.mem_of_getElem? (i := 8) rfl)) (fun _ h9 => h9) rfl (tyX1_ok 7 (by decide)) rfl rfl (Nat.le_of_ble_eq_true rfl) dX1_dealRound_104 (fun H locs hP hD hS => ?_)
              have hP : va_P G vwCl (wG c ag ((ss (ss (ss g_62.1 5 0) 6 0) 7 (-1)), (g_62.2.1), g_62.2.2.1, t89)) H := hP
              have hD : va_D A (wG c ag ((ss (ss (ss g_62.1 5 0) 6 0) 7 (-1)), (g_62.2.1), g_62.2.2.1, t89)) := hD
              refine lv_aload_n hx hb dX1_dealRound_107 rfl (lv_at hl 0 rfl) ?_
              refine lv_iconst (v := 0) hx hb dX1_dealRound_108 (by decide) ?_
              refine va_put (D := G) (ci := 1) (v := .int 0) (C := RX1) (T := TX1) (N := 16) hx hb hts hi_1 tyX1 tyX1_ok nmX1 hown hK hP hD hS 0 rfl rfl 8 (by decide) (hts (.fieldLink RX1 64 "HubTrains$Game" "over" "Z") (List.mem_of_getElem? (i := 9) rfl)) (fun _ h9 => h9) rfl (tyX1_ok 8 (by decide)) (by decide) (by decide) (Nat.le_of_ble_eq_true rfl) dX1_dealRound_109 (fun H locs hP hD hS => ?_)
              have hP : va_P G vwCl (wG c ag ((ss (ss (ss (ss g_62.1 5 0) 6 0) 7 (-1)) 8 0), (g_62.2.1), g_62.2.2.1, t89)) H := hP
              have hD : va_D A (wG c ag ((ss (ss (ss (ss g_62.1 5 0) 6 0) 7 (-1)) 8 0), (g_62.2.1), g_62.2.2.1, t89)) := hD
              refine lv_aload_n hx hb dX1_dealRound_112 rfl (lv_at hl 0 rfl) ?_
              refine lv_iconst (v := 0) hx hb dX1_dealRound_113 (by decide) ?_
              refine va_put (D := G) (ci := 1) (v := .int 0) (C := RX1) (T := TX1) (N := 16) hx hb hts hi_1 tyX1 tyX1_ok nmX1 hown hK hP hD hS 0 rfl rfl 10 (by decide) (hts (.fieldLink RX1 70 "HubTrains$Game" "passes" "I") (List.mem_of_getElem? (i := 10) rfl)) (fun _ h9 => h9) rfl (tyX1_ok 10 (by decide)) rfl rfl (Nat.le_of_ble_eq_true rfl) dX1_dealRound_114 (fun H locs hP hD hS => ?_)
              have hP : va_P G vwCl (wG c ag ((ss (ss (ss (ss (ss g_62.1 5 0) 6 0) 7 (-1)) 8 0) 10 0), (g_62.2.1), g_62.2.2.1, t89)) H := hP
              have hD : va_D A (wG c ag ((ss (ss (ss (ss (ss g_62.1 5 0) 6 0) 7 (-1)) 8 0) 10 0), (g_62.2.1), g_62.2.2.1, t89)) := hD
              exact hend H locs ls _ _ (zc1 (fun (z0 : GS) => (wG c ag z0 : va_W)) (Option.some.inj hm)) hP hD hS dX1_dealRound_117
            · have hm := ifn c_67 hm
              refine lv_aload_n hx hb dX1_dealRound_70 rfl (lv_at hl 0 rfl) ?_
              refine lv_iload_n hx hb dX1_dealRound_71 rfl (lv_at hl 1 rfl) ?_
              obtain ⟨g72, e_72, hm⟩ := bd1_s hm
              refine zcVv (As := [.int v1_62]) (rest := []) ⟨hx, hb, hml, hown, hts⟩ (k_X1_fillHand l G K c ag g_62 v1_62 g72 e_72) (cwV 1 hts gX1_dealRound_X1_fillHand rfl rfl rfl hd_X1_fillHand ⟨Nat.le_of_ble_eq_true rfl, Nat.le_of_ble_eq_true rfl⟩) hK hN hZ hP hD hS hA (va_recv hK hP (ci := 1) (q0 := 0) rfl rfl) [0, 1, 2, 3, 4, 5, 6, 7, 8, 9] rfl (by decide) rfl rfl hl.1 rfl (Nat.le_of_ble_eq_true rfl) dX1_dealRound_72 ⟨Nat.zero_le _, Nat.zero_le _⟩ (fun H locs hP hD hS => ?_)
              have hP : va_P G vwCl (wG c ag g72) H := hP
              have hD : va_D A (wG c ag g72) := hD
              refine lv_iinc (k := 1) (v := (v1_62 + 1)) (lv' := [(1, .int (v1_62 + 1)), (0, .ref (ag 0))]) hx hb dX1_dealRound_75 hl rfl rfl (by decide) rfl (fun ls hl => ?_)
              refine lv_goto (tgt := 62) hx hb dX1_dealRound_78 (by decide) ?_
              exact ih_62 (v1_62 + 1) g72 H locs ls hP hD hS (lv_sub hl [1, 0] rfl) hm
        exact L_62 FUEL 0 ((ss g_9.1 4 r54), (g_9.2.1), k54, g_9.2.2.2) H locs ls hP hD hS (lv_sub hl [1, 0] rfl) hm
      · have hm := ifn c_12 hm
        refine lv_aload_n hx hb dX1_dealRound_15 rfl (lv_at hl 0 rfl) ?_
        refine lv_iload_n hx hb dX1_dealRound_16 rfl (lv_at hl 1 rfl) ?_
        obtain ⟨r17, e_17, hm⟩ := bd1_s hm
        refine zcVi (As := [.int v1_9]) (rest := []) ⟨hx, hb, hml, hown, hts⟩ (k_X1_isInSet l G K c ag g_9 v1_9 r17 e_17) (cwV 1 hts gX1_dealRound_X1_isInSet rfl rfl rfl hd_X1_isInSet ⟨Nat.le_of_ble_eq_true rfl, Nat.le_of_ble_eq_true rfl⟩) hK hN hZ hP hD hS hA (va_recv hK hP (ci := 1) (q0 := 0) rfl rfl) [0, 1, 2, 3, 4, 5, 6, 7, 8, 9] rfl (by decide) rfl rfl hl.1 rfl (Nat.le_of_ble_eq_true rfl) dX1_dealRound_17 ⟨Nat.zero_le _, Nat.zero_le _⟩ (fun H locs hP hD hS => ?_)
        have hP : va_P G vwCl (wG c ag g_9) H := hP
        have hD : va_D A (wG c ag g_9) := hD
        refine lv_if_eq (tgt := 39) hx hb dX1_dealRound_20 (by decide) (fun c_20 => ?_) (fun c_20 => ?_)
        · have hm := ifp c_20 hm
          refine lv_iinc (k := 1) (v := (v1_9 + 1)) (lv' := [(1, .int (v1_9 + 1)), (0, .ref (ag 0))]) hx hb dX1_dealRound_39 hl rfl rfl (by decide) rfl (fun ls hl => ?_)
          refine lv_goto (tgt := 9) hx hb dX1_dealRound_42 (by decide) ?_
          exact ih_9 (v1_9 + 1) g_9 H locs ls hP hD hS (lv_sub hl [1, 0] rfl) hm
        · have hm := ifn c_20 hm
          refine lv_aload_n hx hb dX1_dealRound_23 rfl (lv_at hl 0 rfl) ?_
          refine lv_iload_n hx hb dX1_dealRound_24 rfl (lv_at hl 1 rfl) ?_
          obtain ⟨r25, e_25, hm⟩ := bd1_s hm
          refine zcVi (As := [.int v1_9]) (rest := []) ⟨hx, hb, hml, hown, hts⟩ (k_X1_isFree l G K c ag g_9 v1_9 r25 e_25) (cwV 1 hts gX1_dealRound_X1_isFree rfl rfl rfl hd_X1_isFree ⟨Nat.le_of_ble_eq_true rfl, Nat.le_of_ble_eq_true rfl⟩) hK hN hZ hP hD hS hA (va_recv hK hP (ci := 1) (q0 := 0) rfl rfl) [0, 1, 2, 3, 4, 5, 6, 7, 8, 9] rfl (by decide) rfl rfl hl.1 rfl (Nat.le_of_ble_eq_true rfl) dX1_dealRound_25 ⟨Nat.zero_le _, Nat.zero_le _⟩ (fun H locs hP hD hS => ?_)
          have hP : va_P G vwCl (wG c ag g_9) H := hP
          have hD : va_D A (wG c ag g_9) := hD
          refine lv_if_eq (tgt := 39) hx hb dX1_dealRound_28 (by decide) (fun c_28 => ?_) (fun c_28 => ?_)
          · have hm := ifp c_28 hm
            refine lv_iinc (k := 1) (v := (v1_9 + 1)) (lv' := [(1, .int (v1_9 + 1)), (0, .ref (ag 0))]) hx hb dX1_dealRound_39 hl rfl rfl (by decide) rfl (fun ls hl => ?_)
            refine lv_goto (tgt := 9) hx hb dX1_dealRound_42 (by decide) ?_
            exact ih_9 (v1_9 + 1) g_9 H locs ls hP hD hS (lv_sub hl [1, 0] rfl) hm
          · have hm := ifn c_28 hm
            refine lv_aload_n hx hb dX1_dealRound_31 rfl (lv_at hl 0 rfl) ?_
            refine va_get (D := G) (ci := 1) (v := .ref (ag 3)) (C := RX1) (T := TX1) (N := 16) hx hb hts hi_1 hown hK hP 0 rfl rfl 14 (by decide) (hts (.fieldLink RX1 40 "HubTrains$Game" "stock" "LHubTrains$Stock;") (List.mem_of_getElem? (i := 1) rfl)) (fun _ h9 => h9) rfl dX1_dealRound_32 ?_
            refine lv_iload_n hx hb dX1_dealRound_35 rfl (lv_at hl 1 rfl) ?_
            obtain ⟨k36, e_36, hm⟩ := bd1_s hm
            refine zcVv (As := [.int v1_9]) (rest := []) ⟨hx, hb, hml, hown, hts⟩ (k_X4_add l G K c (ag 3) (ag 4) g_9.2.2.1 v1_9 k36 e_36) (cwV 1 hts gX1_dealRound_X4_add rfl rfl rfl hd_X4_add ⟨Nat.le_of_ble_eq_true rfl, Nat.le_of_ble_eq_true rfl⟩) hK hN hZ hP hD hS hA (va_recv hK hP (ci := 4) (q0 := 3) rfl rfl) [3, 4] rfl (by decide) rfl rfl hl.1 rfl (Nat.le_of_ble_eq_true rfl) dX1_dealRound_36 ⟨Nat.zero_le _, Nat.zero_le _⟩ (fun H locs hP hD hS => ?_)
            have hP : va_P G vwCl (wG c ag (g_9.1, (g_9.2.1), k36, g_9.2.2.2)) H := hP
            have hD : va_D A (wG c ag (g_9.1, (g_9.2.1), k36, g_9.2.2.2)) := hD
            refine lv_iinc (k := 1) (v := (v1_9 + 1)) (lv' := [(1, .int (v1_9 + 1)), (0, .ref (ag 0))]) hx hb dX1_dealRound_39 hl rfl rfl (by decide) rfl (fun ls hl => ?_)
            refine lv_goto (tgt := 9) hx hb dX1_dealRound_42 (by decide) ?_
            exact ih_9 (v1_9 + 1) (g_9.1, (g_9.2.1), k36, g_9.2.2.2) H locs ls hP hD hS (lv_sub hl [1, 0] rfl) hm
  exact L_9 FUEL 0 (g.1, (g.2.1), k4, g.2.2.2) H locs ls hP hD hS (lv_sub hl [1, 0] rfl) hm

def f_X1_stateNumber (g : GS) (p0 : Int32) : Option Int32 :=
  if p0 = 0 then (some ((g.1.1 0))) else (if p0 = 1 then (some ((g.1.1 1))) else (if p0 = 2 then (some ((g.1.1 2))) else (if p0 = 3 then (some ((g.1.1 3))) else (if p0 = 4 then (some ((g.1.1 5))) else (if p0 = 5 then (if (g.1.1 6) = 0 then (some (0)) else (some (1))) else (if p0 = 6 then (some ((g.1.1 7))) else (if p0 = 7 then (bd1 (f_X4_size g.2.2.1) fun (r111 : Int32) => some (r111)) else (if p0 = 8 then (if (g.1.1 8) = 0 then (some (0)) else (some (1))) else (if p0 = 9 then (some ((g.1.1 9))) else (if p0 = 10 then (bd1 (f_X1_playsNow g) fun (r134 : Int32) => some (r134)) else (if p0 = 11 then (some ((g.1.1 10))) else (some ((g.1.1 4))))))))))))))

abbrev rm_X1_stateNumber : Room := { frames := 6, cells := 0, slots := 0, locals := 130 }
theorem hd_X1_stateNumber : yX1_stateNumber.cls = RX1 ∧ yX1_stateNumber.cls ≠ "java/lang/invoke/MethodHandle" ∧ yX1_stateNumber.cls ≠ "java/lang/invoke/VarHandle" ∧ (parseMethodDescriptor yX1_stateNumber.desc).map (fun d => d.parameters.length) = some 1 := by decide +kernel
set_option maxHeartbeats 4000000 in
set_option maxRecDepth 100000 in
theorem k_X1_stateNumber (l : Launch) (G : va_G) (K : (Nat → Nat) × (Nat → Nat)) (c : Nat → ClassId) (ag : Nat → Nat) (g : GS) (p0 : Int32) (r : Int32) (hm : f_X1_stateNumber g p0 = some (r)) : zMi l yX1_stateNumber wsX1_stateNumber (rm_X1_stateNumber) G K (TY c) [.ref (ag 0), .int p0] (wG c ag g) (wG c ag g) r := by
  refine zMi.of (cc := cX1_stateNumber) (maxL := 2) (lv := [(0, .ref (ag 0)), (1, .int p0)]) (by decide) rfl (Nat.le_of_ble_eq_true rfl) rfl ?_
  intro p e s m args below meth c1 A Q H locs hx hb hml hown hts hK hN hZ hP hD hA hS hend ls hl
  have hown : s.vm.findClass RX1 = some m.cls := hown
  have hi_1 : ∀ w ∈ wsX10, w ∈ wsX1_stateNumber := (fun w h => List.mem_cons_of_mem _ (List.mem_append_left _ (List.mem_append_left _ (List.mem_append_right _ (h)))))
  unfold f_X1_stateNumber at hm
  refine lv_iload_n hx hb dX1_stateNumber_0 rfl (lv_at hl 1 rfl) ?_
  rcases Classical.em (p0 = 0) with c_1_0 | c_1_0
  · have hm := ifp c_1_0 hm
    refine lv_tableIn (off := 63) (tgt := 64) hx hb dX1_stateNumber_1 (by rw [c_1_0]; decide) (by rw [c_1_0]; decide) (by rw [c_1_0]; rfl) (by decide) ?_
    refine lv_aload_n hx hb dX1_stateNumber_64 rfl (lv_at hl 0 rfl) ?_
    refine va_get (D := G) (ci := 1) (v := .int (g.1.1 0)) (C := RX1) (T := TX1) (N := 16) hx hb hts hi_1 hown hK hP 0 rfl rfl 0 (by decide) (hts (.fieldLink RX1 9 "HubTrains$Game" "greatest" "I") (List.mem_of_getElem? (i := 1) rfl)) (fun _ h9 => h9) rfl dX1_stateNumber_65 ?_
    exact hend H locs ls _ _ _ rfl (Option.some.inj hm) rfl hP hD hS dX1_stateNumber_68
  · have hm := ifn c_1_0 hm
    rcases Classical.em (p0 = 1) with c_1_1 | c_1_1
    · have hm := ifp c_1_1 hm
      refine lv_tableIn (off := 68) (tgt := 69) hx hb dX1_stateNumber_1 (by rw [c_1_1]; decide) (by rw [c_1_1]; decide) (by rw [c_1_1]; rfl) (by decide) ?_
      refine lv_aload_n hx hb dX1_stateNumber_69 rfl (lv_at hl 0 rfl) ?_
      refine va_get (D := G) (ci := 1) (v := .int (g.1.1 1)) (C := RX1) (T := TX1) (N := 16) hx hb hts hi_1 hown hK hP 0 rfl rfl 1 (by decide) (hts (.fieldLink RX1 15 "HubTrains$Game" "players" "I") (List.mem_of_getElem? (i := 2) rfl)) (fun _ h9 => h9) rfl dX1_stateNumber_70 ?_
      exact hend H locs ls _ _ _ rfl (Option.some.inj hm) rfl hP hD hS dX1_stateNumber_73
    · have hm := ifn c_1_1 hm
      rcases Classical.em (p0 = 2) with c_1_2 | c_1_2
      · have hm := ifp c_1_2 hm
        refine lv_tableIn (off := 73) (tgt := 74) hx hb dX1_stateNumber_1 (by rw [c_1_2]; decide) (by rw [c_1_2]; decide) (by rw [c_1_2]; rfl) (by decide) ?_
        refine lv_aload_n hx hb dX1_stateNumber_74 rfl (lv_at hl 0 rfl) ?_
        refine va_get (D := G) (ci := 1) (v := .int (g.1.1 2)) (C := RX1) (T := TX1) (N := 16) hx hb hts hi_1 hown hK hP 0 rfl rfl 2 (by decide) (hts (.fieldLink RX1 18 "HubTrains$Game" "handSize" "I") (List.mem_of_getElem? (i := 3) rfl)) (fun _ h9 => h9) rfl dX1_stateNumber_75 ?_
        exact hend H locs ls _ _ _ rfl (Option.some.inj hm) rfl hP hD hS dX1_stateNumber_78
      · have hm := ifn c_1_2 hm
        rcases Classical.em (p0 = 3) with c_1_3 | c_1_3
        · have hm := ifp c_1_3 hm
          refine lv_tableIn (off := 78) (tgt := 79) hx hb dX1_stateNumber_1 (by rw [c_1_3]; decide) (by rw [c_1_3]; decide) (by rw [c_1_3]; rfl) (by decide) ?_
          refine lv_aload_n hx hb dX1_stateNumber_79 rfl (lv_at hl 0 rfl) ?_
          refine va_get (D := G) (ci := 1) (v := .int (g.1.1 3)) (C := RX1) (T := TX1) (N := 16) hx hb hts hi_1 hown hK hP 0 rfl rfl 3 (by decide) (hts (.fieldLink RX1 21 "HubTrains$Game" "hub" "I") (List.mem_of_getElem? (i := 4) rfl)) (fun _ h9 => h9) rfl dX1_stateNumber_80 ?_
          exact hend H locs ls _ _ _ rfl (Option.some.inj hm) rfl hP hD hS dX1_stateNumber_83
        · have hm := ifn c_1_3 hm
          rcases Classical.em (p0 = 4) with c_1_4 | c_1_4
          · have hm := ifp c_1_4 hm
            refine lv_tableIn (off := 83) (tgt := 84) hx hb dX1_stateNumber_1 (by rw [c_1_4]; decide) (by rw [c_1_4]; decide) (by rw [c_1_4]; rfl) (by decide) ?_
            refine lv_aload_n hx hb dX1_stateNumber_84 rfl (lv_at hl 0 rfl) ?_
            refine va_get (D := G) (ci := 1) (v := .int (g.1.1 5)) (C := RX1) (T := TX1) (N := 16) hx hb hts hi_1 hown hK hP 0 rfl rfl 5 (by decide) (hts (.fieldLink RX1 57 "HubTrains$Game" "turn" "I") (List.mem_of_getElem? (i := 5) rfl)) (fun _ h9 => h9) rfl dX1_stateNumber_85 ?_
            exact hend H locs ls _ _ _ rfl (Option.some.inj hm) rfl hP hD hS dX1_stateNumber_88
          · have hm := ifn c_1_4 hm
            rcases Classical.em (p0 = 5) with c_1_5 | c_1_5
            · have hm := ifp c_1_5 hm
              refine lv_tableIn (off := 88) (tgt := 89) hx hb dX1_stateNumber_1 (by rw [c_1_5]; decide) (by rw [c_1_5]; decide) (by rw [c_1_5]; rfl) (by decide) ?_
              refine lv_aload_n hx hb dX1_stateNumber_89 rfl (lv_at hl 0 rfl) ?_
              refine va_get (D := G) (ci := 1) (v := .int (g.1.1 6)) (C := RX1) (T := TX1) (N := 16) hx hb hts hi_1 hown hK hP 0 rfl rfl 6 (by decide) (hts (.fieldLink RX1 60 "HubTrains$Game" "drew" "Z") (List.mem_of_getElem? (i := 6) rfl)) (fun _ h9 => h9) rfl dX1_stateNumber_90 ?_
              refine lv_if_eq (tgt := 100) hx hb dX1_stateNumber_93 (by decide) (fun c_93 => ?_) (fun c_93 => ?_)
              · have hm := ifp c_93 hm
                refine lv_iconst (v := 0) hx hb dX1_stateNumber_100 (by decide) ?_
                exact hend H locs ls _ _ _ rfl (Option.some.inj hm) rfl hP hD hS dX1_stateNumber_101
              · have hm := ifn c_93 hm
                refine lv_iconst (v := 1) hx hb dX1_stateNumber_96 (by decide) ?_
                refine lv_goto (tgt := 101) hx hb dX1_stateNumber_97 (by decide) ?_
                exact hend H locs ls _ _ _ rfl (Option.some.inj hm) rfl hP hD hS dX1_stateNumber_101
            · have hm := ifn c_1_5 hm
              rcases Classical.em (p0 = 6) with c_1_6 | c_1_6
              · have hm := ifp c_1_6 hm
                refine lv_tableIn (off := 101) (tgt := 102) hx hb dX1_stateNumber_1 (by rw [c_1_6]; decide) (by rw [c_1_6]; decide) (by rw [c_1_6]; rfl) (by decide) ?_
                refine lv_aload_n hx hb dX1_stateNumber_102 rfl (lv_at hl 0 rfl) ?_
                refine va_get (D := G) (ci := 1) (v := .int (g.1.1 7)) (C := RX1) (T := TX1) (N := 16) hx hb hts hi_1 hown hK hP 0 rfl rfl 7 (by decide) (hts (.fieldLink RX1 27 "HubTrains$Game" "uncovered" "I") (List.mem_of_getElem? (i := 7) rfl)) (fun _ h9 => h9) rfl dX1_stateNumber_103 ?_
                exact hend H locs ls _ _ _ rfl (Option.some.inj hm) rfl hP hD hS dX1_stateNumber_106
              · have hm := ifn c_1_6 hm
                rcases Classical.em (p0 = 7) with c_1_7 | c_1_7
                · have hm := ifp c_1_7 hm
                  refine lv_tableIn (off := 106) (tgt := 107) hx hb dX1_stateNumber_1 (by rw [c_1_7]; decide) (by rw [c_1_7]; decide) (by rw [c_1_7]; rfl) (by decide) ?_
                  refine lv_aload_n hx hb dX1_stateNumber_107 rfl (lv_at hl 0 rfl) ?_
                  refine va_get (D := G) (ci := 1) (v := .ref (ag 3)) (C := RX1) (T := TX1) (N := 16) hx hb hts hi_1 hown hK hP 0 rfl rfl 14 (by decide) (hts (.fieldLink RX1 40 "HubTrains$Game" "stock" "LHubTrains$Stock;") (List.mem_of_getElem? (i := 8) rfl)) (fun _ h9 => h9) rfl dX1_stateNumber_108 ?_
                  obtain ⟨r111, e_111, hm⟩ := bd1_s hm
                  refine zcVi (As := []) (rest := []) ⟨hx, hb, hml, hown, hts⟩ (k_X4_size l G K c (ag 3) (ag 4) g.2.2.1 r111 e_111) (cwV 0 hts gX1_stateNumber_X4_size rfl rfl rfl hd_X4_size ⟨Nat.le_of_ble_eq_true rfl, Nat.le_of_ble_eq_true rfl⟩) hK hN hZ hP hD hS hA (va_recv hK hP (ci := 4) (q0 := 3) rfl rfl) [3, 4] rfl (by decide) rfl rfl hl.1 rfl (Nat.le_of_ble_eq_true rfl) dX1_stateNumber_111 ⟨Nat.zero_le _, Nat.zero_le _⟩ (fun H locs hP hD hS => ?_)
                  have hP : va_P G vwCl (wG c ag g) H := hP
                  have hD : va_D A (wG c ag g) := hD
                  exact hend H locs ls _ _ _ rfl (Option.some.inj hm) rfl hP hD hS dX1_stateNumber_114
                · have hm := ifn c_1_7 hm
                  rcases Classical.em (p0 = 8) with c_1_8 | c_1_8
                  · have hm := ifp c_1_8 hm
                    refine lv_tableIn (off := 114) (tgt := 115) hx hb dX1_stateNumber_1 (by rw [c_1_8]; decide) (by rw [c_1_8]; decide) (by rw [c_1_8]; rfl) (by decide) ?_
                    refine lv_aload_n hx hb dX1_stateNumber_115 rfl (lv_at hl 0 rfl) ?_
                    refine va_get (D := G) (ci := 1) (v := .int (g.1.1 8)) (C := RX1) (T := TX1) (N := 16) hx hb hts hi_1 hown hK hP 0 rfl rfl 8 (by decide) (hts (.fieldLink RX1 64 "HubTrains$Game" "over" "Z") (List.mem_of_getElem? (i := 9) rfl)) (fun _ h9 => h9) rfl dX1_stateNumber_116 ?_
                    refine lv_if_eq (tgt := 126) hx hb dX1_stateNumber_119 (by decide) (fun c_119 => ?_) (fun c_119 => ?_)
                    · have hm := ifp c_119 hm
                      refine lv_iconst (v := 0) hx hb dX1_stateNumber_126 (by decide) ?_
                      exact hend H locs ls _ _ _ rfl (Option.some.inj hm) rfl hP hD hS dX1_stateNumber_127
                    · have hm := ifn c_119 hm
                      refine lv_iconst (v := 1) hx hb dX1_stateNumber_122 (by decide) ?_
                      refine lv_goto (tgt := 127) hx hb dX1_stateNumber_123 (by decide) ?_
                      exact hend H locs ls _ _ _ rfl (Option.some.inj hm) rfl hP hD hS dX1_stateNumber_127
                  · have hm := ifn c_1_8 hm
                    rcases Classical.em (p0 = 9) with c_1_9 | c_1_9
                    · have hm := ifp c_1_9 hm
                      refine lv_tableIn (off := 127) (tgt := 128) hx hb dX1_stateNumber_1 (by rw [c_1_9]; decide) (by rw [c_1_9]; decide) (by rw [c_1_9]; rfl) (by decide) ?_
                      refine lv_aload_n hx hb dX1_stateNumber_128 rfl (lv_at hl 0 rfl) ?_
                      refine va_get (D := G) (ci := 1) (v := .int (g.1.1 9)) (C := RX1) (T := TX1) (N := 16) hx hb hts hi_1 hown hK hP 0 rfl rfl 9 (by decide) (hts (.fieldLink RX1 67 "HubTrains$Game" "rounds" "I") (List.mem_of_getElem? (i := 10) rfl)) (fun _ h9 => h9) rfl dX1_stateNumber_129 ?_
                      exact hend H locs ls _ _ _ rfl (Option.some.inj hm) rfl hP hD hS dX1_stateNumber_132
                    · have hm := ifn c_1_9 hm
                      rcases Classical.em (p0 = 10) with c_1_10 | c_1_10
                      · have hm := ifp c_1_10 hm
                        refine lv_tableIn (off := 132) (tgt := 133) hx hb dX1_stateNumber_1 (by rw [c_1_10]; decide) (by rw [c_1_10]; decide) (by rw [c_1_10]; rfl) (by decide) ?_
                        refine lv_aload_n hx hb dX1_stateNumber_133 rfl (lv_at hl 0 rfl) ?_
                        obtain ⟨r134, e_134, hm⟩ := bd1_s hm
                        refine zcVi (As := []) (rest := []) ⟨hx, hb, hml, hown, hts⟩ (k_X1_playsNow l G K c ag g r134 e_134) (cwV 0 hts gX1_stateNumber_X1_playsNow rfl rfl rfl hd_X1_playsNow ⟨Nat.le_of_ble_eq_true rfl, Nat.le_of_ble_eq_true rfl⟩) hK hN hZ hP hD hS hA (va_recv hK hP (ci := 1) (q0 := 0) rfl rfl) [0, 1, 2, 3, 4, 5, 6, 7, 8, 9] rfl (by decide) rfl rfl hl.1 rfl (Nat.le_of_ble_eq_true rfl) dX1_stateNumber_134 ⟨Nat.zero_le _, Nat.zero_le _⟩ (fun H locs hP hD hS => ?_)
                        have hP : va_P G vwCl (wG c ag g) H := hP
                        have hD : va_D A (wG c ag g) := hD
                        exact hend H locs ls _ _ _ rfl (Option.some.inj hm) rfl hP hD hS dX1_stateNumber_137
                      · have hm := ifn c_1_10 hm
                        rcases Classical.em (p0 = 11) with c_1_11 | c_1_11
                        · have hm := ifp c_1_11 hm
                          refine lv_tableIn (off := 137) (tgt := 138) hx hb dX1_stateNumber_1 (by rw [c_1_11]; decide) (by rw [c_1_11]; decide) (by rw [c_1_11]; rfl) (by decide) ?_
                          refine lv_aload_n hx hb dX1_stateNumber_138 rfl (lv_at hl 0 rfl) ?_
                          refine va_get (D := G) (ci := 1) (v := .int (g.1.1 10)) (C := RX1) (T := TX1) (N := 16) hx hb hts hi_1 hown hK hP 0 rfl rfl 10 (by decide) (hts (.fieldLink RX1 70 "HubTrains$Game" "passes" "I") (List.mem_of_getElem? (i := 11) rfl)) (fun _ h9 => h9) rfl dX1_stateNumber_139 ?_
                          exact hend H locs ls _ _ _ rfl (Option.some.inj hm) rfl hP hD hS dX1_stateNumber_142
                        · have hm := ifn c_1_11 hm
                          refine lv_tableOut (tgt := 143) hx hb dX1_stateNumber_1 (sw_out (0) (11) (fun k hk hk2 hkx => by rcases (show k = 0 ∨ k = 1 ∨ k = 2 ∨ k = 3 ∨ k = 4 ∨ k = 5 ∨ k = 6 ∨ k = 7 ∨ k = 8 ∨ k = 9 ∨ k = 10 ∨ k = 11 by omega) with rfl | rfl | rfl | rfl | rfl | rfl | rfl | rfl | rfl | rfl | rfl | rfl <;> first | exact c_1_0 (hkx.trans (by decide)) | exact c_1_1 (hkx.trans (by decide)) | exact c_1_2 (hkx.trans (by decide)) | exact c_1_3 (hkx.trans (by decide)) | exact c_1_4 (hkx.trans (by decide)) | exact c_1_5 (hkx.trans (by decide)) | exact c_1_6 (hkx.trans (by decide)) | exact c_1_7 (hkx.trans (by decide)) | exact c_1_8 (hkx.trans (by decide)) | exact c_1_9 (hkx.trans (by decide)) | exact c_1_10 (hkx.trans (by decide)) | exact c_1_11 (hkx.trans (by decide)))) (by decide) ?_
                          refine lv_aload_n hx hb dX1_stateNumber_143 rfl (lv_at hl 0 rfl) ?_
                          refine va_get (D := G) (ci := 1) (v := .int (g.1.1 4)) (C := RX1) (T := TX1) (N := 16) hx hb hts hi_1 hown hK hP 0 rfl rfl 4 (by decide) (hts (.fieldLink RX1 24 "HubTrains$Game" "seed" "I") (List.mem_of_getElem? (i := 12) rfl)) (fun _ h9 => h9) rfl dX1_stateNumber_144 ?_
                          exact hend H locs ls _ _ _ rfl (Option.some.inj hm) rfl hP hD hS dX1_stateNumber_147


def f_X1_playerNumber (g : GS) (p0 : Int32) (p1 : Int32) : Option Int32 :=
  if p1 = 0 then (bd1 (f_X1_handCount g p0) fun (r30 : Int32) => some (r30)) else (if p1 = 1 then (bd1 (f_X1_handPips g p0) fun (r36 : Int32) => some (r36)) else (if p1 = 2 then (bd1 (f_X7_look 4 (g.1.2 1) p0) fun (r45 : Int32) => some (r45)) else (bd1 (f_X1_playableTiles g p0) fun (r51 : Int32) => some (r51))))

abbrev rm_X1_playerNumber : Room := { frames := 6, cells := 0, slots := 0, locals := 131 }
theorem hd_X1_playerNumber : yX1_playerNumber.cls = RX1 ∧ yX1_playerNumber.cls ≠ "java/lang/invoke/MethodHandle" ∧ yX1_playerNumber.cls ≠ "java/lang/invoke/VarHandle" ∧ (parseMethodDescriptor yX1_playerNumber.desc).map (fun d => d.parameters.length) = some 2 := by decide +kernel
set_option maxHeartbeats 4000000 in
set_option maxRecDepth 100000 in
theorem k_X1_playerNumber (l : Launch) (G : va_G) (K : (Nat → Nat) × (Nat → Nat)) (c : Nat → ClassId) (ag : Nat → Nat) (g : GS) (p0 : Int32) (p1 : Int32) (r : Int32) (hm : f_X1_playerNumber g p0 p1 = some (r)) : zMi l yX1_playerNumber wsX1_playerNumber (rm_X1_playerNumber) G K (TY c) [.ref (ag 0), .int p0, .int p1] (wG c ag g) (wG c ag g) r := by
  refine zMi.of (cc := cX1_playerNumber) (maxL := 3) (lv := [(0, .ref (ag 0)), (1, .int p0), (2, .int p1)]) (by decide) rfl (Nat.le_of_ble_eq_true rfl) rfl ?_
  intro p e s m args below meth c1 A Q H locs hx hb hml hown hts hK hN hZ hP hD hA hS hend ls hl
  have hown : s.vm.findClass RX1 = some m.cls := hown
  have hi_1 : ∀ w ∈ wsX10, w ∈ wsX1_playerNumber := (fun w h => List.mem_cons_of_mem _ (List.mem_append_left _ (List.mem_append_right _ (h))))
  unfold f_X1_playerNumber at hm
  refine lv_iload_n hx hb dX1_playerNumber_0 rfl (lv_at hl 2 rfl) ?_
  rcases Classical.em (p1 = 0) with c_1_0 | c_1_0
  · have hm := ifp c_1_0 hm
    refine lv_tableIn (off := 27) (tgt := 28) hx hb dX1_playerNumber_1 (by rw [c_1_0]; decide) (by rw [c_1_0]; decide) (by rw [c_1_0]; rfl) (by decide) ?_
    refine lv_aload_n hx hb dX1_playerNumber_28 rfl (lv_at hl 0 rfl) ?_
    refine lv_iload_n hx hb dX1_playerNumber_29 rfl (lv_at hl 1 rfl) ?_
    obtain ⟨r30, e_30, hm⟩ := bd1_s hm
    refine zcVi (As := [.int p0]) (rest := []) ⟨hx, hb, hml, hown, hts⟩ (k_X1_handCount l G K c ag g p0 r30 e_30) (cwV 1 hts gX1_playerNumber_X1_handCount rfl rfl rfl hd_X1_handCount ⟨Nat.le_of_ble_eq_true rfl, Nat.le_of_ble_eq_true rfl⟩) hK hN hZ hP hD hS hA (va_recv hK hP (ci := 1) (q0 := 0) rfl rfl) [0, 1, 2, 3, 4, 5, 6, 7, 8, 9] rfl (by decide) rfl rfl hl.1 rfl (Nat.le_of_ble_eq_true rfl) dX1_playerNumber_30 ⟨Nat.zero_le _, Nat.zero_le _⟩ (fun H locs hP hD hS => ?_)
    have hP : va_P G vwCl (wG c ag g) H := hP
    have hD : va_D A (wG c ag g) := hD
    exact hend H locs ls _ _ _ rfl (Option.some.inj hm) rfl hP hD hS dX1_playerNumber_33
  · have hm := ifn c_1_0 hm
    rcases Classical.em (p1 = 1) with c_1_1 | c_1_1
    · have hm := ifp c_1_1 hm
      refine lv_tableIn (off := 33) (tgt := 34) hx hb dX1_playerNumber_1 (by rw [c_1_1]; decide) (by rw [c_1_1]; decide) (by rw [c_1_1]; rfl) (by decide) ?_
      refine lv_aload_n hx hb dX1_playerNumber_34 rfl (lv_at hl 0 rfl) ?_
      refine lv_iload_n hx hb dX1_playerNumber_35 rfl (lv_at hl 1 rfl) ?_
      obtain ⟨r36, e_36, hm⟩ := bd1_s hm
      refine zcVi (As := [.int p0]) (rest := []) ⟨hx, hb, hml, hown, hts⟩ (k_X1_handPips l G K c ag g p0 r36 e_36) (cwV 1 hts gX1_playerNumber_X1_handPips rfl rfl rfl hd_X1_handPips ⟨Nat.le_of_ble_eq_true rfl, Nat.le_of_ble_eq_true rfl⟩) hK hN hZ hP hD hS hA (va_recv hK hP (ci := 1) (q0 := 0) rfl rfl) [0, 1, 2, 3, 4, 5, 6, 7, 8, 9] rfl (by decide) rfl rfl hl.1 rfl (Nat.le_of_ble_eq_true rfl) dX1_playerNumber_36 ⟨Nat.zero_le _, Nat.zero_le _⟩ (fun H locs hP hD hS => ?_)
      have hP : va_P G vwCl (wG c ag g) H := hP
      have hD : va_D A (wG c ag g) := hD
      exact hend H locs ls _ _ _ rfl (Option.some.inj hm) rfl hP hD hS dX1_playerNumber_39
    · have hm := ifn c_1_1 hm
      rcases Classical.em (p1 = 2) with c_1_2 | c_1_2
      · have hm := ifp c_1_2 hm
        refine lv_tableIn (off := 39) (tgt := 40) hx hb dX1_playerNumber_1 (by rw [c_1_2]; decide) (by rw [c_1_2]; decide) (by rw [c_1_2]; rfl) (by decide) ?_
        refine lv_aload_n hx hb dX1_playerNumber_40 rfl (lv_at hl 0 rfl) ?_
        refine va_get (D := G) (ci := 1) (v := .ref (ag 2)) (C := RX1) (T := TX1) (N := 16) hx hb hts hi_1 hown hK hP 0 rfl rfl 13 (by decide) (hts (.fieldLink RX1 34 "HubTrains$Game" "totals" "[I") (List.mem_of_getElem? (i := 1) rfl)) (fun _ h9 => h9) rfl dX1_playerNumber_41 ?_
        refine lv_iload_n hx hb dX1_playerNumber_44 rfl (lv_at hl 1 rfl) ?_
        obtain ⟨r45, e_45, hm⟩ := bd1_s hm
        refine zcSNi (As := [.ref (ag 2), .int p0]) (rest := []) ⟨hx, hb, hml, hown, hts⟩ (k_X7_look l G K c (ag 2) 4 (g.1.2 1) p0 r45 e_45) ⟨va_cnB 2 hts gX1_playerNumber_X7_look_n185 rfl rfl rfl (nwm_HubTrains_Game_185 hN.2.1) (hts (.initialized RX7) (List.mem_of_getElem? (i := 17) rfl)) hd_X7_look.2 ⟨Nat.le_of_ble_eq_true rfl, Nat.le_of_ble_eq_true rfl⟩, (hts (.static yX7_look) (List.mem_of_getElem? (i := 25) rfl)), trivial⟩ hK hN hZ hP hD hS hA [2] rfl (by decide) rfl rfl hl.1 rfl (Nat.le_of_ble_eq_true rfl) dX1_playerNumber_45 ⟨Nat.zero_le _, Nat.zero_le _⟩ (fun H locs hP hD hS => ?_)
        have hP : va_P G vwCl (wG c ag g) H := hP
        have hD : va_D A (wG c ag g) := hD
        exact hend H locs ls _ _ _ rfl (Option.some.inj hm) rfl hP hD hS dX1_playerNumber_48
      · have hm := ifn c_1_2 hm
        refine lv_tableOut (tgt := 49) hx hb dX1_playerNumber_1 (sw_out (0) (2) (fun k hk hk2 hkx => by rcases (show k = 0 ∨ k = 1 ∨ k = 2 by omega) with rfl | rfl | rfl <;> first | exact c_1_0 (hkx.trans (by decide)) | exact c_1_1 (hkx.trans (by decide)) | exact c_1_2 (hkx.trans (by decide)))) (by decide) ?_
        refine lv_aload_n hx hb dX1_playerNumber_49 rfl (lv_at hl 0 rfl) ?_
        refine lv_iload_n hx hb dX1_playerNumber_50 rfl (lv_at hl 1 rfl) ?_
        obtain ⟨r51, e_51, hm⟩ := bd1_s hm
        refine zcVi (As := [.int p0]) (rest := []) ⟨hx, hb, hml, hown, hts⟩ (k_X1_playableTiles l G K c ag g p0 r51 e_51) (cwV 1 hts gX1_playerNumber_X1_playableTiles rfl rfl rfl hd_X1_playableTiles ⟨Nat.le_of_ble_eq_true rfl, Nat.le_of_ble_eq_true rfl⟩) hK hN hZ hP hD hS hA (va_recv hK hP (ci := 1) (q0 := 0) rfl rfl) [0, 1, 2, 3, 4, 5, 6, 7, 8, 9] rfl (by decide) rfl rfl hl.1 rfl (Nat.le_of_ble_eq_true rfl) dX1_playerNumber_51 ⟨Nat.zero_le _, Nat.zero_le _⟩ (fun H locs hP hD hS => ?_)
        have hP : va_P G vwCl (wG c ag g) H := hP
        have hD : va_D A (wG c ag g) := hD
        exact hend H locs ls _ _ _ rfl (Option.some.inj hm) rfl hP hD hS dX1_playerNumber_54


def f_X1_trainNumber (g : GS) (p0 : Int32) (p1 : Int32) : Option Int32 :=
  if p1 = 0 then (bd1 (f_X6_countOf g.2.2.2 p0) fun (r37 : Int32) => some (r37)) else (if p1 = 1 then (bd1 (f_X6_endOf g.2.2.2 p0) fun (r46 : Int32) => some (r46)) else (if p1 = 2 then (bd1 (f_X1_isOpen g p0) fun (r52 : Int32) => if r52 = 0 then (some (0)) else (some (1))) else (if p1 = 3 then (bd1 (f_X6_countOf g.2.2.2 p0) fun (r74 : Int32) => bd1 (f_X6_tileAt g.2.2.2 p0 (r74 - 1)) fun (r79 : Int32) => some (r79)) else (bd1 (f_X6_pipsOn g.2.2.2 p0) fun (r88 : Int32) => some (r88)))))

abbrev rm_X1_trainNumber : Room := { frames := 3, cells := 0, slots := 0, locals := 63 }
theorem hd_X1_trainNumber : yX1_trainNumber.cls = RX1 ∧ yX1_trainNumber.cls ≠ "java/lang/invoke/MethodHandle" ∧ yX1_trainNumber.cls ≠ "java/lang/invoke/VarHandle" ∧ (parseMethodDescriptor yX1_trainNumber.desc).map (fun d => d.parameters.length) = some 2 := by decide +kernel
set_option maxHeartbeats 4000000 in
set_option maxRecDepth 100000 in
theorem k_X1_trainNumber (l : Launch) (G : va_G) (K : (Nat → Nat) × (Nat → Nat)) (c : Nat → ClassId) (ag : Nat → Nat) (g : GS) (p0 : Int32) (p1 : Int32) (r : Int32) (hm : f_X1_trainNumber g p0 p1 = some (r)) : zMi l yX1_trainNumber wsX1_trainNumber (rm_X1_trainNumber) G K (TY c) [.ref (ag 0), .int p0, .int p1] (wG c ag g) (wG c ag g) r := by
  refine zMi.of (cc := cX1_trainNumber) (maxL := 3) (lv := [(0, .ref (ag 0)), (1, .int p0), (2, .int p1)]) (by decide) rfl (Nat.le_of_ble_eq_true rfl) rfl ?_
  intro p e s m args below meth c1 A Q H locs hx hb hml hown hts hK hN hZ hP hD hA hS hend ls hl
  have hown : s.vm.findClass RX1 = some m.cls := hown
  have hi_1 : ∀ w ∈ wsX10, w ∈ wsX1_trainNumber := (fun w h => List.mem_cons_of_mem _ (List.mem_append_left _ (List.mem_append_right _ (h))))
  unfold f_X1_trainNumber at hm
  refine lv_iload_n hx hb dX1_trainNumber_0 rfl (lv_at hl 2 rfl) ?_
  rcases Classical.em (p1 = 0) with c_1_0 | c_1_0
  · have hm := ifp c_1_0 hm
    refine lv_tableIn (off := 31) (tgt := 32) hx hb dX1_trainNumber_1 (by rw [c_1_0]; decide) (by rw [c_1_0]; decide) (by rw [c_1_0]; rfl) (by decide) ?_
    refine lv_aload_n hx hb dX1_trainNumber_32 rfl (lv_at hl 0 rfl) ?_
    refine va_get (D := G) (ci := 1) (v := .ref (ag 5)) (C := RX1) (T := TX1) (N := 16) hx hb hts hi_1 hown hK hP 0 rfl rfl 15 (by decide) (hts (.fieldLink RX1 47 "HubTrains$Game" "tracks" "LHubTrains$Tracks;") (List.mem_of_getElem? (i := 1) rfl)) (fun _ h9 => h9) rfl dX1_trainNumber_33 ?_
    refine lv_iload_n hx hb dX1_trainNumber_36 rfl (lv_at hl 1 rfl) ?_
    obtain ⟨r37, e_37, hm⟩ := bd1_s hm
    refine zcVi (As := [.int p0]) (rest := []) ⟨hx, hb, hml, hown, hts⟩ (k_X6_countOf l G K c (ag 5) (ag 6) (ag 7) (ag 8) (ag 9) g.2.2.2 p0 r37 e_37) (cwV 1 hts gX1_trainNumber_X6_countOf rfl rfl rfl hd_X6_countOf ⟨Nat.le_of_ble_eq_true rfl, Nat.le_of_ble_eq_true rfl⟩) hK hN hZ hP hD hS hA (va_recv hK hP (ci := 6) (q0 := 5) rfl rfl) [5, 6, 7, 8, 9] rfl (by decide) rfl rfl hl.1 rfl (Nat.le_of_ble_eq_true rfl) dX1_trainNumber_37 ⟨Nat.zero_le _, Nat.zero_le _⟩ (fun H locs hP hD hS => ?_)
    have hP : va_P G vwCl (wG c ag g) H := hP
    have hD : va_D A (wG c ag g) := hD
    exact hend H locs ls _ _ _ rfl (Option.some.inj hm) rfl hP hD hS dX1_trainNumber_40
  · have hm := ifn c_1_0 hm
    rcases Classical.em (p1 = 1) with c_1_1 | c_1_1
    · have hm := ifp c_1_1 hm
      refine lv_tableIn (off := 40) (tgt := 41) hx hb dX1_trainNumber_1 (by rw [c_1_1]; decide) (by rw [c_1_1]; decide) (by rw [c_1_1]; rfl) (by decide) ?_
      refine lv_aload_n hx hb dX1_trainNumber_41 rfl (lv_at hl 0 rfl) ?_
      refine va_get (D := G) (ci := 1) (v := .ref (ag 5)) (C := RX1) (T := TX1) (N := 16) hx hb hts hi_1 hown hK hP 0 rfl rfl 15 (by decide) (hts (.fieldLink RX1 47 "HubTrains$Game" "tracks" "LHubTrains$Tracks;") (List.mem_of_getElem? (i := 1) rfl)) (fun _ h9 => h9) rfl dX1_trainNumber_42 ?_
      refine lv_iload_n hx hb dX1_trainNumber_45 rfl (lv_at hl 1 rfl) ?_
      obtain ⟨r46, e_46, hm⟩ := bd1_s hm
      refine zcVi (As := [.int p0]) (rest := []) ⟨hx, hb, hml, hown, hts⟩ (k_X6_endOf l G K c (ag 5) (ag 6) (ag 7) (ag 8) (ag 9) g.2.2.2 p0 r46 e_46) (cwV 1 hts gX1_trainNumber_X6_endOf rfl rfl rfl hd_X6_endOf ⟨Nat.le_of_ble_eq_true rfl, Nat.le_of_ble_eq_true rfl⟩) hK hN hZ hP hD hS hA (va_recv hK hP (ci := 6) (q0 := 5) rfl rfl) [5, 6, 7, 8, 9] rfl (by decide) rfl rfl hl.1 rfl (Nat.le_of_ble_eq_true rfl) dX1_trainNumber_46 ⟨Nat.zero_le _, Nat.zero_le _⟩ (fun H locs hP hD hS => ?_)
      have hP : va_P G vwCl (wG c ag g) H := hP
      have hD : va_D A (wG c ag g) := hD
      exact hend H locs ls _ _ _ rfl (Option.some.inj hm) rfl hP hD hS dX1_trainNumber_49
    · have hm := ifn c_1_1 hm
      rcases Classical.em (p1 = 2) with c_1_2 | c_1_2
      · have hm := ifp c_1_2 hm
        refine lv_tableIn (off := 49) (tgt := 50) hx hb dX1_trainNumber_1 (by rw [c_1_2]; decide) (by rw [c_1_2]; decide) (by rw [c_1_2]; rfl) (by decide) ?_
        refine lv_aload_n hx hb dX1_trainNumber_50 rfl (lv_at hl 0 rfl) ?_
        refine lv_iload_n hx hb dX1_trainNumber_51 rfl (lv_at hl 1 rfl) ?_
        obtain ⟨r52, e_52, hm⟩ := bd1_s hm
        refine zcVi (As := [.int p0]) (rest := []) ⟨hx, hb, hml, hown, hts⟩ (k_X1_isOpen l G K c ag g p0 r52 e_52) (cwV 1 hts gX1_trainNumber_X1_isOpen rfl rfl rfl hd_X1_isOpen ⟨Nat.le_of_ble_eq_true rfl, Nat.le_of_ble_eq_true rfl⟩) hK hN hZ hP hD hS hA (va_recv hK hP (ci := 1) (q0 := 0) rfl rfl) [0, 1, 2, 3, 4, 5, 6, 7, 8, 9] rfl (by decide) rfl rfl hl.1 rfl (Nat.le_of_ble_eq_true rfl) dX1_trainNumber_52 ⟨Nat.zero_le _, Nat.zero_le _⟩ (fun H locs hP hD hS => ?_)
        have hP : va_P G vwCl (wG c ag g) H := hP
        have hD : va_D A (wG c ag g) := hD
        refine lv_if_eq (tgt := 62) hx hb dX1_trainNumber_55 (by decide) (fun c_55 => ?_) (fun c_55 => ?_)
        · have hm := ifp c_55 hm
          refine lv_iconst (v := 0) hx hb dX1_trainNumber_62 (by decide) ?_
          exact hend H locs ls _ _ _ rfl (Option.some.inj hm) rfl hP hD hS dX1_trainNumber_63
        · have hm := ifn c_55 hm
          refine lv_iconst (v := 1) hx hb dX1_trainNumber_58 (by decide) ?_
          refine lv_goto (tgt := 63) hx hb dX1_trainNumber_59 (by decide) ?_
          exact hend H locs ls _ _ _ rfl (Option.some.inj hm) rfl hP hD hS dX1_trainNumber_63
      · have hm := ifn c_1_2 hm
        rcases Classical.em (p1 = 3) with c_1_3 | c_1_3
        · have hm := ifp c_1_3 hm
          refine lv_tableIn (off := 63) (tgt := 64) hx hb dX1_trainNumber_1 (by rw [c_1_3]; decide) (by rw [c_1_3]; decide) (by rw [c_1_3]; rfl) (by decide) ?_
          refine lv_aload_n hx hb dX1_trainNumber_64 rfl (lv_at hl 0 rfl) ?_
          refine va_get (D := G) (ci := 1) (v := .ref (ag 5)) (C := RX1) (T := TX1) (N := 16) hx hb hts hi_1 hown hK hP 0 rfl rfl 15 (by decide) (hts (.fieldLink RX1 47 "HubTrains$Game" "tracks" "LHubTrains$Tracks;") (List.mem_of_getElem? (i := 1) rfl)) (fun _ h9 => h9) rfl dX1_trainNumber_65 ?_
          refine lv_iload_n hx hb dX1_trainNumber_68 rfl (lv_at hl 1 rfl) ?_
          refine lv_aload_n hx hb dX1_trainNumber_69 rfl (lv_at hl 0 rfl) ?_
          refine va_get (D := G) (ci := 1) (v := .ref (ag 5)) (C := RX1) (T := TX1) (N := 16) hx hb hts hi_1 hown hK hP 0 rfl rfl 15 (by decide) (hts (.fieldLink RX1 47 "HubTrains$Game" "tracks" "LHubTrains$Tracks;") (List.mem_of_getElem? (i := 1) rfl)) (fun _ h9 => h9) rfl dX1_trainNumber_70 ?_
          refine lv_iload_n hx hb dX1_trainNumber_73 rfl (lv_at hl 1 rfl) ?_
          obtain ⟨r74, e_74, hm⟩ := bd1_s hm
          refine zcVi (As := [.int p0]) (rest := [.int p0, .ref (ag 5)]) ⟨hx, hb, hml, hown, hts⟩ (k_X6_countOf l G K c (ag 5) (ag 6) (ag 7) (ag 8) (ag 9) g.2.2.2 p0 r74 e_74) (cwV 1 hts gX1_trainNumber_X6_countOf rfl rfl rfl hd_X6_countOf ⟨Nat.le_of_ble_eq_true rfl, Nat.le_of_ble_eq_true rfl⟩) hK hN hZ hP hD hS hA (va_recv hK hP (ci := 6) (q0 := 5) rfl rfl) [5, 6, 7, 8, 9] rfl (by decide) rfl rfl hl.1 rfl (Nat.le_of_ble_eq_true rfl) dX1_trainNumber_74 ⟨Nat.zero_le _, Nat.zero_le _⟩ (fun H locs hP hD hS => ?_)
          have hP : va_P G vwCl (wG c ag g) H := hP
          have hD : va_D A (wG c ag g) := hD
          refine lv_iconst (v := 1) hx hb dX1_trainNumber_77 (by decide) ?_
          refine lv_isub hx hb dX1_trainNumber_78 ?_
          obtain ⟨r79, e_79, hm⟩ := bd1_s hm
          refine zcVi (As := [.int p0, .int (r74 - 1)]) (rest := []) ⟨hx, hb, hml, hown, hts⟩ (k_X6_tileAt l G K c (ag 5) (ag 6) (ag 7) (ag 8) (ag 9) g.2.2.2 p0 (r74 - 1) r79 e_79) (cwV 2 hts gX1_trainNumber_X6_tileAt rfl rfl rfl hd_X6_tileAt ⟨Nat.le_of_ble_eq_true rfl, Nat.le_of_ble_eq_true rfl⟩) hK hN hZ hP hD hS hA (va_recv hK hP (ci := 6) (q0 := 5) rfl rfl) [5, 6, 7, 8, 9] rfl (by decide) rfl rfl hl.1 rfl (Nat.le_of_ble_eq_true rfl) dX1_trainNumber_79 ⟨Nat.zero_le _, Nat.zero_le _⟩ (fun H locs hP hD hS => ?_)
          have hP : va_P G vwCl (wG c ag g) H := hP
          have hD : va_D A (wG c ag g) := hD
          exact hend H locs ls _ _ _ rfl (Option.some.inj hm) rfl hP hD hS dX1_trainNumber_82
        · have hm := ifn c_1_3 hm
          refine lv_tableOut (tgt := 83) hx hb dX1_trainNumber_1 (sw_out (0) (3) (fun k hk hk2 hkx => by rcases (show k = 0 ∨ k = 1 ∨ k = 2 ∨ k = 3 by omega) with rfl | rfl | rfl | rfl <;> first | exact c_1_0 (hkx.trans (by decide)) | exact c_1_1 (hkx.trans (by decide)) | exact c_1_2 (hkx.trans (by decide)) | exact c_1_3 (hkx.trans (by decide)))) (by decide) ?_
          refine lv_aload_n hx hb dX1_trainNumber_83 rfl (lv_at hl 0 rfl) ?_
          refine va_get (D := G) (ci := 1) (v := .ref (ag 5)) (C := RX1) (T := TX1) (N := 16) hx hb hts hi_1 hown hK hP 0 rfl rfl 15 (by decide) (hts (.fieldLink RX1 47 "HubTrains$Game" "tracks" "LHubTrains$Tracks;") (List.mem_of_getElem? (i := 1) rfl)) (fun _ h9 => h9) rfl dX1_trainNumber_84 ?_
          refine lv_iload_n hx hb dX1_trainNumber_87 rfl (lv_at hl 1 rfl) ?_
          obtain ⟨r88, e_88, hm⟩ := bd1_s hm
          refine zcVi (As := [.int p0]) (rest := []) ⟨hx, hb, hml, hown, hts⟩ (k_X6_pipsOn l G K c (ag 5) (ag 6) (ag 7) (ag 8) (ag 9) g.2.2.2 p0 r88 e_88) (cwV 1 hts gX1_trainNumber_X6_pipsOn rfl rfl rfl hd_X6_pipsOn ⟨Nat.le_of_ble_eq_true rfl, Nat.le_of_ble_eq_true rfl⟩) hK hN hZ hP hD hS hA (va_recv hK hP (ci := 6) (q0 := 5) rfl rfl) [5, 6, 7, 8, 9] rfl (by decide) rfl rfl hl.1 rfl (Nat.le_of_ble_eq_true rfl) dX1_trainNumber_88 ⟨Nat.zero_le _, Nat.zero_le _⟩ (fun H locs hP hD hS => ?_)
          have hP : va_P G vwCl (wG c ag g) H := hP
          have hD : va_D A (wG c ag g) := hD
          exact hend H locs ls _ _ _ rfl (Option.some.inj hm) rfl hP hD hS dX1_trainNumber_91

def f_X1_rankOf_J61 (fn : Nat) (f : SA) (r19 : Int32) (r28 : Int32) (r32 : Int32) (s0_48 : Int32) (s0_61 : Int32) : Option (Int32 × SA) :=
  bd2 (f_X0_value fn f r28 r32 s0_48 s0_61 (r19 - 1)) fun (r63 : Int32) (f63 : SA) => some (r63, f63)

def f_X1_rankOf_J48 (fn : Nat) (g : GS) (f : SA) (p1 : Int32) (r19 : Int32) (r28 : Int32) (r32 : Int32) (s0_48 : Int32) : Option (Int32 × SA) :=
  if p1 = (g.1.1 1) then (f_X1_rankOf_J61 fn f r19 r28 r32 s0_48 1) else (f_X1_rankOf_J61 fn f r19 r28 r32 s0_48 0)

def f_X1_rankOf (fn : Nat) (fo : Option Nat) (g : GS) (f : SA) (p0 : Int32) (p1 : Int32) : Option (Int32 × SA) :=
  gd (decide ((g.2.1) = fo)) <| om fo (bd1 (f_X7_pipsOf p0) fun (r10 : Int32) => some (r10, f)) (fun (fa : Nat) => bd1 (f_X1_handCount g (g.1.1 5)) fun (r19 : Int32) => bd1 (f_X7_pipsOf p0) fun (r28 : Int32) => bd1 (f_X7_isDouble p0) fun (r32 : Int32) => if p1 = (g.1.1 5) then (f_X1_rankOf_J48 fn g f p1 r19 r28 r32 1) else (f_X1_rankOf_J48 fn g f p1 r19 r28 r32 0))

abbrev rm_X1_rankOf : Room := { frames := 3, cells := 0, slots := 0, locals := 77 }
theorem hd_X1_rankOf : yX1_rankOf.cls = RX1 ∧ yX1_rankOf.cls ≠ "java/lang/invoke/MethodHandle" ∧ yX1_rankOf.cls ≠ "java/lang/invoke/VarHandle" ∧ (parseMethodDescriptor yX1_rankOf.desc).map (fun d => d.parameters.length) = some 2 := by decide +kernel
set_option maxHeartbeats 4000000 in
set_option maxRecDepth 100000 in
theorem k_X1_rankOf (l : Launch) (G : va_G) (K : (Nat → Nat) × (Nat → Nat)) (c : Nat → ClassId) (ag : Nat → Nat) (fp1 : Nat) (fp2 : Nat) (fn : Nat) (fo : Option Nat) (g : GS) (f : SA) (p0 : Int32) (p1 : Int32) (r : Int32) (f_r : SA) (hm : f_X1_rankOf fn fo g f p0 p1 = some (r, f_r)) : zMi l yX1_rankOf wsX1_rankOf (rm_X1_rankOf) G K (TY c) [.ref (ag 0), .int p0, .int p1] ((wG c ag g) ++ (wFo c fo fp1 fp2 fn f)) ((wG c ag g) ++ (wFo c fo fp1 fp2 fn f_r)) r := by
  refine zMi.of (cc := cX1_rankOf) (maxL := 5) (lv := [(0, .ref (ag 0)), (1, .int p0), (2, .int p1)]) (by decide) rfl (Nat.le_of_ble_eq_true rfl) rfl ?_
  intro p e s m args below meth c1 A Q H locs hx hb hml hown hts hK hN hZ hP hD hA hS hend ls hl
  have hown : s.vm.findClass RX1 = some m.cls := hown
  have hi_1 : ∀ w ∈ wsX10, w ∈ wsX1_rankOf := (fun w h => List.mem_cons_of_mem _ (List.mem_append_left _ (List.mem_append_right _ (h))))
  unfold f_X1_rankOf at hm
  refine lv_aload_n hx hb dX1_rankOf_0 rfl (lv_at hl 0 rfl) ?_
  obtain ⟨h_1, hm⟩ := gd_s hm
  have eo_1 := of_decide_eq_true h_1
  rcases fo with _ | fa
  · have hm := om_n hm
    have hP : va_P G vwCl ((wG c ag g) ++ (wFo c none fp1 fp2 fn f)) H := hP
    have hD : va_D A ((wG c ag g) ++ (wFo c none fp1 fp2 fn f)) := hD
    refine va_get (D := G) (ci := 1) (v := .null) (C := RX1) (T := TX1) (N := 16) hx hb hts hi_1 hown hK hP 0 rfl rfl 11 (by decide) (hts (.fieldLink RX1 73 "HubTrains$Game" "formula" "LHubTrains$Formula;") (List.mem_of_getElem? (i := 1) rfl)) (fun _ h9 => h9) (congrArg (fun z => some (va_rf z)) eo_1) dX1_rankOf_1 ?_
    refine lv_astore_nN (lv' := [(3, .null), (0, .ref (ag 0)), (1, .int p0), (2, .int p1)]) hx hb dX1_rankOf_4 rfl hl (by decide) rfl (fun ls hl => ?_)
    refine lv_aload_nN hx hb dX1_rankOf_5 rfl (lv_at hl 0 rfl) ?_
    refine lv_ifnonnullN hx hb dX1_rankOf_6 ?_
    refine lv_iload_n hx hb dX1_rankOf_9 rfl (lv_at hl 2 rfl) ?_
    obtain ⟨r10, e_10, hm⟩ := bd1_s hm
    refine zcSNi (As := [.int p0]) (rest := []) ⟨hx, hb, hml, hown, hts⟩ (k_X7_pipsOf l G K c p0 r10 e_10) ⟨va_cnB 1 hts gX1_rankOf_X7_pipsOf_n138 rfl rfl rfl (nwm_HubTrains_Game_138 hN.2.1) (hts (.initialized RX7) (List.mem_of_getElem? (i := 5) rfl)) hd_X7_pipsOf.2 ⟨Nat.le_of_ble_eq_true rfl, Nat.le_of_ble_eq_true rfl⟩, (hts (.static yX7_pipsOf) (List.mem_of_getElem? (i := 4) rfl)), trivial⟩ hK hN hZ hP hD hS hA [] rfl (by decide) rfl rfl hl.1 rfl (Nat.le_of_ble_eq_true rfl) dX1_rankOf_10 ⟨Nat.zero_le _, Nat.zero_le _⟩ (fun H locs hP hD hS => ?_)
    have hP : va_P G vwCl ((wG c ag g) ++ (wFo c none fp1 fp2 fn f)) H := hP
    have hD : va_D A ((wG c ag g) ++ (wFo c none fp1 fp2 fn f)) := hD
    exact hend H locs ls _ _ _ rfl (Prod.mk.inj (Option.some.inj hm)).1 (zc1 (fun (z1 : SA) => ((wG c ag g) ++ (wFo c none fp1 fp2 fn z1) : va_W)) (Prod.mk.inj (Option.some.inj hm)).2) hP hD hS dX1_rankOf_13
  · have hm := om_s hm
    have hP : va_P G vwCl ((wG c ag g) ++ (wF c fa fp1 fp2 fn f)) H := hP
    have hD : va_D A ((wG c ag g) ++ (wF c fa fp1 fp2 fn f)) := hD
    refine va_get (D := G) (ci := 1) (v := .ref fa) (C := RX1) (T := TX1) (N := 16) hx hb hts hi_1 hown hK hP 0 rfl rfl 11 (by decide) (hts (.fieldLink RX1 73 "HubTrains$Game" "formula" "LHubTrains$Formula;") (List.mem_of_getElem? (i := 1) rfl)) (fun _ h9 => h9) (congrArg (fun z => some (va_rf z)) eo_1) dX1_rankOf_1 ?_
    refine lv_astore_n (lv' := [(3, .ref fa), (0, .ref (ag 0)), (1, .int p0), (2, .int p1)]) hx hb dX1_rankOf_4 rfl hl (by decide) rfl (fun ls hl => ?_)
    refine lv_aload_n hx hb dX1_rankOf_5 rfl (lv_at hl 0 rfl) ?_
    refine lv_ifnonnull (tgt := 14) hx hb dX1_rankOf_6 (by decide) ?_
    refine lv_aload_n hx hb dX1_rankOf_14 rfl (lv_at hl 1 rfl) ?_
    refine lv_aload_n hx hb dX1_rankOf_15 rfl (lv_at hl 1 rfl) ?_
    refine va_get (D := G) (ci := 1) (v := .int (g.1.1 5)) (C := RX1) (T := TX1) (N := 16) hx hb hts hi_1 hown hK hP 0 rfl rfl 5 (by decide) (hts (.fieldLink RX1 57 "HubTrains$Game" "turn" "I") (List.mem_of_getElem? (i := 2) rfl)) (fun _ h9 => h9) rfl dX1_rankOf_16 ?_
    obtain ⟨r19, e_19, hm⟩ := bd1_s hm
    refine zcVi (As := [.int (g.1.1 5)]) (rest := []) ⟨hx, hb, hml, hown, hts⟩ (k_X1_handCount l G K c ag g (g.1.1 5) r19 e_19) (cwV 1 hts gX1_rankOf_X1_handCount rfl rfl rfl hd_X1_handCount ⟨Nat.le_of_ble_eq_true rfl, Nat.le_of_ble_eq_true rfl⟩) hK hN hZ hP hD hS hA (va_recv hK hP (ci := 1) (q0 := 0) rfl rfl) [0, 1, 2, 3, 4, 5, 6, 7, 8, 9] rfl (by decide) rfl rfl hl.1 rfl (Nat.le_of_ble_eq_true rfl) dX1_rankOf_19 ⟨Nat.zero_le _, Nat.zero_le _⟩ (fun H locs hP hD hS => ?_)
    have hP : va_P G vwCl ((wG c ag g) ++ (wF c fa fp1 fp2 fn f)) H := hP
    have hD : va_D A ((wG c ag g) ++ (wF c fa fp1 fp2 fn f)) := hD
    refine lv_iconst (v := 1) hx hb dX1_rankOf_22 (by decide) ?_
    refine lv_isub hx hb dX1_rankOf_23 ?_
    refine lv_istore (lv' := [(4, .int (r19 - 1)), (3, .ref fa), (0, .ref (ag 0)), (1, .int p0), (2, .int p1)]) hx hb dX1_rankOf_24 hl (by decide) rfl (fun ls hl => ?_)
    refine lv_aload_n hx hb dX1_rankOf_26 rfl (lv_at hl 1 rfl) ?_
    refine lv_iload_n hx hb dX1_rankOf_27 rfl (lv_at hl 3 rfl) ?_
    obtain ⟨r28, e_28, hm⟩ := bd1_s hm
    refine zcSNi (As := [.int p0]) (rest := [.ref fa]) ⟨hx, hb, hml, hown, hts⟩ (k_X7_pipsOf l G K c p0 r28 e_28) ⟨va_cnB 1 hts gX1_rankOf_X7_pipsOf_n138 rfl rfl rfl (nwm_HubTrains_Game_138 hN.2.1) (hts (.initialized RX7) (List.mem_of_getElem? (i := 5) rfl)) hd_X7_pipsOf.2 ⟨Nat.le_of_ble_eq_true rfl, Nat.le_of_ble_eq_true rfl⟩, (hts (.static yX7_pipsOf) (List.mem_of_getElem? (i := 4) rfl)), trivial⟩ hK hN hZ hP hD hS hA [] rfl (by decide) rfl rfl hl.1 rfl (Nat.le_of_ble_eq_true rfl) dX1_rankOf_28 ⟨Nat.zero_le _, Nat.zero_le _⟩ (fun H locs hP hD hS => ?_)
    have hP : va_P G vwCl ((wG c ag g) ++ (wF c fa fp1 fp2 fn f)) H := hP
    have hD : va_D A ((wG c ag g) ++ (wF c fa fp1 fp2 fn f)) := hD
    refine lv_iload_n hx hb dX1_rankOf_31 rfl (lv_at hl 3 rfl) ?_
    obtain ⟨r32, e_32, hm⟩ := bd1_s hm
    refine zcSNi (As := [.int p0]) (rest := [.int r28, .ref fa]) ⟨hx, hb, hml, hown, hts⟩ (k_X7_isDouble l G K c p0 r32 e_32) ⟨va_cnB 1 hts gX1_rankOf_X7_isDouble_n135 rfl rfl rfl (nwm_HubTrains_Game_135 hN.2.1) (hts (.initialized RX7) (List.mem_of_getElem? (i := 5) rfl)) hd_X7_isDouble.2 ⟨Nat.le_of_ble_eq_true rfl, Nat.le_of_ble_eq_true rfl⟩, (hts (.static yX7_isDouble) (List.mem_of_getElem? (i := 23) rfl)), trivial⟩ hK hN hZ hP hD hS hA [] rfl (by decide) rfl rfl hl.1 rfl (Nat.le_of_ble_eq_true rfl) dX1_rankOf_32 ⟨Nat.zero_le _, Nat.zero_le _⟩ (fun H locs hP hD hS => ?_)
    have hP : va_P G vwCl ((wG c ag g) ++ (wF c fa fp1 fp2 fn f)) H := hP
    have hD : va_D A ((wG c ag g) ++ (wF c fa fp1 fp2 fn f)) := hD
    refine lv_iload_n hx hb dX1_rankOf_35 rfl (lv_at hl 4 rfl) ?_
    refine lv_aload_n hx hb dX1_rankOf_36 rfl (lv_at hl 2 rfl) ?_
    refine va_get (D := G) (ci := 1) (v := .int (g.1.1 5)) (C := RX1) (T := TX1) (N := 16) hx hb hts hi_1 hown hK hP 0 rfl rfl 5 (by decide) (hts (.fieldLink RX1 57 "HubTrains$Game" "turn" "I") (List.mem_of_getElem? (i := 2) rfl)) (fun _ h9 => h9) rfl dX1_rankOf_37 ?_
    have J_48 : ∀ (s0_48 : Int32) (H : Heap) (locs : List Loc) (ls : Array Slot), va_P G vwCl ((wG c ag g) ++ (wF c fa fp1 fp2 fn f)) H → va_D A ((wG c ag g) ++ (wF c fa fp1 fp2 fn f)) → va_S A s.heap H locs → lv_has ls 5 [(0, .ref (ag 0)), (2, .int p1), (4, .int (r19 - 1))] → f_X1_rankOf_J48 fn g f p1 r19 r28 r32 s0_48 = some (r, f_r) → W p l e (rm_X1_rankOf) s m args below meth c1 H locs 0 0 Q (F0 m 48 ls [.int s0_48, .int r32, .int r28, .ref fa]) := by
      intro s0_48 H locs ls hP hD hS hl hm
      unfold f_X1_rankOf_J48 at hm
      refine lv_iload_n hx hb dX1_rankOf_48 rfl (lv_at hl 1 rfl) ?_
      refine lv_aload_n hx hb dX1_rankOf_49 rfl (lv_at hl 0 rfl) ?_
      refine va_get (D := G) (ci := 1) (v := .int (g.1.1 1)) (C := RX1) (T := TX1) (N := 16) hx hb hts hi_1 hown hK hP 0 rfl rfl 1 (by decide) (hts (.fieldLink RX1 15 "HubTrains$Game" "players" "I") (List.mem_of_getElem? (i := 3) rfl)) (fun _ h9 => h9) rfl dX1_rankOf_50 ?_
      have J_61 : ∀ (s0_61 : Int32) (H : Heap) (locs : List Loc) (ls : Array Slot), va_P G vwCl ((wG c ag g) ++ (wF c fa fp1 fp2 fn f)) H → va_D A ((wG c ag g) ++ (wF c fa fp1 fp2 fn f)) → va_S A s.heap H locs → lv_has ls 5 [(4, .int (r19 - 1))] → f_X1_rankOf_J61 fn f r19 r28 r32 s0_48 s0_61 = some (r, f_r) → W p l e (rm_X1_rankOf) s m args below meth c1 H locs 0 0 Q (F0 m 61 ls [.int s0_61, .int s0_48, .int r32, .int r28, .ref fa]) := by
        intro s0_61 H locs ls hP hD hS hl hm
        unfold f_X1_rankOf_J61 at hm
        refine lv_iload hx hb dX1_rankOf_61 (lv_at hl 0 rfl) ?_
        obtain ⟨r63, f63, e_63, hm⟩ := bd2_s hm
        refine zcVi (As := [.int r28, .int r32, .int s0_48, .int s0_61, .int (r19 - 1)]) (rest := []) ⟨hx, hb, hml, hown, hts⟩ (k_X0_value l G K c fa fp1 fp2 fn f r28 r32 s0_48 s0_61 (r19 - 1) r63 f63 e_63) (cwV 5 hts gX1_rankOf_X0_value rfl rfl rfl hd_X0_value ⟨Nat.le_of_ble_eq_true rfl, Nat.le_of_ble_eq_true rfl⟩) hK hN hZ hP hD hS hA (va_recv hK hP (ci := 0) (q0 := 10) rfl rfl) [10, 11, 12] rfl (by decide) rfl rfl hl.1 rfl (Nat.le_of_ble_eq_true rfl) dX1_rankOf_63 ⟨Nat.zero_le _, Nat.zero_le _⟩ (fun H locs hP hD hS => ?_)
        have hP : va_P G vwCl ((wG c ag g) ++ (wF c fa fp1 fp2 fn f63)) H := hP
        have hD : va_D A ((wG c ag g) ++ (wF c fa fp1 fp2 fn f63)) := hD
        exact hend H locs ls _ _ _ rfl (Prod.mk.inj (Option.some.inj hm)).1 (zc1 (fun (z1 : SA) => ((wG c ag g) ++ (wF c fa fp1 fp2 fn z1) : va_W)) (Prod.mk.inj (Option.some.inj hm)).2) hP hD hS dX1_rankOf_66
      refine lv_icmp_ne (tgt := 60) hx hb dX1_rankOf_53 (by decide) (fun c_53 => ?_) (fun c_53 => ?_)
      · have hm := ifn c_53 hm
        refine lv_iconst (v := 0) hx hb dX1_rankOf_60 (by decide) ?_
        exact J_61 0 H locs ls hP hD hS (lv_sub hl [2] rfl) hm
      · have hm := ifp c_53 hm
        refine lv_iconst (v := 1) hx hb dX1_rankOf_56 (by decide) ?_
        refine lv_goto (tgt := 61) hx hb dX1_rankOf_57 (by decide) ?_
        exact J_61 1 H locs ls hP hD hS (lv_sub hl [2] rfl) hm
    refine lv_icmp_ne (tgt := 47) hx hb dX1_rankOf_40 (by decide) (fun c_40 => ?_) (fun c_40 => ?_)
    · have hm := ifn c_40 hm
      refine lv_iconst (v := 0) hx hb dX1_rankOf_47 (by decide) ?_
      exact J_48 0 H locs ls hP hD hS (lv_sub hl [2, 4, 0] rfl) hm
    · have hm := ifp c_40 hm
      refine lv_iconst (v := 1) hx hb dX1_rankOf_43 (by decide) ?_
      refine lv_goto (tgt := 48) hx hb dX1_rankOf_44 (by decide) ?_
      exact J_48 1 H locs ls hP hD hS (lv_sub hl [2, 4, 0] rfl) hm

def f_X1_bestPlay_J69 (v3_6 : Int32) (rec_30 : Int32 → Int32 → Int32 → SA → Option (Int32 × SA)) (v4_30 : Int32) (r53 : Int32) (f53 : SA) : Option (Int32 × SA) :=
  rec_30 ((10 * v3_6) + v4_30) r53 (v4_30 + 1) f53

def f_X1_bestPlay_B30 (fn : Nat) (fo : Option Nat) (g : GS) (rec_6 : Int32 → Int32 → Int32 → SA → Option (Int32 × SA)) (v3_6 : Int32) (rec_30 : Int32 → Int32 → Int32 → SA → Option (Int32 × SA)) (v1_30 : Int32) (v2_30 : Int32) (v4_30 : Int32) (f_30 : SA) : Option (Int32 × SA) :=
  if (g.1.1 1) < v4_30 then (rec_6 v1_30 v2_30 (v3_6 + 1) f_30) else (bd1 (f_X1_obstacle g v3_6 v4_30) fun (r43 : Int32) => if r43 = 0 then (bd2 (f_X1_rankOf fn fo g f_30 v3_6 v4_30) fun (r53 : Int32) (f53 : SA) => if v1_30 = (-1) then (f_X1_bestPlay_J69 v3_6 rec_30 v4_30 r53 f53) else (if r53 ≤ v2_30 then (rec_30 v1_30 v2_30 (v4_30 + 1) f53) else (f_X1_bestPlay_J69 v3_6 rec_30 v4_30 r53 f53))) else (rec_30 v1_30 v2_30 (v4_30 + 1) f_30))

def f_X1_bestPlay_B6 (fn : Nat) (fo : Option Nat) (g : GS) (rec_6 : Int32 → Int32 → Int32 → SA → Option (Int32 × SA)) (v1_6 : Int32) (v2_6 : Int32) (v3_6 : Int32) (f_6 : SA) : Option (Int32 × SA) :=
  if (100 : Int32) ≤ v3_6 then (some (v1_6, f_6)) else (bd1 (f_X1_holderOf g v3_6) fun (r14 : Int32) => if r14 = (g.1.1 5) then (itr4 (f_X1_bestPlay_B30 fn fo g rec_6 v3_6) FUEL v1_6 v2_6 0 f_6) else (rec_6 v1_6 v2_6 (v3_6 + 1) f_6))

def f_X1_bestPlay (fn : Nat) (fo : Option Nat) (g : GS) (f : SA) : Option (Int32 × SA) :=
  itr4 (f_X1_bestPlay_B6 fn fo g) FUEL (-1) 0 0 f

abbrev rm_X1_bestPlay : Room := { frames := 4, cells := 0, slots := 0, locals := 101 }
theorem hd_X1_bestPlay : yX1_bestPlay.cls = RX1 ∧ yX1_bestPlay.cls ≠ "java/lang/invoke/MethodHandle" ∧ yX1_bestPlay.cls ≠ "java/lang/invoke/VarHandle" ∧ (parseMethodDescriptor yX1_bestPlay.desc).map (fun d => d.parameters.length) = some 0 := by decide +kernel
set_option maxHeartbeats 4000000 in
set_option maxRecDepth 100000 in
theorem k_X1_bestPlay (l : Launch) (G : va_G) (K : (Nat → Nat) × (Nat → Nat)) (c : Nat → ClassId) (ag : Nat → Nat) (fp1 : Nat) (fp2 : Nat) (fn : Nat) (fo : Option Nat) (g : GS) (f : SA) (r : Int32) (f_r : SA) (hm : f_X1_bestPlay fn fo g f = some (r, f_r)) : zMi l yX1_bestPlay wsX1_bestPlay (rm_X1_bestPlay) G K (TY c) [.ref (ag 0)] ((wG c ag g) ++ (wFo c fo fp1 fp2 fn f)) ((wG c ag g) ++ (wFo c fo fp1 fp2 fn f_r)) r := by
  refine zMi.of (cc := cX1_bestPlay) (maxL := 6) (lv := [(0, .ref (ag 0))]) (by decide) rfl (Nat.le_of_ble_eq_true rfl) rfl ?_
  intro p e s m args below meth c1 A Q H locs hx hb hml hown hts hK hN hZ hP hD hA hS hend ls hl
  have hown : s.vm.findClass RX1 = some m.cls := hown
  have hi_1 : ∀ w ∈ wsX10, w ∈ wsX1_bestPlay := (fun w h => List.mem_cons_of_mem _ (List.mem_append_left _ (List.mem_append_left _ (List.mem_append_right _ (h)))))
  unfold f_X1_bestPlay at hm
  refine lv_iconst (v := (-1)) hx hb dX1_bestPlay_0 (by decide) ?_
  refine lv_istore_n (lv' := [(1, .int (-1)), (0, .ref (ag 0))]) hx hb dX1_bestPlay_1 rfl hl (by decide) rfl (fun ls hl => ?_)
  refine lv_iconst (v := 0) hx hb dX1_bestPlay_2 (by decide) ?_
  refine lv_istore_n (lv' := [(2, .int 0), (1, .int (-1)), (0, .ref (ag 0))]) hx hb dX1_bestPlay_3 rfl hl (by decide) rfl (fun ls hl => ?_)
  refine lv_iconst (v := 0) hx hb dX1_bestPlay_4 (by decide) ?_
  refine lv_istore_n (lv' := [(3, .int 0), (2, .int 0), (1, .int (-1)), (0, .ref (ag 0))]) hx hb dX1_bestPlay_5 rfl hl (by decide) rfl (fun ls hl => ?_)
  have L_6 : ∀ (n_6 : Nat) (v1_6 : Int32) (v2_6 : Int32) (v3_6 : Int32) (f_6 : SA) (H : Heap) (locs : List Loc) (ls : Array Slot), va_P G vwCl ((wG c ag g) ++ (wFo c fo fp1 fp2 fn f_6)) H → va_D A ((wG c ag g) ++ (wFo c fo fp1 fp2 fn f_6)) → va_S A s.heap H locs → lv_has ls 6 [(0, .ref (ag 0)), (1, .int v1_6), (2, .int v2_6), (3, .int v3_6)] → itr4 (f_X1_bestPlay_B6 fn fo g) n_6 v1_6 v2_6 v3_6 f_6 = some (r, f_r) → W p l e (rm_X1_bestPlay) s m args below meth c1 H locs 0 0 Q (F0 m 6 ls []) := by
    intro n_6
    induction n_6 with
    | zero => intro v1_6 v2_6 v3_6 f_6 H locs ls hP hD hS hl hm; exact (itr4_0 hm).elim
    | succ n_6 ih_6 =>
      intro v1_6 v2_6 v3_6 f_6 H locs ls hP hD hS hl hm
      have hm := itr4_s hm
      unfold f_X1_bestPlay_B6 at hm
      refine lv_iload_n hx hb dX1_bestPlay_6 rfl (lv_at hl 3 rfl) ?_
      refine lv_bipush (v := 100) hx hb dX1_bestPlay_7 (by decide) ?_
      refine lv_icmp_ge (tgt := 92) hx hb dX1_bestPlay_9 (by decide) (fun c_9 => ?_) (fun c_9 => ?_)
      · have hm := ifp c_9 hm
        refine lv_iload_n hx hb dX1_bestPlay_92 rfl (lv_at hl 1 rfl) ?_
        exact hend H locs ls _ _ _ rfl (Prod.mk.inj (Option.some.inj hm)).1 (zc1 (fun (z1 : SA) => ((wG c ag g) ++ (wFo c fo fp1 fp2 fn z1) : va_W)) (Prod.mk.inj (Option.some.inj hm)).2) hP hD hS dX1_bestPlay_93
      · have hm := ifn c_9 hm
        refine lv_aload_n hx hb dX1_bestPlay_12 rfl (lv_at hl 0 rfl) ?_
        refine lv_iload_n hx hb dX1_bestPlay_13 rfl (lv_at hl 3 rfl) ?_
        obtain ⟨r14, e_14, hm⟩ := bd1_s hm
        refine zcVi (As := [.int v3_6]) (rest := []) ⟨hx, hb, hml, hown, hts⟩ (k_X1_holderOf l G K c ag g v3_6 r14 e_14) (cwV 1 hts gX1_bestPlay_X1_holderOf rfl rfl rfl hd_X1_holderOf ⟨Nat.le_of_ble_eq_true rfl, Nat.le_of_ble_eq_true rfl⟩) hK hN hZ hP hD hS hA (va_recv hK hP (ci := 1) (q0 := 0) rfl rfl) [0, 1, 2, 3, 4, 5, 6, 7, 8, 9] rfl (by decide) rfl rfl hl.1 rfl (Nat.le_of_ble_eq_true rfl) dX1_bestPlay_14 ⟨Nat.zero_le _, Nat.zero_le _⟩ (fun H locs hP hD hS => ?_)
        have hP : va_P G vwCl ((wG c ag g) ++ (wFo c fo fp1 fp2 fn f_6)) H := hP
        have hD : va_D A ((wG c ag g) ++ (wFo c fo fp1 fp2 fn f_6)) := hD
        refine lv_aload_n hx hb dX1_bestPlay_17 rfl (lv_at hl 0 rfl) ?_
        refine va_get (D := G) (ci := 1) (v := .int (g.1.1 5)) (C := RX1) (T := TX1) (N := 16) hx hb hts hi_1 hown hK hP 0 rfl rfl 5 (by decide) (hts (.fieldLink RX1 57 "HubTrains$Game" "turn" "I") (List.mem_of_getElem? (i := 1) rfl)) (fun _ h9 => h9) rfl dX1_bestPlay_18 ?_
        refine lv_icmp_eq (tgt := 27) hx hb dX1_bestPlay_21 (by decide) (fun c_21 => ?_) (fun c_21 => ?_)
        · have hm := ifp c_21 hm
          refine lv_iconst (v := 0) hx hb dX1_bestPlay_27 (by decide) ?_
          refine lv_istore (lv' := [(4, .int 0), (0, .ref (ag 0)), (1, .int v1_6), (2, .int v2_6), (3, .int v3_6)]) hx hb dX1_bestPlay_28 hl (by decide) rfl (fun ls hl => ?_)
          have L_30 : ∀ (n_30 : Nat) (v1_30 : Int32) (v2_30 : Int32) (v4_30 : Int32) (f_30 : SA) (H : Heap) (locs : List Loc) (ls : Array Slot), va_P G vwCl ((wG c ag g) ++ (wFo c fo fp1 fp2 fn f_30)) H → va_D A ((wG c ag g) ++ (wFo c fo fp1 fp2 fn f_30)) → va_S A s.heap H locs → lv_has ls 6 [(0, .ref (ag 0)), (1, .int v1_30), (2, .int v2_30), (3, .int v3_6), (4, .int v4_30)] → itr4 (f_X1_bestPlay_B30 fn fo g (itr4 (f_X1_bestPlay_B6 fn fo g) n_6) v3_6) n_30 v1_30 v2_30 v4_30 f_30 = some (r, f_r) → W p l e (rm_X1_bestPlay) s m args below meth c1 H locs 0 0 Q (F0 m 30 ls []) := by
            intro n_30
            induction n_30 with
            | zero => intro v1_30 v2_30 v4_30 f_30 H locs ls hP hD hS hl hm; exact (itr4_0 hm).elim
            | succ n_30 ih_30 =>
              intro v1_30 v2_30 v4_30 f_30 H locs ls hP hD hS hl hm
              have hm := itr4_s hm
              unfold f_X1_bestPlay_B30 at hm
              refine lv_iload hx hb dX1_bestPlay_30 (lv_at hl 4 rfl) ?_
              refine lv_aload_n hx hb dX1_bestPlay_32 rfl (lv_at hl 0 rfl) ?_
              refine va_get (D := G) (ci := 1) (v := .int (g.1.1 1)) (C := RX1) (T := TX1) (N := 16) hx hb hts hi_1 hown hK hP 0 rfl rfl 1 (by decide) (hts (.fieldLink RX1 15 "HubTrains$Game" "players" "I") (List.mem_of_getElem? (i := 2) rfl)) (fun _ h9 => h9) rfl dX1_bestPlay_33 ?_
              refine lv_icmp_gt (tgt := 86) hx hb dX1_bestPlay_36 (by decide) (fun c_36 => ?_) (fun c_36 => ?_)
              · have hm := ifp c_36 hm
                refine lv_iinc (k := 3) (v := (v3_6 + 1)) (lv' := [(3, .int (v3_6 + 1)), (0, .ref (ag 0)), (1, .int v1_30), (2, .int v2_30), (4, .int v4_30)]) hx hb dX1_bestPlay_86 hl rfl rfl (by decide) rfl (fun ls hl => ?_)
                refine lv_goto (tgt := 6) hx hb dX1_bestPlay_89 (by decide) ?_
                exact ih_6 v1_30 v2_30 (v3_6 + 1) f_30 H locs ls hP hD hS (lv_sub hl [1, 2, 3, 0] rfl) hm
              · have hm := ifn c_36 hm
                refine lv_aload_n hx hb dX1_bestPlay_39 rfl (lv_at hl 0 rfl) ?_
                refine lv_iload_n hx hb dX1_bestPlay_40 rfl (lv_at hl 3 rfl) ?_
                refine lv_iload hx hb dX1_bestPlay_41 (lv_at hl 4 rfl) ?_
                obtain ⟨r43, e_43, hm⟩ := bd1_s hm
                refine zcVi (As := [.int v3_6, .int v4_30]) (rest := []) ⟨hx, hb, hml, hown, hts⟩ (k_X1_obstacle l G K c ag g v3_6 v4_30 r43 e_43) (cwV 2 hts gX1_bestPlay_X1_obstacle rfl rfl rfl hd_X1_obstacle ⟨Nat.le_of_ble_eq_true rfl, Nat.le_of_ble_eq_true rfl⟩) hK hN hZ hP hD hS hA (va_recv hK hP (ci := 1) (q0 := 0) rfl rfl) [0, 1, 2, 3, 4, 5, 6, 7, 8, 9] rfl (by decide) rfl rfl hl.1 rfl (Nat.le_of_ble_eq_true rfl) dX1_bestPlay_43 ⟨Nat.zero_le _, Nat.zero_le _⟩ (fun H locs hP hD hS => ?_)
                have hP : va_P G vwCl ((wG c ag g) ++ (wFo c fo fp1 fp2 fn f_30)) H := hP
                have hD : va_D A ((wG c ag g) ++ (wFo c fo fp1 fp2 fn f_30)) := hD
                refine lv_if_ne (tgt := 80) hx hb dX1_bestPlay_46 (by decide) (fun c_46 => ?_) (fun c_46 => ?_)
                · have hm := ifn c_46 hm
                  refine lv_iinc (k := 4) (v := (v4_30 + 1)) (lv' := [(4, .int (v4_30 + 1)), (0, .ref (ag 0)), (1, .int v1_30), (2, .int v2_30), (3, .int v3_6)]) hx hb dX1_bestPlay_80 hl rfl rfl (by decide) rfl (fun ls hl => ?_)
                  refine lv_goto (tgt := 30) hx hb dX1_bestPlay_83 (by decide) ?_
                  exact ih_30 v1_30 v2_30 (v4_30 + 1) f_30 H locs ls hP hD hS (lv_sub hl [1, 2, 3, 4, 0] rfl) hm
                · have hm := ifp c_46 hm
                  refine lv_aload_n hx hb dX1_bestPlay_49 rfl (lv_at hl 0 rfl) ?_
                  refine lv_iload_n hx hb dX1_bestPlay_50 rfl (lv_at hl 3 rfl) ?_
                  refine lv_iload hx hb dX1_bestPlay_51 (lv_at hl 4 rfl) ?_
                  obtain ⟨r53, f53, e_53, hm⟩ := bd2_s hm
                  refine zcWi (As := [.int v3_6, .int v4_30]) (rest := []) ⟨hx, hb, hml, hown, hts⟩ (k_X1_rankOf l G K c ag fp1 fp2 fn fo g f_30 v3_6 v4_30 r53 f53 e_53) (cwV 2 hts gX1_bestPlay_X1_rankOf rfl rfl rfl hd_X1_rankOf ⟨Nat.le_of_ble_eq_true rfl, Nat.le_of_ble_eq_true rfl⟩) hK hN hZ hP hD hS hA (va_recv hK hP (ci := 1) (q0 := 0) rfl rfl) rfl hl.1 rfl (Nat.le_of_ble_eq_true rfl) dX1_bestPlay_53 ⟨Nat.zero_le _, Nat.zero_le _⟩ (fun H locs hP hD hS => ?_)
                  have hP : va_P G vwCl ((wG c ag g) ++ (wFo c fo fp1 fp2 fn f53)) H := hP
                  have hD : va_D A ((wG c ag g) ++ (wFo c fo fp1 fp2 fn f53)) := hD
                  refine lv_istore (lv' := [(5, .int r53), (0, .ref (ag 0)), (1, .int v1_30), (2, .int v2_30), (3, .int v3_6), (4, .int v4_30)]) hx hb dX1_bestPlay_56 hl (by decide) rfl (fun ls hl => ?_)
                  refine lv_iload_n hx hb dX1_bestPlay_58 rfl (lv_at hl 2 rfl) ?_
                  refine lv_iconst (v := (-1)) hx hb dX1_bestPlay_59 (by decide) ?_
                  have J_69 : ∀ (H : Heap) (locs : List Loc) (ls : Array Slot), va_P G vwCl ((wG c ag g) ++ (wFo c fo fp1 fp2 fn f53)) H → va_D A ((wG c ag g) ++ (wFo c fo fp1 fp2 fn f53)) → va_S A s.heap H locs → lv_has ls 6 [(0, .ref (ag 0)), (3, .int v3_6), (4, .int v4_30), (5, .int r53)] → f_X1_bestPlay_J69 v3_6 (itr4 (f_X1_bestPlay_B30 fn fo g (itr4 (f_X1_bestPlay_B6 fn fo g) n_6) v3_6) n_30) v4_30 r53 f53 = some (r, f_r) → W p l e (rm_X1_bestPlay) s m args below meth c1 H locs 0 0 Q (F0 m 69 ls []) := by
                    intro  H locs ls hP hD hS hl hm
                    unfold f_X1_bestPlay_J69 at hm
                    refine lv_bipush (v := 10) hx hb dX1_bestPlay_69 (by decide) ?_
                    refine lv_iload_n hx hb dX1_bestPlay_71 rfl (lv_at hl 1 rfl) ?_
                    refine lv_imul hx hb dX1_bestPlay_72 ?_
                    refine lv_iload hx hb dX1_bestPlay_73 (lv_at hl 2 rfl) ?_
                    refine lv_iadd hx hb dX1_bestPlay_75 ?_
                    refine lv_istore_n (lv' := [(1, .int ((10 * v3_6) + v4_30)), (0, .ref (ag 0)), (3, .int v3_6), (4, .int v4_30), (5, .int r53)]) hx hb dX1_bestPlay_76 rfl hl (by decide) rfl (fun ls hl => ?_)
                    refine lv_iload hx hb dX1_bestPlay_77 (lv_at hl 4 rfl) ?_
                    refine lv_istore_n (lv' := [(2, .int r53), (1, .int ((10 * v3_6) + v4_30)), (0, .ref (ag 0)), (3, .int v3_6), (4, .int v4_30), (5, .int r53)]) hx hb dX1_bestPlay_79 rfl hl (by decide) rfl (fun ls hl => ?_)
                    refine lv_iinc (k := 4) (v := (v4_30 + 1)) (lv' := [(4, .int (v4_30 + 1)), (2, .int r53), (1, .int ((10 * v3_6) + v4_30)), (0, .ref (ag 0)), (3, .int v3_6), (5, .int r53)]) hx hb dX1_bestPlay_80 hl rfl rfl (by decide) rfl (fun ls hl => ?_)
                    refine lv_goto (tgt := 30) hx hb dX1_bestPlay_83 (by decide) ?_
                    exact ih_30 ((10 * v3_6) + v4_30) r53 (v4_30 + 1) f53 H locs ls hP hD hS (lv_sub hl [3, 2, 1, 4, 0] rfl) hm
                  refine lv_icmp_eq (tgt := 69) hx hb dX1_bestPlay_60 (by decide) (fun c_60 => ?_) (fun c_60 => ?_)
                  · have hm := ifp c_60 hm
                    exact J_69 H locs ls hP hD hS (lv_sub hl [1, 4, 5, 0] rfl) hm
                  · have hm := ifn c_60 hm
                    refine lv_iload hx hb dX1_bestPlay_63 (lv_at hl 0 rfl) ?_
                    refine lv_iload_n hx hb dX1_bestPlay_65 rfl (lv_at hl 3 rfl) ?_
                    refine lv_icmp_le (tgt := 80) hx hb dX1_bestPlay_66 (by decide) (fun c_66 => ?_) (fun c_66 => ?_)
                    · have hm := ifp c_66 hm
                      refine lv_iinc (k := 5) (v := (v4_30 + 1)) (lv' := [(4, .int (v4_30 + 1)), (5, .int r53), (0, .ref (ag 0)), (1, .int v1_30), (2, .int v2_30), (3, .int v3_6)]) hx hb dX1_bestPlay_80 hl rfl rfl (by decide) rfl (fun ls hl => ?_)
                      refine lv_goto (tgt := 30) hx hb dX1_bestPlay_83 (by decide) ?_
                      exact ih_30 v1_30 v2_30 (v4_30 + 1) f53 H locs ls hP hD hS (lv_sub hl [2, 3, 4, 5, 0] rfl) hm
                    · have hm := ifn c_66 hm
                      exact J_69 H locs ls hP hD hS (lv_sub hl [1, 4, 5, 0] rfl) hm
          exact L_30 FUEL v1_6 v2_6 0 f_6 H locs ls hP hD hS (lv_sub hl [1, 2, 3, 4, 0] rfl) hm
        · have hm := ifn c_21 hm
          refine lv_goto (tgt := 86) hx hb dX1_bestPlay_24 (by decide) ?_
          refine lv_iinc (k := 3) (v := (v3_6 + 1)) (lv' := [(3, .int (v3_6 + 1)), (0, .ref (ag 0)), (1, .int v1_6), (2, .int v2_6)]) hx hb dX1_bestPlay_86 hl rfl rfl (by decide) rfl (fun ls hl => ?_)
          refine lv_goto (tgt := 6) hx hb dX1_bestPlay_89 (by decide) ?_
          exact ih_6 v1_6 v2_6 (v3_6 + 1) f_6 H locs ls hP hD hS (lv_sub hl [1, 2, 3, 0] rfl) hm
  exact L_6 FUEL (-1) 0 0 f H locs ls hP hD hS (lv_sub hl [3, 2, 1, 0] rfl) hm

def f_X1_makeStep_J50 (g : GS) (f1 : SA) : Option (GS × SA) :=
  bd1 (f_X1_passTurn g) fun (g51 : GS) => some (g51, f1)

def f_X1_makeStep (fn : Nat) (fo : Option Nat) (g : GS) (f : SA) : Option (GS × SA) :=
  bd2 (f_X1_bestPlay fn fo g f) fun (r1 : Int32) (f1 : SA) => if r1 = (-1) then (if (g.1.1 6) = 0 then (bd1 (f_X4_size g.2.2.1) fun (r36 : Int32) => if r36 ≤ 0 then (f_X1_makeStep_J50 g f1) else (bd2 (f_X1_drawTile g) fun (r43 : Int32) (g43 : GS) => some (g43, f1))) else (f_X1_makeStep_J50 g f1)) else (bd1 (f_X1_layTile g (r1 / 10) (r1 - r1 / 10 * 10)) fun (g19 : GS) => some (g19, f1))

abbrev rm_X1_makeStep : Room := { frames := 5, cells := 0, slots := 0, locals := 126 }
theorem hd_X1_makeStep : yX1_makeStep.cls = RX1 ∧ yX1_makeStep.cls ≠ "java/lang/invoke/MethodHandle" ∧ yX1_makeStep.cls ≠ "java/lang/invoke/VarHandle" ∧ (parseMethodDescriptor yX1_makeStep.desc).map (fun d => d.parameters.length) = some 0 := by decide +kernel
set_option maxHeartbeats 4000000 in
set_option maxRecDepth 100000 in
theorem k_X1_makeStep (l : Launch) (G : va_G) (K : (Nat → Nat) × (Nat → Nat)) (c : Nat → ClassId) (ag : Nat → Nat) (fp1 : Nat) (fp2 : Nat) (fn : Nat) (fo : Option Nat) (g : GS) (f : SA) (g_r : GS) (f_r : SA) (hm : f_X1_makeStep fn fo g f = some (g_r, f_r)) : zMv l yX1_makeStep wsX1_makeStep (rm_X1_makeStep) G K (TY c) [.ref (ag 0)] ((wG c ag g) ++ (wFo c fo fp1 fp2 fn f)) ((wG c ag g_r) ++ (wFo c fo fp1 fp2 fn f_r)) := by
  refine zMv.of (cc := cX1_makeStep) (maxL := 2) (lv := [(0, .ref (ag 0))]) (by decide) rfl (Nat.le_of_ble_eq_true rfl) rfl ?_
  intro p e s m args below meth c1 A Q H locs hx hb hml hown hts hK hN hZ hP hD hA hS hend ls hl
  have hown : s.vm.findClass RX1 = some m.cls := hown
  have hi_1 : ∀ w ∈ wsX10, w ∈ wsX1_makeStep := (fun w h => List.mem_cons_of_mem _ (List.mem_append_left _ (List.mem_append_left _ (List.mem_append_left _ (List.mem_append_right _ (h))))))
  unfold f_X1_makeStep at hm
  refine lv_aload_n hx hb dX1_makeStep_0 rfl (lv_at hl 0 rfl) ?_
  obtain ⟨r1, f1, e_1, hm⟩ := bd2_s hm
  refine zcWi (As := []) (rest := []) ⟨hx, hb, hml, hown, hts⟩ (k_X1_bestPlay l G K c ag fp1 fp2 fn fo g f r1 f1 e_1) (cwV 0 hts gX1_makeStep_X1_bestPlay rfl rfl rfl hd_X1_bestPlay ⟨Nat.le_of_ble_eq_true rfl, Nat.le_of_ble_eq_true rfl⟩) hK hN hZ hP hD hS hA (va_recv hK hP (ci := 1) (q0 := 0) rfl rfl) rfl hl.1 rfl (Nat.le_of_ble_eq_true rfl) dX1_makeStep_1 ⟨Nat.zero_le _, Nat.zero_le _⟩ (fun H locs hP hD hS => ?_)
  have hP : va_P G vwCl ((wG c ag g) ++ (wFo c fo fp1 fp2 fn f1)) H := hP
  have hD : va_D A ((wG c ag g) ++ (wFo c fo fp1 fp2 fn f1)) := hD
  refine lv_istore_n (lv' := [(1, .int r1), (0, .ref (ag 0))]) hx hb dX1_makeStep_4 rfl hl (by decide) rfl (fun ls hl => ?_)
  refine lv_iload_n hx hb dX1_makeStep_5 rfl (lv_at hl 0 rfl) ?_
  refine lv_iconst (v := (-1)) hx hb dX1_makeStep_6 (by decide) ?_
  refine lv_icmp_eq (tgt := 25) hx hb dX1_makeStep_7 (by decide) (fun c_7 => ?_) (fun c_7 => ?_)
  · have hm := ifp c_7 hm
    refine lv_aload_n hx hb dX1_makeStep_25 rfl (lv_at hl 1 rfl) ?_
    refine va_get (D := G) (ci := 1) (v := .int (g.1.1 6)) (C := RX1) (T := TX1) (N := 16) hx hb hts hi_1 hown hK hP 0 rfl rfl 6 (by decide) (hts (.fieldLink RX1 60 "HubTrains$Game" "drew" "Z") (List.mem_of_getElem? (i := 1) rfl)) (fun _ h9 => h9) rfl dX1_makeStep_26 ?_
    have J_50 : ∀ (H : Heap) (locs : List Loc) (ls : Array Slot), va_P G vwCl ((wG c ag g) ++ (wFo c fo fp1 fp2 fn f1)) H → va_D A ((wG c ag g) ++ (wFo c fo fp1 fp2 fn f1)) → va_S A s.heap H locs → lv_has ls 2 [(0, .ref (ag 0))] → f_X1_makeStep_J50 g f1 = some (g_r, f_r) → W p l e (rm_X1_makeStep) s m args below meth c1 H locs 0 0 Q (F0 m 50 ls []) := by
      intro  H locs ls hP hD hS hl hm
      unfold f_X1_makeStep_J50 at hm
      refine lv_aload_n hx hb dX1_makeStep_50 rfl (lv_at hl 0 rfl) ?_
      obtain ⟨g51, e_51, hm⟩ := bd1_s hm
      refine zcVv (As := []) (rest := []) ⟨hx, hb, hml, hown, hts⟩ (k_X1_passTurn l G K c ag g g51 e_51) (cwV 0 hts gX1_makeStep_X1_passTurn rfl rfl rfl hd_X1_passTurn ⟨Nat.le_of_ble_eq_true rfl, Nat.le_of_ble_eq_true rfl⟩) hK hN hZ hP hD hS hA (va_recv hK hP (ci := 1) (q0 := 0) rfl rfl) [0, 1, 2, 3, 4, 5, 6, 7, 8, 9] rfl (by decide) rfl rfl hl.1 rfl (Nat.le_of_ble_eq_true rfl) dX1_makeStep_51 ⟨Nat.zero_le _, Nat.zero_le _⟩ (fun H locs hP hD hS => ?_)
      have hP : va_P G vwCl ((wG c ag g51) ++ (wFo c fo fp1 fp2 fn f1)) H := hP
      have hD : va_D A ((wG c ag g51) ++ (wFo c fo fp1 fp2 fn f1)) := hD
      exact hend H locs ls _ _ (zc2 (fun (z0 : GS) (z1 : SA) => ((wG c ag z0) ++ (wFo c fo fp1 fp2 fn z1) : va_W)) (Prod.mk.inj (Option.some.inj hm)).1 (Prod.mk.inj (Option.some.inj hm)).2) hP hD hS dX1_makeStep_54
    refine lv_if_ne (tgt := 50) hx hb dX1_makeStep_29 (by decide) (fun c_29 => ?_) (fun c_29 => ?_)
    · have hm := ifn c_29 hm
      exact J_50 H locs ls hP hD hS (lv_sub hl [1] rfl) hm
    · have hm := ifp c_29 hm
      refine lv_aload_n hx hb dX1_makeStep_32 rfl (lv_at hl 1 rfl) ?_
      refine va_get (D := G) (ci := 1) (v := .ref (ag 3)) (C := RX1) (T := TX1) (N := 16) hx hb hts hi_1 hown hK hP 0 rfl rfl 14 (by decide) (hts (.fieldLink RX1 40 "HubTrains$Game" "stock" "LHubTrains$Stock;") (List.mem_of_getElem? (i := 2) rfl)) (fun _ h9 => h9) rfl dX1_makeStep_33 ?_
      obtain ⟨r36, e_36, hm⟩ := bd1_s hm
      refine zcVi (As := []) (rest := []) ⟨hx, hb, hml, hown, hts⟩ (k_X4_size l G K c (ag 3) (ag 4) g.2.2.1 r36 e_36) (cwV 0 hts gX1_makeStep_X4_size rfl rfl rfl hd_X4_size ⟨Nat.le_of_ble_eq_true rfl, Nat.le_of_ble_eq_true rfl⟩) hK hN hZ hP hD hS hA (va_recv hK hP (ci := 4) (q0 := 3) rfl rfl) [3, 4] rfl (by decide) rfl rfl hl.1 rfl (Nat.le_of_ble_eq_true rfl) dX1_makeStep_36 ⟨Nat.zero_le _, Nat.zero_le _⟩ (fun H locs hP hD hS => ?_)
      have hP : va_P G vwCl ((wG c ag g) ++ (wFo c fo fp1 fp2 fn f1)) H := hP
      have hD : va_D A ((wG c ag g) ++ (wFo c fo fp1 fp2 fn f1)) := hD
      refine lv_if_le (tgt := 50) hx hb dX1_makeStep_39 (by decide) (fun c_39 => ?_) (fun c_39 => ?_)
      · have hm := ifp c_39 hm
        exact J_50 H locs ls hP hD hS (lv_sub hl [1] rfl) hm
      · have hm := ifn c_39 hm
        refine lv_aload_n hx hb dX1_makeStep_42 rfl (lv_at hl 1 rfl) ?_
        obtain ⟨r43, g43, e_43, hm⟩ := bd2_s hm
        refine zcVi (As := []) (rest := []) ⟨hx, hb, hml, hown, hts⟩ (k_X1_drawTile l G K c ag g r43 g43 e_43) (cwV 0 hts gX1_makeStep_X1_drawTile rfl rfl rfl hd_X1_drawTile ⟨Nat.le_of_ble_eq_true rfl, Nat.le_of_ble_eq_true rfl⟩) hK hN hZ hP hD hS hA (va_recv hK hP (ci := 1) (q0 := 0) rfl rfl) [0, 1, 2, 3, 4, 5, 6, 7, 8, 9] rfl (by decide) rfl rfl hl.1 rfl (Nat.le_of_ble_eq_true rfl) dX1_makeStep_43 ⟨Nat.zero_le _, Nat.zero_le _⟩ (fun H locs hP hD hS => ?_)
        have hP : va_P G vwCl ((wG c ag g43) ++ (wFo c fo fp1 fp2 fn f1)) H := hP
        have hD : va_D A ((wG c ag g43) ++ (wFo c fo fp1 fp2 fn f1)) := hD
        refine lv_pop hx hb dX1_makeStep_46 rfl ?_
        refine lv_goto (tgt := 54) hx hb dX1_makeStep_47 (by decide) ?_
        exact hend H locs ls _ _ (zc2 (fun (z0 : GS) (z1 : SA) => ((wG c ag z0) ++ (wFo c fo fp1 fp2 fn z1) : va_W)) (Prod.mk.inj (Option.some.inj hm)).1 (Prod.mk.inj (Option.some.inj hm)).2) hP hD hS dX1_makeStep_54
  · have hm := ifn c_7 hm
    refine lv_aload_n hx hb dX1_makeStep_10 rfl (lv_at hl 1 rfl) ?_
    refine lv_iload_n hx hb dX1_makeStep_11 rfl (lv_at hl 0 rfl) ?_
    refine lv_bipush (v := 10) hx hb dX1_makeStep_12 (by decide) ?_
    refine lv_idiv hx hb dX1_makeStep_14 (by decide) ?_
    refine lv_iload_n hx hb dX1_makeStep_15 rfl (lv_at hl 0 rfl) ?_
    refine lv_bipush (v := 10) hx hb dX1_makeStep_16 (by decide) ?_
    refine lv_irem hx hb dX1_makeStep_18 (by decide) ?_
    obtain ⟨g19, e_19, hm⟩ := bd1_s hm
    refine zcVv (As := [.int (r1 / 10), .int (r1 - r1 / 10 * 10)]) (rest := []) ⟨hx, hb, hml, hown, hts⟩ (k_X1_layTile l G K c ag g (r1 / 10) (r1 - r1 / 10 * 10) g19 e_19) (cwV 2 hts gX1_makeStep_X1_layTile rfl rfl rfl hd_X1_layTile ⟨Nat.le_of_ble_eq_true rfl, Nat.le_of_ble_eq_true rfl⟩) hK hN hZ hP hD hS hA (va_recv hK hP (ci := 1) (q0 := 0) rfl rfl) [0, 1, 2, 3, 4, 5, 6, 7, 8, 9] rfl (by decide) rfl rfl hl.1 rfl (Nat.le_of_ble_eq_true rfl) dX1_makeStep_19 ⟨Nat.zero_le _, Nat.zero_le _⟩ (fun H locs hP hD hS => ?_)
    have hP : va_P G vwCl ((wG c ag g19) ++ (wFo c fo fp1 fp2 fn f1)) H := hP
    have hD : va_D A ((wG c ag g19) ++ (wFo c fo fp1 fp2 fn f1)) := hD
    refine lv_goto (tgt := 54) hx hb dX1_makeStep_22 (by decide) ?_
    exact hend H locs ls _ _ (zc2 (fun (z0 : GS) (z1 : SA) => ((wG c ag z0) ++ (wFo c fo fp1 fp2 fn z1) : va_W)) (Prod.mk.inj (Option.some.inj hm)).1 (Prod.mk.inj (Option.some.inj hm)).2) hP hD hS dX1_makeStep_54

def f_X1_playOn_B2 (fn : Nat) (fo : Option Nat) (p0 : Int32) (rec_2 : Int32 → GS → SA → Option (Int32 × GS × SA)) (v2_2 : Int32) (g_2 : GS) (f_2 : SA) : Option (Int32 × GS × SA) :=
  if p0 ≤ v2_2 then (some (v2_2, g_2, f_2)) else (if (g_2.1.1 8) = 0 then (bd2 (f_X1_makeStep fn fo g_2 f_2) fun (g15 : GS) (f15 : SA) => rec_2 (v2_2 + 1) g15 f15) else (some (v2_2, g_2, f_2)))

def f_X1_playOn (fn : Nat) (fo : Option Nat) (g : GS) (f : SA) (p0 : Int32) : Option (Int32 × GS × SA) :=
  itr3 (f_X1_playOn_B2 fn fo p0) FUEL 0 g f

abbrev rm_X1_playOn : Room := { frames := 6, cells := 0, slots := 0, locals := 147 }
theorem hd_X1_playOn : yX1_playOn.cls = RX1 ∧ yX1_playOn.cls ≠ "java/lang/invoke/MethodHandle" ∧ yX1_playOn.cls ≠ "java/lang/invoke/VarHandle" ∧ (parseMethodDescriptor yX1_playOn.desc).map (fun d => d.parameters.length) = some 1 := by decide +kernel
set_option maxHeartbeats 4000000 in
set_option maxRecDepth 100000 in
theorem k_X1_playOn (l : Launch) (G : va_G) (K : (Nat → Nat) × (Nat → Nat)) (c : Nat → ClassId) (ag : Nat → Nat) (fp1 : Nat) (fp2 : Nat) (fn : Nat) (fo : Option Nat) (g : GS) (f : SA) (p0 : Int32) (r : Int32) (g_r : GS) (f_r : SA) (hm : f_X1_playOn fn fo g f p0 = some (r, g_r, f_r)) : zMi l yX1_playOn wsX1_playOn (rm_X1_playOn) G K (TY c) [.ref (ag 0), .int p0] ((wG c ag g) ++ (wFo c fo fp1 fp2 fn f)) ((wG c ag g_r) ++ (wFo c fo fp1 fp2 fn f_r)) r := by
  refine zMi.of (cc := cX1_playOn) (maxL := 3) (lv := [(0, .ref (ag 0)), (1, .int p0)]) (by decide) rfl (Nat.le_of_ble_eq_true rfl) rfl ?_
  intro p e s m args below meth c1 A Q H locs hx hb hml hown hts hK hN hZ hP hD hA hS hend ls hl
  have hown : s.vm.findClass RX1 = some m.cls := hown
  have hi_1 : ∀ w ∈ wsX10, w ∈ wsX1_playOn := (fun w h => List.mem_cons_of_mem _ (List.mem_append_left _ (List.mem_append_left _ (List.mem_append_left _ (List.mem_append_right _ (h))))))
  unfold f_X1_playOn at hm
  refine lv_iconst (v := 0) hx hb dX1_playOn_0 (by decide) ?_
  refine lv_istore_n (lv' := [(2, .int 0), (0, .ref (ag 0)), (1, .int p0)]) hx hb dX1_playOn_1 rfl hl (by decide) rfl (fun ls hl => ?_)
  have L_2 : ∀ (n_2 : Nat) (v2_2 : Int32) (g_2 : GS) (f_2 : SA) (H : Heap) (locs : List Loc) (ls : Array Slot), va_P G vwCl ((wG c ag g_2) ++ (wFo c fo fp1 fp2 fn f_2)) H → va_D A ((wG c ag g_2) ++ (wFo c fo fp1 fp2 fn f_2)) → va_S A s.heap H locs → lv_has ls 3 [(0, .ref (ag 0)), (1, .int p0), (2, .int v2_2)] → itr3 (f_X1_playOn_B2 fn fo p0) n_2 v2_2 g_2 f_2 = some (r, g_r, f_r) → W p l e (rm_X1_playOn) s m args below meth c1 H locs 0 0 Q (F0 m 2 ls []) := by
    intro n_2
    induction n_2 with
    | zero => intro v2_2 g_2 f_2 H locs ls hP hD hS hl hm; exact (itr3_0 hm).elim
    | succ n_2 ih_2 =>
      intro v2_2 g_2 f_2 H locs ls hP hD hS hl hm
      have hm := itr3_s hm
      unfold f_X1_playOn_B2 at hm
      refine lv_iload_n hx hb dX1_playOn_2 rfl (lv_at hl 2 rfl) ?_
      refine lv_iload_n hx hb dX1_playOn_3 rfl (lv_at hl 1 rfl) ?_
      refine lv_icmp_ge (tgt := 24) hx hb dX1_playOn_4 (by decide) (fun c_4 => ?_) (fun c_4 => ?_)
      · have hm := ifp c_4 hm
        refine lv_iload_n hx hb dX1_playOn_24 rfl (lv_at hl 2 rfl) ?_
        exact hend H locs ls _ _ _ rfl (Prod.mk.inj (Option.some.inj hm)).1 (zc2 (fun (z0 : GS) (z1 : SA) => ((wG c ag z0) ++ (wFo c fo fp1 fp2 fn z1) : va_W)) (Prod.mk.inj (Prod.mk.inj (Option.some.inj hm)).2).1 (Prod.mk.inj (Prod.mk.inj (Option.some.inj hm)).2).2) hP hD hS dX1_playOn_25
      · have hm := ifn c_4 hm
        refine lv_aload_n hx hb dX1_playOn_7 rfl (lv_at hl 0 rfl) ?_
        refine va_get (D := G) (ci := 1) (v := .int (g_2.1.1 8)) (C := RX1) (T := TX1) (N := 16) hx hb hts hi_1 hown hK hP 0 rfl rfl 8 (by decide) (hts (.fieldLink RX1 64 "HubTrains$Game" "over" "Z") (List.mem_of_getElem? (i := 1) rfl)) (fun _ h9 => h9) rfl dX1_playOn_8 ?_
        refine lv_if_ne (tgt := 24) hx hb dX1_playOn_11 (by decide) (fun c_11 => ?_) (fun c_11 => ?_)
        · have hm := ifn c_11 hm
          refine lv_iload_n hx hb dX1_playOn_24 rfl (lv_at hl 2 rfl) ?_
          exact hend H locs ls _ _ _ rfl (Prod.mk.inj (Option.some.inj hm)).1 (zc2 (fun (z0 : GS) (z1 : SA) => ((wG c ag z0) ++ (wFo c fo fp1 fp2 fn z1) : va_W)) (Prod.mk.inj (Prod.mk.inj (Option.some.inj hm)).2).1 (Prod.mk.inj (Prod.mk.inj (Option.some.inj hm)).2).2) hP hD hS dX1_playOn_25
        · have hm := ifp c_11 hm
          refine lv_aload_n hx hb dX1_playOn_14 rfl (lv_at hl 0 rfl) ?_
          obtain ⟨g15, f15, e_15, hm⟩ := bd2_s hm
          refine zcWv (As := []) (rest := []) ⟨hx, hb, hml, hown, hts⟩ (k_X1_makeStep l G K c ag fp1 fp2 fn fo g_2 f_2 g15 f15 e_15) (cwV 0 hts gX1_playOn_X1_makeStep rfl rfl rfl hd_X1_makeStep ⟨Nat.le_of_ble_eq_true rfl, Nat.le_of_ble_eq_true rfl⟩) hK hN hZ hP hD hS hA (va_recv hK hP (ci := 1) (q0 := 0) rfl rfl) rfl hl.1 rfl (Nat.le_of_ble_eq_true rfl) dX1_playOn_15 ⟨Nat.zero_le _, Nat.zero_le _⟩ (fun H locs hP hD hS => ?_)
          have hP : va_P G vwCl ((wG c ag g15) ++ (wFo c fo fp1 fp2 fn f15)) H := hP
          have hD : va_D A ((wG c ag g15) ++ (wFo c fo fp1 fp2 fn f15)) := hD
          refine lv_iinc (k := 2) (v := (v2_2 + 1)) (lv' := [(2, .int (v2_2 + 1)), (0, .ref (ag 0)), (1, .int p0)]) hx hb dX1_playOn_18 hl rfl rfl (by decide) rfl (fun ls hl => ?_)
          refine lv_goto (tgt := 2) hx hb dX1_playOn_21 (by decide) ?_
          exact ih_2 (v2_2 + 1) g15 f15 H locs ls hP hD hS (lv_sub hl [1, 2, 0] rfl) hm
  exact L_2 FUEL 0 g f H locs ls hP hD hS (lv_sub hl [1, 2, 0] rfl) hm
