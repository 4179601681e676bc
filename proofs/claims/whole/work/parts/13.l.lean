abbrev rmLt_load : Room := { frames := 8, cells := 1, slots := 6, locals := 103 }
theorem wt_load_1 (l : Launch) (hl0 : l.stackTraces = false) (G : va_G) (K : (Nat → Nat) × (Nat → Nat)) (c : Nat → ClassId) (ah : Nat → Nat) (ag : Nat → Nat → Nat) (ar : Nat → Nat) (ps : PS) (s7 : HS) (p0 : Int32) (hm : t_X7_load s7 p0 = some ("java/lang/IllegalArgumentException")) (out : Nat) (f : Nat → Int64) : zLi l yL_load wsL_load rmLt_load G K (TY c) [.ref (ah 0), .int p0, .ref out] (wQ c out f ++ (wH c ah ag ar ps s7)) (fun _ => wQ c out f ++ (wH c ah ag ar ps s7)) 1 1 6 := by
  refine zLi.of (cc := cL_load) (maxL := 4) (hh := [(0, 9, 12, 13)]) (lv := [(0, .ref (ah 0)), (1, .int p0), (2, .ref out)]) (by decide) rfl (Nat.le_of_ble_eq_true rfl) rfl ?_
  intro p e s m args below meth c1 A Q H locs hx hb hml htab hown hts hK hN hZ hXA hXW hNC hP hD hA hS hend ls hl
  have hown : s.vm.findClass RL = some m.cls := hown
  refine lv_aload_n hx hb dL_load_0 rfl (lv_at hl 2 rfl) ?_
  refine lv_iconst (v := 0) hx hb dL_load_1 (by decide) ?_
  refine lv_aload_n hx hb dL_load_2 rfl (lv_at hl 0 rfl) ?_
  refine lv_iload_n hx hb dL_load_3 rfl (lv_at hl 1 rfl) ?_
  refine zcXFVi (w1 := (wH c ah ag ar ps s7)) (wr := wQ c out f) (wc := (wH c ah ag ar ps s7)) (As := [.int p0]) (rest := [.int 0, .ref out]) ⟨hx, hb, hml, hown, hts⟩ (tk_X7_load l hl0 G K c ah ag ar ps s7 p0 "java/lang/IllegalArgumentException" hm) (cwV 1 hts gL_load_X7_load rfl rfl rfl (by decide +kernel) ⟨Nat.le_of_ble_eq_true rfl, Nat.le_of_ble_eq_true rfl⟩) hK hN hZ hXW hP hD hS hA (va_recv hK hP (ci := 7) (q0 := 1) rfl rfl) rfl hl.1 rfl (Nat.le_of_ble_eq_true rfl) dL_load_4 ⟨Nat.le_of_ble_eq_true rfl, Nat.le_of_ble_eq_true rfl⟩ (fun H locs q ce hP hD hS hq hce hcl => ?_)
  refine vx_catch (own := RL) (name := "java/lang/IllegalArgumentException") (E := "java/lang/IllegalArgumentException") hown [] ⟨0, 9, 12, 13⟩ [] (htab.trans rfl) (fun z hz => absurd hz List.not_mem_nil) (by decide) (by decide) (hts (.classLink RL 13 "java/lang/IllegalArgumentException") (List.mem_of_getElem? (i := 1) rfl)) (hXW.b (E := "java/lang/IllegalArgumentException") (List.mem_of_getElem? (i := 0) rfl) (.castable "java/lang/IllegalArgumentException" "java/lang/IllegalArgumentException") List.mem_cons_self) hq hce hcl ?_
  refine lv_astore_n (lv' := [(3, .ref q), (0, .ref (ah 0)), (1, .int p0), (2, .ref out)]) hx hb dL_load_12 rfl hl (by decide) rfl (fun ls hl => ?_)
  refine lv_iconst (v := 1) hx hb dL_load_13 (by decide) ?_
  exact hend H locs ls _ (fun _ => 0) hP hD hS dL_load_14
abbrev rmLt_state : Room := { frames := 8, cells := 1, slots := 6, locals := 123 }
theorem wt_state_1 (l : Launch) (hl0 : l.stackTraces = false) (G : va_G) (K : (Nat → Nat) × (Nat → Nat)) (c : Nat → ClassId) (ah : Nat → Nat) (ag : Nat → Nat → Nat) (ar : Nat → Nat) (ps : PS) (s7 : HS) (p0 : Int32) (hm : t_X7_state s7 p0 = some ("java/lang/IllegalArgumentException")) (out : Nat) (f : Nat → Int64) : zLi l yL_state wsL_state rmLt_state G K (TY c) [.ref (ah 0), .int p0, .ref out] (wQ c out f ++ (wH c ah ag ar ps s7)) (fun _ => wQ c out f ++ (wH c ah ag ar ps s7)) 1 1 6 := by
  refine zLi.of (cc := cL_state) (maxL := 4) (hh := [(0, 9, 12, 13)]) (lv := [(0, .ref (ah 0)), (1, .int p0), (2, .ref out)]) (by decide) rfl (Nat.le_of_ble_eq_true rfl) rfl ?_
  intro p e s m args below meth c1 A Q H locs hx hb hml htab hown hts hK hN hZ hXA hXW hNC hP hD hA hS hend ls hl
  have hown : s.vm.findClass RL = some m.cls := hown
  refine lv_aload_n hx hb dL_state_0 rfl (lv_at hl 2 rfl) ?_
  refine lv_iconst (v := 0) hx hb dL_state_1 (by decide) ?_
  refine lv_aload_n hx hb dL_state_2 rfl (lv_at hl 0 rfl) ?_
  refine lv_iload_n hx hb dL_state_3 rfl (lv_at hl 1 rfl) ?_
  refine zcXFVi (w1 := (wH c ah ag ar ps s7)) (wr := wQ c out f) (wc := (wH c ah ag ar ps s7)) (As := [.int p0]) (rest := [.int 0, .ref out]) ⟨hx, hb, hml, hown, hts⟩ (tk_X7_state l hl0 G K c ah ag ar ps s7 p0 "java/lang/IllegalArgumentException" hm) (cwV 1 hts gL_state_X7_state rfl rfl rfl (by decide +kernel) ⟨Nat.le_of_ble_eq_true rfl, Nat.le_of_ble_eq_true rfl⟩) hK hN hZ hXW hP hD hS hA (va_recv hK hP (ci := 7) (q0 := 1) rfl rfl) rfl hl.1 rfl (Nat.le_of_ble_eq_true rfl) dL_state_4 ⟨Nat.le_of_ble_eq_true rfl, Nat.le_of_ble_eq_true rfl⟩ (fun H locs q ce hP hD hS hq hce hcl => ?_)
  refine vx_catch (own := RL) (name := "java/lang/IllegalArgumentException") (E := "java/lang/IllegalArgumentException") hown [] ⟨0, 9, 12, 13⟩ [] (htab.trans rfl) (fun z hz => absurd hz List.not_mem_nil) (by decide) (by decide) (hts (.classLink RL 13 "java/lang/IllegalArgumentException") (List.mem_of_getElem? (i := 1) rfl)) (hXW.b (E := "java/lang/IllegalArgumentException") (List.mem_of_getElem? (i := 0) rfl) (.castable "java/lang/IllegalArgumentException" "java/lang/IllegalArgumentException") List.mem_cons_self) hq hce hcl ?_
  refine lv_astore_n (lv' := [(3, .ref q), (0, .ref (ah 0)), (1, .int p0), (2, .ref out)]) hx hb dL_state_12 rfl hl (by decide) rfl (fun ls hl => ?_)
  refine lv_iconst (v := 1) hx hb dL_state_13 (by decide) ?_
  exact hend H locs ls _ (fun _ => 0) hP hD hS dL_state_14
abbrev rmLt_player : Room := { frames := 8, cells := 1, slots := 6, locals := 124 }
theorem wt_player_1 (l : Launch) (hl0 : l.stackTraces = false) (G : va_G) (K : (Nat → Nat) × (Nat → Nat)) (c : Nat → ClassId) (ah : Nat → Nat) (ag : Nat → Nat → Nat) (ar : Nat → Nat) (ps : PS) (s7 : HS) (p0 : Int32) (p1 : Int32) (hm : t_X7_player s7 p0 p1 = some ("java/lang/IndexOutOfBoundsException")) (out : Nat) (f : Nat → Int64) : zLi l yL_player wsL_player rmLt_player G K (TY c) [.ref (ah 0), .int p0, .int p1, .ref out] (wQ c out f ++ (wH c ah ag ar ps s7)) (fun _ => wQ c out f ++ (wH c ah ag ar ps s7)) 1 1 6 := by
  refine zLi.of (cc := cL_player) (maxL := 5) (hh := [(0, 10, 13, 22), (0, 10, 17, 13)]) (lv := [(0, .ref (ah 0)), (1, .int p0), (2, .int p1), (3, .ref out)]) (by decide) rfl (Nat.le_of_ble_eq_true rfl) rfl ?_
  intro p e s m args below meth c1 A Q H locs hx hb hml htab hown hts hK hN hZ hXA hXW hNC hP hD hA hS hend ls hl
  have hown : s.vm.findClass RL = some m.cls := hown
  refine lv_aload_n hx hb dL_player_0 rfl (lv_at hl 3 rfl) ?_
  refine lv_iconst (v := 0) hx hb dL_player_1 (by decide) ?_
  refine lv_aload_n hx hb dL_player_2 rfl (lv_at hl 0 rfl) ?_
  refine lv_iload_n hx hb dL_player_3 rfl (lv_at hl 1 rfl) ?_
  refine lv_iload_n hx hb dL_player_4 rfl (lv_at hl 2 rfl) ?_
  refine zcXFVi (w1 := (wH c ah ag ar ps s7)) (wr := wQ c out f) (wc := (wH c ah ag ar ps s7)) (As := [.int p0, .int p1]) (rest := [.int 0, .ref out]) ⟨hx, hb, hml, hown, hts⟩ (tk_X7_player l hl0 G K c ah ag ar ps s7 p0 p1 "java/lang/IndexOutOfBoundsException" hm) (cwV 2 hts gL_player_X7_player rfl rfl rfl (by decide +kernel) ⟨Nat.le_of_ble_eq_true rfl, Nat.le_of_ble_eq_true rfl⟩) hK hN hZ hXW hP hD hS hA (va_recv hK hP (ci := 7) (q0 := 1) rfl rfl) rfl hl.1 rfl (Nat.le_of_ble_eq_true rfl) dL_player_5 ⟨Nat.le_of_ble_eq_true rfl, Nat.le_of_ble_eq_true rfl⟩ (fun H locs q ce hP hD hS hq hce hcl => ?_)
  refine vx_catch (own := RL) (name := "java/lang/IndexOutOfBoundsException") (E := "java/lang/IndexOutOfBoundsException") hown [] ⟨0, 10, 13, 22⟩ [⟨0, 10, 17, 13⟩] (htab.trans rfl) (fun z hz => absurd hz List.not_mem_nil) (by decide) (by decide) (hts (.classLink RL 22 "java/lang/IndexOutOfBoundsException") (List.mem_of_getElem? (i := 1) rfl)) (hXW.b (E := "java/lang/IndexOutOfBoundsException") (List.mem_of_getElem? (i := 1) rfl) (.castable "java/lang/IndexOutOfBoundsException" "java/lang/IndexOutOfBoundsException") List.mem_cons_self) hq hce hcl ?_
  refine lv_astore (lv' := [(4, .ref q), (0, .ref (ah 0)), (1, .int p0), (2, .int p1), (3, .ref out)]) hx hb dL_player_13 hl (by decide) rfl (fun ls hl => ?_)
  refine lv_iconst (v := 1) hx hb dL_player_15 (by decide) ?_
  exact hend H locs ls _ (fun _ => 0) hP hD hS dL_player_16
theorem wt_player_2 (l : Launch) (hl0 : l.stackTraces = false) (G : va_G) (K : (Nat → Nat) × (Nat → Nat)) (c : Nat → ClassId) (ah : Nat → Nat) (ag : Nat → Nat → Nat) (ar : Nat → Nat) (ps : PS) (s7 : HS) (p0 : Int32) (p1 : Int32) (hm : t_X7_player s7 p0 p1 = some ("java/lang/IllegalArgumentException")) (out : Nat) (f : Nat → Int64) : zLi l yL_player wsL_player rmLt_player G K (TY c) [.ref (ah 0), .int p0, .int p1, .ref out] (wQ c out f ++ (wH c ah ag ar ps s7)) (fun _ => wQ c out f ++ (wH c ah ag ar ps s7)) 2 1 6 := by
  refine zLi.of (cc := cL_player) (maxL := 5) (hh := [(0, 10, 13, 22), (0, 10, 17, 13)]) (lv := [(0, .ref (ah 0)), (1, .int p0), (2, .int p1), (3, .ref out)]) (by decide) rfl (Nat.le_of_ble_eq_true rfl) rfl ?_
  intro p e s m args below meth c1 A Q H locs hx hb hml htab hown hts hK hN hZ hXA hXW hNC hP hD hA hS hend ls hl
  have hown : s.vm.findClass RL = some m.cls := hown
  refine lv_aload_n hx hb dL_player_0 rfl (lv_at hl 3 rfl) ?_
  refine lv_iconst (v := 0) hx hb dL_player_1 (by decide) ?_
  refine lv_aload_n hx hb dL_player_2 rfl (lv_at hl 0 rfl) ?_
  refine lv_iload_n hx hb dL_player_3 rfl (lv_at hl 1 rfl) ?_
  refine lv_iload_n hx hb dL_player_4 rfl (lv_at hl 2 rfl) ?_
  refine zcXFVi (w1 := (wH c ah ag ar ps s7)) (wr := wQ c out f) (wc := (wH c ah ag ar ps s7)) (As := [.int p0, .int p1]) (rest := [.int 0, .ref out]) ⟨hx, hb, hml, hown, hts⟩ (tk_X7_player l hl0 G K c ah ag ar ps s7 p0 p1 "java/lang/IllegalArgumentException" hm) (cwV 2 hts gL_player_X7_player rfl rfl rfl (by decide +kernel) ⟨Nat.le_of_ble_eq_true rfl, Nat.le_of_ble_eq_true rfl⟩) hK hN hZ hXW hP hD hS hA (va_recv hK hP (ci := 7) (q0 := 1) rfl rfl) rfl hl.1 rfl (Nat.le_of_ble_eq_true rfl) dL_player_5 ⟨Nat.le_of_ble_eq_true rfl, Nat.le_of_ble_eq_true rfl⟩ (fun H locs q ce hP hD hS hq hce hcl => ?_)
  refine vx_catch (own := RL) (name := "java/lang/IllegalArgumentException") (E := "java/lang/IllegalArgumentException") hown [⟨0, 10, 13, 22⟩] ⟨0, 10, 17, 13⟩ [] (htab.trans rfl) (fun z hz => by cases List.mem_singleton.mp hz; exact Or.inr ⟨by decide, "java/lang/IndexOutOfBoundsException", hts (.classLink RL 22 "java/lang/IndexOutOfBoundsException") (List.mem_of_getElem? (i := 1) rfl), hNC ("java/lang/IllegalArgumentException", "java/lang/IndexOutOfBoundsException") (List.mem_of_getElem? (i := 0) rfl)⟩) (by decide) (by decide) (hts (.classLink RL 13 "java/lang/IllegalArgumentException") (List.mem_of_getElem? (i := 2) rfl)) (hXW.b (E := "java/lang/IllegalArgumentException") (List.mem_of_getElem? (i := 0) rfl) (.castable "java/lang/IllegalArgumentException" "java/lang/IllegalArgumentException") List.mem_cons_self) hq hce hcl ?_
  refine lv_astore (lv' := [(4, .ref q), (0, .ref (ah 0)), (1, .int p0), (2, .int p1), (3, .ref out)]) hx hb dL_player_17 hl (by decide) rfl (fun ls hl => ?_)
  refine lv_iconst (v := 2) hx hb dL_player_19 (by decide) ?_
  exact hend H locs ls _ (fun _ => 0) hP hD hS dL_player_20
abbrev rmLt_tile : Room := { frames := 8, cells := 1, slots := 6, locals := 125 }
theorem wt_tile_1 (l : Launch) (hl0 : l.stackTraces = false) (G : va_G) (K : (Nat → Nat) × (Nat → Nat)) (c : Nat → ClassId) (ah : Nat → Nat) (ag : Nat → Nat → Nat) (ar : Nat → Nat) (ps : PS) (s7 : HS) (p0 : Int32) (p1 : Int32) (hm : t_X7_tile s7 p0 p1 = some ("java/lang/IndexOutOfBoundsException")) (out : Nat) (f : Nat → Int64) : zLi l yL_tile wsL_tile rmLt_tile G K (TY c) [.ref (ah 0), .int p0, .int p1, .ref out] (wQ c out f ++ (wH c ah ag ar ps s7)) (fun _ => wQ c out f ++ (wH c ah ag ar ps s7)) 1 1 6 := by
  refine zLi.of (cc := cL_tile) (maxL := 5) (hh := [(0, 10, 13, 22), (0, 10, 17, 27)]) (lv := [(0, .ref (ah 0)), (1, .int p0), (2, .int p1), (3, .ref out)]) (by decide) rfl (Nat.le_of_ble_eq_true rfl) rfl ?_
  intro p e s m args below meth c1 A Q H locs hx hb hml htab hown hts hK hN hZ hXA hXW hNC hP hD hA hS hend ls hl
  have hown : s.vm.findClass RL = some m.cls := hown
  refine lv_aload_n hx hb dL_tile_0 rfl (lv_at hl 3 rfl) ?_
  refine lv_iconst (v := 0) hx hb dL_tile_1 (by decide) ?_
  refine lv_aload_n hx hb dL_tile_2 rfl (lv_at hl 0 rfl) ?_
  refine lv_iload_n hx hb dL_tile_3 rfl (lv_at hl 1 rfl) ?_
  refine lv_iload_n hx hb dL_tile_4 rfl (lv_at hl 2 rfl) ?_
  refine zcXFVi (w1 := (wH c ah ag ar ps s7)) (wr := wQ c out f) (wc := (wH c ah ag ar ps s7)) (As := [.int p0, .int p1]) (rest := [.int 0, .ref out]) ⟨hx, hb, hml, hown, hts⟩ (tk_X7_tile l hl0 G K c ah ag ar ps s7 p0 p1 "java/lang/IndexOutOfBoundsException" hm) (cwV 2 hts gL_tile_X7_tile rfl rfl rfl (by decide +kernel) ⟨Nat.le_of_ble_eq_true rfl, Nat.le_of_ble_eq_true rfl⟩) hK hN hZ hXW hP hD hS hA (va_recv hK hP (ci := 7) (q0 := 1) rfl rfl) rfl hl.1 rfl (Nat.le_of_ble_eq_true rfl) dL_tile_5 ⟨Nat.le_of_ble_eq_true rfl, Nat.le_of_ble_eq_true rfl⟩ (fun H locs q ce hP hD hS hq hce hcl => ?_)
  refine vx_catch (own := RL) (name := "java/lang/IndexOutOfBoundsException") (E := "java/lang/IndexOutOfBoundsException") hown [] ⟨0, 10, 13, 22⟩ [⟨0, 10, 17, 27⟩] (htab.trans rfl) (fun z hz => absurd hz List.not_mem_nil) (by decide) (by decide) (hts (.classLink RL 22 "java/lang/IndexOutOfBoundsException") (List.mem_of_getElem? (i := 1) rfl)) (hXW.b (E := "java/lang/IndexOutOfBoundsException") (List.mem_of_getElem? (i := 1) rfl) (.castable "java/lang/IndexOutOfBoundsException" "java/lang/IndexOutOfBoundsException") List.mem_cons_self) hq hce hcl ?_
  refine lv_astore (lv' := [(4, .ref q), (0, .ref (ah 0)), (1, .int p0), (2, .int p1), (3, .ref out)]) hx hb dL_tile_13 hl (by decide) rfl (fun ls hl => ?_)
  refine lv_iconst (v := 1) hx hb dL_tile_15 (by decide) ?_
  exact hend H locs ls _ (fun _ => 0) hP hD hS dL_tile_16
theorem wt_tile_2 (l : Launch) (hl0 : l.stackTraces = false) (G : va_G) (K : (Nat → Nat) × (Nat → Nat)) (c : Nat → ClassId) (ah : Nat → Nat) (ag : Nat → Nat → Nat) (ar : Nat → Nat) (ps : PS) (s7 : HS) (p0 : Int32) (p1 : Int32) (hm : t_X7_tile s7 p0 p1 = some ("java/util/NoSuchElementException")) (out : Nat) (f : Nat → Int64) : zLi l yL_tile wsL_tile rmLt_tile G K (TY c) [.ref (ah 0), .int p0, .int p1, .ref out] (wQ c out f ++ (wH c ah ag ar ps s7)) (fun _ => wQ c out f ++ (wH c ah ag ar ps s7)) 2 1 6 := by
  refine zLi.of (cc := cL_tile) (maxL := 5) (hh := [(0, 10, 13, 22), (0, 10, 17, 27)]) (lv := [(0, .ref (ah 0)), (1, .int p0), (2, .int p1), (3, .ref out)]) (by decide) rfl (Nat.le_of_ble_eq_true rfl) rfl ?_
  intro p e s m args below meth c1 A Q H locs hx hb hml htab hown hts hK hN hZ hXA hXW hNC hP hD hA hS hend ls hl
  have hown : s.vm.findClass RL = some m.cls := hown
  refine lv_aload_n hx hb dL_tile_0 rfl (lv_at hl 3 rfl) ?_
  refine lv_iconst (v := 0) hx hb dL_tile_1 (by decide) ?_
  refine lv_aload_n hx hb dL_tile_2 rfl (lv_at hl 0 rfl) ?_
  refine lv_iload_n hx hb dL_tile_3 rfl (lv_at hl 1 rfl) ?_
  refine lv_iload_n hx hb dL_tile_4 rfl (lv_at hl 2 rfl) ?_
  refine zcXFVi (w1 := (wH c ah ag ar ps s7)) (wr := wQ c out f) (wc := (wH c ah ag ar ps s7)) (As := [.int p0, .int p1]) (rest := [.int 0, .ref out]) ⟨hx, hb, hml, hown, hts⟩ (tk_X7_tile l hl0 G K c ah ag ar ps s7 p0 p1 "java/util/NoSuchElementException" hm) (cwV 2 hts gL_tile_X7_tile rfl rfl rfl (by decide +kernel) ⟨Nat.le_of_ble_eq_true rfl, Nat.le_of_ble_eq_true rfl⟩) hK hN hZ hXW hP hD hS hA (va_recv hK hP (ci := 7) (q0 := 1) rfl rfl) rfl hl.1 rfl (Nat.le_of_ble_eq_true rfl) dL_tile_5 ⟨Nat.le_of_ble_eq_true rfl, Nat.le_of_ble_eq_true rfl⟩ (fun H locs q ce hP hD hS hq hce hcl => ?_)
  refine vx_catch (own := RL) (name := "java/util/NoSuchElementException") (E := "java/util/NoSuchElementException") hown [⟨0, 10, 13, 22⟩] ⟨0, 10, 17, 27⟩ [] (htab.trans rfl) (fun z hz => by cases List.mem_singleton.mp hz; exact Or.inr ⟨by decide, "java/lang/IndexOutOfBoundsException", hts (.classLink RL 22 "java/lang/IndexOutOfBoundsException") (List.mem_of_getElem? (i := 1) rfl), hNC ("java/util/NoSuchElementException", "java/lang/IndexOutOfBoundsException") (List.mem_of_getElem? (i := 1) rfl)⟩) (by decide) (by decide) (hts (.classLink RL 27 "java/util/NoSuchElementException") (List.mem_of_getElem? (i := 2) rfl)) (hXW.b (E := "java/util/NoSuchElementException") (List.mem_of_getElem? (i := 2) rfl) (.castable "java/util/NoSuchElementException" "java/util/NoSuchElementException") List.mem_cons_self) hq hce hcl ?_
  refine lv_astore (lv' := [(4, .ref q), (0, .ref (ah 0)), (1, .int p0), (2, .int p1), (3, .ref out)]) hx hb dL_tile_17 hl (by decide) rfl (fun ls hl => ?_)
  refine lv_iconst (v := 2) hx hb dL_tile_19 (by decide) ?_
  exact hend H locs ls _ (fun _ => 0) hP hD hS dL_tile_20
abbrev rmLt_train : Room := { frames := 8, cells := 1, slots := 6, locals := 124 }
theorem wt_train_1 (l : Launch) (hl0 : l.stackTraces = false) (G : va_G) (K : (Nat → Nat) × (Nat → Nat)) (c : Nat → ClassId) (ah : Nat → Nat) (ag : Nat → Nat → Nat) (ar : Nat → Nat) (ps : PS) (s7 : HS) (p0 : Int32) (p1 : Int32) (hm : t_X7_train s7 p0 p1 = some ("java/lang/IndexOutOfBoundsException")) (out : Nat) (f : Nat → Int64) : zLi l yL_train wsL_train rmLt_train G K (TY c) [.ref (ah 0), .int p0, .int p1, .ref out] (wQ c out f ++ (wH c ah ag ar ps s7)) (fun _ => wQ c out f ++ (wH c ah ag ar ps s7)) 1 1 6 := by
  refine zLi.of (cc := cL_train) (maxL := 5) (hh := [(0, 10, 13, 22), (0, 10, 17, 13)]) (lv := [(0, .ref (ah 0)), (1, .int p0), (2, .int p1), (3, .ref out)]) (by decide) rfl (Nat.le_of_ble_eq_true rfl) rfl ?_
  intro p e s m args below meth c1 A Q H locs hx hb hml htab hown hts hK hN hZ hXA hXW hNC hP hD hA hS hend ls hl
  have hown : s.vm.findClass RL = some m.cls := hown
  refine lv_aload_n hx hb dL_train_0 rfl (lv_at hl 3 rfl) ?_
  refine lv_iconst (v := 0) hx hb dL_train_1 (by decide) ?_
  refine lv_aload_n hx hb dL_train_2 rfl (lv_at hl 0 rfl) ?_
  refine lv_iload_n hx hb dL_train_3 rfl (lv_at hl 1 rfl) ?_
  refine lv_iload_n hx hb dL_train_4 rfl (lv_at hl 2 rfl) ?_
  refine zcXFVi (w1 := (wH c ah ag ar ps s7)) (wr := wQ c out f) (wc := (wH c ah ag ar ps s7)) (As := [.int p0, .int p1]) (rest := [.int 0, .ref out]) ⟨hx, hb, hml, hown, hts⟩ (tk_X7_train l hl0 G K c ah ag ar ps s7 p0 p1 "java/lang/IndexOutOfBoundsException" hm) (cwV 2 hts gL_train_X7_train rfl rfl rfl (by decide +kernel) ⟨Nat.le_of_ble_eq_true rfl, Nat.le_of_ble_eq_true rfl⟩) hK hN hZ hXW hP hD hS hA (va_recv hK hP (ci := 7) (q0 := 1) rfl rfl) rfl hl.1 rfl (Nat.le_of_ble_eq_true rfl) dL_train_5 ⟨Nat.le_of_ble_eq_true rfl, Nat.le_of_ble_eq_true rfl⟩ (fun H locs q ce hP hD hS hq hce hcl => ?_)
  refine vx_catch (own := RL) (name := "java/lang/IndexOutOfBoundsException") (E := "java/lang/IndexOutOfBoundsException") hown [] ⟨0, 10, 13, 22⟩ [⟨0, 10, 17, 13⟩] (htab.trans rfl) (fun z hz => absurd hz List.not_mem_nil) (by decide) (by decide) (hts (.classLink RL 22 "java/lang/IndexOutOfBoundsException") (List.mem_of_getElem? (i := 1) rfl)) (hXW.b (E := "java/lang/IndexOutOfBoundsException") (List.mem_of_getElem? (i := 1) rfl) (.castable "java/lang/IndexOutOfBoundsException" "java/lang/IndexOutOfBoundsException") List.mem_cons_self) hq hce hcl ?_
  refine lv_astore (lv' := [(4, .ref q), (0, .ref (ah 0)), (1, .int p0), (2, .int p1), (3, .ref out)]) hx hb dL_train_13 hl (by decide) rfl (fun ls hl => ?_)
  refine lv_iconst (v := 1) hx hb dL_train_15 (by decide) ?_
  exact hend H locs ls _ (fun _ => 0) hP hD hS dL_train_16
theorem wt_train_2 (l : Launch) (hl0 : l.stackTraces = false) (G : va_G) (K : (Nat → Nat) × (Nat → Nat)) (c : Nat → ClassId) (ah : Nat → Nat) (ag : Nat → Nat → Nat) (ar : Nat → Nat) (ps : PS) (s7 : HS) (p0 : Int32) (p1 : Int32) (hm : t_X7_train s7 p0 p1 = some ("java/lang/IllegalArgumentException")) (out : Nat) (f : Nat → Int64) : zLi l yL_train wsL_train rmLt_train G K (TY c) [.ref (ah 0), .int p0, .int p1, .ref out] (wQ c out f ++ (wH c ah ag ar ps s7)) (fun _ => wQ c out f ++ (wH c ah ag ar ps s7)) 2 1 6 := by
  refine zLi.of (cc := cL_train) (maxL := 5) (hh := [(0, 10, 13, 22), (0, 10, 17, 13)]) (lv := [(0, .ref (ah 0)), (1, .int p0), (2, .int p1), (3, .ref out)]) (by decide) rfl (Nat.le_of_ble_eq_true rfl) rfl ?_
  intro p e s m args below meth c1 A Q H locs hx hb hml htab hown hts hK hN hZ hXA hXW hNC hP hD hA hS hend ls hl
  have hown : s.vm.findClass RL = some m.cls := hown
  refine lv_aload_n hx hb dL_train_0 rfl (lv_at hl 3 rfl) ?_
  refine lv_iconst (v := 0) hx hb dL_train_1 (by decide) ?_
  refine lv_aload_n hx hb dL_train_2 rfl (lv_at hl 0 rfl) ?_
  refine lv_iload_n hx hb dL_train_3 rfl (lv_at hl 1 rfl) ?_
  refine lv_iload_n hx hb dL_train_4 rfl (lv_at hl 2 rfl) ?_
  refine zcXFVi (w1 := (wH c ah ag ar ps s7)) (wr := wQ c out f) (wc := (wH c ah ag ar ps s7)) (As := [.int p0, .int p1]) (rest := [.int 0, .ref out]) ⟨hx, hb, hml, hown, hts⟩ (tk_X7_train l hl0 G K c ah ag ar ps s7 p0 p1 "java/lang/IllegalArgumentException" hm) (cwV 2 hts gL_train_X7_train rfl rfl rfl (by decide +kernel) ⟨Nat.le_of_ble_eq_true rfl, Nat.le_of_ble_eq_true rfl⟩) hK hN hZ hXW hP hD hS hA (va_recv hK hP (ci := 7) (q0 := 1) rfl rfl) rfl hl.1 rfl (Nat.le_of_ble_eq_true rfl) dL_train_5 ⟨Nat.le_of_ble_eq_true rfl, Nat.le_of_ble_eq_true rfl⟩ (fun H locs q ce hP hD hS hq hce hcl => ?_)
  refine vx_catch (own := RL) (name := "java/lang/IllegalArgumentException") (E := "java/lang/IllegalArgumentException") hown [⟨0, 10, 13, 22⟩] ⟨0, 10, 17, 13⟩ [] (htab.trans rfl) (fun z hz => by cases List.mem_singleton.mp hz; exact Or.inr ⟨by decide, "java/lang/IndexOutOfBoundsException", hts (.classLink RL 22 "java/lang/IndexOutOfBoundsException") (List.mem_of_getElem? (i := 1) rfl), hNC ("java/lang/IllegalArgumentException", "java/lang/IndexOutOfBoundsException") (List.mem_of_getElem? (i := 0) rfl)⟩) (by decide) (by decide) (hts (.classLink RL 13 "java/lang/IllegalArgumentException") (List.mem_of_getElem? (i := 2) rfl)) (hXW.b (E := "java/lang/IllegalArgumentException") (List.mem_of_getElem? (i := 0) rfl) (.castable "java/lang/IllegalArgumentException" "java/lang/IllegalArgumentException") List.mem_cons_self) hq hce hcl ?_
  refine lv_astore (lv' := [(4, .ref q), (0, .ref (ah 0)), (1, .int p0), (2, .int p1), (3, .ref out)]) hx hb dL_train_17 hl (by decide) rfl (fun ls hl => ?_)
  refine lv_iconst (v := 2) hx hb dL_train_19 (by decide) ?_
  exact hend H locs ls _ (fun _ => 0) hP hD hS dL_train_20
abbrev rmLt_laid : Room := { frames := 8, cells := 1, slots := 6, locals := 125 }
theorem wt_laid_1 (l : Launch) (hl0 : l.stackTraces = false) (G : va_G) (K : (Nat → Nat) × (Nat → Nat)) (c : Nat → ClassId) (ah : Nat → Nat) (ag : Nat → Nat → Nat) (ar : Nat → Nat) (ps : PS) (s7 : HS) (p0 : Int32) (p1 : Int32) (hm : t_X7_laid s7 p0 p1 = some ("java/lang/IndexOutOfBoundsException")) (out : Nat) (f : Nat → Int64) : zLi l yL_laid wsL_laid rmLt_laid G K (TY c) [.ref (ah 0), .int p0, .int p1, .ref out] (wQ c out f ++ (wH c ah ag ar ps s7)) (fun _ => wQ c out f ++ (wH c ah ag ar ps s7)) 1 1 6 := by
  refine zLi.of (cc := cL_laid) (maxL := 5) (hh := [(0, 10, 13, 22), (0, 10, 17, 27)]) (lv := [(0, .ref (ah 0)), (1, .int p0), (2, .int p1), (3, .ref out)]) (by decide) rfl (Nat.le_of_ble_eq_true rfl) rfl ?_
  intro p e s m args below meth c1 A Q H locs hx hb hml htab hown hts hK hN hZ hXA hXW hNC hP hD hA hS hend ls hl
  have hown : s.vm.findClass RL = some m.cls := hown
  refine lv_aload_n hx hb dL_laid_0 rfl (lv_at hl 3 rfl) ?_
  refine lv_iconst (v := 0) hx hb dL_laid_1 (by decide) ?_
  refine lv_aload_n hx hb dL_laid_2 rfl (lv_at hl 0 rfl) ?_
  refine lv_iload_n hx hb dL_laid_3 rfl (lv_at hl 1 rfl) ?_
  refine lv_iload_n hx hb dL_laid_4 rfl (lv_at hl 2 rfl) ?_
  refine zcXFVi (w1 := (wH c ah ag ar ps s7)) (wr := wQ c out f) (wc := (wH c ah ag ar ps s7)) (As := [.int p0, .int p1]) (rest := [.int 0, .ref out]) ⟨hx, hb, hml, hown, hts⟩ (tk_X7_laid l hl0 G K c ah ag ar ps s7 p0 p1 "java/lang/IndexOutOfBoundsException" hm) (cwV 2 hts gL_laid_X7_laid rfl rfl rfl (by decide +kernel) ⟨Nat.le_of_ble_eq_true rfl, Nat.le_of_ble_eq_true rfl⟩) hK hN hZ hXW hP hD hS hA (va_recv hK hP (ci := 7) (q0 := 1) rfl rfl) rfl hl.1 rfl (Nat.le_of_ble_eq_true rfl) dL_laid_5 ⟨Nat.le_of_ble_eq_true rfl, Nat.le_of_ble_eq_true rfl⟩ (fun H locs q ce hP hD hS hq hce hcl => ?_)
  refine vx_catch (own := RL) (name := "java/lang/IndexOutOfBoundsException") (E := "java/lang/IndexOutOfBoundsException") hown [] ⟨0, 10, 13, 22⟩ [⟨0, 10, 17, 27⟩] (htab.trans rfl) (fun z hz => absurd hz List.not_mem_nil) (by decide) (by decide) (hts (.classLink RL 22 "java/lang/IndexOutOfBoundsException") (List.mem_of_getElem? (i := 1) rfl)) (hXW.b (E := "java/lang/IndexOutOfBoundsException") (List.mem_of_getElem? (i := 1) rfl) (.castable "java/lang/IndexOutOfBoundsException" "java/lang/IndexOutOfBoundsException") List.mem_cons_self) hq hce hcl ?_
  refine lv_astore (lv' := [(4, .ref q), (0, .ref (ah 0)), (1, .int p0), (2, .int p1), (3, .ref out)]) hx hb dL_laid_13 hl (by decide) rfl (fun ls hl => ?_)
  refine lv_iconst (v := 1) hx hb dL_laid_15 (by decide) ?_
  exact hend H locs ls _ (fun _ => 0) hP hD hS dL_laid_16
theorem wt_laid_2 (l : Launch) (hl0 : l.stackTraces = false) (G : va_G) (K : (Nat → Nat) × (Nat → Nat)) (c : Nat → ClassId) (ah : Nat → Nat) (ag : Nat → Nat → Nat) (ar : Nat → Nat) (ps : PS) (s7 : HS) (p0 : Int32) (p1 : Int32) (hm : t_X7_laid s7 p0 p1 = some ("java/util/NoSuchElementException")) (out : Nat) (f : Nat → Int64) : zLi l yL_laid wsL_laid rmLt_laid G K (TY c) [.ref (ah 0), .int p0, .int p1, .ref out] (wQ c out f ++ (wH c ah ag ar ps s7)) (fun _ => wQ c out f ++ (wH c ah ag ar ps s7)) 2 1 6 := by
  refine zLi.of (cc := cL_laid) (maxL := 5) (hh := [(0, 10, 13, 22), (0, 10, 17, 27)]) (lv := [(0, .ref (ah 0)), (1, .int p0), (2, .int p1), (3, .ref out)]) (by decide) rfl (Nat.le_of_ble_eq_true rfl) rfl ?_
  intro p e s m args below meth c1 A Q H locs hx hb hml htab hown hts hK hN hZ hXA hXW hNC hP hD hA hS hend ls hl
  have hown : s.vm.findClass RL = some m.cls := hown
  refine lv_aload_n hx hb dL_laid_0 rfl (lv_at hl 3 rfl) ?_
  refine lv_iconst (v := 0) hx hb dL_laid_1 (by decide) ?_
  refine lv_aload_n hx hb dL_laid_2 rfl (lv_at hl 0 rfl) ?_
  refine lv_iload_n hx hb dL_laid_3 rfl (lv_at hl 1 rfl) ?_
  refine lv_iload_n hx hb dL_laid_4 rfl (lv_at hl 2 rfl) ?_
  refine zcXFVi (w1 := (wH c ah ag ar ps s7)) (wr := wQ c out f) (wc := (wH c ah ag ar ps s7)) (As := [.int p0, .int p1]) (rest := [.int 0, .ref out]) ⟨hx, hb, hml, hown, hts⟩ (tk_X7_laid l hl0 G K c ah ag ar ps s7 p0 p1 "java/util/NoSuchElementException" hm) (cwV 2 hts gL_laid_X7_laid rfl rfl rfl (by decide +kernel) ⟨Nat.le_of_ble_eq_true rfl, Nat.le_of_ble_eq_true rfl⟩) hK hN hZ hXW hP hD hS hA (va_recv hK hP (ci := 7) (q0 := 1) rfl rfl) rfl hl.1 rfl (Nat.le_of_ble_eq_true rfl) dL_laid_5 ⟨Nat.le_of_ble_eq_true rfl, Nat.le_of_ble_eq_true rfl⟩ (fun H locs q ce hP hD hS hq hce hcl => ?_)
  refine vx_catch (own := RL) (name := "java/util/NoSuchElementException") (E := "java/util/NoSuchElementException") hown [⟨0, 10, 13, 22⟩] ⟨0, 10, 17, 27⟩ [] (htab.trans rfl) (fun z hz => by cases List.mem_singleton.mp hz; exact Or.inr ⟨by decide, "java/lang/IndexOutOfBoundsException", hts (.classLink RL 22 "java/lang/IndexOutOfBoundsException") (List.mem_of_getElem? (i := 1) rfl), hNC ("java/util/NoSuchElementException", "java/lang/IndexOutOfBoundsException") (List.mem_of_getElem? (i := 1) rfl)⟩) (by decide) (by decide) (hts (.classLink RL 27 "java/util/NoSuchElementException") (List.mem_of_getElem? (i := 2) rfl)) (hXW.b (E := "java/util/NoSuchElementException") (List.mem_of_getElem? (i := 2) rfl) (.castable "java/util/NoSuchElementException" "java/util/NoSuchElementException") List.mem_cons_self) hq hce hcl ?_
  refine lv_astore (lv' := [(4, .ref q), (0, .ref (ah 0)), (1, .int p0), (2, .int p1), (3, .ref out)]) hx hb dL_laid_17 hl (by decide) rfl (fun ls hl => ?_)
  refine lv_iconst (v := 2) hx hb dL_laid_19 (by decide) ?_
  exact hend H locs ls _ (fun _ => 0) hP hD hS dL_laid_20
abbrev rmLt_why : Room := { frames := 8, cells := 1, slots := 6, locals := 124 }
theorem wt_why_1 (l : Launch) (hl0 : l.stackTraces = false) (G : va_G) (K : (Nat → Nat) × (Nat → Nat)) (c : Nat → ClassId) (ah : Nat → Nat) (ag : Nat → Nat → Nat) (ar : Nat → Nat) (ps : PS) (s7 : HS) (p0 : Int32) (p1 : Int32) (hm : t_X7_why s7 p0 p1 = some ("java/lang/IndexOutOfBoundsException")) (out : Nat) (f : Nat → Int64) : zLi l yL_why wsL_why rmLt_why G K (TY c) [.ref (ah 0), .int p0, .int p1, .ref out] (wQ c out f ++ (wH c ah ag ar ps s7)) (fun _ => wQ c out f ++ (wH c ah ag ar ps s7)) 1 1 6 := by
  refine zLi.of (cc := cL_why) (maxL := 5) (hh := [(0, 10, 13, 22), (0, 10, 17, 13)]) (lv := [(0, .ref (ah 0)), (1, .int p0), (2, .int p1), (3, .ref out)]) (by decide) rfl (Nat.le_of_ble_eq_true rfl) rfl ?_
  intro p e s m args below meth c1 A Q H locs hx hb hml htab hown hts hK hN hZ hXA hXW hNC hP hD hA hS hend ls hl
  have hown : s.vm.findClass RL = some m.cls := hown
  refine lv_aload_n hx hb dL_why_0 rfl (lv_at hl 3 rfl) ?_
  refine lv_iconst (v := 0) hx hb dL_why_1 (by decide) ?_
  refine lv_aload_n hx hb dL_why_2 rfl (lv_at hl 0 rfl) ?_
  refine lv_iload_n hx hb dL_why_3 rfl (lv_at hl 1 rfl) ?_
  refine lv_iload_n hx hb dL_why_4 rfl (lv_at hl 2 rfl) ?_
  refine zcXFVi (w1 := (wH c ah ag ar ps s7)) (wr := wQ c out f) (wc := (wH c ah ag ar ps s7)) (As := [.int p0, .int p1]) (rest := [.int 0, .ref out]) ⟨hx, hb, hml, hown, hts⟩ (tk_X7_why l hl0 G K c ah ag ar ps s7 p0 p1 "java/lang/IndexOutOfBoundsException" hm) (cwV 2 hts gL_why_X7_why rfl rfl rfl (by decide +kernel) ⟨Nat.le_of_ble_eq_true rfl, Nat.le_of_ble_eq_true rfl⟩) hK hN hZ hXW hP hD hS hA (va_recv hK hP (ci := 7) (q0 := 1) rfl rfl) rfl hl.1 rfl (Nat.le_of_ble_eq_true rfl) dL_why_5 ⟨Nat.le_of_ble_eq_true rfl, Nat.le_of_ble_eq_true rfl⟩ (fun H locs q ce hP hD hS hq hce hcl => ?_)
  refine vx_catch (own := RL) (name := "java/lang/IndexOutOfBoundsException") (E := "java/lang/IndexOutOfBoundsException") hown [] ⟨0, 10, 13, 22⟩ [⟨0, 10, 17, 13⟩] (htab.trans rfl) (fun z hz => absurd hz List.not_mem_nil) (by decide) (by decide) (hts (.classLink RL 22 "java/lang/IndexOutOfBoundsException") (List.mem_of_getElem? (i := 1) rfl)) (hXW.b (E := "java/lang/IndexOutOfBoundsException") (List.mem_of_getElem? (i := 1) rfl) (.castable "java/lang/IndexOutOfBoundsException" "java/lang/IndexOutOfBoundsException") List.mem_cons_self) hq hce hcl ?_
  refine lv_astore (lv' := [(4, .ref q), (0, .ref (ah 0)), (1, .int p0), (2, .int p1), (3, .ref out)]) hx hb dL_why_13 hl (by decide) rfl (fun ls hl => ?_)
  refine lv_iconst (v := 1) hx hb dL_why_15 (by decide) ?_
  exact hend H locs ls _ (fun _ => 0) hP hD hS dL_why_16
theorem wt_why_2 (l : Launch) (hl0 : l.stackTraces = false) (G : va_G) (K : (Nat → Nat) × (Nat → Nat)) (c : Nat → ClassId) (ah : Nat → Nat) (ag : Nat → Nat → Nat) (ar : Nat → Nat) (ps : PS) (s7 : HS) (p0 : Int32) (p1 : Int32) (hm : t_X7_why s7 p0 p1 = some ("java/lang/IllegalArgumentException")) (out : Nat) (f : Nat → Int64) : zLi l yL_why wsL_why rmLt_why G K (TY c) [.ref (ah 0), .int p0, .int p1, .ref out] (wQ c out f ++ (wH c ah ag ar ps s7)) (fun _ => wQ c out f ++ (wH c ah ag ar ps s7)) 2 1 6 := by
  refine zLi.of (cc := cL_why) (maxL := 5) (hh := [(0, 10, 13, 22), (0, 10, 17, 13)]) (lv := [(0, .ref (ah 0)), (1, .int p0), (2, .int p1), (3, .ref out)]) (by decide) rfl (Nat.le_of_ble_eq_true rfl) rfl ?_
  intro p e s m args below meth c1 A Q H locs hx hb hml htab hown hts hK hN hZ hXA hXW hNC hP hD hA hS hend ls hl
  have hown : s.vm.findClass RL = some m.cls := hown
  refine lv_aload_n hx hb dL_why_0 rfl (lv_at hl 3 rfl) ?_
  refine lv_iconst (v := 0) hx hb dL_why_1 (by decide) ?_
  refine lv_aload_n hx hb dL_why_2 rfl (lv_at hl 0 rfl) ?_
  refine lv_iload_n hx hb dL_why_3 rfl (lv_at hl 1 rfl) ?_
  refine lv_iload_n hx hb dL_why_4 rfl (lv_at hl 2 rfl) ?_
  refine zcXFVi (w1 := (wH c ah ag ar ps s7)) (wr := wQ c out f) (wc := (wH c ah ag ar ps s7)) (As := [.int p0, .int p1]) (rest := [.int 0, .ref out]) ⟨hx, hb, hml, hown, hts⟩ (tk_X7_why l hl0 G K c ah ag ar ps s7 p0 p1 "java/lang/IllegalArgumentException" hm) (cwV 2 hts gL_why_X7_why rfl rfl rfl (by decide +kernel) ⟨Nat.le_of_ble_eq_true rfl, Nat.le_of_ble_eq_true rfl⟩) hK hN hZ hXW hP hD hS hA (va_recv hK hP (ci := 7) (q0 := 1) rfl rfl) rfl hl.1 rfl (Nat.le_of_ble_eq_true rfl) dL_why_5 ⟨Nat.le_of_ble_eq_true rfl, Nat.le_of_ble_eq_true rfl⟩ (fun H locs q ce hP hD hS hq hce hcl => ?_)
  refine vx_catch (own := RL) (name := "java/lang/IllegalArgumentException") (E := "java/lang/IllegalArgumentException") hown [⟨0, 10, 13, 22⟩] ⟨0, 10, 17, 13⟩ [] (htab.trans rfl) (fun z hz => by cases List.mem_singleton.mp hz; exact Or.inr ⟨by decide, "java/lang/IndexOutOfBoundsException", hts (.classLink RL 22 "java/lang/IndexOutOfBoundsException") (List.mem_of_getElem? (i := 1) rfl), hNC ("java/lang/IllegalArgumentException", "java/lang/IndexOutOfBoundsException") (List.mem_of_getElem? (i := 0) rfl)⟩) (by decide) (by decide) (hts (.classLink RL 13 "java/lang/IllegalArgumentException") (List.mem_of_getElem? (i := 2) rfl)) (hXW.b (E := "java/lang/IllegalArgumentException") (List.mem_of_getElem? (i := 0) rfl) (.castable "java/lang/IllegalArgumentException" "java/lang/IllegalArgumentException") List.mem_cons_self) hq hce hcl ?_
  refine lv_astore (lv' := [(4, .ref q), (0, .ref (ah 0)), (1, .int p0), (2, .int p1), (3, .ref out)]) hx hb dL_why_17 hl (by decide) rfl (fun ls hl => ?_)
  refine lv_iconst (v := 2) hx hb dL_why_19 (by decide) ?_
  exact hend H locs ls _ (fun _ => 0) hP hD hS dL_why_20
abbrev rmLt_rank : Room := { frames := 8, cells := 1, slots := 6, locals := 129 }
theorem wt_rank_1 (l : Launch) (hl0 : l.stackTraces = false) (G : va_G) (K : (Nat → Nat) × (Nat → Nat)) (c : Nat → ClassId) (ah : Nat → Nat) (ag : Nat → Nat → Nat) (ar : Nat → Nat) (s7 : HS) (ps : PS) (p0 : Int32) (p1 : Int32) (hm : t_X7_rank s7 ps p0 p1 = some ("java/lang/IndexOutOfBoundsException")) (out : Nat) (f : Nat → Int64) : zLi l yL_rank wsL_rank rmLt_rank G K (TY c) [.ref (ah 0), .int p0, .int p1, .ref out] (wQ c out f ++ (wH c ah ag ar ps s7)) (fun _ => wQ c out f ++ (wH c ah ag ar ps s7)) 1 1 6 := by
  refine zLi.of (cc := cL_rank) (maxL := 5) (hh := [(0, 10, 13, 22), (0, 10, 17, 13), (0, 10, 21, 27)]) (lv := [(0, .ref (ah 0)), (1, .int p0), (2, .int p1), (3, .ref out)]) (by decide) rfl (Nat.le_of_ble_eq_true rfl) rfl ?_
  intro p e s m args below meth c1 A Q H locs hx hb hml htab hown hts hK hN hZ hXA hXW hNC hP hD hA hS hend ls hl
  have hown : s.vm.findClass RL = some m.cls := hown
  refine lv_aload_n hx hb dL_rank_0 rfl (lv_at hl 3 rfl) ?_
  refine lv_iconst (v := 0) hx hb dL_rank_1 (by decide) ?_
  refine lv_aload_n hx hb dL_rank_2 rfl (lv_at hl 0 rfl) ?_
  refine lv_iload_n hx hb dL_rank_3 rfl (lv_at hl 1 rfl) ?_
  refine lv_iload_n hx hb dL_rank_4 rfl (lv_at hl 2 rfl) ?_
  refine zcXFVi (w1 := (wH c ah ag ar ps s7)) (wr := wQ c out f) (wc := (wH c ah ag ar ps s7)) (As := [.int p0, .int p1]) (rest := [.int 0, .ref out]) ⟨hx, hb, hml, hown, hts⟩ (tk_X7_rank l hl0 G K c ah ag ar s7 ps p0 p1 "java/lang/IndexOutOfBoundsException" hm) (cwV 2 hts gL_rank_X7_rank rfl rfl rfl (by decide +kernel) ⟨Nat.le_of_ble_eq_true rfl, Nat.le_of_ble_eq_true rfl⟩) hK hN hZ hXW hP hD hS hA (va_recv hK hP (ci := 7) (q0 := 1) rfl rfl) rfl hl.1 rfl (Nat.le_of_ble_eq_true rfl) dL_rank_5 ⟨Nat.le_of_ble_eq_true rfl, Nat.le_of_ble_eq_true rfl⟩ (fun H locs q ce hP hD hS hq hce hcl => ?_)
  refine vx_catch (own := RL) (name := "java/lang/IndexOutOfBoundsException") (E := "java/lang/IndexOutOfBoundsException") hown [] ⟨0, 10, 13, 22⟩ [⟨0, 10, 17, 13⟩, ⟨0, 10, 21, 27⟩] (htab.trans rfl) (fun z hz => absurd hz List.not_mem_nil) (by decide) (by decide) (hts (.classLink RL 22 "java/lang/IndexOutOfBoundsException") (List.mem_of_getElem? (i := 1) rfl)) (hXW.b (E := "java/lang/IndexOutOfBoundsException") (List.mem_of_getElem? (i := 1) rfl) (.castable "java/lang/IndexOutOfBoundsException" "java/lang/IndexOutOfBoundsException") List.mem_cons_self) hq hce hcl ?_
  refine lv_astore (lv' := [(4, .ref q), (0, .ref (ah 0)), (1, .int p0), (2, .int p1), (3, .ref out)]) hx hb dL_rank_13 hl (by decide) rfl (fun ls hl => ?_)
  refine lv_iconst (v := 1) hx hb dL_rank_15 (by decide) ?_
  exact hend H locs ls _ (fun _ => 0) hP hD hS dL_rank_16
theorem wt_rank_2 (l : Launch) (hl0 : l.stackTraces = false) (G : va_G) (K : (Nat → Nat) × (Nat → Nat)) (c : Nat → ClassId) (ah : Nat → Nat) (ag : Nat → Nat → Nat) (ar : Nat → Nat) (s7 : HS) (ps : PS) (p0 : Int32) (p1 : Int32) (hm : t_X7_rank s7 ps p0 p1 = some ("java/lang/IllegalArgumentException")) (out : Nat) (f : Nat → Int64) : zLi l yL_rank wsL_rank rmLt_rank G K (TY c) [.ref (ah 0), .int p0, .int p1, .ref out] (wQ c out f ++ (wH c ah ag ar ps s7)) (fun _ => wQ c out f ++ (wH c ah ag ar ps s7)) 2 1 6 := by
  refine zLi.of (cc := cL_rank) (maxL := 5) (hh := [(0, 10, 13, 22), (0, 10, 17, 13), (0, 10, 21, 27)]) (lv := [(0, .ref (ah 0)), (1, .int p0), (2, .int p1), (3, .ref out)]) (by decide) rfl (Nat.le_of_ble_eq_true rfl) rfl ?_
  intro p e s m args below meth c1 A Q H locs hx hb hml htab hown hts hK hN hZ hXA hXW hNC hP hD hA hS hend ls hl
  have hown : s.vm.findClass RL = some m.cls := hown
  refine lv_aload_n hx hb dL_rank_0 rfl (lv_at hl 3 rfl) ?_
  refine lv_iconst (v := 0) hx hb dL_rank_1 (by decide) ?_
  refine lv_aload_n hx hb dL_rank_2 rfl (lv_at hl 0 rfl) ?_
  refine lv_iload_n hx hb dL_rank_3 rfl (lv_at hl 1 rfl) ?_
  refine lv_iload_n hx hb dL_rank_4 rfl (lv_at hl 2 rfl) ?_
  refine zcXFVi (w1 := (wH c ah ag ar ps s7)) (wr := wQ c out f) (wc := (wH c ah ag ar ps s7)) (As := [.int p0, .int p1]) (rest := [.int 0, .ref out]) ⟨hx, hb, hml, hown, hts⟩ (tk_X7_rank l hl0 G K c ah ag ar s7 ps p0 p1 "java/lang/IllegalArgumentException" hm) (cwV 2 hts gL_rank_X7_rank rfl rfl rfl (by decide +kernel) ⟨Nat.le_of_ble_eq_true rfl, Nat.le_of_ble_eq_true rfl⟩) hK hN hZ hXW hP hD hS hA (va_recv hK hP (ci := 7) (q0 := 1) rfl rfl) rfl hl.1 rfl (Nat.le_of_ble_eq_true rfl) dL_rank_5 ⟨Nat.le_of_ble_eq_true rfl, Nat.le_of_ble_eq_true rfl⟩ (fun H locs q ce hP hD hS hq hce hcl => ?_)
  refine vx_catch (own := RL) (name := "java/lang/IllegalArgumentException") (E := "java/lang/IllegalArgumentException") hown [⟨0, 10, 13, 22⟩] ⟨0, 10, 17, 13⟩ [⟨0, 10, 21, 27⟩] (htab.trans rfl) (fun z hz => by cases List.mem_singleton.mp hz; exact Or.inr ⟨by decide, "java/lang/IndexOutOfBoundsException", hts (.classLink RL 22 "java/lang/IndexOutOfBoundsException") (List.mem_of_getElem? (i := 1) rfl), hNC ("java/lang/IllegalArgumentException", "java/lang/IndexOutOfBoundsException") (List.mem_of_getElem? (i := 0) rfl)⟩) (by decide) (by decide) (hts (.classLink RL 13 "java/lang/IllegalArgumentException") (List.mem_of_getElem? (i := 2) rfl)) (hXW.b (E := "java/lang/IllegalArgumentException") (List.mem_of_getElem? (i := 0) rfl) (.castable "java/lang/IllegalArgumentException" "java/lang/IllegalArgumentException") List.mem_cons_self) hq hce hcl ?_
  refine lv_astore (lv' := [(4, .ref q), (0, .ref (ah 0)), (1, .int p0), (2, .int p1), (3, .ref out)]) hx hb dL_rank_17 hl (by decide) rfl (fun ls hl => ?_)
  refine lv_iconst (v := 2) hx hb dL_rank_19 (by decide) ?_
  exact hend H locs ls _ (fun _ => 0) hP hD hS dL_rank_20
theorem wt_rank_3 (l : Launch) (hl0 : l.stackTraces = false) (G : va_G) (K : (Nat → Nat) × (Nat → Nat)) (c : Nat → ClassId) (ah : Nat → Nat) (ag : Nat → Nat → Nat) (ar : Nat → Nat) (s7 : HS) (ps : PS) (p0 : Int32) (p1 : Int32) (hm : t_X7_rank s7 ps p0 p1 = some ("java/util/NoSuchElementException")) (out : Nat) (f : Nat → Int64) : zLi l yL_rank wsL_rank rmLt_rank G K (TY c) [.ref (ah 0), .int p0, .int p1, .ref out] (wQ c out f ++ (wH c ah ag ar ps s7)) (fun _ => wQ c out f ++ (wH c ah ag ar ps s7)) 3 1 6 := by
  refine zLi.of (cc := cL_rank) (maxL := 5) (hh := [(0, 10, 13, 22), (0, 10, 17, 13), (0, 10, 21, 27)]) (lv := [(0, .ref (ah 0)), (1, .int p0), (2, .int p1), (3, .ref out)]) (by decide) rfl (Nat.le_of_ble_eq_true rfl) rfl ?_
  intro p e s m args below meth c1 A Q H locs hx hb hml htab hown hts hK hN hZ hXA hXW hNC hP hD hA hS hend ls hl
  have hown : s.vm.findClass RL = some m.cls := hown
  refine lv_aload_n hx hb dL_rank_0 rfl (lv_at hl 3 rfl) ?_
  refine lv_iconst (v := 0) hx hb dL_rank_1 (by decide) ?_
  refine lv_aload_n hx hb dL_rank_2 rfl (lv_at hl 0 rfl) ?_
  refine lv_iload_n hx hb dL_rank_3 rfl (lv_at hl 1 rfl) ?_
  refine lv_iload_n hx hb dL_rank_4 rfl (lv_at hl 2 rfl) ?_
  refine zcXFVi (w1 := (wH c ah ag ar ps s7)) (wr := wQ c out f) (wc := (wH c ah ag ar ps s7)) (As := [.int p0, .int p1]) (rest := [.int 0, .ref out]) ⟨hx, hb, hml, hown, hts⟩ (tk_X7_rank l hl0 G K c ah ag ar s7 ps p0 p1 "java/util/NoSuchElementException" hm) (cwV 2 hts gL_rank_X7_rank rfl rfl rfl (by decide +kernel) ⟨Nat.le_of_ble_eq_true rfl, Nat.le_of_ble_eq_true rfl⟩) hK hN hZ hXW hP hD hS hA (va_recv hK hP (ci := 7) (q0 := 1) rfl rfl) rfl hl.1 rfl (Nat.le_of_ble_eq_true rfl) dL_rank_5 ⟨Nat.le_of_ble_eq_true rfl, Nat.le_of_ble_eq_true rfl⟩ (fun H locs q ce hP hD hS hq hce hcl => ?_)
  refine vx_catch (own := RL) (name := "java/util/NoSuchElementException") (E := "java/util/NoSuchElementException") hown [⟨0, 10, 13, 22⟩, ⟨0, 10, 17, 13⟩] ⟨0, 10, 21, 27⟩ [] (htab.trans rfl) (fun z hz => by rcases List.mem_cons.mp hz with rfl | hz; exact Or.inr ⟨by decide, "java/lang/IndexOutOfBoundsException", hts (.classLink RL 22 "java/lang/IndexOutOfBoundsException") (List.mem_of_getElem? (i := 1) rfl), hNC ("java/util/NoSuchElementException", "java/lang/IndexOutOfBoundsException") (List.mem_of_getElem? (i := 1) rfl)⟩; cases List.mem_singleton.mp hz; exact Or.inr ⟨by decide, "java/lang/IllegalArgumentException", hts (.classLink RL 13 "java/lang/IllegalArgumentException") (List.mem_of_getElem? (i := 2) rfl), hNC ("java/util/NoSuchElementException", "java/lang/IllegalArgumentException") (List.mem_of_getElem? (i := 2) rfl)⟩) (by decide) (by decide) (hts (.classLink RL 27 "java/util/NoSuchElementException") (List.mem_of_getElem? (i := 3) rfl)) (hXW.b (E := "java/util/NoSuchElementException") (List.mem_of_getElem? (i := 2) rfl) (.castable "java/util/NoSuchElementException" "java/util/NoSuchElementException") List.mem_cons_self) hq hce hcl ?_
  refine lv_astore (lv' := [(4, .ref q), (0, .ref (ah 0)), (1, .int p0), (2, .int p1), (3, .ref out)]) hx hb dL_rank_21 hl (by decide) rfl (fun ls hl => ?_)
  refine lv_iconst (v := 3) hx hb dL_rank_23 (by decide) ?_
  exact hend H locs ls _ (fun _ => 0) hP hD hS dL_rank_24
abbrev rmLt_longest : Room := { frames := 8, cells := 1, slots := 6, locals := 123 }
theorem wt_longest_1 (l : Launch) (hl0 : l.stackTraces = false) (G : va_G) (K : (Nat → Nat) × (Nat → Nat)) (c : Nat → ClassId) (ah : Nat → Nat) (ag : Nat → Nat → Nat) (ar : Nat → Nat) (ps : PS) (s7 : HS) (p0 : Int32) (hm : t_X7_longest s7 p0 = some ("java/lang/IndexOutOfBoundsException")) (out : Nat) (f : Nat → Int64) : zLi l yL_longest wsL_longest rmLt_longest G K (TY c) [.ref (ah 0), .int p0, .ref out] (wQ c out f ++ (wH c ah ag ar ps s7)) (fun _ => wQ c out f ++ (wH c ah ag ar ps s7)) 1 1 6 := by
  refine zLi.of (cc := cL_longest) (maxL := 4) (hh := [(0, 9, 12, 22)]) (lv := [(0, .ref (ah 0)), (1, .int p0), (2, .ref out)]) (by decide) rfl (Nat.le_of_ble_eq_true rfl) rfl ?_
  intro p e s m args below meth c1 A Q H locs hx hb hml htab hown hts hK hN hZ hXA hXW hNC hP hD hA hS hend ls hl
  have hown : s.vm.findClass RL = some m.cls := hown
  refine lv_aload_n hx hb dL_longest_0 rfl (lv_at hl 2 rfl) ?_
  refine lv_iconst (v := 0) hx hb dL_longest_1 (by decide) ?_
  refine lv_aload_n hx hb dL_longest_2 rfl (lv_at hl 0 rfl) ?_
  refine lv_iload_n hx hb dL_longest_3 rfl (lv_at hl 1 rfl) ?_
  refine zcXFVi (w1 := (wH c ah ag ar ps s7)) (wr := wQ c out f) (wc := (wH c ah ag ar ps s7)) (As := [.int p0]) (rest := [.int 0, .ref out]) ⟨hx, hb, hml, hown, hts⟩ (tk_X7_longest l hl0 G K c ah ag ar ps s7 p0 "java/lang/IndexOutOfBoundsException" hm) (cwV 1 hts gL_longest_X7_longest rfl rfl rfl (by decide +kernel) ⟨Nat.le_of_ble_eq_true rfl, Nat.le_of_ble_eq_true rfl⟩) hK hN hZ hXW hP hD hS hA (va_recv hK hP (ci := 7) (q0 := 1) rfl rfl) rfl hl.1 rfl (Nat.le_of_ble_eq_true rfl) dL_longest_4 ⟨Nat.le_of_ble_eq_true rfl, Nat.le_of_ble_eq_true rfl⟩ (fun H locs q ce hP hD hS hq hce hcl => ?_)
  refine vx_catch (own := RL) (name := "java/lang/IndexOutOfBoundsException") (E := "java/lang/IndexOutOfBoundsException") hown [] ⟨0, 9, 12, 22⟩ [] (htab.trans rfl) (fun z hz => absurd hz List.not_mem_nil) (by decide) (by decide) (hts (.classLink RL 22 "java/lang/IndexOutOfBoundsException") (List.mem_of_getElem? (i := 1) rfl)) (hXW.b (E := "java/lang/IndexOutOfBoundsException") (List.mem_of_getElem? (i := 1) rfl) (.castable "java/lang/IndexOutOfBoundsException" "java/lang/IndexOutOfBoundsException") List.mem_cons_self) hq hce hcl ?_
  refine lv_astore_n (lv' := [(3, .ref q), (0, .ref (ah 0)), (1, .int p0), (2, .ref out)]) hx hb dL_longest_12 rfl hl (by decide) rfl (fun ls hl => ?_)
  refine lv_iconst (v := 1) hx hb dL_longest_13 (by decide) ?_
  exact hend H locs ls _ (fun _ => 0) hP hD hS dL_longest_14
abbrev rmLt_longestTile : Room := { frames := 8, cells := 1, slots := 6, locals := 139 }
theorem wt_longestTile_1 (l : Launch) (hl0 : l.stackTraces = false) (G : va_G) (K : (Nat → Nat) × (Nat → Nat)) (c : Nat → ClassId) (ah : Nat → Nat) (ag : Nat → Nat → Nat) (ar : Nat → Nat) (ps : PS) (s7 : HS) (p0 : Int32) (p1 : Int32) (s7_r : HS) (hm : t_X7_longestTile s7 p0 p1 = some ("java/lang/IndexOutOfBoundsException", s7_r)) (out : Nat) (f : Nat → Int64) : zLi l yL_longestTile wsL_longestTile rmLt_longestTile G K (TY c) [.ref (ah 0), .int p0, .int p1, .ref out] (wQ c out f ++ (wH c ah ag ar ps s7)) (fun _ => wQ c out f ++ (wH c ah ag ar ps s7_r)) 1 1 6 := by
  refine zLi.of (cc := cL_longestTile) (maxL := 5) (hh := [(0, 10, 13, 22), (0, 10, 17, 27)]) (lv := [(0, .ref (ah 0)), (1, .int p0), (2, .int p1), (3, .ref out)]) (by decide) rfl (Nat.le_of_ble_eq_true rfl) rfl ?_
  intro p e s m args below meth c1 A Q H locs hx hb hml htab hown hts hK hN hZ hXA hXW hNC hP hD hA hS hend ls hl
  have hown : s.vm.findClass RL = some m.cls := hown
  refine lv_aload_n hx hb dL_longestTile_0 rfl (lv_at hl 3 rfl) ?_
  refine lv_iconst (v := 0) hx hb dL_longestTile_1 (by decide) ?_
  refine lv_aload_n hx hb dL_longestTile_2 rfl (lv_at hl 0 rfl) ?_
  refine lv_iload_n hx hb dL_longestTile_3 rfl (lv_at hl 1 rfl) ?_
  refine lv_iload_n hx hb dL_longestTile_4 rfl (lv_at hl 2 rfl) ?_
  refine zcXFVi (w1 := (wH c ah ag ar ps s7_r)) (wr := wQ c out f) (wc := (wH c ah ag ar ps s7)) (As := [.int p0, .int p1]) (rest := [.int 0, .ref out]) ⟨hx, hb, hml, hown, hts⟩ (tk_X7_longestTile l hl0 G K c ah ag ar ps s7 p0 p1 "java/lang/IndexOutOfBoundsException" s7_r hm) (cwV 2 hts gL_longestTile_X7_longestTile rfl rfl rfl (by decide +kernel) ⟨Nat.le_of_ble_eq_true rfl, Nat.le_of_ble_eq_true rfl⟩) hK hN hZ hXW hP hD hS hA (va_recv hK hP (ci := 7) (q0 := 1) rfl rfl) rfl hl.1 rfl (Nat.le_of_ble_eq_true rfl) dL_longestTile_5 ⟨Nat.le_of_ble_eq_true rfl, Nat.le_of_ble_eq_true rfl⟩ (fun H locs q ce hP hD hS hq hce hcl => ?_)
  refine vx_catch (own := RL) (name := "java/lang/IndexOutOfBoundsException") (E := "java/lang/IndexOutOfBoundsException") hown [] ⟨0, 10, 13, 22⟩ [⟨0, 10, 17, 27⟩] (htab.trans rfl) (fun z hz => absurd hz List.not_mem_nil) (by decide) (by decide) (hts (.classLink RL 22 "java/lang/IndexOutOfBoundsException") (List.mem_of_getElem? (i := 1) rfl)) (hXW.b (E := "java/lang/IndexOutOfBoundsException") (List.mem_of_getElem? (i := 1) rfl) (.castable "java/lang/IndexOutOfBoundsException" "java/lang/IndexOutOfBoundsException") List.mem_cons_self) hq hce hcl ?_
  refine lv_astore (lv' := [(4, .ref q), (0, .ref (ah 0)), (1, .int p0), (2, .int p1), (3, .ref out)]) hx hb dL_longestTile_13 hl (by decide) rfl (fun ls hl => ?_)
  refine lv_iconst (v := 1) hx hb dL_longestTile_15 (by decide) ?_
  exact hend H locs ls _ (fun _ => 0) hP hD hS dL_longestTile_16
theorem wt_longestTile_2 (l : Launch) (hl0 : l.stackTraces = false) (G : va_G) (K : (Nat → Nat) × (Nat → Nat)) (c : Nat → ClassId) (ah : Nat → Nat) (ag : Nat → Nat → Nat) (ar : Nat → Nat) (ps : PS) (s7 : HS) (p0 : Int32) (p1 : Int32) (s7_r : HS) (hm : t_X7_longestTile s7 p0 p1 = some ("java/util/NoSuchElementException", s7_r)) (out : Nat) (f : Nat → Int64) : zLi l yL_longestTile wsL_longestTile rmLt_longestTile G K (TY c) [.ref (ah 0), .int p0, .int p1, .ref out] (wQ c out f ++ (wH c ah ag ar ps s7)) (fun _ => wQ c out f ++ (wH c ah ag ar ps s7_r)) 2 1 6 := by
  refine zLi.of (cc := cL_longestTile) (maxL := 5) (hh := [(0, 10, 13, 22), (0, 10, 17, 27)]) (lv := [(0, .ref (ah 0)), (1, .int p0), (2, .int p1), (3, .ref out)]) (by decide) rfl (Nat.le_of_ble_eq_true rfl) rfl ?_
  intro p e s m args below meth c1 A Q H locs hx hb hml htab hown hts hK hN hZ hXA hXW hNC hP hD hA hS hend ls hl
  have hown : s.vm.findClass RL = some m.cls := hown
  refine lv_aload_n hx hb dL_longestTile_0 rfl (lv_at hl 3 rfl) ?_
  refine lv_iconst (v := 0) hx hb dL_longestTile_1 (by decide) ?_
  refine lv_aload_n hx hb dL_longestTile_2 rfl (lv_at hl 0 rfl) ?_
  refine lv_iload_n hx hb dL_longestTile_3 rfl (lv_at hl 1 rfl) ?_
  refine lv_iload_n hx hb dL_longestTile_4 rfl (lv_at hl 2 rfl) ?_
  refine zcXFVi (w1 := (wH c ah ag ar ps s7_r)) (wr := wQ c out f) (wc := (wH c ah ag ar ps s7)) (As := [.int p0, .int p1]) (rest := [.int 0, .ref out]) ⟨hx, hb, hml, hown, hts⟩ (tk_X7_longestTile l hl0 G K c ah ag ar ps s7 p0 p1 "java/util/NoSuchElementException" s7_r hm) (cwV 2 hts gL_longestTile_X7_longestTile rfl rfl rfl (by decide +kernel) ⟨Nat.le_of_ble_eq_true rfl, Nat.le_of_ble_eq_true rfl⟩) hK hN hZ hXW hP hD hS hA (va_recv hK hP (ci := 7) (q0 := 1) rfl rfl) rfl hl.1 rfl (Nat.le_of_ble_eq_true rfl) dL_longestTile_5 ⟨Nat.le_of_ble_eq_true rfl, Nat.le_of_ble_eq_true rfl⟩ (fun H locs q ce hP hD hS hq hce hcl => ?_)
  refine vx_catch (own := RL) (name := "java/util/NoSuchElementException") (E := "java/util/NoSuchElementException") hown [⟨0, 10, 13, 22⟩] ⟨0, 10, 17, 27⟩ [] (htab.trans rfl) (fun z hz => by cases List.mem_singleton.mp hz; exact Or.inr ⟨by decide, "java/lang/IndexOutOfBoundsException", hts (.classLink RL 22 "java/lang/IndexOutOfBoundsException") (List.mem_of_getElem? (i := 1) rfl), hNC ("java/util/NoSuchElementException", "java/lang/IndexOutOfBoundsException") (List.mem_of_getElem? (i := 1) rfl)⟩) (by decide) (by decide) (hts (.classLink RL 27 "java/util/NoSuchElementException") (List.mem_of_getElem? (i := 2) rfl)) (hXW.b (E := "java/util/NoSuchElementException") (List.mem_of_getElem? (i := 2) rfl) (.castable "java/util/NoSuchElementException" "java/util/NoSuchElementException") List.mem_cons_self) hq hce hcl ?_
  refine lv_astore (lv' := [(4, .ref q), (0, .ref (ah 0)), (1, .int p0), (2, .int p1), (3, .ref out)]) hx hb dL_longestTile_17 hl (by decide) rfl (fun ls hl => ?_)
  refine lv_iconst (v := 2) hx hb dL_longestTile_19 (by decide) ?_
  exact hend H locs ls _ (fun _ => 0) hP hD hS dL_longestTile_20
abbrev rmLt_heaviest : Room := { frames := 8, cells := 1, slots := 6, locals := 123 }
theorem wt_heaviest_1 (l : Launch) (hl0 : l.stackTraces = false) (G : va_G) (K : (Nat → Nat) × (Nat → Nat)) (c : Nat → ClassId) (ah : Nat → Nat) (ag : Nat → Nat → Nat) (ar : Nat → Nat) (ps : PS) (s7 : HS) (p0 : Int32) (hm : t_X7_heaviest s7 p0 = some ("java/lang/IndexOutOfBoundsException")) (out : Nat) (f : Nat → Int64) : zLi l yL_heaviest wsL_heaviest rmLt_heaviest G K (TY c) [.ref (ah 0), .int p0, .ref out] (wQ c out f ++ (wH c ah ag ar ps s7)) (fun _ => wQ c out f ++ (wH c ah ag ar ps s7)) 1 1 6 := by
  refine zLi.of (cc := cL_heaviest) (maxL := 4) (hh := [(0, 9, 12, 22)]) (lv := [(0, .ref (ah 0)), (1, .int p0), (2, .ref out)]) (by decide) rfl (Nat.le_of_ble_eq_true rfl) rfl ?_
  intro p e s m args below meth c1 A Q H locs hx hb hml htab hown hts hK hN hZ hXA hXW hNC hP hD hA hS hend ls hl
  have hown : s.vm.findClass RL = some m.cls := hown
  refine lv_aload_n hx hb dL_heaviest_0 rfl (lv_at hl 2 rfl) ?_
  refine lv_iconst (v := 0) hx hb dL_heaviest_1 (by decide) ?_
  refine lv_aload_n hx hb dL_heaviest_2 rfl (lv_at hl 0 rfl) ?_
  refine lv_iload_n hx hb dL_heaviest_3 rfl (lv_at hl 1 rfl) ?_
  refine zcXFVi (w1 := (wH c ah ag ar ps s7)) (wr := wQ c out f) (wc := (wH c ah ag ar ps s7)) (As := [.int p0]) (rest := [.int 0, .ref out]) ⟨hx, hb, hml, hown, hts⟩ (tk_X7_heaviest l hl0 G K c ah ag ar ps s7 p0 "java/lang/IndexOutOfBoundsException" hm) (cwV 1 hts gL_heaviest_X7_heaviest rfl rfl rfl (by decide +kernel) ⟨Nat.le_of_ble_eq_true rfl, Nat.le_of_ble_eq_true rfl⟩) hK hN hZ hXW hP hD hS hA (va_recv hK hP (ci := 7) (q0 := 1) rfl rfl) rfl hl.1 rfl (Nat.le_of_ble_eq_true rfl) dL_heaviest_4 ⟨Nat.le_of_ble_eq_true rfl, Nat.le_of_ble_eq_true rfl⟩ (fun H locs q ce hP hD hS hq hce hcl => ?_)
  refine vx_catch (own := RL) (name := "java/lang/IndexOutOfBoundsException") (E := "java/lang/IndexOutOfBoundsException") hown [] ⟨0, 9, 12, 22⟩ [] (htab.trans rfl) (fun z hz => absurd hz List.not_mem_nil) (by decide) (by decide) (hts (.classLink RL 22 "java/lang/IndexOutOfBoundsException") (List.mem_of_getElem? (i := 1) rfl)) (hXW.b (E := "java/lang/IndexOutOfBoundsException") (List.mem_of_getElem? (i := 1) rfl) (.castable "java/lang/IndexOutOfBoundsException" "java/lang/IndexOutOfBoundsException") List.mem_cons_self) hq hce hcl ?_
  refine lv_astore_n (lv' := [(3, .ref q), (0, .ref (ah 0)), (1, .int p0), (2, .ref out)]) hx hb dL_heaviest_12 rfl hl (by decide) rfl (fun ls hl => ?_)
  refine lv_iconst (v := 1) hx hb dL_heaviest_13 (by decide) ?_
  exact hend H locs ls _ (fun _ => 0) hP hD hS dL_heaviest_14
abbrev rmLt_play : Room := { frames := 8, cells := 1, slots := 6, locals := 129 }
theorem wt_play_1 (l : Launch) (hl0 : l.stackTraces = false) (G : va_G) (K : (Nat → Nat) × (Nat → Nat)) (c : Nat → ClassId) (ah : Nat → Nat) (ag : Nat → Nat → Nat) (ar : Nat → Nat) (ps : PS) (s7 : HS) (p0 : Int32) (p1 : Int32) (hm : t_X7_play s7 p0 p1 = some ("java/lang/IndexOutOfBoundsException")) (out : Nat) (f : Nat → Int64) : zLi l yL_play wsL_play rmLt_play G K (TY c) [.ref (ah 0), .int p0, .int p1, .ref out] (wQ c out f ++ (wH c ah ag ar ps s7)) (fun _ => wQ c out f ++ (wH c ah ag ar ps s7)) 1 1 6 := by
  refine zLi.of (cc := cL_play) (maxL := 5) (hh := [(0, 10, 13, 22), (0, 10, 17, 13), (0, 10, 21, 53)]) (lv := [(0, .ref (ah 0)), (1, .int p0), (2, .int p1), (3, .ref out)]) (by decide) rfl (Nat.le_of_ble_eq_true rfl) rfl ?_
  intro p e s m args below meth c1 A Q H locs hx hb hml htab hown hts hK hN hZ hXA hXW hNC hP hD hA hS hend ls hl
  have hown : s.vm.findClass RL = some m.cls := hown
  refine lv_aload_n hx hb dL_play_0 rfl (lv_at hl 3 rfl) ?_
  refine lv_iconst (v := 0) hx hb dL_play_1 (by decide) ?_
  refine lv_aload_n hx hb dL_play_2 rfl (lv_at hl 0 rfl) ?_
  refine lv_iload_n hx hb dL_play_3 rfl (lv_at hl 1 rfl) ?_
  refine lv_iload_n hx hb dL_play_4 rfl (lv_at hl 2 rfl) ?_
  refine zcXFVi (w1 := (wH c ah ag ar ps s7)) (wr := wQ c out f) (wc := (wH c ah ag ar ps s7)) (As := [.int p0, .int p1]) (rest := [.int 0, .ref out]) ⟨hx, hb, hml, hown, hts⟩ (tk_X7_play l hl0 G K c ah ag ar ps s7 p0 p1 "java/lang/IndexOutOfBoundsException" hm) (cwV 2 hts gL_play_X7_play rfl rfl rfl (by decide +kernel) ⟨Nat.le_of_ble_eq_true rfl, Nat.le_of_ble_eq_true rfl⟩) hK hN hZ hXW hP hD hS hA (va_recv hK hP (ci := 7) (q0 := 1) rfl rfl) rfl hl.1 rfl (Nat.le_of_ble_eq_true rfl) dL_play_5 ⟨Nat.le_of_ble_eq_true rfl, Nat.le_of_ble_eq_true rfl⟩ (fun H locs q ce hP hD hS hq hce hcl => ?_)
  refine vx_catch (own := RL) (name := "java/lang/IndexOutOfBoundsException") (E := "java/lang/IndexOutOfBoundsException") hown [] ⟨0, 10, 13, 22⟩ [⟨0, 10, 17, 13⟩, ⟨0, 10, 21, 53⟩] (htab.trans rfl) (fun z hz => absurd hz List.not_mem_nil) (by decide) (by decide) (hts (.classLink RL 22 "java/lang/IndexOutOfBoundsException") (List.mem_of_getElem? (i := 1) rfl)) (hXW.b (E := "java/lang/IndexOutOfBoundsException") (List.mem_of_getElem? (i := 1) rfl) (.castable "java/lang/IndexOutOfBoundsException" "java/lang/IndexOutOfBoundsException") List.mem_cons_self) hq hce hcl ?_
  refine lv_astore (lv' := [(4, .ref q), (0, .ref (ah 0)), (1, .int p0), (2, .int p1), (3, .ref out)]) hx hb dL_play_13 hl (by decide) rfl (fun ls hl => ?_)
  refine lv_iconst (v := 1) hx hb dL_play_15 (by decide) ?_
  exact hend H locs ls _ (fun _ => 0) hP hD hS dL_play_16
theorem wt_play_2 (l : Launch) (hl0 : l.stackTraces = false) (G : va_G) (K : (Nat → Nat) × (Nat → Nat)) (c : Nat → ClassId) (ah : Nat → Nat) (ag : Nat → Nat → Nat) (ar : Nat → Nat) (ps : PS) (s7 : HS) (p0 : Int32) (p1 : Int32) (hm : t_X7_play s7 p0 p1 = some ("java/lang/IllegalArgumentException")) (out : Nat) (f : Nat → Int64) : zLi l yL_play wsL_play rmLt_play G K (TY c) [.ref (ah 0), .int p0, .int p1, .ref out] (wQ c out f ++ (wH c ah ag ar ps s7)) (fun _ => wQ c out f ++ (wH c ah ag ar ps s7)) 2 1 6 := by
  refine zLi.of (cc := cL_play) (maxL := 5) (hh := [(0, 10, 13, 22), (0, 10, 17, 13), (0, 10, 21, 53)]) (lv := [(0, .ref (ah 0)), (1, .int p0), (2, .int p1), (3, .ref out)]) (by decide) rfl (Nat.le_of_ble_eq_true rfl) rfl ?_
  intro p e s m args below meth c1 A Q H locs hx hb hml htab hown hts hK hN hZ hXA hXW hNC hP hD hA hS hend ls hl
  have hown : s.vm.findClass RL = some m.cls := hown
  refine lv_aload_n hx hb dL_play_0 rfl (lv_at hl 3 rfl) ?_
  refine lv_iconst (v := 0) hx hb dL_play_1 (by decide) ?_
  refine lv_aload_n hx hb dL_play_2 rfl (lv_at hl 0 rfl) ?_
  refine lv_iload_n hx hb dL_play_3 rfl (lv_at hl 1 rfl) ?_
  refine lv_iload_n hx hb dL_play_4 rfl (lv_at hl 2 rfl) ?_
  refine zcXFVi (w1 := (wH c ah ag ar ps s7)) (wr := wQ c out f) (wc := (wH c ah ag ar ps s7)) (As := [.int p0, .int p1]) (rest := [.int 0, .ref out]) ⟨hx, hb, hml, hown, hts⟩ (tk_X7_play l hl0 G K c ah ag ar ps s7 p0 p1 "java/lang/IllegalArgumentException" hm) (cwV 2 hts gL_play_X7_play rfl rfl rfl (by decide +kernel) ⟨Nat.le_of_ble_eq_true rfl, Nat.le_of_ble_eq_true rfl⟩) hK hN hZ hXW hP hD hS hA (va_recv hK hP (ci := 7) (q0 := 1) rfl rfl) rfl hl.1 rfl (Nat.le_of_ble_eq_true rfl) dL_play_5 ⟨Nat.le_of_ble_eq_true rfl, Nat.le_of_ble_eq_true rfl⟩ (fun H locs q ce hP hD hS hq hce hcl => ?_)
  refine vx_catch (own := RL) (name := "java/lang/IllegalArgumentException") (E := "java/lang/IllegalArgumentException") hown [⟨0, 10, 13, 22⟩] ⟨0, 10, 17, 13⟩ [⟨0, 10, 21, 53⟩] (htab.trans rfl) (fun z hz => by cases List.mem_singleton.mp hz; exact Or.inr ⟨by decide, "java/lang/IndexOutOfBoundsException", hts (.classLink RL 22 "java/lang/IndexOutOfBoundsException") (List.mem_of_getElem? (i := 1) rfl), hNC ("java/lang/IllegalArgumentException", "java/lang/IndexOutOfBoundsException") (List.mem_of_getElem? (i := 0) rfl)⟩) (by decide) (by decide) (hts (.classLink RL 13 "java/lang/IllegalArgumentException") (List.mem_of_getElem? (i := 2) rfl)) (hXW.b (E := "java/lang/IllegalArgumentException") (List.mem_of_getElem? (i := 0) rfl) (.castable "java/lang/IllegalArgumentException" "java/lang/IllegalArgumentException") List.mem_cons_self) hq hce hcl ?_
  refine lv_astore (lv' := [(4, .ref q), (0, .ref (ah 0)), (1, .int p0), (2, .int p1), (3, .ref out)]) hx hb dL_play_17 hl (by decide) rfl (fun ls hl => ?_)
  refine lv_iconst (v := 2) hx hb dL_play_19 (by decide) ?_
  exact hend H locs ls _ (fun _ => 0) hP hD hS dL_play_20
theorem wt_play_3 (l : Launch) (hl0 : l.stackTraces = false) (G : va_G) (K : (Nat → Nat) × (Nat → Nat)) (c : Nat → ClassId) (ah : Nat → Nat) (ag : Nat → Nat → Nat) (ar : Nat → Nat) (ps : PS) (s7 : HS) (p0 : Int32) (p1 : Int32) (hm : t_X7_play s7 p0 p1 = some ("java/lang/IllegalStateException")) (out : Nat) (f : Nat → Int64) : zLi l yL_play wsL_play rmLt_play G K (TY c) [.ref (ah 0), .int p0, .int p1, .ref out] (wQ c out f ++ (wH c ah ag ar ps s7)) (fun _ => wQ c out f ++ (wH c ah ag ar ps s7)) 3 1 6 := by
  refine zLi.of (cc := cL_play) (maxL := 5) (hh := [(0, 10, 13, 22), (0, 10, 17, 13), (0, 10, 21, 53)]) (lv := [(0, .ref (ah 0)), (1, .int p0), (2, .int p1), (3, .ref out)]) (by decide) rfl (Nat.le_of_ble_eq_true rfl) rfl ?_
  intro p e s m args below meth c1 A Q H locs hx hb hml htab hown hts hK hN hZ hXA hXW hNC hP hD hA hS hend ls hl
  have hown : s.vm.findClass RL = some m.cls := hown
  refine lv_aload_n hx hb dL_play_0 rfl (lv_at hl 3 rfl) ?_
  refine lv_iconst (v := 0) hx hb dL_play_1 (by decide) ?_
  refine lv_aload_n hx hb dL_play_2 rfl (lv_at hl 0 rfl) ?_
  refine lv_iload_n hx hb dL_play_3 rfl (lv_at hl 1 rfl) ?_
  refine lv_iload_n hx hb dL_play_4 rfl (lv_at hl 2 rfl) ?_
  refine zcXFVi (w1 := (wH c ah ag ar ps s7)) (wr := wQ c out f) (wc := (wH c ah ag ar ps s7)) (As := [.int p0, .int p1]) (rest := [.int 0, .ref out]) ⟨hx, hb, hml, hown, hts⟩ (tk_X7_play l hl0 G K c ah ag ar ps s7 p0 p1 "java/lang/IllegalStateException" hm) (cwV 2 hts gL_play_X7_play rfl rfl rfl (by decide +kernel) ⟨Nat.le_of_ble_eq_true rfl, Nat.le_of_ble_eq_true rfl⟩) hK hN hZ hXW hP hD hS hA (va_recv hK hP (ci := 7) (q0 := 1) rfl rfl) rfl hl.1 rfl (Nat.le_of_ble_eq_true rfl) dL_play_5 ⟨Nat.le_of_ble_eq_true rfl, Nat.le_of_ble_eq_true rfl⟩ (fun H locs q ce hP hD hS hq hce hcl => ?_)
  refine vx_catch (own := RL) (name := "java/lang/IllegalStateException") (E := "java/lang/IllegalStateException") hown [⟨0, 10, 13, 22⟩, ⟨0, 10, 17, 13⟩] ⟨0, 10, 21, 53⟩ [] (htab.trans rfl) (fun z hz => by rcases List.mem_cons.mp hz with rfl | hz; exact Or.inr ⟨by decide, "java/lang/IndexOutOfBoundsException", hts (.classLink RL 22 "java/lang/IndexOutOfBoundsException") (List.mem_of_getElem? (i := 1) rfl), hNC ("java/lang/IllegalStateException", "java/lang/IndexOutOfBoundsException") (List.mem_of_getElem? (i := 3) rfl)⟩; cases List.mem_singleton.mp hz; exact Or.inr ⟨by decide, "java/lang/IllegalArgumentException", hts (.classLink RL 13 "java/lang/IllegalArgumentException") (List.mem_of_getElem? (i := 2) rfl), hNC ("java/lang/IllegalStateException", "java/lang/IllegalArgumentException") (List.mem_of_getElem? (i := 4) rfl)⟩) (by decide) (by decide) (hts (.classLink RL 53 "java/lang/IllegalStateException") (List.mem_of_getElem? (i := 3) rfl)) (hXW.b (E := "java/lang/IllegalStateException") (List.mem_of_getElem? (i := 3) rfl) (.castable "java/lang/IllegalStateException" "java/lang/IllegalStateException") List.mem_cons_self) hq hce hcl ?_
  refine lv_astore (lv' := [(4, .ref q), (0, .ref (ah 0)), (1, .int p0), (2, .int p1), (3, .ref out)]) hx hb dL_play_21 hl (by decide) rfl (fun ls hl => ?_)
  refine lv_iconst (v := 3) hx hb dL_play_23 (by decide) ?_
  exact hend H locs ls _ (fun _ => 0) hP hD hS dL_play_24
abbrev rmLt_draw : Room := { frames := 8, cells := 1, slots := 6, locals := 170 }
theorem wt_draw_1 (l : Launch) (hl0 : l.stackTraces = false) (G : va_G) (K : (Nat → Nat) × (Nat → Nat)) (c : Nat → ClassId) (ah : Nat → Nat) (ag : Nat → Nat → Nat) (ar : Nat → Nat) (ps : PS) (s7 : HS) (hm : t_X7_draw s7 = some ("java/lang/IllegalStateException")) (out : Nat) (f : Nat → Int64) : zLi l yL_draw wsL_draw rmLt_draw G K (TY c) [.ref (ah 0), .ref out] (wQ c out f ++ (wH c ah ag ar ps s7)) (fun _ => wQ c out f ++ (wH c ah ag ar ps s7)) 1 1 6 := by
  refine zLi.of (cc := cL_draw) (maxL := 3) (hh := [(0, 8, 11, 53)]) (lv := [(0, .ref (ah 0)), (1, .ref out)]) (by decide) rfl (Nat.le_of_ble_eq_true rfl) rfl ?_
  intro p e s m args below meth c1 A Q H locs hx hb hml htab hown hts hK hN hZ hXA hXW hNC hP hD hA hS hend ls hl
  have hown : s.vm.findClass RL = some m.cls := hown
  refine lv_aload_n hx hb dL_draw_0 rfl (lv_at hl 1 rfl) ?_
  refine lv_iconst (v := 0) hx hb dL_draw_1 (by decide) ?_
  refine lv_aload_n hx hb dL_draw_2 rfl (lv_at hl 0 rfl) ?_
  refine zcXFVi (w1 := (wH c ah ag ar ps s7)) (wr := wQ c out f) (wc := (wH c ah ag ar ps s7)) (As := []) (rest := [.int 0, .ref out]) ⟨hx, hb, hml, hown, hts⟩ (tk_X7_draw l hl0 G K c ah ag ar ps s7 "java/lang/IllegalStateException" hm) (cwV 0 hts gL_draw_X7_draw rfl rfl rfl (by decide +kernel) ⟨Nat.le_of_ble_eq_true rfl, Nat.le_of_ble_eq_true rfl⟩) hK hN hZ hXW hP hD hS hA (va_recv hK hP (ci := 7) (q0 := 1) rfl rfl) rfl hl.1 rfl (Nat.le_of_ble_eq_true rfl) dL_draw_3 ⟨Nat.le_of_ble_eq_true rfl, Nat.le_of_ble_eq_true rfl⟩ (fun H locs q ce hP hD hS hq hce hcl => ?_)
  refine vx_catch (own := RL) (name := "java/lang/IllegalStateException") (E := "java/lang/IllegalStateException") hown [] ⟨0, 8, 11, 53⟩ [] (htab.trans rfl) (fun z hz => absurd hz List.not_mem_nil) (by decide) (by decide) (hts (.classLink RL 53 "java/lang/IllegalStateException") (List.mem_of_getElem? (i := 1) rfl)) (hXW.b (E := "java/lang/IllegalStateException") (List.mem_of_getElem? (i := 3) rfl) (.castable "java/lang/IllegalStateException" "java/lang/IllegalStateException") List.mem_cons_self) hq hce hcl ?_
  refine lv_astore_n (lv' := [(2, .ref q), (0, .ref (ah 0)), (1, .ref out)]) hx hb dL_draw_11 rfl hl (by decide) rfl (fun ls hl => ?_)
  refine lv_iconst (v := 1) hx hb dL_draw_12 (by decide) ?_
  exact hend H locs ls _ (fun _ => 0) hP hD hS dL_draw_13
abbrev rmLt_pass : Room := { frames := 8, cells := 1, slots := 6, locals := 170 }
theorem wt_pass_1 (l : Launch) (hl0 : l.stackTraces = false) (G : va_G) (K : (Nat → Nat) × (Nat → Nat)) (c : Nat → ClassId) (ah : Nat → Nat) (ag : Nat → Nat → Nat) (ar : Nat → Nat) (ps : PS) (s7 : HS) (hm : t_X7_pass s7 = some ("java/lang/IllegalStateException")) (out : Nat) (f : Nat → Int64) : zLi l yL_pass wsL_pass rmLt_pass G K (TY c) [.ref (ah 0), .ref out] (wQ c out f ++ (wH c ah ag ar ps s7)) (fun _ => wQ c out f ++ (wH c ah ag ar ps s7)) 1 1 6 := by
  refine zLi.of (cc := cL_pass) (maxL := 3) (hh := [(0, 8, 11, 53)]) (lv := [(0, .ref (ah 0)), (1, .ref out)]) (by decide) rfl (Nat.le_of_ble_eq_true rfl) rfl ?_
  intro p e s m args below meth c1 A Q H locs hx hb hml htab hown hts hK hN hZ hXA hXW hNC hP hD hA hS hend ls hl
  have hown : s.vm.findClass RL = some m.cls := hown
  refine lv_aload_n hx hb dL_pass_0 rfl (lv_at hl 1 rfl) ?_
  refine lv_iconst (v := 0) hx hb dL_pass_1 (by decide) ?_
  refine lv_aload_n hx hb dL_pass_2 rfl (lv_at hl 0 rfl) ?_
  refine zcXFVi (w1 := (wH c ah ag ar ps s7)) (wr := wQ c out f) (wc := (wH c ah ag ar ps s7)) (As := []) (rest := [.int 0, .ref out]) ⟨hx, hb, hml, hown, hts⟩ (tk_X7_pass l hl0 G K c ah ag ar ps s7 "java/lang/IllegalStateException" hm) (cwV 0 hts gL_pass_X7_pass rfl rfl rfl (by decide +kernel) ⟨Nat.le_of_ble_eq_true rfl, Nat.le_of_ble_eq_true rfl⟩) hK hN hZ hXW hP hD hS hA (va_recv hK hP (ci := 7) (q0 := 1) rfl rfl) rfl hl.1 rfl (Nat.le_of_ble_eq_true rfl) dL_pass_3 ⟨Nat.le_of_ble_eq_true rfl, Nat.le_of_ble_eq_true rfl⟩ (fun H locs q ce hP hD hS hq hce hcl => ?_)
  refine vx_catch (own := RL) (name := "java/lang/IllegalStateException") (E := "java/lang/IllegalStateException") hown [] ⟨0, 8, 11, 53⟩ [] (htab.trans rfl) (fun z hz => absurd hz List.not_mem_nil) (by decide) (by decide) (hts (.classLink RL 53 "java/lang/IllegalStateException") (List.mem_of_getElem? (i := 1) rfl)) (hXW.b (E := "java/lang/IllegalStateException") (List.mem_of_getElem? (i := 3) rfl) (.castable "java/lang/IllegalStateException" "java/lang/IllegalStateException") List.mem_cons_self) hq hce hcl ?_
  refine lv_astore_n (lv' := [(2, .ref q), (0, .ref (ah 0)), (1, .ref out)]) hx hb dL_pass_11 rfl hl (by decide) rfl (fun ls hl => ?_)
  refine lv_iconst (v := 1) hx hb dL_pass_12 (by decide) ?_
  exact hend H locs ls _ (fun _ => 0) hP hD hS dL_pass_13
abbrev rmLt_auto : Room := { frames := 8, cells := 1, slots := 6, locals := 102 }
theorem wt_auto_1 (l : Launch) (hl0 : l.stackTraces = false) (G : va_G) (K : (Nat → Nat) × (Nat → Nat)) (c : Nat → ClassId) (ah : Nat → Nat) (ag : Nat → Nat → Nat) (ar : Nat → Nat) (s7 : HS) (ps : PS) (p0 : Int32) (hm : t_X7_auto s7 ps p0 = some ("java/lang/IllegalArgumentException")) (out : Nat) (f : Nat → Int64) : zLi l yL_auto wsL_auto rmLt_auto G K (TY c) [.ref (ah 0), .int p0, .ref out] (wQ c out f ++ (wH c ah ag ar ps s7)) (fun _ => wQ c out f ++ (wH c ah ag ar ps s7)) 1 1 6 := by
  refine zLi.of (cc := cL_auto) (maxL := 4) (hh := [(0, 9, 12, 13)]) (lv := [(0, .ref (ah 0)), (1, .int p0), (2, .ref out)]) (by decide) rfl (Nat.le_of_ble_eq_true rfl) rfl ?_
  intro p e s m args below meth c1 A Q H locs hx hb hml htab hown hts hK hN hZ hXA hXW hNC hP hD hA hS hend ls hl
  have hown : s.vm.findClass RL = some m.cls := hown
  refine lv_aload_n hx hb dL_auto_0 rfl (lv_at hl 2 rfl) ?_
  refine lv_iconst (v := 0) hx hb dL_auto_1 (by decide) ?_
  refine lv_aload_n hx hb dL_auto_2 rfl (lv_at hl 0 rfl) ?_
  refine lv_iload_n hx hb dL_auto_3 rfl (lv_at hl 1 rfl) ?_
  refine zcXFVi (w1 := (wH c ah ag ar ps s7)) (wr := wQ c out f) (wc := (wH c ah ag ar ps s7)) (As := [.int p0]) (rest := [.int 0, .ref out]) ⟨hx, hb, hml, hown, hts⟩ (tk_X7_auto l hl0 G K c ah ag ar s7 ps p0 "java/lang/IllegalArgumentException" hm) (cwV 1 hts gL_auto_X7_auto rfl rfl rfl (by decide +kernel) ⟨Nat.le_of_ble_eq_true rfl, Nat.le_of_ble_eq_true rfl⟩) hK hN hZ hXW hP hD hS hA (va_recv hK hP (ci := 7) (q0 := 1) rfl rfl) rfl hl.1 rfl (Nat.le_of_ble_eq_true rfl) dL_auto_4 ⟨Nat.le_of_ble_eq_true rfl, Nat.le_of_ble_eq_true rfl⟩ (fun H locs q ce hP hD hS hq hce hcl => ?_)
  refine vx_catch (own := RL) (name := "java/lang/IllegalArgumentException") (E := "java/lang/IllegalArgumentException") hown [] ⟨0, 9, 12, 13⟩ [] (htab.trans rfl) (fun z hz => absurd hz List.not_mem_nil) (by decide) (by decide) (hts (.classLink RL 13 "java/lang/IllegalArgumentException") (List.mem_of_getElem? (i := 1) rfl)) (hXW.b (E := "java/lang/IllegalArgumentException") (List.mem_of_getElem? (i := 0) rfl) (.castable "java/lang/IllegalArgumentException" "java/lang/IllegalArgumentException") List.mem_cons_self) hq hce hcl ?_
  refine lv_astore_n (lv' := [(3, .ref q), (0, .ref (ah 0)), (1, .int p0), (2, .ref out)]) hx hb dL_auto_12 rfl hl (by decide) rfl (fun ls hl => ?_)
  refine lv_iconst (v := 1) hx hb dL_auto_13 (by decide) ?_
  exact hend H locs ls _ (fun _ => 0) hP hD hS dL_auto_14
abbrev rmLt_deal : Room := { frames := 8, cells := 1, slots := 6, locals := 123 }
theorem wt_deal_1 (l : Launch) (hl0 : l.stackTraces = false) (G : va_G) (K : (Nat → Nat) × (Nat → Nat)) (c : Nat → ClassId) (ah : Nat → Nat) (ag : Nat → Nat → Nat) (ar : Nat → Nat) (ps : PS) (s7 : HS) (p0 : Int32) (p1 : Int32) (hm : t_X7_deal s7 p0 p1 = some ("java/lang/IllegalArgumentException")) (out : Nat) (f : Nat → Int64) : zLi l yL_deal wsL_deal rmLt_deal G K (TY c) [.ref (ah 0), .int p0, .int p1, .ref out] (wQ c out f ++ (wH c ah ag ar ps s7)) (fun _ => wQ c out f ++ (wH c ah ag ar ps s7)) 1 1 6 := by
  refine zLi.of (cc := cL_deal) (maxL := 5) (hh := [(0, 10, 13, 13), (0, 10, 17, 53)]) (lv := [(0, .ref (ah 0)), (1, .int p0), (2, .int p1), (3, .ref out)]) (by decide) rfl (Nat.le_of_ble_eq_true rfl) rfl ?_
  intro p e s m args below meth c1 A Q H locs hx hb hml htab hown hts hK hN hZ hXA hXW hNC hP hD hA hS hend ls hl
  have hown : s.vm.findClass RL = some m.cls := hown
  refine lv_aload_n hx hb dL_deal_0 rfl (lv_at hl 3 rfl) ?_
  refine lv_iconst (v := 0) hx hb dL_deal_1 (by decide) ?_
  refine lv_aload_n hx hb dL_deal_2 rfl (lv_at hl 0 rfl) ?_
  refine lv_iload_n hx hb dL_deal_3 rfl (lv_at hl 1 rfl) ?_
  refine lv_iload_n hx hb dL_deal_4 rfl (lv_at hl 2 rfl) ?_
  refine zcXFVi (w1 := (wH c ah ag ar ps s7)) (wr := wQ c out f) (wc := (wH c ah ag ar ps s7)) (As := [.int p0, .int p1]) (rest := [.int 0, .ref out]) ⟨hx, hb, hml, hown, hts⟩ (tk_X7_deal l hl0 G K c ah ag ar ps s7 p0 p1 "java/lang/IllegalArgumentException" hm) (cwV 2 hts gL_deal_X7_deal rfl rfl rfl (by decide +kernel) ⟨Nat.le_of_ble_eq_true rfl, Nat.le_of_ble_eq_true rfl⟩) hK hN hZ hXW hP hD hS hA (va_recv hK hP (ci := 7) (q0 := 1) rfl rfl) rfl hl.1 rfl (Nat.le_of_ble_eq_true rfl) dL_deal_5 ⟨Nat.le_of_ble_eq_true rfl, Nat.le_of_ble_eq_true rfl⟩ (fun H locs q ce hP hD hS hq hce hcl => ?_)
  refine vx_catch (own := RL) (name := "java/lang/IllegalArgumentException") (E := "java/lang/IllegalArgumentException") hown [] ⟨0, 10, 13, 13⟩ [⟨0, 10, 17, 53⟩] (htab.trans rfl) (fun z hz => absurd hz List.not_mem_nil) (by decide) (by decide) (hts (.classLink RL 13 "java/lang/IllegalArgumentException") (List.mem_of_getElem? (i := 1) rfl)) (hXW.b (E := "java/lang/IllegalArgumentException") (List.mem_of_getElem? (i := 0) rfl) (.castable "java/lang/IllegalArgumentException" "java/lang/IllegalArgumentException") List.mem_cons_self) hq hce hcl ?_
  refine lv_astore (lv' := [(4, .ref q), (0, .ref (ah 0)), (1, .int p0), (2, .int p1), (3, .ref out)]) hx hb dL_deal_13 hl (by decide) rfl (fun ls hl => ?_)
  refine lv_iconst (v := 1) hx hb dL_deal_15 (by decide) ?_
  exact hend H locs ls _ (fun _ => 0) hP hD hS dL_deal_16
theorem wt_deal_2 (l : Launch) (hl0 : l.stackTraces = false) (G : va_G) (K : (Nat → Nat) × (Nat → Nat)) (c : Nat → ClassId) (ah : Nat → Nat) (ag : Nat → Nat → Nat) (ar : Nat → Nat) (ps : PS) (s7 : HS) (p0 : Int32) (p1 : Int32) (hm : t_X7_deal s7 p0 p1 = some ("java/lang/IllegalStateException")) (out : Nat) (f : Nat → Int64) : zLi l yL_deal wsL_deal rmLt_deal G K (TY c) [.ref (ah 0), .int p0, .int p1, .ref out] (wQ c out f ++ (wH c ah ag ar ps s7)) (fun _ => wQ c out f ++ (wH c ah ag ar ps s7)) 2 1 6 := by
  refine zLi.of (cc := cL_deal) (maxL := 5) (hh := [(0, 10, 13, 13), (0, 10, 17, 53)]) (lv := [(0, .ref (ah 0)), (1, .int p0), (2, .int p1), (3, .ref out)]) (by decide) rfl (Nat.le_of_ble_eq_true rfl) rfl ?_
  intro p e s m args below meth c1 A Q H locs hx hb hml htab hown hts hK hN hZ hXA hXW hNC hP hD hA hS hend ls hl
  have hown : s.vm.findClass RL = some m.cls := hown
  refine lv_aload_n hx hb dL_deal_0 rfl (lv_at hl 3 rfl) ?_
  refine lv_iconst (v := 0) hx hb dL_deal_1 (by decide) ?_
  refine lv_aload_n hx hb dL_deal_2 rfl (lv_at hl 0 rfl) ?_
  refine lv_iload_n hx hb dL_deal_3 rfl (lv_at hl 1 rfl) ?_
  refine lv_iload_n hx hb dL_deal_4 rfl (lv_at hl 2 rfl) ?_
  refine zcXFVi (w1 := (wH c ah ag ar ps s7)) (wr := wQ c out f) (wc := (wH c ah ag ar ps s7)) (As := [.int p0, .int p1]) (rest := [.int 0, .ref out]) ⟨hx, hb, hml, hown, hts⟩ (tk_X7_deal l hl0 G K c ah ag ar ps s7 p0 p1 "java/lang/IllegalStateException" hm) (cwV 2 hts gL_deal_X7_deal rfl rfl rfl (by decide +kernel) ⟨Nat.le_of_ble_eq_true rfl, Nat.le_of_ble_eq_true rfl⟩) hK hN hZ hXW hP hD hS hA (va_recv hK hP (ci := 7) (q0 := 1) rfl rfl) rfl hl.1 rfl (Nat.le_of_ble_eq_true rfl) dL_deal_5 ⟨Nat.le_of_ble_eq_true rfl, Nat.le_of_ble_eq_true rfl⟩ (fun H locs q ce hP hD hS hq hce hcl => ?_)
  refine vx_catch (own := RL) (name := "java/lang/IllegalStateException") (E := "java/lang/IllegalStateException") hown [⟨0, 10, 13, 13⟩] ⟨0, 10, 17, 53⟩ [] (htab.trans rfl) (fun z hz => by cases List.mem_singleton.mp hz; exact Or.inr ⟨by decide, "java/lang/IllegalArgumentException", hts (.classLink RL 13 "java/lang/IllegalArgumentException") (List.mem_of_getElem? (i := 1) rfl), hNC ("java/lang/IllegalStateException", "java/lang/IllegalArgumentException") (List.mem_of_getElem? (i := 4) rfl)⟩) (by decide) (by decide) (hts (.classLink RL 53 "java/lang/IllegalStateException") (List.mem_of_getElem? (i := 2) rfl)) (hXW.b (E := "java/lang/IllegalStateException") (List.mem_of_getElem? (i := 3) rfl) (.castable "java/lang/IllegalStateException" "java/lang/IllegalStateException") List.mem_cons_self) hq hce hcl ?_
  refine lv_astore (lv' := [(4, .ref q), (0, .ref (ah 0)), (1, .int p0), (2, .int p1), (3, .ref out)]) hx hb dL_deal_17 hl (by decide) rfl (fun ls hl => ?_)
  refine lv_iconst (v := 2) hx hb dL_deal_19 (by decide) ?_
  exact hend H locs ls _ (fun _ => 0) hP hD hS dL_deal_20
