def wQ (c : Nat → ClassId) (o : Nat) (f : Nat → Int64) : va_W := [(o, .inl (c 1, 1, .inr (.inl f)))]
abbrev rmL_load : Room := { frames := 108, cells := 0, slots := 0, locals := 4201 }
theorem w_load (l : Launch) (G : va_G) (K : (Nat → Nat) × (Nat → Nat)) (c : Nat → ClassId) (ah : Nat → Nat) (ag : Nat → Nat → Nat) (ar : Nat → Nat) (ps : PS) (s7 : HS) (p0 : Int32) (r : Int32) (s7_r : HS) (hm : f_X7_load s7 p0 = some (r, s7_r)) (out : Nat) (f : Nat → Int64) : zLi l yL_load wsL_load rmL_load G K (TY c) [.ref (ah 0), .int p0, .ref out] (wQ c out f ++ (wH c ah ag ar ps s7)) (fun _ => wQ c out (vp_updL f (0 : Int32).toNatClampNeg r.toInt64) ++ (wH c ah ag ar ps s7_r)) 0 0 0 := by
  refine zLi.of (cc := cL_load) (maxL := 4) (hh := [(0, 9, 12, 13)]) (lv := [(0, .ref (ah 0)), (1, .int p0), (2, .ref out)]) (by decide) rfl (Nat.le_of_ble_eq_true rfl) rfl ?_
  intro p e s m args below meth c1 A Q H locs hx hb hml htab hown hts hK hN hZ hXA hXW hNC hP hD hA hS hend ls hl
  have hown : s.vm.findClass RL = some m.cls := hown
  refine lv_aload_n hx hb dL_load_0 rfl (lv_at hl 2 rfl) ?_
  refine lv_iconst (v := 0) hx hb dL_load_1 (by decide) ?_
  refine lv_aload_n hx hb dL_load_2 rfl (lv_at hl 0 rfl) ?_
  refine lv_iload_n hx hb dL_load_3 rfl (lv_at hl 1 rfl) ?_
  refine zcFVi (wr := wQ c out f) (wc := (wH c ah ag ar ps s7)) (As := [.int p0]) (rest := [.int 0, .ref out]) ⟨hx, hb, hml, hown, hts⟩ (k_X7_load l G K c ah ag ar ps s7 p0 r s7_r hm) (cwV 1 hts gL_load_X7_load rfl rfl rfl (by decide +kernel) ⟨Nat.le_of_ble_eq_true rfl, Nat.le_of_ble_eq_true rfl⟩) hK hN hZ hP hD hS hA (va_recv hK hP (ci := 7) (q0 := 1) rfl rfl) rfl hl.1 rfl (Nat.le_of_ble_eq_true rfl) dL_load_4 ⟨Nat.le_of_ble_eq_true rfl, Nat.le_of_ble_eq_true rfl⟩ (fun H locs hP hD hS => ?_)
  refine lv_i2l (v := r.toInt64) hx hb dL_load_7 rfl ?_
  refine va_last (D := G) hx hb hK hP hD hS 0 1 rfl rfl (inb_s (by decide)) dL_load_8 (fun H locs hP hD hS => ?_)
  refine lv_goto (tgt := 15) hx hb dL_load_9 (by decide) ?_
  refine lv_iconst (v := 0) hx hb dL_load_15 (by decide) ?_
  exact hend H locs ls _ (fun _ => 0) hP hD hS dL_load_16
abbrev rmLf_load : Room := { frames := 108, cells := 3, slots := 518, locals := 4201 }
theorem wf_load (l : Launch) (G : va_G) (K : (Nat → Nat) × (Nat → Nat)) (c : Nat → ClassId) (ah : Nat → Nat) (ag : Nat → Nat → Nat) (ar : Nat → Nat) (ps : PS) (s7 : HS) (p0 : Int32) (rd1 : RS) (r : Int32) (s7r : Nat → HS) (hge : ¬ p0 < 0) (hle : p0 ≤ s7.2.2.2.2.1.2.1.1 0) (hrd : g_X3_read s7.2.2.2.2.1 p0 = some rd1) (h0 : ¬ hFn rd1 < 0) (hlt : hFn rd1 < 500) (hm : ∀ fa, v_X7_load s7 rd1 fa = some (r, s7r fa)) (out : Nat) (f : Nat → Int64) : zLi l yL_load wsL_load rmLf_load G K (TY c) [.ref (ah 0), .int p0, .ref out] (wQ c out f ++ (wH c ah ag ar ps s7)) (fun a31 => wQ c out (vp_updL f (0 : Int32).toNatClampNeg r.toInt64) ++ wH c ah ag ar (ps ++ [(a31 0, a31 1, a31 2, (hFn rd1).toNatClampNeg, hFs rd1)]) (s7r (a31 0))) 0 3 518 := by
  refine zLi.of (cc := cL_load) (maxL := 4) (hh := [(0, 9, 12, 13)]) (lv := [(0, .ref (ah 0)), (1, .int p0), (2, .ref out)]) (by decide) rfl (Nat.le_of_ble_eq_true rfl) rfl ?_
  intro p e s m args below meth c1 A Q H locs hx hb hml htab hown hts hK hN hZ hXA hXW hNC hP hD hA hS hend ls hl
  have hown : s.vm.findClass RL = some m.cls := hown
  refine lv_aload_n hx hb dL_load_0 rfl (lv_at hl 2 rfl) ?_
  refine lv_iconst (v := 0) hx hb dL_load_1 (by decide) ?_
  refine lv_aload_n hx hb dL_load_2 rfl (lv_at hl 0 rfl) ?_
  refine lv_iload_n hx hb dL_load_3 rfl (lv_at hl 1 rfl) ?_
  refine zcAFVi (wr := wQ c out f) (wc := (wH c ah ag ar ps s7)) (As := [.int p0]) (rest := [.int 0, .ref out]) ⟨hx, hb, hml, hown, hts⟩ (kf_X7_load l G K c ah ag ar ps s7 p0 rd1 r s7r hge hle hrd h0 hlt hm) (cwV 1 hts gL_load_X7_load rfl rfl rfl (by decide +kernel) ⟨Nat.le_of_ble_eq_true rfl, Nat.le_of_ble_eq_true rfl⟩) hK hN hZ hXA hP hD hS hA (va_recv hK hP (ci := 7) (q0 := 1) rfl rfl) rfl hl.1 rfl (Nat.le_of_ble_eq_true rfl) dL_load_4 ⟨Nat.le_of_ble_eq_true rfl, Nat.le_of_ble_eq_true rfl⟩ (fun aa H locs hP hD hS => ?_)
  refine lv_i2l (v := r.toInt64) hx hb dL_load_7 rfl ?_
  refine va_last (D := G) hx hb hK hP hD hS 0 1 rfl rfl (inb_s (by decide)) dL_load_8 (fun H locs hP hD hS => ?_)
  refine lv_goto (tgt := 15) hx hb dL_load_9 (by decide) ?_
  refine lv_iconst (v := 0) hx hb dL_load_15 (by decide) ?_
  exact hend H locs ls _ aa hP hD hS dL_load_16
abbrev rmL_state : Room := { frames := 8, cells := 0, slots := 0, locals := 172 }
theorem w_state (l : Launch) (G : va_G) (K : (Nat → Nat) × (Nat → Nat)) (c : Nat → ClassId) (ah : Nat → Nat) (ag : Nat → Nat → Nat) (ar : Nat → Nat) (ps : PS) (s7 : HS) (p0 : Int32) (r : Int32) (hm : f_X7_state s7 p0 = some (r)) (out : Nat) (f : Nat → Int64) : zLi l yL_state wsL_state rmL_state G K (TY c) [.ref (ah 0), .int p0, .ref out] (wQ c out f ++ (wH c ah ag ar ps s7)) (fun _ => wQ c out (vp_updL f (0 : Int32).toNatClampNeg r.toInt64) ++ (wH c ah ag ar ps s7)) 0 0 0 := by
  refine zLi.of (cc := cL_state) (maxL := 4) (hh := [(0, 9, 12, 13)]) (lv := [(0, .ref (ah 0)), (1, .int p0), (2, .ref out)]) (by decide) rfl (Nat.le_of_ble_eq_true rfl) rfl ?_
  intro p e s m args below meth c1 A Q H locs hx hb hml htab hown hts hK hN hZ hXA hXW hNC hP hD hA hS hend ls hl
  have hown : s.vm.findClass RL = some m.cls := hown
  refine lv_aload_n hx hb dL_state_0 rfl (lv_at hl 2 rfl) ?_
  refine lv_iconst (v := 0) hx hb dL_state_1 (by decide) ?_
  refine lv_aload_n hx hb dL_state_2 rfl (lv_at hl 0 rfl) ?_
  refine lv_iload_n hx hb dL_state_3 rfl (lv_at hl 1 rfl) ?_
  refine zcFVi (wr := wQ c out f) (wc := (wH c ah ag ar ps s7)) (As := [.int p0]) (rest := [.int 0, .ref out]) ⟨hx, hb, hml, hown, hts⟩ (k_X7_state l G K c ah ag ar ps s7 p0 r hm) (cwV 1 hts gL_state_X7_state rfl rfl rfl (by decide +kernel) ⟨Nat.le_of_ble_eq_true rfl, Nat.le_of_ble_eq_true rfl⟩) hK hN hZ hP hD hS hA (va_recv hK hP (ci := 7) (q0 := 1) rfl rfl) rfl hl.1 rfl (Nat.le_of_ble_eq_true rfl) dL_state_4 ⟨Nat.le_of_ble_eq_true rfl, Nat.le_of_ble_eq_true rfl⟩ (fun H locs hP hD hS => ?_)
  refine lv_i2l (v := r.toInt64) hx hb dL_state_7 rfl ?_
  refine va_last (D := G) hx hb hK hP hD hS 0 1 rfl rfl (inb_s (by decide)) dL_state_8 (fun H locs hP hD hS => ?_)
  refine lv_goto (tgt := 15) hx hb dL_state_9 (by decide) ?_
  refine lv_iconst (v := 0) hx hb dL_state_15 (by decide) ?_
  exact hend H locs ls _ (fun _ => 0) hP hD hS dL_state_16
abbrev rmL_player : Room := { frames := 8, cells := 0, slots := 0, locals := 175 }
theorem w_player (l : Launch) (G : va_G) (K : (Nat → Nat) × (Nat → Nat)) (c : Nat → ClassId) (ah : Nat → Nat) (ag : Nat → Nat → Nat) (ar : Nat → Nat) (ps : PS) (s7 : HS) (p0 : Int32) (p1 : Int32) (r : Int32) (hm : f_X7_player s7 p0 p1 = some (r)) (out : Nat) (f : Nat → Int64) : zLi l yL_player wsL_player rmL_player G K (TY c) [.ref (ah 0), .int p0, .int p1, .ref out] (wQ c out f ++ (wH c ah ag ar ps s7)) (fun _ => wQ c out (vp_updL f (0 : Int32).toNatClampNeg r.toInt64) ++ (wH c ah ag ar ps s7)) 0 0 0 := by
  refine zLi.of (cc := cL_player) (maxL := 5) (hh := [(0, 10, 13, 22), (0, 10, 17, 13)]) (lv := [(0, .ref (ah 0)), (1, .int p0), (2, .int p1), (3, .ref out)]) (by decide) rfl (Nat.le_of_ble_eq_true rfl) rfl ?_
  intro p e s m args below meth c1 A Q H locs hx hb hml htab hown hts hK hN hZ hXA hXW hNC hP hD hA hS hend ls hl
  have hown : s.vm.findClass RL = some m.cls := hown
  refine lv_aload_n hx hb dL_player_0 rfl (lv_at hl 3 rfl) ?_
  refine lv_iconst (v := 0) hx hb dL_player_1 (by decide) ?_
  refine lv_aload_n hx hb dL_player_2 rfl (lv_at hl 0 rfl) ?_
  refine lv_iload_n hx hb dL_player_3 rfl (lv_at hl 1 rfl) ?_
  refine lv_iload_n hx hb dL_player_4 rfl (lv_at hl 2 rfl) ?_
  refine zcFVi (wr := wQ c out f) (wc := (wH c ah ag ar ps s7)) (As := [.int p0, .int p1]) (rest := [.int 0, .ref out]) ⟨hx, hb, hml, hown, hts⟩ (k_X7_player l G K c ah ag ar ps s7 p0 p1 r hm) (cwV 2 hts gL_player_X7_player rfl rfl rfl (by decide +kernel) ⟨Nat.le_of_ble_eq_true rfl, Nat.le_of_ble_eq_true rfl⟩) hK hN hZ hP hD hS hA (va_recv hK hP (ci := 7) (q0 := 1) rfl rfl) rfl hl.1 rfl (Nat.le_of_ble_eq_true rfl) dL_player_5 ⟨Nat.le_of_ble_eq_true rfl, Nat.le_of_ble_eq_true rfl⟩ (fun H locs hP hD hS => ?_)
  refine lv_i2l (v := r.toInt64) hx hb dL_player_8 rfl ?_
  refine va_last (D := G) hx hb hK hP hD hS 0 1 rfl rfl (inb_s (by decide)) dL_player_9 (fun H locs hP hD hS => ?_)
  refine lv_goto (tgt := 21) hx hb dL_player_10 (by decide) ?_
  refine lv_iconst (v := 0) hx hb dL_player_21 (by decide) ?_
  exact hend H locs ls _ (fun _ => 0) hP hD hS dL_player_22
abbrev rmL_tile : Room := { frames := 8, cells := 0, slots := 0, locals := 68 }
theorem w_tile (l : Launch) (G : va_G) (K : (Nat → Nat) × (Nat → Nat)) (c : Nat → ClassId) (ah : Nat → Nat) (ag : Nat → Nat → Nat) (ar : Nat → Nat) (ps : PS) (s7 : HS) (p0 : Int32) (p1 : Int32) (r : Int32) (hm : f_X7_tile s7 p0 p1 = some (r)) (out : Nat) (f : Nat → Int64) : zLi l yL_tile wsL_tile rmL_tile G K (TY c) [.ref (ah 0), .int p0, .int p1, .ref out] (wQ c out f ++ (wH c ah ag ar ps s7)) (fun _ => wQ c out (vp_updL f (0 : Int32).toNatClampNeg r.toInt64) ++ (wH c ah ag ar ps s7)) 0 0 0 := by
  refine zLi.of (cc := cL_tile) (maxL := 5) (hh := [(0, 10, 13, 22), (0, 10, 17, 27)]) (lv := [(0, .ref (ah 0)), (1, .int p0), (2, .int p1), (3, .ref out)]) (by decide) rfl (Nat.le_of_ble_eq_true rfl) rfl ?_
  intro p e s m args below meth c1 A Q H locs hx hb hml htab hown hts hK hN hZ hXA hXW hNC hP hD hA hS hend ls hl
  have hown : s.vm.findClass RL = some m.cls := hown
  refine lv_aload_n hx hb dL_tile_0 rfl (lv_at hl 3 rfl) ?_
  refine lv_iconst (v := 0) hx hb dL_tile_1 (by decide) ?_
  refine lv_aload_n hx hb dL_tile_2 rfl (lv_at hl 0 rfl) ?_
  refine lv_iload_n hx hb dL_tile_3 rfl (lv_at hl 1 rfl) ?_
  refine lv_iload_n hx hb dL_tile_4 rfl (lv_at hl 2 rfl) ?_
  refine zcFVi (wr := wQ c out f) (wc := (wH c ah ag ar ps s7)) (As := [.int p0, .int p1]) (rest := [.int 0, .ref out]) ⟨hx, hb, hml, hown, hts⟩ (k_X7_tile l G K c ah ag ar ps s7 p0 p1 r hm) (cwV 2 hts gL_tile_X7_tile rfl rfl rfl (by decide +kernel) ⟨Nat.le_of_ble_eq_true rfl, Nat.le_of_ble_eq_true rfl⟩) hK hN hZ hP hD hS hA (va_recv hK hP (ci := 7) (q0 := 1) rfl rfl) rfl hl.1 rfl (Nat.le_of_ble_eq_true rfl) dL_tile_5 ⟨Nat.le_of_ble_eq_true rfl, Nat.le_of_ble_eq_true rfl⟩ (fun H locs hP hD hS => ?_)
  refine lv_i2l (v := r.toInt64) hx hb dL_tile_8 rfl ?_
  refine va_last (D := G) hx hb hK hP hD hS 0 1 rfl rfl (inb_s (by decide)) dL_tile_9 (fun H locs hP hD hS => ?_)
  refine lv_goto (tgt := 21) hx hb dL_tile_10 (by decide) ?_
  refine lv_iconst (v := 0) hx hb dL_tile_21 (by decide) ?_
  exact hend H locs ls _ (fun _ => 0) hP hD hS dL_tile_22
abbrev rmL_train : Room := { frames := 8, cells := 0, slots := 0, locals := 107 }
theorem w_train (l : Launch) (G : va_G) (K : (Nat → Nat) × (Nat → Nat)) (c : Nat → ClassId) (ah : Nat → Nat) (ag : Nat → Nat → Nat) (ar : Nat → Nat) (ps : PS) (s7 : HS) (p0 : Int32) (p1 : Int32) (r : Int32) (hm : f_X7_train s7 p0 p1 = some (r)) (out : Nat) (f : Nat → Int64) : zLi l yL_train wsL_train rmL_train G K (TY c) [.ref (ah 0), .int p0, .int p1, .ref out] (wQ c out f ++ (wH c ah ag ar ps s7)) (fun _ => wQ c out (vp_updL f (0 : Int32).toNatClampNeg r.toInt64) ++ (wH c ah ag ar ps s7)) 0 0 0 := by
  refine zLi.of (cc := cL_train) (maxL := 5) (hh := [(0, 10, 13, 22), (0, 10, 17, 13)]) (lv := [(0, .ref (ah 0)), (1, .int p0), (2, .int p1), (3, .ref out)]) (by decide) rfl (Nat.le_of_ble_eq_true rfl) rfl ?_
  intro p e s m args below meth c1 A Q H locs hx hb hml htab hown hts hK hN hZ hXA hXW hNC hP hD hA hS hend ls hl
  have hown : s.vm.findClass RL = some m.cls := hown
  refine lv_aload_n hx hb dL_train_0 rfl (lv_at hl 3 rfl) ?_
  refine lv_iconst (v := 0) hx hb dL_train_1 (by decide) ?_
  refine lv_aload_n hx hb dL_train_2 rfl (lv_at hl 0 rfl) ?_
  refine lv_iload_n hx hb dL_train_3 rfl (lv_at hl 1 rfl) ?_
  refine lv_iload_n hx hb dL_train_4 rfl (lv_at hl 2 rfl) ?_
  refine zcFVi (wr := wQ c out f) (wc := (wH c ah ag ar ps s7)) (As := [.int p0, .int p1]) (rest := [.int 0, .ref out]) ⟨hx, hb, hml, hown, hts⟩ (k_X7_train l G K c ah ag ar ps s7 p0 p1 r hm) (cwV 2 hts gL_train_X7_train rfl rfl rfl (by decide +kernel) ⟨Nat.le_of_ble_eq_true rfl, Nat.le_of_ble_eq_true rfl⟩) hK hN hZ hP hD hS hA (va_recv hK hP (ci := 7) (q0 := 1) rfl rfl) rfl hl.1 rfl (Nat.le_of_ble_eq_true rfl) dL_train_5 ⟨Nat.le_of_ble_eq_true rfl, Nat.le_of_ble_eq_true rfl⟩ (fun H locs hP hD hS => ?_)
  refine lv_i2l (v := r.toInt64) hx hb dL_train_8 rfl ?_
  refine va_last (D := G) hx hb hK hP hD hS 0 1 rfl rfl (inb_s (by decide)) dL_train_9 (fun H locs hP hD hS => ?_)
  refine lv_goto (tgt := 21) hx hb dL_train_10 (by decide) ?_
  refine lv_iconst (v := 0) hx hb dL_train_21 (by decide) ?_
  exact hend H locs ls _ (fun _ => 0) hP hD hS dL_train_22
abbrev rmL_laid : Room := { frames := 8, cells := 0, slots := 0, locals := 68 }
theorem w_laid (l : Launch) (G : va_G) (K : (Nat → Nat) × (Nat → Nat)) (c : Nat → ClassId) (ah : Nat → Nat) (ag : Nat → Nat → Nat) (ar : Nat → Nat) (ps : PS) (s7 : HS) (p0 : Int32) (p1 : Int32) (r : Int32) (hm : f_X7_laid s7 p0 p1 = some (r)) (out : Nat) (f : Nat → Int64) : zLi l yL_laid wsL_laid rmL_laid G K (TY c) [.ref (ah 0), .int p0, .int p1, .ref out] (wQ c out f ++ (wH c ah ag ar ps s7)) (fun _ => wQ c out (vp_updL f (0 : Int32).toNatClampNeg r.toInt64) ++ (wH c ah ag ar ps s7)) 0 0 0 := by
  refine zLi.of (cc := cL_laid) (maxL := 5) (hh := [(0, 10, 13, 22), (0, 10, 17, 27)]) (lv := [(0, .ref (ah 0)), (1, .int p0), (2, .int p1), (3, .ref out)]) (by decide) rfl (Nat.le_of_ble_eq_true rfl) rfl ?_
  intro p e s m args below meth c1 A Q H locs hx hb hml htab hown hts hK hN hZ hXA hXW hNC hP hD hA hS hend ls hl
  have hown : s.vm.findClass RL = some m.cls := hown
  refine lv_aload_n hx hb dL_laid_0 rfl (lv_at hl 3 rfl) ?_
  refine lv_iconst (v := 0) hx hb dL_laid_1 (by decide) ?_
  refine lv_aload_n hx hb dL_laid_2 rfl (lv_at hl 0 rfl) ?_
  refine lv_iload_n hx hb dL_laid_3 rfl (lv_at hl 1 rfl) ?_
  refine lv_iload_n hx hb dL_laid_4 rfl (lv_at hl 2 rfl) ?_
  refine zcFVi (wr := wQ c out f) (wc := (wH c ah ag ar ps s7)) (As := [.int p0, .int p1]) (rest := [.int 0, .ref out]) ⟨hx, hb, hml, hown, hts⟩ (k_X7_laid l G K c ah ag ar ps s7 p0 p1 r hm) (cwV 2 hts gL_laid_X7_laid rfl rfl rfl (by decide +kernel) ⟨Nat.le_of_ble_eq_true rfl, Nat.le_of_ble_eq_true rfl⟩) hK hN hZ hP hD hS hA (va_recv hK hP (ci := 7) (q0 := 1) rfl rfl) rfl hl.1 rfl (Nat.le_of_ble_eq_true rfl) dL_laid_5 ⟨Nat.le_of_ble_eq_true rfl, Nat.le_of_ble_eq_true rfl⟩ (fun H locs hP hD hS => ?_)
  refine lv_i2l (v := r.toInt64) hx hb dL_laid_8 rfl ?_
  refine va_last (D := G) hx hb hK hP hD hS 0 1 rfl rfl (inb_s (by decide)) dL_laid_9 (fun H locs hP hD hS => ?_)
  refine lv_goto (tgt := 21) hx hb dL_laid_10 (by decide) ?_
  refine lv_iconst (v := 0) hx hb dL_laid_21 (by decide) ?_
  exact hend H locs ls _ (fun _ => 0) hP hD hS dL_laid_22
abbrev rmL_why : Room := { frames := 8, cells := 0, slots := 0, locals := 107 }
theorem w_why (l : Launch) (G : va_G) (K : (Nat → Nat) × (Nat → Nat)) (c : Nat → ClassId) (ah : Nat → Nat) (ag : Nat → Nat → Nat) (ar : Nat → Nat) (ps : PS) (s7 : HS) (p0 : Int32) (p1 : Int32) (r : Int32) (hm : f_X7_why s7 p0 p1 = some (r)) (out : Nat) (f : Nat → Int64) : zLi l yL_why wsL_why rmL_why G K (TY c) [.ref (ah 0), .int p0, .int p1, .ref out] (wQ c out f ++ (wH c ah ag ar ps s7)) (fun _ => wQ c out (vp_updL f (0 : Int32).toNatClampNeg r.toInt64) ++ (wH c ah ag ar ps s7)) 0 0 0 := by
  refine zLi.of (cc := cL_why) (maxL := 5) (hh := [(0, 10, 13, 22), (0, 10, 17, 13)]) (lv := [(0, .ref (ah 0)), (1, .int p0), (2, .int p1), (3, .ref out)]) (by decide) rfl (Nat.le_of_ble_eq_true rfl) rfl ?_
  intro p e s m args below meth c1 A Q H locs hx hb hml htab hown hts hK hN hZ hXA hXW hNC hP hD hA hS hend ls hl
  have hown : s.vm.findClass RL = some m.cls := hown
  refine lv_aload_n hx hb dL_why_0 rfl (lv_at hl 3 rfl) ?_
  refine lv_iconst (v := 0) hx hb dL_why_1 (by decide) ?_
  refine lv_aload_n hx hb dL_why_2 rfl (lv_at hl 0 rfl) ?_
  refine lv_iload_n hx hb dL_why_3 rfl (lv_at hl 1 rfl) ?_
  refine lv_iload_n hx hb dL_why_4 rfl (lv_at hl 2 rfl) ?_
  refine zcFVi (wr := wQ c out f) (wc := (wH c ah ag ar ps s7)) (As := [.int p0, .int p1]) (rest := [.int 0, .ref out]) ⟨hx, hb, hml, hown, hts⟩ (k_X7_why l G K c ah ag ar ps s7 p0 p1 r hm) (cwV 2 hts gL_why_X7_why rfl rfl rfl (by decide +kernel) ⟨Nat.le_of_ble_eq_true rfl, Nat.le_of_ble_eq_true rfl⟩) hK hN hZ hP hD hS hA (va_recv hK hP (ci := 7) (q0 := 1) rfl rfl) rfl hl.1 rfl (Nat.le_of_ble_eq_true rfl) dL_why_5 ⟨Nat.le_of_ble_eq_true rfl, Nat.le_of_ble_eq_true rfl⟩ (fun H locs hP hD hS => ?_)
  refine lv_i2l (v := r.toInt64) hx hb dL_why_8 rfl ?_
  refine va_last (D := G) hx hb hK hP hD hS 0 1 rfl rfl (inb_s (by decide)) dL_why_9 (fun H locs hP hD hS => ?_)
  refine lv_goto (tgt := 21) hx hb dL_why_10 (by decide) ?_
  refine lv_iconst (v := 0) hx hb dL_why_21 (by decide) ?_
  exact hend H locs ls _ (fun _ => 0) hP hD hS dL_why_22
abbrev rmL_rank : Room := { frames := 8, cells := 0, slots := 0, locals := 129 }
theorem w_rank (l : Launch) (G : va_G) (K : (Nat → Nat) × (Nat → Nat)) (c : Nat → ClassId) (ah : Nat → Nat) (ag : Nat → Nat → Nat) (ar : Nat → Nat) (s7 : HS) (ps : PS) (p0 : Int32) (p1 : Int32) (r : Int32) (ps_r : PS) (hm : f_X7_rank s7 ps p0 p1 = some (r, ps_r)) (out : Nat) (f : Nat → Int64) : zLi l yL_rank wsL_rank rmL_rank G K (TY c) [.ref (ah 0), .int p0, .int p1, .ref out] (wQ c out f ++ (wH c ah ag ar ps s7)) (fun _ => wQ c out (vp_updL f (0 : Int32).toNatClampNeg r.toInt64) ++ (wH c ah ag ar ps_r s7)) 0 0 0 := by
  refine zLi.of (cc := cL_rank) (maxL := 5) (hh := [(0, 10, 13, 22), (0, 10, 17, 13), (0, 10, 21, 27)]) (lv := [(0, .ref (ah 0)), (1, .int p0), (2, .int p1), (3, .ref out)]) (by decide) rfl (Nat.le_of_ble_eq_true rfl) rfl ?_
  intro p e s m args below meth c1 A Q H locs hx hb hml htab hown hts hK hN hZ hXA hXW hNC hP hD hA hS hend ls hl
  have hown : s.vm.findClass RL = some m.cls := hown
  refine lv_aload_n hx hb dL_rank_0 rfl (lv_at hl 3 rfl) ?_
  refine lv_iconst (v := 0) hx hb dL_rank_1 (by decide) ?_
  refine lv_aload_n hx hb dL_rank_2 rfl (lv_at hl 0 rfl) ?_
  refine lv_iload_n hx hb dL_rank_3 rfl (lv_at hl 1 rfl) ?_
  refine lv_iload_n hx hb dL_rank_4 rfl (lv_at hl 2 rfl) ?_
  refine zcFVi (wr := wQ c out f) (wc := (wH c ah ag ar ps s7)) (As := [.int p0, .int p1]) (rest := [.int 0, .ref out]) ⟨hx, hb, hml, hown, hts⟩ (k_X7_rank l G K c ah ag ar s7 ps p0 p1 r ps_r hm) (cwV 2 hts gL_rank_X7_rank rfl rfl rfl (by decide +kernel) ⟨Nat.le_of_ble_eq_true rfl, Nat.le_of_ble_eq_true rfl⟩) hK hN hZ hP hD hS hA (va_recv hK hP (ci := 7) (q0 := 1) rfl rfl) rfl hl.1 rfl (Nat.le_of_ble_eq_true rfl) dL_rank_5 ⟨Nat.le_of_ble_eq_true rfl, Nat.le_of_ble_eq_true rfl⟩ (fun H locs hP hD hS => ?_)
  refine lv_i2l (v := r.toInt64) hx hb dL_rank_8 rfl ?_
  refine va_last (D := G) hx hb hK hP hD hS 0 1 rfl rfl (inb_s (by decide)) dL_rank_9 (fun H locs hP hD hS => ?_)
  refine lv_goto (tgt := 25) hx hb dL_rank_10 (by decide) ?_
  refine lv_iconst (v := 0) hx hb dL_rank_25 (by decide) ?_
  exact hend H locs ls _ (fun _ => 0) hP hD hS dL_rank_26
abbrev rmL_longest : Room := { frames := 8, cells := 0, slots := 0, locals := 134 }
theorem w_longest (l : Launch) (G : va_G) (K : (Nat → Nat) × (Nat → Nat)) (c : Nat → ClassId) (ah : Nat → Nat) (ag : Nat → Nat → Nat) (ar : Nat → Nat) (ps : PS) (s7 : HS) (p0 : Int32) (r : Int32) (s7_r : HS) (hm : f_X7_longest s7 p0 = some (r, s7_r)) (out : Nat) (f : Nat → Int64) : zLi l yL_longest wsL_longest rmL_longest G K (TY c) [.ref (ah 0), .int p0, .ref out] (wQ c out f ++ (wH c ah ag ar ps s7)) (fun _ => wQ c out (vp_updL f (0 : Int32).toNatClampNeg r.toInt64) ++ (wH c ah ag ar ps s7_r)) 0 0 0 := by
  refine zLi.of (cc := cL_longest) (maxL := 4) (hh := [(0, 9, 12, 22)]) (lv := [(0, .ref (ah 0)), (1, .int p0), (2, .ref out)]) (by decide) rfl (Nat.le_of_ble_eq_true rfl) rfl ?_
  intro p e s m args below meth c1 A Q H locs hx hb hml htab hown hts hK hN hZ hXA hXW hNC hP hD hA hS hend ls hl
  have hown : s.vm.findClass RL = some m.cls := hown
  refine lv_aload_n hx hb dL_longest_0 rfl (lv_at hl 2 rfl) ?_
  refine lv_iconst (v := 0) hx hb dL_longest_1 (by decide) ?_
  refine lv_aload_n hx hb dL_longest_2 rfl (lv_at hl 0 rfl) ?_
  refine lv_iload_n hx hb dL_longest_3 rfl (lv_at hl 1 rfl) ?_
  refine zcFVi (wr := wQ c out f) (wc := (wH c ah ag ar ps s7)) (As := [.int p0]) (rest := [.int 0, .ref out]) ⟨hx, hb, hml, hown, hts⟩ (k_X7_longest l G K c ah ag ar ps s7 p0 r s7_r hm) (cwV 1 hts gL_longest_X7_longest rfl rfl rfl (by decide +kernel) ⟨Nat.le_of_ble_eq_true rfl, Nat.le_of_ble_eq_true rfl⟩) hK hN hZ hP hD hS hA (va_recv hK hP (ci := 7) (q0 := 1) rfl rfl) rfl hl.1 rfl (Nat.le_of_ble_eq_true rfl) dL_longest_4 ⟨Nat.le_of_ble_eq_true rfl, Nat.le_of_ble_eq_true rfl⟩ (fun H locs hP hD hS => ?_)
  refine lv_i2l (v := r.toInt64) hx hb dL_longest_7 rfl ?_
  refine va_last (D := G) hx hb hK hP hD hS 0 1 rfl rfl (inb_s (by decide)) dL_longest_8 (fun H locs hP hD hS => ?_)
  refine lv_goto (tgt := 15) hx hb dL_longest_9 (by decide) ?_
  refine lv_iconst (v := 0) hx hb dL_longest_15 (by decide) ?_
  exact hend H locs ls _ (fun _ => 0) hP hD hS dL_longest_16
abbrev rmL_longestTile : Room := { frames := 8, cells := 0, slots := 0, locals := 139 }
theorem w_longestTile (l : Launch) (G : va_G) (K : (Nat → Nat) × (Nat → Nat)) (c : Nat → ClassId) (ah : Nat → Nat) (ag : Nat → Nat → Nat) (ar : Nat → Nat) (ps : PS) (s7 : HS) (p0 : Int32) (p1 : Int32) (r : Int32) (s7_r : HS) (hm : f_X7_longestTile s7 p0 p1 = some (r, s7_r)) (out : Nat) (f : Nat → Int64) : zLi l yL_longestTile wsL_longestTile rmL_longestTile G K (TY c) [.ref (ah 0), .int p0, .int p1, .ref out] (wQ c out f ++ (wH c ah ag ar ps s7)) (fun _ => wQ c out (vp_updL f (0 : Int32).toNatClampNeg r.toInt64) ++ (wH c ah ag ar ps s7_r)) 0 0 0 := by
  refine zLi.of (cc := cL_longestTile) (maxL := 5) (hh := [(0, 10, 13, 22), (0, 10, 17, 27)]) (lv := [(0, .ref (ah 0)), (1, .int p0), (2, .int p1), (3, .ref out)]) (by decide) rfl (Nat.le_of_ble_eq_true rfl) rfl ?_
  intro p e s m args below meth c1 A Q H locs hx hb hml htab hown hts hK hN hZ hXA hXW hNC hP hD hA hS hend ls hl
  have hown : s.vm.findClass RL = some m.cls := hown
  refine lv_aload_n hx hb dL_longestTile_0 rfl (lv_at hl 3 rfl) ?_
  refine lv_iconst (v := 0) hx hb dL_longestTile_1 (by decide) ?_
  refine lv_aload_n hx hb dL_longestTile_2 rfl (lv_at hl 0 rfl) ?_
  refine lv_iload_n hx hb dL_longestTile_3 rfl (lv_at hl 1 rfl) ?_
  refine lv_iload_n hx hb dL_longestTile_4 rfl (lv_at hl 2 rfl) ?_
  refine zcFVi (wr := wQ c out f) (wc := (wH c ah ag ar ps s7)) (As := [.int p0, .int p1]) (rest := [.int 0, .ref out]) ⟨hx, hb, hml, hown, hts⟩ (k_X7_longestTile l G K c ah ag ar ps s7 p0 p1 r s7_r hm) (cwV 2 hts gL_longestTile_X7_longestTile rfl rfl rfl (by decide +kernel) ⟨Nat.le_of_ble_eq_true rfl, Nat.le_of_ble_eq_true rfl⟩) hK hN hZ hP hD hS hA (va_recv hK hP (ci := 7) (q0 := 1) rfl rfl) rfl hl.1 rfl (Nat.le_of_ble_eq_true rfl) dL_longestTile_5 ⟨Nat.le_of_ble_eq_true rfl, Nat.le_of_ble_eq_true rfl⟩ (fun H locs hP hD hS => ?_)
  refine lv_i2l (v := r.toInt64) hx hb dL_longestTile_8 rfl ?_
  refine va_last (D := G) hx hb hK hP hD hS 0 1 rfl rfl (inb_s (by decide)) dL_longestTile_9 (fun H locs hP hD hS => ?_)
  refine lv_goto (tgt := 21) hx hb dL_longestTile_10 (by decide) ?_
  refine lv_iconst (v := 0) hx hb dL_longestTile_21 (by decide) ?_
  exact hend H locs ls _ (fun _ => 0) hP hD hS dL_longestTile_22
abbrev rmL_heaviest : Room := { frames := 8, cells := 0, slots := 0, locals := 134 }
theorem w_heaviest (l : Launch) (G : va_G) (K : (Nat → Nat) × (Nat → Nat)) (c : Nat → ClassId) (ah : Nat → Nat) (ag : Nat → Nat → Nat) (ar : Nat → Nat) (ps : PS) (s7 : HS) (p0 : Int32) (r : Int32) (s7_r : HS) (hm : f_X7_heaviest s7 p0 = some (r, s7_r)) (out : Nat) (f : Nat → Int64) : zLi l yL_heaviest wsL_heaviest rmL_heaviest G K (TY c) [.ref (ah 0), .int p0, .ref out] (wQ c out f ++ (wH c ah ag ar ps s7)) (fun _ => wQ c out (vp_updL f (0 : Int32).toNatClampNeg r.toInt64) ++ (wH c ah ag ar ps s7_r)) 0 0 0 := by
  refine zLi.of (cc := cL_heaviest) (maxL := 4) (hh := [(0, 9, 12, 22)]) (lv := [(0, .ref (ah 0)), (1, .int p0), (2, .ref out)]) (by decide) rfl (Nat.le_of_ble_eq_true rfl) rfl ?_
  intro p e s m args below meth c1 A Q H locs hx hb hml htab hown hts hK hN hZ hXA hXW hNC hP hD hA hS hend ls hl
  have hown : s.vm.findClass RL = some m.cls := hown
  refine lv_aload_n hx hb dL_heaviest_0 rfl (lv_at hl 2 rfl) ?_
  refine lv_iconst (v := 0) hx hb dL_heaviest_1 (by decide) ?_
  refine lv_aload_n hx hb dL_heaviest_2 rfl (lv_at hl 0 rfl) ?_
  refine lv_iload_n hx hb dL_heaviest_3 rfl (lv_at hl 1 rfl) ?_
  refine zcFVi (wr := wQ c out f) (wc := (wH c ah ag ar ps s7)) (As := [.int p0]) (rest := [.int 0, .ref out]) ⟨hx, hb, hml, hown, hts⟩ (k_X7_heaviest l G K c ah ag ar ps s7 p0 r s7_r hm) (cwV 1 hts gL_heaviest_X7_heaviest rfl rfl rfl (by decide +kernel) ⟨Nat.le_of_ble_eq_true rfl, Nat.le_of_ble_eq_true rfl⟩) hK hN hZ hP hD hS hA (va_recv hK hP (ci := 7) (q0 := 1) rfl rfl) rfl hl.1 rfl (Nat.le_of_ble_eq_true rfl) dL_heaviest_4 ⟨Nat.le_of_ble_eq_true rfl, Nat.le_of_ble_eq_true rfl⟩ (fun H locs hP hD hS => ?_)
  refine lv_i2l (v := r.toInt64) hx hb dL_heaviest_7 rfl ?_
  refine va_last (D := G) hx hb hK hP hD hS 0 1 rfl rfl (inb_s (by decide)) dL_heaviest_8 (fun H locs hP hD hS => ?_)
  refine lv_goto (tgt := 15) hx hb dL_heaviest_9 (by decide) ?_
  refine lv_iconst (v := 0) hx hb dL_heaviest_15 (by decide) ?_
  exact hend H locs ls _ (fun _ => 0) hP hD hS dL_heaviest_16
abbrev rmL_play : Room := { frames := 8, cells := 0, slots := 0, locals := 146 }
theorem w_play (l : Launch) (G : va_G) (K : (Nat → Nat) × (Nat → Nat)) (c : Nat → ClassId) (ah : Nat → Nat) (ag : Nat → Nat → Nat) (ar : Nat → Nat) (ps : PS) (s7 : HS) (p0 : Int32) (p1 : Int32) (r : Int32) (s7_r : HS) (hm : f_X7_play s7 p0 p1 = some (r, s7_r)) (out : Nat) (f : Nat → Int64) : zLi l yL_play wsL_play rmL_play G K (TY c) [.ref (ah 0), .int p0, .int p1, .ref out] (wQ c out f ++ (wH c ah ag ar ps s7)) (fun _ => wQ c out (vp_updL f (0 : Int32).toNatClampNeg r.toInt64) ++ (wH c ah ag ar ps s7_r)) 0 0 0 := by
  refine zLi.of (cc := cL_play) (maxL := 5) (hh := [(0, 10, 13, 22), (0, 10, 17, 13), (0, 10, 21, 53)]) (lv := [(0, .ref (ah 0)), (1, .int p0), (2, .int p1), (3, .ref out)]) (by decide) rfl (Nat.le_of_ble_eq_true rfl) rfl ?_
  intro p e s m args below meth c1 A Q H locs hx hb hml htab hown hts hK hN hZ hXA hXW hNC hP hD hA hS hend ls hl
  have hown : s.vm.findClass RL = some m.cls := hown
  refine lv_aload_n hx hb dL_play_0 rfl (lv_at hl 3 rfl) ?_
  refine lv_iconst (v := 0) hx hb dL_play_1 (by decide) ?_
  refine lv_aload_n hx hb dL_play_2 rfl (lv_at hl 0 rfl) ?_
  refine lv_iload_n hx hb dL_play_3 rfl (lv_at hl 1 rfl) ?_
  refine lv_iload_n hx hb dL_play_4 rfl (lv_at hl 2 rfl) ?_
  refine zcFVi (wr := wQ c out f) (wc := (wH c ah ag ar ps s7)) (As := [.int p0, .int p1]) (rest := [.int 0, .ref out]) ⟨hx, hb, hml, hown, hts⟩ (k_X7_play l G K c ah ag ar ps s7 p0 p1 r s7_r hm) (cwV 2 hts gL_play_X7_play rfl rfl rfl (by decide +kernel) ⟨Nat.le_of_ble_eq_true rfl, Nat.le_of_ble_eq_true rfl⟩) hK hN hZ hP hD hS hA (va_recv hK hP (ci := 7) (q0 := 1) rfl rfl) rfl hl.1 rfl (Nat.le_of_ble_eq_true rfl) dL_play_5 ⟨Nat.le_of_ble_eq_true rfl, Nat.le_of_ble_eq_true rfl⟩ (fun H locs hP hD hS => ?_)
  refine lv_i2l (v := r.toInt64) hx hb dL_play_8 rfl ?_
  refine va_last (D := G) hx hb hK hP hD hS 0 1 rfl rfl (inb_s (by decide)) dL_play_9 (fun H locs hP hD hS => ?_)
  refine lv_goto (tgt := 25) hx hb dL_play_10 (by decide) ?_
  refine lv_iconst (v := 0) hx hb dL_play_25 (by decide) ?_
  exact hend H locs ls _ (fun _ => 0) hP hD hS dL_play_26
abbrev rmL_draw : Room := { frames := 8, cells := 0, slots := 0, locals := 170 }
theorem w_draw (l : Launch) (G : va_G) (K : (Nat → Nat) × (Nat → Nat)) (c : Nat → ClassId) (ah : Nat → Nat) (ag : Nat → Nat → Nat) (ar : Nat → Nat) (ps : PS) (s7 : HS) (r : Int32) (s7_r : HS) (hm : f_X7_draw s7 = some (r, s7_r)) (out : Nat) (f : Nat → Int64) : zLi l yL_draw wsL_draw rmL_draw G K (TY c) [.ref (ah 0), .ref out] (wQ c out f ++ (wH c ah ag ar ps s7)) (fun _ => wQ c out (vp_updL f (0 : Int32).toNatClampNeg r.toInt64) ++ (wH c ah ag ar ps s7_r)) 0 0 0 := by
  refine zLi.of (cc := cL_draw) (maxL := 3) (hh := [(0, 8, 11, 53)]) (lv := [(0, .ref (ah 0)), (1, .ref out)]) (by decide) rfl (Nat.le_of_ble_eq_true rfl) rfl ?_
  intro p e s m args below meth c1 A Q H locs hx hb hml htab hown hts hK hN hZ hXA hXW hNC hP hD hA hS hend ls hl
  have hown : s.vm.findClass RL = some m.cls := hown
  refine lv_aload_n hx hb dL_draw_0 rfl (lv_at hl 1 rfl) ?_
  refine lv_iconst (v := 0) hx hb dL_draw_1 (by decide) ?_
  refine lv_aload_n hx hb dL_draw_2 rfl (lv_at hl 0 rfl) ?_
  refine zcFVi (wr := wQ c out f) (wc := (wH c ah ag ar ps s7)) (As := []) (rest := [.int 0, .ref out]) ⟨hx, hb, hml, hown, hts⟩ (k_X7_draw l G K c ah ag ar ps s7 r s7_r hm) (cwV 0 hts gL_draw_X7_draw rfl rfl rfl (by decide +kernel) ⟨Nat.le_of_ble_eq_true rfl, Nat.le_of_ble_eq_true rfl⟩) hK hN hZ hP hD hS hA (va_recv hK hP (ci := 7) (q0 := 1) rfl rfl) rfl hl.1 rfl (Nat.le_of_ble_eq_true rfl) dL_draw_3 ⟨Nat.le_of_ble_eq_true rfl, Nat.le_of_ble_eq_true rfl⟩ (fun H locs hP hD hS => ?_)
  refine lv_i2l (v := r.toInt64) hx hb dL_draw_6 rfl ?_
  refine va_last (D := G) hx hb hK hP hD hS 0 1 rfl rfl (inb_s (by decide)) dL_draw_7 (fun H locs hP hD hS => ?_)
  refine lv_goto (tgt := 14) hx hb dL_draw_8 (by decide) ?_
  refine lv_iconst (v := 0) hx hb dL_draw_14 (by decide) ?_
  exact hend H locs ls _ (fun _ => 0) hP hD hS dL_draw_15
abbrev rmL_pass : Room := { frames := 8, cells := 0, slots := 0, locals := 170 }
theorem w_pass (l : Launch) (G : va_G) (K : (Nat → Nat) × (Nat → Nat)) (c : Nat → ClassId) (ah : Nat → Nat) (ag : Nat → Nat → Nat) (ar : Nat → Nat) (ps : PS) (s7 : HS) (r : Int32) (s7_r : HS) (hm : f_X7_pass s7 = some (r, s7_r)) (out : Nat) (f : Nat → Int64) : zLi l yL_pass wsL_pass rmL_pass G K (TY c) [.ref (ah 0), .ref out] (wQ c out f ++ (wH c ah ag ar ps s7)) (fun _ => wQ c out (vp_updL f (0 : Int32).toNatClampNeg r.toInt64) ++ (wH c ah ag ar ps s7_r)) 0 0 0 := by
  refine zLi.of (cc := cL_pass) (maxL := 3) (hh := [(0, 8, 11, 53)]) (lv := [(0, .ref (ah 0)), (1, .ref out)]) (by decide) rfl (Nat.le_of_ble_eq_true rfl) rfl ?_
  intro p e s m args below meth c1 A Q H locs hx hb hml htab hown hts hK hN hZ hXA hXW hNC hP hD hA hS hend ls hl
  have hown : s.vm.findClass RL = some m.cls := hown
  refine lv_aload_n hx hb dL_pass_0 rfl (lv_at hl 1 rfl) ?_
  refine lv_iconst (v := 0) hx hb dL_pass_1 (by decide) ?_
  refine lv_aload_n hx hb dL_pass_2 rfl (lv_at hl 0 rfl) ?_
  refine zcFVi (wr := wQ c out f) (wc := (wH c ah ag ar ps s7)) (As := []) (rest := [.int 0, .ref out]) ⟨hx, hb, hml, hown, hts⟩ (k_X7_pass l G K c ah ag ar ps s7 r s7_r hm) (cwV 0 hts gL_pass_X7_pass rfl rfl rfl (by decide +kernel) ⟨Nat.le_of_ble_eq_true rfl, Nat.le_of_ble_eq_true rfl⟩) hK hN hZ hP hD hS hA (va_recv hK hP (ci := 7) (q0 := 1) rfl rfl) rfl hl.1 rfl (Nat.le_of_ble_eq_true rfl) dL_pass_3 ⟨Nat.le_of_ble_eq_true rfl, Nat.le_of_ble_eq_true rfl⟩ (fun H locs hP hD hS => ?_)
  refine lv_i2l (v := r.toInt64) hx hb dL_pass_6 rfl ?_
  refine va_last (D := G) hx hb hK hP hD hS 0 1 rfl rfl (inb_s (by decide)) dL_pass_7 (fun H locs hP hD hS => ?_)
  refine lv_goto (tgt := 14) hx hb dL_pass_8 (by decide) ?_
  refine lv_iconst (v := 0) hx hb dL_pass_14 (by decide) ?_
  exact hend H locs ls _ (fun _ => 0) hP hD hS dL_pass_15
abbrev rmL_auto : Room := { frames := 8, cells := 0, slots := 0, locals := 190 }
theorem w_auto (l : Launch) (G : va_G) (K : (Nat → Nat) × (Nat → Nat)) (c : Nat → ClassId) (ah : Nat → Nat) (ag : Nat → Nat → Nat) (ar : Nat → Nat) (s7 : HS) (ps : PS) (p0 : Int32) (r : Int32) (s7_r : HS) (ps_r : PS) (hm : f_X7_auto s7 ps p0 = some (r, s7_r, ps_r)) (out : Nat) (f : Nat → Int64) : zLi l yL_auto wsL_auto rmL_auto G K (TY c) [.ref (ah 0), .int p0, .ref out] (wQ c out f ++ (wH c ah ag ar ps s7)) (fun _ => wQ c out (vp_updL f (0 : Int32).toNatClampNeg r.toInt64) ++ (wH c ah ag ar ps_r s7_r)) 0 0 0 := by
  refine zLi.of (cc := cL_auto) (maxL := 4) (hh := [(0, 9, 12, 13)]) (lv := [(0, .ref (ah 0)), (1, .int p0), (2, .ref out)]) (by decide) rfl (Nat.le_of_ble_eq_true rfl) rfl ?_
  intro p e s m args below meth c1 A Q H locs hx hb hml htab hown hts hK hN hZ hXA hXW hNC hP hD hA hS hend ls hl
  have hown : s.vm.findClass RL = some m.cls := hown
  refine lv_aload_n hx hb dL_auto_0 rfl (lv_at hl 2 rfl) ?_
  refine lv_iconst (v := 0) hx hb dL_auto_1 (by decide) ?_
  refine lv_aload_n hx hb dL_auto_2 rfl (lv_at hl 0 rfl) ?_
  refine lv_iload_n hx hb dL_auto_3 rfl (lv_at hl 1 rfl) ?_
  refine zcFVi (wr := wQ c out f) (wc := (wH c ah ag ar ps s7)) (As := [.int p0]) (rest := [.int 0, .ref out]) ⟨hx, hb, hml, hown, hts⟩ (k_X7_auto l G K c ah ag ar s7 ps p0 r s7_r ps_r hm) (cwV 1 hts gL_auto_X7_auto rfl rfl rfl (by decide +kernel) ⟨Nat.le_of_ble_eq_true rfl, Nat.le_of_ble_eq_true rfl⟩) hK hN hZ hP hD hS hA (va_recv hK hP (ci := 7) (q0 := 1) rfl rfl) rfl hl.1 rfl (Nat.le_of_ble_eq_true rfl) dL_auto_4 ⟨Nat.le_of_ble_eq_true rfl, Nat.le_of_ble_eq_true rfl⟩ (fun H locs hP hD hS => ?_)
  refine lv_i2l (v := r.toInt64) hx hb dL_auto_7 rfl ?_
  refine va_last (D := G) hx hb hK hP hD hS 0 1 rfl rfl (inb_s (by decide)) dL_auto_8 (fun H locs hP hD hS => ?_)
  refine lv_goto (tgt := 15) hx hb dL_auto_9 (by decide) ?_
  refine lv_iconst (v := 0) hx hb dL_auto_15 (by decide) ?_
  exact hend H locs ls _ (fun _ => 0) hP hD hS dL_auto_16
abbrev rmL_deal : Room := { frames := 8, cells := 0, slots := 0, locals := 146 }
theorem w_deal (l : Launch) (G : va_G) (K : (Nat → Nat) × (Nat → Nat)) (c : Nat → ClassId) (ah : Nat → Nat) (ag : Nat → Nat → Nat) (ar : Nat → Nat) (ps : PS) (s7 : HS) (p0 : Int32) (p1 : Int32) (r : Int32) (s7_r : HS) (hm : f_X7_deal s7 p0 p1 = some (r, s7_r)) (out : Nat) (f : Nat → Int64) : zLi l yL_deal wsL_deal rmL_deal G K (TY c) [.ref (ah 0), .int p0, .int p1, .ref out] (wQ c out f ++ (wH c ah ag ar ps s7)) (fun _ => wQ c out (vp_updL f (0 : Int32).toNatClampNeg r.toInt64) ++ (wH c ah ag ar ps s7_r)) 0 0 0 := by
  refine zLi.of (cc := cL_deal) (maxL := 5) (hh := [(0, 10, 13, 13), (0, 10, 17, 53)]) (lv := [(0, .ref (ah 0)), (1, .int p0), (2, .int p1), (3, .ref out)]) (by decide) rfl (Nat.le_of_ble_eq_true rfl) rfl ?_
  intro p e s m args below meth c1 A Q H locs hx hb hml htab hown hts hK hN hZ hXA hXW hNC hP hD hA hS hend ls hl
  have hown : s.vm.findClass RL = some m.cls := hown
  refine lv_aload_n hx hb dL_deal_0 rfl (lv_at hl 3 rfl) ?_
  refine lv_iconst (v := 0) hx hb dL_deal_1 (by decide) ?_
  refine lv_aload_n hx hb dL_deal_2 rfl (lv_at hl 0 rfl) ?_
  refine lv_iload_n hx hb dL_deal_3 rfl (lv_at hl 1 rfl) ?_
  refine lv_iload_n hx hb dL_deal_4 rfl (lv_at hl 2 rfl) ?_
  refine zcFVi (wr := wQ c out f) (wc := (wH c ah ag ar ps s7)) (As := [.int p0, .int p1]) (rest := [.int 0, .ref out]) ⟨hx, hb, hml, hown, hts⟩ (k_X7_deal l G K c ah ag ar ps s7 p0 p1 r s7_r hm) (cwV 2 hts gL_deal_X7_deal rfl rfl rfl (by decide +kernel) ⟨Nat.le_of_ble_eq_true rfl, Nat.le_of_ble_eq_true rfl⟩) hK hN hZ hP hD hS hA (va_recv hK hP (ci := 7) (q0 := 1) rfl rfl) rfl hl.1 rfl (Nat.le_of_ble_eq_true rfl) dL_deal_5 ⟨Nat.le_of_ble_eq_true rfl, Nat.le_of_ble_eq_true rfl⟩ (fun H locs hP hD hS => ?_)
  refine lv_i2l (v := r.toInt64) hx hb dL_deal_8 rfl ?_
  refine va_last (D := G) hx hb hK hP hD hS 0 1 rfl rfl (inb_s (by decide)) dL_deal_9 (fun H locs hP hD hS => ?_)
  refine lv_goto (tgt := 21) hx hb dL_deal_10 (by decide) ?_
  refine lv_iconst (v := 0) hx hb dL_deal_21 (by decide) ?_
  exact hend H locs ls _ (fun _ => 0) hP hD hS dL_deal_22
