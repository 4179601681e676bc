
def f_X7_load (s7 : HS) (p0 : Int32) : Option (Int32 × HS) :=
  if p0 < 0 then (none) else (if p0 ≤ (s7.2.2.2.2.1.2.1.1 0) then (bd2 (f_X3_read s7.2.2.2.2.1 p0) fun (r31 : Int32) (rd31 : RS) => if r31 = 0 then (bd1 (f_X7_remember (s7.1, s7.2.1, s7.2.2.1, s7.2.2.2.1, rd31, s7.2.2.2.2.2)) fun (s742 : HS) => bd1 (f_X1_takeOver s742.2.1 s742.2.2.2.2.1.2.2) fun (g56 : GS) => bd1 (f_X1_dealRound g56) fun (g63 : GS) => bd1 (f_X4_size g63.2.2.1) fun (r73 : Int32) => some (r73, (s742.1, g63, s742.2.2.1, s742.2.2.2.1, s742.2.2.2.2.1, s742.2.2.2.2.2))) else (some (r31, (s7.1, s7.2.1, s7.2.2.1, s7.2.2.2.1, rd31, s7.2.2.2.2.2)))) else (none))

abbrev rm_X7_load : Room := { frames := 107, cells := 0, slots := 0, locals := 4179 }
theorem hd_X7_load : yX7_load.cls = RX7 ∧ yX7_load.cls ≠ "java/lang/invoke/MethodHandle" ∧ yX7_load.cls ≠ "java/lang/invoke/VarHandle" ∧ (parseMethodDescriptor yX7_load.desc).map (fun d => d.parameters.length) = some 1 := by decide +kernel
set_option maxHeartbeats 4000000 in
set_option maxRecDepth 100000 in
theorem k_X7_load (l : Launch) (G : va_G) (K : (Nat → Nat) × (Nat → Nat)) (c : Nat → ClassId) (ah : Nat → Nat) (ag : Nat → Nat → Nat) (ar : Nat → Nat) (ps : PS) (s7 : HS) (p0 : Int32) (r : Int32) (s7_r : HS) (hm : f_X7_load s7 p0 = some (r, s7_r)) : zMi l yX7_load wsX7_load (rm_X7_load) G K (TY c) [.ref (ah 0), .int p0] (wH c ah ag ar ps s7) (wH c ah ag ar ps s7_r) r := by
  refine zMi.of (cc := cX7_load) (maxL := 3) (lv := [(0, .ref (ah 0)), (1, .int p0)]) (by decide) rfl (Nat.le_of_ble_eq_true rfl) rfl ?_
  intro p e s m args below meth c1 A Q H locs hx hb hml hown hts hK hN hZ hP hD hA hS hend ls hl
  have hown : s.vm.findClass RX7 = some m.cls := hown
  have hi_1 : ∀ w ∈ wsX10, w ∈ wsX7_load := (fun w h => List.mem_cons_of_mem _ (List.mem_append_left _ (List.mem_append_left _ (List.mem_append_left _ (List.mem_append_left _ (List.mem_append_left _ (List.mem_append_right _ (h))))))))
  have hi_3 : ∀ w ∈ wsX30, w ∈ wsX7_load := (fun w h => List.mem_cons_of_mem _ (List.mem_append_left _ (List.mem_append_left _ (List.mem_append_left _ (List.mem_append_left _ (List.mem_append_left _ (List.mem_append_left _ (List.mem_append_left _ (List.mem_append_right _ (h))))))))))
  have hi_5 : ∀ w ∈ wsX50, w ∈ wsX7_load := (fun w h => List.mem_cons_of_mem _ (List.mem_append_left _ (List.mem_append_left _ (List.mem_append_left _ (List.mem_append_left _ (List.mem_append_left _ (List.mem_append_left _ (List.mem_append_right _ (h)))))))))
  have hi_7 : ∀ w ∈ wsX70, w ∈ wsX7_load := (fun w h => List.mem_cons_of_mem _ (List.mem_append_left _ (List.mem_append_left _ (List.mem_append_left _ (List.mem_append_left _ (List.mem_append_left _ (List.mem_append_left _ (List.mem_append_left _ (List.mem_append_left _ (List.mem_append_right _ (h)))))))))))
  unfold f_X7_load at hm
  refine lv_iload_n hx hb dX7_load_0 rfl (lv_at hl 1 rfl) ?_
  refine lv_if_lt (tgt := 18) hx hb dX7_load_1 (by decide) (fun c_1 => ?_) (fun c_1 => ?_)
  · have hm := ifp c_1 hm
    cases hm
  · have hm := ifn c_1 hm
    refine lv_iload_n hx hb dX7_load_4 rfl (lv_at hl 1 rfl) ?_
    refine lv_aload_n hx hb dX7_load_5 rfl (lv_at hl 0 rfl) ?_
    refine va_get (D := G) (ci := 7) (v := .ref (ar 0)) (C := RX7) (T := TX7) (N := 7) hx hb hts hi_7 hown hK hP 0 rfl rfl 5 (by decide) (hts (.fieldLink RX7 26 "HubTrains" "reader" "LHubTrains$SetupReader;") (List.mem_of_getElem? (i := 3) rfl)) (fun _ h9 => h9) rfl dX7_load_6 ?_
    refine va_getN (D := G) (ci := 3) (v := .ref (ar 2)) (C := RX3) (T := TX3) (N := 11) hx hb hts hi_3 hown hK hP 102 rfl rfl 0 (by decide) (va_Nw.use rfl (nwf_HubTrains_40 hN.1)) (fun _ h9 => h9) rfl dX7_load_9 ?_
    refine va_getN (D := G) (ci := 5) (v := .int (s7.2.2.2.2.1.2.1.1 0)) (C := RX5) (T := TX5) (N := 7) hx hb hts hi_5 hown hK hP 104 rfl rfl 1 (by decide) (va_Nw.use rfl (nwf_HubTrains_44 hN.1)) (fun _ h9 => h9) rfl dX7_load_12 ?_
    refine lv_icmp_le (tgt := 26) hx hb dX7_load_15 (by decide) (fun c_15 => ?_) (fun c_15 => ?_)
    · have hm := ifp c_15 hm
      refine lv_aload_n hx hb dX7_load_26 rfl (lv_at hl 0 rfl) ?_
      refine va_get (D := G) (ci := 7) (v := .ref (ar 0)) (C := RX7) (T := TX7) (N := 7) hx hb hts hi_7 hown hK hP 0 rfl rfl 5 (by decide) (hts (.fieldLink RX7 26 "HubTrains" "reader" "LHubTrains$SetupReader;") (List.mem_of_getElem? (i := 3) rfl)) (fun _ h9 => h9) rfl dX7_load_27 ?_
      refine lv_iload_n hx hb dX7_load_30 rfl (lv_at hl 1 rfl) ?_
      obtain ⟨r31, rd31, e_31, hm⟩ := bd2_s hm
      refine zcVi (As := [.int p0]) (rest := []) ⟨hx, hb, hml, hown, hts⟩ (k_X3_read l G K c ar s7.2.2.2.2.1 p0 r31 rd31 e_31) (cwV 1 hts gX7_load_X3_read rfl rfl rfl hd_X3_read ⟨Nat.le_of_ble_eq_true rfl, Nat.le_of_ble_eq_true rfl⟩) hK hN hZ hP hD hS hA (va_recv hK hP (ci := 3) (q0 := 102) rfl rfl) [102, 103, 104, 105, 106, 107, 108, 109, 110, 111, 112, 113, 114, 115] rfl (by decide) rfl rfl hl.1 rfl (Nat.le_of_ble_eq_true rfl) dX7_load_31 ⟨Nat.zero_le _, Nat.zero_le _⟩ (fun H locs hP hD hS => ?_)
      have hP : va_P G vwCl (wH c ah ag ar ps (s7.1, s7.2.1, s7.2.2.1, s7.2.2.2.1, rd31, s7.2.2.2.2.2)) H := (congrArg (fun w => va_P G vwCl w H) (zsrd7 (c := c) (ah := ah) (ag := ag) (ar := ar) (ps := ps) (s := s7) (rd := rd31))).mp hP
      have hD : va_D A (wH c ah ag ar ps (s7.1, s7.2.1, s7.2.2.1, s7.2.2.2.1, rd31, s7.2.2.2.2.2)) := (congrArg (fun w => va_D A w) (zsrd7 (c := c) (ah := ah) (ag := ag) (ar := ar) (ps := ps) (s := s7) (rd := rd31))).mp hD
      refine lv_istore_n (lv' := [(2, .int r31), (0, .ref (ah 0)), (1, .int p0)]) hx hb dX7_load_34 rfl hl (by decide) rfl (fun ls hl => ?_)
      refine lv_iload_n hx hb dX7_load_35 rfl (lv_at hl 0 rfl) ?_
      refine lv_if_eq (tgt := 41) hx hb dX7_load_36 (by decide) (fun c_36 => ?_) (fun c_36 => ?_)
      · have hm := ifp c_36 hm
        refine lv_aload_n hx hb dX7_load_41 rfl (lv_at hl 1 rfl) ?_
        obtain ⟨s742, e_42, hm⟩ := bd1_s hm
        refine zcWv (As := []) (rest := []) ⟨hx, hb, hml, hown, hts⟩ (k_X7_remember l G K c ah ag ar ps (s7.1, s7.2.1, s7.2.2.1, s7.2.2.2.1, rd31, s7.2.2.2.2.2) s742 e_42) (cwV 0 hts gX7_load_X7_remember rfl rfl rfl hd_X7_remember ⟨Nat.le_of_ble_eq_true rfl, Nat.le_of_ble_eq_true rfl⟩) hK hN hZ hP hD hS hA (va_recv hK hP (ci := 7) (q0 := 0) rfl rfl) rfl hl.1 rfl (Nat.le_of_ble_eq_true rfl) dX7_load_42 ⟨Nat.zero_le _, Nat.zero_le _⟩ (fun H locs hP hD hS => ?_)
        have hP : va_P G vwCl (wH c ah ag ar ps s742) H := hP
        have hD : va_D A (wH c ah ag ar ps s742) := hD
        refine lv_aload_n hx hb dX7_load_45 rfl (lv_at hl 1 rfl) ?_
        refine va_get (D := G) (ci := 7) (v := .ref (ag 0 0)) (C := RX7) (T := TX7) (N := 7) hx hb hts hi_7 hown hK hP 0 rfl rfl 0 (by decide) (hts (.fieldLink RX7 10 "HubTrains" "game" "LHubTrains$Game;") (List.mem_of_getElem? (i := 4) rfl)) (fun _ h9 => h9) rfl dX7_load_46 ?_
        refine lv_aload_n hx hb dX7_load_49 rfl (lv_at hl 1 rfl) ?_
        refine va_get (D := G) (ci := 7) (v := .ref (ar 0)) (C := RX7) (T := TX7) (N := 7) hx hb hts hi_7 hown hK hP 0 rfl rfl 5 (by decide) (hts (.fieldLink RX7 26 "HubTrains" "reader" "LHubTrains$SetupReader;") (List.mem_of_getElem? (i := 3) rfl)) (fun _ h9 => h9) rfl dX7_load_50 ?_
        refine va_getN (D := G) (ci := 3) (v := .ref (ar 4)) (C := RX3) (T := TX3) (N := 11) hx hb hts hi_3 hown hK hP 102 rfl rfl 1 (by decide) (va_Nw.use rfl (nwf_HubTrains_64 hN.1)) (fun _ h9 => h9) rfl dX7_load_53 ?_
        obtain ⟨g56, e_56, hm⟩ := bd1_s hm
        refine zcVv (As := [.ref (ar 4)]) (rest := []) ⟨hx, hb, hml, hown, hts⟩ (k_X1_takeOver l G K c (ag 0) (fun i => ar (i + 4)) s742.2.1 s742.2.2.2.2.1.2.2 g56 e_56) (cwV 1 hts gX7_load_X1_takeOver rfl rfl rfl hd_X1_takeOver ⟨Nat.le_of_ble_eq_true rfl, Nat.le_of_ble_eq_true rfl⟩) hK hN hZ hP hD hS hA (va_recv hK hP (ci := 1) (q0 := 2) rfl rfl) [2, 3, 4, 5, 6, 7, 8, 9, 10, 11, 106, 107, 108, 109, 110, 111, 112, 113, 114, 115] rfl (by decide) rfl rfl hl.1 rfl (Nat.le_of_ble_eq_true rfl) dX7_load_56 ⟨Nat.zero_le _, Nat.zero_le _⟩ (fun H locs hP hD hS => ?_)
        have hP : va_P G vwCl (wH c ah ag ar ps (s742.1, g56, s742.2.2.1, s742.2.2.2.1, s742.2.2.2.2.1, s742.2.2.2.2.2)) H := (congrArg (fun w => va_P G vwCl w H) (zs_gr (c := c) (ah := ah) (ag := ag) (ar := ar) (ps := ps) (s := s742) (g := g56))).mp hP
        have hD : va_D A (wH c ah ag ar ps (s742.1, g56, s742.2.2.1, s742.2.2.2.1, s742.2.2.2.2.1, s742.2.2.2.2.2)) := (congrArg (fun w => va_D A w) (zs_gr (c := c) (ah := ah) (ag := ag) (ar := ar) (ps := ps) (s := s742) (g := g56))).mp hD
        refine lv_aload_n hx hb dX7_load_59 rfl (lv_at hl 1 rfl) ?_
        refine va_get (D := G) (ci := 7) (v := .ref (ag 0 0)) (C := RX7) (T := TX7) (N := 7) hx hb hts hi_7 hown hK hP 0 rfl rfl 0 (by decide) (hts (.fieldLink RX7 10 "HubTrains" "game" "LHubTrains$Game;") (List.mem_of_getElem? (i := 4) rfl)) (fun _ h9 => h9) rfl dX7_load_60 ?_
        obtain ⟨g63, e_63, hm⟩ := bd1_s hm
        refine zcVv (As := []) (rest := []) ⟨hx, hb, hml, hown, hts⟩ (k_X1_dealRound l G K c (ag 0) g56 g63 e_63) (cwV 0 hts gX7_load_X1_dealRound rfl rfl rfl hd_X1_dealRound ⟨Nat.le_of_ble_eq_true rfl, Nat.le_of_ble_eq_true rfl⟩) hK hN hZ hP hD hS hA (va_recv hK hP (ci := 1) (q0 := 2) rfl rfl) [2, 3, 4, 5, 6, 7, 8, 9, 10, 11] rfl (by decide) rfl rfl hl.1 rfl (Nat.le_of_ble_eq_true rfl) dX7_load_63 ⟨Nat.zero_le _, Nat.zero_le _⟩ (fun H locs hP hD hS => ?_)
        have hP : va_P G vwCl (wH c ah ag ar ps (s742.1, g63, s742.2.2.1, s742.2.2.2.1, s742.2.2.2.2.1, s742.2.2.2.2.2)) H := (congrArg (fun w => va_P G vwCl w H) (zsg (c := c) (ah := ah) (ag := ag) (ar := ar) (ps := ps) (s := (s742.1, g56, s742.2.2.1, s742.2.2.2.1, s742.2.2.2.2.1, s742.2.2.2.2.2)) (g := g63))).mp hP
        have hD : va_D A (wH c ah ag ar ps (s742.1, g63, s742.2.2.1, s742.2.2.2.1, s742.2.2.2.2.1, s742.2.2.2.2.2)) := (congrArg (fun w => va_D A w) (zsg (c := c) (ah := ah) (ag := ag) (ar := ar) (ps := ps) (s := (s742.1, g56, s742.2.2.1, s742.2.2.2.1, s742.2.2.2.2.1, s742.2.2.2.2.2)) (g := g63))).mp hD
        refine lv_aload_n hx hb dX7_load_66 rfl (lv_at hl 1 rfl) ?_
        refine va_get (D := G) (ci := 7) (v := .ref (ag 0 0)) (C := RX7) (T := TX7) (N := 7) hx hb hts hi_7 hown hK hP 0 rfl rfl 0 (by decide) (hts (.fieldLink RX7 10 "HubTrains" "game" "LHubTrains$Game;") (List.mem_of_getElem? (i := 4) rfl)) (fun _ h9 => h9) rfl dX7_load_67 ?_
        refine va_getN (D := G) (ci := 1) (v := .ref (ag 0 3)) (C := RX1) (T := TX1) (N := 16) hx hb hts hi_1 hown hK hP 2 rfl rfl 14 (by decide) (va_Nw.use rfl (nwf_HubTrains_69 hN.1)) (fun _ h9 => h9) rfl dX7_load_70 ?_
        obtain ⟨r73, e_73, hm⟩ := bd1_s hm
        refine zcVi (As := []) (rest := []) ⟨hx, hb, hml, hown, hts⟩ (k_X4_size l G K c (ag 0 3) (ag 0 4) g63.2.2.1 r73 e_73) (cwV 0 hts gX7_load_X4_size rfl rfl rfl hd_X4_size ⟨Nat.le_of_ble_eq_true rfl, Nat.le_of_ble_eq_true rfl⟩) hK hN hZ hP hD hS hA (va_recv hK hP (ci := 4) (q0 := 5) rfl rfl) [5, 6] rfl (by decide) rfl rfl hl.1 rfl (Nat.le_of_ble_eq_true rfl) dX7_load_73 ⟨Nat.zero_le _, Nat.zero_le _⟩ (fun H locs hP hD hS => ?_)
        have hP : va_P G vwCl (wH c ah ag ar ps (s742.1, g63, s742.2.2.1, s742.2.2.2.1, s742.2.2.2.2.1, s742.2.2.2.2.2)) H := (congrArg (fun w => va_P G vwCl w H) (zset_id _ _ _ rfl)).mp hP
        have hD : va_D A (wH c ah ag ar ps (s742.1, g63, s742.2.2.1, s742.2.2.2.1, s742.2.2.2.2.1, s742.2.2.2.2.2)) := (congrArg (fun w => va_D A w) (zset_id _ _ _ rfl)).mp hD
        exact hend H locs ls _ _ _ rfl (Prod.mk.inj (Option.some.inj hm)).1 (zc1 (fun (z0 : HS) => (wH c ah ag ar ps z0 : va_W)) (Prod.mk.inj (Option.some.inj hm)).2) hP hD hS dX7_load_76
      · have hm := ifn c_36 hm
        refine lv_iload_n hx hb dX7_load_39 rfl (lv_at hl 0 rfl) ?_
        exact hend H locs ls _ _ _ rfl (Prod.mk.inj (Option.some.inj hm)).1 (zc1 (fun (z0 : HS) => (wH c ah ag ar ps z0 : va_W)) (Prod.mk.inj (Option.some.inj hm)).2) hP hD hS dX7_load_40
    · have hm := ifn c_15 hm
      cases hm

theorem zs_load {c : Nat → ClassId} {ah : Nat → Nat} {ag : Nat → Nat → Nat} {ar : Nat → Nat} {ps : PS} {s : HS} {rd : RS} {q0 q1 q2 n : Nat} {f : SA} : zset (wH c ah ag ar ps s) [102, 103, 104, 105, 106, 107, 108, 109, 110, 111, 112, 113, 114, 115] (wR c ar rd) ++ wF c q0 q1 q2 n f = wH c ah ag ar (ps ++ [(q0, q1, q2, n, f)]) (s.1, s.2.1, s.2.2.1, s.2.2.2.1, rd, s.2.2.2.2.2) := by
  rw [zsrd7]
  simp only [wH, wP_app, wP_cons, List.append_assoc]
  rw [show wP c [] = [] from rfl, List.append_nil]

def hFn (rd1 : RS) : Int32 := (rd1.1.1 5)
def hFs (rd1 : RS) : SA := sF (rd1.1.2 0) (rd1.1.1 5)

def v_X7_load (s7 : HS) (rd1 : RS) (fa : Nat) : Option (Int32 × HS) :=
  if (rd1.1.1 6) = 0 then (bd1 (f_X7_remember (s7.1, s7.2.1, s7.2.2.1, s7.2.2.2.1, (hF rd1 fa), s7.2.2.2.2.2)) fun (s742 : HS) => bd1 (f_X1_takeOver s742.2.1 s742.2.2.2.2.1.2.2) fun (g56 : GS) => bd1 (f_X1_dealRound g56) fun (g63 : GS) => bd1 (f_X4_size g63.2.2.1) fun (r73 : Int32) => some (r73, (s742.1, g63, s742.2.2.1, s742.2.2.2.1, s742.2.2.2.2.1, s742.2.2.2.2.2))) else (some ((rd1.1.1 6), (s7.1, s7.2.1, s7.2.2.1, s7.2.2.2.1, (hF rd1 fa), s7.2.2.2.2.2)))

abbrev rmf_X7_load : Room := { frames := 107, cells := 3, slots := 518, locals := 4179 }
set_option maxHeartbeats 4000000 in
set_option maxRecDepth 100000 in
theorem kf_X7_load (l : Launch) (G : va_G) (K : (Nat → Nat) × (Nat → Nat)) (c : Nat → ClassId) (ah : Nat → Nat) (ag : Nat → Nat → Nat) (ar : Nat → Nat) (ps : PS) (s7 : HS) (p0 : Int32) (rd1 : RS) (r : Int32) (s7r : Nat → HS) (hge : ¬ p0 < 0) (hle : p0 ≤ s7.2.2.2.2.1.2.1.1 0) (hrd : g_X3_read s7.2.2.2.2.1 p0 = some rd1) (h0 : ¬ hFn rd1 < 0) (hlt : hFn rd1 < 500) (hm : ∀ fa, v_X7_load s7 rd1 fa = some (r, s7r fa)) : zAi l yX7_load wsX7_load rmf_X7_load G K (TY c) [.ref (ah 0), .int p0] (wH c ah ag ar ps s7) (fun a31 => wH c ah ag ar (ps ++ [(a31 0, a31 1, a31 2, (hFn rd1).toNatClampNeg, hFs rd1)]) (s7r (a31 0))) r 3 518 := by
  refine zAi.of (cc := cX7_load) (maxL := 3) (lv := [(0, .ref (ah 0)), (1, .int p0)]) (by decide) rfl (Nat.le_of_ble_eq_true rfl) rfl ?_
  intro p e s m args below meth c1 A Q H locs hx hb hml hown hts hK hN hZ hXA hP hD hA hS hend ls hl
  have hown : s.vm.findClass RX7 = some m.cls := hown
  have hi_1 : ∀ w ∈ wsX10, w ∈ wsX7_load := (fun w h => List.mem_cons_of_mem _ (List.mem_append_left _ (List.mem_append_left _ (List.mem_append_left _ (List.mem_append_left _ (List.mem_append_left _ (List.mem_append_right _ (h))))))))
  have hi_3 : ∀ w ∈ wsX30, w ∈ wsX7_load := (fun w h => List.mem_cons_of_mem _ (List.mem_append_left _ (List.mem_append_left _ (List.mem_append_left _ (List.mem_append_left _ (List.mem_append_left _ (List.mem_append_left _ (List.mem_append_left _ (List.mem_append_right _ (h))))))))))
  have hi_5 : ∀ w ∈ wsX50, w ∈ wsX7_load := (fun w h => List.mem_cons_of_mem _ (List.mem_append_left _ (List.mem_append_left _ (List.mem_append_left _ (List.mem_append_left _ (List.mem_append_left _ (List.mem_append_left _ (List.mem_append_right _ (h)))))))))
  have hi_7 : ∀ w ∈ wsX70, w ∈ wsX7_load := (fun w h => List.mem_cons_of_mem _ (List.mem_append_left _ (List.mem_append_left _ (List.mem_append_left _ (List.mem_append_left _ (List.mem_append_left _ (List.mem_append_left _ (List.mem_append_left _ (List.mem_append_left _ (List.mem_append_right _ (h)))))))))))
  refine lv_iload_n hx hb dX7_load_0 rfl (lv_at hl 1 rfl) ?_
  refine lv_if_lt (tgt := 18) hx hb dX7_load_1 (by decide) (fun c_1 => absurd c_1 hge) (fun _ => ?_)
  refine lv_iload_n hx hb dX7_load_4 rfl (lv_at hl 1 rfl) ?_
  refine lv_aload_n hx hb dX7_load_5 rfl (lv_at hl 0 rfl) ?_
  refine va_get (D := G) (ci := 7) (v := .ref (ar 0)) (C := RX7) (T := TX7) (N := 7) hx hb hts hi_7 hown hK hP 0 rfl rfl 5 (by decide) (hts (.fieldLink RX7 26 "HubTrains" "reader" "LHubTrains$SetupReader;") (List.mem_of_getElem? (i := 3) rfl)) (fun _ h9 => h9) rfl dX7_load_6 ?_
  refine va_getN (D := G) (ci := 3) (v := .ref (ar 2)) (C := RX3) (T := TX3) (N := 11) hx hb hts hi_3 hown hK hP 102 rfl rfl 0 (by decide) (va_Nw.use rfl (nwf_HubTrains_40 hN.1)) (fun _ h9 => h9) rfl dX7_load_9 ?_
  refine va_getN (D := G) (ci := 5) (v := .int (s7.2.2.2.2.1.2.1.1 0)) (C := RX5) (T := TX5) (N := 7) hx hb hts hi_5 hown hK hP 104 rfl rfl 1 (by decide) (va_Nw.use rfl (nwf_HubTrains_44 hN.1)) (fun _ h9 => h9) rfl dX7_load_12 ?_
  refine lv_icmp_le (tgt := 26) hx hb dX7_load_15 (by decide) (fun _ => ?_) (fun c_15 => absurd hle c_15)
  refine lv_aload_n hx hb dX7_load_26 rfl (lv_at hl 0 rfl) ?_
  refine va_get (D := G) (ci := 7) (v := .ref (ar 0)) (C := RX7) (T := TX7) (N := 7) hx hb hts hi_7 hown hK hP 0 rfl rfl 5 (by decide) (hts (.fieldLink RX7 26 "HubTrains" "reader" "LHubTrains$SetupReader;") (List.mem_of_getElem? (i := 3) rfl)) (fun _ h9 => h9) rfl dX7_load_27 ?_
  refine lv_iload_n hx hb dX7_load_30 rfl (lv_at hl 1 rfl) ?_
  refine zcAi (w1 := fun a => wR c ar (hF rd1 (a 0))) (wn := fun a => wF c (a 0) (a 1) (a 2) (hFn rd1).toNatClampNeg (hFs rd1)) (As := [.int p0]) (rest := []) ⟨hx, hb, hml, hown, hts⟩ (kf_X3_read l G K c ar s7.2.2.2.2.1 p0 rd1 hrd h0 hlt) (cwV 1 hts gX7_load_X3_read rfl rfl rfl hd_X3_read ⟨Nat.le_of_ble_eq_true rfl, Nat.le_of_ble_eq_true rfl⟩) hK hN hZ hXA hP hD hS hA (va_recv hK hP (ci := 3) (q0 := 102) rfl rfl) [102, 103, 104, 105, 106, 107, 108, 109, 110, 111, 112, 113, 114, 115] rfl (by decide) (fun _ => rfl) rfl hl.1 rfl (Nat.le_of_ble_eq_true rfl) dX7_load_31 ⟨Nat.le_of_ble_eq_true rfl, Nat.le_of_ble_eq_true rfl⟩ (fun a31 H locs hP hD hS => ?_)
  have hP : va_P G vwCl (wH c ah ag ar (ps ++ [(a31 0, a31 1, a31 2, (hFn rd1).toNatClampNeg, hFs rd1)]) (s7.1, s7.2.1, s7.2.2.1, s7.2.2.2.1, hF rd1 (a31 0), s7.2.2.2.2.2)) H := (congrArg (fun w => va_P G vwCl w H) zs_load).mp hP
  have hD : va_D A (wH c ah ag ar (ps ++ [(a31 0, a31 1, a31 2, (hFn rd1).toNatClampNeg, hFs rd1)]) (s7.1, s7.2.1, s7.2.2.1, s7.2.2.2.1, hF rd1 (a31 0), s7.2.2.2.2.2)) := (congrArg (fun w => va_D A w) zs_load).mp hD
  have hm := hm (a31 0)
  unfold v_X7_load at hm
  refine lv_istore_n (lv' := [(2, .int (rd1.1.1 6)), (0, .ref (ah 0)), (1, .int p0)]) hx hb dX7_load_34 rfl hl (by decide) rfl (fun ls hl => ?_)
  refine lv_iload_n hx hb dX7_load_35 rfl (lv_at hl 0 rfl) ?_
  refine lv_if_eq (tgt := 41) hx hb dX7_load_36 (by decide) (fun c_36 => ?_) (fun c_36 => ?_)
  · have hm := ifp c_36 hm
    refine lv_aload_n hx hb dX7_load_41 rfl (lv_at hl 1 rfl) ?_
    obtain ⟨s742, e_42, hm⟩ := bd1_s hm
    refine zcWv (As := []) (rest := []) ⟨hx, hb, hml, hown, hts⟩ (k_X7_remember l G K c ah ag ar (ps ++ [(a31 0, a31 1, a31 2, (hFn rd1).toNatClampNeg, hFs rd1)]) (s7.1, s7.2.1, s7.2.2.1, s7.2.2.2.1, (hF rd1 (a31 0)), s7.2.2.2.2.2) s742 e_42) (cwV 0 hts gX7_load_X7_remember rfl rfl rfl hd_X7_remember ⟨Nat.le_of_ble_eq_true rfl, Nat.le_of_ble_eq_true rfl⟩) hK hN hZ hP hD hS hA (va_recv hK hP (ci := 7) (q0 := 0) rfl rfl) rfl hl.1 rfl (Nat.le_of_ble_eq_true rfl) dX7_load_42 ⟨Nat.le_of_ble_eq_true rfl, Nat.le_of_ble_eq_true rfl⟩ (fun H locs hP hD hS => ?_)
    have hP : va_P G vwCl (wH c ah ag ar (ps ++ [(a31 0, a31 1, a31 2, (hFn rd1).toNatClampNeg, hFs rd1)]) s742) H := hP
    have hD : va_D A (wH c ah ag ar (ps ++ [(a31 0, a31 1, a31 2, (hFn rd1).toNatClampNeg, hFs rd1)]) s742) := hD
    refine lv_aload_n hx hb dX7_load_45 rfl (lv_at hl 1 rfl) ?_
    refine va_get (D := G) (ci := 7) (v := .ref (ag 0 0)) (C := RX7) (T := TX7) (N := 7) hx hb hts hi_7 hown hK hP 0 rfl rfl 0 (by decide) (hts (.fieldLink RX7 10 "HubTrains" "game" "LHubTrains$Game;") (List.mem_of_getElem? (i := 4) rfl)) (fun _ h9 => h9) rfl dX7_load_46 ?_
    refine lv_aload_n hx hb dX7_load_49 rfl (lv_at hl 1 rfl) ?_
    refine va_get (D := G) (ci := 7) (v := .ref (ar 0)) (C := RX7) (T := TX7) (N := 7) hx hb hts hi_7 hown hK hP 0 rfl rfl 5 (by decide) (hts (.fieldLink RX7 26 "HubTrains" "reader" "LHubTrains$SetupReader;") (List.mem_of_getElem? (i := 3) rfl)) (fun _ h9 => h9) rfl dX7_load_50 ?_
    refine va_getN (D := G) (ci := 3) (v := .ref (ar 4)) (C := RX3) (T := TX3) (N := 11) hx hb hts hi_3 hown hK hP 102 rfl rfl 1 (by decide) (va_Nw.use rfl (nwf_HubTrains_64 hN.1)) (fun _ h9 => h9) rfl dX7_load_53 ?_
    obtain ⟨g56, e_56, hm⟩ := bd1_s hm
    refine zcVv (As := [.ref (ar 4)]) (rest := []) ⟨hx, hb, hml, hown, hts⟩ (k_X1_takeOver l G K c (ag 0) (fun i => ar (i + 4)) s742.2.1 s742.2.2.2.2.1.2.2 g56 e_56) (cwV 1 hts gX7_load_X1_takeOver rfl rfl rfl hd_X1_takeOver ⟨Nat.le_of_ble_eq_true rfl, Nat.le_of_ble_eq_true rfl⟩) hK hN hZ hP hD hS hA (va_recv hK hP (ci := 1) (q0 := 2) rfl rfl) [2, 3, 4, 5, 6, 7, 8, 9, 10, 11, 106, 107, 108, 109, 110, 111, 112, 113, 114, 115] rfl (by decide) rfl rfl hl.1 rfl (Nat.le_of_ble_eq_true rfl) dX7_load_56 ⟨Nat.le_of_ble_eq_true rfl, Nat.le_of_ble_eq_true rfl⟩ (fun H locs hP hD hS => ?_)
    have hP : va_P G vwCl (wH c ah ag ar (ps ++ [(a31 0, a31 1, a31 2, (hFn rd1).toNatClampNeg, hFs rd1)]) (s742.1, g56, s742.2.2.1, s742.2.2.2.1, s742.2.2.2.2.1, s742.2.2.2.2.2)) H := (congrArg (fun w => va_P G vwCl w H) (zs_gr (c := c) (ah := ah) (ag := ag) (ar := ar) (ps := (ps ++ [(a31 0, a31 1, a31 2, (hFn rd1).toNatClampNeg, hFs rd1)])) (s := s742) (g := g56))).mp hP
    have hD : va_D A (wH c ah ag ar (ps ++ [(a31 0, a31 1, a31 2, (hFn rd1).toNatClampNeg, hFs rd1)]) (s742.1, g56, s742.2.2.1, s742.2.2.2.1, s742.2.2.2.2.1, s742.2.2.2.2.2)) := (congrArg (fun w => va_D A w) (zs_gr (c := c) (ah := ah) (ag := ag) (ar := ar) (ps := (ps ++ [(a31 0, a31 1, a31 2, (hFn rd1).toNatClampNeg, hFs rd1)])) (s := s742) (g := g56))).mp hD
    refine lv_aload_n hx hb dX7_load_59 rfl (lv_at hl 1 rfl) ?_
    refine va_get (D := G) (ci := 7) (v := .ref (ag 0 0)) (C := RX7) (T := TX7) (N := 7) hx hb hts hi_7 hown hK hP 0 rfl rfl 0 (by decide) (hts (.fieldLink RX7 10 "HubTrains" "game" "LHubTrains$Game;") (List.mem_of_getElem? (i := 4) rfl)) (fun _ h9 => h9) rfl dX7_load_60 ?_
    obtain ⟨g63, e_63, hm⟩ := bd1_s hm
    refine zcVv (As := []) (rest := []) ⟨hx, hb, hml, hown, hts⟩ (k_X1_dealRound l G K c (ag 0) g56 g63 e_63) (cwV 0 hts gX7_load_X1_dealRound rfl rfl rfl hd_X1_dealRound ⟨Nat.le_of_ble_eq_true rfl, Nat.le_of_ble_eq_true rfl⟩) hK hN hZ hP hD hS hA (va_recv hK hP (ci := 1) (q0 := 2) rfl rfl) [2, 3, 4, 5, 6, 7, 8, 9, 10, 11] rfl (by decide) rfl rfl hl.1 rfl (Nat.le_of_ble_eq_true rfl) dX7_load_63 ⟨Nat.le_of_ble_eq_true rfl, Nat.le_of_ble_eq_true rfl⟩ (fun H locs hP hD hS => ?_)
    have hP : va_P G vwCl (wH c ah ag ar (ps ++ [(a31 0, a31 1, a31 2, (hFn rd1).toNatClampNeg, hFs rd1)]) (s742.1, g63, s742.2.2.1, s742.2.2.2.1, s742.2.2.2.2.1, s742.2.2.2.2.2)) H := (congrArg (fun w => va_P G vwCl w H) (zsg (c := c) (ah := ah) (ag := ag) (ar := ar) (ps := (ps ++ [(a31 0, a31 1, a31 2, (hFn rd1).toNatClampNeg, hFs rd1)])) (s := (s742.1, g56, s742.2.2.1, s742.2.2.2.1, s742.2.2.2.2.1, s742.2.2.2.2.2)) (g := g63))).mp hP
    have hD : va_D A (wH c ah ag ar (ps ++ [(a31 0, a31 1, a31 2, (hFn rd1).toNatClampNeg, hFs rd1)]) (s742.1, g63, s742.2.2.1, s742.2.2.2.1, s742.2.2.2.2.1, s742.2.2.2.2.2)) := (congrArg (fun w => va_D A w) (zsg (c := c) (ah := ah) (ag := ag) (ar := ar) (ps := (ps ++ [(a31 0, a31 1, a31 2, (hFn rd1).toNatClampNeg, hFs rd1)])) (s := (s742.1, g56, s742.2.2.1, s742.2.2.2.1, s742.2.2.2.2.1, s742.2.2.2.2.2)) (g := g63))).mp hD
    refine lv_aload_n hx hb dX7_load_66 rfl (lv_at hl 1 rfl) ?_
    refine va_get (D := G) (ci := 7) (v := .ref (ag 0 0)) (C := RX7) (T := TX7) (N := 7) hx hb hts hi_7 hown hK hP 0 rfl rfl 0 (by decide) (hts (.fieldLink RX7 10 "HubTrains" "game" "LHubTrains$Game;") (List.mem_of_getElem? (i := 4) rfl)) (fun _ h9 => h9) rfl dX7_load_67 ?_
    refine va_getN (D := G) (ci := 1) (v := .ref (ag 0 3)) (C := RX1) (T := TX1) (N := 16) hx hb hts hi_1 hown hK hP 2 rfl rfl 14 (by decide) (va_Nw.use rfl (nwf_HubTrains_69 hN.1)) (fun _ h9 => h9) rfl dX7_load_70 ?_
    obtain ⟨r73, e_73, hm⟩ := bd1_s hm
    refine zcVi (As := []) (rest := []) ⟨hx, hb, hml, hown, hts⟩ (k_X4_size l G K c (ag 0 3) (ag 0 4) g63.2.2.1 r73 e_73) (cwV 0 hts gX7_load_X4_size rfl rfl rfl hd_X4_size ⟨Nat.le_of_ble_eq_true rfl, Nat.le_of_ble_eq_true rfl⟩) hK hN hZ hP hD hS hA (va_recv hK hP (ci := 4) (q0 := 5) rfl rfl) [5, 6] rfl (by decide) rfl rfl hl.1 rfl (Nat.le_of_ble_eq_true rfl) dX7_load_73 ⟨Nat.le_of_ble_eq_true rfl, Nat.le_of_ble_eq_true rfl⟩ (fun H locs hP hD hS => ?_)
    have hP : va_P G vwCl (wH c ah ag ar (ps ++ [(a31 0, a31 1, a31 2, (hFn rd1).toNatClampNeg, hFs rd1)]) (s742.1, g63, s742.2.2.1, s742.2.2.2.1, s742.2.2.2.2.1, s742.2.2.2.2.2)) H := (congrArg (fun w => va_P G vwCl w H) (zset_id _ _ _ rfl)).mp hP
    have hD : va_D A (wH c ah ag ar (ps ++ [(a31 0, a31 1, a31 2, (hFn rd1).toNatClampNeg, hFs rd1)]) (s742.1, g63, s742.2.2.1, s742.2.2.2.1, s742.2.2.2.2.1, s742.2.2.2.2.2)) := (congrArg (fun w => va_D A w) (zset_id _ _ _ rfl)).mp hD
    obtain ⟨e_r, e_s⟩ := Prod.mk.inj (Option.some.inj hm)
    rw [e_r]
    have hP : va_P G vwCl (wH c ah ag ar (ps ++ [(a31 0, a31 1, a31 2, (hFn rd1).toNatClampNeg, hFs rd1)]) (s7r (a31 0))) H := (congrArg (fun w => va_P G vwCl (wH c ah ag ar (ps ++ [(a31 0, a31 1, a31 2, (hFn rd1).toNatClampNeg, hFs rd1)]) w) H) e_s).mp hP
    have hD : va_D A (wH c ah ag ar (ps ++ [(a31 0, a31 1, a31 2, (hFn rd1).toNatClampNeg, hFs rd1)]) (s7r (a31 0))) := (congrArg (fun w => va_D A (wH c ah ag ar (ps ++ [(a31 0, a31 1, a31 2, (hFn rd1).toNatClampNeg, hFs rd1)]) w)) e_s).mp hD
    exact hend H locs ls _ a31 hP hD hS dX7_load_76
  · have hm := ifn c_36 hm
    refine lv_iload_n hx hb dX7_load_39 rfl (lv_at hl 0 rfl) ?_
    obtain ⟨e_r, e_s⟩ := Prod.mk.inj (Option.some.inj hm)
    rw [e_r]
    have hP : va_P G vwCl (wH c ah ag ar (ps ++ [(a31 0, a31 1, a31 2, (hFn rd1).toNatClampNeg, hFs rd1)]) (s7r (a31 0))) H := (congrArg (fun w => va_P G vwCl (wH c ah ag ar (ps ++ [(a31 0, a31 1, a31 2, (hFn rd1).toNatClampNeg, hFs rd1)]) w) H) e_s).mp hP
    have hD : va_D A (wH c ah ag ar (ps ++ [(a31 0, a31 1, a31 2, (hFn rd1).toNatClampNeg, hFs rd1)]) (s7r (a31 0))) := (congrArg (fun w => va_D A (wH c ah ag ar (ps ++ [(a31 0, a31 1, a31 2, (hFn rd1).toNatClampNeg, hFs rd1)]) w)) e_s).mp hD
    exact hend H locs ls _ a31 hP hD hS dX7_load_40
