abbrev rm_copyOf : Room := { frames := 1, cells := 1, slots := 500, locals := 40 }
theorem hd_copyOf : yJ7_copyOf_59c91.cls = RJ7 ∧ yJ7_copyOf_59c91.cls ≠ "java/lang/invoke/MethodHandle" ∧ yJ7_copyOf_59c91.cls ≠ "java/lang/invoke/VarHandle" ∧ (parseMethodDescriptor yJ7_copyOf_59c91.desc).map (fun d => d.parameters.length) = some 2 := by decide +kernel
theorem i32_max0 {n : Int32} (h0 : ¬ n < 0) : (if (0 : Int32) < n then n else 0) = n := by
  by_cases h : (0 : Int32) < n
  · exact if_pos h
  · rw [if_neg h]
    exact Int32.le_antisymm (Int32.not_lt.mp h0) (Int32.not_lt.mp h)
theorem i32_min500 {n : Int32} (h0 : ¬ n < 0) (hlt : n < 500) : n.toNatClampNeg < 500 := by
  have h1 : n.toInt < 500 := by simpa using Int32.lt_iff_toInt_lt.mp hlt
  show n.toInt.toNat < 500
  omega
set_option maxHeartbeats 4000000 in
set_option maxRecDepth 100000 in
theorem k_copyOf (l : Launch) (G : va_G) (K : (Nat → Nat) × (Nat → Nat)) (c : Nat → ClassId) (q : Nat) (f : Nat → Int32) (n : Int32) (h0 : ¬ n < 0) (hlt : n < 500) : zAr l yJ7_copyOf_59c91 wsJ7_copyOf_59c91 rm_copyOf G K (TY c) [.ref q, .int n] [(q, .inl (c 0, 500, .inl f))] (fun a => [(q, .inl (c 0, 500, .inl f))] ++ [(a, .inl (c 0, n.toNatClampNeg, .inl (va_cpy f (fun _ => 0) 0 0 n.toNatClampNeg)))]) 1 500 := by
  refine zAr.of (cc := cJ7_copyOf_59c91) (maxL := 3) (lv := [(0, .ref q), (1, .int n)]) (by decide) rfl (Nat.le_of_ble_eq_true rfl) rfl ?_
  intro p e s m args below meth c1 A Q H locs hx hb hml hown hts hK hN hZ hXA hP hD hA hS hend ls hl
  have hown : s.vm.findClass RJ7 = some m.cls := hown
  have hN5 := i32_min500 h0 hlt
  have hne : ¬ n = 500 := fun h => by rw [h] at hlt; exact absurd hlt (by decide)
  have hcp : cpg 0 0 n 500 n.toNatClampNeg = true := decide_eq_true ⟨by decide, by decide, h0, by show 0 + n.toNatClampNeg ≤ 500; omega, by show 0 + n.toNatClampNeg ≤ n.toNatClampNeg; omega⟩
  refine lv_iload_n hx hb dJ7_copyOf_59c91_0 rfl (lv_at hl 1 rfl) ?_
  refine lv_aload_n hx hb dJ7_copyOf_59c91_1 rfl (lv_at hl 0 rfl) ?_
  refine va_alen (D := G) (v := 500) hx hb hK hP 0 0 rfl rfl rfl dJ7_copyOf_59c91_2 ?_
  refine lv_icmp_ne (tgt := 14) hx hb dJ7_copyOf_59c91_3 (by decide) (fun c_3 => ?_) (fun c_3 => absurd c_3 (by first | exact hne | exact fun h => h hne | exact not_not.mpr hne))
  refine lv_iload_n hx hb dJ7_copyOf_59c91_14 rfl (lv_at hl 1 rfl) ?_
  refine va_newa (atype := .int) (ty := .int) (N' := n.toNatClampNeg) (a0 := (n.toNatClampNeg, .inl (fun _ => 0))) hx hb (hts (.arrayClass .int) (List.mem_of_getElem? (i := 7) rfl)) rfl hK hP hD hS hA (fun _ => rfl) h0 rfl (by show n.toNatClampNeg * 4 ≤ 536870912; omega) (Nat.le_of_ble_eq_true rfl) (by show 0 + n.toNatClampNeg ≤ 500; omega) dJ7_copyOf_59c91_15 (fun q9 cA H hK2 hP hD hS => ?_)
  obtain rfl := zcl0 hK2
  clear hK2
  have hP : va_P G vwCl ([(q, .inl (c 0, 500, .inl f))] ++ [(q9, .inl (c 0, n.toNatClampNeg, .inl (fun _ => 0)))]) H := hP
  have hD : va_D A ([(q, .inl (c 0, 500, .inl f))] ++ [(q9, .inl (c 0, n.toNatClampNeg, .inl (fun _ => 0)))]) := hD
  refine W.widen (k := 1) (n := 500) (Nat.le_refl _) (by omega) ?_
  refine lv_astore_n (lv' := [(2, .ref q9), (0, .ref q), (1, .int n)]) hx hb dJ7_copyOf_59c91_17 rfl hl (by decide) rfl (fun ls hl => ?_)
  refine lv_aload_n hx hb dJ7_copyOf_59c91_18 rfl (lv_at hl 1 rfl) ?_
  refine lv_iconst (v := 0) hx hb dJ7_copyOf_59c91_19 (by decide) ?_
  refine lv_aload_n hx hb dJ7_copyOf_59c91_20 rfl (lv_at hl 0 rfl) ?_
  refine lv_iconst (v := 0) hx hb dJ7_copyOf_59c91_21 (by decide) ?_
  refine lv_aload_n hx hb dJ7_copyOf_59c91_22 rfl (lv_at hl 1 rfl) ?_
  refine va_alen (D := G) (v := 500) hx hb hK hP 0 0 rfl rfl rfl dJ7_copyOf_59c91_23 ?_
  refine lv_iload_n hx hb dJ7_copyOf_59c91_24 rfl (lv_at hl 2 rfl) ?_
  refine va_mmin hx hb (hml.trans hl.1.symm) hown (hts (.methodLink RJ7 304 Lib.Math.min.name) (List.mem_of_getElem? (i := 8) rfl)) (hts (.static Lib.Math.min.name) (List.mem_of_getElem? (i := 9) rfl)) (hts (.initialized "java/lang/Math") (List.mem_of_getElem? (i := 10) rfl)) (hts (.code Lib.Math.min.name Lib.Math.min.code 2 (some .int)) (List.mem_of_getElem? (i := 11) rfl)) (Nat.le_of_ble_eq_true rfl) (Nat.le_of_ble_eq_true rfl) (Nat.le_of_ble_eq_true rfl) (Nat.le_of_ble_eq_true rfl) dJ7_copyOf_59c91_25 ?_
  rw [show (if n < (500 : Int32) then n else 500) = n from if_pos hlt]
  refine va_copyi (D := G) (ty := .int) hx hb (hml.trans hl.1.symm) hown (hts (.methodLink RJ7 150 arraycopyName) (List.mem_of_getElem? (i := 12) rfl)) (hts (.native arraycopyName) (List.mem_of_getElem? (i := 13) rfl)) (hts (.static arraycopyName) (List.mem_of_getElem? (i := 14) rfl)) (hts (.initialized "java/lang/System") (List.mem_of_getElem? (i := 15) rfl)) hK hP hD hS 0 1 0 0 rfl rfl rfl rfl rfl (cpg_s hcp).1 (cpg_s hcp).2.1 (cpg_s hcp).2.2.1 (cpg_s hcp).2.2.2.1 (cpg_s hcp).2.2.2.2 (fun _ _ => rfl) (Nat.le_of_ble_eq_true rfl) (Nat.le_of_ble_eq_true rfl) dJ7_copyOf_59c91_28 (fun H locs hP hD hS => ?_)
  have hP : va_P G vwCl ([(q, .inl (c 0, 500, .inl f))] ++ [(q9, .inl (c 0, n.toNatClampNeg, .inl (va_cpy f (fun _ => 0) 0 0 n.toNatClampNeg)))]) H := hP
  have hD : va_D A ([(q, .inl (c 0, 500, .inl f))] ++ [(q9, .inl (c 0, n.toNatClampNeg, .inl (va_cpy f (fun _ => 0) 0 0 n.toNatClampNeg)))]) := hD
  refine lv_aload_n hx hb dJ7_copyOf_59c91_31 rfl (lv_at hl 0 rfl) ?_
  exact hend H locs ls _ q9 hP hD hS dJ7_copyOf_59c91_32
abbrev rm_X0_init : Room := { frames := 2, cells := 2, slots := 516, locals := 62 }
theorem hd_X0_init : yX0_init.cls = RX0 ∧ yX0_init.cls ≠ "java/lang/invoke/MethodHandle" ∧ yX0_init.cls ≠ "java/lang/invoke/VarHandle" ∧ (parseMethodDescriptor yX0_init.desc).map (fun d => d.parameters.length) = some 2 := by decide +kernel
def sF (f : Nat → Int32) (n : Int32) : SA := (fun _ => 0, fun k => if k = 0 then va_cpy f (fun _ => 0) 0 0 n.toNatClampNeg else fun _ => 0)
set_option maxHeartbeats 4000000 in
set_option maxRecDepth 100000 in
theorem k_X0_init (l : Launch) (G : va_G) (K : (Nat → Nat) × (Nat → Nat)) (c : Nat → ClassId) (o q : Nat) (f : Nat → Int32) (n : Int32) (h0 : ¬ n < 0) (hlt : n < 500) : zAv l yX0_init wsX0_init rm_X0_init G K (TY c) [.ref o, .ref q, .int n] ([(o, .inr (0, [.null, .null]))] ++ [(q, .inl (c 0, 500, .inl f))]) (fun a => [(q, .inl (c 0, 500, .inl f))] ++ wF c (a 0) (a 1) (a 2) n.toNatClampNeg (sF f n)) (fun a => a 0 = o) 2 516 := by
  refine zAv.of (cc := cX0_init) (maxL := 3) (lv := [(0, .ref o), (1, .ref q), (2, .int n)]) (by decide) rfl (Nat.le_of_ble_eq_true rfl) rfl ?_
  intro p e s m args below meth c1 A Q H locs hx hb hml hown hin hts hK hN hZ hXA hP hD hA hS hend ls hl
  have hown : s.vm.findClass RX0 = some m.cls := hown
  have hi_0 : ∀ w ∈ wsX00, w ∈ wsX0_init := (fun w h => List.mem_cons_of_mem _ (List.mem_append_right _ (h)))
  refine lv_aload_n hx hb dX0_init_0 rfl (lv_at hl 0 rfl) ?_
  refine W.objInit hx hb hown (hts (.methodLink RX0 1 objectInit) (List.mem_of_getElem? (i := 1) rfl)) (hts (.instanceMethod objectInit) (List.mem_of_getElem? (i := 2) rfl)) (hts (.code objectInit ⟨#[0xb1]⟩ 1 none) (List.mem_of_getElem? (i := 3) rfl)) rfl (by rw [hml]; exact hl.1) rfl dX0_init_1 (Nat.le_of_ble_eq_true rfl) (Nat.le_of_ble_eq_true rfl) ?_
  refine W.eq (g2 := F0 m 4 ls []) rfl ?_
  refine lv_aload_n hx hb dX0_init_4 rfl (lv_at hl 0 rfl) ?_
  refine lv_bipush (v := 16) hx hb dX0_init_5 (by decide) ?_
  refine va_newa (atype := .int) (ty := .int) (N' := 16) (a0 := (16, .inl (fun _ => 0))) hx hb (hts (.arrayClass .int) (List.mem_of_getElem? (i := 4) rfl)) rfl hK hP hD hS hA (fun _ => rfl) (by decide) (by decide) (Nat.le_of_ble_eq_true rfl) (Nat.le_of_ble_eq_true rfl) (Nat.le_of_ble_eq_true rfl) dX0_init_7 (fun q7 cA H hK2 hP hD hS => ?_)
  obtain rfl := zcl0 hK2
  clear hK2
  have hP : va_P G vwCl ([(o, .inr (0, [.null, .null]))] ++ [(q, .inl (c 0, 500, .inl f))] ++ [(q7, .inl (c 0, 16, .inl (fun _ => 0)))]) H := hP
  have hD : va_D A ([(o, .inr (0, [.null, .null]))] ++ [(q, .inl (c 0, 500, .inl f))] ++ [(q7, .inl (c 0, 16, .inl (fun _ => 0)))]) := hD
  refine W.widen (k := 1) (n := 16) (Nat.le_refl _) (Nat.le_refl _) ?_
  refine va_putF (D := G) (ci := 0) (v := .ref q7) (C := RX0) (T := TX0) (N := 2) hx hb hts hi_0 tyX0 tyX0_ok nmX0 hown hK hP hD hS 0 rfl rfl 1 (by decide) (hts (.fieldLink RX0 9 "HubTrains$Formula" "waiting" "[I") (List.mem_of_getElem? (i := 5) rfl)) (fun _ h9 => h9) rfl hin rfl (tyX0_ok 1 (by decide)) rfl rfl (Nat.le_of_ble_eq_true rfl) dX0_init_9 (fun H locs hP hD hS => ?_)
  have hP : va_P G vwCl ([(o, .inr (0, [.null, .ref q7]))] ++ [(q, .inl (c 0, 500, .inl f))] ++ [(q7, .inl (c 0, 16, .inl (fun _ => 0)))]) H := hP
  have hD : va_D A ([(o, .inr (0, [.null, .ref q7]))] ++ [(q, .inl (c 0, 500, .inl f))] ++ [(q7, .inl (c 0, 16, .inl (fun _ => 0)))]) := hD
  refine lv_aload_n hx hb dX0_init_12 rfl (lv_at hl 0 rfl) ?_
  refine lv_aload_n hx hb dX0_init_13 rfl (lv_at hl 1 rfl) ?_
  refine lv_iconst (v := 0) hx hb dX0_init_14 (by decide) ?_
  refine lv_iload_n hx hb dX0_init_15 rfl (lv_at hl 2 rfl) ?_
  refine lv_aload_n hx hb dX0_init_16 rfl (lv_at hl 1 rfl) ?_
  refine va_alen (D := G) (v := 500) hx hb hK hP 1 0 rfl rfl rfl dX0_init_17 ?_
  refine va_mmin hx hb (hml.trans hl.1.symm) hown (hts (.methodLink RX0 13 Lib.Math.min.name) (List.mem_of_getElem? (i := 6) rfl)) (hts (.static Lib.Math.min.name) (List.mem_of_getElem? (i := 7) rfl)) (hts (.initialized "java/lang/Math") (List.mem_of_getElem? (i := 8) rfl)) (hts (.code Lib.Math.min.name Lib.Math.min.code 2 (some .int)) (List.mem_of_getElem? (i := 9) rfl)) (Nat.le_of_ble_eq_true rfl) (Nat.le_of_ble_eq_true rfl) (Nat.le_of_ble_eq_true rfl) (Nat.le_of_ble_eq_true rfl) dX0_init_18 ?_
  rw [show (if (500 : Int32) < n then 500 else n) = n from if_neg (fun h => Int32.lt_irrefl (Int32.lt_trans hlt h))]
  refine va_mmax hx hb (hml.trans hl.1.symm) hown (hts (.methodLink RX0 19 Lib.Math.max.name) (List.mem_of_getElem? (i := 10) rfl)) (hts (.static Lib.Math.max.name) (List.mem_of_getElem? (i := 11) rfl)) (hts (.initialized "java/lang/Math") (List.mem_of_getElem? (i := 8) rfl)) (hts (.code Lib.Math.max.name Lib.Math.max.code 2 (some .int)) (List.mem_of_getElem? (i := 12) rfl)) (Nat.le_of_ble_eq_true rfl) (Nat.le_of_ble_eq_true rfl) (Nat.le_of_ble_eq_true rfl) (Nat.le_of_ble_eq_true rfl) dX0_init_21 ?_
  rw [show (if (0 : Int32) < n then n else 0) = n from i32_max0 h0]
  refine zcASr (As := [.ref q, .int n]) (rest := [.ref o]) (w1 := fun _ => [(q, .inl (c 0, 500, .inl f))]) (wn := fun a => [(a, .inl (c 0, n.toNatClampNeg, .inl (va_cpy f (fun _ => 0) 0 0 n.toNatClampNeg)))]) ⟨hx, hb, hml, hown, hts⟩ (k_copyOf l G K c q f n h0 hlt) (va_cwS 2 hts gX0_init_J7_copyOf_59c91 rfl rfl rfl hd_copyOf.2 ⟨Nat.le_of_ble_eq_true rfl, Nat.le_of_ble_eq_true rfl⟩) hK hN hZ hXA hP hD hS hA [1] rfl (by decide) (fun _ => rfl) rfl hl.1 rfl (Nat.le_of_ble_eq_true rfl) dX0_init_24 ⟨Nat.le_of_ble_eq_true rfl, Nat.le_of_ble_eq_true rfl⟩ (fun q24 H locs hP hD hS => ?_)
  have hP : va_P G vwCl ([(o, .inr (0, [.null, .ref q7]))] ++ [(q, .inl (c 0, 500, .inl f))] ++ [(q7, .inl (c 0, 16, .inl (fun _ => 0)))] ++ [(q24, .inl (c 0, n.toNatClampNeg, .inl (va_cpy f (fun _ => 0) 0 0 n.toNatClampNeg)))]) H := hP
  have hD : va_D A ([(o, .inr (0, [.null, .ref q7]))] ++ [(q, .inl (c 0, 500, .inl f))] ++ [(q7, .inl (c 0, 16, .inl (fun _ => 0)))] ++ [(q24, .inl (c 0, n.toNatClampNeg, .inl (va_cpy f (fun _ => 0) 0 0 n.toNatClampNeg)))]) := hD
  refine va_putF (D := G) (ci := 0) (v := .ref q24) (C := RX0) (T := TX0) (N := 2) hx hb hts hi_0 tyX0 tyX0_ok nmX0 hown hK hP hD hS 0 rfl rfl 0 (by decide) (hts (.fieldLink RX0 28 "HubTrains$Formula" "steps" "[I") (List.mem_of_getElem? (i := 13) rfl)) (fun _ h9 => h9) rfl hin rfl (tyX0_ok 0 (by decide)) rfl rfl (Nat.le_of_ble_eq_true rfl) dX0_init_27 (fun H locs hP hD hS => ?_)
  have hP : va_P G vwCl ([(o, .inr (0, [.ref q24, .ref q7]))] ++ [(q, .inl (c 0, 500, .inl f))] ++ [(q7, .inl (c 0, 16, .inl (fun _ => 0)))] ++ [(q24, .inl (c 0, n.toNatClampNeg, .inl (va_cpy f (fun _ => 0) 0 0 n.toNatClampNeg)))]) H := hP
  have hD : va_D A ([(o, .inr (0, [.ref q24, .ref q7]))] ++ [(q, .inl (c 0, 500, .inl f))] ++ [(q7, .inl (c 0, 16, .inl (fun _ => 0)))] ++ [(q24, .inl (c 0, n.toNatClampNeg, .inl (va_cpy f (fun _ => 0) 0 0 n.toNatClampNeg)))]) := hD
  have hP9 := hP.sub (ws' := [(q, .inl (c 0, 500, .inl f))] ++ wF c o q24 q7 n.toNatClampNeg (sF f n)) [1, 0, 3, 2] rfl
  have hD9 := hD.sub (ws' := [(q, .inl (c 0, 500, .inl f))] ++ wF c o q24 q7 n.toNatClampNeg (sF f n)) [1, 0, 3, 2] (by decide) rfl
  exact hend H locs ls _ (fun i => [o, q24, q7].getD i 0) rfl hP9 hD9 hS dX0_init_30
