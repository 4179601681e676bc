def nn64 (r : UInt64) : Bool := decide (r &&& 0x7fffffffffffffff ≤ 0x7ff0000000000000)
theorem nn64_s {r : UInt64} (h : nn64 r = true) : vf_n64 r := (of_decide_eq_true h : r &&& 0x7fffffffffffffff ≤ 0x7ff0000000000000)
def zMd (l : Launch) (y : MethodName) (ws : List Cond) (rm : Room) (G : va_G) (K : (Nat → Nat) × (Nat → Nat)) (tys : List (ClassId × FieldType)) (av : List Value) (W0 W1 : va_W) (r : UInt64) : Prop := ∀ sz : Nat, Met l y ws rm (zPc G K tys av W0 sz) (va_Qd (fun (v : UInt64) (_ : Unit) => v = r) (zB G W1 (va_A W0 sz)) (va_A W0 sz)) 0 0 (va_A W0 sz)
theorem zMd.of {l : Launch} {y : MethodName} {ws ws' : List Cond} {rm : Room} {G : va_G} {K : (Nat → Nat) × (Nat → Nat)} {tys : List (ClassId × FieldType)} {av : List Value} {W0 W1 : va_W} {r : UInt64} {cc : ByteArray} {maxL : Nat}  {lv : List (Nat × Value)} (hy : plainName y.cls = true) (hw : ws = Cond.code y cc maxL (some .double) :: ws') (hsl : (lg_sl av).length ≤ maxL) (hlv : lv_args 0 av = lv) 
    (body : ∀ (p : Program) (e : Env) (s : State) (m : MethodId) (args : Array Value) (below : List Frame) (meth : Method) (c : Code) (A : Nat → Prop) (Q : State → Prop) (H : Heap) (locs : List Loc), p.tables.exec = Jvm.exec → c.code = cc → c.maxLocals = maxL → s.vm.findClass y.cls = some m.cls → (∀ w ∈ ws, w.before args s = true) → va_K G vwCl tys s → NW K s → ZE K A s s.heap → va_P G vwCl W0 H → va_D A W0 → (∀ q : Nat, s.heap.size ≤ q → A q) → va_S A s.heap H locs →
      (∀ (H : Heap) (locs : List Loc) (ls : Array Slot) (pc : Nat) (v : UInt64) (Wx : va_W), v = r → Wx = W1 → va_P G vwCl Wx H → va_D A Wx → va_S A s.heap H locs → decode cc pc = .ok (.dreturn, 1) → W p l e rm s m args below meth c H locs 0 0 Q (F0 m pc ls [.double v])) →
      ∀ ls : Array Slot, lv_has ls maxL lv → W p l e rm s m args below meth c H locs 0 0 Q (F0 m 0 ls [])) : zMd l y ws rm G K tys av W0 W1 r := by
  intro sz
  refine Met.ofW (cc := cc) (maxL := maxL) (ret := some .double) hy hw ?_
  intro p e s m args below meth c s₁ B hml hv
  obtain ⟨rfl, hsz, hP, hK, hN, hZ, hD0⟩ := hv
  subst hsz
  have hx := B.exec
  have hb := B.bytes
  have hlocks := B.notSynchronized
  rw [lg_entry_eq]
  refine body p e s m _ below meth c (va_A W0 s.heap.size) _ s.heap [] hx hb hml (findClass_of_methodNamed B.named) (atoms_spec (ws := ws) B.pre) hK hN hZ hP hD0.self (fun q h => Or.inr h) va_S.rf ?_ _ (hlv ▸ lv_entry av hsl)
  intro H locs ls pc v Wx hv hWx hP1 hD1 hS hdg
  subst hWx
  exact W.dret hx hb B.returns (fun t ht hW => ⟨⟨v, (), rfl, hv, by rw [ht]; exact hP1, hD1⟩, hS.F ht⟩) hS.2.2 hdg

def f_X8_meanPips_B11 (x : MS) (rec_11 : Int32 → Int32 → Int32 → Option (UInt64 × MS)) (v1_11 : Int32) (v2_11 : Int32) (v3_11 : Int32) : Option (UInt64 × MS) :=
  gd (inb 1 1464) <| if ((x.1.2 1) (1 : Int32).toNatClampNeg) ≤ v3_11 then (if v2_11 = 0 then (some (FP.dconst0, ((ss x.1 0 0), x.2))) else (gd (nn64 (FP.ddiv (FP.i2d v1_11) (FP.i2d v2_11))) <| some ((FP.ddiv (FP.i2d v1_11) (FP.i2d v2_11)), ((ss x.1 0 0), x.2)))) else (bd1 (f_X8_pips ((ss x.1 0 0), x.2) v3_11) fun (r24 : Int32) => bd1 (f_X8_hand ((ss x.1 0 0), x.2) v3_11) fun (r32 : Int32) => rec_11 (v1_11 + r24) (v2_11 + r32) (v3_11 + 1))

def f_X8_meanPips (x : MS) : Option (UInt64 × MS) :=
  itr3 (f_X8_meanPips_B11 x) FUEL 0 0 0

abbrev rm_X8_meanPips : Room := { frames := 2, cells := 0, slots := 0, locals := 45 }
theorem hd_X8_meanPips : yX8_meanPips.cls = RX8 ∧ yX8_meanPips.cls ≠ "java/lang/invoke/MethodHandle" ∧ yX8_meanPips.cls ≠ "java/lang/invoke/VarHandle" ∧ (parseMethodDescriptor yX8_meanPips.desc).map (fun d => d.parameters.length) = some 0 := by decide +kernel
set_option maxHeartbeats 4000000 in
set_option maxRecDepth 100000 in
theorem k_X8_meanPips (l : Launch) (G : va_G) (K : (Nat → Nat) × (Nat → Nat)) (c : Nat → ClassId) (ax : Nat → Nat) (x : MS) (r : UInt64) (x_r : MS) (hm : f_X8_meanPips x = some (r, x_r)) : zMd l yX8_meanPips wsX8_meanPips (rm_X8_meanPips) G K (TY c) [.ref (ax 0)] (wM c ax x) (wM c ax x_r) r := by
  refine zMd.of (cc := cX8_meanPips) (maxL := 4) (lv := [(0, .ref (ax 0))]) (by decide) rfl (Nat.le_of_ble_eq_true rfl) rfl ?_
  intro p e s m args below meth c1 A Q H locs hx hb hml hown hts hK hN hZ hP hD hA hS hend ls hl
  have hown : s.vm.findClass RX8 = some m.cls := hown
  have hi_8 : ∀ w ∈ wsX80, w ∈ wsX8_meanPips := (fun w h => List.mem_cons_of_mem _ (List.mem_append_right _ (h)))
  unfold f_X8_meanPips at hm
  refine lv_aload_n hx hb dX8_meanPips_0 rfl (lv_at hl 0 rfl) ?_
  refine lv_iconst (v := 0) hx hb dX8_meanPips_1 (by decide) ?_
  refine va_put (D := G) (ci := 8) (v := .int 0) (C := RX8) (T := TX8) (N := 22) hx hb hts hi_8 tyX8 tyX8_ok nmX8 hown hK hP hD hS 0 rfl rfl 0 (by decide) (hts (.fieldLink RX8 53 "HubTrainsModel" "thrown" "I") (List.mem_of_getElem? (i := 1) rfl)) (fun _ h9 => h9) rfl (tyX8_ok 0 (by decide)) rfl rfl (Nat.le_of_ble_eq_true rfl) dX8_meanPips_2 (fun H locs hP hD hS => ?_)
  have hP : va_P G vwCl (wM c ax ((ss x.1 0 0), x.2)) H := hP
  have hD : va_D A (wM c ax ((ss x.1 0 0), x.2)) := hD
  refine lv_iconst (v := 0) hx hb dX8_meanPips_5 (by decide) ?_
  refine lv_istore_n (lv' := [(1, .int 0), (0, .ref (ax 0))]) hx hb dX8_meanPips_6 rfl hl (by decide) rfl (fun ls hl => ?_)
  refine lv_iconst (v := 0) hx hb dX8_meanPips_7 (by decide) ?_
  refine lv_istore_n (lv' := [(2, .int 0), (1, .int 0), (0, .ref (ax 0))]) hx hb dX8_meanPips_8 rfl hl (by decide) rfl (fun ls hl => ?_)
  refine lv_iconst (v := 0) hx hb dX8_meanPips_9 (by decide) ?_
  refine lv_istore_n (lv' := [(3, .int 0), (2, .int 0), (1, .int 0), (0, .ref (ax 0))]) hx hb dX8_meanPips_10 rfl hl (by decide) rfl (fun ls hl => ?_)
  have L_11 : ∀ (n_11 : Nat) (v1_11 : Int32) (v2_11 : Int32) (v3_11 : Int32) (H : Heap) (locs : List Loc) (ls : Array Slot), va_P G vwCl (wM c ax ((ss x.1 0 0), x.2)) H → va_D A (wM c ax ((ss x.1 0 0), x.2)) → va_S A s.heap H locs → lv_has ls 4 [(0, .ref (ax 0)), (1, .int v1_11), (2, .int v2_11), (3, .int v3_11)] → itr3 (f_X8_meanPips_B11 x) n_11 v1_11 v2_11 v3_11 = some (r, x_r) → W p l e (rm_X8_meanPips) s m args below meth c1 H locs 0 0 Q (F0 m 11 ls []) := by
    intro n_11
    induction n_11 with
    | zero => intro v1_11 v2_11 v3_11 H locs ls hP hD hS hl hm; exact (itr3_0 hm).elim
    | succ n_11 ih_11 =>
      intro v1_11 v2_11 v3_11 H locs ls hP hD hS hl hm
      have hm := itr3_s hm
      unfold f_X8_meanPips_B11 at hm
      refine lv_iload_n hx hb dX8_meanPips_11 rfl (lv_at hl 3 rfl) ?_
      refine lv_aload_n hx hb dX8_meanPips_12 rfl (lv_at hl 0 rfl) ?_
      refine va_get (D := G) (ci := 8) (v := .ref (ax 2)) (C := RX8) (T := TX8) (N := 22) hx hb hts hi_8 hown hK hP 0 rfl rfl 8 (by decide) (hts (.fieldLink RX8 17 "HubTrainsModel" "data" "[I") (List.mem_of_getElem? (i := 2) rfl)) (fun _ h9 => h9) rfl dX8_meanPips_13 ?_
      refine lv_iconst (v := 1) hx hb dX8_meanPips_16 (by decide) ?_
      obtain ⟨h_17, hm⟩ := gd_s hm
      refine va_iald (D := G) hx hb hK hP 2 0 rfl rfl (inb_s h_17) dX8_meanPips_17 ?_
      refine lv_icmp_ge (tgt := 43) hx hb dX8_meanPips_18 (by decide) (fun c_18 => ?_) (fun c_18 => ?_)
      · have hm := ifp c_18 hm
        refine lv_iload_n hx hb dX8_meanPips_43 rfl (lv_at hl 2 rfl) ?_
        refine lv_if_ne (tgt := 51) hx hb dX8_meanPips_44 (by decide) (fun c_44 => ?_) (fun c_44 => ?_)
        · have hm := ifn c_44 hm
          refine lv_iload_n hx hb dX8_meanPips_51 rfl (lv_at hl 1 rfl) ?_
          refine lv_i2d hx hb dX8_meanPips_52 ?_
          refine lv_iload_n hx hb dX8_meanPips_53 rfl (lv_at hl 2 rfl) ?_
          refine lv_i2d hx hb dX8_meanPips_54 ?_
          obtain ⟨h_55, hm⟩ := gd_s hm
          refine lv_ddiv hx hb dX8_meanPips_55 (nn64_s h_55) ?_
          exact hend H locs ls _ _ _ (Prod.mk.inj (Option.some.inj hm)).1 (zc1 (fun (z0 : MS) => (wM c ax z0 : va_W)) (Prod.mk.inj (Option.some.inj hm)).2) hP hD hS dX8_meanPips_56
        · have hm := ifp c_44 hm
          refine lv_dconst0 hx hb dX8_meanPips_47 ?_
          refine lv_goto (tgt := 56) hx hb dX8_meanPips_48 (by decide) ?_
          exact hend H locs ls _ _ _ (Prod.mk.inj (Option.some.inj hm)).1 (zc1 (fun (z0 : MS) => (wM c ax z0 : va_W)) (Prod.mk.inj (Option.some.inj hm)).2) hP hD hS dX8_meanPips_56
      · have hm := ifn c_18 hm
        refine lv_iload_n hx hb dX8_meanPips_21 rfl (lv_at hl 1 rfl) ?_
        refine lv_aload_n hx hb dX8_meanPips_22 rfl (lv_at hl 0 rfl) ?_
        refine lv_iload_n hx hb dX8_meanPips_23 rfl (lv_at hl 3 rfl) ?_
        obtain ⟨r24, e_24, hm⟩ := bd1_s hm
        refine zcWi (As := [.int v3_11]) (rest := [.int v1_11]) ⟨hx, hb, hml, hown, hts⟩ (k_X8_pips l G K c ax ((ss x.1 0 0), x.2) v3_11 r24 e_24) (cwV 1 hts gX8_meanPips_X8_pips rfl rfl rfl hd_X8_pips ⟨Nat.le_of_ble_eq_true rfl, Nat.le_of_ble_eq_true rfl⟩) hK hN hZ hP hD hS hA (va_recv hK hP (ci := 8) (q0 := 0) rfl rfl) rfl hl.1 rfl (Nat.le_of_ble_eq_true rfl) dX8_meanPips_24 ⟨Nat.zero_le _, Nat.zero_le _⟩ (fun H locs hP hD hS => ?_)
        have hP : va_P G vwCl (wM c ax ((ss x.1 0 0), x.2)) H := hP
        have hD : va_D A (wM c ax ((ss x.1 0 0), x.2)) := hD
        refine lv_iadd hx hb dX8_meanPips_27 ?_
        refine lv_istore_n (lv' := [(1, .int (v1_11 + r24)), (0, .ref (ax 0)), (2, .int v2_11), (3, .int v3_11)]) hx hb dX8_meanPips_28 rfl hl (by decide) rfl (fun ls hl => ?_)
        refine lv_iload_n hx hb dX8_meanPips_29 rfl (lv_at hl 2 rfl) ?_
        refine lv_aload_n hx hb dX8_meanPips_30 rfl (lv_at hl 1 rfl) ?_
        refine lv_iload_n hx hb dX8_meanPips_31 rfl (lv_at hl 3 rfl) ?_
        obtain ⟨r32, e_32, hm⟩ := bd1_s hm
        refine zcWi (As := [.int v3_11]) (rest := [.int v2_11]) ⟨hx, hb, hml, hown, hts⟩ (k_X8_hand l G K c ax ((ss x.1 0 0), x.2) v3_11 r32 e_32) (cwV 1 hts gX8_meanPips_X8_hand rfl rfl rfl hd_X8_hand ⟨Nat.le_of_ble_eq_true rfl, Nat.le_of_ble_eq_true rfl⟩) hK hN hZ hP hD hS hA (va_recv hK hP (ci := 8) (q0 := 0) rfl rfl) rfl hl.1 rfl (Nat.le_of_ble_eq_true rfl) dX8_meanPips_32 ⟨Nat.zero_le _, Nat.zero_le _⟩ (fun H locs hP hD hS => ?_)
        have hP : va_P G vwCl (wM c ax ((ss x.1 0 0), x.2)) H := hP
        have hD : va_D A (wM c ax ((ss x.1 0 0), x.2)) := hD
        refine lv_iadd hx hb dX8_meanPips_35 ?_
        refine lv_istore_n (lv' := [(2, .int (v2_11 + r32)), (1, .int (v1_11 + r24)), (0, .ref (ax 0)), (3, .int v3_11)]) hx hb dX8_meanPips_36 rfl hl (by decide) rfl (fun ls hl => ?_)
        refine lv_iinc (k := 3) (v := (v3_11 + 1)) (lv' := [(3, .int (v3_11 + 1)), (2, .int (v2_11 + r32)), (1, .int (v1_11 + r24)), (0, .ref (ax 0))]) hx hb dX8_meanPips_37 hl rfl rfl (by decide) rfl (fun ls hl => ?_)
        refine lv_goto (tgt := 11) hx hb dX8_meanPips_40 (by decide) ?_
        exact ih_11 (v1_11 + r24) (v2_11 + r32) (v3_11 + 1) H locs ls hP hD hS (lv_sub hl [3, 2, 1, 0] rfl) hm
  exact L_11 FUEL 0 0 0 H locs ls hP hD hS (lv_sub hl [3, 2, 1, 0] rfl) hm

def f_X7_meanPips_B6 (s7 : HS) (rec_6 : Int32 → Int32 → Int32 → Option UInt64) (v1_6 : Int32) (v2_6 : Int32) (v3_6 : Int32) : Option UInt64 :=
  if (s7.2.1.1.1 1) ≤ v3_6 then (if v2_6 = 0 then (some (FP.dconst0)) else (gd (nn64 (FP.ddiv (FP.i2d v1_6) (FP.i2d v2_6))) <| some ((FP.ddiv (FP.i2d v1_6) (FP.i2d v2_6))))) else (bd1 (f_X1_handPips s7.2.1 v3_6) fun (r23 : Int32) => bd1 (f_X1_handCount s7.2.1 v3_6) fun (r34 : Int32) => rec_6 (v1_6 + r23) (v2_6 + r34) (v3_6 + 1))

def f_X7_meanPips (s7 : HS) : Option UInt64 :=
  itr3 (f_X7_meanPips_B6 s7) FUEL 0 0 0

abbrev rm_X7_meanPips : Room := { frames := 3, cells := 0, slots := 0, locals := 63 }
theorem hd_X7_meanPips : yX7_meanPips.cls = RX7 ∧ yX7_meanPips.cls ≠ "java/lang/invoke/MethodHandle" ∧ yX7_meanPips.cls ≠ "java/lang/invoke/VarHandle" ∧ (parseMethodDescriptor yX7_meanPips.desc).map (fun d => d.parameters.length) = some 0 := by decide +kernel
set_option maxHeartbeats 4000000 in
set_option maxRecDepth 100000 in
theorem k_X7_meanPips (l : Launch) (G : va_G) (K : (Nat → Nat) × (Nat → Nat)) (c : Nat → ClassId) (ah : Nat → Nat) (ag : Nat → Nat → Nat) (ar : Nat → Nat) (ps : PS) (s7 : HS) (r : UInt64) (hm : f_X7_meanPips s7 = some (r)) : zMd l yX7_meanPips wsX7_meanPips (rm_X7_meanPips) G K (TY c) [.ref (ah 0)] (wH c ah ag ar ps s7) (wH c ah ag ar ps s7) r := by
  refine zMd.of (cc := cX7_meanPips) (maxL := 4) (lv := [(0, .ref (ah 0))]) (by decide) rfl (Nat.le_of_ble_eq_true rfl) rfl ?_
  intro p e s m args below meth c1 A Q H locs hx hb hml hown hts hK hN hZ hP hD hA hS hend ls hl
  have hown : s.vm.findClass RX7 = some m.cls := hown
  have hi_1 : ∀ w ∈ wsX10, w ∈ wsX7_meanPips := (fun w h => List.mem_cons_of_mem _ (List.mem_append_right _ (h)))
  have hi_7 : ∀ w ∈ wsX70, w ∈ wsX7_meanPips := (fun w h => List.mem_cons_of_mem _ (List.mem_append_left _ (List.mem_append_right _ (h))))
  unfold f_X7_meanPips at hm
  refine lv_iconst (v := 0) hx hb dX7_meanPips_0 (by decide) ?_
  refine lv_istore_n (lv' := [(1, .int 0), (0, .ref (ah 0))]) hx hb dX7_meanPips_1 rfl hl (by decide) rfl (fun ls hl => ?_)
  refine lv_iconst (v := 0) hx hb dX7_meanPips_2 (by decide) ?_
  refine lv_istore_n (lv' := [(2, .int 0), (1, .int 0), (0, .ref (ah 0))]) hx hb dX7_meanPips_3 rfl hl (by decide) rfl (fun ls hl => ?_)
  refine lv_iconst (v := 0) hx hb dX7_meanPips_4 (by decide) ?_
  refine lv_istore_n (lv' := [(3, .int 0), (2, .int 0), (1, .int 0), (0, .ref (ah 0))]) hx hb dX7_meanPips_5 rfl hl (by decide) rfl (fun ls hl => ?_)
  have L_6 : ∀ (n_6 : Nat) (v1_6 : Int32) (v2_6 : Int32) (v3_6 : Int32) (H : Heap) (locs : List Loc) (ls : Array Slot), va_P G vwCl (wH c ah ag ar ps s7) H → va_D A (wH c ah ag ar ps s7) → va_S A s.heap H locs → lv_has ls 4 [(0, .ref (ah 0)), (1, .int v1_6), (2, .int v2_6), (3, .int v3_6)] → itr3 (f_X7_meanPips_B6 s7) n_6 v1_6 v2_6 v3_6 = some (r) → W p l e (rm_X7_meanPips) s m args below meth c1 H locs 0 0 Q (F0 m 6 ls []) := by
    intro n_6
    induction n_6 with
    | zero => intro v1_6 v2_6 v3_6 H locs ls hP hD hS hl hm; exact (itr3_0 hm).elim
    | succ n_6 ih_6 =>
      intro v1_6 v2_6 v3_6 H locs ls hP hD hS hl hm
      have hm := itr3_s hm
      unfold f_X7_meanPips_B6 at hm
      refine lv_iload_n hx hb dX7_meanPips_6 rfl (lv_at hl 3 rfl) ?_
      refine lv_aload_n hx hb dX7_meanPips_7 rfl (lv_at hl 0 rfl) ?_
      refine va_get (D := G) (ci := 7) (v := .ref (ag 0 0)) (C := RX7) (T := TX7) (N := 7) hx hb hts hi_7 hown hK hP 0 rfl rfl 0 (by decide) (hts (.fieldLink RX7 10 "HubTrains" "game" "LHubTrains$Game;") (List.mem_of_getElem? (i := 1) rfl)) (fun _ h9 => h9) rfl dX7_meanPips_8 ?_
      refine va_getN (D := G) (ci := 1) (v := .int (s7.2.1.1.1 1)) (C := RX1) (T := TX1) (N := 16) hx hb hts hi_1 hown hK hP 2 rfl rfl 1 (by decide) (va_Nw.use rfl (nwf_HubTrains_153 hN.1)) (fun _ h9 => h9) rfl dX7_meanPips_11 ?_
      refine lv_icmp_ge (tgt := 45) hx hb dX7_meanPips_14 (by decide) (fun c_14 => ?_) (fun c_14 => ?_)
      · have hm := ifp c_14 hm
        refine lv_iload_n hx hb dX7_meanPips_45 rfl (lv_at hl 2 rfl) ?_
        refine lv_if_ne (tgt := 53) hx hb dX7_meanPips_46 (by decide) (fun c_46 => ?_) (fun c_46 => ?_)
        · have hm := ifn c_46 hm
          refine lv_iload_n hx hb dX7_meanPips_53 rfl (lv_at hl 1 rfl) ?_
          refine lv_i2d hx hb dX7_meanPips_54 ?_
          refine lv_iload_n hx hb dX7_meanPips_55 rfl (lv_at hl 2 rfl) ?_
          refine lv_i2d hx hb dX7_meanPips_56 ?_
          obtain ⟨h_57, hm⟩ := gd_s hm
          refine lv_ddiv hx hb dX7_meanPips_57 (nn64_s h_57) ?_
          exact hend H locs ls _ _ _ (Option.some.inj hm) rfl hP hD hS dX7_meanPips_58
        · have hm := ifp c_46 hm
          refine lv_dconst0 hx hb dX7_meanPips_49 ?_
          refine lv_goto (tgt := 58) hx hb dX7_meanPips_50 (by decide) ?_
          exact hend H locs ls _ _ _ (Option.some.inj hm) rfl hP hD hS dX7_meanPips_58
      · have hm := ifn c_14 hm
        refine lv_iload_n hx hb dX7_meanPips_17 rfl (lv_at hl 1 rfl) ?_
        refine lv_aload_n hx hb dX7_meanPips_18 rfl (lv_at hl 0 rfl) ?_
        refine va_get (D := G) (ci := 7) (v := .ref (ag 0 0)) (C := RX7) (T := TX7) (N := 7) hx hb hts hi_7 hown hK hP 0 rfl rfl 0 (by decide) (hts (.fieldLink RX7 10 "HubTrains" "game" "LHubTrains$Game;") (List.mem_of_getElem? (i := 1) rfl)) (fun _ h9 => h9) rfl dX7_meanPips_19 ?_
        refine lv_iload_n hx hb dX7_meanPips_22 rfl (lv_at hl 3 rfl) ?_
        obtain ⟨r23, e_23, hm⟩ := bd1_s hm
        refine zcVi (As := [.int v3_6]) (rest := [.int v1_6]) ⟨hx, hb, hml, hown, hts⟩ (k_X1_handPips l G K c (ag 0) s7.2.1 v3_6 r23 e_23) (cwV 1 hts gX7_meanPips_X1_handPips rfl rfl rfl hd_X1_handPips ⟨Nat.le_of_ble_eq_true rfl, Nat.le_of_ble_eq_true rfl⟩) hK hN hZ hP hD hS hA (va_recv hK hP (ci := 1) (q0 := 2) rfl rfl) [2, 3, 4, 5, 6, 7, 8, 9, 10, 11] rfl (by decide) rfl rfl hl.1 rfl (Nat.le_of_ble_eq_true rfl) dX7_meanPips_23 ⟨Nat.zero_le _, Nat.zero_le _⟩ (fun H locs hP hD hS => ?_)
        have hP : va_P G vwCl (wH c ah ag ar ps s7) H := (congrArg (fun w => va_P G vwCl w H) (zset_id _ _ _ rfl)).mp hP
        have hD : va_D A (wH c ah ag ar ps s7) := (congrArg (fun w => va_D A w) (zset_id _ _ _ rfl)).mp hD
        refine lv_iadd hx hb dX7_meanPips_26 ?_
        refine lv_istore_n (lv' := [(1, .int (v1_6 + r23)), (0, .ref (ah 0)), (2, .int v2_6), (3, .int v3_6)]) hx hb dX7_meanPips_27 rfl hl (by decide) rfl (fun ls hl => ?_)
        refine lv_iload_n hx hb dX7_meanPips_28 rfl (lv_at hl 2 rfl) ?_
        refine lv_aload_n hx hb dX7_meanPips_29 rfl (lv_at hl 1 rfl) ?_
        refine va_get (D := G) (ci := 7) (v := .ref (ag 0 0)) (C := RX7) (T := TX7) (N := 7) hx hb hts hi_7 hown hK hP 0 rfl rfl 0 (by decide) (hts (.fieldLink RX7 10 "HubTrains" "game" "LHubTrains$Game;") (List.mem_of_getElem? (i := 1) rfl)) (fun _ h9 => h9) rfl dX7_meanPips_30 ?_
        refine lv_iload_n hx hb dX7_meanPips_33 rfl (lv_at hl 3 rfl) ?_
        obtain ⟨r34, e_34, hm⟩ := bd1_s hm
        refine zcVi (As := [.int v3_6]) (rest := [.int v2_6]) ⟨hx, hb, hml, hown, hts⟩ (k_X1_handCount l G K c (ag 0) s7.2.1 v3_6 r34 e_34) (cwV 1 hts gX7_meanPips_X1_handCount rfl rfl rfl hd_X1_handCount ⟨Nat.le_of_ble_eq_true rfl, Nat.le_of_ble_eq_true rfl⟩) hK hN hZ hP hD hS hA (va_recv hK hP (ci := 1) (q0 := 2) rfl rfl) [2, 3, 4, 5, 6, 7, 8, 9, 10, 11] rfl (by decide) rfl rfl hl.1 rfl (Nat.le_of_ble_eq_true rfl) dX7_meanPips_34 ⟨Nat.zero_le _, Nat.zero_le _⟩ (fun H locs hP hD hS => ?_)
        have hP : va_P G vwCl (wH c ah ag ar ps s7) H := (congrArg (fun w => va_P G vwCl w H) (zset_id _ _ _ rfl)).mp hP
        have hD : va_D A (wH c ah ag ar ps s7) := (congrArg (fun w => va_D A w) (zset_id _ _ _ rfl)).mp hD
        refine lv_iadd hx hb dX7_meanPips_37 ?_
        refine lv_istore_n (lv' := [(2, .int (v2_6 + r34)), (1, .int (v1_6 + r23)), (0, .ref (ah 0)), (3, .int v3_6)]) hx hb dX7_meanPips_38 rfl hl (by decide) rfl (fun ls hl => ?_)
        refine lv_iinc (k := 3) (v := (v3_6 + 1)) (lv' := [(3, .int (v3_6 + 1)), (2, .int (v2_6 + r34)), (1, .int (v1_6 + r23)), (0, .ref (ah 0))]) hx hb dX7_meanPips_39 hl rfl rfl (by decide) rfl (fun ls hl => ?_)
        refine lv_goto (tgt := 6) hx hb dX7_meanPips_42 (by decide) ?_
        exact ih_6 (v1_6 + r23) (v2_6 + r34) (v3_6 + 1) H locs ls hP hD hS (lv_sub hl [3, 2, 1, 0] rfl) hm
  exact L_6 FUEL 0 0 0 H locs ls hP hD hS (lv_sub hl [3, 2, 1, 0] rfl) hm

section ZC
variable {p : Program} {l : Launch} {e : Env} {R : Room} {s : State} {m : MethodId} {args : Array Value} {below : List Frame} {meth : Method} {c : Code} {H : Heap} {locs : List Loc} {cells slots : Nat} {Q : State → Prop}
variable {cc : ByteArray} {pc : Nat} {ls : Array Slot} {A : Nat → Prop} {H0 : Heap} {G : va_G} {K : (Nat → Nat) × (Nat → Nat)} {tys : List (ClassId × FieldType)} {ws wc w1 : va_W} {wds : List Cond} {rm : Room} {As rest st : List Value} {b : Addr} {y : MethodName} {bytes : ByteArray} {nL maxL n index : Nat} {Ts : List Cond} {own C host : String} {ret : Option FieldType}
theorem zcVd {r : UInt64} (S : CallFix p m c cc nL s args Ts own) (hM : zMd l y wds rm G K tys (.ref b :: As) wc w1 r) (cw : CallW R s args own C index y bytes maxL ret wds rm 0 0 n) (hK : va_K G vwCl tys s) (hN : NW K s) (hZ : ZE K A s s.heap) (hP : va_P G vwCl ws H) (hD : va_D A ws) (hS : va_S A s.heap H locs) (hA : ∀ q : Nat, s.heap.size ≤ q → A q) (hrv : ∃ cell : Cell, H[b]? = some cell ∧ cell.vm.isStatics = false ∧ s.vm.findClass C = some cell.cls) (is : List Nat) (hC : is.map (fun i => ws[i]?) = wc.map some) (hnd : va_nd is = true) (hf1 : w1.map Prod.fst = wc.map Prod.fst) (hn : As.length = n) (hsz : ls.size = nL) (hst : st = As.reverse ++ .ref b :: rest) (hrest : (rest.map fun v => v.category).sum ≤ 8) (hdg : decode cc pc = .ok (.invokevirtual index, 3)) (hf : cells ≤ R.cells ∧ slots ≤ R.slots)
    (kk : ∀ (H1 : Heap) (locs1 : List Loc), va_P G vwCl (zset ws is w1) H1 → va_D A (zset ws is w1) → va_S A s.heap H1 locs1 → W p l e R s m args below meth c H1 locs1 cells slots Q (F0 m (pc + 3) ls (.double r :: rest))) : W p l e R s m args below meth c H locs cells slots Q (F0 m pc ls st) := by
  have hPc := zsubP hP is hC
  have hDc := hD.sub (ws' := wc) is hnd hC
  have hFc := zfree hD hS hA is hC
  refine va_calld (va_runV (As := As) (rest := rest) S (hM H.size) cw ⟨zPc_blind, hrv, fun U hU hW => ⟨rfl, by rw [hU], by rw [hU]; exact hPc, va_K.moved hW.alike hK, hN.warm hW, hZ.call hS hU hW hFc, hDc.weaken (fun _ _ _ _ => trivial)⟩⟩ rfl hn hsz hst (lv_room hrest) hdg hf) hS (fun q _ h => hFc q h) hFc (fun r2 u t H1 locs ht hvm hw hB hz1 hk1 hS => ?_)
  obtain ⟨hP1, hD1⟩ := hB
  rw [ht] at hP1
  obtain ⟨a1, a2⟩ := zj hP hD is hC hf1 hk1 hP1
  rw [show r2 = r from hw]
  exact kk H1 locs a1 a2 hS
end ZC
