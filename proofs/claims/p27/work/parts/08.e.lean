/-! walks of the law's own methods over maps -/
def w_X10_deals_J324 (c : Nat → ClassId) (K : (Nat → Nat) × (Nat → Nat)) (rec_287 : HW → Nat → Nat → Int32 → Prop) (v3_287 : Int32) (h304 : HW) (mc_324 ms_324 : Nat) (s0_324 : Int32) (s1_324 : Int32) (s2_324 : Nat) : Prop :=
  stZ h304 (c 4) s2_324 s1_324 s0_324 (fun (h324 : HW) => ∀ x325 : Int32, x325 = (v3_287 + 1) → (rec_287 h324 mc_324 ms_324 x325))

def w_X10_deals_B287 (c : Nat → ClassId) (K : (Nat → Nat) × (Nat → Nat)) (a0 : Nat) (post : HW → Prop) (rec_287 : HW → Nat → Nat → Int32 → Prop) (h_287 : HW) (mc_287 : Nat) (ms_287 : Nat) (v3_287 : Int32) : Prop :=
  gR h_287 a0 10 12 (fun (g289 : Nat) => lenA h_287 (c 2) g289 (fun (x292 : Int32) => (x292 ≤ v3_287 → pV h_287 a0 10 4 (.int (0 : Int32)) (fun (h333 : HW) => pZ h333 a0 10 5 (0 : Int32) (fun (h338 : HW) => pV h338 a0 10 6 (.int (-1 : Int32)) (fun (h343 : HW) => pZ h343 a0 10 7 (0 : Int32) (fun (h348 : HW) => pV h348 a0 10 9 (.int (0 : Int32)) (fun (h353 : HW) => post h353)))))) ∧ (¬ x292 ≤ v3_287 → gR h_287 a0 10 12 (fun (g297 : Nat) => nwI h_287 (c 0) (0 : Int32) mc_287 ms_287 (fun (q302 : Nat) (h302 : HW) (mB302 zB302 : Nat) => stA h302 (c 0) (c 2) g297 v3_287 q302 (fun (h304 : HW) => gR h304 a0 10 13 (fun (g306 : Nat) => gR h304 a0 10 10 (fun (g312 : Nat) => lenA h304 (c 2) g312 (fun (x315 : Int32) => (v3_287 = x315 → w_X10_deals_J324 c K rec_287 v3_287 h304 mB302 zB302 (1 : Int32) v3_287 g306) ∧ (¬ v3_287 = x315 → w_X10_deals_J324 c K rec_287 v3_287 h304 mB302 zB302 (0 : Int32) v3_287 g306))))))))))

def w_X10_deals_B259 (c : Nat → ClassId) (K : (Nat → Nat) × (Nat → Nat)) (a0 : Nat) (post : HW → Prop) (v1_6 : Nat) (rec_259 : HW → Nat → Nat → Int32 → Prop) (h_259 : HW) (mc_259 : Nat) (ms_259 : Nat) (v3_259 : Int32) : Prop :=
  lenA h_259 (c 0) v1_6 (fun (x261 : Int32) => (x261 ≤ v3_259 → ∃ n_287 : Nat, itP4 (w_X10_deals_B287 c K a0 post) n_287 h_259 mc_259 ms_259 (0 : Int32)) ∧ (¬ x261 ≤ v3_259 → gR h_259 a0 10 14 (fun (g267 : Nat) => lI h_259 (c 0) v1_6 v3_259 (fun (x272 : Int32) => (∃ m273 z273 mB273 zB273 : Nat, mc_259 = m273 + mB273 ∧ ms_259 = z273 + zB273 ∧ w_L_with c K h_259 g267 x272 m273 z273 (fun (r273 : Option Nat) (h273 : HW) => dRf r273 (fun (a273 : Nat) => pV h273 a0 10 14 (.ref a273) (fun (h276 : HW) => ∀ x279 : Int32, x279 = (v3_259 + 1) → (rec_259 h276 mB273 zB273 x279)))))))))

def w_X10_deals_J244 (c : Nat → ClassId) (K : (Nat → Nat) × (Nat → Nat)) (rec_191 : HW → Nat → Nat → Int32 → Int32 → Prop) (v3_191 : Int32) (h_200 : HW) (v2_200 : Int32) (mc_244 ms_244 : Nat) : Prop :=
  ∀ x244 : Int32, x244 = (v3_191 + 1) → (rec_191 h_200 mc_244 ms_244 v2_200 x244)

def w_X10_deals_B200 (c : Nat → ClassId) (K : (Nat → Nat) × (Nat → Nat)) (a0 : Nat) (v1_6 : Nat) (rec_191 : HW → Nat → Nat → Int32 → Int32 → Prop) (v3_191 : Int32) (rec_200 : HW → Nat → Nat → Int32 → Prop) (h_200 : HW) (mc_200 : Nat) (ms_200 : Nat) (v2_200 : Int32) : Prop :=
  gR h_200 a0 10 10 (fun (g201 : Nat) => lR h_200 (c 2) g201 v3_191 (fun (x205 : Nat) => lenA h_200 (c 0) x205 (fun (x206 : Int32) => gI h_200 a0 10 1 (fun (g208 : Int32) => (g208 ≤ x206 → w_X10_deals_J244 c K rec_191 v3_191 h_200 v2_200 mc_200 ms_200) ∧ (¬ g208 ≤ x206 → lenA h_200 (c 0) v1_6 (fun (x216 : Int32) => (x216 ≤ v2_200 → w_X10_deals_J244 c K rec_191 v3_191 h_200 v2_200 mc_200 ms_200) ∧ (¬ x216 ≤ v2_200 → gR h_200 a0 10 10 (fun (g221 : Nat) => gR h_200 a0 10 10 (fun (g226 : Nat) => lR h_200 (c 2) g226 v3_191 (fun (x230 : Nat) => lI h_200 (c 0) v1_6 v2_200 (fun (x233 : Int32) => (∃ m234 z234 mB234 zB234 : Nat, mc_200 = m234 + mB234 ∧ ms_200 = z234 + zB234 ∧ w_L_with c K h_200 x230 x233 m234 z234 (fun (r234 : Option Nat) (h234 : HW) => dRf r234 (fun (a234 : Nat) => stA h234 (c 0) (c 2) g221 v3_191 a234 (fun (h237 : HW) => ∀ x238 : Int32, x238 = (v2_200 + 1) → (rec_200 h237 mB234 zB234 x238))))))))))))))))

def w_X10_deals_B191 (c : Nat → ClassId) (K : (Nat → Nat) × (Nat → Nat)) (a0 : Nat) (post : HW → Prop) (v1_6 : Nat) (rec_191 : HW → Nat → Nat → Int32 → Int32 → Prop) (h_191 : HW) (mc_191 : Nat) (ms_191 : Nat) (v2_191 : Int32) (v3_191 : Int32) : Prop :=
  gR h_191 a0 10 10 (fun (g193 : Nat) => lenA h_191 (c 2) g193 (fun (x196 : Int32) => (x196 ≤ v3_191 → nwI h_191 (c 0) (0 : Int32) mc_191 ms_191 (fun (q252 : Nat) (h252 : HW) (mB252 zB252 : Nat) => pV h252 a0 10 14 (.ref q252) (fun (h254 : HW) => ∃ n_259 : Nat, itP4 (w_X10_deals_B259 c K a0 post v1_6) n_259 h254 mB252 zB252 v2_191))) ∧ (¬ x196 ≤ v3_191 → ∃ n_200 : Nat, itP4 (w_X10_deals_B200 c K a0 v1_6 rec_191 v3_191) n_200 h_191 mc_191 ms_191 v2_191)))

def w_X10_deals_B130 (c : Nat → ClassId) (K : (Nat → Nat) × (Nat → Nat)) (a0 : Nat) (post : HW → Prop) (v1_6 : Nat) (rec_130 : HW → Nat → Nat → Int32 → Prop) (h_130 : HW) (mc_130 : Nat) (ms_130 : Nat) (v2_130 : Int32) : Prop :=
  (v2_130 < (1 : Int32) → ∃ n_191 : Nat, itP5 (w_X10_deals_B191 c K a0 post v1_6) n_191 h_130 mc_130 ms_130 (0 : Int32) (0 : Int32)) ∧ (¬ v2_130 < (1 : Int32) → gI h_130 a0 10 3 (fun (g139 : Int32) => ∀ x142 : Int32, x142 = (1103515245 : Int32) * g139 → (∀ x146 : Int32, x146 = x142 + (12345 : Int32) → (pV h_130 a0 10 3 (.int x146) (fun (h147 : HW) => gI h147 a0 10 3 (fun (g151 : Int32) => ∀ x156 : Int32, x156 = (g151.toUInt32 >>> ((16 : Int32).toUInt32 &&& Int32.toUInt32 31)).toInt32 → (∀ x159 : Int32, x159 = x156 - x156 / (32768 : Int32) * (32768 : Int32) → (∀ x162 : Int32, x162 = v2_130 + (1 : Int32) → (¬ x162 = 0 ∧ (∀ x163 : Int32, x163 = x159 - x159 / x162 * x162 → (lI h147 (c 0) v1_6 v2_130 (fun (x167 : Int32) => lI h147 (c 0) v1_6 x163 (fun (x174 : Int32) => stI h147 (c 0) v1_6 v2_130 x174 (fun (h175 : HW) => stI h175 (c 0) v1_6 x163 x167 (fun (h180 : HW) => ∀ x181 : Int32, x181 = (v2_130 + (-1)) → (rec_130 h180 mc_130 ms_130 x181))))))))))))))))

def w_X10_deals_J113 (c : Nat → ClassId) (K : (Nat → Nat) × (Nat → Nat)) (rec_16 : HW → Nat → Nat → Nat → Int32 → Prop) (v3_16 : Int32) (h_113 : HW) (mc_113 ms_113 : Nat) (v1_113 : Nat) : Prop :=
  ∀ x113 : Int32, x113 = (v3_16 + 1) → (rec_16 h_113 mc_113 ms_113 v1_113 x113)

def w_X10_deals_B61 (c : Nat → ClassId) (K : (Nat → Nat) × (Nat → Nat)) (v2_6 : Int32) (rec_16 : HW → Nat → Nat → Nat → Int32 → Prop) (v1_16 : Nat) (v3_16 : Int32) (g48 : Nat) (x55 : Int32) (rec_61 : HW → Nat → Nat → Int32 → Int32 → Prop) (h_61 : HW) (mc_61 : Nat) (ms_61 : Nat) (v4_61 : Int32) (v7_61 : Int32) : Prop :=
  (x55 ≤ v7_61 → (v4_61 = 0 → ∀ x106 : Int32, x106 = (10 : Int32) * v2_6 → (∀ x108 : Int32, x108 = x106 + v3_16 → ((∃ m109 z109 mB109 zB109 : Nat, mc_61 = m109 + mB109 ∧ ms_61 = z109 + zB109 ∧ w_L_with c K h_61 v1_16 x108 m109 z109 (fun (r109 : Option Nat) (h109 : HW) => dRf r109 (fun (a109 : Nat) => w_X10_deals_J113 c K rec_16 v3_16 h109 mB109 zB109 a109)))))) ∧ (¬ v4_61 = 0 → w_X10_deals_J113 c K rec_16 v3_16 h_61 mc_61 ms_61 v1_16)) ∧ (¬ x55 ≤ v7_61 → lR h_61 (c 2) g48 v7_61 (fun (x72 : Nat) => ∀ x82 : Int32, x82 = (10 : Int32) * v2_6 → (∀ x84 : Int32, x84 = x82 + v3_16 → (w_L_has c K h_61 x72 x84 (fun (r85 : Int32) (h85 : HW) => ∀ x88 : Int32, x88 = v4_61 ||| r85 → (∀ x91 : Int32, x91 = (v7_61 + 1) → (rec_61 h85 mc_61 ms_61 x88 x91)))))))

def w_X10_deals_J45 (c : Nat → ClassId) (K : (Nat → Nat) × (Nat → Nat)) (a0 : Nat) (v2_6 : Int32) (rec_16 : HW → Nat → Nat → Nat → Int32 → Prop) (h_16 : HW) (v1_16 : Nat) (v3_16 : Int32) (mc_45 ms_45 : Nat) (s0_45 : Int32) : Prop :=
  gR h_16 a0 10 10 (fun (g48 : Nat) => lenA h_16 (c 2) g48 (fun (x55 : Int32) => ∃ n_61 : Nat, itP5 (w_X10_deals_B61 c K v2_6 rec_16 v1_16 v3_16 g48 x55) n_61 h_16 mc_45 ms_45 s0_45 (0 : Int32)))

def w_X10_deals_J44 (c : Nat → ClassId) (K : (Nat → Nat) × (Nat → Nat)) (a0 : Nat) (v2_6 : Int32) (rec_16 : HW → Nat → Nat → Nat → Int32 → Prop) (h_16 : HW) (v1_16 : Nat) (v3_16 : Int32) (mc_44 ms_44 : Nat) : Prop :=
  w_X10_deals_J45 c K a0 v2_6 rec_16 h_16 v1_16 v3_16 mc_44 ms_44 (0 : Int32)

def w_X10_deals_B16 (c : Nat → ClassId) (K : (Nat → Nat) × (Nat → Nat)) (a0 : Nat) (rec_6 : HW → Nat → Nat → Nat → Int32 → Prop) (v2_6 : Int32) (rec_16 : HW → Nat → Nat → Nat → Int32 → Prop) (h_16 : HW) (mc_16 : Nat) (ms_16 : Nat) (v1_16 : Nat) (v3_16 : Int32) : Prop :=
  gI h_16 a0 10 0 (fun (g18 : Int32) => (g18 < v3_16 → ∀ x119 : Int32, x119 = (v2_6 + 1) → (rec_6 h_16 mc_16 ms_16 v1_16 x119)) ∧ (¬ g18 < v3_16 → gI h_16 a0 10 2 (fun (g26 : Int32) => (v2_6 = g26 → gI h_16 a0 10 2 (fun (g34 : Int32) => (v3_16 = g34 → w_X10_deals_J45 c K a0 v2_6 rec_16 h_16 v1_16 v3_16 mc_16 ms_16 (1 : Int32)) ∧ (¬ v3_16 = g34 → w_X10_deals_J44 c K a0 v2_6 rec_16 h_16 v1_16 v3_16 mc_16 ms_16))) ∧ (¬ v2_6 = g26 → w_X10_deals_J44 c K a0 v2_6 rec_16 h_16 v1_16 v3_16 mc_16 ms_16))))

def w_X10_deals_B6 (c : Nat → ClassId) (K : (Nat → Nat) × (Nat → Nat)) (a0 : Nat) (post : HW → Prop) (rec_6 : HW → Nat → Nat → Nat → Int32 → Prop) (h_6 : HW) (mc_6 : Nat) (ms_6 : Nat) (v1_6 : Nat) (v2_6 : Int32) : Prop :=
  gI h_6 a0 10 0 (fun (g8 : Int32) => (g8 < v2_6 → lenA h_6 (c 0) v1_6 (fun (x126 : Int32) => ∀ x128 : Int32, x128 = x126 - (1 : Int32) → (∃ n_130 : Nat, itP4 (w_X10_deals_B130 c K a0 post v1_6) n_130 h_6 mc_6 ms_6 x128))) ∧ (¬ g8 < v2_6 → ∃ n_16 : Nat, itP5 (w_X10_deals_B16 c K a0 rec_6 v2_6) n_16 h_6 mc_6 ms_6 v1_6 v2_6))

def w_X10_deals (c : Nat → ClassId) (K : (Nat → Nat) × (Nat → Nat)) (h : HW) (a0 : Nat) (mc ms : Nat) (post : HW → Prop) : Prop :=
  nwI h (c 0) (0 : Int32) mc ms (fun (q1 : Nat) (h1 : HW) (mB1 zB1 : Nat) => ∃ n_6 : Nat, itP5 (w_X10_deals_B6 c K a0 post) n_6 h1 mB1 zB1 q1 (0 : Int32))

abbrev rm_X10_deals (mc ms : Nat) : Room := { frames := 1, cells := mc, slots := ms, locals := 26 }
theorem he_X10_deals : yX10_deals.cls ≠ "java/lang/invoke/MethodHandle" ∧ yX10_deals.cls ≠ "java/lang/invoke/VarHandle" ∧ (parseMethodDescriptor yX10_deals.desc).map (fun d => d.parameters.length) = some 0 := by decide +kernel
theorem heV_X10_deals : yX10_deals.cls = RX10 ∧ yX10_deals.cls ≠ "java/lang/invoke/MethodHandle" ∧ yX10_deals.cls ≠ "java/lang/invoke/VarHandle" ∧ (parseMethodDescriptor yX10_deals.desc).map (fun d => d.parameters.length) = some 0 := by decide +kernel
set_option maxHeartbeats 4000000 in
set_option maxRecDepth 100000 in
theorem h_X10_deals (l : Launch) (G : va_G) (K : (Nat → Nat) × (Nat → Nat)) (c : Nat → ClassId) (h : HW) (a0 : Nat) (mc ms : Nat) (post : HW → Prop) (hm : w_X10_deals c K h a0 mc ms post) : hMv l yX10_deals wsX10_deals (rm_X10_deals mc ms) G K (TY c) [.ref a0] h mc ms post := by
  refine hMv.of (cc := cX10_deals) (maxL := 9) (lv := [(0, .ref a0)]) (by decide) rfl (Nat.le_of_ble_eq_true rfl) rfl ?_
  intro p e s m args below meth c1 A Q H locs hx hb hml hown hmn hts hK hN hZ hXX hP hD hA hS hend ls hl
  have hown : s.vm.findClass RX10 = some m.cls := hown
  have hi_10 : ∀ w ∈ u_ws RX10 TX10 17, w ∈ wsX10_deals := fun w h => (fun w h => List.mem_cons_of_mem _ (List.mem_append_right _ (h))) w h
  unfold w_X10_deals at hm
  have hf : 0 + mc ≤ mc ∧ 0 + ms ≤ ms := ⟨by omega, by omega⟩
  refine lv_iconst (v := 0) hx hb dX10_deals_0 (by decide) ?_
  obtain ⟨hn1, hb1, mB1, zB1, hc1, hs1, hm⟩ := hm
  refine mr_newa (atype := .int) (a0 := (fun N => (N, .inl (fun _ => 0)))) hx hb (hts (.arrayClass .int) ((List.mem_of_getElem? (i := 1) rfl))) hK 0 rfl hP hD hS hA (fun _ => rfl) hn1 (c65 hb1 (by decide)) (by show 0 + 1 ≤ mc; omega) (by show 0 + _ ≤ ms; omega) dX10_deals_1 (fun q1 H hfr1 hP hD hS => ?_)
  have hm := hm q1 hfr1
  generalize hup h q1 (eI (c 0) (0 : Int32).toNatClampNeg (fun _ => 0)) = h1 at hm hP hD
  replace hf : (0 + 1) + mB1 ≤ mc ∧ (0 + (0 : Int32).toNatClampNeg) + zB1 ≤ ms := ⟨by omega, by omega⟩
  clear hc1 hs1 hb1
  refine lv_astore_n (lv' := [(1, .ref q1), (0, .ref a0)]) hx hb dX10_deals_3 rfl hl (by decide) rfl (fun ls hl => ?_)
  refine lv_iconst (v := 0) hx hb dX10_deals_4 (by decide) ?_
  refine lv_istore_n (lv' := [(2, .int (0 : Int32)), (1, .ref q1), (0, .ref a0)]) hx hb dX10_deals_5 rfl hl (by decide) rfl (fun ls hl => ?_)
  obtain ⟨n_6, hm⟩ := hm
  have L_6 : ∀ (n_6 : Nat) (h_6 : HW) (mc_6 : Nat) (ms_6 : Nat) (v1_6 : Nat) (v2_6 : Int32) (cl_6 sl_6 : Nat) (H : Heap) (locs : List Loc) (ls : Array Slot), cl_6 + mc_6 ≤ mc ∧ sl_6 + ms_6 ≤ ms → mP G K h_6 H → mD A h_6 → va_S A s.heap H locs → lv_has ls 9 [(0, .ref a0), (1, .ref v1_6), (2, .int v2_6)] → itP5 (w_X10_deals_B6 c K a0 post) n_6 h_6 mc_6 ms_6 v1_6 v2_6 → W p l e (rm_X10_deals mc ms) s m args below meth c1 H locs cl_6 sl_6 Q (F0 m 6 ls []) := by
    intro n_6
    induction n_6 with
    | zero => intro h_6 mc_6 ms_6 v1_6 v2_6 cl_6 sl_6 H locs ls hf hP hD hS hl hm; exact hm.elim
    | succ n_6 ih_6 =>
      intro h_6 mc_6 ms_6 v1_6 v2_6 cl_6 sl_6 H locs ls hf hP hD hS hl hm
      have hm : (w_X10_deals_B6 c K a0 post) (itP5 (w_X10_deals_B6 c K a0 post) n_6) h_6 mc_6 ms_6 v1_6 v2_6 := hm
      generalize itP5 (w_X10_deals_B6 c K a0 post) n_6 = rec_6 at hm ih_6
      unfold w_X10_deals_B6 at hm
      refine lv_iload_n hx hb dX10_deals_6 rfl (lv_at hl 2 rfl) ?_
      refine lv_aload_n hx hb dX10_deals_7 rfl (lv_at hl 0 rfl) ?_
      obtain ⟨wq8, fs8, g8, hq8, hv8, hm⟩ := hm
      refine mr_get (ci := 10) (C := RX10) (T := TX10) (N := 17) hx hb hts hi_10 hown hK (mRd hK hP hZ hS) hq8 rfl 0 (by decide) (hts (.fieldLink RX10 7 "HubTrainsLaw$Table" "most" "I") ((List.mem_of_getElem? (i := 2) rfl))) (fun _ h9 => h9) hv8 dX10_deals_8 ?_
      refine lv_icmp_gt (tgt := 125) hx hb dX10_deals_11 (by decide) (fun c_11 => ?_) (fun c_11 => ?_)
      · have hm := hm.1 c_11
        refine lv_aload_n hx hb dX10_deals_125 rfl (lv_at hl 1 rfl) ?_
        obtain ⟨wq126, xx126, hq126, hm⟩ := hm
        refine mr_alen hx hb hK (mRd hK hP hZ hS) 0 hq126 rfl dX10_deals_126 (fun x126 ex126 => ?_)
        have hm := hm x126 ex126
        refine lv_iconst (v := 1) hx hb dX10_deals_127 (by decide) ?_
        refine lv_isub hx hb dX10_deals_128 ?_
        refine lv_topi (fun x128 ex128 => ?_)
        have hm := hm x128 ex128
        refine lv_istore_n (lv' := [(2, .int x128), (0, .ref a0), (1, .ref v1_6)]) hx hb dX10_deals_129 rfl hl (by decide) rfl (fun ls hl => ?_)
        obtain ⟨n_130, hm⟩ := hm
        have L_130 : ∀ (n_130 : Nat) (h_130 : HW) (mc_130 : Nat) (ms_130 : Nat) (v2_130 : Int32) (cl_130 sl_130 : Nat) (H : Heap) (locs : List Loc) (ls : Array Slot), cl_130 + mc_130 ≤ mc ∧ sl_130 + ms_130 ≤ ms → mP G K h_130 H → mD A h_130 → va_S A s.heap H locs → lv_has ls 9 [(0, .ref a0), (1, .ref v1_6), (2, .int v2_130)] → itP4 (w_X10_deals_B130 c K a0 post v1_6) n_130 h_130 mc_130 ms_130 v2_130 → W p l e (rm_X10_deals mc ms) s m args below meth c1 H locs cl_130 sl_130 Q (F0 m 130 ls []) := by
          intro n_130
          induction n_130 with
          | zero => intro h_130 mc_130 ms_130 v2_130 cl_130 sl_130 H locs ls hf hP hD hS hl hm; exact hm.elim
          | succ n_130 ih_130 =>
            intro h_130 mc_130 ms_130 v2_130 cl_130 sl_130 H locs ls hf hP hD hS hl hm
            have hm : (w_X10_deals_B130 c K a0 post v1_6) (itP4 (w_X10_deals_B130 c K a0 post v1_6) n_130) h_130 mc_130 ms_130 v2_130 := hm
            generalize itP4 (w_X10_deals_B130 c K a0 post v1_6) n_130 = rec_130 at hm ih_130
            unfold w_X10_deals_B130 at hm
            refine lv_iload_n hx hb dX10_deals_130 rfl (lv_at hl 2 rfl) ?_
            refine lv_iconst (v := 1) hx hb dX10_deals_131 (by decide) ?_
            refine lv_icmp_lt (tgt := 187) hx hb dX10_deals_132 (by decide) (fun c_132 => ?_) (fun c_132 => ?_)
            · have hm := hm.1 c_132
              refine lv_iconst (v := 0) hx hb dX10_deals_187 (by decide) ?_
              refine lv_istore_n (lv' := [(2, .int (0 : Int32)), (0, .ref a0), (1, .ref v1_6)]) hx hb dX10_deals_188 rfl hl (by decide) rfl (fun ls hl => ?_)
              refine lv_iconst (v := 0) hx hb dX10_deals_189 (by decide) ?_
              refine lv_istore_n (lv' := [(3, .int (0 : Int32)), (2, .int (0 : Int32)), (0, .ref a0), (1, .ref v1_6)]) hx hb dX10_deals_190 rfl hl (by decide) rfl (fun ls hl => ?_)
              obtain ⟨n_191, hm⟩ := hm
              have L_191 : ∀ (n_191 : Nat) (h_191 : HW) (mc_191 : Nat) (ms_191 : Nat) (v2_191 : Int32) (v3_191 : Int32) (cl_191 sl_191 : Nat) (H : Heap) (locs : List Loc) (ls : Array Slot), cl_191 + mc_191 ≤ mc ∧ sl_191 + ms_191 ≤ ms → mP G K h_191 H → mD A h_191 → va_S A s.heap H locs → lv_has ls 9 [(0, .ref a0), (1, .ref v1_6), (2, .int v2_191), (3, .int v3_191)] → itP5 (w_X10_deals_B191 c K a0 post v1_6) n_191 h_191 mc_191 ms_191 v2_191 v3_191 → W p l e (rm_X10_deals mc ms) s m args below meth c1 H locs cl_191 sl_191 Q (F0 m 191 ls []) := by
                intro n_191
                induction n_191 with
                | zero => intro h_191 mc_191 ms_191 v2_191 v3_191 cl_191 sl_191 H locs ls hf hP hD hS hl hm; exact hm.elim
                | succ n_191 ih_191 =>
                  intro h_191 mc_191 ms_191 v2_191 v3_191 cl_191 sl_191 H locs ls hf hP hD hS hl hm
                  have hm : (w_X10_deals_B191 c K a0 post v1_6) (itP5 (w_X10_deals_B191 c K a0 post v1_6) n_191) h_191 mc_191 ms_191 v2_191 v3_191 := hm
                  generalize itP5 (w_X10_deals_B191 c K a0 post v1_6) n_191 = rec_191 at hm ih_191
                  unfold w_X10_deals_B191 at hm
                  refine lv_iload_n hx hb dX10_deals_191 rfl (lv_at hl 3 rfl) ?_
                  refine lv_aload_n hx hb dX10_deals_192 rfl (lv_at hl 0 rfl) ?_
                  obtain ⟨wq193, fs193, g193, hq193, hv193, hm⟩ := hm
                  refine mr_get (ci := 10) (C := RX10) (T := TX10) (N := 17) hx hb hts hi_10 hown hK (mRd hK hP hZ hS) hq193 rfl 10 (by decide) (hts (.fieldLink RX10 27 "HubTrainsLaw$Table" "hands" "[[I") ((List.mem_of_getElem? (i := 4) rfl))) (fun _ h9 => h9) hv193 dX10_deals_193 ?_
                  obtain ⟨wq196, xx196, hq196, hm⟩ := hm
                  refine mr_alen hx hb hK (mRd hK hP hZ hS) 2 hq196 rfl dX10_deals_196 (fun x196 ex196 => ?_)
                  have hm := hm x196 ex196
                  refine lv_icmp_ge (tgt := 250) hx hb dX10_deals_197 (by decide) (fun c_197 => ?_) (fun c_197 => ?_)
                  · have hm := hm.1 c_197
                    refine lv_aload_n hx hb dX10_deals_250 rfl (lv_at hl 0 rfl) ?_
                    refine lv_iconst (v := 0) hx hb dX10_deals_251 (by decide) ?_
                    obtain ⟨hn252, hb252, mB252, zB252, hc252, hs252, hm⟩ := hm
                    refine mr_newa (atype := .int) (a0 := (fun N => (N, .inl (fun _ => 0)))) hx hb (hts (.arrayClass .int) ((List.mem_of_getElem? (i := 1) rfl))) hK 0 rfl hP hD hS hA (fun _ => rfl) hn252 (c65 hb252 (by decide)) (by show cl_191 + 1 ≤ mc; omega) (by show sl_191 + _ ≤ ms; omega) dX10_deals_252 (fun q252 H hfr252 hP hD hS => ?_)
                    have hm := hm q252 hfr252
                    generalize hup h_191 q252 (eI (c 0) (0 : Int32).toNatClampNeg (fun _ => 0)) = h252 at hm hP hD
                    replace hf : (cl_191 + 1) + mB252 ≤ mc ∧ (sl_191 + (0 : Int32).toNatClampNeg) + zB252 ≤ ms := ⟨by omega, by omega⟩
                    clear hc252 hs252 hb252
                    obtain ⟨fs254, hq254, hl254, hm⟩ := hm
                    refine mr_put (v := .ref q252) (ci := 10) (C := RX10) (T := TX10) (N := 17) hx hb hts hi_10 tyX10 (fun k hk => tyX10_ok k (Nat.lt_of_lt_of_le hk (by decide))) (fun a ha b hb => nmX10 a (Nat.lt_of_lt_of_le ha (by decide)) b (Nat.lt_of_lt_of_le hb (by decide))) hown hK hP hD hS hq254 rfl 14 (by decide) (hts (.fieldLink RX10 41 "HubTrainsLaw$Table" "stock" "[I") ((List.mem_of_getElem? (i := 9) rfl))) (fun _ h9 => h9) rfl (tyX10_ok 14 (by decide)) rfl rfl hl254 dX10_deals_254 (fun H locs hP hD hS => ?_)
                    generalize hup h252 a0 (.inr (10, fs254.set 14 (.ref q252))) = h254 at hm hP hD
                    refine lv_iload_n hx hb dX10_deals_257 rfl (lv_at hl 2 rfl) ?_
                    refine lv_istore_n (lv' := [(3, .int v2_191), (0, .ref a0), (1, .ref v1_6), (2, .int v2_191)]) hx hb dX10_deals_258 rfl hl (by decide) rfl (fun ls hl => ?_)
                    obtain ⟨n_259, hm⟩ := hm
                    have L_259 : ∀ (n_259 : Nat) (h_259 : HW) (mc_259 : Nat) (ms_259 : Nat) (v3_259 : Int32) (cl_259 sl_259 : Nat) (H : Heap) (locs : List Loc) (ls : Array Slot), cl_259 + mc_259 ≤ mc ∧ sl_259 + ms_259 ≤ ms → mP G K h_259 H → mD A h_259 → va_S A s.heap H locs → lv_has ls 9 [(0, .ref a0), (1, .ref v1_6), (3, .int v3_259)] → itP4 (w_X10_deals_B259 c K a0 post v1_6) n_259 h_259 mc_259 ms_259 v3_259 → W p l e (rm_X10_deals mc ms) s m args below meth c1 H locs cl_259 sl_259 Q (F0 m 259 ls []) := by
                      intro n_259
                      induction n_259 with
                      | zero => intro h_259 mc_259 ms_259 v3_259 cl_259 sl_259 H locs ls hf hP hD hS hl hm; exact hm.elim
                      | succ n_259 ih_259 =>
                        intro h_259 mc_259 ms_259 v3_259 cl_259 sl_259 H locs ls hf hP hD hS hl hm
                        have hm : (w_X10_deals_B259 c K a0 post v1_6) (itP4 (w_X10_deals_B259 c K a0 post v1_6) n_259) h_259 mc_259 ms_259 v3_259 := hm
                        generalize itP4 (w_X10_deals_B259 c K a0 post v1_6) n_259 = rec_259 at hm ih_259
                        unfold w_X10_deals_B259 at hm
                        refine lv_iload_n hx hb dX10_deals_259 rfl (lv_at hl 2 rfl) ?_
                        refine lv_aload_n hx hb dX10_deals_260 rfl (lv_at hl 1 rfl) ?_
                        obtain ⟨wq261, xx261, hq261, hm⟩ := hm
                        refine mr_alen hx hb hK (mRd hK hP hZ hS) 0 hq261 rfl dX10_deals_261 (fun x261 ex261 => ?_)
                        have hm := hm x261 ex261
                        refine lv_icmp_ge (tgt := 285) hx hb dX10_deals_262 (by decide) (fun c_262 => ?_) (fun c_262 => ?_)
                        · have hm := hm.1 c_262
                          refine lv_iconst (v := 0) hx hb dX10_deals_285 (by decide) ?_
                          refine lv_istore_n (lv' := [(3, .int (0 : Int32)), (0, .ref a0), (1, .ref v1_6)]) hx hb dX10_deals_286 rfl hl (by decide) rfl (fun ls hl => ?_)
                          obtain ⟨n_287, hm⟩ := hm
                          have L_287 : ∀ (n_287 : Nat) (h_287 : HW) (mc_287 : Nat) (ms_287 : Nat) (v3_287 : Int32) (cl_287 sl_287 : Nat) (H : Heap) (locs : List Loc) (ls : Array Slot), cl_287 + mc_287 ≤ mc ∧ sl_287 + ms_287 ≤ ms → mP G K h_287 H → mD A h_287 → va_S A s.heap H locs → lv_has ls 9 [(0, .ref a0), (3, .int v3_287)] → itP4 (w_X10_deals_B287 c K a0 post) n_287 h_287 mc_287 ms_287 v3_287 → W p l e (rm_X10_deals mc ms) s m args below meth c1 H locs cl_287 sl_287 Q (F0 m 287 ls []) := by
                            intro n_287
                            induction n_287 with
                            | zero => intro h_287 mc_287 ms_287 v3_287 cl_287 sl_287 H locs ls hf hP hD hS hl hm; exact hm.elim
                            | succ n_287 ih_287 =>
                              intro h_287 mc_287 ms_287 v3_287 cl_287 sl_287 H locs ls hf hP hD hS hl hm
                              have hm : (w_X10_deals_B287 c K a0 post) (itP4 (w_X10_deals_B287 c K a0 post) n_287) h_287 mc_287 ms_287 v3_287 := hm
                              generalize itP4 (w_X10_deals_B287 c K a0 post) n_287 = rec_287 at hm ih_287
                              unfold w_X10_deals_B287 at hm
                              refine lv_iload_n hx hb dX10_deals_287 rfl (lv_at hl 1 rfl) ?_
                              refine lv_aload_n hx hb dX10_deals_288 rfl (lv_at hl 0 rfl) ?_
                              obtain ⟨wq289, fs289, g289, hq289, hv289, hm⟩ := hm
                              refine mr_get (ci := 10) (C := RX10) (T := TX10) (N := 17) hx hb hts hi_10 hown hK (mRd hK hP hZ hS) hq289 rfl 12 (by decide) (hts (.fieldLink RX10 34 "HubTrainsLaw$Table" "trains" "[[I") ((List.mem_of_getElem? (i := 10) rfl))) (fun _ h9 => h9) hv289 dX10_deals_289 ?_
                              obtain ⟨wq292, xx292, hq292, hm⟩ := hm
                              refine mr_alen hx hb hK (mRd hK hP hZ hS) 2 hq292 rfl dX10_deals_292 (fun x292 ex292 => ?_)
                              have hm := hm x292 ex292
                              refine lv_icmp_ge (tgt := 331) hx hb dX10_deals_293 (by decide) (fun c_293 => ?_) (fun c_293 => ?_)
                              · have hm := hm.1 c_293
                                refine lv_aload_n hx hb dX10_deals_331 rfl (lv_at hl 0 rfl) ?_
                                refine lv_iconst (v := 0) hx hb dX10_deals_332 (by decide) ?_
                                obtain ⟨fs333, hq333, hl333, hm⟩ := hm
                                refine mr_put (v := .int (0 : Int32)) (ci := 10) (C := RX10) (T := TX10) (N := 17) hx hb hts hi_10 tyX10 (fun k hk => tyX10_ok k (Nat.lt_of_lt_of_le hk (by decide))) (fun a ha b hb => nmX10 a (Nat.lt_of_lt_of_le ha (by decide)) b (Nat.lt_of_lt_of_le hb (by decide))) hown hK hP hD hS hq333 rfl 4 (by decide) (hts (.fieldLink RX10 49 "HubTrainsLaw$Table" "turn" "I") ((List.mem_of_getElem? (i := 12) rfl))) (fun _ h9 => h9) rfl (tyX10_ok 4 (by decide)) rfl rfl hl333 dX10_deals_333 (fun H locs hP hD hS => ?_)
                                generalize hup h_287 a0 (.inr (10, fs333.set 4 (.int (0 : Int32)))) = h333 at hm hP hD
                                refine lv_aload_n hx hb dX10_deals_336 rfl (lv_at hl 0 rfl) ?_
                                refine lv_iconst (v := 0) hx hb dX10_deals_337 (by decide) ?_
                                obtain ⟨fs338, hq338, hl338, hz338, hm⟩ := hm
                                refine mr_put (v := .int (0 : Int32)) (ci := 10) (C := RX10) (T := TX10) (N := 17) hx hb hts hi_10 tyX10 (fun k hk => tyX10_ok k (Nat.lt_of_lt_of_le hk (by decide))) (fun a ha b hb => nmX10 a (Nat.lt_of_lt_of_le ha (by decide)) b (Nat.lt_of_lt_of_le hb (by decide))) hown hK hP hD hS hq338 rfl 5 (by decide) (hts (.fieldLink RX10 52 "HubTrainsLaw$Table" "drew" "Z") ((List.mem_of_getElem? (i := 13) rfl))) (fun _ h9 => h9) rfl (tyX10_ok 5 (by decide)) (z01_n hz338) (z01_f hz338) hl338 dX10_deals_338 (fun H locs hP hD hS => ?_)
                                generalize hup h333 a0 (.inr (10, fs338.set 5 (.int (0 : Int32)))) = h338 at hm hP hD
                                refine lv_aload_n hx hb dX10_deals_341 rfl (lv_at hl 0 rfl) ?_
                                refine lv_iconst (v := (-1)) hx hb dX10_deals_342 (by decide) ?_
                                obtain ⟨fs343, hq343, hl343, hm⟩ := hm
                                refine mr_put (v := .int (-1 : Int32)) (ci := 10) (C := RX10) (T := TX10) (N := 17) hx hb hts hi_10 tyX10 (fun k hk => tyX10_ok k (Nat.lt_of_lt_of_le hk (by decide))) (fun a ha b hb => nmX10 a (Nat.lt_of_lt_of_le ha (by decide)) b (Nat.lt_of_lt_of_le hb (by decide))) hown hK hP hD hS hq343 rfl 6 (by decide) (hts (.fieldLink RX10 22 "HubTrainsLaw$Table" "cover" "I") ((List.mem_of_getElem? (i := 14) rfl))) (fun _ h9 => h9) rfl (tyX10_ok 6 (by decide)) rfl rfl hl343 dX10_deals_343 (fun H locs hP hD hS => ?_)
                                generalize hup h338 a0 (.inr (10, fs343.set 6 (.int (-1 : Int32)))) = h343 at hm hP hD
                                refine lv_aload_n hx hb dX10_deals_346 rfl (lv_at hl 0 rfl) ?_
                                refine lv_iconst (v := 0) hx hb dX10_deals_347 (by decide) ?_
                                obtain ⟨fs348, hq348, hl348, hz348, hm⟩ := hm
                                refine mr_put (v := .int (0 : Int32)) (ci := 10) (C := RX10) (T := TX10) (N := 17) hx hb hts hi_10 tyX10 (fun k hk => tyX10_ok k (Nat.lt_of_lt_of_le hk (by decide))) (fun a ha b hb => nmX10 a (Nat.lt_of_lt_of_le ha (by decide)) b (Nat.lt_of_lt_of_le hb (by decide))) hown hK hP hD hS hq348 rfl 7 (by decide) (hts (.fieldLink RX10 56 "HubTrainsLaw$Table" "isOver" "Z") ((List.mem_of_getElem? (i := 15) rfl))) (fun _ h9 => h9) rfl (tyX10_ok 7 (by decide)) (z01_n hz348) (z01_f hz348) hl348 dX10_deals_348 (fun H locs hP hD hS => ?_)
                                generalize hup h343 a0 (.inr (10, fs348.set 7 (.int (0 : Int32)))) = h348 at hm hP hD
                                refine lv_aload_n hx hb dX10_deals_351 rfl (lv_at hl 0 rfl) ?_
                                refine lv_iconst (v := 0) hx hb dX10_deals_352 (by decide) ?_
                                obtain ⟨fs353, hq353, hl353, hm⟩ := hm
                                refine mr_put (v := .int (0 : Int32)) (ci := 10) (C := RX10) (T := TX10) (N := 17) hx hb hts hi_10 tyX10 (fun k hk => tyX10_ok k (Nat.lt_of_lt_of_le hk (by decide))) (fun a ha b hb => nmX10 a (Nat.lt_of_lt_of_le ha (by decide)) b (Nat.lt_of_lt_of_le hb (by decide))) hown hK hP hD hS hq353 rfl 9 (by decide) (hts (.fieldLink RX10 62 "HubTrainsLaw$Table" "passes" "I") ((List.mem_of_getElem? (i := 16) rfl))) (fun _ h9 => h9) rfl (tyX10_ok 9 (by decide)) rfl rfl hl353 dX10_deals_353 (fun H locs hP hD hS => ?_)
                                generalize hup h348 a0 (.inr (10, fs353.set 9 (.int (0 : Int32)))) = h353 at hm hP hD
                                exact hend H locs ls 356 _ _ h353 (by omega) (by omega) hm hP hD hS dX10_deals_356
                              · have hm := hm.2 c_293
                                refine lv_aload_n hx hb dX10_deals_296 rfl (lv_at hl 0 rfl) ?_
                                obtain ⟨wq297, fs297, g297, hq297, hv297, hm⟩ := hm
                                refine mr_get (ci := 10) (C := RX10) (T := TX10) (N := 17) hx hb hts hi_10 hown hK (mRd hK hP hZ hS) hq297 rfl 12 (by decide) (hts (.fieldLink RX10 34 "HubTrainsLaw$Table" "trains" "[[I") ((List.mem_of_getElem? (i := 10) rfl))) (fun _ h9 => h9) hv297 dX10_deals_297 ?_
                                refine lv_iload_n hx hb dX10_deals_300 rfl (lv_at hl 1 rfl) ?_
                                refine lv_iconst (v := 0) hx hb dX10_deals_301 (by decide) ?_
                                obtain ⟨hn302, hb302, mB302, zB302, hc302, hs302, hm⟩ := hm
                                refine mr_newa (atype := .int) (a0 := (fun N => (N, .inl (fun _ => 0)))) hx hb (hts (.arrayClass .int) ((List.mem_of_getElem? (i := 1) rfl))) hK 0 rfl hP hD hS hA (fun _ => rfl) hn302 (c65 hb302 (by decide)) (by show cl_287 + 1 ≤ mc; omega) (by show sl_287 + _ ≤ ms; omega) dX10_deals_302 (fun q302 H hfr302 hP hD hS => ?_)
                                have hm := hm q302 hfr302
                                generalize hup h_287 q302 (eI (c 0) (0 : Int32).toNatClampNeg (fun _ => 0)) = h302 at hm hP hD
                                replace hf : (cl_287 + 1) + mB302 ≤ mc ∧ (sl_287 + (0 : Int32).toNatClampNeg) + zB302 ≤ ms := ⟨by omega, by omega⟩
                                clear hc302 hs302 hb302
                                obtain ⟨n304, f304, wq304, xx304, hq304, hi304, hv304, hm⟩ := hm
                                refine mr_aastA hx hb hXX.1.2 hK hP hZ hD hS 0 2 rfl rfl hq304 hv304 hi304 dX10_deals_304 (fun H locs hP hD hS => ?_)
                                generalize hup h302 g297 (eQ (c 2) n304 (va_up f304 v3_287.toNatClampNeg (some q302))) = h304 at hm hP hD
                                refine lv_aload_n hx hb dX10_deals_305 rfl (lv_at hl 0 rfl) ?_
                                obtain ⟨wq306, fs306, g306, hq306, hv306, hm⟩ := hm
                                refine mr_get (ci := 10) (C := RX10) (T := TX10) (N := 17) hx hb hts hi_10 hown hK (mRd hK hP hZ hS) hq306 rfl 13 (by decide) (hts (.fieldLink RX10 37 "HubTrainsLaw$Table" "isOpen" "[Z") ((List.mem_of_getElem? (i := 11) rfl))) (fun _ h9 => h9) hv306 dX10_deals_306 ?_
                                refine lv_iload_n hx hb dX10_deals_309 rfl (lv_at hl 1 rfl) ?_
                                refine lv_iload_n hx hb dX10_deals_310 rfl (lv_at hl 1 rfl) ?_
                                refine lv_aload_n hx hb dX10_deals_311 rfl (lv_at hl 0 rfl) ?_
                                obtain ⟨wq312, fs312, g312, hq312, hv312, hm⟩ := hm
                                refine mr_get (ci := 10) (C := RX10) (T := TX10) (N := 17) hx hb hts hi_10 hown hK (mRd hK hP hZ hS) hq312 rfl 10 (by decide) (hts (.fieldLink RX10 27 "HubTrainsLaw$Table" "hands" "[[I") ((List.mem_of_getElem? (i := 4) rfl))) (fun _ h9 => h9) hv312 dX10_deals_312 ?_
                                obtain ⟨wq315, xx315, hq315, hm⟩ := hm
                                refine mr_alen hx hb hK (mRd hK hP hZ hS) 2 hq315 rfl dX10_deals_315 (fun x315 ex315 => ?_)
                                have hm := hm x315 ex315
                                have J_324 : ∀ (mc_324 ms_324 : Nat) (s0_324 : Int32) (s1_324 : Int32) (s2_324 : Nat) (cl_324 sl_324 : Nat) (H : Heap) (locs : List Loc) (ls : Array Slot), cl_324 + mc_324 ≤ mc ∧ sl_324 + ms_324 ≤ ms → mP G K h304 H → mD A h304 → va_S A s.heap H locs → lv_has ls 9 [(0, .ref a0), (3, .int v3_287)] → w_X10_deals_J324 c K rec_287 v3_287 h304 mc_324 ms_324 s0_324 s1_324 s2_324 → W p l e (rm_X10_deals mc ms) s m args below meth c1 H locs cl_324 sl_324 Q (F0 m 324 ls [.int s0_324, .int s1_324, .ref s2_324]) := by
                                  intro mc_324 ms_324 s0_324 s1_324 s2_324 cl_324 sl_324 H locs ls hf hP hD hS hl hm
                                  unfold w_X10_deals_J324 at hm
                                  obtain ⟨n324, f324, hq324, hi324, hz324, hm⟩ := hm
                                  refine mr_zast hx hb hK hP hD hS 4 hq324 rfl hz324 hi324 dX10_deals_324 (fun H locs hP hD hS => ?_)
                                  generalize hup h304 s2_324 (eI (c 4) n324 (upd f324 s1_324.toNatClampNeg s0_324)) = h324 at hm hP hD
                                  obtain ⟨x325, ex325⟩ : ∃ z : Int32, z = (v3_287 + 1) := ⟨_, rfl⟩
                                  have hm := hm x325 ex325
                                  refine lv_iinc (k := 1) (v := x325) (lv' := [(3, .int x325), (0, .ref a0)]) hx hb dX10_deals_325 hl rfl ex325.symm (by decide) rfl (fun ls hl => ?_)
                                  refine lv_goto (tgt := 287) hx hb dX10_deals_328 (by decide) ?_
                                  exact ih_287 h324 mc_324 ms_324 x325 cl_324 sl_324 H locs ls ⟨by omega, by omega⟩ hP hD hS (lv_sub hl [1, 0] rfl) hm
                                refine lv_icmp_ne (tgt := 323) hx hb dX10_deals_316 (by decide) (fun c_316 => ?_) (fun c_316 => ?_)
                                · have hm := hm.2 c_316
                                  refine lv_iconst (v := 0) hx hb dX10_deals_323 (by decide) ?_
                                  exact J_324 mB302 zB302 (0 : Int32) v3_287 g306 (cl_287 + 1) (sl_287 + (0 : Int32).toNatClampNeg) H locs ls ⟨by omega, by omega⟩ hP hD hS (lv_sub hl [0, 1] rfl) hm
                                · have hm := hm.1 c_316
                                  refine lv_iconst (v := 1) hx hb dX10_deals_319 (by decide) ?_
                                  refine lv_goto (tgt := 324) hx hb dX10_deals_320 (by decide) ?_
                                  exact J_324 mB302 zB302 (1 : Int32) v3_287 g306 (cl_287 + 1) (sl_287 + (0 : Int32).toNatClampNeg) H locs ls ⟨by omega, by omega⟩ hP hD hS (lv_sub hl [0, 1] rfl) hm
                          exact L_287 n_287 h_259 mc_259 ms_259 (0 : Int32) cl_259 sl_259 H locs ls ⟨by omega, by omega⟩ hP hD hS (lv_sub hl [1, 0] rfl) hm
                        · have hm := hm.2 c_262
                          refine lv_aload_n hx hb dX10_deals_265 rfl (lv_at hl 0 rfl) ?_
                          refine lv_aload_n hx hb dX10_deals_266 rfl (lv_at hl 0 rfl) ?_
                          obtain ⟨wq267, fs267, g267, hq267, hv267, hm⟩ := hm
                          refine mr_get (ci := 10) (C := RX10) (T := TX10) (N := 17) hx hb hts hi_10 hown hK (mRd hK hP hZ hS) hq267 rfl 14 (by decide) (hts (.fieldLink RX10 41 "HubTrainsLaw$Table" "stock" "[I") ((List.mem_of_getElem? (i := 9) rfl))) (fun _ h9 => h9) hv267 dX10_deals_267 ?_
                          refine lv_aload_n hx hb dX10_deals_270 rfl (lv_at hl 1 rfl) ?_
                          refine lv_iload_n hx hb dX10_deals_271 rfl (lv_at hl 2 rfl) ?_
                          obtain ⟨wq272, n272, f272, hq272, hi272, hm⟩ := hm
                          refine mr_iald hx hb hK (mRd hK hP hZ hS) 0 hq272 rfl hi272 dX10_deals_272 (fun x272 ex272 => ?_)
                          have hm := hm x272 ex272
                          obtain ⟨m273, z273, mB273, zB273, hbm273, hbs273, hm⟩ := hm
                          refine hcSNq (As := [.ref g267, .int x272]) (rest := [.ref a0]) ⟨hx, hb, hml, hown, hts⟩ (h_L_with l G K c h_259 g267 x272 m273 z273 _ hm) ⟨va_cnB 2 hts gX10_deals_L_with_n83 rfl rfl rfl (nwm_HubTrainsLaw_Table_83 hN.2.1) (hts (.initialized RL) ((List.mem_of_getElem? (i := 18) rfl))) he_L_with ⟨Nat.le_of_ble_eq_true rfl, Nat.le_of_ble_eq_true rfl⟩, (hts (.static yL_with) ((List.mem_of_getElem? (i := 20) rfl))), trivial⟩ hK hN hZ hXX hP hD hS hA rfl hl.1 rfl (Nat.le_of_ble_eq_true rfl) dX10_deals_273 ⟨by show cl_259 + m273 ≤ mc; omega, by show sl_259 + z273 ≤ ms; omega⟩ (fun r273 h273 H locs hm hP hD hS => ?_)
                          obtain ⟨a273, rfl, hm⟩ := hm
                          replace hf : (cl_259 + m273) + mB273 ≤ mc ∧ (sl_259 + z273) + zB273 ≤ ms := ⟨by omega, by omega⟩
                          clear hbm273 hbs273
                          obtain ⟨fs276, hq276, hl276, hm⟩ := hm
                          refine mr_put (v := .ref a273) (ci := 10) (C := RX10) (T := TX10) (N := 17) hx hb hts hi_10 tyX10 (fun k hk => tyX10_ok k (Nat.lt_of_lt_of_le hk (by decide))) (fun a ha b hb => nmX10 a (Nat.lt_of_lt_of_le ha (by decide)) b (Nat.lt_of_lt_of_le hb (by decide))) hown hK hP hD hS hq276 rfl 14 (by decide) (hts (.fieldLink RX10 41 "HubTrainsLaw$Table" "stock" "[I") ((List.mem_of_getElem? (i := 9) rfl))) (fun _ h9 => h9) rfl (tyX10_ok 14 (by decide)) rfl rfl hl276 dX10_deals_276 (fun H locs hP hD hS => ?_)
                          generalize hup h273 a0 (.inr (10, fs276.set 14 (.ref a273))) = h276 at hm hP hD
                          obtain ⟨x279, ex279⟩ : ∃ z : Int32, z = (v3_259 + 1) := ⟨_, rfl⟩
                          have hm := hm x279 ex279
                          refine lv_iinc (k := 2) (v := x279) (lv' := [(3, .int x279), (0, .ref a0), (1, .ref v1_6)]) hx hb dX10_deals_279 hl rfl ex279.symm (by decide) rfl (fun ls hl => ?_)
                          refine lv_goto (tgt := 259) hx hb dX10_deals_282 (by decide) ?_
                          exact ih_259 h276 mB273 zB273 x279 (cl_259 + m273) (sl_259 + z273) H locs ls ⟨by omega, by omega⟩ hP hD hS (lv_sub hl [1, 2, 0] rfl) hm
                    exact L_259 n_259 h254 mB252 zB252 v2_191 (cl_191 + 1) (sl_191 + (0 : Int32).toNatClampNeg) H locs ls ⟨by omega, by omega⟩ hP hD hS (lv_sub hl [1, 2, 0] rfl) hm
                  · have hm := hm.2 c_197
                    obtain ⟨n_200, hm⟩ := hm
                    have L_200 : ∀ (n_200 : Nat) (h_200 : HW) (mc_200 : Nat) (ms_200 : Nat) (v2_200 : Int32) (cl_200 sl_200 : Nat) (H : Heap) (locs : List Loc) (ls : Array Slot), cl_200 + mc_200 ≤ mc ∧ sl_200 + ms_200 ≤ ms → mP G K h_200 H → mD A h_200 → va_S A s.heap H locs → lv_has ls 9 [(0, .ref a0), (1, .ref v1_6), (2, .int v2_200), (3, .int v3_191)] → itP4 (w_X10_deals_B200 c K a0 v1_6 rec_191 v3_191) n_200 h_200 mc_200 ms_200 v2_200 → W p l e (rm_X10_deals mc ms) s m args below meth c1 H locs cl_200 sl_200 Q (F0 m 200 ls []) := by
                      intro n_200
                      induction n_200 with
                      | zero => intro h_200 mc_200 ms_200 v2_200 cl_200 sl_200 H locs ls hf hP hD hS hl hm; exact hm.elim
                      | succ n_200 ih_200 =>
                        intro h_200 mc_200 ms_200 v2_200 cl_200 sl_200 H locs ls hf hP hD hS hl hm
                        have hm : (w_X10_deals_B200 c K a0 v1_6 rec_191 v3_191) (itP4 (w_X10_deals_B200 c K a0 v1_6 rec_191 v3_191) n_200) h_200 mc_200 ms_200 v2_200 := hm
                        generalize itP4 (w_X10_deals_B200 c K a0 v1_6 rec_191 v3_191) n_200 = rec_200 at hm ih_200
                        unfold w_X10_deals_B200 at hm
                        refine lv_aload_n hx hb dX10_deals_200 rfl (lv_at hl 0 rfl) ?_
                        obtain ⟨wq201, fs201, g201, hq201, hv201, hm⟩ := hm
                        refine mr_get (ci := 10) (C := RX10) (T := TX10) (N := 17) hx hb hts hi_10 hown hK (mRd hK hP hZ hS) hq201 rfl 10 (by decide) (hts (.fieldLink RX10 27 "HubTrainsLaw$Table" "hands" "[[I") ((List.mem_of_getElem? (i := 4) rfl))) (fun _ h9 => h9) hv201 dX10_deals_201 ?_
                        refine lv_iload_n hx hb dX10_deals_204 rfl (lv_at hl 3 rfl) ?_
                        obtain ⟨wq205, n205, f205, x205, hq205, hi205, hv205, hm⟩ := hm
                        refine mr_aldq (ty := (.array .int)) hx hb hK (mRd hK hP hZ hS) 2 rfl hq205 rfl hi205 dX10_deals_205 (fun o205 eo205 => ?_)
                        obtain rfl := eo205.trans hv205
                        obtain ⟨wq206, xx206, hq206, hm⟩ := hm
                        refine mr_alen hx hb hK (mRd hK hP hZ hS) 0 hq206 rfl dX10_deals_206 (fun x206 ex206 => ?_)
                        have hm := hm x206 ex206
                        refine lv_aload_n hx hb dX10_deals_207 rfl (lv_at hl 0 rfl) ?_
                        obtain ⟨wq208, fs208, g208, hq208, hv208, hm⟩ := hm
                        refine mr_get (ci := 10) (C := RX10) (T := TX10) (N := 17) hx hb hts hi_10 hown hK (mRd hK hP hZ hS) hq208 rfl 1 (by decide) (hts (.fieldLink RX10 13 "HubTrainsLaw$Table" "handSize" "I") ((List.mem_of_getElem? (i := 8) rfl))) (fun _ h9 => h9) hv208 dX10_deals_208 ?_
                        have J_244 : ∀ (mc_244 ms_244 : Nat) (cl_244 sl_244 : Nat) (H : Heap) (locs : List Loc) (ls : Array Slot), cl_244 + mc_244 ≤ mc ∧ sl_244 + ms_244 ≤ ms → mP G K h_200 H → mD A h_200 → va_S A s.heap H locs → lv_has ls 9 [(0, .ref a0), (1, .ref v1_6), (2, .int v2_200), (3, .int v3_191)] → w_X10_deals_J244 c K rec_191 v3_191 h_200 v2_200 mc_244 ms_244 → W p l e (rm_X10_deals mc ms) s m args below meth c1 H locs cl_244 sl_244 Q (F0 m 244 ls []) := by
                          intro mc_244 ms_244 cl_244 sl_244 H locs ls hf hP hD hS hl hm
                          unfold w_X10_deals_J244 at hm
                          obtain ⟨x244, ex244⟩ : ∃ z : Int32, z = (v3_191 + 1) := ⟨_, rfl⟩
                          have hm := hm x244 ex244
                          refine lv_iinc (k := 3) (v := x244) (lv' := [(3, .int x244), (0, .ref a0), (1, .ref v1_6), (2, .int v2_200)]) hx hb dX10_deals_244 hl rfl ex244.symm (by decide) rfl (fun ls hl => ?_)
                          refine lv_goto (tgt := 191) hx hb dX10_deals_247 (by decide) ?_
                          exact ih_191 h_200 mc_244 ms_244 v2_200 x244 cl_244 sl_244 H locs ls ⟨by omega, by omega⟩ hP hD hS (lv_sub hl [1, 2, 3, 0] rfl) hm
                        refine lv_icmp_ge (tgt := 244) hx hb dX10_deals_211 (by decide) (fun c_211 => ?_) (fun c_211 => ?_)
                        · have hm := hm.1 c_211
                          exact J_244 mc_200 ms_200 cl_200 sl_200 H locs ls ⟨by omega, by omega⟩ hP hD hS (lv_sub hl [0, 1, 2, 3] rfl) hm
                        · have hm := hm.2 c_211
                          refine lv_iload_n hx hb dX10_deals_214 rfl (lv_at hl 2 rfl) ?_
                          refine lv_aload_n hx hb dX10_deals_215 rfl (lv_at hl 1 rfl) ?_
                          obtain ⟨wq216, xx216, hq216, hm⟩ := hm
                          refine mr_alen hx hb hK (mRd hK hP hZ hS) 0 hq216 rfl dX10_deals_216 (fun x216 ex216 => ?_)
                          have hm := hm x216 ex216
                          refine lv_icmp_ge (tgt := 244) hx hb dX10_deals_217 (by decide) (fun c_217 => ?_) (fun c_217 => ?_)
                          · have hm := hm.1 c_217
                            exact J_244 mc_200 ms_200 cl_200 sl_200 H locs ls ⟨by omega, by omega⟩ hP hD hS (lv_sub hl [0, 1, 2, 3] rfl) hm
                          · have hm := hm.2 c_217
                            refine lv_aload_n hx hb dX10_deals_220 rfl (lv_at hl 0 rfl) ?_
                            obtain ⟨wq221, fs221, g221, hq221, hv221, hm⟩ := hm
                            refine mr_get (ci := 10) (C := RX10) (T := TX10) (N := 17) hx hb hts hi_10 hown hK (mRd hK hP hZ hS) hq221 rfl 10 (by decide) (hts (.fieldLink RX10 27 "HubTrainsLaw$Table" "hands" "[[I") ((List.mem_of_getElem? (i := 4) rfl))) (fun _ h9 => h9) hv221 dX10_deals_221 ?_
                            refine lv_iload_n hx hb dX10_deals_224 rfl (lv_at hl 3 rfl) ?_
                            refine lv_aload_n hx hb dX10_deals_225 rfl (lv_at hl 0 rfl) ?_
                            obtain ⟨wq226, fs226, g226, hq226, hv226, hm⟩ := hm
                            refine mr_get (ci := 10) (C := RX10) (T := TX10) (N := 17) hx hb hts hi_10 hown hK (mRd hK hP hZ hS) hq226 rfl 10 (by decide) (hts (.fieldLink RX10 27 "HubTrainsLaw$Table" "hands" "[[I") ((List.mem_of_getElem? (i := 4) rfl))) (fun _ h9 => h9) hv226 dX10_deals_226 ?_
                            refine lv_iload_n hx hb dX10_deals_229 rfl (lv_at hl 3 rfl) ?_
                            obtain ⟨wq230, n230, f230, x230, hq230, hi230, hv230, hm⟩ := hm
                            refine mr_aldq (ty := (.array .int)) hx hb hK (mRd hK hP hZ hS) 2 rfl hq230 rfl hi230 dX10_deals_230 (fun o230 eo230 => ?_)
                            obtain rfl := eo230.trans hv230
                            refine lv_aload_n hx hb dX10_deals_231 rfl (lv_at hl 1 rfl) ?_
                            refine lv_iload_n hx hb dX10_deals_232 rfl (lv_at hl 2 rfl) ?_
                            obtain ⟨wq233, n233, f233, hq233, hi233, hm⟩ := hm
                            refine mr_iald hx hb hK (mRd hK hP hZ hS) 0 hq233 rfl hi233 dX10_deals_233 (fun x233 ex233 => ?_)
                            have hm := hm x233 ex233
                            obtain ⟨m234, z234, mB234, zB234, hbm234, hbs234, hm⟩ := hm
                            refine hcSNq (As := [.ref x230, .int x233]) (rest := [.int v3_191, .ref g221]) ⟨hx, hb, hml, hown, hts⟩ (h_L_with l G K c h_200 x230 x233 m234 z234 _ hm) ⟨va_cnB 2 hts gX10_deals_L_with_n83 rfl rfl rfl (nwm_HubTrainsLaw_Table_83 hN.2.1) (hts (.initialized RL) ((List.mem_of_getElem? (i := 18) rfl))) he_L_with ⟨Nat.le_of_ble_eq_true rfl, Nat.le_of_ble_eq_true rfl⟩, (hts (.static yL_with) ((List.mem_of_getElem? (i := 20) rfl))), trivial⟩ hK hN hZ hXX hP hD hS hA rfl hl.1 rfl (Nat.le_of_ble_eq_true rfl) dX10_deals_234 ⟨by show cl_200 + m234 ≤ mc; omega, by show sl_200 + z234 ≤ ms; omega⟩ (fun r234 h234 H locs hm hP hD hS => ?_)
                            obtain ⟨a234, rfl, hm⟩ := hm
                            replace hf : (cl_200 + m234) + mB234 ≤ mc ∧ (sl_200 + z234) + zB234 ≤ ms := ⟨by omega, by omega⟩
                            clear hbm234 hbs234
                            obtain ⟨n237, f237, wq237, xx237, hq237, hi237, hv237, hm⟩ := hm
                            refine mr_aastA hx hb hXX.1.2 hK hP hZ hD hS 0 2 rfl rfl hq237 hv237 hi237 dX10_deals_237 (fun H locs hP hD hS => ?_)
                            generalize hup h234 g221 (eQ (c 2) n237 (va_up f237 v3_191.toNatClampNeg (some a234))) = h237 at hm hP hD
                            obtain ⟨x238, ex238⟩ : ∃ z : Int32, z = (v2_200 + 1) := ⟨_, rfl⟩
                            have hm := hm x238 ex238
                            refine lv_iinc (k := 2) (v := x238) (lv' := [(2, .int x238), (0, .ref a0), (1, .ref v1_6), (3, .int v3_191)]) hx hb dX10_deals_238 hl rfl ex238.symm (by decide) rfl (fun ls hl => ?_)
                            refine lv_goto (tgt := 200) hx hb dX10_deals_241 (by decide) ?_
                            exact ih_200 h237 mB234 zB234 x238 (cl_200 + m234) (sl_200 + z234) H locs ls ⟨by omega, by omega⟩ hP hD hS (lv_sub hl [1, 2, 0, 3] rfl) hm
                    exact L_200 n_200 h_191 mc_191 ms_191 v2_191 cl_191 sl_191 H locs ls ⟨by omega, by omega⟩ hP hD hS (lv_sub hl [0, 1, 2, 3] rfl) hm
              exact L_191 n_191 h_130 mc_130 ms_130 (0 : Int32) (0 : Int32) cl_130 sl_130 H locs ls ⟨by omega, by omega⟩ hP hD hS (lv_sub hl [2, 3, 1, 0] rfl) hm
            · have hm := hm.2 c_132
              refine lv_aload_n hx hb dX10_deals_135 rfl (lv_at hl 0 rfl) ?_
              refine lv_ldc (v := 1103515245) hx hb hown (hts (.constant RX10 87 (1103515245)) ((List.mem_of_getElem? (i := 5) rfl))) dX10_deals_136 ?_
              refine lv_aload_n hx hb dX10_deals_138 rfl (lv_at hl 0 rfl) ?_
              obtain ⟨wq139, fs139, g139, hq139, hv139, hm⟩ := hm
              refine mr_get (ci := 10) (C := RX10) (T := TX10) (N := 17) hx hb hts hi_10 hown hK (mRd hK hP hZ hS) hq139 rfl 3 (by decide) (hts (.fieldLink RX10 19 "HubTrainsLaw$Table" "seed" "I") ((List.mem_of_getElem? (i := 6) rfl))) (fun _ h9 => h9) hv139 dX10_deals_139 ?_
              refine lv_imul hx hb dX10_deals_142 ?_
              refine lv_topi (fun x142 ex142 => ?_)
              have hm := hm x142 ex142
              refine lv_sipush (v := 12345) hx hb dX10_deals_143 (by decide) ?_
              refine lv_iadd hx hb dX10_deals_146 ?_
              refine lv_topi (fun x146 ex146 => ?_)
              have hm := hm x146 ex146
              obtain ⟨fs147, hq147, hl147, hm⟩ := hm
              refine mr_put (v := .int x146) (ci := 10) (C := RX10) (T := TX10) (N := 17) hx hb hts hi_10 tyX10 (fun k hk => tyX10_ok k (Nat.lt_of_lt_of_le hk (by decide))) (fun a ha b hb => nmX10 a (Nat.lt_of_lt_of_le ha (by decide)) b (Nat.lt_of_lt_of_le hb (by decide))) hown hK hP hD hS hq147 rfl 3 (by decide) (hts (.fieldLink RX10 19 "HubTrainsLaw$Table" "seed" "I") ((List.mem_of_getElem? (i := 6) rfl))) (fun _ h9 => h9) rfl (tyX10_ok 3 (by decide)) rfl rfl hl147 dX10_deals_147 (fun H locs hP hD hS => ?_)
              generalize hup h_130 a0 (.inr (10, fs147.set 3 (.int x146))) = h147 at hm hP hD
              refine lv_aload_n hx hb dX10_deals_150 rfl (lv_at hl 0 rfl) ?_
              obtain ⟨wq151, fs151, g151, hq151, hv151, hm⟩ := hm
              refine mr_get (ci := 10) (C := RX10) (T := TX10) (N := 17) hx hb hts hi_10 hown hK (mRd hK hP hZ hS) hq151 rfl 3 (by decide) (hts (.fieldLink RX10 19 "HubTrainsLaw$Table" "seed" "I") ((List.mem_of_getElem? (i := 6) rfl))) (fun _ h9 => h9) hv151 dX10_deals_151 ?_
              refine lv_bipush (v := 16) hx hb dX10_deals_154 (by decide) ?_
              refine lv_iushr hx hb dX10_deals_156 rfl ?_
              refine lv_topi (fun x156 ex156 => ?_)
              have hm := hm x156 ex156
              refine lv_ldc (v := 32768) hx hb hown (hts (.constant RX10 88 (32768)) ((List.mem_of_getElem? (i := 7) rfl))) dX10_deals_157 ?_
              refine lv_irem hx hb dX10_deals_159 (by decide) ?_
              refine lv_topi (fun x159 ex159 => ?_)
              have hm := hm x159 ex159
              refine lv_iload_n hx hb dX10_deals_160 rfl (lv_at hl 2 rfl) ?_
              refine lv_iconst (v := 1) hx hb dX10_deals_161 (by decide) ?_
              refine lv_iadd hx hb dX10_deals_162 ?_
              refine lv_topi (fun x162 ex162 => ?_)
              have hm := hm x162 ex162
              obtain ⟨hnz163, hm⟩ := hm
              refine lv_irem hx hb dX10_deals_163 hnz163 ?_
              refine lv_topi (fun x163 ex163 => ?_)
              have hm := hm x163 ex163
              refine lv_istore_n (lv' := [(3, .int x163), (0, .ref a0), (1, .ref v1_6), (2, .int v2_130)]) hx hb dX10_deals_164 rfl hl (by decide) rfl (fun ls hl => ?_)
              refine lv_aload_n hx hb dX10_deals_165 rfl (lv_at hl 2 rfl) ?_
              refine lv_iload_n hx hb dX10_deals_166 rfl (lv_at hl 3 rfl) ?_
              obtain ⟨wq167, n167, f167, hq167, hi167, hm⟩ := hm
              refine mr_iald hx hb hK (mRd hK hP hZ hS) 0 hq167 rfl hi167 dX10_deals_167 (fun x167 ex167 => ?_)
              have hm := hm x167 ex167
              refine lv_istore (lv' := [(4, .int x167), (3, .int x163), (0, .ref a0), (1, .ref v1_6), (2, .int v2_130)]) hx hb dX10_deals_168 hl (by decide) rfl (fun ls hl => ?_)
              refine lv_aload_n hx hb dX10_deals_170 rfl (lv_at hl 3 rfl) ?_
              refine lv_iload_n hx hb dX10_deals_171 rfl (lv_at hl 4 rfl) ?_
              refine lv_aload_n hx hb dX10_deals_172 rfl (lv_at hl 3 rfl) ?_
              refine lv_iload_n hx hb dX10_deals_173 rfl (lv_at hl 1 rfl) ?_
              obtain ⟨wq174, n174, f174, hq174, hi174, hm⟩ := hm
              refine mr_iald hx hb hK (mRd hK hP hZ hS) 0 hq174 rfl hi174 dX10_deals_174 (fun x174 ex174 => ?_)
              have hm := hm x174 ex174
              obtain ⟨n175, f175, hq175, hi175, hm⟩ := hm
              refine mr_iast hx hb hK hP hD hS 0 hq175 rfl hi175 dX10_deals_175 (fun H locs hP hD hS => ?_)
              generalize hup h147 v1_6 (eI (c 0) n175 (upd f175 v2_130.toNatClampNeg x174)) = h175 at hm hP hD
              refine lv_aload_n hx hb dX10_deals_176 rfl (lv_at hl 3 rfl) ?_
              refine lv_iload_n hx hb dX10_deals_177 rfl (lv_at hl 1 rfl) ?_
              refine lv_iload hx hb dX10_deals_178 (lv_at hl 0 rfl) ?_
              obtain ⟨n180, f180, hq180, hi180, hm⟩ := hm
              refine mr_iast hx hb hK hP hD hS 0 hq180 rfl hi180 dX10_deals_180 (fun H locs hP hD hS => ?_)
              generalize hup h175 v1_6 (eI (c 0) n180 (upd f180 x163.toNatClampNeg x167)) = h180 at hm hP hD
              obtain ⟨x181, ex181⟩ : ∃ z : Int32, z = (v2_130 + (-1)) := ⟨_, rfl⟩
              have hm := hm x181 ex181
              refine lv_iinc (k := 4) (v := x181) (lv' := [(2, .int x181), (4, .int x167), (3, .int x163), (0, .ref a0), (1, .ref v1_6)]) hx hb dX10_deals_181 hl rfl ex181.symm (by decide) rfl (fun ls hl => ?_)
              refine lv_goto (tgt := 130) hx hb dX10_deals_184 (by decide) ?_
              exact ih_130 h180 mc_130 ms_130 x181 cl_130 sl_130 H locs ls ⟨by omega, by omega⟩ hP hD hS (lv_sub hl [3, 4, 0] rfl) hm
        exact L_130 n_130 h_6 mc_6 ms_6 x128 cl_6 sl_6 H locs ls ⟨by omega, by omega⟩ hP hD hS (lv_sub hl [1, 2, 0] rfl) hm
      · have hm := hm.2 c_11
        refine lv_iload_n hx hb dX10_deals_14 rfl (lv_at hl 2 rfl) ?_
        refine lv_istore_n (lv' := [(3, .int v2_6), (0, .ref a0), (1, .ref v1_6), (2, .int v2_6)]) hx hb dX10_deals_15 rfl hl (by decide) rfl (fun ls hl => ?_)
        obtain ⟨n_16, hm⟩ := hm
        have L_16 : ∀ (n_16 : Nat) (h_16 : HW) (mc_16 : Nat) (ms_16 : Nat) (v1_16 : Nat) (v3_16 : Int32) (cl_16 sl_16 : Nat) (H : Heap) (locs : List Loc) (ls : Array Slot), cl_16 + mc_16 ≤ mc ∧ sl_16 + ms_16 ≤ ms → mP G K h_16 H → mD A h_16 → va_S A s.heap H locs → lv_has ls 9 [(0, .ref a0), (1, .ref v1_16), (2, .int v2_6), (3, .int v3_16)] → itP5 (w_X10_deals_B16 c K a0 rec_6 v2_6) n_16 h_16 mc_16 ms_16 v1_16 v3_16 → W p l e (rm_X10_deals mc ms) s m args below meth c1 H locs cl_16 sl_16 Q (F0 m 16 ls []) := by
          intro n_16
          induction n_16 with
          | zero => intro h_16 mc_16 ms_16 v1_16 v3_16 cl_16 sl_16 H locs ls hf hP hD hS hl hm; exact hm.elim
          | succ n_16 ih_16 =>
            intro h_16 mc_16 ms_16 v1_16 v3_16 cl_16 sl_16 H locs ls hf hP hD hS hl hm
            have hm : (w_X10_deals_B16 c K a0 rec_6 v2_6) (itP5 (w_X10_deals_B16 c K a0 rec_6 v2_6) n_16) h_16 mc_16 ms_16 v1_16 v3_16 := hm
            generalize itP5 (w_X10_deals_B16 c K a0 rec_6 v2_6) n_16 = rec_16 at hm ih_16
            unfold w_X10_deals_B16 at hm
            refine lv_iload_n hx hb dX10_deals_16 rfl (lv_at hl 3 rfl) ?_
            refine lv_aload_n hx hb dX10_deals_17 rfl (lv_at hl 0 rfl) ?_
            obtain ⟨wq18, fs18, g18, hq18, hv18, hm⟩ := hm
            refine mr_get (ci := 10) (C := RX10) (T := TX10) (N := 17) hx hb hts hi_10 hown hK (mRd hK hP hZ hS) hq18 rfl 0 (by decide) (hts (.fieldLink RX10 7 "HubTrainsLaw$Table" "most" "I") ((List.mem_of_getElem? (i := 2) rfl))) (fun _ h9 => h9) hv18 dX10_deals_18 ?_
            refine lv_icmp_gt (tgt := 119) hx hb dX10_deals_21 (by decide) (fun c_21 => ?_) (fun c_21 => ?_)
            · have hm := hm.1 c_21
              obtain ⟨x119, ex119⟩ : ∃ z : Int32, z = (v2_6 + 1) := ⟨_, rfl⟩
              have hm := hm x119 ex119
              refine lv_iinc (k := 2) (v := x119) (lv' := [(2, .int x119), (0, .ref a0), (1, .ref v1_16), (3, .int v3_16)]) hx hb dX10_deals_119 hl rfl ex119.symm (by decide) rfl (fun ls hl => ?_)
              refine lv_goto (tgt := 6) hx hb dX10_deals_122 (by decide) ?_
              exact ih_6 h_16 mc_16 ms_16 v1_16 x119 cl_16 sl_16 H locs ls ⟨by omega, by omega⟩ hP hD hS (lv_sub hl [1, 2, 0] rfl) hm
            · have hm := hm.2 c_21
              refine lv_iload_n hx hb dX10_deals_24 rfl (lv_at hl 2 rfl) ?_
              refine lv_aload_n hx hb dX10_deals_25 rfl (lv_at hl 0 rfl) ?_
              obtain ⟨wq26, fs26, g26, hq26, hv26, hm⟩ := hm
              refine mr_get (ci := 10) (C := RX10) (T := TX10) (N := 17) hx hb hts hi_10 hown hK (mRd hK hP hZ hS) hq26 rfl 2 (by decide) (hts (.fieldLink RX10 16 "HubTrainsLaw$Table" "hub" "I") ((List.mem_of_getElem? (i := 3) rfl))) (fun _ h9 => h9) hv26 dX10_deals_26 ?_
              have J_45 : ∀ (mc_45 ms_45 : Nat) (s0_45 : Int32) (cl_45 sl_45 : Nat) (H : Heap) (locs : List Loc) (ls : Array Slot), cl_45 + mc_45 ≤ mc ∧ sl_45 + ms_45 ≤ ms → mP G K h_16 H → mD A h_16 → va_S A s.heap H locs → lv_has ls 9 [(0, .ref a0), (1, .ref v1_16), (2, .int v2_6), (3, .int v3_16)] → w_X10_deals_J45 c K a0 v2_6 rec_16 h_16 v1_16 v3_16 mc_45 ms_45 s0_45 → W p l e (rm_X10_deals mc ms) s m args below meth c1 H locs cl_45 sl_45 Q (F0 m 45 ls [.int s0_45]) := by
                intro mc_45 ms_45 s0_45 cl_45 sl_45 H locs ls hf hP hD hS hl hm
                unfold w_X10_deals_J45 at hm
                refine lv_istore (lv' := [(4, .int s0_45), (0, .ref a0), (1, .ref v1_16), (2, .int v2_6), (3, .int v3_16)]) hx hb dX10_deals_45 hl (by decide) rfl (fun ls hl => ?_)
                refine lv_aload_n hx hb dX10_deals_47 rfl (lv_at hl 1 rfl) ?_
                obtain ⟨wq48, fs48, g48, hq48, hv48, hm⟩ := hm
                refine mr_get (ci := 10) (C := RX10) (T := TX10) (N := 17) hx hb hts hi_10 hown hK (mRd hK hP hZ hS) hq48 rfl 10 (by decide) (hts (.fieldLink RX10 27 "HubTrainsLaw$Table" "hands" "[[I") ((List.mem_of_getElem? (i := 4) rfl))) (fun _ h9 => h9) hv48 dX10_deals_48 ?_
                refine lv_astore (lv' := [(5, .ref g48), (4, .int s0_45), (0, .ref a0), (1, .ref v1_16), (2, .int v2_6), (3, .int v3_16)]) hx hb dX10_deals_51 hl (by decide) rfl (fun ls hl => ?_)
                refine lv_aload hx hb dX10_deals_53 (lv_at hl 0 rfl) ?_
                obtain ⟨wq55, xx55, hq55, hm⟩ := hm
                refine mr_alen hx hb hK (mRd hK hP hZ hS) 2 hq55 rfl dX10_deals_55 (fun x55 ex55 => ?_)
                have hm := hm x55 ex55
                refine lv_istore (lv' := [(6, .int x55), (5, .ref g48), (4, .int s0_45), (0, .ref a0), (1, .ref v1_16), (2, .int v2_6), (3, .int v3_16)]) hx hb dX10_deals_56 hl (by decide) rfl (fun ls hl => ?_)
                refine lv_iconst (v := 0) hx hb dX10_deals_58 (by decide) ?_
                refine lv_istore (lv' := [(7, .int (0 : Int32)), (6, .int x55), (5, .ref g48), (4, .int s0_45), (0, .ref a0), (1, .ref v1_16), (2, .int v2_6), (3, .int v3_16)]) hx hb dX10_deals_59 hl (by decide) rfl (fun ls hl => ?_)
                obtain ⟨n_61, hm⟩ := hm
                have L_61 : ∀ (n_61 : Nat) (h_61 : HW) (mc_61 : Nat) (ms_61 : Nat) (v4_61 : Int32) (v7_61 : Int32) (cl_61 sl_61 : Nat) (H : Heap) (locs : List Loc) (ls : Array Slot), cl_61 + mc_61 ≤ mc ∧ sl_61 + ms_61 ≤ ms → mP G K h_61 H → mD A h_61 → va_S A s.heap H locs → lv_has ls 9 [(0, .ref a0), (1, .ref v1_16), (2, .int v2_6), (3, .int v3_16), (4, .int v4_61), (5, .ref g48), (6, .int x55), (7, .int v7_61)] → itP5 (w_X10_deals_B61 c K v2_6 rec_16 v1_16 v3_16 g48 x55) n_61 h_61 mc_61 ms_61 v4_61 v7_61 → W p l e (rm_X10_deals mc ms) s m args below meth c1 H locs cl_61 sl_61 Q (F0 m 61 ls []) := by
                  intro n_61
                  induction n_61 with
                  | zero => intro h_61 mc_61 ms_61 v4_61 v7_61 cl_61 sl_61 H locs ls hf hP hD hS hl hm; exact hm.elim
                  | succ n_61 ih_61 =>
                    intro h_61 mc_61 ms_61 v4_61 v7_61 cl_61 sl_61 H locs ls hf hP hD hS hl hm
                    have hm : (w_X10_deals_B61 c K v2_6 rec_16 v1_16 v3_16 g48 x55) (itP5 (w_X10_deals_B61 c K v2_6 rec_16 v1_16 v3_16 g48 x55) n_61) h_61 mc_61 ms_61 v4_61 v7_61 := hm
                    generalize itP5 (w_X10_deals_B61 c K v2_6 rec_16 v1_16 v3_16 g48 x55) n_61 = rec_61 at hm ih_61
                    unfold w_X10_deals_B61 at hm
                    refine lv_iload hx hb dX10_deals_61 (lv_at hl 7 rfl) ?_
                    refine lv_iload hx hb dX10_deals_63 (lv_at hl 6 rfl) ?_
                    refine lv_icmp_ge (tgt := 97) hx hb dX10_deals_65 (by decide) (fun c_65 => ?_) (fun c_65 => ?_)
                    · have hm := hm.1 c_65
                      refine lv_iload hx hb dX10_deals_97 (lv_at hl 4 rfl) ?_
                      have J_113 : ∀ (h_113 : HW) (mc_113 ms_113 : Nat) (v1_113 : Nat) (cl_113 sl_113 : Nat) (H : Heap) (locs : List Loc) (ls : Array Slot), cl_113 + mc_113 ≤ mc ∧ sl_113 + ms_113 ≤ ms → mP G K h_113 H → mD A h_113 → va_S A s.heap H locs → lv_has ls 9 [(0, .ref a0), (1, .ref v1_113), (2, .int v2_6), (3, .int v3_16)] → w_X10_deals_J113 c K rec_16 v3_16 h_113 mc_113 ms_113 v1_113 → W p l e (rm_X10_deals mc ms) s m args below meth c1 H locs cl_113 sl_113 Q (F0 m 113 ls []) := by
                        intro h_113 mc_113 ms_113 v1_113 cl_113 sl_113 H locs ls hf hP hD hS hl hm
                        unfold w_X10_deals_J113 at hm
                        obtain ⟨x113, ex113⟩ : ∃ z : Int32, z = (v3_16 + 1) := ⟨_, rfl⟩
                        have hm := hm x113 ex113
                        refine lv_iinc (k := 3) (v := x113) (lv' := [(3, .int x113), (0, .ref a0), (1, .ref v1_113), (2, .int v2_6)]) hx hb dX10_deals_113 hl rfl ex113.symm (by decide) rfl (fun ls hl => ?_)
                        refine lv_goto (tgt := 16) hx hb dX10_deals_116 (by decide) ?_
                        exact ih_16 h_113 mc_113 ms_113 v1_113 x113 cl_113 sl_113 H locs ls ⟨by omega, by omega⟩ hP hD hS (lv_sub hl [1, 2, 3, 0] rfl) hm
                      refine lv_if_ne (tgt := 113) hx hb dX10_deals_99 (by decide) (fun c_99 => ?_) (fun c_99 => ?_)
                      · have hm := hm.2 c_99
                        exact J_113 h_61 mc_61 ms_61 v1_16 cl_61 sl_61 H locs ls ⟨by omega, by omega⟩ hP hD hS (lv_sub hl [0, 1, 2, 3] rfl) hm
                      · have hm := hm.1 c_99
                        refine lv_aload_n hx hb dX10_deals_102 rfl (lv_at hl 1 rfl) ?_
                        refine lv_bipush (v := 10) hx hb dX10_deals_103 (by decide) ?_
                        refine lv_iload_n hx hb dX10_deals_105 rfl (lv_at hl 2 rfl) ?_
                        refine lv_imul hx hb dX10_deals_106 ?_
                        refine lv_topi (fun x106 ex106 => ?_)
                        have hm := hm x106 ex106
                        refine lv_iload_n hx hb dX10_deals_107 rfl (lv_at hl 3 rfl) ?_
                        refine lv_iadd hx hb dX10_deals_108 ?_
                        refine lv_topi (fun x108 ex108 => ?_)
                        have hm := hm x108 ex108
                        obtain ⟨m109, z109, mB109, zB109, hbm109, hbs109, hm⟩ := hm
                        refine hcSNq (As := [.ref v1_16, .int x108]) (rest := []) ⟨hx, hb, hml, hown, hts⟩ (h_L_with l G K c h_61 v1_16 x108 m109 z109 _ hm) ⟨va_cnB 2 hts gX10_deals_L_with_n83 rfl rfl rfl (nwm_HubTrainsLaw_Table_83 hN.2.1) (hts (.initialized RL) ((List.mem_of_getElem? (i := 18) rfl))) he_L_with ⟨Nat.le_of_ble_eq_true rfl, Nat.le_of_ble_eq_true rfl⟩, (hts (.static yL_with) ((List.mem_of_getElem? (i := 20) rfl))), trivial⟩ hK hN hZ hXX hP hD hS hA rfl hl.1 rfl (Nat.le_of_ble_eq_true rfl) dX10_deals_109 ⟨by show cl_61 + m109 ≤ mc; omega, by show sl_61 + z109 ≤ ms; omega⟩ (fun r109 h109 H locs hm hP hD hS => ?_)
                        obtain ⟨a109, rfl, hm⟩ := hm
                        replace hf : (cl_61 + m109) + mB109 ≤ mc ∧ (sl_61 + z109) + zB109 ≤ ms := ⟨by omega, by omega⟩
                        clear hbm109 hbs109
                        refine lv_astore_n (lv' := [(1, .ref a109), (0, .ref a0), (2, .int v2_6), (3, .int v3_16), (4, .int v4_61), (5, .ref g48), (6, .int x55), (7, .int v7_61)]) hx hb dX10_deals_112 rfl hl (by decide) rfl (fun ls hl => ?_)
                        exact J_113 h109 mB109 zB109 a109 (cl_61 + m109) (sl_61 + z109) H locs ls ⟨by omega, by omega⟩ hP hD hS (lv_sub hl [1, 0, 2, 3] rfl) hm
                    · have hm := hm.2 c_65
                      refine lv_aload hx hb dX10_deals_68 (lv_at hl 5 rfl) ?_
                      refine lv_iload hx hb dX10_deals_70 (lv_at hl 7 rfl) ?_
                      obtain ⟨wq72, n72, f72, x72, hq72, hi72, hv72, hm⟩ := hm
                      refine mr_aldq (ty := (.array .int)) hx hb hK (mRd hK hP hZ hS) 2 rfl hq72 rfl hi72 dX10_deals_72 (fun o72 eo72 => ?_)
                      obtain rfl := eo72.trans hv72
                      refine lv_astore (lv' := [(8, .ref x72), (0, .ref a0), (1, .ref v1_16), (2, .int v2_6), (3, .int v3_16), (4, .int v4_61), (5, .ref g48), (6, .int x55), (7, .int v7_61)]) hx hb dX10_deals_73 hl (by decide) rfl (fun ls hl => ?_)
                      refine lv_iload hx hb dX10_deals_75 (lv_at hl 5 rfl) ?_
                      refine lv_aload hx hb dX10_deals_77 (lv_at hl 0 rfl) ?_
                      refine lv_bipush (v := 10) hx hb dX10_deals_79 (by decide) ?_
                      refine lv_iload_n hx hb dX10_deals_81 rfl (lv_at hl 3 rfl) ?_
                      refine lv_imul hx hb dX10_deals_82 ?_
                      refine lv_topi (fun x82 ex82 => ?_)
                      have hm := hm x82 ex82
                      refine lv_iload_n hx hb dX10_deals_83 rfl (lv_at hl 4 rfl) ?_
                      refine lv_iadd hx hb dX10_deals_84 ?_
                      refine lv_topi (fun x84 ex84 => ?_)
                      have hm := hm x84 ex84
                      refine hcSNi (As := [.ref x72, .int x84]) (rest := [.int v4_61]) ⟨hx, hb, hml, hown, hts⟩ (h_L_has l G K c h_61 x72 x84 _ hm) ⟨va_cnB 2 hts gX10_deals_L_has_n77 rfl rfl rfl (nwm_HubTrainsLaw_Table_77 hN.2.1) (hts (.initialized RL) ((List.mem_of_getElem? (i := 18) rfl))) he_L_has ⟨Nat.le_of_ble_eq_true rfl, Nat.le_of_ble_eq_true rfl⟩, (hts (.static yL_has) ((List.mem_of_getElem? (i := 17) rfl))), trivial⟩ hK hN hZ hXX hP hD hS hA rfl hl.1 rfl (Nat.le_of_ble_eq_true rfl) dX10_deals_85 ⟨by show cl_61 + 0 ≤ mc; omega, by show sl_61 + 0 ≤ ms; omega⟩ (fun r85 h85 H locs hm hP hD hS => ?_)
                      refine lv_ior hx hb dX10_deals_88 ?_
                      refine lv_topi (fun x88 ex88 => ?_)
                      have hm := hm x88 ex88
                      refine lv_istore (lv' := [(4, .int x88), (8, .ref x72), (0, .ref a0), (1, .ref v1_16), (2, .int v2_6), (3, .int v3_16), (5, .ref g48), (6, .int x55), (7, .int v7_61)]) hx hb dX10_deals_89 hl (by decide) rfl (fun ls hl => ?_)
                      obtain ⟨x91, ex91⟩ : ∃ z : Int32, z = (v7_61 + 1) := ⟨_, rfl⟩
                      have hm := hm x91 ex91
                      refine lv_iinc (k := 8) (v := x91) (lv' := [(7, .int x91), (4, .int x88), (8, .ref x72), (0, .ref a0), (1, .ref v1_16), (2, .int v2_6), (3, .int v3_16), (5, .ref g48), (6, .int x55)]) hx hb dX10_deals_91 hl rfl ex91.symm (by decide) rfl (fun ls hl => ?_)
                      refine lv_goto (tgt := 61) hx hb dX10_deals_94 (by decide) ?_
                      exact ih_61 h85 mc_61 ms_61 x88 x91 cl_61 sl_61 H locs ls ⟨by omega, by omega⟩ hP hD hS (lv_sub hl [3, 4, 5, 6, 1, 7, 8, 0] rfl) hm
                exact L_61 n_61 h_16 mc_45 ms_45 s0_45 (0 : Int32) cl_45 sl_45 H locs ls ⟨by omega, by omega⟩ hP hD hS (lv_sub hl [4, 5, 6, 7, 3, 2, 1, 0] rfl) hm
              have J_44 : ∀ (mc_44 ms_44 : Nat) (cl_44 sl_44 : Nat) (H : Heap) (locs : List Loc) (ls : Array Slot), cl_44 + mc_44 ≤ mc ∧ sl_44 + ms_44 ≤ ms → mP G K h_16 H → mD A h_16 → va_S A s.heap H locs → lv_has ls 9 [(0, .ref a0), (1, .ref v1_16), (2, .int v2_6), (3, .int v3_16)] → w_X10_deals_J44 c K a0 v2_6 rec_16 h_16 v1_16 v3_16 mc_44 ms_44 → W p l e (rm_X10_deals mc ms) s m args below meth c1 H locs cl_44 sl_44 Q (F0 m 44 ls []) := by
                intro mc_44 ms_44 cl_44 sl_44 H locs ls hf hP hD hS hl hm
                unfold w_X10_deals_J44 at hm
                refine lv_iconst (v := 0) hx hb dX10_deals_44 (by decide) ?_
                exact J_45 mc_44 ms_44 (0 : Int32) cl_44 sl_44 H locs ls ⟨by omega, by omega⟩ hP hD hS (lv_sub hl [0, 1, 2, 3] rfl) hm
              refine lv_icmp_ne (tgt := 44) hx hb dX10_deals_29 (by decide) (fun c_29 => ?_) (fun c_29 => ?_)
              · have hm := hm.2 c_29
                exact J_44 mc_16 ms_16 cl_16 sl_16 H locs ls ⟨by omega, by omega⟩ hP hD hS (lv_sub hl [0, 1, 2, 3] rfl) hm
              · have hm := hm.1 c_29
                refine lv_iload_n hx hb dX10_deals_32 rfl (lv_at hl 3 rfl) ?_
                refine lv_aload_n hx hb dX10_deals_33 rfl (lv_at hl 0 rfl) ?_
                obtain ⟨wq34, fs34, g34, hq34, hv34, hm⟩ := hm
                refine mr_get (ci := 10) (C := RX10) (T := TX10) (N := 17) hx hb hts hi_10 hown hK (mRd hK hP hZ hS) hq34 rfl 2 (by decide) (hts (.fieldLink RX10 16 "HubTrainsLaw$Table" "hub" "I") ((List.mem_of_getElem? (i := 3) rfl))) (fun _ h9 => h9) hv34 dX10_deals_34 ?_
                refine lv_icmp_ne (tgt := 44) hx hb dX10_deals_37 (by decide) (fun c_37 => ?_) (fun c_37 => ?_)
                · have hm := hm.2 c_37
                  exact J_44 mc_16 ms_16 cl_16 sl_16 H locs ls ⟨by omega, by omega⟩ hP hD hS (lv_sub hl [0, 1, 2, 3] rfl) hm
                · have hm := hm.1 c_37
                  refine lv_iconst (v := 1) hx hb dX10_deals_40 (by decide) ?_
                  refine lv_goto (tgt := 45) hx hb dX10_deals_41 (by decide) ?_
                  exact J_45 mc_16 ms_16 (1 : Int32) cl_16 sl_16 H locs ls ⟨by omega, by omega⟩ hP hD hS (lv_sub hl [0, 1, 2, 3] rfl) hm
        exact L_16 n_16 h_6 mc_6 ms_6 v1_6 v2_6 cl_6 sl_6 H locs ls ⟨by omega, by omega⟩ hP hD hS (lv_sub hl [1, 2, 3, 0] rfl) hm
  exact L_6 n_6 h1 mB1 zB1 q1 (0 : Int32) (0 + 1) (0 + (0 : Int32).toNatClampNeg) H locs ls ⟨by omega, by omega⟩ hP hD hS (lv_sub hl [2, 1, 0] rfl) hm

def w_X8_random_J67 (c : Nat → ClassId) (K : (Nat → Nat) × (Nat → Nat)) (a0 : Nat) (a1 : Int32) (post : Option Nat → HW → Prop) (wrec : HW → Nat → Int32 → Nat → Nat → (Option Nat → HW → Prop) → Prop) (q0 : Nat) (h_67 : HW) (mc_67 ms_67 : Nat) (s0_67 : Int32) (s1_67 : Nat) : Prop :=
  pV h_67 s1_67 8 1 (.int s0_67) (fun (h67 : HW) => gI h67 q0 8 0 (fun (g71 : Int32) => (g71 ≤ (1 : Int32) → post (some q0) h67) ∧ (¬ g71 ≤ (1 : Int32) → ∀ x82 : Int32, x82 = a1 - (1 : Int32) → ((∃ m83 z83 mB83 zB83 : Nat, mc_67 = m83 + mB83 ∧ ms_67 = z83 + zB83 ∧ wrec h67 a0 x82 m83 z83 (fun (r83 : Option Nat) (h83 : HW) => dRf r83 (fun (a83 : Nat) => pV h83 q0 8 2 (.ref a83) (fun (h86 : HW) => ∀ x93 : Int32, x93 = a1 - (1 : Int32) → ((∃ m94 z94 mB94 zB94 : Nat, mB83 = m94 + mB94 ∧ zB83 = z94 + zB94 ∧ wrec h86 a0 x93 m94 z94 (fun (r94 : Option Nat) (h94 : HW) => dRf r94 (fun (a94 : Nat) => pV h94 q0 8 3 (.ref a94) (fun (h97 : HW) => post (some q0) h97)))))))))))))

def w_X8_random_J56 (c : Nat → ClassId) (K : (Nat → Nat) × (Nat → Nat)) (a0 : Nat) (a1 : Int32) (post : Option Nat → HW → Prop) (wrec : HW → Nat → Int32 → Nat → Nat → (Option Nat → HW → Prop) → Prop) (q0 : Nat) (h42 : HW) (mc_56 ms_56 : Nat) (s0_56 : Int32) (s1_56 : Nat) (s2_56 : Nat) : Prop :=
  (∃ w fs, h42 s1_56 = some (w, .inr (9, fs))) ∧ w_X9_below c K h42 s1_56 s0_56 (fun (r56 : Int32) (h56 : HW) => w_X8_random_J67 c K a0 a1 post wrec q0 h56 mc_56 ms_56 r56 s2_56)

def w_X8_random_J27 (c : Nat → ClassId) (K : (Nat → Nat) × (Nat → Nat)) (a0 : Nat) (a1 : Int32) (post : Option Nat → HW → Prop) (wrec : HW → Nat → Int32 → Nat → Nat → (Option Nat → HW → Prop) → Prop) (q0 : Nat) (h_27 : HW) (mc_27 ms_27 : Nat) (s0_27 : Int32) (s1_27 : Nat) : Prop :=
  pV h_27 s1_27 8 0 (.int s0_27) (fun (h27 : HW) => gI h27 q0 8 0 (fun (g32 : Int32) => (g32 = 0 → (∃ w fs, h27 a0 = some (w, .inr (9, fs))) ∧ w_X9_below c K h27 a0 (8 : Int32) (fun (r42 : Int32) (h42 : HW) => (r42 = 0 → w_X8_random_J56 c K a0 a1 post wrec q0 h42 mc_27 ms_27 (10000 : Int32) a0 q0) ∧ (¬ r42 = 0 → w_X8_random_J56 c K a0 a1 post wrec q0 h42 mc_27 ms_27 (25 : Int32) a0 q0))) ∧ (¬ g32 = 0 → (∃ w fs, h27 a0 = some (w, .inr (9, fs))) ∧ w_X9_below c K h27 a0 (5 : Int32) (fun (r64 : Int32) (h64 : HW) => w_X8_random_J67 c K a0 a1 post wrec q0 h64 mc_27 ms_27 r64 q0))))

def w_X8_random_F (c : Nat → ClassId) (K : (Nat → Nat) × (Nat → Nat)) (wrec : HW → Nat → Int32 → Nat → Nat → (Option Nat → HW → Prop) → Prop) (h : HW) (a0 : Nat) (a1 : Int32) (mc ms : Nat) (post : Option Nat → HW → Prop) : Prop :=
  nwO h 8 [.int 0, .int 0, .null, .null] 4 mc ms (fun (q0 : Nat) (h0 : HW) (mB0 zB0 : Nat) => w_X8_init c K h0 q0 (fun (h4 : HW) => (a1 = 0 → (∃ w fs, h4 a0 = some (w, .inr (9, fs))) ∧ w_X9_below c K h4 a0 (2 : Int32) (fun (r15 : Int32) (h15 : HW) => w_X8_random_J27 c K a0 a1 post wrec q0 h15 mB0 zB0 r15 q0)) ∧ (¬ a1 = 0 → (∃ w fs, h4 a0 = some (w, .inr (9, fs))) ∧ w_X9_below c K h4 a0 (6 : Int32) (fun (r24 : Int32) (h24 : HW) => w_X8_random_J27 c K a0 a1 post wrec q0 h24 mB0 zB0 r24 q0))))

def w_X8_random (c : Nat → ClassId) (K : (Nat → Nat) × (Nat → Nat)) : Nat → HW → Nat → Int32 → Nat → Nat → (Option Nat → HW → Prop) → Prop
  | 0 => fun _ _ _ _ _ _ => False
  | d + 1 => w_X8_random_F c K (w_X8_random c K d)

abbrev rm_X8_random (d : Nat) (mc ms : Nat) : Room := { frames := 2 + d, cells := mc, slots := ms, locals := 100 + 22 * d }
theorem he_X8_random : yX8_random.cls ≠ "java/lang/invoke/MethodHandle" ∧ yX8_random.cls ≠ "java/lang/invoke/VarHandle" ∧ (parseMethodDescriptor yX8_random.desc).map (fun d => d.parameters.length) = some 2 := by decide +kernel
theorem heV_X8_random : yX8_random.cls = RX8 ∧ yX8_random.cls ≠ "java/lang/invoke/MethodHandle" ∧ yX8_random.cls ≠ "java/lang/invoke/VarHandle" ∧ (parseMethodDescriptor yX8_random.desc).map (fun d => d.parameters.length) = some 2 := by decide +kernel
set_option maxHeartbeats 4000000 in
set_option maxRecDepth 100000 in
theorem h_X8_random (l : Launch) (G : va_G) (K : (Nat → Nat) × (Nat → Nat)) (c : Nat → ClassId) (d : Nat) : ∀ (h : HW) (a0 : Nat) (a1 : Int32) (mc ms : Nat) (post : Option Nat → HW → Prop), w_X8_random c K d h a0 a1 mc ms post → hMq l yX8_random wsX8_random (rm_X8_random d mc ms) G K (TY c) [.ref a0, .int a1] h mc ms post := by
  induction d with
  | zero => intro h a0 a1 mc ms post hm; exact hm.elim
  | succ d ihd =>
    intro h a0 a1 mc ms post hm
    have hm : w_X8_random_F c K (w_X8_random c K d) h a0 a1 mc ms post := hm
    generalize w_X8_random c K d = wrec at hm ihd
    refine hMq.of (Or.inl ⟨_, rfl⟩) (cc := cX8_random) (maxL := 3) (lv := [(0, .ref a0), (1, .int a1)]) (by decide) rfl (Nat.le_of_ble_eq_true rfl) rfl ?_
    intro p e s m args below meth c1 A Q H locs hx hb hml hown hmn hts hK hN hZ hXX hP hD hA hS hend ls hl
    have hown : s.vm.findClass RX8 = some m.cls := hown
    have hi_8 : ∀ w ∈ u_ws RX8 TX8 4, w ∈ wsX8_random := fun w h => (fun w h => List.mem_cons_of_mem _ (List.mem_append_left _ (List.mem_append_right _ (h)))) w h
    unfold w_X8_random_F at hm
    have hf : 0 + mc ≤ mc ∧ 0 + ms ≤ ms := ⟨by omega, by omega⟩
    obtain ⟨mB0, zB0, hc0, hs0, hm⟩ := hm
    refine mr_new (ci := 8) (C := RX8) (T := TX8) (N := 4) (n := 4) (fs := [.int 0, .int 0, .null, .null]) hx hb hts hi_8 tyX8 (fun k hk => tyX8_ok k (Nat.lt_of_lt_of_le hk (by decide))) hown (hts (.classLink RX8 7 RX8) ((List.mem_of_getElem? (i := 1) rfl))) (hts (.instantiable RX8 4) ((List.mem_of_getElem? (i := 2) rfl))) (hts (.initialized RX8) ((List.mem_of_getElem? (i := 3) rfl))) hK hP hD hS hA rfl (fun j hj => by rcases (show j = 0 ∨ j = 1 ∨ j = 2 ∨ j = 3 by omega) with rfl | rfl | rfl | rfl <;> rfl) (by show 0 + 1 ≤ mc; omega) (by show 0 + 4 ≤ ms; omega) dX8_random_0 (fun q0 H hfr0 hP hD hS => ?_)
    have hm := hm q0 hfr0
    generalize hup h q0 (.inr (8, [.int 0, .int 0, .null, .null])) = h0 at hm hP hD
    replace hf : (0 + 1) + mB0 ≤ mc ∧ (0 + 4) + zB0 ≤ ms := ⟨by omega, by omega⟩
    clear hc0 hs0
    refine lv_dup hx hb dX8_random_3 rfl ?_
    refine hcIv (As := []) (rest := [.ref q0]) ⟨hx, hb, hml, hown, hts⟩ (h_X8_init l G K c h0 q0 _ hm) (cwI 0 hts gX8_random_X8_init rfl rfl rfl (hts (.initialized RX8) ((List.mem_of_getElem? (i := 3) rfl))) (hts (.methodLink RX8 9 yX8_init) ((List.mem_of_getElem? (i := 8) rfl))) (hts (.instanceMethod yX8_init) ((List.mem_of_getElem? (i := 9) rfl))) rfl he_X8_init ⟨by show 1 + 1 ≤ 2 + (d + 1); omega, by show 8 + (1 + 11) + 80 ≤ 100 + 22 * (d + 1); omega⟩) hK hN hZ hXX hP hD hS hA rfl hl.1 rfl (Nat.le_of_ble_eq_true rfl) dX8_random_4 ⟨by show (0 + 1) + 0 ≤ mc; omega, by show (0 + 4) + 0 ≤ ms; omega⟩ (fun h4 H locs hm hP hD hS => ?_)
    refine lv_astore_n (lv' := [(2, .ref q0), (0, .ref a0), (1, .int a1)]) hx hb dX8_random_7 rfl hl (by decide) rfl (fun ls hl => ?_)
    refine lv_aload_n hx hb dX8_random_8 rfl (lv_at hl 0 rfl) ?_
    refine lv_iload_n hx hb dX8_random_9 rfl (lv_at hl 2 rfl) ?_
    have J_27 : ∀ (h_27 : HW) (mc_27 ms_27 : Nat) (s0_27 : Int32) (s1_27 : Nat) (cl_27 sl_27 : Nat) (H : Heap) (locs : List Loc) (ls : Array Slot), cl_27 + mc_27 ≤ mc ∧ sl_27 + ms_27 ≤ ms → mP G K h_27 H → mD A h_27 → va_S A s.heap H locs → lv_has ls 3 [(0, .ref a0), (1, .int a1), (2, .ref q0)] → w_X8_random_J27 c K a0 a1 post wrec q0 h_27 mc_27 ms_27 s0_27 s1_27 → W p l e (rm_X8_random (d + 1) mc ms) s m args below meth c1 H locs cl_27 sl_27 Q (F0 m 27 ls [.int s0_27, .ref s1_27]) := by
      intro h_27 mc_27 ms_27 s0_27 s1_27 cl_27 sl_27 H locs ls hf hP hD hS hl hm
      unfold w_X8_random_J27 at hm
      obtain ⟨fs27, hq27, hl27, hm⟩ := hm
      refine mr_put (v := .int s0_27) (ci := 8) (C := RX8) (T := TX8) (N := 4) hx hb hts hi_8 tyX8 (fun k hk => tyX8_ok k (Nat.lt_of_lt_of_le hk (by decide))) (fun a ha b hb => nmX8 a (Nat.lt_of_lt_of_le ha (by decide)) b (Nat.lt_of_lt_of_le hb (by decide))) hown hK hP hD hS hq27 rfl 0 (by decide) (hts (.fieldLink RX8 16 "HubTrainsLaw$Node" "kind" "I") ((List.mem_of_getElem? (i := 4) rfl))) (fun _ h9 => h9) rfl (tyX8_ok 0 (by decide)) rfl rfl hl27 dX8_random_27 (fun H locs hP hD hS => ?_)
      generalize hup h_27 s1_27 (.inr (8, fs27.set 0 (.int s0_27))) = h27 at hm hP hD
      refine lv_aload_n hx hb dX8_random_30 rfl (lv_at hl 2 rfl) ?_
      refine lv_aload_n hx hb dX8_random_31 rfl (lv_at hl 2 rfl) ?_
      obtain ⟨wq32, fs32, g32, hq32, hv32, hm⟩ := hm
      refine mr_get (ci := 8) (C := RX8) (T := TX8) (N := 4) hx hb hts hi_8 hown hK (mRd hK hP hZ hS) hq32 rfl 0 (by decide) (hts (.fieldLink RX8 16 "HubTrainsLaw$Node" "kind" "I") ((List.mem_of_getElem? (i := 4) rfl))) (fun _ h9 => h9) hv32 dX8_random_32 ?_
      have J_67 : ∀ (h_67 : HW) (mc_67 ms_67 : Nat) (s0_67 : Int32) (s1_67 : Nat) (cl_67 sl_67 : Nat) (H : Heap) (locs : List Loc) (ls : Array Slot), cl_67 + mc_67 ≤ mc ∧ sl_67 + ms_67 ≤ ms → mP G K h_67 H → mD A h_67 → va_S A s.heap H locs → lv_has ls 3 [(0, .ref a0), (1, .int a1), (2, .ref q0)] → w_X8_random_J67 c K a0 a1 post wrec q0 h_67 mc_67 ms_67 s0_67 s1_67 → W p l e (rm_X8_random (d + 1) mc ms) s m args below meth c1 H locs cl_67 sl_67 Q (F0 m 67 ls [.int s0_67, .ref s1_67]) := by
        intro h_67 mc_67 ms_67 s0_67 s1_67 cl_67 sl_67 H locs ls hf hP hD hS hl hm
        unfold w_X8_random_J67 at hm
        obtain ⟨fs67, hq67, hl67, hm⟩ := hm
        refine mr_put (v := .int s0_67) (ci := 8) (C := RX8) (T := TX8) (N := 4) hx hb hts hi_8 tyX8 (fun k hk => tyX8_ok k (Nat.lt_of_lt_of_le hk (by decide))) (fun a ha b hb => nmX8 a (Nat.lt_of_lt_of_le ha (by decide)) b (Nat.lt_of_lt_of_le hb (by decide))) hown hK hP hD hS hq67 rfl 1 (by decide) (hts (.fieldLink RX8 20 "HubTrainsLaw$Node" "number" "I") ((List.mem_of_getElem? (i := 5) rfl))) (fun _ h9 => h9) rfl (tyX8_ok 1 (by decide)) rfl rfl hl67 dX8_random_67 (fun H locs hP hD hS => ?_)
        generalize hup h_67 s1_67 (.inr (8, fs67.set 1 (.int s0_67))) = h67 at hm hP hD
        refine lv_aload_n hx hb dX8_random_70 rfl (lv_at hl 2 rfl) ?_
        obtain ⟨wq71, fs71, g71, hq71, hv71, hm⟩ := hm
        refine mr_get (ci := 8) (C := RX8) (T := TX8) (N := 4) hx hb hts hi_8 hown hK (mRd hK hP hZ hS) hq71 rfl 0 (by decide) (hts (.fieldLink RX8 16 "HubTrainsLaw$Node" "kind" "I") ((List.mem_of_getElem? (i := 4) rfl))) (fun _ h9 => h9) hv71 dX8_random_71 ?_
        refine lv_iconst (v := 1) hx hb dX8_random_74 (by decide) ?_
        refine lv_icmp_le (tgt := 100) hx hb dX8_random_75 (by decide) (fun c_75 => ?_) (fun c_75 => ?_)
        · have hm := hm.1 c_75
          refine lv_aload_n hx hb dX8_random_100 rfl (lv_at hl 2 rfl) ?_
          exact hend H locs ls 101 _ _ (some q0) h67 (by omega) (by omega) hm hP hD hS dX8_random_101
        · have hm := hm.2 c_75
          refine lv_aload_n hx hb dX8_random_78 rfl (lv_at hl 2 rfl) ?_
          refine lv_aload_n hx hb dX8_random_79 rfl (lv_at hl 0 rfl) ?_
          refine lv_iload_n hx hb dX8_random_80 rfl (lv_at hl 1 rfl) ?_
          refine lv_iconst (v := 1) hx hb dX8_random_81 (by decide) ?_
          refine lv_isub hx hb dX8_random_82 ?_
          refine lv_topi (fun x82 ex82 => ?_)
          have hm := hm x82 ex82
          obtain ⟨m83, z83, mB83, zB83, hbm83, hbs83, hm⟩ := hm
          refine hcSq (As := [.ref a0, .int x82]) (rest := [.ref q0]) ⟨hx, hb, hml, hown, hts⟩ (ihd h67 a0 x82 m83 z83 _ hm) (va_cwS 2 hts gX8_random_X8_random rfl rfl rfl he_X8_random ⟨by show (2 + d) + 1 ≤ 2 + (d + 1); omega, by show 8 + (3 + 11) + (100 + 22 * d) ≤ 100 + 22 * (d + 1); omega⟩) hK hN hZ hXX hP hD hS hA rfl hl.1 rfl (Nat.le_of_ble_eq_true rfl) dX8_random_83 ⟨by show cl_67 + m83 ≤ mc; omega, by show sl_67 + z83 ≤ ms; omega⟩ (fun r83 h83 H locs hm hP hD hS => ?_)
          obtain ⟨a83, rfl, hm⟩ := hm
          replace hf : (cl_67 + m83) + mB83 ≤ mc ∧ (sl_67 + z83) + zB83 ≤ ms := ⟨by omega, by omega⟩
          clear hbm83 hbs83
          obtain ⟨fs86, hq86, hl86, hm⟩ := hm
          refine mr_put (v := .ref a83) (ci := 8) (C := RX8) (T := TX8) (N := 4) hx hb hts hi_8 tyX8 (fun k hk => tyX8_ok k (Nat.lt_of_lt_of_le hk (by decide))) (fun a ha b hb => nmX8 a (Nat.lt_of_lt_of_le ha (by decide)) b (Nat.lt_of_lt_of_le hb (by decide))) hown hK hP hD hS hq86 rfl 2 (by decide) (hts (.fieldLink RX8 27 "HubTrainsLaw$Node" "left" "LHubTrainsLaw$Node;") ((List.mem_of_getElem? (i := 6) rfl))) (fun _ h9 => h9) rfl (tyX8_ok 2 (by decide)) rfl rfl hl86 dX8_random_86 (fun H locs hP hD hS => ?_)
          generalize hup h83 q0 (.inr (8, fs86.set 2 (.ref a83))) = h86 at hm hP hD
          refine lv_aload_n hx hb dX8_random_89 rfl (lv_at hl 2 rfl) ?_
          refine lv_aload_n hx hb dX8_random_90 rfl (lv_at hl 0 rfl) ?_
          refine lv_iload_n hx hb dX8_random_91 rfl (lv_at hl 1 rfl) ?_
          refine lv_iconst (v := 1) hx hb dX8_random_92 (by decide) ?_
          refine lv_isub hx hb dX8_random_93 ?_
          refine lv_topi (fun x93 ex93 => ?_)
          have hm := hm x93 ex93
          obtain ⟨m94, z94, mB94, zB94, hbm94, hbs94, hm⟩ := hm
          refine hcSq (As := [.ref a0, .int x93]) (rest := [.ref q0]) ⟨hx, hb, hml, hown, hts⟩ (ihd h86 a0 x93 m94 z94 _ hm) (va_cwS 2 hts gX8_random_X8_random rfl rfl rfl he_X8_random ⟨by show (2 + d) + 1 ≤ 2 + (d + 1); omega, by show 8 + (3 + 11) + (100 + 22 * d) ≤ 100 + 22 * (d + 1); omega⟩) hK hN hZ hXX hP hD hS hA rfl hl.1 rfl (Nat.le_of_ble_eq_true rfl) dX8_random_94 ⟨by show (cl_67 + m83) + m94 ≤ mc; omega, by show (sl_67 + z83) + z94 ≤ ms; omega⟩ (fun r94 h94 H locs hm hP hD hS => ?_)
          obtain ⟨a94, rfl, hm⟩ := hm
          replace hf : ((cl_67 + m83) + m94) + mB94 ≤ mc ∧ ((sl_67 + z83) + z94) + zB94 ≤ ms := ⟨by omega, by omega⟩
          clear hbm94 hbs94
          obtain ⟨fs97, hq97, hl97, hm⟩ := hm
          refine mr_put (v := .ref a94) (ci := 8) (C := RX8) (T := TX8) (N := 4) hx hb hts hi_8 tyX8 (fun k hk => tyX8_ok k (Nat.lt_of_lt_of_le hk (by decide))) (fun a ha b hb => nmX8 a (Nat.lt_of_lt_of_le ha (by decide)) b (Nat.lt_of_lt_of_le hb (by decide))) hown hK hP hD hS hq97 rfl 3 (by decide) (hts (.fieldLink RX8 31 "HubTrainsLaw$Node" "right" "LHubTrainsLaw$Node;") ((List.mem_of_getElem? (i := 7) rfl))) (fun _ h9 => h9) rfl (tyX8_ok 3 (by decide)) rfl rfl hl97 dX8_random_97 (fun H locs hP hD hS => ?_)
          generalize hup h94 q0 (.inr (8, fs97.set 3 (.ref a94))) = h97 at hm hP hD
          refine lv_aload_n hx hb dX8_random_100 rfl (lv_at hl 2 rfl) ?_
          exact hend H locs ls 101 _ _ (some q0) h97 (by omega) (by omega) hm hP hD hS dX8_random_101
      refine lv_if_ne (tgt := 62) hx hb dX8_random_35 (by decide) (fun c_35 => ?_) (fun c_35 => ?_)
      · have hm := hm.2 c_35
        refine lv_aload_n hx hb dX8_random_62 rfl (lv_at hl 0 rfl) ?_
        refine lv_iconst (v := 5) hx hb dX8_random_63 (by decide) ?_
        obtain ⟨⟨wr64, fr64, hrq64⟩, hm⟩ := hm
        refine hcVi (As := [.int (5 : Int32)]) (rest := [.ref q0]) ⟨hx, hb, hml, hown, hts⟩ (h_X9_below l G K c h27 a0 (5 : Int32) _ hm) (cwV 1 hts gX8_random_X9_below rfl rfl rfl (heV_X9_below) ⟨by show 0 + 1 ≤ 2 + (d + 1); omega, by show 8 + (2 + 11) + 0 ≤ 100 + 22 * (d + 1); omega⟩) hK hN hZ hXX hP hD hS hA (mr_recv hK (mRd hK hP hZ hS) (ci := 9) rfl hrq64) rfl hl.1 rfl (Nat.le_of_ble_eq_true rfl) dX8_random_64 ⟨by show cl_27 + 0 ≤ mc; omega, by show sl_27 + 0 ≤ ms; omega⟩ (fun r64 h64 H locs hm hP hD hS => ?_)
        exact J_67 h64 mc_27 ms_27 r64 q0 cl_27 sl_27 H locs ls ⟨by omega, by omega⟩ hP hD hS (lv_sub hl [0, 1, 2] rfl) hm
      · have hm := hm.1 c_35
        refine lv_aload_n hx hb dX8_random_38 rfl (lv_at hl 0 rfl) ?_
        refine lv_aload_n hx hb dX8_random_39 rfl (lv_at hl 0 rfl) ?_
        refine lv_bipush (v := 8) hx hb dX8_random_40 (by decide) ?_
        obtain ⟨⟨wr42, fr42, hrq42⟩, hm⟩ := hm
        refine hcVi (As := [.int (8 : Int32)]) (rest := [.ref a0, .ref q0]) ⟨hx, hb, hml, hown, hts⟩ (h_X9_below l G K c h27 a0 (8 : Int32) _ hm) (cwV 1 hts gX8_random_X9_below rfl rfl rfl (heV_X9_below) ⟨by show 0 + 1 ≤ 2 + (d + 1); omega, by show 8 + (2 + 11) + 0 ≤ 100 + 22 * (d + 1); omega⟩) hK hN hZ hXX hP hD hS hA (mr_recv hK (mRd hK hP hZ hS) (ci := 9) rfl hrq42) rfl hl.1 rfl (Nat.le_of_ble_eq_true rfl) dX8_random_42 ⟨by show cl_27 + 0 ≤ mc; omega, by show sl_27 + 0 ≤ ms; omega⟩ (fun r42 h42 H locs hm hP hD hS => ?_)
        have J_56 : ∀ (mc_56 ms_56 : Nat) (s0_56 : Int32) (s1_56 : Nat) (s2_56 : Nat) (cl_56 sl_56 : Nat) (H : Heap) (locs : List Loc) (ls : Array Slot), cl_56 + mc_56 ≤ mc ∧ sl_56 + ms_56 ≤ ms → mP G K h42 H → mD A h42 → va_S A s.heap H locs → lv_has ls 3 [(0, .ref a0), (1, .int a1), (2, .ref q0)] → w_X8_random_J56 c K a0 a1 post wrec q0 h42 mc_56 ms_56 s0_56 s1_56 s2_56 → W p l e (rm_X8_random (d + 1) mc ms) s m args below meth c1 H locs cl_56 sl_56 Q (F0 m 56 ls [.int s0_56, .ref s1_56, .ref s2_56]) := by
          intro mc_56 ms_56 s0_56 s1_56 s2_56 cl_56 sl_56 H locs ls hf hP hD hS hl hm
          unfold w_X8_random_J56 at hm
          obtain ⟨⟨wr56, fr56, hrq56⟩, hm⟩ := hm
          refine hcVi (As := [.int s0_56]) (rest := [.ref s2_56]) ⟨hx, hb, hml, hown, hts⟩ (h_X9_below l G K c h42 s1_56 s0_56 _ hm) (cwV 1 hts gX8_random_X9_below rfl rfl rfl (heV_X9_below) ⟨by show 0 + 1 ≤ 2 + (d + 1); omega, by show 8 + (2 + 11) + 0 ≤ 100 + 22 * (d + 1); omega⟩) hK hN hZ hXX hP hD hS hA (mr_recv hK (mRd hK hP hZ hS) (ci := 9) rfl hrq56) rfl hl.1 rfl (Nat.le_of_ble_eq_true rfl) dX8_random_56 ⟨by show cl_56 + 0 ≤ mc; omega, by show sl_56 + 0 ≤ ms; omega⟩ (fun r56 h56 H locs hm hP hD hS => ?_)
          refine lv_goto (tgt := 67) hx hb dX8_random_59 (by decide) ?_
          exact J_67 h56 mc_56 ms_56 r56 s2_56 cl_56 sl_56 H locs ls ⟨by omega, by omega⟩ hP hD hS (lv_sub hl [0, 1, 2] rfl) hm
        refine lv_if_ne (tgt := 54) hx hb dX8_random_45 (by decide) (fun c_45 => ?_) (fun c_45 => ?_)
        · have hm := hm.2 c_45
          refine lv_bipush (v := 25) hx hb dX8_random_54 (by decide) ?_
          exact J_56 mc_27 ms_27 (25 : Int32) a0 q0 cl_27 sl_27 H locs ls ⟨by omega, by omega⟩ hP hD hS (lv_sub hl [0, 1, 2] rfl) hm
        · have hm := hm.1 c_45
          refine lv_sipush (v := 10000) hx hb dX8_random_48 (by decide) ?_
          refine lv_goto (tgt := 56) hx hb dX8_random_51 (by decide) ?_
          exact J_56 mc_27 ms_27 (10000 : Int32) a0 q0 cl_27 sl_27 H locs ls ⟨by omega, by omega⟩ hP hD hS (lv_sub hl [0, 1, 2] rfl) hm
    refine lv_if_ne (tgt := 21) hx hb dX8_random_10 (by decide) (fun c_10 => ?_) (fun c_10 => ?_)
    · have hm := hm.2 c_10
      refine lv_aload_n hx hb dX8_random_21 rfl (lv_at hl 1 rfl) ?_
      refine lv_bipush (v := 6) hx hb dX8_random_22 (by decide) ?_
      obtain ⟨⟨wr24, fr24, hrq24⟩, hm⟩ := hm
      refine hcVi (As := [.int (6 : Int32)]) (rest := [.ref q0]) ⟨hx, hb, hml, hown, hts⟩ (h_X9_below l G K c h4 a0 (6 : Int32) _ hm) (cwV 1 hts gX8_random_X9_below rfl rfl rfl (heV_X9_below) ⟨by show 0 + 1 ≤ 2 + (d + 1); omega, by show 8 + (2 + 11) + 0 ≤ 100 + 22 * (d + 1); omega⟩) hK hN hZ hXX hP hD hS hA (mr_recv hK (mRd hK hP hZ hS) (ci := 9) rfl hrq24) rfl hl.1 rfl (Nat.le_of_ble_eq_true rfl) dX8_random_24 ⟨by show (0 + 1) + 0 ≤ mc; omega, by show (0 + 4) + 0 ≤ ms; omega⟩ (fun r24 h24 H locs hm hP hD hS => ?_)
      exact J_27 h24 mB0 zB0 r24 q0 (0 + 1) (0 + 4) H locs ls ⟨by omega, by omega⟩ hP hD hS (lv_sub hl [1, 2, 0] rfl) hm
    · have hm := hm.1 c_10
      refine lv_aload_n hx hb dX8_random_13 rfl (lv_at hl 1 rfl) ?_
      refine lv_iconst (v := 2) hx hb dX8_random_14 (by decide) ?_
      obtain ⟨⟨wr15, fr15, hrq15⟩, hm⟩ := hm
      refine hcVi (As := [.int (2 : Int32)]) (rest := [.ref q0]) ⟨hx, hb, hml, hown, hts⟩ (h_X9_below l G K c h4 a0 (2 : Int32) _ hm) (cwV 1 hts gX8_random_X9_below rfl rfl rfl (heV_X9_below) ⟨by show 0 + 1 ≤ 2 + (d + 1); omega, by show 8 + (2 + 11) + 0 ≤ 100 + 22 * (d + 1); omega⟩) hK hN hZ hXX hP hD hS hA (mr_recv hK (mRd hK hP hZ hS) (ci := 9) rfl hrq15) rfl hl.1 rfl (Nat.le_of_ble_eq_true rfl) dX8_random_15 ⟨by show (0 + 1) + 0 ≤ mc; omega, by show (0 + 4) + 0 ≤ ms; omega⟩ (fun r15 h15 H locs hm hP hD hS => ?_)
      refine lv_goto (tgt := 27) hx hb dX8_random_18 (by decide) ?_
      exact J_27 h15 mB0 zB0 r15 q0 (0 + 1) (0 + 4) H locs ls ⟨by omega, by omega⟩ hP hD hS (lv_sub hl [1, 2, 0] rfl) hm

