/-! walks of the law's own methods over maps -/
def w_L_randomTable_J481 (c : Nat → ClassId) (K : (Nat → Nat) × (Nat → Nat)) (a0 : Nat) (a1 : Nat) (post : Option Nat → HW → Prop) (q0 : Nat) (h_481 : HW) (mc_481 ms_481 : Nat) : Prop :=
  (∃ w fs, h_481 q0 = some (w, .inr (10, fs))) ∧ (∃ m482 z482 mB482 zB482 : Nat, mc_481 = m482 + mB482 ∧ ms_481 = z482 + zB482 ∧ w_X10_deals c K h_481 q0 m482 z482 (fun (h482 : HW) => (∃ m487 z487 mB487 zB487 : Nat, mB482 = m487 + mB487 ∧ zB482 = z487 + zB487 ∧ w_L_loadText c K h482 a0 a1 m487 z487 (fun (r487 : Int32) (h487 : HW) => gR h487 q0 10 14 (fun (g491 : Nat) => lenA h487 (c 0) g491 (fun (x494 : Int32) => (r487 = x494 → post (some q0) h487) ∧ (¬ r487 = x494 → post none h487)))))))

def w_L_randomTable_J427 (c : Nat → ClassId) (K : (Nat → Nat) × (Nat → Nat)) (rec_222 : HW → Nat → Nat → Int32 → Prop) (v5_222 : Int32) (h_427 : HW) (mc_427 ms_427 : Nat) : Prop :=
  ∀ x427 : Int32, x427 = (v5_222 + (-1)) → (rec_222 h_427 mc_427 ms_427 x427)

def w_L_randomTable_B327 (c : Nat → ClassId) (K : (Nat → Nat) × (Nat → Nat)) (a0 : Nat) (a1 : Nat) (q0 : Nat) (rec_222 : HW → Nat → Nat → Int32 → Prop) (v5_222 : Int32) (r230 : Int32) (r242 : Int32) (r254 : Int32) (x276 : Int32) (g314 : Nat) (x321 : Int32) (rec_327 : HW → Nat → Nat → Int32 → Int32 → Prop) (h_327 : HW) (mc_327 : Nat) (ms_327 : Nat) (v10_327 : Int32) (v13_327 : Int32) : Prop :=
  (x321 ≤ v13_327 → (v10_327 = 0 → gR h_327 q0 10 10 (fun (g368 : Nat) => gR h_327 q0 10 10 (fun (g374 : Nat) => lR h_327 (c 2) g374 r230 (fun (x379 : Nat) => (∃ m382 z382 mB382 zB382 : Nat, mc_327 = m382 + mB382 ∧ ms_327 = z382 + zB382 ∧ w_L_with c K h_327 x379 x276 m382 z382 (fun (r382 : Option Nat) (h382 : HW) => dRf r382 (fun (a382 : Nat) => stA h382 (c 0) (c 2) g368 r230 a382 (fun (h385 : HW) => nwI h385 (c 0) (2 : Int32) mB382 zB382 (fun (q391 : Nat) (h391 : HW) (mB391 zB391 : Nat) => stI h391 (c 0) q391 (0 : Int32) r230 (fun (h397 : HW) => stI h397 (c 0) q391 (1 : Int32) r242 (fun (h402 : HW) => w_L_writeAll c K h402 a0 a1 (K.1 3) q391 (fun (h403 : HW) => w_L_write c K h403 a0 a1 (K.1 12) (fun (h410 : HW) => w_L_writeNumber c K h410 a0 a1 r254 (fun (h417 : HW) => w_L_write c K h417 a0 a1 (K.1 11) (fun (h424 : HW) => w_L_randomTable_J427 c K rec_222 v5_222 h424 mB391 zB391))))))))))))))) ∧ (¬ v10_327 = 0 → w_L_randomTable_J427 c K rec_222 v5_222 h_327 mc_327 ms_327)) ∧ (¬ x321 ≤ v13_327 → lR h_327 (c 2) g314 v13_327 (fun (x338 : Nat) => w_L_has c K h_327 x338 x276 (fun (r347 : Int32) (h347 : HW) => ∀ x350 : Int32, x350 = v10_327 ||| r347 → (∀ x353 : Int32, x353 = (v13_327 + 1) → (rec_327 h347 mc_327 ms_327 x350 x353)))))

def w_L_randomTable_J311 (c : Nat → ClassId) (K : (Nat → Nat) × (Nat → Nat)) (a0 : Nat) (a1 : Nat) (q0 : Nat) (rec_222 : HW → Nat → Nat → Int32 → Prop) (v5_222 : Int32) (r230 : Int32) (r242 : Int32) (r254 : Int32) (h254 : HW) (x276 : Int32) (mc_311 ms_311 : Nat) (s0_311 : Int32) : Prop :=
  gR h254 q0 10 10 (fun (g314 : Nat) => lenA h254 (c 2) g314 (fun (x321 : Int32) => ∃ n_327 : Nat, itP5 (w_L_randomTable_B327 c K a0 a1 q0 rec_222 v5_222 r230 r242 r254 x276 g314 x321) n_327 h254 mc_311 ms_311 s0_311 (0 : Int32)))

def w_L_randomTable_J306 (c : Nat → ClassId) (K : (Nat → Nat) × (Nat → Nat)) (a0 : Nat) (a1 : Nat) (q0 : Nat) (rec_222 : HW → Nat → Nat → Int32 → Prop) (v5_222 : Int32) (r230 : Int32) (r242 : Int32) (r254 : Int32) (h254 : HW) (x276 : Int32) (mc_306 ms_306 : Nat) : Prop :=
  w_L_randomTable_J311 c K a0 a1 q0 rec_222 v5_222 r230 r242 r254 h254 x276 mc_306 ms_306 (1 : Int32)

def w_L_randomTable_B222 (c : Nat → ClassId) (K : (Nat → Nat) × (Nat → Nat)) (a0 : Nat) (a1 : Nat) (a2 : Nat) (post : Option Nat → HW → Prop) (q0 : Nat) (x25 : Int32) (rec_222 : HW → Nat → Nat → Int32 → Prop) (h_222 : HW) (mc_222 : Nat) (ms_222 : Nat) (v5_222 : Int32) : Prop :=
  (v5_222 ≤ 0 → (∃ w fs, h_222 a2 = some (w, .inr (9, fs))) ∧ w_X9_below c K h_222 a2 (2 : Int32) (fun (r435 : Int32) (h435 : HW) => (r435 = 0 → (∃ w fs, h435 a2 = some (w, .inr (9, fs))) ∧ w_X9_below c K h435 a2 (3 : Int32) (fun (r445 : Int32) (h445 : HW) => (∃ m448 z448 mB448 zB448 : Nat, mc_222 = m448 + mB448 ∧ ms_222 = z448 + zB448 ∧ w_X8_random c K 3 h445 a2 r445 m448 z448 (fun (r448 : Option Nat) (h448 : HW) => dRf r448 (fun (a448 : Nat) => pV h448 q0 10 15 (.ref a448) (fun (h451 : HW) => w_L_write c K h451 a0 a1 (K.1 13) (fun (h458 : HW) => gQ h458 q0 10 15 (fun (g464 : Option Nat) => dRf g464 (fun (b468_0 : Nat) => (∃ w fs, h458 b468_0 = some (w, .inr (8, fs))) ∧ (∃ m468 z468 mB468 zB468 : Nat, mB448 = m468 + mB468 ∧ zB448 = z468 + zB468 ∧ w_X8_text c K 3 h458 b468_0 (0 : Int32) m468 z468 (fun (r468 : Option Nat) (h468 : HW) => dRf r468 (fun (a468 : Nat) => w_L_write c K h468 a0 a1 a468 (fun (h471 : HW) => w_L_write c K h471 a0 a1 (K.1 21) (fun (h478 : HW) => w_L_randomTable_J481 c K a0 a1 post q0 h478 mB468 zB468)))))))))))))) ∧ (¬ r435 = 0 → w_L_randomTable_J481 c K a0 a1 post q0 h435 mc_222 ms_222))) ∧ (¬ v5_222 ≤ 0 → (∃ w fs, h_222 a2 = some (w, .inr (9, fs))) ∧ w_X9_below c K h_222 a2 x25 (fun (r230 : Int32) (h230 : HW) => gI h230 q0 10 0 (fun (g237 : Int32) => ∀ x241 : Int32, x241 = g237 + (1 : Int32) → ((∃ w fs, h230 a2 = some (w, .inr (9, fs))) ∧ w_X9_below c K h230 a2 x241 (fun (r242 : Int32) (h242 : HW) => gI h242 q0 10 0 (fun (g249 : Int32) => ∀ x253 : Int32, x253 = g249 + (1 : Int32) → ((∃ w fs, h242 a2 = some (w, .inr (9, fs))) ∧ w_X9_below c K h242 a2 x253 (fun (r254 : Int32) (h254 : HW) => ∀ x265 : Int32, x265 = (if r254 < r242 then r254 else r242) → (∀ x268 : Int32, x268 = (10 : Int32) * x265 → (∀ x273 : Int32, x273 = (if r242 < r254 then r254 else r242) → (∀ x276 : Int32, x276 = x268 + x273 → (gI h254 q0 10 2 (fun (g284 : Int32) => ∀ x287 : Int32, x287 = (11 : Int32) * g284 → ((x276 = x287 → w_L_randomTable_J306 c K a0 a1 q0 rec_222 v5_222 r230 r242 r254 h254 x276 mc_222 ms_222) ∧ (¬ x276 = x287 → gR h254 q0 10 10 (fun (g292 : Nat) => lR h254 (c 2) g292 r230 (fun (x297 : Nat) => lenA h254 (c 0) x297 (fun (x298 : Int32) => gI h254 q0 10 1 (fun (g300 : Int32) => (x298 = g300 → w_L_randomTable_J306 c K a0 a1 q0 rec_222 v5_222 r230 r242 r254 h254 x276 mc_222 ms_222) ∧ (¬ x298 = g300 → w_L_randomTable_J311 c K a0 a1 q0 rec_222 v5_222 r230 r242 r254 h254 x276 mc_222 ms_222 (0 : Int32)))))))))))))))))))))

def w_L_randomTable_J215 (c : Nat → ClassId) (K : (Nat → Nat) × (Nat → Nat)) (a0 : Nat) (a1 : Nat) (a2 : Nat) (post : Option Nat → HW → Prop) (q0 : Nat) (x25 : Int32) (h_215 : HW) (mc_215 ms_215 : Nat) : Prop :=
  (∃ w fs, h_215 a2 = some (w, .inr (9, fs))) ∧ w_X9_below c K h_215 a2 (4 : Int32) (fun (r217 : Int32) (h217 : HW) => ∃ n_222 : Nat, itP4 (w_L_randomTable_B222 c K a0 a1 a2 post q0 x25) n_222 h217 mc_215 ms_215 r217)

def w_L_randomTable_J172 (c : Nat → ClassId) (K : (Nat → Nat) × (Nat → Nat)) (a0 : Nat) (a1 : Nat) (a2 : Nat) (post : Option Nat → HW → Prop) (q0 : Nat) (x25 : Int32) (h_172 : HW) (mc_172 ms_172 : Nat) : Prop :=
  (∃ w fs, h_172 a2 = some (w, .inr (9, fs))) ∧ w_X9_below c K h_172 a2 (3 : Int32) (fun (r174 : Int32) (h174 : HW) => (r174 ≤ 0 → w_L_randomTable_J215 c K a0 a1 a2 post q0 x25 h174 mc_172 ms_172) ∧ (¬ r174 ≤ 0 → (∃ w fs, h174 a2 = some (w, .inr (9, fs))) ∧ w_X9_below c K h174 a2 (10000 : Int32) (fun (r185 : Int32) (h185 : HW) => pV h185 q0 10 3 (.int r185) (fun (h188 : HW) => nwI h188 (c 0) (1 : Int32) mc_172 ms_172 (fun (q196 : Nat) (h196 : HW) (mB196 zB196 : Nat) => gI h196 q0 10 3 (fun (g201 : Int32) => stI h196 (c 0) q196 (0 : Int32) g201 (fun (h204 : HW) => w_L_writeAll c K h204 a0 a1 (K.1 2) q196 (fun (h205 : HW) => w_L_write c K h205 a0 a1 (K.1 11) (fun (h212 : HW) => w_L_randomTable_J215 c K a0 a1 a2 post q0 x25 h212 mB196 zB196)))))))))

def w_L_randomTable_J123 (c : Nat → ClassId) (K : (Nat → Nat) × (Nat → Nat)) (a0 : Nat) (a1 : Nat) (a2 : Nat) (post : Option Nat → HW → Prop) (q0 : Nat) (x25 : Int32) (h116 : HW) (mc_123 ms_123 : Nat) (s0_123 : Nat) (s1_123 : Nat) (s2_123 : Nat) : Prop :=
  w_L_write c K h116 s2_123 s1_123 s0_123 (fun (h123 : HW) => (∃ w fs, h123 a2 = some (w, .inr (9, fs))) ∧ w_X9_below c K h123 a2 (2 : Int32) (fun (r128 : Int32) (h128 : HW) => (r128 = 0 → gI h128 q0 10 0 (fun (g137 : Int32) => ∀ x141 : Int32, x141 = g137 + (1 : Int32) → ((∃ w fs, h128 a2 = some (w, .inr (9, fs))) ∧ w_X9_below c K h128 a2 x141 (fun (r142 : Int32) (h142 : HW) => pV h142 q0 10 2 (.int r142) (fun (h145 : HW) => nwI h145 (c 0) (1 : Int32) mc_123 ms_123 (fun (q153 : Nat) (h153 : HW) (mB153 zB153 : Nat) => gI h153 q0 10 2 (fun (g158 : Int32) => stI h153 (c 0) q153 (0 : Int32) g158 (fun (h161 : HW) => w_L_writeAll c K h161 a0 a1 (K.1 1) q153 (fun (h162 : HW) => w_L_write c K h162 a0 a1 (K.1 11) (fun (h169 : HW) => w_L_randomTable_J172 c K a0 a1 a2 post q0 x25 h169 mB153 zB153)))))))))) ∧ (¬ r128 = 0 → w_L_randomTable_J172 c K a0 a1 a2 post q0 x25 h128 mc_123 ms_123)))

def w_L_randomTable_J95 (c : Nat → ClassId) (K : (Nat → Nat) × (Nat → Nat)) (a0 : Nat) (a1 : Nat) (a2 : Nat) (post : Option Nat → HW → Prop) (q0 : Nat) (x25 : Int32) (h87 : HW) (mc_95 ms_95 : Nat) (s0_95 : Int32) (s1_95 : Nat) (s2_95 : Nat) (s3_95 : Nat) : Prop :=
  nwI h87 (c 0) s0_95 mc_95 ms_95 (fun (q95 : Nat) (h95 : HW) (mB95 zB95 : Nat) => gI h95 q0 10 0 (fun (g100 : Int32) => stI h95 (c 0) q95 (0 : Int32) g100 (fun (h103 : HW) => stI h103 (c 0) q95 (1 : Int32) x25 (fun (h108 : HW) => gI h108 q0 10 1 (fun (g112 : Int32) => stI h108 (c 0) q95 (2 : Int32) g112 (fun (h115 : HW) => w_L_writeAll c K h115 s3_95 s2_95 s1_95 q95 (fun (h116 : HW) => w_L_randomTable_J123 c K a0 a1 a2 post q0 x25 h116 mB95 zB95 (K.1 11) a1 a0)))))))

def w_L_randomTable_J77 (c : Nat → ClassId) (K : (Nat → Nat) × (Nat → Nat)) (a0 : Nat) (a1 : Nat) (a2 : Nat) (post : Option Nat → HW → Prop) (q0 : Nat) (x25 : Int32) (h_77 : HW) (mc_77 ms_77 : Nat) (s0_77 : Nat) (s1_77 : Nat) : Prop :=
  pV h_77 s1_77 10 12 (.ref s0_77) (fun (h77 : HW) => ∀ x84 : Int32, x84 = x25 + (1 : Int32) → (nwI h77 (c 4) x84 mc_77 ms_77 (fun (q85 : Nat) (h85 : HW) (mB85 zB85 : Nat) => pV h85 q0 10 13 (.ref q85) (fun (h87 : HW) => w_L_randomTable_J95 c K a0 a1 a2 post q0 x25 h87 mB85 zB85 (3 : Int32) (K.1 0) a1 a0))))

def w_L_randomTable_J37 (c : Nat → ClassId) (K : (Nat → Nat) × (Nat → Nat)) (a0 : Nat) (a1 : Nat) (a2 : Nat) (post : Option Nat → HW → Prop) (q0 : Nat) (x25 : Int32) (h33 : HW) (mc_37 ms_37 : Nat) (s0_37 : Int32) (s1_37 : Nat) : Prop :=
  pV h33 s1_37 10 1 (.int s0_37) (fun (h37 : HW) => gI h37 q0 10 0 (fun (g42 : Int32) => pV h37 q0 10 2 (.int g42) (fun (h45 : HW) => nwM h45 (c 2) (c 0) x25 (0 : Int32) mc_37 ms_37 (fun (q52 : Nat) (h52 : HW) (mB52 zB52 : Nat) => pV h52 q0 10 10 (.ref q52) (fun (h56 : HW) => nwI h56 (c 0) x25 mB52 zB52 (fun (q62 : Nat) (h62 : HW) (mB62 zB62 : Nat) => pV h62 q0 10 11 (.ref q62) (fun (h64 : HW) => ∀ x71 : Int32, x71 = x25 + (1 : Int32) → (nwM h64 (c 2) (c 0) x71 (0 : Int32) mB62 zB62 (fun (q73 : Nat) (h73 : HW) (mB73 zB73 : Nat) => w_L_randomTable_J77 c K a0 a1 a2 post q0 x25 h73 mB73 zB73 q73 q0)))))))))

def w_L_randomTable (c : Nat → ClassId) (K : (Nat → Nat) × (Nat → Nat)) (h : HW) (a0 : Nat) (a1 : Nat) (a2 : Nat) (mc ms : Nat) (post : Option Nat → HW → Prop) : Prop :=
  nwO h 10 [.int 0, .int 0, .int 0, .int 0, .int 0, .int 0, .int 0, .int 0, .int 0, .int 0, .null, .null, .null, .null, .null, .null, .null] 17 mc ms (fun (q0 : Nat) (h0 : HW) (mB0 zB0 : Nat) => (∃ m4 z4 mB4 zB4 : Nat, mB0 = m4 + mB4 ∧ zB0 = z4 + zB4 ∧ w_X10_init c K h0 q0 m4 z4 (fun (h4 : HW) => (∃ w fs, h4 a2 = some (w, .inr (9, fs))) ∧ w_X9_below c K h4 a2 (4 : Int32) (fun (r12 : Int32) (h12 : HW) => ∀ x15 : Int32, x15 = (3 : Int32) + r12 → (pV h12 q0 10 0 (.int x15) (fun (h16 : HW) => (∃ w fs, h16 a2 = some (w, .inr (9, fs))) ∧ w_X9_below c K h16 a2 (3 : Int32) (fun (r22 : Int32) (h22 : HW) => ∀ x25 : Int32, x25 = (2 : Int32) + r22 → ((∃ w fs, h22 a2 = some (w, .inr (9, fs))) ∧ w_X9_below c K h22 a2 (6 : Int32) (fun (r33 : Int32) (h33 : HW) => ∀ x36 : Int32, x36 = (1 : Int32) + r33 → (w_L_randomTable_J37 c K a0 a1 a2 post q0 x25 h33 mB4 zB4 x36 q0))))))))))

abbrev rm_L_randomTable (mc ms : Nat) : Room := { frames := 110, cells := mc, slots := ms, locals := 4245 }
theorem he_L_randomTable : yL_randomTable.cls ≠ "java/lang/invoke/MethodHandle" ∧ yL_randomTable.cls ≠ "java/lang/invoke/VarHandle" ∧ (parseMethodDescriptor yL_randomTable.desc).map (fun d => d.parameters.length) = some 3 := by decide +kernel
theorem heV_L_randomTable : yL_randomTable.cls = RL ∧ yL_randomTable.cls ≠ "java/lang/invoke/MethodHandle" ∧ yL_randomTable.cls ≠ "java/lang/invoke/VarHandle" ∧ (parseMethodDescriptor yL_randomTable.desc).map (fun d => d.parameters.length) = some 3 := by decide +kernel
set_option maxHeartbeats 40000000 in
set_option maxRecDepth 100000 in
set_option maxHeartbeats 4000000 in
set_option maxRecDepth 100000 in
theorem hj_L_randomTable_J215 {p : Program} {l : Launch} (hl0 : l.stackTraces = false) {e : Env} {s : State} {m : MethodId} {args : Array Value} {below : List Frame} {meth : Method} {c1 : Code} {A : Nat → Prop} {Q : State → Prop} {G : va_G} {K : (Nat → Nat) × (Nat → Nat)} {c : Nat → ClassId} {mc ms : Nat} {post : Option Nat → HW → Prop} (hx : p.tables.exec = Jvm.exec) (hb : c1.code = cL_randomTable) (hml : c1.maxLocals = 15) (hown : s.vm.findClass RL = some m.cls) (hmn : meth.name = yL_randomTable.name) (hts : ∀ w ∈ wsL_randomTable, w.before args s = true) (hK : va_K G vwCl (TY c) s) (hN : NW K s) (hZ : ZE K A s s.heap) (hXX : XX s) (hA : ∀ q : Nat, s.heap.size ≤ q → A q) (hend : ∀ (H : Heap) (locs : List Loc) (ls : Array Slot) (pc cells slots : Nat) (v : Option Nat) (h1 : HW), cells ≤ mc → slots ≤ ms → post v h1 → mP G K h1 H → mD A h1 → va_S A s.heap H locs → decode cL_randomTable pc = .ok (.areturn, 1) → W p l e (rm_L_randomTable mc ms) s m args below meth c1 H locs cells slots Q (F0 m pc ls [va_rf v])) (a0 : Nat) (a1 : Nat) (a2 : Nat) (q0 : Nat) (x25 : Int32) : ∀ (h_215 : HW) (mc_215 ms_215 : Nat) (cl_215 sl_215 : Nat) (H : Heap) (locs : List Loc) (ls : Array Slot), cl_215 + mc_215 ≤ mc ∧ sl_215 + ms_215 ≤ ms → mP G K h_215 H → mD A h_215 → va_S A s.heap H locs → lv_has ls 15 [(0, .ref a0), (1, .ref a1), (2, .ref a2), (3, .ref q0), (4, .int x25)] → w_L_randomTable_J215 c K a0 a1 a2 post q0 x25 h_215 mc_215 ms_215 → W p l e (rm_L_randomTable mc ms) s m args below meth c1 H locs cl_215 sl_215 Q (F0 m 215 ls []) := by
              have hi_10 : ∀ w ∈ u_ws RX10 TX10 17, w ∈ wsL_randomTable := fun w h => (fun w h => List.mem_cons_of_mem _ (List.mem_append_left _ (List.mem_append_left _ (List.mem_append_left _ (List.mem_append_left _ (List.mem_append_left _ (List.mem_append_left _ (List.mem_append_left _ (List.mem_append_left _ (List.mem_append_left _ (List.mem_append_left _ (List.mem_append_left _ (List.mem_append_left _ (List.mem_append_right _ (h))))))))))))))) w h
              intro h_215 mc_215 ms_215 cl_215 sl_215 H locs ls hf hP hD hS hl hm
              unfold w_L_randomTable_J215 at hm
              refine lv_aload_n hx hb dL_randomTable_215 rfl (lv_at hl 2 rfl) ?_
              refine lv_iconst (v := 4) hx hb dL_randomTable_216 (by decide) ?_
              obtain ⟨⟨wr217, fr217, hrq217⟩, hm⟩ := hm
              refine hcVi (As := [.int (4 : Int32)]) (rest := []) ⟨hx, hb, hml, hown, hts⟩ (h_X9_below l G K c h_215 a2 (4 : Int32) _ hm) (cwV 1 hts gL_randomTable_X9_below rfl rfl rfl (heV_X9_below) ⟨Nat.le_of_ble_eq_true rfl, Nat.le_of_ble_eq_true rfl⟩) hK hN hZ hXX hP hD hS hA (mr_recv hK (mRd hK hP hZ hS) (ci := 9) rfl hrq217) rfl hl.1 rfl (Nat.le_of_ble_eq_true rfl) dL_randomTable_217 ⟨by show cl_215 + 0 ≤ mc; omega, by show sl_215 + 0 ≤ ms; omega⟩ (fun r217 h217 H locs hm hP hD hS => ?_)
              refine lv_istore (lv' := [(5, .int r217), (0, .ref a0), (1, .ref a1), (2, .ref a2), (3, .ref q0), (4, .int x25)]) hx hb dL_randomTable_220 hl (by decide) rfl (fun ls hl => ?_)
              obtain ⟨n_222, hm⟩ := hm
              have L_222 : ∀ (n_222 : Nat) (h_222 : HW) (mc_222 : Nat) (ms_222 : Nat) (v5_222 : Int32) (cl_222 sl_222 : Nat) (H : Heap) (locs : List Loc) (ls : Array Slot), cl_222 + mc_222 ≤ mc ∧ sl_222 + ms_222 ≤ ms → mP G K h_222 H → mD A h_222 → va_S A s.heap H locs → lv_has ls 15 [(0, .ref a0), (1, .ref a1), (2, .ref a2), (3, .ref q0), (4, .int x25), (5, .int v5_222)] → itP4 (w_L_randomTable_B222 c K a0 a1 a2 post q0 x25) n_222 h_222 mc_222 ms_222 v5_222 → W p l e (rm_L_randomTable mc ms) s m args below meth c1 H locs cl_222 sl_222 Q (F0 m 222 ls []) := by
                intro n_222
                induction n_222 with
                | zero => intro h_222 mc_222 ms_222 v5_222 cl_222 sl_222 H locs ls hf hP hD hS hl hm; exact hm.elim
                | succ n_222 ih_222 =>
                  intro h_222 mc_222 ms_222 v5_222 cl_222 sl_222 H locs ls hf hP hD hS hl hm
                  have hm : (w_L_randomTable_B222 c K a0 a1 a2 post q0 x25) (itP4 (w_L_randomTable_B222 c K a0 a1 a2 post q0 x25) n_222) h_222 mc_222 ms_222 v5_222 := hm
                  generalize itP4 (w_L_randomTable_B222 c K a0 a1 a2 post q0 x25) n_222 = rec_222 at hm ih_222
                  unfold w_L_randomTable_B222 at hm
                  refine lv_iload hx hb dL_randomTable_222 (lv_at hl 5 rfl) ?_
                  refine lv_if_le (tgt := 433) hx hb dL_randomTable_224 (by decide) (fun c_224 => ?_) (fun c_224 => ?_)
                  · replace hm := hm.1 c_224
                    refine lv_aload_n hx hb dL_randomTable_433 rfl (lv_at hl 2 rfl) ?_
                    refine lv_iconst (v := 2) hx hb dL_randomTable_434 (by decide) ?_
                    obtain ⟨⟨wr435, fr435, hrq435⟩, hm⟩ := hm
                    refine hcVi (As := [.int (2 : Int32)]) (rest := []) ⟨hx, hb, hml, hown, hts⟩ (h_X9_below l G K c h_222 a2 (2 : Int32) _ hm) (cwV 1 hts gL_randomTable_X9_below rfl rfl rfl (heV_X9_below) ⟨Nat.le_of_ble_eq_true rfl, Nat.le_of_ble_eq_true rfl⟩) hK hN hZ hXX hP hD hS hA (mr_recv hK (mRd hK hP hZ hS) (ci := 9) rfl hrq435) rfl hl.1 rfl (Nat.le_of_ble_eq_true rfl) dL_randomTable_435 ⟨by show cl_222 + 0 ≤ mc; omega, by show sl_222 + 0 ≤ ms; omega⟩ (fun r435 h435 H locs hm hP hD hS => ?_)
                    have J_481 : ∀ (h_481 : HW) (mc_481 ms_481 : Nat) (cl_481 sl_481 : Nat) (H : Heap) (locs : List Loc) (ls : Array Slot), cl_481 + mc_481 ≤ mc ∧ sl_481 + ms_481 ≤ ms → mP G K h_481 H → mD A h_481 → va_S A s.heap H locs → lv_has ls 15 [(0, .ref a0), (1, .ref a1), (3, .ref q0)] → w_L_randomTable_J481 c K a0 a1 post q0 h_481 mc_481 ms_481 → W p l e (rm_L_randomTable mc ms) s m args below meth c1 H locs cl_481 sl_481 Q (F0 m 481 ls []) := by
                      intro h_481 mc_481 ms_481 cl_481 sl_481 H locs ls hf hP hD hS hl hm
                      unfold w_L_randomTable_J481 at hm
                      refine lv_aload_n hx hb dL_randomTable_481 rfl (lv_at hl 2 rfl) ?_
                      obtain ⟨⟨wr482, fr482, hrq482⟩, hm⟩ := hm
                      obtain ⟨m482, z482, mB482, zB482, hbm482, hbs482, hm⟩ := hm
                      refine hcVv (As := []) (rest := []) ⟨hx, hb, hml, hown, hts⟩ (h_X10_deals l G K c h_481 q0 m482 z482 _ hm) (cwV 0 hts gL_randomTable_X10_deals rfl rfl rfl (heV_X10_deals) ⟨Nat.le_of_ble_eq_true rfl, Nat.le_of_ble_eq_true rfl⟩) hK hN hZ hXX hP hD hS hA (mr_recv hK (mRd hK hP hZ hS) (ci := 10) rfl hrq482) rfl hl.1 rfl (Nat.le_of_ble_eq_true rfl) dL_randomTable_482 ⟨by show cl_481 + m482 ≤ mc; omega, by show sl_481 + z482 ≤ ms; omega⟩ (fun h482 H locs hm hP hD hS => ?_)
                      replace hf : (cl_481 + m482) + mB482 ≤ mc ∧ (sl_481 + z482) + zB482 ≤ ms := ⟨by omega, by omega⟩
                      clear hbm482 hbs482
                      refine lv_aload_n hx hb dL_randomTable_485 rfl (lv_at hl 0 rfl) ?_
                      refine lv_aload_n hx hb dL_randomTable_486 rfl (lv_at hl 1 rfl) ?_
                      obtain ⟨m487, z487, mB487, zB487, hbm487, hbs487, hm⟩ := hm
                      refine hcSi (As := [.ref a0, .ref a1]) (rest := []) ⟨hx, hb, hml, hown, hts⟩ (h_L_loadText l hl0 G K c h482 a0 a1 m487 z487 _ hm) (va_cwS 2 hts gL_randomTable_L_loadText rfl rfl rfl he_L_loadText ⟨Nat.le_of_ble_eq_true rfl, Nat.le_of_ble_eq_true rfl⟩) hK hN hZ hXX hP hD hS hA rfl hl.1 rfl (Nat.le_of_ble_eq_true rfl) dL_randomTable_487 ⟨by show (cl_481 + m482) + m487 ≤ mc; omega, by show (sl_481 + z482) + z487 ≤ ms; omega⟩ (fun r487 h487 H locs hm hP hD hS => ?_)
                      replace hf : ((cl_481 + m482) + m487) + mB487 ≤ mc ∧ ((sl_481 + z482) + z487) + zB487 ≤ ms := ⟨by omega, by omega⟩
                      clear hbm487 hbs487
                      refine lv_aload_n hx hb dL_randomTable_490 rfl (lv_at hl 2 rfl) ?_
                      obtain ⟨wq491, fs491, g491, hq491, hv491, hm⟩ := hm
                      refine mr_get (ci := 10) (C := RX10) (T := TX10) (N := 17) hx hb hts hi_10 hown hK (mRd hK hP hZ hS) hq491 rfl 14 (by decide) (hts (.fieldLink RL 198 "HubTrainsLaw$Table" "stock" "[I") ((List.mem_of_getElem? (i := 23) rfl))) (fun _ h9 => h9) hv491 dL_randomTable_491 ?_
                      obtain ⟨wq494, xx494, hq494, hm⟩ := hm
                      refine mr_alen hx hb hK (mRd hK hP hZ hS) 0 hq494 rfl dL_randomTable_494 (fun x494 ex494 => ?_)
                      replace hm := hm x494 ex494
                      refine lv_icmp_ne (tgt := 502) hx hb dL_randomTable_495 (by decide) (fun c_495 => ?_) (fun c_495 => ?_)
                      · replace hm := hm.2 c_495
                        refine lv_null hx hb dL_randomTable_502 ?_
                        exact hend H locs ls 503 _ _ none h487 (by omega) (by omega) hm hP hD hS dL_randomTable_503
                      · replace hm := hm.1 c_495
                        refine lv_aload_n hx hb dL_randomTable_498 rfl (lv_at hl 2 rfl) ?_
                        refine lv_goto (tgt := 503) hx hb dL_randomTable_499 (by decide) ?_
                        exact hend H locs ls 503 _ _ (some q0) h487 (by omega) (by omega) hm hP hD hS dL_randomTable_503
                    refine lv_if_ne (tgt := 481) hx hb dL_randomTable_438 (by decide) (fun c_438 => ?_) (fun c_438 => ?_)
                    · replace hm := hm.2 c_438
                      exact J_481 h435 mc_222 ms_222 cl_222 sl_222 H locs ls ⟨by omega, by omega⟩ hP hD hS (lv_sub hl [0, 1, 3] rfl) hm
                    · replace hm := hm.1 c_438
                      refine lv_aload_n hx hb dL_randomTable_441 rfl (lv_at hl 3 rfl) ?_
                      refine lv_aload_n hx hb dL_randomTable_442 rfl (lv_at hl 2 rfl) ?_
                      refine lv_aload_n hx hb dL_randomTable_443 rfl (lv_at hl 2 rfl) ?_
                      refine lv_iconst (v := 3) hx hb dL_randomTable_444 (by decide) ?_
                      obtain ⟨⟨wr445, fr445, hrq445⟩, hm⟩ := hm
                      refine hcVi (As := [.int (3 : Int32)]) (rest := [.ref a2, .ref q0]) ⟨hx, hb, hml, hown, hts⟩ (h_X9_below l G K c h435 a2 (3 : Int32) _ hm) (cwV 1 hts gL_randomTable_X9_below rfl rfl rfl (heV_X9_below) ⟨Nat.le_of_ble_eq_true rfl, Nat.le_of_ble_eq_true rfl⟩) hK hN hZ hXX hP hD hS hA (mr_recv hK (mRd hK hP hZ hS) (ci := 9) rfl hrq445) rfl hl.1 rfl (Nat.le_of_ble_eq_true rfl) dL_randomTable_445 ⟨by show cl_222 + 0 ≤ mc; omega, by show sl_222 + 0 ≤ ms; omega⟩ (fun r445 h445 H locs hm hP hD hS => ?_)
                      obtain ⟨m448, z448, mB448, zB448, hbm448, hbs448, hm⟩ := hm
                      refine hcSq (As := [.ref a2, .int r445]) (rest := [.ref q0]) ⟨hx, hb, hml, hown, hts⟩ (h_X8_random l G K c 3 h445 a2 r445 m448 z448 _ hm) (va_cwS 2 hts gL_randomTable_X8_random rfl rfl rfl he_X8_random ⟨Nat.le_of_ble_eq_true rfl, Nat.le_of_ble_eq_true rfl⟩) hK hN hZ hXX hP hD hS hA rfl hl.1 rfl (Nat.le_of_ble_eq_true rfl) dL_randomTable_448 ⟨by show cl_222 + m448 ≤ mc; omega, by show sl_222 + z448 ≤ ms; omega⟩ (fun r448 h448 H locs hm hP hD hS => ?_)
                      obtain ⟨a448, rfl, hm⟩ := hm
                      replace hf : (cl_222 + m448) + mB448 ≤ mc ∧ (sl_222 + z448) + zB448 ≤ ms := ⟨by omega, by omega⟩
                      clear hbm448 hbs448
                      obtain ⟨fs451, hq451, hl451, hm⟩ := hm
                      refine mr_put (v := .ref a448) (ci := 10) (C := RX10) (T := TX10) (N := 17) hx hb hts hi_10 tyX10 (fun k hk => tyX10_ok k (Nat.lt_of_lt_of_le hk (by decide))) (fun a ha b hb => nmX10 a (Nat.lt_of_lt_of_le ha (by decide)) b (Nat.lt_of_lt_of_le hb (by decide))) hown hK hP hD hS hq451 rfl 15 (by decide) (hts (.fieldLink RL 179 "HubTrainsLaw$Table" "term" "LHubTrainsLaw$Node;") ((List.mem_of_getElem? (i := 22) rfl))) (fun _ h9 => h9) rfl (tyX10_ok 15 (by decide)) rfl rfl hl451 dL_randomTable_451 (fun H locs hP hD hS => ?_)
                      generalize hup h448 q0 (.inr (10, fs451.set 15 (.ref a448))) = h451 at hm hP hD
                      refine lv_aload_n hx hb dL_randomTable_454 rfl (lv_at hl 0 rfl) ?_
                      refine lv_aload_n hx hb dL_randomTable_455 rfl (lv_at hl 1 rfl) ?_
                      refine va_ldcS hx hb hown (nws_HubTrainsLaw_183 hN.2.2) dL_randomTable_456 ?_
                      refine hcSv (As := [.ref a0, .ref a1, .ref (K.1 13)]) (rest := []) ⟨hx, hb, hml, hown, hts⟩ (h_L_write l G K c h451 a0 a1 (K.1 13) _ hm) (va_cwS 3 hts gL_randomTable_L_write rfl rfl rfl he_L_write ⟨Nat.le_of_ble_eq_true rfl, Nat.le_of_ble_eq_true rfl⟩) hK hN hZ hXX hP hD hS hA rfl hl.1 rfl (Nat.le_of_ble_eq_true rfl) dL_randomTable_458 ⟨by show (cl_222 + m448) + 0 ≤ mc; omega, by show (sl_222 + z448) + 0 ≤ ms; omega⟩ (fun h458 H locs hm hP hD hS => ?_)
                      refine lv_aload_n hx hb dL_randomTable_461 rfl (lv_at hl 0 rfl) ?_
                      refine lv_aload_n hx hb dL_randomTable_462 rfl (lv_at hl 1 rfl) ?_
                      refine lv_aload_n hx hb dL_randomTable_463 rfl (lv_at hl 3 rfl) ?_
                      obtain ⟨wq464, fs464, g464, hq464, hv464, hm⟩ := hm
                      refine mr_get (ci := 10) (C := RX10) (T := TX10) (N := 17) hx hb hts hi_10 hown hK (mRd hK hP hZ hS) hq464 rfl 15 (by decide) (hts (.fieldLink RL 179 "HubTrainsLaw$Table" "term" "LHubTrainsLaw$Node;") ((List.mem_of_getElem? (i := 22) rfl))) (fun _ h9 => h9) hv464 dL_randomTable_464 ?_
                      refine lv_iconst (v := 0) hx hb dL_randomTable_467 (by decide) ?_
                      obtain ⟨b468_0, rfl, hm⟩ := hm
                      obtain ⟨⟨wr468, fr468, hrq468⟩, hm⟩ := hm
                      obtain ⟨m468, z468, mB468, zB468, hbm468, hbs468, hm⟩ := hm
                      refine hcVq (As := [.int (0 : Int32)]) (rest := [.ref a1, .ref a0]) ⟨hx, hb, hml, hown, hts⟩ (h_X8_text l G K c 3 h458 b468_0 (0 : Int32) m468 z468 _ hm) (cwV 1 hts gL_randomTable_X8_text rfl rfl rfl (heV_X8_text) ⟨Nat.le_of_ble_eq_true rfl, Nat.le_of_ble_eq_true rfl⟩) hK hN hZ hXX hP hD hS hA (mr_recv hK (mRd hK hP hZ hS) (ci := 8) rfl hrq468) rfl hl.1 rfl (Nat.le_of_ble_eq_true rfl) dL_randomTable_468 ⟨by show (cl_222 + m448) + m468 ≤ mc; omega, by show (sl_222 + z448) + z468 ≤ ms; omega⟩ (fun r468 h468 H locs hm hP hD hS => ?_)
                      obtain ⟨a468, rfl, hm⟩ := hm
                      replace hf : ((cl_222 + m448) + m468) + mB468 ≤ mc ∧ ((sl_222 + z448) + z468) + zB468 ≤ ms := ⟨by omega, by omega⟩
                      clear hbm468 hbs468
                      refine hcSv (As := [.ref a0, .ref a1, .ref a468]) (rest := []) ⟨hx, hb, hml, hown, hts⟩ (h_L_write l G K c h468 a0 a1 a468 _ hm) (va_cwS 3 hts gL_randomTable_L_write rfl rfl rfl he_L_write ⟨Nat.le_of_ble_eq_true rfl, Nat.le_of_ble_eq_true rfl⟩) hK hN hZ hXX hP hD hS hA rfl hl.1 rfl (Nat.le_of_ble_eq_true rfl) dL_randomTable_471 ⟨by show ((cl_222 + m448) + m468) + 0 ≤ mc; omega, by show ((sl_222 + z448) + z468) + 0 ≤ ms; omega⟩ (fun h471 H locs hm hP hD hS => ?_)
                      refine lv_aload_n hx hb dL_randomTable_474 rfl (lv_at hl 0 rfl) ?_
                      refine lv_aload_n hx hb dL_randomTable_475 rfl (lv_at hl 1 rfl) ?_
                      refine va_ldcS hx hb hown (nws_HubTrainsLaw_189 hN.2.2) dL_randomTable_476 ?_
                      refine hcSv (As := [.ref a0, .ref a1, .ref (K.1 21)]) (rest := []) ⟨hx, hb, hml, hown, hts⟩ (h_L_write l G K c h471 a0 a1 (K.1 21) _ hm) (va_cwS 3 hts gL_randomTable_L_write rfl rfl rfl he_L_write ⟨Nat.le_of_ble_eq_true rfl, Nat.le_of_ble_eq_true rfl⟩) hK hN hZ hXX hP hD hS hA rfl hl.1 rfl (Nat.le_of_ble_eq_true rfl) dL_randomTable_478 ⟨by show ((cl_222 + m448) + m468) + 0 ≤ mc; omega, by show ((sl_222 + z448) + z468) + 0 ≤ ms; omega⟩ (fun h478 H locs hm hP hD hS => ?_)
                      exact J_481 h478 mB468 zB468 ((cl_222 + m448) + m468) ((sl_222 + z448) + z468) H locs ls ⟨by omega, by omega⟩ hP hD hS (lv_sub hl [0, 1, 3] rfl) hm
                  · replace hm := hm.2 c_224
                    refine lv_aload_n hx hb dL_randomTable_227 rfl (lv_at hl 2 rfl) ?_
                    refine lv_iload hx hb dL_randomTable_228 (lv_at hl 4 rfl) ?_
                    obtain ⟨⟨wr230, fr230, hrq230⟩, hm⟩ := hm
                    refine hcVi (As := [.int x25]) (rest := []) ⟨hx, hb, hml, hown, hts⟩ (h_X9_below l G K c h_222 a2 x25 _ hm) (cwV 1 hts gL_randomTable_X9_below rfl rfl rfl (heV_X9_below) ⟨Nat.le_of_ble_eq_true rfl, Nat.le_of_ble_eq_true rfl⟩) hK hN hZ hXX hP hD hS hA (mr_recv hK (mRd hK hP hZ hS) (ci := 9) rfl hrq230) rfl hl.1 rfl (Nat.le_of_ble_eq_true rfl) dL_randomTable_230 ⟨by show cl_222 + 0 ≤ mc; omega, by show sl_222 + 0 ≤ ms; omega⟩ (fun r230 h230 H locs hm hP hD hS => ?_)
                    refine lv_istore (lv' := [(6, .int r230), (0, .ref a0), (1, .ref a1), (2, .ref a2), (3, .ref q0), (4, .int x25), (5, .int v5_222)]) hx hb dL_randomTable_233 hl (by decide) rfl (fun ls hl => ?_)
                    refine lv_aload_n hx hb dL_randomTable_235 rfl (lv_at hl 3 rfl) ?_
                    refine lv_aload_n hx hb dL_randomTable_236 rfl (lv_at hl 4 rfl) ?_
                    obtain ⟨wq237, fs237, g237, hq237, hv237, hm⟩ := hm
                    refine mr_get (ci := 10) (C := RX10) (T := TX10) (N := 17) hx hb hts hi_10 hown hK (mRd hK hP hZ hS) hq237 rfl 0 (by decide) (hts (.fieldLink RL 119 "HubTrainsLaw$Table" "most" "I") ((List.mem_of_getElem? (i := 4) rfl))) (fun _ h9 => h9) hv237 dL_randomTable_237 ?_
                    refine lv_iconst (v := 1) hx hb dL_randomTable_240 (by decide) ?_
                    refine lv_iadd hx hb dL_randomTable_241 ?_
                    refine lv_topi (fun x241 ex241 => ?_)
                    replace hm := hm x241 ex241
                    obtain ⟨⟨wr242, fr242, hrq242⟩, hm⟩ := hm
                    refine hcVi (As := [.int x241]) (rest := []) ⟨hx, hb, hml, hown, hts⟩ (h_X9_below l G K c h230 a2 x241 _ hm) (cwV 1 hts gL_randomTable_X9_below rfl rfl rfl (heV_X9_below) ⟨Nat.le_of_ble_eq_true rfl, Nat.le_of_ble_eq_true rfl⟩) hK hN hZ hXX hP hD hS hA (mr_recv hK (mRd hK hP hZ hS) (ci := 9) rfl hrq242) rfl hl.1 rfl (Nat.le_of_ble_eq_true rfl) dL_randomTable_242 ⟨by show cl_222 + 0 ≤ mc; omega, by show sl_222 + 0 ≤ ms; omega⟩ (fun r242 h242 H locs hm hP hD hS => ?_)
                    refine lv_istore (lv' := [(7, .int r242), (6, .int r230), (0, .ref a0), (1, .ref a1), (2, .ref a2), (3, .ref q0), (4, .int x25), (5, .int v5_222)]) hx hb dL_randomTable_245 hl (by decide) rfl (fun ls hl => ?_)
                    refine lv_aload_n hx hb dL_randomTable_247 rfl (lv_at hl 4 rfl) ?_
                    refine lv_aload_n hx hb dL_randomTable_248 rfl (lv_at hl 5 rfl) ?_
                    obtain ⟨wq249, fs249, g249, hq249, hv249, hm⟩ := hm
                    refine mr_get (ci := 10) (C := RX10) (T := TX10) (N := 17) hx hb hts hi_10 hown hK (mRd hK hP hZ hS) hq249 rfl 0 (by decide) (hts (.fieldLink RL 119 "HubTrainsLaw$Table" "most" "I") ((List.mem_of_getElem? (i := 4) rfl))) (fun _ h9 => h9) hv249 dL_randomTable_249 ?_
                    refine lv_iconst (v := 1) hx hb dL_randomTable_252 (by decide) ?_
                    refine lv_iadd hx hb dL_randomTable_253 ?_
                    refine lv_topi (fun x253 ex253 => ?_)
                    replace hm := hm x253 ex253
                    obtain ⟨⟨wr254, fr254, hrq254⟩, hm⟩ := hm
                    refine hcVi (As := [.int x253]) (rest := []) ⟨hx, hb, hml, hown, hts⟩ (h_X9_below l G K c h242 a2 x253 _ hm) (cwV 1 hts gL_randomTable_X9_below rfl rfl rfl (heV_X9_below) ⟨Nat.le_of_ble_eq_true rfl, Nat.le_of_ble_eq_true rfl⟩) hK hN hZ hXX hP hD hS hA (mr_recv hK (mRd hK hP hZ hS) (ci := 9) rfl hrq254) rfl hl.1 rfl (Nat.le_of_ble_eq_true rfl) dL_randomTable_254 ⟨by show cl_222 + 0 ≤ mc; omega, by show sl_222 + 0 ≤ ms; omega⟩ (fun r254 h254 H locs hm hP hD hS => ?_)
                    refine lv_istore (lv' := [(8, .int r254), (7, .int r242), (6, .int r230), (0, .ref a0), (1, .ref a1), (2, .ref a2), (3, .ref q0), (4, .int x25), (5, .int v5_222)]) hx hb dL_randomTable_257 hl (by decide) rfl (fun ls hl => ?_)
                    refine lv_bipush (v := 10) hx hb dL_randomTable_259 (by decide) ?_
                    refine lv_iload hx hb dL_randomTable_261 (lv_at hl 1 rfl) ?_
                    refine lv_iload hx hb dL_randomTable_263 (lv_at hl 0 rfl) ?_
                    refine va_mmin hx hb (hml.trans hl.1.symm) hown (hts (.methodLink RL 157 Lib.Math.min.name) ((List.mem_of_getElem? (i := 15) rfl))) (hts (.static Lib.Math.min.name) ((List.mem_of_getElem? (i := 16) rfl))) (hts (.initialized "java/lang/Math") ((List.mem_of_getElem? (i := 17) rfl))) (hts (.code Lib.Math.min.name Lib.Math.min.code 2 (some .int)) ((List.mem_of_getElem? (i := 18) rfl))) (Nat.le_of_ble_eq_true rfl) (Nat.le_of_ble_eq_true rfl) (by show cl_222 ≤ mc; omega) (by show sl_222 ≤ ms; omega) dL_randomTable_265 ?_
                    refine lv_topi (fun x265 ex265 => ?_)
                    replace hm := hm x265 ex265
                    refine lv_imul hx hb dL_randomTable_268 ?_
                    refine lv_topi (fun x268 ex268 => ?_)
                    replace hm := hm x268 ex268
                    refine lv_iload hx hb dL_randomTable_269 (lv_at hl 1 rfl) ?_
                    refine lv_iload hx hb dL_randomTable_271 (lv_at hl 0 rfl) ?_
                    refine va_mmax hx hb (hml.trans hl.1.symm) hown (hts (.methodLink RL 162 Lib.Math.max.name) ((List.mem_of_getElem? (i := 19) rfl))) (hts (.static Lib.Math.max.name) ((List.mem_of_getElem? (i := 20) rfl))) (hts (.initialized "java/lang/Math") ((List.mem_of_getElem? (i := 17) rfl))) (hts (.code Lib.Math.max.name Lib.Math.max.code 2 (some .int)) ((List.mem_of_getElem? (i := 21) rfl))) (Nat.le_of_ble_eq_true rfl) (Nat.le_of_ble_eq_true rfl) (by show cl_222 ≤ mc; omega) (by show sl_222 ≤ ms; omega) dL_randomTable_273 ?_
                    refine lv_topi (fun x273 ex273 => ?_)
                    replace hm := hm x273 ex273
                    refine lv_iadd hx hb dL_randomTable_276 ?_
                    refine lv_topi (fun x276 ex276 => ?_)
                    replace hm := hm x276 ex276
                    refine lv_istore (lv' := [(9, .int x276), (8, .int r254), (7, .int r242), (6, .int r230), (0, .ref a0), (1, .ref a1), (2, .ref a2), (3, .ref q0), (4, .int x25), (5, .int v5_222)]) hx hb dL_randomTable_277 hl (by decide) rfl (fun ls hl => ?_)
                    refine lv_iload hx hb dL_randomTable_279 (lv_at hl 0 rfl) ?_
                    refine lv_bipush (v := 11) hx hb dL_randomTable_281 (by decide) ?_
                    refine lv_aload_n hx hb dL_randomTable_283 rfl (lv_at hl 7 rfl) ?_
                    obtain ⟨wq284, fs284, g284, hq284, hv284, hm⟩ := hm
                    refine mr_get (ci := 10) (C := RX10) (T := TX10) (N := 17) hx hb hts hi_10 hown hK (mRd hK hP hZ hS) hq284 rfl 2 (by decide) (hts (.fieldLink RL 126 "HubTrainsLaw$Table" "hub" "I") ((List.mem_of_getElem? (i := 6) rfl))) (fun _ h9 => h9) hv284 dL_randomTable_284 ?_
                    refine lv_imul hx hb dL_randomTable_287 ?_
                    refine lv_topi (fun x287 ex287 => ?_)
                    replace hm := hm x287 ex287
                    have J_311 : ∀ (mc_311 ms_311 : Nat) (s0_311 : Int32) (cl_311 sl_311 : Nat) (H : Heap) (locs : List Loc) (ls : Array Slot), cl_311 + mc_311 ≤ mc ∧ sl_311 + ms_311 ≤ ms → mP G K h254 H → mD A h254 → va_S A s.heap H locs → lv_has ls 15 [(0, .ref a0), (1, .ref a1), (2, .ref a2), (3, .ref q0), (4, .int x25), (5, .int v5_222), (6, .int r230), (7, .int r242), (8, .int r254), (9, .int x276)] → w_L_randomTable_J311 c K a0 a1 q0 rec_222 v5_222 r230 r242 r254 h254 x276 mc_311 ms_311 s0_311 → W p l e (rm_L_randomTable mc ms) s m args below meth c1 H locs cl_311 sl_311 Q (F0 m 311 ls [.int s0_311]) := by
                      intro mc_311 ms_311 s0_311 cl_311 sl_311 H locs ls hf hP hD hS hl hm
                      unfold w_L_randomTable_J311 at hm
                      refine lv_istore (lv' := [(10, .int s0_311), (0, .ref a0), (1, .ref a1), (2, .ref a2), (3, .ref q0), (4, .int x25), (5, .int v5_222), (6, .int r230), (7, .int r242), (8, .int r254), (9, .int x276)]) hx hb dL_randomTable_311 hl (by decide) rfl (fun ls hl => ?_)
                      refine lv_aload_n hx hb dL_randomTable_313 rfl (lv_at hl 4 rfl) ?_
                      obtain ⟨wq314, fs314, g314, hq314, hv314, hm⟩ := hm
                      refine mr_get (ci := 10) (C := RX10) (T := TX10) (N := 17) hx hb hts hi_10 hown hK (mRd hK hP hZ hS) hq314 rfl 10 (by decide) (hts (.fieldLink RL 131 "HubTrainsLaw$Table" "hands" "[[I") ((List.mem_of_getElem? (i := 9) rfl))) (fun _ h9 => h9) hv314 dL_randomTable_314 ?_
                      refine lv_astore (lv' := [(11, .ref g314), (10, .int s0_311), (0, .ref a0), (1, .ref a1), (2, .ref a2), (3, .ref q0), (4, .int x25), (5, .int v5_222), (6, .int r230), (7, .int r242), (8, .int r254), (9, .int x276)]) hx hb dL_randomTable_317 hl (by decide) rfl (fun ls hl => ?_)
                      refine lv_aload hx hb dL_randomTable_319 (lv_at hl 0 rfl) ?_
                      obtain ⟨wq321, xx321, hq321, hm⟩ := hm
                      refine mr_alen hx hb hK (mRd hK hP hZ hS) 2 hq321 rfl dL_randomTable_321 (fun x321 ex321 => ?_)
                      replace hm := hm x321 ex321
                      refine lv_istore (lv' := [(12, .int x321), (11, .ref g314), (10, .int s0_311), (0, .ref a0), (1, .ref a1), (2, .ref a2), (3, .ref q0), (4, .int x25), (5, .int v5_222), (6, .int r230), (7, .int r242), (8, .int r254), (9, .int x276)]) hx hb dL_randomTable_322 hl (by decide) rfl (fun ls hl => ?_)
                      refine lv_iconst (v := 0) hx hb dL_randomTable_324 (by decide) ?_
                      refine lv_istore (lv' := [(13, .int (0 : Int32)), (12, .int x321), (11, .ref g314), (10, .int s0_311), (0, .ref a0), (1, .ref a1), (2, .ref a2), (3, .ref q0), (4, .int x25), (5, .int v5_222), (6, .int r230), (7, .int r242), (8, .int r254), (9, .int x276)]) hx hb dL_randomTable_325 hl (by decide) rfl (fun ls hl => ?_)
                      obtain ⟨n_327, hm⟩ := hm
                      have L_327 : ∀ (n_327 : Nat) (h_327 : HW) (mc_327 : Nat) (ms_327 : Nat) (v10_327 : Int32) (v13_327 : Int32) (cl_327 sl_327 : Nat) (H : Heap) (locs : List Loc) (ls : Array Slot), cl_327 + mc_327 ≤ mc ∧ sl_327 + ms_327 ≤ ms → mP G K h_327 H → mD A h_327 → va_S A s.heap H locs → lv_has ls 15 [(0, .ref a0), (1, .ref a1), (2, .ref a2), (3, .ref q0), (4, .int x25), (5, .int v5_222), (6, .int r230), (7, .int r242), (8, .int r254), (9, .int x276), (10, .int v10_327), (11, .ref g314), (12, .int x321), (13, .int v13_327)] → itP5 (w_L_randomTable_B327 c K a0 a1 q0 rec_222 v5_222 r230 r242 r254 x276 g314 x321) n_327 h_327 mc_327 ms_327 v10_327 v13_327 → W p l e (rm_L_randomTable mc ms) s m args below meth c1 H locs cl_327 sl_327 Q (F0 m 327 ls []) := by
                        intro n_327
                        induction n_327 with
                        | zero => intro h_327 mc_327 ms_327 v10_327 v13_327 cl_327 sl_327 H locs ls hf hP hD hS hl hm; exact hm.elim
                        | succ n_327 ih_327 =>
                          intro h_327 mc_327 ms_327 v10_327 v13_327 cl_327 sl_327 H locs ls hf hP hD hS hl hm
                          have hm : (w_L_randomTable_B327 c K a0 a1 q0 rec_222 v5_222 r230 r242 r254 x276 g314 x321) (itP5 (w_L_randomTable_B327 c K a0 a1 q0 rec_222 v5_222 r230 r242 r254 x276 g314 x321) n_327) h_327 mc_327 ms_327 v10_327 v13_327 := hm
                          generalize itP5 (w_L_randomTable_B327 c K a0 a1 q0 rec_222 v5_222 r230 r242 r254 x276 g314 x321) n_327 = rec_327 at hm ih_327
                          unfold w_L_randomTable_B327 at hm
                          refine lv_iload hx hb dL_randomTable_327 (lv_at hl 13 rfl) ?_
                          refine lv_iload hx hb dL_randomTable_329 (lv_at hl 12 rfl) ?_
                          refine lv_icmp_ge (tgt := 359) hx hb dL_randomTable_331 (by decide) (fun c_331 => ?_) (fun c_331 => ?_)
                          · replace hm := hm.1 c_331
                            refine lv_iload hx hb dL_randomTable_359 (lv_at hl 10 rfl) ?_
                            have J_427 : ∀ (h_427 : HW) (mc_427 ms_427 : Nat) (cl_427 sl_427 : Nat) (H : Heap) (locs : List Loc) (ls : Array Slot), cl_427 + mc_427 ≤ mc ∧ sl_427 + ms_427 ≤ ms → mP G K h_427 H → mD A h_427 → va_S A s.heap H locs → lv_has ls 15 [(0, .ref a0), (1, .ref a1), (2, .ref a2), (3, .ref q0), (4, .int x25), (5, .int v5_222)] → w_L_randomTable_J427 c K rec_222 v5_222 h_427 mc_427 ms_427 → W p l e (rm_L_randomTable mc ms) s m args below meth c1 H locs cl_427 sl_427 Q (F0 m 427 ls []) := by
                              intro h_427 mc_427 ms_427 cl_427 sl_427 H locs ls hf hP hD hS hl hm
                              unfold w_L_randomTable_J427 at hm
                              obtain ⟨x427, ex427⟩ : ∃ z : Int32, z = (v5_222 + (-1)) := ⟨_, rfl⟩
                              replace hm := hm x427 ex427
                              refine lv_iinc (k := 5) (v := x427) (lv' := [(5, .int x427), (0, .ref a0), (1, .ref a1), (2, .ref a2), (3, .ref q0), (4, .int x25)]) hx hb dL_randomTable_427 hl rfl ex427.symm (by decide) rfl (fun ls hl => ?_)
                              refine lv_goto (tgt := 222) hx hb dL_randomTable_430 (by decide) ?_
                              exact ih_222 h_427 mc_427 ms_427 x427 cl_427 sl_427 H locs ls ⟨by omega, by omega⟩ hP hD hS (lv_sub hl [1, 2, 3, 4, 5, 0] rfl) hm
                            refine lv_if_eq (tgt := 367) hx hb dL_randomTable_361 (by decide) (fun c_361 => ?_) (fun c_361 => ?_)
                            · replace hm := hm.1 c_361
                              refine lv_aload_n hx hb dL_randomTable_367 rfl (lv_at hl 3 rfl) ?_
                              obtain ⟨wq368, fs368, g368, hq368, hv368, hm⟩ := hm
                              refine mr_get (ci := 10) (C := RX10) (T := TX10) (N := 17) hx hb hts hi_10 hown hK (mRd hK hP hZ hS) hq368 rfl 10 (by decide) (hts (.fieldLink RL 131 "HubTrainsLaw$Table" "hands" "[[I") ((List.mem_of_getElem? (i := 9) rfl))) (fun _ h9 => h9) hv368 dL_randomTable_368 ?_
                              refine lv_iload hx hb dL_randomTable_371 (lv_at hl 6 rfl) ?_
                              refine lv_aload_n hx hb dL_randomTable_373 rfl (lv_at hl 3 rfl) ?_
                              obtain ⟨wq374, fs374, g374, hq374, hv374, hm⟩ := hm
                              refine mr_get (ci := 10) (C := RX10) (T := TX10) (N := 17) hx hb hts hi_10 hown hK (mRd hK hP hZ hS) hq374 rfl 10 (by decide) (hts (.fieldLink RL 131 "HubTrainsLaw$Table" "hands" "[[I") ((List.mem_of_getElem? (i := 9) rfl))) (fun _ h9 => h9) hv374 dL_randomTable_374 ?_
                              refine lv_iload hx hb dL_randomTable_377 (lv_at hl 6 rfl) ?_
                              obtain ⟨wq379, n379, f379, x379, hq379, hi379, hv379, hm⟩ := hm
                              refine mr_aldq (ty := (.array .int)) hx hb hK (mRd hK hP hZ hS) 2 rfl hq379 rfl hi379 dL_randomTable_379 (fun o379 eo379 => ?_)
                              obtain rfl := eo379.trans hv379
                              refine lv_iload hx hb dL_randomTable_380 (lv_at hl 9 rfl) ?_
                              obtain ⟨m382, z382, mB382, zB382, hbm382, hbs382, hm⟩ := hm
                              refine hcSq (As := [.ref x379, .int x276]) (rest := [.int r230, .ref g368]) ⟨hx, hb, hml, hown, hts⟩ (h_L_with l G K c h_327 x379 x276 m382 z382 _ hm) (va_cwS 2 hts gL_randomTable_L_with rfl rfl rfl he_L_with ⟨Nat.le_of_ble_eq_true rfl, Nat.le_of_ble_eq_true rfl⟩) hK hN hZ hXX hP hD hS hA rfl hl.1 rfl (Nat.le_of_ble_eq_true rfl) dL_randomTable_382 ⟨by show cl_327 + m382 ≤ mc; omega, by show sl_327 + z382 ≤ ms; omega⟩ (fun r382 h382 H locs hm hP hD hS => ?_)
                              obtain ⟨a382, rfl, hm⟩ := hm
                              replace hf : (cl_327 + m382) + mB382 ≤ mc ∧ (sl_327 + z382) + zB382 ≤ ms := ⟨by omega, by omega⟩
                              clear hbm382 hbs382
                              obtain ⟨n385, f385, wq385, xx385, hq385, hi385, hv385, hm⟩ := hm
                              refine mr_aastA hx hb hXX.1.2 hK hP hZ hD hS 0 2 rfl rfl hq385 hv385 hi385 dL_randomTable_385 (fun H locs hP hD hS => ?_)
                              generalize hup h382 g368 (eQ (c 2) n385 (va_up f385 r230.toNatClampNeg (some a382))) = h385 at hm hP hD
                              refine lv_aload_n hx hb dL_randomTable_386 rfl (lv_at hl 0 rfl) ?_
                              refine lv_aload_n hx hb dL_randomTable_387 rfl (lv_at hl 1 rfl) ?_
                              refine va_ldcS hx hb hown (nws_HubTrainsLaw_169 hN.2.2) dL_randomTable_388 ?_
                              refine lv_iconst (v := 2) hx hb dL_randomTable_390 (by decide) ?_
                              obtain ⟨hn391, hb391, mB391, zB391, hc391, hs391, hm⟩ := hm
                              refine mr_newa (atype := .int) (a0 := (fun N => (N, .inl (fun _ => 0)))) hx hb (hts (.arrayClass .int) ((List.mem_of_getElem? (i := 8) rfl))) hK 0 rfl hP hD hS hA (fun _ => rfl) hn391 (c65 hb391 (by decide)) (by show (cl_327 + m382) + 1 ≤ mc; omega) (by show (sl_327 + z382) + _ ≤ ms; omega) dL_randomTable_391 (fun q391 H hfr391 hP hD hS => ?_)
                              replace hm := hm q391 hfr391
                              generalize hup h385 q391 (eI (c 0) (2 : Int32).toNatClampNeg (fun _ => 0)) = h391 at hm hP hD
                              replace hf : ((cl_327 + m382) + 1) + mB391 ≤ mc ∧ ((sl_327 + z382) + (2 : Int32).toNatClampNeg) + zB391 ≤ ms := ⟨by omega, by omega⟩
                              clear hc391 hs391 hb391
                              refine lv_dup hx hb dL_randomTable_393 rfl ?_
                              refine lv_iconst (v := 0) hx hb dL_randomTable_394 (by decide) ?_
                              refine lv_iload hx hb dL_randomTable_395 (lv_at hl 6 rfl) ?_
                              obtain ⟨n397, f397, hq397, hi397, hm⟩ := hm
                              refine mr_iast hx hb hK hP hD hS 0 hq397 rfl hi397 dL_randomTable_397 (fun H locs hP hD hS => ?_)
                              generalize hup h391 q391 (eI (c 0) n397 (upd f397 (0 : Int32).toNatClampNeg r230)) = h397 at hm hP hD
                              refine lv_dup hx hb dL_randomTable_398 rfl ?_
                              refine lv_iconst (v := 1) hx hb dL_randomTable_399 (by decide) ?_
                              refine lv_iload hx hb dL_randomTable_400 (lv_at hl 7 rfl) ?_
                              obtain ⟨n402, f402, hq402, hi402, hm⟩ := hm
                              refine mr_iast hx hb hK hP hD hS 0 hq402 rfl hi402 dL_randomTable_402 (fun H locs hP hD hS => ?_)
                              generalize hup h397 q391 (eI (c 0) n402 (upd f402 (1 : Int32).toNatClampNeg r242)) = h402 at hm hP hD
                              refine hcSv (As := [.ref a0, .ref a1, .ref (K.1 3), .ref q391]) (rest := []) ⟨hx, hb, hml, hown, hts⟩ (h_L_writeAll l G K c h402 a0 a1 (K.1 3) q391 _ hm) (va_cwS 4 hts gL_randomTable_L_writeAll rfl rfl rfl he_L_writeAll ⟨Nat.le_of_ble_eq_true rfl, Nat.le_of_ble_eq_true rfl⟩) hK hN hZ hXX hP hD hS hA rfl hl.1 rfl (Nat.le_of_ble_eq_true rfl) dL_randomTable_403 ⟨by show ((cl_327 + m382) + 1) + 0 ≤ mc; omega, by show ((sl_327 + z382) + (2 : Int32).toNatClampNeg) + 0 ≤ ms; omega⟩ (fun h403 H locs hm hP hD hS => ?_)
                              refine lv_aload_n hx hb dL_randomTable_406 rfl (lv_at hl 0 rfl) ?_
                              refine lv_aload_n hx hb dL_randomTable_407 rfl (lv_at hl 1 rfl) ?_
                              refine va_ldcS hx hb hown (nws_HubTrainsLaw_171 hN.2.2) dL_randomTable_408 ?_
                              refine hcSv (As := [.ref a0, .ref a1, .ref (K.1 12)]) (rest := []) ⟨hx, hb, hml, hown, hts⟩ (h_L_write l G K c h403 a0 a1 (K.1 12) _ hm) (va_cwS 3 hts gL_randomTable_L_write rfl rfl rfl he_L_write ⟨Nat.le_of_ble_eq_true rfl, Nat.le_of_ble_eq_true rfl⟩) hK hN hZ hXX hP hD hS hA rfl hl.1 rfl (Nat.le_of_ble_eq_true rfl) dL_randomTable_410 ⟨by show ((cl_327 + m382) + 1) + 0 ≤ mc; omega, by show ((sl_327 + z382) + (2 : Int32).toNatClampNeg) + 0 ≤ ms; omega⟩ (fun h410 H locs hm hP hD hS => ?_)
                              refine lv_aload_n hx hb dL_randomTable_413 rfl (lv_at hl 0 rfl) ?_
                              refine lv_aload_n hx hb dL_randomTable_414 rfl (lv_at hl 1 rfl) ?_
                              refine lv_iload hx hb dL_randomTable_415 (lv_at hl 8 rfl) ?_
                              refine hcSv (As := [.ref a0, .ref a1, .int r254]) (rest := []) ⟨hx, hb, hml, hown, hts⟩ (h_L_writeNumber l G K c h410 a0 a1 r254 _ hm) (va_cwS 3 hts gL_randomTable_L_writeNumber rfl rfl rfl he_L_writeNumber ⟨Nat.le_of_ble_eq_true rfl, Nat.le_of_ble_eq_true rfl⟩) hK hN hZ hXX hP hD hS hA rfl hl.1 rfl (Nat.le_of_ble_eq_true rfl) dL_randomTable_417 ⟨by show ((cl_327 + m382) + 1) + 0 ≤ mc; omega, by show ((sl_327 + z382) + (2 : Int32).toNatClampNeg) + 0 ≤ ms; omega⟩ (fun h417 H locs hm hP hD hS => ?_)
                              refine lv_aload_n hx hb dL_randomTable_420 rfl (lv_at hl 0 rfl) ?_
                              refine lv_aload_n hx hb dL_randomTable_421 rfl (lv_at hl 1 rfl) ?_
                              refine va_ldcS hx hb hown (nws_HubTrainsLaw_150 hN.2.2) dL_randomTable_422 ?_
                              refine hcSv (As := [.ref a0, .ref a1, .ref (K.1 11)]) (rest := []) ⟨hx, hb, hml, hown, hts⟩ (h_L_write l G K c h417 a0 a1 (K.1 11) _ hm) (va_cwS 3 hts gL_randomTable_L_write rfl rfl rfl he_L_write ⟨Nat.le_of_ble_eq_true rfl, Nat.le_of_ble_eq_true rfl⟩) hK hN hZ hXX hP hD hS hA rfl hl.1 rfl (Nat.le_of_ble_eq_true rfl) dL_randomTable_424 ⟨by show ((cl_327 + m382) + 1) + 0 ≤ mc; omega, by show ((sl_327 + z382) + (2 : Int32).toNatClampNeg) + 0 ≤ ms; omega⟩ (fun h424 H locs hm hP hD hS => ?_)
                              exact J_427 h424 mB391 zB391 ((cl_327 + m382) + 1) ((sl_327 + z382) + (2 : Int32).toNatClampNeg) H locs ls ⟨by omega, by omega⟩ hP hD hS (lv_sub hl [0, 1, 2, 3, 4, 5] rfl) hm
                            · replace hm := hm.2 c_361
                              refine lv_goto (tgt := 427) hx hb dL_randomTable_364 (by decide) ?_
                              exact J_427 h_327 mc_327 ms_327 cl_327 sl_327 H locs ls ⟨by omega, by omega⟩ hP hD hS (lv_sub hl [0, 1, 2, 3, 4, 5] rfl) hm
                          · replace hm := hm.2 c_331
                            refine lv_aload hx hb dL_randomTable_334 (lv_at hl 11 rfl) ?_
                            refine lv_iload hx hb dL_randomTable_336 (lv_at hl 13 rfl) ?_
                            obtain ⟨wq338, n338, f338, x338, hq338, hi338, hv338, hm⟩ := hm
                            refine mr_aldq (ty := (.array .int)) hx hb hK (mRd hK hP hZ hS) 2 rfl hq338 rfl hi338 dL_randomTable_338 (fun o338 eo338 => ?_)
                            obtain rfl := eo338.trans hv338
                            refine lv_astore (lv' := [(14, .ref x338), (0, .ref a0), (1, .ref a1), (2, .ref a2), (3, .ref q0), (4, .int x25), (5, .int v5_222), (6, .int r230), (7, .int r242), (8, .int r254), (9, .int x276), (10, .int v10_327), (11, .ref g314), (12, .int x321), (13, .int v13_327)]) hx hb dL_randomTable_339 hl (by decide) rfl (fun ls hl => ?_)
                            refine lv_iload hx hb dL_randomTable_341 (lv_at hl 11 rfl) ?_
                            refine lv_aload hx hb dL_randomTable_343 (lv_at hl 0 rfl) ?_
                            refine lv_iload hx hb dL_randomTable_345 (lv_at hl 10 rfl) ?_
                            refine hcSi (As := [.ref x338, .int x276]) (rest := [.int v10_327]) ⟨hx, hb, hml, hown, hts⟩ (h_L_has l G K c h_327 x338 x276 _ hm) (va_cwS 2 hts gL_randomTable_L_has rfl rfl rfl he_L_has ⟨Nat.le_of_ble_eq_true rfl, Nat.le_of_ble_eq_true rfl⟩) hK hN hZ hXX hP hD hS hA rfl hl.1 rfl (Nat.le_of_ble_eq_true rfl) dL_randomTable_347 ⟨by show cl_327 + 0 ≤ mc; omega, by show sl_327 + 0 ≤ ms; omega⟩ (fun r347 h347 H locs hm hP hD hS => ?_)
                            refine lv_ior hx hb dL_randomTable_350 ?_
                            refine lv_topi (fun x350 ex350 => ?_)
                            replace hm := hm x350 ex350
                            refine lv_istore (lv' := [(10, .int x350), (14, .ref x338), (0, .ref a0), (1, .ref a1), (2, .ref a2), (3, .ref q0), (4, .int x25), (5, .int v5_222), (6, .int r230), (7, .int r242), (8, .int r254), (9, .int x276), (11, .ref g314), (12, .int x321), (13, .int v13_327)]) hx hb dL_randomTable_351 hl (by decide) rfl (fun ls hl => ?_)
                            obtain ⟨x353, ex353⟩ : ∃ z : Int32, z = (v13_327 + 1) := ⟨_, rfl⟩
                            replace hm := hm x353 ex353
                            refine lv_iinc (k := 14) (v := x353) (lv' := [(13, .int x353), (10, .int x350), (14, .ref x338), (0, .ref a0), (1, .ref a1), (2, .ref a2), (3, .ref q0), (4, .int x25), (5, .int v5_222), (6, .int r230), (7, .int r242), (8, .int r254), (9, .int x276), (11, .ref g314), (12, .int x321)]) hx hb dL_randomTable_353 hl rfl ex353.symm (by decide) rfl (fun ls hl => ?_)
                            refine lv_goto (tgt := 327) hx hb dL_randomTable_356 (by decide) ?_
                            exact ih_327 h347 mc_327 ms_327 x350 x353 cl_327 sl_327 H locs ls ⟨by omega, by omega⟩ hP hD hS (lv_sub hl [3, 4, 5, 6, 7, 8, 9, 10, 11, 12, 1, 13, 14, 0] rfl) hm
                      exact L_327 n_327 h254 mc_311 ms_311 s0_311 (0 : Int32) cl_311 sl_311 H locs ls ⟨by omega, by omega⟩ hP hD hS (lv_sub hl [4, 5, 6, 7, 8, 9, 10, 11, 12, 13, 3, 2, 1, 0] rfl) hm
                    have J_306 : ∀ (mc_306 ms_306 : Nat) (cl_306 sl_306 : Nat) (H : Heap) (locs : List Loc) (ls : Array Slot), cl_306 + mc_306 ≤ mc ∧ sl_306 + ms_306 ≤ ms → mP G K h254 H → mD A h254 → va_S A s.heap H locs → lv_has ls 15 [(0, .ref a0), (1, .ref a1), (2, .ref a2), (3, .ref q0), (4, .int x25), (5, .int v5_222), (6, .int r230), (7, .int r242), (8, .int r254), (9, .int x276)] → w_L_randomTable_J306 c K a0 a1 q0 rec_222 v5_222 r230 r242 r254 h254 x276 mc_306 ms_306 → W p l e (rm_L_randomTable mc ms) s m args below meth c1 H locs cl_306 sl_306 Q (F0 m 306 ls []) := by
                      intro mc_306 ms_306 cl_306 sl_306 H locs ls hf hP hD hS hl hm
                      unfold w_L_randomTable_J306 at hm
                      refine lv_iconst (v := 1) hx hb dL_randomTable_306 (by decide) ?_
                      refine lv_goto (tgt := 311) hx hb dL_randomTable_307 (by decide) ?_
                      exact J_311 mc_306 ms_306 (1 : Int32) cl_306 sl_306 H locs ls ⟨by omega, by omega⟩ hP hD hS (lv_sub hl [0, 1, 2, 3, 4, 5, 6, 7, 8, 9] rfl) hm
                    refine lv_icmp_eq (tgt := 306) hx hb dL_randomTable_288 (by decide) (fun c_288 => ?_) (fun c_288 => ?_)
                    · replace hm := hm.1 c_288
                      exact J_306 mc_222 ms_222 cl_222 sl_222 H locs ls ⟨by omega, by omega⟩ hP hD hS (lv_sub hl [4, 5, 6, 7, 8, 9, 3, 2, 1, 0] rfl) hm
                    · replace hm := hm.2 c_288
                      refine lv_aload_n hx hb dL_randomTable_291 rfl (lv_at hl 7 rfl) ?_
                      obtain ⟨wq292, fs292, g292, hq292, hv292, hm⟩ := hm
                      refine mr_get (ci := 10) (C := RX10) (T := TX10) (N := 17) hx hb hts hi_10 hown hK (mRd hK hP hZ hS) hq292 rfl 10 (by decide) (hts (.fieldLink RL 131 "HubTrainsLaw$Table" "hands" "[[I") ((List.mem_of_getElem? (i := 9) rfl))) (fun _ h9 => h9) hv292 dL_randomTable_292 ?_
                      refine lv_iload hx hb dL_randomTable_295 (lv_at hl 3 rfl) ?_
                      obtain ⟨wq297, n297, f297, x297, hq297, hi297, hv297, hm⟩ := hm
                      refine mr_aldq (ty := (.array .int)) hx hb hK (mRd hK hP hZ hS) 2 rfl hq297 rfl hi297 dL_randomTable_297 (fun o297 eo297 => ?_)
                      obtain rfl := eo297.trans hv297
                      obtain ⟨wq298, xx298, hq298, hm⟩ := hm
                      refine mr_alen hx hb hK (mRd hK hP hZ hS) 0 hq298 rfl dL_randomTable_298 (fun x298 ex298 => ?_)
                      replace hm := hm x298 ex298
                      refine lv_aload_n hx hb dL_randomTable_299 rfl (lv_at hl 7 rfl) ?_
                      obtain ⟨wq300, fs300, g300, hq300, hv300, hm⟩ := hm
                      refine mr_get (ci := 10) (C := RX10) (T := TX10) (N := 17) hx hb hts hi_10 hown hK (mRd hK hP hZ hS) hq300 rfl 1 (by decide) (hts (.fieldLink RL 123 "HubTrainsLaw$Table" "handSize" "I") ((List.mem_of_getElem? (i := 5) rfl))) (fun _ h9 => h9) hv300 dL_randomTable_300 ?_
                      refine lv_icmp_ne (tgt := 310) hx hb dL_randomTable_303 (by decide) (fun c_303 => ?_) (fun c_303 => ?_)
                      · replace hm := hm.2 c_303
                        refine lv_iconst (v := 0) hx hb dL_randomTable_310 (by decide) ?_
                        exact J_311 mc_222 ms_222 (0 : Int32) cl_222 sl_222 H locs ls ⟨by omega, by omega⟩ hP hD hS (lv_sub hl [4, 5, 6, 7, 8, 9, 3, 2, 1, 0] rfl) hm
                      · replace hm := hm.1 c_303
                        exact J_306 mc_222 ms_222 cl_222 sl_222 H locs ls ⟨by omega, by omega⟩ hP hD hS (lv_sub hl [4, 5, 6, 7, 8, 9, 3, 2, 1, 0] rfl) hm
              exact L_222 n_222 h217 mc_215 ms_215 r217 cl_215 sl_215 H locs ls ⟨by omega, by omega⟩ hP hD hS (lv_sub hl [1, 2, 3, 4, 5, 0] rfl) hm

set_option maxHeartbeats 4000000 in
set_option maxRecDepth 100000 in
theorem hj_L_randomTable_J172 {p : Program} {l : Launch} (hl0 : l.stackTraces = false) {e : Env} {s : State} {m : MethodId} {args : Array Value} {below : List Frame} {meth : Method} {c1 : Code} {A : Nat → Prop} {Q : State → Prop} {G : va_G} {K : (Nat → Nat) × (Nat → Nat)} {c : Nat → ClassId} {mc ms : Nat} {post : Option Nat → HW → Prop} (hx : p.tables.exec = Jvm.exec) (hb : c1.code = cL_randomTable) (hml : c1.maxLocals = 15) (hown : s.vm.findClass RL = some m.cls) (hmn : meth.name = yL_randomTable.name) (hts : ∀ w ∈ wsL_randomTable, w.before args s = true) (hK : va_K G vwCl (TY c) s) (hN : NW K s) (hZ : ZE K A s s.heap) (hXX : XX s) (hA : ∀ q : Nat, s.heap.size ≤ q → A q) (hend : ∀ (H : Heap) (locs : List Loc) (ls : Array Slot) (pc cells slots : Nat) (v : Option Nat) (h1 : HW), cells ≤ mc → slots ≤ ms → post v h1 → mP G K h1 H → mD A h1 → va_S A s.heap H locs → decode cL_randomTable pc = .ok (.areturn, 1) → W p l e (rm_L_randomTable mc ms) s m args below meth c1 H locs cells slots Q (F0 m pc ls [va_rf v])) (a0 : Nat) (a1 : Nat) (a2 : Nat) (q0 : Nat) (x25 : Int32) : ∀ (h_172 : HW) (mc_172 ms_172 : Nat) (cl_172 sl_172 : Nat) (H : Heap) (locs : List Loc) (ls : Array Slot), cl_172 + mc_172 ≤ mc ∧ sl_172 + ms_172 ≤ ms → mP G K h_172 H → mD A h_172 → va_S A s.heap H locs → lv_has ls 15 [(0, .ref a0), (1, .ref a1), (2, .ref a2), (3, .ref q0), (4, .int x25)] → w_L_randomTable_J172 c K a0 a1 a2 post q0 x25 h_172 mc_172 ms_172 → W p l e (rm_L_randomTable mc ms) s m args below meth c1 H locs cl_172 sl_172 Q (F0 m 172 ls []) := by
            have hi_10 : ∀ w ∈ u_ws RX10 TX10 17, w ∈ wsL_randomTable := fun w h => (fun w h => List.mem_cons_of_mem _ (List.mem_append_left _ (List.mem_append_left _ (List.mem_append_left _ (List.mem_append_left _ (List.mem_append_left _ (List.mem_append_left _ (List.mem_append_left _ (List.mem_append_left _ (List.mem_append_left _ (List.mem_append_left _ (List.mem_append_left _ (List.mem_append_left _ (List.mem_append_right _ (h))))))))))))))) w h
            intro h_172 mc_172 ms_172 cl_172 sl_172 H locs ls hf hP hD hS hl hm
            unfold w_L_randomTable_J172 at hm
            refine lv_aload_n hx hb dL_randomTable_172 rfl (lv_at hl 2 rfl) ?_
            refine lv_iconst (v := 3) hx hb dL_randomTable_173 (by decide) ?_
            obtain ⟨⟨wr174, fr174, hrq174⟩, hm⟩ := hm
            refine hcVi (As := [.int (3 : Int32)]) (rest := []) ⟨hx, hb, hml, hown, hts⟩ (h_X9_below l G K c h_172 a2 (3 : Int32) _ hm) (cwV 1 hts gL_randomTable_X9_below rfl rfl rfl (heV_X9_below) ⟨Nat.le_of_ble_eq_true rfl, Nat.le_of_ble_eq_true rfl⟩) hK hN hZ hXX hP hD hS hA (mr_recv hK (mRd hK hP hZ hS) (ci := 9) rfl hrq174) rfl hl.1 rfl (Nat.le_of_ble_eq_true rfl) dL_randomTable_174 ⟨by show cl_172 + 0 ≤ mc; omega, by show sl_172 + 0 ≤ ms; omega⟩ (fun r174 h174 H locs hm hP hD hS => ?_)
            have J_215 := hj_L_randomTable_J215 hl0 hx hb hml hown hmn hts hK hN hZ hXX hA hend a0 a1 a2 q0 x25
            refine lv_if_le (tgt := 215) hx hb dL_randomTable_177 (by decide) (fun c_177 => ?_) (fun c_177 => ?_)
            · replace hm := hm.1 c_177
              exact J_215 h174 mc_172 ms_172 cl_172 sl_172 H locs ls ⟨by omega, by omega⟩ hP hD hS (lv_sub hl [0, 1, 2, 3, 4] rfl) hm
            · replace hm := hm.2 c_177
              refine lv_aload_n hx hb dL_randomTable_180 rfl (lv_at hl 3 rfl) ?_
              refine lv_aload_n hx hb dL_randomTable_181 rfl (lv_at hl 2 rfl) ?_
              refine lv_sipush (v := 10000) hx hb dL_randomTable_182 (by decide) ?_
              obtain ⟨⟨wr185, fr185, hrq185⟩, hm⟩ := hm
              refine hcVi (As := [.int (10000 : Int32)]) (rest := [.ref q0]) ⟨hx, hb, hml, hown, hts⟩ (h_X9_below l G K c h174 a2 (10000 : Int32) _ hm) (cwV 1 hts gL_randomTable_X9_below rfl rfl rfl (heV_X9_below) ⟨Nat.le_of_ble_eq_true rfl, Nat.le_of_ble_eq_true rfl⟩) hK hN hZ hXX hP hD hS hA (mr_recv hK (mRd hK hP hZ hS) (ci := 9) rfl hrq185) rfl hl.1 rfl (Nat.le_of_ble_eq_true rfl) dL_randomTable_185 ⟨by show cl_172 + 0 ≤ mc; omega, by show sl_172 + 0 ≤ ms; omega⟩ (fun r185 h185 H locs hm hP hD hS => ?_)
              obtain ⟨fs188, hq188, hl188, hm⟩ := hm
              refine mr_put (v := .int r185) (ci := 10) (C := RX10) (T := TX10) (N := 17) hx hb hts hi_10 tyX10 (fun k hk => tyX10_ok k (Nat.lt_of_lt_of_le hk (by decide))) (fun a ha b hb => nmX10 a (Nat.lt_of_lt_of_le ha (by decide)) b (Nat.lt_of_lt_of_le hb (by decide))) hown hK hP hD hS hq188 rfl 3 (by decide) (hts (.fieldLink RL 153 "HubTrainsLaw$Table" "seed" "I") ((List.mem_of_getElem? (i := 14) rfl))) (fun _ h9 => h9) rfl (tyX10_ok 3 (by decide)) rfl rfl hl188 dL_randomTable_188 (fun H locs hP hD hS => ?_)
              generalize hup h185 q0 (.inr (10, fs188.set 3 (.int r185))) = h188 at hm hP hD
              refine lv_aload_n hx hb dL_randomTable_191 rfl (lv_at hl 0 rfl) ?_
              refine lv_aload_n hx hb dL_randomTable_192 rfl (lv_at hl 1 rfl) ?_
              refine va_ldcS hx hb hown (nws_HubTrainsLaw_156 hN.2.2) dL_randomTable_193 ?_
              refine lv_iconst (v := 1) hx hb dL_randomTable_195 (by decide) ?_
              obtain ⟨hn196, hb196, mB196, zB196, hc196, hs196, hm⟩ := hm
              refine mr_newa (atype := .int) (a0 := (fun N => (N, .inl (fun _ => 0)))) hx hb (hts (.arrayClass .int) ((List.mem_of_getElem? (i := 8) rfl))) hK 0 rfl hP hD hS hA (fun _ => rfl) hn196 (c65 hb196 (by decide)) (by show cl_172 + 1 ≤ mc; omega) (by show sl_172 + _ ≤ ms; omega) dL_randomTable_196 (fun q196 H hfr196 hP hD hS => ?_)
              replace hm := hm q196 hfr196
              generalize hup h188 q196 (eI (c 0) (1 : Int32).toNatClampNeg (fun _ => 0)) = h196 at hm hP hD
              replace hf : (cl_172 + 1) + mB196 ≤ mc ∧ (sl_172 + (1 : Int32).toNatClampNeg) + zB196 ≤ ms := ⟨by omega, by omega⟩
              clear hc196 hs196 hb196
              refine lv_dup hx hb dL_randomTable_198 rfl ?_
              refine lv_iconst (v := 0) hx hb dL_randomTable_199 (by decide) ?_
              refine lv_aload_n hx hb dL_randomTable_200 rfl (lv_at hl 3 rfl) ?_
              obtain ⟨wq201, fs201, g201, hq201, hv201, hm⟩ := hm
              refine mr_get (ci := 10) (C := RX10) (T := TX10) (N := 17) hx hb hts hi_10 hown hK (mRd hK hP hZ hS) hq201 rfl 3 (by decide) (hts (.fieldLink RL 153 "HubTrainsLaw$Table" "seed" "I") ((List.mem_of_getElem? (i := 14) rfl))) (fun _ h9 => h9) hv201 dL_randomTable_201 ?_
              obtain ⟨n204, f204, hq204, hi204, hm⟩ := hm
              refine mr_iast hx hb hK hP hD hS 0 hq204 rfl hi204 dL_randomTable_204 (fun H locs hP hD hS => ?_)
              generalize hup h196 q196 (eI (c 0) n204 (upd f204 (0 : Int32).toNatClampNeg g201)) = h204 at hm hP hD
              refine hcSv (As := [.ref a0, .ref a1, .ref (K.1 2), .ref q196]) (rest := []) ⟨hx, hb, hml, hown, hts⟩ (h_L_writeAll l G K c h204 a0 a1 (K.1 2) q196 _ hm) (va_cwS 4 hts gL_randomTable_L_writeAll rfl rfl rfl he_L_writeAll ⟨Nat.le_of_ble_eq_true rfl, Nat.le_of_ble_eq_true rfl⟩) hK hN hZ hXX hP hD hS hA rfl hl.1 rfl (Nat.le_of_ble_eq_true rfl) dL_randomTable_205 ⟨by show (cl_172 + 1) + 0 ≤ mc; omega, by show (sl_172 + (1 : Int32).toNatClampNeg) + 0 ≤ ms; omega⟩ (fun h205 H locs hm hP hD hS => ?_)
              refine lv_aload_n hx hb dL_randomTable_208 rfl (lv_at hl 0 rfl) ?_
              refine lv_aload_n hx hb dL_randomTable_209 rfl (lv_at hl 1 rfl) ?_
              refine va_ldcS hx hb hown (nws_HubTrainsLaw_150 hN.2.2) dL_randomTable_210 ?_
              refine hcSv (As := [.ref a0, .ref a1, .ref (K.1 11)]) (rest := []) ⟨hx, hb, hml, hown, hts⟩ (h_L_write l G K c h205 a0 a1 (K.1 11) _ hm) (va_cwS 3 hts gL_randomTable_L_write rfl rfl rfl he_L_write ⟨Nat.le_of_ble_eq_true rfl, Nat.le_of_ble_eq_true rfl⟩) hK hN hZ hXX hP hD hS hA rfl hl.1 rfl (Nat.le_of_ble_eq_true rfl) dL_randomTable_212 ⟨by show (cl_172 + 1) + 0 ≤ mc; omega, by show (sl_172 + (1 : Int32).toNatClampNeg) + 0 ≤ ms; omega⟩ (fun h212 H locs hm hP hD hS => ?_)
              exact J_215 h212 mB196 zB196 (cl_172 + 1) (sl_172 + (1 : Int32).toNatClampNeg) H locs ls ⟨by omega, by omega⟩ hP hD hS (lv_sub hl [0, 1, 2, 3, 4] rfl) hm

set_option maxHeartbeats 4000000 in
set_option maxRecDepth 100000 in
theorem hj_L_randomTable_J123 {p : Program} {l : Launch} (hl0 : l.stackTraces = false) {e : Env} {s : State} {m : MethodId} {args : Array Value} {below : List Frame} {meth : Method} {c1 : Code} {A : Nat → Prop} {Q : State → Prop} {G : va_G} {K : (Nat → Nat) × (Nat → Nat)} {c : Nat → ClassId} {mc ms : Nat} {post : Option Nat → HW → Prop} (hx : p.tables.exec = Jvm.exec) (hb : c1.code = cL_randomTable) (hml : c1.maxLocals = 15) (hown : s.vm.findClass RL = some m.cls) (hmn : meth.name = yL_randomTable.name) (hts : ∀ w ∈ wsL_randomTable, w.before args s = true) (hK : va_K G vwCl (TY c) s) (hN : NW K s) (hZ : ZE K A s s.heap) (hXX : XX s) (hA : ∀ q : Nat, s.heap.size ≤ q → A q) (hend : ∀ (H : Heap) (locs : List Loc) (ls : Array Slot) (pc cells slots : Nat) (v : Option Nat) (h1 : HW), cells ≤ mc → slots ≤ ms → post v h1 → mP G K h1 H → mD A h1 → va_S A s.heap H locs → decode cL_randomTable pc = .ok (.areturn, 1) → W p l e (rm_L_randomTable mc ms) s m args below meth c1 H locs cells slots Q (F0 m pc ls [va_rf v])) (a0 : Nat) (a1 : Nat) (a2 : Nat) (q0 : Nat) (x25 : Int32) (h116 : HW) : ∀ (mc_123 ms_123 : Nat) (s0_123 : Nat) (s1_123 : Nat) (s2_123 : Nat) (cl_123 sl_123 : Nat) (H : Heap) (locs : List Loc) (ls : Array Slot), cl_123 + mc_123 ≤ mc ∧ sl_123 + ms_123 ≤ ms → mP G K h116 H → mD A h116 → va_S A s.heap H locs → lv_has ls 15 [(0, .ref a0), (1, .ref a1), (2, .ref a2), (3, .ref q0), (4, .int x25)] → w_L_randomTable_J123 c K a0 a1 a2 post q0 x25 h116 mc_123 ms_123 s0_123 s1_123 s2_123 → W p l e (rm_L_randomTable mc ms) s m args below meth c1 H locs cl_123 sl_123 Q (F0 m 123 ls [.ref s0_123, .ref s1_123, .ref s2_123]) := by
          have hi_10 : ∀ w ∈ u_ws RX10 TX10 17, w ∈ wsL_randomTable := fun w h => (fun w h => List.mem_cons_of_mem _ (List.mem_append_left _ (List.mem_append_left _ (List.mem_append_left _ (List.mem_append_left _ (List.mem_append_left _ (List.mem_append_left _ (List.mem_append_left _ (List.mem_append_left _ (List.mem_append_left _ (List.mem_append_left _ (List.mem_append_left _ (List.mem_append_left _ (List.mem_append_right _ (h))))))))))))))) w h
          intro mc_123 ms_123 s0_123 s1_123 s2_123 cl_123 sl_123 H locs ls hf hP hD hS hl hm
          unfold w_L_randomTable_J123 at hm
          refine hcSv (As := [.ref s2_123, .ref s1_123, .ref s0_123]) (rest := []) ⟨hx, hb, hml, hown, hts⟩ (h_L_write l G K c h116 s2_123 s1_123 s0_123 _ hm) (va_cwS 3 hts gL_randomTable_L_write rfl rfl rfl he_L_write ⟨Nat.le_of_ble_eq_true rfl, Nat.le_of_ble_eq_true rfl⟩) hK hN hZ hXX hP hD hS hA rfl hl.1 rfl (Nat.le_of_ble_eq_true rfl) dL_randomTable_123 ⟨by show cl_123 + 0 ≤ mc; omega, by show sl_123 + 0 ≤ ms; omega⟩ (fun h123 H locs hm hP hD hS => ?_)
          refine lv_aload_n hx hb dL_randomTable_126 rfl (lv_at hl 2 rfl) ?_
          refine lv_iconst (v := 2) hx hb dL_randomTable_127 (by decide) ?_
          obtain ⟨⟨wr128, fr128, hrq128⟩, hm⟩ := hm
          refine hcVi (As := [.int (2 : Int32)]) (rest := []) ⟨hx, hb, hml, hown, hts⟩ (h_X9_below l G K c h123 a2 (2 : Int32) _ hm) (cwV 1 hts gL_randomTable_X9_below rfl rfl rfl (heV_X9_below) ⟨Nat.le_of_ble_eq_true rfl, Nat.le_of_ble_eq_true rfl⟩) hK hN hZ hXX hP hD hS hA (mr_recv hK (mRd hK hP hZ hS) (ci := 9) rfl hrq128) rfl hl.1 rfl (Nat.le_of_ble_eq_true rfl) dL_randomTable_128 ⟨by show cl_123 + 0 ≤ mc; omega, by show sl_123 + 0 ≤ ms; omega⟩ (fun r128 h128 H locs hm hP hD hS => ?_)
          have J_172 := hj_L_randomTable_J172 hl0 hx hb hml hown hmn hts hK hN hZ hXX hA hend a0 a1 a2 q0 x25
          refine lv_if_ne (tgt := 172) hx hb dL_randomTable_131 (by decide) (fun c_131 => ?_) (fun c_131 => ?_)
          · replace hm := hm.2 c_131
            exact J_172 h128 mc_123 ms_123 cl_123 sl_123 H locs ls ⟨by omega, by omega⟩ hP hD hS (lv_sub hl [0, 1, 2, 3, 4] rfl) hm
          · replace hm := hm.1 c_131
            refine lv_aload_n hx hb dL_randomTable_134 rfl (lv_at hl 3 rfl) ?_
            refine lv_aload_n hx hb dL_randomTable_135 rfl (lv_at hl 2 rfl) ?_
            refine lv_aload_n hx hb dL_randomTable_136 rfl (lv_at hl 3 rfl) ?_
            obtain ⟨wq137, fs137, g137, hq137, hv137, hm⟩ := hm
            refine mr_get (ci := 10) (C := RX10) (T := TX10) (N := 17) hx hb hts hi_10 hown hK (mRd hK hP hZ hS) hq137 rfl 0 (by decide) (hts (.fieldLink RL 119 "HubTrainsLaw$Table" "most" "I") ((List.mem_of_getElem? (i := 4) rfl))) (fun _ h9 => h9) hv137 dL_randomTable_137 ?_
            refine lv_iconst (v := 1) hx hb dL_randomTable_140 (by decide) ?_
            refine lv_iadd hx hb dL_randomTable_141 ?_
            refine lv_topi (fun x141 ex141 => ?_)
            replace hm := hm x141 ex141
            obtain ⟨⟨wr142, fr142, hrq142⟩, hm⟩ := hm
            refine hcVi (As := [.int x141]) (rest := [.ref q0]) ⟨hx, hb, hml, hown, hts⟩ (h_X9_below l G K c h128 a2 x141 _ hm) (cwV 1 hts gL_randomTable_X9_below rfl rfl rfl (heV_X9_below) ⟨Nat.le_of_ble_eq_true rfl, Nat.le_of_ble_eq_true rfl⟩) hK hN hZ hXX hP hD hS hA (mr_recv hK (mRd hK hP hZ hS) (ci := 9) rfl hrq142) rfl hl.1 rfl (Nat.le_of_ble_eq_true rfl) dL_randomTable_142 ⟨by show cl_123 + 0 ≤ mc; omega, by show sl_123 + 0 ≤ ms; omega⟩ (fun r142 h142 H locs hm hP hD hS => ?_)
            obtain ⟨fs145, hq145, hl145, hm⟩ := hm
            refine mr_put (v := .int r142) (ci := 10) (C := RX10) (T := TX10) (N := 17) hx hb hts hi_10 tyX10 (fun k hk => tyX10_ok k (Nat.lt_of_lt_of_le hk (by decide))) (fun a ha b hb => nmX10 a (Nat.lt_of_lt_of_le ha (by decide)) b (Nat.lt_of_lt_of_le hb (by decide))) hown hK hP hD hS hq145 rfl 2 (by decide) (hts (.fieldLink RL 126 "HubTrainsLaw$Table" "hub" "I") ((List.mem_of_getElem? (i := 6) rfl))) (fun _ h9 => h9) rfl (tyX10_ok 2 (by decide)) rfl rfl hl145 dL_randomTable_145 (fun H locs hP hD hS => ?_)
            generalize hup h142 q0 (.inr (10, fs145.set 2 (.int r142))) = h145 at hm hP hD
            refine lv_aload_n hx hb dL_randomTable_148 rfl (lv_at hl 0 rfl) ?_
            refine lv_aload_n hx hb dL_randomTable_149 rfl (lv_at hl 1 rfl) ?_
            refine va_ldcS hx hb hown (nws_HubTrainsLaw_152 hN.2.2) dL_randomTable_150 ?_
            refine lv_iconst (v := 1) hx hb dL_randomTable_152 (by decide) ?_
            obtain ⟨hn153, hb153, mB153, zB153, hc153, hs153, hm⟩ := hm
            refine mr_newa (atype := .int) (a0 := (fun N => (N, .inl (fun _ => 0)))) hx hb (hts (.arrayClass .int) ((List.mem_of_getElem? (i := 8) rfl))) hK 0 rfl hP hD hS hA (fun _ => rfl) hn153 (c65 hb153 (by decide)) (by show cl_123 + 1 ≤ mc; omega) (by show sl_123 + _ ≤ ms; omega) dL_randomTable_153 (fun q153 H hfr153 hP hD hS => ?_)
            replace hm := hm q153 hfr153
            generalize hup h145 q153 (eI (c 0) (1 : Int32).toNatClampNeg (fun _ => 0)) = h153 at hm hP hD
            replace hf : (cl_123 + 1) + mB153 ≤ mc ∧ (sl_123 + (1 : Int32).toNatClampNeg) + zB153 ≤ ms := ⟨by omega, by omega⟩
            clear hc153 hs153 hb153
            refine lv_dup hx hb dL_randomTable_155 rfl ?_
            refine lv_iconst (v := 0) hx hb dL_randomTable_156 (by decide) ?_
            refine lv_aload_n hx hb dL_randomTable_157 rfl (lv_at hl 3 rfl) ?_
            obtain ⟨wq158, fs158, g158, hq158, hv158, hm⟩ := hm
            refine mr_get (ci := 10) (C := RX10) (T := TX10) (N := 17) hx hb hts hi_10 hown hK (mRd hK hP hZ hS) hq158 rfl 2 (by decide) (hts (.fieldLink RL 126 "HubTrainsLaw$Table" "hub" "I") ((List.mem_of_getElem? (i := 6) rfl))) (fun _ h9 => h9) hv158 dL_randomTable_158 ?_
            obtain ⟨n161, f161, hq161, hi161, hm⟩ := hm
            refine mr_iast hx hb hK hP hD hS 0 hq161 rfl hi161 dL_randomTable_161 (fun H locs hP hD hS => ?_)
            generalize hup h153 q153 (eI (c 0) n161 (upd f161 (0 : Int32).toNatClampNeg g158)) = h161 at hm hP hD
            refine hcSv (As := [.ref a0, .ref a1, .ref (K.1 1), .ref q153]) (rest := []) ⟨hx, hb, hml, hown, hts⟩ (h_L_writeAll l G K c h161 a0 a1 (K.1 1) q153 _ hm) (va_cwS 4 hts gL_randomTable_L_writeAll rfl rfl rfl he_L_writeAll ⟨Nat.le_of_ble_eq_true rfl, Nat.le_of_ble_eq_true rfl⟩) hK hN hZ hXX hP hD hS hA rfl hl.1 rfl (Nat.le_of_ble_eq_true rfl) dL_randomTable_162 ⟨by show (cl_123 + 1) + 0 ≤ mc; omega, by show (sl_123 + (1 : Int32).toNatClampNeg) + 0 ≤ ms; omega⟩ (fun h162 H locs hm hP hD hS => ?_)
            refine lv_aload_n hx hb dL_randomTable_165 rfl (lv_at hl 0 rfl) ?_
            refine lv_aload_n hx hb dL_randomTable_166 rfl (lv_at hl 1 rfl) ?_
            refine va_ldcS hx hb hown (nws_HubTrainsLaw_150 hN.2.2) dL_randomTable_167 ?_
            refine hcSv (As := [.ref a0, .ref a1, .ref (K.1 11)]) (rest := []) ⟨hx, hb, hml, hown, hts⟩ (h_L_write l G K c h162 a0 a1 (K.1 11) _ hm) (va_cwS 3 hts gL_randomTable_L_write rfl rfl rfl he_L_write ⟨Nat.le_of_ble_eq_true rfl, Nat.le_of_ble_eq_true rfl⟩) hK hN hZ hXX hP hD hS hA rfl hl.1 rfl (Nat.le_of_ble_eq_true rfl) dL_randomTable_169 ⟨by show (cl_123 + 1) + 0 ≤ mc; omega, by show (sl_123 + (1 : Int32).toNatClampNeg) + 0 ≤ ms; omega⟩ (fun h169 H locs hm hP hD hS => ?_)
            exact J_172 h169 mB153 zB153 (cl_123 + 1) (sl_123 + (1 : Int32).toNatClampNeg) H locs ls ⟨by omega, by omega⟩ hP hD hS (lv_sub hl [0, 1, 2, 3, 4] rfl) hm

set_option maxHeartbeats 4000000 in
set_option maxRecDepth 100000 in
theorem hj_L_randomTable_J95 {p : Program} {l : Launch} (hl0 : l.stackTraces = false) {e : Env} {s : State} {m : MethodId} {args : Array Value} {below : List Frame} {meth : Method} {c1 : Code} {A : Nat → Prop} {Q : State → Prop} {G : va_G} {K : (Nat → Nat) × (Nat → Nat)} {c : Nat → ClassId} {mc ms : Nat} {post : Option Nat → HW → Prop} (hx : p.tables.exec = Jvm.exec) (hb : c1.code = cL_randomTable) (hml : c1.maxLocals = 15) (hown : s.vm.findClass RL = some m.cls) (hmn : meth.name = yL_randomTable.name) (hts : ∀ w ∈ wsL_randomTable, w.before args s = true) (hK : va_K G vwCl (TY c) s) (hN : NW K s) (hZ : ZE K A s s.heap) (hXX : XX s) (hA : ∀ q : Nat, s.heap.size ≤ q → A q) (hend : ∀ (H : Heap) (locs : List Loc) (ls : Array Slot) (pc cells slots : Nat) (v : Option Nat) (h1 : HW), cells ≤ mc → slots ≤ ms → post v h1 → mP G K h1 H → mD A h1 → va_S A s.heap H locs → decode cL_randomTable pc = .ok (.areturn, 1) → W p l e (rm_L_randomTable mc ms) s m args below meth c1 H locs cells slots Q (F0 m pc ls [va_rf v])) (a0 : Nat) (a1 : Nat) (a2 : Nat) (q0 : Nat) (x25 : Int32) (h87 : HW) : ∀ (mc_95 ms_95 : Nat) (s0_95 : Int32) (s1_95 : Nat) (s2_95 : Nat) (s3_95 : Nat) (cl_95 sl_95 : Nat) (H : Heap) (locs : List Loc) (ls : Array Slot), cl_95 + mc_95 ≤ mc ∧ sl_95 + ms_95 ≤ ms → mP G K h87 H → mD A h87 → va_S A s.heap H locs → lv_has ls 15 [(0, .ref a0), (1, .ref a1), (2, .ref a2), (3, .ref q0), (4, .int x25)] → w_L_randomTable_J95 c K a0 a1 a2 post q0 x25 h87 mc_95 ms_95 s0_95 s1_95 s2_95 s3_95 → W p l e (rm_L_randomTable mc ms) s m args below meth c1 H locs cl_95 sl_95 Q (F0 m 95 ls [.int s0_95, .ref s1_95, .ref s2_95, .ref s3_95]) := by
        have hi_10 : ∀ w ∈ u_ws RX10 TX10 17, w ∈ wsL_randomTable := fun w h => (fun w h => List.mem_cons_of_mem _ (List.mem_append_left _ (List.mem_append_left _ (List.mem_append_left _ (List.mem_append_left _ (List.mem_append_left _ (List.mem_append_left _ (List.mem_append_left _ (List.mem_append_left _ (List.mem_append_left _ (List.mem_append_left _ (List.mem_append_left _ (List.mem_append_left _ (List.mem_append_right _ (h))))))))))))))) w h
        intro mc_95 ms_95 s0_95 s1_95 s2_95 s3_95 cl_95 sl_95 H locs ls hf hP hD hS hl hm
        unfold w_L_randomTable_J95 at hm
        obtain ⟨hn95, hb95, mB95, zB95, hc95, hs95, hm⟩ := hm
        refine mr_newa (atype := .int) (a0 := (fun N => (N, .inl (fun _ => 0)))) hx hb (hts (.arrayClass .int) ((List.mem_of_getElem? (i := 8) rfl))) hK 0 rfl hP hD hS hA (fun _ => rfl) hn95 (c65 hb95 (by decide)) (by show cl_95 + 1 ≤ mc; omega) (by show sl_95 + _ ≤ ms; omega) dL_randomTable_95 (fun q95 H hfr95 hP hD hS => ?_)
        replace hm := hm q95 hfr95
        generalize hup h87 q95 (eI (c 0) s0_95.toNatClampNeg (fun _ => 0)) = h95 at hm hP hD
        replace hf : (cl_95 + 1) + mB95 ≤ mc ∧ (sl_95 + s0_95.toNatClampNeg) + zB95 ≤ ms := ⟨by omega, by omega⟩
        clear hc95 hs95 hb95
        refine lv_dup hx hb dL_randomTable_97 rfl ?_
        refine lv_iconst (v := 0) hx hb dL_randomTable_98 (by decide) ?_
        refine lv_aload_n hx hb dL_randomTable_99 rfl (lv_at hl 3 rfl) ?_
        obtain ⟨wq100, fs100, g100, hq100, hv100, hm⟩ := hm
        refine mr_get (ci := 10) (C := RX10) (T := TX10) (N := 17) hx hb hts hi_10 hown hK (mRd hK hP hZ hS) hq100 rfl 0 (by decide) (hts (.fieldLink RL 119 "HubTrainsLaw$Table" "most" "I") ((List.mem_of_getElem? (i := 4) rfl))) (fun _ h9 => h9) hv100 dL_randomTable_100 ?_
        obtain ⟨n103, f103, hq103, hi103, hm⟩ := hm
        refine mr_iast hx hb hK hP hD hS 0 hq103 rfl hi103 dL_randomTable_103 (fun H locs hP hD hS => ?_)
        generalize hup h95 q95 (eI (c 0) n103 (upd f103 (0 : Int32).toNatClampNeg g100)) = h103 at hm hP hD
        refine lv_dup hx hb dL_randomTable_104 rfl ?_
        refine lv_iconst (v := 1) hx hb dL_randomTable_105 (by decide) ?_
        refine lv_iload hx hb dL_randomTable_106 (lv_at hl 4 rfl) ?_
        obtain ⟨n108, f108, hq108, hi108, hm⟩ := hm
        refine mr_iast hx hb hK hP hD hS 0 hq108 rfl hi108 dL_randomTable_108 (fun H locs hP hD hS => ?_)
        generalize hup h103 q95 (eI (c 0) n108 (upd f108 (1 : Int32).toNatClampNeg x25)) = h108 at hm hP hD
        refine lv_dup hx hb dL_randomTable_109 rfl ?_
        refine lv_iconst (v := 2) hx hb dL_randomTable_110 (by decide) ?_
        refine lv_aload_n hx hb dL_randomTable_111 rfl (lv_at hl 3 rfl) ?_
        obtain ⟨wq112, fs112, g112, hq112, hv112, hm⟩ := hm
        refine mr_get (ci := 10) (C := RX10) (T := TX10) (N := 17) hx hb hts hi_10 hown hK (mRd hK hP hZ hS) hq112 rfl 1 (by decide) (hts (.fieldLink RL 123 "HubTrainsLaw$Table" "handSize" "I") ((List.mem_of_getElem? (i := 5) rfl))) (fun _ h9 => h9) hv112 dL_randomTable_112 ?_
        obtain ⟨n115, f115, hq115, hi115, hm⟩ := hm
        refine mr_iast hx hb hK hP hD hS 0 hq115 rfl hi115 dL_randomTable_115 (fun H locs hP hD hS => ?_)
        generalize hup h108 q95 (eI (c 0) n115 (upd f115 (2 : Int32).toNatClampNeg g112)) = h115 at hm hP hD
        refine hcSv (As := [.ref s3_95, .ref s2_95, .ref s1_95, .ref q95]) (rest := []) ⟨hx, hb, hml, hown, hts⟩ (h_L_writeAll l G K c h115 s3_95 s2_95 s1_95 q95 _ hm) (va_cwS 4 hts gL_randomTable_L_writeAll rfl rfl rfl he_L_writeAll ⟨Nat.le_of_ble_eq_true rfl, Nat.le_of_ble_eq_true rfl⟩) hK hN hZ hXX hP hD hS hA rfl hl.1 rfl (Nat.le_of_ble_eq_true rfl) dL_randomTable_116 ⟨by show (cl_95 + 1) + 0 ≤ mc; omega, by show (sl_95 + s0_95.toNatClampNeg) + 0 ≤ ms; omega⟩ (fun h116 H locs hm hP hD hS => ?_)
        refine lv_aload_n hx hb dL_randomTable_119 rfl (lv_at hl 0 rfl) ?_
        refine lv_aload_n hx hb dL_randomTable_120 rfl (lv_at hl 1 rfl) ?_
        have J_123 := hj_L_randomTable_J123 hl0 hx hb hml hown hmn hts hK hN hZ hXX hA hend a0 a1 a2 q0 x25 h116
        refine va_ldcS hx hb hown (nws_HubTrainsLaw_150 hN.2.2) dL_randomTable_121 ?_
        exact J_123 mB95 zB95 (K.1 11) a1 a0 (cl_95 + 1) (sl_95 + s0_95.toNatClampNeg) H locs ls ⟨by omega, by omega⟩ hP hD hS (lv_sub hl [0, 1, 2, 3, 4] rfl) hm

set_option maxHeartbeats 4000000 in
set_option maxRecDepth 100000 in
theorem hj_L_randomTable_J77 {p : Program} {l : Launch} (hl0 : l.stackTraces = false) {e : Env} {s : State} {m : MethodId} {args : Array Value} {below : List Frame} {meth : Method} {c1 : Code} {A : Nat → Prop} {Q : State → Prop} {G : va_G} {K : (Nat → Nat) × (Nat → Nat)} {c : Nat → ClassId} {mc ms : Nat} {post : Option Nat → HW → Prop} (hx : p.tables.exec = Jvm.exec) (hb : c1.code = cL_randomTable) (hml : c1.maxLocals = 15) (hown : s.vm.findClass RL = some m.cls) (hmn : meth.name = yL_randomTable.name) (hts : ∀ w ∈ wsL_randomTable, w.before args s = true) (hK : va_K G vwCl (TY c) s) (hN : NW K s) (hZ : ZE K A s s.heap) (hXX : XX s) (hA : ∀ q : Nat, s.heap.size ≤ q → A q) (hend : ∀ (H : Heap) (locs : List Loc) (ls : Array Slot) (pc cells slots : Nat) (v : Option Nat) (h1 : HW), cells ≤ mc → slots ≤ ms → post v h1 → mP G K h1 H → mD A h1 → va_S A s.heap H locs → decode cL_randomTable pc = .ok (.areturn, 1) → W p l e (rm_L_randomTable mc ms) s m args below meth c1 H locs cells slots Q (F0 m pc ls [va_rf v])) (a0 : Nat) (a1 : Nat) (a2 : Nat) (q0 : Nat) (x25 : Int32) : ∀ (h_77 : HW) (mc_77 ms_77 : Nat) (s0_77 : Nat) (s1_77 : Nat) (cl_77 sl_77 : Nat) (H : Heap) (locs : List Loc) (ls : Array Slot), cl_77 + mc_77 ≤ mc ∧ sl_77 + ms_77 ≤ ms → mP G K h_77 H → mD A h_77 → va_S A s.heap H locs → lv_has ls 15 [(0, .ref a0), (1, .ref a1), (2, .ref a2), (3, .ref q0), (4, .int x25)] → w_L_randomTable_J77 c K a0 a1 a2 post q0 x25 h_77 mc_77 ms_77 s0_77 s1_77 → W p l e (rm_L_randomTable mc ms) s m args below meth c1 H locs cl_77 sl_77 Q (F0 m 77 ls [.ref s0_77, .ref s1_77]) := by
      have hi_10 : ∀ w ∈ u_ws RX10 TX10 17, w ∈ wsL_randomTable := fun w h => (fun w h => List.mem_cons_of_mem _ (List.mem_append_left _ (List.mem_append_left _ (List.mem_append_left _ (List.mem_append_left _ (List.mem_append_left _ (List.mem_append_left _ (List.mem_append_left _ (List.mem_append_left _ (List.mem_append_left _ (List.mem_append_left _ (List.mem_append_left _ (List.mem_append_left _ (List.mem_append_right _ (h))))))))))))))) w h
      intro h_77 mc_77 ms_77 s0_77 s1_77 cl_77 sl_77 H locs ls hf hP hD hS hl hm
      unfold w_L_randomTable_J77 at hm
      obtain ⟨fs77, hq77, hl77, hm⟩ := hm
      refine mr_put (v := .ref s0_77) (ci := 10) (C := RX10) (T := TX10) (N := 17) hx hb hts hi_10 tyX10 (fun k hk => tyX10_ok k (Nat.lt_of_lt_of_le hk (by decide))) (fun a ha b hb => nmX10 a (Nat.lt_of_lt_of_le ha (by decide)) b (Nat.lt_of_lt_of_le hb (by decide))) hown hK hP hD hS hq77 rfl 12 (by decide) (hts (.fieldLink RL 138 "HubTrainsLaw$Table" "trains" "[[I") ((List.mem_of_getElem? (i := 11) rfl))) (fun _ h9 => h9) rfl (tyX10_ok 12 (by decide)) rfl rfl hl77 dL_randomTable_77 (fun H locs hP hD hS => ?_)
      generalize hup h_77 s1_77 (.inr (10, fs77.set 12 (.ref s0_77))) = h77 at hm hP hD
      refine lv_aload_n hx hb dL_randomTable_80 rfl (lv_at hl 3 rfl) ?_
      refine lv_iload hx hb dL_randomTable_81 (lv_at hl 4 rfl) ?_
      refine lv_iconst (v := 1) hx hb dL_randomTable_83 (by decide) ?_
      refine lv_iadd hx hb dL_randomTable_84 ?_
      refine lv_topi (fun x84 ex84 => ?_)
      replace hm := hm x84 ex84
      obtain ⟨hn85, hb85, mB85, zB85, hc85, hs85, hm⟩ := hm
      refine mr_newa (atype := .boolean) (a0 := (fun N => (N, .inl (fun _ => 0)))) hx hb (hts (.arrayClass .boolean) ((List.mem_of_getElem? (i := 12) rfl))) hK 4 rfl hP hD hS hA (fun _ => rfl) hn85 (c65 hb85 (by decide)) (by show cl_77 + 1 ≤ mc; omega) (by show sl_77 + _ ≤ ms; omega) dL_randomTable_85 (fun q85 H hfr85 hP hD hS => ?_)
      replace hm := hm q85 hfr85
      generalize hup h77 q85 (eI (c 4) x84.toNatClampNeg (fun _ => 0)) = h85 at hm hP hD
      replace hf : (cl_77 + 1) + mB85 ≤ mc ∧ (sl_77 + x84.toNatClampNeg) + zB85 ≤ ms := ⟨by omega, by omega⟩
      clear hc85 hs85 hb85
      obtain ⟨fs87, hq87, hl87, hm⟩ := hm
      refine mr_put (v := .ref q85) (ci := 10) (C := RX10) (T := TX10) (N := 17) hx hb hts hi_10 tyX10 (fun k hk => tyX10_ok k (Nat.lt_of_lt_of_le hk (by decide))) (fun a ha b hb => nmX10 a (Nat.lt_of_lt_of_le ha (by decide)) b (Nat.lt_of_lt_of_le hb (by decide))) hown hK hP hD hS hq87 rfl 13 (by decide) (hts (.fieldLink RL 141 "HubTrainsLaw$Table" "isOpen" "[Z") ((List.mem_of_getElem? (i := 13) rfl))) (fun _ h9 => h9) rfl (tyX10_ok 13 (by decide)) rfl rfl hl87 dL_randomTable_87 (fun H locs hP hD hS => ?_)
      generalize hup h85 q0 (.inr (10, fs87.set 13 (.ref q85))) = h87 at hm hP hD
      refine lv_aload_n hx hb dL_randomTable_90 rfl (lv_at hl 0 rfl) ?_
      refine lv_aload_n hx hb dL_randomTable_91 rfl (lv_at hl 1 rfl) ?_
      refine va_ldcS hx hb hown (nws_HubTrainsLaw_145 hN.2.2) dL_randomTable_92 ?_
      have J_95 := hj_L_randomTable_J95 hl0 hx hb hml hown hmn hts hK hN hZ hXX hA hend a0 a1 a2 q0 x25 h87
      refine lv_iconst (v := 3) hx hb dL_randomTable_94 (by decide) ?_
      exact J_95 mB85 zB85 (3 : Int32) (K.1 0) a1 a0 (cl_77 + 1) (sl_77 + x84.toNatClampNeg) H locs ls ⟨by omega, by omega⟩ hP hD hS (lv_sub hl [0, 1, 2, 3, 4] rfl) hm

set_option maxHeartbeats 4000000 in
set_option maxRecDepth 100000 in
theorem hj_L_randomTable_J37 {p : Program} {l : Launch} (hl0 : l.stackTraces = false) {e : Env} {s : State} {m : MethodId} {args : Array Value} {below : List Frame} {meth : Method} {c1 : Code} {A : Nat → Prop} {Q : State → Prop} {G : va_G} {K : (Nat → Nat) × (Nat → Nat)} {c : Nat → ClassId} {mc ms : Nat} {post : Option Nat → HW → Prop} (hx : p.tables.exec = Jvm.exec) (hb : c1.code = cL_randomTable) (hml : c1.maxLocals = 15) (hown : s.vm.findClass RL = some m.cls) (hmn : meth.name = yL_randomTable.name) (hts : ∀ w ∈ wsL_randomTable, w.before args s = true) (hK : va_K G vwCl (TY c) s) (hN : NW K s) (hZ : ZE K A s s.heap) (hXX : XX s) (hA : ∀ q : Nat, s.heap.size ≤ q → A q) (hend : ∀ (H : Heap) (locs : List Loc) (ls : Array Slot) (pc cells slots : Nat) (v : Option Nat) (h1 : HW), cells ≤ mc → slots ≤ ms → post v h1 → mP G K h1 H → mD A h1 → va_S A s.heap H locs → decode cL_randomTable pc = .ok (.areturn, 1) → W p l e (rm_L_randomTable mc ms) s m args below meth c1 H locs cells slots Q (F0 m pc ls [va_rf v])) (a0 : Nat) (a1 : Nat) (a2 : Nat) (q0 : Nat) (x25 : Int32) (h33 : HW) : ∀ (mc_37 ms_37 : Nat) (s0_37 : Int32) (s1_37 : Nat) (cl_37 sl_37 : Nat) (H : Heap) (locs : List Loc) (ls : Array Slot), cl_37 + mc_37 ≤ mc ∧ sl_37 + ms_37 ≤ ms → mP G K h33 H → mD A h33 → va_S A s.heap H locs → lv_has ls 15 [(0, .ref a0), (1, .ref a1), (2, .ref a2), (3, .ref q0), (4, .int x25)] → w_L_randomTable_J37 c K a0 a1 a2 post q0 x25 h33 mc_37 ms_37 s0_37 s1_37 → W p l e (rm_L_randomTable mc ms) s m args below meth c1 H locs cl_37 sl_37 Q (F0 m 37 ls [.int s0_37, .ref s1_37]) := by
    have hi_10 : ∀ w ∈ u_ws RX10 TX10 17, w ∈ wsL_randomTable := fun w h => (fun w h => List.mem_cons_of_mem _ (List.mem_append_left _ (List.mem_append_left _ (List.mem_append_left _ (List.mem_append_left _ (List.mem_append_left _ (List.mem_append_left _ (List.mem_append_left _ (List.mem_append_left _ (List.mem_append_left _ (List.mem_append_left _ (List.mem_append_left _ (List.mem_append_left _ (List.mem_append_right _ (h))))))))))))))) w h
    intro mc_37 ms_37 s0_37 s1_37 cl_37 sl_37 H locs ls hf hP hD hS hl hm
    unfold w_L_randomTable_J37 at hm
    obtain ⟨fs37, hq37, hl37, hm⟩ := hm
    refine mr_put (v := .int s0_37) (ci := 10) (C := RX10) (T := TX10) (N := 17) hx hb hts hi_10 tyX10 (fun k hk => tyX10_ok k (Nat.lt_of_lt_of_le hk (by decide))) (fun a ha b hb => nmX10 a (Nat.lt_of_lt_of_le ha (by decide)) b (Nat.lt_of_lt_of_le hb (by decide))) hown hK hP hD hS hq37 rfl 1 (by decide) (hts (.fieldLink RL 123 "HubTrainsLaw$Table" "handSize" "I") ((List.mem_of_getElem? (i := 5) rfl))) (fun _ h9 => h9) rfl (tyX10_ok 1 (by decide)) rfl rfl hl37 dL_randomTable_37 (fun H locs hP hD hS => ?_)
    generalize hup h33 s1_37 (.inr (10, fs37.set 1 (.int s0_37))) = h37 at hm hP hD
    refine lv_aload_n hx hb dL_randomTable_40 rfl (lv_at hl 3 rfl) ?_
    refine lv_aload_n hx hb dL_randomTable_41 rfl (lv_at hl 3 rfl) ?_
    obtain ⟨wq42, fs42, g42, hq42, hv42, hm⟩ := hm
    refine mr_get (ci := 10) (C := RX10) (T := TX10) (N := 17) hx hb hts hi_10 hown hK (mRd hK hP hZ hS) hq42 rfl 0 (by decide) (hts (.fieldLink RL 119 "HubTrainsLaw$Table" "most" "I") ((List.mem_of_getElem? (i := 4) rfl))) (fun _ h9 => h9) hv42 dL_randomTable_42 ?_
    obtain ⟨fs45, hq45, hl45, hm⟩ := hm
    refine mr_put (v := .int g42) (ci := 10) (C := RX10) (T := TX10) (N := 17) hx hb hts hi_10 tyX10 (fun k hk => tyX10_ok k (Nat.lt_of_lt_of_le hk (by decide))) (fun a ha b hb => nmX10 a (Nat.lt_of_lt_of_le ha (by decide)) b (Nat.lt_of_lt_of_le hb (by decide))) hown hK hP hD hS hq45 rfl 2 (by decide) (hts (.fieldLink RL 126 "HubTrainsLaw$Table" "hub" "I") ((List.mem_of_getElem? (i := 6) rfl))) (fun _ h9 => h9) rfl (tyX10_ok 2 (by decide)) rfl rfl hl45 dL_randomTable_45 (fun H locs hP hD hS => ?_)
    generalize hup h37 q0 (.inr (10, fs45.set 2 (.int g42))) = h45 at hm hP hD
    refine lv_aload_n hx hb dL_randomTable_48 rfl (lv_at hl 3 rfl) ?_
    refine lv_iload hx hb dL_randomTable_49 (lv_at hl 4 rfl) ?_
    refine lv_iconst (v := 0) hx hb dL_randomTable_51 (by decide) ?_
    obtain ⟨hn52, hk52, hb52, hd52, mB52, zB52, hc52, hs52, hm⟩ := hm
    refine mr_mna hx hb hown (by rw [nmII]; exact (hts (.classLink RL 129 "[[I") ((List.mem_of_getElem? (i := 7) rfl)))) hXX.1.2 (hts (.arrayClass .int) ((List.mem_of_getElem? (i := 8) rfl))) hK 0 2 rfl rfl hP hD hS hA hn52 hk52 (c65 hb52 (by decide)) (c65 hd52 (by decide)) (Nat.le_trans hd52 (by decide)) (by show cl_37 + _ ≤ mc; omega) (by show sl_37 + _ ≤ ms; omega) dL_randomTable_52 (fun q52 H hfr52 hP hD hS => ?_)
    replace hm := hm q52 hfr52
    generalize hmul h45 (c 2) (c 0) q52 x25.toNatClampNeg ((0 : Int32).toNatClampNeg) = h52 at hm hP hD
    replace hf : (cl_37 + 1 + x25.toNatClampNeg) + mB52 ≤ mc ∧ (sl_37 + x25.toNatClampNeg + x25.toNatClampNeg * (0 : Int32).toNatClampNeg) + zB52 ≤ ms := ⟨by omega, by omega⟩
    clear hc52 hs52 hb52 hd52
    obtain ⟨fs56, hq56, hl56, hm⟩ := hm
    refine mr_put (v := .ref q52) (ci := 10) (C := RX10) (T := TX10) (N := 17) hx hb hts hi_10 tyX10 (fun k hk => tyX10_ok k (Nat.lt_of_lt_of_le hk (by decide))) (fun a ha b hb => nmX10 a (Nat.lt_of_lt_of_le ha (by decide)) b (Nat.lt_of_lt_of_le hb (by decide))) hown hK hP hD hS hq56 rfl 10 (by decide) (hts (.fieldLink RL 131 "HubTrainsLaw$Table" "hands" "[[I") ((List.mem_of_getElem? (i := 9) rfl))) (fun _ h9 => h9) rfl (tyX10_ok 10 (by decide)) rfl rfl hl56 dL_randomTable_56 (fun H locs hP hD hS => ?_)
    generalize hup h52 q0 (.inr (10, fs56.set 10 (.ref q52))) = h56 at hm hP hD
    refine lv_aload_n hx hb dL_randomTable_59 rfl (lv_at hl 3 rfl) ?_
    refine lv_iload hx hb dL_randomTable_60 (lv_at hl 4 rfl) ?_
    obtain ⟨hn62, hb62, mB62, zB62, hc62, hs62, hm⟩ := hm
    refine mr_newa (atype := .int) (a0 := (fun N => (N, .inl (fun _ => 0)))) hx hb (hts (.arrayClass .int) ((List.mem_of_getElem? (i := 8) rfl))) hK 0 rfl hP hD hS hA (fun _ => rfl) hn62 (c65 hb62 (by decide)) (by show (cl_37 + 1 + x25.toNatClampNeg) + 1 ≤ mc; omega) (by show (sl_37 + x25.toNatClampNeg + x25.toNatClampNeg * (0 : Int32).toNatClampNeg) + _ ≤ ms; omega) dL_randomTable_62 (fun q62 H hfr62 hP hD hS => ?_)
    replace hm := hm q62 hfr62
    generalize hup h56 q62 (eI (c 0) x25.toNatClampNeg (fun _ => 0)) = h62 at hm hP hD
    replace hf : ((cl_37 + 1 + x25.toNatClampNeg) + 1) + mB62 ≤ mc ∧ ((sl_37 + x25.toNatClampNeg + x25.toNatClampNeg * (0 : Int32).toNatClampNeg) + x25.toNatClampNeg) + zB62 ≤ ms := ⟨by omega, by omega⟩
    clear hc62 hs62 hb62
    obtain ⟨fs64, hq64, hl64, hm⟩ := hm
    refine mr_put (v := .ref q62) (ci := 10) (C := RX10) (T := TX10) (N := 17) hx hb hts hi_10 tyX10 (fun k hk => tyX10_ok k (Nat.lt_of_lt_of_le hk (by decide))) (fun a ha b hb => nmX10 a (Nat.lt_of_lt_of_le ha (by decide)) b (Nat.lt_of_lt_of_le hb (by decide))) hown hK hP hD hS hq64 rfl 11 (by decide) (hts (.fieldLink RL 134 "HubTrainsLaw$Table" "totals" "[I") ((List.mem_of_getElem? (i := 10) rfl))) (fun _ h9 => h9) rfl (tyX10_ok 11 (by decide)) rfl rfl hl64 dL_randomTable_64 (fun H locs hP hD hS => ?_)
    generalize hup h62 q0 (.inr (10, fs64.set 11 (.ref q62))) = h64 at hm hP hD
    refine lv_aload_n hx hb dL_randomTable_67 rfl (lv_at hl 3 rfl) ?_
    refine lv_iload hx hb dL_randomTable_68 (lv_at hl 4 rfl) ?_
    refine lv_iconst (v := 1) hx hb dL_randomTable_70 (by decide) ?_
    refine lv_iadd hx hb dL_randomTable_71 ?_
    refine lv_topi (fun x71 ex71 => ?_)
    replace hm := hm x71 ex71
    refine lv_iconst (v := 0) hx hb dL_randomTable_72 (by decide) ?_
    have J_77 := hj_L_randomTable_J77 hl0 hx hb hml hown hmn hts hK hN hZ hXX hA hend a0 a1 a2 q0 x25
    obtain ⟨hn73, hk73, hb73, hd73, mB73, zB73, hc73, hs73, hm⟩ := hm
    refine mr_mna hx hb hown (by rw [nmII]; exact (hts (.classLink RL 129 "[[I") ((List.mem_of_getElem? (i := 7) rfl)))) hXX.1.2 (hts (.arrayClass .int) ((List.mem_of_getElem? (i := 8) rfl))) hK 0 2 rfl rfl hP hD hS hA hn73 hk73 (c65 hb73 (by decide)) (c65 hd73 (by decide)) (Nat.le_trans hd73 (by decide)) (by show ((cl_37 + 1 + x25.toNatClampNeg) + 1) + _ ≤ mc; omega) (by show ((sl_37 + x25.toNatClampNeg + x25.toNatClampNeg * (0 : Int32).toNatClampNeg) + x25.toNatClampNeg) + _ ≤ ms; omega) dL_randomTable_73 (fun q73 H hfr73 hP hD hS => ?_)
    replace hm := hm q73 hfr73
    generalize hmul h64 (c 2) (c 0) q73 x71.toNatClampNeg ((0 : Int32).toNatClampNeg) = h73 at hm hP hD
    replace hf : (((cl_37 + 1 + x25.toNatClampNeg) + 1) + 1 + x71.toNatClampNeg) + mB73 ≤ mc ∧ (((sl_37 + x25.toNatClampNeg + x25.toNatClampNeg * (0 : Int32).toNatClampNeg) + x25.toNatClampNeg) + x71.toNatClampNeg + x71.toNatClampNeg * (0 : Int32).toNatClampNeg) + zB73 ≤ ms := ⟨by omega, by omega⟩
    clear hc73 hs73 hb73 hd73
    exact J_77 h73 mB73 zB73 q73 q0 (((cl_37 + 1 + x25.toNatClampNeg) + 1) + 1 + x71.toNatClampNeg) (((sl_37 + x25.toNatClampNeg + x25.toNatClampNeg * (0 : Int32).toNatClampNeg) + x25.toNatClampNeg) + x71.toNatClampNeg + x71.toNatClampNeg * (0 : Int32).toNatClampNeg) H locs ls ⟨by omega, by omega⟩ hP hD hS (lv_sub hl [0, 1, 2, 3, 4] rfl) hm

theorem h_L_randomTable (l : Launch) (hl0 : l.stackTraces = false) (G : va_G) (K : (Nat → Nat) × (Nat → Nat)) (c : Nat → ClassId) (h : HW) (a0 : Nat) (a1 : Nat) (a2 : Nat) (mc ms : Nat) (post : Option Nat → HW → Prop) (hm : w_L_randomTable c K h a0 a1 a2 mc ms post) : hMq l yL_randomTable wsL_randomTable (rm_L_randomTable mc ms) G K (TY c) [.ref a0, .ref a1, .ref a2] h mc ms post := by
  refine hMq.of (Or.inl ⟨_, rfl⟩) (cc := cL_randomTable) (maxL := 15) (lv := [(0, .ref a0), (1, .ref a1), (2, .ref a2)]) (by decide) rfl (Nat.le_of_ble_eq_true rfl) rfl ?_
  intro p e s m args below meth c1 A Q H locs hx hb hml hown hmn hts hK hN hZ hXX hP hD hA hS hend ls hl
  have hown : s.vm.findClass RL = some m.cls := hown
  have hi_10 : ∀ w ∈ u_ws RX10 TX10 17, w ∈ wsL_randomTable := fun w h => (fun w h => List.mem_cons_of_mem _ (List.mem_append_left _ (List.mem_append_left _ (List.mem_append_left _ (List.mem_append_left _ (List.mem_append_left _ (List.mem_append_left _ (List.mem_append_left _ (List.mem_append_left _ (List.mem_append_left _ (List.mem_append_left _ (List.mem_append_left _ (List.mem_append_left _ (List.mem_append_right _ (h))))))))))))))) w h
  unfold w_L_randomTable at hm
  have hf : 0 + mc ≤ mc ∧ 0 + ms ≤ ms := ⟨by omega, by omega⟩
  obtain ⟨mB0, zB0, hc0, hs0, hm⟩ := hm
  refine mr_new (ci := 10) (C := RX10) (T := TX10) (N := 17) (n := 17) (fs := [.int 0, .int 0, .int 0, .int 0, .int 0, .int 0, .int 0, .int 0, .int 0, .int 0, .null, .null, .null, .null, .null, .null, .null]) hx hb hts hi_10 tyX10 (fun k hk => tyX10_ok k (Nat.lt_of_lt_of_le hk (by decide))) hown (hts (.classLink RL 111 RX10) ((List.mem_of_getElem? (i := 1) rfl))) (hts (.instantiable RX10 17) ((List.mem_of_getElem? (i := 2) rfl))) (hts (.initialized RX10) ((List.mem_of_getElem? (i := 3) rfl))) hK hP hD hS hA rfl (fun j hj => by rcases (show j = 0 ∨ j = 1 ∨ j = 2 ∨ j = 3 ∨ j = 4 ∨ j = 5 ∨ j = 6 ∨ j = 7 ∨ j = 8 ∨ j = 9 ∨ j = 10 ∨ j = 11 ∨ j = 12 ∨ j = 13 ∨ j = 14 ∨ j = 15 ∨ j = 16 by omega) with rfl | rfl | rfl | rfl | rfl | rfl | rfl | rfl | rfl | rfl | rfl | rfl | rfl | rfl | rfl | rfl | rfl <;> rfl) (by show 0 + 1 ≤ mc; omega) (by show 0 + 17 ≤ ms; omega) dL_randomTable_0 (fun q0 H hfr0 hP hD hS => ?_)
  replace hm := hm q0 hfr0
  generalize hup h q0 (.inr (10, [.int 0, .int 0, .int 0, .int 0, .int 0, .int 0, .int 0, .int 0, .int 0, .int 0, .null, .null, .null, .null, .null, .null, .null])) = h0 at hm hP hD
  replace hf : (0 + 1) + mB0 ≤ mc ∧ (0 + 17) + zB0 ≤ ms := ⟨by omega, by omega⟩
  clear hc0 hs0
  refine lv_dup hx hb dL_randomTable_3 rfl ?_
  obtain ⟨m4, z4, mB4, zB4, hbm4, hbs4, hm⟩ := hm
  refine hcINv (As := []) (rest := [.ref q0]) ⟨hx, hb, hml, hown, hts⟩ (h_X10_init l G K c h0 q0 m4 z4 _ hm) ⟨va_cnB 0 hts gL_randomTable_X10_init_n113 rfl rfl rfl (nwm_HubTrainsLaw_113 hN.2.1) (hts (.initialized RX10) ((List.mem_of_getElem? (i := 3) rfl))) he_X10_init ⟨Nat.le_of_ble_eq_true rfl, Nat.le_of_ble_eq_true rfl⟩, rfl, (hts (.instanceMethod yX10_init) ((List.mem_of_getElem? (i := 24) rfl)))⟩ hK hN hZ hXX hP hD hS hA rfl hl.1 rfl (Nat.le_of_ble_eq_true rfl) dL_randomTable_4 ⟨by show (0 + 1) + m4 ≤ mc; omega, by show (0 + 17) + z4 ≤ ms; omega⟩ (fun h4 H locs hm hP hD hS => ?_)
  replace hf : ((0 + 1) + m4) + mB4 ≤ mc ∧ ((0 + 17) + z4) + zB4 ≤ ms := ⟨by omega, by omega⟩
  clear hbm4 hbs4
  refine lv_astore_n (lv' := [(3, .ref q0), (0, .ref a0), (1, .ref a1), (2, .ref a2)]) hx hb dL_randomTable_7 rfl hl (by decide) rfl (fun ls hl => ?_)
  refine lv_aload_n hx hb dL_randomTable_8 rfl (lv_at hl 0 rfl) ?_
  refine lv_iconst (v := 3) hx hb dL_randomTable_9 (by decide) ?_
  refine lv_aload_n hx hb dL_randomTable_10 rfl (lv_at hl 3 rfl) ?_
  refine lv_iconst (v := 4) hx hb dL_randomTable_11 (by decide) ?_
  obtain ⟨⟨wr12, fr12, hrq12⟩, hm⟩ := hm
  refine hcVi (As := [.int (4 : Int32)]) (rest := [.int (3 : Int32), .ref q0]) ⟨hx, hb, hml, hown, hts⟩ (h_X9_below l G K c h4 a2 (4 : Int32) _ hm) (cwV 1 hts gL_randomTable_X9_below rfl rfl rfl (heV_X9_below) ⟨Nat.le_of_ble_eq_true rfl, Nat.le_of_ble_eq_true rfl⟩) hK hN hZ hXX hP hD hS hA (mr_recv hK (mRd hK hP hZ hS) (ci := 9) rfl hrq12) rfl hl.1 rfl (Nat.le_of_ble_eq_true rfl) dL_randomTable_12 ⟨by show ((0 + 1) + m4) + 0 ≤ mc; omega, by show ((0 + 17) + z4) + 0 ≤ ms; omega⟩ (fun r12 h12 H locs hm hP hD hS => ?_)
  refine lv_iadd hx hb dL_randomTable_15 ?_
  refine lv_topi (fun x15 ex15 => ?_)
  replace hm := hm x15 ex15
  obtain ⟨fs16, hq16, hl16, hm⟩ := hm
  refine mr_put (v := .int x15) (ci := 10) (C := RX10) (T := TX10) (N := 17) hx hb hts hi_10 tyX10 (fun k hk => tyX10_ok k (Nat.lt_of_lt_of_le hk (by decide))) (fun a ha b hb => nmX10 a (Nat.lt_of_lt_of_le ha (by decide)) b (Nat.lt_of_lt_of_le hb (by decide))) hown hK hP hD hS hq16 rfl 0 (by decide) (hts (.fieldLink RL 119 "HubTrainsLaw$Table" "most" "I") ((List.mem_of_getElem? (i := 4) rfl))) (fun _ h9 => h9) rfl (tyX10_ok 0 (by decide)) rfl rfl hl16 dL_randomTable_16 (fun H locs hP hD hS => ?_)
  generalize hup h12 q0 (.inr (10, fs16.set 0 (.int x15))) = h16 at hm hP hD
  refine lv_iconst (v := 2) hx hb dL_randomTable_19 (by decide) ?_
  refine lv_aload_n hx hb dL_randomTable_20 rfl (lv_at hl 3 rfl) ?_
  refine lv_iconst (v := 3) hx hb dL_randomTable_21 (by decide) ?_
  obtain ⟨⟨wr22, fr22, hrq22⟩, hm⟩ := hm
  refine hcVi (As := [.int (3 : Int32)]) (rest := [.int (2 : Int32)]) ⟨hx, hb, hml, hown, hts⟩ (h_X9_below l G K c h16 a2 (3 : Int32) _ hm) (cwV 1 hts gL_randomTable_X9_below rfl rfl rfl (heV_X9_below) ⟨Nat.le_of_ble_eq_true rfl, Nat.le_of_ble_eq_true rfl⟩) hK hN hZ hXX hP hD hS hA (mr_recv hK (mRd hK hP hZ hS) (ci := 9) rfl hrq22) rfl hl.1 rfl (Nat.le_of_ble_eq_true rfl) dL_randomTable_22 ⟨by show ((0 + 1) + m4) + 0 ≤ mc; omega, by show ((0 + 17) + z4) + 0 ≤ ms; omega⟩ (fun r22 h22 H locs hm hP hD hS => ?_)
  refine lv_iadd hx hb dL_randomTable_25 ?_
  refine lv_topi (fun x25 ex25 => ?_)
  replace hm := hm x25 ex25
  refine lv_istore (lv' := [(4, .int x25), (3, .ref q0), (0, .ref a0), (1, .ref a1), (2, .ref a2)]) hx hb dL_randomTable_26 hl (by decide) rfl (fun ls hl => ?_)
  refine lv_aload_n hx hb dL_randomTable_28 rfl (lv_at hl 1 rfl) ?_
  refine lv_iconst (v := 1) hx hb dL_randomTable_29 (by decide) ?_
  refine lv_aload_n hx hb dL_randomTable_30 rfl (lv_at hl 4 rfl) ?_
  refine lv_bipush (v := 6) hx hb dL_randomTable_31 (by decide) ?_
  obtain ⟨⟨wr33, fr33, hrq33⟩, hm⟩ := hm
  refine hcVi (As := [.int (6 : Int32)]) (rest := [.int (1 : Int32), .ref q0]) ⟨hx, hb, hml, hown, hts⟩ (h_X9_below l G K c h22 a2 (6 : Int32) _ hm) (cwV 1 hts gL_randomTable_X9_below rfl rfl rfl (heV_X9_below) ⟨Nat.le_of_ble_eq_true rfl, Nat.le_of_ble_eq_true rfl⟩) hK hN hZ hXX hP hD hS hA (mr_recv hK (mRd hK hP hZ hS) (ci := 9) rfl hrq33) rfl hl.1 rfl (Nat.le_of_ble_eq_true rfl) dL_randomTable_33 ⟨by show ((0 + 1) + m4) + 0 ≤ mc; omega, by show ((0 + 17) + z4) + 0 ≤ ms; omega⟩ (fun r33 h33 H locs hm hP hD hS => ?_)
  have J_37 := hj_L_randomTable_J37 hl0 hx hb hml hown hmn hts hK hN hZ hXX hA hend a0 a1 a2 q0 x25 h33
  refine lv_iadd hx hb dL_randomTable_36 ?_
  refine lv_topi (fun x36 ex36 => ?_)
  replace hm := hm x36 ex36
  exact J_37 mB4 zB4 x36 q0 ((0 + 1) + m4) ((0 + 17) + z4) H locs ls ⟨by omega, by omega⟩ hP hD hS (lv_sub hl [2, 3, 4, 1, 0] rfl) hm

