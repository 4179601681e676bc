theorem case_append {p : Program} {l : Launch} {e : Env} {s : State} {m : MethodId} {args : Array Value} {below : List Frame} {meth : Method} {c1 : Code} {Q : State → Prop} {G : va_G} {K : (Nat → Nat) × (Nat → Nat)} {c : Nat → ClassId} {am ah : Nat → Nat} {ag : Nat → Nat → Nat} {ar : Nat → Nat} {out b L : Nat} {xs : Nat → Int32} (lc : LC p l s m args c1 G K c b L xs) {cells slots : Nat} {v4 : Int32} (i1 : vp_in (v4 + 1) L) (i2 : vp_in (v4 + 2) L) (i3 : vp_in (v4 + 3) L) (i4 : vp_in (v4 + 4) L) (i5 : vp_in (v4 + 5) L) (hc : cells + 3 ≤ 601024 ∧ slots + 518 ≤ 7293034) {sH : HS} {x : MS} {ps : PS} {f : Nat → Int64} (hSim : Sim sH x ps) {H : Heap} {locs : List Loc} {ls : Array Slot} (hP : va_P G vwCl (wM c am x ++ (wQ c out f ++ wH c ah ag ar ps sH)) H) (hD : va_D (fun q : Nat => s.heap.size ≤ q) (wM c am x ++ (wQ c out f ++ wH c ah ag ar ps sH))) (hS : va_S (fun q : Nat => s.heap.size ≤ q) s.heap H locs) (hl : lv_has ls 9 [(0, .ref b), (1, .ref (ah 0)), (2, .ref (am 0)), (3, .ref out), (4, .int v4)])
    (kk : ∀ (sH' : HS) (x' : MS) (ps' : PS) (f' : Nat → Int64) (H : Heap) (locs : List Loc) (ls : Array Slot), Sim sH' x' ps' → va_P G vwCl (wM c am x' ++ (wQ c out f' ++ wH c ah ag ar ps' sH')) H → va_D (fun q : Nat => s.heap.size ≤ q) (wM c am x' ++ (wQ c out f' ++ wH c ah ag ar ps' sH')) → va_S (fun q : Nat => s.heap.size ≤ q) s.heap H locs → lv_has ls 9 [(0, .ref b), (1, .ref (ah 0)), (2, .ref (am 0)), (3, .ref out), (4, .int v4)] → W p l e room_1 s m args below meth c1 H locs (cells + 3) (slots + 518) Q (F0 m 1325 ls [])) : W p l e room_1 s m args below meth c1 H locs cells slots Q (F0 m 152 ls []) := by
  obtain ⟨hl0, hx, hb, hml, hown, hts, hX, hbl, hK, hN, hZ, hXA, hXW, hNC⟩ := lc
  have hA : ∀ q : Nat, s.heap.size ≤ q → (fun q : Nat => s.heap.size ≤ q) q := fun _ h => h
  have hbA : ¬ (fun q : Nat => s.heap.size ≤ q) b := Nat.not_le.mpr hbl
  refine lv_aload_n hx hb dL_law_152 rfl (lv_at hl 1 rfl) ?_
  refine lv_aload_n hx hb dL_law_153 rfl (lv_at hl 0 rfl) ?_
  refine lv_iload hx hb dL_law_154 (lv_at hl 4 rfl) ?_
  refine lv_iconst (v := 1) hx hb dL_law_156 (by decide) ?_
  refine lv_iadd hx hb dL_law_157 ?_
  refine va_sld hx hb hX hbl hbA hS i1 dL_law_158 ?_
  refine lv_aload_n hx hb dL_law_159 rfl (lv_at hl 0 rfl) ?_
  refine lv_iload hx hb dL_law_160 (lv_at hl 4 rfl) ?_
  refine lv_iconst (v := 2) hx hb dL_law_162 (by decide) ?_
  refine lv_iadd hx hb dL_law_163 ?_
  refine va_sld hx hb hX hbl hbA hS i2 dL_law_164 ?_
  refine lv_aload_n hx hb dL_law_165 rfl (lv_at hl 0 rfl) ?_
  refine lv_iload hx hb dL_law_166 (lv_at hl 4 rfl) ?_
  refine lv_iconst (v := 3) hx hb dL_law_168 (by decide) ?_
  refine lv_iadd hx hb dL_law_169 ?_
  refine va_sld hx hb hX hbl hbA hS i3 dL_law_170 ?_
  refine lv_aload_n hx hb dL_law_171 rfl (lv_at hl 0 rfl) ?_
  refine lv_iload hx hb dL_law_172 (lv_at hl 4 rfl) ?_
  refine lv_iconst (v := 4) hx hb dL_law_174 (by decide) ?_
  refine lv_iadd hx hb dL_law_175 ?_
  refine va_sld hx hb hX hbl hbA hS i4 dL_law_176 ?_
  refine lv_aload_n hx hb dL_law_177 rfl (lv_at hl 0 rfl) ?_
  refine lv_iload hx hb dL_law_178 (lv_at hl 4 rfl) ?_
  refine lv_iconst (v := 5) hx hb dL_law_180 (by decide) ?_
  refine lv_iadd hx hb dL_law_181 ?_
  refine va_sld hx hb hX hbl hbA hS i5 dL_law_182 ?_
  obtain ⟨r, sH', x', e1, e2, hS', e3⟩ := s_append hSim (xs (v4 + 1).toNatClampNeg) (xs (v4 + 2).toNatClampNeg) (xs (v4 + 3).toNatClampNeg) (xs (v4 + 4).toNatClampNeg) (xs (v4 + 5).toNatClampNeg)
  have hP2 : va_P G vwCl ((wM c am x ++ wQ c out f) ++ wH c ah ag ar ps sH) H := by rw [List.append_assoc]; exact hP
  have hD2 : va_D (fun q : Nat => s.heap.size ≤ q) ((wM c am x ++ wQ c out f) ++ wH c ah ag ar ps sH) := by rw [List.append_assoc]; exact hD
  refine zcFVi (wr := wM c am x ++ wQ c out f) (wc := wH c ah ag ar ps sH) (As := [.int (xs (v4 + 1).toNatClampNeg), .int (xs (v4 + 2).toNatClampNeg), .int (xs (v4 + 3).toNatClampNeg), .int (xs (v4 + 4).toNatClampNeg), .int (xs (v4 + 5).toNatClampNeg)]) (rest := []) ⟨hx, hb, hml, hown, hts⟩ (k_X7_append l G K c ah ag ar (ps := ps) (hm := e1)) (cwV 5 hts gL_law_X7_append rfl rfl rfl (by decide +kernel) ⟨Nat.le_of_ble_eq_true rfl, Nat.le_of_ble_eq_true rfl⟩) hK hN hZ hP2 hD2 hS hA (va_recv hK hP2 (ci := 7) (q0 := 19) rfl rfl) rfl hl.1 rfl (Nat.le_of_ble_eq_true rfl) dL_law_183 ⟨by show cells ≤ 601024; omega, by show slots ≤ 7293034; omega⟩ (fun H locs hP hD hS => ?_)
  rw [List.append_assoc] at hP hD
  refine lv_aload_n hx hb dL_law_186 rfl (lv_at hl 2 rfl) ?_
  refine lv_aload_n hx hb dL_law_187 rfl (lv_at hl 0 rfl) ?_
  refine lv_iload hx hb dL_law_188 (lv_at hl 4 rfl) ?_
  refine lv_iconst (v := 1) hx hb dL_law_190 (by decide) ?_
  refine lv_iadd hx hb dL_law_191 ?_
  refine va_sld hx hb hX hbl hbA hS i1 dL_law_192 ?_
  refine lv_aload_n hx hb dL_law_193 rfl (lv_at hl 0 rfl) ?_
  refine lv_iload hx hb dL_law_194 (lv_at hl 4 rfl) ?_
  refine lv_iconst (v := 2) hx hb dL_law_196 (by decide) ?_
  refine lv_iadd hx hb dL_law_197 ?_
  refine va_sld hx hb hX hbl hbA hS i2 dL_law_198 ?_
  refine lv_aload_n hx hb dL_law_199 rfl (lv_at hl 0 rfl) ?_
  refine lv_iload hx hb dL_law_200 (lv_at hl 4 rfl) ?_
  refine lv_iconst (v := 3) hx hb dL_law_202 (by decide) ?_
  refine lv_iadd hx hb dL_law_203 ?_
  refine va_sld hx hb hX hbl hbA hS i3 dL_law_204 ?_
  refine lv_aload_n hx hb dL_law_205 rfl (lv_at hl 0 rfl) ?_
  refine lv_iload hx hb dL_law_206 (lv_at hl 4 rfl) ?_
  refine lv_iconst (v := 4) hx hb dL_law_208 (by decide) ?_
  refine lv_iadd hx hb dL_law_209 ?_
  refine va_sld hx hb hX hbl hbA hS i4 dL_law_210 ?_
  refine lv_aload_n hx hb dL_law_211 rfl (lv_at hl 0 rfl) ?_
  refine lv_iload hx hb dL_law_212 (lv_at hl 4 rfl) ?_
  refine lv_iconst (v := 5) hx hb dL_law_214 (by decide) ?_
  refine lv_iadd hx hb dL_law_215 ?_
  refine va_sld hx hb hX hbl hbA hS i5 dL_law_216 ?_
  refine zcEVi (wc := wM c am x) (wr := wQ c out f ++ wH c ah ag ar ps sH') (As := [.int (xs (v4 + 1).toNatClampNeg), .int (xs (v4 + 2).toNatClampNeg), .int (xs (v4 + 3).toNatClampNeg), .int (xs (v4 + 4).toNatClampNeg), .int (xs (v4 + 5).toNatClampNeg)]) (rest := [.int r]) ⟨hx, hb, hml, hown, hts⟩ (k_X8_append l G K c am (hm := e2)) (cwV 5 hts gL_law_X8_append rfl rfl rfl (by decide +kernel) ⟨Nat.le_of_ble_eq_true rfl, Nat.le_of_ble_eq_true rfl⟩) hK hN hZ hP hD hS hA (va_recv hK hP (ci := 8) (q0 := 0) rfl rfl) rfl hl.1 rfl (Nat.le_of_ble_eq_true rfl) dL_law_217 ⟨by show cells ≤ 601024; omega, by show slots ≤ 7293034; omega⟩ (fun H locs hP hD hS => ?_)
  refine lv_icmp_eq (tgt := 1325) hx hb dL_law_220 (by decide) (fun _ => ?_) (fun h => absurd rfl h)
  refine W.widen (k := cells + 3) (n := slots + 518) (by omega) (by omega) ?_
  exact kk sH' x' ps f H locs ls hS' hP hD hS hl
theorem case_errorOffset {p : Program} {l : Launch} {e : Env} {s : State} {m : MethodId} {args : Array Value} {below : List Frame} {meth : Method} {c1 : Code} {Q : State → Prop} {G : va_G} {K : (Nat → Nat) × (Nat → Nat)} {c : Nat → ClassId} {am ah : Nat → Nat} {ag : Nat → Nat → Nat} {ar : Nat → Nat} {out b L : Nat} {xs : Nat → Int32} (lc : LC p l s m args c1 G K c b L xs) {cells slots : Nat} {v4 : Int32}  (hc : cells + 3 ≤ 601024 ∧ slots + 518 ≤ 7293034) {sH : HS} {x : MS} {ps : PS} {f : Nat → Int64} (hSim : Sim sH x ps) {H : Heap} {locs : List Loc} {ls : Array Slot} (hP : va_P G vwCl (wM c am x ++ (wQ c out f ++ wH c ah ag ar ps sH)) H) (hD : va_D (fun q : Nat => s.heap.size ≤ q) (wM c am x ++ (wQ c out f ++ wH c ah ag ar ps sH))) (hS : va_S (fun q : Nat => s.heap.size ≤ q) s.heap H locs) (hl : lv_has ls 9 [(0, .ref b), (1, .ref (ah 0)), (2, .ref (am 0)), (3, .ref out), (4, .int v4)])
    (kk : ∀ (sH' : HS) (x' : MS) (ps' : PS) (f' : Nat → Int64) (H : Heap) (locs : List Loc) (ls : Array Slot), Sim sH' x' ps' → va_P G vwCl (wM c am x' ++ (wQ c out f' ++ wH c ah ag ar ps' sH')) H → va_D (fun q : Nat => s.heap.size ≤ q) (wM c am x' ++ (wQ c out f' ++ wH c ah ag ar ps' sH')) → va_S (fun q : Nat => s.heap.size ≤ q) s.heap H locs → lv_has ls 9 [(0, .ref b), (1, .ref (ah 0)), (2, .ref (am 0)), (3, .ref out), (4, .int v4)] → W p l e room_1 s m args below meth c1 H locs (cells + 3) (slots + 518) Q (F0 m 1325 ls [])) : W p l e room_1 s m args below meth c1 H locs cells slots Q (F0 m 281 ls []) := by
  obtain ⟨hl0, hx, hb, hml, hown, hts, hX, hbl, hK, hN, hZ, hXA, hXW, hNC⟩ := lc
  have hA : ∀ q : Nat, s.heap.size ≤ q → (fun q : Nat => s.heap.size ≤ q) q := fun _ h => h
  have hbA : ¬ (fun q : Nat => s.heap.size ≤ q) b := Nat.not_le.mpr hbl
  refine lv_aload_n hx hb dL_law_281 rfl (lv_at hl 1 rfl) ?_
  obtain ⟨r, x', e1, e2, e3, hS'⟩ := o_errorOffset hSim 
  have hP2 : va_P G vwCl ((wM c am x ++ wQ c out f) ++ wH c ah ag ar ps sH) H := by rw [List.append_assoc]; exact hP
  have hD2 : va_D (fun q : Nat => s.heap.size ≤ q) ((wM c am x ++ wQ c out f) ++ wH c ah ag ar ps sH) := by rw [List.append_assoc]; exact hD
  refine zcFVi (wr := wM c am x ++ wQ c out f) (wc := wH c ah ag ar ps sH) (As := []) (rest := []) ⟨hx, hb, hml, hown, hts⟩ (k_X7_errorOffset l G K c ah ag ar (ps := ps) (hm := e1)) (cwV 0 hts gL_law_X7_errorOffset rfl rfl rfl (by decide +kernel) ⟨Nat.le_of_ble_eq_true rfl, Nat.le_of_ble_eq_true rfl⟩) hK hN hZ hP2 hD2 hS hA (va_recv hK hP2 (ci := 7) (q0 := 19) rfl rfl) rfl hl.1 rfl (Nat.le_of_ble_eq_true rfl) dL_law_282 ⟨by show cells ≤ 601024; omega, by show slots ≤ 7293034; omega⟩ (fun H locs hP hD hS => ?_)
  rw [List.append_assoc] at hP hD
  refine lv_aload_n hx hb dL_law_285 rfl (lv_at hl 2 rfl) ?_
  refine zcEVi (wc := wM c am x) (wr := wQ c out f ++ wH c ah ag ar ps sH) (As := []) (rest := [.int r]) ⟨hx, hb, hml, hown, hts⟩ (k_X8_errorOffset l G K c am (hm := e2)) (cwV 0 hts gL_law_X8_errorOffset rfl rfl rfl (by decide +kernel) ⟨Nat.le_of_ble_eq_true rfl, Nat.le_of_ble_eq_true rfl⟩) hK hN hZ hP hD hS hA (va_recv hK hP (ci := 8) (q0 := 0) rfl rfl) rfl hl.1 rfl (Nat.le_of_ble_eq_true rfl) dL_law_286 ⟨by show cells ≤ 601024; omega, by show slots ≤ 7293034; omega⟩ (fun H locs hP hD hS => ?_)
  refine lv_icmp_eq (tgt := 1325) hx hb dL_law_289 (by decide) (fun _ => ?_) (fun h => absurd rfl h)
  refine W.widen (k := cells + 3) (n := slots + 518) (by omega) (by omega) ?_
  exact kk sH x' ps f H locs ls hS' hP hD hS hl
theorem case_best {p : Program} {l : Launch} {e : Env} {s : State} {m : MethodId} {args : Array Value} {below : List Frame} {meth : Method} {c1 : Code} {Q : State → Prop} {G : va_G} {K : (Nat → Nat) × (Nat → Nat)} {c : Nat → ClassId} {am ah : Nat → Nat} {ag : Nat → Nat → Nat} {ar : Nat → Nat} {out b L : Nat} {xs : Nat → Int32} (lc : LC p l s m args c1 G K c b L xs) {cells slots : Nat} {v4 : Int32}  (hc : cells + 3 ≤ 601024 ∧ slots + 518 ≤ 7293034) {sH : HS} {x : MS} {ps : PS} {f : Nat → Int64} (hSim : Sim sH x ps) {H : Heap} {locs : List Loc} {ls : Array Slot} (hP : va_P G vwCl (wM c am x ++ (wQ c out f ++ wH c ah ag ar ps sH)) H) (hD : va_D (fun q : Nat => s.heap.size ≤ q) (wM c am x ++ (wQ c out f ++ wH c ah ag ar ps sH))) (hS : va_S (fun q : Nat => s.heap.size ≤ q) s.heap H locs) (hl : lv_has ls 9 [(0, .ref b), (1, .ref (ah 0)), (2, .ref (am 0)), (3, .ref out), (4, .int v4)])
    (kk : ∀ (sH' : HS) (x' : MS) (ps' : PS) (f' : Nat → Int64) (H : Heap) (locs : List Loc) (ls : Array Slot), Sim sH' x' ps' → va_P G vwCl (wM c am x' ++ (wQ c out f' ++ wH c ah ag ar ps' sH')) H → va_D (fun q : Nat => s.heap.size ≤ q) (wM c am x' ++ (wQ c out f' ++ wH c ah ag ar ps' sH')) → va_S (fun q : Nat => s.heap.size ≤ q) s.heap H locs → lv_has ls 9 [(0, .ref b), (1, .ref (ah 0)), (2, .ref (am 0)), (3, .ref out), (4, .int v4)] → W p l e room_1 s m args below meth c1 H locs (cells + 3) (slots + 518) Q (F0 m 1325 ls [])) : W p l e room_1 s m args below meth c1 H locs cells slots Q (F0 m 690 ls []) := by
  obtain ⟨hl0, hx, hb, hml, hown, hts, hX, hbl, hK, hN, hZ, hXA, hXW, hNC⟩ := lc
  have hA : ∀ q : Nat, s.heap.size ≤ q → (fun q : Nat => s.heap.size ≤ q) q := fun _ h => h
  have hbA : ¬ (fun q : Nat => s.heap.size ≤ q) b := Nat.not_le.mpr hbl
  refine lv_aload_n hx hb dL_law_690 rfl (lv_at hl 1 rfl) ?_
  obtain ⟨r, ps', x', e1, e2, e3, hS', _⟩ := o_best hSim 
  have hP2 : va_P G vwCl ((wM c am x ++ wQ c out f) ++ wH c ah ag ar ps sH) H := by rw [List.append_assoc]; exact hP
  have hD2 : va_D (fun q : Nat => s.heap.size ≤ q) ((wM c am x ++ wQ c out f) ++ wH c ah ag ar ps sH) := by rw [List.append_assoc]; exact hD
  refine zcFVi (wr := wM c am x ++ wQ c out f) (wc := wH c ah ag ar ps sH) (As := []) (rest := []) ⟨hx, hb, hml, hown, hts⟩ (k_X7_best l G K c ah ag ar (ps := ps) (hm := e1)) (cwV 0 hts gL_law_X7_best rfl rfl rfl (by decide +kernel) ⟨Nat.le_of_ble_eq_true rfl, Nat.le_of_ble_eq_true rfl⟩) hK hN hZ hP2 hD2 hS hA (va_recv hK hP2 (ci := 7) (q0 := 19) rfl rfl) rfl hl.1 rfl (Nat.le_of_ble_eq_true rfl) dL_law_691 ⟨by show cells ≤ 601024; omega, by show slots ≤ 7293034; omega⟩ (fun H locs hP hD hS => ?_)
  rw [List.append_assoc] at hP hD
  refine lv_aload_n hx hb dL_law_694 rfl (lv_at hl 2 rfl) ?_
  refine zcEVi (wc := wM c am x) (wr := wQ c out f ++ wH c ah ag ar ps' sH) (As := []) (rest := [.int r]) ⟨hx, hb, hml, hown, hts⟩ (k_X8_best l G K c am (hm := e2)) (cwV 0 hts gL_law_X8_best rfl rfl rfl (by decide +kernel) ⟨Nat.le_of_ble_eq_true rfl, Nat.le_of_ble_eq_true rfl⟩) hK hN hZ hP hD hS hA (va_recv hK hP (ci := 8) (q0 := 0) rfl rfl) rfl hl.1 rfl (Nat.le_of_ble_eq_true rfl) dL_law_695 ⟨by show cells ≤ 601024; omega, by show slots ≤ 7293034; omega⟩ (fun H locs hP hD hS => ?_)
  refine lv_icmp_eq (tgt := 1325) hx hb dL_law_698 (by decide) (fun _ => ?_) (fun h => absurd rfl h)
  refine W.widen (k := cells + 3) (n := slots + 518) (by omega) (by omega) ?_
  exact kk sH x' ps' f H locs ls hS' hP hD hS hl
theorem case_winner {p : Program} {l : Launch} {e : Env} {s : State} {m : MethodId} {args : Array Value} {below : List Frame} {meth : Method} {c1 : Code} {Q : State → Prop} {G : va_G} {K : (Nat → Nat) × (Nat → Nat)} {c : Nat → ClassId} {am ah : Nat → Nat} {ag : Nat → Nat → Nat} {ar : Nat → Nat} {out b L : Nat} {xs : Nat → Int32} (lc : LC p l s m args c1 G K c b L xs) {cells slots : Nat} {v4 : Int32}  (hc : cells + 3 ≤ 601024 ∧ slots + 518 ≤ 7293034) {sH : HS} {x : MS} {ps : PS} {f : Nat → Int64} (hSim : Sim sH x ps) {H : Heap} {locs : List Loc} {ls : Array Slot} (hP : va_P G vwCl (wM c am x ++ (wQ c out f ++ wH c ah ag ar ps sH)) H) (hD : va_D (fun q : Nat => s.heap.size ≤ q) (wM c am x ++ (wQ c out f ++ wH c ah ag ar ps sH))) (hS : va_S (fun q : Nat => s.heap.size ≤ q) s.heap H locs) (hl : lv_has ls 9 [(0, .ref b), (1, .ref (ah 0)), (2, .ref (am 0)), (3, .ref out), (4, .int v4)])
    (kk : ∀ (sH' : HS) (x' : MS) (ps' : PS) (f' : Nat → Int64) (H : Heap) (locs : List Loc) (ls : Array Slot), Sim sH' x' ps' → va_P G vwCl (wM c am x' ++ (wQ c out f' ++ wH c ah ag ar ps' sH')) H → va_D (fun q : Nat => s.heap.size ≤ q) (wM c am x' ++ (wQ c out f' ++ wH c ah ag ar ps' sH')) → va_S (fun q : Nat => s.heap.size ≤ q) s.heap H locs → lv_has ls 9 [(0, .ref b), (1, .ref (ah 0)), (2, .ref (am 0)), (3, .ref out), (4, .int v4)] → W p l e room_1 s m args below meth c1 H locs (cells + 3) (slots + 518) Q (F0 m 1325 ls [])) : W p l e room_1 s m args below meth c1 H locs cells slots Q (F0 m 951 ls []) := by
  obtain ⟨hl0, hx, hb, hml, hown, hts, hX, hbl, hK, hN, hZ, hXA, hXW, hNC⟩ := lc
  have hA : ∀ q : Nat, s.heap.size ≤ q → (fun q : Nat => s.heap.size ≤ q) q := fun _ h => h
  have hbA : ¬ (fun q : Nat => s.heap.size ≤ q) b := Nat.not_le.mpr hbl
  refine lv_aload_n hx hb dL_law_951 rfl (lv_at hl 1 rfl) ?_
  obtain ⟨r, sH', ps', x', e1, e2, e3, hS', _⟩ := o_winner hSim 
  have hP2 : va_P G vwCl ((wM c am x ++ wQ c out f) ++ wH c ah ag ar ps sH) H := by rw [List.append_assoc]; exact hP
  have hD2 : va_D (fun q : Nat => s.heap.size ≤ q) ((wM c am x ++ wQ c out f) ++ wH c ah ag ar ps sH) := by rw [List.append_assoc]; exact hD
  refine zcFVi (wr := wM c am x ++ wQ c out f) (wc := wH c ah ag ar ps sH) (As := []) (rest := []) ⟨hx, hb, hml, hown, hts⟩ (k_X7_winner l G K c ah ag ar (ps := ps) (hm := e1)) (cwV 0 hts gL_law_X7_winner rfl rfl rfl (by decide +kernel) ⟨Nat.le_of_ble_eq_true rfl, Nat.le_of_ble_eq_true rfl⟩) hK hN hZ hP2 hD2 hS hA (va_recv hK hP2 (ci := 7) (q0 := 19) rfl rfl) rfl hl.1 rfl (Nat.le_of_ble_eq_true rfl) dL_law_952 ⟨by show cells ≤ 601024; omega, by show slots ≤ 7293034; omega⟩ (fun H locs hP hD hS => ?_)
  rw [List.append_assoc] at hP hD
  refine lv_aload_n hx hb dL_law_955 rfl (lv_at hl 2 rfl) ?_
  refine zcEVi (wc := wM c am x) (wr := wQ c out f ++ wH c ah ag ar ps' sH') (As := []) (rest := [.int r]) ⟨hx, hb, hml, hown, hts⟩ (k_X8_winner l G K c am (hm := e2)) (cwV 0 hts gL_law_X8_winner rfl rfl rfl (by decide +kernel) ⟨Nat.le_of_ble_eq_true rfl, Nat.le_of_ble_eq_true rfl⟩) hK hN hZ hP hD hS hA (va_recv hK hP (ci := 8) (q0 := 0) rfl rfl) rfl hl.1 rfl (Nat.le_of_ble_eq_true rfl) dL_law_956 ⟨by show cells ≤ 601024; omega, by show slots ≤ 7293034; omega⟩ (fun H locs hP hD hS => ?_)
  refine lv_icmp_eq (tgt := 1325) hx hb dL_law_959 (by decide) (fun _ => ?_) (fun h => absurd rfl h)
  refine W.widen (k := cells + 3) (n := slots + 518) (by omega) (by omega) ?_
  exact kk sH' x' ps' f H locs ls hS' hP hD hS hl
theorem case_stepsToEnd {p : Program} {l : Launch} {e : Env} {s : State} {m : MethodId} {args : Array Value} {below : List Frame} {meth : Method} {c1 : Code} {Q : State → Prop} {G : va_G} {K : (Nat → Nat) × (Nat → Nat)} {c : Nat → ClassId} {am ah : Nat → Nat} {ag : Nat → Nat → Nat} {ar : Nat → Nat} {out b L : Nat} {xs : Nat → Int32} (lc : LC p l s m args c1 G K c b L xs) {cells slots : Nat} {v4 : Int32}  (hc : cells + 3 ≤ 601024 ∧ slots + 518 ≤ 7293034) {sH : HS} {x : MS} {ps : PS} {f : Nat → Int64} (hSim : Sim sH x ps) {H : Heap} {locs : List Loc} {ls : Array Slot} (hP : va_P G vwCl (wM c am x ++ (wQ c out f ++ wH c ah ag ar ps sH)) H) (hD : va_D (fun q : Nat => s.heap.size ≤ q) (wM c am x ++ (wQ c out f ++ wH c ah ag ar ps sH))) (hS : va_S (fun q : Nat => s.heap.size ≤ q) s.heap H locs) (hl : lv_has ls 9 [(0, .ref b), (1, .ref (ah 0)), (2, .ref (am 0)), (3, .ref out), (4, .int v4)])
    (kk : ∀ (sH' : HS) (x' : MS) (ps' : PS) (f' : Nat → Int64) (H : Heap) (locs : List Loc) (ls : Array Slot), Sim sH' x' ps' → va_P G vwCl (wM c am x' ++ (wQ c out f' ++ wH c ah ag ar ps' sH')) H → va_D (fun q : Nat => s.heap.size ≤ q) (wM c am x' ++ (wQ c out f' ++ wH c ah ag ar ps' sH')) → va_S (fun q : Nat => s.heap.size ≤ q) s.heap H locs → lv_has ls 9 [(0, .ref b), (1, .ref (ah 0)), (2, .ref (am 0)), (3, .ref out), (4, .int v4)] → W p l e room_1 s m args below meth c1 H locs (cells + 3) (slots + 518) Q (F0 m 1325 ls [])) : W p l e room_1 s m args below meth c1 H locs cells slots Q (F0 m 964 ls []) := by
  obtain ⟨hl0, hx, hb, hml, hown, hts, hX, hbl, hK, hN, hZ, hXA, hXW, hNC⟩ := lc
  have hA : ∀ q : Nat, s.heap.size ≤ q → (fun q : Nat => s.heap.size ≤ q) q := fun _ h => h
  have hbA : ¬ (fun q : Nat => s.heap.size ≤ q) b := Nat.not_le.mpr hbl
  refine lv_aload_n hx hb dL_law_964 rfl (lv_at hl 1 rfl) ?_
  obtain ⟨r, sH', ps', x', e1, e2, e3, hS', _⟩ := o_steps hSim 
  have hP2 : va_P G vwCl ((wM c am x ++ wQ c out f) ++ wH c ah ag ar ps sH) H := by rw [List.append_assoc]; exact hP
  have hD2 : va_D (fun q : Nat => s.heap.size ≤ q) ((wM c am x ++ wQ c out f) ++ wH c ah ag ar ps sH) := by rw [List.append_assoc]; exact hD
  refine zcFVi (wr := wM c am x ++ wQ c out f) (wc := wH c ah ag ar ps sH) (As := []) (rest := []) ⟨hx, hb, hml, hown, hts⟩ (k_X7_stepsToEnd l G K c ah ag ar (ps := ps) (hm := e1)) (cwV 0 hts gL_law_X7_stepsToEnd rfl rfl rfl (by decide +kernel) ⟨Nat.le_of_ble_eq_true rfl, Nat.le_of_ble_eq_true rfl⟩) hK hN hZ hP2 hD2 hS hA (va_recv hK hP2 (ci := 7) (q0 := 19) rfl rfl) rfl hl.1 rfl (Nat.le_of_ble_eq_true rfl) dL_law_965 ⟨by show cells ≤ 601024; omega, by show slots ≤ 7293034; omega⟩ (fun H locs hP hD hS => ?_)
  rw [List.append_assoc] at hP hD
  refine lv_aload_n hx hb dL_law_968 rfl (lv_at hl 2 rfl) ?_
  refine zcEVi (wc := wM c am x) (wr := wQ c out f ++ wH c ah ag ar ps' sH') (As := []) (rest := [.int r]) ⟨hx, hb, hml, hown, hts⟩ (k_X8_stepsToEnd l G K c am (hm := e2)) (cwV 0 hts gL_law_X8_stepsToEnd rfl rfl rfl (by decide +kernel) ⟨Nat.le_of_ble_eq_true rfl, Nat.le_of_ble_eq_true rfl⟩) hK hN hZ hP hD hS hA (va_recv hK hP (ci := 8) (q0 := 0) rfl rfl) rfl hl.1 rfl (Nat.le_of_ble_eq_true rfl) dL_law_969 ⟨by show cells ≤ 601024; omega, by show slots ≤ 7293034; omega⟩ (fun H locs hP hD hS => ?_)
  refine lv_icmp_eq (tgt := 1325) hx hb dL_law_972 (by decide) (fun _ => ?_) (fun h => absurd rfl h)
  refine W.widen (k := cells + 3) (n := slots + 518) (by omega) (by omega) ?_
  exact kk sH' x' ps' f H locs ls hS' hP hD hS hl
theorem case_undo {p : Program} {l : Launch} {e : Env} {s : State} {m : MethodId} {args : Array Value} {below : List Frame} {meth : Method} {c1 : Code} {Q : State → Prop} {G : va_G} {K : (Nat → Nat) × (Nat → Nat)} {c : Nat → ClassId} {am ah : Nat → Nat} {ag : Nat → Nat → Nat} {ar : Nat → Nat} {out b L : Nat} {xs : Nat → Int32} (lc : LC p l s m args c1 G K c b L xs) {cells slots : Nat} {v4 : Int32}  (hc : cells + 3 ≤ 601024 ∧ slots + 518 ≤ 7293034) {sH : HS} {x : MS} {ps : PS} {f : Nat → Int64} (hSim : Sim sH x ps) {H : Heap} {locs : List Loc} {ls : Array Slot} (hP : va_P G vwCl (wM c am x ++ (wQ c out f ++ wH c ah ag ar ps sH)) H) (hD : va_D (fun q : Nat => s.heap.size ≤ q) (wM c am x ++ (wQ c out f ++ wH c ah ag ar ps sH))) (hS : va_S (fun q : Nat => s.heap.size ≤ q) s.heap H locs) (hl : lv_has ls 9 [(0, .ref b), (1, .ref (ah 0)), (2, .ref (am 0)), (3, .ref out), (4, .int v4)])
    (kk : ∀ (sH' : HS) (x' : MS) (ps' : PS) (f' : Nat → Int64) (H : Heap) (locs : List Loc) (ls : Array Slot), Sim sH' x' ps' → va_P G vwCl (wM c am x' ++ (wQ c out f' ++ wH c ah ag ar ps' sH')) H → va_D (fun q : Nat => s.heap.size ≤ q) (wM c am x' ++ (wQ c out f' ++ wH c ah ag ar ps' sH')) → va_S (fun q : Nat => s.heap.size ≤ q) s.heap H locs → lv_has ls 9 [(0, .ref b), (1, .ref (ah 0)), (2, .ref (am 0)), (3, .ref out), (4, .int v4)] → W p l e room_1 s m args below meth c1 H locs (cells + 3) (slots + 518) Q (F0 m 1325 ls [])) : W p l e room_1 s m args below meth c1 H locs cells slots Q (F0 m 1298 ls []) := by
  obtain ⟨hl0, hx, hb, hml, hown, hts, hX, hbl, hK, hN, hZ, hXA, hXW, hNC⟩ := lc
  have hA : ∀ q : Nat, s.heap.size ≤ q → (fun q : Nat => s.heap.size ≤ q) q := fun _ h => h
  have hbA : ¬ (fun q : Nat => s.heap.size ≤ q) b := Nat.not_le.mpr hbl
  refine lv_aload_n hx hb dL_law_1298 rfl (lv_at hl 1 rfl) ?_
  obtain ⟨r, sH', x', e1, e2, e3, hS'⟩ := o_undo hSim 
  have hP2 : va_P G vwCl ((wM c am x ++ wQ c out f) ++ wH c ah ag ar ps sH) H := by rw [List.append_assoc]; exact hP
  have hD2 : va_D (fun q : Nat => s.heap.size ≤ q) ((wM c am x ++ wQ c out f) ++ wH c ah ag ar ps sH) := by rw [List.append_assoc]; exact hD
  refine zcFVi (wr := wM c am x ++ wQ c out f) (wc := wH c ah ag ar ps sH) (As := []) (rest := []) ⟨hx, hb, hml, hown, hts⟩ (k_X7_undo l G K c ah ag ar (ps := ps) (hm := e1)) (cwV 0 hts gL_law_X7_undo rfl rfl rfl (by decide +kernel) ⟨Nat.le_of_ble_eq_true rfl, Nat.le_of_ble_eq_true rfl⟩) hK hN hZ hP2 hD2 hS hA (va_recv hK hP2 (ci := 7) (q0 := 19) rfl rfl) rfl hl.1 rfl (Nat.le_of_ble_eq_true rfl) dL_law_1299 ⟨by show cells ≤ 601024; omega, by show slots ≤ 7293034; omega⟩ (fun H locs hP hD hS => ?_)
  rw [List.append_assoc] at hP hD
  refine lv_aload_n hx hb dL_law_1302 rfl (lv_at hl 2 rfl) ?_
  refine zcEVi (wc := wM c am x) (wr := wQ c out f ++ wH c ah ag ar ps sH') (As := []) (rest := [.int r]) ⟨hx, hb, hml, hown, hts⟩ (k_X8_undo l G K c am (hm := e2)) (cwV 0 hts gL_law_X8_undo rfl rfl rfl (by decide +kernel) ⟨Nat.le_of_ble_eq_true rfl, Nat.le_of_ble_eq_true rfl⟩) hK hN hZ hP hD hS hA (va_recv hK hP (ci := 8) (q0 := 0) rfl rfl) rfl hl.1 rfl (Nat.le_of_ble_eq_true rfl) dL_law_1303 ⟨by show cells ≤ 601024; omega, by show slots ≤ 7293034; omega⟩ (fun H locs hP hD hS => ?_)
  refine lv_icmp_eq (tgt := 1325) hx hb dL_law_1306 (by decide) (fun _ => ?_) (fun h => absurd rfl h)
  refine W.widen (k := cells + 3) (n := slots + 518) (by omega) (by omega) ?_
  exact kk sH' x' ps f H locs ls hS' hP hD hS hl
theorem case_checksum {p : Program} {l : Launch} {e : Env} {s : State} {m : MethodId} {args : Array Value} {below : List Frame} {meth : Method} {c1 : Code} {Q : State → Prop} {G : va_G} {K : (Nat → Nat) × (Nat → Nat)} {c : Nat → ClassId} {am ah : Nat → Nat} {ag : Nat → Nat → Nat} {ar : Nat → Nat} {out b L : Nat} {xs : Nat → Int32} (lc : LC p l s m args c1 G K c b L xs) {cells slots : Nat} {v4 : Int32}  (hc : cells + 3 ≤ 601024 ∧ slots + 518 ≤ 7293034) {sH : HS} {x : MS} {ps : PS} {f : Nat → Int64} (hSim : Sim sH x ps) {H : Heap} {locs : List Loc} {ls : Array Slot} (hP : va_P G vwCl (wM c am x ++ (wQ c out f ++ wH c ah ag ar ps sH)) H) (hD : va_D (fun q : Nat => s.heap.size ≤ q) (wM c am x ++ (wQ c out f ++ wH c ah ag ar ps sH))) (hS : va_S (fun q : Nat => s.heap.size ≤ q) s.heap H locs) (hl : lv_has ls 9 [(0, .ref b), (1, .ref (ah 0)), (2, .ref (am 0)), (3, .ref out), (4, .int v4)])
    (kk : ∀ (sH' : HS) (x' : MS) (ps' : PS) (f' : Nat → Int64) (H : Heap) (locs : List Loc) (ls : Array Slot), Sim sH' x' ps' → va_P G vwCl (wM c am x' ++ (wQ c out f' ++ wH c ah ag ar ps' sH')) H → va_D (fun q : Nat => s.heap.size ≤ q) (wM c am x' ++ (wQ c out f' ++ wH c ah ag ar ps' sH')) → va_S (fun q : Nat => s.heap.size ≤ q) s.heap H locs → lv_has ls 9 [(0, .ref b), (1, .ref (ah 0)), (2, .ref (am 0)), (3, .ref out), (4, .int v4)] → W p l e room_1 s m args below meth c1 H locs (cells + 3) (slots + 518) Q (F0 m 1325 ls [])) : W p l e room_1 s m args below meth c1 H locs cells slots Q (F0 m 1311 ls []) := by
  obtain ⟨hl0, hx, hb, hml, hown, hts, hX, hbl, hK, hN, hZ, hXA, hXW, hNC⟩ := lc
  have hA : ∀ q : Nat, s.heap.size ≤ q → (fun q : Nat => s.heap.size ≤ q) q := fun _ h => h
  have hbA : ¬ (fun q : Nat => s.heap.size ≤ q) b := Nat.not_le.mpr hbl
  refine lv_aload_n hx hb dL_law_1311 rfl (lv_at hl 1 rfl) ?_
  obtain ⟨r, x', e1, e2, e3, hS'⟩ := o_checksum hSim 
  have hP2 : va_P G vwCl ((wM c am x ++ wQ c out f) ++ wH c ah ag ar ps sH) H := by rw [List.append_assoc]; exact hP
  have hD2 : va_D (fun q : Nat => s.heap.size ≤ q) ((wM c am x ++ wQ c out f) ++ wH c ah ag ar ps sH) := by rw [List.append_assoc]; exact hD
  refine zcFVl (wr := wM c am x ++ wQ c out f) (wc := wH c ah ag ar ps sH) (As := []) (rest := []) ⟨hx, hb, hml, hown, hts⟩ (k_X7_checksum l G K c ah ag ar (ps := ps) (hm := e1)) (cwV 0 hts gL_law_X7_checksum rfl rfl rfl (by decide +kernel) ⟨Nat.le_of_ble_eq_true rfl, Nat.le_of_ble_eq_true rfl⟩) hK hN hZ hP2 hD2 hS hA (va_recv hK hP2 (ci := 7) (q0 := 19) rfl rfl) rfl hl.1 rfl (Nat.le_of_ble_eq_true rfl) dL_law_1312 ⟨by show cells ≤ 601024; omega, by show slots ≤ 7293034; omega⟩ (fun H locs hP hD hS => ?_)
  rw [List.append_assoc] at hP hD
  refine lv_aload_n hx hb dL_law_1315 rfl (lv_at hl 2 rfl) ?_
  refine zcEVl (wc := wM c am x) (wr := wQ c out f ++ wH c ah ag ar ps sH) (As := []) (rest := [.long r]) ⟨hx, hb, hml, hown, hts⟩ (k_X8_checksum l G K c am (hm := e2)) (cwV 0 hts gL_law_X8_checksum rfl rfl rfl (by decide +kernel) ⟨Nat.le_of_ble_eq_true rfl, Nat.le_of_ble_eq_true rfl⟩) hK hN hZ hP hD hS hA (va_recv hK hP (ci := 8) (q0 := 0) rfl rfl) rfl hl.1 rfl (Nat.le_of_ble_eq_true rfl) dL_law_1316 ⟨by show cells ≤ 601024; omega, by show slots ≤ 7293034; omega⟩ (fun H locs hP hD hS => ?_)
  refine W.lcmp hx hb dL_law_1319 ?_
  refine lv_if_eq (tgt := 1325) hx hb dL_law_1320 (by decide) (fun _ => ?_) (fun h => absurd lcmp_self h)
  refine W.widen (k := cells + 3) (n := slots + 518) (by omega) (by omega) ?_
  exact kk sH x' ps f H locs ls hS' hP hD hS hl
