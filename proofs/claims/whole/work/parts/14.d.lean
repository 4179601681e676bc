section ZF
variable {p : Program} {l : Launch} {e : Env} {R : Room} {s : State} {m : MethodId} {args : Array Value} {below : List Frame} {meth : Method} {c : Code} {H : Heap} {locs : List Loc} {cells slots : Nat} {Q : State → Prop}
variable {cc : ByteArray} {pc : Nat} {ls : Array Slot} {A : Nat → Prop} {G : va_G} {K : (Nat → Nat) × (Nat → Nat)} {tys : List (ClassId × FieldType)} {wr wc w1 : va_W} {wds : List Cond} {rm : Room} {As rest st : List Value} {b : Addr} {y : MethodName} {bytes : ByteArray} {nL maxL n index : Nat} {Ts : List Cond} {own C host : String} {ret : Option FieldType} {E : String}
theorem zcFVd {r : UInt64} (S : CallFix p m c cc nL s args Ts own) (hM : zMd l y wds rm G K tys (.ref b :: As) wc w1 r) (cw : CallW R s args own C index y bytes maxL ret wds rm 0 0 n) (hK : va_K G vwCl tys s) (hN : NW K s) (hZ : ZE K A s s.heap) (hP : va_P G vwCl (wr ++ wc) H) (hD : va_D A (wr ++ wc)) (hS : va_S A s.heap H locs) (hA : ∀ q : Nat, s.heap.size ≤ q → A q) (hrv : ∃ cell : Cell, H[b]? = some cell ∧ cell.vm.isStatics = false ∧ s.vm.findClass C = some cell.cls) (hn : As.length = n) (hsz : ls.size = nL) (hst : st = As.reverse ++ .ref b :: rest) (hrest : (rest.map fun v => v.category).sum ≤ 8) (hdg : decode cc pc = .ok (.invokevirtual index, 3)) (hf : cells ≤ R.cells ∧ slots ≤ R.slots)
    (kk : ∀ (H1 : Heap) (locs1 : List Loc), va_P G vwCl (wr ++ w1) H1 → va_D A (wr ++ w1) → va_S A s.heap H1 locs1 → W p l e R s m args below meth c H1 locs1 cells slots Q (F0 m (pc + 3) ls (.double r :: rest))) : W p l e R s m args below meth c H locs cells slots Q (F0 m pc ls st) := by
  have hFc := zFc hD hS hA
  refine va_calld (va_runV (As := As) (rest := rest) S (hM H.size) cw ⟨zPc_blind, hrv, fun U hU hW => ⟨rfl, by rw [hU], by rw [hU]; exact zP_r hP, va_K.moved hW.alike hK, hN.warm hW, hZ.call hS hU hW hFc, (zD_r hD).weaken (fun _ _ _ _ => trivial)⟩⟩ rfl hn hsz hst (lv_room hrest) hdg hf) hS (fun q _ h => hFc q h) hFc (fun r2 u t H1 locs ht hvm hw hB hz1 hk1 hS => ?_)
  obtain ⟨hP1, hD1⟩ := hB
  rw [ht] at hP1
  obtain ⟨a1, a2⟩ := zjF hP hD hk1 hFc hP1 hD1
  rw [show r2 = r from hw]
  exact kk H1 locs a1 a2 hS
theorem zcEVd {r : UInt64} (S : CallFix p m c cc nL s args Ts own) (hM : zMd l y wds rm G K tys (.ref b :: As) wc w1 r) (cw : CallW R s args own C index y bytes maxL ret wds rm 0 0 n) (hK : va_K G vwCl tys s) (hN : NW K s) (hZ : ZE K A s s.heap) (hP : va_P G vwCl (wc ++ wr) H) (hD : va_D A (wc ++ wr)) (hS : va_S A s.heap H locs) (hA : ∀ q : Nat, s.heap.size ≤ q → A q) (hrv : ∃ cell : Cell, H[b]? = some cell ∧ cell.vm.isStatics = false ∧ s.vm.findClass C = some cell.cls) (hn : As.length = n) (hsz : ls.size = nL) (hst : st = As.reverse ++ .ref b :: rest) (hrest : (rest.map fun v => v.category).sum ≤ 8) (hdg : decode cc pc = .ok (.invokevirtual index, 3)) (hf : cells ≤ R.cells ∧ slots ≤ R.slots)
    (kk : ∀ (H1 : Heap) (locs1 : List Loc), va_P G vwCl (w1 ++ wr) H1 → va_D A (w1 ++ wr) → va_S A s.heap H1 locs1 → W p l e R s m args below meth c H1 locs1 cells slots Q (F0 m (pc + 3) ls (.double r :: rest))) : W p l e R s m args below meth c H locs cells slots Q (F0 m pc ls st) := zcFVd S hM cw hK hN hZ (zP_sw hP) (zD_sw hD) hS hA hrv hn hsz hst hrest hdg hf (fun H1 locs1 h1 h2 h3 => kk H1 locs1 (zP_sw h1) (zD_sw h2) h3)
end ZF
theorem case_meanPips {p : Program} {l : Launch} {e : Env} {s : State} {m : MethodId} {args : Array Value} {below : List Frame} {meth : Method} {c1 : Code} {Q : State → Prop} {G : va_G} {K : (Nat → Nat) × (Nat → Nat)} {c : Nat → ClassId} {am ah : Nat → Nat} {ag : Nat → Nat → Nat} {ar : Nat → Nat} {out b L : Nat} {xs : Nat → Int32} (lc : LC p l s m args c1 G K c b L xs) {cells slots : Nat} {v4 : Int32}  (hc : cells + 3 ≤ 601024 ∧ slots + 518 ≤ 7293034) {sH : HS} {x : MS} {ps : PS} {f : Nat → Int64} (hSim : Sim sH x ps) {H : Heap} {locs : List Loc} {ls : Array Slot} (hP : va_P G vwCl (wM c am x ++ (wQ c out f ++ wH c ah ag ar ps sH)) H) (hD : va_D (fun q : Nat => s.heap.size ≤ q) (wM c am x ++ (wQ c out f ++ wH c ah ag ar ps sH))) (hS : va_S (fun q : Nat => s.heap.size ≤ q) s.heap H locs) (hl : lv_has ls 9 [(0, .ref b), (1, .ref (ah 0)), (2, .ref (am 0)), (3, .ref out), (4, .int v4)])
    (kk : ∀ (sH' : HS) (x' : MS) (ps' : PS) (f' : Nat → Int64) (H : Heap) (locs : List Loc) (ls : Array Slot), Sim sH' x' ps' → va_P G vwCl (wM c am x' ++ (wQ c out f' ++ wH c ah ag ar ps' sH')) H → va_D (fun q : Nat => s.heap.size ≤ q) (wM c am x' ++ (wQ c out f' ++ wH c ah ag ar ps' sH')) → va_S (fun q : Nat => s.heap.size ≤ q) s.heap H locs → lv_has ls 9 [(0, .ref b), (1, .ref (ah 0)), (2, .ref (am 0)), (3, .ref out), (4, .int v4)] → W p l e room_1 s m args below meth c1 H locs (cells + 3) (slots + 518) Q (F0 m 1325 ls [])) : W p l e room_1 s m args below meth c1 H locs cells slots Q (F0 m 977 ls []) := by
  have lc0 := lc
  obtain ⟨hl0, hx, hb, hml, hown, hts, hX, hbl, hK, hN, hZ, hXA, hXW, hNC⟩ := lc
  have hA : ∀ q : Nat, s.heap.size ≤ q → (fun q : Nat => s.heap.size ≤ q) q := fun _ h => h
  have hbA : ¬ (fun q : Nat => s.heap.size ≤ q) b := Nat.not_le.mpr hbl
  refine lv_aload_n hx hb dL_law_977 rfl (lv_at hl 1 rfl) ?_
  obtain ⟨r, x', e1, e2, e3, hS'⟩ := o_mean hSim
  have hP2 : va_P G vwCl ((wM c am x ++ wQ c out f) ++ wH c ah ag ar ps sH) H := by rw [List.append_assoc]; exact hP
  have hD2 : va_D (fun q : Nat => s.heap.size ≤ q) ((wM c am x ++ wQ c out f) ++ wH c ah ag ar ps sH) := by rw [List.append_assoc]; exact hD
  refine zcFVd (wr := wM c am x ++ wQ c out f) (wc := wH c ah ag ar ps sH) (As := []) (rest := []) ⟨hx, hb, hml, hown, hts⟩ (k_X7_meanPips l G K c ah ag ar (ps := ps) (hm := e1)) (cwV 0 hts gL_law_X7_meanPips rfl rfl rfl (by decide +kernel) ⟨Nat.le_of_ble_eq_true rfl, Nat.le_of_ble_eq_true rfl⟩) hK hN hZ hP2 hD2 hS hA (va_recv hK hP2 (ci := 7) (q0 := 19) rfl rfl) rfl hl.1 rfl (Nat.le_of_ble_eq_true rfl) dL_law_978 ⟨by show cells ≤ 601024; omega, by show slots ≤ 7293034; omega⟩ (fun H locs hP hD hS => ?_)
  rw [List.append_assoc] at hP hD
  refine lv_dstore (lv' := [(5, .double r), (0, .ref b), (1, .ref (ah 0)), (2, .ref (am 0)), (3, .ref out), (4, .int v4)]) hx hb dL_law_981 hl (by decide) rfl (fun ls hl => ?_)
  refine lv_aload_n hx hb dL_law_983 rfl (lv_at hl 3 rfl) ?_
  refine zcEVd (wc := wM c am x) (wr := wQ c out f ++ wH c ah ag ar ps sH) (As := []) (rest := []) ⟨hx, hb, hml, hown, hts⟩ (k_X8_meanPips l G K c am (hm := e2)) (cwV 0 hts gL_law_X8_meanPips rfl rfl rfl (by decide +kernel) ⟨Nat.le_of_ble_eq_true rfl, Nat.le_of_ble_eq_true rfl⟩) hK hN hZ hP hD hS hA (va_recv hK hP (ci := 8) (q0 := 0) rfl rfl) rfl hl.1 rfl (Nat.le_of_ble_eq_true rfl) dL_law_984 ⟨by show cells ≤ 601024; omega, by show slots ≤ 7293034; omega⟩ (fun H locs hP hD hS => ?_)
  refine lv_dstore (lv' := [(7, .double r), (5, .double r), (0, .ref b), (1, .ref (ah 0)), (2, .ref (am 0)), (3, .ref out), (4, .int v4)]) hx hb dL_law_987 hl (by decide) rfl (fun ls hl => ?_)
  refine lv_dload hx hb dL_law_989 (lv_at hl 1 rfl) ?_
  refine lv_dload hx hb dL_law_991 (lv_at hl 0 rfl) ?_
  refine lv_dcmp hx hb dL_law_993 ?_
  refine lv_if_eq (tgt := 1015) hx hb dL_law_994 (by decide) (fun _ => ?_) (fun h0 => ?_)
  · skip
    refine lv_goto (tgt := 1325) hx hb dL_law_1015 (by decide) ?_
    refine W.widen (k := cells + 3) (n := slots + 518) (by omega) (by omega) ?_
    exact kk sH x' ps f H locs ls hS' hP hD hS (lv_sub hl [2, 3, 4, 5, 6] rfl)
  · skip
    refine lv_dload hx hb dL_law_997 (lv_at hl 1 rfl) ?_
    refine lv_dload hx hb dL_law_999 (lv_at hl 1 rfl) ?_
    refine lv_dcmp hx hb dL_law_1001 ?_
    refine lv_if_eq (tgt := 1013) hx hb dL_law_1002 (by decide) (fun h => absurd h h0) (fun _ => ?_)
    refine lv_dload hx hb dL_law_1005 (lv_at hl 0 rfl) ?_
    refine lv_dload hx hb dL_law_1007 (lv_at hl 0 rfl) ?_
    refine lv_dcmp hx hb dL_law_1009 ?_
    refine lv_if_ne (tgt := 1015) hx hb dL_law_1010 (by decide) (fun _ => ?_) (fun h => absurd h h0)
    refine lv_goto (tgt := 1325) hx hb dL_law_1015 (by decide) ?_
    refine W.widen (k := cells + 3) (n := slots + 518) (by omega) (by omega) ?_
    exact kk sH x' ps f H locs ls hS' hP hD hS (lv_sub hl [2, 3, 4, 5, 6] rfl)
