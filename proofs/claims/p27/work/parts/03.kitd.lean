section ZC
variable {p : Program} {l : Launch} {e : Env} {R : Room} {s : State} {m : MethodId} {args : Array Value} {below : List Frame} {meth : Method} {c : Code} {H : Heap} {locs : List Loc} {cells slots : Nat} {Q : State → Prop}
variable {cc : ByteArray} {pc : Nat} {ls : Array Slot} {A : Nat → Prop} {H0 : Heap} {G : va_G} {K : (Nat → Nat) × (Nat → Nat)} {tys : List (ClassId × FieldType)} {ws wc w1 : va_W} {wds : List Cond} {rm : Room} {As rest st : List Value} {b : Addr} {y : MethodName} {bytes : ByteArray} {nL maxL n index : Nat} {Ts : List Cond} {own C host : String} {ret : Option FieldType}
theorem zcVi {r : Int32} (S : CallFix p m c cc nL s args Ts own) (hM : zMi l y wds rm G K tys (.ref b :: As) wc w1 r) (cw : CallW R s args own C index y bytes maxL ret wds rm 0 0 n) (hK : va_K G vwCl tys s) (hN : NW K s) (hZ : ZE K A s s.heap) (hP : va_P G vwCl ws H) (hD : va_D A ws) (hS : va_S A s.heap H locs) (hA : ∀ q : Nat, s.heap.size ≤ q → A q) (hrv : ∃ cell : Cell, H[b]? = some cell ∧ cell.vm.isStatics = false ∧ s.vm.findClass C = some cell.cls) (is : List Nat) (hC : is.map (fun i => ws[i]?) = wc.map some) (hnd : va_nd is = true) (hf1 : w1.map Prod.fst = wc.map Prod.fst) (hn : As.length = n) (hsz : ls.size = nL) (hst : st = As.reverse ++ .ref b :: rest) (hrest : (rest.map fun v => v.category).sum ≤ 8) (hdg : decode cc pc = .ok (.invokevirtual index, 3)) (hf : cells ≤ R.cells ∧ slots ≤ R.slots)
    (kk : ∀ (H1 : Heap) (locs1 : List Loc), va_P G vwCl (zset ws is w1) H1 → va_D A (zset ws is w1) → va_S A s.heap H1 locs1 → W p l e R s m args below meth c H1 locs1 cells slots Q (F0 m (pc + 3) ls (.int r :: rest))) : W p l e R s m args below meth c H locs cells slots Q (F0 m pc ls st) := by
  have hPc := zsubP hP is hC
  have hDc := hD.sub (ws' := wc) is hnd hC
  have hFc := zfree hD hS hA is hC
  refine va_calli (va_runV (As := As) (rest := rest) S (hM H.size) cw ⟨zPc_blind, hrv, fun U hU hW => ⟨rfl, by rw [hU], by rw [hU]; exact hPc, va_K.moved hW.alike hK, hN.warm hW, hZ.call hS hU hW hFc, hDc.weaken (fun _ _ _ _ => trivial)⟩⟩ rfl hn hsz hst (lv_room hrest) hdg hf) hS (fun q _ h => hFc q h) hFc (fun r2 u t H1 locs ht hvm hw hB hz1 hk1 hS => ?_)
  obtain ⟨hP1, hD1⟩ := hB
  rw [ht] at hP1
  obtain ⟨a1, a2⟩ := zj hP hD is hC hf1 hk1 hP1
  rw [show r2 = r from hw]
  exact kk H1 locs a1 a2 hS
theorem zcVNi {r : Int32} (S : CallFix p m c cc nL s args Ts own) (hM : zMi l y wds rm G K tys (.ref b :: As) wc w1 r) (cw : va_CN R s args own index y host bytes maxL ret wds rm 0 0 n ∧ (Cond.instanceMethod y).before args s = true ∧ (Cond.selects C y y).before args s = true) (hK : va_K G vwCl tys s) (hN : NW K s) (hZ : ZE K A s s.heap) (hP : va_P G vwCl ws H) (hD : va_D A ws) (hS : va_S A s.heap H locs) (hA : ∀ q : Nat, s.heap.size ≤ q → A q) (hrv : ∃ cell : Cell, H[b]? = some cell ∧ cell.vm.isStatics = false ∧ s.vm.findClass C = some cell.cls) (is : List Nat) (hC : is.map (fun i => ws[i]?) = wc.map some) (hnd : va_nd is = true) (hf1 : w1.map Prod.fst = wc.map Prod.fst) (hn : As.length = n) (hsz : ls.size = nL) (hst : st = As.reverse ++ .ref b :: rest) (hrest : (rest.map fun v => v.category).sum ≤ 8) (hdg : decode cc pc = .ok (.invokevirtual index, 3)) (hf : cells ≤ R.cells ∧ slots ≤ R.slots)
    (kk : ∀ (H1 : Heap) (locs1 : List Loc), va_P G vwCl (zset ws is w1) H1 → va_D A (zset ws is w1) → va_S A s.heap H1 locs1 → W p l e R s m args below meth c H1 locs1 cells slots Q (F0 m (pc + 3) ls (.int r :: rest))) : W p l e R s m args below meth c H locs cells slots Q (F0 m pc ls st) := by
  have hPc := zsubP hP is hC
  have hDc := hD.sub (ws' := wc) is hnd hC
  have hFc := zfree hD hS hA is hC
  refine va_calli (va_runVN (As := As) (rest := rest) S (hM H.size) cw ⟨zPc_blind, hrv, fun U hU hW => ⟨rfl, by rw [hU], by rw [hU]; exact hPc, va_K.moved hW.alike hK, hN.warm hW, hZ.call hS hU hW hFc, hDc.weaken (fun _ _ _ _ => trivial)⟩⟩ rfl hn hsz hst (lv_room hrest) hdg hf) hS (fun q _ h => hFc q h) hFc (fun r2 u t H1 locs ht hvm hw hB hz1 hk1 hS => ?_)
  obtain ⟨hP1, hD1⟩ := hB
  rw [ht] at hP1
  obtain ⟨a1, a2⟩ := zj hP hD is hC hf1 hk1 hP1
  rw [show r2 = r from hw]
  exact kk H1 locs a1 a2 hS
theorem zcSi {r : Int32} (S : CallFix p m c cc nL s args Ts own) (hM : zMi l y wds rm G K tys (As) wc w1 r) (cw : CallB R s args own index y bytes maxL ret wds rm 0 0 n ∧ (Cond.static y).before args s = true) (hK : va_K G vwCl tys s) (hN : NW K s) (hZ : ZE K A s s.heap) (hP : va_P G vwCl ws H) (hD : va_D A ws) (hS : va_S A s.heap H locs) (hA : ∀ q : Nat, s.heap.size ≤ q → A q) (is : List Nat) (hC : is.map (fun i => ws[i]?) = wc.map some) (hnd : va_nd is = true) (hf1 : w1.map Prod.fst = wc.map Prod.fst) (hn : As.length = n) (hsz : ls.size = nL) (hst : st = As.reverse ++ rest) (hrest : (rest.map fun v => v.category).sum ≤ 8) (hdg : decode cc pc = .ok (.invokestatic index, 3)) (hf : cells ≤ R.cells ∧ slots ≤ R.slots)
    (kk : ∀ (H1 : Heap) (locs1 : List Loc), va_P G vwCl (zset ws is w1) H1 → va_D A (zset ws is w1) → va_S A s.heap H1 locs1 → W p l e R s m args below meth c H1 locs1 cells slots Q (F0 m (pc + 3) ls (.int r :: rest))) : W p l e R s m args below meth c H locs cells slots Q (F0 m pc ls st) := by
  have hPc := zsubP hP is hC
  have hDc := hD.sub (ws' := wc) is hnd hC
  have hFc := zfree hD hS hA is hC
  refine va_calli (va_runS (As := As) (rest := rest) S (hM H.size) cw ⟨zPc_blind, fun U hU hW => ⟨rfl, by rw [hU], by rw [hU]; exact hPc, va_K.moved hW.alike hK, hN.warm hW, hZ.call hS hU hW hFc, hDc.weaken (fun _ _ _ _ => trivial)⟩⟩ rfl hn hsz hst (lv_room hrest) hdg hf) hS (fun q _ h => hFc q h) hFc (fun r2 u t H1 locs ht hvm hw hB hz1 hk1 hS => ?_)
  obtain ⟨hP1, hD1⟩ := hB
  rw [ht] at hP1
  obtain ⟨a1, a2⟩ := zj hP hD is hC hf1 hk1 hP1
  rw [show r2 = r from hw]
  exact kk H1 locs a1 a2 hS
theorem zcSNi {r : Int32} (S : CallFix p m c cc nL s args Ts own) (hM : zMi l y wds rm G K tys (As) wc w1 r) (cw : va_CN R s args own index y host bytes maxL ret wds rm 0 0 n ∧ (Cond.static y).before args s = true ∧ True) (hK : va_K G vwCl tys s) (hN : NW K s) (hZ : ZE K A s s.heap) (hP : va_P G vwCl ws H) (hD : va_D A ws) (hS : va_S A s.heap H locs) (hA : ∀ q : Nat, s.heap.size ≤ q → A q) (is : List Nat) (hC : is.map (fun i => ws[i]?) = wc.map some) (hnd : va_nd is = true) (hf1 : w1.map Prod.fst = wc.map Prod.fst) (hn : As.length = n) (hsz : ls.size = nL) (hst : st = As.reverse ++ rest) (hrest : (rest.map fun v => v.category).sum ≤ 8) (hdg : decode cc pc = .ok (.invokestatic index, 3)) (hf : cells ≤ R.cells ∧ slots ≤ R.slots)
    (kk : ∀ (H1 : Heap) (locs1 : List Loc), va_P G vwCl (zset ws is w1) H1 → va_D A (zset ws is w1) → va_S A s.heap H1 locs1 → W p l e R s m args below meth c H1 locs1 cells slots Q (F0 m (pc + 3) ls (.int r :: rest))) : W p l e R s m args below meth c H locs cells slots Q (F0 m pc ls st) := by
  have hPc := zsubP hP is hC
  have hDc := hD.sub (ws' := wc) is hnd hC
  have hFc := zfree hD hS hA is hC
  refine va_calli (va_runSN (As := As) (rest := rest) S (hM H.size) cw ⟨zPc_blind, fun U hU hW => ⟨rfl, by rw [hU], by rw [hU]; exact hPc, va_K.moved hW.alike hK, hN.warm hW, hZ.call hS hU hW hFc, hDc.weaken (fun _ _ _ _ => trivial)⟩⟩ rfl hn hsz hst (lv_room hrest) hdg hf) hS (fun q _ h => hFc q h) hFc (fun r2 u t H1 locs ht hvm hw hB hz1 hk1 hS => ?_)
  obtain ⟨hP1, hD1⟩ := hB
  rw [ht] at hP1
  obtain ⟨a1, a2⟩ := zj hP hD is hC hf1 hk1 hP1
  rw [show r2 = r from hw]
  exact kk H1 locs a1 a2 hS
theorem zcVl {r : Int64} (S : CallFix p m c cc nL s args Ts own) (hM : zMl l y wds rm G K tys (.ref b :: As) wc w1 r) (cw : CallW R s args own C index y bytes maxL ret wds rm 0 0 n) (hK : va_K G vwCl tys s) (hN : NW K s) (hZ : ZE K A s s.heap) (hP : va_P G vwCl ws H) (hD : va_D A ws) (hS : va_S A s.heap H locs) (hA : ∀ q : Nat, s.heap.size ≤ q → A q) (hrv : ∃ cell : Cell, H[b]? = some cell ∧ cell.vm.isStatics = false ∧ s.vm.findClass C = some cell.cls) (is : List Nat) (hC : is.map (fun i => ws[i]?) = wc.map some) (hnd : va_nd is = true) (hf1 : w1.map Prod.fst = wc.map Prod.fst) (hn : As.length = n) (hsz : ls.size = nL) (hst : st = As.reverse ++ .ref b :: rest) (hrest : (rest.map fun v => v.category).sum ≤ 8) (hdg : decode cc pc = .ok (.invokevirtual index, 3)) (hf : cells ≤ R.cells ∧ slots ≤ R.slots)
    (kk : ∀ (H1 : Heap) (locs1 : List Loc), va_P G vwCl (zset ws is w1) H1 → va_D A (zset ws is w1) → va_S A s.heap H1 locs1 → W p l e R s m args below meth c H1 locs1 cells slots Q (F0 m (pc + 3) ls (.long r :: rest))) : W p l e R s m args below meth c H locs cells slots Q (F0 m pc ls st) := by
  have hPc := zsubP hP is hC
  have hDc := hD.sub (ws' := wc) is hnd hC
  have hFc := zfree hD hS hA is hC
  refine va_calll (va_runV (As := As) (rest := rest) S (hM H.size) cw ⟨zPc_blind, hrv, fun U hU hW => ⟨rfl, by rw [hU], by rw [hU]; exact hPc, va_K.moved hW.alike hK, hN.warm hW, hZ.call hS hU hW hFc, hDc.weaken (fun _ _ _ _ => trivial)⟩⟩ rfl hn hsz hst (lv_room hrest) hdg hf) hS (fun q _ h => hFc q h) hFc (fun r2 u t H1 locs ht hvm hw hB hz1 hk1 hS => ?_)
  obtain ⟨hP1, hD1⟩ := hB
  rw [ht] at hP1
  obtain ⟨a1, a2⟩ := zj hP hD is hC hf1 hk1 hP1
  rw [show r2 = r from hw]
  exact kk H1 locs a1 a2 hS
theorem zcVNl {r : Int64} (S : CallFix p m c cc nL s args Ts own) (hM : zMl l y wds rm G K tys (.ref b :: As) wc w1 r) (cw : va_CN R s args own index y host bytes maxL ret wds rm 0 0 n ∧ (Cond.instanceMethod y).before args s = true ∧ (Cond.selects C y y).before args s = true) (hK : va_K G vwCl tys s) (hN : NW K s) (hZ : ZE K A s s.heap) (hP : va_P G vwCl ws H) (hD : va_D A ws) (hS : va_S A s.heap H locs) (hA : ∀ q : Nat, s.heap.size ≤ q → A q) (hrv : ∃ cell : Cell, H[b]? = some cell ∧ cell.vm.isStatics = false ∧ s.vm.findClass C = some cell.cls) (is : List Nat) (hC : is.map (fun i => ws[i]?) = wc.map some) (hnd : va_nd is = true) (hf1 : w1.map Prod.fst = wc.map Prod.fst) (hn : As.length = n) (hsz : ls.size = nL) (hst : st = As.reverse ++ .ref b :: rest) (hrest : (rest.map fun v => v.category).sum ≤ 8) (hdg : decode cc pc = .ok (.invokevirtual index, 3)) (hf : cells ≤ R.cells ∧ slots ≤ R.slots)
    (kk : ∀ (H1 : Heap) (locs1 : List Loc), va_P G vwCl (zset ws is w1) H1 → va_D A (zset ws is w1) → va_S A s.heap H1 locs1 → W p l e R s m args below meth c H1 locs1 cells slots Q (F0 m (pc + 3) ls (.long r :: rest))) : W p l e R s m args below meth c H locs cells slots Q (F0 m pc ls st) := by
  have hPc := zsubP hP is hC
  have hDc := hD.sub (ws' := wc) is hnd hC
  have hFc := zfree hD hS hA is hC
  refine va_calll (va_runVN (As := As) (rest := rest) S (hM H.size) cw ⟨zPc_blind, hrv, fun U hU hW => ⟨rfl, by rw [hU], by rw [hU]; exact hPc, va_K.moved hW.alike hK, hN.warm hW, hZ.call hS hU hW hFc, hDc.weaken (fun _ _ _ _ => trivial)⟩⟩ rfl hn hsz hst (lv_room hrest) hdg hf) hS (fun q _ h => hFc q h) hFc (fun r2 u t H1 locs ht hvm hw hB hz1 hk1 hS => ?_)
  obtain ⟨hP1, hD1⟩ := hB
  rw [ht] at hP1
  obtain ⟨a1, a2⟩ := zj hP hD is hC hf1 hk1 hP1
  rw [show r2 = r from hw]
  exact kk H1 locs a1 a2 hS
theorem zcSl {r : Int64} (S : CallFix p m c cc nL s args Ts own) (hM : zMl l y wds rm G K tys (As) wc w1 r) (cw : CallB R s args own index y bytes maxL ret wds rm 0 0 n ∧ (Cond.static y).before args s = true) (hK : va_K G vwCl tys s) (hN : NW K s) (hZ : ZE K A s s.heap) (hP : va_P G vwCl ws H) (hD : va_D A ws) (hS : va_S A s.heap H locs) (hA : ∀ q : Nat, s.heap.size ≤ q → A q) (is : List Nat) (hC : is.map (fun i => ws[i]?) = wc.map some) (hnd : va_nd is = true) (hf1 : w1.map Prod.fst = wc.map Prod.fst) (hn : As.length = n) (hsz : ls.size = nL) (hst : st = As.reverse ++ rest) (hrest : (rest.map fun v => v.category).sum ≤ 8) (hdg : decode cc pc = .ok (.invokestatic index, 3)) (hf : cells ≤ R.cells ∧ slots ≤ R.slots)
    (kk : ∀ (H1 : Heap) (locs1 : List Loc), va_P G vwCl (zset ws is w1) H1 → va_D A (zset ws is w1) → va_S A s.heap H1 locs1 → W p l e R s m args below meth c H1 locs1 cells slots Q (F0 m (pc + 3) ls (.long r :: rest))) : W p l e R s m args below meth c H locs cells slots Q (F0 m pc ls st) := by
  have hPc := zsubP hP is hC
  have hDc := hD.sub (ws' := wc) is hnd hC
  have hFc := zfree hD hS hA is hC
  refine va_calll (va_runS (As := As) (rest := rest) S (hM H.size) cw ⟨zPc_blind, fun U hU hW => ⟨rfl, by rw [hU], by rw [hU]; exact hPc, va_K.moved hW.alike hK, hN.warm hW, hZ.call hS hU hW hFc, hDc.weaken (fun _ _ _ _ => trivial)⟩⟩ rfl hn hsz hst (lv_room hrest) hdg hf) hS (fun q _ h => hFc q h) hFc (fun r2 u t H1 locs ht hvm hw hB hz1 hk1 hS => ?_)
  obtain ⟨hP1, hD1⟩ := hB
  rw [ht] at hP1
  obtain ⟨a1, a2⟩ := zj hP hD is hC hf1 hk1 hP1
  rw [show r2 = r from hw]
  exact kk H1 locs a1 a2 hS
theorem zcSNl {r : Int64} (S : CallFix p m c cc nL s args Ts own) (hM : zMl l y wds rm G K tys (As) wc w1 r) (cw : va_CN R s args own index y host bytes maxL ret wds rm 0 0 n ∧ (Cond.static y).before args s = true ∧ True) (hK : va_K G vwCl tys s) (hN : NW K s) (hZ : ZE K A s s.heap) (hP : va_P G vwCl ws H) (hD : va_D A ws) (hS : va_S A s.heap H locs) (hA : ∀ q : Nat, s.heap.size ≤ q → A q) (is : List Nat) (hC : is.map (fun i => ws[i]?) = wc.map some) (hnd : va_nd is = true) (hf1 : w1.map Prod.fst = wc.map Prod.fst) (hn : As.length = n) (hsz : ls.size = nL) (hst : st = As.reverse ++ rest) (hrest : (rest.map fun v => v.category).sum ≤ 8) (hdg : decode cc pc = .ok (.invokestatic index, 3)) (hf : cells ≤ R.cells ∧ slots ≤ R.slots)
    (kk : ∀ (H1 : Heap) (locs1 : List Loc), va_P G vwCl (zset ws is w1) H1 → va_D A (zset ws is w1) → va_S A s.heap H1 locs1 → W p l e R s m args below meth c H1 locs1 cells slots Q (F0 m (pc + 3) ls (.long r :: rest))) : W p l e R s m args below meth c H locs cells slots Q (F0 m pc ls st) := by
  have hPc := zsubP hP is hC
  have hDc := hD.sub (ws' := wc) is hnd hC
  have hFc := zfree hD hS hA is hC
  refine va_calll (va_runSN (As := As) (rest := rest) S (hM H.size) cw ⟨zPc_blind, fun U hU hW => ⟨rfl, by rw [hU], by rw [hU]; exact hPc, va_K.moved hW.alike hK, hN.warm hW, hZ.call hS hU hW hFc, hDc.weaken (fun _ _ _ _ => trivial)⟩⟩ rfl hn hsz hst (lv_room hrest) hdg hf) hS (fun q _ h => hFc q h) hFc (fun r2 u t H1 locs ht hvm hw hB hz1 hk1 hS => ?_)
  obtain ⟨hP1, hD1⟩ := hB
  rw [ht] at hP1
  obtain ⟨a1, a2⟩ := zj hP hD is hC hf1 hk1 hP1
  rw [show r2 = r from hw]
  exact kk H1 locs a1 a2 hS
theorem zcVv  (S : CallFix p m c cc nL s args Ts own) (hM : zMv l y wds rm G K tys (.ref b :: As) wc w1 ) (cw : CallW R s args own C index y bytes maxL ret wds rm 0 0 n) (hK : va_K G vwCl tys s) (hN : NW K s) (hZ : ZE K A s s.heap) (hP : va_P G vwCl ws H) (hD : va_D A ws) (hS : va_S A s.heap H locs) (hA : ∀ q : Nat, s.heap.size ≤ q → A q) (hrv : ∃ cell : Cell, H[b]? = some cell ∧ cell.vm.isStatics = false ∧ s.vm.findClass C = some cell.cls) (is : List Nat) (hC : is.map (fun i => ws[i]?) = wc.map some) (hnd : va_nd is = true) (hf1 : w1.map Prod.fst = wc.map Prod.fst) (hn : As.length = n) (hsz : ls.size = nL) (hst : st = As.reverse ++ .ref b :: rest) (hrest : (rest.map fun v => v.category).sum ≤ 8) (hdg : decode cc pc = .ok (.invokevirtual index, 3)) (hf : cells ≤ R.cells ∧ slots ≤ R.slots)
    (kk : ∀ (H1 : Heap) (locs1 : List Loc), va_P G vwCl (zset ws is w1) H1 → va_D A (zset ws is w1) → va_S A s.heap H1 locs1 → W p l e R s m args below meth c H1 locs1 cells slots Q (F0 m (pc + 3) ls (rest))) : W p l e R s m args below meth c H locs cells slots Q (F0 m pc ls st) := by
  have hPc := zsubP hP is hC
  have hDc := hD.sub (ws' := wc) is hnd hC
  have hFc := zfree hD hS hA is hC
  refine va_callv (va_runV (As := As) (rest := rest) S (hM H.size) cw ⟨zPc_blind, hrv, fun U hU hW => ⟨rfl, by rw [hU], by rw [hU]; exact hPc, va_K.moved hW.alike hK, hN.warm hW, hZ.call hS hU hW hFc, hDc.weaken (fun _ _ _ _ => trivial)⟩⟩ rfl hn hsz hst (lv_room hrest) hdg hf) hS (fun q _ h => hFc q h) hFc (fun u t H1 locs ht hvm hw hB hz1 hk1 hS => ?_)
  obtain ⟨hP1, hD1⟩ := hB
  rw [ht] at hP1
  obtain ⟨a1, a2⟩ := zj hP hD is hC hf1 hk1 hP1
  
  exact kk H1 locs a1 a2 hS
theorem zcVNv  (S : CallFix p m c cc nL s args Ts own) (hM : zMv l y wds rm G K tys (.ref b :: As) wc w1 ) (cw : va_CN R s args own index y host bytes maxL ret wds rm 0 0 n ∧ (Cond.instanceMethod y).before args s = true ∧ (Cond.selects C y y).before args s = true) (hK : va_K G vwCl tys s) (hN : NW K s) (hZ : ZE K A s s.heap) (hP : va_P G vwCl ws H) (hD : va_D A ws) (hS : va_S A s.heap H locs) (hA : ∀ q : Nat, s.heap.size ≤ q → A q) (hrv : ∃ cell : Cell, H[b]? = some cell ∧ cell.vm.isStatics = false ∧ s.vm.findClass C = some cell.cls) (is : List Nat) (hC : is.map (fun i => ws[i]?) = wc.map some) (hnd : va_nd is = true) (hf1 : w1.map Prod.fst = wc.map Prod.fst) (hn : As.length = n) (hsz : ls.size = nL) (hst : st = As.reverse ++ .ref b :: rest) (hrest : (rest.map fun v => v.category).sum ≤ 8) (hdg : decode cc pc = .ok (.invokevirtual index, 3)) (hf : cells ≤ R.cells ∧ slots ≤ R.slots)
    (kk : ∀ (H1 : Heap) (locs1 : List Loc), va_P G vwCl (zset ws is w1) H1 → va_D A (zset ws is w1) → va_S A s.heap H1 locs1 → W p l e R s m args below meth c H1 locs1 cells slots Q (F0 m (pc + 3) ls (rest))) : W p l e R s m args below meth c H locs cells slots Q (F0 m pc ls st) := by
  have hPc := zsubP hP is hC
  have hDc := hD.sub (ws' := wc) is hnd hC
  have hFc := zfree hD hS hA is hC
  refine va_callv (va_runVN (As := As) (rest := rest) S (hM H.size) cw ⟨zPc_blind, hrv, fun U hU hW => ⟨rfl, by rw [hU], by rw [hU]; exact hPc, va_K.moved hW.alike hK, hN.warm hW, hZ.call hS hU hW hFc, hDc.weaken (fun _ _ _ _ => trivial)⟩⟩ rfl hn hsz hst (lv_room hrest) hdg hf) hS (fun q _ h => hFc q h) hFc (fun u t H1 locs ht hvm hw hB hz1 hk1 hS => ?_)
  obtain ⟨hP1, hD1⟩ := hB
  rw [ht] at hP1
  obtain ⟨a1, a2⟩ := zj hP hD is hC hf1 hk1 hP1
  
  exact kk H1 locs a1 a2 hS
theorem zcSv  (S : CallFix p m c cc nL s args Ts own) (hM : zMv l y wds rm G K tys (As) wc w1 ) (cw : CallB R s args own index y bytes maxL ret wds rm 0 0 n ∧ (Cond.static y).before args s = true) (hK : va_K G vwCl tys s) (hN : NW K s) (hZ : ZE K A s s.heap) (hP : va_P G vwCl ws H) (hD : va_D A ws) (hS : va_S A s.heap H locs) (hA : ∀ q : Nat, s.heap.size ≤ q → A q) (is : List Nat) (hC : is.map (fun i => ws[i]?) = wc.map some) (hnd : va_nd is = true) (hf1 : w1.map Prod.fst = wc.map Prod.fst) (hn : As.length = n) (hsz : ls.size = nL) (hst : st = As.reverse ++ rest) (hrest : (rest.map fun v => v.category).sum ≤ 8) (hdg : decode cc pc = .ok (.invokestatic index, 3)) (hf : cells ≤ R.cells ∧ slots ≤ R.slots)
    (kk : ∀ (H1 : Heap) (locs1 : List Loc), va_P G vwCl (zset ws is w1) H1 → va_D A (zset ws is w1) → va_S A s.heap H1 locs1 → W p l e R s m args below meth c H1 locs1 cells slots Q (F0 m (pc + 3) ls (rest))) : W p l e R s m args below meth c H locs cells slots Q (F0 m pc ls st) := by
  have hPc := zsubP hP is hC
  have hDc := hD.sub (ws' := wc) is hnd hC
  have hFc := zfree hD hS hA is hC
  refine va_callv (va_runS (As := As) (rest := rest) S (hM H.size) cw ⟨zPc_blind, fun U hU hW => ⟨rfl, by rw [hU], by rw [hU]; exact hPc, va_K.moved hW.alike hK, hN.warm hW, hZ.call hS hU hW hFc, hDc.weaken (fun _ _ _ _ => trivial)⟩⟩ rfl hn hsz hst (lv_room hrest) hdg hf) hS (fun q _ h => hFc q h) hFc (fun u t H1 locs ht hvm hw hB hz1 hk1 hS => ?_)
  obtain ⟨hP1, hD1⟩ := hB
  rw [ht] at hP1
  obtain ⟨a1, a2⟩ := zj hP hD is hC hf1 hk1 hP1
  
  exact kk H1 locs a1 a2 hS
theorem zcSNv  (S : CallFix p m c cc nL s args Ts own) (hM : zMv l y wds rm G K tys (As) wc w1 ) (cw : va_CN R s args own index y host bytes maxL ret wds rm 0 0 n ∧ (Cond.static y).before args s = true ∧ True) (hK : va_K G vwCl tys s) (hN : NW K s) (hZ : ZE K A s s.heap) (hP : va_P G vwCl ws H) (hD : va_D A ws) (hS : va_S A s.heap H locs) (hA : ∀ q : Nat, s.heap.size ≤ q → A q) (is : List Nat) (hC : is.map (fun i => ws[i]?) = wc.map some) (hnd : va_nd is = true) (hf1 : w1.map Prod.fst = wc.map Prod.fst) (hn : As.length = n) (hsz : ls.size = nL) (hst : st = As.reverse ++ rest) (hrest : (rest.map fun v => v.category).sum ≤ 8) (hdg : decode cc pc = .ok (.invokestatic index, 3)) (hf : cells ≤ R.cells ∧ slots ≤ R.slots)
    (kk : ∀ (H1 : Heap) (locs1 : List Loc), va_P G vwCl (zset ws is w1) H1 → va_D A (zset ws is w1) → va_S A s.heap H1 locs1 → W p l e R s m args below meth c H1 locs1 cells slots Q (F0 m (pc + 3) ls (rest))) : W p l e R s m args below meth c H locs cells slots Q (F0 m pc ls st) := by
  have hPc := zsubP hP is hC
  have hDc := hD.sub (ws' := wc) is hnd hC
  have hFc := zfree hD hS hA is hC
  refine va_callv (va_runSN (As := As) (rest := rest) S (hM H.size) cw ⟨zPc_blind, fun U hU hW => ⟨rfl, by rw [hU], by rw [hU]; exact hPc, va_K.moved hW.alike hK, hN.warm hW, hZ.call hS hU hW hFc, hDc.weaken (fun _ _ _ _ => trivial)⟩⟩ rfl hn hsz hst (lv_room hrest) hdg hf) hS (fun q _ h => hFc q h) hFc (fun u t H1 locs ht hvm hw hB hz1 hk1 hS => ?_)
  obtain ⟨hP1, hD1⟩ := hB
  rw [ht] at hP1
  obtain ⟨a1, a2⟩ := zj hP hD is hC hf1 hk1 hP1
  
  exact kk H1 locs a1 a2 hS
theorem zcWi {r : Int32} (S : CallFix p m c cc nL s args Ts own) (hM : zMi l y wds rm G K tys (.ref b :: As) ws w1 r) (cw : CallW R s args own C index y bytes maxL ret wds rm 0 0 n) (hK : va_K G vwCl tys s) (hN : NW K s) (hZ : ZE K A s s.heap) (hP : va_P G vwCl ws H) (hD : va_D A ws) (hS : va_S A s.heap H locs) (hA : ∀ q : Nat, s.heap.size ≤ q → A q) (hrv : ∃ cell : Cell, H[b]? = some cell ∧ cell.vm.isStatics = false ∧ s.vm.findClass C = some cell.cls) (hn : As.length = n) (hsz : ls.size = nL) (hst : st = As.reverse ++ .ref b :: rest) (hrest : (rest.map fun v => v.category).sum ≤ 8) (hdg : decode cc pc = .ok (.invokevirtual index, 3)) (hf : cells ≤ R.cells ∧ slots ≤ R.slots)
    (kk : ∀ (H1 : Heap) (locs1 : List Loc), va_P G vwCl w1 H1 → va_D A w1 → va_S A s.heap H1 locs1 → W p l e R s m args below meth c H1 locs1 cells slots Q (F0 m (pc + 3) ls (.int r :: rest))) : W p l e R s m args below meth c H locs cells slots Q (F0 m pc ls st) := by
  have hFc : ∀ q : Nat, va_A ws H.size q → A q := by
    rintro q (⟨k, e, h⟩ | h)
    · exact hD.2 k _ h
    · exact hA q (Nat.le_trans hS.1 h)
  refine va_calli (va_runV (As := As) (rest := rest) S (hM H.size) cw ⟨zPc_blind, hrv, fun U hU hW => ⟨rfl, by rw [hU], by rw [hU]; exact hP, va_K.moved hW.alike hK, hN.warm hW, hZ.call hS hU hW hFc, hD.weaken (fun _ _ _ _ => trivial)⟩⟩ rfl hn hsz hst (lv_room hrest) hdg hf) hS (fun q _ h => hFc q h) hFc (fun r2 u t H1 locs ht hvm hw hB hz1 hk1 hS => ?_)
  obtain ⟨hP1, hD1⟩ := hB
  rw [ht] at hP1
  rw [show r2 = r from hw]
  exact kk H1 locs hP1 (hD1.weaken (fun _ q _ h => hFc q.1 h)) hS
theorem zcWv  (S : CallFix p m c cc nL s args Ts own) (hM : zMv l y wds rm G K tys (.ref b :: As) ws w1 ) (cw : CallW R s args own C index y bytes maxL ret wds rm 0 0 n) (hK : va_K G vwCl tys s) (hN : NW K s) (hZ : ZE K A s s.heap) (hP : va_P G vwCl ws H) (hD : va_D A ws) (hS : va_S A s.heap H locs) (hA : ∀ q : Nat, s.heap.size ≤ q → A q) (hrv : ∃ cell : Cell, H[b]? = some cell ∧ cell.vm.isStatics = false ∧ s.vm.findClass C = some cell.cls) (hn : As.length = n) (hsz : ls.size = nL) (hst : st = As.reverse ++ .ref b :: rest) (hrest : (rest.map fun v => v.category).sum ≤ 8) (hdg : decode cc pc = .ok (.invokevirtual index, 3)) (hf : cells ≤ R.cells ∧ slots ≤ R.slots)
    (kk : ∀ (H1 : Heap) (locs1 : List Loc), va_P G vwCl w1 H1 → va_D A w1 → va_S A s.heap H1 locs1 → W p l e R s m args below meth c H1 locs1 cells slots Q (F0 m (pc + 3) ls (rest))) : W p l e R s m args below meth c H locs cells slots Q (F0 m pc ls st) := by
  have hFc : ∀ q : Nat, va_A ws H.size q → A q := by
    rintro q (⟨k, e, h⟩ | h)
    · exact hD.2 k _ h
    · exact hA q (Nat.le_trans hS.1 h)
  refine va_callv (va_runV (As := As) (rest := rest) S (hM H.size) cw ⟨zPc_blind, hrv, fun U hU hW => ⟨rfl, by rw [hU], by rw [hU]; exact hP, va_K.moved hW.alike hK, hN.warm hW, hZ.call hS hU hW hFc, hD.weaken (fun _ _ _ _ => trivial)⟩⟩ rfl hn hsz hst (lv_room hrest) hdg hf) hS (fun q _ h => hFc q h) hFc (fun u t H1 locs ht hvm hw hB hz1 hk1 hS => ?_)
  obtain ⟨hP1, hD1⟩ := hB
  rw [ht] at hP1
  
  exact kk H1 locs hP1 (hD1.weaken (fun _ q _ h => hFc q.1 h)) hS
end ZC
