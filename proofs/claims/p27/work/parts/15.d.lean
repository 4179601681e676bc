theorem arr_prim {s : State} {args : Array Value} {ty : FieldType} (h : (Cond.arrayClass ty).before args s = true) : ∃ cA, ArrOfT s cA ty ∧ s.vm.findClass ("[" ++ ty.toString) = some cA := by
  obtain ⟨cA, kA, comp, h1, h2, h3⟩ := Cond.arrayClass_spec h
  exact ⟨cA, fun n z => ⟨fun k h => (by cases h), kA, h2, comp, h3⟩, h1⟩
theorem arr_aoa {s : State} (h : va_AOA .int s) : ∃ cA, ArrOfT s cA (.array .int) ∧ s.vm.findClass ("[" ++ (FieldType.array .int).toString) = some cA := by
  obtain ⟨comp, cA, kA, h1, h2, h3, h4, h5⟩ := va_AOA.spec h
  exact ⟨cA, fun n z => ⟨fun k h => (by cases h), kA, h3, comp, h4⟩, h5⟩
theorem arr_obj {s : State} {C : String} (h : va_AO C s) : ∃ cA, ArrOfT s cA (.object C) ∧ va_RA s cA (.object C) := by
  obtain ⟨comp, cA, kA, h1, h2, h3, h4, h5⟩ := Cond.arrayOver_spec (va_AO.use (A := #[]) h)
  exact ⟨cA, fun n z => ⟨fun k h => (by cases h), kA, h3, comp, h4⟩, kA, comp, h3, h4, h1, h5⟩
theorem k_of {s : State} {args : Array Value} (hts : ∀ w ∈ lw_tb2, w.before args s = true) : ∃ (G : va_G) (c : Nat → ClassId), va_K G vwCl (TY c) s := by
  obtain ⟨G, hG⟩ := cls_known hts
  obtain ⟨a0, b0, d0⟩ := arr_prim (hts (.arrayClass .int) (tin_c [.arrayClass .int] [(0, 61)] rfl _ (List.mem_singleton.mpr rfl)))
  obtain ⟨a1, b1, d1⟩ := arr_prim (hts (.arrayClass .long) (tin_c [.arrayClass .long] [(2, 42)] rfl _ (List.mem_singleton.mpr rfl)))
  obtain ⟨a2, b2, d2⟩ := arr_aoa (aoa_i hts)
  obtain ⟨a3, b3, d3⟩ := arr_obj (ao_g hts)
  obtain ⟨a4, b4, d4⟩ := arr_prim (hts (.arrayClass .boolean) (tin_c [.arrayClass .boolean] [(2, 41)] rfl _ (List.mem_singleton.mpr rfl)))
  obtain ⟨a5, b5, d5⟩ := arr_prim (hts (.arrayClass .byte) (tin_c [.arrayClass .byte] [(3, 159)] rfl _ (List.mem_singleton.mpr rfl)))
  obtain ⟨a6, b6, d6⟩ := arr_obj (ao_t hts)
  obtain ⟨a7, b7, d7⟩ := arr_obj (ao_s hts)
  refine ⟨G, fun k => ([a0, a1, a2, a3, a4, a5, a6, a7] : List ClassId).getD k a0, hG, fun k q hq => ?_⟩
  match k, hq with
  | 0, hq => cases hq; exact ⟨b0, d0⟩
  | 1, hq => cases hq; exact ⟨b1, d1⟩
  | 2, hq => cases hq; exact ⟨b2, d2⟩
  | 3, hq => cases hq; exact ⟨b3, d3⟩
  | 4, hq => cases hq; exact ⟨b4, d4⟩
  | 5, hq => cases hq; exact ⟨b5, d5⟩
  | 6, hq => cases hq; exact ⟨b6, d6⟩
  | 7, hq => cases hq; exact ⟨b7, d7⟩
  | k + 8, hq => simp [TY] at hq
