/-! the map at the start: what is not to be written -/
theorem byt_fit (i : Nat) : sb_Fit (fun j => (BYTS.getD i []).getD j 0) := by
  intro j
  have hb : ∀ l ∈ BYTS, ∀ x ∈ l, fits .byte (.int x) = true := by decide +kernel
  have h0 : fits .byte (.int (0 : Int32)) = true := by decide
  show fits .byte (.int ((BYTS.getD i []).getD j 0)) = true
  rw [List.getD_eq_getElem?_getD (l := BYTS.getD i [])]
  cases hx : (BYTS.getD i [])[j]? with
  | none => exact h0
  | some x =>
    rw [List.getD_eq_getElem?_getD] at hx
    cases hl : BYTS[i]? with
    | none => rw [hl] at hx; simp at hx
    | some l =>
      rw [hl] at hx
      exact hb l (List.mem_of_getElem? hl) x (List.mem_of_getElem? hx)
theorem txt_byt : ∀ i : Nat, i < 22 → (TXT.getD i []).length = LENS.getD i 0 ∧ LENS.getD i 0 ≤ 100 ∧ (∀ x ∈ TXT.getD i [], x < 128) ∧ ∀ j : Nat, j < LENS.getD i 0 → (BYTS.getD i []).getD j 0 = sb_b ((TXT.getD i []).getD j 0) := by decide +kernel
section ST
variable {K : (Nat → Nat) × (Nat → Nat)} {A : Nat → Prop} {s : State} {H : Heap} {G : va_G} {c : Nat → ClassId} {a : Nat} {e : va_E}
def vwS (K : (Nat → Nat) × (Nat → Nat)) (A : Nat → Prop) (s : State) (H : Heap) (a : Nat) (e : va_E) (q : Nat) : Prop := e = .inr (11, [.ref q, .int 0]) ∧ va_O "java/lang/String" a A s H ∧ va_OF "java/lang/String" "value" "[B" (.ref q) a A s H
def vwB (K : (Nat → Nat) × (Nat → Nat)) (A : Nat → Prop) (s : State) (H : Heap) (a : Nat) (e : va_E) (n : Nat) (f : Nat → Int32) : Prop := e = .inl (K.1 50, n, .inl f) ∧ n ≤ 100 ∧ sb_Fit f ∧ va_T .byte a n (fun j => .int (f j)) A s H
def vwR (K : (Nat → Nat) × (Nat → Nat)) (A : Nat → Prop) (s : State) (H : Heap) (a : Nat) (e : va_E) (f : Nat → Option Nat) : Prop := e = .inl (K.1 51, 5, .inr (.inr (.inr (.inr f)))) ∧ va_T (.object "java/lang/String") a 5 (fun j => va_rf (f j)) A s H
theorem ro_view (hZ : ZE K A s H) (h : RO K a e) : (∃ q, vwS K A s H a e q) ∨ (∃ n f, vwB K A s H a e n f) ∨ ∃ f, vwR K A s H a e f := by
  rcases h with ⟨i, hi, rfl, rfl⟩ | ⟨i, hi, rfl, rfl⟩ | ⟨rfl, rfl⟩ | ⟨rfl, rfl⟩ | ⟨rfl, rfl⟩
  · exact Or.inl ⟨_, rfl, (hZ.1.1 i hi).1, (hZ.1.1 i hi).2.2.1⟩
  · exact Or.inr (Or.inl ⟨_, _, rfl, (txt_byt i hi).2.1, byt_fit i, (hZ.1.1 i hi).2.2.2⟩)
  · exact Or.inr (Or.inr ⟨_, rfl, hZ.1.2.1⟩)
  · exact Or.inr (Or.inl ⟨_, _, rfl, Nat.le_refl _, fun j => sb_fitB _, hZ.1.2.2.1⟩)
  · exact Or.inr (Or.inl ⟨_, _, rfl, Nat.le_refl _, fun j => sb_fitB _, hZ.1.2.2.2.1⟩)
theorem ro_lt (hZ : ZE K A s H) (h : RO K a e) : a < H.size := by
  rcases ro_view hZ h with ⟨q, -, ⟨cell, h1, -⟩, -⟩ | ⟨n, f, -, -, -, cell, h1, -⟩ | ⟨f, -, cell, h1, -⟩ <;> exact (Array.getElem?_eq_some_iff.mp h1).1
theorem str_arr (hK : va_K G vwCl (TY c) s) {ty : FieldType} {n : Nat} {f : Nat → Value} (h1 : va_O "java/lang/String" a A s H) (h2 : va_T ty a n f A s H) : False := by
  obtain ⟨cell, a1, -, a3, -⟩ := h1
  obtain ⟨cell2, b1, ⟨-, k, b2, comp, b3⟩, -⟩ := h2
  cases a1.symm.trans b1
  obtain ⟨-, h3, kC, h4, h5⟩ := hK.1 11 _ rfl
  have e : G.1 11 = cell.cls := Option.some.inj ((show s.vm.findClass "java/lang/String" = _ from h3).symm.trans a3)
  rw [e] at h4
  cases h4.symm.trans b2
  rw [h5] at b3
  cases b3
theorem arr_two {t1 t2 : FieldType} {n1 n2 : Nat} {f1 f2 : Nat → Value} (h1 : va_T t1 a n1 f1 A s H) (h2 : va_T t2 a n2 f2 A s H) : t1 = t2 ∧ Int32.ofNat n1 = Int32.ofNat n2 ∧ ∀ j, j < n1 → j < n2 → f1 j = f2 j := by
  obtain ⟨cell, a1, ⟨-, k1, a2, c1, a3⟩, -, -, a4, a5, -⟩ := h1
  obtain ⟨cell2, b1, ⟨-, k2, b2, c2, b3⟩, -, -, b4, b5, -⟩ := h2
  cases a1.symm.trans b1
  cases a2.symm.trans b2
  have h := a3.symm.trans b3
  injection h with h5 h6
  exact ⟨h6, a4.symm.trans b4, fun j j1 j2 => Option.some.inj ((a5 j j1).symm.trans (b5 j j2))⟩
noncomputable def hst (K : (Nat → Nat) × (Nat → Nat)) : HW := fun b =>
  haveI := Classical.propDecidable (∃ e, RO K b e)
  if q : ∃ e, RO K b e then some (false, q.choose) else none
theorem hst_of (h : RO K a e) : ∃ e', hst K a = some (false, e') ∧ RO K a e' := by
  have q : ∃ e, RO K a e := ⟨e, h⟩
  exact ⟨q.choose, dif_pos q, q.choose_spec⟩
theorem hst_in {w : Bool} (h : hst K a = some (w, e)) : w = false ∧ RO K a e := by
  unfold hst at h
  split at h
  · rename_i q
    cases h
    exact ⟨rfl, q.choose_spec⟩
  · cases h
theorem hst_S (hK : va_K G vwCl (TY c) s) (hZ : ZE K A s H) {i : Nat} (hi : i < 22) : hst K (K.1 i) = some (false, .inr (11, [.ref (K.2 i), .int 0])) := by
  obtain ⟨e', h1, h2⟩ := hst_of (K := K) (a := K.1 i) (Or.inl ⟨i, hi, rfl, rfl⟩)
  rw [h1]
  rcases ro_view hZ h2 with ⟨q, rfl, -, h3⟩ | ⟨n, f, -, -, -, h3⟩ | ⟨f, -, h3⟩
  · obtain ⟨cf1, k1, i1, f1, cell1, a1, -, a3, -, a5, -⟩ := h3
    obtain ⟨cf2, k2, i2, f2, cell2, b1, -, b3, -, b5, -⟩ := (hZ.1.1 i hi).2.2.1
    cases a1.symm.trans b1
    cases a3.symm.trans b3
    cases a5.symm.trans b5
    rfl
  · exact (str_arr hK (hZ.1.1 i hi).1 h3).elim
  · exact (str_arr hK (hZ.1.1 i hi).1 h3).elim
theorem hst_B (hK : va_K G vwCl (TY c) s) (hZ : ZE K A s H) {n : Nat} {g : Nat → Int32} (hn : n ≤ 100) (hT : va_T .byte a n (fun j => .int (g j)) A s H) (hr : ∃ e, RO K a e) : ∃ f, hst K a = some (false, .inl (K.1 50, n, .inl f)) ∧ sb_Fit f ∧ ∀ j, j < n → f j = g j := by
  obtain ⟨e0, hr⟩ := hr
  obtain ⟨e', h1, h2⟩ := hst_of hr
  rw [h1]
  rcases ro_view hZ h2 with ⟨q, -, h3, -⟩ | ⟨n', f, rfl, hn', hf, h3⟩ | ⟨f, -, h3⟩
  · exact (str_arr hK h3 hT).elim
  · obtain ⟨-, e1, e2⟩ := arr_two h3 hT
    have e3 := congrArg Int32.toNatClampNeg e1
    rw [Int32.toNatClampNeg_ofNat_of_lt (by omega), Int32.toNatClampNeg_ofNat_of_lt (by omega)] at e3
    subst e3
    exact ⟨f, rfl, hf, fun j hj => Value.int.inj (e2 j hj hj)⟩
  · cases (arr_two h3 hT).1
theorem hst_R (hK : va_K G vwCl (TY c) s) (hZ : ZE K A s H) : ∃ f, hst K (K.1 30) = some (false, .inl (K.1 51, 5, .inr (.inr (.inr (.inr f))))) ∧ ∀ j, j < 5 → f j = some (K.1 (5 + j)) := by
  have hT := hZ.1.2.1
  obtain ⟨e', h1, h2⟩ := hst_of (K := K) (a := K.1 30) (Or.inr (Or.inr (Or.inl ⟨rfl, rfl⟩)))
  rw [h1]
  rcases ro_view hZ h2 with ⟨q, -, h3, -⟩ | ⟨n', f, -, -, -, h3⟩ | ⟨f, rfl, h3⟩
  · exact (str_arr hK h3 hT).elim
  · cases (arr_two h3 hT).1
  · refine ⟨f, rfl, fun j hj => ?_⟩
    have h4 := (arr_two h3 hT).2.2 j hj hj
    cases hf : f j with
    | none => rw [show va_rf (f j) = .null from by rw [hf]; rfl] at h4; cases h4
    | some x => rw [show va_rf (f j) = .ref x from by rw [hf]; rfl] at h4; cases h4; rfl
theorem hst_P (hZ : ZE K A s H) : mP G K (hst K) H := fun b w e hb => by
  obtain ⟨rfl, h1⟩ := hst_in hb
  exact ⟨ro_lt hZ h1, h1⟩
theorem hst_D : mD A (hst K) := fun b e hb => absurd (hst_in hb).1 (by decide)
theorem hst_K (hK : va_K G vwCl (TY c) s) (hZ : ZE K A s H) (h5 : K.1 50 = c 5) (h7 : K.1 51 = c 7) : KC c K (hst K) (fun _ => False) := by
  refine ⟨fun i hi => ?_, ⟨?_, fun h => h⟩, ⟨?_, fun h => h⟩, ?_, fun h => h⟩
  · obtain ⟨t1, t2, t3, t4⟩ := txt_byt i hi
    obtain ⟨f, h1, h2, h3⟩ := hst_B hK hZ t2 (hZ.1.1 i hi).2.2.2 ⟨_, Or.inr (Or.inl ⟨i, hi, rfl, rfl⟩)⟩
    rw [h5] at h1
    refine ⟨false, false, K.2 i, f, hst_S hK hZ hi, by rw [t1]; exact h1, fun j hj => ?_, h2, fun h => h, fun h => h, t3, by rw [t1]; exact t2⟩
    rw [t1] at hj
    rw [h3 j hj, t4 j hj]
  · obtain ⟨f, h1, h2⟩ := hst_R hK hZ
    rw [h7] at h1
    exact ⟨false, f, h1, h2⟩
  · obtain ⟨f, h1, h2, h3⟩ := hst_B hK hZ (Nat.le_refl _) hZ.1.2.2.1 ⟨_, Or.inr (Or.inr (Or.inr (Or.inl ⟨rfl, rfl⟩)))⟩
    rw [h5] at h1
    exact ⟨false, f, h1, h3⟩
  · obtain ⟨f, h1, h2, h3⟩ := hst_B hK hZ (Nat.le_refl _) hZ.1.2.2.2.1 ⟨_, Or.inr (Or.inr (Or.inr (Or.inr ⟨rfl, rfl⟩)))⟩
    rw [h5] at h1
    exact ⟨false, f, h1, h3⟩
end ST
