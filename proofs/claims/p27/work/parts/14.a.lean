/-! what the class and a new table hold when they are new -/
noncomputable def TI : TT := dealT T0 3 1 3 2
theorem s_in27 : ∃ (hf : Nat → Int32) (gd : GS), f_J7_fill_53178 100 (fun _ => 0) (-1) = some hf ∧ f_X1_dealRound (g0 hf) = some gd ∧ (∀ B, SM [] (h0 hf gd) TI B 3 2 0) ∧ RC [] (h0 hf gd) TI 3 2 := by
  obtain ⟨hf, a1, a2⟩ := e_fill (n := 100) (h0 := fun _ => 0) (v := -1) (by omega)
  have hno : ∀ c p, c < 100 → p ≤ 4 → ¬ hf c = nI p := fun c p hc hp q => by rw [a2 c hc] at q; exact nI_m1 (by omega) q.symm
  have P : PT (g0 hf) T0 3 2 1 3 := by
    refine ⟨⟨rfl, by omega⟩, ⟨rfl, by omega⟩, ⟨rfl, by omega⟩, ⟨rfl, by omega⟩, ⟨rfl, rfl, rfl, rfl, rfl⟩, ⟨rfl, rfl⟩, fun p hp => ?_, fun p hp => ?_, fun c hc => Or.inl (a2 c hc)⟩
    · have e0 : hnd T0 p = [] := by
        show (List.replicate 2 ([] : List Nat)).getD p [] = []
        exact rep_nil
      have e1 : hL hf p = [] := by
        rw [List.eq_nil_iff_forall_not_mem]
        intro c hc
        obtain ⟨hc, q⟩ := hL_mem.mp hc
        exact hno c p hc (by omega) q
      rw [e0]
      show ([] : List Nat).Perm (hL hf p)
      rw [e1]
    · rcases (show p = 0 ∨ p = 1 by omega) with rfl | rfl <;> rfl
  obtain ⟨gd, f, e, c1, c2, c3, c4, c5⟩ := P.deal
  have c4 : gd.2.1 = none := c4
  have hM : tM TI = none := rfl
  have hG : GT [] gd TI 3 2 := ⟨1, 3, 0, 0, f, e, 0, c2, c3, fun _ => by omega, (0, 0, 0, (fun _ => 0), fun _ _ => 0), by rw [c4]; rfl, Or.inl ⟨c4, hM⟩⟩
  refine ⟨hf, gd, a1, c1, fun B => ⟨hG, ⟨0, rfl, by omega, by omega⟩, fun j hj => absurd hj (Nat.not_lt_zero _), rfl⟩, ⟨rfl, rfl, rfl, fun p hp => ?_⟩, hG, 0, rfl, by omega⟩
  rcases (show p = 0 ∨ p = 1 ∨ p = 2 ∨ p = 3 by omega) with rfl | rfl | rfl | rfl <;> rfl
theorem ti_hub : ¬ 33 ∈ hnd TI 0 := by
  have hin : ∀ x, x < 100 → (inH (tH T0) x ↔ ¬ (fun _ : Nat => (-1 : Int32)) x = -1) := by
    intro x _
    constructor
    · rintro ⟨l, h1, h2⟩
      have h1 : l ∈ List.replicate 2 ([] : List Nat) := h1
      rw [List.eq_of_mem_replicate h1] at h2
      cases h2
    · exact fun h => absurd rfl h
  have hD : dkT (tH T0) 3 3 4 = fl 3 3 (fun _ => -1) 100 := dk_eq (mx := 3) hin (by omega)
  show ¬ 33 ∈ (flT 1 (shf ((dkT (tH T0) 3 3 4).length - 1) (dkT (tH T0) 3 3 4) 1).1 [[], []] 2).1.getD 0 []
  rw [hD]
  decide +kernel
theorem ti_7 : TI.1 7 = 0 := rfl
theorem ti_4 : TI.1 4 = 0 := rfl
