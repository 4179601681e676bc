/-- the places of the ten texts in the class's own pool -/
def TMK : List Nat := [85, 122, 126, 130, 135, 186, 188, 190, 192, 194]
def TMS (i : Nat) : Term := Term.string "HubTrains$SetupReader" (TMK.getD i 0)
def FLW : List Cond := flatC (Jvm.Cond.and given_1 narrow_1)
set_option maxRecDepth 100000 in
theorem fx_ex : ∀ i : Nat, i < 10 → Cond.exactly (TMS i) "java/lang/String" ∈ FLW := by decide +kernel
set_option maxRecDepth 100000 in
theorem fx_co : ∀ i : Nat, i < 10 → Cond.eq (.field (TMS i) "java/lang/String" "coder" "B") (.int 0) ∈ FLW := by decide +kernel
set_option maxRecDepth 100000 in
theorem fx_ar : ∀ i : Nat, i < 10 → Cond.arrayOf (.field (TMS i) "java/lang/String" "value" "[B") .byte ∈ FLW := by decide +kernel
set_option maxRecDepth 100000 in
theorem fx_le : ∀ i : Nat, i < 10 → Cond.eq (.length (.field (TMS i) "java/lang/String" "value" "[B")) (.int (Int32.ofNat (LENS.getD i 0))) ∈ FLW := by decide +kernel
set_option maxRecDepth 100000 in
theorem fx_el : ∀ i : Nat, i < 10 → ∀ j : Nat, j < LENS.getD i 0 → Cond.eq (.elem (.field (TMS i) "java/lang/String" "value" "[B") (.int (Int32.ofNat j))) (.int ((BYTS.getD i []).getD j 0)) ∈ FLW := by decide +kernel
def PRS : List (Nat × Nat × Nat) := [(0, 1, 76), (0, 2, 85), (0, 3, 95), (0, 4, 106), (0, 5, 118), (0, 6, 133), (0, 7, 146), (0, 8, 163), (0, 9, 179), (1, 2, 86), (1, 3, 96), (1, 4, 107), (1, 5, 119), (1, 6, 134), (1, 7, 147), (1, 8, 164), (1, 9, 180), (2, 3, 97), (2, 4, 108), (2, 5, 120), (2, 6, 135), (2, 7, 148), (2, 8, 165), (2, 9, 181), (3, 4, 109), (3, 5, 121), (3, 6, 136), (3, 7, 149), (3, 8, 166), (3, 9, 182), (4, 5, 122), (4, 6, 137), (4, 7, 150), (4, 8, 167), (4, 9, 183), (5, 6, 138), (5, 7, 151), (5, 8, 168), (5, 9, 184), (6, 7, 152), (6, 8, 169), (6, 9, 185), (7, 8, 170), (7, 9, 186), (8, 9, 187)]
set_option maxRecDepth 100000 in
theorem fx_ne0 : ∀ q ∈ PRS, FLW[q.2.2]? = some (Cond.not (Cond.eq (TMS q.1) (TMS q.2.1))) := by decide +kernel
theorem fx_prs : ∀ i : Nat, i < 10 → ∀ j : Nat, j < 10 → i ≠ j → (∃ q ∈ PRS, q.1 = i ∧ q.2.1 = j) ∨ (∃ q ∈ PRS, q.1 = j ∧ q.2.1 = i) := by decide +kernel
theorem fx_ne (i : Nat) (hi : i < 10) (j : Nat) (hj : j < 10) (hij : i ≠ j) : Cond.not (Cond.eq (TMS i) (TMS j)) ∈ FLW ∨ Cond.not (Cond.eq (TMS j) (TMS i)) ∈ FLW := by
  rcases fx_prs i hi j hj hij with ⟨q, h1, rfl, rfl⟩ | ⟨q, h1, rfl, rfl⟩
  · exact Or.inl (List.mem_of_getElem? (fx_ne0 q h1))
  · exact Or.inr (List.mem_of_getElem? (fx_ne0 q h1))
set_option maxRecDepth 100000 in
theorem fx_sw : ∀ q ∈ SWL, q.2.2.2 < 10 ∧ (TMS q.2.2.2 = Term.string q.1 q.2.1 ∨ Cond.eq (TMS q.2.2.2) (Term.string q.1 q.2.1) ∈ FLW) := by decide +kernel
