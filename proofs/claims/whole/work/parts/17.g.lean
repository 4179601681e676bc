/-- the places of the ten texts in the class's own pool -/
def TMK : List Nat := [85, 122, 126, 130, 135, 186, 188, 190, 192, 194]
def TMS (i : Nat) : Term := Term.string "HubTrains$SetupReader" (TMK.getD i 0)
def FLW : List Cond := flatC (Jvm.Cond.and given_1 narrow_1)
set_option maxRecDepth 100000 in
theorem fx_ex : ∀ i : Nat, i < 10 → Cond.exactly (TMS i) "java/lang/String" ∈ FLW := by decide +kernel
set_option maxRecDepth 100000 in
theorem fx_co : ∀ i : Nat, i < 10 → Cond.eq (.field (TMS i) "java/lang/String" "coder" "B") (.int 0) ∈ FLW := by decide +kernel
set_option maxRecDepth 100000 in
theorem fx_ar : ∀ i : Nat, i < 10 → Cond.arrayOf (.field (TMS i) "java/lang/String" "value" "[B") .byte ∈ FLW := by decide +kernel
set_option maxRecDepth 100000 in
theorem fx_le : ∀ i : Nat, i < 10 → Cond.eq (.length (.field (TMS i) "java/lang/String" "value" "[B")) (.int (Int32.ofNat (LENS.getD i 0))) ∈ FLW := by decide +kernel
set_option maxRecDepth 100000 in
theorem fx_el : ∀ i : Nat, i < 10 → ∀ j : Nat, j < LENS.getD i 0 → Cond.eq (.elem (.field (TMS i) "java/lang/String" "value" "[B") (.int (Int32.ofNat j))) (.int ((BYTS.getD i []).getD j 0)) ∈ FLW := by decide +kernel
set_option maxRecDepth 100000 in
theorem fx_ne : ∀ i : Nat, i < 10 → ∀ j : Nat, j < 10 → i ≠ j → Cond.not (Cond.eq (TMS i) (TMS j)) ∈ FLW ∨ Cond.not (Cond.eq (TMS j) (TMS i)) ∈ FLW := by decide +kernel
set_option maxRecDepth 100000 in
theorem fx_sw : ∀ q ∈ SWL, q.2.2.2 < 10 ∧ (TMS q.2.2.2 = Term.string q.1 q.2.1 ∨ Cond.eq (TMS q.2.2.2) (Term.string q.1 q.2.1) ∈ FLW) := by decide +kernel
