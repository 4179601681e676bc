/-! what the Statement says of the start, by places -/
def FLW : List Cond := flatC (Jvm.Cond.and given_1 narrow_1)
def TMP : List (String × Nat) := [("HubTrains$SetupReader", 85), ("HubTrains$SetupReader", 122), ("HubTrains$SetupReader", 126), ("HubTrains$SetupReader", 130), ("HubTrains$SetupReader", 135), ("HubTrains$SetupReader", 186), ("HubTrains$SetupReader", 188), ("HubTrains$SetupReader", 190), ("HubTrains$SetupReader", 192), ("HubTrains$SetupReader", 194), ("HubTrainsLaw", 106), ("HubTrainsLaw", 150), ("HubTrainsLaw", 171), ("HubTrainsLaw", 183), ("HubTrainsLaw$Node", 37), ("HubTrainsLaw$Node", 60), ("HubTrainsLaw$Node", 62), ("HubTrainsLaw$Node", 64), ("HubTrainsLaw$Node", 66), ("HubTrainsLaw$Node", 68), ("HubTrainsLaw$Node", 70), ("HubTrainsLaw", 189)]
def TMS (i : Nat) : Term := Term.string (TMP.getD i ("", 0)).1 (TMP.getD i ("", 0)).2
def PXL : List Nat := [323, 333, 340, 348, 356, 364, 372, 382, 389, 399, 418, 423, 454, 459, 468, 479, 484, 491, 497, 502, 507, 512]
set_option maxRecDepth 100000 in
theorem fx_ex : ∀ i : Nat, i < 22 → FLW[PXL.getD i 0]? = some (Cond.exactly (TMS i) "java/lang/String") := by decide +kernel
set_option maxRecDepth 100000 in
theorem fx_co : ∀ i : Nat, i < 22 → FLW[PXL.getD i 0 + 1]? = some (Cond.eq (.field (TMS i) "java/lang/String" "coder" "B") (.int 0)) := by decide +kernel
set_option maxRecDepth 100000 in
theorem fx_ar : ∀ i : Nat, i < 22 → FLW[PXL.getD i 0 + 2]? = some (Cond.arrayOf (.field (TMS i) "java/lang/String" "value" "[B") .byte) := by decide +kernel
set_option maxRecDepth 100000 in
theorem fx_le : ∀ i : Nat, i < 22 → FLW[PXL.getD i 0 + 3]? = some (Cond.eq (.length (.field (TMS i) "java/lang/String" "value" "[B")) (.int (Int32.ofNat (LENS.getD i 0)))) := by decide +kernel
set_option maxRecDepth 100000 in
theorem fx_el : ∀ i : Nat, i < 22 → ∀ j : Nat, j < LENS.getD i 0 → FLW[PXL.getD i 0 + 4 + j]? = some (Cond.eq (.elem (.field (TMS i) "java/lang/String" "value" "[B") (.int (Int32.ofNat j))) (.int ((BYTS.getD i []).getD j 0))) := by decide +kernel
/-- the equal texts of two pools -/
def PEQ : List (Nat × String × Nat × Nat) := [(417, "HubTrainsLaw", 145, 0), (435, "HubTrainsLaw", 152, 1), (444, "HubTrainsLaw", 156, 2), (453, "HubTrainsLaw", 169, 3), (526, "HubTrainsLaw", 291, 5), (537, "HubTrainsLaw", 293, 6), (545, "HubTrainsLaw", 295, 7), (556, "HubTrainsLaw", 297, 8), (565, "HubTrainsLaw", 299, 9)]
set_option maxRecDepth 100000 in
theorem fx_eq : ∀ q ∈ PEQ, FLW[q.1]? = some (Cond.eq (TMS q.2.2.2) (Term.string q.2.1 q.2.2.1)) := by decide +kernel
set_option maxRecDepth 100000 in
theorem fx_sw : ∀ q ∈ SWL, q.2.2.2 < 22 ∧ (TMP[q.2.2.2]? = some (q.1, q.2.1) ∨ ∃ r ∈ PEQ, r.2.1 = q.1 ∧ r.2.2.1 = q.2.1 ∧ r.2.2.2 = q.2.2.2) := by decide +kernel
def tD1 : Term := .static "java/lang/Integer" "DigitOnes" "[B"
def tD2 : Term := .static "java/lang/Integer" "DigitTens" "[B"
def tVR : Term := .static "HubTrainsLaw" "VARIABLES" "[Ljava/lang/String;"
set_option maxRecDepth 100000 in
theorem fx_d1 : FLW[12]? = some (Cond.arrayOf tD1 .byte) ∧ FLW[13]? = some (Cond.eq (.length tD1) (.int (Int32.ofNat 100))) ∧ ∀ j : Nat, j < 100 → FLW[14 + j]? = some (Cond.eq (.elem tD1 (.int (Int32.ofNat j))) (.int (dg_O j))) := by decide +kernel
set_option maxRecDepth 100000 in
theorem fx_d2 : FLW[115]? = some (Cond.arrayOf tD2 .byte) ∧ FLW[116]? = some (Cond.eq (.length tD2) (.int (Int32.ofNat 100))) ∧ ∀ j : Nat, j < 100 → FLW[117 + j]? = some (Cond.eq (.elem tD2 (.int (Int32.ofNat j))) (.int (dg_T j))) := by decide +kernel
set_option maxRecDepth 100000 in
theorem fx_v : FLW[218]? = some (Cond.arrayOf tVR (.object "java/lang/String")) ∧ FLW[219]? = some (Cond.eq (.length tVR) (.int (Int32.ofNat 5))) ∧ ∀ j : Nat, j < 5 → FLW[220 + j]? = some (Cond.eq (.elem tVR (.int (Int32.ofNat j))) (Term.string "HubTrainsLaw" (291 + 2 * j))) ∧ FLW[([526, 537, 545, 556, 565] : List Nat).getD j 0]? = some (Cond.eq (TMS (5 + j)) (Term.string "HubTrainsLaw" (291 + 2 * j))) := by decide +kernel
def PNC : List Nat := [250, 251, 235, 252, 236]
set_option maxRecDepth 100000 in
theorem fx_nc : ∀ i : Nat, i < 5 → ∃ q, NCL[i]? = some q ∧ FLW[PNC.getD i 0]? = some (Cond.not (.castable q.1 q.2)) := by
  intro i hi
  rcases (show i = 0 ∨ i = 1 ∨ i = 2 ∨ i = 3 ∨ i = 4 by omega) with rfl | rfl | rfl | rfl | rfl <;> exact ⟨_, rfl, by decide +kernel⟩
set_option maxRecDepth 100000 in
theorem fx_st : FLW[6]? = some (Cond.eq (.static "java/lang/String" "COMPACT_STRINGS" "Z") (.int 1)) ∧ FLW[4]? = some (Cond.isRef (.static Bundle.tN "UNASSIGNED_STACK" Bundle.steD)) ∧ FLW[5]? = some (Cond.isRef (.static Bundle.tN "SUPPRESSED_SENTINEL" Bundle.listD)) ∧ FLW[7]? = some (Cond.isRef (.static "jdk/internal/util/Preconditions" "SIOOBE_FORMATTER" "Ljava/util/function/BiFunction;")) := by decide +kernel
