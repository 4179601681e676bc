/-! what lies outside of the world, at the start -/
theorem va_T.congr {ty : FieldType} {t N : Nat} {f g : Nat → Value} {A : Nat → Prop} {U : State} {H : Heap} (h : va_T ty t N f A U H) (e : ∀ j, j < N → f j = g j) : va_T ty t N g A U H := by
  obtain ⟨cell, h1, h2, h3, h4, h5, h6, h7⟩ := h
  exact ⟨cell, h1, h2, h3, h4, h5, fun j hj => by rw [← e j hj]; exact h6 j hj, h7⟩
theorem nc_of {s : State} {args : Array Value} (hs : ∀ c ∈ FLW, c.before args s = true) : NC s := by
  intro q hq
  obtain ⟨i, hi⟩ := List.mem_iff_getElem?.mp hq
  have hi5 : i < 5 := (List.getElem?_eq_some_iff.mp hi).1
  obtain ⟨q', h1, h2⟩ := fx_nc i hi5
  cases hi.symm.trans h1
  exact va_Nc.of (hs _ (List.mem_of_getElem? h2))
theorem zs_of {args : Array Value} {s : State} {A : Nat → Prop} (hs : ∀ c ∈ FLW, c.before args s = true) (hA : ∀ a : Nat, a < s.heap.size → ¬ A a) :
    ∃ adK adV : Nat → Nat, (∀ i : Nat, i < 22 → va_O "java/lang/String" (adK i) A s s.heap ∧ va_OF "java/lang/String" "coder" "B" (.int 0) (adK i) A s s.heap ∧ va_OF "java/lang/String" "value" "[B" (.ref (adV i)) (adK i) A s s.heap ∧ va_T .byte (adV i) (LENS.getD i 0) (fun j => .int ((BYTS.getD i []).getD j 0)) A s s.heap) ∧ ∀ i : Nat, i < 22 → (TMS i).eval args s none [] s = some (.ref (adK i)) := by
  have h0 : ∀ i : Nat, ∃ q : Nat × Nat, i < 22 → (TMS i).eval args s none [] s = some (.ref q.1) ∧ va_O "java/lang/String" q.1 A s s.heap ∧ va_OF "java/lang/String" "coder" "B" (.int 0) q.1 A s s.heap ∧ va_OF "java/lang/String" "value" "[B" (.ref q.2) q.1 A s s.heap ∧ va_T .byte q.2 (LENS.getD i 0) (fun j => .int ((BYTS.getD i []).getD j 0)) A s s.heap := by
    intro i
    by_cases hi : i < 22
    · obtain ⟨a, c, cA, kA, q1, q2, q3, q4, q5, q6, -⟩ := Cond.exactly_spec (args := args) (first := s) (o := none) (s := s) (idx := []) (t := TMS i) (cls := "java/lang/String") (hs _ (List.mem_of_getElem? (fx_ex i hi)))
      obtain ⟨t, ht, hT⟩ := va_Tof (f := fun j => .int ((BYTS.getD i []).getD j 0)) (A := A) ((show ∀ i : Nat, i < 22 → LENS.getD i 0 < 2 ^ 31 by decide) i hi) (hs _ (List.mem_of_getElem? (fx_ar i hi))) (va_eqt (hs _ (List.mem_of_getElem? (fx_le i hi)))) (fun j hj => va_eqt (hs _ (List.mem_of_getElem? (fx_el i hi j hj)))) hA
      exact ⟨(a, t), fun _ => ⟨q1, ⟨cA, q3, q5, by rw [q6]; exact q2, hA a (Array.getElem?_eq_some_iff.mp q3).1⟩, vk_OFof q1 (va_eqt (hs _ (List.mem_of_getElem? (fx_co i hi)))) hA, vk_OFof q1 ht hA, hT⟩⟩
    · exact ⟨(0, 0), fun h => absurd h hi⟩
  obtain ⟨ad, had⟩ := Classical.axiomOfChoice h0
  exact ⟨fun i => (ad i).1, fun i => (ad i).2, fun i hi => (had i hi).2, fun i hi => (had i hi).1⟩
/-- the addresses: the texts, the three statics, two classes -/
def KF (adK : Nat → Nat) (tV tT tO a b : Nat) : Nat → Nat := fun k => if k < 22 then adK k else if k = 30 then tV else if k = 31 then tT else if k = 32 then tO else if k = 50 then a else b
theorem KF_lt {adK : Nat → Nat} {tV tT tO a b k : Nat} (h : k < 22) : KF adK tV tT tO a b k = adK k := if_pos h
theorem ze_of {s : State} {args : Array Value} {G : va_G} {c : Nat → ClassId} (hts : ∀ w ∈ lw_tb2, w.before args s = true) (hs : ∀ c ∈ FLW, c.before args s = true) (hK : va_K G vwCl (TY c) s) : ∃ K : (Nat → Nat) × (Nat → Nat), NW K s ∧ ZE K (fun q => s.heap.size ≤ q) s s.heap ∧ K.1 50 = c 5 ∧ K.1 51 = c 7 := by
  have hA : ∀ a : Nat, a < s.heap.size → ¬ (fun q : Nat => s.heap.size ≤ q) a := fun a ha => Nat.not_le.mpr ha
  obtain ⟨adK, adV, hS, he⟩ := zs_of (A := fun q : Nat => s.heap.size ≤ q) hs hA
  obtain ⟨tO, o1, o2⟩ := va_Tof (f := fun j => .int (dg_O j)) (A := fun q : Nat => s.heap.size ≤ q) (N := 100) (by decide) (hs _ (List.mem_of_getElem? fx_d1.1)) (va_eqt (hs _ (List.mem_of_getElem? fx_d1.2.1))) (fun j hj => va_eqt (hs _ (List.mem_of_getElem? (fx_d1.2.2 j hj)))) hA
  obtain ⟨tT, t1, t2⟩ := va_Tof (f := fun j => .int (dg_T j)) (A := fun q : Nat => s.heap.size ≤ q) (N := 100) (by decide) (hs _ (List.mem_of_getElem? fx_d2.1)) (va_eqt (hs _ (List.mem_of_getElem? fx_d2.2.1))) (fun j hj => va_eqt (hs _ (List.mem_of_getElem? (fx_d2.2.2 j hj)))) hA
  obtain ⟨tV, v1, v2⟩ := va_Tof (f := fun j => .ref (adK (5 + j))) (A := fun q : Nat => s.heap.size ≤ q) (N := 5) (by decide) (hs _ (List.mem_of_getElem? fx_v.1)) (va_eqt (hs _ (List.mem_of_getElem? fx_v.2.1))) (fun j hj => va_eqv (hs _ (List.mem_of_getElem? (fx_v.2.2 j hj).1)) (va_eqR (hs _ (List.mem_of_getElem? (fx_v.2.2 j hj).2)) (he (5 + j) (by omega)))) hA
  refine ⟨(KF adK tV tT tO (c 5) (c 7), adV), ⟨nwf_all hts, nwm_all hts, fun q hq => ?_⟩, ⟨⟨fun i hi => ?_, v2.congr fun j hj => ?_, t2, o2, (hK.2 5 (c 5, .byte) rfl).1, (hK.2 7 (c 7, .object "java/lang/String") rfl).1⟩, ?_, ?_, ?_, ?_, ?_, ?_, ?_⟩, rfl, rfl⟩
  · obtain ⟨h1, h2⟩ := fx_sw q hq
    refine vk_R.of (A := args) (hts _ (sws_in _ (List.mem_map.mpr ⟨q, hq, rfl⟩))) ?_
    show (Term.string q.1 q.2.1).eval args s none [] s = some (.ref (KF adK tV tT tO (c 5) (c 7) q.2.2.2))
    rw [KF_lt h1]
    have h3 := he _ h1
    rcases h2 with h2 | ⟨r, hr, r1, r2, r3⟩
    · rw [show TMS q.2.2.2 = Term.string q.1 q.2.1 from by unfold TMS; rw [List.getD_eq_getElem?_getD, h2]; rfl] at h3
      exact h3
    · have h4 := hs _ (List.mem_of_getElem? (fx_eq r hr))
      rw [r1, r2, r3] at h4
      exact va_eqR h4 h3
  · show va_O "java/lang/String" (KF adK tV tT tO (c 5) (c 7) i) _ s s.heap ∧ va_OF _ _ _ _ (KF adK tV tT tO (c 5) (c 7) i) _ s s.heap ∧ va_OF _ _ _ _ (KF adK tV tT tO (c 5) (c 7) i) _ s s.heap ∧ _
    rw [KF_lt hi]
    exact hS i hi
  · show Value.ref (adK (5 + j)) = Value.ref (KF adK tV tT tO (c 5) (c 7) (5 + j))
    rw [KF_lt (by omega)]
  · exact va_Zof (args := args) (hts (.laysStatic "java/lang/String" "COMPACT_STRINGS" "Z") (tin_c [.laysStatic "java/lang/String" "COMPACT_STRINGS" "Z"] [(3, 23)] rfl _ (List.mem_singleton.mpr rfl))) (hts (.initialized "java/lang/String") (tin_c [.initialized "java/lang/String"] [(0, 21)] rfl _ (List.mem_singleton.mpr rfl))) (va_eqi (hs _ (List.mem_of_getElem? fx_st.1))) hA
  · exact vx_Zqof (args := args) (hts (.laysStatic Bundle.tN "UNASSIGNED_STACK" Bundle.steD) (tin_c [.laysStatic Bundle.tN "UNASSIGNED_STACK" Bundle.steD] [(2, 186)] rfl _ (List.mem_singleton.mpr rfl))) (hts (.initialized Bundle.tN) (tin_c [.initialized Bundle.tN] [(0, 13)] rfl _ (List.mem_singleton.mpr rfl))) (hs _ (List.mem_of_getElem? fx_st.2.1)) hA
  · exact vx_Zqof (args := args) (hts (.laysStatic Bundle.tN "SUPPRESSED_SENTINEL" Bundle.listD) (tin_c [.laysStatic Bundle.tN "SUPPRESSED_SENTINEL" Bundle.listD] [(2, 188)] rfl _ (List.mem_singleton.mpr rfl))) (hts (.initialized Bundle.tN) (tin_c [.initialized Bundle.tN] [(0, 13)] rfl _ (List.mem_singleton.mpr rfl))) (hs _ (List.mem_of_getElem? fx_st.2.2.1)) hA
  · exact va_Zqof (args := args) (hts (.laysStatic "jdk/internal/util/Preconditions" "SIOOBE_FORMATTER" "Ljava/util/function/BiFunction;") (tin_c [.laysStatic "jdk/internal/util/Preconditions" "SIOOBE_FORMATTER" "Ljava/util/function/BiFunction;"] [(3, 39)] rfl _ (List.mem_singleton.mpr rfl))) (hts (.initialized "jdk/internal/util/Preconditions") (tin_c [.initialized "jdk/internal/util/Preconditions"] [(0, 23)] rfl _ (List.mem_singleton.mpr rfl))) (hs _ (List.mem_of_getElem? fx_st.2.2.2)) hA
  · exact va_Zof (args := args) (hts (.laysStatic "HubTrainsLaw" "VARIABLES" "[Ljava/lang/String;") (tin_c [.laysStatic "HubTrainsLaw" "VARIABLES" "[Ljava/lang/String;"] [(6, 26)] rfl _ (List.mem_singleton.mpr rfl))) (hts (.initialized "HubTrainsLaw") (tin_c [.initialized "HubTrainsLaw"] [(0, 0)] rfl _ (List.mem_singleton.mpr rfl))) v1 hA
  · exact va_Zof (args := args) (hts (.laysStatic "java/lang/Integer" "DigitTens" "[B") (tin_c [.laysStatic "java/lang/Integer" "DigitTens" "[B"] [(5, 180)] rfl _ (List.mem_singleton.mpr rfl))) (hts (.initialized "java/lang/Integer") (tin_c [.initialized "java/lang/Integer"] [(0, 30)] rfl _ (List.mem_singleton.mpr rfl))) t1 hA
  · exact va_Zof (args := args) (hts (.laysStatic "java/lang/Integer" "DigitOnes" "[B") (tin_c [.laysStatic "java/lang/Integer" "DigitOnes" "[B"] [(5, 178)] rfl _ (List.mem_singleton.mpr rfl))) (hts (.initialized "java/lang/Integer") (tin_c [.initialized "java/lang/Integer"] [(0, 30)] rfl _ (List.mem_singleton.mpr rfl))) o1 hA
