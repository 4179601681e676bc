theorem and31 (y : Int32) : ∃ j : Nat, j < 32 ∧ y &&& 31 = nI j := by
  refine ⟨(y &&& 31).toBitVec.toNat, ?_, ?_⟩
  · have h : (y &&& 31).toBitVec = y.toBitVec &&& 31#32 := rfl
    rw [h, BitVec.toNat_and]
    exact Nat.lt_of_le_of_lt Nat.and_le_right (by decide)
  · apply Int32.toBitVec_inj.mp
    show _ = BitVec.ofNat 32 _
    simp
theorem lp_gt {i L : Nat} (h : L < i + 6) (h1 : i < 100000) (h2 : L < 100000) : nI L - 6 < nI i := by
  rw [Int32.lt_iff_toInt_lt, nI_toInt (n := i) (by omega)]
  rcases Nat.lt_or_ge L 6 with hl | hl
  · have hz : (nI L - 6).toInt < 0 := by
      rcases (show L = 0 ∨ L = 1 ∨ L = 2 ∨ L = 3 ∨ L = 4 ∨ L = 5 by omega) with rfl | rfl | rfl | rfl | rfl | rfl <;> decide
    omega
  · obtain ⟨d, rfl⟩ : ∃ d, L = d + 6 := ⟨L - 6, by omega⟩
    have e : nI (d + 6) - 6 = nI d := by
      rw [← nI_add d 6]
      exact Int32.add_sub_cancel _ _
    rw [e, nI_toInt (by omega)]
    omega
set_option maxHeartbeats 4000000 in
theorem law_loop {p : Program} {l : Launch} {e : Env} {s : State} {m : MethodId} {below : List Frame} {meth : Method} {c1 : Code} {G : va_G} {K : (Nat → Nat) × (Nat → Nat)} {c : Nat → ClassId} {am ah : Nat → Nat} {ag : Nat → Nat → Nat} {ar : Nat → Nat} {out b L : Nat} {xs : Nat → Int32} (lc : LC p l s m #[Value.ref b] c1 G K c b L xs) (hL : L ≤ 3072) (hr : meth.sig.returnType = ret) (hlocks : meth.locks = false) :
    ∀ (n i : Nat) (x : MS) (sH : HS) (ps : PS) (f : Nat → Int64) (cells slots : Nat), L ≤ i + 6 * n → i ≤ L + 5 → cells + 3 * n ≤ 601024 ∧ slots + 518 * n ≤ 7293034 → Sim sH x ps → ∀ (H : Heap) (locs : List Loc) (ls : Array Slot), va_P G vwCl (wM c am x ++ (wQ c out f ++ wH c ah ag ar ps sH)) H → va_D (fun q : Nat => s.heap.size ≤ q) (wM c am x ++ (wQ c out f ++ wH c ah ag ar ps sH)) → va_S (fun q : Nat => s.heap.size ≤ q) s.heap H locs → lv_has ls 9 [(0, .ref b), (1, .ref (ah 0)), (2, .ref (am 0)), (3, .ref out), (4, .int (nI i))] → W p l e room_1 s m #[Value.ref b] below meth c1 H locs cells slots (lw_Z below #[Value.ref b] s) (F0 m 23 ls []) := by
  have lc0 := lc
  obtain ⟨hl0, hx, hb, hml, hown, hts, hX, hbl, hK, hN, hZ, hXA, hXW, hNC⟩ := lc
  have hbA : ¬ (fun q : Nat => s.heap.size ≤ q) b := Nat.not_le.mpr hbl
  intro n
  induction n with
  | zero =>
    intro i x sH ps f cells slots h1 h2 hc hSim H locs ls hP hD hS hl
    refine lv_iload hx hb dL_law_23 (lv_at hl 4 rfl) ?_
    refine lv_aload_n hx hb dL_law_25 rfl (lv_at hl 0 rfl) ?_
    refine va_slen hx hb hX hbl hbA hS dL_law_26 ?_
    refine lv_bipush (v := 6) hx hb dL_law_27 (by decide) ?_
    refine lv_isub hx hb dL_law_29 ?_
    refine lv_icmp_gt (tgt := 1331) hx hb dL_law_30 (by decide) (fun _ => ?_) (fun h => absurd (lp_gt (by omega) (by omega) (by omega)) h)
    refine lv_iconst (v := 1) hx hb dL_law_1331 (by decide) ?_
    refine va_forget (fun q hq => hS.2.2 q hq) ?_
    refine W.widen (k := 601024) (n := 7293034) (by omega) (by omega) ?_
    exact lw_ret (d0 := s.drawn) (Drawn.sameBut.refl s.drawn lw_cs) hx hb hr hlocks dL_law_1332
  | succ n ih =>
    intro i x sH ps f cells slots h1 h2 hc hSim H locs ls hP hD hS hl
    refine lv_iload hx hb dL_law_23 (lv_at hl 4 rfl) ?_
    refine lv_aload_n hx hb dL_law_25 rfl (lv_at hl 0 rfl) ?_
    refine va_slen hx hb hX hbl hbA hS dL_law_26 ?_
    refine lv_bipush (v := 6) hx hb dL_law_27 (by decide) ?_
    refine lv_isub hx hb dL_law_29 ?_
    refine lv_icmp_gt (tgt := 1331) hx hb dL_law_30 (by decide) (fun _ => ?_) (fun hgt => ?_)
    · refine lv_iconst (v := 1) hx hb dL_law_1331 (by decide) ?_
      refine va_forget (fun q hq => hS.2.2 q hq) ?_
      refine W.widen (k := 601024) (n := 7293034) (by omega) (by omega) ?_
      exact lw_ret (d0 := s.drawn) (Drawn.sameBut.refl s.drawn lw_cs) hx hb hr hlocks dL_law_1332
    · have h6 : i + 6 ≤ L := Decidable.byContradiction (fun h => hgt (lp_gt (by omega) (by omega) (by omega)))
      have ik : ∀ k : Nat, k < 6 → vp_in (nI i + nI k) L := fun k hk => by rw [nI_add]; exact vp_in_nI (by omega) (by omega)
      have i0 : vp_in (nI i) L := vp_in_nI (by omega) (by omega)
      have next : ∀ (sH' : HS) (x' : MS) (ps' : PS) (f' : Nat → Int64) (H : Heap) (locs : List Loc) (ls : Array Slot), Sim sH' x' ps' → va_P G vwCl (wM c am x' ++ (wQ c out f' ++ wH c ah ag ar ps' sH')) H → va_D (fun q : Nat => s.heap.size ≤ q) (wM c am x' ++ (wQ c out f' ++ wH c ah ag ar ps' sH')) → va_S (fun q : Nat => s.heap.size ≤ q) s.heap H locs → lv_has ls 9 [(0, .ref b), (1, .ref (ah 0)), (2, .ref (am 0)), (3, .ref out), (4, .int (nI i))] → W p l e room_1 s m #[Value.ref b] below meth c1 H locs (cells + 3) (slots + 518) (lw_Z below #[Value.ref b] s) (F0 m 1325 ls []) := by
        intro sH' x' ps' f' H locs ls hS' hP hD hS hl
        refine lv_iinc (v := nI (i + 6)) (lv' := [(4, .int (nI (i + 6))), (0, .ref b), (1, .ref (ah 0)), (2, .ref (am 0)), (3, .ref out)]) hx hb dL_law_1325 hl (k := 4) rfl (nI_add i 6) (by decide) rfl (fun ls hl => ?_)
        refine lv_goto (tgt := 23) hx hb dL_law_1328 (by decide) ?_
        exact ih (i + 6) x' sH' ps' f' (cells + 3) (slots + 518) (by omega) (by omega) ⟨by omega, by omega⟩ hS' H locs ls hP hD hS (lv_sub hl [1, 2, 3, 4, 0] rfl)
      refine lv_aload_n hx hb dL_law_33 rfl (lv_at hl 0 rfl) ?_
      refine lv_iload hx hb dL_law_34 (lv_at hl 4 rfl) ?_
      refine va_sld hx hb hX hbl hbA hS i0 dL_law_36 ?_
      refine lv_bipush (v := 31) hx hb dL_law_37 (by decide) ?_
      refine lv_iand hx hb dL_law_39 ?_
      obtain ⟨j, hj, ej⟩ := and31 (xs (nI i).toNatClampNeg)
      rw [ej]
      have hc3 : cells + 3 ≤ 601024 ∧ slots + 518 ≤ 7293034 := ⟨by omega, by omega⟩
      rcases (show j = 0 ∨ j = 1 ∨ j = 2 ∨ j = 3 ∨ j = 4 ∨ j = 5 ∨ j = 6 ∨ j = 7 ∨ j = 8 ∨ j = 9 ∨ j = 10 ∨ j = 11 ∨ j = 12 ∨ j = 13 ∨ j = 14 ∨ j = 15 ∨ j = 16 ∨ j = 17 ∨ j = 18 ∨ j = 19 ∨ j = 20 ∨ j = 21 ∨ j = 22 ∨ j = 23 ∨ 24 ≤ j by omega) with rfl | rfl | rfl | rfl | rfl | rfl | rfl | rfl | rfl | rfl | rfl | rfl | rfl | rfl | rfl | rfl | rfl | rfl | rfl | rfl | rfl | rfl | rfl | rfl | h24
      · refine lv_tableIn (off := 112) (tgt := 152) hx hb dL_law_40 (by decide) (by decide) (by decide) (by decide) ?_
        exact case_append lc0 (ik 1 (by omega)) (ik 2 (by omega)) (ik 3 (by omega)) (ik 4 (by omega)) (ik 5 (by omega)) hc3 hSim hP hD hS hl next
      · refine lv_tableIn (off := 185) (tgt := 225) hx hb dL_law_40 (by decide) (by decide) (by decide) (by decide) ?_
        exact case_load lc0 (ik 1 (by omega)) hc3 hSim hP hD hS hl next
      · refine lv_tableIn (off := 241) (tgt := 281) hx hb dL_law_40 (by decide) (by decide) (by decide) (by decide) ?_
        exact case_errorOffset lc0  hc3 hSim hP hD hS hl next
      · refine lv_tableIn (off := 254) (tgt := 294) hx hb dL_law_40 (by decide) (by decide) (by decide) (by decide) ?_
        exact case_state lc0 (ik 1 (by omega)) hc3 hSim hP hD hS hl next
      · refine lv_tableIn (off := 310) (tgt := 350) hx hb dL_law_40 (by decide) (by decide) (by decide) (by decide) ?_
        exact case_player lc0 (ik 1 (by omega)) (ik 2 (by omega)) hc3 hSim hP hD hS hl next
      · refine lv_tableIn (off := 378) (tgt := 418) hx hb dL_law_40 (by decide) (by decide) (by decide) (by decide) ?_
        exact case_tile lc0 (ik 1 (by omega)) (ik 2 (by omega)) hc3 hSim hP hD hS hl next
      · refine lv_tableIn (off := 446) (tgt := 486) hx hb dL_law_40 (by decide) (by decide) (by decide) (by decide) ?_
        exact case_train lc0 (ik 1 (by omega)) (ik 2 (by omega)) hc3 hSim hP hD hS hl next
      · refine lv_tableIn (off := 514) (tgt := 554) hx hb dL_law_40 (by decide) (by decide) (by decide) (by decide) ?_
        exact case_laid lc0 (ik 1 (by omega)) (ik 2 (by omega)) hc3 hSim hP hD hS hl next
      · refine lv_tableIn (off := 582) (tgt := 622) hx hb dL_law_40 (by decide) (by decide) (by decide) (by decide) ?_
        exact case_why lc0 (ik 1 (by omega)) (ik 2 (by omega)) hc3 hSim hP hD hS hl next
      · refine lv_tableIn (off := 650) (tgt := 690) hx hb dL_law_40 (by decide) (by decide) (by decide) (by decide) ?_
        exact case_best lc0  hc3 hSim hP hD hS hl next
      · refine lv_tableIn (off := 663) (tgt := 703) hx hb dL_law_40 (by decide) (by decide) (by decide) (by decide) ?_
        exact case_rank lc0 (ik 1 (by omega)) (ik 2 (by omega)) hc3 hSim hP hD hS hl next
      · refine lv_tableIn (off := 731) (tgt := 771) hx hb dL_law_40 (by decide) (by decide) (by decide) (by decide) ?_
        exact case_longest lc0 (ik 1 (by omega)) hc3 hSim hP hD hS hl next
      · refine lv_tableIn (off := 787) (tgt := 827) hx hb dL_law_40 (by decide) (by decide) (by decide) (by decide) ?_
        exact case_longestTile lc0 (ik 1 (by omega)) (ik 2 (by omega)) hc3 hSim hP hD hS hl next
      · refine lv_tableIn (off := 855) (tgt := 895) hx hb dL_law_40 (by decide) (by decide) (by decide) (by decide) ?_
        exact case_heaviest lc0 (ik 1 (by omega)) hc3 hSim hP hD hS hl next
      · refine lv_tableIn (off := 911) (tgt := 951) hx hb dL_law_40 (by decide) (by decide) (by decide) (by decide) ?_
        exact case_winner lc0  hc3 hSim hP hD hS hl next
      · refine lv_tableIn (off := 924) (tgt := 964) hx hb dL_law_40 (by decide) (by decide) (by decide) (by decide) ?_
        exact case_stepsToEnd lc0  hc3 hSim hP hD hS hl next
      · refine lv_tableIn (off := 937) (tgt := 977) hx hb dL_law_40 (by decide) (by decide) (by decide) (by decide) ?_
        exact case_meanPips lc0  hc3 hSim hP hD hS hl next
      · refine lv_tableIn (off := 978) (tgt := 1018) hx hb dL_law_40 (by decide) (by decide) (by decide) (by decide) ?_
        exact case_play lc0 (ik 1 (by omega)) (ik 2 (by omega)) hc3 hSim hP hD hS hl next
      · refine lv_tableIn (off := 1046) (tgt := 1086) hx hb dL_law_40 (by decide) (by decide) (by decide) (by decide) ?_
        exact case_draw lc0  hc3 hSim hP hD hS hl next
      · refine lv_tableIn (off := 1090) (tgt := 1130) hx hb dL_law_40 (by decide) (by decide) (by decide) (by decide) ?_
        exact case_pass lc0  hc3 hSim hP hD hS hl next
      · refine lv_tableIn (off := 1134) (tgt := 1174) hx hb dL_law_40 (by decide) (by decide) (by decide) (by decide) ?_
        exact case_auto lc0 (ik 1 (by omega)) hc3 hSim hP hD hS hl next
      · refine lv_tableIn (off := 1190) (tgt := 1230) hx hb dL_law_40 (by decide) (by decide) (by decide) (by decide) ?_
        exact case_deal lc0 (ik 1 (by omega)) (ik 2 (by omega)) hc3 hSim hP hD hS hl next
      · refine lv_tableIn (off := 1258) (tgt := 1298) hx hb dL_law_40 (by decide) (by decide) (by decide) (by decide) ?_
        exact case_undo lc0  hc3 hSim hP hD hS hl next
      · refine lv_tableIn (off := 1271) (tgt := 1311) hx hb dL_law_40 (by decide) (by decide) (by decide) (by decide) ?_
        exact case_checksum lc0  hc3 hSim hP hD hS hl next
      · refine lv_tableOut (tgt := 1325) hx hb dL_law_40 (Or.inr (by rw [show (nI j).toInt = (j : Int) from nI_toInt (by omega)]; omega)) (by decide) ?_
        refine W.widen (k := cells + 3) (n := slots + 518) (by omega) (by omega) ?_
        exact next sH x ps f H locs ls hSim hP hD hS hl
