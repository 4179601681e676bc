/-! the digest -/
section RTD
variable {s7 : HS} {T : TT} {mx np hs hb tn pa f e n : Nat}
theorem ck_0 (f : Nat → Int32) (v : Int64) : ckF f 0 v = v := rfl
theorem ckL_srt (l : List Nat) (k : Nat) (v : Int64) : ckL (srtT l (k + 1)) v = if k ∈ l then 31 * ckL (srtT l k) v + (nI k).toInt64 else ckL (srtT l k) v := by
  rw [srtT_s]
  split
  · unfold ckL
    rw [List.foldl_append]
    rfl
  · rfl
theorem RT.chk (r : RT s7.2.1 T np hb f e n) (h : Inv s7.2.1 mx np hs hb tn pa f e n) : f_X7_checksum s7 = some (chkT T np hb tn) := by
  have hnp := h.np
  -- the trains
  have trains : ∀ v : Int64, itr2 (f_X7_checksum_B125 s7) FUEL v 0 = some (ckT T hb (np + 1) v) := by
    intro v
    refine lr2 (fun (o : Option Int64) => o = some (ckT T hb (np + 1) v)) (fun (m : Nat) (v1 : Int64) (v2 : Int32) => ∃ t, v2 = nI t ∧ t + m = np + 1 ∧ v1 = ckT T hb t v) ?_ FUEL (np + 1) v 0 (FUEL_lt (by omega)) ⟨0, rfl, by omega, rfl⟩
    rintro rec m v1 v2 ⟨t, rfl, hm, rfl⟩ ih
    unfold f_X7_checksum_B125
    rw [hnp.1, ie_lt (by omega) (by omega)]
    by_cases h1 : np < t
    · rw [if_pos h1, show t = np + 1 by omega]
    · rw [if_neg h1]
      refine lr2 (fun (o : Option Int64) => o = some (ckT T hb (np + 1) v)) (fun (m : Nat) (v1 : Int64) (v2 : Int32) => ∃ u, v2 = nI u ∧ u + m = 5 ∧ v1 = ckF (ofTT T hb t) u (ckT T hb t v)) ?_ FUEL 5 _ 0 (FUEL_lt (by omega)) ⟨0, rfl, by omega, rfl⟩
      rintro rec2 m2 v1 v2 ⟨u, rfl, hm2, rfl⟩ ih2
      unfold f_X7_checksum_B139
      rw [i_5, ie_le (by omega) (by omega)]
      by_cases h2 : 5 ≤ u
      · rw [if_pos h2, nI_1]
        exact ih (m - 1) _ _ (by omega) ⟨t + 1, rfl, by omega, by rw [ckT_s, show u = 5 by omega]⟩
      · rw [if_neg h2, r.train h (t := t) (w := u) (by omega) (by omega), bd1_S, nmd_S, nI_1]
        exact ih2 (m2 - 1) _ _ (by omega) ⟨u + 1, rfl, by omega, by rw [ckF_s]⟩
  -- the players
  have players : ∀ v : Int64, itr2 (f_X7_checksum_B34 s7) FUEL v 0 = some (ckT T hb (np + 1) (ckP T np hb tn np v)) := by
    intro v
    refine lr2 (fun (o : Option Int64) => o = some (ckT T hb (np + 1) (ckP T np hb tn np v))) (fun (m : Nat) (v1 : Int64) (v2 : Int32) => ∃ t, v2 = nI t ∧ t + m = np ∧ v1 = ckP T np hb tn t v) ?_ FUEL np v 0 (FUEL_lt (by omega)) ⟨0, rfl, by omega, rfl⟩
    rintro rec m v1 v2 ⟨t, rfl, hm, rfl⟩ ih
    unfold f_X7_checksum_B34
    rw [hnp.1, ie_le (by omega) (by omega)]
    by_cases h1 : np ≤ t
    · rw [if_pos h1, trains, show t = np by omega]
    · rw [if_neg h1]
      have codes : ∀ w : Int64, w = ckF (ofPT T np hb tn t) 4 (ckP T np hb tn t v) → itr2 (f_X7_checksum_B81 s7 rec (nI t)) FUEL w 0 = some (ckT T hb (np + 1) (ckP T np hb tn np v)) := by
        intro w hw
        refine lr2 (fun (o : Option Int64) => o = some (ckT T hb (np + 1) (ckP T np hb tn np v))) (fun (m : Nat) (v1 : Int64) (v2 : Int32) => ∃ u, v2 = nI u ∧ u + m = 100 ∧ v1 = ckL (srtT (hnd T t) u) w) ?_ FUEL 100 _ 0 (FUEL_lt (by omega)) ⟨0, rfl, by omega, rfl⟩
        rintro rec2 m2 v1 v2 ⟨u, rfl, hm2, rfl⟩ ih2
        unfold f_X7_checksum_B81
        rw [i_100, ie_le (by omega) (by omega)]
        by_cases h2 : 100 ≤ u
        · rw [if_pos h2, nI_1]
          exact ih (m - 1) _ _ (by omega) ⟨t + 1, rfl, by omega, by rw [ckP_s, show u = 100 by omega, hw]⟩
        · rw [if_neg h2, e_holder (by omega), bd1_S, nI_1]
          have hmem : u ∈ hnd T t ↔ s7.2.1.1.2 0 u = nI t := by
            rw [(r.H t (by omega)).mem_iff, hL_mem]
            exact ⟨fun q => q.2, fun q => ⟨by omega, q⟩⟩
          by_cases h3 : s7.2.1.1.2 0 u = nI t
          · rw [if_pos h3, nmd_S]
            exact ih2 (m2 - 1) _ _ (by omega) ⟨u + 1, rfl, by omega, by rw [ckL_srt, if_pos (hmem.mpr h3)]⟩
          · rw [if_neg h3]
            exact ih2 (m2 - 1) _ _ (by omega) ⟨u + 1, rfl, by omega, by rw [ckL_srt, if_neg (fun z => h3 (hmem.mp z))]⟩
      refine lr2 (fun (o : Option Int64) => o = some (ckT T hb (np + 1) (ckP T np hb tn np v))) (fun (m : Nat) (v1 : Int64) (v2 : Int32) => ∃ u, v2 = nI u ∧ u + m = 4 ∧ v1 = ckF (ofPT T np hb tn t) u (ckP T np hb tn t v)) ?_ FUEL 4 _ 0 (FUEL_lt (by omega)) ⟨0, rfl, by omega, rfl⟩
      rintro rec2 m2 v1 v2 ⟨u, rfl, hm2, rfl⟩ ih2
      unfold f_X7_checksum_B48
      rw [i_4, ie_le (by omega) (by omega)]
      by_cases h2 : 4 ≤ u
      · rw [if_pos h2]
        exact codes _ (by rw [show u = 4 by omega])
      · rw [if_neg h2, r.player h (p := t) (w := u) (by omega) (by omega), bd1_S, nmd_S, nI_1]
        exact ih2 (m2 - 1) _ _ (by omega) ⟨u + 1, rfl, by omega, by rw [ckF_s]⟩
  unfold f_X7_checksum
  refine lr2 (fun (o : Option Int64) => o = some (chkT T np hb tn)) (fun (m : Nat) (v1 : Int64) (v2 : Int32) => ∃ u, v2 = nI u ∧ u + m = 13 ∧ v1 = ckF (toldT T np hb tn) u 0) ?_ FUEL 13 0 0 (FUEL_lt (by omega)) ⟨0, rfl, by omega, rfl⟩
  rintro rec2 m2 v1 v2 ⟨u, rfl, hm2, rfl⟩ ih2
  unfold f_X7_checksum_B4
  rw [i_13, ie_le (by omega) (by omega)]
  by_cases h2 : 13 ≤ u
  · rw [if_pos h2, players, show u = 13 by omega]
    rfl
  · rw [if_neg h2, r.state h (w := u) (by omega), bd1_S, nmd_S, nI_1]
    exact ih2 (m2 - 1) _ _ (by omega) ⟨u + 1, rfl, by omega, by rw [ckF_s]⟩
end RTD
