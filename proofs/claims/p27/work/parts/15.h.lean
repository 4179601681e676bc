/-- the law from its entry, for every script -/
theorem whole_start {p : Program} {e : Env} {s : State} {m : MethodId} {below : List Frame} {meth : Method} {c : Code} (l : Launch) (hflags : l.flags = flags0) {b L : Nat} {xs : Nat → Int32} (hL : L ≤ 260) (C0 : lw_At p s m meth c b L xs) : W p l e room_1 s m #[Value.ref b] below meth c s.heap [] 0 0 (lw_Z below #[Value.ref b] s) (entryFrame m ([Value.ref b] : List Value).toArray 20) := by
  obtain ⟨hx, hb, hr, hml, hown, hts0, hX, hbl, hlocks, hgv⟩ := C0
  have hts := lw_hts2 hts0
  have hs : ∀ c ∈ FLW, c.before #[Value.ref b] s = true := flat_of_before _ hgv
  obtain ⟨G, c9, hK⟩ := k_of hts
  obtain ⟨K, hN, hZ, k5, k7⟩ := ze_of hts hs hK
  have hl0 : l.stackTraces = false := by
    unfold Launch.stackTraces
    rw [hflags]
    decide +kernel
  have hl := lv_entry ([.ref b]) (n := 20) (Nat.le_of_ble_eq_true rfl)
  rw [lg_entry_eq]
  generalize (lg_sl ([.ref b]) ++ List.replicate (20 - (lg_sl ([.ref b])).length) Slot.unset).toArray = ls at hl ⊢
  have hl : lv_has ls 20 [(0, .ref b)] := hl
  refine h_L_law (mc := 600086) (ms := 7301442) (A := fun q => s.heap.size ≤ q) (post := fun v _ => v = 1) hl0 hx hb hml hown hts hK hN hZ ⟨⟨ao_g hts, aoa_i hts⟩, xw_of hts, nc_of hs, ao_t hts, xcc_of hts⟩ (fun _ h => h) hX hbl (Nat.not_le.mpr hbl) ?_ (hst_P hZ) hst_D va_S.rf (l_law (hst_K hK hZ k5 k7) hL (by omega) (by omega) (fun _ => rfl)) hl
  intro H locs ls pc cells slots v h1 hc1 hc2 hn hp hP1 hD1 hS hdg
  subst hp
  refine va_forget hS.2.2 (W.widen hc1 hc2 ?_)
  exact lw_ret hx hb hr hlocks hdg
