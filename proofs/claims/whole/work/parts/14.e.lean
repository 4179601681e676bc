theorem ps_fresh {A : Nat → Prop} {X : va_W} {c : Nat → ClassId} {ah : Nat → Nat} {ag : Nat → Nat → Nat} {ar : Nat → Nat} {ps : PS} {sH : HS} {q : Nat × Nat × Nat × Nat × SA} (h : va_D A (X ++ wH c ah ag ar (ps ++ [q]) sH)) : ∀ z ∈ ps, ¬ z.1 = q.1 := by
  intro z hz he
  have h1 := zD_r h
  unfold wH at h1
  have h2 := zD_r h1
  rw [wP_app] at h2
  obtain ⟨v, hv⟩ : ∃ v, (z.1, v) ∈ wP c ps := ⟨.inr (0, [.ref z.2.1, .ref z.2.2.1]), by unfold wP; exact List.mem_flatMap.mpr ⟨z, hz, List.mem_cons_self⟩⟩
  obtain ⟨i, hi⟩ := List.mem_iff_getElem?.mp hv
  have hil : i < (wP c ps).length := (List.getElem?_eq_some_iff.mp hi).1
  have e1 : (wP c ps ++ wP c [q])[i]? = some (z.1, v) := by rw [List.getElem?_append_left hil]; exact hi
  have e2 : (wP c ps ++ wP c [q])[(wP c ps).length]? = some (q.1, .inr (0, [.ref q.2.1, .ref q.2.2.1])) := by rw [List.getElem?_append_right (Nat.le_refl _), Nat.sub_self]; rfl
  have := h2.1 _ _ _ _ e1 e2 he
  omega
theorem case_load {p : Program} {l : Launch} {e : Env} {s : State} {m : MethodId} {args : Array Value} {below : List Frame} {meth : Method} {c1 : Code} {Q : State → Prop} {G : va_G} {K : (Nat → Nat) × (Nat → Nat)} {c : Nat → ClassId} {am ah : Nat → Nat} {ag : Nat → Nat → Nat} {ar : Nat → Nat} {out b L : Nat} {xs : Nat → Int32} (lc : LC p l s m args c1 G K c b L xs) {cells slots : Nat} {v4 : Int32} (i1 : vp_in (v4 + 1) L) (hc : cells + 3 ≤ 601024 ∧ slots + 518 ≤ 7293034) {sH : HS} {x : MS} {ps : PS} {f : Nat → Int64} (hSim : Sim sH x ps) {H : Heap} {locs : List Loc} {ls : Array Slot} (hP : va_P G vwCl (wM c am x ++ (wQ c out f ++ wH c ah ag ar ps sH)) H) (hD : va_D (fun q : Nat => s.heap.size ≤ q) (wM c am x ++ (wQ c out f ++ wH c ah ag ar ps sH))) (hS : va_S (fun q : Nat => s.heap.size ≤ q) s.heap H locs) (hl : lv_has ls 9 [(0, .ref b), (1, .ref (ah 0)), (2, .ref (am 0)), (3, .ref out), (4, .int v4)])
    (kk : ∀ (sH' : HS) (x' : MS) (ps' : PS) (f' : Nat → Int64) (H : Heap) (locs : List Loc) (ls : Array Slot), Sim sH' x' ps' → va_P G vwCl (wM c am x' ++ (wQ c out f' ++ wH c ah ag ar ps' sH')) H → va_D (fun q : Nat => s.heap.size ≤ q) (wM c am x' ++ (wQ c out f' ++ wH c ah ag ar ps' sH')) → va_S (fun q : Nat => s.heap.size ≤ q) s.heap H locs → lv_has ls 9 [(0, .ref b), (1, .ref (ah 0)), (2, .ref (am 0)), (3, .ref out), (4, .int v4)] → W p l e room_1 s m args below meth c1 H locs (cells + 3) (slots + 518) Q (F0 m 1325 ls [])) : W p l e room_1 s m args below meth c1 H locs cells slots Q (F0 m 225 ls []) := by
  have lc0 := lc
  obtain ⟨hl0, hx, hb, hml, hown, hts, hX, hbl, hK, hN, hZ, hXA, hXW, hNC⟩ := lc
  have hA : ∀ q : Nat, s.heap.size ≤ q → (fun q : Nat => s.heap.size ≤ q) q := fun _ h => h
  have hbA : ¬ (fun q : Nat => s.heap.size ≤ q) b := Nat.not_le.mpr hbl
  refine lv_aload_n hx hb dL_law_225 rfl (lv_at hl 1 rfl) ?_
  refine lv_aload_n hx hb dL_law_226 rfl (lv_at hl 0 rfl) ?_
  refine lv_iload hx hb dL_law_227 (lv_at hl 4 rfl) ?_
  refine lv_iconst (v := 1) hx hb dL_law_229 (by decide) ?_
  refine lv_iadd hx hb dL_law_230 ?_
  refine va_sld hx hb hX hbl hbA hS i1 dL_law_231 ?_
  refine lv_aload_n hx hb dL_law_232 rfl (lv_at hl 3 rfl) ?_
  rcases o_load hSim (xs (v4 + 1).toNatClampNeg) with ⟨r, sH', x', e1, e2, hS', e3⟩ | ⟨rd1, cnt, r, x', s', b1, b2, b3, b4, b5, b6, e2, e3, b7⟩ | ⟨E, c0, r, x', hEc, e1, e2, e3, hS'⟩
  · skip
    refine zcLi (wr := wM c am x) (wc := wQ c out f ++ wH c ah ag ar ps sH) (As := [.ref (ah 0), .int (xs (v4 + 1).toNatClampNeg), .ref out]) (rest := []) ⟨hx, hb, hml, hown, hts⟩ (w_load l G K c ah ag ar (ps := ps) (hm := e1) (out := out) (f := f)) (vx_cwSW 3 hts gL_law_L_load rfl rfl rfl (by decide +kernel) ⟨Nat.le_of_ble_eq_true rfl, Nat.le_of_ble_eq_true rfl⟩) hK hN hZ hXA hXW hNC hP hD hS hA rfl hl.1 rfl (Nat.le_of_ble_eq_true rfl) dL_law_233 ⟨by show cells + 0 ≤ 601024; omega, by show slots + 0 ≤ 7293034; omega⟩ (fun aa H locs hP hD hS => ?_)
    refine tail_load lc0 i1 ⟨by omega, by omega⟩ e2 e3 (fun _ => updL_s) hP hD hS hl (fun H locs ls hP hD hS hl => ?_)
    refine W.widen (k := cells + 3) (n := slots + 518) (by omega) (by omega) ?_
    exact kk sH' x' ps _ H locs ls hS' hP hD hS hl
  · have h0 : ¬ hFn rd1 < 0 := by rw [b4]; exact nI_lt0 (by omega)
    have hlt : hFn rd1 < 500 := by rw [b4, i_500]; exact nI_lt b5 (by omega)
    refine zcLi (wr := wM c am x) (wc := wQ c out f ++ wH c ah ag ar ps sH) (As := [.ref (ah 0), .int (xs (v4 + 1).toNatClampNeg), .ref out]) (rest := []) ⟨hx, hb, hml, hown, hts⟩ (wf_load l G K c ah ag ar (ps := ps) (s7 := sH) (rd1 := rd1) (hge := b1) (hle := b2) (hrd := b3) (h0 := h0) (hlt := hlt) (hm := b6) (out := out) (f := f)) (vx_cwSW 3 hts gL_law_L_load rfl rfl rfl (by decide +kernel) ⟨Nat.le_of_ble_eq_true rfl, Nat.le_of_ble_eq_true rfl⟩) hK hN hZ hXA hXW hNC hP hD hS hA rfl hl.1 rfl (Nat.le_of_ble_eq_true rfl) dL_law_233 ⟨by show cells + 3 ≤ 601024; omega, by show slots + 518 ≤ 7293034; omega⟩ (fun aa H locs hP hD hS => ?_)
    have hcn : (hFn rd1).toNatClampNeg = cnt := by rw [b4]; exact nI_clamp (by omega)
    rw [hcn] at hP hD
    have hS' := b7 (aa 0) (aa 1) (aa 2) (ps_fresh (X := wM c am x ++ wQ c out (vp_updL f (0 : Int32).toNatClampNeg r.toInt64)) (by rw [List.append_assoc]; exact hD))
    refine tail_load lc0 i1 ⟨by omega, by omega⟩ e2 e3 (fun _ => updL_s) hP hD hS hl (fun H locs ls hP hD hS hl => ?_)
    refine W.widen (k := cells + 3) (n := slots + 518) (by omega) (by omega) ?_
    exact kk (s' (aa 0)) x' _ _ H locs ls hS' hP hD hS hl
  · simp only [List.mem_cons, Prod.mk.injEq, List.not_mem_nil, or_false] at hEc
    obtain ⟨rfl, rfl⟩ := hEc
    refine zcLi (wr := wM c am x) (wc := wQ c out f ++ wH c ah ag ar ps sH) (As := [.ref (ah 0), .int (xs (v4 + 1).toNatClampNeg), .ref out]) (rest := []) ⟨hx, hb, hml, hown, hts⟩ (wt_load_1 l hl0 G K c ah ag ar (ps := ps) (hm := e1) (out := out) (f := f)) (vx_cwSW 3 hts gL_law_L_load rfl rfl rfl (by decide +kernel) ⟨Nat.le_of_ble_eq_true rfl, Nat.le_of_ble_eq_true rfl⟩) hK hN hZ hXA hXW hNC hP hD hS hA rfl hl.1 rfl (Nat.le_of_ble_eq_true rfl) dL_law_233 ⟨by show cells + 1 ≤ 601024; omega, by show slots + 6 ≤ 7293034; omega⟩ (fun aa H locs hP hD hS => ?_)
    refine tail_load lc0 i1 ⟨by omega, by omega⟩ e2 e3 (fun h => absurd h (by decide)) hP hD hS hl (fun H locs ls hP hD hS hl => ?_)
    refine W.widen (k := cells + 3) (n := slots + 518) (by omega) (by omega) ?_
    exact kk sH x' ps _ H locs ls hS' hP hD hS hl
