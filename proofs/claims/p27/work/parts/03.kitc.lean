def zset : va_W → List Nat → va_W → va_W
  | ws, i :: is, x :: xs => zset (ws.set i x) is xs
  | ws, _, _ => ws
theorem zset_get : ∀ (is : List Nat) (xs ws : va_W), xs.length = is.length → ∀ (k : Nat) (q : Nat × va_E), (zset ws is xs)[k]? = some q → (∃ j : Nat, is[j]? = some k ∧ xs[j]? = some q) ∨ (k ∉ is ∧ ws[k]? = some q)
  | [], xs, ws, hl, k, q, h => by
    have : xs = [] := by cases xs with | nil => rfl | cons a b => cases hl
    subst this
    exact Or.inr ⟨by simp, h⟩
  | i :: is, [], ws, hl, k, q, h => by cases hl
  | i :: is, x :: xs, ws, hl, k, q, h => by
    have hl2 : xs.length = is.length := by simpa using hl
    rcases zset_get is xs (ws.set i x) hl2 k q h with ⟨j, h1, h2⟩ | ⟨h1, h2⟩
    · exact Or.inl ⟨j + 1, by simpa using h1, by simpa using h2⟩
    · by_cases hk : k = i
      · subst hk
        have hlt : k < (ws.set k x).length := (List.getElem?_eq_some_iff.mp h2).1
        rw [List.length_set] at hlt
        rw [List.getElem?_set_self hlt] at h2
        exact Or.inl ⟨0, by simp, by simpa using h2⟩
      · rw [List.getElem?_set_ne (Ne.symm hk)] at h2
        exact Or.inr ⟨by simp only [List.mem_cons, not_or]; exact ⟨hk, h1⟩, h2⟩
theorem z_map {is : List Nat} {ws wc : va_W} (hC : is.map (fun i => ws[i]?) = wc.map some) {j k : Nat} (hj : is[j]? = some k) : ∃ q, wc[j]? = some q ∧ ws[k]? = some q := by
  have h1 : (is.map (fun i => ws[i]?))[j]? = some (ws[k]?) := by rw [List.getElem?_map, hj]; rfl
  rw [hC, List.getElem?_map] at h1
  cases hq : wc[j]? with
  | none => rw [hq] at h1; cases h1
  | some q => rw [hq] at h1; exact ⟨q, rfl, (Option.some.inj h1).symm⟩
theorem z_map2 {is : List Nat} {ws wc : va_W} (hC : is.map (fun i => ws[i]?) = wc.map some) {j : Nat} {q : Nat × va_E} (hj : wc[j]? = some q) : ∃ k, is[j]? = some k ∧ ws[k]? = some q := by
  have h1 : (is.map (fun i => ws[i]?))[j]? = some (some q) := by rw [hC, List.getElem?_map, hj]; rfl
  rw [List.getElem?_map] at h1
  cases hi : is[j]? with
  | none => rw [hi] at h1; cases h1
  | some k => rw [hi] at h1; exact ⟨k, rfl, Option.some.inj h1⟩
theorem zj {A0 : Nat → Prop} {G : va_G} {cl : List vw_C} {ws wc w1 : va_W} {H H1 : Heap} (hP : va_P G cl ws H) (hD : va_D A0 ws) (is : List Nat) (hC : is.map (fun i => ws[i]?) = wc.map some) (hf : w1.map Prod.fst = wc.map Prod.fst)
    (hk : ∀ q : Nat, q < H.size → ¬ va_A wc H.size q → H1[q]? = H[q]?) (hP1 : va_P G cl w1 H1) : va_P G cl (zset ws is w1) H1 ∧ va_D A0 (zset ws is w1) := by
  have hl : w1.length = is.length := by
    have h1 := congrArg List.length hC
    have h2 := congrArg List.length hf
    simp only [List.length_map] at h1 h2
    omega
  have key : ∀ (k : Nat) (q : Nat × va_E), (zset ws is w1)[k]? = some q → ∃ q0, ws[k]? = some q0 ∧ q0.1 = q.1 := by
    intro k q h
    rcases zset_get is w1 ws hl k q h with ⟨j, h1, h2⟩ | ⟨h1, h2⟩
    · obtain ⟨q0, h3, h4⟩ := z_map hC h1
      refine ⟨q0, h4, ?_⟩
      have h5 : (w1.map Prod.fst)[j]? = (wc.map Prod.fst)[j]? := by rw [hf]
      rw [List.getElem?_map, List.getElem?_map, h2, h3] at h5
      exact (Option.some.inj h5).symm
    · exact ⟨q, h2, rfl⟩
  refine ⟨fun k q h => ?_, ⟨fun i j x y hi hj hxy => ?_, fun k q h => ?_⟩⟩
  · rcases zset_get is w1 ws hl k q h with ⟨j, h1, h2⟩ | ⟨h1, h2⟩
    · exact hP1 j q h2
    · have hlt := (hP k q h2).lt
      refine (hP k q h2).kept (hk q.1 hlt ?_)
      rintro (⟨j, e, hj⟩ | hj)
      · obtain ⟨k2, h3, h4⟩ := z_map2 hC hj
        have := hD.1 k k2 q (q.1, e) h2 h4 rfl
        subst this
        exact h1 (List.mem_of_getElem? h3)
      · exact absurd hlt (Nat.not_lt.mpr hj)
  · obtain ⟨x0, h1, h2⟩ := key i x hi
    obtain ⟨y0, h3, h4⟩ := key j y hj
    exact hD.1 i j x0 y0 h1 h3 (h2.trans (hxy.trans h4.symm))
  · obtain ⟨q0, h1, h2⟩ := key k q h
    rw [← h2]
    exact hD.2 k q0 h1
theorem zfree {A0 : Nat → Prop} {ws wc : va_W} {H0 H : Heap} {locs : List Loc} (hD : va_D A0 ws) (hS : va_S A0 H0 H locs) (hA : ∀ q : Nat, H0.size ≤ q → A0 q) (is : List Nat) (hC : is.map (fun i => ws[i]?) = wc.map some) : ∀ q : Nat, va_A wc H.size q → A0 q := va_free hD hS hA is hC
theorem zsubP {G : va_G} {cl : List vw_C} {ws wc : va_W} {H : Heap} (hP : va_P G cl ws H) (is : List Nat) (hC : is.map (fun i => ws[i]?) = wc.map some) : va_P G cl wc H := fun j q hj => by
  obtain ⟨k, -, h4⟩ := z_map2 hC hj
  exact hP k q h4
