/-! the deal of a table, from the deck on -/
section DL
variable {c : Nat → ClassId} {K : (Nat → Nat) × (Nat → Nat)} {h : HW} {Own : Nat → Prop} {A : Nat → Nat} {T : TT} {fv : Nat → Int64} {mx np hs hb tn pa : Nat}
theorem RowW.put {a i x : Nat} {l : List Nat} {P : HW → Prop} (r : RowW c h a l) (hi : i < l.length) (hl : l.length ≤ 60000) (hp : ∀ h', RowW c h' a (l.set i x) → (∀ b, ¬ b = a → h' b = h b) → HDom h h' → P h') : stI h (c 0) a (nI i) (nI x) P := by
  obtain ⟨f, h1, h2⟩ := r
  refine i_stI h1 hi (by omega) (hp _ ⟨upd f i (nI x), by rw [hup_s, List.length_set], fun j hj => ?_⟩ (fun b hb => hup_n hb) HDom.up)
  rw [List.length_set] at hj
  by_cases hji : j = i
  · have e : (l.set i x).getD j 0 = x := by rw [hji, List.getD_eq_getElem?_getD, List.getElem?_set_self hi]; rfl
    rw [e]
    exact if_pos hji
  · have e : (l.set i x).getD j 0 = l.getD j 0 := by rw [List.getD_eq_getElem?_getD, List.getD_eq_getElem?_getD, List.getElem?_set_ne (fun z => hji z.symm)]
    rw [e]
    exact (if_neg hji).trans (h2 j hj)
theorem RowW.fr {a : Nat} {l : List Nat} {h' : HW} (r : RowW c h a l) (e : h' a = h a) : RowW c h' a l := by
  obtain ⟨f, h1, h2⟩ := r
  exact ⟨f, e.trans h1, h2⟩
theorem RowW.def {a : Nat} {l : List Nat} (r : RowW c h a l) : ¬ h a = none := by
  obtain ⟨f, h1, h2⟩ := r
  rw [h1]; simp
theorem RowW.get {a k : Nat} {l : List Nat} {P : Int32 → Prop} (r : RowW c h a l) (hk : k < l.length) (hl : l.length ≤ 60000) (hp : P (nI (l.getD k 0))) : lI h (c 0) a (nI k) P := by
  obtain ⟨f, h1, h2⟩ := r
  exact i_lI h1 hk (by omega) (by rw [h2 k hk]; exact hp)
theorem swp_len (l : List Nat) (i j : Nat) : (swp l i j).length = l.length := by unfold swp; simp
theorem s_shuf {v1 L m9 s9 : Nat} {s : Int32} {l : List Nat} {post : HW → Prop} {h9 : HW} (hv : h v1 = none) (hA : ∀ i, i < 6 → ¬ h (A i) = none) (hL : l.length = L) (hL2 : L ≤ 49) (t9 : TabV c h9 (OwnQ Own v1) A (sS T 3 s) fv) (hw : RowW c h9 v1 l) (f9 : TFr h h9 A) (d9 : HDom h h9)
    (hp : ∀ h', TabV c h' (OwnQ Own v1) A (sS T 3 (shf (L - 1) l s).2) fv → RowW c h' v1 (shf (L - 1) l s).1 → (shf (L - 1) l s).1.length = L → TFr h h' A → HDom h h' → ∃ n, itP5 (w_X10_deals_B191 c K (A 0) post v1) n h' m9 s9 (0 : Int32) (0 : Int32)) : ∃ n, itP4 (w_X10_deals_B130 c K (A 0) post v1) n h9 m9 s9 (nI L - 1) := by
  have hvA : ∀ i, i < 6 → ¬ v1 = A i := fun i hi z => hA i hi (z ▸ hv)
  rcases Nat.eq_zero_or_pos L with h0 | h0
  · subst h0
    refine ⟨1, ?_⟩
    show w_X10_deals_B130 c K (A 0) post v1 _ h9 m9 s9 (nI 0 - 1)
    unfold w_X10_deals_B130
    exact ⟨fun _ => hp h9 t9 hw hL f9 d9, fun z => absurd (by decide) z⟩
  · rw [show (1 : Int32) = nI 1 from rfl, nI_sub (by omega)]
    refine cpM4 (fun m (h8 : HW) (m8 s8 : Nat) (v2 : Int32) => ∃ l' s', TabV c h8 (OwnQ Own v1) A (sS T 3 s') fv ∧ RowW c h8 v1 l' ∧ l'.length = L ∧ TFr h h8 A ∧ HDom h h8 ∧ m < L ∧ v2 = nI m ∧ shf m l' s' = shf (L - 1) l s ∧ m8 = m9 ∧ s8 = s9) ?_ (L - 1) _ _ _ _ ⟨l, s, t9, hw, hL, f9, d9, by omega, rfl, rfl, rfl, rfl⟩
    rintro rec m h8 m8 s8 v2 ⟨l', s', t8, hw8, hl8, f8, d8, hm, rfl, hsh, rfl, rfl⟩ hrec
    unfold w_X10_deals_B130
    refine br_lt (b := 1) (by omega) (by omega) (fun z => ?_) (fun z => ?_)
    · obtain rfl : m = 0 := by omega
      have hsh : (l', s') = shf (L - 1) l s := hsh
      rw [← hsh] at hp
      exact hp h8 t8 hw8 hl8 f8 d8
    · obtain ⟨k, rfl⟩ : ∃ k, m = k + 1 := ⟨m - 1, by omega⟩
      refine t_gI t8 (by omega) ?_
      rw [show (sS T 3 s').1 3 = s' from rfl]
      intro x142 e142 x146 e146
      have e146 : x146 = nxt s' := by rw [e146, e142]; rfl
      subst e146
      refine t_pV t8 (by omega) fun h7 t7 f7 d7 => ?_
      have t7 : TabV c h7 (OwnQ Own v1) A (sS T 3 (nxt s')) fv := by
        have e : sS (sS T 3 s') 3 (nxt s') = sS T 3 (nxt s') := by
          show (upd (upd T.1 3 s') 3 (nxt s'), T.2) = (upd T.1 3 (nxt s'), T.2)
          congr 1
          funext j
          show (if j = 3 then _ else if j = 3 then _ else _) = (if j = 3 then _ else _)
          split <;> rfl
        rwa [e] at t7
      refine t_gI t7 (by omega) ?_
      rw [show (sS T 3 (nxt s')).1 3 = nxt s' from rfl]
      intro x156 e156 x159 e159 x162 e162
      have e156 : x156 = nI (mixN (nxt s')) := e156.trans (rnd_nI _)
      have hmx := mixN_lt (nxt s')
      rw [e156, show (32768 : Int32) = nI 32768 from rfl, nI_mod (by omega) (by omega)] at e159
      rw [nI_1] at e162
      subst e162
      refine ⟨fun z => by have := (nI_eq (show k + 1 + 1 < 2 ^ 31 by omega) (show 0 < 2 ^ 31 by omega)).mp z; omega, ?_⟩
      intro x163 e163
      rw [e159, nI_mod (by omega) (by omega)] at e163
      have e163 : x163 = nI (plc (nxt s') (k + 1)) := e163
      subst e163
      have hpl : plc (nxt s') (k + 1) < L := by
        have : plc (nxt s') (k + 1) < k + 1 + 1 := Nat.mod_lt _ (by omega)
        omega
      have hw7 : RowW c h7 v1 l' := hw8.fr (f7 v1 hw8.def hvA)
      refine hw7.get (by omega) (by omega) ?_
      refine hw7.get (by omega) (by omega) ?_
      refine hw7.put (by omega) (by omega) fun h6 hw6 f6 d6 => ?_
      refine hw6.put (by rw [List.length_set]; omega) (by rw [List.length_set]; omega) fun h5 hw5 f5 d5 => ?_
      intro x181 e181
      have fx : ∀ b, ¬ b = v1 → h5 b = h7 b := fun b hb => (f5 b hb).trans (f6 b hb)
      refine hrec k _ _ _ _ (by omega) ⟨_, _, t7.mv (fun i hi => fx _ (fun z => hvA i hi z.symm)) t7.own (fun b _ hn => ⟨fx b (fun z => hn (Or.inr z)), hn⟩), hw5, by rw [List.length_set, List.length_set]; exact hl8, ?_, ((d8.tr d7).tr d6).tr d5, by omega, ?_, hsh, rfl, rfl⟩
      · exact fun b hb hn => (fx b (fun z => hb (z ▸ hv))).trans ((f8.tr f7) b hb hn)
      · rw [e181]
        show nI (k + 1) + m1 = nI k
        rw [nI_am1 (by omega)]
        rfl
theorem flT_s (hs : Nat) (row : List Nat) (H : List (List Nat)) (n : Nat) : flT hs row H (n + 1) = flP hs row (flT hs row H n) n := by
  unfold flT
  rw [List.range_succ, List.foldl_append]
  rfl
theorem flT_len (hs : Nat) (row : List Nat) (H : List (List Nat)) : ∀ n, (flT hs row H n).1.length = H.length ∧ (flT hs row H n).2 ≤ row.length := by
  intro n
  induction n with
  | zero => exact ⟨rfl, Nat.zero_le _⟩
  | succ n ih =>
    rw [flT_s]
    unfold flP
    obtain ⟨h1, h2⟩ := ih
    refine ⟨?_, ?_⟩
    · show (List.set _ _ _).length = _
      rw [List.length_set]; exact h1
    · show _ + min _ _ ≤ _
      omega
theorem flT_keep (hs : Nat) (row : List Nat) (H : List (List Nat)) : ∀ n p, n ≤ p → (flT hs row H n).1.getD p [] = H.getD p [] := by
  intro n
  induction n with
  | zero => intro p _; rfl
  | succ n ih =>
    intro p hp
    rw [flT_s]
    show ((flT hs row H n).1.set n _).getD p [] = _
    rw [getD_set_n (by omega)]
    exact ih p (by omega)
theorem drop_take_s {l : List Nat} {f j : Nat} (h : f + j < l.length) : (l.drop f).take (j + 1) = (l.drop f).take j ++ [l.getD (f + j) 0] := by
  have h1 : j < (l.drop f).length := by rw [List.length_drop]; omega
  rw [take_succ_getD h1]
  congr 2
  rw [List.getD_eq_getElem?_getD, List.getD_eq_getElem?_getD, List.getElem?_drop]
/-- the hands are filled -/
theorem s_fill {v1 m9 s9 : Nat} {row : List Nat} {T1 : TT} {post : HW → Prop} {h9 : HW} (hv : h v1 = none) (hO : OwnOK h Own) (hn : (tH T1).length = np) (hn4 : np ≤ 4) (h1s : T1.1 1 = nI hs) (hhs : hs ≤ 12) (hH : ∀ p, ((tH T1).getD p []).length ≤ 55) (t9 : TabV c h9 Own A T1 fv) (hw : RowW c h9 v1 row) (hrl : row.length ≤ 49) (f9 : TFr h h9 A) (d9 : HDom h h9) (hm : 49 ≤ m9) (hs9 : 2793 ≤ s9)
    (hp : ∀ h' m8 s8, TabV c h' Own A (sH T1 (flT hs row (tH T1) np).1) fv → RowW c h' v1 row → TFr h h' A → HDom h h' → m9 ≤ m8 + 49 → s9 ≤ s8 + 2793 → nwI h' (c 0) (0 : Int32) m8 s8 (fun q252 h252 mB252 zB252 => pV h252 (A 0) 10 14 (.ref q252) (fun h254 => ∃ n_259 : Nat, itP4 (w_X10_deals_B259 c K (A 0) post v1) n_259 h254 mB252 zB252 (nI (flT hs row (tH T1) np).2)))) : ∃ n, itP5 (w_X10_deals_B191 c K (A 0) post v1) n h9 m9 s9 (0 : Int32) (0 : Int32) := by
  have hOv : ¬ Own v1 := fun z => hO v1 z hv
  refine cpL5 (fun p (h8 : HW) (m8 s8 : Nat) (v2 v3 : Int32) => TabV c h8 Own A (sH T1 (flT hs row (tH T1) p).1) fv ∧ RowW c h8 v1 row ∧ TFr h h8 A ∧ HDom h h8 ∧ m9 ≤ m8 + (flT hs row (tH T1) p).2 ∧ s9 ≤ s8 + 57 * (flT hs row (tH T1) p).2 ∧ v2 = nI (flT hs row (tH T1) p).2 ∧ v3 = nI p) np ?_ ?_ 0 (by omega) _ _ _ _ _ ⟨t9, hw, f9, d9, Nat.le_refl _, Nat.le_refl _, rfl, rfl⟩
  · rintro rec h8 m8 s8 v2 v3 ⟨t8, hw8, f8, d8, hm8, hs8, rfl, rfl⟩
    obtain ⟨k1, k2⟩ := flT_len hs row (tH T1) np
    unfold w_X10_deals_B191
    refine t_g10 t8 (t_lenH t8 ?_)
    rw [show (tH (sH T1 (flT hs row (tH T1) np).1)).length = np from k1.trans hn]
    refine br_le (by omega) (by omega) (fun _ => ?_) (fun z => by omega)
    exact hp _ _ _ t8 hw8 f8 d8 (by omega) (by omega)
  · rintro rec p h8 m8 s8 v2 v3 hpn ⟨t8, hw8, f8, d8, hm8, hs8, rfl, rfl⟩ hrec
    obtain ⟨k1, k2⟩ := flT_len hs row (tH T1) p
    have hk := flT_keep hs row (tH T1) p p (Nat.le_refl _)
    rw [flT_s] at hrec
    have hHp := hH p
    unfold w_X10_deals_B191
    refine t_g10 t8 (t_lenH t8 ?_)
    rw [show (tH (sH T1 (flT hs row (tH T1) p).1)).length = np from k1.trans hn]
    refine br_le (by omega) (by omega) (fun z => by omega) (fun _ => ?_)
    generalize hHf : flT hs row (tH T1) p = Hf at *
    obtain ⟨Hp, f⟩ := Hf
    dsimp only at *
    have hk : Hp.getD p [] = (tH T1).getD p [] := hk
    generalize hcur : Hp.getD p [] = cur at *
    have hcl : cur.length ≤ 55 := by rw [hk]; exact hHp
    have eP : flP hs row (Hp, f) p = (Hp.set p (cur ++ (row.drop f).take (hs - cur.length)), f + min (hs - cur.length) (row.length - f)) := by
      unfold flP
      dsimp only
      rw [hcur]
    rw [eP] at hrec
    dsimp only at hrec
    have hset0 : Hp.set p (cur ++ (row.drop f).take 0) = Hp := by
      rw [List.take_zero, List.append_nil, ← hcur]
      refine List.ext_getElem (by simp) fun j hj1 hj2 => ?_
      rw [List.getElem_set]
      split
      · rename_i e
        subst e
        rw [List.getD_eq_getElem?_getD, List.getElem?_eq_getElem hj2]
        rfl
      · rfl
    refine cpL4 (fun j (h7 : HW) (m7 s7 : Nat) (v2 : Int32) => TabV c h7 Own A (sH T1 (Hp.set p (cur ++ (row.drop f).take j))) fv ∧ RowW c h7 v1 row ∧ TFr h h7 A ∧ HDom h h7 ∧ m9 ≤ m7 + f + j ∧ s9 ≤ s7 + 57 * f + 57 * j ∧ v2 = nI (f + j)) (min (hs - cur.length) (row.length - f)) ?_ ?_ 0 (by omega) _ _ _ _ ⟨by rw [hset0]; exact t8, hw8, f8, d8, by omega, by omega, rfl⟩
    · rintro rec2 h7 m7 s7 v2 ⟨t7, hw7, f7, d7, hm7, hs7, rfl⟩
      have hlen : (hnd (sH T1 (Hp.set p (cur ++ (row.drop f).take (min (hs - cur.length) (row.length - f))))) p) = cur ++ (row.drop f).take (min (hs - cur.length) (row.length - f)) := getD_set_s (by omega)
      have etk : (row.drop f).take (min (hs - cur.length) (row.length - f)) = (row.drop f).take (hs - cur.length) := by
        rw [List.take_eq_take_iff, List.length_drop]
        omega
      have hJ : w_X10_deals_J244 c K rec (nI p) h7 (nI (f + min (hs - cur.length) (row.length - f))) m7 s7 := by
        unfold w_X10_deals_J244
        intro x244 e244
        refine hrec _ _ _ _ _ ⟨?_, hw7, f7, d7, by omega, by omega, rfl, by rw [e244, nI_1]⟩
        rw [← etk]
        exact t7
      unfold w_X10_deals_B200
      refine t_g10 t7 (t_lRH t7 (by show p < (Hp.set p _).length; rw [List.length_set]; omega) fun r hr => ?_)
      rw [hlen] at hr
      refine r_len hr ?_
      rw [List.length_append, List.length_take, List.length_drop]
      refine t_gI t7 (by omega) ?_
      rw [show (sH T1 (Hp.set p (cur ++ (row.drop f).take (min (hs - cur.length) (row.length - f))))).1 1 = nI hs from h1s]
      refine br_le (by omega) (by omega) (fun _ => hJ) (fun z => ?_)
      refine r_len (hw7.at hOv) ?_
      refine br_le (by omega) (by omega) (fun _ => hJ) (fun z2 => by omega)
    · rintro rec2 j h7 m7 s7 v2 hj ⟨t7, hw7, f7, d7, hm7, hs7, rfl⟩ hrec2
      have hlen : (hnd (sH T1 (Hp.set p (cur ++ (row.drop f).take j))) p) = cur ++ (row.drop f).take j := getD_set_s (by omega)
      have hO7 := hO.dom d7
      unfold w_X10_deals_B200
      have hpl : p < (tH (sH T1 (Hp.set p (cur ++ (row.drop f).take j)))).length := by show p < (Hp.set p _).length; rw [List.length_set]; omega
      refine t_g10 t7 (t_lRH t7 hpl fun r hr => ?_)
      rw [hlen] at hr
      refine r_len hr ?_
      have hll : (cur ++ (row.drop f).take j).length = cur.length + j := by rw [List.length_append, List.length_take, List.length_drop]; omega
      rw [hll]
      refine t_gI t7 (by omega) ?_
      rw [show (sH T1 (Hp.set p (cur ++ (row.drop f).take j))).1 1 = nI hs from h1s]
      refine br_le (by omega) (by omega) (fun z => by omega) (fun _ => ?_)
      refine r_len (hw7.at hOv) ?_
      refine br_le (by omega) (by omega) (fun z => by omega) (fun _ => ?_)
      refine t_g10 t7 (t_g10 t7 (t_lRH t7 hpl fun r2 hr2 => ?_))
      rw [hlen] at hr2
      refine hw7.get (by omega) (by omega) ?_
      refine ⟨1, 57, m7 - 1, s7 - 57, by omega, by omega, ?_⟩
      refine s_with hr2 (by omega) (Nat.le_refl _) (by omega) fun q h6 e6 hq6 hw6 => ?_
      refine ⟨q, rfl, ?_⟩
      have t6 := t7.ext e6
      refine t_stH t6 hpl (hw6.at (hO7.new hq6)) fun h5 t5 f5 d5 => ?_
      intro x238 e238
      have hw5 : RowW c h5 v1 row := by
        refine (hw7.fr (e6 v1 hw7.def)).fr (f5 v1 ?_ fun i hi z => hOv (z ▸ t7.own i hi))
        rw [e6 v1 hw7.def]; exact hw7.def
      refine hrec2 _ _ _ _ ⟨?_, hw5, (f7.tr e6.tfr).tr f5, (d7.tr e6.dom).tr d5, by omega, by omega, by rw [e238, nI_1]; rfl⟩
      have e : (tH (sH T1 (Hp.set p (cur ++ (row.drop f).take j)))).set p (cur ++ (row.drop f).take j ++ [row.getD (f + j) 0]) = Hp.set p (cur ++ (row.drop f).take (j + 1)) := by
        show (Hp.set p _).set p _ = _
        rw [List.set_set, drop_take_s (by omega), List.append_assoc]
      rw [e] at t5
      exact t5
def opL (np i : Nat) (L : List Int32) : List Int32 := (List.range L.length).map (fun t => if t < i then (if t = np then 1 else 0) else L.getD t 0)
def emL (i : Nat) (L : List (List Nat)) : List (List Nat) := (List.range L.length).map (fun t => if t < i then [] else L.getD t [])
theorem opL_0 (np : Nat) (L : List Int32) : opL np 0 L = L := by
  unfold opL
  refine List.ext_getElem (by simp) fun i h1 h2 => ?_
  simp [List.getD_eq_getElem?_getD, List.getElem?_eq_getElem h2]
theorem emL_0 (L : List (List Nat)) : emL 0 L = L := by
  unfold emL
  refine List.ext_getElem (by simp) fun i h1 h2 => ?_
  simp [List.getD_eq_getElem?_getD, List.getElem?_eq_getElem h2]
theorem opL_s {np i : Nat} {L : List Int32} : (opL np i L).set i (if i = np then 1 else 0) = opL np (i + 1) L := by
  unfold opL
  refine List.ext_getElem (by simp) fun j h1 h2 => ?_
  rw [List.getElem_set]
  simp only [List.getElem_map, List.getElem_range]
  by_cases hij : i = j
  · subst hij
    rw [if_pos rfl, if_pos (Nat.lt_succ_self _)]
  · rw [if_neg hij]
    by_cases hj : j < i
    · rw [if_pos hj, if_pos (show j < i + 1 by omega)]
    · rw [if_neg hj, if_neg (show ¬ j < i + 1 by omega)]
theorem emL_s {i : Nat} {L : List (List Nat)} : (emL i L).set i [] = emL (i + 1) L := by
  unfold emL
  refine List.ext_getElem (by simp) fun j h1 h2 => ?_
  rw [List.getElem_set]
  simp only [List.getElem_map, List.getElem_range]
  by_cases hij : i = j
  · subst hij
    rw [if_pos rfl, if_pos (Nat.lt_succ_self _)]
  · rw [if_neg hij]
    by_cases hj : j < i
    · rw [if_pos hj, if_pos (show j < i + 1 by omega)]
    · rw [if_neg hj, if_neg (show ¬ j < i + 1 by omega)]
theorem emL_len (i : Nat) (L : List (List Nat)) : (emL i L).length = L.length := by unfold emL; simp
theorem opL_len (np i : Nat) (L : List Int32) : (opL np i L).length = L.length := by unfold opL; simp
/-- the end of a deal -/
def dlE (T : TT) (np : Nat) : TT := (upd (upd (upd (upd (upd T.1 4 0) 5 0) 6 (-1)) 7 0) 9 0, tH T, tT T, List.replicate (np + 1) [], List.replicate np 0 ++ [1], tK T, tM T)
theorem emL_all {n : Nat} {L : List (List Nat)} (h : L.length = n) : emL n L = List.replicate n [] := by
  unfold emL
  refine List.ext_getElem (by simp [h]) fun i h1 h2 => ?_
  simp at h1 h2 ⊢
  omega
theorem opL_all {n : Nat} {L : List Int32} (h : L.length = n + 1) : opL n (n + 1) L = List.replicate n 0 ++ [1] := by
  unfold opL
  refine List.ext_getElem (by simp [h]) fun i h1 h2 => ?_
  simp only [List.getElem_map, List.getElem_range]
  have hi : i < n + 1 := by simpa [h] using h1
  rw [if_pos hi]
  by_cases hin : i = n
  · subst hin
    rw [if_pos rfl, List.getElem_append_right (by simp)]
    simp
  · rw [if_neg hin, List.getElem_append_left (by simp; omega)]
    simp
theorem s_trains {m9 s9 : Nat} {T1 : TT} {post : HW → Prop} {h9 : HW} (hO : OwnOK h Own) (hn : (tH T1).length = np) (hn4 : np ≤ 4) (hR : (tR T1).length = np + 1) (hOl : (tO T1).length = np + 1) (t9 : TabV c h9 Own A T1 fv) (f9 : TFr h h9 A) (d9 : HDom h h9) (hm : 5 ≤ m9)
    (hp : ∀ h', TabV c h' Own A (dlE T1 np) fv → TFr h h' A → HDom h h' → post h') : ∃ n, itP4 (w_X10_deals_B287 c K (A 0) post) n h9 m9 s9 (0 : Int32) := by
  refine cpL4 (fun i (h8 : HW) (m8 s8 : Nat) (v3 : Int32) => TabV c h8 Own A (sO (sR T1 (emL i (tR T1))) (opL np i (tO T1))) fv ∧ TFr h h8 A ∧ HDom h h8 ∧ m9 ≤ m8 + i ∧ v3 = nI i) (np + 1) ?_ ?_ 0 (by omega) _ _ _ _ ⟨?_, f9, d9, by omega, rfl⟩
  · rintro rec h8 m8 s8 v3 ⟨t8, f8, d8, hm8, rfl⟩
    rw [emL_all hR, opL_all hOl] at t8
    unfold w_X10_deals_B287
    refine t_g12 t8 (t_lenR t8 ?_)
    rw [show (tR (sO (sR T1 (List.replicate (np + 1) [])) (List.replicate np 0 ++ [1]))).length = np + 1 from List.length_replicate]
    refine br_le (by omega) (by omega) (fun _ => ?_) (fun z => by omega)
    refine t_pV t8 (by omega) fun h1 t1 f1 d1 => ?_
    refine t_pZ t1 (by omega) (Or.inl rfl) fun h2 t2 f2 d2 => ?_
    refine t_pV t2 (by omega) fun h3 t3 f3 d3 => ?_
    refine t_pZ t3 (by omega) (Or.inl rfl) fun h4 t4 f4 d4 => ?_
    refine t_pV t4 (by omega) fun h5 t5 f5 d5 => ?_
    exact hp h5 t5 (((((f8.tr f1).tr f2).tr f3).tr f4).tr f5) (((((d8.tr d1).tr d2).tr d3).tr d4).tr d5)
  · rintro rec i h8 m8 s8 v3 hi ⟨t8, f8, d8, hm8, rfl⟩ hrec
    unfold w_X10_deals_B287
    refine t_g12 t8 (t_lenR t8 ?_)
    rw [show (tR (sO (sR T1 (emL i (tR T1))) (opL np i (tO T1)))).length = np + 1 from (emL_len _ _).trans hR]
    refine br_le (by omega) (by omega) (fun z => by omega) (fun _ => ?_)
    refine t_g12 t8 ?_
    refine a_nwI (n := 0) (by omega) (by omega) (Nat.zero_le _) fun q h7 hq hq7 e7 => ?_
    have t7 := t8.ext e7
    have hr7 : RowAt c h7 Own q [] := ⟨⟨true, _, hq7, fun j hj => absurd hj (Nat.not_lt_zero _)⟩, (hO.dom d8).new hq⟩
    refine t_stR t7 (by show i < (emL i (tR T1)).length; rw [emL_len]; omega) hr7 fun h6 t6 f6 d6 => ?_
    refine t_g13 t6 (t_g10 t6 (t_lenH t6 ?_))
    have hJ : ∀ v : Int32, v = (if i = np then 1 else 0) → w_X10_deals_J324 c K rec (nI i) h6 (m8 - 1) (s8 - 0) v (nI i) (A 4) := by
      intro v ev
      unfold w_X10_deals_J324
      refine t_stO t6 (by show i < (opL np i (tO T1)).length; rw [opL_len]; omega) (by rw [ev]; split <;> simp) fun h5 t5 f5 d5 => ?_
      intro x325 e325
      refine hrec _ _ _ _ ⟨?_, ((f8.tr e7.tfr).tr f6).tr f5, ((d8.tr e7.dom).tr d6).tr d5, by omega, by rw [e325, nI_1]⟩
      have e1 : (tR (sO (sR T1 (emL i (tR T1))) (opL np i (tO T1)))).set i [] = emL (i + 1) (tR T1) := emL_s
      have e2 : (opL np i (tO T1)).set i v = opL np (i + 1) (tO T1) := by rw [ev]; exact opL_s
      rw [← e1, ← e2]
      exact t5
    rw [show (tH (sR (sO (sR T1 (emL i (tR T1))) (opL np i (tO T1))) ((tR (sO (sR T1 (emL i (tR T1))) (opL np i (tO T1)))).set i []))).length = np from hn]
    refine br_eq (by omega) (by omega) (fun z => hJ _ (if_pos z).symm) (fun z => hJ _ (if_neg z).symm)
  · rw [emL_0, opL_0]
    exact t9
noncomputable def dealT (T : TT) (mx hs hb np : Nat) : TT :=
  let D := dkT (tH T) hb mx (mx + 1)
  let sh := shf (D.length - 1) D (T.1 3)
  let fl := flT hs sh.1 (tH T) np
  dlE (sK (sH (sS T 3 sh.2) fl.1) (sh.1.drop fl.2)) np
theorem s_deals {mc ms : Nat} {post : HW → Prop} (t : TabV c h Own A T fv) (hO : OwnOK h Own) (h0 : T.1 0 = nI mx) (hm : mx ≤ 6) (h1s : T.1 1 = nI hs) (hhs : hs ≤ 12) (h2 : T.1 2 = nI hb) (hb9 : hb ≤ 9) (hn : (tH T).length = np) (hn4 : np ≤ 4) (hR : (tR T).length = np + 1) (hOl : (tO T).length = np + 1) (hH : ∀ p, (∀ x ∈ hnd T p, x < 100) ∧ (hnd T p).length ≤ 55) (hc : 160 ≤ mc) (hs9 : 8000 ≤ ms)
    (hp : ∀ h', TabV c h' Own A (dealT T mx hs hb np) fv → TFr h h' A → HDom h h' → post h') : w_X10_deals c K h (A 0) mc ms post := by
  have hA := t.def
  have hOA := t.own
  unfold w_X10_deals
  refine a_nwI (n := 0) (by omega) (by omega) (Nat.zero_le _) fun q h1 hq hq1 e1 => ?_
  refine s_deck t hO h0 hm h2 hb9 hn hn4 hH (by omega) (by omega) e1 hq ⟨_, hq1, fun i hi => absurd hi (Nat.not_lt_zero _)⟩ fun h3 v1 m3 s3 e3 hv hw3 hm3 hs3 => ?_
  have hD := (dkT_ok (tH T) hb mx (by omega) (mx + 1) (Nat.le_refl _)).2
  have hD2 : (mx + 1) * (mx + 1) ≤ 7 * 7 := Nat.mul_le_mul (by omega) (by omega)
  rw [dealT] at hp
  generalize dkT (tH T) hb mx (mx + 1) = D at hw3 hD hp ⊢
  have t3 : TabV c h3 (OwnQ Own v1) A (sS T 3 (T.1 3)) fv := by
    have e : sS T 3 (T.1 3) = T := by
      show (upd T.1 3 (T.1 3), T.2) = T
      have : upd T.1 3 (T.1 3) = T.1 := by funext j; show (if j = 3 then _ else _) = _; split; rename_i z; rw [z]; rfl
      rw [this]
    rw [e]
    exact t.mv (fun i hi => e3 _ (hA i hi)) (fun i hi => Or.inl (hOA i hi)) (mvq e3 hv)
  refine s_shuf hv hA rfl (by omega) t3 hw3 e3.tfr e3.dom fun h4 t4 hw4 hl4 f4 d4 => ?_
  generalize shf (D.length - 1) D (T.1 3) = sh at t4 hw4 hl4 hp
  have t5 : TabV c h4 Own A (sS T 3 sh.2) fv := t4.mv (fun _ _ => rfl) hOA (fun b _ hn => ⟨rfl, fun z => hn (Or.inl z)⟩)
  refine s_fill (T1 := sS T 3 sh.2) hv hO hn hn4 h1s hhs (fun p => (hH p).2) t5 hw4 (by omega) f4 d4 (by omega) (by omega) fun h5 m5 s5 t6 hw5 f5 d5 hm5 hs5 => ?_
  have hfl := flT_len hs sh.1 (tH (sS T 3 sh.2)) np
  have hfl : (flT hs sh.1 (tH T) np).1.length = (tH T).length ∧ (flT hs sh.1 (tH T) np).2 ≤ sh.1.length := hfl
  have t6 : TabV c h5 Own A (sH (sS T 3 sh.2) (flT hs sh.1 (tH T) np).1) fv := t6
  show nwI h5 (c 0) (0 : Int32) m5 s5 (fun q252 h252 mB252 zB252 => pV h252 (A 0) 10 14 (.ref q252) (fun h254 => ∃ n_259 : Nat, itP4 (w_X10_deals_B259 c K (A 0) post v1) n_259 h254 mB252 zB252 (nI (flT hs sh.1 (tH T) np).2)))
  generalize flT hs sh.1 (tH T) np = fl at t6 hfl hp ⊢
  obtain ⟨Hf, f⟩ := fl
  dsimp only at *
  have hO5 := hO.dom d5
  refine a_nwI (n := 0) (by omega) (by omega) (Nat.zero_le _) fun q2 h6 hq2 hq6 e6 => ?_
  have t7 := t6.ext e6
  have hr6 : RowAt c h6 Own q2 [] := ⟨⟨true, _, hq6, fun j hj => absurd hj (Nat.not_lt_zero _)⟩, hO5.new hq2⟩
  refine t_p14 t7 hr6 fun h7 t8 f7 d7 => ?_
  have hOv : ¬ Own v1 := fun z => hO v1 z hv
  have hv1A : ∀ i, i < 6 → ¬ v1 = A i := fun i hi z => hOv (z ▸ hOA i hi)
  have hw7 : RowW c h7 v1 sh.1 := (hw5.fr (e6 v1 hw5.def)).fr (f7 v1 (by rw [e6 v1 hw5.def]; exact hw5.def) hv1A)
  refine cpM4 (fun m (h9 : HW) (m9 s9 : Nat) (v3 : Int32) => ∃ j, j + m = sh.1.length - f ∧ TabV c h9 Own A (sK (sH (sS T 3 sh.2) Hf) ((sh.1.drop f).take j)) fv ∧ RowW c h9 v1 sh.1 ∧ TFr h h9 A ∧ HDom h h9 ∧ 5 + m ≤ m9 ∧ 50 * m ≤ s9 ∧ v3 = nI (f + j)) ?_ (sh.1.length - f) _ _ _ _ ⟨0, by omega, t8, hw7, (f5.tr e6.tfr).tr f7, (d5.tr e6.dom).tr d7, by omega, by omega, rfl⟩
  rintro rec m h9 m9 s9 v3 ⟨j, hj, t9, hw9, f9, d9, hm9, hs10, rfl⟩ hrec
  unfold w_X10_deals_B259
  refine r_len (hw9.at hOv) ?_
  refine br_le (by omega) (by omega) (fun z => ?_) (fun z => ?_)
  · rw [List.take_of_length_le (by rw [List.length_drop]; omega)] at t9
    exact s_trains (T1 := sK (sH (sS T 3 sh.2) Hf) (sh.1.drop f)) hO (by show Hf.length = np; omega) hn4 hR hOl t9 f9 d9 (by omega) hp
  · refine t_g14 t9 fun st hst => ?_
    refine hw9.get (by omega) (by omega) ?_
    refine ⟨1, 50, m9 - 1, s9 - 50, by omega, by omega, ?_⟩
    have hll : ((sh.1.drop f).take j).length ≤ 49 := Nat.le_trans (List.length_take_le _ _) (by omega)
    refine s_with hst (by show ((sh.1.drop f).take j).length < _; omega) (Nat.le_refl _) (by show ((sh.1.drop f).take j).length + 1 ≤ _; omega) fun q3 h10 e10 hq10 hw10 => ?_
    refine ⟨q3, rfl, ?_⟩
    have hO9 := hO.dom d9
    refine t_p14 (t9.ext e10) (hw10.at (hO9.new hq10)) fun h11 t11 f11 d11 => ?_
    intro x279 e279
    have hw11 : RowW c h11 v1 sh.1 := (hw9.fr (e10 v1 hw9.def)).fr (f11 v1 (by rw [e10 v1 hw9.def]; exact hw9.def) hv1A)
    refine hrec (m - 1) _ _ _ _ (by omega) ⟨j + 1, by omega, ?_, hw11, (f9.tr e10.tfr).tr f11, (d9.tr e10.dom).tr d11, by omega, by omega, by rw [e279, nI_1]; rfl⟩
    rw [drop_take_s (by omega)]
    exact t11
end DL
