/-! what the table's changes do -/
def totL (T : TT) (np i : Nat) : List Int32 := (List.range np).map (fun p => if p < i then (tT T).getD p 0 + nI (pipL (hnd T p)) else (tT T).getD p 0)
def endsT (T : TT) (np : Nat) : TT := sT (sS (sS T 7 1) 8 (T.1 8 + 1)) (totL T np np)
def nextT (T : TT) (np tn : Nat) : TT := sS (sS T 4 (if tn + 1 = np then 0 else nI (tn + 1))) 5 0
theorem totL_0 {T : TT} {np : Nat} (h : (tT T).length = np) : totL T np 0 = tT T := by
  unfold totL
  refine List.ext_getElem (by simp [h]) fun i h1 h2 => ?_
  simp [List.getD_eq_getElem?_getD, List.getElem?_eq_getElem h2]
theorem totL_s {T : TT} {np i : Nat} (hi : i < np) : (totL T np i).set i ((tT T).getD i 0 + nI (pipL (hnd T i))) = totL T np (i + 1) := by
  unfold totL
  refine List.ext_getElem (by simp) fun j h1 h2 => ?_
  rw [List.getElem_set]
  simp only [List.getElem_map, List.getElem_range]
  by_cases hij : i = j
  · subst hij
    rw [if_pos rfl, if_pos (Nat.lt_succ_self _)]
  · rw [if_neg hij]
    by_cases hj : j < i
    · rw [if_pos hj, if_pos (by omega)]
    · rw [if_neg hj, if_neg (by omega)]
theorem totL_get {T : TT} {np i : Nat} (hi : i < np) : (totL T np i).getD i 0 = (tT T).getD i 0 := by
  unfold totL
  rw [List.getD_eq_getElem?_getD, List.getElem?_eq_getElem (by simp; exact hi)]
  simp
theorem totL_len {T : TT} {np i : Nat} : (totL T np i).length = np := by unfold totL; simp
section CH
variable {c : Nat → ClassId} {K : (Nat → Nat) × (Nat → Nat)} {h : HW} {Own : Nat → Prop} {A : Nat → Nat} {T : TT} {fv : Nat → Int64} {mx np hs hb tn pa : Nat}
theorem s_ends {post : HW → Prop} (t : TabV c h Own A T fv) (hn : (tH T).length = np) (hT : (tT T).length = np) (hH : ∀ p, (∀ x ∈ hnd T p, x < 100) ∧ (hnd T p).length ≤ 60000) (hp : ∀ h', TabV c h' Own A (endsT T np) fv → TFr h h' A → HDom h h' → post h') : w_X10_ends c K h (A 0) post := by
  have hnp : np ≤ 60000 := by rw [← hn]; exact t.2.2.2.2.2.2.2.2.1
  unfold w_X10_ends
  refine t_pZ t (by omega) (Or.inr rfl) fun h2 t2 f2 d2 => ?_
  refine t_gI t2 (by omega) ?_
  intro x11 e11
  subst e11
  refine t_pV t2 (by omega) fun h12 t12 f12 d12 => ?_
  refine cpL2 (fun i (h9 : HW) (v1 : Int32) => TabV c h9 Own A (sT (sS (sS T 7 1) 8 (T.1 8 + 1)) (totL T np i)) fv ∧ TFr h h9 A ∧ HDom h h9 ∧ v1 = nI i) np ?_ ?_ 0 (Nat.zero_le _) _ _ ⟨?_, f2.tr f12, d2.tr d12, rfl⟩
  · rintro rec h9 v1 ⟨t9, f9, d9, rfl⟩
    unfold w_X10_ends_B17
    refine t_g10 t9 ?_
    refine t_lenH t9 ?_
    rw [show (tH (sT (sS (sS T 7 1) 8 (T.1 8 + 1)) (totL T np np))).length = np from hn]
    exact br_le (by omega) (by omega) (fun _ => hp _ t9 f9 d9) (fun z => by omega)
  · rintro rec i h9 v1 hi ⟨t9, f9, d9, rfl⟩ hrec
    unfold w_X10_ends_B17
    refine t_g10 t9 ?_
    refine t_lenH t9 ?_
    rw [show (tH (sT (sS (sS T 7 1) 8 (T.1 8 + 1)) (totL T np i))).length = np from hn]
    refine br_le (by omega) (by omega) (fun z => by omega) (fun _ => ?_)
    refine t_g11 t9 ?_
    have hiT : i < (tT (sT (sS (sS T 7 1) 8 (T.1 8 + 1)) (totL T np i))).length := by show i < (totL T np i).length; rw [totL_len]; exact hi
    refine t_lT t9 hiT ?_
    refine t_g10 t9 ?_
    refine t_lRH t9 (by show i < (tH T).length; omega) fun r hr => ?_
    refine s_pips hr (hH i).2 (fun x hx => by have := (hH i).1 x hx; omega) ?_
    intro x42 e42
    subst e42
    refine t_stT t9 hiT fun h43 t43 f43 d43 => ?_
    intro x44 e44
    refine hrec _ _ ⟨?_, f9.tr f43, d9.tr d43, by rw [e44, nI_1]⟩
    have e : ((tT (sT (sS (sS T 7 1) 8 (T.1 8 + 1)) (totL T np i))).set i ((tT (sT (sS (sS T 7 1) 8 (T.1 8 + 1)) (totL T np i))).getD i 0 + nI (pipL ((tH (sT (sS (sS T 7 1) 8 (T.1 8 + 1)) (totL T np i))).getD i [])))) = totL T np (i + 1) := by
      show (totL T np i).set i ((totL T np i).getD i 0 + nI (pipL (hnd T i))) = _
      rw [totL_get hi, totL_s hi]
    rw [e] at t43
    exact t43
  · rw [totL_0 hT]
    exact t12
theorem s_next {post : HW → Prop} (t : TabV c h Own A T fv) (hn : (tH T).length = np) (ht : T.1 4 = nI tn) (htn : tn < np) (hp : ∀ h', TabV c h' Own A (nextT T np tn) fv → TFr h h' A → HDom h h' → post h') : w_X10_next c K h (A 0) post := by
  have hnp : np ≤ 60000 := by rw [← hn]; exact t.2.2.2.2.2.2.2.2.1
  unfold w_X10_next
  refine t_gI t (by omega) ?_
  intro x6 e6
  rw [ht, nI_1] at e6
  subst e6
  refine t_g10 t ?_
  refine t_lenH t ?_
  rw [hn]
  have hJ : ∀ v, v = (if tn + 1 = np then 0 else nI (tn + 1)) → w_X10_next_J25 c K h (A 0) post v (A 0) := by
    intro v ev
    subst ev
    unfold w_X10_next_J25
    refine t_pV t (by omega) fun h1 t1 f1 d1 => ?_
    refine t_pZ t1 (by omega) (Or.inl rfl) fun h2 t2 f2 d2 => ?_
    exact hp _ t2 (f1.tr f2) (d1.tr d2)
  refine br_eq (by omega) (by omega) (fun z => hJ _ (if_pos z).symm) (fun z => ?_)
  refine t_gI t (by omega) ?_
  intro x24 e24
  rw [ht, nI_1] at e24
  exact hJ _ (by rw [if_neg z, e24])
/-- a play, up to who is next -/
def playA (T : TT) (tn x k : Nat) : TT :=
  let T2 := sR (sH T ((tH T).set tn ((hnd T tn).filter (fun y => decide (¬ y = x))))) ((tR T).set k (trn T k ++ [x]))
  sS (sS (if k = tn then sO T2 ((tO T).set k 0) else T2) 9 0) 6 (if x % 11 = 0 then nI k else -1)
def playT (T : TT) (np tn x k : Nat) : TT :=
  if ((hnd T tn).filter (fun y => decide (¬ y = x))).length = 0 then endsT (playA T tn x k) np else if x % 11 = 0 then sS (playA T tn x k) 5 0 else nextT (playA T tn x k) np tn
def drawT (T : TT) (tn : Nat) : TT := sS (sS (sH (sK T (tK T).tail) ((tH T).set tn (hnd T tn ++ [(tK T).getD 0 0]))) 5 1) 9 0
def passA (T : TT) (tn pa : Nat) : TT := sS (sO T ((tO T).set tn 1)) 9 (nI (pa + 1))
def passT (T : TT) (np tn pa : Nat) : TT := if pa + 1 = np then endsT (passA T tn pa) np else nextT (passA T tn pa) np tn
def stepT (T : TT) (np hb tn pa : Nat) : TT := match bestT T np hb tn with
  | some v => playT T np tn (v / 10) (v % 10)
  | none => if tDr T np hb tn then drawT T tn else passT T np tn pa
theorem playA_H (T : TT) (tn x k : Nat) : tH (playA T tn x k) = (tH T).set tn ((hnd T tn).filter (fun y => decide (¬ y = x))) := by
  unfold playA
  dsimp only
  split <;> rfl
theorem playA_T (T : TT) (tn x k : Nat) : tT (playA T tn x k) = tT T := by
  unfold playA
  dsimp only
  split <;> rfl
theorem playA_R (T : TT) (tn x k : Nat) : tR (playA T tn x k) = (tR T).set k (trn T k ++ [x]) := by
  unfold playA
  dsimp only
  split <;> rfl
theorem playA_O (T : TT) (tn x k : Nat) : tO (playA T tn x k) = if k = tn then (tO T).set k 0 else tO T := by
  unfold playA
  dsimp only
  split <;> rfl
theorem playA_K (T : TT) (tn x k : Nat) : tK (playA T tn x k) = tK T := by
  unfold playA
  dsimp only
  split <;> rfl
theorem playA_M (T : TT) (tn x k : Nat) : tM (playA T tn x k) = tM T := by
  unfold playA
  dsimp only
  split <;> rfl
theorem playA_1 (T : TT) (tn x k : Nat) : (playA T tn x k).1 = upd (upd T.1 9 0) 6 (if x % 11 = 0 then nI k else -1) := by
  unfold playA
  dsimp only
  split <;> rfl
theorem getD_set_s {l : List (List Nat)} {i : Nat} {v : List Nat} (h : i < l.length) : (l.set i v).getD i [] = v := by
  rw [List.getD_eq_getElem?_getD, List.getElem?_set_self h]; rfl
theorem getD_set_n {l : List (List Nat)} {i j : Nat} {v : List Nat} (h : ¬ i = j) : (l.set i v).getD j [] = l.getD j [] := by
  rw [List.getD_eq_getElem?_getD, List.getD_eq_getElem?_getD, List.getElem?_set_ne h]
/-- a play: the answer and the table behind it -/
theorem s_play {x k mc ms : Nat} {post : Int32 → HW → Prop} (t : TabV c h Own A T fv) (hO : OwnOK h Own) (w : TW T mx np hs hb tn pa) (hx : x < 100) (hk : k ≤ np) (hc : 60 ≤ mc) (hs9 : 3600 ≤ ms) (hp : ∀ h', TabV c h' Own A (playT T np tn x k) fv → TFr h h' A → HDom h h' → post (nI (endT hb (trn T k ++ [x]))) h') : w_X10_plays_ c K h (A 0) (nI x) (nI k) mc ms post := by
  have hnp := w.np
  have htn := w.tn
  have hH := w.H tn
  have hR := w.R k
  have hb10 : hb < 10 := by have := w.hb.2; have := w.mx.2.2; omega
  have hO' := t.own
  unfold w_X10_plays_
  refine t_g10 t ?_
  refine t_gI t (by omega) ?_
  rw [htn.1]
  refine t_g10 t ?_
  refine t_gI t (by omega) ?_
  rw [htn.1]
  refine t_lRH t (by omega) fun r hr => ?_
  have hl1 : (hnd T tn).length * 60 ≤ 3300 := by omega
  refine ⟨56, 3300, mc - 56, ms - 3300, by omega, by omega, ?_⟩
  refine s_without hr hO (by omega) hH.1 hx (by omega) hl1 fun q h1 e1 hq hw1 => ?_
  refine ⟨q, rfl, ?_⟩
  have t1 := t.ext e1
  have hO1 := hO.ext e1
  refine t_stH t1 (by omega) (hw1.at (hO.new hq)) fun h2 t2 f2 d2 => ?_
  refine t_g12 t2 ?_
  refine t_g12 t2 ?_
  refine t_lRR t2 (by show k < (tR T).length; omega) fun r2 hr2 => ?_
  refine ⟨1, 57, mc - 57, ms - 3357, by omega, by omega, ?_⟩
  refine s_with hr2 (by show (trn T k).length < 60000; omega) (Nat.le_refl _) (by show (trn T k).length + 1 ≤ 57; omega) fun q3 h3 e3 hq3 hw3 => ?_
  refine ⟨q3, rfl, ?_⟩
  have hO2 := hO1.dom d2
  have t3 := t2.ext e3
  refine t_stR t3 (by show k < (tR T).length; omega) (hw3.at (hO2.new hq3)) fun h4 t4 f4 d4 => ?_
  have F4 : TFr h h4 A := ((e1.tfr.tr f2).tr e3.tfr).tr f4
  have D4 : HDom h h4 := ((e1.dom.tr d2).tr e3.dom).tr d4
  refine t_gI t4 (by omega) ?_
  rw [show (sR (sH T ((tH T).set tn ((hnd T tn).filter (fun y => decide (¬ y = x))))) ((tR T).set k (trn T k ++ [x]))).1 4 = nI tn from htn.1]
  generalize hT2 : (sR (sH T ((tH T).set tn ((hnd T tn).filter (fun y => decide (¬ y = x))))) ((tR T).set k (trn T k ++ [x]))) = T2 at t4
  have hJ53 : ∀ (h5 : HW) (T3 : TT), T3 = (if k = tn then sO T2 ((tO T).set k 0) else T2) → TabV c h5 Own A T3 fv → TFr h h5 A → HDom h h5 → w_X10_plays__J53 c K (A 0) (nI x) (nI k) post h5 (mc - 57) (ms - 3357) := by
    intro h5 T3 eT3 t5 f5 d5
    unfold w_X10_plays__J53
    refine t_pV t5 (by omega) fun h6 t6 f6 d6 => ?_
    intro x62 e62
    rw [show (11 : Int32) = nI 11 from rfl, nI_div (by omega) (by omega), nI_mul, nI_dm (by omega) (by omega)] at e62
    subst e62
    have hJ71 : ∀ v, v = (if x % 11 = 0 then nI k else -1) → w_X10_plays__J71 c K (A 0) (nI k) post h6 (mc - 57) (ms - 3357) v (A 0) := by
      intro v ev
      unfold w_X10_plays__J71
      refine t_pV t6 (by omega) fun h7 t7 f7 d7 => ?_
      have eP : sS (sS T3 9 0) 6 v = playA T tn x k := by rw [ev, eT3, ← hT2]; rfl
      rw [eP] at t7
      have F7 : TFr h h7 A := (f5.tr f6).tr f7
      have D7 : HDom h h7 := (d5.tr d6).tr d7
      have p14 : (playA T tn x k).1 4 = nI tn := by rw [playA_1]; exact htn.1
      have p12 : (playA T tn x k).1 2 = nI hb := by rw [playA_1]; exact w.hb.1
      have pH : (tH (playA T tn x k)).length = np := by rw [playA_H, List.length_set]; exact hnp.1
      have pT : (tT (playA T tn x k)).length = np := by rw [playA_T]; exact hnp.2.1
      have pR : k < (tR (playA T tn x k)).length := by rw [playA_R, List.length_set]; omega
      have pk : trn (playA T tn x k) k = trn T k ++ [x] := by rw [trn, playA_R, getD_set_s (by omega)]
      have ph : hnd (playA T tn x k) tn = (hnd T tn).filter (fun y => decide (¬ y = x)) := by rw [hnd, playA_H, getD_set_s (by omega)]
      have pHx : ∀ p, (∀ y ∈ hnd (playA T tn x k) p, y < 100) ∧ (hnd (playA T tn x k) p).length ≤ 60000 := by
        intro p
        by_cases hpt : tn = p
        · subst hpt
          rw [ph]
          exact ⟨fun y hy => hH.1 y ((List.mem_filter.mp hy).1), Nat.le_trans (List.length_filter_le _ _) (by omega)⟩
        · rw [hnd, playA_H, getD_set_n hpt]
          show (∀ y ∈ hnd T p, y < 100) ∧ (hnd T p).length ≤ 60000
          exact ⟨(w.H p).1, by have := (w.H p).2; omega⟩
      have pl : (∀ y ∈ trn T k ++ [x], y < 100) ∧ (trn T k ++ [x]).length ≤ 60000 := by
        refine ⟨fun y hy => ?_, by rw [List.length_append]; show _ + 1 ≤ _; omega⟩
        rcases List.mem_append.mp hy with hy | hy
        · exact hR.1 y hy
        · rw [List.mem_singleton.mp hy]; exact hx
      have hJ113 : ∀ (h8 : HW) (T8 : TT), T8 = playT T np tn x k → T8.1 2 = nI hb → tR T8 = tR (playA T tn x k) → TabV c h8 Own A T8 fv → TFr h h8 A → HDom h h8 → w_X10_plays__J113 c K (A 0) (nI k) post h8 (mc - 57) (ms - 3357) := by
        intro h8 T8 e8 e82 e8R t8 f8 d8
        have e8k : trn T8 k = trn T k ++ [x] := by rw [← pk, trn, trn, e8R]
        unfold w_X10_plays__J113
        refine ⟨t_rc t8, s_end0 t8 e82 hb10 (by rw [e8R]; exact pR) (by rw [e8k]; exact pl.1) (by rw [e8k]; exact pl.2) ?_⟩
        rw [e8k]
        rw [e8] at t8
        exact hp _ t8 f8 d8
      refine t_g10 t7 ?_
      refine t_gI t7 (by omega) ?_
      rw [p14]
      refine t_lRH t7 (by omega) fun r7 hr7 => ?_
      refine r_len hr7 ?_
      have hlen : (hnd (playA T tn x k) tn).length < 2 ^ 31 := by have := (pHx tn).2; omega
      refine br_eq0 hlen (fun z => ?_) (fun z => ?_)
      · refine ⟨t_rc t7, s_ends t7 pH pT pHx fun h8 t8 f8 d8 => ?_⟩
        have z' : ((hnd T tn).filter (fun y => decide (¬ y = x))).length = 0 := by rw [← ph]; exact z
        exact hJ113 h8 (endsT (playA T tn x k) np) (by rw [playT, if_pos z']) p12 rfl t8 (F7.tr f8) (D7.tr d8)
      · have z' : ¬ ((hnd T tn).filter (fun y => decide (¬ y = x))).length = 0 := by rw [← ph]; exact z
        refine t_gI t7 (by omega) ?_
        have p16 : (playA T tn x k).1 6 = (if x % 11 = 0 then nI k else -1) := by rw [playA_1]; rfl
        rw [p16]
        by_cases h11 : x % 11 = 0
        · rw [if_pos h11]
          refine ⟨fun _ => ?_, fun q => absurd (nI_pos' (by omega)) q⟩
          refine t_pZ t7 (by omega) (Or.inl rfl) fun h8 t8 f8 d8 => ?_
          exact hJ113 h8 (sS (playA T tn x k) 5 0) (by rw [playT, if_neg z', if_pos h11]) p12 rfl t8 (F7.tr f8) (D7.tr d8)
        · rw [if_neg h11]
          refine ⟨fun q => absurd q nle_m1, fun _ => ?_⟩
          refine ⟨t_rc t7, s_next t7 pH p14 htn.2 fun h8 t8 f8 d8 => ?_⟩
          exact hJ113 h8 (nextT (playA T tn x k) np tn) (by rw [playT, if_neg z', if_neg h11]) p12 rfl t8 (F7.tr f8) (D7.tr d8)
    exact br_eq0 (by omega) (fun z => hJ71 _ (if_pos z).symm) (fun z => hJ71 _ (if_neg z).symm)
  refine br_eq (by omega) (by omega) (fun z => ?_) (fun z => ?_)
  · refine t_g13 t4 ?_
    refine t_stO t4 (by rw [← hT2]; show k < (tO T).length; omega) (Or.inl rfl) fun h5 t5 f5 d5 => ?_
    refine hJ53 _ _ ?_ t5 (F4.tr f5) (D4.tr d5)
    rw [if_pos z, ← hT2]
  · exact hJ53 _ _ (if_neg z).symm t4 F4 D4
theorem tail_getD {l : List Nat} {k : Nat} (hk : k + 1 < l.length) : l.tail.take (k + 1) = l.tail.take k ++ [l.getD (k + 1) 0] := by
  cases l with
  | nil => simp at hk
  | cons x l =>
    have hk : k < l.length := by simpa using hk
    show l.take (k + 1) = l.take k ++ [l.getD k 0]
    exact take_succ_getD hk
theorem s_draw {mc ms : Nat} {post : Int32 → HW → Prop} (t : TabV c h Own A T fv) (hO : OwnOK h Own) (w : TW T mx np hs hb tn pa) (h0 : 0 < (tK T).length) (hc : 60 ≤ mc) (hs9 : 3600 ≤ ms) (hp : ∀ h', TabV c h' Own A (drawT T tn) fv → TFr h h' A → HDom h h' → post (nI ((tK T).getD 0 0)) h') : w_X10_draws c K h (A 0) mc ms post := by
  have hnp := w.np
  have htn := w.tn
  have hH := w.H tn
  have hKb := w.K
  have hO' := t.own
  have hx0 : (tK T).getD 0 0 < 100 := hKb.1 _ (getD_mem h0)
  unfold w_X10_draws
  refine t_g14 t fun st hst => ?_
  refine r_lI (k := 0) hst h0 (by omega) ?_
  refine i_nwI (n := 0) (by omega) (by omega) (Nat.zero_le _) fun q hq => ?_
  refine cpL5 (fun i (h9 : HW) (m9 s9 : Nat) (v2 : Nat) (v3 : Int32) => Ext h h9 ∧ h v2 = none ∧ RowW c h9 v2 ((tK T).tail.take i) ∧ 59 ≤ m9 + i ∧ 3600 ≤ s9 + i * 57 ∧ v3 = nI (i + 1)) ((tK T).length - 1) ?_ ?_ 0 (Nat.zero_le _) _ _ _ _ _ ⟨Ext.new hq, hq, ⟨_, hup_s, fun i hi => absurd hi (Nat.not_lt_zero _)⟩, by omega, by omega, rfl⟩
  · rintro rec h9 m9 s9 v2 v3 ⟨e9, hq2, hw, hm, hs10, rfl⟩
    have t9 := t.ext e9
    have hO9 := hO.ext e9
    rw [show (tK T).length - 1 + 1 = (tK T).length by omega]
    rw [List.take_of_length_le (by rw [List.length_tail]; omega)] at hw
    unfold w_X10_draws_B13
    refine t_g14 t9 fun st9 hst9 => ?_
    refine r_len hst9 ?_
    refine br_le (by omega) (by omega) (fun _ => ?_) (fun z => by omega)
    refine t_p14 t9 (hw.at (hO.new hq2)) fun h1 t1 f1 d1 => ?_
    refine t_g10 t1 ?_
    refine t_gI t1 (by omega) ?_
    rw [show (sK T (tK T).tail).1 4 = nI tn from htn.1]
    refine t_g10 t1 ?_
    refine t_gI t1 (by omega) ?_
    rw [show (sK T (tK T).tail).1 4 = nI tn from htn.1]
    refine t_lRH t1 (by show tn < (tH T).length; omega) fun r hr => ?_
    refine ⟨1, 57, m9 - 1, s9 - 57, by omega, by omega, ?_⟩
    refine s_with hr (by show (hnd T tn).length < 60000; omega) (Nat.le_refl _) (by show (hnd T tn).length + 1 ≤ 57; omega) fun q3 h3 e3 hq3 hw3 => ?_
    refine ⟨q3, rfl, ?_⟩
    have t3 := t1.ext e3
    refine t_stH t3 (by show tn < (tH T).length; omega) (hw3.at ((hO9.dom d1).new hq3)) fun h4 t4 f4 d4 => ?_
    refine t_pZ t4 (by omega) (Or.inr rfl) fun h5 t5 f5 d5 => ?_
    refine t_pV t5 (by omega) fun h6 t6 f6 d6 => ?_
    exact hp _ t6 (((((e9.tfr.tr f1).tr e3.tfr).tr f4).tr f5).tr f6) (((((e9.dom.tr d1).tr e3.dom).tr d4).tr d5).tr d6)
  · rintro rec i h9 m9 s9 v2 v3 hi ⟨e9, hq2, hw, hm, hs10, rfl⟩ hrec
    have t9 := t.ext e9
    unfold w_X10_draws_B13
    refine t_g14 t9 fun st9 hst9 => ?_
    refine r_len hst9 ?_
    refine br_le (by omega) (by omega) (fun z => by omega) (fun _ => ?_)
    refine t_g14 t9 fun st8 hst8 => ?_
    refine r_lI hst8 (by omega) (by omega) ?_
    refine ⟨1, 57, m9 - 1, s9 - 57, by omega, by omega, ?_⟩
    have hlt : ((tK T).tail.take i).length ≤ 55 := Nat.le_trans (List.length_take_le _ _) (by omega)
    refine s_with (hw.at (hO.new hq2)) (by omega) (Nat.le_refl _) (by omega) fun q3 h3 e3 hq3 hw3 => ?_
    refine ⟨q3, rfl, ?_⟩
    intro x33 e33
    refine hrec _ _ _ _ _ ⟨e9.tr e3, e9.none hq3, ?_, by omega, by omega, by rw [e33, nI_1]⟩
    rw [tail_getD (by omega)]
    exact hw3
theorem s_pass {post : Int32 → HW → Prop} (t : TabV c h Own A T fv) (w : TW T mx np hs hb tn pa) (hp : ∀ h', TabV c h' Own A (passT T np tn pa) fv → TFr h h' A → HDom h h' → post ((passT T np tn pa).1 4) h') : w_X10_passesOn c K h (A 0) post := by
  have hnp := w.np
  have htn := w.tn
  have hpa := w.pa
  unfold w_X10_passesOn
  refine t_g13 t ?_
  refine t_gI t (by omega) ?_
  rw [htn.1]
  refine t_stO t (by omega) (Or.inr rfl) fun h1 t1 f1 d1 => ?_
  refine t_gI t1 (by omega) ?_
  intro x16 e16
  rw [show (sO T ((tO T).set tn 1)).1 9 = nI pa from hpa.1, nI_1] at e16
  subst e16
  refine t_pV t1 (by omega) fun h2 t2 f2 d2 => ?_
  have t2 : TabV c h2 Own A (passA T tn pa) fv := t2
  have F2 := f1.tr f2
  have D2 := d1.tr d2
  refine t_gI t2 (by omega) ?_
  rw [show (passA T tn pa).1 9 = nI (pa + 1) from rfl]
  refine t_g10 t2 ?_
  refine t_lenH t2 ?_
  rw [show (tH (passA T tn pa)).length = np from hnp.1]
  refine br_eq (by omega) (by omega) (fun z => ?_) (fun z => ?_)
  · refine ⟨t_rc t2, s_ends t2 hnp.1 hnp.2.1 (fun p => ⟨(w.H p).1, by have := (w.H p).2; show (hnd T p).length ≤ _; omega⟩) fun h3 t3 f3 d3 => ?_⟩
    have eP : passT T np tn pa = endsT (passA T tn pa) np := if_pos z
    rw [eP] at hp
    exact t_gI t3 (by omega) (hp _ t3 (F2.tr f3) (D2.tr d3))
  · refine ⟨t_rc t2, s_next t2 hnp.1 htn.1 htn.2 fun h3 t3 f3 d3 => ?_⟩
    have eP : passT T np tn pa = nextT (passA T tn pa) np tn := if_neg z
    rw [eP] at hp
    exact t_gI t3 (by omega) (hp _ t3 (F2.tr f3) (D2.tr d3))
/-- steps one behind another: how many, and the table behind them; P: what is known of the tables on the way -/
theorem s_goesOn {N mc ms : Nat} {post : Int32 → HW → Prop} (P : Nat → TT → Prop) (t : TabV c h Own A T fv) (hO : OwnOK h Own) (hN : N ≤ 200) (hc : 60 * N ≤ mc) (hs9 : 3600 * N ≤ ms) (hP0 : P 0 T)
    (hPw : ∀ i T, P i T → ∃ mx np hs hb tn pa, TW T mx np hs hb tn pa ∧ (T.1 7 = 0 → P (i + 1) (stepT T np hb tn pa)))
    (hp : ∀ (h' : HW) (fv' : Nat → Int64) (i : Nat) (T' : TT), TabV c h' Own A T' fv' → TFr h h' A → HDom h h' → P i T' → i ≤ N → (i = N ∨ ¬ T'.1 7 = 0) → post (nI i) h') : w_X10_goesOn c K h (A 0) (nI N) mc ms post := by
  unfold w_X10_goesOn
  refine cpM4 (fun m (h9 : HW) (m9 s9 : Nat) (v2 : Int32) => ∃ (i : Nat) (T9 : TT) (fv9 : Nat → Int64), i + m = N ∧ TabV c h9 Own A T9 fv9 ∧ TFr h h9 A ∧ HDom h h9 ∧ P i T9 ∧ 60 * m ≤ m9 ∧ 3600 * m ≤ s9 ∧ v2 = nI i) ?_ N _ _ _ _ ⟨0, T, fv, by omega, t, TFr.rf, HDom.rf, hP0, hc, hs9, rfl⟩
  rintro rec m h9 m9 s9 v2 ⟨i, T9, fv9, him, t9, f9, d9, hP, hm9, hs10, rfl⟩ hrec
  have hO9 := hO.dom d9
  unfold w_X10_goesOn_B2
  refine br_le (by omega) (by omega) (fun z => hp _ _ _ _ t9 f9 d9 hP (by omega) (Or.inl (by omega))) (fun z => ?_)
  obtain ⟨mx, np, hs, hb, tn, pa, w, hst⟩ := hPw i T9 hP
  refine t_gI t9 (by omega) ⟨fun h7 => ?_, fun h7 => hp _ _ _ _ t9 f9 d9 hP (by omega) (Or.inr h7)⟩
  have hP' := hst h7
  have hJ : ∀ (h8 : HW) (fv8 : Nat → Int64) (m8 s8 : Nat), TabV c h8 Own A (stepT T9 np hb tn pa) fv8 → TFr h h8 A → HDom h h8 → m9 ≤ m8 + 60 → s9 ≤ s8 + 3600 → w_X10_goesOn_J59 c K rec (nI i) h8 m8 s8 := by
    intro h8 fv8 m8 s8 t8 f8 d8 hm8 hs8
    unfold w_X10_goesOn_J59
    intro x59 e59
    exact hrec (m - 1) _ _ _ _ (by omega) ⟨i + 1, _, fv8, by omega, t8, f8, d8, hP', by omega, by omega, by rw [e59, nI_1]⟩
  refine ⟨t_rc t9, s_best t9 w fun h1 fv1 t1 f1 d1 ok1 => ?_⟩
  have F1 := f9.tr f1
  have D1 := d9.tr d1
  cases hbe : bestT T9 np hb tn with
  | none =>
    refine ⟨fun _ => ?_, fun q => absurd (by decide) q⟩
    refine ⟨t_rc t1, s_mayDraw t1 w ?_⟩
    by_cases hd : tDr T9 np hb tn
    · rw [if_pos hd]
      refine ⟨fun q => absurd q (by decide), fun _ => ?_⟩
      have eS : stepT T9 np hb tn pa = drawT T9 tn := by rw [stepT, hbe]; exact if_pos hd
      refine ⟨t_rc t1, 60, 3600, m9 - 60, s9 - 3600, by omega, by omega, s_draw t1 (hO9.dom d1) w hd.2.2.1 (Nat.le_refl _) (Nat.le_refl _) fun h2 t2 f2 d2 => ?_⟩
      exact hJ _ _ _ _ (by rw [eS]; exact t2) (F1.tr f2) (D1.tr d2) (by omega) (by omega)
    · rw [if_neg hd]
      refine ⟨fun _ => ?_, fun q => absurd rfl q⟩
      have eS : stepT T9 np hb tn pa = passT T9 np tn pa := by rw [stepT, hbe]; exact if_neg hd
      refine ⟨t_rc t1, s_pass t1 w fun h2 t2 f2 d2 => ?_⟩
      exact hJ _ _ _ _ (by rw [eS]; exact t2) (F1.tr f2) (D1.tr d2) (by omega) (by omega)
  | some v =>
    obtain ⟨hv1, hv2⟩ := ok1 v hbe
    have hv : v < 2 ^ 31 := by have := w.np; omega
    refine ⟨fun q => absurd q (nI_pos hv), fun _ => ?_⟩
    intro x27 e27 x31 e31
    have e27 : x27 = nI v / 10 := e27
    have e31 : x31 = nI v - nI v / 10 * 10 := e31
    rw [show (10 : Int32) = nI 10 from rfl, nI_div hv (by omega)] at e27
    rw [show (10 : Int32) = nI 10 from rfl, nI_div hv (by omega), nI_mul, nI_dm hv (by omega)] at e31
    subst e27 e31
    have eS : stepT T9 np hb tn pa = playT T9 np tn (v / 10) (v % 10) := by rw [stepT, hbe]
    refine ⟨t_rc t1, 60, 3600, m9 - 60, s9 - 3600, by omega, by omega, s_play t1 (hO9.dom d1) w hv1 hv2 (Nat.le_refl _) (Nat.le_refl _) fun h2 t2 f2 d2 => ?_⟩
    exact hJ _ _ _ _ (by rw [eS]; exact t2) (F1.tr f2) (D1.tr d2) (by omega) (by omega)
end CH
