/-! what the table tells of itself, and its checksum -/
def toldT (T : TT) (np hb tn k : Nat) : Int32 :=
  if k = 0 then T.1 0 else if k = 1 then nI np else if k = 2 then T.1 1 else if k = 3 then T.1 2 else if k = 4 then T.1 4 else if k = 5 then T.1 5 else if k = 6 then T.1 6 else if k = 7 then nI (tK T).length else if k = 8 then T.1 7 else if k = 9 then T.1 8 else if k = 10 then nI (playsL T np hb tn (hnd T tn)) else if k = 11 then T.1 9 else T.1 3
def pcT (T : TT) (np hb tn : Nat) (l : List Nat) : Nat := (l.map (fun x => if plT T np hb tn x = 0 then 0 else 1)).sum
def ofPT (T : TT) (np hb tn p k : Nat) : Int32 :=
  if k = 0 then nI (hnd T p).length else if k = 1 then nI (pipL (hnd T p)) else if k = 2 then (tT T).getD p 0 else if p = tn then nI (pcT T np hb tn (hnd T p)) else 0
def ofTT (T : TT) (hb t k : Nat) : Int32 :=
  if k = 0 then nI (trn T t).length else if k = 1 then nI (endT hb (trn T t)) else if k = 2 then (tO T).getD t 0 else if k = 3 then (if (trn T t).length = 0 then -1 else nI ((trn T t).getD ((trn T t).length - 1) 0)) else nI (pipL (trn T t))
def srtT (l : List Nat) (k : Nat) : List Nat := (List.range k).filter (fun x => decide (x ∈ l))
def ckF (f : Nat → Int32) (n : Nat) (v : Int64) : Int64 := (List.range n).foldl (fun v k => 31 * v + (f k).toInt64) v
def ckL (l : List Nat) (v : Int64) : Int64 := l.foldl (fun v x => 31 * v + (nI x).toInt64) v
def ckP (T : TT) (np hb tn n : Nat) (v : Int64) : Int64 := (List.range n).foldl (fun v p => ckL (srtT (hnd T p) 100) (ckF (ofPT T np hb tn p) 4 v)) v
def ckT (T : TT) (hb n : Nat) (v : Int64) : Int64 := (List.range n).foldl (fun v t => ckF (ofTT T hb t) 5 v) v
def chkT (T : TT) (np hb tn : Nat) : Int64 := ckT T hb (np + 1) (ckP T np hb tn np (ckF (toldT T np hb tn) 13 0))
theorem ckF_s (f : Nat → Int32) (n : Nat) (v : Int64) : ckF f (n + 1) v = 31 * ckF f n v + (f n).toInt64 := by
  unfold ckF
  rw [List.range_succ, List.foldl_append]
  rfl
theorem ckP_s (T : TT) (np hb tn n : Nat) (v : Int64) : ckP T np hb tn (n + 1) v = ckL (srtT (hnd T n) 100) (ckF (ofPT T np hb tn n) 4 (ckP T np hb tn n v)) := by
  unfold ckP
  rw [List.range_succ, List.foldl_append]
  rfl
theorem ckT_s (T : TT) (hb n : Nat) (v : Int64) : ckT T hb (n + 1) v = ckF (ofTT T hb n) 5 (ckT T hb n v) := by
  unfold ckT
  rw [List.range_succ, List.foldl_append]
  rfl
theorem srtT_s (l : List Nat) (k : Nat) : srtT l (k + 1) = if k ∈ l then srtT l k ++ [k] else srtT l k := by
  unfold srtT
  rw [List.range_succ, List.filter_append]
  by_cases h : k ∈ l
  · rw [if_pos h, List.filter_cons_of_pos (by exact decide_eq_true h)]
    rfl
  · have e : List.filter (fun x => decide (x ∈ l)) [k] = [] := by simp [h]
    rw [if_neg h, e, List.append_nil]
theorem srtT_len (l : List Nat) : ∀ k, (srtT l k).length ≤ k := fun k => by
  unfold srtT
  exact Nat.le_trans (List.length_filter_le _ _) (by simp)
section TO
variable {c : Nat → ClassId} {K : (Nat → Nat) × (Nat → Nat)} {h : HW} {Own : Nat → Prop} {A : Nat → Nat} {T : TT} {fv : Nat → Int64} {mx np hs hb tn pa : Nat}
theorem b01 {v : Int32} {P : Int32 → Prop} (hv : v = 0 ∨ v = 1) (hp : P v) : (v = 0 → P 0) ∧ (¬ v = 0 → P 1) := ⟨fun z => by rw [z] at hp; exact hp, fun z => by rw [hv.resolve_left z] at hp; exact hp⟩
theorem s_told {k : Nat} {post : Int32 → HW → Prop} (t : TabV c h Own A T fv) (w : TW T mx np hs hb tn pa) (hk : k ≤ 12) (hp : post (toldT T np hb tn k) h) : w_X10_told c K h (A 0) (nI k) post := by
  have hnp := w.np
  unfold w_X10_told
  refine br_eq0 (by omega) (fun z => ?_) (fun z0 => ?_)
  · subst z; exact t_gI t (by omega) hp
  refine br_eq (b := 1) (by omega) (by omega) (fun z => ?_) (fun z1 => ?_)
  · subst z
    refine t_g10 t (t_lenH t ?_)
    rw [hnp.1]
    exact hp
  refine br_eq (b := 2) (by omega) (by omega) (fun z => ?_) (fun z2 => ?_)
  · subst z; exact t_gI t (by omega) hp
  refine br_eq (b := 3) (by omega) (by omega) (fun z => ?_) (fun z3 => ?_)
  · subst z; exact t_gI t (by omega) hp
  refine br_eq (b := 4) (by omega) (by omega) (fun z => ?_) (fun z4 => ?_)
  · subst z; exact t_gI t (by omega) hp
  refine br_eq (b := 5) (by omega) (by omega) (fun z => ?_) (fun z5 => ?_)
  · subst z; exact t_gI t (by omega) (b01 (P := fun v => post v h) w.dr hp)
  refine br_eq (b := 6) (by omega) (by omega) (fun z => ?_) (fun z6 => ?_)
  · subst z; exact t_gI t (by omega) hp
  refine br_eq (b := 7) (by omega) (by omega) (fun z => ?_) (fun z7 => ?_)
  · subst z; exact t_g14 t fun st hst => r_len hst hp
  refine br_eq (b := 8) (by omega) (by omega) (fun z => ?_) (fun z8 => ?_)
  · subst z; exact t_gI t (by omega) (b01 (P := fun v => post v h) w.ov hp)
  refine br_eq (b := 9) (by omega) (by omega) (fun z => ?_) (fun z9 => ?_)
  · subst z; exact t_gI t (by omega) hp
  refine br_eq (b := 10) (by omega) (by omega) (fun z => ?_) (fun z10 => ?_)
  · subst z; exact ⟨t_rc t, s_plays t w hp⟩
  refine br_eq (b := 11) (by omega) (by omega) (fun z => ?_) (fun z11 => ?_)
  · subst z; exact t_gI t (by omega) hp
  · obtain rfl : k = 12 := by omega
    exact t_gI t (by omega) hp
theorem pcT_take {l : List Nat} {k : Nat} (hk : k < l.length) : pcT T np hb tn (l.take (k + 1)) = pcT T np hb tn (l.take k) + (if plT T np hb tn (l.getD k 0) = 0 then 0 else 1) := by
  rw [take_succ_getD hk]
  unfold pcT
  rw [List.map_append, List.sum_append]
  simp
theorem s_ofP {p k : Nat} {post : Int32 → HW → Prop} (t : TabV c h Own A T fv) (w : TW T mx np hs hb tn pa) (hpn : p < np) (hk : k ≤ 3) (hp : post (ofPT T np hb tn p k) h) : w_X10_ofPlayer c K h (A 0) (nI p) (nI k) post := by
  have hnp := w.np
  have hH := w.H p
  have hJ : ∀ v : Int32, (k = 3 → v = ofPT T np hb tn p 3) → w_X10_ofPlayer_J102 c K (A 0) (nI p) (nI k) post h v := by
    intro v hv
    unfold w_X10_ofPlayer_J102
    refine br_eq0 (by omega) (fun z => ?_) (fun z0 => ?_)
    · subst z; exact t_g10 t (t_lRH t (by omega) fun r hr => r_len hr hp)
    refine br_eq (b := 1) (by omega) (by omega) (fun z => ?_) (fun z1 => ?_)
    · subst z; exact t_g10 t (t_lRH t (by omega) fun r hr => s_pips hr (by omega) (fun x hx => by have := hH.1 x hx; omega) hp)
    refine br_eq (b := 2) (by omega) (by omega) (fun z => ?_) (fun z2 => ?_)
    · subst z; exact t_g11 t (t_lT t (by omega) hp)
    · obtain rfl : k = 3 := by omega
      rw [hv rfl]
      exact hp
  unfold w_X10_ofPlayer
  refine br_eq (b := 3) (by omega) (by omega) (fun z3 => ?_) (fun z3 => hJ _ (fun q => absurd q z3))
  refine t_gI t (by omega) ?_
  rw [w.tn.1]
  refine br_eq (by omega) (by have := w.tn.2; omega) (fun zt => ?_) (fun zt => hJ _ (fun _ => (if_neg zt).symm))
  refine t_g10 t (t_lRH t (by omega) fun r hr => r_len hr ?_)
  refine cpL3 (fun i (h9 : HW) (v3 v6 : Int32) => h9 = h ∧ v3 = nI (pcT T np hb tn ((hnd T p).take i)) ∧ v6 = nI i) (hnd T p).length ?_ ?_ 0 (Nat.zero_le _) _ _ _ ⟨rfl, rfl, rfl⟩
  · rintro rec h9 v3 v6 ⟨rfl, e3, rfl⟩
    unfold w_X10_ofPlayer_B31
    refine br_le (by omega) (by omega) (fun _ => ?_) (fun hn => by omega)
    rw [List.take_length] at e3
    exact hJ _ (fun _ => e3.trans (if_pos zt).symm)
  · rintro rec i h9 v3 v6 hi ⟨rfl, rfl, rfl⟩ hrec
    unfold w_X10_ofPlayer_B31
    refine br_le (by omega) (by omega) (fun hn => by omega) (fun _ => ?_)
    refine r_lI hr hi (by omega) ?_
    have hxi : (hnd T p).getD i 0 < 100 := hH.1 _ (getD_mem hi)
    have htk := pcT_take (T := T) (np := np) (hb := hb) (tn := tn) hi
    rw [htk] at hrec
    generalize (hnd T p).getD i 0 = x at hxi hrec ⊢
    refine cpL3 (fun j (h8 : HW) (v8 v9 : Int32) => h8 = h9 ∧ v8 = (if cn (fun t => decide (whyT T hb tn x t = 0)) 0 j = 0 then 0 else 1) ∧ v9 = nI j) (np + 1) ?_ ?_ 0 (Nat.zero_le _) _ _ _ ⟨rfl, rfl, rfl⟩
    · rintro rec2 h8 v8 v9 ⟨rfl, rfl, rfl⟩
      unfold w_X10_ofPlayer_B51
      refine t_g12 t (t_lenR t ?_)
      rw [hnp.2.2.1]
      refine br_le (by omega) (by omega) (fun _ => ?_) (fun hn => by omega)
      have hJ96 : ∀ v, v = nI (pcT T np hb tn ((hnd T p).take i) + (if plT T np hb tn x = 0 then 0 else 1)) → w_X10_ofPlayer_J96 c K rec (nI i) h8 v := by
        intro v ev
        unfold w_X10_ofPlayer_J96
        intro x96 e96
        exact hrec _ _ _ ⟨rfl, ev, by rw [e96, nI_1]⟩
      by_cases hz : cn (fun t => decide (whyT T hb tn x t = 0)) 0 (np + 1) = 0
      · rw [if_pos hz]
        exact ⟨fun _ => hJ96 _ (by rw [if_pos (show plT T np hb tn x = 0 from hz)]; rfl), fun z => absurd rfl z⟩
      · rw [if_neg hz]
        refine ⟨fun z => absurd z (by decide), fun _ => ?_⟩
        intro x93 e93
        exact hJ96 _ (by rw [if_neg (show ¬ plT T np hb tn x = 0 from hz), e93, nI_1])
    · rintro rec2 j h8 v8 v9 hj ⟨rfl, rfl, rfl⟩ hrec2
      unfold w_X10_ofPlayer_B51
      refine t_g12 t (t_lenR t ?_)
      rw [hnp.2.2.1]
      refine br_le (by omega) (by omega) (fun hn => by omega) (fun _ => ?_)
      refine ⟨t_rc t, s_why t w hxi (by omega) ?_⟩
      have hcn := cn_snoc (P := fun t => decide (whyT T hb tn x t = 0)) j 0
      rw [Nat.zero_add] at hcn
      generalize cn (fun t => decide (whyT T hb tn x t = 0)) 0 j = m at hcn ⊢
      refine ⟨fun h0 => ?_, fun h0 => ?_⟩
      · unfold w_X10_ofPlayer_J79
        intro x79 e79 x82 e82
        refine hrec2 _ _ _ ⟨rfl, ?_, by rw [e82, nI_1]⟩
        rw [if_pos (decide_eq_true h0)] at hcn
        rw [e79, if_neg (show ¬ cn (fun t => decide (whyT T hb tn x t = 0)) 0 (j + 1) = 0 by rw [hcn]; omega)]
        split <;> rfl
      · unfold w_X10_ofPlayer_J79
        intro x79 e79 x82 e82
        refine hrec2 _ _ _ ⟨rfl, ?_, by rw [e82, nI_1]⟩
        rw [if_neg (fun z => h0 (of_decide_eq_true z))] at hcn
        rw [e79, hcn, Nat.add_zero]
        split <;> rfl
theorem s_ofT {k t0 : Nat} {post : Int32 → HW → Prop} (t : TabV c h Own A T fv) (w : TW T mx np hs hb tn pa) (ht0 : t0 ≤ np) (hk : k ≤ 4) (hp : post (ofTT T hb t0 k) h) : w_X10_ofTrain c K h (A 0) (nI t0) (nI k) post := by
  have hnp := w.np
  have hR := w.R t0
  unfold w_X10_ofTrain
  refine t_g12 t (t_lRR t (by omega) fun r hr => ?_)
  refine br_eq0 (by omega) (fun z => ?_) (fun z0 => ?_)
  · subst z; exact r_len hr hp
  refine br_eq (b := 1) (by omega) (by omega) (fun z => ?_) (fun z1 => ?_)
  · subst z; exact ⟨t_rc t, s_end t w ht0 hp⟩
  refine br_eq (b := 2) (by omega) (by omega) (fun z => ?_) (fun z2 => ?_)
  · subst z; exact t_g13 t (t_lO t (by omega) (b01 (P := fun v => post v h) (w.O t0 ht0) hp))
  refine br_eq (b := 3) (by omega) (by omega) (fun z => ?_) (fun z3 => ?_)
  · subst z
    refine r_len hr ?_
    refine br_eq0 (by omega) (fun y => ?_) (fun y => ?_)
    · have e : ofTT T hb t0 3 = -1 := if_pos y
      rw [e] at hp
      exact hp
    · have e : ofTT T hb t0 3 = nI ((trn T t0).getD ((trn T t0).length - 1) 0) := if_neg y
      rw [e] at hp
      refine r_len hr ?_
      intro x69 e69
      rw [show (1 : Int32) = nI 1 from rfl, nI_sub (by omega)] at e69
      subst e69
      exact r_lI hr (by omega) (by omega) hp
  · obtain rfl : k = 4 := by omega
    exact s_pips hr (by omega) (fun x hx => by have := hR.1 x hx; omega) hp
theorem s_sorted {p mc ms : Nat} {post : Option Nat → HW → Prop} (t : TabV c h Own A T fv) (hO : OwnOK h Own) (w : TW T mx np hs hb tn pa) (hpn : p < np) (hc : 101 ≤ mc) (hs9 : 10100 ≤ ms) (hp : ∀ (q : Nat) (h' : HW), Ext h h' → h q = none → RowW c h' q (srtT (hnd T p) 100) → post (some q) h') : w_X10_sorted c K h (A 0) (nI p) mc ms post := by
  have hnp := w.np
  have hH := w.H p
  unfold w_X10_sorted
  refine i_nwI (n := 0) (by omega) (by omega) (Nat.zero_le _) fun q hq => ?_
  refine cpL5 (fun k (h9 : HW) (m9 s9 : Nat) (v2 : Nat) (v3 : Int32) => Ext h h9 ∧ h v2 = none ∧ RowW c h9 v2 (srtT (hnd T p) k) ∧ 100 ≤ m9 + k ∧ 10100 ≤ s9 + k * 101 ∧ v3 = nI k) 100 ?_ ?_ 0 (by omega) _ _ _ _ _ ⟨Ext.new hq, hq, ⟨_, hup_s, fun i hi => absurd hi (Nat.not_lt_zero _)⟩, by omega, by omega, rfl⟩
  · rintro rec h9 m9 s9 v2 v3 ⟨e9, hq2, hw, hm, hs10, rfl⟩
    unfold w_X10_sorted_B6
    exact br_le (a := 100) (by omega) (by omega) (fun _ => hp _ _ e9 hq2 hw) (fun z => by omega)
  · rintro rec k h9 m9 s9 v2 v3 hk ⟨e9, hq2, hw, hm, hs10, rfl⟩ hrec
    have t9 := t.ext e9
    unfold w_X10_sorted_B6
    refine br_le (a := 100) (by omega) (by omega) (fun z => by omega) (fun _ => ?_)
    refine t_g10 t9 (t_lRH t9 (by omega) fun r hr => ?_)
    refine s_has hr (by omega) (fun y hy => by have := hH.1 y hy; omega) (by omega) ?_
    have hsl := srtT_len (hnd T p) k
    by_cases hm9 : k ∈ hnd T p
    · rw [if_pos hm9]
      refine ⟨fun z => absurd z (by decide), fun _ => ?_⟩
      refine ⟨1, 101, m9 - 1, s9 - 101, by omega, by omega, ?_⟩
      refine s_with (hw.at (hO.new hq2)) (by omega) (Nat.le_refl _) (by omega) fun q2 h2 e2 hq3 hr3 => ?_
      refine ⟨q2, rfl, ?_⟩
      unfold w_X10_sorted_J31
      intro x31 e31
      refine hrec _ _ _ _ _ ⟨e9.tr e2, e9.none hq3, ?_, by omega, by omega, by rw [e31, nI_1]⟩
      rw [srtT_s, if_pos hm9]
      exact hr3
    · rw [if_neg hm9]
      refine ⟨fun _ => ?_, fun z => absurd rfl z⟩
      unfold w_X10_sorted_J31
      intro x31 e31
      refine hrec _ _ _ _ _ ⟨e9, hq2, ?_, by omega, by omega, by rw [e31, nI_1]⟩
      rw [srtT_s, if_neg hm9]
      exact hw
theorem ckL_take {l : List Nat} {k : Nat} {v : Int64} (hk : k < l.length) : ckL (l.take (k + 1)) v = 31 * ckL (l.take k) v + (nI (l.getD k 0)).toInt64 := by
  rw [take_succ_getD hk]
  unfold ckL
  rw [List.foldl_append]
  rfl
theorem s_checksum {mc ms : Nat} {post : Int64 → HW → Prop} (t : TabV c h Own A T fv) (hO : OwnOK h Own) (w : TW T mx np hs hb tn pa) (hc : 101 * np ≤ mc) (hs9 : 10100 * np ≤ ms) (hp : ∀ h', Ext h h' → post (chkT T np hb tn) h') : w_X10_checksum c K h (A 0) mc ms post := by
  have hnp := w.np
  unfold w_X10_checksum
  refine cpL5 (fun k (h9 : HW) (m9 s9 : Nat) (v1 : Int64) (v3 : Int32) => h9 = h ∧ 101 * np ≤ m9 ∧ 10100 * np ≤ s9 ∧ v1 = ckF (toldT T np hb tn) k 0 ∧ v3 = nI k) 13 ?_ ?_ 0 (by omega) _ _ _ _ _ ⟨rfl, hc, hs9, rfl, rfl⟩
  · rintro rec h9 m9 s9 v1 v3 ⟨rfl, hm, hs10, rfl, rfl⟩
    unfold w_X10_checksum_B4
    refine br_le (a := 13) (by omega) (by omega) (fun _ => ?_) (fun z => by omega)
    generalize hv0 : ckF (toldT T np hb tn) 13 0 = v0
    refine cpL5 (fun p (h8 : HW) (m8 s8 : Nat) (v1 : Int64) (v3 : Int32) => Ext h9 h8 ∧ 101 * np ≤ m8 + 101 * p ∧ 10100 * np ≤ s8 + 10100 * p ∧ v1 = ckP T np hb tn p v0 ∧ v3 = nI p) np ?_ ?_ 0 (by omega) _ _ _ _ _ ⟨Ext.rf, by omega, by omega, rfl, rfl⟩
    · rintro rec2 h8 m8 s8 v1 v3 ⟨e8, hm8, hs8, rfl, rfl⟩
      have t8 := t.ext e8
      unfold w_X10_checksum_B31
      refine t_g10 t8 (t_lenH t8 ?_)
      rw [hnp.1]
      refine br_le (by omega) (by omega) (fun _ => ?_) (fun z => by omega)
      generalize hv1 : ckP T np hb tn np v0 = v1
      refine cpL5 (fun k (h7 : HW) (m7 s7 : Nat) (v : Int64) (v3 : Int32) => h7 = h8 ∧ v = ckT T hb k v1 ∧ v3 = nI k) (np + 1) ?_ ?_ 0 (by omega) _ _ _ _ _ ⟨rfl, rfl, rfl⟩
      · rintro rec3 h7 m7 s7 v v3 ⟨rfl, rfl, rfl⟩
        unfold w_X10_checksum_B123
        refine t_g12 t8 (t_lenR t8 ?_)
        rw [hnp.2.2.1]
        refine br_le (by omega) (by omega) (fun _ => ?_) (fun z => by omega)
        have P := hp h7 e8
        rw [chkT, hv0, hv1] at P
        exact P
      · rintro rec3 k h7 m7 s7 v v3 hk ⟨rfl, rfl, rfl⟩ hrec3
        unfold w_X10_checksum_B123
        refine t_g12 t8 (t_lenR t8 ?_)
        rw [hnp.2.2.1]
        refine br_le (by omega) (by omega) (fun z => by omega) (fun _ => ?_)
        rw [ckT_s] at hrec3
        generalize ckT T hb k v1 = u at hrec3 ⊢
        refine cpL5 (fun j (h6 : HW) (m6 s6 : Nat) (v : Int64) (v4 : Int32) => h6 = h7 ∧ v = ckF (ofTT T hb k) j u ∧ v4 = nI j) 5 ?_ ?_ 0 (by omega) _ _ _ _ _ ⟨rfl, rfl, rfl⟩
        · rintro rec4 h6 m6 s6 v v4 ⟨rfl, rfl, rfl⟩
          unfold w_X10_checksum_B135
          refine br_le (a := 5) (by omega) (by omega) (fun _ => ?_) (fun z => by omega)
          intro x162 e162
          exact hrec3 _ _ _ _ _ ⟨rfl, rfl, by rw [e162, nI_1]⟩
        · rintro rec4 j h6 m6 s6 v v4 hj ⟨rfl, rfl, rfl⟩ hrec4
          unfold w_X10_checksum_B135
          refine br_le (a := 5) (by omega) (by omega) (fun z => by omega) (fun _ => ?_)
          intro x145 e145
          refine ⟨t_rc t8, s_ofT t8 w (by omega) (by omega) ?_⟩
          intro x153 e153 x154 e154 x156 e156
          exact hrec4 _ _ _ _ _ ⟨rfl, by rw [e154, e145, e153, ckF_s], by rw [e156, nI_1]⟩
    · rintro rec2 p h8 m8 s8 v1 v3 hpn ⟨e8, hm8, hs8, rfl, rfl⟩ hrec2
      have t8 := t.ext e8
      have hO8 := hO.ext e8
      unfold w_X10_checksum_B31
      refine t_g10 t8 (t_lenH t8 ?_)
      rw [hnp.1]
      refine br_le (by omega) (by omega) (fun z => by omega) (fun _ => ?_)
      rw [ckP_s] at hrec2
      generalize ckP T np hb tn p v0 = u at hrec2 ⊢
      refine cpL5 (fun j (h6 : HW) (m6 s6 : Nat) (v : Int64) (v4 : Int32) => h6 = h8 ∧ m6 = m8 ∧ s6 = s8 ∧ v = ckF (ofPT T np hb tn p) j u ∧ v4 = nI j) 4 ?_ ?_ 0 (by omega) _ _ _ _ _ ⟨rfl, rfl, rfl, rfl, rfl⟩
      · rintro rec4 h6 m6 s6 v v4 ⟨rfl, rfl, rfl, rfl, rfl⟩
        unfold w_X10_checksum_B43
        refine br_le (a := 4) (by omega) (by omega) (fun _ => ?_) (fun z => by omega)
        refine ⟨t_rc t8, 101, 10100, m6 - 101, s6 - 10100, by omega, by omega, s_sorted t8 hO8 w hpn (Nat.le_refl _) (Nat.le_refl _) fun q h5 e5 hq5 hw5 => ?_⟩
        refine ⟨q, rfl, ?_⟩
        have hr5 := hw5.at (hO8.new hq5)
        have hl5 := srtT_len (hnd T p) 100
        refine r_len hr5 ?_
        generalize ckF (ofPT T np hb tn p) 4 u = u2 at hrec2 ⊢
        refine cpL4 (fun j (m4 s4 : Nat) (v : Int64) (v6 : Int32) => m4 = m6 - 101 ∧ s4 = s6 - 10100 ∧ v = ckL ((srtT (hnd T p) 100).take j) u2 ∧ v6 = nI j) (srtT (hnd T p) 100).length ?_ ?_ 0 (by omega) _ _ _ _ ⟨rfl, rfl, rfl, rfl⟩
        · rintro rec5 m4 s4 v v6 ⟨em4, es4, e4, rfl⟩
          unfold w_X10_checksum_B85
          refine br_le (by omega) (by omega) (fun _ => ?_) (fun z => by omega)
          intro x115 e115
          rw [List.take_length] at e4
          exact hrec2 _ _ _ _ _ ⟨e8.tr e5, by omega, by omega, e4, by rw [e115, nI_1]⟩
        · rintro rec5 j m4 s4 v v6 hj ⟨em4, es4, rfl, rfl⟩ hrec5
          unfold w_X10_checksum_B85
          refine br_le (by omega) (by omega) (fun z => by omega) (fun _ => ?_)
          refine r_lI hr5 hj (by omega) ?_
          intro x103 e103 x106 e106 x107 e107 x109 e109
          exact hrec5 _ _ _ _ ⟨em4, es4, by rw [e107, e103, e106, ckL_take hj], by rw [e109, nI_1]⟩
      · rintro rec4 j h6 m6 s6 v v4 hj ⟨rfl, rfl, rfl, rfl, rfl⟩ hrec4
        unfold w_X10_checksum_B43
        refine br_le (a := 4) (by omega) (by omega) (fun z => by omega) (fun _ => ?_)
        intro x53 e53
        refine ⟨t_rc t8, s_ofP t8 w hpn (by omega) ?_⟩
        intro x61 e61 x62 e62 x64 e64
        exact hrec4 _ _ _ _ _ ⟨rfl, rfl, rfl, by rw [e62, e53, e61, ckF_s], by rw [e64, nI_1]⟩
  · rintro rec k h9 m9 s9 v1 v3 hk ⟨rfl, hm, hs10, rfl, rfl⟩ hrec
    unfold w_X10_checksum_B4
    refine br_le (a := 13) (by omega) (by omega) (fun z => by omega) (fun _ => ?_)
    intro x14 e14
    refine ⟨t_rc t, s_told t w (by omega) ?_⟩
    intro x20 e20 x21 e21 x23 e23
    exact hrec _ _ _ _ _ ⟨rfl, hm, hs10, by rw [e21, e14, e20, ckF_s], by rw [e23, nI_1]⟩
end TO
