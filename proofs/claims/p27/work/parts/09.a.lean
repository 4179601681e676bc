/-! what the law's small methods do, over maps -/
theorem i_len {h : HW} {cA : ClassId} {a : Nat} {w : Bool} {x : vp_A} {P : Int32 → Prop} (ha : h a = some (w, .inl (cA, x))) (hp : P (nI x.1)) : lenA h cA a P := ⟨w, x, ha, fun v hv => by rw [hv]; exact hp⟩
theorem vin {k n : Nat} (hk : k < n) (hn : n < 2 ^ 31) : vp_in (nI k) n := nI_in hk hn
theorem i_lI {h : HW} {cA : ClassId} {a n k : Nat} {w : Bool} {f : Nat → Int32} {P : Int32 → Prop} (ha : h a = some (w, eI cA n f)) (hk : k < n) (hn : n < 2 ^ 31) (hp : P (f k)) : lI h cA a (nI k) P := ⟨w, n, f, ha, vin hk hn, fun x hx => by rw [hx, nI_clamp (Nat.lt_trans hk hn)]; exact hp⟩
theorem i_lL {h : HW} {cA : ClassId} {a n k : Nat} {w : Bool} {f : Nat → Int64} {P : Int64 → Prop} (ha : h a = some (w, eL cA n f)) (hk : k < n) (hn : n < 2 ^ 31) (hp : P (f k)) : lL h cA a (nI k) P := ⟨w, n, f, ha, vin hk hn, fun x hx => by rw [hx, nI_clamp (Nat.lt_trans hk hn)]; exact hp⟩
theorem i_lR {h : HW} {cA : ClassId} {a n k v : Nat} {w : Bool} {f : Nat → Option Nat} {P : Nat → Prop} (ha : h a = some (w, eQ cA n f)) (hk : k < n) (hn : n < 2 ^ 31) (hf : f k = some v) (hp : P v) : lR h cA a (nI k) P := ⟨w, n, f, v, ha, vin hk hn, by rw [nI_clamp (Nat.lt_trans hk hn)]; exact hf, hp⟩
theorem i_lQ {h : HW} {cA : ClassId} {a n k : Nat} {w : Bool} {f : Nat → Option Nat} {P : Option Nat → Prop} (ha : h a = some (w, eQ cA n f)) (hk : k < n) (hn : n < 2 ^ 31) (hp : P (f k)) : lQ h cA a (nI k) P := ⟨w, n, f, ha, vin hk hn, fun x hx => by rw [hx, nI_clamp (Nat.lt_trans hk hn)]; exact hp⟩
theorem i_stI {h : HW} {cA : ClassId} {a n k : Nat} {f : Nat → Int32} {x : Int32} {P : HW → Prop} (ha : h a = some (true, eI cA n f)) (hk : k < n) (hn : n < 2 ^ 31) (hp : P (hup h a (eI cA n (upd f k x)))) : stI h cA a (nI k) x P := ⟨n, f, ha, vin hk hn, by rw [nI_clamp (Nat.lt_trans hk hn)]; exact hp⟩
theorem i_stZ {h : HW} {cA : ClassId} {a n k : Nat} {f : Nat → Int32} {x : Int32} {P : HW → Prop} (ha : h a = some (true, eI cA n f)) (hk : k < n) (hn : n < 2 ^ 31) (hx : x = 0 ∨ x = 1) (hp : P (hup h a (eI cA n (upd f k x)))) : stZ h cA a (nI k) x P := ⟨n, f, ha, vin hk hn, hx, by rw [nI_clamp (Nat.lt_trans hk hn)]; exact hp⟩
theorem i_stL {h : HW} {cA : ClassId} {a n k : Nat} {f : Nat → Int64} {x : Int64} {P : HW → Prop} (ha : h a = some (true, eL cA n f)) (hk : k < n) (hn : n < 2 ^ 31) (hp : P (hup h a (eL cA n (vp_updL f k x)))) : stL h cA a (nI k) x P := ⟨n, f, ha, vin hk hn, by rw [nI_clamp (Nat.lt_trans hk hn)]; exact hp⟩
theorem i_stA {h : HW} {c0 cA : ClassId} {a n k v : Nat} {f : Nat → Option Nat} {w : Bool} {x : vp_A} {P : HW → Prop} (ha : h a = some (true, eQ cA n f)) (hk : k < n) (hn : n < 2 ^ 31) (hv : h v = some (w, .inl (c0, x))) (hp : P (hup h a (eQ cA n (va_up f k (some v))))) : stA h c0 cA a (nI k) v P := ⟨n, f, w, x, ha, vin hk hn, hv, by rw [nI_clamp (Nat.lt_trans hk hn)]; exact hp⟩
theorem nI_n0 {n : Nat} (h : n < 2 ^ 31) : ¬ nI n < 0 := nI_pos h
theorem i_nwI {h : HW} {cA : ClassId} {n mc ms : Nat} {P : Nat → HW → Nat → Nat → Prop} (hn : n ≤ 65536) (hc : 1 ≤ mc) (hs : n ≤ ms) (hp : ∀ q, h q = none → P q (hup h q (eI cA n (fun _ => 0))) (mc - 1) (ms - n)) : nwI h cA (nI n) mc ms P := by
  have e : (nI n).toNatClampNeg = n := nI_clamp (by omega)
  exact ⟨nI_n0 (by omega), by rw [e]; exact hn, mc - 1, ms - n, by omega, by rw [e]; omega, by rw [e]; exact hp⟩
theorem i_nwL {h : HW} {cA : ClassId} {n mc ms : Nat} {P : Nat → HW → Nat → Nat → Prop} (hn : n ≤ 65536) (hc : 1 ≤ mc) (hs : n ≤ ms) (hp : ∀ q, h q = none → P q (hup h q (eL cA n (fun _ => 0))) (mc - 1) (ms - n)) : nwL h cA (nI n) mc ms P := by
  have e : (nI n).toNatClampNeg = n := nI_clamp (by omega)
  exact ⟨nI_n0 (by omega), by rw [e]; exact hn, mc - 1, ms - n, by omega, by rw [e]; omega, by rw [e]; exact hp⟩
theorem br_le {a b : Nat} {P Q : Prop} (ha : a < 2 ^ 31) (hb : b < 2 ^ 31) (h1 : a ≤ b → P) (h2 : b < a → Q) : (nI a ≤ nI b → P) ∧ (¬ nI a ≤ nI b → Q) := ⟨fun h => h1 ((nI_leI ha hb).mp h), fun h => h2 (Nat.not_le.mp fun q => h ((nI_leI ha hb).mpr q))⟩
theorem br_lt {a b : Nat} {P Q : Prop} (ha : a < 2 ^ 31) (hb : b < 2 ^ 31) (h1 : a < b → P) (h2 : b ≤ a → Q) : (nI a < nI b → P) ∧ (¬ nI a < nI b → Q) := ⟨fun h => h1 ((nI_ltI ha hb).mp h), fun h => h2 (Nat.not_lt.mp fun q => h ((nI_ltI ha hb).mpr q))⟩
theorem br_eq {a b : Nat} {P Q : Prop} (ha : a < 2 ^ 31) (hb : b < 2 ^ 31) (h1 : a = b → P) (h2 : ¬ a = b → Q) : (nI a = nI b → P) ∧ (¬ nI a = nI b → Q) := ⟨fun h => h1 ((nI_eq ha hb).mp h), fun h => h2 fun q => h ((nI_eq ha hb).mpr q)⟩
/-- an extension: what was there is there unchanged -/
def Ext (h h' : HW) : Prop := ∀ b, ¬ h b = none → h' b = h b
theorem Ext.rf {h : HW} : Ext h h := fun _ _ => rfl
theorem Ext.at {h h' : HW} (e : Ext h h') {b : Nat} {z : Bool × va_E} (hb : h b = some z) : h' b = some z := (e b (by rw [hb]; simp)).trans hb
theorem Ext.tr {h h1 h2 : HW} (e : Ext h h1) (e1 : Ext h1 h2) : Ext h h2 := fun b hb => by
  have q := e b hb
  exact (e1 b (by rw [q]; exact hb)).trans q
theorem Ext.none {h h' : HW} (e : Ext h h') {b : Nat} (hb : h' b = Option.none) : h b = Option.none := Classical.byContradiction fun q => q ((e b q).symm.trans hb)
theorem Ext.new {h : HW} {q : Nat} {e : va_E} (hq : h q = Option.none) : Ext h (hup h q e) := fun b hb => hup_n (fun z => hb (by rw [z]; exact hq))
theorem Ext.upN {h h1 : HW} {q : Nat} {e : va_E} (x : Ext h h1) (hq : h q = Option.none) : Ext h (hup h1 q e) := fun b hb => (hup_n (fun z => hb (by rw [z]; exact hq))).trans (x b hb)
/-- the addresses that may be written to all lie in the map -/
def OwnOK (h : HW) (Own : Nat → Prop) : Prop := ∀ b, Own b → ¬ h b = none
theorem OwnOK.ext {h h' : HW} {Own : Nat → Prop} (o : OwnOK h Own) (e : Ext h h') : OwnOK h' Own := fun b hb => by rw [e b (o b hb)]; exact o b hb
theorem OwnOK.new {h : HW} {Own : Nat → Prop} (o : OwnOK h Own) {q : Nat} (hq : h q = none) : ¬ Own q := fun z => o q z hq
def rowE (c : Nat → ClassId) (l : List Nat) (f : Nat → Int32) : va_E := eI (c 0) l.length f
def RowF (l : List Nat) (f : Nat → Int32) : Prop := ∀ i, i < l.length → f i = nI (l.getD i 0)
/-- a row of numbers that is never written to -/
def RowAt (c : Nat → ClassId) (h : HW) (Own : Nat → Prop) (a : Nat) (l : List Nat) : Prop := (∃ w f, h a = some (w, eI (c 0) l.length f) ∧ RowF l f) ∧ ¬ Own a
/-- a new row, that still may be -/
def RowW (c : Nat → ClassId) (h : HW) (a : Nat) (l : List Nat) : Prop := ∃ f, h a = some (true, eI (c 0) l.length f) ∧ RowF l f
theorem RowAt.ext {c : Nat → ClassId} {h h' : HW} {Own : Nat → Prop} {a : Nat} {l : List Nat} (r : RowAt c h Own a l) (e : Ext h h') : RowAt c h' Own a l := by
  obtain ⟨⟨w, f, h1, h2⟩, h3⟩ := r
  exact ⟨⟨w, f, e.at h1, h2⟩, h3⟩
theorem RowW.at {c : Nat → ClassId} {h : HW} {Own : Nat → Prop} {a : Nat} {l : List Nat} (r : RowW c h a l) (n : ¬ Own a) : RowAt c h Own a l := by
  obtain ⟨f, h1, h2⟩ := r
  exact ⟨⟨true, f, h1, h2⟩, n⟩
theorem r_len {c : Nat → ClassId} {h : HW} {Own : Nat → Prop} {a : Nat} {l : List Nat} {P : Int32 → Prop} (r : RowAt c h Own a l) (hp : P (nI l.length)) : lenA h (c 0) a P := by
  obtain ⟨⟨w, f, h1, h2⟩, h3⟩ := r
  exact i_len h1 hp
theorem r_lI {c : Nat → ClassId} {h : HW} {Own : Nat → Prop} {a : Nat} {l : List Nat} {k : Nat} {P : Int32 → Prop} (r : RowAt c h Own a l) (hk : k < l.length) (hl : l.length ≤ 60000) (hp : P (nI (l.getD k 0))) : lI h (c 0) a (nI k) P := by
  obtain ⟨⟨w, f, h1, h2⟩, h3⟩ := r
  exact i_lI h1 hk (by omega) (by rw [h2 k hk]; exact hp)
theorem s_with {c : Nat → ClassId} {K : (Nat → Nat) × (Nat → Nat)} {h : HW} {Own : Nat → Prop} {a v mc ms : Nat} {l : List Nat} {post : Option Nat → HW → Prop} (r : RowAt c h Own a l) (hl : l.length < 60000) (hc : 1 ≤ mc) (hs : l.length + 1 ≤ ms)
    (hp : ∀ (q : Nat) (h' : HW), Ext h h' → h q = none → RowW c h' q (l ++ [v]) → post (some q) h') : w_L_with c K h a (nI v) mc ms post := by
  have r0 := r
  obtain ⟨⟨w, f, h1, h2⟩, h3⟩ := r
  unfold w_L_with
  refine r_len r0 ?_
  intro x3 e3
  rw [nI_1] at e3
  subst e3
  refine i_nwI (by omega) hc hs fun q hq => ?_
  refine cpL4 (fun k (h9 : HW) (_ _ : Nat) (v3 : Int32) => Ext h h9 ∧ (∃ g, h9 q = some (true, eI (c 0) (l.length + 1) g) ∧ ∀ i, i < k → g i = nI (l.getD i 0)) ∧ v3 = nI k) l.length ?_ ?_ 0 (Nat.zero_le _) _ _ _ _ ⟨Ext.new hq, ⟨_, hup_s, fun i hi => absurd hi (Nat.not_lt_zero _)⟩, rfl⟩
  · rintro rec h9 m9 s9 v3 ⟨e9, ⟨g, hg, hgv⟩, rfl⟩
    unfold w_L_with_B9
    refine i_len (e9.at h1) ⟨fun _ => ?_, fun hn => absurd ((nI_leI (by show l.length < _; omega) (by omega)).mpr (Nat.le_refl _)) hn⟩
    refine i_len (e9.at h1) ?_
    refine i_stI hg (by show l.length < _; omega) (by omega) ?_
    refine hp q _ (e9.upN hq) hq ⟨_, by rw [hup_s, List.length_append]; rfl, fun i hi => ?_⟩
    rw [List.length_append] at hi
    have hi : i < l.length + 1 := hi
    show (if i = l.length then nI v else g i) = _
    by_cases hil : i = l.length
    · rw [if_pos hil, hil, List.getD_eq_getElem?_getD, List.getElem?_append_right (Nat.le_refl _)]
      simp
    · rw [if_neg hil, hgv i (by omega), List.getD_eq_getElem?_getD, List.getD_eq_getElem?_getD, List.getElem?_append_left (by omega)]
  · rintro rec k h9 m9 s9 v3 hk ⟨e9, ⟨g, hg, hgv⟩, rfl⟩ hrec
    unfold w_L_with_B9
    refine i_len (e9.at h1) ⟨fun hn => absurd ((nI_leI (by show l.length < _; omega) (by omega)).mp hn) (by omega), fun _ => ?_⟩
    refine i_lI (e9.at h1) hk (by omega) ?_
    refine i_stI hg (by omega) (by omega) ?_
    intro x21 e21
    rw [nI_1] at e21
    subst e21
    refine hrec _ _ _ _ ⟨e9.upN hq, ⟨_, hup_s, fun i hi => ?_⟩, rfl⟩
    show (if i = k then f k else g i) = _
    by_cases hik : i = k
    · rw [if_pos hik, hik, h2 k hk]
    · rw [if_neg hik, hgv i (by omega)]
theorem getD_mem {l : List Nat} {k : Nat} (hk : k < l.length) : l.getD k 0 ∈ l := by
  rw [List.getD_eq_getElem?_getD, List.getElem?_eq_getElem hk]
  exact List.getElem_mem hk
theorem take_succ_getD {l : List Nat} {k : Nat} (hk : k < l.length) : l.take (k + 1) = l.take k ++ [l.getD k 0] := by
  rw [List.getD_eq_getElem?_getD, List.getElem?_eq_getElem hk, List.take_succ_eq_append_getElem hk]
  rfl
/-- the row without a number -/
theorem s_without {c : Nat → ClassId} {K : (Nat → Nat) × (Nat → Nat)} {h : HW} {Own : Nat → Prop} {a v mc ms : Nat} {l : List Nat} {post : Option Nat → HW → Prop} (r : RowAt c h Own a l) (hO : OwnOK h Own) (hl : l.length ≤ 56) (hx : ∀ x ∈ l, x < 100) (hv : v < 100) (hc : 1 + l.length ≤ mc) (hs : l.length * 60 ≤ ms)
    (hp : ∀ (q : Nat) (h' : HW), Ext h h' → h q = none → RowW c h' q (l.filter (fun x => decide (¬ x = v))) → post (some q) h') : w_L_without c K h a (nI v) mc ms post := by
  unfold w_L_without
  refine i_nwI (n := 0) (by omega) (by omega) (Nat.zero_le _) fun q hq => ?_
  have r1 := r.ext (Ext.new (e := eI (c 0) 0 (fun _ => 0)) hq)
  refine r_len r1 ?_
  refine cpL5 (fun k (h9 : HW) (m9 s9 : Nat) (v2 : Nat) (v5 : Int32) => Ext h h9 ∧ h v2 = none ∧ RowW c h9 v2 ((l.take k).filter (fun x => decide (¬ x = v))) ∧ l.length - k ≤ m9 ∧ (l.length - k) * 60 ≤ s9 ∧ v5 = nI k) l.length ?_ ?_ 0 (Nat.zero_le _) _ _ _ _ _ ⟨Ext.new hq, hq, ⟨_, hup_s, fun i hi => absurd hi (Nat.not_lt_zero _)⟩, by omega, by omega, rfl⟩
  · rintro rec h9 m9 s9 v2 v5 ⟨e9, hv2, hw, hm, hs9, rfl⟩
    unfold w_L_without_B13
    refine br_le (by omega) (by omega) (fun _ => ?_) (fun hn => by omega)
    rw [List.take_length] at hw
    exact hp _ _ e9 hv2 hw
  · rintro rec k h9 m9 s9 v2 v5 hk ⟨e9, hv2, hw, hm, hs9, rfl⟩ hrec
    unfold w_L_without_B13
    refine br_le (by omega) (by omega) (fun hn => by omega) (fun _ => ?_)
    refine r_lI (r.ext e9) hk (by omega) ?_
    have hxk : l.getD k 0 < 100 := hx _ (getD_mem hk)
    refine br_eq (by omega) (by omega) (fun he => ?_) (fun he => ?_)
    · unfold w_L_without_J39
      intro x39 e39
      rw [nI_1] at e39
      refine hrec _ _ _ _ _ ⟨e9, hv2, ?_, by omega, Nat.le_trans (Nat.mul_le_mul_right _ (by omega)) hs9, e39⟩
      rw [take_succ_getD hk, List.filter_append, he]
      simp
      simpa using hw
    · have hlen : ((l.take k).filter (fun x => decide (¬ x = v))).length ≤ 55 := Nat.le_trans (List.length_filter_le _ _) (by rw [List.length_take]; omega)
      refine ⟨1, 60, m9 - 1, s9 - 60, by omega, by omega, ?_⟩
      refine s_with (Own := fun b => Own b) (hw.at (fun z => hO _ z hv2)) (by omega) (Nat.le_refl _) (by omega) fun q2 h2 e2 hq2 hr2 => ?_
      refine ⟨q2, rfl, ?_⟩
      unfold w_L_without_J39
      intro x39 e39
      rw [nI_1] at e39
      refine hrec _ _ _ _ _ ⟨e9.tr e2, e9.none hq2, ?_, by omega, by omega, e39⟩
      rw [take_succ_getD hk, List.filter_append]
      have : List.filter (fun x => decide (¬ x = v)) [l.getD k 0] = [l.getD k 0] := by rw [List.filter_cons_of_pos (by exact decide_eq_true he)]; rfl
      rw [this]
      exact hr2
theorem s_has {c : Nat → ClassId} {K : (Nat → Nat) × (Nat → Nat)} {h : HW} {Own : Nat → Prop} {a v : Nat} {l : List Nat} {post : Int32 → HW → Prop} (r : RowAt c h Own a l) (hl : l.length ≤ 60000) (hx : ∀ x ∈ l, x < 2 ^ 31) (hv : v < 2 ^ 31) (hp : post (if v ∈ l then 1 else 0) h) : w_L_has c K h a (nI v) post := by
  unfold w_L_has
  refine r_len r ?_
  refine cpL2 (fun k (v2 v5 : Int32) => v2 = (if v ∈ l.take k then 1 else 0) ∧ v5 = nI k) l.length ?_ ?_ 0 (Nat.zero_le _) _ _ ⟨by simp, rfl⟩
  · rintro rec v2 v5 ⟨e2, rfl⟩
    unfold w_L_has_B11
    refine br_le (by omega) (by omega) (fun _ => ?_) (fun hn => by omega)
    rw [List.take_length] at e2
    subst e2
    exact ⟨by split <;> simp, hp⟩
  · rintro rec k v2 v5 hk ⟨e2, rfl⟩ hrec
    unfold w_L_has_B11
    refine br_le (by omega) (by omega) (fun hn => by omega) (fun _ => ?_)
    refine r_lI r hk hl ?_
    have hm : v ∈ l.take (k + 1) ↔ (v ∈ l.take k ∨ v = l.getD k 0) := by rw [take_succ_getD hk, List.mem_append, List.mem_singleton]
    refine br_eq (hx _ (getD_mem hk)) hv (fun he => ?_) (fun he => ?_)
    · unfold w_L_has_J36
      intro x36 e36 x38 e38
      rw [nI_1] at e38
      refine hrec _ _ ⟨?_, e38⟩
      rw [e36, e2, if_pos (hm.mpr (Or.inr he.symm))]
      split <;> rfl
    · unfold w_L_has_J36
      intro x36 e36 x38 e38
      rw [nI_1] at e38
      refine hrec _ _ ⟨?_, e38⟩
      rw [e36, e2]
      by_cases hq : v ∈ l.take k
      · rw [if_pos hq, if_pos (hm.mpr (Or.inl hq))]; rfl
      · rw [if_neg hq, if_neg (fun z => (hm.mp z).elim hq (fun z => he z.symm))]; rfl
def pipL (l : List Nat) : Nat := (l.map (fun x => x / 10 + x % 10)).sum
theorem pipL_take {l : List Nat} {k : Nat} (hk : k < l.length) : pipL (l.take (k + 1)) = pipL (l.take k) + (l.getD k 0 / 10 + l.getD k 0 % 10) := by
  rw [take_succ_getD hk]
  unfold pipL
  rw [List.map_append, List.sum_append]
  simp
theorem s_pips {c : Nat → ClassId} {K : (Nat → Nat) × (Nat → Nat)} {h : HW} {Own : Nat → Prop} {a : Nat} {l : List Nat} {post : Int32 → HW → Prop} (r : RowAt c h Own a l) (hl : l.length ≤ 60000) (hx : ∀ x ∈ l, x < 2 ^ 31) (hp : post (nI (pipL l)) h) : w_L_pips c K h a post := by
  unfold w_L_pips
  refine r_len r ?_
  refine cpL2 (fun k (v2 v5 : Int32) => v2 = nI (pipL (l.take k)) ∧ v5 = nI k) l.length ?_ ?_ 0 (Nat.zero_le _) _ _ ⟨by simp [pipL]; rfl, rfl⟩
  · rintro rec v2 v5 ⟨e2, rfl⟩
    unfold w_L_pips_B10
    refine br_le (by omega) (by omega) (fun _ => ?_) (fun hn => by omega)
    rw [List.take_length] at e2
    subst e2
    exact hp
  · rintro rec k v2 v5 hk ⟨e2, rfl⟩ hrec
    unfold w_L_pips_B10
    refine br_le (by omega) (by omega) (fun hn => by omega) (fun _ => ?_)
    refine r_lI r hk hl ?_
    have hxk := hx _ (getD_mem hk)
    intro x27 e27 x32 e32 x33 e33 x34 e34 x36 e36
    refine hrec _ _ ⟨?_, by rw [e36, nI_1]⟩
    rw [e34, e33, e32, e27, e2, pipL_take hk]
    rw [show (10 : Int32) = nI 10 from rfl, nI_div hxk (by omega), nI_mul, nI_dm hxk (by omega), nI_add, nI_add]
