/-! values of nodes, the rank of a play, the best play -/
def cl6 (v : Int64) : Int64 := if (if v < 1000000 then v else 1000000) < (-1000000) then (-1000000) else (if v < 1000000 then v else 1000000)
def nvOp (k : Nat) (a b : Int64) : Int64 := if k = 2 then a + b else if k = 3 then a - b else if k = 4 then a * b else if b = 0 then 0 else a / b
def lval (q : Nat × Nat) (v : Nat → Int64) : Int64 := if q.1 = 0 then (nI q.2).toInt64 else v q.2
def nval : (d : Nat) → NT d → (Nat → Int64) → Int64
  | 0, q, v => lval q v
  | d + 1, nd, v => if nd.1.1 < 2 then lval nd.1 v else cl6 (nvOp nd.1.1 (nval d nd.2.1 v) (nval d nd.2.2 v))
theorem leaf_val {h : HW} {Own : Nat → Prop} {a : Nat} {q : Nat × Nat} (r : LeafAt h Own a q) {v v' : Nat → Int64} (e : ∀ k, k < 5 → v k = v' k) : lval q v = lval q v' := by
  obtain ⟨-, -, h3⟩ := r
  unfold lval
  rcases h3 with ⟨h3, h4⟩ | ⟨h3, h4⟩
  · rw [if_pos h3, if_pos h3]
  · rw [if_neg (by omega), if_neg (by omega), e _ (by omega)]
theorem nval_congr {h : HW} {Own : Nat → Prop} {v v' : Nat → Int64} (e : ∀ k, k < 5 → v k = v' k) : ∀ (d a : Nat) (nd : NT d), NodeAt h Own d a nd → nval d nd v = nval d nd v'
  | 0, a, nd, r => leaf_val r e
  | d + 1, a, nd, r => by
    rcases r with r | ⟨r1, r2, r3, w, l, r, r4, r5, r6⟩
    · have h1 : nd.1.1 < 2 := by obtain ⟨-, -, h3⟩ := r; omega
      show (if nd.1.1 < 2 then lval nd.1 v else _) = (if nd.1.1 < 2 then lval nd.1 v' else _)
      rw [if_pos h1, if_pos h1, leaf_val r e]
    · show (if nd.1.1 < 2 then _ else cl6 (nvOp nd.1.1 (nval d nd.2.1 v) (nval d nd.2.2 v))) = (if nd.1.1 < 2 then _ else cl6 (nvOp nd.1.1 (nval d nd.2.1 v') (nval d nd.2.2 v')))
      rw [if_neg (by omega), if_neg (by omega), nval_congr e d l _ r5, nval_congr e d r _ r6]
section NV
variable {c : Nat → ClassId} {K : (Nat → Nat) × (Nat → Nat)} {h : HW} {Own : Nat → Prop}
theorem s_leaf {wr : HW → Nat → Nat → (Int64 → HW → Prop) → Prop} {a va : Nat} {q : Nat × Nat} {w : Bool} {fv : Nat → Int64} {post : Int64 → HW → Prop} (r : LeafAt h Own a q) (hv : h va = some (w, eL (c 1) 5 fv)) (hp : post (lval q fv) h) : w_X8_value_F c K wr h a va post := by
  obtain ⟨⟨w1, ql, qr, h1⟩, h2, h3⟩ := r
  have hq : q.1 < 2 := by omega
  unfold w_X8_value_F
  refine ⟨w1, _, nI q.1, h1, rfl, ?_⟩
  refine br_le (a := 2) (by omega) (by omega) (fun z => by omega) (fun _ => ?_)
  refine ⟨w1, _, nI q.1, h1, rfl, ?_⟩
  refine br_eq0 (by omega) (fun h0 => ?_) (fun h0 => ?_)
  · refine ⟨w1, _, nI q.2, h1, rfl, ?_⟩
    intro x19 e19
    rw [lval, if_pos h0] at hp
    rw [e19]
    exact hp
  · refine ⟨w1, _, nI q.2, h1, rfl, ?_⟩
    rw [lval, if_neg h0] at hp
    exact i_lL hv (by omega) (by omega) hp
theorem s_value {va : Nat} {w : Bool} {fv : Nat → Int64} (hv : h va = some (w, eL (c 1) 5 fv)) : ∀ (d f a : Nat) (nd : NT d) (post : Int64 → HW → Prop), NodeAt h Own d a nd → d < f → post (nval d nd fv) h → w_X8_value c K f h a va post := by
  intro d
  induction d with
  | zero =>
    intro f a nd post r hf hp
    obtain ⟨f, rfl⟩ : ∃ g, f = g + 1 := ⟨f - 1, by omega⟩
    show w_X8_value_F c K (w_X8_value c K f) h a va post
    exact s_leaf (q := nd) r hv hp
  | succ d ih =>
    intro f a nd post r hf hp
    obtain ⟨f, rfl⟩ : ∃ g, f = g + 1 := ⟨f - 1, by omega⟩
    show w_X8_value_F c K (w_X8_value c K f) h a va post
    have hp : post (if nd.1.1 < 2 then lval nd.1 fv else cl6 (nvOp nd.1.1 (nval d nd.2.1 fv) (nval d nd.2.2 fv))) h := hp
    rcases r with r | ⟨r1, r2, r3, w1, l, r, r4, r5, r6⟩
    · have h1 : nd.1.1 < 2 := by obtain ⟨-, -, h3⟩ := r; omega
      rw [if_pos h1] at hp
      exact s_leaf r hv hp
    · rw [if_neg (by omega)] at hp
      generalize nd.1.1 = k at r1 r2 r4 hp
      have hl : ∃ w fs, h l = some (w, .inr (8, fs)) := by
        cases d with
        | zero => obtain ⟨⟨w, ql, qr, z⟩, -⟩ := r5; exact ⟨_, _, z⟩
        | succ d =>
          rcases r5 with ⟨⟨w, ql, qr, z⟩, -⟩ | ⟨-, -, -, w, l2, r2, z, -⟩
          · exact ⟨_, _, z⟩
          · exact ⟨_, _, z⟩
      have hr : ∃ w fs, h r = some (w, .inr (8, fs)) := by
        cases d with
        | zero => obtain ⟨⟨w, ql, qr, z⟩, -⟩ := r6; exact ⟨_, _, z⟩
        | succ d =>
          rcases r6 with ⟨⟨w, ql, qr, z⟩, -⟩ | ⟨-, -, -, w, l2, r2, z, -⟩
          · exact ⟨_, _, z⟩
          · exact ⟨_, _, z⟩
      unfold w_X8_value_F
      refine ⟨w1, _, nI k, r4, rfl, ?_⟩
      refine br_le (a := 2) (by omega) (by omega) (fun _ => ?_) (fun z => by omega)
      refine ⟨w1, _, l, r4, rfl, hl, ih f l _ _ r5 (by omega) ?_⟩
      refine ⟨w1, _, r, r4, rfl, hr, ih f r _ _ r6 (by omega) ?_⟩
      generalize nval d nd.2.1 fv = x at hp ⊢
      generalize nval d nd.2.2 fv = y at hp ⊢
      have hJ : ∀ z, z = nvOp k x y → w_X8_value_J109 c K post h z := by
        intro z ez
        unfold w_X8_value_J109
        intro x119 e119 x122 e122
        rw [e122, e119, ez]
        exact hp
      refine ⟨w1, _, nI k, r4, rfl, ?_⟩
      refine br_eq (b := 2) (by omega) (by omega) (fun z => ?_) (fun z => ?_)
      · intro x60 e60
        exact hJ _ (by rw [nvOp, if_pos z]; exact e60)
      · refine ⟨w1, _, nI k, r4, rfl, ?_⟩
        refine br_eq (b := 3) (by omega) (by omega) (fun z3 => ?_) (fun z3 => ?_)
        · intro x75 e75
          exact hJ _ (by rw [nvOp, if_neg z, if_pos z3]; exact e75)
        · refine ⟨w1, _, nI k, r4, rfl, ?_⟩
          refine br_eq (b := 4) (by omega) (by omega) (fun z4 => ?_) (fun z4 => ?_)
          · intro x90 e90
            exact hJ _ (by rw [nvOp, if_neg z, if_neg z3, if_pos z4]; exact e90)
          · intro x97 e97
            rw [e97]
            refine ⟨fun h0 => ?_, fun h0 => ?_⟩
            · exact hJ _ (by rw [nvOp, if_neg z, if_neg z3, if_neg z4, if_pos ((lg_cmp_eq _ _).mp h0)])
            · have hy : ¬ y = 0 := fun q => h0 ((lg_cmp_eq _ _).mpr q)
              refine ⟨hy, fun x108 e108 => ?_⟩
              exact hJ _ (by rw [nvOp, if_neg z, if_neg z3, if_neg z4, if_neg hy]; exact e108)
end NV
def b64 (p : Prop) [Decidable p] : Int64 := if p then 1 else 0
def rvar (T : TT) (np tn x t : Nat) : Nat → Int64 := fun k => if k = 0 then (nI (x / 10 + x % 10)).toInt64 else if k = 1 then b64 (x % 11 = 0) else if k = 2 then b64 (t = tn) else if k = 3 then b64 (t = np) else (nI (hnd T tn).length - 1).toInt64
def rankT (T : TT) (np tn x t : Nat) : Int32 := match tM T with
  | none => nI (x / 10 + x % 10)
  | some m => (nval m.1 m.2 (rvar T np tn x t)).toInt32
theorem TFr.e {h h' : HW} {A : Nat → Nat} {Own : Nat → Prop} (f : TFr h h' A) (o : ∀ i, i < 6 → Own (A i)) : ∀ b, ¬ h b = none → ¬ Own b → h' b = h b ∧ ¬ Own b := fun b hb hn => ⟨f b hb (fun i hi z => hn (z ▸ o i hi)), hn⟩
section RK
variable {c : Nat → ClassId} {K : (Nat → Nat) × (Nat → Nat)} {h : HW} {Own : Nat → Prop} {A : Nat → Nat} {T : TT} {fv : Nat → Int64} {mx np hs hb tn pa : Nat}
theorem s_rank {x k : Nat} {post : Int32 → HW → Prop} (t : TabV c h Own A T fv) (w : TW T mx np hs hb tn pa) (hx : x < 100) (hk : k ≤ np) (hp : ∀ (h' : HW) (fv' : Nat → Int64), TabV c h' Own A T fv' → TFr h h' A → HDom h h' → post (rankT T np tn x k) h') : w_X10_rank c K h (A 0) (nI x) (nI k) post := by
  have hnp := w.np
  have htn := w.tn
  have hH := w.H tn
  unfold w_X10_rank
  intro x3 e3 x7 e7 x8 e8
  rw [show (10 : Int32) = nI 10 from rfl, nI_div (by omega) (by omega)] at e3
  rw [show (10 : Int32) = nI 10 from rfl, nI_div (by omega) (by omega), nI_mul, nI_dm (by omega) (by omega)] at e7
  rw [e3, e7, nI_add] at e8
  subst e8
  refine t_g16 t ?_
  intro x16 e16
  refine t_stV (k := 0) t (by omega) fun h1 t1 f1 d1 => ?_
  refine t_g16 t1 ?_
  intro x26 e26
  rw [show (11 : Int32) = nI 11 from rfl, nI_div (by omega) (by omega), nI_mul, nI_dm (by omega) (by omega)] at e26
  subst e26
  have hJ35 : ∀ v : Int64, v = b64 (x % 11 = 0) → w_X10_rank_J35 c K (A 0) (nI k) post (nI (x / 10 + x % 10)) h1 v (1 : Int32) (A 5) := by
    intro v ev
    unfold w_X10_rank_J35
    refine t_stV (k := 1) t1 (by omega) fun h2 t2 f2 d2 => ?_
    refine t_g16 t2 ?_
    refine t_gI t2 (by omega) ?_
    rw [htn.1]
    have hJ54 : ∀ v2 : Int64, v2 = b64 (k = tn) → w_X10_rank_J54 c K (A 0) (nI k) post (nI (x / 10 + x % 10)) h2 v2 (2 : Int32) (A 5) := by
      intro v2 ev2
      unfold w_X10_rank_J54
      refine t_stV (k := 2) t2 (by omega) fun h3 t3 f3 d3 => ?_
      refine t_g16 t3 ?_
      refine t_g10 t3 ?_
      refine t_lenH t3 ?_
      rw [hnp.1]
      have hJ74 : ∀ v3 : Int64, v3 = b64 (k = np) → w_X10_rank_J74 c K (A 0) post (nI (x / 10 + x % 10)) h3 v3 (3 : Int32) (A 5) := by
        intro v3 ev3
        unfold w_X10_rank_J74
        refine t_stV (k := 3) t3 (by omega) fun h4 t4 f4 d4 => ?_
        refine t_g16 t4 ?_
        refine t_g10 t4 ?_
        refine t_gI t4 (by omega) ?_
        rw [htn.1]
        refine t_lRH t4 (by omega) fun r hr => ?_
        refine r_len hr ?_
        intro x91 e91 x92 e92
        refine t_stV (k := 4) t4 (by omega) fun h5 t5 f5 d5 => ?_
        have F := (((f1.tr f2).tr f3).tr f4).tr f5
        have D := (((d1.tr d2).tr d3).tr d4).tr d5
        have P := hp _ _ t5 F D
        refine t_g15 t5 fun tm htm => ?_
        refine ⟨fun hz => ?_, fun b hz => ?_⟩
        · rcases htm with ⟨-, q⟩ | ⟨a, m, q, -⟩
          · rw [rankT, q] at P
            exact P
          · rw [hz] at q; cases q
        · rcases htm with ⟨q, -⟩ | ⟨a, m, q, q2, q3, q4⟩
          · rw [hz] at q; cases q
          · rw [rankT, q2] at P
            refine t_g15 t5 fun tm2 htm2 => ?_
            rcases htm2 with ⟨-, z⟩ | ⟨a2, m2, z, z2, z3, z4⟩
            · rw [q2] at z; cases z
            · have hmm : m2 = m := by rw [q2] at z2; exact (Option.some.inj z2).symm
              subst hmm
              refine t_g16 t5 ⟨a2, z, ?_, ?_⟩
              · cases hm : m2 with
                | mk d nd =>
                  rw [hm] at z4
                  cases d with
                  | zero => obtain ⟨⟨w, ql, qr, y⟩, -⟩ := z4; exact ⟨_, _, y⟩
                  | succ d =>
                    rcases z4 with ⟨⟨w, ql, qr, y⟩, -⟩ | ⟨-, -, -, w, l2, r2, y, -⟩
                    · exact ⟨_, _, y⟩
                    · exact ⟨_, _, y⟩
              · refine s_value t5.2.2.2.2.2.1 m2.1 3 a2 m2.2 _ z4 (by omega) ?_
                intro x116 e116
                rw [e116]
                rw [nval_congr (v' := rvar T np tn x k) (fun j hj => ?_) m2.1 a2 m2.2 z4]
                · exact P
                · rcases (show j = 0 ∨ j = 1 ∨ j = 2 ∨ j = 3 ∨ j = 4 by omega) with rfl | rfl | rfl | rfl | rfl
                  · exact e16
                  · exact ev
                  · exact ev2
                  · exact ev3
                  · exact e92.trans (by rw [e91]; rfl)
      refine br_eq (by omega) (by omega) (fun z => hJ74 _ (if_pos z).symm) (fun z => hJ74 _ (if_neg z).symm)
    refine br_eq (by omega) (by omega) (fun z => hJ54 _ (if_pos z).symm) (fun z => hJ54 _ (if_neg z).symm)
  refine br_eq0 (by omega) (fun z => hJ35 _ (if_pos z).symm) (fun z => hJ35 _ (if_neg z).symm)
def encO (o : Option Nat) : Int32 := match o with
  | none => -1
  | some v => nI v
def bsT (T : TT) (np hb tn : Nat) (b : Option Nat) (x t : Nat) : Option Nat :=
  if whyT T hb tn x t = 0 then (match b with
    | none => some (10 * x + t)
    | some v => if 0 < rankT T np tn x t - rankT T np tn (v / 10) (v % 10) ∨ (rankT T np tn x t - rankT T np tn (v / 10) (v % 10) = 0 ∧ 10 * x + t < v) then some (10 * x + t) else b) else b
def brT (T : TT) (np hb tn : Nat) (b : Option Nat) (x k : Nat) : Option Nat := (List.range k).foldl (fun b t => bsT T np hb tn b x t) b
def blT (T : TT) (np hb tn : Nat) (b : Option Nat) (l : List Nat) : Option Nat := l.foldl (fun b x => brT T np hb tn b x (np + 1)) b
abbrev bestT (T : TT) (np hb tn : Nat) : Option Nat := blT T np hb tn none (hnd T tn)
def bOK (np : Nat) (b : Option Nat) : Prop := ∀ v, b = some v → v / 10 < 100 ∧ v % 10 ≤ np
theorem bsT_no {b : Option Nat} {x t : Nat} (h : ¬ whyT T hb tn x t = 0) : bsT T np hb tn b x t = b := by
  unfold bsT
  rw [if_neg h]
theorem bsT_none {x t : Nat} (h : whyT T hb tn x t = 0) : bsT T np hb tn none x t = some (10 * x + t) := by
  unfold bsT
  rw [if_pos h]
theorem bsT_yes {v x t : Nat} (h : whyT T hb tn x t = 0) (q : 0 < rankT T np tn x t - rankT T np tn (v / 10) (v % 10) ∨ (rankT T np tn x t - rankT T np tn (v / 10) (v % 10) = 0 ∧ 10 * x + t < v)) : bsT T np hb tn (some v) x t = some (10 * x + t) := by
  unfold bsT
  rw [if_pos h]
  exact if_pos q
theorem bsT_not {v x t : Nat} (h : whyT T hb tn x t = 0) (q : ¬ (0 < rankT T np tn x t - rankT T np tn (v / 10) (v % 10) ∨ (rankT T np tn x t - rankT T np tn (v / 10) (v % 10) = 0 ∧ 10 * x + t < v))) : bsT T np hb tn (some v) x t = some v := by
  unfold bsT
  rw [if_pos h]
  exact if_neg q
theorem bsT_ok {b : Option Nat} {x t : Nat} (h : bOK np b) (hx : x < 100) (ht : t ≤ np) (h4 : np ≤ 4) : bOK np (bsT T np hb tn b x t) := by
  have q : bOK np (some (10 * x + t)) := fun v hv => by cases hv; omega
  unfold bsT
  split
  · cases b with
    | none => exact q
    | some v => dsimp only; split; exact q; exact h
  · exact h
theorem s_best {post : Int32 → HW → Prop} (t : TabV c h Own A T fv) (w : TW T mx np hs hb tn pa) (hp : ∀ (h' : HW) (fv' : Nat → Int64), TabV c h' Own A T fv' → TFr h h' A → HDom h h' → bOK np (bestT T np hb tn) → post (encO (bestT T np hb tn)) h') : w_X10_best c K h (A 0) post := by
  have hnp := w.np
  have hH := w.H tn
  have hOA := t.own
  unfold w_X10_best
  refine t_g10 t ?_
  refine t_gI t (by omega) ?_
  rw [w.tn.1]
  refine t_lRH t (by have := w.tn.2; omega) fun r hr => ?_
  refine r_len hr ?_
  refine cpL3 (fun i (h9 : HW) (v1 v4 : Int32) => (∃ fv', TabV c h9 Own A T fv') ∧ TFr h h9 A ∧ HDom h h9 ∧ bOK np (blT T np hb tn none ((hnd T tn).take i)) ∧ v1 = encO (blT T np hb tn none ((hnd T tn).take i)) ∧ v4 = nI i) (hnd T tn).length ?_ ?_ 0 (Nat.zero_le _) _ _ _ ⟨⟨fv, t⟩, TFr.rf, HDom.rf, (fun v hv => by cases hv), rfl, rfl⟩
  · rintro rec h9 v1 v4 ⟨⟨fv1, t1⟩, f1, d1, ok1, e1, rfl⟩
    unfold w_X10_best_B18
    refine br_le (by omega) (by omega) (fun _ => ?_) (fun hn => by omega)
    rw [List.take_length] at e1 ok1
    subst e1
    exact hp _ _ t1 f1 d1 ok1
  · rintro rec i h9 v1 v4 hi ⟨⟨fv1, t1⟩, f1, d1, ok1, rfl, rfl⟩ hrec
    unfold w_X10_best_B18
    refine br_le (by omega) (by omega) (fun hn => by omega) (fun _ => ?_)
    refine r_lI (hr.mv (f1.e hOA)) hi (by omega) ?_
    have hxi : (hnd T tn).getD i 0 < 100 := hH.1 _ (getD_mem hi)
    have htk : blT T np hb tn none ((hnd T tn).take (i + 1)) = brT T np hb tn (blT T np hb tn none ((hnd T tn).take i)) ((hnd T tn).getD i 0) (np + 1) := by
      rw [take_succ_getD hi]
      unfold blT
      rw [List.foldl_append]
      rfl
    rw [htk] at hrec
    generalize (hnd T tn).getD i 0 = x at hxi hrec ⊢
    generalize blT T np hb tn none ((hnd T tn).take i) = b0 at ok1 hrec ⊢
    refine cpL3 (fun j (h8 : HW) (v1 v6 : Int32) => (∃ fv', TabV c h8 Own A T fv') ∧ TFr h h8 A ∧ HDom h h8 ∧ bOK np (brT T np hb tn b0 x j) ∧ v1 = encO (brT T np hb tn b0 x j) ∧ v6 = nI j) (np + 1) ?_ ?_ 0 (Nat.zero_le _) _ _ _ ⟨⟨fv1, t1⟩, f1, d1, ok1, rfl, rfl⟩
    · rintro rec2 h8 v1 v6 ⟨⟨fv2, t2⟩, f2, d2, ok2, e1, rfl⟩
      unfold w_X10_best_B33
      refine t_g12 t2 ?_
      refine t_lenR t2 ?_
      rw [hnp.2.2.1]
      refine br_le (by omega) (by omega) (fun _ => ?_) (fun hn => by omega)
      intro x125 e125
      exact hrec _ _ _ ⟨⟨fv2, t2⟩, f2, d2, ok2, e1, by rw [e125, nI_1]⟩
    · rintro rec2 j h8 v1 v6 hj ⟨⟨fv2, t2⟩, f2, d2, ok2, e1, rfl⟩ hrec2
      have hbs : brT T np hb tn b0 x (j + 1) = bsT T np hb tn (brT T np hb tn b0 x j) x j := by
        unfold brT
        rw [List.range_succ, List.foldl_append]
        rfl
      rw [hbs] at hrec2
      generalize brT T np hb tn b0 x j = b at ok2 e1 hrec2
      have hok : bOK np (bsT T np hb tn b x j) := bsT_ok ok2 hxi (by omega) hnp.2.2.2.2.2
      have hJ119 : ∀ (h' : HW) (v' : Int32), (∃ fv', TabV c h' Own A T fv') → TFr h h' A → HDom h h' → v' = encO (bsT T np hb tn b x j) → w_X10_best_J119 c K rec2 (nI j) h' v' := by
        intro h' v' q1 q2 q3 q4
        unfold w_X10_best_J119
        intro x119 e119
        exact hrec2 _ _ _ ⟨q1, q2, q3, hok, q4, by rw [e119, nI_1]⟩
      have hJ110 : ∀ (h' : HW), (∃ fv', TabV c h' Own A T fv') → TFr h h' A → HDom h h' → bsT T np hb tn b x j = some (10 * x + j) → w_X10_best_J110 c K (nI x) rec2 (nI j) h' := by
        intro h' q1 q2 q3 q4
        unfold w_X10_best_J110
        intro x114 e114 x117 e117
        refine hJ119 _ _ q1 q2 q3 ?_
        rw [q4, e117, e114, show (10 : Int32) = nI 10 from rfl, nI_mul, nI_add]
        rfl
      unfold w_X10_best_B33
      refine t_g12 t2 ?_
      refine t_lenR t2 ?_
      rw [hnp.2.2.1]
      refine br_le (by omega) (by omega) (fun hn => by omega) (fun _ => ?_)
      refine ⟨t_rc t2, s_why t2 w hxi (by omega) ?_⟩
      refine ⟨fun h0 => ?_, fun h0 => hJ119 _ _ ⟨fv2, t2⟩ f2 d2 (by rw [e1, bsT_no h0])⟩
      cases hb0 : b with
      | none =>
        subst hb0
        have ev : v1 = -1 := e1
        subst ev
        refine ⟨fun z => absurd z nle_m1, fun _ => ?_⟩
        unfold w_X10_best_J86
        refine ⟨fun _ => hJ110 _ ⟨fv2, t2⟩ f2 d2 (bsT_none h0), fun z => absurd (by decide) z⟩
      | some v =>
        subst hb0
        have ev : v1 = nI v := e1
        subst ev
        obtain ⟨hv1, hv2⟩ := ok2 v rfl
        have hv : v < 2 ^ 31 := by omega
        refine ⟨fun _ => ?_, fun z => absurd (nI_pos' hv) z⟩
        refine ⟨t_rc t2, s_rank t2 w hxi (by omega) fun h3 fv3 t3 f3 d3 => ?_⟩
        intro x77 e77 x81 e81
        rw [show (10 : Int32) = nI 10 from rfl, nI_div hv (by omega)] at e77
        rw [show (10 : Int32) = nI 10 from rfl, nI_div hv (by omega), nI_mul, nI_dm hv (by omega)] at e81
        subst e77 e81
        refine ⟨t_rc t3, s_rank t3 w hv1 hv2 fun h4 fv4 t4 f4 d4 => ?_⟩
        intro x85 e85
        have q1 : ∃ fv', TabV c h4 Own A T fv' := ⟨fv4, t4⟩
        have q2 := (f2.tr f3).tr f4
        have q3 := (d2.tr d3).tr d4
        unfold w_X10_best_J86
        refine ⟨fun z => hJ110 _ q1 q2 q3 (bsT_yes h0 (Or.inl (e85 ▸ z))), fun z => ⟨fun z2 => ?_, fun z2 => hJ119 _ _ q1 q2 q3 ?_⟩⟩
        · intro x102 e102 x105 e105
          rw [e105, e102, show (10 : Int32) = nI 10 from rfl, nI_mul, nI_add]
          refine br_le hv (by omega) (fun z3 => hJ119 _ _ q1 q2 q3 ?_) (fun z3 => hJ110 _ q1 q2 q3 ?_)
          · rw [bsT_not h0 (fun y => y.elim (fun y => z (e85 ▸ y)) (fun y => by omega))]
            rfl
          · exact bsT_yes h0 (Or.inr ⟨e85 ▸ z2, z3⟩)
        · rw [bsT_not h0 (fun y => y.elim (fun y => z (e85 ▸ y)) (fun y => z2 (e85 ▸ y.1)))]
          rfl
end RK
