/-! expressions on both sides -/
theorem lk31 {A0 A1 A2 R A0' R' : Type} {B : (A0 → A1 → A2 → Option R) → A0 → A1 → A2 → Option R} {B' : (A0' → Option R') → A0' → Option R'} (Post : Option R → Option R' → Prop) (Inv : Nat → A0 → A1 → A2 → A0' → Prop)
    (h : ∀ rec rec' n a0 a1 a2 b0, Inv n a0 a1 a2 b0 → (∀ m c0 c1 c2 d0, m < n → Inv m c0 c1 c2 d0 → Post (rec c0 c1 c2) (rec' d0)) → Post (B rec a0 a1 a2) (B' rec' b0)) : ∀ f n a0 a1 a2 b0, n < f → Inv n a0 a1 a2 b0 → Post (itr3 B f a0 a1 a2) (itr1 B' f b0)
  | 0, n, a0, a1, a2, b0, h1, _ => by omega
  | f + 1, n, a0, a1, a2, b0, _, h2 => h _ _ n a0 a1 a2 b0 h2 (fun m c0 c1 c2 d0 hm hi => lk31 Post Inv h f m c0 c1 c2 d0 (by omega) hi)
theorem mo_2 (st : Nat → Nat × Nat) : ∀ k, mo st k ≤ 2 * k
  | 0 => Nat.le_refl _
  | k + 1 => by
    show mo st k + (if (st k).1 < 2 then 2 else 1) ≤ _
    have := mo_2 st k
    split <;> omega
theorem mo_cg {st st' : Nat → Nat × Nat} : ∀ n, (∀ k, k < n → st' k = st k) → mo st' n = mo st n
  | 0, _ => rfl
  | n + 1, h => by
    show mo st' n + (if (st' n).1 < 2 then 2 else 1) = mo st n + (if (st n).1 < 2 then 2 else 1)
    rw [mo_cg n (fun k hk => h k (by omega)), h n (by omega)]
theorem hg_cg {st st' : Nat → Nat × Nat} : ∀ n, (∀ k, k < n → st' k = st k) → hg st' n = hg st n
  | 0, _ => rfl
  | n + 1, h => by
    show (if (st' n).1 < 2 then hg st' n + 1 else hg st' n - 1) = if (st n).1 < 2 then hg st n + 1 else hg st n - 1
    rw [hg_cg n (fun k hk => h k (by omega)), h n (by omega)]
/-- the steps so far, and the codes so far; h are waiting -/
def PF (S : Nat → Int32) (cnt : Nat) (d : Nat → Int32) (h : Nat) : Prop := ∃ st : Nat → Nat × Nat, hg st cnt = h ∧ d 14 = nI (mo st cnt) ∧ ∀ k, k < cnt → S k = enc (st k) ∧ (st k).1 ≤ 5 ∧ ((st k).1 = 0 → (st k).2 ≤ 9999) ∧ ((st k).1 = 1 → (st k).2 ≤ 4) ∧ ((st k).1 < 2 → hg st k < 16) ∧ (2 ≤ (st k).1 → 2 ≤ hg st k) ∧ d (464 + mo st k) = nI (st k).1 ∧ ((st k).1 < 2 → d (464 + mo st k + 1) = nI (st k).2)
theorem PF.zero {S d : Nat → Int32} (h : d 14 = 0) : PF S 0 d 0 := ⟨fun _ => (0, 0), rfl, h, fun k hk => absurd hk (Nat.not_lt_zero _)⟩
theorem PF.fm {S d : Nat → Int32} {cnt : Nat} (h : PF S cnt d 1) (hc : cnt < 500) : FM S cnt d := by
  obtain ⟨st, h1, h2, h3⟩ := h
  have := mo_2 st cnt
  exact ⟨st, hc, h1, by omega, h2, h3⟩
theorem PF.cg {S S' d d' : Nat → Int32} {cnt h : Nat} (hp : PF S cnt d h) (hS : ∀ k, k < cnt → S' k = S k) (h14 : d' 14 = d 14) (hd : ∀ k, 464 ≤ k → d' k = d k) : PF S' cnt d' h := by
  obtain ⟨st, h1, h2, h3⟩ := hp
  refine ⟨st, h1, h14.trans h2, fun k hk => ?_⟩
  obtain ⟨e1, e2, e3, e4, e5, e6, e7, e8⟩ := h3 k hk
  exact ⟨(hS k hk).trans e1, e2, e3, e4, e5, e6, (hd _ (by omega)).trans e7, fun z => (hd _ (by omega)).trans (e8 z)⟩
theorem PF.push {S d : Nat → Int32} {cnt h : Nat} (hp : PF S cnt d h) : ∃ M, M ≤ 2 * cnt ∧ d 14 = nI M ∧
    (∀ (s : Nat × Nat) (d' : Nat → Int32), s.1 < 2 → (s.1 = 0 → s.2 ≤ 9999) → (s.1 = 1 → s.2 ≤ 4) → h < 16 → d' 14 = nI (M + 2) → d' (464 + M) = nI s.1 → d' (464 + M + 1) = nI s.2 → (∀ k, 464 ≤ k → k < 464 + M → d' k = d k) → PF (upd S cnt (enc s)) (cnt + 1) d' (h + 1)) ∧
    (∀ (j : Nat) (d' : Nat → Int32), 2 ≤ j → j ≤ 5 → 2 ≤ h → d' 14 = nI (M + 1) → d' (464 + M) = nI j → (∀ k, 464 ≤ k → k < 464 + M → d' k = d k) → PF (upd S cnt (enc (j, 0))) (cnt + 1) d' (h - 1)) := by
  obtain ⟨st, h1, h2, h3⟩ := hp
  have old : ∀ (s : Nat × Nat) (d' : Nat → Int32), (∀ k, 464 ≤ k → k < 464 + mo st cnt → d' k = d k) → ∀ k, k < cnt → upd S cnt (enc s) k = enc ((fun k => if k = cnt then s else st k) k) ∧ ((fun k => if k = cnt then s else st k) k).1 ≤ 5 ∧ (((fun k => if k = cnt then s else st k) k).1 = 0 → ((fun k => if k = cnt then s else st k) k).2 ≤ 9999) ∧ (((fun k => if k = cnt then s else st k) k).1 = 1 → ((fun k => if k = cnt then s else st k) k).2 ≤ 4) ∧ (((fun k => if k = cnt then s else st k) k).1 < 2 → hg (fun k => if k = cnt then s else st k) k < 16) ∧ (2 ≤ ((fun k => if k = cnt then s else st k) k).1 → 2 ≤ hg (fun k => if k = cnt then s else st k) k) ∧ d' (464 + mo (fun k => if k = cnt then s else st k) k) = nI ((fun k => if k = cnt then s else st k) k).1 ∧ (((fun k => if k = cnt then s else st k) k).1 < 2 → d' (464 + mo (fun k => if k = cnt then s else st k) k + 1) = nI ((fun k => if k = cnt then s else st k) k).2) := by
    intro s d' hd k hk
    obtain ⟨e1, e2, e3, e4, e5, e6, e7, e8⟩ := h3 k hk
    have hmk1 := mo_le st (show k + 1 ≤ cnt by omega)
    have hm1 : mo st (k + 1) = mo st k + (if (st k).1 < 2 then 2 else 1) := rfl
    have a1 : (fun k => if k = cnt then s else st k) k = st k := if_neg (by omega)
    have a2 : mo (fun k => if k = cnt then s else st k) k = mo st k := mo_cg k (fun j hj => if_neg (by omega))
    have a3 : hg (fun k => if k = cnt then s else st k) k = hg st k := hg_cg k (fun j hj => if_neg (by omega))
    rw [a1, a2, a3, upd_n (by omega)]
    refine ⟨e1, e2, e3, e4, e5, e6, (hd _ (by omega) ?_).trans e7, fun z => (hd _ (by omega) ?_).trans (e8 z)⟩
    · split at hm1 <;> omega
    · rw [if_pos z] at hm1; omega
  have b2 : ∀ s : Nat × Nat, mo (fun k => if k = cnt then s else st k) cnt = mo st cnt := fun s => mo_cg cnt (fun j hj => if_neg (by omega))
  have b3 : ∀ s : Nat × Nat, hg (fun k => if k = cnt then s else st k) cnt = h := fun s => (hg_cg cnt (fun j hj => if_neg (by omega))).trans h1
  have b1 : ∀ s : Nat × Nat, (fun k => if k = cnt then s else st k) cnt = s := fun s => if_pos rfl
  have b4 : ∀ s : Nat × Nat, mo (fun k => if k = cnt then s else st k) (cnt + 1) = mo st cnt + (if s.1 < 2 then 2 else 1) := fun s => by
    show mo _ cnt + (if ((fun k => if k = cnt then s else st k) cnt).1 < 2 then 2 else 1) = _
    rw [b2, b1]
  have b5 : ∀ s : Nat × Nat, hg (fun k => if k = cnt then s else st k) (cnt + 1) = if s.1 < 2 then h + 1 else h - 1 := fun s => by
    show (if ((fun k => if k = cnt then s else st k) cnt).1 < 2 then hg _ cnt + 1 else hg _ cnt - 1) = _
    rw [b3, b1]
  refine ⟨mo st cnt, mo_2 st cnt, h2, fun s d' s1 s2 s3 s4 s5 s6 s7 s8 => ?_, fun j d' s1 s2 s3 s4 s5 s6 => ?_⟩
  · refine ⟨fun k => if k = cnt then s else st k, by rw [b5, if_pos s1], by rw [b4, if_pos s1]; exact s5, fun k hk => ?_⟩
    by_cases hkc : k = cnt
    · subst hkc
      rw [b1, b2, b3, upd_s]
      exact ⟨rfl, by omega, s2, s3, fun _ => s4, fun z => by omega, s6, fun _ => s7⟩
    · exact old s d' s8 k (by omega)
  · refine ⟨fun k => if k = cnt then (j, 0) else st k, by rw [b5, if_neg (show ¬ j < 2 by omega)], by rw [b4, if_neg (show ¬ j < 2 by omega)]; exact s4, fun k hk => ?_⟩
    by_cases hkc : k = cnt
    · subst hkc
      rw [b1, b2, b3, upd_s]
      exact ⟨rfl, s2, fun z => absurd (show j = 0 from z) (by omega), fun z => absurd (show j = 1 from z) (by omega), fun z => absurd (show j < 2 from z) (by omega), fun _ => s3, s5, fun z => absurd (show j < 2 from z) (by omega)⟩
    · exact old (j, 0) d' s6 k (by omega)
/-- what the reading of an expression leaves alone -/
def CG (rd rd' : RS) : Prop := (∀ k, k = 1 ∨ k = 2 ∨ k = 3 ∨ k = 4 → rd'.1.1 k = rd.1.1 k) ∧ rd'.2.1.2 = rd.2.1.2 ∧ rd'.2.1.1 0 = rd.2.1.1 0 ∧ rd'.2.2 = rd.2.2
theorem CG.rf {rd : RS} : CG rd rd := ⟨fun _ _ => rfl, rfl, rfl, rfl⟩
theorem CG.tr {x y z : RS} (h : CG x y) (k : CG y z) : CG x z := ⟨fun i a => (k.1 i a).trans (h.1 i a), k.2.1.trans h.2.1, k.2.2.1.trans h.2.2.1, k.2.2.2.trans h.2.2.2⟩
theorem CF.cg {rd rd' : RS} (h : CF rd rd') : CG rd rd' := ⟨fun k hk => h.1 k (by omega) (by omega) (by omega), h.2.2.1, h.2.2.2.1, h.2.2.2.2⟩
def LG (x x' : MS) : Prop := (∀ k, ¬ k = 3 → ¬ k = 4 → ¬ k = 5 → ¬ k = 8 → ¬ k = 9 → x'.1.1 k = x.1.1 k) ∧ (∀ i, ¬ i = 2 → x'.1.2 i = x.1.2 i) ∧ x'.2 = x.2 ∧ ∀ k, ¬ k = 14 → k < 464 → x'.1.2 2 k = x.1.2 2 k
theorem LG.rf {x : MS} : LG x x := ⟨fun _ _ _ _ _ _ => rfl, fun _ _ => rfl, rfl, fun _ _ _ => rfl⟩
theorem LG.tr {x y z : MS} (h : LG x y) (k : LG y z) : LG x z := ⟨fun i a b c d e => (k.1 i a b c d e).trans (h.1 i a b c d e), fun i a => (k.2.1 i a).trans (h.2.1 i a), k.2.2.1.trans h.2.2.1, fun i a b => (k.2.2.2 i a b).trans (h.2.2.2 i a b)⟩
theorem LF.lg {x x' : MS} (h : LF x x') : LG x x' := ⟨fun k a b c d _ => h.1 k a b c d, fun i _ => by rw [h.2.1], h.2.2, fun k _ _ => by rw [h.2.1]⟩
/-- the position alone has moved -/
def W3 (x y : MS) (s : Nat) : Prop := y.1.1 3 = nI s ∧ (∀ k, ¬ k = 3 → y.1.1 k = x.1.1 k) ∧ y.1.2 = x.1.2 ∧ y.2 = x.2
theorem W3.lf {x y : MS} {s : Nat} (h : W3 x y s) : LF x y := ⟨fun k a _ _ _ => h.2.1 k a, h.2.2.1, h.2.2.2⟩
theorem W3.tr {x y z : MS} {s t : Nat} (h : W3 x y s) (k : W3 y z t) : W3 x z t := ⟨k.1, fun i hi => (k.2.1 i hi).trans (h.2.1 i hi), k.2.2.1.trans h.2.2.1, k.2.2.2.trans h.2.2.2⟩
theorem W3.mv {x y : MS} {s t : Nat} (h : W3 x y s) : W3 x ((ss y.1 3 (nI t)), y.2) t := ⟨rfl, fun k hk => (upd_n hk).trans (h.2.1 k hk), h.2.2.1, h.2.2.2⟩
section P
variable {rd : RS} {x : MS} {b : Nat → Int32} {N p : Nat}
theorem OK.w3 {y : MS} {s : Nat} (h : OK rd x) (w : W3 x y s) : OK rd y := ⟨h.1, h.2.1, (w.2.1 4 (by omega)).trans h.2.2.1, (w.2.1 5 (by omega)).trans h.2.2.2⟩
/-- the model stands behind the spaces -/
theorem LX.ah (h : LX rd.2.1 x b N p) (hN : N ≤ 500) : ∃ y, f_X8_ahead x = some (bt b N (sp b N p), y) ∧ W3 x y (sp b N p) ∧ LX rd.2.1 y b N p := by
  obtain ⟨hC, hp, q, hM, hq⟩ := h
  have hs : sp b N p ≤ N := en_le hp
  obtain ⟨y, e1, e2, e3, e4, e5⟩ := x_ahead hM hN
  rw [hq] at e1 e2
  exact ⟨y, e1, ⟨e2, e3, e4, e5⟩, hC, hp, sp b N p, ⟨(e3 2 (by omega)).trans hM.1, by rw [e4]; exact hM.2.1, e2, hs⟩, en_idem hp⟩
theorem W3.lx {y : MS} {s : Nat} {tk tk' : SA} (h : LX tk x b N p) (w : W3 x y s) (hC : CT tk' b N s) (hs : s ≤ N) : LX tk' y b N s := by
  obtain ⟨-, hp, q, hM, hq⟩ := h
  exact ⟨hC, hs, s, ⟨(w.2.1 2 (by omega)).trans hM.1, by rw [w.2.2.1]; exact hM.2.1, w.1, hs⟩, rfl⟩
theorem W3.lxs {y : MS} {tk : SA} (h : LX tk x b N p) (w : W3 x y (sp b N p)) : LX tk y b N p := by
  obtain ⟨hC, hp, q, hM, hq⟩ := h
  exact ⟨hC, hp, sp b N p, ⟨(w.2.1 2 (by omega)).trans hM.1, by rw [w.2.2.1]; exact hM.2.1, w.1, en_le hp⟩, en_idem hp⟩

theorem LX.word {tk : SA} {w : Nat} (h : LX tk x b N p) (hN : N ≤ 500) (hg : x.1.1 4 = 0) (hw : w < 10) : ∃ y, f_X8_takeWord x w = some (if WM b N (sp b N p) w then 1 else 0, y) ∧ W3 x y (if WM b N (sp b N p) w then sp b N p + wl w else sp b N p) := by
  obtain ⟨hC, hp, q, hM, hq⟩ := h
  obtain ⟨y, e1, e2, e3, e4, e5⟩ := x_takeWord hM hN hg hw
  rw [hq] at e1 e2
  exact ⟨y, e1, e2, e3, e4, e5⟩
/-- a sign, looked at -/
theorem LX.sign {c : Int32} (h : LX rd.2.1 x b N p) (hN : N ≤ 500) (hc1 : isDg c = false) (hc2 : isLt c = false) (hc : ¬ c = -1) : f_X5_isSign rd.2.1 c = some (if bt b N (sp b N p) = c then 1 else 0) ∧ (bt b N (sp b N p) = c → ed b N (sp b N p) = sp b N p + 1 ∧ sp b N p < N) := by
  have hb : (bt b N (sp b N p) = c) = (sp b N p < N ∧ b (sp b N p) = c) := by
    unfold bt
    by_cases z : sp b N p < N
    · rw [if_pos z]; exact propext ⟨fun y => ⟨z, y⟩, fun y => y.2⟩
    · rw [if_neg z]; exact propext ⟨fun y => absurd y.symm hc, fun y => absurd y.1 z⟩
  refine ⟨?_, fun z => ?_⟩
  · rw [e_isSign h.1 h.2.1 hN hc1 hc2]
    simp only [hb]
  · rw [hb] at z
    have n1 : ¬ sp b N p < en isDg b N (sp b N p) := fun y => by
      have := en_all (P := isDg) (b := b) (N := N) (Nat.le_refl (sp b N p)) y
      rw [z.2, hc1] at this; exact absurd this (by decide)
    have n2 : ¬ sp b N p < en isLt b N (sp b N p) := fun y => by
      have := en_all (P := isLt) (b := b) (N := N) (Nat.le_refl (sp b N p)) y
      rw [z.2, hc2] at this; exact absurd this (by decide)
    exact ⟨by unfold ed; rw [if_neg n1, if_neg n2, if_pos z.1], z.1⟩
theorem e_addStep {cnt : Nat} {v : Int32} (h : rd.1.1 5 = nI cnt) (hc : cnt < 500) : f_X3_addStep rd v = some ((sa (ss rd.1 5 (nI (cnt + 1))) 0 (upd (rd.1.2 0) cnt v)), rd.2.1, rd.2.2) := by
  unfold f_X3_addStep
  rw [h, i_500, ie_le (by omega) (by omega), if_neg (by omega), e_put (by omega) (by omega), bd1_S, nI_1]
theorem e_addStepA {v : Int32} : ∃ rd', f_X3_addStep rd v = some rd' ∧ (∀ k, ¬ k = 5 → rd'.1.1 k = rd.1.1 k) ∧ rd'.2 = rd.2 := by
  unfold f_X3_addStep f_X7_put
  by_cases h1 : (500 : Int32) ≤ rd.1.1 5
  · rw [if_pos h1]
    exact ⟨rd, rfl, fun _ _ => rfl, rfl⟩
  · rw [if_neg h1]
    by_cases h2 : rd.1.1 5 < 0
    · rw [if_pos h2, bd1_S]
      exact ⟨_, rfl, fun k hk => upd_n hk, rfl⟩
    · rw [if_neg h2]
      have h3 : ¬ (500 : Int32) ≤ rd.1.1 5 := h1
      rw [if_neg (show ¬ nI 500 ≤ rd.1.1 5 from h3)]
      have h4 : inb (rd.1.1 5) 500 = true := by
        refine decide_eq_true ?_
        rintro (z | z)
        · exact h2 z
        · apply h3
          rw [Int32.le_iff_toInt_le, show (500 : Int32).toInt = 500 by decide]
          have : ((rd.1.1 5).toNatClampNeg : Int) ≤ max 0 (rd.1.1 5).toInt := by
            show (((rd.1.1 5).toInt.toNat : Nat) : Int) ≤ _
            omega
          omega
      rw [h4, gd_T, nmd_S, bd1_S]
      exact ⟨_, rfl, fun k hk => upd_n hk, rfl⟩
theorem x_emit {M : Nat} {v : Int32} (hg : x.1.1 4 = 0) (h : x.1.2 2 14 = nI M) (hM : M < 1000) : f_X8_emit x v = some ((sa x.1 2 (upd (upd (x.1.2 2) (464 + M) v) 14 (nI (M + 1)))), x.2) := by
  unfold f_X8_emit
  simp only [gl_14, cl_14, nmd_S]
  rw [x_good hg, bd1_S, if_neg (show ¬ (1 : Int32) = 0 by decide), h, i_464, nI_add, inb_t (by omega) (by omega), gd_T, nI_clamp (by omega), upd_n (by omega), h, nI_1]
theorem x_emitB {v : Int32} (hg : ¬ x.1.1 4 = 0) : f_X8_emit x v = some x := by
  unfold f_X8_emit
  rw [x_bad hg, bd1_S, if_pos rfl]
/-- both sides within an expression -/
def FS (rd : RS) (x : MS) (b : Nat → Int32) (N p cnt h dp : Nat) : Prop := LX rd.2.1 x b N p ∧ OK rd x ∧ rd.1.1 5 = nI cnt ∧ PF (rd.1.2 0) cnt (x.1.2 2) h ∧ cnt + 4 ≤ p ∧ x.1.1 9 = nI dp
def FP (rd : RS) (x : MS) (b : Nat → Int32) (N p cnt h dp : Nat) (o : Option (Int32 × RS)) (o' : Option MS) : Prop := ∃ r rd' x', o = some (r, rd') ∧ o' = some x' ∧ CG rd rd' ∧ LG x x' ∧ ((r = 1 ∧ ∃ p' cnt', FS rd' x' b N p' cnt' (h + 1) dp ∧ p < p' ∧ cnt' + p ≤ cnt + p') ∨ (r = 0 ∧ ER rd' x'))
theorem FS.w3 {y : MS} {cnt h dp : Nat} (f : FS rd x b N p cnt h dp) (w : W3 x y (sp b N p)) : FS rd y b N p cnt h dp := ⟨w.lxs f.1, f.2.1.w3 w, f.2.2.1, by rw [w.2.2.1]; exact f.2.2.2.1, f.2.2.2.2.1, (w.2.1 9 (by omega)).trans f.2.2.2.2.2⟩
/-- an operand is added by both -/
theorem p_push {rd1 : RS} {y : MS} {p' cnt h dp : Nat} {s : Nat × Nat} (hL : LX rd1.2.1 y b N p') (hO : OK rd1 y) (h5 : rd1.1.1 5 = nI cnt) (hP : PF (rd1.1.2 0) cnt (y.1.2 2) h) (h9 : y.1.1 9 = nI dp) (hc : cnt + 5 ≤ p') (hN : N ≤ 500) (h16 : h < 16) (s1 : s.1 < 2) (s2 : s.1 = 0 → s.2 ≤ 9999) (s3 : s.1 = 1 → s.2 ≤ 4) : ∃ rd' x', f_X3_addStep rd1 (enc s) = some rd' ∧ (bd1 (f_X8_emit y (nI s.1)) fun (x183 : MS) => bd1 (f_X8_emit x183 (nI s.2)) fun (x188 : MS) => some (x188)) = some x' ∧ CG rd1 rd' ∧ LG y x' ∧ FS rd' x' b N p' (cnt + 1) (h + 1) dp := by
  have hp' := hL.2.1
  obtain ⟨M, m1, m2, m3, -⟩ := hP.push
  rw [e_addStep h5 (by omega), x_emit hO.2.2.1 m2 (by omega), bd1_S]
  have e2 : f_X8_emit ((sa y.1 2 (upd (upd (y.1.2 2) (464 + M) (nI s.1)) 14 (nI (M + 1)))), y.2) (nI s.2) = some ((sa (sa y.1 2 (upd (upd (y.1.2 2) (464 + M) (nI s.1)) 14 (nI (M + 1)))) 2 (upd (upd (upd (upd (y.1.2 2) (464 + M) (nI s.1)) 14 (nI (M + 1))) (464 + (M + 1)) (nI s.2)) 14 (nI (M + 1 + 1)))), y.2) :=
    x_emit (x := ((sa y.1 2 (upd (upd (y.1.2 2) (464 + M) (nI s.1)) 14 (nI (M + 1)))), y.2)) (M := M + 1) hO.2.2.1 rfl (by omega)
  rw [e2, bd1_S]
  refine ⟨_, _, rfl, rfl, ⟨fun k hk => upd_n (by omega), rfl, rfl, rfl⟩, ⟨fun _ _ _ _ _ _ => rfl, fun i hi => ?_, rfl, fun k a1 a2 => ?_⟩, ?_⟩
  · show upA (upA y.1.2 2 _) 2 _ i = _
    rw [upA_n hi, upA_n hi]
  · show upd (upd (upd (upd (y.1.2 2) (464 + M) (nI s.1)) 14 (nI (M + 1))) (464 + (M + 1)) (nI s.2)) 14 (nI (M + 1 + 1)) k = _
    rw [upd_n a1, upd_n (by omega), upd_n a1, upd_n (by omega)]
  · refine ⟨?_, hO, rfl, m3 s _ s1 s2 s3 h16 rfl ?_ ?_ (fun k a1 a2 => ?_), by omega, h9⟩
    · obtain ⟨c1, c2, q, c3, c4⟩ := hL
      exact ⟨c1, c2, q, ⟨c3.1, c3.2.1, c3.2.2⟩, c4⟩
    · show upd (upd (upd (upd (y.1.2 2) (464 + M) (nI s.1)) 14 (nI (M + 1))) (464 + (M + 1)) (nI s.2)) 14 (nI (M + 1 + 1)) (464 + M) = _
      rw [upd_n (by omega), upd_n (by omega), upd_n (by omega), upd_s]
    · show upd (upd (upd (upd (y.1.2 2) (464 + M) (nI s.1)) 14 (nI (M + 1))) (464 + (M + 1)) (nI s.2)) 14 (nI (M + 1 + 1)) (464 + M + 1) = _
      rw [upd_n (by omega), show 464 + M + 1 = 464 + (M + 1) by omega, upd_s]
    · show upd (upd (upd (upd (y.1.2 2) (464 + M) (nI s.1)) 14 (nI (M + 1))) (464 + (M + 1)) (nI s.2)) 14 (nI (M + 1 + 1)) k = _
      rw [upd_n (by omega), upd_n (by omega), upd_n (by omega), upd_n (by omega)]
/-- an operation is added by both -/
theorem p_op {rd1 : RS} {y : MS} {p' cnt h dp j : Nat} (f : FS rd1 y b N p' cnt (h + 2) dp) (hc : cnt + 5 ≤ p') (hN : N ≤ 500) (j2 : 2 ≤ j) (j5 : j ≤ 5) : ∃ rd' x', f_X3_addStep rd1 (enc (j, 0)) = some rd' ∧ f_X8_emit y (nI j) = some x' ∧ CG rd1 rd' ∧ LG y x' ∧ FS rd' x' b N p' (cnt + 1) (h + 1) dp := by
  obtain ⟨hL, hO, h5, hP, h4, h9⟩ := f
  have hp' := hL.2.1
  obtain ⟨M, m1, m2, -, m3⟩ := hP.push
  rw [e_addStep h5 (by omega), x_emit hO.2.2.1 m2 (by omega)]
  refine ⟨_, _, rfl, rfl, ⟨fun k hk => upd_n (by omega), rfl, rfl, rfl⟩, ⟨fun _ _ _ _ _ _ => rfl, fun i hi => upA_n hi, rfl, fun k a1 a2 => ?_⟩, ?_⟩
  · show upd (upd (y.1.2 2) (464 + M) _) 14 _ k = _
    rw [upd_n a1, upd_n (by omega)]
  · refine ⟨?_, hO, rfl, m3 j _ j2 j5 (by omega) rfl ?_ (fun k a1 a2 => ?_), by omega, h9⟩
    · obtain ⟨c1, c2, q, c3, c4⟩ := hL
      exact ⟨c1, c2, q, ⟨c3.1, c3.2.1, c3.2.2⟩, c4⟩
    · show upd (upd (y.1.2 2) (464 + M) _) 14 _ (464 + M) = _
      rw [upd_n (by omega), upd_s]
    · show upd (upd (y.1.2 2) (464 + M) _) 14 _ k = _
      rw [upd_n (by omega), upd_n (by omega)]
theorem x_factorB {SM : MS → Option MS} (hg : ¬ x.1.1 4 = 0) : f_X8_factor SM x = some x := by
  unfold f_X8_factor
  rw [x_bad hg, bd1_S, if_pos rfl]
theorem x_termB {SM : MS → Option MS} (hg : ¬ x.1.1 4 = 0) : f_X8_term SM x = some x := by
  unfold f_X8_term
  rw [x_factorB hg, bd1_S]
  show f_X8_term_B4 SM _ x = _
  unfold f_X8_term_B4
  rw [x_bad hg, bd1_S, if_pos rfl]
theorem x_readSumB {SM : MS → Option MS} (hg : ¬ x.1.1 4 = 0) : f_X8_readSum SM x = some x := by
  unfold f_X8_readSum
  rw [x_termB hg, bd1_S]
  show f_X8_readSum_B4 SM _ x = _
  unfold f_X8_readSum_B4
  rw [x_bad hg, bd1_S, if_pos rfl]
theorem sg_40 : isDg 40 = false ∧ isLt 40 = false ∧ ¬ (40 : Int32) = -1 := by decide
theorem sg_41 : isDg 41 = false ∧ isLt 41 = false ∧ ¬ (41 : Int32) = -1 := by decide
theorem sg_42 : isDg 42 = false ∧ isLt 42 = false ∧ ¬ (42 : Int32) = -1 := by decide
theorem sg_43 : isDg 43 = false ∧ isLt 43 = false ∧ ¬ (43 : Int32) = -1 := by decide
theorem sg_45 : isDg 45 = false ∧ isLt 45 = false ∧ ¬ (45 : Int32) = -1 := by decide
theorem sg_47 : isDg 47 = false ∧ isLt 47 = false ∧ ¬ (47 : Int32) = -1 := by decide
theorem sg_59 : isDg 59 = false ∧ isLt 59 = false ∧ ¬ (59 : Int32) = -1 := by decide
/-- the reference's words of a factor, one after another -/
def cas (x9 : MS) : Option MS := bd2 (f_X8_takeWord x9 5) fun (r92 : Int32) (x92 : MS) => if r92 = 0 then (bd2 (f_X8_takeWord x92 6) fun (r105 : Int32) (x105 : MS) => if r105 = 0 then (bd2 (f_X8_takeWord x105 7) fun (r118 : Int32) (x118 : MS) => if r118 = 0 then (bd2 (f_X8_takeWord x118 8) fun (r131 : Int32) (x131 : MS) => if r131 = 0 then (bd2 (f_X8_takeWord x131 9) fun (r144 : Int32) (x144 : MS) => if r144 = 0 then (f_X8_factor_J155 (-1) x144) else (f_X8_factor_J155 4 x144)) else (f_X8_factor_J155 3 x131)) else (f_X8_factor_J155 2 x118)) else (f_X8_factor_J155 1 x105)) else (f_X8_factor_J155 0 x92)

theorem p_var (h : LX rd.2.1 x b N p) (hN : N ≤ 500) (hg : x.1.1 4 = 0) : (∃ i y, i < 5 ∧ f_X3_variableHere rd = some (enc (1, i)) ∧ cas x = f_X8_factor_J155 (nI i) y ∧ WM b N (sp b N p) (5 + i) ∧ W3 x y (sp b N p + wl (5 + i))) ∨ (∃ y, f_X3_variableHere rd = some 0 ∧ cas x = f_X8_factor_J155 (-1) y ∧ W3 x y (sp b N p)) := by
  unfold f_X3_variableHere cas
  rw [e_isWord h.1 h.2.1 hN (by omega), bd1_S, e_isWord h.1 h.2.1 hN (by omega), bd1_S, e_isWord h.1 h.2.1 hN (by omega), bd1_S, e_isWord h.1 h.2.1 hN (by omega), bd1_S, e_isWord h.1 h.2.1 hN (by omega), bd1_S]
  have t : ∀ {α : Type} {a c : α}, (if (1 : Int32) = 0 then a else c) = c := fun {α a c} => if_neg (by decide)
  have u : ∀ {α : Type} {a c : α}, (if (0 : Int32) = 0 then a else c) = a := fun {α a c} => if_pos rfl
  obtain ⟨y5, a1, a2⟩ := h.word hN hg (w := 5) (by omega)
  rw [a1, bd2_S]
  by_cases h5 : WM b N (sp b N p) 5
  · rw [if_pos h5] at a2
    rw [if_pos h5, t, t]
    exact Or.inl ⟨0, y5, by omega, rfl, rfl, h5, a2⟩
  rw [if_neg h5] at a2
  rw [if_neg h5, u, u]
  obtain ⟨y6, b1, b2⟩ := (a2.lxs h).word hN ((a2.2.1 4 (by omega)).trans hg) (w := 6) (by omega)
  rw [b1, bd2_S]
  by_cases h6 : WM b N (sp b N p) 6
  · rw [if_pos h6] at b2
    rw [if_pos h6, t, t]
    exact Or.inl ⟨1, y6, by omega, rfl, rfl, h6, a2.tr b2⟩
  rw [if_neg h6] at b2
  rw [if_neg h6, u, u]
  have w6 := a2.tr b2
  obtain ⟨y7, c1, c2⟩ := (w6.lxs h).word hN ((w6.2.1 4 (by omega)).trans hg) (w := 7) (by omega)
  rw [c1, bd2_S]
  by_cases h7 : WM b N (sp b N p) 7
  · rw [if_pos h7] at c2
    rw [if_pos h7, t, t]
    exact Or.inl ⟨2, y7, by omega, rfl, rfl, h7, w6.tr c2⟩
  rw [if_neg h7] at c2
  rw [if_neg h7, u, u]
  have w7 := w6.tr c2
  obtain ⟨y8, d1, d2⟩ := (w7.lxs h).word hN ((w7.2.1 4 (by omega)).trans hg) (w := 8) (by omega)
  rw [d1, bd2_S]
  by_cases h8 : WM b N (sp b N p) 8
  · rw [if_pos h8] at d2
    rw [if_pos h8, t, t]
    exact Or.inl ⟨3, y8, by omega, rfl, rfl, h8, w7.tr d2⟩
  rw [if_neg h8] at d2
  rw [if_neg h8, u, u]
  have w8 := w7.tr d2
  obtain ⟨y9, e1, e2⟩ := (w8.lxs h).word hN ((w8.2.1 4 (by omega)).trans hg) (w := 9) (by omega)
  rw [e1, bd2_S]
  by_cases h9 : WM b N (sp b N p) 9
  · rw [if_pos h9] at e2
    rw [if_pos h9, t, t]
    exact Or.inl ⟨4, y9, by omega, rfl, rfl, h9, w8.tr e2⟩
  rw [if_neg h9] at e2
  rw [if_neg h9, u, u]
  exact Or.inr ⟨y9, rfl, rfl, w8.tr e2⟩
end P
