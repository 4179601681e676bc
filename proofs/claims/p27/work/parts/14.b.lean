/-! the class, the live table, the tables before it, the random numbers: where they lie, and what moves -/
section LGS
variable {c : Nat → ClassId} {K : (Nat → Nat) × (Nat → Nat)} {h h' : HW} {ah : Nat → Nat} {ag : Nat → Nat → Nat} {ar : Nat → Nat} {ps ps' : PS} {s s' : HS} {Own : Nat → Prop} {A : Nat → Nat} {T T' : TT} {fv fv' : Nat → Int64} {qr qb : Nat} {AB : Nat → Nat → Nat} {B B' : Nat → TT} {mx np m M d : Nat} {sd sd' : Int32} {lab : Nat → Nat} {bf : Nat → Option Nat} {fb : Nat → Nat → Int64} {X Z : Nat → Prop}
/-- nothing is written but places of given labels -/
def FL (h h' : HW) (Own : Nat → Prop) (lab : Nat → Nat) (Z : Nat → Prop) : Prop := ∃ X : Nat → Prop, FX h h' X ∧ ∀ b, X b → Own b ∧ Z (lab b)
theorem FL.tt (x : FL h h' Own lab Z) (t : TabV c h Own A T fv) (hl : ∀ i, i < 6 → ¬ Z (lab (A i))) : TabV c h' Own A T fv := by
  obtain ⟨X, fx, hX⟩ := x
  exact t.fx fx (fun b hb => (hX b hb).1) fun i hi z => hl i hi (hX _ z).2
theorem FL.pp (x : FL h h' Own lab Z) {q : Nat} {z : Bool × va_E} (hq : h q = some z) (hl : ¬ Z (lab q)) : h' q = some z := by
  obtain ⟨X, fx, hX⟩ := x
  exact (fx.1 q (by rw [hq]; simp) fun z => hl (hX _ z).2).trans hq
theorem FL.kk (x : FL h h' Own lab Z) (k : KC c K h Own) : KC c K h' Own := by
  obtain ⟨X, fx, hX⟩ := x
  exact k.mv fun b hb hn => ⟨fx.1 b hb fun z => hn (hX b z).1, hn⟩
theorem FL.cc (x : FL h h' Own lab Z) (k : CA c ah ag ar ps s h) (hl : ∀ b, b ∈ adL (wH c ah ag ar ps s) → ¬ Z (lab b)) : CA c ah ag ar ps s h' := by
  obtain ⟨X, fx, hX⟩ := x
  exact k.fx fx fun b hb z => hl b hb (hX b z).2
theorem FL.dm (x : FL h h' Own lab Z) : HDom h h' := by
  obtain ⟨X, fx, hX⟩ := x
  exact fx.2
def LGO (c : Nat → ClassId) (K : (Nat → Nat) × (Nat → Nat)) (h : HW) (ah : Nat → Nat) (ag : Nat → Nat → Nat) (ar : Nat → Nat) (ps : PS) (s : HS) (A : Nat → Nat) (T : TT) (qr qb : Nat) (AB : Nat → Nat → Nat) (B : Nat → TT) (M d : Nat) (sd : Int32) (Own : Nat → Prop) (fv : Nat → Int64) (lab : Nat → Nat) (bf : Nat → Option Nat) (fb : Nat → Nat → Int64) : Prop :=
  (CA c ah ag ar ps s h ∧ TabV c h Own A T fv ∧ OwnOK h Own ∧ (∀ b, b ∈ adL (wH c ah ag ar ps s) → Own b) ∧ KC c K h Own) ∧
  ((∀ b, b ∈ adL (wH c ah ag ar ps s) → lab b = 0) ∧ (∀ i, i < 6 → lab (A i) = 1) ∧ lab qr = 2 ∧ lab qb = 3 ∧ ∀ j, j < M + d → ∀ i, i < 6 → lab (AB j i) = 4 + j) ∧
  (Own qr ∧ h qr = some (true, .inr (9, [.int sd]))) ∧ (Own qb ∧ h qb = some (true, eQ (c 6) 9 bf)) ∧
  ((∀ j, j < M → bf j = some (AB (j + d) 0)) ∧ ∀ j, M ≤ j → bf j = none) ∧ ∀ j, j < M + d → TabV c h Own (AB j) (B j) (fb j)
def LG (c : Nat → ClassId) (K : (Nat → Nat) × (Nat → Nat)) (h : HW) (ah : Nat → Nat) (ag : Nat → Nat → Nat) (ar : Nat → Nat) (ps : PS) (s : HS) (A : Nat → Nat) (T : TT) (qr qb : Nat) (AB : Nat → Nat → Nat) (B : Nat → TT) (M d : Nat) (sd : Int32) : Prop := ∃ Own fv lab bf fb, LGO c K h ah ag ar ps s A T qr qb AB B M d sd Own fv lab bf fb
theorem LGO.lv (x : LGO c K h ah ag ar ps s A T qr qb AB B M d sd Own fv lab bf fb) : LV c h ah ag ar ps s Own A T fv := ⟨x.1.1, x.1.2.1, x.1.2.2.1, x.1.2.2.2.1, fun i hi z => by have := x.2.1.1 _ z; rw [x.2.1.2.1 i hi] at this; omega⟩
theorem LGO.rnd (x : LGO c K h ah ag ar ps s A T qr qb AB B M d sd Own fv lab bf fb) (ha : h' qr = some (true, .inr (9, [.int sd']))) (f : FrB h h' qr) (dm : HDom h h') : LGO c K h' ah ag ar ps s A T qr qb AB B M d sd' Own fv lab bf fb := by
  obtain ⟨⟨x1, x2, x3, x4, x5⟩, ⟨l0, l1, l2, l3, l4⟩, ⟨r1, r2⟩, ⟨b1, b2⟩, bb, tb⟩ := x
  have F : FL h h' Own lab (fun n => n = 2) := ⟨fun b => b = qr, ⟨f, dm⟩, fun b hb => by subst hb; exact ⟨r1, l2⟩⟩
  exact ⟨⟨F.cc x1 fun b hb z => by have := l0 b hb; omega, F.tt x2 fun i hi z => by have := l1 i hi; omega, x3.dom dm, x4, F.kk x5⟩, ⟨l0, l1, l2, l3, l4⟩, ⟨r1, ha⟩, ⟨b1, F.pp b2 (by omega)⟩, bb, fun j hj => F.tt (tb j hj) fun i hi z => by have := l4 j hj i hi; omega⟩
theorem LGO.cls (x : LGO c K h ah ag ar ps s A T qr qb AB B M d sd Own fv lab bf fb) (hp : ∀ c, (wP c ps').map Prod.fst = (wP c ps).map Prod.fst) (q : hNx h (wH c ah ag ar ps s) (wH c ah ag ar ps' s') h') : LGO c K h' ah ag ar ps' s' A T qr qb AB B M d sd Own fv lab bf fb := by
  obtain ⟨⟨x1, x2, x3, x4, x5⟩, ⟨l0, l1, l2, l3, l4⟩, ⟨r1, r2⟩, ⟨b1, b2⟩, bb, tb⟩ := x
  obtain ⟨y1, y2⟩ := c_nx2 hp q
  have eA : adL (wH c ah ag ar ps' s') = adL (wH c ah ag ar ps s) := adL_H2 hp
  have F : FL h h' Own lab (fun n => n = 0) := ⟨fun b => b ∈ adL (wH c ah ag ar ps s), y2.fx, fun b hb => ⟨x4 b hb, l0 b hb⟩⟩
  exact ⟨⟨y1, F.tt x2 fun i hi z => by have := l1 i hi; omega, x3.dom F.dm, by rw [eA]; exact x4, F.kk x5⟩, ⟨by rw [eA]; exact l0, l1, l2, l3, l4⟩, ⟨r1, F.pp r2 (by omega)⟩, ⟨b1, F.pp b2 (by omega)⟩, bb, fun j hj => F.tt (tb j hj) fun i hi z => by have := l4 j hj i hi; omega⟩
theorem LGO.tab (x : LGO c K h ah ag ar ps s A T qr qb AB B M d sd Own fv lab bf fb) (t : TabV c h' Own A T' fv') (f : TFr h h' A) (dm : HDom h h') : LGO c K h' ah ag ar ps s A T' qr qb AB B M d sd Own fv' lab bf fb := by
  obtain ⟨⟨x1, x2, x3, x4, x5⟩, ⟨l0, l1, l2, l3, l4⟩, ⟨r1, r2⟩, ⟨b1, b2⟩, bb, tb⟩ := x
  have F : FL h h' Own lab (fun n => n = 1) := ⟨_, fx_t f dm, fun b hb => by obtain ⟨i, hi, rfl⟩ := hb; exact ⟨x2.own i hi, l1 i hi⟩⟩
  exact ⟨⟨F.cc x1 fun b hb z => by have := l0 b hb; omega, t, x3.dom dm, x4, F.kk x5⟩, ⟨l0, l1, l2, l3, l4⟩, ⟨r1, F.pp r2 (by omega)⟩, ⟨b1, F.pp b2 (by omega)⟩, bb, fun j hj => F.tt (tb j hj) fun i hi z => by have := l4 j hj i hi; omega⟩
theorem LGO.ext (x : LGO c K h ah ag ar ps s A T qr qb AB B M d sd Own fv lab bf fb) (e : Ext h h') : LGO c K h' ah ag ar ps s A T qr qb AB B M d sd Own fv lab bf fb := by
  obtain ⟨⟨x1, x2, x3, x4, x5⟩, ⟨l0, l1, l2, l3, l4⟩, ⟨r1, r2⟩, ⟨b1, b2⟩, bb, tb⟩ := x
  have F : FL h h' Own lab (fun _ => False) := ⟨fun _ => False, e.fx, fun b hb => hb.elim⟩
  exact ⟨⟨F.cc x1 fun b hb z => z, F.tt x2 fun i hi z => z, x3.dom F.dm, x4, F.kk x5⟩, ⟨l0, l1, l2, l3, l4⟩, ⟨r1, F.pp r2 fun z => z⟩, ⟨b1, F.pp b2 fun z => z⟩, bb, fun j hj => F.tt (tb j hj) fun i hi z => z⟩
theorem lab_new (lab : Nat → Nat) {Ap : Nat → Nat} {h : HW} (hn : ∀ i, i < 6 → h (Ap i) = none) : ∃ lab' : Nat → Nat, (∀ i, i < 6 → lab' (Ap i) = 4) ∧ ∀ b, ¬ h b = none → lab' b = if 4 ≤ lab b then lab b + 1 else lab b := by
  classical
  refine ⟨fun b => if ∃ i, i < 6 ∧ b = Ap i then 4 else if 4 ≤ lab b then lab b + 1 else lab b, fun i hi => if_pos ⟨i, hi, rfl⟩, fun b hb => if_neg ?_⟩
  rintro ⟨i, hi, rfl⟩
  exact hb (hn i hi)
def shA (Ap : Nat → Nat) (AB : Nat → Nat → Nat) : Nat → Nat → Nat := fun j => if j = 0 then Ap else AB (j - 1)
theorem LGO.cpy {Ap : Nat → Nat} (x : LGO c K h ah ag ar ps s A T qr qb AB B M 0 sd Own fv lab bf fb) (n : NewT c h h' Own Ap T) : LG c K h' ah ag ar ps s A T qr qb (shA Ap AB) (shB T B) M 1 sd := by
  obtain ⟨⟨x1, x2, x3, x4, x5⟩, ⟨l0, l1, l2, l3, l4⟩, ⟨r1, r2⟩, ⟨b1, b2⟩, bb, tb⟩ := x
  obtain ⟨O, fp, n1, n2, n3, n4, n5, n6⟩ := n
  obtain ⟨lb, g1, g2⟩ := lab_new lab n3
  have mm : ∀ b, ¬ h b = none → ¬ Own b → h' b = h b ∧ ¬ O b := fun b hb hn => ⟨n2 b hb, fun z => (n5 b z).elim hn hb⟩
  have low : ∀ b, Own b → lab b < 4 → lb b = lab b := fun b hb hl => by rw [g2 b (x3 b hb), if_neg (by omega)]
  have mvT : ∀ {A1 : Nat → Nat} {T1 : TT} {f1 : Nat → Int64}, TabV c h Own A1 T1 f1 → TabV c h' O A1 T1 f1 := fun t => t.mv (fun i hi => n2 _ (t.def i hi)) (fun i hi => n4 _ (t.own i hi)) mm
  refine ⟨O, fv, lb, bf, (fun j => if j = 0 then fp else fb (j - 1)), ⟨x1.fx n2.fx fun _ _ z => z, mvT x2, n6, fun b hb => n4 b (x4 b hb), x5.mv mm⟩, ⟨fun b hb => ?_, fun i hi => ?_, ?_, ?_, fun j hj i hi => ?_⟩, ⟨n4 _ r1, n2.at r2⟩, ⟨n4 _ b1, n2.at b2⟩, ⟨fun j hj => bb.1 j hj, bb.2⟩, fun j hj => ?_⟩
  · rw [low b (x4 b hb) (by have := l0 b hb; omega)]; exact l0 b hb
  · rw [low _ (x2.own i hi) (by have := l1 i hi; omega)]; exact l1 i hi
  · rw [low _ r1 (by omega)]; exact l2
  · rw [low _ b1 (by omega)]; exact l3
  · unfold shA
    by_cases hj0 : j = 0
    · rw [if_pos hj0, g1 i hi]; omega
    · rw [if_neg hj0]
      have e := l4 (j - 1) (by omega) i hi
      rw [g2 _ (x3 _ ((tb (j - 1) (by omega)).own i hi)), if_pos (by omega)]; omega
  · show TabV c h' O (if j = 0 then Ap else AB (j - 1)) (if j = 0 then T else B (j - 1)) (if j = 0 then fp else fb (j - 1))
    by_cases hj0 : j = 0
    · rw [if_pos hj0, if_pos hj0, if_pos hj0]; exact n1
    · rw [if_neg hj0, if_neg hj0, if_neg hj0]; exact mvT (tb (j - 1) (by omega))
/-- the newest table is let go -/
theorem LGO.drop (x : LGO c K h ah ag ar ps s A T qr qb AB B M 1 sd Own fv lab bf fb) : LG c K h ah ag ar ps s A T qr qb (fun j => AB (j + 1)) (fun j => B (j + 1)) M 0 sd := by
  obtain ⟨⟨x1, x2, x3, x4, x5⟩, ⟨l0, l1, l2, l3, l4⟩, ⟨r1, r2⟩, ⟨b1, b2⟩, bb, tb⟩ := x
  refine ⟨Own, fv, (fun b => if 5 ≤ lab b then lab b - 1 else lab b), bf, (fun j => fb (j + 1)), ⟨x1, x2, x3, x4, x5⟩, ⟨fun b hb => ?_, fun i hi => ?_, ?_, ?_, fun j hj i hi => ?_⟩, ⟨r1, r2⟩, ⟨b1, b2⟩, ⟨fun j hj => bb.1 j hj, bb.2⟩, fun j hj => tb (j + 1) (by omega)⟩
  · show (if 5 ≤ lab b then lab b - 1 else lab b) = 0
    rw [if_neg (by have := l0 b hb; omega)]; exact l0 b hb
  · show (if 5 ≤ lab (A i) then lab (A i) - 1 else lab (A i)) = 1
    rw [if_neg (by have := l1 i hi; omega)]; exact l1 i hi
  · show (if 5 ≤ lab qr then lab qr - 1 else lab qr) = 2
    rw [if_neg (by omega)]; exact l2
  · show (if 5 ≤ lab qb then lab qb - 1 else lab qb) = 3
    rw [if_neg (by omega)]; exact l3
  · have e := l4 (j + 1) (by omega) i hi
    show (if 5 ≤ lab (AB (j + 1) i) then lab (AB (j + 1) i) - 1 else lab (AB (j + 1) i)) = 4 + j
    rw [if_pos (by omega)]; omega
/-- the array of the tables before is written -/
theorem LGO.arr {bg : Nat → Option Nat} {N : Nat} (x : LGO c K h ah ag ar ps s A T qr qb AB B M d sd Own fv lab bf fb) (ha : h' qb = some (true, eQ (c 6) 9 bg)) (f : ∀ b, ¬ b = qb → h' b = h b) (hN : N ≤ M + d) (g1 : ∀ j, j < N → bg j = some (AB j 0)) (g2 : ∀ j, N ≤ j → bg j = none) : LG c K h' ah ag ar ps s A T qr qb AB B N 0 sd := by
  obtain ⟨⟨x1, x2, x3, x4, x5⟩, ⟨l0, l1, l2, l3, l4⟩, ⟨r1, r2⟩, ⟨b1, b2⟩, bb, tb⟩ := x
  have dm : HDom h h' := fun b hb => by
    by_cases z : b = qb
    · rw [z, ha] at hb; cases hb
    · rw [← f b z]; exact hb
  have F : FL h h' Own lab (fun n => n = 3) := ⟨fun b => b = qb, ⟨fun b _ hn => f b hn, dm⟩, fun b hb => by subst hb; exact ⟨b1, l3⟩⟩
  exact ⟨Own, fv, lab, bg, fb, ⟨F.cc x1 fun b hb z => by have := l0 b hb; omega, F.tt x2 fun i hi z => by have := l1 i hi; omega, x3.dom dm, x4, F.kk x5⟩, ⟨l0, l1, l2, l3, fun j hj => l4 j (by omega)⟩, ⟨r1, F.pp r2 (by omega)⟩, ⟨b1, ha⟩, ⟨fun j hj => g1 j hj, g2⟩, fun j hj => F.tt (tb j (by omega)) fun i hi z => by have := l4 j (by omega) i hi; omega⟩
end LGS
