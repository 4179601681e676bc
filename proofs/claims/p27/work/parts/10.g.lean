/-! the best play: one and the same, whatever the order of the hand -/
def isB (r : Nat → Int) (S : Nat → Prop) : Option Nat → Prop
  | none => ∀ v, ¬ S v
  | some v => S v ∧ ∀ w, S w → r w < r v ∨ (r w = r v ∧ v ≤ w)
theorem isB_uniq {r : Nat → Int} {S : Nat → Prop} : ∀ {a b : Option Nat}, isB r S a → isB r S b → a = b
  | none, none, _, _ => rfl
  | none, some v, h1, h2 => absurd h2.1 (h1 v)
  | some v, none, h1, h2 => absurd h1.1 (h2 v)
  | some v, some w, h1, h2 => by
    have a := h1.2 w h2.1
    have b := h2.2 v h1.1
    have : v = w := by omega
    rw [this]
theorem isB.cg {r : Nat → Int} {S S' : Nat → Prop} {b : Option Nat} (h : isB r S b) (e : ∀ v, S' v ↔ S v) : isB r S' b := by
  have : S' = S := funext fun v => propext (e v)
  rw [this]; exact h
theorem isB.take {r : Nat → Int} {S S' : Nat → Prop} {b : Option Nat} {v : Nat} (h : isB r S b) (e : ∀ w, S' w ↔ S w ∨ w = v) (hb : ∀ w, b = some w → r w < r v ∨ (r w = r v ∧ v ≤ w)) : isB r S' (some v) := by
  refine ⟨(e v).mpr (Or.inr rfl), fun w hw => ?_⟩
  rcases (e w).mp hw with h1 | h1
  · cases b with
    | none => exact absurd h1 (h w)
    | some u =>
      have a := h.2 w h1
      have b := hb u rfl
      omega
  · rw [h1]; exact Or.inr ⟨rfl, Nat.le_refl _⟩
theorem isB.keep {r : Nat → Int} {S S' : Nat → Prop} {v w : Nat} (h : isB r S (some w)) (e : ∀ w, S' w ↔ S w ∨ w = v) (hb : r v < r w ∨ (r v = r w ∧ w ≤ v)) : isB r S' (some w) := by
  refine ⟨(e w).mpr (Or.inl h.1), fun u hu => ?_⟩
  rcases (e u).mp hu with h1 | h1
  · exact h.2 u h1
  · rw [h1]; exact hb
theorem cl6_rg (v : Int64) : -1000000 ≤ (cl6 v).toInt ∧ (cl6 v).toInt ≤ 1000000 := by
  have h1 : (1000000 : Int64).toInt = 1000000 := by decide
  have h2 : (-1000000 : Int64).toInt = -1000000 := by decide
  unfold cl6
  by_cases a : v < 1000000
  · rw [if_pos a]
    by_cases b : v < -1000000
    · rw [if_pos b]; omega
    · rw [if_neg b]
      have a1 := Int64.lt_iff_toInt_lt.mp a
      have b1 := Int64.le_iff_toInt_le.mp (Int64.not_lt.mp b)
      omega
  · rw [if_neg a, if_neg (show ¬ (1000000 : Int64) < -1000000 by decide)]; omega
def inR (v : Int64) : Prop := -1000000 ≤ v.toInt ∧ v.toInt ≤ 1000000
theorem inR_nI {k : Nat} (h : k ≤ 1000000) : inR (nI k).toInt64 := by
  unfold inR
  rw [Int32.toInt_toInt64, nI_toInt (by omega)]
  omega
theorem nval_rg {v : Nat → Int64} (hv : ∀ k, k < 5 → inR (v k)) : ∀ (d : Nat) (nd : NT d), okN d nd → inR (nval d nd v) := by
  have leaf : ∀ q : Nat × Nat, okL q → inR (lval q v) := by
    intro q hq
    unfold lval
    rcases hq with ⟨h1, h2⟩ | ⟨h1, h2⟩
    · rw [if_pos h1]; exact inR_nI (by omega)
    · rw [if_neg (by omega)]; exact hv _ (by omega)
  intro d
  cases d with
  | zero => exact fun nd h => leaf nd h
  | succ d =>
    intro nd h
    rcases h with h | ⟨h1, h2, h3, h4⟩
    · have z : nd.1.1 < 2 := by rcases h with z | z <;> omega
      have e2 : nval (d + 1) nd v = lval nd.1 v := if_pos z
      rw [e2]; exact leaf _ h
    · have z : ¬ nd.1.1 < 2 := by omega
      have e2 : nval (d + 1) nd v = cl6 (nvOp nd.1.1 (nval d nd.2.1 v) (nval d nd.2.2 v)) := if_neg z
      rw [e2]; exact cl6_rg _
theorem i32_sub {a b : Int32} (ha : -1000000 ≤ a.toInt ∧ a.toInt ≤ 1000000) (hb : -1000000 ≤ b.toInt ∧ b.toInt ≤ 1000000) : (a - b).toInt = a.toInt - b.toInt := by
  rw [Int32.toInt_sub]
  exact Int.bmod_eq_of_le (by omega) (by omega)
def okM (T : TT) : Prop := ∀ m, tM T = some m → okN m.1 m.2
section RTG
variable {T : TT} {mx np hs hb tn pa : Nat}
theorem rank_rg (w : TW T mx np hs hb tn pa) (hM : okM T) {x t : Nat} (hx : x < 100) : -1000000 ≤ (rankT T np tn x t).toInt ∧ (rankT T np tn x t).toInt ≤ 1000000 := by
  have hH := (w.H tn).2
  unfold rankT
  split
  · rw [nI_toInt (by omega)]; omega
  · rename_i m hm
    have hb64 : ∀ (p : Prop) [Decidable p], inR (b64 p) := fun p _ => by
      unfold b64
      split
      · exact ⟨by decide, by decide⟩
      · exact ⟨by decide, by decide⟩
    have := nval_rg (v := rvar T np tn x t) (fun k hk => by
      unfold rvar
      split
      · exact inR_nI (by omega)
      · split
        · exact hb64 _
        · split
          · exact hb64 _
          · split
            · exact hb64 _
            · unfold inR
              rw [Int32.toInt_toInt64]
              have h1 : (nI (hnd T tn).length).toInt = ((hnd T tn).length : Int) := nI_toInt (by omega)
              have := i32_sub (a := nI (hnd T tn).length) (b := 1) (by rw [h1]; omega) (by decide)
              rw [this, h1, show (1 : Int32).toInt = 1 from rfl]
              omega) m.1 m.2 (hM m hm)
    rw [Int64.toInt_toInt32, Int.bmod_eq_of_le (by unfold inR at this; omega) (by unfold inR at this; omega)]
    exact this
def rkI (T : TT) (np tn v : Nat) : Int := (rankT T np tn (v / 10) (v % 10)).toInt
theorem enc_dm {x t : Nat} (ht : t ≤ 9) : (10 * x + t) / 10 = x ∧ (10 * x + t) % 10 = t := by omega
def tS (T : TT) (np hb tn : Nat) (l : List Nat) (x k v : Nat) : Prop := whyT T hb tn (v / 10) (v % 10) = 0 ∧ ((v / 10 ∈ l ∧ v % 10 ≤ np) ∨ (v / 10 = x ∧ v % 10 < k))
theorem bsT_isB (w : TW T mx np hs hb tn pa) (hM : okM T) {l : List Nat} {x t : Nat} {b : Option Nat} (hx : x < 100) (ht : t ≤ np) (hb1 : ∀ v, b = some v → v / 10 < 100) (h : isB (rkI T np tn) (tS T np hb tn l x t) b) : isB (rkI T np tn) (tS T np hb tn l x (t + 1)) (bsT T np hb tn b x t) ∧ ∀ v, bsT T np hb tn b x t = some v → v / 10 < 100 := by
  have hnp := w.np
  obtain ⟨e1, e2⟩ := enc_dm (x := x) (t := t) (by omega)
  have hr : rkI T np tn (10 * x + t) = (rankT T np tn x t).toInt := by unfold rkI; rw [e1, e2]
  have hrx := rank_rg w hM (t := t) hx
  by_cases hy : whyT T hb tn x t = 0
  · have he : ∀ v, tS T np hb tn l x (t + 1) v ↔ tS T np hb tn l x t v ∨ v = 10 * x + t := by
      intro v
      unfold tS
      constructor
      · rintro ⟨h1, h2 | ⟨h2, h3⟩⟩
        · exact Or.inl ⟨h1, Or.inl h2⟩
        · by_cases hz : v % 10 = t
          · exact Or.inr (by omega)
          · exact Or.inl ⟨h1, Or.inr ⟨h2, by omega⟩⟩
      · rintro (⟨h1, h2 | ⟨h2, h3⟩⟩ | rfl)
        · exact ⟨h1, Or.inl h2⟩
        · exact ⟨h1, Or.inr ⟨h2, by omega⟩⟩
        · rw [e1, e2]
          exact ⟨hy, Or.inr ⟨rfl, by omega⟩⟩
    cases b with
    | none =>
      rw [bsT_none hy]
      exact ⟨h.take he (fun w hw => by cases hw), fun v hv => by cases hv; omega⟩
    | some u =>
      have hu := hb1 u rfl
      have hru := rank_rg w hM (x := u / 10) (t := u % 10) hu
      have hsub := i32_sub hrx hru
      have h0 : (0 : Int32).toInt = 0 := rfl
      have hru2 : rkI T np tn u = (rankT T np tn (u / 10) (u % 10)).toInt := rfl
      by_cases hq : 0 < rankT T np tn x t - rankT T np tn (u / 10) (u % 10) ∨ (rankT T np tn x t - rankT T np tn (u / 10) (u % 10) = 0 ∧ 10 * x + t < u)
      · rw [bsT_yes hy hq]
        refine ⟨h.take he fun w hw => ?_, fun v hv => by cases hv; omega⟩
        cases hw
        rw [hr, hru2]
        rcases hq with hq | ⟨hq, hq2⟩
        · have := Int32.lt_iff_toInt_lt.mp hq
          rw [hsub, h0] at this
          left; omega
        · have := congrArg Int32.toInt hq
          rw [hsub, h0] at this
          right; omega
      · rw [bsT_not hy hq]
        refine ⟨h.keep he ?_, hb1⟩
        rw [hr, hru2]
        simp only [not_or, not_and] at hq
        have h3 : ¬ (0 : Int) < (rankT T np tn x t).toInt - (rankT T np tn (u / 10) (u % 10)).toInt := fun z => hq.1 (Int32.lt_iff_toInt_lt.mpr (by rw [hsub, h0]; exact z))
        by_cases h4 : (rankT T np tn x t).toInt - (rankT T np tn (u / 10) (u % 10)).toInt = 0
        · have h5 := hq.2 (Int32.toInt_inj.mp (by rw [hsub, h0]; exact h4))
          right; omega
        · left; omega
  · rw [bsT_no hy]
    refine ⟨h.cg fun v => ?_, hb1⟩
    unfold tS
    constructor
    · rintro ⟨h1, h2 | ⟨h2, h3⟩⟩
      · exact ⟨h1, Or.inl h2⟩
      · refine ⟨h1, Or.inr ⟨h2, ?_⟩⟩
        by_cases hz : v % 10 = t
        · rw [h2, hz] at h1; exact absurd h1 hy
        · omega
    · rintro ⟨h1, h2 | ⟨h2, h3⟩⟩
      · exact ⟨h1, Or.inl h2⟩
      · exact ⟨h1, Or.inr ⟨h2, by omega⟩⟩
theorem brT_s {b : Option Nat} {x k : Nat} : brT T np hb tn b x (k + 1) = bsT T np hb tn (brT T np hb tn b x k) x k := by
  unfold brT
  rw [List.range_succ, List.foldl_append]
  rfl
theorem brT_isB (w : TW T mx np hs hb tn pa) (hM : okM T) {l : List Nat} {x : Nat} {b : Option Nat} (hx : x < 100) (hb1 : ∀ v, b = some v → v / 10 < 100) (h : isB (rkI T np tn) (tS T np hb tn l x 0) b) : ∀ k, k ≤ np + 1 → isB (rkI T np tn) (tS T np hb tn l x k) (brT T np hb tn b x k) ∧ ∀ v, brT T np hb tn b x k = some v → v / 10 < 100
  | 0, _ => ⟨h, hb1⟩
  | k + 1, hk => by
    obtain ⟨i1, i2⟩ := brT_isB w hM hx hb1 h k (by omega)
    rw [brT_s]
    exact bsT_isB w hM hx (by omega) i2 i1
theorem blT_isB (w : TW T mx np hs hb tn pa) (hM : okM T) : ∀ (l2 l1 : List Nat) (b : Option Nat), (∀ x ∈ l2, x < 100) → (∀ v, b = some v → v / 10 < 100) → isB (rkI T np tn) (tS T np hb tn l1 0 0) b → isB (rkI T np tn) (tS T np hb tn (l1 ++ l2) 0 0) (blT T np hb tn b l2)
  | [], l1, b, _, _, h => by rw [List.append_nil]; exact h
  | x :: l2, l1, b, hx, hb1, h => by
    have hx0 := hx x (List.mem_cons_self ..)
    obtain ⟨i1, i2⟩ := brT_isB (l := l1) (x := x) w hM hx0 hb1 (h.cg fun v => by unfold tS; simp) (np + 1) (Nat.le_refl _)
    have := blT_isB w hM l2 (l1 ++ [x]) _ (fun y hy => hx y (List.mem_cons_of_mem _ hy)) i2 (i1.cg fun v => by
      unfold tS
      rw [List.mem_append, List.mem_singleton]
      constructor
      · rintro ⟨h1, ⟨h2 | h2, h3⟩ | ⟨-, h2⟩⟩
        · exact ⟨h1, Or.inl ⟨h2, h3⟩⟩
        · exact ⟨h1, Or.inr ⟨h2, by omega⟩⟩
        · omega
      · rintro ⟨h1, ⟨h2, h3⟩ | ⟨h2, h3⟩⟩
        · exact ⟨h1, Or.inl ⟨Or.inl h2, h3⟩⟩
        · exact ⟨h1, Or.inl ⟨Or.inr h2, by omega⟩⟩)
    rw [List.append_assoc] at this
    exact this
def bS (T : TT) (np hb tn v : Nat) : Prop := whyT T hb tn (v / 10) (v % 10) = 0 ∧ v / 10 < 100 ∧ v % 10 ≤ np
theorem why_mem {x t : Nat} (h : whyT T hb tn x t = 0) : x ∈ hnd T tn ∧ T.1 7 = 0 := by
  unfold whyT at h
  by_cases h1 : T.1 7 = 0
  · rw [if_pos h1] at h
    by_cases h2 : x ∈ hnd T tn
    · exact ⟨h2, h1⟩
    · rw [if_neg h2] at h; exact absurd h (by decide)
  · rw [if_neg h1] at h; exact absurd h (by decide)
theorem best_isB (w : TW T mx np hs hb tn pa) (hM : okM T) : isB (rkI T np tn) (bS T np hb tn) (bestT T np hb tn) := by
  have hH := (w.H tn).1
  have := blT_isB w hM (hnd T tn) [] none hH (fun v hv => by cases hv) (fun v hv => by
    unfold tS at hv
    rcases hv with ⟨-, ⟨h1, -⟩ | ⟨-, h1⟩⟩
    · cases h1
    · omega)
  refine this.cg fun v => ?_
  unfold bS tS
  rw [List.nil_append]
  constructor
  · rintro ⟨h1, h2, h3⟩; exact ⟨h1, Or.inl ⟨(why_mem h1).1, h3⟩⟩
  · rintro ⟨h1, ⟨h2, h3⟩ | ⟨-, h2⟩⟩
    · exact ⟨h1, hH _ h2, h3⟩
    · omega
theorem best_none (w : TW T mx np hs hb tn pa) (hM : okM T) (h : bestT T np hb tn = none) : plyT T np hb tn = 0 := by
  have hnp := w.np
  have hi := best_isB w hM
  rw [h] at hi
  have hi : ∀ v, ¬ bS T np hb tn v := hi
  show playsL T np hb tn (hnd T tn) = 0
  unfold playsL
  have hz : ∀ x ∈ hnd T tn, plT T np hb tn x = 0 := by
    intro x hx
    unfold plT
    rcases Nat.eq_zero_or_pos (cn (fun t => decide (whyT T hb tn x t = 0)) 0 (np + 1)) with z | z
    · exact z
    · exfalso
      have : ∀ n, n ≤ np + 1 → cn (fun t => decide (whyT T hb tn x t = 0)) 0 n = 0 := by
        intro n
        induction n with
        | zero => intro _; rfl
        | succ n ih =>
          intro hn
          rw [cn_snoc, ih (by omega), Nat.zero_add, Nat.zero_add, if_neg]
          rw [decide_eq_true_eq]
          intro y
          obtain ⟨e1, e2⟩ := enc_dm (x := x) (t := n) (by omega)
          exact hi (10 * x + n) ⟨by rw [e1, e2]; exact y, by rw [e1]; exact (w.H tn).1 x hx, by rw [e2]; omega⟩
      rw [this (np + 1) (Nat.le_refl _)] at z
      omega
  have : ∀ l : List Nat, (∀ x ∈ l, plT T np hb tn x = 0) → (l.map (fun x => plT T np hb tn x)).sum = 0 := by
    intro l
    induction l with
    | nil => intro _; rfl
    | cons a l ih =>
      intro hl
      rw [List.map_cons, List.sum_cons, hl a (List.mem_cons_self ..), ih fun x hx => hl x (List.mem_cons_of_mem _ hx)]
  exact this _ hz
end RTG
