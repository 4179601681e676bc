/-! the end of a step of the law: the array of tables, and whether they agree -/
theorem i_stO {h : HW} {ci : Nat} {cA : ClassId} {a n k : Nat} {f : Nat → Option Nat} {o : Option Nat} {P : HW → Prop} (ha : h a = some (true, eQ cA n f)) (hk : k < n) (hn : n < 2 ^ 31) (ho : ∀ v : Nat, o = some v → ∃ w vs, h v = some (w, .inr (ci, vs))) (hp : P (hup h a (eQ cA n (va_up f k o)))) : stO h ci cA a (nI k) o P := ⟨n, f, ha, vin hk hn, ho, by rw [nI_clamp (by omega)]; exact hp⟩
section LGD
variable {c : Nat → ClassId} {K : (Nat → Nat) × (Nat → Nat)} {h h' : HW} {ah : Nat → Nat} {ag : Nat → Nat → Nat} {ar : Nat → Nat} {ps ps' : PS} {s s' : HS} {A Ap : Nat → Nat} {T T' : TT} {qr qb : Nat} {AB : Nat → Nat → Nat} {B B' : Nat → TT} {mx np hs hb tn pa f e n m M d dn k mc ms mc0 ms0 : Nat} {sd : Int32} {rec : HW → Nat → Nat → Int32 → Int32 → Int32 → Prop}
abbrev RECT (c : Nat → ClassId) (K : (Nat → Nat) × (Nat → Nat)) (ah : Nat → Nat) (ag : Nat → Nat → Nat) (ar : Nat → Nat) (A : Nat → Nat) (qr qb mx np : Nat) (rec : HW → Nat → Nat → Int32 → Int32 → Int32 → Prop) (k mc ms : Nat) : Prop := ∀ (h' : HW) (ps' : PS) (s' : HS) (T' : TT) (AB' : Nat → Nat → Nat) (B' : Nat → TT) (dn' : Nat) (sd' : Int32) (m9 s9 : Nat), dn' ≤ k + 1 → LG c K h' ah ag ar ps' s' A T' qr qb AB' B' (min dn' 9) 0 sd' → SM ps' s' T' B' mx np (min dn' 8) → mc ≤ m9 → ms ≤ s9 → rec h' m9 s9 1 (nI dn') (nI (k + 1))
theorem l_838 (x : LG c K h ah ag ar ps s A T qr qb AB B (min dn 9) 0 sd) (hS : SM ps s T B mx np (min dn 8)) (hn4 : np ≤ 4) (hdn : dn ≤ k + 1) (hc : mc0 + 414 ≤ mc) (hs9 : ms0 + 40460 ≤ ms) (hrec : RECT c K ah ag ar A qr qb mx np rec k mc0 ms0) : w_L_law_J838 c K (ah 0) (A 0) rec (nI k) 1 h mc ms (nI dn) := by
  unfold w_L_law_J838
  refine ⟨fun z => absurd z (by decide), fun _ => ⟨101 * np + 10, 10100 * np + 60, mc - (101 * np + 10), ms - (10100 * np + 60), by omega, by omega, l_agrees x hS (Nat.le_refl _) (Nat.le_refl _) fun h' ps' x' hS' => ⟨fun z => absurd z (by decide), fun _ => ?_⟩⟩⟩
  unfold w_L_law_J856 w_L_law_J857
  intro x857 e857
  rw [nI_1] at e857
  subst e857
  exact hrec h' ps' s T AB B dn sd _ _ hdn x' hS' (by omega) (by omega)
/-- nothing was changed -/
theorem l_797n {a220 : Nat} (x : LG c K h ah ag ar ps s A T' qr qb (shA Ap AB) (shB T B) (min dn 9) 1 sd) (hS : SM ps s T' B mx np (min dn 8)) (hn4 : np ≤ 4) (hdn : dn ≤ k + 1) (hc : mc0 + 414 ≤ mc) (hs9 : ms0 + 40460 ≤ ms) (hrec : RECT c K ah ag ar A qr qb mx np rec k mc0 ms0) : w_L_law_J797 c K (ah 0) (A 0) qb rec (nI dn) (nI k) a220 h mc ms 1 0 := by
  unfold w_L_law_J797
  exact ⟨fun _ => l_838 x.drop hS hn4 hdn hc hs9 hrec, fun z => absurd rfl z⟩
/-- something was changed: the tables before move up -/
theorem l_797y (x : LG c K h ah ag ar ps s A T' qr qb (shA Ap AB) B (min dn 9) 1 sd) (hS : SM ps s T' B mx np (min (min dn 8 + 1) 8)) (hn4 : np ≤ 4) (hdn : dn ≤ k) (hc : mc0 + 414 ≤ mc) (hs9 : ms0 + 40460 ≤ ms) (hrec : RECT c K ah ag ar A qr qb mx np rec k mc0 ms0) : w_L_law_J797 c K (ah 0) (A 0) qb rec (nI dn) (nI k) (Ap 0) h mc ms 1 1 := by
  obtain ⟨Own, fv, lab, bf, fb, x⟩ := x
  have x0 := x
  obtain ⟨⟨x1, x2, x3, x4, x5⟩, ⟨l0, l1, l2, l3, l4⟩, ⟨r1, r2⟩, ⟨b1, b2⟩, ⟨bb1, bb2⟩, tb⟩ := x
  have obj : ∀ (h9 : HW), (∀ b, ¬ b = qb → h9 b = h b) → ∀ j, j < min dn 9 + 1 → ∃ w vs, h9 (shA Ap AB j 0) = some (w, .inr (10, vs)) := fun h9 hh j hj => by
    obtain ⟨w, vs, hv⟩ := t_rc (tb j hj)
    have hne : ¬ shA Ap AB j 0 = qb := fun z => by have := l4 j hj 0 (by omega); rw [z, l3] at this; omega
    exact ⟨w, vs, (hh _ hne).trans hv⟩
  unfold w_L_law_J797
  refine ⟨fun z => absurd z (by decide), fun _ => ?_⟩
  refine cpL4 (fun i (h9 : HW) (m9 s9 : Nat) (v12 : Int32) => m9 = mc ∧ s9 = ms ∧ v12 = nI (8 - i) ∧ (∀ b, ¬ b = qb → h9 b = h b) ∧ ∃ g : Nat → Option Nat, h9 qb = some (true, eQ (c 6) 9 g) ∧ ∀ j, g j = if 8 - i < j ∧ j ≤ 8 then bf (j - 1) else bf j) 8 ?_ ?_ 0 (by omega) _ _ _ _ ⟨rfl, rfl, rfl, fun _ _ => rfl, bf, b2, fun j => (if_neg (by omega)).symm⟩
  · rintro rec9 h9 m9 s9 v12 ⟨rfl, rfl, rfl, hh, g, hg, hgj⟩
    unfold w_L_law_B806
    refine ⟨fun _ => ?_, fun z => absurd (by decide) z⟩
    refine i_stO (k := 0) hg (by omega) (by omega) (fun v hv => by cases hv; exact obj h9 hh 0 (by omega)) ?_
    intro x835 e835
    rw [nI_1] at e835
    subst e835
    have hb' : ∀ b, ¬ b = qb → hup h9 qb (eQ (c 6) 9 (va_up g 0 (some (Ap 0)))) b = h b := fun b hb => (hup_n hb).trans (hh b hb)
    have y : LG c K (hup h9 qb (eQ (c 6) 9 (va_up g 0 (some (Ap 0))))) ah ag ar ps s A T' qr qb (shA Ap AB) B (min (dn + 1) 9) 0 sd := by
      refine x0.arr hup_s hb' (by omega) (fun j hj => ?_) (fun j hj => ?_)
      · by_cases hj0 : j = 0
        · rw [hj0]; exact if_pos rfl
        · refine (if_neg hj0).trans ?_
          rw [hgj j, if_pos (by omega), bb1 (j - 1) (by omega), show j - 1 + 1 = j by omega]
      · refine (if_neg (by omega)).trans ?_
        rw [hgj j]
        split
        · exact bb2 _ (by omega)
        · exact bb2 _ (by omega)
    rw [show min (min dn 8 + 1) 8 = min (dn + 1) 8 by omega] at hS
    exact l_838 y hS hn4 (by omega) hc hs9 hrec
  · rintro rec9 i h9 m9 s9 v12 hi ⟨rfl, rfl, rfl, hh, g, hg, hgj⟩ hrec9
    unfold w_L_law_B806
    refine br_le0 (by omega) (fun z => by omega) (fun _ => ?_)
    intro x820 e820
    rw [show (1 : Int32) = nI 1 from rfl, nI_sub (by omega)] at e820
    subst e820
    refine i_lQ (k := 8 - i - 1) hg (by omega) (by omega) ?_
    have eg : g (8 - i - 1) = bf (8 - i - 1) := by rw [hgj, if_neg (by omega)]
    refine i_stO (k := 8 - i) hg (by omega) (by omega) (fun v hv => ?_) ?_
    · rw [eg] at hv
      have hlt : 8 - i - 1 < min dn 9 := Classical.byContradiction fun z => by rw [bb2 _ (by omega)] at hv; cases hv
      rw [bb1 _ hlt] at hv
      cases hv
      exact obj h9 hh _ (by omega)
    · intro x823 e823
      have e823 : x823 = nI (8 - (i + 1)) := by
        rw [e823, show 8 - i = 8 - (i + 1) + 1 by omega, nI_succ, Int32.add_assoc]
        exact Int32.add_zero _
      refine hrec9 _ _ _ _ ⟨rfl, rfl, e823, fun b hb => (hup_n hb).trans (hh b hb), _, hup_s, fun j => ?_⟩
      show (if j = 8 - i then g (8 - i - 1) else g j) = _
      by_cases hj : j = 8 - i
      · rw [if_pos hj, eg, if_pos (by omega), hj]
      · rw [if_neg hj, hgj j]
        by_cases h1 : 8 - i < j ∧ j ≤ 8
        · rw [if_pos h1, if_pos (by omega)]
        · rw [if_neg h1, if_neg (by omega)]
end LGD
