/-! from a random table to the loop of the changes -/
section LGH
variable {c : Nat → ClassId} {K : (Nat → Nat) × (Nat → Nat)} {h h' : HW} {ah : Nat → Nat} {ag : Nat → Nat → Nat} {ar : Nat → Nat} {ps ps' : PS} {s s' : HS} {A Ap : Nat → Nat} {T T' : TT} {qu qr qb : Nat} {AB : Nat → Nat → Nat} {B B' : Nat → TT} {mx np m M d dn k mc ms mcL msL : Nat} {sd : Int32} {rec4 : HW → Nat → Nat → Int32 → Int32 → Prop} {v2 : Nat} {O Own : Nat → Prop} {fv : Nat → Int64}
def QS (c : Nat → ClassId) (K : (Nat → Nat) × (Nat → Nat)) (h : HW) (ah : Nat → Nat) (ag : Nat → Nat → Nat) (ar : Nat → Nat) (ps : PS) (s : HS) (A : Nat → Nat) (T : TT) (qr : Nat) (sd : Int32) (O : Nat → Prop) (fv : Nat → Int64) : Prop :=
  CA c ah ag ar ps s h ∧ TabV c h O A T fv ∧ OwnOK h O ∧ (∀ b, b ∈ adL (wH c ah ag ar ps s) → O b) ∧ KC c K h O ∧ (O qr ∧ h qr = some (true, .inr (9, [.int sd]))) ∧ (∀ i, i < 6 → ¬ A i ∈ adL (wH c ah ag ar ps s)) ∧ ¬ qr ∈ adL (wH c ah ag ar ps s) ∧ ∀ i, i < 6 → ¬ A i = qr
theorem q_agrees {post : Int32 → HW → Prop} (x : QS c K h ah ag ar ps s A T qr sd O fv) (hS : SM ps s T B mx np m) (hc : 101 * np + 10 ≤ mc) (hs9 : 10100 * np + 60 ≤ ms) (hp : ∀ h' ps' fv', QS c K h' ah ag ar ps' s A T qr sd O fv' → SM ps' s T B mx np m → post 1 h') : w_L_agrees c K h (ah 0) (A 0) mc ms post := by
  obtain ⟨x1, x2, x3, x4, x5, ⟨x6, x7⟩, x8, x9, x10⟩ := x
  have V0 : LV c h ah ag ar ps s O A T fv := ⟨x1, x2, x3, x4, x8⟩
  refine s_agrees V0 hS hc hs9 fun h' ps' fv' V pm pq fx => hp h' ps' fv' ?_ (hS.pm pm)
  have eA : adL (wH c ah ag ar ps' s) = adL (wH c ah ag ar ps s) := adL_H2 pq
  have hX : ∀ b, XT c ah ag ar ps s A b → O b := fun b hb => hb.elim (fun z => x4 b z) fun z => by obtain ⟨i, hi, rfl⟩ := z; exact x2.own i hi
  refine ⟨V.ca, V.tb, V.ow, V.cl, x5.mv fun b hb hn => ⟨fx.1 b hb fun z => hn (hX b z), hn⟩, ⟨x6, (fx.1 qr (by rw [x7]; simp) fun z => ?_).trans x7⟩, by rw [eA]; exact x8, by rw [eA]; exact x9, x10⟩
  rcases z with z | ⟨i, hi, z⟩
  · exact x9 z
  · exact x10 i hi z.symm
theorem lab_st {L : List Nat} (h1 : ∀ i, i < 6 → ¬ A i ∈ L) (h2 : ¬ qr ∈ L) (h3 : ∀ i, i < 6 → ¬ A i = qr) (h4 : ¬ qb ∈ L) (h5 : ∀ i, i < 6 → ¬ A i = qb) (h6 : ¬ qr = qb) : ∃ lab : Nat → Nat, (∀ b, b ∈ L → lab b = 0) ∧ (∀ i, i < 6 → lab (A i) = 1) ∧ lab qr = 2 ∧ lab qb = 3 := by
  classical
  refine ⟨fun b => if b ∈ L then 0 else if ∃ i, i < 6 ∧ b = A i then 1 else if b = qr then 2 else 3, fun b hb => if_pos hb, fun i hi => (if_neg (h1 i hi)).trans (if_pos ⟨i, hi, rfl⟩), ?_, ?_⟩
  · refine (if_neg h2).trans ((if_neg ?_).trans (if_pos rfl))
    rintro ⟨i, hi, z⟩
    exact h3 i hi z.symm
  · refine (if_neg h4).trans ((if_neg ?_).trans (if_neg fun z => h6 z.symm))
    rintro ⟨i, hi, z⟩
    exact h5 i hi z.symm
theorem QS.lg (x : QS c K h ah ag ar ps s A T qr sd O fv) (hq : h qb = none) : LG c K (hup h qb (eQ (c 6) 9 (fun _ => none))) ah ag ar ps s A T qr qb AB B 0 0 sd := by
  obtain ⟨x1, x2, x3, x4, x5, ⟨x6, x7⟩, x8, x9, x10⟩ := x
  have e : Ext h (hup h qb (eQ (c 6) 9 (fun _ => none))) := Ext.new hq
  have nq : ∀ b, ¬ h b = none → ¬ b = qb := fun b hb z => hb (z ▸ hq)
  obtain ⟨lab, l0, l1, l2, l3⟩ := lab_st (qb := qb) x8 x9 x10 (fun z => nq _ (x3 _ (x4 _ z)) rfl) (fun i hi => nq _ (x2.def i hi)) (nq _ (x3 _ x6))
  have mm : ∀ b, ¬ h b = none → ¬ O b → hup h qb (eQ (c 6) 9 (fun _ => none)) b = h b ∧ ¬ OwnQ O qb b := fun b hb hn => ⟨e b hb, fun z => z.elim hn (nq b hb)⟩
  refine ⟨OwnQ O qb, fv, lab, (fun _ => none), (fun _ => fv), ⟨x1.fx (X := fun _ => False) e.fx fun _ _ z => z, x2.mv (fun i hi => e _ (x2.def i hi)) (fun i hi => Or.inl (x2.own i hi)) mm, x3.q e.dom (by rw [hup_s]; simp), fun b hb => Or.inl (x4 b hb), x5.mv mm⟩, ⟨l0, l1, l2, l3, fun j hj => absurd hj (Nat.not_lt_zero _)⟩, ⟨Or.inl x6, e.at x7⟩, ⟨Or.inr rfl, hup_s⟩, ⟨fun j hj => absurd hj (Nat.not_lt_zero _), fun _ _ => rfl⟩, fun j hj => absurd hj (Nat.not_lt_zero _)⟩
theorem l_158 {mx0 np0 : Nat} {T00 : TT} (gb : GB c h ah ag ar ps s qu qr Own) (w : WS c h ah ag ar ps s qu []) (hr : h qr = some (true, .inr (9, [.int sd]))) (kc : KC c K h Own) (rc : RC ps s T00 mx0 np0) (hc : mcL + 40094 ≤ mc) (hs9 : msL + 2856546 ≤ ms) (hrec : REC4 c K rec4 v2 mcL msL) : w_L_law_J158 c K rec4 (nI v2) (ah 0) qu qr h mc ms 1 := by
  unfold w_L_law_J158
  refine ⟨270, 16689, mc - 270, ms - 16689, by omega, by omega, ?_⟩
  refine s_rt (B := fun _ => T0) gb w hr kc rc (Nat.le_refl _) (Nat.le_refl _) fun h1 ps1 s1 O1 A1 T1 fv1 mx1 np1 sd1 R => ⟨A1 0, rfl, fun z => absurd z (by decide), fun _ => ?_⟩
  obtain ⟨r1, r2, r3, -, r5, r6, r7, r8, r9, r10, r11, r12, r13, r14, r15⟩ := R
  have hq0 : ¬ h qr = none := by rw [hr]; simp
  have x : QS c K h1 ah ag ar ps1 s1 A1 T1 qr sd1 O1 fv1 := ⟨r1, r6, r8, r9, r7, ⟨r13 _ gb.2.2.1, r5⟩, r11, fun z => (r15 _ z).elim (fun z => gb.2.2.2 (Or.inl z)) hq0, fun i hi z => hq0 (z ▸ r12 i hi)⟩
  obtain ⟨hs, hb, tn, pa, f, e, n, G⟩ := r2.1
  have hnp := (G.2.1.tw G.1).np
  refine ⟨101 * np1 + 10, 10100 * np1 + 60, mc - 270 - (101 * np1 + 10), ms - 16689 - (10100 * np1 + 60), by omega, by omega, q_agrees x r2 (Nat.le_refl _) (Nat.le_refl _) fun h2 ps2 fv2 x2 hS2 => ⟨fun z => absurd z (by decide), fun _ => ?_⟩⟩
  unfold w_L_law_J193 w_L_law_J194
  refine ⟨by decide, by decide, mc - 270 - (101 * np1 + 10) - 1, ms - 16689 - (10100 * np1 + 60) - 9, by omega, ?_, fun q196 hq => ?_⟩
  · show ms - 16689 - (10100 * np1 + 60) = ms - 16689 - (10100 * np1 + 60) - 9 + 9
    omega
  · have y : LG c K (hup h2 q196 (eQ (c 6) 9 (fun _ => none))) ah ag ar ps2 s1 A1 T1 qr q196 (fun _ => A1) (fun _ => T0) 0 0 sd1 := x2.lg hq
    exact l_207 y hS2 r3 (by omega) (by omega) hrec
end LGH
