/-! refused calls -/
section REF
variable {ps : PS} {s : HS} {T : TT} {mx np hs hb tn pa f e n : Nat}
theorem noTrain {t : Int32} (h1 : s.2.1.1.1 1 = nI np) (hn4 : np ≤ 4) (ht : t < 0 ∨ nI np < t) : t_X7_checkTrain s t = some "java/lang/IndexOutOfBoundsException" := by
  unfold t_X7_checkTrain
  by_cases h : t < 0
  · rw [if_pos h]
  · rw [if_neg h, h1, if_neg (Int32.not_le.mpr (ht.resolve_left h))]
theorem noPlayer {t : Int32} (h1 : s.2.1.1.1 1 = nI np) (hn4 : np ≤ 4) (ht : t < 0 ∨ nI np ≤ t) : t_X7_checkPlayer s t = some "java/lang/IndexOutOfBoundsException" := by
  unfold t_X7_checkPlayer
  by_cases h : t < 0
  · rw [if_pos h]
  · rw [if_neg h, h1, if_neg (Int32.not_lt.mpr (ht.resolve_left h))]
theorem tTrain {t : Nat} (h1 : s.2.1.1.1 1 = nI np) (hn4 : np ≤ 4) (ht : t ≤ np) : t_X7_checkTrain s (nI t) = none := by
  unfold t_X7_checkTrain
  rw [if_neg (nI_lt0 (by omega)), h1, ie_le (by omega) (by omega), if_pos ht]
theorem tTile {c : Nat} (h0 : s.2.1.1.1 0 = nI mx) (hm : mx ≤ 9) (hc : c < 100) (hi : inS mx c) : t_X7_checkTile s (nI c) = none := by
  unfold t_X7_checkTile
  rw [e_inSet h0 hm hc, bd1_S, if_pos (show c / 10 ≤ c % 10 ∧ c % 10 ≤ mx from hi), if_neg (by decide)]
theorem noTile {c : Nat} (h0 : s.2.1.1.1 0 = nI mx) (hm : mx ≤ 9) (hc : c < 100) (hi : ¬ inS mx c) : t_X7_checkTile s (nI c) = some "java/lang/IllegalArgumentException" := by
  unfold t_X7_checkTile
  rw [e_inSet h0 hm hc, bd1_S, if_neg (show ¬ (c / 10 ≤ c % 10 ∧ c % 10 ≤ mx) from hi), if_pos rfl]
theorem noTileB {v : Int32} (h : v < 0 ∨ 100 ≤ v) : t_X7_checkTile s v = some "java/lang/IllegalArgumentException" := by
  unfold t_X7_checkTile
  rw [e_inSetOut h, bd1_S, if_pos rfl]
theorem th_N {α : Type} {k : Option α} : th none k = k := rfl
theorem th_S {α : Type} {E : α} {k : Option α} : th (some E) k = some E := rfl
theorem noAllowed {p : Prop} [Decidable p] (h : ¬ p) : t_X7_checkAllowed (if p then 1 else 0) = some "java/lang/IllegalStateException" := by
  unfold t_X7_checkAllowed
  rw [if_neg h, if_pos rfl]
theorem GE.play1 (G : GE ps s.2.1 T mx np hs hb tn pa f e n) {c : Int32} {t : Nat} (ht : np < t) (h9 : t < 2 ^ 31) : t_X7_play s c (nI t) = some "java/lang/IndexOutOfBoundsException" := by
  have i := G.1
  have := i.np
  unfold t_X7_play
  rw [noTrain i.np.1 i.np.2.2 (Or.inr ((nI_ltI (by omega) h9).mpr ht)), th_S]
theorem GE.play2 (G : GE ps s.2.1 T mx np hs hb tn pa f e n) {c t : Nat} (ht : t ≤ np) (hc : c < 100) (hi : ¬ inS mx c) : t_X7_play s (nI c) (nI t) = some "java/lang/IllegalArgumentException" := by
  have i := G.1
  unfold t_X7_play
  rw [tTrain i.np.1 i.np.2.2 ht, th_N, okTrain i.np.1 i.np.2.2 ht, bd1_S, noTile i.mx.1 i.mx.2.2 hc hi, th_S]
theorem GE.play3 (G : GE ps s.2.1 T mx np hs hb tn pa f e n) {c t : Nat} (ht : t ≤ np) (hc : c < 100) (hi : inS mx c) (hy : ¬ whyT T hb tn c t = 0) : t_X7_play s (nI c) (nI t) = some "java/lang/IllegalStateException" := by
  have i := G.1
  unfold t_X7_play
  rw [tTrain i.np.1 i.np.2.2 ht, th_N, okTrain i.np.1 i.np.2.2 ht, bd1_S, tTile i.mx.1 i.mx.2.2 hc hi, th_N, okTile i.mx.1 i.mx.2.2 hc hi, bd1_S, e_canPlay i.np.1 i.np.2.2 i.E hc ht, bd1_S, noAllowed (by rw [G.2.1.why i hc ht]; exact hy), th_S]
theorem GE.draw1 (G : GE ps s.2.1 T mx np hs hb tn pa f e n) (hd : ¬ tDr T np hb tn) : t_X7_draw s = some "java/lang/IllegalStateException" := by
  unfold t_X7_draw
  rw [c_mayDraw G.1, bd1_S, noAllowed (fun z => hd ((G.2.1.mayD G.1).mp z)), th_S]
theorem GE.pass1 (G : GE ps s.2.1 T mx np hs hb tn pa f e n) (hd : ¬ tPa T np hb tn) : t_X7_pass s = some "java/lang/IllegalStateException" := by
  unfold t_X7_pass
  rw [c_mayPass G.1, bd1_S, noAllowed (fun z => hd ((G.2.1.mayP G.1).mp z)), th_S]
theorem GE.deal1 (G : GE ps s.2.1 T mx np hs hb tn pa f e n) {hub : Nat} {seed : Int32} (hh : mx < hub) (h9 : hub < 2 ^ 31) : t_X7_deal s (nI hub) seed = some "java/lang/IllegalArgumentException" := by
  unfold t_X7_deal
  rw [if_neg (nI_lt0 h9), G.1.mx.1, ie_lt (by have := G.1.mx; omega) h9, if_pos hh]
theorem GE.deal2 (G : GE ps s.2.1 T mx np hs hb tn pa f e n) {hub seed : Nat} (hh : hub ≤ mx) (hsd : seed ≤ 9999) (hov : T.1 7 = 0) : t_X7_deal s (nI hub) (nI seed) = some "java/lang/IllegalStateException" := by
  have hmx := G.1.mx
  have h8 : s.2.1.1.1 8 = 0 := by rw [← G.2.1.S.2.2.2.2.2.2.2.1]; exact hov
  unfold t_X7_deal
  rw [if_neg (nI_lt0 (by omega)), hmx.1, ie_lt (by omega) (by omega), if_neg (by omega), if_neg (nI_lt0 (by omega)), i_9999, ie_le (by omega) (by omega), if_pos hsd, h8]
  rfl
theorem auto0 : t_X7_auto s ps 0 = some "java/lang/IllegalArgumentException" := by
  unfold t_X7_auto
  rw [if_pos (by decide)]
theorem state13 : t_X7_state s 13 = some "java/lang/IllegalArgumentException" := by
  unfold t_X7_state
  rfl
theorem load1 (h : s.2.2.2.2.1.2.1.1 0 = 0) : t_X7_load s 1 = some "java/lang/IllegalArgumentException" := by
  unfold t_X7_load
  rw [if_neg (by decide), h, if_neg (by decide)]
theorem GE.player1 (G : GE ps s.2.1 T mx np hs hb tn pa f e n) {w : Int32} : t_X7_player s (nI np) w = some "java/lang/IndexOutOfBoundsException" := by
  unfold t_X7_player
  rw [noPlayer G.1.np.1 G.1.np.2.2 (Or.inr (Int32.le_refl _)), th_S]
theorem GE.train1 (G : GE ps s.2.1 T mx np hs hb tn pa f e n) {w : Int32} : t_X7_train s (nI (np + 1)) w = some "java/lang/IndexOutOfBoundsException" := by
  have := G.1.np
  unfold t_X7_train
  rw [noTrain G.1.np.1 G.1.np.2.2 (Or.inr ((nI_ltI (by omega) (by omega)).mpr (by omega))), th_S]
theorem c_tileNo {g : GS} {p k : Int32} (hk : k < 0 ∨ nI (hcN (g.1.2 0) p) ≤ k) : f_X1_tileInHand g p k = some (-1) := by
  unfold f_X1_tileInHand
  refine lr2 (fun (o : Option Int32) => o = some (-1)) (fun (m : Nat) (v3 v4 : Int32) => ∃ i, v4 = nI i ∧ i + m = 100 ∧ v3 = nI (cn (fun c => decide (g.1.2 0 c = p)) 0 i)) ?_ FUEL 100 0 0 (FUEL_lt (by omega)) ⟨0, rfl, rfl, rfl⟩
  rintro rec m v3 v4 ⟨i, rfl, hi, rfl⟩ ih
  unfold f_X1_tileInHand_B5
  have hle := cn_le (fun c => decide (g.1.2 0 c = p)) i 0
  rw [i_100, ie_le (by omega) (by omega)]
  by_cases h1 : 100 ≤ i
  · rw [if_pos h1]
  · rw [if_neg h1, e_holder (by omega), bd1_S]
    have hsn : cn (fun c => decide (g.1.2 0 c = p)) 0 (i + 1) = _ := cn_snoc i 0
    rw [Nat.zero_add] at hsn
    by_cases h2 : g.1.2 0 i = p
    · rw [if_pos (decide_eq_true h2)] at hsn
      have hle2 : cn (fun c => decide (g.1.2 0 c = p)) 0 (i + 1) ≤ hcN (g.1.2 0) p := by
        unfold hcN
        have : ∀ j a, cn (fun c => decide (g.1.2 0 c = p)) 0 a ≤ cn (fun c => decide (g.1.2 0 c = p)) 0 (a + j) := by
          intro j
          induction j with
          | zero => intro a; exact Nat.le_refl _
          | succ j ihj => intro a; rw [show a + (j + 1) = a + j + 1 by omega, cn_snoc]; have := ihj a; omega
        have h3 := this (100 - (i + 1)) (i + 1)
        rw [show i + 1 + (100 - (i + 1)) = 100 by omega] at h3
        exact h3
      have h100 := hcN_le (g.1.2 0) p
      rw [if_pos h2, if_neg]
      · rw [nI_1, nI_1]
        exact ih (m - 1) _ _ (by omega) ⟨i + 1, rfl, by omega, by rw [hsn]⟩
      · intro h4
        rw [← h4] at hk
        rcases hk with hk | hk
        · exact nI_lt0 (by omega) hk
        · have := (nI_leI (by omega) (by omega)).mp hk
          omega
    · rw [if_neg (fun z => h2 (of_decide_eq_true z))] at hsn
      rw [if_neg h2, nI_1]
      exact ih (m - 1) _ _ (by omega) ⟨i + 1, rfl, by omega, by rw [hsn]; rfl⟩
theorem GE.tile1 (G : GE ps s.2.1 T mx np hs hb tn pa f e n) : t_X7_tile s 0 (nI (hnd T 0).length) = some "java/util/NoSuchElementException" := by
  have h1 := G.1.np
  have e1 : f_X7_checkPlayer s 0 = some () := by
    unfold f_X7_checkPlayer
    rw [if_neg (by decide), i_0, h1.1, ie_lt (by omega) (by omega), if_pos (by omega)]
  have e2 : t_X7_checkPlayer s 0 = none := by
    unfold t_X7_checkPlayer
    rw [if_neg (by decide), i_0, h1.1, ie_lt (by omega) (by omega), if_pos (by omega)]
  have e3 := c_tileNo (g := s.2.1) (p := nI 0) (k := nI (hnd T 0).length) (Or.inr (by rw [G.2.1.hc (by omega)]; exact Int32.le_refl _))
  unfold t_X7_tile
  rw [e2, th_N, e1, bd1_S, show (0 : Int32) = nI 0 from rfl, e3, bd1_S, if_pos rfl]
theorem GE.why1 (G : GE ps s.2.1 T mx np hs hb tn pa f e n) {c : Int32} : t_X7_why s c (-1) = some "java/lang/IndexOutOfBoundsException" := by
  unfold t_X7_why
  rw [noTrain G.1.np.1 G.1.np.2.2 (Or.inl (by decide)), th_S]
theorem GE.why2 (G : GE ps s.2.1 T mx np hs hb tn pa f e n) : t_X7_why s 100 0 = some "java/lang/IllegalArgumentException" := by
  unfold t_X7_why
  rw [show (0 : Int32) = nI 0 from rfl, tTrain G.1.np.1 G.1.np.2.2 (Nat.zero_le _), th_N, okTrain G.1.np.1 G.1.np.2.2 (Nat.zero_le _), bd1_S, noTileB (Or.inr (by decide)), th_S]
theorem GE.rank1 (G : GE ps s.2.1 T mx np hs hb tn pa f e n) : t_X7_rank s ps 10 0 = some "java/lang/IllegalArgumentException" := by
  unfold t_X7_rank
  rw [show (0 : Int32) = nI 0 from rfl, show (10 : Int32) = nI 10 from rfl, tTrain G.1.np.1 G.1.np.2.2 (Nat.zero_le _), th_N, okTrain G.1.np.1 G.1.np.2.2 (Nat.zero_le _), bd1_S, noTile G.1.mx.1 G.1.mx.2.2 (by omega) (fun z => by have := z.1; omega), th_S]
theorem GE.longest1 (G : GE ps s.2.1 T mx np hs hb tn pa f e n) : t_X7_longest s 4 = some "java/lang/IndexOutOfBoundsException" := by
  have := G.1.np
  unfold t_X7_longest
  rw [noPlayer G.1.np.1 G.1.np.2.2 (Or.inr (by rw [i_4]; exact (nI_leI (by omega) (by omega)).mpr (by omega))), th_S]
theorem GE.heaviest1 (G : GE ps s.2.1 T mx np hs hb tn pa f e n) : t_X7_heaviest s (-1) = some "java/lang/IndexOutOfBoundsException" := by
  unfold t_X7_heaviest
  rw [noPlayer G.1.np.1 G.1.np.2.2 (Or.inl (by decide)), th_S]
theorem GE.laid1 (G : GE ps s.2.1 T mx np hs hb tn pa f e n) {k : Int32} : t_X7_laid s 5 k = some "java/lang/IndexOutOfBoundsException" := by
  have := G.1.np
  unfold t_X7_laid
  rw [noTrain G.1.np.1 G.1.np.2.2 (Or.inr (by rw [i_5]; exact (nI_ltI (by omega) (by omega)).mpr (by omega))), th_S]
theorem GE.longestT1 (G : GE ps s.2.1 T mx np hs hb tn pa f e n) {k : Int32} : t_X7_longestTile s (-1) k = some ("java/lang/IndexOutOfBoundsException", s) := by
  unfold t_X7_longestTile
  rw [noPlayer G.1.np.1 G.1.np.2.2 (Or.inl (by decide))]
  rfl
/-- the calls that tell -/
theorem GE.state (G : GE ps s.2.1 T mx np hs hb tn pa f e n) {w : Nat} (hw : w ≤ 12) : f_X7_state s (nI w) = some (toldT T np hb tn w) := by
  unfold f_X7_state f_X7_checkWhat
  rw [if_neg (nI_lt0 (by omega)), i_13, ie_lt (by omega) (by omega), if_pos (by omega), bd1_S, G.2.1.state G.1 hw, bd1_S]
theorem GE.best (G : GE ps s.2.1 T mx np hs hb tn pa f e n) : ∃ ps', f_X7_best s ps = some (encO (bestT T np hb tn), ps') ∧ PM ps ps' ∧ ∀ c, (wP c ps').map Prod.fst = (wP c ps).map Prod.fst := by
  obtain ⟨i, r, ho, z, h4, h5⟩ := G
  obtain ⟨F', a1, a2⟩ := r.best i (fn := z.2.2.1) (F := z.2.2.2) h5
  unfold f_X7_best
  rw [h4, bd1_S, a1]
  show ∃ ps', (nmd (pput ps s.2.1.2.1 F') fun (ps_4 : PS) => some (encO (bestT T np hb tn), ps_4)) = some (_, ps') ∧ _
  rw [nmd_S]
  exact ⟨_, rfl, PM.put h4 a2, fun c => pput_ad ps⟩
end REF
