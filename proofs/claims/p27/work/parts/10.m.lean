/-! the class's calls, with its table -/
section SMC
variable {ps : PS} {s : HS} {T : TT} {B : Nat → TT} {mx np m hs hb tn pa f e n : Nat}
theorem okTrain {t : Nat} (h1 : s.2.1.1.1 1 = nI np) (hn4 : np ≤ 4) (ht : t ≤ np) : f_X7_checkTrain s (nI t) = some () := by
  unfold f_X7_checkTrain
  rw [if_neg (nI_lt0 (by omega)), h1, ie_le (by omega) (by omega), if_pos ht]
theorem okTile {c : Nat} (h0 : s.2.1.1.1 0 = nI mx) (hm : mx ≤ 9) (hc : c < 100) (hi : inS mx c) : f_X7_checkTile s (nI c) = some () := by
  unfold f_X7_checkTile
  rw [e_inSet h0 hm hc, bd1_S, if_pos (show c / 10 ≤ c % 10 ∧ c % 10 ≤ mx from hi), if_neg (by decide)]
theorem okAllowed {p : Prop} [Decidable p] (h : p) : f_X7_checkAllowed (if p then 1 else 0) = some () := by
  unfold f_X7_checkAllowed
  rw [if_pos h, if_neg (by decide)]
theorem GE.ins (G : GE ps s.2.1 T mx np hs hb tn pa f e n) {c t : Nat} (hc : c < 100) (hy : whyT T hb tn c t = 0) : inS mx c := by
  have h := G.1
  have r := G.2.1
  have htn := h.tn
  have := (hL_mem.mp ((r.H tn htn.2).mem_iff.mp (why_mem hy).1)).2
  exact ((h.H c hc).resolve_left (by rw [this]; exact nI_m1 (by have := h.np; omega))).2
theorem SM.play (h : SM ps s T B mx np m) (G : GE ps s.2.1 T mx np hs hb tn pa f e n) {c t : Nat} (hc : c < 100) (ht : t ≤ np) (hy : whyT T hb tn c t = 0) : ∃ s', f_X7_play s (nI c) (nI t) = some (nI (endT hb (trn T t ++ [c])), s') ∧ SM ps s' (playT T np tn c t) (shB T B) mx np (min (m + 1) 8) := by
  have hi := G.ins hc hy
  obtain ⟨i, r, ho, z, h4, h5⟩ := G
  have hnp := i.np
  have hob : gob np s.2.1 c t = 0 := by rw [r.why i hc ht]; exact hy
  obtain ⟨s1, e1, e2, e3⟩ := h.rem
  obtain ⟨g', tn', c1, c3, c4, c6, c7, c8⟩ := r.lay i hc ht hob
  unfold f_X7_play
  rw [okTrain hnp.1 hnp.2.2 ht, bd1_S, okTile i.mx.1 i.mx.2.2 hc hi, bd1_S, e_canPlay hnp.1 hnp.2.2 i.E hc ht, bd1_S, okAllowed hob, bd1_S, e1, bd1_S, e2, c1, bd1_S, e_endOf (by omega), bd1_S, c8]
  refine ⟨_, rfl, e3 ps g' _ PM.rf ⟨hs, hb, tn', 0, f, e, n + 1, c3, c4, fun _ => by omega, z, ?_, ?_⟩⟩
  · rw [c6]; exact h4
  · rw [c6, playT_M]; exact h5
theorem SM.draw (h : SM ps s T B mx np m) (G : GE ps s.2.1 T mx np hs hb tn pa f e n) (hd : tDr T np hb tn) : ∃ s', f_X7_draw s = some (nI ((tK T).getD 0 0), s') ∧ SM ps s' (drawT T tn) (shB T B) mx np (min (m + 1) 8) := by
  obtain ⟨i, r, ho, z, h4, h5⟩ := G
  have hm := (r.mayD i).mpr hd
  obtain ⟨s1, e1, e2, e3⟩ := h.rem
  obtain ⟨g', c1, c3, c4, c6, c7, c8⟩ := r.draw i hm.2.2.1
  unfold f_X7_draw
  rw [c_mayDraw i, bd1_S, okAllowed hm, bd1_S, e1, bd1_S, e2, c1, bd2_S]
  refine ⟨_, rfl, e3 ps g' _ PM.rf ⟨hs, hb, tn, 0, f + 1, e, n, c3, c4, fun _ => by have := i.np; omega, z, ?_, ?_⟩⟩
  · rw [c6]; exact h4
  · rw [c6]; exact h5
theorem SM.pass (h : SM ps s T B mx np m) (G : GE ps s.2.1 T mx np hs hb tn pa f e n) (hp : tPa T np hb tn) : ∃ s', f_X7_pass s = some ((passT T np tn pa).1 4, s') ∧ SM ps s' (passT T np tn pa) (shB T B) mx np (min (m + 1) 8) := by
  obtain ⟨i, r, ho, z, h4, h5⟩ := G
  have hm := (r.mayP i).mpr hp
  obtain ⟨s1, e1, e2, e3⟩ := h.rem
  obtain ⟨g', tn', c1, c3, c4, c6, c7, c8⟩ := r.pass i (ho hm.1)
  unfold f_X7_pass
  rw [c_mayPass i, bd1_S, okAllowed hm, bd1_S, e1, bd1_S, e2, c1, bd1_S]
  refine ⟨_, by rw [← c4.S.2.2.2.2.1], e3 ps g' _ PM.rf ⟨hs, hb, tn', pa + 1, f, e, n, c3, c4, c7, z, ?_, ?_⟩⟩
  · rw [c6]; exact h4
  · rw [c6, passT_M]; exact h5
theorem SM.auto (h : SM ps s T B mx np m) (G : GE ps s.2.1 T mx np hs hb tn pa f e n) {N : Nat} (h1 : 1 ≤ N) (hN : N ≤ 200) : ∃ j s' ps', f_X7_auto s ps (nI N) = some (nI j, s', ps') ∧ SM ps' s' (chT np hb T j) (shB T B) mx np (min (m + 1) 8) ∧ j ≤ N ∧ (∀ i, i < j → (chT np hb T i).1 7 = 0) ∧ (j = N ∨ ¬ (chT np hb T j).1 7 = 0) ∧ ∀ c, (wP c ps').map Prod.fst = (wP c ps).map Prod.fst := by
  obtain ⟨i, r, ho, z, h4, h5⟩ := G
  obtain ⟨s1, e1, e2, e3⟩ := h.rem
  obtain ⟨j, g', F', a1, a2, a3, a4, a5⟩ := r.playOn i (fn := z.2.2.1) (F := z.2.2.2) h5 ho hN
  obtain ⟨tn', pa', f', n', b1, b2, b3, b4, b5⟩ := a2
  unfold f_X7_auto
  rw [if_neg (show ¬ nI N < 1 by rw [i_1, nI_ltI (by omega) (by omega)]; omega), i_200, ie_le (by omega) (by omega), if_pos hN, e1, bd1_S, e2, h4, bd1_S, a1]
  show ∃ j s' ps', (nmd (pput ps s.2.1.2.1 F') fun (ps_29 : PS) => some (nI _, (s1.1, g', s1.2.2.1, s1.2.2.2.1, s1.2.2.2.2.1, s1.2.2.2.2.2), ps_29)) = some (nI j, s', ps') ∧ _
  rw [nmd_S]
  have hp := PM.put h4 b4
  refine ⟨j, _, _, rfl, e3 _ g' _ hp ?_, a3, a4, a5, fun c => pput_ad ps⟩
  obtain ⟨q', k1, k2, k3⟩ := hp _ _ h4
  exact ⟨hs, hb, tn', pa', f', e, n', b1, b2, b5, q', by rw [b3]; exact k1, by rw [b3, k2, k3, chT_M]; exact h5⟩
/-- the table cleared for a new deal -/
def clrT (T : TT) (np hub seed : Nat) : TT := sH (sS (sS T 2 (nI hub)) 3 (nI seed)) (List.replicate np [])
theorem SM.deal (h : SM ps s T B mx np m) (G : GE ps s.2.1 T mx np hs hb tn pa f e n) (hov : T.1 7 = 1) {hub seed : Nat} (hh : hub ≤ mx) (hsd : seed ≤ 9999) : ∃ s', f_X7_deal s (nI hub) (nI seed) = some (nI (tK (dealT (clrT T np hub seed) mx hs hub np)).length, s') ∧ SM ps s' (dealT (clrT T np hub seed) mx hs hub np) (shB T B) mx np (min (m + 1) 8) := by
  obtain ⟨i, r, ho, z, h4, h5⟩ := G
  have hS := r.S
  have hmx := i.mx
  have hnp := i.np
  obtain ⟨s1, e1, e2, e3⟩ := h.rem
  obtain ⟨H1, f1, f2⟩ := e_fill (n := 100) (h0 := s.2.1.1.2 0) (v := -1) (by omega)
  have hov8 : s.2.1.1.1 8 = 1 := by rw [← hS.2.2.2.2.2.2.2.1]; exact hov
  let g1 : GS := ((sa (ss (ss s.2.1.1 3 (nI hub)) 4 (nI seed)) 0 H1), s.2.1.2.1, s.2.1.2.2.1, s.2.1.2.2.2)
  have hno : ∀ c p, c < 100 → p ≤ 4 → ¬ H1 c = nI p := fun c p hc hp q => by rw [f2 c hc] at q; exact nI_m1 (by omega) q.symm
  have P : PT g1 (clrT T np hub seed) mx np hs hub := by
    refine ⟨i.mx, i.np, i.hs, ⟨rfl, hh⟩, ⟨hS.1.trans i.mx.1, hS.2.1.trans i.hs.1, rfl, rfl, hS.2.2.2.2.2.2.2.2.1⟩, ⟨?_, r.L.2.1⟩, fun p hp => ?_, r.tot, fun c hc => Or.inl (f2 c hc)⟩
    · show (List.replicate np ([] : List Nat)).length = np
      rw [List.length_replicate]
    · show ((List.replicate np ([] : List Nat)).getD p []).Perm (hL H1 p)
      have e0 : (List.replicate np ([] : List Nat)).getD p [] = [] := by
        rw [List.getD_eq_getElem?_getD, List.getElem?_replicate]
        split <;> rfl
      have e1 : hL H1 p = [] := by
        rw [List.eq_nil_iff_forall_not_mem]
        intro c hc
        obtain ⟨hc, q⟩ := hL_mem.mp hc
        exact hno c p hc (by omega) q
      rw [e0, e1]
  obtain ⟨g2, f', e', d1, d2, d3, d4, d5⟩ := P.deal
  have eC : f_X1_clearHands ((ss (ss s.2.1.1 3 (nI hub)) 4 (nI seed)), s.2.1.2.1, s.2.1.2.2.1, s.2.1.2.2.2) = some g1 := by
    unfold f_X1_clearHands
    rw [show ((ss (ss s.2.1.1 3 (nI hub)) 4 (nI seed)), s.2.1.2.1, s.2.1.2.2.1, s.2.1.2.2.2).1.2 0 = s.2.1.1.2 0 from rfl, f1, bd1_S]
  unfold f_X7_deal
  rw [if_neg (nI_lt0 (by omega)), hmx.1, ie_lt (by omega) (by omega), if_neg (by omega), if_neg (nI_lt0 (by omega)), i_9999, ie_le (by omega) (by omega), if_pos hsd, hov8]
  unfold f_X7_checkAllowed
  rw [if_neg (by decide), bd1_S, e1, bd1_S, e2, eC, bd1_S, d1, bd1_S, c_size d2, bd1_S]
  refine ⟨_, ?_, e3 ps g2 _ PM.rf ⟨hs, hub, 0, 0, f', e', 0, d2, d3, fun _ => by omega, z, ?_, ?_⟩⟩
  · rw [d3.K, skL_len]
  · rw [d4]; exact h4
  · rw [d4]; exact h5
end SMC
