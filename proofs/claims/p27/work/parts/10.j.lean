/-! a deal: the hands, and all of it -/
theorem perm_up {H : Nat → Int32} {L : List (List Nat)} {np p c : Nat} (hL1 : L.length = np) (hn4 : np ≤ 4) (h : ∀ q, q < np → (L.getD q []).Perm (hL H q)) (hp : p < np) (hc : c < 100) (hH : H c = -1) : ∀ q, q < np → ((L.set p (L.getD p [] ++ [c])).getD q []).Perm (hL (upd H c (nI p)) q) := by
  intro q hq
  rw [hnd_set (by omega)]
  by_cases hqp : q = p
  · subst hqp
    rw [if_pos rfl]
    have w := h q hq
    have hno : c ∉ L.getD q [] := fun z => by
      have := (hL_mem.mp (w.mem_iff.mp z)).2
      rw [hH] at this
      exact nI_m1 (by omega) this.symm
    refine pm_ext ?_ (hL_nd _ _) fun x => ?_
    · refine List.nodup_append.mpr ⟨w.nodup_iff.mpr (hL_nd _ _), List.nodup_cons.mpr ⟨by simp, List.nodup_nil⟩, fun a ha b hb z => ?_⟩
      rw [List.mem_singleton.mp hb] at z
      exact hno (z ▸ ha)
    · rw [List.mem_append, List.mem_singleton, w.mem_iff, hL_mem, hL_mem]
      by_cases hxc : x = c
      · subst hxc
        rw [upd_s]
        exact ⟨fun _ => ⟨hc, rfl⟩, fun _ => Or.inr rfl⟩
      · rw [upd_n hxc]
        exact ⟨fun z => z.elim id (fun y => absurd y hxc), Or.inl⟩
  · rw [if_neg hqp]
    refine (h q hq).trans (pm_ext (hL_nd _ _) (hL_nd _ _) fun x => ?_)
    rw [hL_mem, hL_mem]
    by_cases hxc : x = c
    · subst hxc
      rw [upd_s, hH]
      refine ⟨fun z => absurd z.2.symm (nI_m1 (by omega)), fun z => absurd ((nI_eq (by omega) (by omega)).mp z.2).symm hqp⟩
    · rw [upd_n hxc]
/-- a deal under way: D the deck, Hs the hands, f dealt -/
def DL (g0 g : GS) (D : List Nat) (Hs : List (List Nat)) (mx np hs hb f : Nat) : Prop :=
  (g.1.1 = g0.1.1 ∧ g.1.2 1 = g0.1.2 1 ∧ g.2.1 = g0.2.1 ∧ g.2.2.2 = g0.2.2.2) ∧ Hs.length = np ∧ (∀ p, p < np → (Hs.getD p []).Perm (hL (g.1.2 0) p)) ∧
  (g.2.2.1.1 0 = nI f ∧ g.2.2.1.1 1 = nI D.length ∧ f ≤ D.length ∧ D.length ≤ 54) ∧ AL (g.2.2.1.2 0) D ∧ ND D ∧ (∀ k, k < D.length → D.getD k 0 < 100 ∧ inS mx (D.getD k 0)) ∧
  (∀ k, f ≤ k → k < D.length → g.1.2 0 (D.getD k 0) = -1) ∧ (∀ c, c < 100 → g.1.2 0 c = -1 ∨ ((∃ p, p < np ∧ g.1.2 0 c = nI p) ∧ inS mx c)) ∧ hT (g.1.2 0) + (D.length - f) ≤ 54
section DLS
variable {g0 g : GS} {D : List Nat} {Hs : List (List Nat)} {mx np hs hb f : Nat}
theorem DL.step (h : DL g0 g D Hs mx np hs hb f) (hn4 : np ≤ 4) (hf : f < D.length) {p : Nat} (hp : p < np) : DL g0 ((sa g.1 0 (upd (g.1.2 0) (D.getD f 0) (nI p))), g.2.1, ss g.2.2.1 0 (nI (f + 1)), g.2.2.2) D (Hs.set p (Hs.getD p [] ++ [D.getD f 0])) mx np hs hb (f + 1) := by
  obtain ⟨h1, h2, h3, h4, h5, h6, h7, h8, h9, h10⟩ := h
  have hc := h7 f hf
  have hH := h8 f (Nat.le_refl _) hf
  have hup := hT_up (g.1.2 0) (D.getD f 0) (nI p)
  refine ⟨h1, by rw [List.length_set]; exact h2, perm_up h2 hn4 h3 hp hc.1 hH, ⟨rfl, h4.2.1, hf, h4.2.2.2⟩, h5, h6, h7, fun k hk1 hk2 => ?_, fun j hj => ?_, ?_⟩
  · show upd (g.1.2 0) (D.getD f 0) (nI p) (D.getD k 0) = -1
    rw [upd_n (fun z => by have := h6 k f hk2 hf z; omega)]
    exact h8 k (by omega) hk2
  · show upd (g.1.2 0) (D.getD f 0) (nI p) j = -1 ∨ (∃ q, q < np ∧ upd (g.1.2 0) (D.getD f 0) (nI p) j = nI q) ∧ inS mx j
    by_cases z : j = D.getD f 0
    · rw [z, upd_s]; exact Or.inr ⟨⟨p, hp, rfl⟩, hc.2⟩
    · rw [upd_n z]; exact h9 j hj
  · show hT (upd (g.1.2 0) (D.getD f 0) (nI p)) + (D.length - (f + 1)) ≤ 54
    omega
theorem DL.hand (h : DL g0 g D Hs mx np hs hb f) (hn4 : np ≤ 4) (hhs : g.1.1 2 = nI hs) (hs12 : hs ≤ 12) {p : Nat} (hp : p < np) : ∃ g', f_X1_fillHand g (nI p) = some g' ∧ DL g0 g' D (flP hs D (Hs, f) p).1 mx np hs hb (flP hs D (Hs, f) p).2 := by
  have hcur : (Hs.getD p []).length = hcN (g.1.2 0) (nI p) := by rw [(h.2.2.1 p hp).length_eq, hL_len]
  have h100 := hcN_le (g.1.2 0) (nI p)
  obtain ⟨cur, ec⟩ : ∃ c, c = Hs.getD p [] := ⟨_, rfl⟩
  have hf0 := h.2.2.2.1
  unfold f_X1_fillHand
  rw [e_handCount, bd1_S, ← hcur, ← ec]
  have e2 : flP hs D (Hs, f) p = (Hs.set p (cur ++ (D.drop f).take (hs - cur.length)), f + min (hs - cur.length) (D.length - f)) := by rw [ec]; rfl
  rw [e2]
  show ∃ g', _ = some g' ∧ DL g0 g' D (Hs.set p (cur ++ (D.drop f).take (hs - cur.length))) mx np hs hb (f + min (hs - cur.length) (D.length - f))
  have hl : cur.length ≤ 100 := by rw [ec]; omega
  refine lr2 (B := f_X1_fillHand_B6 (nI p)) (fun o => ∃ g', o = some g' ∧ DL g0 g' D (Hs.set p (cur ++ (D.drop f).take (hs - cur.length))) mx np hs hb (f + min (hs - cur.length) (D.length - f)))
    (fun (m : Nat) (v : Int32) (gg : GS) => ∃ j, v = nI (cur.length + j) ∧ f + j + m = D.length ∧ j ≤ hs - cur.length ∧ gg.1.1 2 = nI hs ∧ DL g0 gg D (Hs.set p (cur ++ (D.drop f).take j)) mx np hs hb (f + j)) ?_ FUEL (D.length - f) _ _ (FUEL_lt (by omega)) ⟨0, rfl, by omega, Nat.zero_le _, hhs, ?_⟩
  · rintro rec m v gg ⟨j, rfl, hm, hj, hg2, hd⟩ ih
    have hst := hd.2.2.2.1
    unfold f_X1_fillHand_B6
    rw [hg2, ie_le (by omega) (by omega)]
    by_cases h1 : hs ≤ cur.length + j
    · rw [if_pos h1]
      have e : hs - cur.length = j := by omega
      rw [e, Nat.min_eq_left (by omega)]
      exact ⟨gg, rfl, hd⟩
    · have esz : f_X4_size gg.2.2.1 = some (nI (D.length - (f + j))) := by
        unfold f_X4_size
        rw [hst.1, hst.2.1, nI_sub hst.2.2.1]
      rw [if_neg h1, esz, bd1_S, ie_le0 (by omega)]
      by_cases h2 : D.length - (f + j) = 0
      · rw [if_pos h2]
        rw [Nat.min_eq_right (by omega), List.take_of_length_le (by rw [List.length_drop]; omega)]
        rw [List.take_of_length_le (by rw [List.length_drop]; omega)] at hd
        rw [show f + (D.length - f) = f + j by omega]
        exact ⟨gg, rfl, hd⟩
      · have hK := hd.2.2.2.2.1 (f + j) (by omega)
        have hc := hd.2.2.2.2.2.2.1 (f + j) (by omega)
        rw [if_neg h2]
        unfold f_X4_takeFirst
        rw [hst.1, hst.2.1, ie_lt (by omega) (by omega), if_pos (by omega), e_look (by omega) (by omega), bd1_S, bd2_S, hK, e_put hc.1 (by omega), bd1_S, nI_1, nI_1]
        have hstep := hd.step hn4 (by omega) hp
        have hpl : p < Hs.length := by rw [h.2.1]; exact hp
        rw [hnd_set hpl, if_pos rfl, List.set_set, List.append_assoc, ← drop_take_s (by omega)] at hstep
        exact ih (m - 1) _ _ (by omega) ⟨j + 1, by rw [Nat.add_assoc], by omega, by omega, hg2, hstep⟩
  · have e : Hs.set p (cur ++ (D.drop f).take 0) = Hs := by
      rw [List.take_zero, List.append_nil, ec]
      refine List.ext_getElem (by simp) fun i h1 h2 => ?_
      rw [List.getElem_set]
      split
      · rename_i hi
        subst hi
        rw [List.getD_eq_getElem?_getD, List.getElem?_eq_getElem h2]; rfl
      · rfl
    rw [e]; exact h
theorem DL.hands (h : DL g0 g D Hs mx np hs hb 0) (hn4 : np ≤ 4) (hnp : g0.1.1 1 = nI np) (hhs : g0.1.1 2 = nI hs) (hs12 : hs ≤ 12) (X : GS → Option GS) (hX : ∀ rec gg, gg.1.1 = g0.1.1 → f_X1_dealRound_B62 rec (nI np) gg = X gg) : ∃ g', itr2 f_X1_dealRound_B62 FUEL 0 g = X g' ∧ DL g0 g' D (flT hs D Hs np).1 mx np hs hb (flT hs D Hs np).2 := by
  refine lr2 (B := f_X1_dealRound_B62) (fun o => ∃ g', o = X g' ∧ DL g0 g' D (flT hs D Hs np).1 mx np hs hb (flT hs D Hs np).2) (fun (m : Nat) (v : Int32) (gg : GS) => ∃ p, v = nI p ∧ p + m = np ∧ DL g0 gg D (flT hs D Hs p).1 mx np hs hb (flT hs D Hs p).2) ?_ FUEL np _ _ (FUEL_lt (by omega)) ⟨0, rfl, by omega, h⟩
  rintro rec m v gg ⟨p, rfl, hm, hd⟩ ih
  by_cases h1 : np ≤ p
  · have : p = np := by omega
    subst this
    rw [hX rec gg hd.1.1]
    exact ⟨gg, rfl, hd⟩
  · unfold f_X1_dealRound_B62
    rw [hd.1.1, hnp, ie_le (by omega) (by omega), if_neg h1]
    obtain ⟨g', e1, e2⟩ := hd.hand hn4 (by rw [hd.1.1]; exact hhs) hs12 (p := p) (by omega)
    rw [e1, bd1_S, nI_1]
    exact ih (m - 1) _ _ (by omega) ⟨p + 1, rfl, by omega, by rw [flT_s]; exact e2⟩
end DLS
/-- what a deal starts from -/
def PT (g : GS) (T : TT) (mx np hs hb : Nat) : Prop :=
  (g.1.1 0 = nI mx ∧ 3 ≤ mx ∧ mx ≤ 9) ∧ (g.1.1 1 = nI np ∧ 2 ≤ np ∧ np ≤ 4) ∧ (g.1.1 2 = nI hs ∧ 1 ≤ hs ∧ hs ≤ 12) ∧ (g.1.1 3 = nI hb ∧ hb ≤ mx) ∧
  (T.1 0 = nI mx ∧ T.1 1 = nI hs ∧ T.1 2 = nI hb ∧ T.1 3 = g.1.1 4 ∧ T.1 8 = g.1.1 9) ∧ ((tH T).length = np ∧ (tT T).length = np) ∧
  (∀ p, p < np → (hnd T p).Perm (hL (g.1.2 0) p)) ∧ (∀ p, p < np → (tT T).getD p 0 = g.1.2 1 p) ∧
  (∀ c, c < 100 → g.1.2 0 c = -1 ∨ ((∃ p, p < np ∧ g.1.2 0 c = nI p) ∧ inS mx c ∧ ¬ c = 11 * hb))
section PTS
variable {g : GS} {T : TT} {mx np hs hb : Nat}
theorem PT.inh (r : PT g T mx np hs hb) : ∀ x, x < 100 → (inH (tH T) x ↔ ¬ g.1.2 0 x = -1) := by
  obtain ⟨h1, h2, h3, h4, h5, h6, h7, h8, h9⟩ := r
  intro x hx
  unfold inH
  constructor
  · rintro ⟨l, hl, hxl⟩
    obtain ⟨p, hp⟩ := List.getElem?_of_mem hl
    have hpl : p < np := by
      rw [← h6.1]
      exact (List.getElem?_eq_some_iff.mp hp).1
    have e : hnd T p = l := by
      show (tH T).getD p [] = l
      rw [List.getD_eq_getElem?_getD, hp]; rfl
    have := (hL_mem.mp ((h7 p hpl).mem_iff.mp (by rw [e]; exact hxl))).2
    rw [this]; exact nI_m1 (by omega)
  · intro hn
    obtain ⟨⟨p, hp, e⟩, -⟩ := (h9 x hx).resolve_left hn
    have hm := (h7 p hp).mem_iff.mpr (hL_mem.mpr ⟨hx, e⟩)
    refine ⟨hnd T p, ?_, hm⟩
    show (tH T).getD p [] ∈ tH T
    have hpl : p < (tH T).length := by rw [h6.1]; exact hp
    rw [List.getD_eq_getElem?_getD, List.getElem?_eq_getElem hpl]
    exact List.getElem_mem hpl
theorem PT.cnt (r : PT g T mx np hs hb) : hT (g.1.2 0) + cn (fr mx hb (g.1.2 0)) 0 100 ≤ 54 := by
  obtain ⟨h1, h2, h3, h4, h5, h6, h7, h8, h9⟩ := r
  have h1' := set_54 mx h1.2.2 hb h4.2
  refine Nat.le_trans ?_ h1'
  have e2 : hT (g.1.2 0) = cn (fun c => decide (c < 100 ∧ ¬ g.1.2 0 c = -1)) 0 100 := cn_congr 100 0 (fun j _ hj => by simp [show j < 100 by omega])
  rw [e2]
  refine cn_add 100 0 (fun j hj => ?_) (fun j hj => ?_)
  · have hj := of_decide_eq_true hj
    have h3 := (h9 j hj.1).resolve_left hj.2
    exact ⟨decide_eq_true ⟨h3.2.1, h3.2.2⟩, decide_eq_false (fun z => hj.2 z.2.1)⟩
  · have hj := of_decide_eq_true hj
    exact decide_eq_true ⟨hj.1, hj.2.2⟩
end PTS
