/-! the text of a node -/
def leafX (q : Nat × Nat) : List Nat := if q.1 = 0 then decL q.2 else TXT.getD (5 + q.2) []
def opX (k : Nat) : List Nat := TXT.getD (if k = 2 then 15 else if k = 3 then 16 else if k = 4 then 17 else 18) []
def ntx : (d : Nat) → NT d → Nat → List Nat
  | 0, q, _ => leafX q
  | d + 1, nd, lv => if nd.1.1 < 2 then leafX nd.1 else if (if nd.1.1 < 4 then 1 else 2) < lv then ([40] ++ (ntx d nd.2.1 (if nd.1.1 < 4 then 1 else 2) ++ opX nd.1.1 ++ ntx d nd.2.2 ((if nd.1.1 < 4 then 1 else 2) + 1))) ++ [41] else ntx d nd.2.1 (if nd.1.1 < 4 then 1 else 2) ++ opX nd.1.1 ++ ntx d nd.2.2 ((if nd.1.1 < 4 then 1 else 2) + 1)
theorem TXT_len : ∀ i, (TXT.getD i []).length ≤ 6 := by
  intro i
  rcases Nat.lt_or_ge i 22 with h | h
  · have : ∀ j, j < 22 → (TXT.getD j []).length ≤ 6 := by decide
    exact this i h
  · rw [List.getD_eq_getElem?_getD, List.getElem?_eq_none (by exact h)]
    exact Nat.zero_le _
theorem opX_len (k : Nat) : (opX k).length ≤ 3 := by
  unfold opX
  split
  · decide
  · split
    · decide
    · split <;> decide
theorem leafX_len (q : Nat × Nat) : (leafX q).length ≤ 6 := by
  unfold leafX
  split
  · unfold decL
    split
    · simp
    · split
      · simp
      · split <;> simp
  · exact TXT_len _
theorem ntx_len : ∀ (d : Nat) (nd : NT d) (lv : Nat), (ntx d nd lv).length + 5 ≤ 11 * 2 ^ d
  | 0, nd, lv => by
    have := leafX_len nd
    show (leafX nd).length + 5 ≤ 11
    omega
  | d + 1, nd, lv => by
    have key : ∀ (q : Nat × Nat) (l r : NT d), (ntx (d + 1) (q, l, r) lv).length + 5 ≤ 11 * 2 ^ (d + 1) := by
      intro q l r
      have h1 := ntx_len d l (if q.1 < 4 then 1 else 2)
      have h2 := ntx_len d r ((if q.1 < 4 then 1 else 2) + 1)
      have h3 := opX_len q.1
      have h4 := leafX_len q
      have h5 : 0 < 2 ^ d := Nat.two_pow_pos d
      have h6 : 2 ^ (d + 1) = 2 * 2 ^ d := by rw [Nat.pow_succ]; omega
      show (if q.1 < 2 then leafX q else if (if q.1 < 4 then 1 else 2) < lv then ([40] ++ (ntx d l (if q.1 < 4 then 1 else 2) ++ opX q.1 ++ ntx d r ((if q.1 < 4 then 1 else 2) + 1))) ++ [41] else ntx d l (if q.1 < 4 then 1 else 2) ++ opX q.1 ++ ntx d r ((if q.1 < 4 then 1 else 2) + 1)).length + 5 ≤ 11 * 2 ^ (d + 1)
      generalize ntx d l (if q.1 < 4 then 1 else 2) = A at h1 ⊢
      generalize ntx d r ((if q.1 < 4 then 1 else 2) + 1) = B at h2 ⊢
      by_cases c1 : q.1 < 2
      · rw [if_pos c1]; omega
      · rw [if_neg c1]
        by_cases c2 : (if q.1 < 4 then 1 else 2) < lv
        · rw [if_pos c2]
          simp only [List.length_append, List.length_cons, List.length_nil]
          omega
        · rw [if_neg c2]
          simp only [List.length_append]
          omega
    exact key nd.1 nd.2.1 nd.2.2
section TX
variable {c : Nat → ClassId} {K : (Nat → Nat) × (Nat → Nat)} {h0 h : HW} {W Own : Nat → Prop} {a b : Nat} {bs cs : List Nat}
theorem SbX.ext {h' : HW} (s : SbX c h0 h W a bs) (e : Ext h h') : SbX c h0 h' W a bs := by
  obtain ⟨v, cap, f, ml, s1, s2, s3, s4, s5, s6, s7, s8, s9, s10, s11, s12⟩ := s
  exact ⟨v, cap, f, ml, e.at s1, e.at s2, s3, s4, s5, s6, s7, s8, s9, s10, s11.ext e, s12.tr e⟩
theorem SbX.e0 (s : SbX c h0 h W a bs) : Ext h0 h := by
  obtain ⟨v, cap, f, ml, s1, s2, s3, s4, s5, s6, s7, s8, s9, s10, s11, s12⟩ := s
  exact s12
theorem SbX.w0 (s : SbX c h0 h W a bs) : ∀ b, W b → h0 b = none := by
  obtain ⟨v, cap, f, ml, s1, s2, s3, s4, s5, s6, s7, s8, s9, s10, s11, s12⟩ := s
  exact s10
theorem SbX.ow (s : SbX c h0 h W a bs) : OwnOK h W := by
  obtain ⟨v, cap, f, ml, s1, s2, s3, s4, s5, s6, s7, s8, s9, s10, s11, s12⟩ := s
  exact s11
theorem Ext.mvt {h' : HW} {W' : Nat → Prop} (e : Ext h h') (hw : ∀ b, W' b → W b ∨ h b = Option.none) : MvT h W h' W' := fun b hb hn => ⟨e b hb, fun z => (hw b z).elim hn hb⟩
theorem NodeAt.ext {h' : HW} {d : Nat} {nd : NT d} (r : NodeAt h Own d a nd) (e : Ext h h') : NodeAt h' Own d a nd := NodeAt.mv (fun b hb hn => ⟨e b hb, hn⟩) _ _ _ r
theorem node_rc : ∀ {d : Nat} {nd : NT d}, NodeAt h Own d a nd → ∃ w fs, h a = some (w, .inr (8, fs))
  | 0, nd, r => by obtain ⟨⟨w, ql, qr, z⟩, -⟩ := r; exact ⟨_, _, z⟩
  | d + 1, nd, r => by
    rcases r with ⟨⟨w, ql, qr, z⟩, -⟩ | ⟨-, -, -, w, l2, r2, z, -⟩
    · exact ⟨_, _, z⟩
    · exact ⟨_, _, z⟩
/-- a leaf's text -/
theorem s_tleaf {wr : HW → Nat → Int32 → Nat → Nat → (Option Nat → HW → Prop) → Prop} {q : Nat × Nat} {lv : Int32} {mc ms : Nat} {post : Option Nat → HW → Prop} (r : LeafAt h Own a q) (k : KC c K h W) (hW : OwnOK h W) (hc : 6 ≤ mc) (hs : 672 ≤ ms)
    (hp : ∀ (x : Nat) (h' : HW), Ext h h' → StrX c h' W x (leafX q) → post (some x) h') : w_X8_text_F c K wr h a lv mc ms post := by
  obtain ⟨⟨w, ql, qr, h1⟩, h2, h3⟩ := r
  have hq2 : q.2 < 2 ^ 31 := by omega
  unfold w_X8_text_F
  refine ⟨w, _, nI q.1, h1, rfl, ?_⟩
  refine br_eq0 (by omega) (fun z => ?_) (fun z => ?_)
  · have hn : q.2 ≤ 9999 := by omega
    have eL : leafX q = decL q.2 := if_pos z
    rw [eL] at hp
    refine j_new (P := fun q7 h11 mc ms => (∃ w fs, h11 q7 = some (w, .inr (12, fs))) ∧ (∃ m16 z16 mB16 zB16 : Nat, mc = m16 + mB16 ∧ ms = z16 + zB16 ∧ w_J4_append_15ec4 c K h11 q7 (K.1 14) m16 z16 _)) Ext.rf (by omega) (by omega) fun q7 h11 W1 s1 w1 e1 => ?_
    have k1 : KC c K h11 W1 := k.mv (e1.mvt fun b hb => Or.inr (w1 b hb))
    refine ⟨s1.rc, 1, 216, mc - 3, ms - 236, by omega, by omega, ?_⟩
    refine j_append s1 (k1.1 14 (by omega)) (by decide) (by omega) (by omega) fun h16 W2 s2 m2 d2 => ?_
    have k2 := k1.mv m2
    refine ⟨q7, rfl, ?_⟩
    refine ⟨w, _, nI q.2, s2.e0.at h1, rfl, s2.rc, 1, 216, mc - 4, ms - 452, by omega, by omega, ?_⟩
    refine j_appI s2 k2 hn (by decide) (by omega) (by omega) fun h23 W3 s3 m3 d3 => ?_
    refine ⟨q7, rfl, s3.rc, 2, 220, mc - 6, ms - 672, by omega, by omega, ?_⟩
    have hd := (decL_lt q.2 hn).2
    have e9 : (([] : List Nat) ++ TXT.getD 14 []) ++ decL q.2 = decL q.2 := rfl
    rw [e9] at s3
    refine j_toString s3 (by omega) (by omega) (by omega) fun h26 x sx hx m4 d4 e4 => ?_
    exact ⟨x, rfl, hp x h26 e4 (sx W (hW.ext s3.e0))⟩
  · have hk1 : q.1 = 1 ∧ q.2 ≤ 4 := by omega
    have eL : leafX q = TXT.getD (5 + q.2) [] := if_neg z
    rw [eL] at hp
    refine ⟨w, _, nI q.1, h1, rfl, ?_⟩
    refine br_eq (b := 1) (by omega) (by omega) (fun _ => ?_) (fun y => by omega)
    refine ⟨w, _, nI q.2, h1, rfl, ?_⟩
    obtain ⟨k1, ⟨⟨w2, f2, k2, k3⟩, k4⟩, -⟩ := k
    refine i_lR k2 (by omega) (by omega) (k3 q.2 (by omega)) ?_
    exact hp _ h Ext.rf (k1 (5 + q.2) (by omega))
theorem pw_pos (d : Nat) : 1 ≤ 2 ^ d := Nat.two_pow_pos d
/-- the text of a node -/
theorem s_text : ∀ (d f mc ms lv a : Nat) (h : HW) (W : Nat → Prop) (nd : NT d) (post : Option Nat → HW → Prop), NodeAt h Own d a nd → KC c K h W → OwnOK h W → d ≤ 2 → d < f → lv ≤ 3 → 20 * 2 ^ d ≤ mc + 14 → 2452 * 2 ^ d ≤ ms + 1780 →
    (∀ (x : Nat) (h' : HW), Ext h h' → StrX c h' W x (ntx d nd lv) → post (some x) h') → w_X8_text c K f h a (nI lv) mc ms post := by
  intro d
  induction d with
  | zero =>
    intro f mc ms lv a h W nd post r k hW hd hf hlv hc hs hp
    obtain ⟨f, rfl⟩ : ∃ g, f = g + 1 := ⟨f - 1, by omega⟩
    show w_X8_text_F c K (w_X8_text c K f) h a (nI lv) mc ms post
    exact s_tleaf (q := nd) r k hW (by omega) (by omega) hp
  | succ d ih =>
    intro f mc ms lv a h W nd post r k hW hd hf hlv hc hs hp
    obtain ⟨f, rfl⟩ : ∃ g, f = g + 1 := ⟨f - 1, by omega⟩
    show w_X8_text_F c K (w_X8_text c K f) h a (nI lv) mc ms post
    have h6 : 2 ^ (d + 1) = 2 * 2 ^ d := by rw [Nat.pow_succ]; omega
    have h7 := pw_pos d
    have hpd : 2 ^ d ≤ 2 := by
      rcases (show d = 0 ∨ d = 1 by omega) with rfl | rfl <;> decide
    rw [h6] at hc hs
    generalize hpw : 2 ^ d = pw at hc hs h7 hpd
    obtain ⟨q, nl, nr⟩ : (Nat × Nat) × NT d × NT d := nd
    have hp : ∀ (x : Nat) (h' : HW), Ext h h' → StrX c h' W x (if q.1 < 2 then leafX q else if (if q.1 < 4 then 1 else 2) < lv then ([40] ++ (ntx d nl (if q.1 < 4 then 1 else 2) ++ opX q.1 ++ ntx d nr ((if q.1 < 4 then 1 else 2) + 1))) ++ [41] else ntx d nl (if q.1 < 4 then 1 else 2) ++ opX q.1 ++ ntx d nr ((if q.1 < 4 then 1 else 2) + 1)) → post (some x) h' := hp
    rcases r with r | ⟨r1, r2, r3, w, la, ra, r4, r5, r6⟩
    · have hq : q.1 < 2 := by
        obtain ⟨-, -, h3⟩ := r
        have h3 : q.1 = 0 ∧ q.2 ≤ 9999 ∨ q.1 = 1 ∧ q.2 ≤ 4 := h3
        omega
      rw [if_pos hq] at hp
      exact s_tleaf (q := q) r k hW (by omega) (by omega) hp
    · have r1 : 2 ≤ q.1 := r1
      have r2 : q.1 ≤ 5 := r2
      have r4 : h a = some (w, .inr (8, [.int (nI q.1), .int (nI q.2), .ref la, .ref ra])) := r4
      have r5 : NodeAt h Own d la nl := r5
      have r6 : NodeAt h Own d ra nr := r6
      rw [if_neg (by omega)] at hp
      obtain ⟨own, hown⟩ : ∃ own : Nat, own = (if q.1 < 4 then 1 else 2) := ⟨_, rfl⟩
      have ho2 : own ≤ 2 ∧ 1 ≤ own := by rw [hown]; split <;> omega
      rw [← hown] at hp
      have hl1 := ntx_len d nl own
      have hl2 := ntx_len d nr (own + 1)
      have hl3 := opX_len q.1
      rw [hpw] at hl1 hl2
      generalize hA : ntx d nl own = A at hp hl1
      generalize hB : ntx d nr (own + 1) = B at hp hl2
      unfold w_X8_text_F
      refine ⟨w, _, nI q.1, r4, rfl, ?_⟩
      refine br_eq0 (by omega) (fun z => by omega) (fun _ => ?_)
      refine ⟨w, _, nI q.1, r4, rfl, ?_⟩
      refine br_eq (b := 1) (by omega) (by omega) (fun z => by omega) (fun _ => ?_)
      refine ⟨w, _, nI q.1, r4, rfl, ?_⟩
      have hJ60 : w_X8_text_J60 c K h a (nI lv) post (w_X8_text c K f) mc ms (nI own) := by
        unfold w_X8_text_J60
        refine j_new (P := fun q61 h65 mc ms => gR h65 a 8 2 _) Ext.rf (by omega) (by omega) fun q1 h1 W1 s1 w1 e1 => ?_
        have k1 : KC c K h1 W1 := k.mv (e1.mvt fun b hb => Or.inr (w1 b hb))
        refine ⟨w, _, la, e1.at r4, rfl, node_rc (r5.ext e1), 20 * pw - 14, 2452 * pw - 1780, mc - 2 - (20 * pw - 14), ms - 20 - (2452 * pw - 1780), by omega, by omega, ?_⟩
        refine ih f _ _ own la h1 W1 nl _ (r5.ext e1) k1 s1.ow (by omega) (by omega) (by omega) (by rw [hpw]; omega) (by rw [hpw]; omega) fun x1 h2 e2 t1 => ?_
        rw [hA] at t1
        have s2 := s1.ext e2
        have k2 : KC c K h2 W1 := k1.mv (e2.mvt fun b hb => Or.inl hb)
        refine ⟨x1, rfl, s2.rc, 1, 216, mc - 3 - (20 * pw - 14), ms - 236 - (2452 * pw - 1780), by omega, by omega, ?_⟩
        refine j_append s2 t1 (by show 0 + _ ≤ _; omega) (by omega) (by omega) fun h3 W3 s3 m3 d3 => ?_
        have k3 := k2.mv m3
        have s3 : SbX c h h3 W3 q1 A := s3
        refine ⟨q1, rfl, ?_⟩
        have hJ120 : ∀ i, i < 22 → TXT.getD i [] = opX q.1 → w_X8_text_J120 c K a (nI lv) post (w_X8_text c K f) (nI own) h3 (mc - 3 - (20 * pw - 14)) (ms - 236 - (2452 * pw - 1780)) (K.1 i) q1 := by
          intro i hi ei
          unfold w_X8_text_J120
          refine ⟨s3.rc, 1, 216, mc - 4 - (20 * pw - 14), ms - 452 - (2452 * pw - 1780), by omega, by omega, ?_⟩
          have ti := k3.1 i hi
          rw [ei] at ti
          refine j_append s3 ti (by omega) (by omega) (by omega) fun h4 W4 s4 m4 d4 => ?_
          have k4 := k3.mv m4
          refine ⟨q1, rfl, w, _, ra, s4.e0.at r4, rfl, ?_⟩
          intro x129 e129
          have e129 : x129 = nI (own + 1) := by rw [e129, nI_1]
          subst e129
          refine ⟨node_rc (r6.ext s4.e0), 20 * pw - 14, 2452 * pw - 1780, mc - 4 - 2 * (20 * pw - 14), ms - 452 - 2 * (2452 * pw - 1780), by omega, by omega, ?_⟩
          refine ih f _ _ (own + 1) ra h4 W4 nr _ (r6.ext s4.e0) k4 s4.ow (by omega) (by omega) (by omega) (by rw [hpw]; omega) (by rw [hpw]; omega) fun x2 h5 e5 t2 => ?_
          rw [hB] at t2
          have s5 := s4.ext e5
          refine ⟨x2, rfl, s5.rc, 1, 216, mc - 5 - 2 * (20 * pw - 14), ms - 668 - 2 * (2452 * pw - 1780), by omega, by omega, ?_⟩
          refine j_append s5 t2 (by rw [List.length_append]; omega) (by omega) (by omega) fun h6 W6 s6 m6 d6 => ?_
          refine ⟨q1, rfl, s6.rc, 2, 220, mc - 7 - 2 * (20 * pw - 14), ms - 888 - 2 * (2452 * pw - 1780), by omega, by omega, ?_⟩
          have hS : (A ++ opX q.1 ++ B).length ≤ 37 := by rw [List.length_append, List.length_append]; omega
          generalize hSS : A ++ opX q.1 ++ B = S at hS s6 hp
          refine j_toString s6 (by omega) (by omega) (by omega) fun h7 x3 t3 hx3 m7 d7 e7 => ?_
          refine ⟨x3, rfl, ?_⟩
          refine br_le (by omega) (by omega) (fun z => ?_) (fun z => ?_)
          · rw [if_neg (by omega)] at hp
            exact hp x3 h7 e7 (t3 W (hW.ext s6.e0))
          · rw [if_pos z] at hp
            refine j_new (P := fun q145 h149 mc ms => (∃ w fs, h149 q145 = some (w, .inr (12, fs))) ∧ (∃ m154 z154 mB154 zB154 : Nat, mc = m154 + mB154 ∧ ms = z154 + zB154 ∧ w_J4_append_15ec4 c K h149 q145 (K.1 19) m154 z154 _)) e7 (by omega) (by omega) fun q2 h8 W8 s8 w8 e8 => ?_
            have k8 : KC c K h8 W8 := k.mv (Ext.mvt (e7.tr e8) fun b hb => Or.inr (e7.none (w8 b hb)))
            refine ⟨s8.rc, 1, 216, mc - 10 - 2 * (20 * pw - 14), ms - 1124 - 2 * (2452 * pw - 1780), by omega, by omega, ?_⟩
            refine j_append s8 (k8.1 19 (by omega)) (by decide) (by omega) (by omega) fun h9 W9 s9 m9 d9 => ?_
            refine ⟨q2, rfl, s9.rc, 1, 216, mc - 11 - 2 * (20 * pw - 14), ms - 1340 - 2 * (2452 * pw - 1780), by omega, by omega, ?_⟩
            have t8 : StrX c h8 W8 x3 S := (t3 (fun _ => False) (fun _ z => z.elim)).mv (e8.mvt fun b hb => Or.inr (w8 b hb))
            refine j_append s9 (t8.mv m9) (by show 1 + _ ≤ _; omega) (by omega) (by omega) fun h10 W10 s10 m10 d10 => ?_
            refine ⟨q2, rfl, s10.rc, 1, 216, mc - 12 - 2 * (20 * pw - 14), ms - 1556 - 2 * (2452 * pw - 1780), by omega, by omega, ?_⟩
            refine j_append s10 (((k8.mv m9).mv m10).1 20 (by omega)) (by rw [List.length_append]; show 1 + _ + 1 ≤ _; omega) (by omega) (by omega) fun h11 W11 s11 m11 d11 => ?_
            refine ⟨q2, rfl, s11.rc, 2, 220, mc - 14 - 2 * (20 * pw - 14), ms - 1776 - 2 * (2452 * pw - 1780), by omega, by omega, ?_⟩
            have e40 : (([] : List Nat) ++ TXT.getD 19 []) ++ S ++ TXT.getD 20 [] = ([40] ++ S) ++ [41] := rfl
            rw [e40] at s11
            refine j_toString s11 (by rw [List.length_append, List.length_append]; show 1 + _ + 1 ≤ _; omega) (by omega) (by omega) fun h12 x4 t4 hx4 m12 d12 e12 => ?_
            exact ⟨x4, rfl, hp x4 h12 e12 (t4 W (hW.ext s11.e0))⟩
        have hop : ∀ i, i = (if q.1 = 2 then 15 else if q.1 = 3 then 16 else if q.1 = 4 then 17 else 18) → TXT.getD i [] = opX q.1 := fun i ei => by rw [ei]; rfl
        refine ⟨w, _, nI q.1, s3.e0.at r4, rfl, ?_⟩
        refine br_eq (b := 2) (by omega) (by omega) (fun z => hJ120 15 (by omega) (hop _ (by rw [if_pos z]))) (fun z2 => ?_)
        refine ⟨w, _, nI q.1, s3.e0.at r4, rfl, ?_⟩
        refine br_eq (b := 3) (by omega) (by omega) (fun z => hJ120 16 (by omega) (hop _ (by rw [if_neg z2, if_pos z]))) (fun z3 => ?_)
        refine ⟨w, _, nI q.1, s3.e0.at r4, rfl, ?_⟩
        refine br_eq (b := 4) (by omega) (by omega) (fun z => hJ120 17 (by omega) (hop _ (by rw [if_neg z2, if_neg z3, if_pos z]))) (fun z4 => hJ120 18 (by omega) (hop _ (by rw [if_neg z2, if_neg z3, if_neg z4])))
      refine br_le (a := 4) (by omega) (by omega) (fun z => ?_) (fun z => ?_)
      · rw [if_neg (by omega)] at hown
        subst hown
        exact hJ60
      · rw [if_pos (by omega)] at hown
        subst hown
        exact hJ60
end TX
