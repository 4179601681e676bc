/-! a text told to the class, over maps -/
/-- a formula may have been made -/
def GrC (c : Nat → ClassId) (ah : Nat → Nat) (ag : Nat → Nat → Nat) (ar : Nat → Nat) (ps : PS) (s : HS) (h h' : HW) (ps' : PS) (s' : HS) : Prop := CA c ah ag ar ps' s' h' ∧ FX h h' (fun b => b ∈ adL (wH c ah ag ar ps s)) ∧ (∀ b, b ∈ adL (wH c ah ag ar ps' s') → b ∈ adL (wH c ah ag ar ps s) ∨ h b = none) ∧ ∀ b, b ∈ adL (wH c ah ag ar ps s) → b ∈ adL (wH c ah ag ar ps' s')
/-- the reader's game was never played -/
def RdZ (s : HS) : Prop := s.2.2.2.2.1.2.2.1.1 9 = 0 ∧ s.2.2.2.2.1.2.2.1.1 6 = 0 ∧ s.2.2.2.2.1.2.2.1.1 8 = 0 ∧ ∀ p, p < 4 → s.2.2.2.2.1.2.2.1.2 1 p = 0
def rkX : Option TM → List Nat
  | none => []
  | some m => TXT.getD 4 [] ++ (32 :: (ntx m.1 m.2 0 ++ (32 :: 59 :: [])))
section LD
variable {c : Nat → ClassId} {K : (Nat → Nat) × (Nat → Nat)} {h : HW} {ah : Nat → Nat} {ag : Nat → Nat → Nat} {ar : Nat → Nat} {ps : PS} {s0 : HS} {u : Nat} {tx : List Nat} {B : Nat → TT} {T T00 : TT} {mx np hs mx0 np0 : Nat}
theorem adL_app {qs : PS} {s s' : HS} : adL (wH c ah ag ar (ps ++ qs) s') = adL (wH c ah ag ar ps s) ++ (wP c qs).map Prod.fst := by
  unfold adL wH wP
  rw [List.map_append, List.map_append, List.flatMap_append, List.map_append, ← List.append_assoc]
  rfl
theorem c_nxG {s s' : HS} {a p1 p2 n : Nat} {f : SA} {h1 : HW} (x : CA c ah ag ar ps s h) (q : hNx h (wH c ah ag ar ps s) (wH c ah ag ar (ps ++ [(a, p1, p2, n, f)]) s') h1) : GrC c ah ag ar ps s h h1 (ps ++ [(a, p1, p2, n, f)]) s' ∧ ∀ z ∈ ps, ¬ z.1 = a := by
  obtain ⟨q1, q2, q3, q4, q5⟩ := q
  have e := adL_app (c := c) (ah := ah) (ag := ag) (ar := ar) (ps := ps) (qs := [(a, p1, p2, n, f)]) (s := s) (s' := s')
  have hsub : ∀ b, b ∈ adL (wH c ah ag ar ps s) → b ∈ adL (wH c ah ag ar (ps ++ [(a, p1, p2, n, f)]) s') := fun b hb => by rw [e]; exact List.mem_append_left _ hb
  have h4 : ∀ b, ¬ h b = none → ¬ b ∈ adL (wH c ah ag ar ps s) → h1 b = h b := fun b hb hn => by
    obtain ⟨⟨w, v⟩, hz⟩ := Option.ne_none_iff_exists'.mp hb
    exact (q4 b w v hz (adL_off hn)).trans hz.symm
  refine ⟨⟨⟨q1, q2⟩, ⟨h4, fun b hb => ?_⟩, fun b hb => ?_, hsub⟩, fun z hz ea => ?_⟩
  · refine Classical.byContradiction fun hn => ?_
    rcases Classical.em (b ∈ adL (wH c ah ag ar ps s)) with z | z
    · obtain ⟨k, v, hk⟩ := adL_in.mp (hsub b z)
      rw [q1 k b v hk] at hb; cases hb
    · exact hn ((h4 b hn z).symm.trans hb)
  · rcases Classical.em (b ∈ adL (wH c ah ag ar ps s)) with z | z
    · exact Or.inl z
    · refine Or.inr (q5 b (adL_off z) fun ho => ?_)
      obtain ⟨k, v, hk⟩ := adL_in.mp hb
      exact ho k v hk
  · have hin : z.1 ∈ adL (wH c ah ag ar ps s') := by
      unfold adL wH
      rw [List.map_append]
      refine List.mem_append_right _ (List.mem_map.mpr ⟨(z.1, .inr (0, [.ref z.2.1, .ref z.2.2.1])), ?_, rfl⟩)
      exact List.mem_flatMap.mpr ⟨z, hz, List.mem_cons_self⟩
    obtain ⟨k, v, hk⟩ := adL_in.mp hin
    have hkl := (List.getElem?_eq_some_iff.mp hk).1
    have ew : wH c ah ag ar (ps ++ [(a, p1, p2, n, f)]) s' = wH c ah ag ar ps s' ++ wF c a p1 p2 n f := by
      unfold wH wP
      rw [List.flatMap_append, List.append_assoc]
      simp
    have g1 : (wH c ah ag ar (ps ++ [(a, p1, p2, n, f)]) s')[k]? = some (z.1, v) := by rw [ew, List.getElem?_append_left hkl]; exact hk
    have g2 : (wH c ah ag ar (ps ++ [(a, p1, p2, n, f)]) s')[(wH c ah ag ar ps s').length]? = some (a, .inr (0, [.ref p1, .ref p2])) := by rw [ew, List.getElem?_append_right (Nat.le_refl _), Nat.sub_self]; rfl
    have := q2.1 _ _ _ _ g1 g2 ea
    omega
/-- the class reads the text that was told to it -/
theorem s_ldt {mc ms : Nat} {oh os : Option Nat} {gs : List (Nat × Nat × Nat)} {om : Option TM} {post : Int32 → HW → Prop} (w : WS c h ah ag ar ps s0 u tx) (etx : tx = hedX mx np hs ++ (hubX oh ++ (sedX os ++ (gvsX gs ++ rkX om)))) (hl : tx.length ≤ 480) (rz : RdZ s0) (hG : GT ps s0.2.1 T00 mx0 np0) (hu : ∃ v, s0.1.1 1 = nI v ∧ v ≤ 8)
    (hm : 3 ≤ mx ∧ mx ≤ 9) (hn : 2 ≤ np ∧ np ≤ 4) (hs12 : 1 ≤ hs ∧ hs ≤ 12) (ho : ∀ v, oh = some v → v ≤ mx) (hsd : ∀ v, os = some v → v ≤ 9999) (hg : gvsOK mx np hs (oh.getD mx) (List.replicate np []) gs) (hgl : gs.length ≤ 20)
    (hT : T.1 0 = nI mx ∧ T.1 1 = nI hs ∧ T.1 2 = nI (oh.getD mx) ∧ T.1 3 = sedS 1 os ∧ T.1 8 = 0) (hH : tH T = gvsH (List.replicate np []) gs) (hL : (tT T).length = np ∧ ∀ p, p < np → (tT T).getD p 0 = 0) (hM : tM T = om) (hom : ∀ m, om = some m → m.1 ≤ 2 ∧ okN m.1 m.2) (hc : 3 ≤ mc) (hs9 : 518 ≤ ms)
    (hp : ∀ (h' : HW) (ps' : PS) (s' : HS), CA c ah ag ar ps' s' h' → SM ps' s' (dealT T mx hs (oh.getD mx) np) B mx np 0 → (∃ f, h' u = some (true, eI (c 0) 8 f) ∧ f 0 = 0 ∧ ∀ j, j < 5 → f (1 + j) = 0) → FX h h' (LU c ah ag ar ps s0 u) → (∀ b, b ∈ adL (wH c ah ag ar ps' s') → b ∈ adL (wH c ah ag ar ps s0) ∨ h b = none) → (∀ b, b ∈ adL (wH c ah ag ar ps s0) → b ∈ adL (wH c ah ag ar ps' s')) → post (nI (tK (dealT T mx hs (oh.getD mx) np)).length) h') : w_L_loadText c K h (ah 0) u mc ms post := by
  have hua := w.2.2.1
  refine s_loadText w hl fun h1 s1 st x1 t1 l1 l2 b1 f1 => ?_
  obtain ⟨tk, rfl, k0, kb, ks, ka⟩ := t1
  have ead : ∀ s, adL (wH c ah ag ar ps s) = adL (wH c ah ag ar ps s0) := fun s => adL_H c ah ag ar ps s s0
  have hTA : TA ((tkP s0 tk).2.2.2.2.1.2.1.2 0) tx.length 0 (hedX mx np hs ++ (hubX oh ++ (sedX os ++ (gvsX gs ++ rkX om)))) := by
    rw [← etx]; exact ta_0 fun k hk => kb k (by omega)
  obtain ⟨q, rd', k, f, hfk, hk, R, hf, hgr⟩ := r_pre (rd := (tkP s0 tk).2.2.2.2.1) hm hn hs12 ho hsd hg hgl (by omega) hTA
  have hbo : oh.getD mx ≤ mx := by
    cases oh with
    | none => exact Nat.le_refl _
    | some v => exact ho v rfl
  have hP : ∀ g', gEq g' rd'.2.2 → PT g' T mx np hs (oh.getD mx) := fun g' e => PT.of_RI R e hm hn hs12 hbo rz.1 rz.2.2.2 hT hH hL
  obtain ⟨-, -, -, -, -, r1, -, -, -, r5⟩ := id R
  have d6 : rd'.2.2.1.1 6 = 0 := (r5 6 (by omega)).trans rz.2.1
  have d8 : rd'.2.2.1.1 8 = 0 := (r5 8 (by omega)).trans rz.2.2.1
  have hfo : rd'.2.2.2.1 = none := by rw [r1]
  have hGt : GT ps (tkP s0 tk).2.1 T00 mx0 np0 := hG
  have hut : ∃ v, (tkP s0 tk).1.1 1 = nI v ∧ v ≤ 8 := hu
  obtain ⟨fb, b2, b3, b4⟩ := b1
  cases om with
  | none =>
    have hr := r_fin0 hfk hk R hf
    obtain ⟨s', e1, e2⟩ := load_0 (B := B) hGt hut k0 l1 l2 hr d6 d8 hfo hP hM
    refine Or.inl ⟨ah, ag, ar, ps, tkP s0 tk, _, s', e1, rfl, x1, fun h2 q2 => ?_⟩
    obtain ⟨x2, f2⟩ := c_nx q2
    rw [ead] at f2
    refine hp h2 ps s' x2 e2 ⟨fb, (f2.1 u hua).trans b2, b3, b4⟩ ⟨fun b hb hn => ?_, f1.2.tr f2.2⟩ (fun b hb => Or.inl (by rw [ead] at hb; exact hb)) (fun b hb => by rw [ead]; exact hb)
    exact (f2.1 b (fun z => hn (Or.inl z))).trans (f1.1 b hn)
  | some m =>
    obtain ⟨hm2, hok⟩ := hom m rfl
    obtain ⟨rd2, g1, g2, g3, g4, g5⟩ := r_fin1 (by omega) hm2 hok hfk hk R hgr
    have hpl := pst_len m.1 m.2
    have h8 : 2 ^ (m.1 + 1) ≤ 2 ^ 3 := Nat.pow_le_pow_right (by omega) (by omega)
    have h8 : 2 ^ (m.1 + 1) ≤ 8 := h8
    obtain ⟨r, s7r, er, ev, eS⟩ := load_1 (B := B) (rd' := rd2) hGt hut g3 (by rw [g2]; exact d6) (by rw [g2]; exact d8) (by rw [g2]; exact hP) hM hm2 hok g4 g5
    subst er
    refine Or.inr (Or.inr ⟨ah, ag, ar, ps, tkP s0 tk, rd2, _, s7r, ⟨nI_lt0 (by omega), by rw [k0, le_nI (by omega) (by omega)]; exact l1, g1, ?_, ?_, ev⟩, rfl, x1, hc, hs9, fun a31 h2 q2 => ?_⟩)
    · show ¬ rd2.1.1 5 < 0
      rw [g4]; exact nI_lt0 (by omega)
    · show rd2.1.1 5 < 500
      rw [g4, show (500 : Int32) = nI 500 from rfl, lt_nI (by omega) (by omega)]; omega
    · obtain ⟨⟨x2, f2, w2, w3⟩, fr⟩ := c_nxG x1 q2
      rw [ead] at f2 w2 w3
      refine hp h2 _ _ x2 (eS _ _ _ fr) ⟨fb, (f2.1 u (by rw [b2]; simp) hua).trans b2, b3, b4⟩ ⟨fun b hb hn => ?_, f1.2.tr f2.2⟩ (fun b hb => (w2 b hb).imp id fun z => f1.2 b z) w3
      have e1 := f1.1 b hn
      exact (f2.1 b (by rw [e1]; exact hb) (fun z => hn (Or.inl z))).trans e1
end LD
