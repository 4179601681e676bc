/-! what the law does in a step, beside all that lies -/
section LGW
variable {c : Nat → ClassId} {K : (Nat → Nat) × (Nat → Nat)} {h h' : HW} {ah : Nat → Nat} {ag : Nat → Nat → Nat} {ar : Nat → Nat} {ps ps' : PS} {s s' : HS} {A : Nat → Nat} {T T' : TT} {qr qb : Nat} {AB : Nat → Nat → Nat} {B B' : Nat → TT} {mx np hs hb tn pa f e n m M d : Nat} {sd : Int32}
theorem LG.ca (x : LG c K h ah ag ar ps s A T qr qb AB B M d sd) : CA c ah ag ar ps s h := by
  obtain ⟨Own, fv, lab, bf, fb, x⟩ := x
  exact x.1.1
theorem LG.rc (x : LG c K h ah ag ar ps s A T qr qb AB B M d sd) : ∃ w fs, h (A 0) = some (w, .inr (10, fs)) := by
  obtain ⟨Own, fv, lab, bf, fb, x⟩ := x
  exact t_rc x.1.2.1
theorem LG.rq (x : LG c K h ah ag ar ps s A T qr qb AB B M d sd) : ∃ w fs, h qr = some (w, .inr (9, fs)) := by
  obtain ⟨Own, fv, lab, bf, fb, x⟩ := x
  exact ⟨_, _, x.2.2.1.2⟩
theorem LG.cls (x : LG c K h ah ag ar ps s A T qr qb AB B M d sd) (hp : ∀ c, (wP c ps').map Prod.fst = (wP c ps).map Prod.fst) (q : hNx h (wH c ah ag ar ps s) (wH c ah ag ar ps' s') h') : LG c K h' ah ag ar ps' s' A T qr qb AB B M d sd := by
  obtain ⟨Own, fv, lab, bf, fb, x⟩ := x
  exact ⟨Own, fv, lab, bf, fb, x.cls hp q⟩
theorem LG.kc (x : LG c K h ah ag ar ps s A T qr qb AB B M d sd) : KC c K h (fun _ => False) := by
  obtain ⟨Own, fv, lab, bf, fb, x⟩ := x
  exact x.1.2.2.2.2.mv fun b _ _ => ⟨rfl, fun z => z⟩
theorem l_bel {k : Nat} {P : Int32 → HW → Prop} (x : LG c K h ah ag ar ps s A T qr qb AB B M d sd) (hn : 0 < k) (hn2 : k < 2 ^ 31) (hp : ∀ h', LG c K h' ah ag ar ps s A T qr qb AB B M d (nxt sd) → P (nI (mixN (nxt sd) % k)) h') : (∃ w fs, h qr = some (w, .inr (9, fs))) ∧ w_X9_below c K h qr (nI k) P := by
  obtain ⟨Own, fv, lab, bf, fb, x⟩ := x
  exact ⟨⟨_, _, x.2.2.1.2⟩, s_below x.2.2.1.2 hn hn2 fun h' a f d => hp h' ⟨Own, fv, lab, bf, fb, x.rnd a f d⟩⟩
theorem l_gI {k : Nat} {P : Int32 → Prop} (x : LG c K h ah ag ar ps s A T qr qb AB B M d sd) (hk : k < 10) (hp : P (T.1 k)) : gI h (A 0) 10 k P := by
  obtain ⟨Own, fv, lab, bf, fb, x⟩ := x
  exact t_gI x.1.2.1 hk hp
theorem l_pV {k : Nat} {v : Int32} {P : HW → Prop} (x : LG c K h ah ag ar ps s A T qr qb AB B M d sd) (hk : k < 10) (hp : ∀ h', LG c K h' ah ag ar ps s A (sS T k v) qr qb AB B M d sd → P h') : pV h (A 0) 10 k (.int v) P := by
  obtain ⟨Own, fv, lab, bf, fb, x⟩ := x
  exact t_pV x.1.2.1 hk fun h' t f d => hp h' ⟨Own, fv, lab, bf, fb, x.tab t f d⟩
theorem l_lenR {P : Int32 → Prop} (x : LG c K h ah ag ar ps s A T qr qb AB B M d sd) (hp : P (nI (tR T).length)) : gR h (A 0) 10 12 (fun g => lenA h (c 2) g P) := by
  obtain ⟨Own, fv, lab, bf, fb, x⟩ := x
  exact t_g12 x.1.2.1 (t_lenR x.1.2.1 hp)
theorem l_lenK {P : Int32 → Prop} (x : LG c K h ah ag ar ps s A T qr qb AB B M d sd) (hp : P (nI (tK T).length)) : gR h (A 0) 10 14 (fun g => lenA h (c 0) g P) := by
  obtain ⟨Own, fv, lab, bf, fb, x⟩ := x
  exact t_g14 x.1.2.1 fun st hst => r_len hst hp
theorem l_why {x0 k : Nat} {post : Int32 → HW → Prop} (x : LG c K h ah ag ar ps s A T qr qb AB B M d sd) (w : TW T mx np hs hb tn pa) (hx : x0 < 100) (hk : k ≤ np) (hp : post (whyT T hb tn x0 k) h) : w_X10_why c K h (A 0) (nI x0) (nI k) post := by
  obtain ⟨Own, fv, lab, bf, fb, x⟩ := x
  exact s_why x.1.2.1 w hx hk hp
theorem l_play {x0 k mc ms : Nat} {post : Int32 → HW → Prop} (x : LG c K h ah ag ar ps s A T qr qb AB B M d sd) (w : TW T mx np hs hb tn pa) (hx : x0 < 100) (hk : k ≤ np) (hc : 60 ≤ mc) (hs9 : 3600 ≤ ms) (hp : ∀ h', LG c K h' ah ag ar ps s A (playT T np tn x0 k) qr qb AB B M d sd → post (nI (endT hb (trn T k ++ [x0]))) h') : w_X10_plays_ c K h (A 0) (nI x0) (nI k) mc ms post := by
  obtain ⟨Own, fv, lab, bf, fb, x⟩ := x
  exact s_play x.1.2.1 x.1.2.2.1 w hx hk hc hs9 fun h' t f d => hp h' ⟨Own, fv, lab, bf, fb, x.tab t f d⟩
theorem l_mayDraw {post : Int32 → HW → Prop} (x : LG c K h ah ag ar ps s A T qr qb AB B M d sd) (w : TW T mx np hs hb tn pa) (hp : post (if tDr T np hb tn then 1 else 0) h) : w_X10_mayDraw c K h (A 0) post := by
  obtain ⟨Own, fv, lab, bf, fb, x⟩ := x
  exact s_mayDraw x.1.2.1 w hp
theorem l_mayPass {post : Int32 → HW → Prop} (x : LG c K h ah ag ar ps s A T qr qb AB B M d sd) (w : TW T mx np hs hb tn pa) (hp : post (if tPa T np hb tn then 1 else 0) h) : w_X10_mayPass c K h (A 0) post := by
  obtain ⟨Own, fv, lab, bf, fb, x⟩ := x
  exact s_mayPass x.1.2.1 w hp
theorem l_draw {mc ms : Nat} {post : Int32 → HW → Prop} (x : LG c K h ah ag ar ps s A T qr qb AB B M d sd) (w : TW T mx np hs hb tn pa) (h0 : 0 < (tK T).length) (hc : 60 ≤ mc) (hs9 : 3600 ≤ ms) (hp : ∀ h', LG c K h' ah ag ar ps s A (drawT T tn) qr qb AB B M d sd → post (nI ((tK T).getD 0 0)) h') : w_X10_draws c K h (A 0) mc ms post := by
  obtain ⟨Own, fv, lab, bf, fb, x⟩ := x
  exact s_draw x.1.2.1 x.1.2.2.1 w h0 hc hs9 fun h' t f d => hp h' ⟨Own, fv, lab, bf, fb, x.tab t f d⟩
theorem l_pass {post : Int32 → HW → Prop} (x : LG c K h ah ag ar ps s A T qr qb AB B M d sd) (w : TW T mx np hs hb tn pa) (hp : ∀ h', LG c K h' ah ag ar ps s A (passT T np tn pa) qr qb AB B M d sd → post ((passT T np tn pa).1 4) h') : w_X10_passesOn c K h (A 0) post := by
  obtain ⟨Own, fv, lab, bf, fb, x⟩ := x
  exact s_pass x.1.2.1 w fun h' t f d => hp h' ⟨Own, fv, lab, bf, fb, x.tab t f d⟩
theorem l_best {post : Int32 → HW → Prop} (x : LG c K h ah ag ar ps s A T qr qb AB B M d sd) (w : TW T mx np hs hb tn pa) (hp : ∀ h', LG c K h' ah ag ar ps s A T qr qb AB B M d sd → bOK np (bestT T np hb tn) → post (encO (bestT T np hb tn)) h') : w_X10_best c K h (A 0) post := by
  obtain ⟨Own, fv, lab, bf, fb, x⟩ := x
  exact s_best x.1.2.1 w fun h' fv' t f d ok => hp h' ⟨Own, fv', lab, bf, fb, x.tab t f d⟩ ok
theorem l_copy {mc ms : Nat} {post : Option Nat → HW → Prop} (x : LG c K h ah ag ar ps s A T qr qb AB B M 0 sd) (w : TW T mx np hs hb tn pa) (hc : 16 ≤ mc) (hs9 : 60 ≤ ms) (hp : ∀ (h' : HW) (Ap : Nat → Nat), LG c K h' ah ag ar ps s A T qr qb (shA Ap AB) (shB T B) M 1 sd → post (some (Ap 0)) h') : w_X10_copy c K h (A 0) mc ms post := by
  obtain ⟨Own, fv, lab, bf, fb, x⟩ := x
  exact s_copy x.1.2.1 x.1.2.2.1 w hc hs9 fun h' Ap nt => hp h' Ap (x.cpy nt)
theorem LG.drop {Ap : Nat → Nat} (x : LG c K h ah ag ar ps s A T' qr qb (shA Ap AB) (shB T B) M 1 sd) : LG c K h ah ag ar ps s A T' qr qb AB B M 0 sd := by
  obtain ⟨Own, fv, lab, bf, fb, x⟩ := x
  exact x.drop
/-- the live table agrees -/
theorem l_agrees {mc ms : Nat} {post : Int32 → HW → Prop} (x : LG c K h ah ag ar ps s A T qr qb AB B M d sd) (hS : SM ps s T B' mx np m) (hc : 101 * np + 10 ≤ mc) (hs9 : 10100 * np + 60 ≤ ms) (hp : ∀ h' ps', LG c K h' ah ag ar ps' s A T qr qb AB B M d sd → SM ps' s T B' mx np m → post 1 h') : w_L_agrees c K h (ah 0) (A 0) mc ms post := by
  obtain ⟨Own, fv, lab, bf, fb, x⟩ := x
  refine s_agrees x.lv hS hc hs9 fun h' ps' fv' V pm pq fx => hp h' ps' ?_ (hS.pm pm)
  obtain ⟨⟨x1, x2, x3, x4, x5⟩, ⟨l0, l1, l2, l3, l4⟩, ⟨r1, r2⟩, ⟨b1, b2⟩, bb, tb⟩ := x
  have eA : adL (wH c ah ag ar ps' s) = adL (wH c ah ag ar ps s) := adL_H2 pq
  have F : FL h h' Own lab (fun n => n = 0 ∨ n = 1) := ⟨_, fx, fun b hb => hb.elim (fun z => ⟨x4 b z, Or.inl (l0 b z)⟩) fun z => by obtain ⟨i, hi, rfl⟩ := z; exact ⟨x2.own i hi, Or.inr (l1 i hi)⟩⟩
  exact ⟨Own, fv', lab, bf, fb, ⟨V.ca, V.tb, V.ow, V.cl, F.kk x5⟩, ⟨by rw [eA]; exact l0, l1, l2, l3, l4⟩, ⟨r1, F.pp r2 (by omega)⟩, ⟨b1, F.pp b2 (by omega)⟩, bb, fun j hj => F.tt (tb j hj) fun i hi z => by have := l4 j hj i hi; omega⟩
/-- a table before agrees -/
theorem l_agreesB {j mc ms : Nat} {post : Int32 → HW → Prop} (x : LG c K h ah ag ar ps s A T qr qb AB B M 0 sd) (hj : j < M) (hS : SM ps s (B j) B' mx np m) (hc : 101 * np + 10 ≤ mc) (hs9 : 10100 * np + 60 ≤ ms) (hp : ∀ h' ps', LG c K h' ah ag ar ps' s A T qr qb AB B M 0 sd → SM ps' s (B j) B' mx np m → post 1 h') : w_L_agrees c K h (ah 0) (AB j 0) mc ms post := by
  obtain ⟨Own, fv, lab, bf, fb, x⟩ := x
  obtain ⟨⟨x1, x2, x3, x4, x5⟩, ⟨l0, l1, l2, l3, l4⟩, ⟨r1, r2⟩, ⟨b1, b2⟩, bb, tb⟩ := x
  have V0 : LV c h ah ag ar ps s Own (AB j) (B j) (fb j) := ⟨x1, tb j hj, x3, x4, fun i hi z => by have := l0 _ z; rw [l4 j hj i hi] at this; omega⟩
  refine s_agrees V0 hS hc hs9 fun h' ps' fv' V pm pq fx => hp h' ps' ?_ (hS.pm pm)
  have eA : adL (wH c ah ag ar ps' s) = adL (wH c ah ag ar ps s) := adL_H2 pq
  have F : FL h h' Own lab (fun n => n = 0 ∨ n = 4 + j) := ⟨_, fx, fun b hb => hb.elim (fun z => ⟨x4 b z, Or.inl (l0 b z)⟩) fun z => by obtain ⟨i, hi, rfl⟩ := z; exact ⟨(tb j hj).own i hi, Or.inr (l4 j hj i hi)⟩⟩
  refine ⟨Own, fv, lab, bf, (fun k => if k = j then fv' else fb k), ⟨V.ca, F.tt x2 fun i hi z => by have := l1 i hi; omega, V.ow, V.cl, F.kk x5⟩, ⟨by rw [eA]; exact l0, l1, l2, l3, l4⟩, ⟨r1, F.pp r2 (by omega)⟩, ⟨b1, F.pp b2 (by omega)⟩, bb, fun k hk => ?_⟩
  show TabV c h' Own (AB k) (B k) (if k = j then fv' else fb k)
  by_cases z : k = j
  · rw [if_pos z, z]; exact V.tb
  · rw [if_neg z]
    exact F.tt (tb k hk) fun i hi y => by have := l4 k hk i hi; omega
theorem l_goesOn {q : Nat × Nat × Nat × SA} {N j mc ms : Nat} {post : Int32 → HW → Prop} (x : LG c K h ah ag ar ps' s' A T qr qb AB B M d sd) (G : GE ps s.2.1 T mx np hs hb tn pa f e n) (hN : N ≤ 200) (hc : 60 * N ≤ mc) (hs9 : 3600 * N ≤ ms) (hj : j ≤ N) (h1 : ∀ i, i < j → (chT np hb T i).1 7 = 0) (h2 : j = N ∨ ¬ (chT np hb T j).1 7 = 0) (hp : ∀ h', LG c K h' ah ag ar ps' s' A (chT np hb T j) qr qb AB B M d sd → post (nI j) h') : w_X10_goesOn c K h (A 0) (nI N) mc ms post := by
  obtain ⟨Own, fv, lab, bf, fb, x⟩ := x
  obtain ⟨i0, r, ho, z, h4, h5⟩ := G
  refine s_goesOn (fun i T9 => T9 = chT np hb T i ∧ (∃ gg GG, At s.2.1 z.2.2.2 T z.2.2.1 mx np hs hb e i gg GG) ∧ ∀ k, k < i → (chT np hb T k).1 7 = 0) x.1.2.1 x.1.2.2.1 hN hc hs9 ⟨rfl, ⟨s.2.1, z.2.2.2, tn, pa, f, n, i0, r, rfl, rfl, ho⟩, fun k hk => absurd hk (Nat.not_lt_zero _)⟩ ?_ ?_
  · rintro i T9 ⟨rfl, ⟨gg, GG, hA⟩, hall⟩
    obtain ⟨tn', pa', f', n', a1, a2, a3, a4, a5⟩ := id hA
    refine ⟨mx, np, hs, hb, tn', pa', a2.tw a1, fun h7 => ?_⟩
    have h7' : gg.1.1 8 = 0 := by rw [← a2.S.2.2.2.2.2.2.2.1]; exact h7
    obtain ⟨g2, G2, -, c2⟩ := hA.next h5 h7'
    have hS := a2.S
    have e4 : ((chT np hb T i).1 4).toNatClampNeg = tn' := by rw [hS.2.2.2.2.1, a1.tn.1, nI_clamp (by have := a1.tn; have := a1.np; omega)]
    have e9 : ((chT np hb T i).1 9).toNatClampNeg = pa' := by rw [hS.2.2.2.2.2.2.2.2.2, a1.pa.1, nI_clamp (by have := a1.pa; have := a1.np; omega)]
    refine ⟨?_, ⟨g2, G2, c2⟩, fun k hk => ?_⟩
    · show _ = stepT (chT np hb T i) np hb ((chT np hb T i).1 4).toNatClampNeg ((chT np hb T i).1 9).toNatClampNeg
      rw [e4, e9]
    · rcases Nat.lt_or_ge k i with hk | hk'
      · exact hall k hk
      · rw [show k = i by omega]; exact h7
  · rintro h' fv' i T9 t f9 d9 ⟨rfl, -, hall⟩ hi hend
    have hij : i = j := by
      rcases Nat.lt_trichotomy i j with hlt | hlt | hlt
      · exfalso
        rcases hend with z | z
        · omega
        · exact z (h1 i hlt)
      · exact hlt
      · exfalso
        rcases h2 with z | z
        · omega
        · exact z (hall j hlt)
    subst hij
    exact hp h' ⟨Own, fv', lab, bf, fb, x.tab t f9 d9⟩
theorem l_deals {mc ms : Nat} {post : HW → Prop} (x : LG c K h ah ag ar ps s A T qr qb AB B M d sd) (h0 : T.1 0 = nI mx) (hm : mx ≤ 6) (h1s : T.1 1 = nI hs) (hhs : hs ≤ 12) (h2 : T.1 2 = nI hb) (hb9 : hb ≤ 9) (hn : (tH T).length = np) (hn4 : np ≤ 4) (hR : (tR T).length = np + 1) (hOl : (tO T).length = np + 1) (hH : ∀ p, (∀ x ∈ hnd T p, x < 100) ∧ (hnd T p).length ≤ 55) (hc : 160 ≤ mc) (hs9 : 8000 ≤ ms)
    (hp : ∀ h', LG c K h' ah ag ar ps s A (dealT T mx hs hb np) qr qb AB B M d sd → post h') : w_X10_deals c K h (A 0) mc ms post := by
  obtain ⟨Own, fv, lab, bf, fb, x⟩ := x
  exact s_deals x.1.2.1 x.1.2.2.1 h0 hm h1s hhs h2 hb9 hn hn4 hR hOl hH hc hs9 fun h' t f d => hp h' ⟨Own, fv, lab, bf, fb, x.tab t f d⟩
end LGW
