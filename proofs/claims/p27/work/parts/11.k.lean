/-! a random table, from its first row -/
section RT4
variable {c : Nat → ClassId} {K : (Nat → Nat) × (Nat → Nat)} {h0 h : HW} {ah : Nat → Nat} {ag : Nat → Nat → Nat} {ar : Nat → Nat} {ps : PS} {s0 : HS} {u a2 : Nat} {Own O : Nat → Prop} {A : Nat → Nat} {T T00 : TT} {fv : Nat → Int64} {tx : List Nat} {sd : Int32} {B : Nat → TT} {mx np hs mx0 np0 : Nat} {oh os : Option Nat} {gs : List (Nat × Nat × Nat)} {om : Option TM} {post : Option Nat → HW → Prop}
abbrev TB (mx np hs : Nat) : TT := sO (sR (sT (sH (sS (sS (sS T0 0 (nI mx)) 1 (nI hs)) 2 (nI mx)) (List.replicate np [])) (List.replicate np 0)) (List.replicate (np + 1) [])) (List.replicate (np + 1) 0)
theorem pd_0 : PD (TB mx np hs) mx np hs none none [] none := ⟨⟨rfl, rfl, rfl, rfl, rfl⟩, rfl, rfl, List.length_replicate, List.length_replicate, rfl⟩
theorem rt_95 {mc ms : Nat} (x : GR c K h0 h ah ag ar ps s0 u a2 Own O A (TB mx np hs) fv [] sd) (h1 : 3 ≤ mx ∧ mx ≤ 6) (h2 : 2 ≤ np ∧ np ≤ 4) (h3 : 1 ≤ hs ∧ hs ≤ 6) (rc : RC ps s0 T00 mx0 np0) (hc : 245 ≤ mc) (hs9 : 16639 ≤ ms) (hp : RP c K h0 ah ag ar ps s0 u a2 Own B post) : w_L_randomTable_J95 c K (ah 0) u a2 post (A 0) (nI np) h mc ms 3 (K.1 0) u (ah 0) := by
  unfold w_L_randomTable_J95
  refine a_nwI (n := 3) (by omega) (by omega) (by omega) fun q h4 n4 w4 e4 => ?_
  refine t_gI (k := 0) (x.tb.ext e4) (by omega) ?_
  refine i_stI (k := 0) w4 (by omega) (by omega) ?_
  refine i_stI (k := 1) hup_s (by omega) (by omega) ?_
  refine t_gI (k := 1) (x.tb.ext ((e4.upN n4).upN n4)) (by omega) ?_
  refine i_stI (k := 2) hup_s (by omega) (by omega) ?_
  refine g_wa (i := 0) (v := fun k => if k = 0 then mx else if k = 1 then np else hs) x (((e4.upN n4).upN n4).upN n4) n4 (by omega) hup_s (fun k hk => ?_) (by omega) (Nat.zero_le _) fun h6 x6 => ?_
  · rcases (show k = 0 ∨ k = 1 ∨ k = 2 by omega) with rfl | rfl | rfl
    · exact ⟨rfl, by show mx ≤ 9999; omega⟩
    · exact ⟨rfl, by show np ≤ 9999; omega⟩
    · exact ⟨rfl, by show hs ≤ 9999; omega⟩
  refine rt_123 x6 ?_ pd_0 ⟨h1, h2, h3, fun _ z => (by cases z), fun _ z => (by cases z), trivial, Nat.zero_le _⟩ rc (by omega) (by omega) hp
  have e11 : TXT.getD 11 [] = [59] := rfl
  have en : numsX (fun k => if k = 0 then mx else if k = 1 then np else hs) 3 = ((32 :: decL mx) ++ (32 :: decL np)) ++ (32 :: decL hs) := rfl
  rw [e11, en]
  unfold preX hedX hubX sedX gvsX
  simp
theorem rt_37 {mc ms : Nat} (x : GR c K h0 h ah ag ar ps s0 u a2 Own O A (sS T0 0 (nI mx)) fv [] sd) (h1 : 3 ≤ mx ∧ mx ≤ 6) (h2 : 2 ≤ np ∧ np ≤ 4) (h3 : 1 ≤ hs ∧ hs ≤ 6) (rc : RC ps s0 T00 mx0 np0) (hc : 258 ≤ mc) (hs9 : 16657 ≤ ms) (hp : RP c K h0 ah ag ar ps s0 u a2 Own B post) : w_L_randomTable_J37 c K (ah 0) u a2 post (A 0) (nI np) h mc ms (nI hs) (A 0) := by
  unfold w_L_randomTable_J37
  refine g_pV (k := 1) x (by omega) fun h4 x4 => ?_
  refine t_gI (k := 0) x4.tb (by omega) ?_
  show pV h4 (A 0) 10 2 (.int (nI mx)) _
  refine g_pV (k := 2) x4 (by omega) fun h5 x5 => ?_
  refine a_nwM (c := c) (n := np) x5.ow (by omega) (by omega) (by omega) fun q1 h6 n6 r6 e6 => ?_
  refine n_st10 x5.tb e6 n6 r6 (by rw [List.length_replicate]; omega) fun h7 t7 f7 d7 => ?_
  have x7 := x5.new e6 n6 r6.def t7 f7 d7
  have eA : va_up A 1 q1 0 = A 0 := va_ne (by omega)
  rw [← eA]
  generalize va_up A 1 q1 = A1 at x7 ⊢
  refine a_nwI (n := np) (by omega) (by omega) (by omega) fun q2 h8 n8 w8 e8 => ?_
  refine n_st11 x7.tb e8 n8 (vec_new w8) (by rw [List.length_replicate]; omega) fun h9 t9 f9 d9 => ?_
  have x9 := x7.new e8 n8 (by rw [w8]; simp) t9 f9 d9
  have eA : va_up A1 2 q2 0 = A1 0 := va_ne (by omega)
  rw [← eA]
  generalize va_up A1 2 q2 = A2 at x9 ⊢
  intro x71 e71
  rw [nI_1] at e71
  subst e71
  refine a_nwM (c := c) (n := np + 1) x9.ow (by omega) (by omega) (by omega) fun q3 h10 n10 r10 e10 => ?_
  unfold w_L_randomTable_J77
  refine n_st12 x9.tb e10 n10 r10 (by rw [List.length_replicate]; omega) fun h11 t11 f11 d11 => ?_
  have x11 := x9.new e10 n10 r10.def t11 f11 d11
  have eA : va_up A2 3 q3 0 = A2 0 := va_ne (by omega)
  rw [← eA]
  generalize va_up A2 3 q3 = A3 at x11 ⊢
  intro x84 e84
  rw [nI_1] at e84
  subst e84
  refine a_nwI (n := np + 1) (by omega) (by omega) (by omega) fun q4 h12 n12 w12 e12 => ?_
  refine n_st13 x11.tb e12 n12 (vec_new w12) (by rw [List.length_replicate]; omega) fun h13 t13 f13 d13 => ?_
  have x13 := x11.new e12 n12 (by rw [w12]; simp) t13 f13 d13
  have eA : va_up A3 4 q4 0 = A3 0 := va_ne (by omega)
  rw [← eA]
  generalize va_up A3 4 q4 = A4 at x13 ⊢
  exact rt_95 x13 h1 h2 h3 rc (by omega) (by omega) hp
/-- a random table -/
theorem s_rt {mc ms : Nat} (gb : GB c h ah ag ar ps s0 u a2 Own) (w : WS c h ah ag ar ps s0 u []) (hr : h a2 = some (true, .inr (9, [.int sd]))) (kc : KC c K h Own) (rc : RC ps s0 T00 mx0 np0) (hc : 270 ≤ mc) (hs9 : 16689 ≤ ms) (hp : RP c K h ah ag ar ps s0 u a2 Own B post) : w_L_randomTable c K h (ah 0) u a2 mc ms post := by
  unfold w_L_randomTable
  refine ⟨mc - 1, ms - 17, by omega, by omega, fun q0 hq => ?_⟩
  refine ⟨11, 15, mc - 12, ms - 32, by omega, by omega, ?_⟩
  refine s_tinit (h0 := h) (Own := Own) hup_s (Ext.new hq) hq gb.1 (Nat.le_refl _) (Nat.le_refl _) fun h4 A eA n4 => ?_
  subst eA
  obtain ⟨O, fv, t4, e4, a4, o1, o2, o3⟩ := n4
  have x4 : GR c K h h4 ah ag ar ps s0 u a2 Own O A T0 fv [] sd := ⟨gb, w.mv fun b hb _ => e4 b hb, e4.at hr, kc.mv (e4.mvt o2), t4, o3, e4.fx, a4, o1, o2⟩
  refine g_bel (n := 4) x4 (by omega) (by omega) fun h5 x5 => ?_
  generalize hv : mixN (nxt sd) % 4 = v
  intro x15 e15
  rw [show (3 : Int32) = nI 3 from rfl, nI_add] at e15
  subst e15
  refine g_pV (k := 0) x5 (by omega) fun h6 x6 => ?_
  refine g_bel (n := 3) x6 (by omega) (by omega) fun h7 x7 => ?_
  generalize hv2 : mixN (nxt (nxt sd)) % 3 = v2
  intro x25 e25
  rw [show (2 : Int32) = nI 2 from rfl, nI_add] at e25
  subst e25
  refine g_bel (n := 6) x7 (by omega) (by omega) fun h8 x8 => ?_
  generalize hv3 : mixN (nxt (nxt (nxt sd))) % 6 = v3
  intro x36 e36
  rw [show (1 : Int32) = nI 1 from rfl, nI_add] at e36
  subst e36
  exact rt_37 x8 (by omega) (by omega) (by omega) rc (by omega) (by omega) hp
end RT4
