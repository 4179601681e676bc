/-! texts and their builders, over maps -/
def ByF (cs : List Nat) (f : Nat → Int32) : Prop := ∀ i, i < cs.length → f i = sb_b (cs.getD i 0)
def MvT (h : HW) (W : Nat → Prop) (h' : HW) (W' : Nat → Prop) : Prop := ∀ b, ¬ h b = none → ¬ W b → h' b = h b ∧ ¬ W' b
theorem MvT.rf {h : HW} {W : Nat → Prop} : MvT h W h W := fun _ _ hn => ⟨rfl, hn⟩
theorem MvT.tr {h h1 h2 : HW} {W W1 W2 : Nat → Prop} (x : MvT h W h1 W1) (y : MvT h1 W1 h2 W2) : MvT h W h2 W2 := fun b hb hn => by
  obtain ⟨p, q⟩ := x b hb hn
  obtain ⟨p2, q2⟩ := y b (by rw [p]; exact hb) q
  exact ⟨p2.trans p, q2⟩
def StrX (c : Nat → ClassId) (h : HW) (W : Nat → Prop) (b : Nat) (cs : List Nat) : Prop := ∃ (w w2 : Bool) (q : Nat) (f : Nat → Int32), h b = some (w, .inr (11, [.ref q, .int 0])) ∧ h q = some (w2, eI (c 5) cs.length f) ∧ ByF cs f ∧ sb_Fit f ∧ ¬ W b ∧ ¬ W q ∧ (∀ x ∈ cs, x < 128) ∧ cs.length ≤ 100
def SbX (c : Nat → ClassId) (h0 h : HW) (W : Nat → Prop) (a : Nat) (bs : List Nat) : Prop := ∃ (v cap : Nat) (f : Nat → Int32) (ml : Int32), h a = some (true, .inr (12, [.ref v, .int 0, .int ml, .int (nI bs.length)])) ∧ h v = some (true, eI (c 5) cap f) ∧ bs.length ≤ cap ∧ cap ≤ 216 ∧ ByF bs f ∧ sb_Fit f ∧ (∀ x ∈ bs, x < 128) ∧ W a ∧ W v ∧ (∀ b, W b → h0 b = none) ∧ OwnOK h W ∧ Ext h0 h
section SX
variable {c : Nat → ClassId} {K : (Nat → Nat) × (Nat → Nat)} {h0 h : HW} {W : Nat → Prop} {a b : Nat} {bs cs : List Nat}
theorem StrX.mv {h' : HW} {W' : Nat → Prop} (s : StrX c h W b cs) (m : MvT h W h' W') : StrX c h' W' b cs := by
  obtain ⟨w, w2, q, f, s1, s2, s3, s4, s5, s6, s7⟩ := s
  obtain ⟨p1, p2⟩ := m b (by rw [s1]; simp) s5
  obtain ⟨q1, q2⟩ := m q (by rw [s2]; simp) s6
  exact ⟨w, w2, q, f, p1.trans s1, q1.trans s2, s3, s4, p2, q2, s7⟩
theorem StrX.rc (s : StrX c h W b cs) : ∃ w fs, h b = some (w, .inr (11, fs)) := by
  obtain ⟨w, w2, q, f, s1, -⟩ := s
  exact ⟨_, _, s1⟩
theorem SbX.rc (s : SbX c h0 h W a bs) : ∃ w fs, h a = some (w, .inr (12, fs)) := by
  obtain ⟨v, cap, f, ml, s1, -⟩ := s
  exact ⟨_, _, s1⟩
theorem j_coder {post : Int32 → HW → Prop} (s : StrX c h W b cs) (hp : post 0 h) : w_J0_coder_7d493 c K h b post := by
  obtain ⟨w, w2, q, f, s1, -⟩ := s
  exact ⟨by decide, w, _, 0, s1, rfl, by decide, hp⟩
theorem j_length {post : Int32 → HW → Prop} (s : StrX c h W b cs) (hp : post (nI cs.length) h) : w_J0_length_8abf5 c K h b post := by
  have s0 := s
  obtain ⟨w, w2, q, f, s1, s2, -⟩ := s
  refine ⟨w, _, q, s1, rfl, i_len s2 ⟨⟨_, _, s1⟩, j_coder s0 ?_⟩⟩
  intro x9 e9
  rw [e9, sb_shr0]
  exact hp
theorem j_latin {post : Int32 → HW → Prop} (s : SbX c h0 h W a bs) (hp : post 1 h) : w_J5_isLatin1_aae02 c K h a post := by
  obtain ⟨v, cap, f, ml, s1, -⟩ := s
  exact ⟨by decide, true, _, 0, s1, rfl, rfl, Or.inr rfl, hp⟩
theorem j_slat {post : Int32 → HW → Prop} (s : StrX c h W b cs) (hp : post 1 h) : w_J0_isLatin1_aae02 c K h b post := by
  obtain ⟨w, w2, q, f, s1, -⟩ := s
  exact ⟨by decide, w, _, 0, s1, rfl, rfl, Or.inr rfl, hp⟩
theorem nI_le0 {a b : Nat} (ha : a < 2 ^ 30) (hb : b < 2 ^ 30) : nI a - nI b ≤ 0 ↔ a ≤ b := by
  rw [Int32.le_iff_toInt_le, pk_sub_toInt ha hb]
  show (a : Int) - b ≤ 0 ↔ _
  omega
/-- room for q bytes -/
theorem j_ensure {q mc ms : Nat} {post : HW → Prop} (s : SbX c h0 h W a bs) (hq : q ≤ 100) (hc : 1 ≤ mc) (hs : 216 ≤ ms)
    (hp : ∀ (h' : HW) (W' : Nat → Prop) (v cap : Nat) (f : Nat → Int32) (ml : Int32), h' a = some (true, .inr (12, [.ref v, .int 0, .int ml, .int (nI bs.length)])) → h' v = some (true, eI (c 5) cap f) → q ≤ cap → bs.length ≤ cap → cap ≤ 216 → ByF bs f → sb_Fit f → W' a → W' v → (∀ b, W' b → h0 b = none) → OwnOK h' W' → Ext h0 h' → MvT h W h' W' → HDom h h' → ¬ v = a → post h') : w_J5_ensureCapacityInternal_d00df c K h a (nI q) mc ms post := by
  obtain ⟨v, cap, f, ml, s1, s2, s3, s4, s5, s6, s7, s8, s9, s10, s11, s12⟩ := s
  have hva : ¬ v = a := fun z => by rw [z, s1] at s2; cases s2
  unfold w_J5_ensureCapacityInternal_d00df
  refine ⟨true, _, v, s1, rfl, i_len s2 ⟨true, _, 0, s1, rfl, ?_⟩⟩
  intro x9 e9 x13 e13
  rw [sb_shr0] at e9
  subst e9
  subst e13
  refine ⟨fun z => ?_, fun z => ?_⟩
  · have z := (nI_le0 (by omega) (show cap < 2 ^ 30 by omega)).mp z
    exact hp h W v cap f ml s1 s2 z s3 s4 s5 s6 s8 s9 s10 s11 s12 MvT.rf HDom.rf hva
  · have z : cap < q := Nat.not_le.mp fun y => z ((nI_le0 (by omega) (show cap < 2 ^ 30 by omega)).mpr y)
    refine ⟨true, _, v, s1, rfl, ⟨_, _, s1⟩, ?_⟩
    unfold w_J5_newCapacity_0f7a4
    refine ⟨true, _, v, s1, rfl, i_len s2 ⟨true, _, 0, s1, rfl, ?_⟩⟩
    intro x11 e11 x15 e15
    rw [sb_shl0] at e11
    subst e11
    rw [nI_sub (by show cap ≤ q; omega)] at e15
    subst e15
    refine ⟨true, _, 0, s1, rfl, ?_⟩
    intro x27 e27 x28 e28
    rw [sb_shl0] at e27
    subst e27
    rw [show (2 : Int32) = nI 2 from rfl, nI_add] at e28
    subst e28
    unfold w_J8_newLength_cabcc
    intro x3 e3 x6 e6
    have e3 : x3 = nI (max (q - cap) (cap + 2)) := by
      rw [e3]
      by_cases y : q - cap < cap + 2
      · rw [if_pos ((nI_ltI (by omega) (by omega)).mpr y)]; congr 1; omega
      · rw [if_neg (fun w => y ((nI_ltI (by omega) (by omega)).mp w))]; congr 1; omega
    rw [e3, nI_add] at e6
    have e6 : x6 = nI (cap + max (q - cap) (cap + 2)) := e6
    obtain ⟨n, en⟩ : ∃ n, n = cap + max (q - cap) (cap + 2) := ⟨_, rfl⟩
    rw [← en] at e6
    subst e6
    have hn : n ≤ 216 ∧ q ≤ n ∧ cap < n := by omega
    refine ⟨fun y => by have := (nI_leI (b := 0) (show n < 2 ^ 31 by omega) (by omega)).mp y; omega, fun y => by have := (nI_ltI (a := 2147483639) (by omega) (show n < 2 ^ 31 by omega)).mp y; omega, ?_⟩
    refine ⟨fun y => by have := (nI_eq (b := 2147483647) (show n < 2 ^ 31 by omega) (by omega)).mp y; omega, ⟨true, _, 0, s1, rfl, ?_⟩⟩
    intro x57 e57
    rw [sb_shr0] at e57
    subst e57
    refine ⟨true, _, 0, s1, rfl, ?_⟩
    intro x31 e31
    rw [sb_shl0] at e31
    subst e31
    refine ⟨1, 216, mc - 1, ms - 216, by omega, by omega, ?_⟩
    unfold w_J7_copyOf_9075b
    refine i_len s2 ?_
    refine br_eq (by omega) (by show cap < _; omega) (fun y => absurd y (by show ¬ n = cap; omega)) (fun _ => ?_)
    refine a_nwI (by omega) (by omega) (by omega) fun v2 h1 hv2 y1 e1 => ?_
    refine i_len (e1.at s2) ?_
    intro x25 e25
    have e25 : x25 = nI cap := by
      rw [e25, if_neg (fun y => by have := (nI_ltI (show n < 2 ^ 31 by omega) (show cap < 2 ^ 31 by omega)).mp y; omega)]
    subst e25
    have hcc : (nI cap).toNatClampNeg = cap := nI_clamp (by omega)
    have h00 : (0 : Int32).toNatClampNeg = 0 := rfl
    have hvv : ¬ v = v2 := fun y => by rw [y, hv2] at s2; cases s2
    have hav : ¬ a = v2 := fun y => by rw [y, hv2] at s1; cases s1
    refine ⟨true, cap, n, f, _, e1.at s2, y1, by decide, by decide, nI_n0 (by omega), by rw [hcc, h00]; omega, by rw [hcc, h00]; omega, fun i hi => s6 _, ?_⟩
    rw [hcc, h00]
    refine ⟨v2, rfl, ?_⟩
    refine p_rawC (fs := [.ref v, .int 0, .int ml, .int (nI bs.length)]) ((hup_n hav).trans (e1.at s1)) (by show 0 < 4; decide) fun h3 z1 z2 z3 => ?_
    have hva2 : ¬ v2 = a := fun y => hav y.symm
    have D3 : HDom h h3 := (e1.dom.tr HDom.up).tr z3
    have key : ∀ b, ¬ h b = none → ¬ b = a → h3 b = h b := fun b hb hba => by
      have hb2 : ¬ b = v2 := fun y => hb (y ▸ hv2)
      have g1 := e1 b hb
      have g2 : hup h1 v2 (eI (c 5) n (va_cpy f (fun _ => 0) 0 0 cap)) b = h b := (hup_n hb2).trans g1
      exact (z2 b (by rw [g2]; exact hb) hba).trans g2
    refine hp h3 (OwnQ W v2) v2 n (va_cpy f (fun _ => 0) 0 0 cap) ml z1 (z2.at hup_s hva2) (by omega) (by omega) (by omega) (fun i hi => ?_) (sb_fitC s6 sb_fit0) (Or.inl s8) (Or.inr rfl) ?_ ?_ ?_ ?_ D3 hva2
    · rw [sb_cpy0 (by omega)]; exact s5 i hi
    · rintro b (hb | rfl)
      · exact s10 b hb
      · exact s12.none hv2
    · exact s11.q D3 (by rw [z2.at hup_s hva2]; simp)
    · intro b hb
      have g0 := s12 b hb
      exact (key b (by rw [g0]; exact hb) (fun y => hb (y ▸ s10 a s8))).trans g0
    · intro b hb hn2
      exact ⟨key b hb (fun y => hn2 (y ▸ s8)), fun y => y.elim hn2 (fun y => hb (y ▸ hv2))⟩
theorem getD_app_l {l m : List Nat} {i : Nat} (h : i < l.length) : (l ++ m).getD i 0 = l.getD i 0 := by
  rw [List.getD_eq_getElem?_getD, List.getD_eq_getElem?_getD, List.getElem?_append_left h]
theorem getD_app_r {l m : List Nat} {i : Nat} (h : l.length ≤ i) : (l ++ m).getD i 0 = m.getD (i - l.length) 0 := by
  rw [List.getD_eq_getElem?_getD, List.getD_eq_getElem?_getD, List.getElem?_append_right h]
/-- a text behind -/
theorem j_append {mc ms : Nat} {post : Option Nat → HW → Prop} (s : SbX c h0 h W a bs) (st : StrX c h W b cs) (hl : bs.length + cs.length ≤ 100) (hc : 1 ≤ mc) (hs : 216 ≤ ms)
    (hp : ∀ (h' : HW) (W' : Nat → Prop), SbX c h0 h' W' a (bs ++ cs) → MvT h W h' W' → HDom h h' → post (some a) h') : w_J4_append_15ec4 c K h a b mc ms post := by
  have s0 := s
  unfold w_J4_append_15ec4
  refine ⟨s.rc, mc, ms, 0, 0, by omega, by omega, ?_⟩
  unfold w_J5_append_cf1ce
  refine ⟨st.rc, j_length st ?_⟩
  obtain ⟨v0, cap0, f0, ml0, s1, s2, s3, s4, s5, s6, s7, s8, s9, s10, s11, s12⟩ := s
  refine ⟨true, _, nI bs.length, s1, rfl, ?_⟩
  intro x20 e20
  rw [nI_add] at e20
  subst e20
  refine ⟨s0.rc, mc, ms, 0, 0, by omega, by omega, j_ensure s0 hl hc hs fun h1 W1 v cap f ml y1 y2 y3 y4 y5 y6 y7 y8 y9 y10 y11 y12 y13 y14 y15 => ?_⟩
  have st1 := st.mv y13
  have st2 := st1
  obtain ⟨w, w2, q, g, t1, t2, t3, t4, t5, t6, t7, t8⟩ := st1
  have hqv : ¬ v = q := fun z => t6 (z ▸ y9)
  refine ⟨true, _, nI bs.length, y1, rfl, ⟨_, _, y1⟩, ?_⟩
  unfold w_J5_putStringAt_47b60
  refine ⟨⟨_, _, y1⟩, ?_⟩
  unfold w_J5_inflateIfNeededFor_a7421
  refine ⟨by decide, true, _, 0, y1, rfl, ⟨_, _, t1⟩, j_coder st2 ⟨rfl, ?_⟩⟩
  refine ⟨true, _, v, y1, rfl, true, _, 0, y1, rfl, ⟨_, _, t1⟩, ?_⟩
  unfold w_J0_getBytes_840e7
  refine ⟨⟨_, _, t1⟩, j_coder st2 ⟨rfl, w, _, q, t1, rfl, ?_⟩⟩
  intro x16 e16
  rw [sb_shl0] at e16
  subst e16
  refine ⟨w, _, q, t1, rfl, i_len t2 ?_⟩
  have e1 : (nI bs.length).toNatClampNeg = bs.length := nI_clamp (by omega)
  have e2 : (nI cs.length).toNatClampNeg = cs.length := nI_clamp (by omega)
  have e3 : (0 : Int32).toNatClampNeg = 0 := rfl
  refine ⟨w2, cs.length, cap, g, f, t2, y2, by decide, nI_n0 (by omega), nI_n0 (by omega), by rw [e3, e2]; omega, by rw [e1, e2]; omega, fun i _ => t4 _, ?_⟩
  rw [e1, e2, e3]
  refine ⟨true, _, nI bs.length, (hup_n (fun z => y15 z.symm)).trans y1, rfl, ?_⟩
  intro x39 e39
  have e39 : x39 = nI (bs ++ cs).length := by rw [e39, nI_add, List.length_append]
  subst e39
  refine p_rawC ((hup_n (fun z => y15 z.symm)).trans y1) (by show 3 < 4; decide) fun h3 z1 z2 z3 => ?_
  refine ⟨a, rfl, ?_⟩
  have D3 : HDom h h3 := (y14.tr HDom.up).tr z3
  have key : ∀ b, ¬ h1 b = none → ¬ W1 b → h3 b = h1 b := fun b hb hn => by
    have g2 : hup h1 v (eI (c 5) cap (va_cpy g f 0 bs.length cs.length)) b = h1 b := hup_n (fun z => hn (z ▸ y9))
    exact (z2 b (by rw [g2]; exact hb) (fun z => hn (z ▸ y8))).trans g2
  refine hp h3 W1 ⟨v, cap, va_cpy g f 0 bs.length cs.length, ml, z1, z2.at hup_s y15, by rw [List.length_append]; omega, y5, fun i hi => ?_, sb_fitC t4 y7, fun x hx => ?_, y8, y9, y10, ?_, ?_⟩ (y13.tr (fun b hb hn => ⟨key b hb hn, hn⟩)) D3
  · rw [List.length_append] at hi
    by_cases hi2 : i < bs.length
    · rw [pk_cpy_out (Or.inl hi2), getD_app_l hi2]; exact y6 i hi2
    · rw [pk_cpy_in (by omega) (by omega), getD_app_r (by omega), Nat.zero_add]; exact t3 _ (by omega)
  · rcases List.mem_append.mp hx with hx | hx
    · exact s7 x hx
    · exact t7 x hx
  · exact y11.dom (HDom.tr HDom.up z3)
  · intro b hb
    have g0 := y12 b hb
    exact (key b (by rw [g0]; exact hb) (fun z => hb (y10 b z))).trans g0
/-- the text of what was built -/
theorem j_toString {mc ms : Nat} {post : Option Nat → HW → Prop} (s : SbX c h0 h W a bs) (hl : bs.length ≤ 100) (hc : 2 ≤ mc) (hs : 220 ≤ ms)
    (hp : ∀ (h' : HW) (r : Nat), (∀ W' : Nat → Prop, OwnOK h W' → StrX c h' W' r bs) → h r = none → MvT h W h' W → HDom h h' → Ext h0 h' → post (some r) h') : w_J4_toString_0e30d c K h a mc ms post := by
  have s0 := s
  obtain ⟨v, cap, f, ml, s1, s2, s3, s4, s5, s6, s7, s8, s9, s10, s11, s12⟩ := s
  unfold w_J4_toString_0e30d
  refine ⟨mc - 1, ms - 4, by omega, by omega, fun r hr => ?_⟩
  have hra : ¬ a = r := fun z => by rw [z, hr] at s1; cases s1
  have hrv : ¬ v = r := fun z => by rw [z, hr] at s2; cases s2
  refine ⟨mc - 1, ms - 4, 0, 0, by omega, by omega, ?_⟩
  unfold w_J0_init_81219
  refine ⟨mc - 1, ms - 4, 0, 0, by omega, by omega, ?_⟩
  unfold w_J0_init_db425
  have a1 : hup h r (.inr (11, [.null, .int 0])) a = some (true, .inr (12, [.ref v, .int 0, .int ml, .int (nI bs.length)])) := (hup_n hra).trans s1
  have v1 : hup h r (.inr (11, [.null, .int 0])) v = some (true, eI (c 5) cap f) := (hup_n hrv).trans s2
  have x1 : Ext h (hup h r (.inr (11, [.null, .int 0]))) := Ext.new hr
  have r1 : hup h r (.inr (11, [.null, .int 0])) r = some (true, .inr (11, [.null, .int 0])) := hup_s
  generalize hup h r (.inr (11, [.null, .int 0])) = h1 at a1 v1 x1 r1
  refine ⟨⟨_, _, a1⟩, ?_⟩
  unfold w_J5_getValue_6d5f1
  refine ⟨true, _, v, a1, rfl, v, rfl, ⟨_, _, a1⟩, ?_⟩
  unfold w_J4_length_8abf5
  refine ⟨⟨_, _, a1⟩, ?_⟩
  unfold w_J5_length_8abf5
  refine ⟨true, _, nI bs.length, a1, rfl, ⟨_, _, a1⟩, ?_⟩
  unfold w_J5_isLatin1_aae02
  refine ⟨by decide, true, _, 0, a1, rfl, rfl, Or.inr rfl, by decide, ?_⟩
  refine ⟨_, r1, by show 1 < 2; decide, ⟨by decide, by decide⟩, ?_⟩
  have a2 : hup h1 r (.inr (11, ([.null, .int 0] : List Value).set 1 (.int 0))) a = some (true, .inr (12, [.ref v, .int 0, .int ml, .int (nI bs.length)])) := (hup_n hra).trans a1
  have v2 : hup h1 r (.inr (11, ([.null, .int 0] : List Value).set 1 (.int 0))) v = some (true, eI (c 5) cap f) := (hup_n hrv).trans v1
  have x2 : Ext h (hup h1 r (.inr (11, ([.null, .int 0] : List Value).set 1 (.int 0)))) := x1.upN hr
  have r2 : hup h1 r (.inr (11, ([.null, .int 0] : List Value).set 1 (.int 0))) r = some (true, .inr (11, [.null, .int 0])) := hup_s
  generalize hup h1 r (.inr (11, ([.null, .int 0] : List Value).set 1 (.int 0))) = h2 at a2 v2 x2 r2
  refine ⟨mc - 1, ms - 4, 0, 0, by omega, by omega, ?_⟩
  -- behind the copy
  have fin : ∀ (q : Nat) (h4 : HW) (g : Nat → Int32), h2 q = none → h4 q = some (true, eI (c 5) bs.length g) → ByF bs g → sb_Fit g → Ext h2 h4 → pV h4 r 11 0 (.ref q) (fun h5 => post (some r) h5) := by
    intro q h4 g hq q4 hg1 hg2 x4
    refine p_rawC (x4.at r2) (by show 0 < 2; decide) fun h5 z1 z2 z3 => ?_
    have hqr : ¬ q = r := fun z => by rw [z, r2] at hq; cases hq
    have key : Ext h h5 := fun b hb => by
      have g1 := (x2.tr x4) b hb
      exact (z2 b (by rw [g1]; exact hb) (fun z => hb (z ▸ hr))).trans g1
    exact hp h5 r (fun W' hW' => ⟨true, true, q, g, z1, z2.at q4 hqr, hg1, hg2, fun z => hW' r z hr, fun z => hW' q z (x2.none hq), s7, hl⟩) hr (fun b hb hn => ⟨key b hb, hn⟩) key.dom (s12.tr key)
  unfold w_J7_copyOfRange_39247
  refine ⟨fun _ => ?_, fun z => absurd rfl z⟩
  refine i_len v2 ?_
  refine br_eq (by omega) (by show cap < _; omega) (fun z => ?_) (fun z => ?_)
  · have z : bs.length = cap := z
    refine ⟨true, cap, f, v2, fun i _ => s6 i, mc - 2, ms - 4 - cap, by omega, by omega, fun q hq => ?_⟩
    refine ⟨q, rfl, ?_⟩
    refine fin q _ f hq (by rw [hup_s, z]) s5 s6 (Ext.new hq)
  · unfold w_J7_copyOfRange_39247_J10
    refine ⟨mc - 1, ms - 4, 0, 0, by omega, by omega, ?_⟩
    unfold w_J7_copyOfRangeByte_39247
    unfold w_J7_checkLength_df160
    refine ⟨nI_pos' (by omega), ?_⟩
    intro x7 e7
    have e7 : x7 = nI bs.length := e7.trans (Int32.sub_zero _)
    subst e7
    refine a_nwI (by omega) (by omega) (by omega) fun q h3 hq q3 x3 => ?_
    refine i_len (x3.at v2) ?_
    intro x22 e22 x24 e24
    have e22 : x22 = nI cap := e22.trans (Int32.sub_zero _)
    subst e22
    have e24 : x24 = nI bs.length := by
      rw [e24]
      split
      · rfl
      · rename_i y
        congr 1
        have := Nat.not_lt.mp (fun w => y ((nI_ltI (show bs.length < 2 ^ 31 by omega) (show cap < 2 ^ 31 by omega)).mpr w))
        omega
    subst e24
    have e1 : (nI bs.length).toNatClampNeg = bs.length := nI_clamp (by omega)
    have e3 : (0 : Int32).toNatClampNeg = 0 := rfl
    refine ⟨true, cap, bs.length, f, _, x3.at v2, q3, by decide, by decide, nI_n0 (by omega), by rw [e3, e1]; omega, by rw [e3, e1]; omega, fun i _ => s6 _, ?_⟩
    rw [e1, e3]
    refine ⟨q, rfl, q, rfl, ?_⟩
    refine fin q _ _ hq hup_s (fun i hi => ?_) (sb_fitC s6 sb_fit0) (x3.upN hq)
    rw [sb_cpy0 hi]; exact s5 i hi
end SX
