/-! a round is dealt -/
theorem lk23 {A0 A1 R A0' A1' A2' R' : Type} {B : (A0 → A1 → Option R) → A0 → A1 → Option R} {B' : (A0' → A1' → A2' → Option R') → A0' → A1' → A2' → Option R'} (Post : Option R → Option R' → Prop) (Inv : Nat → A0 → A1 → A0' → A1' → A2' → Prop)
    (h : ∀ rec rec' n a0 a1 b0 b1 b2, Inv n a0 a1 b0 b1 b2 → (∀ m c0 c1 d0 d1 d2, m < n → Inv m c0 c1 d0 d1 d2 → Post (rec c0 c1) (rec' d0 d1 d2)) → Post (B rec a0 a1) (B' rec' b0 b1 b2)) : ∀ f n a0 a1 b0 b1 b2, n < f → Inv n a0 a1 b0 b1 b2 → Post (itr2 B f a0 a1) (itr3 B' f b0 b1 b2)
  | 0, n, a0, a1, b0, b1, b2, h1, _ => by omega
  | f + 1, n, a0, a1, b0, b1, b2, _, h2 => h _ _ n a0 a1 b0 b1 b2 h2 (fun m c0 c1 d0 d1 d2 hm hi => lk23 Post Inv h f m c0 c1 d0 d1 d2 (by omega) hi)
theorem cn_add {P Q R : Nat → Bool} : ∀ n k, (∀ j, P j = true → R j = true ∧ Q j = false) → (∀ j, Q j = true → R j = true) → cn P k n + cn Q k n ≤ cn R k n
  | 0, _, _, _ => Nat.le_refl _
  | n + 1, k, h1, h2 => by
    show (if P k = true then 1 else 0) + cn P (k + 1) n + ((if Q k = true then 1 else 0) + cn Q (k + 1) n) ≤ (if R k = true then 1 else 0) + cn R (k + 1) n
    have ih := cn_add (P := P) (Q := Q) (R := R) n (k + 1) h1 h2
    by_cases hp : P k = true
    · obtain ⟨a, b⟩ := h1 k hp
      rw [if_pos hp, if_pos a, b, if_neg (by decide)]
      omega
    · rw [if_neg hp]
      by_cases hq : Q k = true
      · rw [if_pos hq, if_pos (h2 k hq)]; omega
      · rw [if_neg hq]
        split <;> omega
/-- the tiles of a set but for the one in the middle -/
theorem set_54 : ∀ mx, mx ≤ 9 → ∀ hb, hb ≤ mx → cn (fun c => decide ((c / 10 ≤ c % 10 ∧ c % 10 ≤ mx) ∧ ¬ c = 11 * hb)) 0 100 ≤ 54 := by decide +kernel
theorem and_15 (v : Int32) : ∃ a, a < 32768 ∧ v &&& 32767 = nI a := by
  refine ⟨v.toBitVec.toNat % 32768, Nat.mod_lt _ (by omega), ?_⟩
  have h : v.toBitVec &&& 32767#32 = BitVec.ofNat 32 (v.toBitVec.toNat % 32768) := by
    apply BitVec.eq_of_toNat_eq
    rw [BitVec.toNat_and, show (32767#32).toNat = 2 ^ 15 - 1 by decide, Nat.and_two_pow_sub_one_eq_mod, BitVec.toNat_ofNat, Nat.mod_eq_of_lt (show v.toBitVec.toNat % 32768 < 2 ^ 32 by omega)]
  exact Int32.toBitVec_inj.mp h
theorem shr_15 (v : Int32) : (v.toUInt32 >>> ((16 : Int32).toUInt32 &&& Int32.toUInt32 31)).toInt32 &&& 32767 = (v >>> ((16 : Int32) &&& 31)) &&& 32767 := by
  rw [show ((16 : Int32).toUInt32 &&& Int32.toUInt32 31) = 16 by decide, show ((16 : Int32) &&& 31) = 16 by decide]
  apply Int32.toBitVec_inj.mp
  rw [Int32.toBitVec_and, Int32.toBitVec_and, Int32.toBitVec_shiftRight]
  show (v.toBitVec >>> (16 : Nat)) &&& 32767#32 = v.toBitVec.sshiftRight 16 &&& 32767#32
  apply BitVec.eq_of_getLsbD_eq
  intro i hi
  rw [BitVec.getLsbD_and, BitVec.getLsbD_and, BitVec.getLsbD_ushiftRight, BitVec.getLsbD_sshiftRight]
  by_cases h : i < 15
  · rw [if_pos (show 16 + i < 32 by omega)]
    simp [show ¬ 32 ≤ i by omega]
  · have : (32767#32).getLsbD i = false := by
      have : ∀ i, i < 32 → ¬ i < 15 → (32767#32).getLsbD i = false := by decide
      exact this i hi h
    rw [this, Bool.and_false, Bool.and_false]

def DR (g : GS) (d : Nat → Int32) (mx np hs hb f e : Nat) : Prop :=
  (g.1.1 0 = nI mx ∧ 3 ≤ mx ∧ mx ≤ 9) ∧
  (g.1.1 1 = nI np ∧ 2 ≤ np ∧ np ≤ 4) ∧
  (g.1.1 2 = nI hs ∧ 1 ≤ hs ∧ hs ≤ 12) ∧
  (g.1.1 3 = nI hb ∧ hb ≤ mx) ∧
  (d 0 = nI mx) ∧
  (d 1 = nI np) ∧
  (d 2 = nI hs) ∧
  (d 3 = nI hb) ∧
  (d 11 = g.1.1 4) ∧
  (d 9 = g.1.1 9) ∧
  (∀ p, p < 4 → d (15 + p) = g.1.2 1 p) ∧
  (∀ c, c < 100 → g.1.2 0 c = -1 ∨ ((∃ p, p < np ∧ g.1.2 0 c = nI p) ∧ inS mx c)) ∧
  (∀ c, c < 100 → d (19 + c) = g.1.2 0 c) ∧
  (g.2.2.1.1 0 = nI f ∧ g.2.2.1.1 1 = nI e ∧ f ≤ e ∧ e ≤ 54) ∧
  (∀ i, i < e → ∃ c, c < 100 ∧ g.2.2.1.2 0 i = nI c ∧ inS mx c) ∧
  (∀ i, i < e → d (119 + i) = g.2.2.1.2 0 i) ∧
  (hT (g.1.2 0) + (e - f) ≤ 54)
theorem DR.mx {g : GS} {d : Nat → Int32} {mx np hs hb f e : Nat} (h : DR g d mx np hs hb f e) : g.1.1 0 = nI mx ∧ 3 ≤ mx ∧ mx ≤ 9 := h.1
theorem DR.np {g : GS} {d : Nat → Int32} {mx np hs hb f e : Nat} (h : DR g d mx np hs hb f e) : g.1.1 1 = nI np ∧ 2 ≤ np ∧ np ≤ 4 := h.2.1
theorem DR.hs {g : GS} {d : Nat → Int32} {mx np hs hb f e : Nat} (h : DR g d mx np hs hb f e) : g.1.1 2 = nI hs ∧ 1 ≤ hs ∧ hs ≤ 12 := h.2.2.1
theorem DR.hb {g : GS} {d : Nat → Int32} {mx np hs hb f e : Nat} (h : DR g d mx np hs hb f e) : g.1.1 3 = nI hb ∧ hb ≤ mx := h.2.2.2.1
theorem DR.d0 {g : GS} {d : Nat → Int32} {mx np hs hb f e : Nat} (h : DR g d mx np hs hb f e) : d 0 = nI mx := h.2.2.2.2.1
theorem DR.d1 {g : GS} {d : Nat → Int32} {mx np hs hb f e : Nat} (h : DR g d mx np hs hb f e) : d 1 = nI np := h.2.2.2.2.2.1
theorem DR.d2 {g : GS} {d : Nat → Int32} {mx np hs hb f e : Nat} (h : DR g d mx np hs hb f e) : d 2 = nI hs := h.2.2.2.2.2.2.1
theorem DR.d3 {g : GS} {d : Nat → Int32} {mx np hs hb f e : Nat} (h : DR g d mx np hs hb f e) : d 3 = nI hb := h.2.2.2.2.2.2.2.1
theorem DR.sd {g : GS} {d : Nat → Int32} {mx np hs hb f e : Nat} (h : DR g d mx np hs hb f e) : d 11 = g.1.1 4 := h.2.2.2.2.2.2.2.2.1
theorem DR.d9 {g : GS} {d : Nat → Int32} {mx np hs hb f e : Nat} (h : DR g d mx np hs hb f e) : d 9 = g.1.1 9 := h.2.2.2.2.2.2.2.2.2.1
theorem DR.tot {g : GS} {d : Nat → Int32} {mx np hs hb f e : Nat} (h : DR g d mx np hs hb f e) : ∀ p, p < 4 → d (15 + p) = g.1.2 1 p := h.2.2.2.2.2.2.2.2.2.2.1
theorem DR.H {g : GS} {d : Nat → Int32} {mx np hs hb f e : Nat} (h : DR g d mx np hs hb f e) : ∀ c, c < 100 → g.1.2 0 c = -1 ∨ ((∃ p, p < np ∧ g.1.2 0 c = nI p) ∧ inS mx c) := h.2.2.2.2.2.2.2.2.2.2.2.1
theorem DR.dH {g : GS} {d : Nat → Int32} {mx np hs hb f e : Nat} (h : DR g d mx np hs hb f e) : ∀ c, c < 100 → d (19 + c) = g.1.2 0 c := h.2.2.2.2.2.2.2.2.2.2.2.2.1
theorem DR.st {g : GS} {d : Nat → Int32} {mx np hs hb f e : Nat} (h : DR g d mx np hs hb f e) : g.2.2.1.1 0 = nI f ∧ g.2.2.1.1 1 = nI e ∧ f ≤ e ∧ e ≤ 54 := h.2.2.2.2.2.2.2.2.2.2.2.2.2.1
theorem DR.K {g : GS} {d : Nat → Int32} {mx np hs hb f e : Nat} (h : DR g d mx np hs hb f e) : ∀ i, i < e → ∃ c, c < 100 ∧ g.2.2.1.2 0 i = nI c ∧ inS mx c := h.2.2.2.2.2.2.2.2.2.2.2.2.2.2.1
theorem DR.dK {g : GS} {d : Nat → Int32} {mx np hs hb f e : Nat} (h : DR g d mx np hs hb f e) : ∀ i, i < e → d (119 + i) = g.2.2.1.2 0 i := h.2.2.2.2.2.2.2.2.2.2.2.2.2.2.2.1
theorem DR.cnt {g : GS} {d : Nat → Int32} {mx np hs hb f e : Nat} (h : DR g d mx np hs hb f e) : hT (g.1.2 0) + (e - f) ≤ 54 := h.2.2.2.2.2.2.2.2.2.2.2.2.2.2.2.2

def Fq (d0 d : Nat → Int32) : Prop := ∀ k, k = 13 ∨ k = 14 ∨ 464 ≤ k → d k = d0 k
/-- what a deal comes to -/
def DP (fo : Option Nat) (d0 : Nat → Int32) (mx np hs hb : Nat) (o : Option GS) (o' : Option (Nat → Int32)) : Prop := ∃ g' d' f e, o = some g' ∧ o' = some d' ∧ Inv g' mx np hs hb 0 0 f e 0 ∧ Rel g' d' np f e 0 ∧ g'.2.1 = fo ∧ Fq d0 d' ∧ g'.1.1 8 = 0
section A
variable {g : GS} {d d0 : Nat → Int32} {mx np hs hb f e : Nat} {fo : Option Nat}
theorem d_begin (r : DR g d mx np hs hb f e) (hfo : g.2.1 = fo) (hF : Fq d0 d) (h12 : d 12 = nI f) (h7 : d 7 = nI (e - f)) : DP fo d0 mx np hs hb (bd1 (f_X6_begin g.2.2.2 (g.1.1 3)) fun (t89 : SA) => some (((ss (ss (ss (ss (ss g.1 5 0) 6 0) 7 (-1)) 8 0) 10 0), (g.2.1), g.2.2.1, t89))) (itr2 (f_X8_deal_B205 1464) FUEL 0 d) := by
  have hnp := r.np
  have hmx := r.mx
  have hhb := r.hb
  obtain ⟨E1, e1, hE1⟩ := e_fill (n := 5) (h0 := g.2.2.2.2 2) (v := g.1.1 3) (by omega)
  obtain ⟨O1, e2, hO1⟩ := e_fill (n := 5) (h0 := g.2.2.2.2 3) (v := 0) (by omega)
  unfold f_X6_begin
  rw [e1, bd1_S, e2, bd1_S, bd1_S]
  refine lr2 (fun o' => DP fo d0 mx np hs hb (some (((ss (ss (ss (ss (ss g.1 5 0) 6 0) 7 (-1)) 8 0) 10 0), (g.2.1), g.2.2.1, (sa (sa (ss g.2.2.2 0 0) 2 E1) 3 O1)))) o') (fun (m : Nat) (v : Int32) (h : Nat → Int32) => ∃ t, v = nI t ∧ t + m = np + 1 ∧ (∀ u, u < t → h (174 + 58 * u) = 0 ∧ h (174 + 58 * u + 1) = nI hb ∧ h (174 + 58 * u + 2) = if u = np then 1 else 0) ∧ ∀ k, k < 174 ∨ 464 ≤ k → h k = d k) ?_ FUEL (np + 1) 0 d (FUEL_lt (by omega)) ⟨0, rfl, by omega, fun u hu => absurd hu (Nat.not_lt_zero _), fun _ _ => rfl⟩
  rintro rec m v h ⟨t, rfl, hm, hTr, hk⟩ ih
  unfold f_X8_deal_B205
  simp only [gl_1, cl_1, gl_3, cl_3]
  rw [hk 1 (by omega), r.d1, ie_lt (by omega) (by omega)]
  by_cases hend : np < t
  · have : t = np + 1 := by omega
    subst this
    rw [if_pos hend]
    simp only [gl_4, cl_4, gl_5, cl_5, gl_6, cl_6, gl_8, cl_8, gl_10, cl_10, nmd_S]
    have up : ∀ k, ¬ k = 4 → ¬ k = 5 → ¬ k = 6 → ¬ k = 8 → ¬ k = 10 → upd (upd (upd (upd (upd h 4 0) 5 0) 6 (-1)) 8 0) 10 0 k = h k := fun k a1 a2 a3 a4 a5 => by
      rw [upd_n a5, upd_n a4, upd_n a3, upd_n a2, upd_n a1]
    have up2 : ∀ k, ¬ k = 4 → ¬ k = 5 → ¬ k = 6 → ¬ k = 8 → ¬ k = 10 → k < 174 ∨ 464 ≤ k → upd (upd (upd (upd (upd h 4 0) 5 0) 6 (-1)) 8 0) 10 0 k = d k := fun k a1 a2 a3 a4 a5 a6 => (up k a1 a2 a3 a4 a5).trans (hk k a6)
    refine ⟨_, _, f, e, rfl, rfl, ?_, ?_, hfo, ?_, rfl⟩
    · refine ⟨r.mx, r.np, r.hs, r.hb, ⟨rfl, by omega⟩, Or.inl rfl, Or.inl rfl, Or.inl rfl, ⟨rfl, by omega⟩, r.H, r.st, r.K, rfl, fun i hi => absurd hi (Nat.not_lt_zero _), fun t ht => ⟨hb, by omega, ?_⟩, fun t ht => Or.inl ?_, ?_⟩
      · show E1 t = nI hb
        rw [hE1 t (by omega), hhb.1]
      · exact hO1 t (by omega)
      · have := r.cnt
        show hT (g.1.2 0) + (e - f) + 0 ≤ 54
        omega
    · refine ⟨?_, ?_, ?_, ?_, rfl, rfl, rfl, ?_, rfl, ?_, rfl, ?_, ?_, ?_, ?_, ?_, ?_, ?_, ?_, fun i hi => absurd hi (Nat.not_lt_zero _)⟩
      · exact (up2 0 (by omega) (by omega) (by omega) (by omega) (by omega) (by omega)).trans (r.d0.trans r.mx.1.symm)
      · exact (up2 1 (by omega) (by omega) (by omega) (by omega) (by omega) (by omega)).trans (r.d1.trans r.np.1.symm)
      · exact (up2 2 (by omega) (by omega) (by omega) (by omega) (by omega) (by omega)).trans (r.d2.trans r.hs.1.symm)
      · exact (up2 3 (by omega) (by omega) (by omega) (by omega) (by omega) (by omega)).trans (r.d3.trans r.hb.1.symm)
      · exact (up2 7 (by omega) (by omega) (by omega) (by omega) (by omega) (by omega)).trans h7
      · exact (up2 9 (by omega) (by omega) (by omega) (by omega) (by omega) (by omega)).trans r.d9
      · exact (up2 11 (by omega) (by omega) (by omega) (by omega) (by omega) (by omega)).trans r.sd
      · exact (up2 12 (by omega) (by omega) (by omega) (by omega) (by omega) (by omega)).trans h12
      · intro p hp; exact (up2 _ (by omega) (by omega) (by omega) (by omega) (by omega) (by omega)).trans (r.tot p hp)
      · intro c hc; exact (up2 _ (by omega) (by omega) (by omega) (by omega) (by omega) (by omega)).trans (r.dH c hc)
      · intro i hi
        have := r.st.2.2.2
        exact (up2 _ (by omega) (by omega) (by omega) (by omega) (by omega) (by omega)).trans (r.dK i hi)
      · intro t ht; exact (up _ (by omega) (by omega) (by omega) (by omega) (by omega)).trans (hTr t (by omega)).1
      · intro t ht
        exact ((up _ (by omega) (by omega) (by omega) (by omega) (by omega)).trans (hTr t (by omega)).2.1).trans (show nI hb = E1 t by rw [hE1 t (by omega), hhb.1])
      · intro t ht
        refine ((up _ (by omega) (by omega) (by omega) (by omega) (by omega)).trans (hTr t (by omega)).2.2).trans ?_
        show _ = if t = np then 1 else O1 t
        rw [hO1 t (by omega)]
    · intro k hk2
      exact (up2 k (by omega) (by omega) (by omega) (by omega) (by omega) (by omega)).trans (hF k hk2)
  · rw [if_neg hend]
    have eT : f_X8_trainAt (nI t) = some (nI (174 + 58 * t)) := by
      unfold f_X8_trainAt
      rw [i_174, i_58, nI_mul, nI_add]
    rw [eT, bd1_S, i_addz, inb_t (by omega) (by omega), gd_T, nI_clamp (by omega), nmd_S, bd1_S, nI_1, inb_t (by omega) (by omega), gd_T, nI_clamp (by omega), upd_n (by omega), hk 3 (by omega), r.d3, nmd_S, bd1_S]
    have eN : upd (upd h (174 + 58 * t) 0) (174 + 58 * t + 1) (nI hb) 1 = nI np := by rw [upd_n (by omega), upd_n (by omega), hk 1 (by omega), r.d1]
    have fin : ∀ s : Int32, (s = if t = np then 1 else 0) → DP fo d0 mx np hs hb (some (((ss (ss (ss (ss (ss g.1 5 0) 6 0) 7 (-1)) 8 0) 10 0), (g.2.1), g.2.2.1, (sa (sa (ss g.2.2.2 0 0) 2 E1) 3 O1)))) (f_X8_deal_J251 1464 rec (nI t) (upd (upd h (174 + 58 * t) 0) (174 + 58 * t + 1) (nI hb)) (nI (174 + 58 * t)) s) := fun s hs2 => by
      unfold f_X8_deal_J251
      rw [i_2, nI_add, inb_t (by omega) (by omega), gd_T, nI_clamp (by omega), nmd_S, nI_1]
      refine ih (m - 1) _ _ (by omega) ⟨t + 1, rfl, by omega, fun u hu => ?_, fun k hk2 => by rw [upd_n (by omega), upd_n (by omega), upd_n (by omega)]; exact hk k hk2⟩
      by_cases hut : u = t
      · subst hut
        rw [upd_n (by omega), upd_n (by omega), upd_s, upd_n (by omega), upd_s, upd_s]
        exact ⟨rfl, rfl, hs2⟩
      · rw [upd_n (by omega), upd_n (by omega), upd_n (by omega), upd_n (by omega), upd_n (by omega), upd_n (by omega), upd_n (by omega), upd_n (by omega), upd_n (by omega)]
        exact hTr u (by omega)
    by_cases z : t = np
    · rw [if_pos (by rw [eN, z])]; exact fin _ (by rw [if_pos z])
    · rw [if_neg (by rw [eN]; exact fun y => z ((nI_eq (by omega) (by omega)).mp y))]; exact fin _ (by rw [if_neg z])
theorem DR.stp (r : DR g d mx np hs hb f e) (hf : f < e) {p c : Nat} (hp : p < np) (hc : c < 100) (hin : inS mx c) : DR ((sa g.1 0 (upd (g.1.2 0) c (nI p))), g.2.1, ss g.2.2.1 0 (nI (f + 1)), g.2.2.2) (upd d (19 + c) (nI p)) mx np hs hb (f + 1) e := by
  have hst := r.st
  have hup := hT_up (g.1.2 0) c (nI p)
  have lo : ∀ k, k < 19 ∨ 119 ≤ k → upd d (19 + c) (nI p) k = d k := fun k hk => upd_n (by omega)
  refine ⟨r.mx, r.np, r.hs, r.hb, ?_, ?_, ?_, ?_, ?_, ?_, ?_, ?_, ?_, ⟨rfl, hst.2.1, by omega, hst.2.2.2⟩, r.K, ?_, ?_⟩
  · rw [lo _ (by omega)]; exact r.d0
  · rw [lo _ (by omega)]; exact r.d1
  · rw [lo _ (by omega)]; exact r.d2
  · rw [lo _ (by omega)]; exact r.d3
  · rw [lo _ (by omega)]; exact r.sd
  · rw [lo _ (by omega)]; exact r.d9
  · intro q hq; rw [lo _ (by omega)]; exact r.tot q hq
  · intro j hj
    show upd (g.1.2 0) c (nI p) j = -1 ∨ (∃ p_1, p_1 < np ∧ upd (g.1.2 0) c (nI p) j = nI p_1) ∧ inS mx j
    by_cases z : j = c
    · subst z; rw [upd_s]; exact Or.inr ⟨⟨p, hp, rfl⟩, hin⟩
    · rw [upd_n z]; exact r.H j hj
  · intro j hj
    show upd d (19 + c) (nI p) (19 + j) = upd (g.1.2 0) c (nI p) j
    by_cases z : j = c
    · subst z; rw [upd_s, upd_s]
    · rw [upd_n z, upd_n (by omega)]; exact r.dH j hj
  · intro i hi; rw [lo _ (by omega)]; exact r.dK i hi
  · have := r.cnt
    show hT (upd (g.1.2 0) c (nI p)) + (e - (f + 1)) ≤ 54
    omega
theorem d_hand {rec' : Int32 → Int32 → (Nat → Int32) → Option (Nat → Int32)} (r : DR g d mx np hs hb f e) (hfo : g.2.1 = fo) (hF : Fq d0 d) {p many : Nat} (hp : p < np) (hm : many ≤ 100) : ∃ g' d' f', itr2 (f_X1_fillHand_B6 (nI p)) FUEL (nI many) g = some g' ∧ itr3 (f_X8_deal_B151 1464 (nI e) rec' (nI p)) FUEL (nI f) (nI many) d = rec' (nI f') (nI (p + 1)) d' ∧ DR g' d' mx np hs hb f' e ∧ g'.2.1 = fo ∧ Fq d0 d' := by
  have he := r.st.2.2.2
  refine lk23 (B := f_X1_fillHand_B6 (nI p)) (B' := f_X8_deal_B151 1464 (nI e) rec' (nI p)) (fun o o' => ∃ g' d' f', o = some g' ∧ o' = rec' (nI f') (nI (p + 1)) d' ∧ DR g' d' mx np hs hb f' e ∧ g'.2.1 = fo ∧ Fq d0 d') (fun (m : Nat) (v : Int32) (gg : GS) (w1 w2 : Int32) (h : Nat → Int32) => ∃ f many, v = nI many ∧ w2 = nI many ∧ w1 = nI f ∧ many ≤ 100 ∧ f + m = e ∧ DR gg h mx np hs hb f e ∧ gg.2.1 = fo ∧ Fq d0 h) ?_ FUEL (e - f) _ _ _ _ _ (FUEL_lt (by omega)) ⟨f, many, rfl, rfl, rfl, hm, by have := r.st.2.2.1; omega, r, hfo, hF⟩
  rintro rec rec2 m v gg w1 w2 h ⟨f, many, rfl, rfl, rfl, hm, hfm, r, hfo, hF⟩ ih
  have hst := r.st
  have hhs := r.hs
  have hnp := r.np
  unfold f_X1_fillHand_B6 f_X8_deal_B151
  simp only [nI_1]
  rw [gl_2, cl_2, r.d2, hhs.1, ie_le (by omega) (by omega), ie_le (by omega) (by omega)]
  by_cases h1 : hs ≤ many
  · rw [if_pos h1, if_pos h1]
    exact ⟨gg, h, f, rfl, rfl, r, hfo, hF⟩
  · have esz : f_X4_size gg.2.2.1 = some (nI (e - f)) := by
      unfold f_X4_size
      rw [hst.1, hst.2.1, nI_sub hst.2.2.1]
    rw [if_neg h1, if_neg h1, esz, bd1_S, ie_le0 (by omega), ie_le (by omega) (by omega)]
    by_cases h2 : e - f = 0
    · rw [if_pos h2, if_pos (by omega)]
      exact ⟨gg, h, f, rfl, rfl, r, hfo, hF⟩
    · obtain ⟨c, hc, hK, hin⟩ := r.K f (by omega)
      rw [if_neg h2, if_neg (by omega)]
      unfold f_X4_takeFirst
      rw [hst.1, hst.2.1, ie_lt (by omega) (by omega), if_pos (by omega), e_look (by omega) (by omega), bd1_S, bd2_S, hK, e_put hc (by omega), bd1_S, i_119, nI_add, inb_t (by omega) (by omega), gd_T, nI_clamp (by omega), r.dK f (by omega), hK, i_19, nI_add, inb_t (by omega) (by omega), gd_T, nI_clamp (by omega), nmd_S, nI_1]
      exact ih (m - 1) _ _ _ _ _ (by omega) ⟨f + 1, many + 1, rfl, rfl, rfl, by omega, by omega, r.stp (by omega) hp hc hin, hfo, fun k hk => by rw [upd_n (by omega)]; exact hF k hk⟩
theorem d_players (r : DR g d mx np hs hb 0 e) (hfo : g.2.1 = fo) (hF : Fq d0 d) : DP fo d0 mx np hs hb (itr2 f_X1_dealRound_B62 FUEL 0 g) (itr3 (f_X8_deal_B137 1464 (nI e)) FUEL 0 0 d) := by
  have hnp := r.np
  refine lk23 (B := f_X1_dealRound_B62) (B' := f_X8_deal_B137 1464 (nI e)) (DP fo d0 mx np hs hb) (fun (m : Nat) (v : Int32) (gg : GS) (w1 w2 : Int32) (h : Nat → Int32) => ∃ f p, v = nI p ∧ w2 = nI p ∧ w1 = nI f ∧ p + m = np ∧ DR gg h mx np hs hb f e ∧ gg.2.1 = fo ∧ Fq d0 h) ?_ FUEL np _ _ _ _ _ (FUEL_lt (by omega)) ⟨0, 0, rfl, rfl, rfl, by omega, r, hfo, hF⟩
  rintro rec rec2 m v gg w1 w2 h ⟨f, p, rfl, rfl, rfl, hpm, r, hfo, hF⟩ ih
  have hst := r.st
  have hnp := r.np
  unfold f_X1_dealRound_B62 f_X8_deal_B137
  rw [gl_1, cl_1, r.d1, hnp.1, ie_le (by omega) (by omega), ie_le (by omega) (by omega)]
  by_cases h1 : np ≤ p
  · rw [if_pos h1, if_pos h1, gl_12, cl_12, nmd_S, gl_7, cl_7, nmd_S, nI_sub hst.2.2.1]
    have lo : ∀ k, ¬ k = 7 → ¬ k = 12 → upd (upd h 12 (nI f)) 7 (nI (e - f)) k = h k := fun k a b => by rw [upd_n a, upd_n b]
    refine d_begin (f := f) (e := e) ?_ hfo (fun k hk => (lo k (by omega) (by omega)).trans (hF k hk)) (by rw [upd_n (by omega), upd_s]) upd_s
    refine ⟨r.mx, r.np, r.hs, r.hb, (lo _ (by omega) (by omega)).trans r.d0, (lo _ (by omega) (by omega)).trans r.d1, (lo _ (by omega) (by omega)).trans r.d2, (lo _ (by omega) (by omega)).trans r.d3, (lo _ (by omega) (by omega)).trans r.sd, (lo _ (by omega) (by omega)).trans r.d9, fun q hq => (lo _ (by omega) (by omega)).trans (r.tot q hq), r.H, fun c hc => (lo _ (by omega) (by omega)).trans (r.dH c hc), r.st, r.K, fun i hi => (lo _ (by omega) (by omega)).trans (r.dK i hi), r.cnt⟩
  · rw [if_neg h1, if_neg h1]
    unfold f_X1_fillHand
    have hle := hcN_le (gg.1.2 0) (nI p)
    rw [e_handCount, bd1_S, x_handOf (by omega) (by omega), bd1_S, hcN_congr (nI p) r.dH]
    obtain ⟨g', d', f', e1, e2, e3, e4, e5⟩ := d_hand (rec' := rec2) r hfo hF (p := p) (by omega) hle
    rw [e1, e2, bd1_S, nI_1]
    exact ih (m - 1) _ _ _ _ _ (by omega) ⟨f', p + 1, rfl, rfl, rfl, by omega, e3, e4, e5⟩
theorem d_mix (r : DR g d mx np hs hb 0 e) (hF : Fq d0 d) : ∃ m K' d', f_X4_mix g.2.2.1 (g.1.1 4) = some (m, K') ∧ itr2 (f_X8_deal_B63 1464 (nI e)) FUEL (nI e - 1) d = itr3 (f_X8_deal_B137 1464 (nI e)) FUEL 0 0 d' ∧ DR ((ss g.1 4 m), g.2.1, K', g.2.2.2) d' mx np hs hb 0 e ∧ Fq d0 d' := by
  have hst := r.st
  have r0 : DR ((ss g.1 4 (g.1.1 4)), g.2.1, g.2.2.1, g.2.2.2) d mx np hs hb 0 e := ⟨r.mx, r.np, r.hs, r.hb, r.d0, r.d1, r.d2, r.d3, r.sd, r.d9, r.tot, r.H, r.dH, r.st, r.K, r.dK, r.cnt⟩
  unfold f_X4_mix
  rw [hst.2.1]
  by_cases he : e = 0
  · subst he
    refine ⟨g.1.1 4, g.2.2.1, d, ?_, ?_, r0, hF⟩
    · show f_X4_mix_B9 _ _ _ _ = _
      unfold f_X4_mix_B9
      exact if_pos (by decide)
    · show f_X8_deal_B63 1464 (nI 0) _ _ _ = _
      unfold f_X8_deal_B63
      exact if_pos (by decide)
  · rw [show nI e - 1 = nI (e - 1) from nI_sub (b := 1) (by omega)]
    refine lk32 (B := f_X4_mix_B9) (B' := f_X8_deal_B63 1464 (nI e)) (fun o o' => ∃ m K' d', o = some (m, K') ∧ o' = itr3 (f_X8_deal_B137 1464 (nI e)) FUEL 0 0 d' ∧ DR ((ss g.1 4 m), g.2.1, K', g.2.2.2) d' mx np hs hb 0 e ∧ Fq d0 d') (fun (m : Nat) (v2 v3 : Int32) (K : SA) (w : Int32) (h : Nat → Int32) => ∃ k, v3 = nI k ∧ w = nI k ∧ m = k ∧ k < e ∧ DR ((ss g.1 4 v2), g.2.1, K, g.2.2.2) h mx np hs hb 0 e ∧ Fq d0 h) ?_ FUEL (e - 1) _ _ _ _ _ (FUEL_lt (by omega)) ⟨e - 1, rfl, rfl, rfl, by omega, r0, hF⟩
    rintro rec rec' m v2 v3 K w h ⟨k, rfl, rfl, rfl, hk, r, hF⟩ ih
    have hst := r.st
    unfold f_X4_mix_B9 f_X8_deal_B63
    rw [ie_lt1 (by omega), ie_le0 (by omega)]
    by_cases h1 : m = 0
    · rw [if_pos h1, if_pos h1]
      exact ⟨v2, K, h, rfl, rfl, r, hF⟩
    · obtain ⟨x2, ex⟩ : ∃ x2, x2 = v2 * 1103515245 + 12345 := ⟨_, rfl⟩
      have hsd : h 11 = v2 := r.sd
      obtain ⟨a, ha, ea⟩ := and_15 (x2 >>> ((16 : Int32) &&& 31))
      have hz : nz (nI (m + 1)) = true := decide_eq_true (nI_ne0 (by omega) (by omega))
      have hj : a % (m + 1) < m + 1 := Nat.mod_lt _ (by omega)
      obtain ⟨j, ej⟩ : ∃ j, j = a % (m + 1) := ⟨_, rfl⟩
      rw [← ej] at hj
      rw [if_neg h1, if_neg h1]
      simp only [gl_11, cl_11, nmd_S]
      rw [hsd, ← ex, upd_s, shr_15, ea, nI_1, hz, gd_T, gd_T, nI_div2 (by omega) (by omega), nI_mul, nI_dm (by omega) (by omega), ← ej, e_look (by omega) (by omega), bd1_S, e_look (by omega) (by omega), bd1_S, e_put (by omega) (by omega), bd1_S, e_put (by omega) (by omega), bd1_S, i_119, nI_add, nI_add, inb_t (by omega) (by omega), gd_T, inb_t (by omega) (by omega), gd_T, gd_T, gd_T, nI_clamp (by omega), nI_clamp (by omega), show nI m + (-1) = nI (m - 1) from nI_am1 (by omega)]
      have hKm : upd h 11 x2 (119 + m) = K.2 0 m := by rw [upd_n (by omega)]; exact r.dK m (by omega)
      have hKj : upd h 11 x2 (119 + j) = K.2 0 j := by rw [upd_n (by omega)]; exact r.dK j (by omega)
      rw [hKm, hKj]
      have lo : ∀ k, ¬ k = 11 → k < 119 ∨ 174 ≤ k → upd (upd (upd h 11 x2) (119 + m) (K.2 0 j)) (119 + j) (K.2 0 m) k = h k := fun k a1 a2 => by rw [upd_n (by omega), upd_n (by omega), upd_n a1]
      refine ih (m - 1) _ _ _ _ _ (by omega) ⟨m - 1, rfl, rfl, rfl, by omega, ?_, fun k hk => (lo k (by omega) (by omega)).trans (hF k hk)⟩
      refine ⟨r.mx, r.np, r.hs, r.hb, (lo _ (by omega) (by omega)).trans r.d0, (lo _ (by omega) (by omega)).trans r.d1, (lo _ (by omega) (by omega)).trans r.d2, (lo _ (by omega) (by omega)).trans r.d3, ?_, (lo _ (by omega) (by omega)).trans r.d9, fun q hq => (lo _ (by omega) (by omega)).trans (r.tot q hq), r.H, fun c hc => (lo _ (by omega) (by omega)).trans (r.dH c hc), r.st, fun i hi => ?_, fun i hi => ?_, r.cnt⟩
      · show upd (upd (upd h 11 x2) (119 + m) (K.2 0 j)) (119 + j) (K.2 0 m) 11 = x2
        rw [upd_n (by omega), upd_n (by omega), upd_s]
      · show ∃ c, c < 100 ∧ upd (upd (K.2 0) m (K.2 0 j)) j (K.2 0 m) i = nI c ∧ inS mx c
        by_cases z1 : i = j
        · rw [z1, upd_s]; exact r.K m (by omega)
        · rw [upd_n z1]
          by_cases z2 : i = m
          · rw [z2, upd_s]; exact r.K j (by omega)
          · rw [upd_n z2]; exact r.K i hi
      · show upd (upd (upd h 11 x2) (119 + m) (K.2 0 j)) (119 + j) (K.2 0 m) (119 + i) = upd (upd (K.2 0) m (K.2 0 j)) j (K.2 0 m) i
        by_cases z1 : i = j
        · rw [z1, upd_s, upd_s]
        · rw [upd_n z1, upd_n (by omega)]
          by_cases z2 : i = m
          · rw [z2, upd_s, upd_s]
          · rw [upd_n z2, upd_n (by omega), upd_n (by omega)]; exact r.dK i hi
end A

def PD (g : GS) (d : Nat → Int32) (mx np hs hb : Nat) : Prop :=
  (g.1.1 0 = nI mx ∧ 3 ≤ mx ∧ mx ≤ 9) ∧
  (g.1.1 1 = nI np ∧ 2 ≤ np ∧ np ≤ 4) ∧
  (g.1.1 2 = nI hs ∧ 1 ≤ hs ∧ hs ≤ 12) ∧
  (g.1.1 3 = nI hb ∧ hb ≤ mx) ∧
  (d 0 = nI mx) ∧
  (d 1 = nI np) ∧
  (d 2 = nI hs) ∧
  (d 3 = nI hb) ∧
  (d 11 = g.1.1 4) ∧
  (d 9 = g.1.1 9) ∧
  (∀ p, p < 4 → d (15 + p) = g.1.2 1 p) ∧
  (∀ c, c < 100 → g.1.2 0 c = -1 ∨ ((∃ p, p < np ∧ g.1.2 0 c = nI p) ∧ inS mx c ∧ ¬ c = 11 * hb)) ∧
  (∀ c, c < 100 → d (19 + c) = g.1.2 0 c)
theorem PD.mx {g : GS} {d : Nat → Int32} {mx np hs hb : Nat} (h : PD g d mx np hs hb) : g.1.1 0 = nI mx ∧ 3 ≤ mx ∧ mx ≤ 9 := h.1
theorem PD.np {g : GS} {d : Nat → Int32} {mx np hs hb : Nat} (h : PD g d mx np hs hb) : g.1.1 1 = nI np ∧ 2 ≤ np ∧ np ≤ 4 := h.2.1
theorem PD.hs {g : GS} {d : Nat → Int32} {mx np hs hb : Nat} (h : PD g d mx np hs hb) : g.1.1 2 = nI hs ∧ 1 ≤ hs ∧ hs ≤ 12 := h.2.2.1
theorem PD.hb {g : GS} {d : Nat → Int32} {mx np hs hb : Nat} (h : PD g d mx np hs hb) : g.1.1 3 = nI hb ∧ hb ≤ mx := h.2.2.2.1
theorem PD.d0 {g : GS} {d : Nat → Int32} {mx np hs hb : Nat} (h : PD g d mx np hs hb) : d 0 = nI mx := h.2.2.2.2.1
theorem PD.d1 {g : GS} {d : Nat → Int32} {mx np hs hb : Nat} (h : PD g d mx np hs hb) : d 1 = nI np := h.2.2.2.2.2.1
theorem PD.d2 {g : GS} {d : Nat → Int32} {mx np hs hb : Nat} (h : PD g d mx np hs hb) : d 2 = nI hs := h.2.2.2.2.2.2.1
theorem PD.d3 {g : GS} {d : Nat → Int32} {mx np hs hb : Nat} (h : PD g d mx np hs hb) : d 3 = nI hb := h.2.2.2.2.2.2.2.1
theorem PD.sd {g : GS} {d : Nat → Int32} {mx np hs hb : Nat} (h : PD g d mx np hs hb) : d 11 = g.1.1 4 := h.2.2.2.2.2.2.2.2.1
theorem PD.d9 {g : GS} {d : Nat → Int32} {mx np hs hb : Nat} (h : PD g d mx np hs hb) : d 9 = g.1.1 9 := h.2.2.2.2.2.2.2.2.2.1
theorem PD.tot {g : GS} {d : Nat → Int32} {mx np hs hb : Nat} (h : PD g d mx np hs hb) : ∀ p, p < 4 → d (15 + p) = g.1.2 1 p := h.2.2.2.2.2.2.2.2.2.2.1
theorem PD.H {g : GS} {d : Nat → Int32} {mx np hs hb : Nat} (h : PD g d mx np hs hb) : ∀ c, c < 100 → g.1.2 0 c = -1 ∨ ((∃ p, p < np ∧ g.1.2 0 c = nI p) ∧ inS mx c ∧ ¬ c = 11 * hb) := h.2.2.2.2.2.2.2.2.2.2.2.1
theorem PD.dH {g : GS} {d : Nat → Int32} {mx np hs hb : Nat} (h : PD g d mx np hs hb) : ∀ c, c < 100 → d (19 + c) = g.1.2 0 c := h.2.2.2.2.2.2.2.2.2.2.2.2
section A
variable {g : GS} {d d0 : Nat → Int32} {mx np hs hb f e : Nat} {fo : Option Nat}
/-- the tiles that are neither held nor in the middle -/
def fr (mx hb : Nat) (H : Nat → Int32) (c : Nat) : Bool := decide ((c / 10 ≤ c % 10 ∧ c % 10 ≤ mx) ∧ H c = -1 ∧ ¬ c = 11 * hb)
theorem PD.cnt (r : PD g d mx np hs hb) : hT (g.1.2 0) + cn (fr mx hb (g.1.2 0)) 0 100 ≤ 54 := by
  have hmx := r.mx
  have hhb := r.hb
  have h1 := set_54 mx hmx.2.2 hb hhb.2
  refine Nat.le_trans ?_ h1
  have h2 : hT (g.1.2 0) = cn (fun c => decide (c < 100 ∧ ¬ g.1.2 0 c = -1)) 0 100 := cn_congr 100 0 (fun j _ hj => by simp [show j < 100 by omega])
  rw [h2]
  refine cn_add 100 0 (fun j hj => ?_) (fun j hj => ?_)
  · have hj := of_decide_eq_true hj
    have h3 := (r.H j hj.1).resolve_left hj.2
    exact ⟨decide_eq_true ⟨h3.2.1, h3.2.2⟩, decide_eq_false (fun z => hj.2 z.2.1)⟩
  · have hj := of_decide_eq_true hj
    exact decide_eq_true ⟨hj.1, hj.2.2⟩
theorem s_dealRound (r : PD g d mx np hs hb) : DP g.2.1 d mx np hs hb (f_X1_dealRound g) (f_X8_deal 1464 d) := by
  have hcnt := r.cnt
  have hmx := r.mx
  have hhb := r.hb
  unfold f_X1_dealRound f_X4_clear f_X8_deal
  rw [bd1_S]
  refine lk23 (B := f_X1_dealRound_B9) (B' := f_X8_deal_B6 1464) (DP g.2.1 d mx np hs hb) (fun (m : Nat) (v : Int32) (gg : GS) (w1 w3 : Int32) (h : Nat → Int32) => ∃ c e K, v = nI c ∧ w3 = nI c ∧ w1 = nI e ∧ c + m = 100 ∧ e = cn (fr mx hb (g.1.2 0)) 0 c ∧ gg = (g.1, g.2.1, K, g.2.2.2) ∧ DR gg h mx np hs hb 0 e ∧ Fq d h) ?_ FUEL 100 _ _ _ _ _ (FUEL_lt (by omega)) ⟨0, 0, _, rfl, rfl, rfl, rfl, rfl, rfl, ?_, fun _ _ => rfl⟩
  · rintro rec rec' m v gg w1 w3 h ⟨c, e, K, rfl, rfl, rfl, hm, he, rfl, r1, hF⟩ ih
    have hst := r1.st
    unfold f_X1_dealRound_B9 f_X8_deal_B6
    rw [i_100, ie_le (by omega) (by omega), ie_le (by omega) (by omega)]
    by_cases h1 : 100 ≤ c
    · rw [if_pos h1, if_pos h1]
      obtain ⟨m', K', d', e1, e2, e3, e4⟩ := d_mix r1 hF
      rw [e1, e2, bd2_S]
      exact d_players e3 rfl e4
    · have hsn : cn (fr mx hb (g.1.2 0)) 0 (c + 1) = _ := cn_snoc c 0
      rw [Nat.zero_add] at hsn
      rw [if_neg h1, if_neg h1, e_inSet r1.mx.1 r1.mx.2.2 (by omega), bd1_S, x_isTile (by omega) (by omega) r1.d0 r1.mx.2.2 (by omega), bd1_S, nI_1]
      have skip : fr mx hb (g.1.2 0) c = false → DP g.2.1 d mx np hs hb (rec (nI (c + 1)) (g.1, g.2.1, K, g.2.2.2)) (rec' (nI e) (nI (c + 1)) h) := fun z => by
        rw [z, if_neg (by decide)] at hsn
        exact ih (m - 1) _ _ _ _ _ (by omega) ⟨c + 1, e, K, rfl, rfl, rfl, by omega, by rw [hsn]; exact he, rfl, r1, hF⟩
      by_cases h2 : c / 10 ≤ c % 10 ∧ c % 10 ≤ mx
      · rw [if_pos h2, if_neg (show ¬ (1 : Int32) = 0 by decide), if_neg (show ¬ (1 : Int32) = 0 by decide), e_free r1.hb.1 (by omega) (by omega), bd1_S, i_19, nI_add, inb_t (by omega) (by omega), gd_T, nI_clamp (by omega), r1.dH c (by omega), gl_3, cl_3, r1.d3, show (11 : Int32) * nI hb = nI (11 * hb) from nI_mul 11 hb, ie_eq (by omega) (by omega)]
        show DP _ _ _ _ _ _ (if (if g.1.2 0 c = -1 ∧ ¬ c = 11 * hb then (1 : Int32) else 0) = 0 then _ else _) (if g.1.2 0 c = -1 then _ else _)
        by_cases h3 : g.1.2 0 c = -1
        · rw [if_pos h3]
          by_cases h4 : c = 11 * hb
          · rw [if_neg (show ¬ (g.1.2 0 c = -1 ∧ ¬ c = 11 * hb) from fun z => z.2 h4), if_pos rfl, if_pos h4]
            exact skip (decide_eq_false (fun z => z.2.2 h4))
          · rw [if_pos (show (g.1.2 0 c = -1 ∧ ¬ c = 11 * hb) from ⟨h3, h4⟩), if_neg (show ¬ (1 : Int32) = 0 by decide), if_neg h4]
            have hfr : fr mx hb (g.1.2 0) c = true := decide_eq_true ⟨h2, h3, h4⟩
            rw [hfr, if_pos rfl] at hsn
            have hle : cn (fr mx hb (g.1.2 0)) 0 (c + 1) ≤ cn (fr mx hb (g.1.2 0)) 0 100 := by
              have : ∀ j a, cn (fr mx hb (g.1.2 0)) 0 a ≤ cn (fr mx hb (g.1.2 0)) 0 (a + j) := by
                intro j
                induction j with
                | zero => intro a; exact Nat.le_refl _
                | succ j ihj => intro a; rw [show a + (j + 1) = a + j + 1 by omega, cn_snoc]; have := ihj a; omega
              have h3 := this (100 - (c + 1)) (c + 1)
              rw [show c + 1 + (100 - (c + 1)) = 100 by omega] at h3
              exact h3
            unfold f_X4_add
            rw [show (g.1, g.2.1, K, g.2.2.2).2.2.1.1 1 = nI e from hst.2.1, i_55, ie_le (by omega) (by omega), if_neg (by omega), e_put (by omega) (by omega), bd1_S, bd1_S, nI_1, i_119, nI_add, inb_t (by omega) (by omega), gd_T, nI_clamp (by omega), nmd_S]
            refine ih (m - 1) _ _ _ _ _ (by omega) ⟨c + 1, e + 1, _, rfl, rfl, rfl, by omega, by rw [hsn]; omega, rfl, ?_, fun k hk => by rw [upd_n (by omega)]; exact hF k hk⟩
            have lo : ∀ k, k < 119 → upd h (119 + e) (nI c) k = h k := fun k a => upd_n (by omega)
            refine ⟨r1.mx, r1.np, r1.hs, r1.hb, (lo _ (by omega)).trans r1.d0, (lo _ (by omega)).trans r1.d1, (lo _ (by omega)).trans r1.d2, (lo _ (by omega)).trans r1.d3, (lo _ (by omega)).trans r1.sd, (lo _ (by omega)).trans r1.d9, fun q hq => (lo _ (by omega)).trans (r1.tot q hq), r1.H, fun c hc => (lo _ (by omega)).trans (r1.dH c hc), ⟨hst.1, rfl, by omega, by omega⟩, fun i hi => ?_, fun i hi => ?_, ?_⟩
            · show ∃ c_1, c_1 < 100 ∧ upd (K.2 0) e (nI c) i = nI c_1 ∧ inS mx c_1
              by_cases z1 : i = e
              · rw [z1, upd_s]; exact ⟨c, by omega, rfl, h2⟩
              · rw [upd_n z1]; exact r1.K i (by omega)
            · show upd h (119 + e) (nI c) (119 + i) = upd (K.2 0) e (nI c) i
              by_cases z1 : i = e
              · rw [z1, upd_s, upd_s]
              · rw [upd_n z1, upd_n (by omega)]; exact r1.dK i (by omega)
            · show hT (g.1.2 0) + (e + 1 - 0) ≤ 54
              omega
        · rw [if_neg h3, if_neg (show ¬ (g.1.2 0 c = -1 ∧ ¬ c = 11 * hb) from fun z => h3 z.1), if_pos rfl]
          exact skip (decide_eq_false (fun z => h3 z.2.1))
      · rw [if_neg h2, if_pos rfl, if_pos rfl]
        exact skip (decide_eq_false (fun z => h2 z.1))
  · exact ⟨r.mx, r.np, r.hs, r.hb, r.d0, r.d1, r.d2, r.d3, r.sd, r.d9, r.tot, fun c hc => (r.H c hc).imp id (fun z => ⟨z.1, z.2.1⟩), r.dH, ⟨rfl, rfl, Nat.le_refl _, by omega⟩, fun i hi => absurd hi (Nat.not_lt_zero _), fun i hi => absurd hi (Nat.not_lt_zero _), by show hT (g.1.2 0) + (0 - 0) ≤ 54; omega⟩
end A
