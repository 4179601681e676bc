/-! the first of the longest rows -/
theorem lk11 {A0 R A0' R' : Type} {B : (A0 → Option R) → A0 → Option R} {B' : (A0' → Option R') → A0' → Option R'} (Post : Option R → Option R' → Prop) (Inv : Nat → A0 → A0' → Prop)
    (h : ∀ rec rec' n a0 b0, Inv n a0 b0 → (∀ m c0 d0, m < n → Inv m c0 d0 → Post (rec c0) (rec' d0)) → Post (B rec a0) (B' rec' b0)) : ∀ f n a0 b0, n < f → Inv n a0 b0 → Post (itr1 B f a0) (itr1 B' f b0)
  | 0, n, a0, b0, h1, _ => by omega
  | f + 1, n, a0, b0, _, h2 => h _ _ n a0 b0 h2 (fun m c0 d0 hm hi => lk11 Post Inv h f m c0 d0 (by omega) hi)
theorem and_ne {a b : Nat} : ¬ (a &&& b = 0) ↔ ∃ e, a.testBit e = true ∧ b.testBit e = true := by
  constructor
  · intro h
    obtain ⟨e, he⟩ := tb_ne h
    rw [Nat.testBit_and, Bool.and_eq_true] at he
    exact ⟨e, he⟩
  · rintro ⟨e, h1, h2⟩
    exact tb_ex (e := e) (by rw [Nat.testBit_and, h1, h2]; rfl)
section B
variable {S : SA} {n : Nat} {tl : Nat → Nat} {st : Nat} {mk : Nat → Nat} {F : Nat} {E : Nat → Nat} {A : Nat → Nat → Nat}
/-- of the hopeful sets: which ends can still come to a longest row -/
def HC (E : Nat → Nat) (A : Nat → Nat → Nat) (len : Nat) (hp : Nat → Nat) (m : Nat) : Prop := ∀ e, (hp m).testBit e = true ↔ ((E m).testBit e = true ∧ A m e + pc m = len)
theorem e_hopeOf {T : SA} {hp : Nat → Nat} {m : Nat} (hn : n ≤ 12) (t0 : T.1 0 = nI n) (tt : ∀ j, j < n → T.2 0 j = nI (tl j) ∧ tl j < 100) (tE : ∀ m, m < 4096 → T.2 2 m = nI (E m) ∧ E m < 1024) (th : ∀ m, m < 4096 → T.2 3 m = nI (hp m) ∧ hp m < 1024) (hm : m < 2 ^ n) : ∃ v, v < 1024 ∧ f_X2_hopeOf T (nI m) = some (nI (v &&& E m)) ∧ ∀ e, v.testBit e = true ↔ ∃ i, i < n ∧ m.testBit i = false ∧ ∃ f, (hp (m ||| 2 ^ i)).testBit f = true ∧ fitN (tl i) f ∧ oth (tl i) f = e := by
  have h12 := p12 hn
  unfold f_X2_hopeOf
  refine lr2 (B := f_X2_hopeOf_B4 T (nI m)) (fun (o : Option Int32) => ∃ v, v < 1024 ∧ o = some (nI (v &&& E m)) ∧ ∀ e, v.testBit e = true ↔ ∃ i, i < n ∧ m.testBit i = false ∧ ∃ f, (hp (m ||| 2 ^ i)).testBit f = true ∧ fitN (tl i) f ∧ oth (tl i) f = e) (fun (j : Nat) (v2 v3 : Int32) => ∃ i v, v3 = nI i ∧ i + j = n ∧ v2 = nI v ∧ v < 1024 ∧ ∀ e, v.testBit e = true ↔ ∃ q, q < i ∧ m.testBit q = false ∧ ∃ f, (hp (m ||| 2 ^ q)).testBit f = true ∧ fitN (tl q) f ∧ oth (tl q) f = e) ?_ FUEL n 0 0 (FUEL_lt (by omega)) ⟨0, 0, rfl, by omega, rfl, by omega, fun e => ⟨fun z => by rw [Nat.zero_testBit] at z; exact absurd z (by decide), fun ⟨q, hq, _⟩ => absurd hq (Nat.not_lt_zero _)⟩⟩
  rintro rec j v2 v3 ⟨i, v, rfl, hj, rfl, hv, hb⟩ ih
  unfold f_X2_hopeOf_B4
  rw [t0, ie_le (by omega) (by omega)]
  by_cases hi : n ≤ i
  · have : i = n := by omega
    subst this
    have hE := tE m (by omega)
    rw [if_pos hi, e_look (by omega) (by omega), bd1_S, hE.1, nI_and (by omega) (by omega)]
    exact ⟨v, hv, rfl, hb⟩
  · have hti := tt i (by omega)
    rw [if_neg hi, ie_and (by omega) (by omega), nI_1]
    by_cases hbt : m.testBit i = true
    · rw [if_pos hbt]
      refine ih (j - 1) _ _ (by omega) ⟨i + 1, v, rfl, by omega, rfl, hv, fun e => (hb e).trans ⟨fun ⟨q, q1, q2⟩ => ⟨q, by omega, q2⟩, fun ⟨q, q1, q2, q3⟩ => ?_⟩⟩
      by_cases z : q = i
      · rw [z, hbt] at q2; exact absurd q2 (by decide)
      · exact ⟨q, by omega, q2, q3⟩
    · have hbf := Bool.eq_false_iff.mpr hbt
      have hor := or_lt hm (show i < n by omega)
      have hh := th (m ||| 2 ^ i) (by omega)
      have hac := acr_lt (E := hp (m ||| 2 ^ i)) hti.2
      rw [if_neg hbt, e_look (by omega) (by omega), bd1_S, shl_k i (by omega), nI_or (by omega) (pw_lt (by omega)), e_look (by omega) (by omega), bd1_S, hti.1, hh.1, e_across hti.2 hh.2, bd1_S, nI_or (by omega) (by omega)]
      refine ih (j - 1) _ _ (by omega) ⟨i + 1, _, rfl, by omega, rfl, Nat.or_lt_two_pow (n := 10) hv hac, fun e => ?_⟩
      rw [Nat.testBit_or, Bool.or_eq_true, hb e, acr_tb]
      constructor
      · rintro (⟨q, q1, q2⟩ | z)
        · exact ⟨q, by omega, q2⟩
        · exact ⟨i, by omega, hbf, z⟩
      · rintro ⟨q, q1, q2, q3⟩
        by_cases z : q = i
        · subst z; exact Or.inr q3
        · exact Or.inl ⟨q, by omega, q2, q3⟩
theorem e_findHopeful (h : BF S n tl st mk F E F 0) (hA : D1 tl n (fun _ => 1) A) : ∃ S' hp, f_X2_findHopeful S (nI (A 0 st)) = some S' ∧ S'.1 = S.1 ∧ (∀ i, ¬ i = 3 → S'.2 i = S.2 i) ∧ (∀ m, m < 4096 → S'.2 3 m = nI (hp m) ∧ hp m < 1024) ∧ (∀ j, j < F → HC E A (A 0 st) hp (mk j)) ∧ ∀ m, m < 4096 → (∀ j, j < F → ¬ mk j = m) → hp m = 0 := by
  have hn := h.n.2
  have h12 := p12 hn
  have htl : ∀ i, i < n → tl i < 100 := fun i hi => (h.tl i hi).2
  have hF := h.F
  have hpos := h.pos
  obtain ⟨len, hlen⟩ : ∃ len, len = A 0 st := ⟨_, rfl⟩
  have hub : ∀ m e, m < 2 ^ n → (E m).testBit e = true → e < 10 ∧ pc m + A m e ≤ len := fun m e hm he => by
    obtain ⟨l, hl⟩ := h.snd m (by omega) e he
    have h1 := Rw.ub hn h.s.2 htl hA l m e hl
    have h2 := Rw.lt hn h.s.2 htl l m e hl
    rw [pW1_pc hn hm] at h1
    exact ⟨h2.2.1, by omega⟩
  have hl12 : len ≤ 12 := by
    have h1 := h.len hA
    have h2 := pc_le (mk (F - 1))
    rw [h1.1] at h2; omega
  rw [← hlen]
  unfold f_X2_findHopeful
  rw [hF.1, show nI F - 1 = nI (F - 1) from nI_sub (b := 1) (by omega)]
  refine lr2 (B := f_X2_findHopeful_B7 (nI len)) (fun (o : Option SA) => ∃ S' hp, o = some S' ∧ S'.1 = S.1 ∧ (∀ i, ¬ i = 3 → S'.2 i = S.2 i) ∧ (∀ m, m < 4096 → S'.2 3 m = nI (hp m) ∧ hp m < 1024) ∧ (∀ j, j < F → HC E A len hp (mk j)) ∧ ∀ m, m < 4096 → (∀ j, j < F → ¬ mk j = m) → hp m = 0) (fun (i : Nat) (v : Int32) (a : SA) => a.1 = S.1 ∧ (∀ i, ¬ i = 3 → a.2 i = S.2 i) ∧ i ≤ F ∧ (v = if i = 0 then -1 else nI (i - 1)) ∧ ∃ hp, (∀ m, m < 4096 → a.2 3 m = nI (hp m) ∧ hp m < 1024) ∧ (∀ j, i ≤ j → j < F → HC E A len hp (mk j)) ∧ ∀ m, m < 4096 → (∀ j, i ≤ j → j < F → ¬ mk j = m) → hp m = 0) ?_ FUEL F _ S (FUEL_lt (by omega)) ⟨rfl, fun _ _ => rfl, Nat.le_refl _, by rw [if_neg (by omega)], (fun _ => 0 : Nat → Nat), fun m hm => ⟨by show S.2 3 m = nI 0; exact h.H m hm, by show (0 : Nat) < 1024; omega⟩, fun j h1 h2 => by omega, fun _ _ _ => rfl⟩
  rintro rec i v a ⟨a1, a2, hi, rfl, hp, p1, p2, p3⟩ ih
  by_cases hi0 : i = 0
  · subst hi0
    unfold f_X2_findHopeful_B7
    rw [if_pos rfl, if_pos (show (-1 : Int32) < 0 by decide)]
    exact ⟨a, hp, rfl, a1, a2, p1, fun j hj => p2 j (Nat.zero_le _) hj, fun m hm hj => p3 m hm (fun j _ hj2 => hj j hj2)⟩
  · obtain ⟨k, rfl⟩ : ∃ k, i = k + 1 := ⟨i - 1, by omega⟩
    have hmk := h.mk k (by omega)
    obtain ⟨m, em⟩ : ∃ m, m = mk k := ⟨_, rfl⟩
    rw [← em] at hmk
    have hm : m < 4096 := by omega
    have ak1 : a.2 1 k = nI m := by rw [a2 1 (by omega)]; exact hmk.1
    have hEm := h.E m hm
    have hpcm := pc_le m
    unfold f_X2_findHopeful_B7
    rw [if_neg hi0, show k + 1 - 1 = k by omega, if_neg (nI_lt0 (by omega)), e_look (by omega) (by omega), bd1_S, ak1, bc_all m hm, bd1_S, ie_eq (by omega) (by omega)]
    have go : ∀ w, w < 1024 → (∀ e, w.testBit e = true ↔ ((E m).testBit e = true ∧ A m e + pc m = len)) → ∃ S' hp, f_X2_findHopeful_J44 rec (nI k) a (nI m) (nI w) = some S' ∧ S'.1 = S.1 ∧ (∀ i, ¬ i = 3 → S'.2 i = S.2 i) ∧ (∀ m, m < 4096 → S'.2 3 m = nI (hp m) ∧ hp m < 1024) ∧ (∀ j, j < F → HC E A len hp (mk j)) ∧ ∀ m, m < 4096 → (∀ j, j < F → ¬ mk j = m) → hp m = 0 := fun w hw hwc => by
      unfold f_X2_findHopeful_J44
      rw [e_put hm (by omega), bd1_S]
      refine ih k _ _ (by omega) ⟨a1, fun i hi => (upA_n hi).trans (a2 i hi), by omega, ?_, fun q => if q = m then w else hp q, fun q hq => ?_, fun j j1 j2 => ?_, fun q hq hj => ?_⟩
      · by_cases hk0 : k = 0
        · rw [if_pos hk0, hk0]; decide
        · rw [if_neg hk0]; exact nI_am1 (by omega)
      · show upd (a.2 3) m (nI w) q = nI (if q = m then w else hp q) ∧ (if q = m then w else hp q) < 1024
        by_cases z : q = m
        · rw [z, upd_s, if_pos rfl]; exact ⟨rfl, hw⟩
        · rw [upd_n z, if_neg z]; exact p1 q hq
      · intro e
        show (if mk j = m then w else hp (mk j)).testBit e = true ↔ _
        by_cases z : mk j = m
        · rw [if_pos z, z]; exact hwc e
        · rw [if_neg z]
          refine p2 j ?_ j2 e
          by_cases y : j = k
          · rw [y] at z; exact absurd em.symm z
          · omega
      · show (if q = m then w else hp q) = 0
        have hqm : ¬ q = m := fun z => hj k (Nat.le_refl _) (by omega) (em.symm.trans z.symm)
        rw [if_neg hqm]
        exact p3 q hq (fun j j1 j2 => hj j (by omega) j2)
    by_cases hlenm : pc m = len
    · rw [if_pos hlenm, a2 2 (by omega), e_look hm (by omega), bd1_S, hEm.1]
      refine go _ hEm.2 (fun e => ⟨fun z => ⟨z, ?_⟩, fun z => z.1⟩)
      have := (hub m e hmk.2 z).2
      omega
    · rw [if_neg hlenm]
      obtain ⟨w, w1, w2, w3⟩ := e_hopeOf (T := a) (hp := hp) (E := E) (m := m) hn (by rw [a1]; exact h.n.1) (fun j hj => by rw [a2 0 (by omega)]; exact h.tl j hj) (fun q hq => by rw [a2 2 (by omega)]; exact h.E q hq) p1 hmk.2
      rw [w2, bd1_S]
      refine go _ (Nat.lt_of_le_of_lt Nat.and_le_left w1) (fun e => ?_)
      rw [Nat.testBit_and, Bool.and_eq_true, w3 e]
      constructor
      · rintro ⟨⟨i, i1, i2, f, f1, f2, f3⟩, he⟩
        obtain ⟨e10, hle⟩ := hub m e hmk.2 he
        have hor := or_lt hmk.2 i1
        have hex : ∃ j, k + 1 ≤ j ∧ j < F ∧ mk j = m ||| 2 ^ i := by
          rcases Classical.em (∃ j, k + 1 ≤ j ∧ j < F ∧ mk j = m ||| 2 ^ i) with y | y
          · exact y
          · have := p3 (m ||| 2 ^ i) (by omega) (fun j j1 j2 j3 => y ⟨j, j1, j2, j3⟩)
            rw [this, Nat.zero_testBit] at f1
            exact absurd f1 (by decide)
        obtain ⟨j, j1, j2, j3⟩ := hex
        have hc := (p2 j j1 j2 f)
        rw [j3] at hc
        obtain ⟨-, hc2⟩ := hc.mp f1
        obtain ⟨o1, o2⟩ := oth_fit f2
        rw [f3] at o1 o2
        have hd := (hA m hmk.2 e e10).1 i i1 i2 o1
        rw [o2] at hd
        rw [pc_add (by omega) i2] at hc2
        have hd' : A (m ||| 2 ^ i) f + 1 ≤ A m e := hd
        exact ⟨he, by omega⟩
      · rintro ⟨he, hlen2⟩
        obtain ⟨e10, hle⟩ := hub m e hmk.2 he
        refine ⟨?_, he⟩
        rcases (hA m hmk.2 e e10).2 with z | ⟨i, i1, i2, i3, i4⟩
        · omega
        · have i4' : A m e = A (m ||| 2 ^ i) (oth (tl i) e) + 1 := i4
          obtain ⟨l, hl⟩ := h.snd m hm e he
          have hr : Rw tl n st (l + 1) (m ||| 2 ^ i) (oth (tl i) e) := ⟨m, e, i, hl, i1, i2, i3, rfl, rfl⟩
          have hE2 := h.all _ _ _ hr
          have hor := or_lt hmk.2 i1
          obtain ⟨j, j1, j2⟩ := h.fnd (m ||| 2 ^ i) (by omega) (tb_ex hE2)
          have hpa := pc_add (m := m) (show i < 12 by omega) i2
          have hjk : k + 1 ≤ j := by
            rcases Nat.lt_or_ge j (k + 1) with y | y
            · have := h.ord j k (by omega) (by omega)
              rw [j2, ← em, hpa] at this; omega
            · exact y
          have hc := p2 j hjk j1 (oth (tl i) e)
          rw [j2] at hc
          obtain ⟨o1, o2⟩ := oth_fit i3
          exact ⟨i, i1, i2, oth (tl i) e, hc.mpr ⟨hE2, by rw [hpa]; omega⟩, o1, o2⟩
/-- both find the same next tile -/
theorem s_next {S' : SA} {hp : Nat → Nat} {x : MS} {l m e : Nat} (h : BF S n tl st mk F E F 0) (hA : D1 tl n (fun _ => 1) (vl (x.1.2 5))) (hR : RA tl n (fun _ => 1) 1 (x.1.2 5) 0 10) (ht : ∀ i, i < n → x.1.2 4 i = nI (tl i) ∧ tl i < 100)
    (s1 : S'.1 = S.1) (s2 : ∀ i, ¬ i = 3 → S'.2 i = S.2 i) (s3 : ∀ m, m < 4096 → S'.2 3 m = nI (hp m) ∧ hp m < 1024) (s4 : ∀ j, j < F → HC E (vl (x.1.2 5)) (vl (x.1.2 5) 0 st) hp (mk j)) (s5 : ∀ m, m < 4096 → (∀ j, j < F → ¬ mk j = m) → hp m = 0)
    (hr : Rw tl n st l m e) (hl : vl (x.1.2 5) m e + l = vl (x.1.2 5) 0 st) (hl2 : l < vl (x.1.2 5) 0 st) :
    ∃ i, i < n ∧ m.testBit i = false ∧ fitN (tl i) e ∧ vl (x.1.2 5) (m ||| 2 ^ i) (oth (tl i) e) + 1 = vl (x.1.2 5) m e ∧ f_X2_firstHopefulTile S' (nI m) (nI e) = some (nI i) ∧ f_X8_nextIn x (nI m) (nI e) = some (nI i) := by
  have hn := h.n.2
  have h12 := p12 hn
  have htl : ∀ i, i < n → tl i < 100 := fun i hi => (h.tl i hi).2
  obtain ⟨m1, m2, m3⟩ := Rw.lt hn h.s.2 htl l m e hr
  have nvb : ∀ m e, m < 2 ^ n → e < 10 → x.1.2 5 (10 * m + e) = nI (vl (x.1.2 5) m e) ∧ vl (x.1.2 5) m e ≤ 12 := fun m e hm he => by
    obtain ⟨⟨a1, a2⟩, -⟩ := hR m e hm he (by omega)
    exact ⟨a1, by omega⟩
  -- what each tile says to both
  have cond : ∀ i, i < n → m.testBit i = false → fitN (tl i) e → ((hp (m ||| 2 ^ i)).testBit (oth (tl i) e) = true ↔ vl (x.1.2 5) (m ||| 2 ^ i) (oth (tl i) e) + 1 = vl (x.1.2 5) m e) := fun i hi hb hf => by
    have hor := or_lt m1 hi
    have hr2 : Rw tl n st (l + 1) (m ||| 2 ^ i) (oth (tl i) e) := ⟨m, e, i, hr, hi, hb, hf, rfl, rfl⟩
    have hE2 := h.all _ _ _ hr2
    obtain ⟨j, j1, j2⟩ := h.fnd (m ||| 2 ^ i) (by omega) (tb_ex hE2)
    have hc := s4 j j1 (oth (tl i) e)
    rw [j2, pc_add (by omega) hb, m3] at hc
    constructor
    · intro z
      have := (hc.mp z).2
      omega
    · intro z
      exact hc.mpr ⟨hE2, by omega⟩
  obtain ⟨i0, w1, w2, w3, w4⟩ : ∃ i, i < n ∧ m.testBit i = false ∧ fitN (tl i) e ∧ vl (x.1.2 5) m e = vl (x.1.2 5) (m ||| 2 ^ i) (oth (tl i) e) + 1 := by
    rcases (hA m m1 e m2).2 with z | z
    · omega
    · exact z
  unfold f_X2_firstHopefulTile f_X8_nextIn
  refine lk11 (B := f_X2_firstHopefulTile_B2 S' (nI m) (nI e)) (B' := f_X8_nextIn_B2 x (nI m) (nI e)) (fun (o : Option Int32) (o' : Option Int32) => ∃ i, i < n ∧ m.testBit i = false ∧ fitN (tl i) e ∧ vl (x.1.2 5) (m ||| 2 ^ i) (oth (tl i) e) + 1 = vl (x.1.2 5) m e ∧ o = some (nI i) ∧ o' = some (nI i)) (fun (d : Nat) (v w : Int32) => ∃ i, v = nI i ∧ w = nI i ∧ i + d = n ∧ i ≤ i0) ?_ FUEL n 0 0 (FUEL_lt (by omega)) ⟨0, rfl, rfl, by omega, by omega⟩
  rintro rec rec' d v w ⟨i, rfl, rfl, hd, hi0⟩ ih
  have hi : i < n := by omega
  have hti := h.tl i hi
  have htx := ht i hi
  have hor := or_lt m1 hi
  have hoe := oth_le (e := e) hti.2
  have hh := s3 (m ||| 2 ^ i) (by omega)
  have h2e := Nat.pow_lt_pow_right (a := 2) (by omega) m2
  obtain ⟨b1, b2⟩ := nvb (m ||| 2 ^ i) (oth (tl i) e) hor hoe
  obtain ⟨b3, b4⟩ := nvb m e m1 m2
  have hacl := acr_lt (E := 2 ^ e) hti.2
  have hand : acr (tl i) (2 ^ e) &&& hp (m ||| 2 ^ i) < 1024 := Nat.lt_of_le_of_lt Nat.and_le_left hacl
  unfold f_X2_firstHopefulTile_B2 f_X8_nextIn_B2
  rw [show S'.1 0 = nI n by rw [s1]; exact h.n.1, ie_le (by omega) (by omega), if_neg (show ¬ n ≤ i by omega), s2 0 (by omega), e_look (by omega) (by omega), bd1_S, hti.1, shl_k e (by omega), e_across hti.2 h2e, bd1_S, ie_and (by omega) (by omega), nI_1, shl_k i (by omega), nI_or (by omega) (pw_lt (by omega)), e_look (by omega) (by omega), bd1_S, hh.1, nI_and (by omega) (by omega), ie_eq0 (by omega), shr_1 (by omega) (by omega), inb_t (show i < 12 by omega) (by omega), gd_T, gd_T, nI_clamp (by omega), htx.1, x_fits (by omega) (by omega), bd1_S, x_other htx.2 m2, bd1_S, i_10, nI_mul, nI_mul, nI_add, nI_add, inb_t (show 10 * (m ||| 2 ^ i) + oth (tl i) e < 40960 by omega) (by omega), inb_t (show 10 * m + e < 40960 by omega) (by omega), gd_T, gd_T, nI_clamp (show 10 * (m ||| 2 ^ i) + oth (tl i) e < 2 ^ 31 by omega), nI_clamp (show 10 * m + e < 2 ^ 31 by omega), b1, b3, show nI (vl (x.1.2 5) m e) - 1 = nI (vl (x.1.2 5) m e - 1) from nI_sub (b := 1) (by omega), ie_eq (by omega) (by omega)]
  have go : ¬ i = i0 → ∃ q, q < n ∧ m.testBit q = false ∧ fitN (tl q) e ∧ vl (x.1.2 5) (m ||| 2 ^ q) (oth (tl q) e) + 1 = vl (x.1.2 5) m e ∧ rec (nI (i + 1)) = some (nI q) ∧ rec' (nI (i + 1)) = some (nI q) := fun z => ih (d - 1) _ _ (by omega) ⟨i + 1, rfl, rfl, by omega, by omega⟩
  by_cases hb : m.testBit i = true
  · rw [if_pos hb, if_pos hb, if_pos (show (1 : Int32) = 1 from rfl)]
    exact go (fun z => by rw [z, w2] at hb; exact absurd hb (by decide))
  · have hbf := Bool.eq_false_iff.mpr hb
    rw [if_neg hb, if_neg hb, if_neg (show ¬ (0 : Int32) = 1 by decide)]
    by_cases hf : tl i / 10 = e ∨ tl i % 10 = e
    · rw [if_pos hf, if_neg (show ¬ (1 : Int32) = 0 by decide)]
      have c1 := cond i hi hbf hf
      by_cases hv : vl (x.1.2 5) (m ||| 2 ^ i) (oth (tl i) e) = vl (x.1.2 5) m e - 1
      · have hv' : vl (x.1.2 5) (m ||| 2 ^ i) (oth (tl i) e) + 1 = vl (x.1.2 5) m e := by omega
        rw [if_pos hv, if_neg]
        · exact ⟨i, hi, hbf, hf, hv', rfl, rfl⟩
        · exact and_ne.mpr ⟨oth (tl i) e, acr_tb.mpr ⟨e, by rw [Nat.testBit_two_pow]; simp, hf, rfl⟩, c1.mpr hv'⟩
      · rw [if_neg hv, if_pos]
        · exact go (fun z => by subst z; omega)
        · rcases Classical.em (acr (tl i) (2 ^ e) &&& hp (m ||| 2 ^ i) = 0) with y | y
          · exact y
          · obtain ⟨f, f1, f2⟩ := and_ne.mp y
            obtain ⟨e', g1, g2, g3⟩ := acr_tb.mp f1
            rw [Nat.testBit_two_pow, decide_eq_true_eq] at g1
            rw [← g1] at g3
            rw [← g3] at f2
            have := c1.mp f2
            omega
    · rw [if_neg hf, if_pos rfl, if_pos]
      · exact go (fun z => by subst z; exact hf w3)
      · rcases Classical.em (acr (tl i) (2 ^ e) &&& hp (m ||| 2 ^ i) = 0) with y | y
        · exact y
        · obtain ⟨f, f1, f2⟩ := and_ne.mp y
          obtain ⟨e', g1, g2, g3⟩ := acr_tb.mp f1
          rw [Nat.testBit_two_pow, decide_eq_true_eq] at g1
          rw [← g1] at g2
          exact absurd g2 hf
end B
