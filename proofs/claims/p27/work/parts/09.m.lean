/-! numbers written, and the text of a node -/
def decL (n : Nat) : List Nat := if n < 10 then [48 + n] else if n < 100 then [48 + n / 10, 48 + n % 10] else if n < 1000 then [48 + n / 100, 48 + n / 10 % 10, 48 + n % 10] else [48 + n / 1000, 48 + n / 100 % 10, 48 + n / 10 % 10, 48 + n % 10]
def TXT : List (List Nat) := [[116, 114, 97, 105, 110, 115], [104, 117, 98], [115, 101, 101, 100], [103, 105, 118, 101], [114, 97, 110, 107], [112, 105, 112, 115], [100, 111, 117, 98, 108, 101], [111, 119, 110], [112, 117, 98, 108, 105, 99], [108, 101, 102, 116], [32], [59], [45], [114, 97, 110, 107, 32], [], [43], [32, 45, 32], [42, 32], [47], [40], [41], [32, 59]]
/-- the constants: the texts, the variables' names, the digits -/
def KC (c : Nat → ClassId) (K : (Nat → Nat) × (Nat → Nat)) (h : HW) (W : Nat → Prop) : Prop := (∀ i, i < 22 → StrX c h W (K.1 i) (TXT.getD i [])) ∧ ((∃ (w : Bool) (f : Nat → Option Nat), h (K.1 30) = some (w, eQ (c 7) 5 f) ∧ ∀ i, i < 5 → f i = some (K.1 (5 + i))) ∧ ¬ W (K.1 30)) ∧ ((∃ (w : Bool) (f : Nat → Int32), h (K.1 31) = some (w, eI (c 5) 100 f) ∧ ∀ i, i < 100 → f i = sb_b (48 + i / 10)) ∧ ¬ W (K.1 31)) ∧ (∃ (w : Bool) (f : Nat → Int32), h (K.1 32) = some (w, eI (c 5) 100 f) ∧ ∀ i, i < 100 → f i = sb_b (48 + i % 10)) ∧ ¬ W (K.1 32)
section NX
variable {c : Nat → ClassId} {K : (Nat → Nat) × (Nat → Nat)} {h0 h : HW} {W : Nat → Prop} {a b : Nat} {bs cs : List Nat}
theorem KC.mv {h' : HW} {W' : Nat → Prop} (k : KC c K h W) (m : MvT h W h' W') : KC c K h' W' := by
  obtain ⟨k1, ⟨⟨w2, f2, k2, k3⟩, k4⟩, ⟨⟨w5, f5, k5, k6⟩, k7⟩, ⟨w8, f8, k8, k9⟩, k10⟩ := k
  obtain ⟨p1, p2⟩ := m _ (by rw [k2]; simp) k4
  obtain ⟨q1, q2⟩ := m _ (by rw [k5]; simp) k7
  obtain ⟨r1, r2⟩ := m _ (by rw [k8]; simp) k10
  exact ⟨fun i hi => (k1 i hi).mv m, ⟨⟨w2, f2, p1.trans k2, k3⟩, p2⟩, ⟨⟨w5, f5, q1.trans k5, k6⟩, q2⟩, ⟨w8, f8, r1.trans k8, k9⟩, r2⟩
theorem s_size {n : Nat} {post : Int32 → HW → Prop} (hn : n ≤ 9999) (hp : post (nI (decL n).length) h) : w_J6_stringSize_0f7a4 c K h (nI n) post := by
  unfold w_J6_stringSize_0f7a4
  refine ⟨nI_n0 (by omega), ?_⟩
  intro x9 e9
  subst e9
  have fin : ∀ (rec : Int32 → Int32 → Prop) (lim : Int32) (k m : Nat), lim = -nI m → m < 2 ^ 31 → k < 10 → (n < m → (decL n).length = k) → (m ≤ n → rec (10 * lim) (nI (k + 1))) → w_J6_stringSize_0f7a4_B16 c K h post (-nI n) rec lim (nI k) := by
    intro rec lim k m hlim hm hk h1 h2
    unfold w_J6_stringSize_0f7a4_B16
    refine br_le (a := 10) (by omega) (by omega) (fun z => by omega) (fun _ => ?_)
    refine sb_cmp n m (fun z => ?_) (fun z => ?_) (by omega) hlim hm
    · intro x34 e34 x36 e36
      rw [e34, e36, nI_1]
      exact h2 z
    · intro x29 e29
      have e29 : x29 = nI k := e29.trans (Int32.add_zero _)
      rw [e29, ← h1 z]
      exact hp
  have hd : (decL n).length = if n < 10 then 1 else if n < 100 then 2 else if n < 1000 then 3 else 4 := by
    unfold decL
    split
    · rfl
    · split
      · rfl
      · split <;> rfl
  refine ⟨5, ?_⟩
  refine fin _ (-10) 1 10 (by decide) (by omega) (by omega) (fun z => by rw [hd, if_pos z]) (fun z1 => ?_)
  refine fin _ _ 2 100 (by decide) (by omega) (by omega) (fun z => by rw [hd, if_neg (by omega), if_pos z]) (fun z2 => ?_)
  refine fin _ _ 3 1000 (by decide) (by omega) (by omega) (fun z => by rw [hd, if_neg (by omega), if_neg (by omega), if_pos z]) (fun z3 => ?_)
  refine fin _ _ 4 10000 (by decide) (by omega) (by omega) (fun z => by rw [hd, if_neg (by omega), if_neg (by omega), if_neg (by omega)]) (fun z4 => by omega)
/-- the array that digits go into -/
def Dg (c : Nat → ClassId) (K : (Nat → Nat) × (Nat → Nat)) (h : HW) (v cap : Nat) (f : Nat → Int32) : Prop := h v = some (true, eI (c 5) cap f) ∧ (∃ (w : Bool) (g : Nat → Int32), h (K.1 31) = some (w, eI (c 5) 100 g) ∧ ∀ i, i < 100 → g i = sb_b (48 + i / 10)) ∧ (∃ (w : Bool) (g : Nat → Int32), h (K.1 32) = some (w, eI (c 5) 100 g) ∧ ∀ i, i < 100 → g i = sb_b (48 + i % 10)) ∧ ¬ K.1 31 = v ∧ ¬ K.1 32 = v ∧ cap ≤ 216
theorem Dg.put {v cap p x : Nat} {f : Nat → Int32} {P : HW → Prop} (d : Dg c K h v cap f) (hp : p < cap) (hP : ∀ h', Dg c K h' v cap (upd f p (sb_b x)) → FrB h h' v → HDom h h' → P h') : stB h (c 5) v (nI p) (sb_b x) P := by
  obtain ⟨d1, ⟨w1, g1, d2, d3⟩, ⟨w2, g2, d4, d5⟩, d6, d7, d8⟩ := d
  refine ⟨cap, f, d1, vin hp (by omega), ?_⟩
  rw [nI_clamp (by omega), show vp_nar .byte (sb_b x) = sb_b x from pk_vb _]
  exact hP _ ⟨hup_s, ⟨w1, g1, (hup_n d6).trans d2, d3⟩, ⟨w2, g2, (hup_n d7).trans d4, d5⟩, d6, d7, d8⟩ FrB.up HDom.up
theorem Dg.one {v cap r : Nat} {f : Nat → Int32} {P : Int32 → Prop} (d : Dg c K h v cap f) (hr : r < 100) (hP : P (sb_b (48 + r % 10))) : lI h (c 5) (K.1 32) (nI r) P := by
  obtain ⟨d1, ⟨w1, g1, d2, d3⟩, ⟨w2, g2, d4, d5⟩, d6, d7, d8⟩ := d
  exact i_lI d4 hr (by omega) (by rw [d5 r hr]; exact hP)
theorem Dg.ten {v cap r : Nat} {f : Nat → Int32} {P : Int32 → Prop} (d : Dg c K h v cap f) (hr : r < 100) (hP : P (sb_b (48 + r / 10))) : lI h (c 5) (K.1 31) (nI r) P := by
  obtain ⟨d1, ⟨w1, g1, d2, d3⟩, ⟨w2, g2, d4, d5⟩, d6, d7, d8⟩ := d
  exact i_lI d2 hr (by omega) (by rw [d3 r hr]; exact hP)
/-- the last one or two digits -/
theorem gc_lo {rec : HW → Int32 → Int32 → Prop} {v cap n p : Nat} {f : Nat → Int32} {post : Int32 → HW → Prop} (d : Dg c K h v cap f) (hn : n < 100) (hp1 : 0 < p) (hp2 : 10 ≤ n → 1 < p) (hpc : p ≤ cap)
    (hP : ∀ (h' : HW) (f' : Nat → Int32), Dg c K h' v cap f' → FrB h h' v → HDom h h' → f' = (if n < 10 then upd f (p - 1) (sb_b (48 + n % 10)) else upd (upd f (p - 1) (sb_b (48 + n % 10))) (p - 2) (sb_b (48 + n / 10))) → post (nI (if n < 10 then p - 1 else p - 2)) h') : w_J6_getChars_ba4f3_B22 c K v post rec h (-nI n) (nI p) := by
  have hcap : cap ≤ 216 := d.2.2.2.2.2
  have en : -(-nI n) = nI n := Int32.neg_neg
  unfold w_J6_getChars_ba4f3_B22
  refine ⟨fun _ => ?_, fun z => absurd ((sb_nlt (a := 100) (by omega) (show n < 2 ^ 31 by omega)).mpr hn) z⟩
  intro x73 e73 x82 e82
  rw [sb_m1 hp1] at e73
  rw [en] at e82
  subst e73 e82
  refine d.one hn (d.put (by omega) fun h1 d1 f1 D1 => ⟨fun z => ?_, fun z => ?_⟩)
  · have z : n ≤ 9 := (sb_nle (a := 9) (by omega) (show n < 2 ^ 31 by omega)).mp z
    unfold w_J6_getChars_ba4f3_J104
    have P := hP h1 _ d1 f1 D1 (by rw [if_pos (show n < 10 by omega)])
    rw [if_pos (show n < 10 by omega)] at P
    exact ⟨rfl, P⟩
  · have z : ¬ n ≤ 9 := fun y => z ((sb_nle (a := 9) (by omega) (show n < 2 ^ 31 by omega)).mpr y)
    intro x92 e92 x101 e101
    rw [sb_m1 (by omega)] at e92
    rw [en] at e101
    subst e92 e101
    refine d1.ten hn (d1.put (by omega) fun h2 d2 f2 D2 => ?_)
    unfold w_J6_getChars_ba4f3_J104
    have P := hP h2 _ d2 (f1.tr f2) (D1.tr D2) (by rw [if_neg (show ¬ n < 10 by omega)]; rfl)
    rw [if_neg (show ¬ n < 10 by omega)] at P
    exact ⟨rfl, P⟩
theorem gc_hi {rec : HW → Int32 → Int32 → Prop} {v cap n p : Nat} {f : Nat → Int32} {post : Int32 → HW → Prop} (d : Dg c K h v cap f) (hn : 100 ≤ n) (hn2 : n ≤ 9999) (hp2 : 1 < p) (hpc : p ≤ cap)
    (hP : ∀ (h' : HW), Dg c K h' v cap (upd (upd f (p - 1) (sb_b (48 + n % 10))) (p - 2) (sb_b (48 + n / 10 % 10))) → FrB h h' v → HDom h h' → rec h' (-nI (n / 100)) (nI (p - 2))) : w_J6_getChars_ba4f3_B22 c K v post rec h (-nI n) (nI p) := by
  have hcap : cap ≤ 216 := d.2.2.2.2.2
  unfold w_J6_getChars_ba4f3_B22
  refine ⟨fun z => by have := (sb_nlt (a := 100) (by omega) (show n < 2 ^ 31 by omega)).mp z; omega, fun _ => ?_⟩
  intro x31 e31 x36 e36 x38 e38 x44 e44
  rw [sb_ndiv (by omega)] at e31
  subst e31
  rw [e36, sb_nrem (by omega)] at e38
  rw [sb_m1 (by omega)] at e44
  subst e38 e44
  refine d.one (Nat.mod_lt _ (by omega)) (d.put (by omega) fun h1 d1 f1 D1 => ?_)
  intro x57 e57
  rw [sb_m1 (by omega)] at e57
  subst e57
  refine d1.ten (Nat.mod_lt _ (by omega)) (d1.put (by omega) fun h2 d2 f2 D2 => ?_)
  rw [show n % 100 % 10 = n % 10 by omega, show n % 100 / 10 = n / 10 % 10 by omega] at d2
  exact hP h2 d2 (f1.tr f2) (D1.tr D2)
theorem s_getChars {v cap n n0 : Nat} {f : Nat → Int32} {post : Int32 → HW → Prop} (d : Dg c K h v cap f) (hf : sb_Fit f) (hn : n ≤ 9999) (hpc : n0 + (decL n).length ≤ cap)
    (hP : ∀ (h' : HW) (f' : Nat → Int32), h' v = some (true, eI (c 5) cap f') → FrB h h' v → HDom h h' → sb_Fit f' → (∀ i, i < n0 → f' i = f i) → (∀ i, i < (decL n).length → f' (n0 + i) = sb_b ((decL n).getD i 0)) → post (nI n0) h') : w_J6_getChars_ba4f3 c K h (nI n) (nI (n0 + (decL n).length)) v post := by
  unfold w_J6_getChars_ba4f3
  refine ⟨nI_pos' (by omega), rfl, ?_⟩
  intro x20 e20
  subst e20
  by_cases h10 : n < 10
  · have ed : decL n = [48 + n] := if_pos h10
    rw [ed] at hpc hP ⊢
    have hpc : n0 + 1 ≤ cap := hpc
    refine ⟨1, gc_lo d (by omega) (by show 0 < n0 + 1; omega) (fun z => by omega) hpc fun h' f' d' F D e => ?_⟩
    rw [if_pos h10] at e ⊢
    subst e
    refine hP h' _ d'.1 F D (sb_fitU hf (sb_fitB _)) (fun i hi => pk_un (by show i ≠ n0 + 1 - 1; omega)) (fun i hi => ?_)
    obtain rfl : i = 0 := by have : i < 1 := hi; omega
    show upd f (n0 + 1 - 1) _ (n0 + 0) = _
    rw [show n0 + 1 - 1 = n0 + 0 by omega, pk_us, show n % 10 = n by omega]
    rfl
  · by_cases h100 : n < 100
    · have ed : decL n = [48 + n / 10, 48 + n % 10] := by unfold decL; rw [if_neg h10, if_pos h100]
      rw [ed] at hpc hP ⊢
      have hpc : n0 + 2 ≤ cap := hpc
      refine ⟨1, gc_lo d (by omega) (by show 0 < n0 + 2; omega) (fun z => by show 1 < n0 + 2; omega) hpc fun h' f' d' F D e => ?_⟩
      rw [if_neg h10] at e ⊢
      subst e
      refine hP h' _ d'.1 F D (sb_fitU (sb_fitU hf (sb_fitB _)) (sb_fitB _)) (fun i hi => by rw [pk_un (by show i ≠ n0 + 2 - 2; omega), pk_un (by show i ≠ n0 + 2 - 1; omega)]) (fun i hi => ?_)
      have hi : i < 2 := hi
      show upd (upd f (n0 + 2 - 1) _) (n0 + 2 - 2) _ (n0 + i) = _
      rw [show n0 + 2 - 2 = n0 + 0 by omega, show n0 + 2 - 1 = n0 + 1 by omega]
      rcases (show i = 0 ∨ i = 1 by omega) with rfl | rfl
      · rw [pk_us]; rfl
      · rw [pk_un (by omega), pk_us]; rfl
    · by_cases h1000 : n < 1000
      · have ed : decL n = [48 + n / 100, 48 + n / 10 % 10, 48 + n % 10] := by unfold decL; rw [if_neg h10, if_neg h100, if_pos h1000]
        rw [ed] at hpc hP ⊢
        have hpc : n0 + 3 ≤ cap := hpc
        refine ⟨2, gc_hi d (by omega) hn (by show 1 < n0 + 3; omega) hpc fun h1 d1 f1 D1 => ?_⟩
        refine gc_lo d1 (by omega) (by show 0 < n0 + 3 - 2; omega) (fun z => by omega) (by show n0 + 3 - 2 ≤ cap; omega) fun h' f' d' F D e => ?_
        rw [if_pos (show n / 100 < 10 by omega)] at e ⊢
        subst e
        refine hP h' _ d'.1 (f1.tr F) (D1.tr D) (sb_fitU (sb_fitU (sb_fitU hf (sb_fitB _)) (sb_fitB _)) (sb_fitB _)) (fun i hi => by rw [pk_un (by show i ≠ n0 + 3 - 2 - 1; omega), pk_un (by show i ≠ n0 + 3 - 2; omega), pk_un (by show i ≠ n0 + 3 - 1; omega)]) (fun i hi => ?_)
        have hi : i < 3 := hi
        show upd (upd (upd f (n0 + 3 - 1) _) (n0 + 3 - 2) _) (n0 + 3 - 2 - 1) _ (n0 + i) = _
        rw [show n0 + 3 - 2 - 1 = n0 + 0 by omega, show n0 + 3 - 2 = n0 + 1 by omega, show n0 + 3 - 1 = n0 + 2 by omega]
        rcases (show i = 0 ∨ i = 1 ∨ i = 2 by omega) with rfl | rfl | rfl
        · rw [pk_us, show n / 100 % 10 = n / 100 by omega]; rfl
        · rw [pk_un (by omega), pk_us]; rfl
        · rw [pk_un (by omega), pk_un (by omega), pk_us]; rfl
      · have ed : decL n = [48 + n / 1000, 48 + n / 100 % 10, 48 + n / 10 % 10, 48 + n % 10] := by unfold decL; rw [if_neg h10, if_neg h100, if_neg h1000]
        rw [ed] at hpc hP ⊢
        have hpc : n0 + 4 ≤ cap := hpc
        refine ⟨2, gc_hi d (by omega) hn (by show 1 < n0 + 4; omega) hpc fun h1 d1 f1 D1 => ?_⟩
        refine gc_lo d1 (by omega) (by show 0 < n0 + 4 - 2; omega) (fun z => by show 1 < n0 + 4 - 2; omega) (by show n0 + 4 - 2 ≤ cap; omega) fun h' f' d' F D e => ?_
        rw [if_neg (show ¬ n / 100 < 10 by omega)] at e ⊢
        subst e
        refine hP h' _ d'.1 (f1.tr F) (D1.tr D) (sb_fitU (sb_fitU (sb_fitU (sb_fitU hf (sb_fitB _)) (sb_fitB _)) (sb_fitB _)) (sb_fitB _)) (fun i hi => by rw [pk_un (by show i ≠ n0 + 4 - 2 - 2; omega), pk_un (by show i ≠ n0 + 4 - 2 - 1; omega), pk_un (by show i ≠ n0 + 4 - 2; omega), pk_un (by show i ≠ n0 + 4 - 1; omega)]) (fun i hi => ?_)
        have hi : i < 4 := hi
        show upd (upd (upd (upd f (n0 + 4 - 1) _) (n0 + 4 - 2) _) (n0 + 4 - 2 - 1) _) (n0 + 4 - 2 - 2) _ (n0 + i) = _
        rw [show n0 + 4 - 2 - 2 = n0 + 0 by omega, show n0 + 4 - 2 - 1 = n0 + 1 by omega, show n0 + 4 - 2 = n0 + 2 by omega, show n0 + 4 - 1 = n0 + 3 by omega]
        rcases (show i = 0 ∨ i = 1 ∨ i = 2 ∨ i = 3 by omega) with rfl | rfl | rfl | rfl
        · rw [pk_us, show n / 100 / 10 = n / 1000 by omega]; rfl
        · rw [pk_un (by omega), pk_us]; rfl
        · rw [pk_un (by omega), pk_un (by omega), pk_us]; rfl
        · rw [pk_un (by omega), pk_un (by omega), pk_un (by omega), pk_us]; rfl
theorem decL_lt (n : Nat) (hn : n ≤ 9999) : (∀ x ∈ decL n, x < 128) ∧ (decL n).length ≤ 4 := by
  unfold decL
  split
  · refine ⟨fun x hx => ?_, by simp⟩; simp at hx; omega
  · split
    · refine ⟨fun x hx => ?_, by simp⟩; simp at hx; omega
    · split
      · refine ⟨fun x hx => ?_, by simp⟩; simp at hx; omega
      · refine ⟨fun x hx => ?_, by simp⟩; simp at hx; omega
/-- a number behind -/
theorem j_appI {n mc ms : Nat} {post : Option Nat → HW → Prop} (s : SbX c h0 h W a bs) (k : KC c K h W) (hn : n ≤ 9999) (hl : bs.length + 4 ≤ 100) (hc : 1 ≤ mc) (hs : 216 ≤ ms)
    (hp : ∀ (h' : HW) (W' : Nat → Prop), SbX c h0 h' W' a (bs ++ decL n) → MvT h W h' W' → HDom h h' → post (some a) h') : w_J4_append_bf812 c K h a (nI n) mc ms post := by
  have s0 := s
  have hd := decL_lt n hn
  unfold w_J4_append_bf812
  refine ⟨s.rc, mc, ms, 0, 0, by omega, by omega, ?_⟩
  unfold w_J5_append_c97b9
  obtain ⟨v0, cap0, f0, ml0, s1, s2, s3, s4, s5, s6, s7, s8, s9, s10, s11, s12⟩ := s
  refine ⟨true, _, nI bs.length, s1, rfl, s_size hn ?_⟩
  intro x10 e10
  rw [nI_add] at e10
  subst e10
  refine ⟨s0.rc, mc, ms, 0, 0, by omega, by omega, j_ensure s0 (by omega) hc hs fun h1 W1 v cap f ml y1 y2 y3 y4 y5 y6 y7 y8 y9 y10 y11 y12 y13 y14 y15 => ?_⟩
  have k1 := k.mv y13
  refine ⟨⟨_, _, y1⟩, ?_⟩
  unfold w_J5_isLatin1_aae02
  refine ⟨by decide, true, _, 0, y1, rfl, rfl, Or.inr rfl, by decide, ?_⟩
  refine ⟨true, _, v, y1, rfl, ?_⟩
  obtain ⟨-, -, ⟨k31, n31⟩, k32, n32⟩ := k1
  refine s_getChars ⟨y2, k31, k32, fun z => n31 (z ▸ y9), fun z => n32 (z ▸ y9), y5⟩ y7 hn y3 fun h2 f2 z1 z2 z3 z4 z5 z6 => ?_
  have hav : ¬ a = v := fun z => y15 z.symm
  refine p_rawC (z2.at y1 hav) (by show 3 < 4; decide) fun h3 w1 w2 w3 => ?_
  refine ⟨a, rfl, ?_⟩
  have D3 : HDom h h3 := (y14.tr z3).tr w3
  have key : ∀ b, ¬ h1 b = none → ¬ W1 b → h3 b = h1 b := fun b hb hn => by
    have g2 : h2 b = h1 b := z2 b hb (fun z => hn (z ▸ y9))
    exact (w2 b (by rw [g2]; exact hb) (fun z => hn (z ▸ y8))).trans g2
  refine hp h3 W1 ⟨v, cap, f2, ml, by rw [w1, List.length_append]; rfl, w2.at z1 y15, by rw [List.length_append]; omega, y5, fun i hi => ?_, z4, fun x hx => ?_, y8, y9, y10, ?_, ?_⟩ (y13.tr (fun b hb hn => ⟨key b hb hn, hn⟩)) D3
  · rw [List.length_append] at hi
    by_cases hi2 : i < bs.length
    · rw [z5 i hi2, getD_app_l hi2]; exact y6 i hi2
    · have := z6 (i - bs.length) (by omega)
      rw [show bs.length + (i - bs.length) = i by omega] at this
      rw [this, getD_app_r (by omega)]
  · rcases List.mem_append.mp hx with hx | hx
    · exact s7 x hx
    · exact hd.1 x hx
  · exact y11.dom (z3.tr w3)
  · intro b hb
    have g0 := y12 b hb
    exact (key b (by rw [g0]; exact hb) (fun z => hb (y10 b z))).trans g0
/-- a new builder -/
theorem j_new {mc ms : Nat} {P : Nat → HW → Nat → Nat → Prop} (x0 : Ext h0 h) (hc : 2 ≤ mc) (hs : 20 ≤ ms)
    (hp : ∀ (q : Nat) (h' : HW) (W' : Nat → Prop), SbX c h0 h' W' q [] → (∀ b, W' b → h b = none) → Ext h h' → P q h' (mc - 2) (ms - 20)) : nwO h 12 [.null, .int 0, .int 0, .int 0] 4 mc ms (fun q h1 mB zB => ∃ m11 z11 mB11 zB11 : Nat, mB = m11 + mB11 ∧ zB = z11 + zB11 ∧ w_J4_init_da8c8 c K h1 q m11 z11 (fun h2 => P q h2 mB11 zB11)) := by
  refine ⟨mc - 1, ms - 4, by omega, by omega, fun q hq => ?_⟩
  refine ⟨1, 16, mc - 2, ms - 20, by omega, by omega, ?_⟩
  unfold w_J4_init_da8c8
  refine ⟨1, 16, 0, 0, rfl, rfl, ?_⟩
  unfold w_J5_init_d00df
  refine ⟨by decide, ?_⟩
  have q1 : hup h q (.inr (12, [.null, .int 0, .int 0, .int 0])) q = some (true, .inr (12, [.null, .int 0, .int 0, .int 0])) := hup_s
  have x1 : Ext h (hup h q (.inr (12, [.null, .int 0, .int 0, .int 0]))) := Ext.new hq
  generalize hup h q (.inr (12, [.null, .int 0, .int 0, .int 0])) = h1 at q1 x1
  refine a_nwI (n := 16) (by omega) (by omega) (by omega) fun v h2 hv v2 x2 => ?_
  have hqv : ¬ q = v := fun z => by rw [z, hv] at q1; cases q1
  refine p_rawC (x2.at q1) (by decide) fun h3 w1 w2 w3 => ?_
  refine ⟨_, w1, by show 1 < 4; decide, ⟨by decide, by decide⟩, ?_⟩
  have v3 := w2.at v2 (fun z => hqv z.symm)
  have key : Ext h (hup h3 q (.inr (12, (([.null, .int 0, .int 0, .int 0] : List Value).set 0 (.ref v)).set 1 (.int 0)))) := fun b hb => by
    have hbq : ¬ b = q := fun z => hb (z ▸ hq)
    have g1 := (x1.tr x2) b hb
    exact (hup_n hbq).trans ((w2 b (by rw [g1]; exact hb) hbq).trans g1)
  refine hp q _ (fun b => b = q ∨ b = v) ⟨v, 16, fun _ => 0, 0, hup_s, (hup_n (fun z => hqv z.symm)).trans v3, by decide, by decide, fun i hi => absurd hi (Nat.not_lt_zero _), sb_fit0, (fun x hx => by cases hx), Or.inl rfl, Or.inr rfl, ?_, ?_, ?_⟩ ?_ key
  · rintro b (rfl | rfl)
    · exact x0.none hq
    · exact x0.none (x1.none hv)
  · rintro b (rfl | rfl)
    · rw [hup_s]; simp
    · rw [(hup_n (fun z => hqv z.symm)).trans v3]; simp
  · exact x0.tr key
  · rintro b (rfl | rfl)
    · exact hq
    · exact x1.none hv
end NX
