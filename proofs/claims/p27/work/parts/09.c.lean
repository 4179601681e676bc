/-! what the table's questions answer -/
def endT (b : Nat) (l : List Nat) : Nat := l.foldl (fun e t => if t / 10 = e then t % 10 else t / 10) b
theorem endT_snoc (b : Nat) (l : List Nat) (x : Nat) : endT b (l ++ [x]) = if x / 10 = endT b l then x % 10 else x / 10 := by
  unfold endT
  rw [List.foldl_append]
  rfl
theorem endT_lt {b : Nat} (hb : b < 10) : ∀ l : List Nat, (∀ x ∈ l, x < 100) → endT b l < 10 := by
  intro l
  have key : ∀ (l : List Nat) (b : Nat), b < 10 → (∀ x ∈ l, x < 100) → endT b l < 10 := by
    intro l
    induction l with
    | nil => intro b hb _; exact hb
    | cons x l ih =>
      intro b hb hx
      show endT (if x / 10 = b then x % 10 else x / 10) l < 10
      refine ih _ ?_ (fun y hy => hx y (List.mem_cons_of_mem _ hy))
      have := hx x List.mem_cons_self
      split <;> omega
  exact key l b hb
/-- what of a table's value is always so -/
def TW (T : TT) (mx np hs hb tn pa : Nat) : Prop :=
  (T.1 0 = nI mx ∧ 3 ≤ mx ∧ mx ≤ 9) ∧ (T.1 1 = nI hs ∧ 1 ≤ hs ∧ hs ≤ 12) ∧ (T.1 2 = nI hb ∧ hb ≤ mx) ∧ (T.1 4 = nI tn ∧ tn < np) ∧ (T.1 5 = 0 ∨ T.1 5 = 1) ∧ (T.1 6 = -1 ∨ ∃ u, u ≤ np ∧ T.1 6 = nI u) ∧ (T.1 7 = 0 ∨ T.1 7 = 1) ∧ (T.1 9 = nI pa ∧ pa ≤ np) ∧
  ((tH T).length = np ∧ (tT T).length = np ∧ (tR T).length = np + 1 ∧ (tO T).length = np + 1 ∧ 2 ≤ np ∧ np ≤ 4) ∧
  (∀ p, (∀ x ∈ hnd T p, x < 100) ∧ (hnd T p).length ≤ 55) ∧ (∀ p, (∀ x ∈ trn T p, x < 100) ∧ (trn T p).length ≤ 55) ∧ ((∀ x ∈ tK T, x < 100) ∧ (tK T).length ≤ 55) ∧ (∀ p, p ≤ np → (tO T).getD p 0 = 0 ∨ (tO T).getD p 0 = 1)
theorem TW.mx {T : TT} {mx np hs hb tn pa : Nat} (w : TW T mx np hs hb tn pa) : T.1 0 = nI mx ∧ 3 ≤ mx ∧ mx ≤ 9 := w.1
theorem TW.hs {T : TT} {mx np hs hb tn pa : Nat} (w : TW T mx np hs hb tn pa) : T.1 1 = nI hs ∧ 1 ≤ hs ∧ hs ≤ 12 := w.2.1
theorem TW.hb {T : TT} {mx np hs hb tn pa : Nat} (w : TW T mx np hs hb tn pa) : T.1 2 = nI hb ∧ hb ≤ mx := w.2.2.1
theorem TW.tn {T : TT} {mx np hs hb tn pa : Nat} (w : TW T mx np hs hb tn pa) : T.1 4 = nI tn ∧ tn < np := w.2.2.2.1
theorem TW.dr {T : TT} {mx np hs hb tn pa : Nat} (w : TW T mx np hs hb tn pa) : T.1 5 = 0 ∨ T.1 5 = 1 := w.2.2.2.2.1
theorem TW.un {T : TT} {mx np hs hb tn pa : Nat} (w : TW T mx np hs hb tn pa) : T.1 6 = -1 ∨ ∃ u, u ≤ np ∧ T.1 6 = nI u := w.2.2.2.2.2.1
theorem TW.ov {T : TT} {mx np hs hb tn pa : Nat} (w : TW T mx np hs hb tn pa) : T.1 7 = 0 ∨ T.1 7 = 1 := w.2.2.2.2.2.2.1
theorem TW.pa {T : TT} {mx np hs hb tn pa : Nat} (w : TW T mx np hs hb tn pa) : T.1 9 = nI pa ∧ pa ≤ np := w.2.2.2.2.2.2.2.1
theorem TW.np {T : TT} {mx np hs hb tn pa : Nat} (w : TW T mx np hs hb tn pa) : (tH T).length = np ∧ (tT T).length = np ∧ (tR T).length = np + 1 ∧ (tO T).length = np + 1 ∧ 2 ≤ np ∧ np ≤ 4 := w.2.2.2.2.2.2.2.2.1
theorem TW.H {T : TT} {mx np hs hb tn pa : Nat} (w : TW T mx np hs hb tn pa) : ∀ p, (∀ x ∈ hnd T p, x < 100) ∧ (hnd T p).length ≤ 55 := w.2.2.2.2.2.2.2.2.2.1
theorem TW.R {T : TT} {mx np hs hb tn pa : Nat} (w : TW T mx np hs hb tn pa) : ∀ p, (∀ x ∈ trn T p, x < 100) ∧ (trn T p).length ≤ 55 := w.2.2.2.2.2.2.2.2.2.2.1
theorem TW.K {T : TT} {mx np hs hb tn pa : Nat} (w : TW T mx np hs hb tn pa) : (∀ x ∈ tK T, x < 100) ∧ (tK T).length ≤ 55 := w.2.2.2.2.2.2.2.2.2.2.2.1
theorem TW.O {T : TT} {mx np hs hb tn pa : Nat} (w : TW T mx np hs hb tn pa) : ∀ p, p ≤ np → (tO T).getD p 0 = 0 ∨ (tO T).getD p 0 = 1 := w.2.2.2.2.2.2.2.2.2.2.2.2
def whyT (T : TT) (hb tn c t : Nat) : Int32 :=
  if T.1 7 = 0 then (if c ∈ hnd T tn then (if 0 ≤ T.1 6 ∧ ¬ T.1 6 = nI t then 3 else if T.1 6 < 0 ∧ (tO T).getD t 0 = 0 ∧ ¬ t = tn then 4 else if c / 10 = endT hb (trn T t) ∨ c % 10 = endT hb (trn T t) then 0 else 5) else 2) else 1
section TQ
variable {c : Nat → ClassId} {K : (Nat → Nat) × (Nat → Nat)} {h : HW} {Own : Nat → Prop} {A : Nat → Nat} {T : TT} {fv : Nat → Int64} {mx np hs hb tn pa : Nat}
theorem s_end0 {k b : Nat} {post : Int32 → HW → Prop} (t : TabV c h Own A T fv) (hb : T.1 2 = nI b) (hb10 : b < 10) (hkl : k < (tR T).length) (hx : ∀ x ∈ trn T k, x < 100) (hl : (trn T k).length ≤ 60000) (hp : post (nI (endT b (trn T k))) h) : w_X10_end c K h (A 0) (nI k) post := by
  unfold w_X10_end
  refine t_gI t (by omega) ?_
  rw [hb]
  refine t_g12 t ?_
  refine t_lRR t hkl fun r hr => ?_
  refine r_len hr ?_
  refine cpL2 (fun i (v2 v5 : Int32) => v2 = nI (endT b ((trn T k).take i)) ∧ v5 = nI i) (trn T k).length ?_ ?_ 0 (Nat.zero_le _) _ _ ⟨rfl, rfl⟩
  · rintro rec v2 v5 ⟨e2, rfl⟩
    unfold w_X10_end_B19
    refine br_le (by omega) (by omega) (fun _ => ?_) (fun hn => by omega)
    rw [List.take_length] at e2
    subst e2
    exact hp
  · rintro rec i v2 v5 hi ⟨e2, rfl⟩ hrec
    unfold w_X10_end_B19
    refine br_le (by omega) (by omega) (fun hn => by omega) (fun _ => ?_)
    refine r_lI hr hi (by omega) ?_
    have hxi : (trn T k).getD i 0 < 100 := hx _ (getD_mem hi)
    have hlt : endT b ((trn T k).take i) < 10 := endT_lt hb10 _ (fun x hx' => hx x (List.mem_of_mem_take hx'))
    intro x36 e36
    rw [show (10 : Int32) = nI 10 from rfl, nI_div (by omega) (by omega)] at e36
    subst e36
    subst e2
    refine br_eq (by omega) (by omega) (fun he => ?_) (fun he => ?_)
    · intro x45 e45
      rw [show (10 : Int32) = nI 10 from rfl, nI_div (by omega) (by omega), nI_mul, nI_dm (by omega) (by omega)] at e45
      unfold w_X10_end_J54
      intro x55 e55
      refine hrec _ _ ⟨?_, by rw [e55, nI_1]⟩
      rw [e45, take_succ_getD hi, endT_snoc, if_pos he]
    · intro x53 e53
      rw [show (10 : Int32) = nI 10 from rfl, nI_div (by omega) (by omega)] at e53
      unfold w_X10_end_J54
      intro x55 e55
      refine hrec _ _ ⟨?_, by rw [e55, nI_1]⟩
      rw [e53, take_succ_getD hi, endT_snoc, if_neg he]
theorem s_end {k : Nat} {post : Int32 → HW → Prop} (t : TabV c h Own A T fv) (w : TW T mx np hs hb tn pa) (hk : k ≤ np) (hp : post (nI (endT hb (trn T k))) h) : w_X10_end c K h (A 0) (nI k) post :=
  s_end0 t w.hb.1 (by have := w.hb.2; have := w.mx.2.2; omega) (by rw [w.np.2.2.1]; omega) (w.R k).1 (by have := (w.R k).2; omega) hp
theorem lt_m1' : (-1 : Int32) < 0 := by decide
theorem nlt_nI {u : Nat} (h : u < 2 ^ 31) : ¬ nI u < 0 := nI_pos h
theorem nle_m1 : ¬ (0 : Int32) ≤ -1 := by decide
theorem s_why {x k : Nat} {post : Int32 → HW → Prop} (t : TabV c h Own A T fv) (w : TW T mx np hs hb tn pa) (hx : x < 100) (hk : k ≤ np) (hp : post (whyT T hb tn x k) h) : w_X10_why c K h (A 0) (nI x) (nI k) post := by
  have hrc := t_rc t
  have hnp := w.np
  have hE : endT hb (trn T k) < 10 := endT_lt (by have := w.hb.2; have := w.mx.2.2; omega) _ (w.R k).1
  unfold w_X10_why
  refine t_gI t (by omega) ⟨fun h7 => ?_, fun h7 => by rw [whyT, if_neg h7] at hp; exact hp⟩
  rw [whyT, if_pos h7] at hp
  refine t_g10 t ?_
  refine t_gI t (by omega) ?_
  rw [w.tn.1]
  refine t_lRH t (by have := w.tn.2; omega) fun r hr => ?_
  have hH := w.H tn
  refine s_has hr (by omega) (fun y hy => by have := hH.1 y hy; omega) (by omega) ?_
  by_cases hm : x ∈ hnd T tn
  · rw [if_pos hm] at hp ⊢
    refine ⟨fun z => absurd z (by decide), fun _ => ?_⟩
    have hJ70 : (post (if x / 10 = endT hb (trn T k) ∨ x % 10 = endT hb (trn T k) then 0 else 5) h) → w_X10_why_J70 c K (A 0) (nI x) (nI k) post h := by
      intro hq
      unfold w_X10_why_J70
      intro x73 e73
      rw [show (10 : Int32) = nI 10 from rfl, nI_div (by omega) (by omega)] at e73
      subst e73
      refine ⟨hrc, s_end t w hk ?_⟩
      refine br_eq (by omega) (by omega) (fun he => ?_) (fun he => ?_)
      · unfold w_X10_why_J94
        rw [if_pos (Or.inl he)] at hq
        exact hq
      · intro x85 e85
        rw [show (10 : Int32) = nI 10 from rfl, nI_div (by omega) (by omega), nI_mul, nI_dm (by omega) (by omega)] at e85
        subst e85
        refine ⟨hrc, s_end t w hk ?_⟩
        refine br_eq (by omega) (by omega) (fun he2 => ?_) (fun he2 => ?_)
        · unfold w_X10_why_J94
          rw [if_pos (Or.inr he2)] at hq
          exact hq
        · rw [if_neg (fun z => z.elim he he2)] at hq
          exact hq
    have hJ44 : (post (if T.1 6 < 0 ∧ (tO T).getD k 0 = 0 ∧ ¬ k = tn then 4 else if x / 10 = endT hb (trn T k) ∨ x % 10 = endT hb (trn T k) then 0 else 5) h) → w_X10_why_J44 c K (A 0) (nI x) (nI k) post h := by
      intro hq
      unfold w_X10_why_J44
      refine t_gI t (by omega) ⟨fun h6 => ?_, fun h6 => ?_⟩
      · have h6' : ¬ T.1 6 < 0 := fun z => by rw [Int32.lt_iff_toInt_lt] at z; rw [Int32.le_iff_toInt_le] at h6; omega
        rw [if_neg (fun z => h6' z.1)] at hq
        exact hJ70 hq
      · have h6' : T.1 6 < 0 := by rw [Int32.lt_iff_toInt_lt]; rw [Int32.le_iff_toInt_le] at h6; omega
        refine t_g13 t ?_
        refine t_lO t (by rw [hnp.2.2.2.1]; omega) ⟨fun ho => ?_, fun ho => ?_⟩
        · refine t_gI t (by omega) ?_
          rw [w.tn.1]
          refine br_eq (by omega) (by have := w.tn.2; omega) (fun he => ?_) (fun he => ?_)
          · rw [if_neg (fun z => z.2.2 he)] at hq
            exact hJ70 hq
          · rw [if_pos ⟨h6', ho, he⟩] at hq
            exact hq
        · rw [if_neg (fun z => ho z.2.1)] at hq
          exact hJ70 hq
    refine t_gI t (by omega) ⟨fun h6 => ?_, fun h6 => ?_⟩
    · have h6' : ¬ 0 ≤ T.1 6 := fun z => by rw [Int32.lt_iff_toInt_lt] at h6; rw [Int32.le_iff_toInt_le] at z; omega
      rw [if_neg (fun z => h6' z.1)] at hp
      exact hJ44 hp
    · have h6' : 0 ≤ T.1 6 := by rw [Int32.lt_iff_toInt_lt] at h6; rw [Int32.le_iff_toInt_le]; omega
      refine t_gI t (by omega) ⟨fun he => ?_, fun he => ?_⟩
      · rw [if_neg (fun z => z.2 he)] at hp
        exact hJ44 hp
      · rw [if_pos ⟨h6', he⟩] at hp
        exact hp
  · rw [if_neg hm] at hp ⊢
    exact ⟨fun _ => hp, fun z => absurd rfl z⟩
/-- how many trains a tile may be played on -/
def plT (T : TT) (np hb tn x : Nat) : Nat := cn (fun t => decide (whyT T hb tn x t = 0)) 0 (np + 1)
def playsL (T : TT) (np hb tn : Nat) (l : List Nat) : Nat := (l.map (fun x => plT T np hb tn x)).sum
theorem playsL_take {l : List Nat} {k : Nat} (hk : k < l.length) : playsL T np hb tn (l.take (k + 1)) = playsL T np hb tn (l.take k) + plT T np hb tn (l.getD k 0) := by
  rw [take_succ_getD hk]
  unfold playsL
  rw [List.map_append, List.sum_append]
  simp
theorem s_plays {post : Int32 → HW → Prop} (t : TabV c h Own A T fv) (w : TW T mx np hs hb tn pa) (hp : post (nI (playsL T np hb tn (hnd T tn))) h) : w_X10_plays c K h (A 0) post := by
  have hrc := t_rc t
  have hnp := w.np
  have hH := w.H tn
  unfold w_X10_plays
  refine t_g10 t ?_
  refine t_gI t (by omega) ?_
  rw [w.tn.1]
  refine t_lRH t (by have := w.tn.2; omega) fun r hr => ?_
  refine r_len hr ?_
  refine cpL3 (fun i (h9 : HW) (v1 v4 : Int32) => h9 = h ∧ v1 = nI (playsL T np hb tn ((hnd T tn).take i)) ∧ v4 = nI i) (hnd T tn).length ?_ ?_ 0 (Nat.zero_le _) _ _ _ ⟨rfl, rfl, rfl⟩
  · rintro rec h9 v1 v4 ⟨rfl, e1, rfl⟩
    unfold w_X10_plays_B18
    refine br_le (by omega) (by omega) (fun _ => ?_) (fun hn => by omega)
    rw [List.take_length] at e1
    subst e1
    exact hp
  · rintro rec i h9 v1 v4 hi ⟨rfl, rfl, rfl⟩ hrec
    unfold w_X10_plays_B18
    refine br_le (by omega) (by omega) (fun hn => by omega) (fun _ => ?_)
    refine r_lI hr hi (by omega) ?_
    have hxi : (hnd T tn).getD i 0 < 100 := hH.1 _ (getD_mem hi)
    refine cpL3 (fun j (h8 : HW) (v1 v6 : Int32) => h8 = h9 ∧ v1 = nI (playsL T np hb tn ((hnd T tn).take i) + cn (fun t => decide (whyT T hb tn ((hnd T tn).getD i 0) t = 0)) 0 j) ∧ v6 = nI j) (np + 1) ?_ ?_ 0 (Nat.zero_le _) _ _ _ ⟨rfl, rfl, rfl⟩
    · rintro rec2 h8 v1 v6 ⟨rfl, e1, rfl⟩
      unfold w_X10_plays_B33
      refine t_g12 t ?_
      refine t_lenR t ?_
      rw [hnp.2.2.1]
      refine br_le (by omega) (by omega) (fun _ => ?_) (fun hn => by omega)
      intro x63 e63
      refine hrec _ _ _ ⟨rfl, ?_, by rw [e63, nI_1]⟩
      rw [e1, playsL_take hi]
      rfl
    · rintro rec2 j h8 v1 v6 hj ⟨rfl, rfl, rfl⟩ hrec2
      unfold w_X10_plays_B33
      refine t_g12 t ?_
      refine t_lenR t ?_
      rw [hnp.2.2.1]
      refine br_le (by omega) (by omega) (fun hn => by omega) (fun _ => ?_)
      refine ⟨hrc, s_why t w hxi (by omega) ?_⟩
      have hcn := cn_snoc (P := fun t => decide (whyT T hb tn ((hnd T tn).getD i 0) t = 0)) j 0
      rw [Nat.zero_add] at hcn
      refine ⟨fun h0 => ?_, fun h0 => ?_⟩
      · intro x54 e54
        unfold w_X10_plays_J57
        intro x57 e57
        refine hrec2 _ _ _ ⟨rfl, ?_, by rw [e57, nI_1]⟩
        rw [e54, nI_1, hcn, if_pos (decide_eq_true h0)]
        rfl
      · unfold w_X10_plays_J57
        intro x57 e57
        refine hrec2 _ _ _ ⟨rfl, ?_, by rw [e57, nI_1]⟩
        rw [hcn, if_neg (fun z => h0 (of_decide_eq_true z))]
        rfl
abbrev plyT (T : TT) (np hb tn : Nat) : Nat := playsL T np hb tn (hnd T tn)
abbrev tDr (T : TT) (np hb tn : Nat) : Prop := T.1 7 = 0 ∧ T.1 5 = 0 ∧ 0 < (tK T).length ∧ plyT T np hb tn = 0
abbrev tPa (T : TT) (np hb tn : Nat) : Prop := T.1 7 = 0 ∧ (T.1 5 = 1 ∨ (tK T).length = 0) ∧ plyT T np hb tn = 0
theorem playsL_le (w : TW T mx np hs hb tn pa) : ∀ l : List Nat, playsL T np hb tn l ≤ 5 * l.length := by
  intro l
  induction l with
  | nil => exact Nat.le_refl _
  | cons x l ih =>
    have h1 : plT T np hb tn x ≤ np + 1 := cn_le _ _ _
    have h2 := w.np.2.2.2.2.2
    show plT T np hb tn x + playsL T np hb tn l ≤ 5 * (l.length + 1)
    omega
theorem ply_lt (w : TW T mx np hs hb tn pa) : playsL T np hb tn (hnd T tn) < 1000 := by
  have h1 := playsL_le w (hnd T tn)
  have h2 := (w.H tn).2
  omega
theorem br_eq0 {a : Nat} {P Q : Prop} (ha : a < 2 ^ 31) (h1 : a = 0 → P) (h2 : ¬ a = 0 → Q) : (nI a = 0 → P) ∧ (¬ nI a = 0 → Q) := br_eq (b := 0) ha (by omega) h1 h2
theorem br_le0 {a : Nat} {P Q : Prop} (ha : a < 2 ^ 31) (h1 : a = 0 → P) (h2 : 0 < a → Q) : (nI a ≤ 0 → P) ∧ (¬ nI a ≤ 0 → Q) := br_le (b := 0) ha (by omega) (fun z => h1 (by omega)) h2
theorem s_mayDraw {post : Int32 → HW → Prop} (t : TabV c h Own A T fv) (w : TW T mx np hs hb tn pa) (hp : post (if tDr T np hb tn then 1 else 0) h) : w_X10_mayDraw c K h (A 0) post := by
  have hrc := t_rc t
  have hpl := ply_lt w
  unfold w_X10_mayDraw
  refine t_gI t (by omega) ⟨fun h7 => ?_, fun h7 => ⟨Or.inl rfl, by rw [if_neg (fun z => h7 z.1)] at hp; exact hp⟩⟩
  refine t_gI t (by omega) ⟨fun h5 => ?_, fun h5 => ⟨Or.inl rfl, by rw [if_neg (fun z => h5 z.2.1)] at hp; exact hp⟩⟩
  refine t_g14 t fun st hst => ?_
  refine r_len hst ?_
  have hKl := w.K.2
  refine br_le0 (by omega) (fun hz => ⟨Or.inl rfl, by rw [if_neg (fun z => by have := z.2.2.1; omega)] at hp; exact hp⟩) (fun hz => ?_)
  refine ⟨hrc, s_plays t w ?_⟩
  refine br_eq0 (by omega) (fun h0 => ⟨Or.inr rfl, by rw [if_pos ⟨h7, h5, hz, h0⟩] at hp; exact hp⟩) (fun h0 => ⟨Or.inl rfl, by rw [if_neg (fun z => h0 z.2.2.2)] at hp; exact hp⟩)
theorem s_mayPass {post : Int32 → HW → Prop} (t : TabV c h Own A T fv) (w : TW T mx np hs hb tn pa) (hp : post (if tPa T np hb tn then 1 else 0) h) : w_X10_mayPass c K h (A 0) post := by
  have hrc := t_rc t
  have hpl := ply_lt w
  unfold w_X10_mayPass
  refine t_gI t (by omega) ⟨fun h7 => ?_, fun h7 => ⟨Or.inl rfl, by rw [if_neg (fun z => h7 z.1)] at hp; exact hp⟩⟩
  have hJ : (T.1 5 = 1 ∨ (tK T).length = 0) → w_X10_mayPass_J22 c K h (A 0) post := by
    intro hq
    unfold w_X10_mayPass_J22
    refine ⟨hrc, s_plays t w ?_⟩
    refine br_eq0 (by omega) (fun h0 => ⟨Or.inr rfl, by rw [if_pos ⟨h7, hq, h0⟩] at hp; exact hp⟩) (fun h0 => ⟨Or.inl rfl, by rw [if_neg (fun z => h0 z.2.2)] at hp; exact hp⟩)
  refine t_gI t (by omega) ⟨fun h5 => ?_, fun h5 => hJ (Or.inl (w.dr.resolve_left h5))⟩
  refine t_g14 t fun st hst => ?_
  refine r_len hst ?_
  have hKl := w.K.2
  refine br_eq0 (by omega) (fun hz => hJ (Or.inr hz)) (fun hz => ⟨Or.inl rfl, ?_⟩)
  rw [if_neg (fun z => z.2.1.elim (fun q => by rw [h5] at q; exact absurd q (by decide)) hz)] at hp
  exact hp
end TQ
