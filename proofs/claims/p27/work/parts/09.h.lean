/-! random numbers, and the deal of a table -/
def rnd (s : Int32) : Int32 := (s.toUInt32 >>> ((16 : Int32).toUInt32 &&& Int32.toUInt32 31)).toInt32
def mixN (s : Int32) : Nat := s.toUInt32.toNat / 65536
def nxt (s : Int32) : Int32 := 1103515245 * s + 12345
theorem u32_nI (u : UInt32) : u.toInt32 = nI u.toNat := by
  apply Int32.toBitVec_inj.mp
  show u.toBitVec = BitVec.ofNat 32 u.toNat
  simp
theorem mixN_lt (s : Int32) : mixN s < 65536 := by
  have := s.toUInt32.toNat_lt
  unfold mixN
  omega
theorem rnd_nI (s : Int32) : rnd s = nI (mixN s) := by
  unfold rnd
  rw [u32_nI, show (16 : Int32).toUInt32 &&& Int32.toUInt32 31 = 16 from by decide, UInt32.toNat_shiftRight]
  unfold mixN
  rw [show UInt32.toNat 16 % 32 = 16 from by decide, Nat.shiftRight_eq_div_pow]
theorem nI_mod {a b : Nat} (ha : a < 2 ^ 31) (hb : b < 2 ^ 31) : nI a - nI a / nI b * nI b = nI (a % b) := by
  rw [nI_div ha hb, nI_mul, nI_dm ha hb]
section BE
variable {c : Nat → ClassId} {K : (Nat → Nat) × (Nat → Nat)} {h : HW} {Own : Nat → Prop} {A : Nat → Nat} {T : TT} {fv : Nat → Int64} {mx np hs hb tn pa : Nat}
theorem s_below {a n : Nat} {s : Int32} {post : Int32 → HW → Prop} (ha : h a = some (true, .inr (9, [.int s]))) (hn : 0 < n) (hn2 : n < 2 ^ 31) (hp : ∀ h', h' a = some (true, .inr (9, [.int (nxt s)])) → FrB h h' a → HDom h h' → post (nI (mixN (nxt s) % n)) h') : w_X9_below c K h a (nI n) post := by
  unfold w_X9_below
  refine ⟨true, _, s, ha, rfl, ?_⟩
  intro x7 e7 x11 e11
  have e11 : x11 = nxt s := by rw [e11, e7]; rfl
  subst e11
  refine ⟨_, ha, (by show 0 < 1; decide), ?_⟩
  refine ⟨true, _, nxt s, hup_s, rfl, ?_⟩
  intro x21 e21
  have e21 : x21 = nI (mixN (nxt s)) := e21.trans (rnd_nI _)
  subst e21
  refine ⟨fun z => by have := (nI_eq hn2 (show 0 < 2 ^ 31 by omega)).mp z; omega, ?_⟩
  intro x23 e23
  have := mixN_lt (nxt s)
  rw [nI_mod (by omega) hn2] at e23
  rw [e23]
  exact hp _ hup_s FrB.up HDom.up
end BE
def inH (H : List (List Nat)) (x : Nat) : Prop := ∃ l ∈ H, x ∈ l
noncomputable def dkR (H : List (List Nat)) (hb a n : Nat) (l : List Nat) : List Nat :=
  haveI := fun x => Classical.propDecidable (inH H x)
  (List.range n).foldl (fun l j => if (a = hb ∧ a + j = hb) ∨ inH H (10 * a + (a + j)) then l else l ++ [10 * a + (a + j)]) l
noncomputable def dkT (H : List (List Nat)) (hb mx n : Nat) : List Nat := (List.range n).foldl (fun l a => dkR H hb a (mx + 1 - a) l) []
def swp (l : List Nat) (i j : Nat) : List Nat := (l.set i (l.getD j 0)).set j (l.getD i 0)
def plc (s : Int32) (k : Nat) : Nat := mixN s % 32768 % (k + 1)
/-- from place k down to place 1 -/
def shf : Nat → List Nat → Int32 → List Nat × Int32
  | 0, l, s => (l, s)
  | k + 1, l, s => shf k (swp l (k + 1) (plc (nxt s) (k + 1))) (nxt s)
def flP (hs : Nat) (row : List Nat) (Hf : List (List Nat) × Nat) (p : Nat) : List (List Nat) × Nat :=
  (Hf.1.set p (Hf.1.getD p [] ++ (row.drop Hf.2).take (hs - (Hf.1.getD p []).length)), Hf.2 + min (hs - (Hf.1.getD p []).length) (row.length - Hf.2))
def flT (hs : Nat) (row : List Nat) (H : List (List Nat)) (n : Nat) : List (List Nat) × Nat := (List.range n).foldl (flP hs row) (H, 0)
theorem dkR_s (H : List (List Nat)) (hb a n : Nat) (l : List Nat) : dkR H hb a (n + 1) l = (haveI := fun x => Classical.propDecidable (inH H x); if (a = hb ∧ a + n = hb) ∨ inH H (10 * a + (a + n)) then dkR H hb a n l else dkR H hb a n l ++ [10 * a + (a + n)]) := by
  unfold dkR
  rw [List.range_succ, List.foldl_append]
  rfl
theorem dkT_s (H : List (List Nat)) (hb mx n : Nat) : dkT H hb mx (n + 1) = dkR H hb n (mx + 1 - n) (dkT H hb mx n) := by
  unfold dkT
  rw [List.range_succ, List.foldl_append]
  rfl
theorem dkR_pos {H : List (List Nat)} {hb a n : Nat} {l : List Nat} (h : (a = hb ∧ a + n = hb) ∨ inH H (10 * a + (a + n))) : dkR H hb a (n + 1) l = dkR H hb a n l := by rw [dkR_s]; exact if_pos h
theorem dkR_neg {H : List (List Nat)} {hb a n : Nat} {l : List Nat} (h : ¬ ((a = hb ∧ a + n = hb) ∨ inH H (10 * a + (a + n)))) : dkR H hb a (n + 1) l = dkR H hb a n l ++ [10 * a + (a + n)] := by rw [dkR_s]; exact if_neg h
theorem dkR_len (H : List (List Nat)) (hb a : Nat) (l : List Nat) : ∀ n, (dkR H hb a n l).length ≤ l.length + n := by
  intro n
  induction n with
  | zero => exact Nat.le_refl _
  | succ n ih =>
    rcases Classical.em ((a = hb ∧ a + n = hb) ∨ inH H (10 * a + (a + n))) with q | q
    · rw [dkR_pos q]; omega
    · rw [dkR_neg q, List.length_append]; show _ + 1 ≤ _; omega
theorem dkR_lt (H : List (List Nat)) (hb a : Nat) (l : List Nat) (hl : ∀ x ∈ l, x < 100) : ∀ n, a + n ≤ 10 → ∀ x ∈ dkR H hb a n l, x < 100 := by
  intro n
  induction n with
  | zero => intro _; exact hl
  | succ n ih =>
    intro hn
    rcases Classical.em ((a = hb ∧ a + n = hb) ∨ inH H (10 * a + (a + n))) with q | q
    · rw [dkR_pos q]; exact ih (by omega)
    · rw [dkR_neg q]
      intro x hx
      rcases List.mem_append.mp hx with hx | hx
      · exact ih (by omega) x hx
      · rw [List.mem_singleton.mp hx]; omega
theorem dkT_ok (H : List (List Nat)) (hb mx : Nat) (hm : mx ≤ 9) : ∀ n, n ≤ mx + 1 → (∀ x ∈ dkT H hb mx n, x < 100) ∧ (dkT H hb mx n).length ≤ (mx + 1) * n := by
  intro n
  induction n with
  | zero => intro _; exact ⟨(fun x hx => by cases hx), Nat.zero_le _⟩
  | succ n ih =>
    intro hn
    obtain ⟨h1, h2⟩ := ih (by omega)
    rw [dkT_s]
    have h3 := dkR_len H hb n (dkT H hb mx n) (mx + 1 - n)
    exact ⟨dkR_lt H hb n _ h1 _ (by omega), by rw [Nat.mul_succ]; omega⟩
section DK
variable {c : Nat → ClassId} {K : (Nat → Nat) × (Nat → Nat)} {h : HW} {Own : Nat → Prop} {A : Nat → Nat} {T : TT} {fv : Nat → Int64} {mx np hs hb tn pa : Nat}
theorem inH_take {H : List (List Nat)} {x i : Nat} (hi : i < H.length) : inH (H.take (i + 1)) x ↔ (inH (H.take i) x ∨ x ∈ H.getD i []) := by
  have e : H.take (i + 1) = H.take i ++ [H.getD i []] := by
    rw [List.getD_eq_getElem?_getD, List.getElem?_eq_getElem hi, List.take_succ_eq_append_getElem hi]
    rfl
  rw [e]
  unfold inH
  constructor
  · rintro ⟨l, h1, h2⟩
    rcases List.mem_append.mp h1 with h1 | h1
    · exact Or.inl ⟨l, h1, h2⟩
    · rw [List.mem_singleton.mp h1] at h2
      exact Or.inr h2
  · rintro (⟨l, h1, h2⟩ | h2)
    · exact ⟨l, List.mem_append.mpr (Or.inl h1), h2⟩
    · exact ⟨_, List.mem_append.mpr (Or.inr (List.mem_singleton.mpr rfl)), h2⟩
/-- the deck, tile by tile: rows of what is neither in a hand nor in the middle -/
theorem s_deck {q mc ms : Nat} {post : HW → Prop} (t : TabV c h Own A T fv) (hO : OwnOK h Own) (h0 : T.1 0 = nI mx) (hm : mx ≤ 6) (h2 : T.1 2 = nI hb) (hb9 : hb ≤ 9) (hn : (tH T).length = np) (hn4 : np ≤ 4) (hH : ∀ p, (∀ x ∈ hnd T p, x < 100) ∧ (hnd T p).length ≤ 55) (hc : 49 ≤ mc) (hs9 : 2450 ≤ ms) {h1 : HW} (e1 : Ext h h1) (hq : h q = none) (hw : RowW c h1 q [])
    (hp : ∀ (h' : HW) (v1 m9 s9 : Nat), Ext h h' → h v1 = none → RowW c h' v1 (dkT (tH T) hb mx (mx + 1)) → mc ≤ m9 + 49 → ms ≤ s9 + 2450 → ∃ n, itP4 (w_X10_deals_B130 c K (A 0) post v1) n h' m9 s9 (nI (dkT (tH T) hb mx (mx + 1)).length - 1)) : ∃ n, itP5 (w_X10_deals_B6 c K (A 0) post) n h1 mc ms q (0 : Int32) := by
  refine cpL5 (fun a (h9 : HW) (m9 s9 : Nat) (v1 : Nat) (v2 : Int32) => Ext h h9 ∧ h v1 = none ∧ RowW c h9 v1 (dkT (tH T) hb mx a) ∧ mc ≤ m9 + 7 * a ∧ ms ≤ s9 + 350 * a ∧ v2 = nI a) (mx + 1) ?_ ?_ 0 (by omega) _ _ _ _ _ ⟨e1, hq, hw, by omega, by omega, rfl⟩
  · rintro rec h9 m9 s9 v1 v2 ⟨e9, hv, hw9, hm9, hs10, rfl⟩
    have t9 := t.ext e9
    have hk := (dkT_ok (tH T) hb mx (by omega) (mx + 1) (Nat.le_refl _)).2
    have hk2 : (mx + 1) * (mx + 1) ≤ 7 * 7 := Nat.mul_le_mul (by omega) (by omega)
    unfold w_X10_deals_B6
    refine t_gI t9 (by omega) ?_
    rw [h0]
    refine br_lt (by omega) (by omega) (fun _ => ?_) (fun z => by omega)
    refine r_len (hw9.at (hO.new hv)) ?_
    intro x128 e128
    rw [e128]
    have b1 : mc ≤ m9 + 49 := by omega
    have b2 : ms ≤ s9 + 2450 := Nat.le_trans hs10 (Nat.add_le_add_left (Nat.mul_le_mul_left 350 (show mx + 1 ≤ 7 by omega)) _)
    exact hp h9 v1 m9 s9 e9 hv hw9 b1 b2
  · rintro rec a h9 m9 s9 v1 v2 ha ⟨e9, hv, hw9, hm9, hs10, rfl⟩ hrec
    have t9 := t.ext e9
    obtain ⟨hk1, hk⟩ := dkT_ok (tH T) hb mx (by omega) a (by omega)
    have hk2 : (mx + 1) * a ≤ 7 * 6 := Nat.mul_le_mul (by omega) (by omega)
    rw [dkT_s] at hrec
    generalize dkT (tH T) hb mx a = l0 at hw9 hrec hk1 hk
    unfold w_X10_deals_B6
    refine t_gI t9 (by omega) ?_
    rw [h0]
    refine br_lt (by omega) (by omega) (fun z => by omega) (fun _ => ?_)
    refine cpL5 (fun j (h8 : HW) (m8 s8 : Nat) (v1 : Nat) (v3 : Int32) => Ext h h8 ∧ h v1 = none ∧ RowW c h8 v1 (dkR (tH T) hb a j l0) ∧ m9 ≤ m8 + j ∧ s9 ≤ s8 + 50 * j ∧ v3 = nI (a + j)) (mx + 1 - a) ?_ ?_ 0 (by omega) _ _ _ _ _ ⟨e9, hv, hw9, by omega, by omega, rfl⟩
    · rintro rec2 h8 m8 s8 v1 v3 ⟨e8, hv8, hw8, hm8, hs8, rfl⟩
      have t8 := t.ext e8
      unfold w_X10_deals_B16
      refine t_gI t8 (by omega) ?_
      rw [h0]
      refine br_lt (by omega) (by omega) (fun _ => ?_) (fun z => by omega)
      intro x119 e119
      exact hrec _ _ _ _ _ ⟨e8, hv8, hw8, by omega, by omega, by rw [e119, nI_1]⟩
    · rintro rec2 j h8 m8 s8 v1 v3 hj ⟨e8, hv8, hw8, hm8, hs8, rfl⟩ hrec2
      have t8 := t.ext e8
      have hlen := dkR_len (tH T) hb a l0 j
      unfold w_X10_deals_B16
      refine t_gI t8 (by omega) ?_
      rw [h0]
      refine br_lt (by omega) (by omega) (fun z => by omega) (fun _ => ?_)
      have hJ45 : ∀ v : Int32, (haveI := Classical.propDecidable (a = hb ∧ a + j = hb); v = (if a = hb ∧ a + j = hb then 1 else 0)) → w_X10_deals_J45 c K (A 0) (nI a) rec2 h8 v1 (nI (a + j)) m8 s8 v := by
        intro v ev
        unfold w_X10_deals_J45
        refine t_g10 t8 (t_lenH t8 ?_)
        rw [hn]
        haveI : ∀ i, Decidable ((a = hb ∧ a + j = hb) ∨ inH ((tH T).take i) (10 * a + (a + j))) := fun i => Classical.propDecidable _
        refine cpL5 (fun i (h7 : HW) (m7 s7 : Nat) (v4 v7 : Int32) => h7 = h8 ∧ m7 = m8 ∧ s7 = s8 ∧ v4 = (if (a = hb ∧ a + j = hb) ∨ inH ((tH T).take i) (10 * a + (a + j)) then 1 else 0) ∧ v7 = nI i) np ?_ ?_ 0 (by omega) _ _ _ _ _ ⟨rfl, rfl, rfl, ?_, rfl⟩
        · rintro rec3 h7 m7 s7 v4 v7 ⟨rfl, rfl, rfl, e4, rfl⟩
          have htk : (tH T).take np = tH T := List.take_of_length_le (by omega)
          unfold w_X10_deals_B61
          refine br_le (by omega) (by omega) (fun _ => ?_) (fun z => by omega)
          by_cases hz : (a = hb ∧ a + j = hb) ∨ inH ((tH T).take np) (10 * a + (a + j))
          · rw [if_pos hz] at e4
            rw [htk] at hz
            subst e4
            refine ⟨fun z => absurd z (by decide), fun _ => ?_⟩
            unfold w_X10_deals_J113
            intro x113 e113
            refine hrec2 _ _ _ _ _ ⟨e8, hv8, ?_, by omega, by omega, by rw [e113, nI_1]; rfl⟩
            rw [dkR_pos hz]
            exact hw8
          · rw [if_neg hz] at e4
            rw [htk] at hz
            subst e4
            refine ⟨fun _ => ?_, fun z => absurd rfl z⟩
            intro x106 e106 x108 e108
            rw [e106, show (10 : Int32) = nI 10 from rfl, nI_mul, nI_add] at e108
            subst e108
            refine ⟨1, 50, m7 - 1, s7 - 50, by omega, by omega, ?_⟩
            refine s_with (hw8.at (hO.new hv8)) (by omega) (Nat.le_refl _) (by omega) fun q2 h6 e6 hq6 hw6 => ?_
            refine ⟨q2, rfl, ?_⟩
            unfold w_X10_deals_J113
            intro x113 e113
            refine hrec2 _ _ _ _ _ ⟨e8.tr e6, e8.none hq6, ?_, by omega, by omega, by rw [e113, nI_1]; rfl⟩
            rw [dkR_neg hz]
            exact hw6
        · rintro rec3 i h7 m7 s7 v4 v7 hi ⟨rfl, rfl, rfl, e4, rfl⟩ hrec3
          unfold w_X10_deals_B61
          refine br_le (by omega) (by omega) (fun z => by omega) (fun _ => ?_)
          refine t_lRH t8 (by omega) fun r hr => ?_
          intro x82 e82 x84 e84
          rw [e82, show (10 : Int32) = nI 10 from rfl, nI_mul, nI_add] at e84
          subst e84
          refine s_has hr (by have := (hH i).2; omega) (fun y hy => by have := (hH i).1 y hy; omega) (by omega) ?_
          intro x88 e88 x91 e91
          refine hrec3 _ _ _ _ _ ⟨rfl, rfl, rfl, ?_, by rw [e91, nI_1]⟩
          have hit := inH_take (H := tH T) (x := 10 * a + (a + j)) (i := i) (by omega)
          rw [e88, e4]
          by_cases hm1 : 10 * a + (a + j) ∈ hnd T i
          · rw [if_pos hm1, if_pos (Or.inr (hit.mpr (Or.inr hm1)))]
            split <;> rfl
          · rw [if_neg hm1]
            by_cases hz : (a = hb ∧ a + j = hb) ∨ inH ((tH T).take i) (10 * a + (a + j))
            · rw [if_pos hz, if_pos (hz.elim Or.inl (fun z => Or.inr (hit.mpr (Or.inl z))))]
              rfl
            · rw [if_neg hz, if_neg (fun z => z.elim (fun z => hz (Or.inl z)) (fun z => (hit.mp z).elim (fun z => hz (Or.inr z)) hm1))]
              rfl
        · rw [ev]
          by_cases hz : a = hb ∧ a + j = hb
          · rw [if_pos hz, if_pos (Or.inl hz)]
          · rw [if_neg hz, if_neg (fun z => z.elim hz (fun ⟨l, y, _⟩ => by simp at y))]
      refine t_gI t8 (by omega) ?_
      rw [h2]
      refine br_eq (by omega) (by omega) (fun za => ?_) (fun za => ?_)
      · refine t_gI t8 (by omega) ?_
        rw [h2]
        refine br_eq (by omega) (by omega) (fun zb => hJ45 _ (if_pos ⟨za, zb⟩).symm) (fun zb => ?_)
        unfold w_X10_deals_J44
        exact hJ45 _ (if_neg (fun z => zb z.2)).symm
      · unfold w_X10_deals_J44
        exact hJ45 _ (if_neg (fun z => za z.1)).symm
end DK
