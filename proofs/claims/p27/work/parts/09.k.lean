/-! random nodes -/
theorem p_rawC {h : HW} {a k ci : Nat} {fs : List Value} {v : Value} {P : HW → Prop} (ha : h a = some (true, .inr (ci, fs))) (hk : k < fs.length) (hp : ∀ h', h' a = some (true, .inr (ci, fs.set k v)) → FrB h h' a → HDom h h' → P h') : pV h a ci k v P := ⟨fs, ha, hk, hp _ hup_s FrB.up HDom.up⟩
def NTd : (d : Nat) → NT d
  | 0 => ((0, 0) : Nat × Nat)
  | d + 1 => ((0, 0), NTd d, NTd d)
def numN (k : Nat) (s : Int32) : Nat × Int32 := if k = 0 then (mixN (nxt (nxt s)) % (if mixN (nxt s) % 8 = 0 then 10000 else 25), nxt (nxt s)) else (mixN (nxt s) % 5, nxt s)
def rndN : (d : Nat) → Int32 → NT d × Int32
  | 0, s => (((mixN (nxt s) % 2, (numN (mixN (nxt s) % 2) (nxt s)).1) : Nat × Nat), (numN (mixN (nxt s) % 2) (nxt s)).2)
  | d + 1, s =>
    if mixN (nxt s) % 6 ≤ 1 then (((mixN (nxt s) % 6, (numN (mixN (nxt s) % 6) (nxt s)).1), NTd d, NTd d), (numN (mixN (nxt s) % 6) (nxt s)).2)
    else (((mixN (nxt s) % 6, (numN (mixN (nxt s) % 6) (nxt s)).1), (rndN d (numN (mixN (nxt s) % 6) (nxt s)).2).1, (rndN d (rndN d (numN (mixN (nxt s) % 6) (nxt s)).2).2).1), (rndN d (rndN d (numN (mixN (nxt s) % 6) (nxt s)).2).2).2)
theorem numN_ok (k : Nat) (s : Int32) (hk : k ≤ 1) : (k = 0 ∧ (numN k s).1 ≤ 9999) ∨ (k = 1 ∧ (numN k s).1 ≤ 4) := by
  unfold numN
  rcases (show k = 0 ∨ k = 1 by omega) with rfl | rfl
  · refine Or.inl ⟨rfl, ?_⟩
    rw [if_pos rfl]
    show mixN _ % _ ≤ 9999
    split
    · have := Nat.mod_lt (mixN (nxt (nxt s))) (show 0 < 10000 by omega); omega
    · have := Nat.mod_lt (mixN (nxt (nxt s))) (show 0 < 25 by omega); omega
  · refine Or.inr ⟨rfl, ?_⟩
    rw [if_neg (by omega)]
    show mixN _ % _ ≤ 4
    have := Nat.mod_lt (mixN (nxt s)) (show 0 < 5 by omega); omega
theorem numN_lt (k : Nat) (s : Int32) : (numN k s).1 < 65536 := by
  unfold numN
  split
  · exact Nat.lt_of_le_of_lt (Nat.mod_le _ _) (mixN_lt _)
  · exact Nat.lt_of_le_of_lt (Nat.mod_le _ _) (mixN_lt _)
section RN
variable {c : Nat → ClassId} {K : (Nat → Nat) × (Nat → Nat)} {a : Nat}
/-- a node under way: its own place is new, the random numbers' too has moved -/
def NdX (h0 h : HW) (a q : Nat) (s : Int32) (fs : List Value) : Prop := h0 q = none ∧ ¬ h0 a = none ∧ h q = some (true, .inr (8, fs)) ∧ h a = some (true, .inr (9, [.int s])) ∧ (∀ b, ¬ h0 b = none → ¬ b = a → h b = h0 b) ∧ HDom h0 h
theorem NdX.ne {h0 h : HW} {q : Nat} {s : Int32} {fs : List Value} (x : NdX h0 h a q s fs) : ¬ q = a := fun z => x.2.1 (z ▸ x.1)
theorem NdX.put {h0 h : HW} {q k : Nat} {s : Int32} {fs : List Value} {v : Value} {P : HW → Prop} (x : NdX h0 h a q s fs) (hk : k < fs.length) (hp : ∀ h', NdX h0 h' a q s (fs.set k v) → FrB h h' q → P h') : pV h q 8 k v P := by
  have hn := x.ne
  obtain ⟨x1, x2, x3, x4, x5, x6⟩ := x
  refine p_rawC x3 hk fun h' y1 y2 y3 => hp h' ⟨x1, x2, y1, y2.at x4 (fun z => hn z.symm), fun b hb hba => ?_, x6.tr y3⟩ y2
  have q := x5 b hb hba
  exact (y2 b (by rw [q]; exact hb) (fun z => hb (z ▸ x1))).trans q
theorem NdX.bel {h0 h : HW} {q n : Nat} {s : Int32} {fs : List Value} {P : Int32 → HW → Prop} (x : NdX h0 h a q s fs) (hn : 0 < n) (hn2 : n < 2 ^ 31) (hp : ∀ h', NdX h0 h' a q (nxt s) fs → P (nI (mixN (nxt s) % n)) h') : (∃ w fs, h a = some (w, .inr (9, fs))) ∧ w_X9_below c K h a (nI n) P := by
  have hne := x.ne
  obtain ⟨x1, x2, x3, x4, x5, x6⟩ := x
  refine ⟨⟨_, _, x4⟩, s_below x4 hn hn2 fun h' y1 y2 y3 => hp h' ⟨x1, x2, y2.at x3 hne, y1, fun b hb hba => ?_, x6.tr y3⟩⟩
  have q := x5 b hb hba
  exact (y2 b (by rw [q]; exact hb) hba).trans q
theorem NdX.gi {h0 h : HW} {q k : Nat} {s v : Int32} {fs : List Value} {P : Int32 → Prop} (x : NdX h0 h a q s fs) (hk : fs[k]? = some (.int v)) (hp : P v) : gI h q 8 k P := ⟨true, fs, v, x.2.2.1, hk, hp⟩
/-- after a call that moved the random numbers and made things -/
theorem NdX.call {h0 h h' : HW} {q : Nat} {s s' : Int32} {fs : List Value} (x : NdX h0 h a q s fs) (y1 : h' a = some (true, .inr (9, [.int s']))) (y2 : FrB h h' a) (y3 : HDom h h') : NdX h0 h' a q s' fs := by
  have hne := x.ne
  obtain ⟨x1, x2, x3, x4, x5, x6⟩ := x
  refine ⟨x1, x2, y2.at x3 hne, y1, fun b hb hba => ?_, x6.tr y3⟩
  have q := x5 b hb hba
  exact (y2 b (by rw [q]; exact hb) hba).trans q
theorem NdX.frb {h0 h : HW} {q : Nat} {s : Int32} {fs : List Value} (x : NdX h0 h a q s fs) : FrB h0 h a := x.2.2.2.2.1
/-- kind and number -/
theorem s_kn {wrec : HW → Nat → Int32 → Nat → Nat → (Option Nat → HW → Prop) → Prop} {d : Int32} {h0 h : HW} {q k mc ms : Nat} {s : Int32} {post : Option Nat → HW → Prop} (x : NdX h0 h a q s [.int 0, .int 0, .null, .null]) (hk : k ≤ 5)
    (hp : ∀ h', NdX h0 h' a q (numN k s).2 [.int (nI k), .int (nI (numN k s).1), .null, .null] →
      (gI h' q 8 0 (fun (g71 : Int32) => (g71 ≤ (1 : Int32) → post (some q) h') ∧ (¬ g71 ≤ (1 : Int32) → ∀ x82 : Int32, x82 = d - (1 : Int32) → ((∃ m83 z83 mB83 zB83 : Nat, mc = m83 + mB83 ∧ ms = z83 + zB83 ∧ wrec h' a x82 m83 z83 (fun (r83 : Option Nat) (h83 : HW) => dRf r83 (fun (a83 : Nat) => pV h83 q 8 2 (.ref a83) (fun (h86 : HW) => ∀ x93 : Int32, x93 = d - (1 : Int32) → ((∃ m94 z94 mB94 zB94 : Nat, mB83 = m94 + mB94 ∧ zB83 = z94 + zB94 ∧ wrec h86 a x93 m94 z94 (fun (r94 : Option Nat) (h94 : HW) => dRf r94 (fun (a94 : Nat) => pV h94 q 8 3 (.ref a94) (fun (h97 : HW) => post (some q) h97)))))))))))))) : w_X8_random_J27 c K a d post wrec q h mc ms (nI k) q := by
  unfold w_X8_random_J27
  refine x.put (by decide) fun h27 x27 _ => ?_
  refine x27.gi rfl ?_
  have hJ67 : ∀ (h9 : HW) (n : Nat) (s9 : Int32), NdX h0 h9 a q s9 [.int (nI k), .int 0, .null, .null] → numN k s = (n, s9) → w_X8_random_J67 c K a d post wrec q h9 mc ms (nI n) q := by
    intro h9 n s9 x9 en
    unfold w_X8_random_J67
    refine x9.put (by show 1 < 4; decide) fun h8 x8 _ => ?_
    rw [en] at hp
    exact hp h8 x8
  refine br_eq0 (by omega) (fun z => ?_) (fun z => ?_)
  · refine x27.bel (n := 8) (by omega) (by omega) fun h42 x42 => ?_
    have hm8 : mixN (nxt s) % 8 < 8 := Nat.mod_lt _ (by omega)
    have hJ56 : ∀ b : Nat, 0 < b → b < 2 ^ 31 → b = (if mixN (nxt s) % 8 = 0 then 10000 else 25) → w_X8_random_J56 c K a d post wrec q h42 mc ms (nI b) a q := by
      intro b hb0 hb eb
      unfold w_X8_random_J56
      refine x42.bel hb0 hb fun h56 x56 => hJ67 _ _ _ x56 ?_
      rw [numN, if_pos z, eb]
    refine br_eq0 (by omega) (fun y => hJ56 10000 (by omega) (by omega) (if_pos y).symm) (fun y => hJ56 25 (by omega) (by omega) (if_neg y).symm)
  · refine x27.bel (n := 5) (by omega) (by omega) fun h64 x64 => hJ67 _ _ _ x64 ?_
    rw [numN, if_neg z]
theorem s_random : ∀ (d f mc ms : Nat) (Own : Nat → Prop) (h : HW) (s : Int32) (post : Option Nat → HW → Prop), OwnOK h Own → Own a → h a = some (true, .inr (9, [.int s])) → d < f → d ≤ 2 → 2 ^ (d + 1) ≤ mc + 1 → 4 * 2 ^ (d + 1) ≤ ms + 4 →
    (∀ (q : Nat) (h' : HW), h' a = some (true, .inr (9, [.int (rndN d s).2])) → FrB h h' a → HDom h h' → NodeAt h' Own d q (rndN d s).1 → post (some q) h') → w_X8_random c K f h a (nI d) mc ms post := by
  intro d
  induction d with
  | zero =>
    intro f mc ms Own h s post hO hOa ha hf hd hc hs hp
    obtain ⟨f, rfl⟩ : ∃ g, f = g + 1 := ⟨f - 1, by omega⟩
    show w_X8_random_F c K (w_X8_random c K f) h a (nI 0) mc ms post
    unfold w_X8_random_F
    refine ⟨mc - 1, ms - 4, by omega, by omega, fun q hq => ?_⟩
    have x : NdX h (hup h q (.inr (8, [.int 0, .int 0, .null, .null]))) a q s [.int 0, .int 0, .null, .null] := ⟨hq, by rw [ha]; simp, hup_s, (hup_n (fun z => by rw [z, hq] at ha; cases ha)).trans ha, fun b hb _ => hup_n (fun z => hb (z ▸ hq)), HDom.up⟩
    unfold w_X8_init
    refine br_eq0 (by omega) (fun _ => ?_) (fun z => absurd rfl z)
    refine x.bel (n := 2) (by omega) (by omega) fun h1 x1 => ?_
    have hk2 : mixN (nxt s) % 2 < 2 := Nat.mod_lt _ (by omega)
    refine s_kn x1 (by omega) fun h2 x2 => ?_
    refine x2.gi rfl ?_
    refine br_le (b := 1) (by omega) (by omega) (fun _ => ?_) (fun z => by omega)
    refine hp q h2 x2.2.2.2.1 x2.frb x2.2.2.2.2.2 ?_
    refine ⟨⟨true, none, none, x2.2.2.1⟩, hO.new hq, ?_⟩
    exact numN_ok (mixN (nxt s) % 2) (nxt s) (by omega)
  | succ d ih =>
    intro f mc ms Own h s post hO hOa ha hf hd hc hs hp
    obtain ⟨f, rfl⟩ : ∃ g, f = g + 1 := ⟨f - 1, by omega⟩
    have hpw : 2 ^ (d + 1 + 1) = 2 * 2 ^ (d + 1) := by rw [Nat.pow_succ]; omega
    rw [hpw] at hc hs
    have hp1 : 2 ≤ 2 ^ (d + 1) := by rw [Nat.pow_succ]; have := Nat.two_pow_pos d; omega
    show w_X8_random_F c K (w_X8_random c K f) h a (nI (d + 1)) mc ms post
    unfold w_X8_random_F
    refine ⟨mc - 1, ms - 4, by omega, by omega, fun q hq => ?_⟩
    have x : NdX h (hup h q (.inr (8, [.int 0, .int 0, .null, .null]))) a q s [.int 0, .int 0, .null, .null] := ⟨hq, by rw [ha]; simp, hup_s, (hup_n (fun z => by rw [z, hq] at ha; cases ha)).trans ha, fun b hb _ => hup_n (fun z => hb (z ▸ hq)), HDom.up⟩
    unfold w_X8_init
    refine br_eq0 (by omega) (fun z => by omega) (fun _ => ?_)
    refine x.bel (n := 6) (by omega) (by omega) fun h1 x1 => ?_
    have hk6 : mixN (nxt s) % 6 < 6 := Nat.mod_lt _ (by omega)
    refine s_kn x1 (by omega) fun h2 x2 => ?_
    have hnl := numN_lt (mixN (nxt s) % 6) (nxt s)
    have hok := numN_ok (mixN (nxt s) % 6) (nxt s)
    rw [rndN] at hp
    generalize mixN (nxt s) % 6 = k at hk6 x2 hok hnl hp
    generalize numN k (nxt s) = kn at x2 hok hnl hp
    refine x2.gi rfl ?_
    refine br_le (b := 1) (by omega) (by omega) (fun z => ?_) (fun z => ?_)
    · rw [if_pos z] at hp
      refine hp q h2 x2.2.2.2.1 x2.frb x2.2.2.2.2.2 (Or.inl ⟨⟨true, none, none, x2.2.2.1⟩, hO.new hq, hok z⟩)
    · rw [if_neg (by omega)] at hp
      intro x82 e82
      rw [show (1 : Int32) = nI 1 from rfl, nI_sub (by omega)] at e82
      have e82 : x82 = nI d := e82
      subst e82
      refine ⟨2 ^ (d + 1) - 1, 4 * 2 ^ (d + 1) - 4, mc - 2 ^ (d + 1), ms - 4 * 2 ^ (d + 1), by omega, by omega, ?_⟩
      have hq0 : ¬ Own q := hO.new hq
      have hO2 : OwnOK h2 (OwnQ Own q) := hO.q x2.2.2.2.2.2 (by rw [x2.2.2.1]; simp)
      refine ih f _ _ (OwnQ Own q) h2 _ _ hO2 (Or.inl hOa) x2.2.2.2.1 (by omega) (by omega) (by omega) (by omega) fun l h3 y1 y2 y3 y4 => ?_
      have x3 := x2.call y1 y2 y3
      refine ⟨l, rfl, ?_⟩
      refine x3.put (by show 2 < 4; decide) fun h4 x4 g4 => ?_
      intro x93 e93
      rw [show (1 : Int32) = nI 1 from rfl, nI_sub (by omega)] at e93
      have e93 : x93 = nI d := e93
      subst e93
      have y4 : NodeAt h4 (OwnQ Own q) d l _ := NodeAt.mv (fun b hb hn => ⟨g4 b hb (fun z => hn (Or.inr z)), hn⟩) _ _ _ y4
      have hO4 : OwnOK h4 (OwnQ Own q) := hO.q x4.2.2.2.2.2 (by rw [x4.2.2.1]; simp)
      refine ⟨2 ^ (d + 1) - 1, 4 * 2 ^ (d + 1) - 4, mc - 2 ^ (d + 1) - (2 ^ (d + 1) - 1), ms - 4 * 2 ^ (d + 1) - (4 * 2 ^ (d + 1) - 4), by omega, by omega, ?_⟩
      refine ih f _ _ (OwnQ Own q) h4 _ _ hO4 (Or.inl hOa) x4.2.2.2.1 (by omega) (by omega) (by omega) (by omega) fun r h5 w1 w2 w3 w4 => ?_
      have x5 := x4.call w1 w2 w3
      have y5 : NodeAt h5 (OwnQ Own q) d l _ := NodeAt.mv (fun b hb hn => ⟨w2 b hb (fun z => hn (Or.inl (z ▸ hOa))), hn⟩) _ _ _ y4
      refine ⟨r, rfl, ?_⟩
      refine x5.put (by show 3 < 4; decide) fun h6 x6 g6 => ?_
      have em : ∀ b, ¬ h5 b = none → ¬ OwnQ Own q b → h6 b = h5 b ∧ ¬ Own b := fun b hb hn => ⟨g6 b hb (fun z => hn (Or.inr z)), fun z => hn (Or.inl z)⟩
      exact hp q h6 x6.2.2.2.1 x6.frb x6.2.2.2.2.2 (Or.inr ⟨show 2 ≤ k by omega, show k ≤ 5 by omega, hq0, true, l, r, x6.2.2.1, NodeAt.mv em _ _ _ y5, NodeAt.mv em _ _ _ w4⟩)
end RN
