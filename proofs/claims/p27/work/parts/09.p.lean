/-! the law's writers -/
def adL (W : va_W) : List Nat := W.map Prod.fst
theorem adL_in {W : va_W} {b : Nat} : b ∈ adL W ↔ ∃ (k : Nat) (e : va_E), W[k]? = some (b, e) := by
  unfold adL
  constructor
  · intro h
    obtain ⟨⟨x, e⟩, h1, rfl⟩ := List.mem_map.mp h
    obtain ⟨k, hk⟩ := List.getElem?_of_mem h1
    exact ⟨k, e, hk⟩
  · rintro ⟨k, e, h⟩
    exact List.mem_map.mpr ⟨(b, e), List.mem_of_getElem? h, rfl⟩
theorem adL_off {W : va_W} {b : Nat} (h : ¬ b ∈ adL W) : hOff W b := fun k e hk => h (adL_in.mpr ⟨k, e, hk⟩)
theorem adL_H (c : Nat → ClassId) (ah : Nat → Nat) (ag : Nat → Nat → Nat) (ar : Nat → Nat) (ps : PS) (s s' : HS) : adL (wH c ah ag ar ps s) = adL (wH c ah ag ar ps s') := by
  unfold adL wH
  rw [List.map_append, List.map_append]
  rfl
/-- a call of the class has written its own places alone -/
def CFr (h h1 : HW) (L : List Nat) : Prop := (∀ b, ¬ b ∈ L → h1 b = h b) ∧ HDom h h1
theorem CFr.rf {h : HW} {L : List Nat} : CFr h h L := ⟨fun _ _ => rfl, HDom.rf⟩
theorem CFr.tr {h h1 h2 : HW} {L : List Nat} (x : CFr h h1 L) (y : CFr h1 h2 L) : CFr h h2 L := ⟨fun b hb => (y.1 b hb).trans (x.1 b hb), x.2.tr y.2⟩
section WR
variable {c : Nat → ClassId} {K : (Nat → Nat) × (Nat → Nat)} {h : HW} {ah : Nat → Nat} {ag : Nat → Nat → Nat} {ar : Nat → Nat} {ps : PS} {s0 : HS} {u : Nat} {tx : List Nat}
theorem c_nx {s s' : HS} {h1 : HW} (q : hNx h (wH c ah ag ar ps s) (wH c ah ag ar ps s') h1) : CA c ah ag ar ps s' h1 ∧ CFr h h1 (adL (wH c ah ag ar ps s)) := by
  obtain ⟨q1, q2, q3, q4⟩ := q
  have f1 : ∀ b, ¬ b ∈ adL (wH c ah ag ar ps s) → h1 b = h b := fun b hb => q3 b (adL_off hb) (adL_off (by rw [adL_H c ah ag ar ps s' s]; exact hb))
  refine ⟨⟨q1, q2⟩, f1, fun b hb => ?_⟩
  rcases Classical.em (b ∈ adL (wH c ah ag ar ps s)) with z | z
  · rw [adL_H c ah ag ar ps s s'] at z
    obtain ⟨k, e, hk⟩ := adL_in.mp z
    rw [q1 k b e hk] at hb; cases hb
  · rw [← f1 b z]; exact hb
def Buf (c : Nat → ClassId) (h : HW) (u : Nat) (tx : List Nat) (base : Nat) : Prop := ∃ f, h u = some (true, eI (c 0) 8 f) ∧ f 0 = nI tx.length ∧ ∀ j, j < 5 → f (1 + j) = nI (wdx tx (base + 4 * j))
/-- a text under way -/
def WS (c : Nat → ClassId) (h : HW) (ah : Nat → Nat) (ag : Nat → Nat → Nat) (ar : Nat → Nat) (ps : PS) (s0 : HS) (u : Nat) (tx : List Nat) : Prop := (∃ s, CA c ah ag ar ps s h ∧ TkG s0 s (20 * (tx.length / 20)) tx) ∧ Buf c h u tx (20 * (tx.length / 20)) ∧ ¬ u ∈ adL (wH c ah ag ar ps s0) ∧ ∀ x ∈ tx, x < 128
/-- it has written the class's places and the buffer alone -/
def LU (c : Nat → ClassId) (ah : Nat → Nat) (ag : Nat → Nat → Nat) (ar : Nat → Nat) (ps : PS) (s0 : HS) (u : Nat) : Nat → Prop := fun b => b ∈ adL (wH c ah ag ar ps s0) ∨ b = u
def WFr (c : Nat → ClassId) (h h1 : HW) (ah : Nat → Nat) (ag : Nat → Nat → Nat) (ar : Nat → Nat) (ps : PS) (s0 : HS) (u : Nat) : Prop := (∀ b, ¬ LU c ah ag ar ps s0 u b → h1 b = h b) ∧ HDom h h1
theorem WFr.rf : WFr c h h ah ag ar ps s0 u := ⟨fun _ _ => rfl, HDom.rf⟩
theorem WFr.tr {h1 h2 : HW} (x : WFr c h h1 ah ag ar ps s0 u) (y : WFr c h1 h2 ah ag ar ps s0 u) : WFr c h h2 ah ag ar ps s0 u := ⟨fun b hb => (y.1 b hb).trans (x.1 b hb), x.2.tr y.2⟩
theorem WFr.up {e : va_E} : WFr c h (hup h u e) ah ag ar ps s0 u := ⟨fun b hb => hup_n (fun z => hb (Or.inr z)), HDom.up⟩
theorem WFr.mvt {h1 : HW} (x : WFr c h h1 ah ag ar ps s0 u) : MvT h (LU c ah ag ar ps s0 u) h1 (LU c ah ag ar ps s0 u) := fun b _ hn => ⟨x.1 b hn, hn⟩
theorem CFr.w {h1 : HW} (x : CFr h h1 (adL (wH c ah ag ar ps s0))) : WFr c h h1 ah ag ar ps s0 u := ⟨fun b hb => x.1 b (fun z => hb (Or.inl z)), x.2⟩
theorem CA.up {s : HS} {e : va_E} (x : CA c ah ag ar ps s h) (hu : ¬ u ∈ adL (wH c ah ag ar ps s)) : CA c ah ag ar ps s (hup h u e) := ⟨fun k a e2 hk => (hup_n (fun z => hu (by rw [← z]; exact adL_in.mpr ⟨k, e2, hk⟩))).trans (x.1 k a e2 hk), x.2⟩
/-- the five words go to the class -/
theorem s_flush {s : HS} {st : Nat} {f : Nat → Int32} {post : HW → Prop} (x : CA c ah ag ar ps s h) (t : TkG s0 s st tx) (hu : ¬ u ∈ adL (wH c ah ag ar ps s0)) (hx : ∀ y ∈ tx, y < 128) (hb : h u = some (true, eI (c 0) 8 f)) (hf : ∀ j, j < 5 → f (1 + j) = nI (wdx tx (st + 4 * j))) (hs : st + 20 ≤ 500)
    (hp : ∀ (h' : HW) (s' : HS) (f' : Nat → Int32), CA c ah ag ar ps s' h' → TkG s0 s' (st + 20) tx → h' u = some (true, eI (c 0) 8 f') → f' 0 = f 0 → (∀ j, j < 5 → f' (1 + j) = 0) → WFr c h h' ah ag ar ps s0 u → post h') : w_L_flush c K h (ah 0) u post := by
  obtain ⟨r, s', e1, t'⟩ := c_append hx t hs
  unfold w_L_flush
  refine i_lI (k := 1) hb (by omega) (by omega) ?_
  refine i_lI (k := 2) hb (by omega) (by omega) ?_
  refine i_lI (k := 3) hb (by omega) (by omega) ?_
  refine i_lI (k := 4) hb (by omega) (by omega) ?_
  refine i_lI (k := 5) hb (by omega) (by omega) ?_
  rw [show f 1 = nI (wdx tx st) from hf 0 (by omega), show f 2 = nI (wdx tx (st + 4)) from hf 1 (by omega), show f 3 = nI (wdx tx (st + 8)) from hf 2 (by omega), show f 4 = nI (wdx tx (st + 12)) from hf 3 (by omega), show f 5 = nI (wdx tx (st + 16)) from hf 4 (by omega)]
  refine ⟨x.recv, ah, ag, ar, ps, s, r, s', e1, rfl, x, fun h1 q => ?_⟩
  obtain ⟨x1, f1⟩ := c_nx q
  rw [adL_H c ah ag ar ps s s0] at f1
  have hb1 : h1 u = some (true, eI (c 0) 8 f) := (f1.1 u hu).trans hb
  refine cpL2 (fun k (h9 : HW) (v2 : Int32) => 1 ≤ k ∧ ∃ g, CA c ah ag ar ps s' h9 ∧ h9 u = some (true, eI (c 0) 8 g) ∧ g 0 = f 0 ∧ (∀ j, j + 1 < k → g (1 + j) = 0) ∧ WFr c h h9 ah ag ar ps s0 u ∧ v2 = nI k) 6 ?_ ?_ 1 (by omega) _ _ ⟨Nat.le_refl _, f, x1, hb1, rfl, fun j hj => absurd hj (by omega), f1.w, rfl⟩
  · rintro rec h9 v2 ⟨z0, g, x9, hb9, g0, gz, f9, rfl⟩
    unfold w_L_flush_B22
    exact br_le (a := 6) (by omega) (by omega) (fun _ => hp h9 s' g x9 t' hb9 g0 (fun j hj => gz j (by omega)) f9) (fun z => by omega)
  · rintro rec k h9 v2 hk ⟨z0, g, x9, hb9, g0, gz, f9, rfl⟩ hrec
    unfold w_L_flush_B22
    refine br_le (a := 6) (by omega) (by omega) (fun z => by omega) (fun _ => ?_)
    refine i_stI hb9 (by omega) (by omega) ?_
    intro x32 e32
    refine hrec _ _ ⟨by omega, _, x9.up (by rw [adL_H c ah ag ar ps s' s0]; exact hu), hup_s, (if_neg (by omega)).trans g0, fun j hj => ?_, f9.tr WFr.up, by rw [e32, nI_1]⟩
    show (if 1 + j = k then 0 else g (1 + j)) = 0
    split
    · rfl
    · exact gz j (by omega)
/-- a character -/
theorem s_put {ch : Nat} {post : HW → Prop} (w : WS c h ah ag ar ps s0 u tx) (hc : ch < 128) (hl : tx.length < 480)
    (hp : ∀ h', WS c h' ah ag ar ps s0 u (tx ++ [ch]) → WFr c h h' ah ag ar ps s0 u → post h') : w_L_put c K h (ah 0) u (nI ch) post := by
  obtain ⟨⟨s, x, t⟩, ⟨f, hb, f0, fw⟩, hu, hx⟩ := w
  obtain ⟨n, en⟩ : ∃ n, n = tx.length := ⟨_, rfl⟩
  rw [← en] at t f0 fw hl
  have hm4 : n % 20 % 4 = n % 4 := by omega
  have hj : n % 20 / 4 < 5 := by omega
  have huS : ¬ u ∈ adL (wH c ah ag ar ps s) := by rw [adL_H c ah ag ar ps s s0]; exact hu
  have hx' : ∀ y ∈ tx ++ [ch], y < 128 := fun y hy => by
    rcases List.mem_append.mp hy with hy | hy
    · exact hx y hy
    · rw [List.mem_singleton.mp hy]; exact hc
  have hlen : (tx ++ [ch]).length = n + 1 := by rw [List.length_append, en]; rfl
  unfold w_L_put
  refine i_lI (k := 0) hb (by omega) (by omega) ?_
  rw [f0]
  intro x7 e7 x9 e9 x10 e10
  rw [show (20 : Int32) = nI 20 from rfl, nI_mod (by omega) (by omega)] at e7
  subst e7
  rw [show (4 : Int32) = nI 4 from rfl, nI_div (by omega) (by omega)] at e9
  subst e9
  rw [show (1 : Int32) = nI 1 from rfl, nI_add] at e10
  subst e10
  refine i_lI hb (by omega) (by omega) ?_
  refine i_lI (k := 0) hb (by omega) (by omega) ?_
  rw [f0]
  intro x22 e22 x23 e23 x24 e24 x25 e25 x26 e26
  rw [show (4 : Int32) = nI 4 from rfl, nI_mod (by omega) (by omega)] at e22
  subst e22
  -- the word with the character
  have hwd : x26 = nI (wdx (tx ++ [ch]) (20 * (n / 20) + 4 * (n % 20 / 4))) := by
    rw [e26, e25, e24, e23, fw _ hj]
    exact wdx_put (m := n % 4) hx (by omega) (by omega) hc
  subst hwd
  refine i_stI hb (by omega) (by omega) ?_
  refine i_lI (k := 0) hup_s (by omega) (by omega) ?_
  intro x33 e33
  have e33 : x33 = nI (n + 1) := by
    rw [e33, show upd f (1 + n % 20 / 4) (nI (wdx (tx ++ [ch]) (20 * (n / 20) + 4 * (n % 20 / 4)))) 0 = f 0 from if_neg (by omega), f0, nI_1]
  subst e33
  refine i_stI (k := 0) hup_s (by omega) (by omega) ?_
  have x2 : CA c ah ag ar ps s (hup (hup h u (eI (c 0) 8 (upd f (1 + n % 20 / 4) (nI (wdx (tx ++ [ch]) (20 * (n / 20) + 4 * (n % 20 / 4))))))) u (eI (c 0) 8 (upd (upd f (1 + n % 20 / 4) (nI (wdx (tx ++ [ch]) (20 * (n / 20) + 4 * (n % 20 / 4))))) 0 (nI (n + 1))))) := (x.up huS).up huS
  have f2 : WFr c h (hup (hup h u (eI (c 0) 8 (upd f (1 + n % 20 / 4) (nI (wdx (tx ++ [ch]) (20 * (n / 20) + 4 * (n % 20 / 4))))))) u (eI (c 0) 8 (upd (upd f (1 + n % 20 / 4) (nI (wdx (tx ++ [ch]) (20 * (n / 20) + 4 * (n % 20 / 4))))) 0 (nI (n + 1))))) ah ag ar ps s0 u := WFr.tr (h1 := hup h u (eI (c 0) 8 (upd f (1 + n % 20 / 4) (nI (wdx (tx ++ [ch]) (20 * (n / 20) + 4 * (n % 20 / 4))))))) WFr.up WFr.up
  have b2 : (hup (hup h u (eI (c 0) 8 (upd f (1 + n % 20 / 4) (nI (wdx (tx ++ [ch]) (20 * (n / 20) + 4 * (n % 20 / 4))))))) u (eI (c 0) 8 (upd (upd f (1 + n % 20 / 4) (nI (wdx (tx ++ [ch]) (20 * (n / 20) + 4 * (n % 20 / 4))))) 0 (nI (n + 1))))) u = some (true, eI (c 0) 8 (upd (upd f (1 + n % 20 / 4) (nI (wdx (tx ++ [ch]) (20 * (n / 20) + 4 * (n % 20 / 4))))) 0 (nI (n + 1)))) := hup_s
  have g0 : (upd (upd f (1 + n % 20 / 4) (nI (wdx (tx ++ [ch]) (20 * (n / 20) + 4 * (n % 20 / 4))))) 0 (nI (n + 1))) 0 = nI (n + 1) := if_pos rfl
  have gw : ∀ j, j < 5 → (upd (upd f (1 + n % 20 / 4) (nI (wdx (tx ++ [ch]) (20 * (n / 20) + 4 * (n % 20 / 4))))) 0 (nI (n + 1))) (1 + j) = nI (wdx (tx ++ [ch]) (20 * (n / 20) + 4 * j)) := by
    intro j hj5
    show (if 1 + j = 0 then _ else if 1 + j = 1 + n % 20 / 4 then nI (wdx (tx ++ [ch]) (20 * (n / 20) + 4 * (n % 20 / 4))) else f (1 + j)) = _
    rw [if_neg (by omega)]
    by_cases hje : j = n % 20 / 4
    · rw [if_pos (by omega), hje]
    · rw [if_neg (by omega), fw j hj5, wdx_same (by omega)]
  generalize (hup (hup h u (eI (c 0) 8 (upd f (1 + n % 20 / 4) (nI (wdx (tx ++ [ch]) (20 * (n / 20) + 4 * (n % 20 / 4))))))) u (eI (c 0) 8 (upd (upd f (1 + n % 20 / 4) (nI (wdx (tx ++ [ch]) (20 * (n / 20) + 4 * (n % 20 / 4))))) 0 (nI (n + 1))))) = h2 at x2 f2 b2 ⊢
  generalize (upd (upd f (1 + n % 20 / 4) (nI (wdx (tx ++ [ch]) (20 * (n / 20) + 4 * (n % 20 / 4))))) 0 (nI (n + 1))) = g at b2 g0 gw
  refine i_lI (k := 0) b2 (by omega) (by omega) ?_
  rw [g0]
  intro x40 e40
  rw [show (20 : Int32) = nI 20 from rfl, nI_mod (by omega) (by omega)] at e40
  subst e40
  have t2 : TkG s0 s (20 * (n / 20)) (tx ++ [ch]) := t.more (by omega)
  refine br_eq0 (by omega) (fun z => ?_) (fun z => ?_)
  · refine s_flush x2 t2 hu hx' b2 gw (by omega) fun h3 s3 f3 x3 t3 b3 z0 zw f3r => hp h3 ⟨⟨s3, x3, ?_⟩, ⟨f3, b3, ?_, fun j hj5 => ?_⟩, hu, hx'⟩ (f2.tr f3r)
    · rw [hlen, show 20 * ((n + 1) / 20) = 20 * (n / 20) + 20 by omega]; exact t3
    · rw [z0, g0, hlen]
    · rw [zw j hj5, wdx_0 (by rw [hlen]; omega)]; rfl
  · refine hp h2 ⟨⟨s, x2, ?_⟩, ⟨g, b2, ?_, fun j hj5 => ?_⟩, hu, hx'⟩ f2
    · rw [hlen, show 20 * ((n + 1) / 20) = 20 * (n / 20) by omega]; exact t2
    · rw [g0, hlen]
    · rw [gw j hj5, hlen, show 20 * ((n + 1) / 20) = 20 * (n / 20) by omega]
/-- a text -/
theorem s_write {b : Nat} {cs : List Nat} {post : HW → Prop} (w : WS c h ah ag ar ps s0 u tx) (st : StrX c h (LU c ah ag ar ps s0 u) b cs) (hl : tx.length + cs.length ≤ 480)
    (hp : ∀ h', WS c h' ah ag ar ps s0 u (tx ++ cs) → WFr c h h' ah ag ar ps s0 u → post h') : w_L_write c K h (ah 0) u b post := by
  have hcs : (∀ y ∈ cs, y < 128) ∧ cs.length ≤ 100 := by
    obtain ⟨w1, w2, q, g, t1, t2, t3, t4, t5, t6, t7, t8⟩ := st
    exact ⟨t7, t8⟩
  unfold w_L_write
  refine cpL2 (fun k (h9 : HW) (v3 : Int32) => WS c h9 ah ag ar ps s0 u (tx ++ cs.take k) ∧ WFr c h h9 ah ag ar ps s0 u ∧ v3 = nI k) cs.length ?_ ?_ 0 (by omega) _ _ ⟨by rw [List.take_zero, List.append_nil]; exact w, WFr.rf, rfl⟩
  · rintro rec h9 v3 ⟨w9, f9, rfl⟩
    have st9 := st.mv f9.mvt
    unfold w_L_write_B2
    refine ⟨st9.rc, j_length st9 ?_⟩
    rw [List.take_length] at w9
    exact br_le (by omega) (by omega) (fun _ => hp h9 w9 f9) (fun z => by omega)
  · rintro rec k h9 v3 hk ⟨w9, f9, rfl⟩ hrec
    have st9 := st.mv f9.mvt
    have st8 := st9
    obtain ⟨w1, w2, q, g, t1, t2, t3, t4, t5, t6, t7, t8⟩ := st9
    have hch : cs.getD k 0 < 128 := hcs.1 _ (getD_mem hk)
    unfold w_L_write_B2
    refine ⟨st8.rc, j_length st8 ?_⟩
    refine br_le (by omega) (by omega) (fun z => by omega) (fun _ => ?_)
    refine ⟨st8.rc, ?_⟩
    unfold w_J0_charAt_5068e
    refine ⟨st8.rc, j_slat st8 ⟨by decide, w1, _, q, t1, rfl, ?_⟩⟩
    unfold w_J1_charAt_3b067
    refine i_len t2 ?_
    unfold w_J0_checkIndex_df160
    refine ⟨nI_n0 (by omega), (nI_ltI (by omega) (by show cs.length < _; omega)).mpr hk, ?_⟩
    refine i_lI t2 hk (by omega) ?_
    obtain ⟨y1, y2, -⟩ := sb_byte (cs.getD k 0) (by omega)
    intro x12 e12 x13 e13
    rw [t3 k hk, y1] at e12
    subst e12
    rw [y2] at e13
    subst e13
    have hnc := (pk_charN (show cs.getD k 0 < 65536 by omega)).1
    refine ⟨hnc, hnc, ?_⟩
    refine s_put w9 hch (by rw [List.length_append, List.length_take]; omega) fun h3 w3 f3 => ?_
    intro x20 e20
    refine hrec _ _ ⟨?_, f9.tr f3, by rw [e20, nI_1]⟩
    rw [take_succ_getD hk, ← List.append_assoc]
    exact w3
theorem wn_step {rec : HW → Int32 → Prop} {p n : Nat} {post : HW → Prop} (w : WS c h ah ag ar ps s0 u tx) (hp1 : 0 < p) (hp2 : p < 2 ^ 31) (hn : n < 2 ^ 31) (hl : tx.length < 480)
    (hp : ∀ h', WS c h' ah ag ar ps s0 u (tx ++ [48 + n / p % 10]) → WFr c h h' ah ag ar ps s0 u → rec h' (nI (p / 10))) : w_L_writeNumber_B18 c K (ah 0) u (nI n) post rec h (nI p) := by
  have hnp : n / p < 2 ^ 31 := Nat.lt_of_le_of_lt (Nat.div_le_self _ _) hn
  unfold w_L_writeNumber_B18
  refine br_le0 hp2 (fun z => by omega) (fun _ => ?_)
  refine ⟨fun z => by have := (nI_eq hp2 (show 0 < 2 ^ 31 by omega)).mp z; omega, ?_⟩
  intro x28 e28 x31 e31 x32 e32
  rw [nI_div hn hp2] at e28
  subst e28
  rw [show (10 : Int32) = nI 10 from rfl, nI_mod hnp (by omega)] at e31
  subst e31
  rw [show (48 : Int32) = nI 48 from rfl, nI_add] at e32
  subst e32
  have : n / p % 10 < 10 := Nat.mod_lt _ (by omega)
  refine s_put w (by omega) hl fun h' w' f' => ?_
  intro x39 e39
  rw [show (10 : Int32) = nI 10 from rfl, nI_div hp2 (by omega)] at e39
  rw [e39]
  exact hp h' w' f'
theorem wn_end {rec : HW → Int32 → Prop} {n : Int32} {post : HW → Prop} (hp : post h) : w_L_writeNumber_B18 c K (ah 0) u n post rec h (nI 0) := by
  unfold w_L_writeNumber_B18
  exact ⟨fun _ => hp, fun z => absurd (by decide) z⟩
/-- a number -/
theorem s_writeN {n : Nat} {post : HW → Prop} (w : WS c h ah ag ar ps s0 u tx) (hn : n ≤ 9999) (hl : tx.length + 4 ≤ 480)
    (hp : ∀ h', WS c h' ah ag ar ps s0 u (tx ++ decL n) → WFr c h h' ah ag ar ps s0 u → post h') : w_L_writeNumber c K h (ah 0) u (nI n) post := by
  have lo : ∀ (rec : Int32 → Prop) (p : Nat), p < 100000 → (n / 10 < p → ∃ k, itP2 (w_L_writeNumber_B18 c K (ah 0) u (nI n) post) k h (nI p)) → (p ≤ n / 10 → rec (nI (p * 10))) → w_L_writeNumber_B2 c K h (ah 0) u (nI n) post rec (nI p) := by
    intro rec p hp1 h1 h2
    unfold w_L_writeNumber_B2
    intro x6 e6
    rw [show (10 : Int32) = nI 10 from rfl, nI_div (by omega) (by omega)] at e6
    subst e6
    refine br_lt (by omega) (by omega) h1 (fun z => ?_)
    intro x13 e13
    rw [show (10 : Int32) = nI 10 from rfl, nI_mul] at e13
    rw [e13]
    exact h2 z
  unfold w_L_writeNumber
  refine ⟨4, lo _ 1 (by omega) (fun z => ⟨2, ?_⟩) (fun z1 => lo _ 10 (by omega) (fun z => ⟨3, ?_⟩) (fun z2 => lo _ 100 (by omega) (fun z => ⟨4, ?_⟩) (fun z3 => lo _ 1000 (by omega) (fun z => ⟨5, ?_⟩) (fun z4 => by omega))))⟩
  · refine wn_step w (by omega) (by omega) (by omega) (by omega) fun h1 w1 f1 => wn_end (hp h1 ?_ f1)
    have e : decL n = [48 + n / 1 % 10] := by rw [decL, if_pos (by omega)]; congr 2; omega
    rw [e]; exact w1
  · refine wn_step w (by omega) (by omega) (by omega) (by omega) fun h1 w1 f1 => ?_
    refine wn_step (p := 1) w1 (by omega) (by omega) (by omega) (by rw [List.length_append]; show tx.length + 1 < _; omega) fun h2 w2 f2 => wn_end (hp h2 ?_ (f1.tr f2))
    have e : decL n = [48 + n / 10 % 10] ++ [48 + n / 1 % 10] := by
      rw [decL, if_neg (by omega), if_pos (by omega)]
      show [_, _] = [_, _]
      congr 2
      · omega
      · congr 1; omega
    rw [e, ← List.append_assoc]; exact w2
  · refine wn_step w (by omega) (by omega) (by omega) (by omega) fun h1 w1 f1 => ?_
    refine wn_step (p := 10) w1 (by omega) (by omega) (by omega) (by rw [List.length_append]; show tx.length + 1 < _; omega) fun h2 w2 f2 => ?_
    refine wn_step (p := 1) w2 (by omega) (by omega) (by omega) (by rw [List.length_append, List.length_append]; show tx.length + 1 + 1 < _; omega) fun h3 w3 f3 => wn_end (hp h3 ?_ ((f1.tr f2).tr f3))
    have e : decL n = ([48 + n / 100 % 10] ++ [48 + n / 10 % 10]) ++ [48 + n / 1 % 10] := by
      rw [decL, if_neg (by omega), if_neg (by omega), if_pos (by omega)]
      show [_, _, _] = [_, _, _]
      congr 2
      · omega
      · congr 2; omega
    rw [e, ← List.append_assoc, ← List.append_assoc]; exact w3
  · refine wn_step w (by omega) (by omega) (by omega) (by omega) fun h1 w1 f1 => ?_
    refine wn_step (p := 100) w1 (by omega) (by omega) (by omega) (by rw [List.length_append]; show tx.length + 1 < _; omega) fun h2 w2 f2 => ?_
    refine wn_step (p := 10) w2 (by omega) (by omega) (by omega) (by rw [List.length_append, List.length_append]; show tx.length + 1 + 1 < _; omega) fun h3 w3 f3 => ?_
    refine wn_step (p := 1) w3 (by omega) (by omega) (by omega) (by rw [List.length_append, List.length_append, List.length_append]; show tx.length + 1 + 1 + 1 < _; omega) fun h4 w4 f4 => wn_end (hp h4 ?_ (((f1.tr f2).tr f3).tr f4))
    have e : decL n = (([48 + n / 1000 % 10] ++ [48 + n / 100 % 10]) ++ [48 + n / 10 % 10]) ++ [48 + n / 1 % 10] := by
      rw [decL, if_neg (by omega), if_neg (by omega), if_neg (by omega)]
      show [_, _, _, _] = [_, _, _, _]
      congr 2
      · omega
      · congr 3; omega
    rw [e, ← List.append_assoc, ← List.append_assoc, ← List.append_assoc]; exact w4
end WR
