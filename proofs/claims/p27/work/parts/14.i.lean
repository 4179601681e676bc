/-! an object from its making, and the law's loop over the script -/
section LGI
variable {c : Nat → ClassId} {K : (Nat → Nat) × (Nat → Nat)} {h h' : HW} {mc ms mcL msL L v2 : Nat} {xs : Nat → Int32} {rec4 : HW → Nat → Nat → Int32 → Int32 → Prop}
abbrev fs7 : List Value := [.null, .null, .null, .int 0, .int 0, .null, .null]
theorem hoff_1 {q b : Nat} {e : va_E} (hb : ¬ b = q) : hOff [(q, e)] b := fun k v hk => by
  match k, hk with
  | 0, hk => cases hk; exact hb rfl
  | k + 1, hk => simp at hk
/-- a new object of the class: its places are new -/
theorem new_cls {q : Nat} {h1 : HW} {W : va_W} {e : va_E} (hq : h q = none) (x : hNx (hup h q e) [(q, e)] W h1) : Ext h h1 ∧ ∀ b, b ∈ adL W → h b = none := by
  obtain ⟨x1, x2, x3, x4, x5⟩ := x
  have nq : ∀ b, ¬ h b = none → ¬ b = q := fun b hb z => hb (z ▸ hq)
  refine ⟨fun b hb => ?_, fun b hb => Classical.byContradiction fun z => ?_⟩
  · obtain ⟨⟨w, v⟩, hz⟩ := Option.ne_none_iff_exists'.mp hb
    rw [hz]
    exact x4 b w v ((hup_n (nq b hb)).trans hz) (hoff_1 (nq b hb))
  · have := x5 b (hoff_1 (nq b z)) fun ho => by
      obtain ⟨k, v, hk⟩ := adL_in.mp hb
      exact ho k v hk
    rw [hup_n (nq b z)] at this
    exact z this
set_option maxRecDepth 100000 in
theorem l_B4 {post : Int32 → HW → Prop} (hk : KC c K h (fun _ => False)) (hv : v2 < L) (hv2 : v2 < 2) (hL : L ≤ 260) (hc : mcL + 40700 ≤ mc) (hs9 : msL + 2902000 ≤ ms) (hrec : REC4 c K rec4 v2 mcL msL) : w_L_law_B4 c K L xs post rec4 h mc ms 1 (nI v2) := by
  unfold w_L_law_B4
  intro x6 e6
  subst e6
  refine br_le (a := L) (b := v2) (by omega) (by omega) (fun z => by omega) (fun _ => ?_)
  refine br_le (a := 2) (b := v2) (by omega) (by omega) (fun z => by omega) (fun _ => ⟨fun z => absurd z (by decide), fun _ => ?_⟩)
  obtain ⟨hf, gd, f1, f2, hSM, hRC⟩ := s_in27
  have eo : f_X7_errorOffset (h0 hf gd) = some (-1) := rfl
  have eu : f_X7_undo (h0 hf gd) = some (-1, h0 hf gd) := by unfold f_X7_undo; exact if_pos rfl
  refine ⟨mc - 1, ms - 7, by omega, by omega, fun q19 hq19 => ⟨mc - 121, ms - 16673, by omega, by omega, hf, gd, f1, f2, hup_s, Nat.le_refl _, Nat.le_refl _, fun a h23 ha0 x23 => ?_⟩⟩
  obtain ⟨e23, n23⟩ := new_cls hq19 x23
  subst ha0
  generalize hag : (fun j k : Nat => a (7 + 10 * j + k)) = ag at x23 n23
  generalize har : (fun k : Nat => a (107 + k)) = ar at x23 n23
  generalize h0 hf gd = s0 at hSM hRC eo eu x23 n23
  have ca23 : CA c a ag ar [] s0 h23 := ⟨x23.1, x23.2.1⟩
  have d23 : ∀ b, b ∈ adL (wH c a ag ar [] s0) → ¬ h23 b = none := fun b hb => by
    obtain ⟨k, v, hkv⟩ := adL_in.mp hb
    rw [ca23.1 k b v hkv]; simp
  refine a_nwI (n := 8) (by omega) (by omega) (by omega) fun q29 h29 n29 w29 e29 => ?_
  refine ⟨mc - 123, ms - 16682, by omega, by omega, fun q33 n33 => ⟨vin hv (by omega), fun x39 e39 => ?_⟩⟩
  clear e39
  unfold w_X9_init
  refine p_rawC hup_s (by decide) fun h40 a40 f40 d40 => ?_
  have a40 : h40 q33 = some (true, .inr (9, [.int x39])) := a40
  have e2940 : Ext h29 h40 := fun b hb => by
    have nb : ¬ b = q33 := fun z => hb (z ▸ n33)
    exact (f40 b (by rw [hup_n nb]; exact hb) nb).trans (hup_n nb)
  have E : Ext h23 h40 := e29.tr e2940
  have ca40 : CA c a ag ar [] s0 h40 := ca23.fx (X := fun _ => False) E.fx fun _ _ z => z
  have h29q : ¬ h29 q29 = none := by rw [w29]; simp
  have hO : OwnOK h40 (fun b => b ∈ adL (wH c a ag ar [] s0) ∨ b = q29 ∨ b = q33) := by
    rintro b (hb | rfl | rfl)
    · rw [E b (d23 b hb)]; exact d23 b hb
    · rw [e2940 _ h29q]; exact h29q
    · rw [a40]; simp
  have hn : ∀ b, (b ∈ adL (wH c a ag ar [] s0) ∨ b = q29 ∨ b = q33) → h b = none := by
    rintro b (hb | rfl | rfl)
    · exact n23 b hb
    · exact e23.none n29
    · exact (e23.tr e29).none n33
  have u1 : ¬ q29 ∈ adL (wH c a ag ar [] s0) := fun z => d23 _ z n29
  have u2 : ¬ q33 ∈ adL (wH c a ag ar [] s0) := fun z => by
    have := d23 _ z
    rw [← e29 _ this, n33] at this
    exact this rfl
  have u3 : ¬ q33 = q29 := fun z => h29q (z ▸ n33)
  generalize hOwn : (fun b => b ∈ adL (wH c a ag ar [] s0) ∨ b = q29 ∨ b = q33) = Own at hO
  have oI : ∀ b, Own b ↔ (b ∈ adL (wH c a ag ar [] s0) ∨ b = q29 ∨ b = q33) := fun b => by rw [← hOwn]
  refine ⟨mc - 124, ms - 16699, by omega, by omega, fun q45 n45 => ⟨11, 15, mc - 135, ms - 16714, by omega, by omega, ?_⟩⟩
  refine s_tinit (h0 := h40) (Own := Own) hup_s (Ext.new n45) n45 hO (Nat.le_refl _) (Nat.le_refl _) fun h49 A eA nt => ?_
  subst eA
  obtain ⟨O, fv, t49, e49, a49, o1, o2, o3⟩ := nt
  refine ⟨t_rc t49, 160, 8000, mc - 295, ms - 24714, by omega, by omega, ?_⟩
  refine s_deals (mx := 3) (hs := 1) (hb := 3) (np := 2) t49 o3 rfl (by omega) rfl (by omega) rfl (by omega) rfl (by omega) rfl rfl (fun p => ?_) (Nat.le_refl _) (Nat.le_refl _) fun h56 t56 f56 d56 => ?_
  · show (∀ x ∈ (List.replicate 2 ([] : List Nat)).getD p [], x < 100) ∧ ((List.replicate 2 ([] : List Nat)).getD p []).length ≤ 55
    rw [rep_nil]
    exact ⟨fun y hy => (by cases hy), Nat.zero_le _⟩
  have t56 : TabV c h56 O A TI fv := t56
  have E56 : Ext h40 h56 := fun b hb => by
    have e := e49 b hb
    exact (f56 b (by rw [e]; exact hb) fun i hi z => hb (z ▸ a49 i hi)).trans e
  have ca56 : CA c a ag ar [] s0 h56 := ca40.fx (X := fun _ => False) E56.fx fun _ _ z => z
  have V : LV c h56 a ag ar [] s0 O A TI fv := ⟨ca56, t56, o3.dom d56, fun b hb => o1 b ((oI b).mpr (Or.inl hb)), fun i hi z => hO _ ((oI _).mpr (Or.inl z)) (a49 i hi)⟩
  refine ⟨212, 20260, mc - 507, ms - 44974, by omega, by omega, s_agrees V (hSM (fun _ => TI)) (Nat.le_refl _) (Nat.le_refl _) fun h62 ps1 fv1 V62 pm pq fx => ?_⟩
  have hS62 := (hSM (fun _ => TI)).pm pm
  obtain ⟨hs, hb, tn, pa, f, e, n, G⟩ := hS62.1
  have w := G.2.1.tw G.1
  have ca := V62.ca
  refine ⟨fun z => absurd z (by decide), fun _ => ⟨ca.recv, a, ag, ar, ps1, s0, _, eo, rfl, ca, ⟨fun _ => ⟨ca.recv, a, ag, ar, ps1, s0, _, s0, eu, rfl, ca, fun h77 q77 => ?_⟩, fun z => absurd rfl z⟩⟩⟩
  have e77 := hNx_same ca.1 q77
  rw [e77]
  refine ⟨fun _ => ?_, fun z => absurd rfl z⟩
  refine ⟨1, 6, mc - 508, ms - 44980, by omega, by omega, Or.inr (Or.inr ⟨a, ag, ar, ps1, s0, G.deal2 (hub := 0) (seed := 0) (by omega) (by omega) ti_7, rfl, ca, Nat.le_refl _, Nat.le_refl _, fun _ => ?_, fun z => absurd rfl z⟩)⟩
  refine ⟨1, 6, mc - 509, ms - 44986, by omega, by omega, Or.inr (Or.inl ⟨a, ag, ar, ps1, s0, G.deal1 (hub := 4) (by omega) (by omega), rfl, ca, Nat.le_refl _, Nat.le_refl _, fun _ => ?_, fun z => absurd rfl z⟩)⟩
  refine ⟨1, 6, mc - 510, ms - 44992, by omega, by omega, Or.inr ⟨a, ag, ar, ps1, s0, auto0, rfl, ca, Nat.le_refl _, Nat.le_refl _, fun _ => ?_, fun z => absurd rfl z⟩⟩
  refine ⟨1, 6, mc - 511, ms - 44998, by omega, by omega, Or.inr (Or.inl ⟨a, ag, ar, ps1, s0, G.play1 (t := 3) (by omega) (by omega), rfl, ca, Nat.le_refl _, Nat.le_refl _, fun _ => ?_, fun z => absurd rfl z⟩)⟩
  refine ⟨1, 6, mc - 512, ms - 45004, by omega, by omega, Or.inr (Or.inr (Or.inl ⟨a, ag, ar, ps1, s0, G.play2 (c := 34) (t := 0) (by omega) (by omega) (by unfold inS; omega), rfl, ca, Nat.le_refl _, Nat.le_refl _, fun _ => ?_, fun z => absurd rfl z⟩))⟩
  have hy : ¬ whyT TI hb tn 33 0 = 0 := fun z => by
    have h1 := (why_mem z).1
    have h2 : nI 0 = nI tn := ti_4.symm.trans w.tn.1
    have h3 : 0 = tn := (nI_eq (by omega) (by have := w.tn.2; omega)).mp h2
    rw [← h3] at h1
    exact ti_hub h1
  refine ⟨1, 6, mc - 513, ms - 45010, by omega, by omega, Or.inr (Or.inr (Or.inr ⟨a, ag, ar, ps1, s0, G.play3 (c := 33) (t := 0) (by omega) (by omega) (by unfold inS; omega) hy, rfl, ca, Nat.le_refl _, Nat.le_refl _, fun _ => ?_, fun z => absurd rfl z⟩))⟩
  unfold w_L_law_J157
  have eA1 : adL (wH c a ag ar ps1 s0) = adL (wH c a ag ar [] s0) := adL_H2 pq
  have hA40 : ∀ b, ¬ h40 b = none → ∀ i, i < 6 → ¬ b = A i := fun b hb i hi z => hb (z ▸ a49 i hi)
  have E62 : ∀ b, ¬ h40 b = none → ¬ b ∈ adL (wH c a ag ar [] s0) → h62 b = h40 b := fun b hb hn => by
    have e1 := E56 b hb
    refine (fx.1 b (by rw [e1]; exact hb) ?_).trans e1
    rintro (z | ⟨i, hi, z⟩)
    · exact hn z
    · exact hA40 b hb i hi z
  have q29s : h62 q29 = some (true, eI (c 0) 8 (fun _ => 0)) := by
    have e1 := e2940 _ h29q
    rw [E62 _ (by rw [e1]; exact h29q) u1, e1, w29]
  have q33s : h62 q33 = some (true, .inr (9, [.int x39])) := by rw [E62 _ (by rw [a40]; simp) u2, a40]
  have gb : GB c h62 a ag ar ps1 s0 q29 q33 Own := ⟨hO.dom (E56.dom.tr fx.2), fun b hb => hb.elim (fun z => (oI b).mpr (Or.inl (eA1 ▸ z))) fun z => (oI b).mpr (Or.inr (Or.inl z)), (oI _).mpr (Or.inr (Or.inr rfl)), fun z => z.elim (fun z => u2 (eA1 ▸ z)) u3⟩
  have ws : WS c h62 a ag ar ps1 s0 q29 [] := by
    refine ⟨⟨s0, ca, tkO s0, rfl, hS62.2.2.2, fun k hk => absurd hk (Nat.not_lt_zero _), fun _ _ => rfl, fun _ _ => rfl⟩, ⟨fun _ => 0, q29s, rfl, fun j hj => ?_⟩, fun z => u1 (eA1 ▸ z), fun y hy => (by cases hy)⟩
    rw [wdx_0 (Nat.zero_le _)]; rfl
  have k62 : KC c K h62 Own := hk.mv fun b hb _ => by
    have e1 := (e23.tr E) b hb
    refine ⟨(E62 b (by rw [e1]; exact hb) fun z => hb (n23 b z)).trans e1, fun z => hb (hn b ((oI b).mp z))⟩
  exact l_158 gb ws q33s k62 ⟨hRC.1, hRC.2.1.pm pm, hRC.2.2⟩ (by omega) (by omega) hrec
/-- the whole law over maps -/
theorem l_law {b : Nat} {post : Int32 → HW → Prop} (hk : KC c K h (fun _ => False)) (hL : L ≤ 260) (hc : 81400 ≤ mc) (hs9 : 5804000 ≤ ms) (hp : ∀ h', post 1 h') : w_L_law c K h b L xs mc ms post := by
  unfold w_L_law
  refine cpL5 (fun i (h9 : HW) (m9 s9 : Nat) (v1 v2 : Int32) => v1 = 1 ∧ v2 = nI i ∧ KC c K h9 (fun _ => False) ∧ 40700 * (min L 2 - i) ≤ m9 ∧ 2902000 * (min L 2 - i) ≤ s9) (min L 2) ?_ ?_ 0 (Nat.zero_le _) _ _ _ _ _ ⟨rfl, rfl, hk, by omega, by omega⟩
  · rintro rec h9 m9 s9 v1 v2 ⟨rfl, rfl, hk9, hm9, hs10⟩
    unfold w_L_law_B4
    intro x6 e6
    subst e6
    refine br_le (a := L) (by omega) (by omega) (fun _ => ⟨Or.inr rfl, hp h9⟩) (fun z => ?_)
    exact br_le (a := 2) (by omega) (by omega) (fun _ => ⟨Or.inr rfl, hp h9⟩) (fun z => by omega)
  · rintro rec i h9 m9 s9 v1 v2 hi ⟨rfl, rfl, hk9, hm9, hs10⟩ hrec
    refine l_B4 (mcL := 40700 * (min L 2 - (i + 1))) (msL := 2902000 * (min L 2 - (i + 1))) hk9 (by omega) (by omega) hL (by omega) (by omega) fun h' m8 s8 g1 g2 g3 => ?_
    exact hrec _ _ _ _ _ ⟨rfl, rfl, g1, g2, g3⟩
end LGI
