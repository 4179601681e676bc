/-! the law's writers: whole pieces, and the text's end -/
/-- the numbers of an array, a blank before each -/
def numsX (v : Nat → Nat) : Nat → List Nat
  | 0 => []
  | n + 1 => numsX v n ++ (32 :: decL (v n))
theorem numsX_len {v : Nat → Nat} : ∀ n, (∀ k, k < n → v k ≤ 9999) → (numsX v n).length ≤ 5 * n := by
  intro n
  induction n with
  | zero => intro _; exact Nat.le_refl _
  | succ n ih =>
    intro h
    have i := ih fun k hk => h k (by omega)
    have d := (decL_lt (v n) (h n (by omega))).2
    show (numsX v n ++ (32 :: decL (v n))).length ≤ _
    rw [List.length_append, List.length_cons]
    omega
section WR2
variable {c : Nat → ClassId} {K : (Nat → Nat) × (Nat → Nat)} {h : HW} {ah : Nat → Nat} {ag : Nat → Nat → Nat} {ar : Nat → Nat} {ps : PS} {s0 : HS} {u : Nat} {tx : List Nat}
theorem s_writeAll {a2 a3 n : Nat} {cs : List Nat} {v : Nat → Nat} {wb : Bool} {g : Nat → Int32} {post : HW → Prop} (w : WS c h ah ag ar ps s0 u tx) (st : StrX c h (LU c ah ag ar ps s0 u) a2 cs) (sp : StrX c h (LU c ah ag ar ps s0 u) (K.1 10) [32]) (ha : h a3 = some (wb, eI (c 0) n g)) (hu : ¬ LU c ah ag ar ps s0 u a3) (hg : ∀ k, k < n → g k = nI (v k) ∧ v k ≤ 9999) (hn : n ≤ 4) (hl : tx.length + cs.length + 5 * n ≤ 470)
    (hp : ∀ h', WS c h' ah ag ar ps s0 u (tx ++ (cs ++ numsX v n)) → WFr c h h' ah ag ar ps s0 u → post h') : w_L_writeAll c K h (ah 0) u a2 a3 post := by
  unfold w_L_writeAll
  refine s_write w st (by omega) fun h1 w1 f1 => ?_
  have ha1 : h1 a3 = some (wb, eI (c 0) n g) := (f1.1 a3 hu).trans ha
  refine i_len ha1 ?_
  refine cpL2 (fun k (h9 : HW) (v3 : Int32) => WS c h9 ah ag ar ps s0 u (tx ++ (cs ++ numsX v k)) ∧ WFr c h h9 ah ag ar ps s0 u ∧ v3 = nI k) n ?_ ?_ 0 (by omega) _ _ ⟨by show WS c h1 ah ag ar ps s0 u (tx ++ (cs ++ [])); rw [List.append_nil]; exact w1, f1, rfl⟩
  · rintro rec h9 v3 ⟨w9, f9, rfl⟩
    unfold w_L_writeAll_B17
    exact br_le (a := n) (by omega) (by omega) (fun _ => hp h9 w9 f9) (fun z => by omega)
  · rintro rec k h9 v3 hk ⟨w9, f9, rfl⟩ hrec
    have ha9 : h9 a3 = some (wb, eI (c 0) n g) := (f9.1 a3 hu).trans ha
    have hlen := numsX_len (v := v) k fun i hi => (hg i (by omega)).2
    have hlt : (tx ++ (cs ++ numsX v k)).length ≤ 469 := by
      rw [List.length_append, List.length_append]; omega
    unfold w_L_writeAll_B17
    refine br_le (a := n) (by omega) (by omega) (fun z => by omega) (fun _ => ?_)
    refine i_lI ha9 hk (by omega) ?_
    rw [(hg k hk).1]
    refine s_write w9 (sp.mv f9.mvt) (by show _ + 1 ≤ 480; omega) fun h2 w2 f2 => ?_
    refine s_writeN w2 (hg k hk).2 (by rw [List.length_append]; show _ + 1 + 4 ≤ 480; omega) fun h3 w3 f3 => ?_
    intro x45 e45
    refine hrec _ _ ⟨?_, f9.tr (f2.tr f3), by rw [e45, nI_1]⟩
    show WS c h3 ah ag ar ps s0 u (tx ++ (cs ++ (numsX v k ++ (32 :: decL (v k)))))
    have e : tx ++ (cs ++ (numsX v k ++ (32 :: decL (v k)))) = tx ++ (cs ++ numsX v k) ++ [32] ++ decL (v k) := by simp
    rw [e]; exact w3
theorem s_loadText {mc ms : Nat} {post : Int32 → HW → Prop} (w : WS c h ah ag ar ps s0 u tx) (hl : tx.length ≤ 480)
    (hp : ∀ (h1 : HW) (s1 : HS) (st : Nat), CA c ah ag ar ps s1 h1 → TkG s0 s1 st tx → tx.length ≤ st → st ≤ 500 → (∃ f, h1 u = some (true, eI (c 0) 8 f) ∧ f 0 = 0 ∧ ∀ j, j < 5 → f (1 + j) = 0) → WFr c h h1 ah ag ar ps s0 u → w_L_load c K h1 (ah 0) (nI tx.length) mc ms post) : w_L_loadText c K h (ah 0) u mc ms post := by
  obtain ⟨⟨s, x, t⟩, ⟨f, hb, f0, fw⟩, hu, hx⟩ := w
  have fin : ∀ (h1 : HW) (s1 : HS) (st : Nat) (f1 : Nat → Int32), CA c ah ag ar ps s1 h1 → TkG s0 s1 st tx → tx.length ≤ st → st ≤ 500 → h1 u = some (true, eI (c 0) 8 f1) → (∀ j, j < 5 → f1 (1 + j) = 0) → WFr c h h1 ah ag ar ps s0 u → w_L_loadText_J16 c K (ah 0) u post (nI tx.length) h1 mc ms := by
    intro h1 s1 st f1 x1 t1 l1 l2 b1 z1 r1
    unfold w_L_loadText_J16
    refine i_stI (k := 0) b1 (by omega) (by omega) ?_
    refine ⟨mc, ms, 0, 0, rfl, rfl, ?_⟩
    refine hp _ s1 st (x1.up (by rw [adL_H c ah ag ar ps s1 s0]; exact hu)) t1 l1 l2 ⟨_, hup_s, if_pos rfl, fun j hj => ?_⟩ (r1.tr WFr.up)
    exact (if_neg (by omega)).trans (z1 j hj)
  unfold w_L_loadText
  refine i_lI (k := 0) hb (by omega) (by omega) ?_
  rw [f0]
  intro x7 e7
  rw [show (20 : Int32) = nI 20 from rfl, nI_mod (by omega) (by omega)] at e7
  subst e7
  refine br_le0 (by omega) (fun z => ?_) (fun z => ?_)
  · exact fin h s _ f x t (by omega) (by omega) hb (fun j hj => (fw j hj).trans (by rw [wdx_0 (by omega)]; rfl)) WFr.rf
  · refine s_flush x t hu hx hb fw (by omega) fun h1 s1 f1 x1 t1 b1 z0 zw r1 => ?_
    exact fin h1 s1 _ f1 x1 t1 (by omega) (by omega) b1 zw r1
end WR2
