/-! a whole text read, up to its rank -/
def hedX (mx np hs : Nat) : List Nat := TXT.getD 0 [] ++ (32 :: (decL mx ++ (32 :: (decL np ++ (32 :: (decL hs ++ [59]))))))
theorem r_pre {mx np hs N : Nat} {oh os : Option Nat} {gs : List (Nat × Nat × Nat)} {rest : List Nat} {rd : RS} (hm : 3 ≤ mx ∧ mx ≤ 9) (hn : 2 ≤ np ∧ np ≤ 4) (hs12 : 1 ≤ hs ∧ hs ≤ 12) (ho : ∀ v, oh = some v → v ≤ mx) (hsd : ∀ v, os = some v → v ≤ 9999) (hg : gvsOK mx np hs (oh.getD mx) (List.replicate np []) gs) (hgl : gs.length ≤ 20) (hN : N ≤ 500)
    (ht : TA (rd.2.1.2 0) N 0 (hedX mx np hs ++ (hubX oh ++ (sedX os ++ (gvsX gs ++ rest))))) :
    ∃ q rd' k f, f + k = FUEL ∧ k ≤ 30 ∧ RI (rd.2.1.2 0) N q rd' rest mx np hs (oh.getD mx) (sedS 1 os) (gvsH (List.replicate np []) gs) (fun i => if i = 1 then rd.2.2.1.2 1 else rd.2.2.1.1, none, rd.2.2.2.2) rd.2.1 ∧ f_X3_read rd (nI N) = itr3 f_X3_read_B65 f 1 (nI k) rd' ∧ g_X3_read rd (nI N) = itr3 g_X3_read_B65 f 1 (nI k) rd' := by
  obtain ⟨H1, x1, x2⟩ := e_fill (n := 100) (h0 := rd.2.2.1.2 0) (v := -1) (by omega)
  obtain ⟨tk0, b1, b2, b3, b4⟩ := r_begin (tk := rd.2.1) (b := rd.2.1.2 0) (N := N) rfl hN
  have ht2 : TA (rd.2.1.2 0) N 0 (TXT.getD 0 [] ++ (32 :: (decL mx ++ (32 :: (decL np ++ (32 :: (decL hs ++ (59 :: (hubX oh ++ (sedX os ++ (gvsX gs ++ rest)))))))))))  := by
    have e : hedX mx np hs ++ (hubX oh ++ (sedX os ++ (gvsX gs ++ rest))) = TXT.getD 0 [] ++ (32 :: (decL mx ++ (32 :: (decL np ++ (32 :: (decL hs ++ (59 :: (hubX oh ++ (sedX os ++ (gvsX gs ++ rest)))))))))) := by unfold hedX; simp
    rw [← e]; exact ht
  obtain ⟨t1, q1, h1, h2, h3, h4, h5⟩ := r_head (rd := ((ss (ss (ss (ss (ss (ss (ss rd.1 1 0) 2 0) 3 0) 5 0) 4 0) 6 0) 7 (-1)), tk0, ((sa rd.2.2.1 0 H1), none, rd.2.2.2.2.1, rd.2.2.2.2.2))) b2 hN ht2 hm hn hs12
  have hno : ∀ c p, c < 100 → p ≤ 4 → ¬ H1 c = nI p := fun c p hc hp q => by rw [x2 c hc] at q; exact nI_m1 (by omega) q.symm
  have hHH : HH mx np mx H1 (List.replicate np []) := by
    refine ⟨List.length_replicate, fun p hp => ?_, fun c hc => Or.inl (x2 c hc)⟩
    have e0 : (List.replicate np ([] : List Nat)).getD p [] = [] := by
      rw [List.getD_eq_getElem?_getD, List.getElem?_replicate]
      split <;> rfl
    have e1 : hL H1 p = [] := by
      rw [List.eq_nil_iff_forall_not_mem]
      intro c hc
      obtain ⟨hc, q⟩ := hL_mem.mp hc
      exact hno c p hc (by omega) q
    rw [e0, e1]
  generalize hrd1 : (((ss (ss (ss (ss (ss (ss (ss (ss (ss (ss rd.1 1 0) 2 0) 3 0) 5 0) 4 0) 6 0) 7 (-1)) 0 (nI mx)) 0 (nI np)) 0 (nI hs)), t1, ((ss (ss (ss (ss (ss (sa rd.2.2.1 0 H1) 0 (nI mx)) 3 (nI mx)) 4 1) 1 (nI np)) 2 (nI hs)), none, rd.2.2.2.2.1, rd.2.2.2.2.2)) : RS) = rd1
  have R1 : RI (rd.2.1.2 0) N q1 rd1 (hubX oh ++ (sedX os ++ (gvsX gs ++ rest))) mx np hs mx 1 (List.replicate np []) (fun i => if i = 1 then rd.2.2.1.2 1 else rd.2.2.1.1, none, rd.2.2.2.2) rd.2.1 := by
    subst hrd1
    exact ⟨h2, h3, ⟨rfl, rfl, rfl⟩, ⟨rfl, rfl, rfl, rfl, rfl⟩, hHH, rfl, h4.trans b3, h5.trans b4, rfl, fun k hk => by
      show upd (upd (upd (upd (upd rd.2.2.1.1 0 (nI mx)) 3 (nI mx)) 4 1) 1 (nI np)) 2 (nI hs) k = rd.2.2.1.1 k
      rw [upd_n (by omega), upd_n (by omega), upd_n (by omega), upd_n (by omega), upd_n (by omega)]⟩
  have z1 : rd1.1.1 1 = 0 := by subst hrd1; rfl
  have z2 : rd1.1.1 2 = 0 := by subst hrd1; rfl
  have z4 : rd1.1.1 4 = 0 := by subst hrd1; rfl
  have zH : ∀ c, c < 100 → rd1.2.2.1.2 0 c = -1 := by subst hrd1; exact x2
  obtain ⟨q2, rd2, k1, R2, y2, y4, hk1, l1, l1'⟩ := r_hubO (k := 0) hN hm.2 ho (by omega) zH hn.2 z1 z2 z4 R1
  obtain ⟨q3, rd3, k2, R3, hk2, l2, l2'⟩ := r_sedO (k := 0 + k1) hN hsd (by omega) y2 R2
  have hbo : oh.getD mx ≤ 9 := by
    cases oh with
    | none => exact hm.2
    | some v => have := ho v rfl; show v ≤ 9; omega
  obtain ⟨q4, rd4, R4, l3, l3'⟩ := r_gives hN hm.2 hn.2 hs12.2 hbo gs (0 + k1 + k2) q3 rd3 rest _ _ _ _ hg (by omega) R3
  have eF : FUEL = FUEL - k1 - k2 - gs.length + gs.length + k2 + k1 := by show 2000000 = 2000000 - k1 - k2 - gs.length + gs.length + k2 + k1; omega
  have eC : f_X1_clearHands rd.2.2 = some ((sa rd.2.2.1 0 H1), rd.2.2.2.1, rd.2.2.2.2.1, rd.2.2.2.2.2) := by
    unfold f_X1_clearHands
    rw [x1, bd1_S]
  refine ⟨q4, rd4, 0 + k1 + k2 + gs.length, FUEL - k1 - k2 - gs.length, ?_, by omega, R4, ?_, ?_⟩
  · show 2000000 - k1 - k2 - gs.length + (0 + k1 + k2 + gs.length) = 2000000; omega
  · unfold f_X3_read
    rw [eC, bd1_S, b1, bd1_S]
    show bd2 (f_X3_readHead ((ss (ss (ss (ss (ss (ss (ss rd.1 1 0) 2 0) 3 0) 5 0) 4 0) 6 0) 7 (-1)), tk0, ((sa rd.2.2.1 0 H1), none, rd.2.2.2.2.1, rd.2.2.2.2.2))) _ = _
    rw [h1, bd2_S]
    show itr3 f_X3_read_B65 FUEL 1 (nI 0) _ = _
    rw [show (((ss (ss (ss (ss (ss (ss (ss (ss (ss (ss rd.1 1 0) 2 0) 3 0) 5 0) 4 0) 6 0) 7 (-1)) 0 (nI mx)) 0 (nI np)) 0 (nI hs)), t1, ((ss (ss (ss (ss (ss (sa rd.2.2.1 0 H1) 0 (nI mx)) 3 (nI mx)) 4 1) 1 (nI np)) 2 (nI hs)), none, rd.2.2.2.2.1, rd.2.2.2.2.2)) : RS) = rd1 from hrd1, eF, l1, l2, l3]
    rw [← eF]
  · unfold g_X3_read
    rw [eC, bd1_S, b1, bd1_S]
    show bd2 (f_X3_readHead ((ss (ss (ss (ss (ss (ss (ss rd.1 1 0) 2 0) 3 0) 5 0) 4 0) 6 0) 7 (-1)), tk0, ((sa rd.2.2.1 0 H1), none, rd.2.2.2.2.1, rd.2.2.2.2.2))) _ = _
    rw [h1, bd2_S]
    show itr3 g_X3_read_B65 FUEL 1 (nI 0) _ = _
    rw [show (((ss (ss (ss (ss (ss (ss (ss (ss (ss (ss rd.1 1 0) 2 0) 3 0) 5 0) 4 0) 6 0) 7 (-1)) 0 (nI mx)) 0 (nI np)) 0 (nI hs)), t1, ((ss (ss (ss (ss (ss (sa rd.2.2.1 0 H1) 0 (nI mx)) 3 (nI mx)) 4 1) 1 (nI np)) 2 (nI hs)), none, rd.2.2.2.2.1, rd.2.2.2.2.2)) : RS) = rd1 from hrd1, eF, l1', l2', l3']
    rw [← eF]
