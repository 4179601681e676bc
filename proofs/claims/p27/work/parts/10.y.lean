/-! the give statements of a text -/
abbrev gvC (g : Nat × Nat × Nat) : Nat := 10 * min g.2.1 g.2.2 + max g.2.1 g.2.2
def gvX (g : Nat × Nat × Nat) : List Nat := TXT.getD 3 [] ++ (32 :: (decL g.1 ++ (32 :: (decL g.2.1 ++ (45 :: (decL g.2.2 ++ [59]))))))
def gvH (Hs : List (List Nat)) (g : Nat × Nat × Nat) : List (List Nat) := Hs.set g.1 (Hs.getD g.1 [] ++ [gvC g])
def gvOK (mx np hs hb : Nat) (Hs : List (List Nat)) (g : Nat × Nat × Nat) : Prop := g.1 < np ∧ g.2.1 ≤ mx ∧ g.2.2 ≤ mx ∧ ¬ gvC g = 11 * hb ∧ (Hs.getD g.1 []).length < hs ∧ ∀ q, q < np → ¬ gvC g ∈ Hs.getD q []
def gvsOK (mx np hs hb : Nat) : List (List Nat) → List (Nat × Nat × Nat) → Prop
  | _, [] => True
  | Hs, g :: gs => gvOK mx np hs hb Hs g ∧ gvsOK mx np hs hb (gvH Hs g) gs
def gvsX : List (Nat × Nat × Nat) → List Nat
  | [] => []
  | g :: gs => gvX g ++ gvsX gs
def gvsH (Hs : List (List Nat)) (gs : List (Nat × Nat × Nat)) : List (List Nat) := gs.foldl gvH Hs
/-- holders and hands tell the same, and nothing else is held -/
def HH (mx np hb : Nat) (H : Nat → Int32) (Hs : List (List Nat)) : Prop := Hs.length = np ∧ (∀ p, p < np → (Hs.getD p []).Perm (hL H p)) ∧ ∀ c, c < 100 → H c = -1 ∨ ((∃ p, p < np ∧ H c = nI p) ∧ inS mx c ∧ ¬ c = 11 * hb)
section RY
variable {mx np hs hb : Nat} {H : Nat → Int32} {Hs : List (List Nat)} {g : Nat × Nat × Nat}
theorem gv_in (hm : mx ≤ 9) (ha : g.2.1 ≤ mx) (hc : g.2.2 ≤ mx) : gvC g < 100 ∧ inS mx (gvC g) := by
  unfold inS gvC
  omega
theorem HH.free (h : HH mx np hb H Hs) (hm : mx ≤ 9) (ok : gvOK mx np hs hb Hs g) : H (gvC g) = -1 := by
  obtain ⟨h1, h2, h3⟩ := h
  obtain ⟨o1, o2, o3, o4, o5, o6⟩ := ok
  have hi := gv_in hm o2 o3
  refine (h3 _ hi.1).resolve_right fun z => ?_
  obtain ⟨⟨q, hq, e⟩, -⟩ := z
  exact o6 q hq ((h2 q hq).mem_iff.mpr (hL_mem.mpr ⟨hi.1, e⟩))
theorem HH.give (h : HH mx np hb H Hs) (hn4 : np ≤ 4) (hm : mx ≤ 9) (ok : gvOK mx np hs hb Hs g) : HH mx np hb (upd H (gvC g) (nI g.1)) (gvH Hs g) := by
  have hf := h.free hm ok
  obtain ⟨h1, h2, h3⟩ := h
  obtain ⟨o1, o2, o3, o4, o5, o6⟩ := ok
  have hi := gv_in hm o2 o3
  refine ⟨by unfold gvH; rw [List.length_set]; exact h1, perm_up h1 hn4 h2 o1 hi.1 hf, fun c hc => ?_⟩
  by_cases z : c = gvC g
  · rw [z, upd_s]; exact Or.inr ⟨⟨g.1, o1, rfl⟩, hi.2, o4⟩
  · rw [upd_n z]; exact h3 c hc
variable {b : Nat → Int32} {N : Nat}
/-- between two statements -/
def RI (b : Nat → Int32) (N p : Nat) (rd : RS) (r : List Nat) (mx np hs hb : Nat) (sd : Int32) (Hs : List (List Nat)) (G : (Nat → Nat → Int32) × Option Nat × SA × SA) (S : SA) : Prop :=
  CT rd.2.1 b N p ∧ TA b N p r ∧ (rd.1.1 3 = 0 ∧ rd.1.1 5 = 0 ∧ rd.1.1 6 = 0) ∧ (rd.2.2.1.1 0 = nI mx ∧ rd.2.2.1.1 1 = nI np ∧ rd.2.2.1.1 2 = nI hs ∧ rd.2.2.1.1 3 = nI hb ∧ rd.2.2.1.1 4 = sd) ∧
  HH mx np hb (rd.2.2.1.2 0) Hs ∧ rd.2.2.2 = G.2 ∧ rd.2.1.2 = S.2 ∧ rd.2.1.1 0 = S.1 0 ∧ rd.2.2.1.2 1 = G.1 1 ∧ ∀ k, 5 ≤ k → rd.2.2.1.1 k = G.1 0 k
theorem r_gives (hN : N ≤ 500) (hm : mx ≤ 9) (hn4 : np ≤ 4) (hs12 : hs ≤ 12) (hb9 : hb ≤ 9) : ∀ (gs : List (Nat × Nat × Nat)) (k p : Nat) (rd : RS) (r : List Nat) (sd : Int32) (Hs : List (List Nat)) (G : (Nat → Nat → Int32) × Option Nat × SA × SA) (S : SA), gvsOK mx np hs hb Hs gs → k + gs.length < 100 → RI b N p rd (gvsX gs ++ r) mx np hs hb sd Hs G S →
    ∃ q rd', RI b N q rd' r mx np hs hb sd (gvsH Hs gs) G S ∧ (∀ f, itr3 f_X3_read_B65 (f + gs.length) 1 (nI k) rd = itr3 f_X3_read_B65 f 1 (nI (k + gs.length)) rd') ∧ ∀ f, itr3 g_X3_read_B65 (f + gs.length) 1 (nI k) rd = itr3 g_X3_read_B65 f 1 (nI (k + gs.length)) rd'
  | [], k, p, rd, r, sd, Hs, G, S, _, _, h => ⟨p, rd, h, fun _ => rfl, fun _ => rfl⟩
  | g :: gs, k, p, rd, r, sd, Hs, G, S, ok, hk, h => by
    obtain ⟨ok1, ok2⟩ := ok
    obtain ⟨c, t, ⟨f3, f5, f6⟩, ⟨g0, g1, g2, g3, g4⟩, hh, e1, e2, e3, e4⟩ := h
    rw [List.length_cons] at hk
    have t : TA b N p (TXT.getD 3 [] ++ (32 :: (decL g.1 ++ (32 :: (decL g.2.1 ++ (45 :: (decL g.2.2 ++ (59 :: (gvsX gs ++ r)))))))) ) := by
      have e : gvsX (g :: gs) ++ r = TXT.getD 3 [] ++ (32 :: (decL g.1 ++ (32 :: (decL g.2.1 ++ (45 :: (decL g.2.2 ++ (59 :: (gvsX gs ++ r)))))))) := by
        show (gvX g ++ gvsX gs) ++ r = _
        unfold gvX
        simp
      rw [← e]; exact t
    have hfree := hh.free hm ok1
    have hh' := hh.give hn4 hm ok1
    obtain ⟨o1, o2, o3, o4, o5, o6⟩ := ok1
    have hcnt : hcN (rd.2.2.1.2 0) (nI g.1) < hs := by rw [← hL_len, ← (hh.2.1 g.1 o1).length_eq]; exact o5
    obtain ⟨tk1, q1, a1, a2, a3, a4, a5⟩ := r_give (k := gvC g) c hN t g0 hm g1 hn4 o1 g2 hs12 g3 hb9 o2 o3 rfl hfree o4 hcnt
    obtain ⟨tk2, b1, b2, b3, b4, b5, b6⟩ := r_step hN (r_kind c (w := 3) (by omega) t (nl_c (by decide))) a1 a2 a3 (k := k) (by omega)
    obtain ⟨q, rd', d1, d2, d3⟩ := r_gives hN hm hn4 hs12 hb9 gs (k + 1) (q1 + 1) (((ss (ss (ss (ss rd.1 4 1) 0 (nI g.1)) 0 (nI g.2.1)) 0 (nI g.2.2))), tk2, ((sa rd.2.2.1 0 (upd (rd.2.2.1.2 0) (gvC g) (nI g.1))), rd.2.2.2.1, rd.2.2.2.2.1, rd.2.2.2.2.2)) r sd (gvH Hs g) G S ok2 (by omega) ⟨b3, b4, ⟨f3, f5, f6⟩, ⟨g0, g1, g2, g3, g4⟩, hh', e1, (b5.trans a4).trans e2, (b6.trans a5).trans e3, e4⟩
    refine ⟨q, rd', d1, fun f => ?_, fun f => ?_⟩
    · rw [List.length_cons, show f + (gs.length + 1) = f + gs.length + 1 by omega, b1, show k + (gs.length + 1) = k + 1 + gs.length by omega, ← d2 f]
    · rw [List.length_cons, show f + (gs.length + 1) = f + gs.length + 1 by omega, b2, show k + (gs.length + 1) = k + 1 + gs.length by omega, ← d3 f]
end RY
