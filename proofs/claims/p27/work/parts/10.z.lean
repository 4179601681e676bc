/-! hub and seed statements of a text, where they are told -/
def hubX : Option Nat → List Nat
  | none => []
  | some h => TXT.getD 1 [] ++ (32 :: (decL h ++ [59]))
def sedX : Option Nat → List Nat
  | none => []
  | some v => TXT.getD 2 [] ++ (32 :: (decL v ++ [59]))
def sedS (sd : Int32) : Option Nat → Int32
  | none => sd
  | some v => nI v
section RZ
variable {mx np hs hb : Nat} {b : Nat → Int32} {N : Nat}
/-- a reader between two statements, and which were told -/
theorem r_hubO (hN : N ≤ 500) (hm : mx ≤ 9) {o : Option Nat} (ho : ∀ v, o = some v → v ≤ mx) {p k : Nat} {rd : RS} {r : List Nat} {sd : Int32} {G : (Nat → Nat → Int32) × Option Nat × SA × SA} {S : SA} (hk : k < 50) (hH : ∀ c, c < 100 → rd.2.2.1.2 0 c = -1) (hnp : np ≤ 4) (h1 : rd.1.1 1 = 0) (h2 : rd.1.1 2 = 0) (h4 : rd.1.1 4 = 0) (h : RI b N p rd (hubX o ++ r) mx np hs hb sd (List.replicate np []) G S) :
    ∃ q rd' k', RI b N q rd' r mx np hs (o.getD hb) sd (List.replicate np []) G S ∧ rd'.1.1 2 = 0 ∧ rd'.1.1 4 = 0 ∧ k' ≤ 1 ∧ (∀ f, itr3 f_X3_read_B65 (f + k') 1 (nI k) rd = itr3 f_X3_read_B65 f 1 (nI (k + k')) rd') ∧ ∀ f, itr3 g_X3_read_B65 (f + k') 1 (nI k) rd = itr3 g_X3_read_B65 f 1 (nI (k + k')) rd' := by
  cases o with
  | none => exact ⟨p, rd, 0, h, h2, h4, Nat.zero_le _, fun _ => rfl, fun _ => rfl⟩
  | some v =>
    obtain ⟨c, t, ⟨f3, f5, f6⟩, ⟨g0, g1, g2, g3, g4⟩, hh, e1, e2, e3, e4⟩ := h
    have hv := ho v rfl
    have t : TA b N p (TXT.getD 1 [] ++ (32 :: (decL v ++ (59 :: r)))) := by
      have e : hubX (some v) ++ r = TXT.getD 1 [] ++ (32 :: (decL v ++ (59 :: r))) := by unfold hubX; simp
      rw [← e]; exact t
    obtain ⟨tk1, q1, a1, a2, a3, a4, a5⟩ := r_hub c hN t h1 h4 g0 hm hv
    obtain ⟨tk2, b1, b2, b3, b4, b5, b6⟩ := r_step hN (r_kind c (w := 1) (by omega) t (nl_c (by decide))) a1 a2 a3 (k := k) (by omega)
    refine ⟨q1 + 1, ((ss (ss rd.1 1 1) 0 (nI v)), tk2, ((ss rd.2.2.1 3 (nI v)), rd.2.2.2.1, rd.2.2.2.2.1, rd.2.2.2.2.2)), 1, ⟨b3, b4, ⟨f3, f5, f6⟩, ⟨g0, g1, g2, rfl, g4⟩, ⟨hh.1, hh.2.1, fun c hc => Or.inl (hH c hc)⟩, e1, (b5.trans a4).trans e2, (b6.trans a5).trans e3, e4.1, fun k hk => (upd_n (by omega)).trans (e4.2 k hk)⟩, h2, h4, Nat.le_refl _, b1, b2⟩
theorem r_sedO (hN : N ≤ 500) {o : Option Nat} (ho : ∀ v, o = some v → v ≤ 9999) {p k : Nat} {rd : RS} {r : List Nat} {sd : Int32} {Hs : List (List Nat)} {G : (Nat → Nat → Int32) × Option Nat × SA × SA} {S : SA} (hk : k < 50) (h2 : rd.1.1 2 = 0) (h : RI b N p rd (sedX o ++ r) mx np hs hb sd Hs G S) :
    ∃ q rd' k', RI b N q rd' r mx np hs hb (sedS sd o) Hs G S ∧ k' ≤ 1 ∧ (∀ f, itr3 f_X3_read_B65 (f + k') 1 (nI k) rd = itr3 f_X3_read_B65 f 1 (nI (k + k')) rd') ∧ ∀ f, itr3 g_X3_read_B65 (f + k') 1 (nI k) rd = itr3 g_X3_read_B65 f 1 (nI (k + k')) rd' := by
  cases o with
  | none => exact ⟨p, rd, 0, h, Nat.zero_le _, fun _ => rfl, fun _ => rfl⟩
  | some v =>
    obtain ⟨c, t, ⟨f3, f5, f6⟩, ⟨g0, g1, g2, g3, g4⟩, hh, e1, e2, e3, e4⟩ := h
    have hv := ho v rfl
    have t : TA b N p (TXT.getD 2 [] ++ (32 :: (decL v ++ (59 :: r)))) := by
      have e : sedX (some v) ++ r = TXT.getD 2 [] ++ (32 :: (decL v ++ (59 :: r))) := by unfold sedX; simp
      rw [← e]; exact t
    obtain ⟨tk1, q1, a1, a2, a3, a4, a5⟩ := r_seed c hN t h2 hv
    obtain ⟨tk2, b1, b2, b3, b4, b5, b6⟩ := r_step hN (r_kind c (w := 2) (by omega) t (nl_c (by decide))) a1 a2 a3 (k := k) (by omega)
    exact ⟨q1 + 1, ((ss (ss rd.1 2 1) 0 (nI v)), tk2, ((ss rd.2.2.1 4 (nI v)), rd.2.2.2.1, rd.2.2.2.2.1, rd.2.2.2.2.2)), 1, ⟨b3, b4, ⟨f3, f5, f6⟩, ⟨g0, g1, g2, g3, rfl⟩, hh, e1, (b5.trans a4).trans e2, (b6.trans a5).trans e3, e4.1, fun k hk => (upd_n (by omega)).trans (e4.2 k hk)⟩, Nat.le_refl _, b1, b2⟩
end RZ
