/-! the text: runs of bytes, tokens -/
def isSp (v : Int32) : Bool := decide (v = 32)
def isDg (v : Int32) : Bool := decide (¬ v < 48 ∧ ¬ (57 : Int32) < v)
def isLt (v : Int32) : Bool := decide (¬ v < 97 ∧ ¬ (122 : Int32) < v)
def rn (P : Int32 → Bool) (b : Nat → Int32) : Nat → Nat → Nat
  | 0, q => q
  | n + 1, q => if P (b q) = true then rn P b n (q + 1) else q
def en (P : Int32 → Bool) (b : Nat → Int32) (N q : Nat) : Nat := rn P b (N - q) q
section E
variable {P : Int32 → Bool} {b : Nat → Int32} {N q e : Nat}
theorem rn_ge : ∀ n q, q ≤ rn P b n q
  | 0, q => Nat.le_refl _
  | n + 1, q => by
    show q ≤ if P (b q) = true then rn P b n (q + 1) else q
    split
    · have := rn_ge n (q + 1); omega
    · exact Nat.le_refl _
theorem rn_le : ∀ n q, rn P b n q ≤ q + n
  | 0, q => Nat.le_refl _
  | n + 1, q => by
    show (if P (b q) = true then rn P b n (q + 1) else q) ≤ q + (n + 1)
    split
    · have := rn_le n (q + 1); omega
    · omega
theorem rn_all : ∀ n q k, q ≤ k → k < rn P b n q → P (b k) = true
  | 0, q, k, h1, h2 => absurd (show k < q from h2) (by omega)
  | n + 1, q, k, h1, h2 => by
    have h3 : k < if P (b q) = true then rn P b n (q + 1) else q := h2
    by_cases h : P (b q) = true
    · rw [if_pos h] at h3
      by_cases hk : k = q
      · rw [hk]; exact h
      · exact rn_all n (q + 1) k (by omega) h3
    · rw [if_neg h] at h3; omega
theorem rn_end : ∀ n q, rn P b n q < q + n → P (b (rn P b n q)) = false
  | 0, q, h => absurd (show q < q + 0 from h) (by omega)
  | n + 1, q, h => by
    have h3 : (if P (b q) = true then rn P b n (q + 1) else q) < q + (n + 1) := h
    show P (b (if P (b q) = true then rn P b n (q + 1) else q)) = false
    by_cases h1 : P (b q) = true
    · rw [if_pos h1] at h3 ⊢
      exact rn_end n (q + 1) (by omega)
    · rw [if_neg h1]
      exact Bool.eq_false_iff.mpr h1
theorem en_ge : q ≤ en P b N q := rn_ge _ _
theorem en_le (h : q ≤ N) : en P b N q ≤ N := by have := rn_le (P := P) (b := b) (N - q) q; unfold en; omega
theorem en_all {k : Nat} (h1 : q ≤ k) (h2 : k < en P b N q) : P (b k) = true := rn_all _ _ _ h1 h2
theorem en_end (h : q ≤ N) (h1 : en P b N q < N) : P (b (en P b N q)) = false := rn_end _ _ (by unfold en at h1; omega)
theorem en_eq (h1 : q ≤ e) (h2 : e ≤ N) (h3 : ∀ k, q ≤ k → k < e → P (b k) = true) (h4 : e = N ∨ P (b e) = false) : en P b N q = e := by
  have hge : q ≤ en P b N q := en_ge
  have hle : en P b N q ≤ N := en_le (by omega)
  rcases (show en P b N q < e ∨ en P b N q = e ∨ e < en P b N q by omega) with h | h | h
  · have a1 := h3 _ hge h
    have a2 := en_end (P := P) (b := b) (q := q) (N := N) (by omega) (by omega)
    rw [a1] at a2; exact absurd a2 (by decide)
  · exact h
  · have a1 := en_all (P := P) (b := b) h1 h
    rcases h4 with h4 | h4
    · omega
    · rw [a1] at h4; exact absurd h4 (by decide)
theorem en_N : en P b N N = N := en_eq (Nat.le_refl _) (Nat.le_refl _) (fun k h1 h2 => by omega) (Or.inl rfl)
theorem en_stop (h : q ≤ N) (h1 : P (b q) = false) : en P b N q = q := en_eq (Nat.le_refl _) h (fun k h1 h2 => by omega) (Or.inr h1)
theorem en_idem (h : q ≤ N) : en P b N (en P b N q) = en P b N q := by
  have hle := en_le (P := P) (b := b) h
  by_cases hN : en P b N q = N
  · rw [hN]; exact en_N
  · exact en_stop hle (en_end h (by omega))
theorem en_pos (h : q < N) (h1 : P (b q) = true) : q < en P b N q := by
  have h2 : q ≤ en P b N q := en_ge
  rcases (show q = en P b N q ∨ q < en P b N q by omega) with h3 | h3
  · have := en_end (P := P) (b := b) (q := q) (N := N) (by omega) (by omega)
    rw [← h3, h1] at this; exact absurd this (by decide)
  · exact h3
theorem en_npos (h : q ≤ N) (h1 : ¬ q < en P b N q) : q = N ∨ P (b q) = false := by
  by_cases hN : q = N
  · exact Or.inl hN
  · cases hp : P (b q) with
    | false => exact Or.inr rfl
    | true => exact absurd (en_pos (by omega) hp) h1
end E
theorem dg_of {v : Int32} (h : isDg v = true) : ∃ d, d < 10 ∧ v = nI (48 + d) := by
  obtain ⟨h1, h2⟩ := of_decide_eq_true h
  rw [Int32.lt_iff_toInt_lt] at h1 h2
  have a1 : (48 : Int32).toInt = 48 := by decide
  have a2 : (57 : Int32).toInt = 57 := by decide
  refine ⟨v.toInt.toNat - 48, by omega, ?_⟩
  apply Int32.toInt_inj.mp
  rw [nI_toInt (by omega)]
  omega
theorem dg_lt {v : Int32} (h : isDg v = true) : isLt v = false := by
  obtain ⟨d, hd, rfl⟩ := dg_of h
  have : ∀ d, d < 10 → isLt (nI (48 + d)) = false := by decide
  exact this d hd
/-- numbers as both sides read them -/
def stC (v : Nat) (x : Int32) : Nat := if v < 1000000 then 10 * v + (x.toNatClampNeg - 48) else v
def stM (v : Nat) (x : Int32) : Nat := min 100000000 (10 * v + (x.toNatClampNeg - 48))
def vF (c : Nat → Int32 → Nat) (b : Nat → Int32) (s : Nat) : Nat → Nat
  | 0 => 0
  | n + 1 => c (vF c b s n) (b (s + n))
theorem vF_both (b : Nat → Int32) (s : Nat) : ∀ n, (∀ k, s ≤ k → k < s + n → isDg (b k) = true) → (vF stC b s n = vF stM b s n ∧ vF stC b s n < 10000000) ∨ (1000000 ≤ vF stC b s n ∧ vF stC b s n < 10000000 ∧ 1000000 ≤ vF stM b s n ∧ vF stM b s n ≤ 100000000)
  | 0, _ => Or.inl ⟨rfl, by show 0 < 10000000; omega⟩
  | n + 1, h => by
    have ih := vF_both b s n (fun k h1 h2 => h k h1 (by omega))
    obtain ⟨d, hd, hb⟩ := dg_of (h (s + n) (by omega) (by omega))
    have e1 : vF stC b s (n + 1) = if vF stC b s n < 1000000 then 10 * vF stC b s n + d else vF stC b s n := by
      show stC _ _ = _
      unfold stC
      rw [hb, nI_clamp (by omega), show 48 + d - 48 = d by omega]
    have e2 : vF stM b s (n + 1) = min 100000000 (10 * vF stM b s n + d) := by
      show stM _ _ = _
      unfold stM
      rw [hb, nI_clamp (by omega), show 48 + d - 48 = d by omega]
    rw [e1, e2]
    by_cases hv : vF stC b s n < 1000000
    · rw [if_pos hv]
      rcases ih with ⟨i1, i2⟩ | ⟨i1, i2, i3, i4⟩
      · rw [← i1]; exact Or.inl ⟨by omega, by omega⟩
      · omega
    · rw [if_neg hv]
      rcases ih with ⟨i1, i2⟩ | ⟨i1, i2, i3, i4⟩
      · exact Or.inr ⟨by omega, by omega, by omega, by omega⟩
      · exact Or.inr ⟨by omega, by omega, by omega, by omega⟩
theorem vF_inR (b : Nat → Int32) (s n : Nat) (h : ∀ k, s ≤ k → k < s + n → isDg (b k) = true) {lo hi : Nat} (hh : hi ≤ 9999) : (lo ≤ vF stC b s n ∧ vF stC b s n ≤ hi ↔ lo ≤ vF stM b s n ∧ vF stM b s n ≤ hi) ∧ (vF stM b s n ≤ hi → vF stC b s n = vF stM b s n) := by
  rcases vF_both b s n h with ⟨i1, i2⟩ | ⟨i1, i2, i3, i4⟩
  · rw [i1]; exact ⟨Iff.rfl, fun _ => rfl⟩
  · exact ⟨by omega, by omega⟩
/-! the class's tokens -/
def kd (b : Nat → Int32) (N s : Nat) : Nat := if s < en isDg b N s then 1 else if s < en isLt b N s then 2 else if s < N then 3 else 0
def ed (b : Nat → Int32) (N s : Nat) : Nat := if s < en isDg b N s then en isDg b N s else if s < en isLt b N s then en isLt b N s else if s < N then s + 1 else N
theorem ed_le {b : Nat → Int32} {N s : Nat} (h : s ≤ N) : ed b N s ≤ N := by
  have h1 := en_le (P := isDg) (b := b) h
  have h2 := en_le (P := isLt) (b := b) h
  unfold ed
  split
  · exact h1
  · split
    · exact h2
    · split <;> omega
abbrev sp (b : Nat → Int32) (N p : Nat) : Nat := en isSp b N p
def CT (tk : SA) (b : Nat → Int32) (N p : Nat) : Prop := tk.1 1 = nI N ∧ tk.2 0 = b ∧ tk.1 3 = nI (sp b N p) ∧ tk.1 2 = nI (kd b N (sp b N p)) ∧ tk.1 4 = nI (ed b N (sp b N p)) ∧ (sp b N p < en isDg b N (sp b N p) → tk.1 5 = nI (vF stC b (sp b N p) (en isDg b N (sp b N p) - sp b N p)))
