/-! loops of predicates -/
def itP1 {A0 : Type} (B : (A0 → Prop) → (A0 → Prop)) : Nat → (A0 → Prop)
  | 0 => fun _ => False
  | k + 1 => B (itP1 B k)
theorem cpL1 {A0 : Type} {B : (A0 → Prop) → (A0 → Prop)} (I : Nat → A0 → Prop) (e : Nat) (hx : ∀ (rec : A0 → Prop) (a0 : A0), I e a0 → B rec a0) (hs : ∀ (rec : A0 → Prop) (i : Nat) (a0 : A0), i < e → I i a0 → (∀ (b0 : A0), I (i + 1) b0 → rec b0) → B rec a0) (i0 : Nat) (hi : i0 ≤ e) (a0 : A0) (h0 : I i0 a0) : ∃ n, itP1 B n a0 := by
  refine ⟨e - i0 + 1, ?_⟩
  have key : ∀ (d i : Nat) (a0 : A0), i + d = e → I i a0 → itP1 B (d + 1) a0 := by
    intro d
    induction d with
    | zero => intro i a0 hd hI; exact hx _ a0 (by rw [show e = i by omega]; exact hI)
    | succ d ih => intro i a0 hd hI; exact hs _ i a0 (by omega) hI (fun b0 hb => ih (i + 1) b0 (by omega) hb)
  exact key (e - i0) i0 a0 (by omega) h0
theorem cpM1 {A0 : Type} {B : (A0 → Prop) → (A0 → Prop)} (I : Nat → A0 → Prop) (hs : ∀ (rec : A0 → Prop) (m : Nat) (a0 : A0), I m a0 → (∀ (k : Nat) (b0 : A0), k < m → I k b0 → rec b0) → B rec a0) (m : Nat) (a0 : A0) (h0 : I m a0) : ∃ n, itP1 B n a0 := by
  have key : ∀ (d m : Nat) (a0 : A0), m < d → I m a0 → itP1 B d a0 := by
    intro d
    induction d with
    | zero => intro m a0 hd; omega
    | succ d ih => intro m a0 hd hI; exact hs _ m a0 hI (fun k b0 hk hb => ih k b0 (by omega) hb)
  exact ⟨m + 1, key (m + 1) m a0 (Nat.lt_succ_self m) h0⟩
def itP2 {A0 A1 : Type} (B : (A0 → A1 → Prop) → (A0 → A1 → Prop)) : Nat → (A0 → A1 → Prop)
  | 0 => fun _ _ => False
  | k + 1 => B (itP2 B k)
theorem cpL2 {A0 A1 : Type} {B : (A0 → A1 → Prop) → (A0 → A1 → Prop)} (I : Nat → A0 → A1 → Prop) (e : Nat) (hx : ∀ (rec : A0 → A1 → Prop) (a0 : A0) (a1 : A1), I e a0 a1 → B rec a0 a1) (hs : ∀ (rec : A0 → A1 → Prop) (i : Nat) (a0 : A0) (a1 : A1), i < e → I i a0 a1 → (∀ (b0 : A0) (b1 : A1), I (i + 1) b0 b1 → rec b0 b1) → B rec a0 a1) (i0 : Nat) (hi : i0 ≤ e) (a0 : A0) (a1 : A1) (h0 : I i0 a0 a1) : ∃ n, itP2 B n a0 a1 := by
  refine ⟨e - i0 + 1, ?_⟩
  have key : ∀ (d i : Nat) (a0 : A0) (a1 : A1), i + d = e → I i a0 a1 → itP2 B (d + 1) a0 a1 := by
    intro d
    induction d with
    | zero => intro i a0 a1 hd hI; exact hx _ a0 a1 (by rw [show e = i by omega]; exact hI)
    | succ d ih => intro i a0 a1 hd hI; exact hs _ i a0 a1 (by omega) hI (fun b0 b1 hb => ih (i + 1) b0 b1 (by omega) hb)
  exact key (e - i0) i0 a0 a1 (by omega) h0
theorem cpM2 {A0 A1 : Type} {B : (A0 → A1 → Prop) → (A0 → A1 → Prop)} (I : Nat → A0 → A1 → Prop) (hs : ∀ (rec : A0 → A1 → Prop) (m : Nat) (a0 : A0) (a1 : A1), I m a0 a1 → (∀ (k : Nat) (b0 : A0) (b1 : A1), k < m → I k b0 b1 → rec b0 b1) → B rec a0 a1) (m : Nat) (a0 : A0) (a1 : A1) (h0 : I m a0 a1) : ∃ n, itP2 B n a0 a1 := by
  have key : ∀ (d m : Nat) (a0 : A0) (a1 : A1), m < d → I m a0 a1 → itP2 B d a0 a1 := by
    intro d
    induction d with
    | zero => intro m a0 a1 hd; omega
    | succ d ih => intro m a0 a1 hd hI; exact hs _ m a0 a1 hI (fun k b0 b1 hk hb => ih k b0 b1 (by omega) hb)
  exact ⟨m + 1, key (m + 1) m a0 a1 (Nat.lt_succ_self m) h0⟩
def itP3 {A0 A1 A2 : Type} (B : (A0 → A1 → A2 → Prop) → (A0 → A1 → A2 → Prop)) : Nat → (A0 → A1 → A2 → Prop)
  | 0 => fun _ _ _ => False
  | k + 1 => B (itP3 B k)
theorem cpL3 {A0 A1 A2 : Type} {B : (A0 → A1 → A2 → Prop) → (A0 → A1 → A2 → Prop)} (I : Nat → A0 → A1 → A2 → Prop) (e : Nat) (hx : ∀ (rec : A0 → A1 → A2 → Prop) (a0 : A0) (a1 : A1) (a2 : A2), I e a0 a1 a2 → B rec a0 a1 a2) (hs : ∀ (rec : A0 → A1 → A2 → Prop) (i : Nat) (a0 : A0) (a1 : A1) (a2 : A2), i < e → I i a0 a1 a2 → (∀ (b0 : A0) (b1 : A1) (b2 : A2), I (i + 1) b0 b1 b2 → rec b0 b1 b2) → B rec a0 a1 a2) (i0 : Nat) (hi : i0 ≤ e) (a0 : A0) (a1 : A1) (a2 : A2) (h0 : I i0 a0 a1 a2) : ∃ n, itP3 B n a0 a1 a2 := by
  refine ⟨e - i0 + 1, ?_⟩
  have key : ∀ (d i : Nat) (a0 : A0) (a1 : A1) (a2 : A2), i + d = e → I i a0 a1 a2 → itP3 B (d + 1) a0 a1 a2 := by
    intro d
    induction d with
    | zero => intro i a0 a1 a2 hd hI; exact hx _ a0 a1 a2 (by rw [show e = i by omega]; exact hI)
    | succ d ih => intro i a0 a1 a2 hd hI; exact hs _ i a0 a1 a2 (by omega) hI (fun b0 b1 b2 hb => ih (i + 1) b0 b1 b2 (by omega) hb)
  exact key (e - i0) i0 a0 a1 a2 (by omega) h0
theorem cpM3 {A0 A1 A2 : Type} {B : (A0 → A1 → A2 → Prop) → (A0 → A1 → A2 → Prop)} (I : Nat → A0 → A1 → A2 → Prop) (hs : ∀ (rec : A0 → A1 → A2 → Prop) (m : Nat) (a0 : A0) (a1 : A1) (a2 : A2), I m a0 a1 a2 → (∀ (k : Nat) (b0 : A0) (b1 : A1) (b2 : A2), k < m → I k b0 b1 b2 → rec b0 b1 b2) → B rec a0 a1 a2) (m : Nat) (a0 : A0) (a1 : A1) (a2 : A2) (h0 : I m a0 a1 a2) : ∃ n, itP3 B n a0 a1 a2 := by
  have key : ∀ (d m : Nat) (a0 : A0) (a1 : A1) (a2 : A2), m < d → I m a0 a1 a2 → itP3 B d a0 a1 a2 := by
    intro d
    induction d with
    | zero => intro m a0 a1 a2 hd; omega
    | succ d ih => intro m a0 a1 a2 hd hI; exact hs _ m a0 a1 a2 hI (fun k b0 b1 b2 hk hb => ih k b0 b1 b2 (by omega) hb)
  exact ⟨m + 1, key (m + 1) m a0 a1 a2 (Nat.lt_succ_self m) h0⟩
def itP4 {A0 A1 A2 A3 : Type} (B : (A0 → A1 → A2 → A3 → Prop) → (A0 → A1 → A2 → A3 → Prop)) : Nat → (A0 → A1 → A2 → A3 → Prop)
  | 0 => fun _ _ _ _ => False
  | k + 1 => B (itP4 B k)
theorem cpL4 {A0 A1 A2 A3 : Type} {B : (A0 → A1 → A2 → A3 → Prop) → (A0 → A1 → A2 → A3 → Prop)} (I : Nat → A0 → A1 → A2 → A3 → Prop) (e : Nat) (hx : ∀ (rec : A0 → A1 → A2 → A3 → Prop) (a0 : A0) (a1 : A1) (a2 : A2) (a3 : A3), I e a0 a1 a2 a3 → B rec a0 a1 a2 a3) (hs : ∀ (rec : A0 → A1 → A2 → A3 → Prop) (i : Nat) (a0 : A0) (a1 : A1) (a2 : A2) (a3 : A3), i < e → I i a0 a1 a2 a3 → (∀ (b0 : A0) (b1 : A1) (b2 : A2) (b3 : A3), I (i + 1) b0 b1 b2 b3 → rec b0 b1 b2 b3) → B rec a0 a1 a2 a3) (i0 : Nat) (hi : i0 ≤ e) (a0 : A0) (a1 : A1) (a2 : A2) (a3 : A3) (h0 : I i0 a0 a1 a2 a3) : ∃ n, itP4 B n a0 a1 a2 a3 := by
  refine ⟨e - i0 + 1, ?_⟩
  have key : ∀ (d i : Nat) (a0 : A0) (a1 : A1) (a2 : A2) (a3 : A3), i + d = e → I i a0 a1 a2 a3 → itP4 B (d + 1) a0 a1 a2 a3 := by
    intro d
    induction d with
    | zero => intro i a0 a1 a2 a3 hd hI; exact hx _ a0 a1 a2 a3 (by rw [show e = i by omega]; exact hI)
    | succ d ih => intro i a0 a1 a2 a3 hd hI; exact hs _ i a0 a1 a2 a3 (by omega) hI (fun b0 b1 b2 b3 hb => ih (i + 1) b0 b1 b2 b3 (by omega) hb)
  exact key (e - i0) i0 a0 a1 a2 a3 (by omega) h0
theorem cpM4 {A0 A1 A2 A3 : Type} {B : (A0 → A1 → A2 → A3 → Prop) → (A0 → A1 → A2 → A3 → Prop)} (I : Nat → A0 → A1 → A2 → A3 → Prop) (hs : ∀ (rec : A0 → A1 → A2 → A3 → Prop) (m : Nat) (a0 : A0) (a1 : A1) (a2 : A2) (a3 : A3), I m a0 a1 a2 a3 → (∀ (k : Nat) (b0 : A0) (b1 : A1) (b2 : A2) (b3 : A3), k < m → I k b0 b1 b2 b3 → rec b0 b1 b2 b3) → B rec a0 a1 a2 a3) (m : Nat) (a0 : A0) (a1 : A1) (a2 : A2) (a3 : A3) (h0 : I m a0 a1 a2 a3) : ∃ n, itP4 B n a0 a1 a2 a3 := by
  have key : ∀ (d m : Nat) (a0 : A0) (a1 : A1) (a2 : A2) (a3 : A3), m < d → I m a0 a1 a2 a3 → itP4 B d a0 a1 a2 a3 := by
    intro d
    induction d with
    | zero => intro m a0 a1 a2 a3 hd; omega
    | succ d ih => intro m a0 a1 a2 a3 hd hI; exact hs _ m a0 a1 a2 a3 hI (fun k b0 b1 b2 b3 hk hb => ih k b0 b1 b2 b3 (by omega) hb)
  exact ⟨m + 1, key (m + 1) m a0 a1 a2 a3 (Nat.lt_succ_self m) h0⟩
def itP5 {A0 A1 A2 A3 A4 : Type} (B : (A0 → A1 → A2 → A3 → A4 → Prop) → (A0 → A1 → A2 → A3 → A4 → Prop)) : Nat → (A0 → A1 → A2 → A3 → A4 → Prop)
  | 0 => fun _ _ _ _ _ => False
  | k + 1 => B (itP5 B k)
theorem cpL5 {A0 A1 A2 A3 A4 : Type} {B : (A0 → A1 → A2 → A3 → A4 → Prop) → (A0 → A1 → A2 → A3 → A4 → Prop)} (I : Nat → A0 → A1 → A2 → A3 → A4 → Prop) (e : Nat) (hx : ∀ (rec : A0 → A1 → A2 → A3 → A4 → Prop) (a0 : A0) (a1 : A1) (a2 : A2) (a3 : A3) (a4 : A4), I e a0 a1 a2 a3 a4 → B rec a0 a1 a2 a3 a4) (hs : ∀ (rec : A0 → A1 → A2 → A3 → A4 → Prop) (i : Nat) (a0 : A0) (a1 : A1) (a2 : A2) (a3 : A3) (a4 : A4), i < e → I i a0 a1 a2 a3 a4 → (∀ (b0 : A0) (b1 : A1) (b2 : A2) (b3 : A3) (b4 : A4), I (i + 1) b0 b1 b2 b3 b4 → rec b0 b1 b2 b3 b4) → B rec a0 a1 a2 a3 a4) (i0 : Nat) (hi : i0 ≤ e) (a0 : A0) (a1 : A1) (a2 : A2) (a3 : A3) (a4 : A4) (h0 : I i0 a0 a1 a2 a3 a4) : ∃ n, itP5 B n a0 a1 a2 a3 a4 := by
  refine ⟨e - i0 + 1, ?_⟩
  have key : ∀ (d i : Nat) (a0 : A0) (a1 : A1) (a2 : A2) (a3 : A3) (a4 : A4), i + d = e → I i a0 a1 a2 a3 a4 → itP5 B (d + 1) a0 a1 a2 a3 a4 := by
    intro d
    induction d with
    | zero => intro i a0 a1 a2 a3 a4 hd hI; exact hx _ a0 a1 a2 a3 a4 (by rw [show e = i by omega]; exact hI)
    | succ d ih => intro i a0 a1 a2 a3 a4 hd hI; exact hs _ i a0 a1 a2 a3 a4 (by omega) hI (fun b0 b1 b2 b3 b4 hb => ih (i + 1) b0 b1 b2 b3 b4 (by omega) hb)
  exact key (e - i0) i0 a0 a1 a2 a3 a4 (by omega) h0
theorem cpM5 {A0 A1 A2 A3 A4 : Type} {B : (A0 → A1 → A2 → A3 → A4 → Prop) → (A0 → A1 → A2 → A3 → A4 → Prop)} (I : Nat → A0 → A1 → A2 → A3 → A4 → Prop) (hs : ∀ (rec : A0 → A1 → A2 → A3 → A4 → Prop) (m : Nat) (a0 : A0) (a1 : A1) (a2 : A2) (a3 : A3) (a4 : A4), I m a0 a1 a2 a3 a4 → (∀ (k : Nat) (b0 : A0) (b1 : A1) (b2 : A2) (b3 : A3) (b4 : A4), k < m → I k b0 b1 b2 b3 b4 → rec b0 b1 b2 b3 b4) → B rec a0 a1 a2 a3 a4) (m : Nat) (a0 : A0) (a1 : A1) (a2 : A2) (a3 : A3) (a4 : A4) (h0 : I m a0 a1 a2 a3 a4) : ∃ n, itP5 B n a0 a1 a2 a3 a4 := by
  have key : ∀ (d m : Nat) (a0 : A0) (a1 : A1) (a2 : A2) (a3 : A3) (a4 : A4), m < d → I m a0 a1 a2 a3 a4 → itP5 B d a0 a1 a2 a3 a4 := by
    intro d
    induction d with
    | zero => intro m a0 a1 a2 a3 a4 hd; omega
    | succ d ih => intro m a0 a1 a2 a3 a4 hd hI; exact hs _ m a0 a1 a2 a3 a4 hI (fun k b0 b1 b2 b3 b4 hk hb => ih k b0 b1 b2 b3 b4 (by omega) hb)
  exact ⟨m + 1, key (m + 1) m a0 a1 a2 a3 a4 (Nat.lt_succ_self m) h0⟩
def itP6 {A0 A1 A2 A3 A4 A5 : Type} (B : (A0 → A1 → A2 → A3 → A4 → A5 → Prop) → (A0 → A1 → A2 → A3 → A4 → A5 → Prop)) : Nat → (A0 → A1 → A2 → A3 → A4 → A5 → Prop)
  | 0 => fun _ _ _ _ _ _ => False
  | k + 1 => B (itP6 B k)
theorem cpL6 {A0 A1 A2 A3 A4 A5 : Type} {B : (A0 → A1 → A2 → A3 → A4 → A5 → Prop) → (A0 → A1 → A2 → A3 → A4 → A5 → Prop)} (I : Nat → A0 → A1 → A2 → A3 → A4 → A5 → Prop) (e : Nat) (hx : ∀ (rec : A0 → A1 → A2 → A3 → A4 → A5 → Prop) (a0 : A0) (a1 : A1) (a2 : A2) (a3 : A3) (a4 : A4) (a5 : A5), I e a0 a1 a2 a3 a4 a5 → B rec a0 a1 a2 a3 a4 a5) (hs : ∀ (rec : A0 → A1 → A2 → A3 → A4 → A5 → Prop) (i : Nat) (a0 : A0) (a1 : A1) (a2 : A2) (a3 : A3) (a4 : A4) (a5 : A5), i < e → I i a0 a1 a2 a3 a4 a5 → (∀ (b0 : A0) (b1 : A1) (b2 : A2) (b3 : A3) (b4 : A4) (b5 : A5), I (i + 1) b0 b1 b2 b3 b4 b5 → rec b0 b1 b2 b3 b4 b5) → B rec a0 a1 a2 a3 a4 a5) (i0 : Nat) (hi : i0 ≤ e) (a0 : A0) (a1 : A1) (a2 : A2) (a3 : A3) (a4 : A4) (a5 : A5) (h0 : I i0 a0 a1 a2 a3 a4 a5) : ∃ n, itP6 B n a0 a1 a2 a3 a4 a5 := by
  refine ⟨e - i0 + 1, ?_⟩
  have key : ∀ (d i : Nat) (a0 : A0) (a1 : A1) (a2 : A2) (a3 : A3) (a4 : A4) (a5 : A5), i + d = e → I i a0 a1 a2 a3 a4 a5 → itP6 B (d + 1) a0 a1 a2 a3 a4 a5 := by
    intro d
    induction d with
    | zero => intro i a0 a1 a2 a3 a4 a5 hd hI; exact hx _ a0 a1 a2 a3 a4 a5 (by rw [show e = i by omega]; exact hI)
    | succ d ih => intro i a0 a1 a2 a3 a4 a5 hd hI; exact hs _ i a0 a1 a2 a3 a4 a5 (by omega) hI (fun b0 b1 b2 b3 b4 b5 hb => ih (i + 1) b0 b1 b2 b3 b4 b5 (by omega) hb)
  exact key (e - i0) i0 a0 a1 a2 a3 a4 a5 (by omega) h0
theorem cpM6 {A0 A1 A2 A3 A4 A5 : Type} {B : (A0 → A1 → A2 → A3 → A4 → A5 → Prop) → (A0 → A1 → A2 → A3 → A4 → A5 → Prop)} (I : Nat → A0 → A1 → A2 → A3 → A4 → A5 → Prop) (hs : ∀ (rec : A0 → A1 → A2 → A3 → A4 → A5 → Prop) (m : Nat) (a0 : A0) (a1 : A1) (a2 : A2) (a3 : A3) (a4 : A4) (a5 : A5), I m a0 a1 a2 a3 a4 a5 → (∀ (k : Nat) (b0 : A0) (b1 : A1) (b2 : A2) (b3 : A3) (b4 : A4) (b5 : A5), k < m → I k b0 b1 b2 b3 b4 b5 → rec b0 b1 b2 b3 b4 b5) → B rec a0 a1 a2 a3 a4 a5) (m : Nat) (a0 : A0) (a1 : A1) (a2 : A2) (a3 : A3) (a4 : A4) (a5 : A5) (h0 : I m a0 a1 a2 a3 a4 a5) : ∃ n, itP6 B n a0 a1 a2 a3 a4 a5 := by
  have key : ∀ (d m : Nat) (a0 : A0) (a1 : A1) (a2 : A2) (a3 : A3) (a4 : A4) (a5 : A5), m < d → I m a0 a1 a2 a3 a4 a5 → itP6 B d a0 a1 a2 a3 a4 a5 := by
    intro d
    induction d with
    | zero => intro m a0 a1 a2 a3 a4 a5 hd; omega
    | succ d ih => intro m a0 a1 a2 a3 a4 a5 hd hI; exact hs _ m a0 a1 a2 a3 a4 a5 hI (fun k b0 b1 b2 b3 b4 b5 hk hb => ih k b0 b1 b2 b3 b4 b5 (by omega) hb)
  exact ⟨m + 1, key (m + 1) m a0 a1 a2 a3 a4 a5 (Nat.lt_succ_self m) h0⟩
def itP7 {A0 A1 A2 A3 A4 A5 A6 : Type} (B : (A0 → A1 → A2 → A3 → A4 → A5 → A6 → Prop) → (A0 → A1 → A2 → A3 → A4 → A5 → A6 → Prop)) : Nat → (A0 → A1 → A2 → A3 → A4 → A5 → A6 → Prop)
  | 0 => fun _ _ _ _ _ _ _ => False
  | k + 1 => B (itP7 B k)
theorem cpL7 {A0 A1 A2 A3 A4 A5 A6 : Type} {B : (A0 → A1 → A2 → A3 → A4 → A5 → A6 → Prop) → (A0 → A1 → A2 → A3 → A4 → A5 → A6 → Prop)} (I : Nat → A0 → A1 → A2 → A3 → A4 → A5 → A6 → Prop) (e : Nat) (hx : ∀ (rec : A0 → A1 → A2 → A3 → A4 → A5 → A6 → Prop) (a0 : A0) (a1 : A1) (a2 : A2) (a3 : A3) (a4 : A4) (a5 : A5) (a6 : A6), I e a0 a1 a2 a3 a4 a5 a6 → B rec a0 a1 a2 a3 a4 a5 a6) (hs : ∀ (rec : A0 → A1 → A2 → A3 → A4 → A5 → A6 → Prop) (i : Nat) (a0 : A0) (a1 : A1) (a2 : A2) (a3 : A3) (a4 : A4) (a5 : A5) (a6 : A6), i < e → I i a0 a1 a2 a3 a4 a5 a6 → (∀ (b0 : A0) (b1 : A1) (b2 : A2) (b3 : A3) (b4 : A4) (b5 : A5) (b6 : A6), I (i + 1) b0 b1 b2 b3 b4 b5 b6 → rec b0 b1 b2 b3 b4 b5 b6) → B rec a0 a1 a2 a3 a4 a5 a6) (i0 : Nat) (hi : i0 ≤ e) (a0 : A0) (a1 : A1) (a2 : A2) (a3 : A3) (a4 : A4) (a5 : A5) (a6 : A6) (h0 : I i0 a0 a1 a2 a3 a4 a5 a6) : ∃ n, itP7 B n a0 a1 a2 a3 a4 a5 a6 := by
  refine ⟨e - i0 + 1, ?_⟩
  have key : ∀ (d i : Nat) (a0 : A0) (a1 : A1) (a2 : A2) (a3 : A3) (a4 : A4) (a5 : A5) (a6 : A6), i + d = e → I i a0 a1 a2 a3 a4 a5 a6 → itP7 B (d + 1) a0 a1 a2 a3 a4 a5 a6 := by
    intro d
    induction d with
    | zero => intro i a0 a1 a2 a3 a4 a5 a6 hd hI; exact hx _ a0 a1 a2 a3 a4 a5 a6 (by rw [show e = i by omega]; exact hI)
    | succ d ih => intro i a0 a1 a2 a3 a4 a5 a6 hd hI; exact hs _ i a0 a1 a2 a3 a4 a5 a6 (by omega) hI (fun b0 b1 b2 b3 b4 b5 b6 hb => ih (i + 1) b0 b1 b2 b3 b4 b5 b6 (by omega) hb)
  exact key (e - i0) i0 a0 a1 a2 a3 a4 a5 a6 (by omega) h0
theorem cpM7 {A0 A1 A2 A3 A4 A5 A6 : Type} {B : (A0 → A1 → A2 → A3 → A4 → A5 → A6 → Prop) → (A0 → A1 → A2 → A3 → A4 → A5 → A6 → Prop)} (I : Nat → A0 → A1 → A2 → A3 → A4 → A5 → A6 → Prop) (hs : ∀ (rec : A0 → A1 → A2 → A3 → A4 → A5 → A6 → Prop) (m : Nat) (a0 : A0) (a1 : A1) (a2 : A2) (a3 : A3) (a4 : A4) (a5 : A5) (a6 : A6), I m a0 a1 a2 a3 a4 a5 a6 → (∀ (k : Nat) (b0 : A0) (b1 : A1) (b2 : A2) (b3 : A3) (b4 : A4) (b5 : A5) (b6 : A6), k < m → I k b0 b1 b2 b3 b4 b5 b6 → rec b0 b1 b2 b3 b4 b5 b6) → B rec a0 a1 a2 a3 a4 a5 a6) (m : Nat) (a0 : A0) (a1 : A1) (a2 : A2) (a3 : A3) (a4 : A4) (a5 : A5) (a6 : A6) (h0 : I m a0 a1 a2 a3 a4 a5 a6) : ∃ n, itP7 B n a0 a1 a2 a3 a4 a5 a6 := by
  have key : ∀ (d m : Nat) (a0 : A0) (a1 : A1) (a2 : A2) (a3 : A3) (a4 : A4) (a5 : A5) (a6 : A6), m < d → I m a0 a1 a2 a3 a4 a5 a6 → itP7 B d a0 a1 a2 a3 a4 a5 a6 := by
    intro d
    induction d with
    | zero => intro m a0 a1 a2 a3 a4 a5 a6 hd; omega
    | succ d ih => intro m a0 a1 a2 a3 a4 a5 a6 hd hI; exact hs _ m a0 a1 a2 a3 a4 a5 a6 hI (fun k b0 b1 b2 b3 b4 b5 b6 hk hb => ih k b0 b1 b2 b3 b4 b5 b6 (by omega) hb)
  exact ⟨m + 1, key (m + 1) m a0 a1 a2 a3 a4 a5 a6 (Nat.lt_succ_self m) h0⟩
def itP8 {A0 A1 A2 A3 A4 A5 A6 A7 : Type} (B : (A0 → A1 → A2 → A3 → A4 → A5 → A6 → A7 → Prop) → (A0 → A1 → A2 → A3 → A4 → A5 → A6 → A7 → Prop)) : Nat → (A0 → A1 → A2 → A3 → A4 → A5 → A6 → A7 → Prop)
  | 0 => fun _ _ _ _ _ _ _ _ => False
  | k + 1 => B (itP8 B k)
theorem cpL8 {A0 A1 A2 A3 A4 A5 A6 A7 : Type} {B : (A0 → A1 → A2 → A3 → A4 → A5 → A6 → A7 → Prop) → (A0 → A1 → A2 → A3 → A4 → A5 → A6 → A7 → Prop)} (I : Nat → A0 → A1 → A2 → A3 → A4 → A5 → A6 → A7 → Prop) (e : Nat) (hx : ∀ (rec : A0 → A1 → A2 → A3 → A4 → A5 → A6 → A7 → Prop) (a0 : A0) (a1 : A1) (a2 : A2) (a3 : A3) (a4 : A4) (a5 : A5) (a6 : A6) (a7 : A7), I e a0 a1 a2 a3 a4 a5 a6 a7 → B rec a0 a1 a2 a3 a4 a5 a6 a7) (hs : ∀ (rec : A0 → A1 → A2 → A3 → A4 → A5 → A6 → A7 → Prop) (i : Nat) (a0 : A0) (a1 : A1) (a2 : A2) (a3 : A3) (a4 : A4) (a5 : A5) (a6 : A6) (a7 : A7), i < e → I i a0 a1 a2 a3 a4 a5 a6 a7 → (∀ (b0 : A0) (b1 : A1) (b2 : A2) (b3 : A3) (b4 : A4) (b5 : A5) (b6 : A6) (b7 : A7), I (i + 1) b0 b1 b2 b3 b4 b5 b6 b7 → rec b0 b1 b2 b3 b4 b5 b6 b7) → B rec a0 a1 a2 a3 a4 a5 a6 a7) (i0 : Nat) (hi : i0 ≤ e) (a0 : A0) (a1 : A1) (a2 : A2) (a3 : A3) (a4 : A4) (a5 : A5) (a6 : A6) (a7 : A7) (h0 : I i0 a0 a1 a2 a3 a4 a5 a6 a7) : ∃ n, itP8 B n a0 a1 a2 a3 a4 a5 a6 a7 := by
  refine ⟨e - i0 + 1, ?_⟩
  have key : ∀ (d i : Nat) (a0 : A0) (a1 : A1) (a2 : A2) (a3 : A3) (a4 : A4) (a5 : A5) (a6 : A6) (a7 : A7), i + d = e → I i a0 a1 a2 a3 a4 a5 a6 a7 → itP8 B (d + 1) a0 a1 a2 a3 a4 a5 a6 a7 := by
    intro d
    induction d with
    | zero => intro i a0 a1 a2 a3 a4 a5 a6 a7 hd hI; exact hx _ a0 a1 a2 a3 a4 a5 a6 a7 (by rw [show e = i by omega]; exact hI)
    | succ d ih => intro i a0 a1 a2 a3 a4 a5 a6 a7 hd hI; exact hs _ i a0 a1 a2 a3 a4 a5 a6 a7 (by omega) hI (fun b0 b1 b2 b3 b4 b5 b6 b7 hb => ih (i + 1) b0 b1 b2 b3 b4 b5 b6 b7 (by omega) hb)
  exact key (e - i0) i0 a0 a1 a2 a3 a4 a5 a6 a7 (by omega) h0
theorem cpM8 {A0 A1 A2 A3 A4 A5 A6 A7 : Type} {B : (A0 → A1 → A2 → A3 → A4 → A5 → A6 → A7 → Prop) → (A0 → A1 → A2 → A3 → A4 → A5 → A6 → A7 → Prop)} (I : Nat → A0 → A1 → A2 → A3 → A4 → A5 → A6 → A7 → Prop) (hs : ∀ (rec : A0 → A1 → A2 → A3 → A4 → A5 → A6 → A7 → Prop) (m : Nat) (a0 : A0) (a1 : A1) (a2 : A2) (a3 : A3) (a4 : A4) (a5 : A5) (a6 : A6) (a7 : A7), I m a0 a1 a2 a3 a4 a5 a6 a7 → (∀ (k : Nat) (b0 : A0) (b1 : A1) (b2 : A2) (b3 : A3) (b4 : A4) (b5 : A5) (b6 : A6) (b7 : A7), k < m → I k b0 b1 b2 b3 b4 b5 b6 b7 → rec b0 b1 b2 b3 b4 b5 b6 b7) → B rec a0 a1 a2 a3 a4 a5 a6 a7) (m : Nat) (a0 : A0) (a1 : A1) (a2 : A2) (a3 : A3) (a4 : A4) (a5 : A5) (a6 : A6) (a7 : A7) (h0 : I m a0 a1 a2 a3 a4 a5 a6 a7) : ∃ n, itP8 B n a0 a1 a2 a3 a4 a5 a6 a7 := by
  have key : ∀ (d m : Nat) (a0 : A0) (a1 : A1) (a2 : A2) (a3 : A3) (a4 : A4) (a5 : A5) (a6 : A6) (a7 : A7), m < d → I m a0 a1 a2 a3 a4 a5 a6 a7 → itP8 B d a0 a1 a2 a3 a4 a5 a6 a7 := by
    intro d
    induction d with
    | zero => intro m a0 a1 a2 a3 a4 a5 a6 a7 hd; omega
    | succ d ih => intro m a0 a1 a2 a3 a4 a5 a6 a7 hd hI; exact hs _ m a0 a1 a2 a3 a4 a5 a6 a7 hI (fun k b0 b1 b2 b3 b4 b5 b6 b7 hk hb => ih k b0 b1 b2 b3 b4 b5 b6 b7 (by omega) hb)
  exact ⟨m + 1, key (m + 1) m a0 a1 a2 a3 a4 a5 a6 a7 (Nat.lt_succ_self m) h0⟩
def itP9 {A0 A1 A2 A3 A4 A5 A6 A7 A8 : Type} (B : (A0 → A1 → A2 → A3 → A4 → A5 → A6 → A7 → A8 → Prop) → (A0 → A1 → A2 → A3 → A4 → A5 → A6 → A7 → A8 → Prop)) : Nat → (A0 → A1 → A2 → A3 → A4 → A5 → A6 → A7 → A8 → Prop)
  | 0 => fun _ _ _ _ _ _ _ _ _ => False
  | k + 1 => B (itP9 B k)
theorem cpL9 {A0 A1 A2 A3 A4 A5 A6 A7 A8 : Type} {B : (A0 → A1 → A2 → A3 → A4 → A5 → A6 → A7 → A8 → Prop) → (A0 → A1 → A2 → A3 → A4 → A5 → A6 → A7 → A8 → Prop)} (I : Nat → A0 → A1 → A2 → A3 → A4 → A5 → A6 → A7 → A8 → Prop) (e : Nat) (hx : ∀ (rec : A0 → A1 → A2 → A3 → A4 → A5 → A6 → A7 → A8 → Prop) (a0 : A0) (a1 : A1) (a2 : A2) (a3 : A3) (a4 : A4) (a5 : A5) (a6 : A6) (a7 : A7) (a8 : A8), I e a0 a1 a2 a3 a4 a5 a6 a7 a8 → B rec a0 a1 a2 a3 a4 a5 a6 a7 a8) (hs : ∀ (rec : A0 → A1 → A2 → A3 → A4 → A5 → A6 → A7 → A8 → Prop) (i : Nat) (a0 : A0) (a1 : A1) (a2 : A2) (a3 : A3) (a4 : A4) (a5 : A5) (a6 : A6) (a7 : A7) (a8 : A8), i < e → I i a0 a1 a2 a3 a4 a5 a6 a7 a8 → (∀ (b0 : A0) (b1 : A1) (b2 : A2) (b3 : A3) (b4 : A4) (b5 : A5) (b6 : A6) (b7 : A7) (b8 : A8), I (i + 1) b0 b1 b2 b3 b4 b5 b6 b7 b8 → rec b0 b1 b2 b3 b4 b5 b6 b7 b8) → B rec a0 a1 a2 a3 a4 a5 a6 a7 a8) (i0 : Nat) (hi : i0 ≤ e) (a0 : A0) (a1 : A1) (a2 : A2) (a3 : A3) (a4 : A4) (a5 : A5) (a6 : A6) (a7 : A7) (a8 : A8) (h0 : I i0 a0 a1 a2 a3 a4 a5 a6 a7 a8) : ∃ n, itP9 B n a0 a1 a2 a3 a4 a5 a6 a7 a8 := by
  refine ⟨e - i0 + 1, ?_⟩
  have key : ∀ (d i : Nat) (a0 : A0) (a1 : A1) (a2 : A2) (a3 : A3) (a4 : A4) (a5 : A5) (a6 : A6) (a7 : A7) (a8 : A8), i + d = e → I i a0 a1 a2 a3 a4 a5 a6 a7 a8 → itP9 B (d + 1) a0 a1 a2 a3 a4 a5 a6 a7 a8 := by
    intro d
    induction d with
    | zero => intro i a0 a1 a2 a3 a4 a5 a6 a7 a8 hd hI; exact hx _ a0 a1 a2 a3 a4 a5 a6 a7 a8 (by rw [show e = i by omega]; exact hI)
    | succ d ih => intro i a0 a1 a2 a3 a4 a5 a6 a7 a8 hd hI; exact hs _ i a0 a1 a2 a3 a4 a5 a6 a7 a8 (by omega) hI (fun b0 b1 b2 b3 b4 b5 b6 b7 b8 hb => ih (i + 1) b0 b1 b2 b3 b4 b5 b6 b7 b8 (by omega) hb)
  exact key (e - i0) i0 a0 a1 a2 a3 a4 a5 a6 a7 a8 (by omega) h0
theorem cpM9 {A0 A1 A2 A3 A4 A5 A6 A7 A8 : Type} {B : (A0 → A1 → A2 → A3 → A4 → A5 → A6 → A7 → A8 → Prop) → (A0 → A1 → A2 → A3 → A4 → A5 → A6 → A7 → A8 → Prop)} (I : Nat → A0 → A1 → A2 → A3 → A4 → A5 → A6 → A7 → A8 → Prop) (hs : ∀ (rec : A0 → A1 → A2 → A3 → A4 → A5 → A6 → A7 → A8 → Prop) (m : Nat) (a0 : A0) (a1 : A1) (a2 : A2) (a3 : A3) (a4 : A4) (a5 : A5) (a6 : A6) (a7 : A7) (a8 : A8), I m a0 a1 a2 a3 a4 a5 a6 a7 a8 → (∀ (k : Nat) (b0 : A0) (b1 : A1) (b2 : A2) (b3 : A3) (b4 : A4) (b5 : A5) (b6 : A6) (b7 : A7) (b8 : A8), k < m → I k b0 b1 b2 b3 b4 b5 b6 b7 b8 → rec b0 b1 b2 b3 b4 b5 b6 b7 b8) → B rec a0 a1 a2 a3 a4 a5 a6 a7 a8) (m : Nat) (a0 : A0) (a1 : A1) (a2 : A2) (a3 : A3) (a4 : A4) (a5 : A5) (a6 : A6) (a7 : A7) (a8 : A8) (h0 : I m a0 a1 a2 a3 a4 a5 a6 a7 a8) : ∃ n, itP9 B n a0 a1 a2 a3 a4 a5 a6 a7 a8 := by
  have key : ∀ (d m : Nat) (a0 : A0) (a1 : A1) (a2 : A2) (a3 : A3) (a4 : A4) (a5 : A5) (a6 : A6) (a7 : A7) (a8 : A8), m < d → I m a0 a1 a2 a3 a4 a5 a6 a7 a8 → itP9 B d a0 a1 a2 a3 a4 a5 a6 a7 a8 := by
    intro d
    induction d with
    | zero => intro m a0 a1 a2 a3 a4 a5 a6 a7 a8 hd; omega
    | succ d ih => intro m a0 a1 a2 a3 a4 a5 a6 a7 a8 hd hI; exact hs _ m a0 a1 a2 a3 a4 a5 a6 a7 a8 hI (fun k b0 b1 b2 b3 b4 b5 b6 b7 b8 hk hb => ih k b0 b1 b2 b3 b4 b5 b6 b7 b8 (by omega) hb)
  exact ⟨m + 1, key (m + 1) m a0 a1 a2 a3 a4 a5 a6 a7 a8 (Nat.lt_succ_self m) h0⟩
def itP10 {A0 A1 A2 A3 A4 A5 A6 A7 A8 A9 : Type} (B : (A0 → A1 → A2 → A3 → A4 → A5 → A6 → A7 → A8 → A9 → Prop) → (A0 → A1 → A2 → A3 → A4 → A5 → A6 → A7 → A8 → A9 → Prop)) : Nat → (A0 → A1 → A2 → A3 → A4 → A5 → A6 → A7 → A8 → A9 → Prop)
  | 0 => fun _ _ _ _ _ _ _ _ _ _ => False
  | k + 1 => B (itP10 B k)
theorem cpL10 {A0 A1 A2 A3 A4 A5 A6 A7 A8 A9 : Type} {B : (A0 → A1 → A2 → A3 → A4 → A5 → A6 → A7 → A8 → A9 → Prop) → (A0 → A1 → A2 → A3 → A4 → A5 → A6 → A7 → A8 → A9 → Prop)} (I : Nat → A0 → A1 → A2 → A3 → A4 → A5 → A6 → A7 → A8 → A9 → Prop) (e : Nat) (hx : ∀ (rec : A0 → A1 → A2 → A3 → A4 → A5 → A6 → A7 → A8 → A9 → Prop) (a0 : A0) (a1 : A1) (a2 : A2) (a3 : A3) (a4 : A4) (a5 : A5) (a6 : A6) (a7 : A7) (a8 : A8) (a9 : A9), I e a0 a1 a2 a3 a4 a5 a6 a7 a8 a9 → B rec a0 a1 a2 a3 a4 a5 a6 a7 a8 a9) (hs : ∀ (rec : A0 → A1 → A2 → A3 → A4 → A5 → A6 → A7 → A8 → A9 → Prop) (i : Nat) (a0 : A0) (a1 : A1) (a2 : A2) (a3 : A3) (a4 : A4) (a5 : A5) (a6 : A6) (a7 : A7) (a8 : A8) (a9 : A9), i < e → I i a0 a1 a2 a3 a4 a5 a6 a7 a8 a9 → (∀ (b0 : A0) (b1 : A1) (b2 : A2) (b3 : A3) (b4 : A4) (b5 : A5) (b6 : A6) (b7 : A7) (b8 : A8) (b9 : A9), I (i + 1) b0 b1 b2 b3 b4 b5 b6 b7 b8 b9 → rec b0 b1 b2 b3 b4 b5 b6 b7 b8 b9) → B rec a0 a1 a2 a3 a4 a5 a6 a7 a8 a9) (i0 : Nat) (hi : i0 ≤ e) (a0 : A0) (a1 : A1) (a2 : A2) (a3 : A3) (a4 : A4) (a5 : A5) (a6 : A6) (a7 : A7) (a8 : A8) (a9 : A9) (h0 : I i0 a0 a1 a2 a3 a4 a5 a6 a7 a8 a9) : ∃ n, itP10 B n a0 a1 a2 a3 a4 a5 a6 a7 a8 a9 := by
  refine ⟨e - i0 + 1, ?_⟩
  have key : ∀ (d i : Nat) (a0 : A0) (a1 : A1) (a2 : A2) (a3 : A3) (a4 : A4) (a5 : A5) (a6 : A6) (a7 : A7) (a8 : A8) (a9 : A9), i + d = e → I i a0 a1 a2 a3 a4 a5 a6 a7 a8 a9 → itP10 B (d + 1) a0 a1 a2 a3 a4 a5 a6 a7 a8 a9 := by
    intro d
    induction d with
    | zero => intro i a0 a1 a2 a3 a4 a5 a6 a7 a8 a9 hd hI; exact hx _ a0 a1 a2 a3 a4 a5 a6 a7 a8 a9 (by rw [show e = i by omega]; exact hI)
    | succ d ih => intro i a0 a1 a2 a3 a4 a5 a6 a7 a8 a9 hd hI; exact hs _ i a0 a1 a2 a3 a4 a5 a6 a7 a8 a9 (by omega) hI (fun b0 b1 b2 b3 b4 b5 b6 b7 b8 b9 hb => ih (i + 1) b0 b1 b2 b3 b4 b5 b6 b7 b8 b9 (by omega) hb)
  exact key (e - i0) i0 a0 a1 a2 a3 a4 a5 a6 a7 a8 a9 (by omega) h0
theorem cpM10 {A0 A1 A2 A3 A4 A5 A6 A7 A8 A9 : Type} {B : (A0 → A1 → A2 → A3 → A4 → A5 → A6 → A7 → A8 → A9 → Prop) → (A0 → A1 → A2 → A3 → A4 → A5 → A6 → A7 → A8 → A9 → Prop)} (I : Nat → A0 → A1 → A2 → A3 → A4 → A5 → A6 → A7 → A8 → A9 → Prop) (hs : ∀ (rec : A0 → A1 → A2 → A3 → A4 → A5 → A6 → A7 → A8 → A9 → Prop) (m : Nat) (a0 : A0) (a1 : A1) (a2 : A2) (a3 : A3) (a4 : A4) (a5 : A5) (a6 : A6) (a7 : A7) (a8 : A8) (a9 : A9), I m a0 a1 a2 a3 a4 a5 a6 a7 a8 a9 → (∀ (k : Nat) (b0 : A0) (b1 : A1) (b2 : A2) (b3 : A3) (b4 : A4) (b5 : A5) (b6 : A6) (b7 : A7) (b8 : A8) (b9 : A9), k < m → I k b0 b1 b2 b3 b4 b5 b6 b7 b8 b9 → rec b0 b1 b2 b3 b4 b5 b6 b7 b8 b9) → B rec a0 a1 a2 a3 a4 a5 a6 a7 a8 a9) (m : Nat) (a0 : A0) (a1 : A1) (a2 : A2) (a3 : A3) (a4 : A4) (a5 : A5) (a6 : A6) (a7 : A7) (a8 : A8) (a9 : A9) (h0 : I m a0 a1 a2 a3 a4 a5 a6 a7 a8 a9) : ∃ n, itP10 B n a0 a1 a2 a3 a4 a5 a6 a7 a8 a9 := by
  have key : ∀ (d m : Nat) (a0 : A0) (a1 : A1) (a2 : A2) (a3 : A3) (a4 : A4) (a5 : A5) (a6 : A6) (a7 : A7) (a8 : A8) (a9 : A9), m < d → I m a0 a1 a2 a3 a4 a5 a6 a7 a8 a9 → itP10 B d a0 a1 a2 a3 a4 a5 a6 a7 a8 a9 := by
    intro d
    induction d with
    | zero => intro m a0 a1 a2 a3 a4 a5 a6 a7 a8 a9 hd; omega
    | succ d ih => intro m a0 a1 a2 a3 a4 a5 a6 a7 a8 a9 hd hI; exact hs _ m a0 a1 a2 a3 a4 a5 a6 a7 a8 a9 hI (fun k b0 b1 b2 b3 b4 b5 b6 b7 b8 b9 hk hb => ih k b0 b1 b2 b3 b4 b5 b6 b7 b8 b9 (by omega) hb)
  exact ⟨m + 1, key (m + 1) m a0 a1 a2 a3 a4 a5 a6 a7 a8 a9 (Nat.lt_succ_self m) h0⟩
def itP11 {A0 A1 A2 A3 A4 A5 A6 A7 A8 A9 A10 : Type} (B : (A0 → A1 → A2 → A3 → A4 → A5 → A6 → A7 → A8 → A9 → A10 → Prop) → (A0 → A1 → A2 → A3 → A4 → A5 → A6 → A7 → A8 → A9 → A10 → Prop)) : Nat → (A0 → A1 → A2 → A3 → A4 → A5 → A6 → A7 → A8 → A9 → A10 → Prop)
  | 0 => fun _ _ _ _ _ _ _ _ _ _ _ => False
  | k + 1 => B (itP11 B k)
theorem cpL11 {A0 A1 A2 A3 A4 A5 A6 A7 A8 A9 A10 : Type} {B : (A0 → A1 → A2 → A3 → A4 → A5 → A6 → A7 → A8 → A9 → A10 → Prop) → (A0 → A1 → A2 → A3 → A4 → A5 → A6 → A7 → A8 → A9 → A10 → Prop)} (I : Nat → A0 → A1 → A2 → A3 → A4 → A5 → A6 → A7 → A8 → A9 → A10 → Prop) (e : Nat) (hx : ∀ (rec : A0 → A1 → A2 → A3 → A4 → A5 → A6 → A7 → A8 → A9 → A10 → Prop) (a0 : A0) (a1 : A1) (a2 : A2) (a3 : A3) (a4 : A4) (a5 : A5) (a6 : A6) (a7 : A7) (a8 : A8) (a9 : A9) (a10 : A10), I e a0 a1 a2 a3 a4 a5 a6 a7 a8 a9 a10 → B rec a0 a1 a2 a3 a4 a5 a6 a7 a8 a9 a10) (hs : ∀ (rec : A0 → A1 → A2 → A3 → A4 → A5 → A6 → A7 → A8 → A9 → A10 → Prop) (i : Nat) (a0 : A0) (a1 : A1) (a2 : A2) (a3 : A3) (a4 : A4) (a5 : A5) (a6 : A6) (a7 : A7) (a8 : A8) (a9 : A9) (a10 : A10), i < e → I i a0 a1 a2 a3 a4 a5 a6 a7 a8 a9 a10 → (∀ (b0 : A0) (b1 : A1) (b2 : A2) (b3 : A3) (b4 : A4) (b5 : A5) (b6 : A6) (b7 : A7) (b8 : A8) (b9 : A9) (b10 : A10), I (i + 1) b0 b1 b2 b3 b4 b5 b6 b7 b8 b9 b10 → rec b0 b1 b2 b3 b4 b5 b6 b7 b8 b9 b10) → B rec a0 a1 a2 a3 a4 a5 a6 a7 a8 a9 a10) (i0 : Nat) (hi : i0 ≤ e) (a0 : A0) (a1 : A1) (a2 : A2) (a3 : A3) (a4 : A4) (a5 : A5) (a6 : A6) (a7 : A7) (a8 : A8) (a9 : A9) (a10 : A10) (h0 : I i0 a0 a1 a2 a3 a4 a5 a6 a7 a8 a9 a10) : ∃ n, itP11 B n a0 a1 a2 a3 a4 a5 a6 a7 a8 a9 a10 := by
  refine ⟨e - i0 + 1, ?_⟩
  have key : ∀ (d i : Nat) (a0 : A0) (a1 : A1) (a2 : A2) (a3 : A3) (a4 : A4) (a5 : A5) (a6 : A6) (a7 : A7) (a8 : A8) (a9 : A9) (a10 : A10), i + d = e → I i a0 a1 a2 a3 a4 a5 a6 a7 a8 a9 a10 → itP11 B (d + 1) a0 a1 a2 a3 a4 a5 a6 a7 a8 a9 a10 := by
    intro d
    induction d with
    | zero => intro i a0 a1 a2 a3 a4 a5 a6 a7 a8 a9 a10 hd hI; exact hx _ a0 a1 a2 a3 a4 a5 a6 a7 a8 a9 a10 (by rw [show e = i by omega]; exact hI)
    | succ d ih => intro i a0 a1 a2 a3 a4 a5 a6 a7 a8 a9 a10 hd hI; exact hs _ i a0 a1 a2 a3 a4 a5 a6 a7 a8 a9 a10 (by omega) hI (fun b0 b1 b2 b3 b4 b5 b6 b7 b8 b9 b10 hb => ih (i + 1) b0 b1 b2 b3 b4 b5 b6 b7 b8 b9 b10 (by omega) hb)
  exact key (e - i0) i0 a0 a1 a2 a3 a4 a5 a6 a7 a8 a9 a10 (by omega) h0
theorem cpM11 {A0 A1 A2 A3 A4 A5 A6 A7 A8 A9 A10 : Type} {B : (A0 → A1 → A2 → A3 → A4 → A5 → A6 → A7 → A8 → A9 → A10 → Prop) → (A0 → A1 → A2 → A3 → A4 → A5 → A6 → A7 → A8 → A9 → A10 → Prop)} (I : Nat → A0 → A1 → A2 → A3 → A4 → A5 → A6 → A7 → A8 → A9 → A10 → Prop) (hs : ∀ (rec : A0 → A1 → A2 → A3 → A4 → A5 → A6 → A7 → A8 → A9 → A10 → Prop) (m : Nat) (a0 : A0) (a1 : A1) (a2 : A2) (a3 : A3) (a4 : A4) (a5 : A5) (a6 : A6) (a7 : A7) (a8 : A8) (a9 : A9) (a10 : A10), I m a0 a1 a2 a3 a4 a5 a6 a7 a8 a9 a10 → (∀ (k : Nat) (b0 : A0) (b1 : A1) (b2 : A2) (b3 : A3) (b4 : A4) (b5 : A5) (b6 : A6) (b7 : A7) (b8 : A8) (b9 : A9) (b10 : A10), k < m → I k b0 b1 b2 b3 b4 b5 b6 b7 b8 b9 b10 → rec b0 b1 b2 b3 b4 b5 b6 b7 b8 b9 b10) → B rec a0 a1 a2 a3 a4 a5 a6 a7 a8 a9 a10) (m : Nat) (a0 : A0) (a1 : A1) (a2 : A2) (a3 : A3) (a4 : A4) (a5 : A5) (a6 : A6) (a7 : A7) (a8 : A8) (a9 : A9) (a10 : A10) (h0 : I m a0 a1 a2 a3 a4 a5 a6 a7 a8 a9 a10) : ∃ n, itP11 B n a0 a1 a2 a3 a4 a5 a6 a7 a8 a9 a10 := by
  have key : ∀ (d m : Nat) (a0 : A0) (a1 : A1) (a2 : A2) (a3 : A3) (a4 : A4) (a5 : A5) (a6 : A6) (a7 : A7) (a8 : A8) (a9 : A9) (a10 : A10), m < d → I m a0 a1 a2 a3 a4 a5 a6 a7 a8 a9 a10 → itP11 B d a0 a1 a2 a3 a4 a5 a6 a7 a8 a9 a10 := by
    intro d
    induction d with
    | zero => intro m a0 a1 a2 a3 a4 a5 a6 a7 a8 a9 a10 hd; omega
    | succ d ih => intro m a0 a1 a2 a3 a4 a5 a6 a7 a8 a9 a10 hd hI; exact hs _ m a0 a1 a2 a3 a4 a5 a6 a7 a8 a9 a10 hI (fun k b0 b1 b2 b3 b4 b5 b6 b7 b8 b9 b10 hk hb => ih k b0 b1 b2 b3 b4 b5 b6 b7 b8 b9 b10 (by omega) hb)
  exact ⟨m + 1, key (m + 1) m a0 a1 a2 a3 a4 a5 a6 a7 a8 a9 a10 (Nat.lt_succ_self m) h0⟩
def itP12 {A0 A1 A2 A3 A4 A5 A6 A7 A8 A9 A10 A11 : Type} (B : (A0 → A1 → A2 → A3 → A4 → A5 → A6 → A7 → A8 → A9 → A10 → A11 → Prop) → (A0 → A1 → A2 → A3 → A4 → A5 → A6 → A7 → A8 → A9 → A10 → A11 → Prop)) : Nat → (A0 → A1 → A2 → A3 → A4 → A5 → A6 → A7 → A8 → A9 → A10 → A11 → Prop)
  | 0 => fun _ _ _ _ _ _ _ _ _ _ _ _ => False
  | k + 1 => B (itP12 B k)
theorem cpL12 {A0 A1 A2 A3 A4 A5 A6 A7 A8 A9 A10 A11 : Type} {B : (A0 → A1 → A2 → A3 → A4 → A5 → A6 → A7 → A8 → A9 → A10 → A11 → Prop) → (A0 → A1 → A2 → A3 → A4 → A5 → A6 → A7 → A8 → A9 → A10 → A11 → Prop)} (I : Nat → A0 → A1 → A2 → A3 → A4 → A5 → A6 → A7 → A8 → A9 → A10 → A11 → Prop) (e : Nat) (hx : ∀ (rec : A0 → A1 → A2 → A3 → A4 → A5 → A6 → A7 → A8 → A9 → A10 → A11 → Prop) (a0 : A0) (a1 : A1) (a2 : A2) (a3 : A3) (a4 : A4) (a5 : A5) (a6 : A6) (a7 : A7) (a8 : A8) (a9 : A9) (a10 : A10) (a11 : A11), I e a0 a1 a2 a3 a4 a5 a6 a7 a8 a9 a10 a11 → B rec a0 a1 a2 a3 a4 a5 a6 a7 a8 a9 a10 a11) (hs : ∀ (rec : A0 → A1 → A2 → A3 → A4 → A5 → A6 → A7 → A8 → A9 → A10 → A11 → Prop) (i : Nat) (a0 : A0) (a1 : A1) (a2 : A2) (a3 : A3) (a4 : A4) (a5 : A5) (a6 : A6) (a7 : A7) (a8 : A8) (a9 : A9) (a10 : A10) (a11 : A11), i < e → I i a0 a1 a2 a3 a4 a5 a6 a7 a8 a9 a10 a11 → (∀ (b0 : A0) (b1 : A1) (b2 : A2) (b3 : A3) (b4 : A4) (b5 : A5) (b6 : A6) (b7 : A7) (b8 : A8) (b9 : A9) (b10 : A10) (b11 : A11), I (i + 1) b0 b1 b2 b3 b4 b5 b6 b7 b8 b9 b10 b11 → rec b0 b1 b2 b3 b4 b5 b6 b7 b8 b9 b10 b11) → B rec a0 a1 a2 a3 a4 a5 a6 a7 a8 a9 a10 a11) (i0 : Nat) (hi : i0 ≤ e) (a0 : A0) (a1 : A1) (a2 : A2) (a3 : A3) (a4 : A4) (a5 : A5) (a6 : A6) (a7 : A7) (a8 : A8) (a9 : A9) (a10 : A10) (a11 : A11) (h0 : I i0 a0 a1 a2 a3 a4 a5 a6 a7 a8 a9 a10 a11) : ∃ n, itP12 B n a0 a1 a2 a3 a4 a5 a6 a7 a8 a9 a10 a11 := by
  refine ⟨e - i0 + 1, ?_⟩
  have key : ∀ (d i : Nat) (a0 : A0) (a1 : A1) (a2 : A2) (a3 : A3) (a4 : A4) (a5 : A5) (a6 : A6) (a7 : A7) (a8 : A8) (a9 : A9) (a10 : A10) (a11 : A11), i + d = e → I i a0 a1 a2 a3 a4 a5 a6 a7 a8 a9 a10 a11 → itP12 B (d + 1) a0 a1 a2 a3 a4 a5 a6 a7 a8 a9 a10 a11 := by
    intro d
    induction d with
    | zero => intro i a0 a1 a2 a3 a4 a5 a6 a7 a8 a9 a10 a11 hd hI; exact hx _ a0 a1 a2 a3 a4 a5 a6 a7 a8 a9 a10 a11 (by rw [show e = i by omega]; exact hI)
    | succ d ih => intro i a0 a1 a2 a3 a4 a5 a6 a7 a8 a9 a10 a11 hd hI; exact hs _ i a0 a1 a2 a3 a4 a5 a6 a7 a8 a9 a10 a11 (by omega) hI (fun b0 b1 b2 b3 b4 b5 b6 b7 b8 b9 b10 b11 hb => ih (i + 1) b0 b1 b2 b3 b4 b5 b6 b7 b8 b9 b10 b11 (by omega) hb)
  exact key (e - i0) i0 a0 a1 a2 a3 a4 a5 a6 a7 a8 a9 a10 a11 (by omega) h0
theorem cpM12 {A0 A1 A2 A3 A4 A5 A6 A7 A8 A9 A10 A11 : Type} {B : (A0 → A1 → A2 → A3 → A4 → A5 → A6 → A7 → A8 → A9 → A10 → A11 → Prop) → (A0 → A1 → A2 → A3 → A4 → A5 → A6 → A7 → A8 → A9 → A10 → A11 → Prop)} (I : Nat → A0 → A1 → A2 → A3 → A4 → A5 → A6 → A7 → A8 → A9 → A10 → A11 → Prop) (hs : ∀ (rec : A0 → A1 → A2 → A3 → A4 → A5 → A6 → A7 → A8 → A9 → A10 → A11 → Prop) (m : Nat) (a0 : A0) (a1 : A1) (a2 : A2) (a3 : A3) (a4 : A4) (a5 : A5) (a6 : A6) (a7 : A7) (a8 : A8) (a9 : A9) (a10 : A10) (a11 : A11), I m a0 a1 a2 a3 a4 a5 a6 a7 a8 a9 a10 a11 → (∀ (k : Nat) (b0 : A0) (b1 : A1) (b2 : A2) (b3 : A3) (b4 : A4) (b5 : A5) (b6 : A6) (b7 : A7) (b8 : A8) (b9 : A9) (b10 : A10) (b11 : A11), k < m → I k b0 b1 b2 b3 b4 b5 b6 b7 b8 b9 b10 b11 → rec b0 b1 b2 b3 b4 b5 b6 b7 b8 b9 b10 b11) → B rec a0 a1 a2 a3 a4 a5 a6 a7 a8 a9 a10 a11) (m : Nat) (a0 : A0) (a1 : A1) (a2 : A2) (a3 : A3) (a4 : A4) (a5 : A5) (a6 : A6) (a7 : A7) (a8 : A8) (a9 : A9) (a10 : A10) (a11 : A11) (h0 : I m a0 a1 a2 a3 a4 a5 a6 a7 a8 a9 a10 a11) : ∃ n, itP12 B n a0 a1 a2 a3 a4 a5 a6 a7 a8 a9 a10 a11 := by
  have key : ∀ (d m : Nat) (a0 : A0) (a1 : A1) (a2 : A2) (a3 : A3) (a4 : A4) (a5 : A5) (a6 : A6) (a7 : A7) (a8 : A8) (a9 : A9) (a10 : A10) (a11 : A11), m < d → I m a0 a1 a2 a3 a4 a5 a6 a7 a8 a9 a10 a11 → itP12 B d a0 a1 a2 a3 a4 a5 a6 a7 a8 a9 a10 a11 := by
    intro d
    induction d with
    | zero => intro m a0 a1 a2 a3 a4 a5 a6 a7 a8 a9 a10 a11 hd; omega
    | succ d ih => intro m a0 a1 a2 a3 a4 a5 a6 a7 a8 a9 a10 a11 hd hI; exact hs _ m a0 a1 a2 a3 a4 a5 a6 a7 a8 a9 a10 a11 hI (fun k b0 b1 b2 b3 b4 b5 b6 b7 b8 b9 b10 b11 hk hb => ih k b0 b1 b2 b3 b4 b5 b6 b7 b8 b9 b10 b11 (by omega) hb)
  exact ⟨m + 1, key (m + 1) m a0 a1 a2 a3 a4 a5 a6 a7 a8 a9 a10 a11 (Nat.lt_succ_self m) h0⟩
