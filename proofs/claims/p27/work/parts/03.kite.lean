def gd {α : Type} (b : Bool) (x : Option α) : Option α := if b = true then x else none
theorem gd_s {α : Type} {b : Bool} {x : Option α} {r : α} (h : gd b x = some r) : b = true ∧ x = some r := by
  unfold gd at h
  split at h
  · exact ⟨by assumption, h⟩
  · cases h
def isb (v : Int32) : Bool := decide (v = 0 ∨ v = 1)
theorem isb_n {v : Int32} (h : isb v = true) : narrow .boolean (.int v) = .int v := by
  rcases (of_decide_eq_true h : v = 0 ∨ v = 1) with rfl | rfl <;> decide
theorem isb_f {v : Int32} (h : isb v = true) : fits .boolean (.int v) = true := by
  rcases (of_decide_eq_true h : v = 0 ∨ v = 1) with rfl | rfl <;> decide
theorem zrf_n {C : String} (o : Option Nat) : narrow (.object C) (va_rf o) = va_rf o := by cases o <;> rfl
theorem zrf_f {C : String} (o : Option Nat) : fits (.object C) (va_rf o) = true := by cases o <;> rfl
theorem zc1 {α β : Type} (f : α → β) {a b : α} (h : a = b) : f a = f b := congrArg f h
theorem zc2 {α β γ : Type} (f : α → β → γ) {a a' : α} {b b' : β} (h : a = a') (h2 : b = b') : f a b = f a' b' := by rw [h, h2]
theorem sw_out {x : Int32} (lo hi : Int) (h : ∀ k : Int, lo ≤ k → k ≤ hi → x = Int32.ofInt k → False) : x.toInt < lo ∨ hi < x.toInt := by
  rcases (show x.toInt < lo ∨ hi < x.toInt ∨ (lo ≤ x.toInt ∧ x.toInt ≤ hi) by omega) with q | q | ⟨q, q2⟩
  · exact Or.inl q
  · exact Or.inr q
  · exact (h x.toInt q q2 (by rw [Int32.ofInt_toInt])).elim
def cpg (sp dp n : Int32) (n0 n1 : Nat) : Bool := decide (¬ sp < 0 ∧ ¬ dp < 0 ∧ ¬ n < 0 ∧ sp.toNatClampNeg + n.toNatClampNeg ≤ n0 ∧ dp.toNatClampNeg + n.toNatClampNeg ≤ n1)
theorem cpg_s {sp dp n : Int32} {n0 n1 : Nat} (h : cpg sp dp n n0 n1 = true) : ¬ sp < 0 ∧ ¬ dp < 0 ∧ ¬ n < 0 ∧ sp.toNatClampNeg + n.toNatClampNeg ≤ n0 ∧ dp.toNatClampNeg + n.toNatClampNeg ≤ n1 := of_decide_eq_true h
def inb (i : Int32) (n : Nat) : Bool := decide (¬ (i < 0 ∨ n ≤ i.toNatClampNeg))
theorem inb_s {i : Int32} {n : Nat} (h : inb i n = true) : vp_in i n := (of_decide_eq_true h : ¬ (i < 0 ∨ n ≤ i.toNatClampNeg))
def nz (y : Int32) : Bool := decide (¬ y = 0)
theorem nz_s {y : Int32} (h : nz y = true) : ¬ y = 0 := of_decide_eq_true h
def nzl (y : Int64) : Bool := decide (¬ y = 0)
theorem nzl_s {y : Int64} (h : nzl y = true) : ¬ y = 0 := of_decide_eq_true h
theorem ifp {α : Type} {c : Prop} [Decidable c] {a b : Option α} {r : α} (hc : c) (h : (if c then a else b) = some r) : a = some r := by rwa [if_pos hc] at h
theorem ifn {α : Type} {c : Prop} [Decidable c] {a b : Option α} {r : α} (hc : ¬ c) (h : (if c then a else b) = some r) : b = some r := by rwa [if_neg hc] at h
def bd1 {α β : Type} (x : Option β) (k : β → Option α) : Option α := match x with
  | some b => k b
  | none => none
theorem bd1_s {α β : Type} {x : Option β} {k : β → Option α} {r : α} (h : bd1 x k = some r) : ∃ b, x = some b ∧ k b = some r := by
  cases x with
  | none => cases h
  | some b => exact ⟨b, rfl, h⟩
def bd2 {α β γ : Type} (x : Option (β × γ)) (k : β → γ → Option α) : Option α := match x with
  | some b => k b.1 b.2
  | none => none
theorem bd2_s {α β γ : Type} {x : Option (β × γ)} {k : β → γ → Option α} {r : α} (h : bd2 x k = some r) : ∃ b c, x = some (b, c) ∧ k b c = some r := by
  cases x with
  | none => cases h
  | some b => exact ⟨b.1, b.2, rfl, h⟩
def bd3 {α β γ δ : Type} (x : Option (β × γ × δ)) (k : β → γ → δ → Option α) : Option α := match x with
  | some b => k b.1 b.2.1 b.2.2
  | none => none
theorem bd3_s {α β γ δ : Type} {x : Option (β × γ × δ)} {k : β → γ → δ → Option α} {r : α} (h : bd3 x k = some r) : ∃ b c d, x = some (b, c, d) ∧ k b c d = some r := by
  cases x with
  | none => cases h
  | some b => exact ⟨b.1, b.2.1, b.2.2, rfl, h⟩
def om {α : Type} (o : Option Nat) (x : Option α) (k : Nat → Option α) : Option α := match o with
  | none => x
  | some a => k a
theorem om_n {α : Type} {x : Option α} {k : Nat → Option α} {r : α} (h : om none x k = some r) : x = some r := h
theorem om_s {α : Type} {a : Nat} {x : Option α} {k : Nat → Option α} {r : α} (h : om (some a) x k = some r) : k a = some r := h
def slen (i : Nat) : Int32 := nI (LENS.getD i 0)
def schr (i : Nat) (k : Int32) : Int32 := (BYTS.getD i []).getD k.toNatClampNeg 0 &&& 255
def scg (i : Nat) (k : Int32) : Bool := decide (i < 22 ∧ ¬ (k < 0 ∨ LENS.getD i 0 ≤ k.toNatClampNeg))
theorem scg_i {i : Nat} {k : Int32} (h : scg i k = true) : i < 22 := (of_decide_eq_true h).1
def nmd {α β : Type} (x : β) (k : β → Option α) : Option α := k x
theorem nmd_s {α β : Type} {x : β} {k : β → Option α} {r : α} (h : nmd x k = some r) : ∀ y, y = x → k y = some r := fun y e => e ▸ h
def FUEL : Nat := 2000000
abbrev SA : Type := (Nat → Int32) × (Nat → Nat → Int32)
def upA (f : Nat → Nat → Int32) (i : Nat) (g : Nat → Int32) : Nat → Nat → Int32 := fun j => if j = i then g else f j
abbrev ss (x : SA) (k : Nat) (v : Int32) : SA := (upd x.1 k v, x.2)
abbrev sa (x : SA) (i : Nat) (g : Nat → Int32) : SA := (x.1, upA x.2 i g)
def itr0 { R : Type} (body : (Option R) → (Option R)) : Nat → (Option R)
  | 0 => none
  | k + 1 => body (itr0 body k)
theorem itr0_s { R : Type} {body : (Option R) → (Option R)} {k : Nat}  {r : R} (h : itr0 body (k + 1)  = some r) : body (itr0 body k)  = some r := h
theorem itr0_0 { R : Type} {body : (Option R) → (Option R)}  {r : R} (h : itr0 body 0  = some r) : False := by cases h
def itr1 {A0 R : Type} (body : (A0 → Option R) → (A0 → Option R)) : Nat → (A0 → Option R)
  | 0 => fun _ => none
  | k + 1 => body (itr1 body k)
theorem itr1_s {A0 R : Type} {body : (A0 → Option R) → (A0 → Option R)} {k : Nat} {a0 : A0} {r : R} (h : itr1 body (k + 1) a0 = some r) : body (itr1 body k) a0 = some r := h
theorem itr1_0 {A0 R : Type} {body : (A0 → Option R) → (A0 → Option R)} {a0 : A0} {r : R} (h : itr1 body 0 a0 = some r) : False := by cases h
def itr2 {A0 A1 R : Type} (body : (A0 → A1 → Option R) → (A0 → A1 → Option R)) : Nat → (A0 → A1 → Option R)
  | 0 => fun _ _ => none
  | k + 1 => body (itr2 body k)
theorem itr2_s {A0 A1 R : Type} {body : (A0 → A1 → Option R) → (A0 → A1 → Option R)} {k : Nat} {a0 : A0} {a1 : A1} {r : R} (h : itr2 body (k + 1) a0 a1 = some r) : body (itr2 body k) a0 a1 = some r := h
theorem itr2_0 {A0 A1 R : Type} {body : (A0 → A1 → Option R) → (A0 → A1 → Option R)} {a0 : A0} {a1 : A1} {r : R} (h : itr2 body 0 a0 a1 = some r) : False := by cases h
def itr3 {A0 A1 A2 R : Type} (body : (A0 → A1 → A2 → Option R) → (A0 → A1 → A2 → Option R)) : Nat → (A0 → A1 → A2 → Option R)
  | 0 => fun _ _ _ => none
  | k + 1 => body (itr3 body k)
theorem itr3_s {A0 A1 A2 R : Type} {body : (A0 → A1 → A2 → Option R) → (A0 → A1 → A2 → Option R)} {k : Nat} {a0 : A0} {a1 : A1} {a2 : A2} {r : R} (h : itr3 body (k + 1) a0 a1 a2 = some r) : body (itr3 body k) a0 a1 a2 = some r := h
theorem itr3_0 {A0 A1 A2 R : Type} {body : (A0 → A1 → A2 → Option R) → (A0 → A1 → A2 → Option R)} {a0 : A0} {a1 : A1} {a2 : A2} {r : R} (h : itr3 body 0 a0 a1 a2 = some r) : False := by cases h
def itr4 {A0 A1 A2 A3 R : Type} (body : (A0 → A1 → A2 → A3 → Option R) → (A0 → A1 → A2 → A3 → Option R)) : Nat → (A0 → A1 → A2 → A3 → Option R)
  | 0 => fun _ _ _ _ => none
  | k + 1 => body (itr4 body k)
theorem itr4_s {A0 A1 A2 A3 R : Type} {body : (A0 → A1 → A2 → A3 → Option R) → (A0 → A1 → A2 → A3 → Option R)} {k : Nat} {a0 : A0} {a1 : A1} {a2 : A2} {a3 : A3} {r : R} (h : itr4 body (k + 1) a0 a1 a2 a3 = some r) : body (itr4 body k) a0 a1 a2 a3 = some r := h
theorem itr4_0 {A0 A1 A2 A3 R : Type} {body : (A0 → A1 → A2 → A3 → Option R) → (A0 → A1 → A2 → A3 → Option R)} {a0 : A0} {a1 : A1} {a2 : A2} {a3 : A3} {r : R} (h : itr4 body 0 a0 a1 a2 a3 = some r) : False := by cases h
def itr5 {A0 A1 A2 A3 A4 R : Type} (body : (A0 → A1 → A2 → A3 → A4 → Option R) → (A0 → A1 → A2 → A3 → A4 → Option R)) : Nat → (A0 → A1 → A2 → A3 → A4 → Option R)
  | 0 => fun _ _ _ _ _ => none
  | k + 1 => body (itr5 body k)
theorem itr5_s {A0 A1 A2 A3 A4 R : Type} {body : (A0 → A1 → A2 → A3 → A4 → Option R) → (A0 → A1 → A2 → A3 → A4 → Option R)} {k : Nat} {a0 : A0} {a1 : A1} {a2 : A2} {a3 : A3} {a4 : A4} {r : R} (h : itr5 body (k + 1) a0 a1 a2 a3 a4 = some r) : body (itr5 body k) a0 a1 a2 a3 a4 = some r := h
theorem itr5_0 {A0 A1 A2 A3 A4 R : Type} {body : (A0 → A1 → A2 → A3 → A4 → Option R) → (A0 → A1 → A2 → A3 → A4 → Option R)} {a0 : A0} {a1 : A1} {a2 : A2} {a3 : A3} {a4 : A4} {r : R} (h : itr5 body 0 a0 a1 a2 a3 a4 = some r) : False := by cases h
def itr6 {A0 A1 A2 A3 A4 A5 R : Type} (body : (A0 → A1 → A2 → A3 → A4 → A5 → Option R) → (A0 → A1 → A2 → A3 → A4 → A5 → Option R)) : Nat → (A0 → A1 → A2 → A3 → A4 → A5 → Option R)
  | 0 => fun _ _ _ _ _ _ => none
  | k + 1 => body (itr6 body k)
theorem itr6_s {A0 A1 A2 A3 A4 A5 R : Type} {body : (A0 → A1 → A2 → A3 → A4 → A5 → Option R) → (A0 → A1 → A2 → A3 → A4 → A5 → Option R)} {k : Nat} {a0 : A0} {a1 : A1} {a2 : A2} {a3 : A3} {a4 : A4} {a5 : A5} {r : R} (h : itr6 body (k + 1) a0 a1 a2 a3 a4 a5 = some r) : body (itr6 body k) a0 a1 a2 a3 a4 a5 = some r := h
theorem itr6_0 {A0 A1 A2 A3 A4 A5 R : Type} {body : (A0 → A1 → A2 → A3 → A4 → A5 → Option R) → (A0 → A1 → A2 → A3 → A4 → A5 → Option R)} {a0 : A0} {a1 : A1} {a2 : A2} {a3 : A3} {a4 : A4} {a5 : A5} {r : R} (h : itr6 body 0 a0 a1 a2 a3 a4 a5 = some r) : False := by cases h
def itr7 {A0 A1 A2 A3 A4 A5 A6 R : Type} (body : (A0 → A1 → A2 → A3 → A4 → A5 → A6 → Option R) → (A0 → A1 → A2 → A3 → A4 → A5 → A6 → Option R)) : Nat → (A0 → A1 → A2 → A3 → A4 → A5 → A6 → Option R)
  | 0 => fun _ _ _ _ _ _ _ => none
  | k + 1 => body (itr7 body k)
theorem itr7_s {A0 A1 A2 A3 A4 A5 A6 R : Type} {body : (A0 → A1 → A2 → A3 → A4 → A5 → A6 → Option R) → (A0 → A1 → A2 → A3 → A4 → A5 → A6 → Option R)} {k : Nat} {a0 : A0} {a1 : A1} {a2 : A2} {a3 : A3} {a4 : A4} {a5 : A5} {a6 : A6} {r : R} (h : itr7 body (k + 1) a0 a1 a2 a3 a4 a5 a6 = some r) : body (itr7 body k) a0 a1 a2 a3 a4 a5 a6 = some r := h
theorem itr7_0 {A0 A1 A2 A3 A4 A5 A6 R : Type} {body : (A0 → A1 → A2 → A3 → A4 → A5 → A6 → Option R) → (A0 → A1 → A2 → A3 → A4 → A5 → A6 → Option R)} {a0 : A0} {a1 : A1} {a2 : A2} {a3 : A3} {a4 : A4} {a5 : A5} {a6 : A6} {r : R} (h : itr7 body 0 a0 a1 a2 a3 a4 a5 a6 = some r) : False := by cases h
def itr8 {A0 A1 A2 A3 A4 A5 A6 A7 R : Type} (body : (A0 → A1 → A2 → A3 → A4 → A5 → A6 → A7 → Option R) → (A0 → A1 → A2 → A3 → A4 → A5 → A6 → A7 → Option R)) : Nat → (A0 → A1 → A2 → A3 → A4 → A5 → A6 → A7 → Option R)
  | 0 => fun _ _ _ _ _ _ _ _ => none
  | k + 1 => body (itr8 body k)
theorem itr8_s {A0 A1 A2 A3 A4 A5 A6 A7 R : Type} {body : (A0 → A1 → A2 → A3 → A4 → A5 → A6 → A7 → Option R) → (A0 → A1 → A2 → A3 → A4 → A5 → A6 → A7 → Option R)} {k : Nat} {a0 : A0} {a1 : A1} {a2 : A2} {a3 : A3} {a4 : A4} {a5 : A5} {a6 : A6} {a7 : A7} {r : R} (h : itr8 body (k + 1) a0 a1 a2 a3 a4 a5 a6 a7 = some r) : body (itr8 body k) a0 a1 a2 a3 a4 a5 a6 a7 = some r := h
theorem itr8_0 {A0 A1 A2 A3 A4 A5 A6 A7 R : Type} {body : (A0 → A1 → A2 → A3 → A4 → A5 → A6 → A7 → Option R) → (A0 → A1 → A2 → A3 → A4 → A5 → A6 → A7 → Option R)} {a0 : A0} {a1 : A1} {a2 : A2} {a3 : A3} {a4 : A4} {a5 : A5} {a6 : A6} {a7 : A7} {r : R} (h : itr8 body 0 a0 a1 a2 a3 a4 a5 a6 a7 = some r) : False := by cases h
