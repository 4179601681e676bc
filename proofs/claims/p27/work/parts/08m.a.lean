/-! loops whose bodies count, and what they compute -/
/-- from k on, n times -/
def fo {β : Type} (g : Nat → β → β) : Nat → Nat → β → β
  | _, 0, b => b
  | k, n + 1, b => fo g (k + 1) n (g k b)
theorem fo_congr {β : Type} {g h : Nat → β → β} : ∀ (n k : Nat) (b : β), (∀ j b, k ≤ j → j < k + n → g j b = h j b) → fo g k n b = fo h k n b
  | 0, _, _, _ => rfl
  | n + 1, k, b, H => by
    show fo g (k + 1) n (g k b) = fo h (k + 1) n (h k b)
    rw [H k b (Nat.le_refl _) (by omega)]
    exact fo_congr n (k + 1) _ (fun j b h1 h2 => H j b (by omega) (by omega))
theorem fo_snoc {β : Type} {g : Nat → β → β} : ∀ (n k : Nat) (b : β), fo g k (n + 1) b = g (k + n) (fo g k n b)
  | 0, _, _ => rfl
  | n + 1, k, b => by
    show fo g (k + 1) (n + 1) (g k b) = g (k + (n + 1)) (fo g (k + 1) n (g k b))
    rw [fo_snoc n (k + 1) (g k b), show k + 1 + n = k + (n + 1) by omega]
theorem fo_inv {β : Type} {g : Nat → β → β} (P : Nat → β → Prop) : ∀ (n k : Nat) (b : β), P k b → (∀ j b, k ≤ j → j < k + n → P j b → P (j + 1) (g j b)) → P (k + n) (fo g k n b)
  | 0, _, _, h, _ => h
  | n + 1, k, b, h, H => by
    rw [show k + (n + 1) = k + 1 + n by omega]
    exact fo_inv P n (k + 1) _ (H k b (Nat.le_refl _) (by omega) h) (fun j b h1 h2 => H j b (by omega) (by omega))
/-- a sum of 32 bits -/
def sI (e : Nat → Int32) : Nat → Nat → Int32
  | _, 0 => 0
  | k, n + 1 => e k + sI e (k + 1) n
theorem sI_congr {e f : Nat → Int32} : ∀ (n k : Nat), (∀ j, k ≤ j → j < k + n → e j = f j) → sI e k n = sI f k n
  | 0, _, _ => rfl
  | n + 1, k, H => by
    show e k + sI e (k + 1) n = f k + sI f (k + 1) n
    rw [H k (Nat.le_refl _) (by omega), sI_congr n (k + 1) (fun j h1 h2 => H j (by omega) (by omega))]
/-- how many, as a natural number -/
def cn (P : Nat → Bool) : Nat → Nat → Nat
  | _, 0 => 0
  | k, n + 1 => (if P k = true then 1 else 0) + cn P (k + 1) n
theorem cn_le (P : Nat → Bool) : ∀ n k, cn P k n ≤ n
  | 0, _ => Nat.le_refl _
  | n + 1, k => by
    show (if P k = true then 1 else 0) + cn P (k + 1) n ≤ n + 1
    have := cn_le P n (k + 1)
    split <;> omega
theorem cn_congr {P Q : Nat → Bool} : ∀ (n k : Nat), (∀ j, k ≤ j → j < k + n → P j = Q j) → cn P k n = cn Q k n
  | 0, _, _ => rfl
  | n + 1, k, H => by
    show (if P k = true then 1 else 0) + cn P (k + 1) n = (if Q k = true then 1 else 0) + cn Q (k + 1) n
    rw [H k (Nat.le_refl _) (by omega), cn_congr n (k + 1) (fun j h1 h2 => H j (by omega) (by omega))]
theorem cn_mono {P Q : Nat → Bool} : ∀ (n k : Nat), (∀ j, k ≤ j → j < k + n → P j = true → Q j = true) → cn P k n ≤ cn Q k n
  | 0, _, _ => Nat.le_refl _
  | n + 1, k, H => by
    show (if P k = true then 1 else 0) + cn P (k + 1) n ≤ (if Q k = true then 1 else 0) + cn Q (k + 1) n
    have h1 := H k (Nat.le_refl _) (by omega)
    have h2 := cn_mono n (k + 1) (fun j h1 h2 => H j (by omega) (by omega))
    by_cases hp : P k = true
    · rw [if_pos hp, if_pos (h1 hp)]; omega
    · rw [if_neg hp]; split <;> omega
/-- one place changes -/
theorem cn_set {P Q : Nat → Bool} (c : Nat) (hP : P c = true) (hQ : Q c = false) : ∀ (n k : Nat), k ≤ c → c < k + n → (∀ j, j ≠ c → P j = Q j) → cn P k n = cn Q k n + 1
  | 0, k, h1, h2, _ => by omega
  | n + 1, k, h1, h2, H => by
    show (if P k = true then 1 else 0) + cn P (k + 1) n = (if Q k = true then 1 else 0) + cn Q (k + 1) n + 1
    by_cases hk : k = c
    · subst hk
      rw [if_pos hP, hQ, cn_congr n (k + 1) (fun j h3 _ => H j (by omega))]
      simp
      omega
    · rw [cn_set c hP hQ n (k + 1) (by omega) (by omega) H, H k hk]
      omega
theorem cn_pos {P : Nat → Bool} (c : Nat) (hP : P c = true) : ∀ (n k : Nat), k ≤ c → c < k + n → 0 < cn P k n
  | 0, k, h1, h2 => by omega
  | n + 1, k, h1, h2 => by
    show 0 < (if P k = true then 1 else 0) + cn P (k + 1) n
    by_cases hk : k = c
    · subst hk; rw [if_pos hP]; omega
    · have := cn_pos c hP n (k + 1) (by omega) (by omega)
      omega
theorem cn_zero {P : Nat → Bool} : ∀ (n k : Nat), cn P k n = 0 → ∀ j, k ≤ j → j < k + n → P j = false := by
  intro n k h j h1 h2
  cases hj : P j with
  | false => rfl
  | true => have := cn_pos (P := P) j hj n k h1 h2; omega
theorem sI_cn (P : Nat → Bool) : ∀ n k, sI (fun j => if P j = true then 1 else 0) k n = nI (cn P k n)
  | 0, _ => rfl
  | n + 1, k => by
    show (if P k = true then (1 : Int32) else 0) + sI _ (k + 1) n = nI ((if P k = true then 1 else 0) + cn P (k + 1) n)
    rw [sI_cn P n (k + 1), ← nI_add]
    split <;> rfl
theorem i_zadd (a : Int32) : 0 + a = a := Int32.zero_add a
theorem i_addz (a : Int32) : a + 0 = a := Int32.add_zero a
theorem FUEL_eq {j : Nat} (h : j < 2000000) : FUEL = (FUEL - j - 1) + j + 1 := by
  show 2000000 = 2000000 - j - 1 + j + 1
  omega
/-- a loop that adds, its counter behind the sum -/
theorem lp_sum {B : (Int32 → Int32 → Option Int32) → Int32 → Int32 → Option Int32} {N : Nat} {e : Nat → Int32}
    (h0 : ∀ rec a, B rec a (nI N) = some a) (hs : ∀ rec a k, k < N → B rec a (nI k) = rec (a + e k) (nI (k + 1))) : ∀ j k a m, k + j = N → itr2 B (m + j + 1) a (nI k) = some (a + sI e k j)
  | 0, k, a, m, h => by
    have : k = N := h
    subst this
    show B (itr2 B m) a (nI k) = _
    rw [h0]
    show some a = some (a + 0)
    rw [i_addz]
  | j + 1, k, a, m, h => by
    show B (itr2 B (m + j + 1)) a (nI k) = _
    rw [hs _ _ k (by omega), lp_sum h0 hs j (k + 1) _ m (by omega)]
    show _ = some (a + (e k + sI e (k + 1) j))
    rw [Int32.add_assoc]
theorem lp_sumF {B : (Int32 → Int32 → Option Int32) → Int32 → Int32 → Option Int32} {N : Nat} {e : Nat → Int32} (hN : N < 2000000)
    (h0 : ∀ rec a, B rec a (nI N) = some a) (hs : ∀ rec a k, k < N → B rec a (nI k) = rec (a + e k) (nI (k + 1))) : itr2 B FUEL 0 0 = some (sI e 0 N) := by
  have h := lp_sum h0 hs N 0 0 (FUEL - N - 1) (by omega)
  rw [← FUEL_eq hN, i_zadd] at h
  exact h
/-- loops that count up, with a state: v says where the counter and the state lie -/
theorem lq1 {V β R : Type} {B : (V → Option R) → V → Option R} (v : Nat → β → V) (N : Nat) (g : Nat → β → β) (P : Nat → β → Prop) (r : β → Option R)
    (h0 : ∀ rec b, P N b → B rec (v N b) = r b) (hs : ∀ rec k b, k < N → P k b → B rec (v k b) = rec (v (k + 1) (g k b)) ∧ P (k + 1) (g k b)) : ∀ j k b m, k + j = N → P k b → itr1 B (m + j + 1) (v k b) = r (fo g k j b) ∧ P N (fo g k j b)
  | 0, k, b, m, h, hp => by
    have : k = N := h
    subst this
    exact ⟨h0 _ b hp, hp⟩
  | j + 1, k, b, m, h, hp => by
    obtain ⟨e, hp2⟩ := hs (itr1 B (m + j + 1)) k b (by omega) hp
    have ih := lq1 v N g P r h0 hs j (k + 1) _ m (by omega) hp2
    refine ⟨?_, ih.2⟩
    show B (itr1 B (m + j + 1)) (v k b) = _
    rw [e]
    exact ih.1
theorem lq2 {A β R : Type} {B : (Int32 → A → Option R) → Int32 → A → Option R} (v : β → A) (N : Nat) (g : Nat → β → β) (P : Nat → β → Prop) (r : β → Option R) (hN : N < 2000000)
    (h0 : ∀ rec b, P N b → B rec (nI N) (v b) = r b) (hs : ∀ rec k b, k < N → P k b → B rec (nI k) (v b) = rec (nI (k + 1)) (v (g k b)) ∧ P (k + 1) (g k b)) (b : β) (hp : P 0 b) : itr2 B FUEL 0 (v b) = r (fo g 0 N b) ∧ P N (fo g 0 N b) := by
  have key : ∀ j k b m, k + j = N → P k b → itr2 B (m + j + 1) (nI k) (v b) = r (fo g k j b) ∧ P N (fo g k j b) := by
    intro j
    induction j with
    | zero => intro k b m h hp; have : k = N := h; subst this; exact ⟨h0 _ b hp, hp⟩
    | succ j ih =>
      intro k b m h hp
      obtain ⟨e, hp2⟩ := hs (itr2 B (m + j + 1)) k b (by omega) hp
      have i2 := ih (k + 1) _ m (by omega) hp2
      refine ⟨?_, i2.2⟩
      show B (itr2 B (m + j + 1)) (nI k) (v b) = _
      rw [e]
      exact i2.1
  have h := key N 0 b (FUEL - N - 1) (by omega) hp
  rw [← FUEL_eq hN] at h
  exact h
/-! one rule for all loops: what is wanted of the answer, and a way down to it -/
theorem lr1 {A0 R : Type} {B : (A0 → Option R) → A0 → Option R} (Post : Option R → Prop) (Inv : Nat → A0 → Prop)
    (h : ∀ rec n a0, Inv n a0 → (∀ m b0, m < n → Inv m b0 → Post (rec b0)) → Post (B rec a0)) : ∀ f n a0, n < f → Inv n a0 → Post (itr1 B f a0)
  | 0, n, a0, h1, _ => by omega
  | f + 1, n, a0, _, h2 => h _ n a0 h2 (fun m b0 hm hi => lr1 Post Inv h f m b0 (by omega) hi)
theorem lr2 {A0 A1 R : Type} {B : (A0 → A1 → Option R) → A0 → A1 → Option R} (Post : Option R → Prop) (Inv : Nat → A0 → A1 → Prop)
    (h : ∀ rec n a0 a1, Inv n a0 a1 → (∀ m b0 b1, m < n → Inv m b0 b1 → Post (rec b0 b1)) → Post (B rec a0 a1)) : ∀ f n a0 a1, n < f → Inv n a0 a1 → Post (itr2 B f a0 a1)
  | 0, n, a0, a1, h1, _ => by omega
  | f + 1, n, a0, a1, _, h2 => h _ n a0 a1 h2 (fun m b0 b1 hm hi => lr2 Post Inv h f m b0 b1 (by omega) hi)
theorem lr3 {A0 A1 A2 R : Type} {B : (A0 → A1 → A2 → Option R) → A0 → A1 → A2 → Option R} (Post : Option R → Prop) (Inv : Nat → A0 → A1 → A2 → Prop)
    (h : ∀ rec n a0 a1 a2, Inv n a0 a1 a2 → (∀ m b0 b1 b2, m < n → Inv m b0 b1 b2 → Post (rec b0 b1 b2)) → Post (B rec a0 a1 a2)) : ∀ f n a0 a1 a2, n < f → Inv n a0 a1 a2 → Post (itr3 B f a0 a1 a2)
  | 0, n, a0, a1, a2, h1, _ => by omega
  | f + 1, n, a0, a1, a2, _, h2 => h _ n a0 a1 a2 h2 (fun m b0 b1 b2 hm hi => lr3 Post Inv h f m b0 b1 b2 (by omega) hi)
theorem lr4 {A0 A1 A2 A3 R : Type} {B : (A0 → A1 → A2 → A3 → Option R) → A0 → A1 → A2 → A3 → Option R} (Post : Option R → Prop) (Inv : Nat → A0 → A1 → A2 → A3 → Prop)
    (h : ∀ rec n a0 a1 a2 a3, Inv n a0 a1 a2 a3 → (∀ m b0 b1 b2 b3, m < n → Inv m b0 b1 b2 b3 → Post (rec b0 b1 b2 b3)) → Post (B rec a0 a1 a2 a3)) : ∀ f n a0 a1 a2 a3, n < f → Inv n a0 a1 a2 a3 → Post (itr4 B f a0 a1 a2 a3)
  | 0, n, a0, a1, a2, a3, h1, _ => by omega
  | f + 1, n, a0, a1, a2, a3, _, h2 => h _ n a0 a1 a2 a3 h2 (fun m b0 b1 b2 b3 hm hi => lr4 Post Inv h f m b0 b1 b2 b3 (by omega) hi)
/-- a loop that adds, and goes on with its sum -/
theorem lp_sumC {R : Type} {B : (Int32 → Int32 → Option R) → Int32 → Int32 → Option R} {N : Nat} {e : Nat → Int32} (r : Int32 → Option R) (hN : N < 2000000)
    (h0 : ∀ rec a, B rec a (nI N) = r a) (hs : ∀ rec a k, k < N → B rec a (nI k) = rec (a + e k) (nI (k + 1))) (a0 : Int32) : itr2 B FUEL a0 0 = r (a0 + sI e 0 N) := by
  have h : ∀ j k a m, k + j = N → itr2 B (m + j + 1) a (nI k) = r (a + sI e k j) := by
    intro j
    induction j with
    | zero =>
      intro k a m h
      have : k = N := h
      subst this
      show B (itr2 B m) a (nI k) = _
      rw [h0]
      show r a = r (a + 0)
      rw [i_addz]
    | succ j ih =>
      intro k a m h
      show B (itr2 B (m + j + 1)) a (nI k) = _
      rw [hs _ _ k (by omega), ih (k + 1) _ m (by omega)]
      show _ = r (a + (e k + sI e (k + 1) j))
      rw [Int32.add_assoc]
  have h2 := h N 0 a0 (FUEL - N - 1) (by omega)
  rw [← FUEL_eq hN] at h2
  exact h2
/-! small numbers -/
theorem nI_lit (n : Nat) [OfNat Int32 n] (h : (OfNat.ofNat n : Int32) = nI n) : (OfNat.ofNat n : Int32) = nI n := h
theorem inb_nI {k n : Nat} (h : k < n) (hn : n < 2 ^ 31) : inb (nI k) n = true := decide_eq_true (nI_in h hn)
theorem nI_lt0 {k : Nat} (h : k < 2 ^ 31) : ¬ nI k < 0 := nI_pos h
theorem nI_m1 {k : Nat} (h : k < 2 ^ 31) : ¬ nI k = -1 := fun e => by
  have h1 := congrArg Int32.toInt e
  rw [nI_toInt h] at h1
  have h2 : (-1 : Int32).toInt = -1 := by decide
  omega
theorem nI_div {a b : Nat} (ha : a < 2 ^ 31) (hb : b < 2 ^ 31) : nI a / nI b = nI (a / b) := (Int32.ofNat_div ha hb).symm
theorem nI_sub {a b : Nat} (h : b ≤ a) : nI a - nI b = nI (a - b) := pk_sub h
theorem nI_mul (a b : Nat) : nI a * nI b = nI (a * b) := pk_mul a b
theorem nI_lo {c : Nat} (h : c < 2 ^ 31) : nI c / 10 = nI (c / 10) := nI_div h (by decide)
theorem nI_hi {c : Nat} (h : c < 2 ^ 31) : nI c - nI c / 10 * 10 = nI (c % 10) := by
  rw [nI_lo h, show nI (c / 10) * 10 = nI (c / 10 * 10) from nI_mul (c / 10) 10, nI_sub (by omega)]
  congr 1
  omega
theorem gd_t {α : Type} {b : Bool} {x : Option α} (h : b = true) : gd b x = x := if_pos h
theorem bd1_e {α β : Type} {x : Option β} {b : β} {k : β → Option α} (h : x = some b) : bd1 x k = k b := by rw [h]; rfl
theorem bd2_e {α β γ : Type} {x : Option (β × γ)} {b : β} {c : γ} {k : β → γ → Option α} (h : x = some (b, c)) : bd2 x k = k b c := by rw [h]; rfl
theorem bd3_e {α β γ δ : Type} {x : Option (β × γ × δ)} {b : β} {c : γ} {d : δ} {k : β → γ → δ → Option α} (h : x = some (b, c, d)) : bd3 x k = k b c d := by rw [h]; rfl
