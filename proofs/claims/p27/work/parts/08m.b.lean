/-! numbers of the texts as small naturals; the games: what always holds, and how a row of the reference tells one -/
def m1 : Int32 := -1
theorem i_0 : (0 : Int32) = nI 0 := rfl
theorem i_1 : (1 : Int32) = nI 1 := rfl
theorem i_2 : (2 : Int32) = nI 2 := rfl
theorem i_3 : (3 : Int32) = nI 3 := rfl
theorem i_4 : (4 : Int32) = nI 4 := rfl
theorem i_5 : (5 : Int32) = nI 5 := rfl
theorem i_6 : (6 : Int32) = nI 6 := rfl
theorem i_7 : (7 : Int32) = nI 7 := rfl
theorem i_8 : (8 : Int32) = nI 8 := rfl
theorem i_9 : (9 : Int32) = nI 9 := rfl
theorem i_10 : (10 : Int32) = nI 10 := rfl
theorem i_11 : (11 : Int32) = nI 11 := rfl
theorem i_12 : (12 : Int32) = nI 12 := rfl
theorem i_13 : (13 : Int32) = nI 13 := rfl
theorem i_14 : (14 : Int32) = nI 14 := rfl
theorem i_15 : (15 : Int32) = nI 15 := rfl
theorem i_16 : (16 : Int32) = nI 16 := rfl
theorem i_19 : (19 : Int32) = nI 19 := rfl
theorem i_20 : (20 : Int32) = nI 20 := rfl
theorem i_24 : (24 : Int32) = nI 24 := rfl
theorem i_31 : (31 : Int32) = nI 31 := rfl
theorem i_55 : (55 : Int32) = nI 55 := rfl
theorem i_58 : (58 : Int32) = nI 58 := rfl
theorem i_99 : (99 : Int32) = nI 99 := rfl
theorem i_100 : (100 : Int32) = nI 100 := rfl
theorem i_119 : (119 : Int32) = nI 119 := rfl
theorem i_174 : (174 : Int32) = nI 174 := rfl
theorem i_200 : (200 : Int32) = nI 200 := rfl
theorem i_464 : (464 : Int32) = nI 464 := rfl
theorem i_500 : (500 : Int32) = nI 500 := rfl
theorem i_1000 : (1000 : Int32) = nI 1000 := rfl
theorem i_1464 : (1464 : Int32) = nI 1464 := rfl
theorem i_4096 : (4096 : Int32) = nI 4096 := rfl
theorem i_9999 : (9999 : Int32) = nI 9999 := rfl
theorem i_12345 : (12345 : Int32) = nI 12345 := rfl
theorem i_32767 : (32767 : Int32) = nI 32767 := rfl
theorem i_40960 : (40960 : Int32) = nI 40960 := rfl
theorem i_m1 : -(nI 1) = m1 := rfl
theorem m1_clamp : m1.toNatClampNeg = 0 := by decide
theorem eq_m1 {k : Nat} (h : k < 2 ^ 31) : (nI k = m1) = False := eq_false (nI_m1 h)
theorem m1_eq {k : Nat} (h : k < 2 ^ 31) : (m1 = nI k) = False := eq_false (fun e => nI_m1 h e.symm)
theorem m1_lt {k : Nat} (h : k < 2 ^ 31) : (m1 < nI k) = True := by
  refine eq_true ?_
  rw [Int32.lt_iff_toInt_lt, nI_toInt h]
  have : m1.toInt = -1 := by decide
  omega
theorem lt_m1 {k : Nat} (h : k < 2 ^ 31) : (nI k < m1) = False := by
  refine eq_false ?_
  rw [Int32.lt_iff_toInt_lt, nI_toInt h]
  have : m1.toInt = -1 := by decide
  omega
theorem le_m1 {k : Nat} (h : k < 2 ^ 31) : (nI k ≤ m1) = False := by
  refine eq_false ?_
  rw [Int32.le_iff_toInt_le, nI_toInt h]
  have : m1.toInt = -1 := by decide
  omega
theorem m1_le {k : Nat} (h : k < 2 ^ 31) : (m1 ≤ nI k) = True := by
  refine eq_true ?_
  rw [Int32.le_iff_toInt_le, nI_toInt h]
  have : m1.toInt = -1 := by decide
  omega
theorem eq_nI {a b : Nat} (ha : a < 2 ^ 31) (hb : b < 2 ^ 31) : (nI a = nI b) = (a = b) := propext (nI_eq ha hb)
theorem le_nI {a b : Nat} (ha : a < 2 ^ 31) (hb : b < 2 ^ 31) : (nI a ≤ nI b) = (a ≤ b) := propext (nI_leI ha hb)
theorem lt_nI {a b : Nat} (ha : a < 2 ^ 31) (hb : b < 2 ^ 31) : (nI a < nI b) = (a < b) := propext (nI_ltI ha hb)
theorem ie_eq {α : Type} {a b : Nat} (ha : a < 2 ^ 31) (hb : b < 2 ^ 31) {x y : α} : (if nI a = nI b then x else y) = (if a = b then x else y) := by
  by_cases h : a = b
  · rw [if_pos h, if_pos ((nI_eq ha hb).mpr h)]
  · rw [if_neg h, if_neg (fun q => h ((nI_eq ha hb).mp q))]
theorem ie_le {α : Type} {a b : Nat} (ha : a < 2 ^ 31) (hb : b < 2 ^ 31) {x y : α} : (if nI a ≤ nI b then x else y) = (if a ≤ b then x else y) := by
  by_cases h : a ≤ b
  · rw [if_pos h, if_pos ((nI_leI ha hb).mpr h)]
  · rw [if_neg h, if_neg (fun q => h ((nI_leI ha hb).mp q))]
theorem ie_lt {α : Type} {a b : Nat} (ha : a < 2 ^ 31) (hb : b < 2 ^ 31) {x y : α} : (if nI a < nI b then x else y) = (if a < b then x else y) := by
  by_cases h : a < b
  · rw [if_pos h, if_pos ((nI_ltI ha hb).mpr h)]
  · rw [if_neg h, if_neg (fun q => h ((nI_ltI ha hb).mp q))]
theorem ie_eq0 {α : Type} {a : Nat} (ha : a < 2 ^ 31) {x y : α} : (if nI a = 0 then x else y) = (if a = 0 then x else y) := ie_eq (b := 0) ha (by omega)
theorem ie_le0 {α : Type} {a : Nat} (ha : a < 2 ^ 31) {x y : α} : (if nI a ≤ 0 then x else y) = (if a = 0 then x else y) := by
  rw [show (if nI a ≤ 0 then x else y) = (if a ≤ 0 then x else y) from ie_le (b := 0) ha (by omega)]
  by_cases h : a = 0
  · rw [if_pos h, if_pos (by omega)]
  · rw [if_neg h, if_neg (by omega)]
theorem ie_lt1 {α : Type} {a : Nat} (ha : a < 2 ^ 31) {x y : α} : (if nI a < 1 then x else y) = (if a = 0 then x else y) := by
  rw [show (if nI a < 1 then x else y) = (if a < 1 then x else y) from ie_lt (b := 1) ha (by omega)]
  by_cases h : a = 0
  · rw [if_pos h, if_pos (by omega)]
  · rw [if_neg h, if_neg (by omega)]
theorem ie_m1 {α : Type} {a : Nat} (ha : a < 2 ^ 31) {x y : α} : (if nI a = -1 then x else y) = y := if_neg (nI_m1 ha)
theorem inb_t {k n : Nat} (h : k < n) (hn : n < 2 ^ 31) : inb (nI k) n = true := inb_nI h hn
theorem gd_T {α : Type} {x : Option α} : gd true x = x := rfl
theorem bd1_S {α β : Type} {b : β} {k : β → Option α} : bd1 (some b) k = k b := rfl
theorem bd2_S {α β γ : Type} {b : β} {c : γ} {k : β → γ → Option α} : bd2 (some (b, c)) k = k b c := rfl
theorem bd3_S {α β γ δ : Type} {b : β} {c : γ} {d : δ} {k : β → γ → δ → Option α} : bd3 (some (b, c, d)) k = k b c d := rfl
theorem nmd_S {α β : Type} {x : β} {k : β → Option α} : nmd x k = k x := rfl
theorem nI_sub2 {a b : Nat} (h : b ≤ a) : nI a - nI b = nI (a - b) := pk_sub h
theorem nI_mul2 (a b : Nat) : nI a * nI b = nI (a * b) := pk_mul a b
theorem nI_div2 {a b : Nat} (ha : a < 2 ^ 31) (hb : b < 2 ^ 31) : nI a / nI b = nI (a / b) := nI_div ha hb
theorem nI_dm {a b : Nat} (ha : a < 2 ^ 31) (hb : b < 2 ^ 31) : nI a - nI (a / b * b) = nI (a % b) := by
  rw [nI_sub (Nat.div_mul_le_self a b)]
  congr 1
  have := Nat.div_add_mod a b
  rw [Nat.mul_comm] at this
  omega
theorem nI_am1 {a : Nat} (h : 0 < a) : nI a + m1 = nI (a - 1) := by
  obtain ⟨b, rfl⟩ : ∃ b, a = b + 1 := ⟨a - 1, by omega⟩
  exact pk_m1 b
theorem isb_0 : isb (nI 0) = true := by decide
theorem isb_1 : isb (nI 1) = true := by decide
theorem upd_s {f : Nat → Int32} {k : Nat} {x : Int32} : upd f k x k = x := if_pos rfl
theorem upd_n {f : Nat → Int32} {k j : Nat} {x : Int32} (h : ¬ j = k) : upd f k x j = f j := if_neg h
theorem upA_s {f : Nat → Nat → Int32} {k : Nat} {x : Nat → Int32} : upA f k x k = x := if_pos rfl
theorem upA_n {f : Nat → Nat → Int32} {k j : Nat} {x : Nat → Int32} (h : ¬ j = k) : upA f k x j = f j := if_neg h
/-! the small functions of the class -/
theorem e_low {c : Nat} (h : c < 2 ^ 31) : f_X7_lowNumber (nI c) = some (nI (c / 10)) := by
  unfold f_X7_lowNumber
  rw [i_10, nI_div h (by decide)]
theorem e_high {c : Nat} (h : c < 2 ^ 31) : f_X7_highNumber (nI c) = some (nI (c % 10)) := by
  unfold f_X7_highNumber
  rw [nI_hi h]
theorem e_double {c : Nat} (h : c < 2 ^ 31) : f_X7_isDouble (nI c) = some (if c / 10 = c % 10 then 1 else 0) := by
  unfold f_X7_isDouble
  rw [e_low h, e_high h, bd1_S, bd1_S, ie_eq (by omega) (by omega)]
  split <;> rfl
theorem e_pips {c : Nat} (h : c < 2 ^ 31) : f_X7_pipsOf (nI c) = some (nI (c / 10 + c % 10)) := by
  unfold f_X7_pipsOf
  rw [e_low h, e_high h, bd1_S, bd1_S, nI_add]
theorem e_has {c x : Nat} (h : c < 2 ^ 31) (hx : x < 2 ^ 31) : f_X7_hasNumber (nI c) (nI x) = some (if c / 10 = x ∨ c % 10 = x then 1 else 0) := by
  unfold f_X7_hasNumber
  rw [e_low h, bd1_S, ie_eq (by omega) hx, e_high h, bd1_S, ie_eq (by omega) hx]
  by_cases h1 : c / 10 = x
  · simp [h1]
  · by_cases h2 : c % 10 = x <;> simp [h1, h2]
theorem e_look {n : Nat} {h0 : Nat → Int32} {k : Nat} (h : k < n) (hn : n < 2 ^ 31) : f_X7_look n h0 (nI k) = some (h0 k) := by
  unfold f_X7_look
  rw [if_neg (nI_lt0 (by omega)), ie_le hn (by omega), if_neg (by omega), inb_t h hn, gd_T, nI_clamp (by omega)]
theorem e_put {n : Nat} {h0 : Nat → Int32} {k : Nat} {v : Int32} (h : k < n) (hn : n < 2 ^ 31) : f_X7_put n h0 (nI k) v = some (upd h0 k v) := by
  unfold f_X7_put
  rw [if_neg (nI_lt0 (by omega)), ie_le hn (by omega), if_neg (by omega), inb_t h hn, gd_T, nI_clamp (by omega)]
  rfl
theorem e_copy {n : Nat} {h0 h1 : Nat → Int32} (hn : n < 2 ^ 31) : f_X7_copy n n h0 h1 = some (va_cpy h0 h1 0 0 n) := by
  unfold f_X7_copy
  rw [if_neg (Int32.lt_irrefl), nmd_S]
  have h : cpg 0 0 (nI n) n n = true := by
    refine decide_eq_true ⟨by decide, by decide, nI_lt0 hn, ?_, ?_⟩
    · show 0 + (nI n).toNatClampNeg ≤ n
      rw [nI_clamp hn]; omega
    · show 0 + (nI n).toNatClampNeg ≤ n
      rw [nI_clamp hn]; omega
  rw [h, gd_T, nmd_S, nI_clamp hn]
  rfl
theorem cpy_lt {f g : Nat → Int32} {n k : Nat} (h : k < n) : va_cpy f g 0 0 n k = f k := by
  unfold va_cpy
  rw [if_pos ⟨Nat.zero_le _, by omega⟩, Nat.zero_add, Nat.sub_zero]
theorem e_fill {n : Nat} {h0 : Nat → Int32} {v : Int32} (hn : n < 2000000) : ∃ h1, f_J7_fill_53178 n h0 v = some h1 ∧ ∀ k, k < n → h1 k = v := by
  have h := lq2 (B := f_J7_fill_53178_B5 n v) (v := fun (b : Nat → Int32) => b) n (fun k b => upd b k v) (fun k b => ∀ j, j < k → b j = v) (fun b => some b) hn
    (fun rec b _ => by
      unfold f_J7_fill_53178_B5
      rw [ie_le (by omega) (by omega), if_pos (Nat.le_refl _)])
    (fun rec k b hk hp => by
      unfold f_J7_fill_53178_B5
      rw [ie_le (by omega) (by omega), if_neg (by omega), inb_t hk (by omega), gd_T, nmd_S, nI_clamp (by omega), i_1, nI_add]
      refine ⟨rfl, fun j hj => ?_⟩
      by_cases h : j = k
      · rw [h, upd_s]
      · rw [upd_n h]; exact hp j (by omega)) h0 (fun j hj => by omega)
  exact ⟨_, h.1, h.2⟩
/-! literal places of a row -/
theorem gl_0 {α : Type} {x : Option α} : gd (inb 0 1464) x = x := gd_t (by decide)
theorem cl_0 : (0 : Int32).toNatClampNeg = 0 := rfl
theorem gl_1 {α : Type} {x : Option α} : gd (inb 1 1464) x = x := gd_t (by decide)
theorem cl_1 : (1 : Int32).toNatClampNeg = 1 := rfl
theorem gl_2 {α : Type} {x : Option α} : gd (inb 2 1464) x = x := gd_t (by decide)
theorem cl_2 : (2 : Int32).toNatClampNeg = 2 := rfl
theorem gl_3 {α : Type} {x : Option α} : gd (inb 3 1464) x = x := gd_t (by decide)
theorem cl_3 : (3 : Int32).toNatClampNeg = 3 := rfl
theorem gl_4 {α : Type} {x : Option α} : gd (inb 4 1464) x = x := gd_t (by decide)
theorem cl_4 : (4 : Int32).toNatClampNeg = 4 := rfl
theorem gl_5 {α : Type} {x : Option α} : gd (inb 5 1464) x = x := gd_t (by decide)
theorem cl_5 : (5 : Int32).toNatClampNeg = 5 := rfl
theorem gl_6 {α : Type} {x : Option α} : gd (inb 6 1464) x = x := gd_t (by decide)
theorem cl_6 : (6 : Int32).toNatClampNeg = 6 := rfl
theorem gl_7 {α : Type} {x : Option α} : gd (inb 7 1464) x = x := gd_t (by decide)
theorem cl_7 : (7 : Int32).toNatClampNeg = 7 := rfl
theorem gl_8 {α : Type} {x : Option α} : gd (inb 8 1464) x = x := gd_t (by decide)
theorem cl_8 : (8 : Int32).toNatClampNeg = 8 := rfl
theorem gl_9 {α : Type} {x : Option α} : gd (inb 9 1464) x = x := gd_t (by decide)
theorem cl_9 : (9 : Int32).toNatClampNeg = 9 := rfl
theorem gl_10 {α : Type} {x : Option α} : gd (inb 10 1464) x = x := gd_t (by decide)
theorem cl_10 : (10 : Int32).toNatClampNeg = 10 := rfl
theorem gl_11 {α : Type} {x : Option α} : gd (inb 11 1464) x = x := gd_t (by decide)
theorem cl_11 : (11 : Int32).toNatClampNeg = 11 := rfl
theorem gl_12 {α : Type} {x : Option α} : gd (inb 12 1464) x = x := gd_t (by decide)
theorem cl_12 : (12 : Int32).toNatClampNeg = 12 := rfl
theorem gl_13 {α : Type} {x : Option α} : gd (inb 13 1464) x = x := gd_t (by decide)
theorem cl_13 : (13 : Int32).toNatClampNeg = 13 := rfl
theorem gl_14 {α : Type} {x : Option α} : gd (inb 14 1464) x = x := gd_t (by decide)
theorem cl_14 : (14 : Int32).toNatClampNeg = 14 := rfl
