/-! what an instruction asks of a map, and goes on with: the words of the predicates that the walks compute -/
abbrev eI (cA : ClassId) (n : Nat) (f : Nat → Int32) : va_E := .inl (cA, n, .inl f)
abbrev eL (cA : ClassId) (n : Nat) (f : Nat → Int64) : va_E := .inl (cA, n, .inr (.inl f))
abbrev eQ (cA : ClassId) (n : Nat) (f : Nat → Option Nat) : va_E := .inl (cA, n, .inr (.inr (.inr (.inr f))))
def gI (h : HW) (a ci k : Nat) (K : Int32 → Prop) : Prop := ∃ (w : Bool) (fs : List Value) (v : Int32), h a = some (w, .inr (ci, fs)) ∧ fs[k]? = some (.int v) ∧ K v
def gR (h : HW) (a ci k : Nat) (K : Nat → Prop) : Prop := ∃ (w : Bool) (fs : List Value) (v : Nat), h a = some (w, .inr (ci, fs)) ∧ fs[k]? = some (.ref v) ∧ K v
def gQ (h : HW) (a ci k : Nat) (K : Option Nat → Prop) : Prop := ∃ (w : Bool) (fs : List Value) (v : Option Nat), h a = some (w, .inr (ci, fs)) ∧ fs[k]? = some (va_rf v) ∧ K v
def pV (h : HW) (a ci k : Nat) (v : Value) (K : HW → Prop) : Prop := ∃ (fs : List Value), h a = some (true, .inr (ci, fs)) ∧ k < fs.length ∧ K (hup h a (.inr (ci, fs.set k v)))
def pZ (h : HW) (a ci k : Nat) (v : Int32) (K : HW → Prop) : Prop := ∃ (fs : List Value), h a = some (true, .inr (ci, fs)) ∧ k < fs.length ∧ (v = 0 ∨ v = 1) ∧ K (hup h a (.inr (ci, fs.set k (.int v))))
def pB (h : HW) (a ci k : Nat) (v : Int32) (K : HW → Prop) : Prop := ∃ (fs : List Value), h a = some (true, .inr (ci, fs)) ∧ k < fs.length ∧ (narrow .byte (.int v) = .int v ∧ fits .byte (.int v) = true) ∧ K (hup h a (.inr (ci, fs.set k (.int v))))
def lI (h : HW) (cA : ClassId) (a : Nat) (i : Int32) (K : Int32 → Prop) : Prop := ∃ (w : Bool) (n : Nat) (f : Nat → Int32), h a = some (w, eI cA n f) ∧ vp_in i n ∧ ∀ x, x = f i.toNatClampNeg → K x
def lL (h : HW) (cA : ClassId) (a : Nat) (i : Int32) (K : Int64 → Prop) : Prop := ∃ (w : Bool) (n : Nat) (f : Nat → Int64), h a = some (w, eL cA n f) ∧ vp_in i n ∧ ∀ x, x = f i.toNatClampNeg → K x
def lR (h : HW) (cA : ClassId) (a : Nat) (i : Int32) (K : Nat → Prop) : Prop := ∃ (w : Bool) (n : Nat) (f : Nat → Option Nat) (v : Nat), h a = some (w, eQ cA n f) ∧ vp_in i n ∧ f i.toNatClampNeg = some v ∧ K v
def lQ (h : HW) (cA : ClassId) (a : Nat) (i : Int32) (K : Option Nat → Prop) : Prop := ∃ (w : Bool) (n : Nat) (f : Nat → Option Nat), h a = some (w, eQ cA n f) ∧ vp_in i n ∧ ∀ x, x = f i.toNatClampNeg → K x
def stI (h : HW) (cA : ClassId) (a : Nat) (i x : Int32) (K : HW → Prop) : Prop := ∃ (n : Nat) (f : Nat → Int32), h a = some (true, eI cA n f) ∧ vp_in i n ∧ K (hup h a (eI cA n (upd f i.toNatClampNeg x)))
def stZ (h : HW) (cA : ClassId) (a : Nat) (i x : Int32) (K : HW → Prop) : Prop := ∃ (n : Nat) (f : Nat → Int32), h a = some (true, eI cA n f) ∧ vp_in i n ∧ (x = 0 ∨ x = 1) ∧ K (hup h a (eI cA n (upd f i.toNatClampNeg x)))
def stB (h : HW) (cA : ClassId) (a : Nat) (i x : Int32) (K : HW → Prop) : Prop := ∃ (n : Nat) (f : Nat → Int32), h a = some (true, eI cA n f) ∧ vp_in i n ∧ K (hup h a (eI cA n (upd f i.toNatClampNeg (vp_nar .byte x))))
def stL (h : HW) (cA : ClassId) (a : Nat) (i : Int32) (x : Int64) (K : HW → Prop) : Prop := ∃ (n : Nat) (f : Nat → Int64), h a = some (true, eL cA n f) ∧ vp_in i n ∧ K (hup h a (eL cA n (vp_updL f i.toNatClampNeg x)))
def stA (h : HW) (c0 cA : ClassId) (a : Nat) (i : Int32) (v : Nat) (K : HW → Prop) : Prop := ∃ (n : Nat) (f : Nat → Option Nat) (w : Bool) (x : vp_A), h a = some (true, eQ cA n f) ∧ vp_in i n ∧ h v = some (w, .inl (c0, x)) ∧ K (hup h a (eQ cA n (va_up f i.toNatClampNeg (some v))))
def stO (h : HW) (ci : Nat) (cA : ClassId) (a : Nat) (i : Int32) (o : Option Nat) (K : HW → Prop) : Prop := ∃ (n : Nat) (f : Nat → Option Nat), h a = some (true, eQ cA n f) ∧ vp_in i n ∧ (∀ v : Nat, o = some v → ∃ w vs, h v = some (w, .inr (ci, vs))) ∧ K (hup h a (eQ cA n (va_up f i.toNatClampNeg o)))
def lenA (h : HW) (cA : ClassId) (a : Nat) (K : Int32 → Prop) : Prop := ∃ (w : Bool) (x : vp_A), h a = some (w, .inl (cA, x)) ∧ ∀ v, v = nI x.1 → K v
def nwO (h : HW) (ci : Nat) (fs : List Value) (n mc ms : Nat) (K : Nat → HW → Nat → Nat → Prop) : Prop := ∃ mc1 ms1 : Nat, mc = mc1 + 1 ∧ ms = ms1 + n ∧ ∀ q, h q = none → K q (hup h q (.inr (ci, fs))) mc1 ms1
def nwI (h : HW) (cA : ClassId) (n : Int32) (mc ms : Nat) (K : Nat → HW → Nat → Nat → Prop) : Prop := ¬ n < 0 ∧ n.toNatClampNeg ≤ 65536 ∧ ∃ mc1 ms1 : Nat, mc = mc1 + 1 ∧ ms = ms1 + n.toNatClampNeg ∧ ∀ q, h q = none → K q (hup h q (eI cA n.toNatClampNeg (fun _ => 0))) mc1 ms1
def nwL (h : HW) (cA : ClassId) (n : Int32) (mc ms : Nat) (K : Nat → HW → Nat → Nat → Prop) : Prop := ¬ n < 0 ∧ n.toNatClampNeg ≤ 65536 ∧ ∃ mc1 ms1 : Nat, mc = mc1 + 1 ∧ ms = ms1 + n.toNatClampNeg ∧ ∀ q, h q = none → K q (hup h q (eL cA n.toNatClampNeg (fun _ => 0))) mc1 ms1
def nwQ (h : HW) (cA : ClassId) (n : Int32) (mc ms : Nat) (K : Nat → HW → Nat → Nat → Prop) : Prop := ¬ n < 0 ∧ n.toNatClampNeg ≤ 65536 ∧ ∃ mc1 ms1 : Nat, mc = mc1 + 1 ∧ ms = ms1 + n.toNatClampNeg ∧ ∀ q, h q = none → K q (hup h q (eQ cA n.toNatClampNeg (fun _ => none))) mc1 ms1
def nwM (h : HW) (c2 c0 : ClassId) (n k : Int32) (mc ms : Nat) (K : Nat → HW → Nat → Nat → Prop) : Prop := ¬ n < 0 ∧ ¬ k < 0 ∧ n.toNatClampNeg ≤ 65536 ∧ k.toNatClampNeg ≤ 65536 ∧ ∃ mc1 ms1 : Nat, mc = mc1 + (1 + n.toNatClampNeg) ∧ ms = ms1 + (n.toNatClampNeg + n.toNatClampNeg * k.toNatClampNeg) ∧ ∀ q, (∀ b : Nat, q ≤ b → h b = none) → K q (hmul h c2 c0 q n.toNatClampNeg k.toNatClampNeg) mc1 ms1
def clI (h : HW) (cA : ClassId) (a mc ms : Nat) (K : Nat → Nat → HW → Nat → Nat → Prop) : Prop := ∃ (w : Bool) (n : Nat) (f : Nat → Int32), h a = some (true, eI cA n f) ∧ ∃ mc1 ms1 : Nat, mc = mc1 + 1 ∧ ms = ms1 + n ∧ ∀ q, h q = none → K q n (hup h q (eI cA n f)) mc1 ms1
def clF (ty : FieldType) (h : HW) (cA : ClassId) (a mc ms : Nat) (K : Nat → Nat → HW → Nat → Nat → Prop) : Prop := ∃ (w : Bool) (n : Nat) (f : Nat → Int32), h a = some (true, eI cA n f) ∧ (∀ i, i < n → fits ty (.int (f i)) = true) ∧ ∃ mc1 ms1 : Nat, mc = mc1 + 1 ∧ ms = ms1 + n ∧ ∀ q, h q = none → K q n (hup h q (eI cA n f)) mc1 ms1
def clQ (h : HW) (cA : ClassId) (a mc ms : Nat) (K : Nat → Nat → HW → Nat → Nat → Prop) : Prop := ∃ (w : Bool) (n : Nat) (f : Nat → Option Nat), h a = some (true, eQ cA n f) ∧ ∃ mc1 ms1 : Nat, mc = mc1 + 1 ∧ ms = ms1 + n ∧ ∀ q, h q = none → K q n (hup h q (eQ cA n f)) mc1 ms1
def cpB (h : HW) (cA : ClassId) (a0 : Nat) (sp : Int32) (a : Nat) (dp n : Int32) (K : HW → Prop) : Prop := ∃ (w : Bool) (n0 n1 : Nat) (f g : Nat → Int32), h a0 = some (w, eI cA n0 f) ∧ h a = some (true, eI cA n1 g) ∧ ¬ sp < 0 ∧ ¬ dp < 0 ∧ ¬ n < 0 ∧ sp.toNatClampNeg + n.toNatClampNeg ≤ n0 ∧ dp.toNatClampNeg + n.toNatClampNeg ≤ n1 ∧ (∀ i, i < n.toNatClampNeg → fits .byte (.int (f (sp.toNatClampNeg + i))) = true) ∧ K (hup h a (eI cA n1 (va_cpy f g sp.toNatClampNeg dp.toNatClampNeg n.toNatClampNeg)))
def dRf (o : Option Nat) (K : Nat → Prop) : Prop := ∃ v, o = some v ∧ K v
theorem uws_le {C : String} {T : u_T} {N M : Nat} (h : N ≤ M) : ∀ w ∈ u_ws C T N, w ∈ u_ws C T M := by
  intro w hw
  unfold u_ws at hw ⊢
  obtain ⟨k, hk, rfl⟩ := List.mem_map.mp hw
  exact List.mem_map.mpr ⟨k, List.mem_range.mpr (Nat.lt_of_lt_of_le (List.mem_range.mp hk) h), rfl⟩
theorem z01_n {v : Int32} (h : v = 0 ∨ v = 1) : narrow .boolean (.int v) = .int v := by rcases h with rfl | rfl <;> decide
theorem z01_f {v : Int32} (h : v = 0 ∨ v = 1) : fits .boolean (.int v) = true := by rcases h with rfl | rfl <;> decide
theorem c65 {n k : Nat} (h : n ≤ 65536) (hk : k ≤ 8) : n * k ≤ 536870912 := Nat.le_trans (Nat.mul_le_mul h hk) (by decide)
theorem nmII : "[" ++ (FieldType.array .int).toString = "[[I" := by decide +kernel
theorem nmI : "[" ++ FieldType.int.toString = "[I" := by decide +kernel
theorem nmZ : "[" ++ FieldType.boolean.toString = "[Z" := by decide +kernel
theorem nmB : "[" ++ FieldType.byte.toString = "[B" := by decide +kernel
theorem fcII {G : va_G} {c : Nat → ClassId} {s : State} (hK : va_K G vwCl (TY c) s) : s.vm.findClass "[[I" = some (c 2) := by
  have h : s.vm.findClass ("[" ++ (FieldType.array .int).toString) = some (c 2) := (hK.2 2 (c 2, .array .int) rfl).2
  rwa [nmII] at h
theorem fcI {G : va_G} {c : Nat → ClassId} {s : State} (hK : va_K G vwCl (TY c) s) : s.vm.findClass "[I" = some (c 0) := by
  have h : s.vm.findClass ("[" ++ FieldType.int.toString) = some (c 0) := (hK.2 0 (c 0, .int) rfl).2
  rwa [nmI] at h
theorem fcZ {G : va_G} {c : Nat → ClassId} {s : State} (hK : va_K G vwCl (TY c) s) : s.vm.findClass "[Z" = some (c 4) := by
  have h : s.vm.findClass ("[" ++ FieldType.boolean.toString) = some (c 4) := (hK.2 4 (c 4, .boolean) rfl).2
  rwa [nmZ] at h
theorem fcB {G : va_G} {c : Nat → ClassId} {s : State} (hK : va_K G vwCl (TY c) s) : s.vm.findClass "[B" = some (c 5) := by
  have h : s.vm.findClass ("[" ++ FieldType.byte.toString) = some (c 5) := (hK.2 5 (c 5, .byte) rfl).2
  rwa [nmB] at h
theorem goodIn_wide {big ws ex : List Cond} (h : GoodIn big ws) : GoodIn (big ++ ex) ws := fun w hw => ⟨List.mem_append_left _ (h w hw).1, (h w hw).2⟩
