/-! the worlds: what the cells of each class are, out of a state -/
abbrev GS : Type := SA × Option Nat × SA × SA
abbrev RS : Type := SA × SA × GS
def TY (c : Nat → ClassId) : List (ClassId × FieldType) := [(c 0, .int), (c 1, .long), (c 2, .array .int), (c 3, .object "HubTrains$Game"), (c 4, .boolean), (c 5, .byte), (c 6, .object "HubTrainsLaw$Table"), (c 7, .object "java/lang/String")]
def wF (c : Nat → ClassId) (p0 p1 p2 n : Nat) (f : SA) : va_W := [(p0, .inr (0, [.ref p1, .ref p2])), (p1, .inl (c 0, n, .inl (f.2 0))), (p2, .inl (c 0, 16, .inl (f.2 1)))]
def wK (c : Nat → ClassId) (p0 p1 : Nat) (k : SA) : va_W := [(p0, .inr (4, [.ref p1, .int (k.1 0), .int (k.1 1)])), (p1, .inl (c 0, 55, .inl (k.2 0)))]
def wT (c : Nat → ClassId) (p0 p1 p2 p3 p4 : Nat) (t : SA) : va_W := [(p0, .inr (6, [.ref p1, .ref p2, .int (t.1 0), .ref p3, .ref p4])), (p1, .inl (c 0, 55, .inl (t.2 0))), (p2, .inl (c 0, 55, .inl (t.2 1))), (p3, .inl (c 0, 5, .inl (t.2 2))), (p4, .inl (c 0, 5, .inl (t.2 3)))]
def wO (c : Nat → ClassId) (p0 p1 : Nat) (k : SA) : va_W := [(p0, .inr (5, [.ref p1, .int (k.1 0), .int (k.1 1), .int (k.1 2), .int (k.1 3), .int (k.1 4), .int (k.1 5)])), (p1, .inl (c 0, 500, .inl (k.2 0)))]
def wS (c : Nat → ClassId) (p0 p1 p2 p3 p4 : Nat) (k : SA) : va_W := [(p0, .inr (2, [.ref p1, .int (k.1 0), .int (k.1 1), .ref p2, .int (k.1 2), .ref p3, .ref p4])), (p1, .inl (c 0, 12, .inl (k.2 0))), (p2, .inl (c 0, 4096, .inl (k.2 1))), (p3, .inl (c 0, 4096, .inl (k.2 2))), (p4, .inl (c 0, 4096, .inl (k.2 3)))]
def wG (c : Nat → ClassId) (a : Nat → Nat) (g : GS) : va_W := [(a 0, .inr (1, [.int (g.1.1 0), .int (g.1.1 1), .int (g.1.1 2), .int (g.1.1 3), .int (g.1.1 4), .int (g.1.1 5), .int (g.1.1 6), .int (g.1.1 7), .int (g.1.1 8), .int (g.1.1 9), .int (g.1.1 10), va_rf g.2.1, .ref (a 1), .ref (a 2), .ref (a 3), .ref (a 5)])), (a 1, .inl (c 0, 100, .inl (g.1.2 0))), (a 2, .inl (c 0, 4, .inl (g.1.2 1))),
  (a 3, .inr (4, [.ref (a 4), .int (g.2.2.1.1 0), .int (g.2.2.1.1 1)])), (a 4, .inl (c 0, 55, .inl (g.2.2.1.2 0))),
  (a 5, .inr (6, [.ref (a 6), .ref (a 7), .int (g.2.2.2.1 0), .ref (a 8), .ref (a 9)])), (a 6, .inl (c 0, 55, .inl (g.2.2.2.2 0))), (a 7, .inl (c 0, 55, .inl (g.2.2.2.2 1))), (a 8, .inl (c 0, 5, .inl (g.2.2.2.2 2))), (a 9, .inl (c 0, 5, .inl (g.2.2.2.2 3)))]
def wR (c : Nat → ClassId) (a : Nat → Nat) (k : RS) : va_W := [(a 0, .inr (3, [.ref (a 2), .ref (a 4), .int (k.1.1 0), .int (k.1.1 1), .int (k.1.1 2), .int (k.1.1 3), .int (k.1.1 4), .ref (a 1), .int (k.1.1 5), .int (k.1.1 6), .int (k.1.1 7)])), (a 1, .inl (c 0, 500, .inl (k.1.2 0)))] ++ (wO c (a 2) (a 3) k.2.1 ++ wG c (fun i => a (i + 4)) k.2.2)
def wFo (c : Nat → ClassId) (o : Option Nat) (p1 p2 n : Nat) (f : SA) : va_W := match o with
  | none => []
  | some a => wF c a p1 p2 n f
