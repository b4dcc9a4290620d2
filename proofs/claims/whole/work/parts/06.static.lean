/-! the memory behind the constructors: 894 named cells; each an object of ints and of fixed references, or an array -/
def shL0 : List (Nat × Nat) := [(5, 12), (2, 4), (11, 400), (15, 6), (3, 12), (11, 6), (11, 6), (11, 3), (11, 3), (11, 3), (11, 8), (11, 8), (11, 8), (4, 10), (3, 12), (11, 6), (11, 6), (11, 3), (11, 3), (11, 3), (11, 8), (11, 8), (11, 8), (1, 11), (11, 6), (11, 3), (11, 3), (11, 3), (11, 8), (11, 8), (17, 20), (11, 10), (11, 10), (11, 10), (1, 11), (11, 6), (11, 3), (11, 3), (11, 3), (11, 8), (11, 8), (1, 11), (11, 6), (11, 3), (11, 3), (11, 3), (11, 8), (11, 8), (1, 11), (11, 6), (11, 3), (11, 3), (11, 3), (11, 8), (11, 8), (1, 11), (11, 6), (11, 3), (11, 3), (11, 3)]
def shL1 : List (Nat × Nat) := [(11, 8), (11, 8), (1, 11), (11, 6), (11, 3), (11, 3), (11, 3), (11, 8), (11, 8), (1, 11), (11, 6), (11, 3), (11, 3), (11, 3), (11, 8), (11, 8), (1, 11), (11, 6), (11, 3), (11, 3), (11, 3), (11, 8), (11, 8), (1, 11), (11, 6), (11, 3), (11, 3), (11, 3), (11, 8), (11, 8), (1, 11), (11, 6), (11, 3), (11, 3), (11, 3), (11, 8), (11, 8), (1, 11), (11, 6), (11, 3), (11, 3), (11, 3), (11, 8), (11, 8), (1, 11), (11, 6), (11, 3), (11, 3), (11, 3), (11, 8), (11, 8), (1, 11), (11, 6), (11, 3), (11, 3), (11, 3), (11, 8), (11, 8), (1, 11), (11, 6)]
def shL2 : List (Nat × Nat) := [(11, 3), (11, 3), (11, 3), (11, 8), (11, 8), (1, 11), (11, 6), (11, 3), (11, 3), (11, 3), (11, 8), (11, 8), (1, 11), (11, 6), (11, 3), (11, 3), (11, 3), (11, 8), (11, 8), (1, 11), (11, 6), (11, 3), (11, 3), (11, 3), (11, 8), (11, 8), (1, 11), (11, 6), (11, 3), (11, 3), (11, 3), (11, 8), (11, 8), (1, 11), (11, 6), (11, 3), (11, 3), (11, 3), (11, 8), (11, 8), (1, 11), (11, 6), (11, 3), (11, 3), (11, 3), (11, 8), (11, 8), (1, 11), (11, 6), (11, 3), (11, 3), (11, 3), (11, 8), (11, 8), (16, 4), (1, 11), (11, 6), (11, 3), (11, 3), (11, 3)]
def shL3 : List (Nat × Nat) := [(11, 8), (11, 8), (11, 61), (11, 25), (11, 25), (11, 21), (0, 4), (11, 400), (13, 64), (0, 4), (11, 400), (13, 64), (0, 4), (11, 400), (13, 64), (0, 4), (11, 400), (13, 64), (0, 4), (11, 400), (13, 64), (0, 4), (11, 400), (13, 64), (4, 10), (3, 12), (11, 6), (11, 6), (11, 3), (11, 3), (11, 3), (11, 8), (11, 8), (11, 8), (1, 11), (11, 6), (11, 3), (11, 3), (11, 3), (11, 8), (11, 8), (17, 20), (11, 10), (11, 10), (11, 10), (1, 11), (11, 6), (11, 3), (11, 3), (11, 3), (11, 8), (11, 8), (1, 11), (11, 6), (11, 3), (11, 3), (11, 3), (11, 8), (11, 8), (1, 11)]
def shL4 : List (Nat × Nat) := [(11, 6), (11, 3), (11, 3), (11, 3), (11, 8), (11, 8), (1, 11), (11, 6), (11, 3), (11, 3), (11, 3), (11, 8), (11, 8), (1, 11), (11, 6), (11, 3), (11, 3), (11, 3), (11, 8), (11, 8), (1, 11), (11, 6), (11, 3), (11, 3), (11, 3), (11, 8), (11, 8), (1, 11), (11, 6), (11, 3), (11, 3), (11, 3), (11, 8), (11, 8), (1, 11), (11, 6), (11, 3), (11, 3), (11, 3), (11, 8), (11, 8), (1, 11), (11, 6), (11, 3), (11, 3), (11, 3), (11, 8), (11, 8), (1, 11), (11, 6), (11, 3), (11, 3), (11, 3), (11, 8), (11, 8), (1, 11), (11, 6), (11, 3), (11, 3), (11, 3)]
def shL5 : List (Nat × Nat) := [(11, 8), (11, 8), (1, 11), (11, 6), (11, 3), (11, 3), (11, 3), (11, 8), (11, 8), (1, 11), (11, 6), (11, 3), (11, 3), (11, 3), (11, 8), (11, 8), (1, 11), (11, 6), (11, 3), (11, 3), (11, 3), (11, 8), (11, 8), (1, 11), (11, 6), (11, 3), (11, 3), (11, 3), (11, 8), (11, 8), (1, 11), (11, 6), (11, 3), (11, 3), (11, 3), (11, 8), (11, 8), (1, 11), (11, 6), (11, 3), (11, 3), (11, 3), (11, 8), (11, 8), (1, 11), (11, 6), (11, 3), (11, 3), (11, 3), (11, 8), (11, 8), (1, 11), (11, 6), (11, 3), (11, 3), (11, 3), (11, 8), (11, 8), (1, 11), (11, 6)]
def shL6 : List (Nat × Nat) := [(11, 3), (11, 3), (11, 3), (11, 8), (11, 8), (4, 10), (3, 12), (11, 6), (11, 6), (11, 3), (11, 3), (11, 3), (11, 8), (11, 8), (11, 8), (1, 11), (11, 6), (11, 3), (11, 3), (11, 3), (11, 8), (11, 8), (17, 20), (11, 10), (11, 10), (11, 10), (1, 11), (11, 6), (11, 3), (11, 3), (11, 3), (11, 8), (11, 8), (1, 11), (11, 6), (11, 3), (11, 3), (11, 3), (11, 8), (11, 8), (1, 11), (11, 6), (11, 3), (11, 3), (11, 3), (11, 8), (11, 8), (1, 11), (11, 6), (11, 3), (11, 3), (11, 3), (11, 8), (11, 8), (1, 11), (11, 6), (11, 3), (11, 3), (11, 3), (11, 8)]
def shL7 : List (Nat × Nat) := [(11, 8), (1, 11), (11, 6), (11, 3), (11, 3), (11, 3), (11, 8), (11, 8), (1, 11), (11, 6), (11, 3), (11, 3), (11, 3), (11, 8), (11, 8), (1, 11), (11, 6), (11, 3), (11, 3), (11, 3), (11, 8), (11, 8), (1, 11), (11, 6), (11, 3), (11, 3), (11, 3), (11, 8), (11, 8), (1, 11), (11, 6), (11, 3), (11, 3), (11, 3), (11, 8), (11, 8), (1, 11), (11, 6), (11, 3), (11, 3), (11, 3), (11, 8), (11, 8), (1, 11), (11, 6), (11, 3), (11, 3), (11, 3), (11, 8), (11, 8), (1, 11), (11, 6), (11, 3), (11, 3), (11, 3), (11, 8), (11, 8), (1, 11), (11, 6), (11, 3)]
def shL8 : List (Nat × Nat) := [(11, 3), (11, 3), (11, 8), (11, 8), (1, 11), (11, 6), (11, 3), (11, 3), (11, 3), (11, 8), (11, 8), (1, 11), (11, 6), (11, 3), (11, 3), (11, 3), (11, 8), (11, 8), (1, 11), (11, 6), (11, 3), (11, 3), (11, 3), (11, 8), (11, 8), (1, 11), (11, 6), (11, 3), (11, 3), (11, 3), (11, 8), (11, 8), (1, 11), (11, 6), (11, 3), (11, 3), (11, 3), (11, 8), (11, 8), (1, 11), (11, 6), (11, 3), (11, 3), (11, 3), (11, 8), (11, 8), (4, 10), (3, 12), (11, 6), (11, 6), (11, 3), (11, 3), (11, 3), (11, 8), (11, 8), (11, 8), (1, 11), (11, 6), (11, 3), (11, 3)]
def shL9 : List (Nat × Nat) := [(11, 3), (11, 8), (11, 8), (17, 20), (11, 10), (11, 10), (11, 10), (1, 11), (11, 6), (11, 3), (11, 3), (11, 3), (11, 8), (11, 8), (1, 11), (11, 6), (11, 3), (11, 3), (11, 3), (11, 8), (11, 8), (1, 11), (11, 6), (11, 3), (11, 3), (11, 3), (11, 8), (11, 8), (1, 11), (11, 6), (11, 3), (11, 3), (11, 3), (11, 8), (11, 8), (1, 11), (11, 6), (11, 3), (11, 3), (11, 3), (11, 8), (11, 8), (1, 11), (11, 6), (11, 3), (11, 3), (11, 3), (11, 8), (11, 8), (1, 11), (11, 6), (11, 3), (11, 3), (11, 3), (11, 8), (11, 8), (1, 11), (11, 6), (11, 3), (11, 3)]
def shL10 : List (Nat × Nat) := [(11, 3), (11, 8), (11, 8), (1, 11), (11, 6), (11, 3), (11, 3), (11, 3), (11, 8), (11, 8), (1, 11), (11, 6), (11, 3), (11, 3), (11, 3), (11, 8), (11, 8), (1, 11), (11, 6), (11, 3), (11, 3), (11, 3), (11, 8), (11, 8), (1, 11), (11, 6), (11, 3), (11, 3), (11, 3), (11, 8), (11, 8), (1, 11), (11, 6), (11, 3), (11, 3), (11, 3), (11, 8), (11, 8), (1, 11), (11, 6), (11, 3), (11, 3), (11, 3), (11, 8), (11, 8), (1, 11), (11, 6), (11, 3), (11, 3), (11, 3), (11, 8), (11, 8), (1, 11), (11, 6), (11, 3), (11, 3), (11, 3), (11, 8), (11, 8), (1, 11)]
def shL11 : List (Nat × Nat) := [(11, 6), (11, 3), (11, 3), (11, 3), (11, 8), (11, 8), (1, 11), (11, 6), (11, 3), (11, 3), (11, 3), (11, 8), (11, 8), (1, 11), (11, 6), (11, 3), (11, 3), (11, 3), (11, 8), (11, 8), (1, 11), (11, 6), (11, 3), (11, 3), (11, 3), (11, 8), (11, 8), (4, 10), (3, 12), (11, 6), (11, 6), (11, 3), (11, 3), (11, 3), (11, 8), (11, 8), (11, 8), (1, 11), (11, 6), (11, 3), (11, 3), (11, 3), (11, 8), (11, 8), (17, 20), (11, 10), (11, 10), (11, 10), (1, 11), (11, 6), (11, 3), (11, 3), (11, 3), (11, 8), (11, 8), (1, 11), (11, 6), (11, 3), (11, 3), (11, 3)]
def shL12 : List (Nat × Nat) := [(11, 8), (11, 8), (1, 11), (11, 6), (11, 3), (11, 3), (11, 3), (11, 8), (11, 8), (1, 11), (11, 6), (11, 3), (11, 3), (11, 3), (11, 8), (11, 8), (1, 11), (11, 6), (11, 3), (11, 3), (11, 3), (11, 8), (11, 8), (1, 11), (11, 6), (11, 3), (11, 3), (11, 3), (11, 8), (11, 8), (1, 11), (11, 6), (11, 3), (11, 3), (11, 3), (11, 8), (11, 8), (1, 11), (11, 6), (11, 3), (11, 3), (11, 3), (11, 8), (11, 8), (1, 11), (11, 6), (11, 3), (11, 3), (11, 3), (11, 8), (11, 8), (1, 11), (11, 6), (11, 3), (11, 3), (11, 3), (11, 8), (11, 8), (1, 11), (11, 6)]
def shL13 : List (Nat × Nat) := [(11, 3), (11, 3), (11, 3), (11, 8), (11, 8), (1, 11), (11, 6), (11, 3), (11, 3), (11, 3), (11, 8), (11, 8), (1, 11), (11, 6), (11, 3), (11, 3), (11, 3), (11, 8), (11, 8), (1, 11), (11, 6), (11, 3), (11, 3), (11, 3), (11, 8), (11, 8), (1, 11), (11, 6), (11, 3), (11, 3), (11, 3), (11, 8), (11, 8), (1, 11), (11, 6), (11, 3), (11, 3), (11, 3), (11, 8), (11, 8), (1, 11), (11, 6), (11, 3), (11, 3), (11, 3), (11, 8), (11, 8), (1, 11), (11, 6), (11, 3), (11, 3), (11, 3), (11, 8), (11, 8), (1, 11), (11, 6), (11, 3), (11, 3), (11, 3), (11, 8)]
def shL14 : List (Nat × Nat) := [(11, 8), (1, 11), (11, 6), (11, 3), (11, 3), (11, 3), (11, 8), (11, 8), (6, 66), (11, 9), (11, 3), (11, 3), (11, 3), (11, 6), (11, 8), (11, 8), (11, 6), (11, 3), (11, 8), (11, 8), (11, 8), (11, 10), (11, 10), (11, 10), (11, 3), (11, 3), (11, 6), (11, 4), (11, 6), (11, 6), (11, 3), (11, 3), (11, 3), (11, 8), (11, 8), (11, 8), (12, 400), (11, 1800), (11, 1800), (11, 6), (11, 72), (11, 72), (11, 72), (11, 402), (13, 11), (13, 300), (11, 660), (11, 1), (11, 25), (11, 25), (11, 366), (11, 21), (11, 4000), (14, 4)]
def shL : List (Nat × Nat) := shL0 ++ (shL1 ++ (shL2 ++ (shL3 ++ (shL4 ++ (shL5 ++ (shL6 ++ (shL7 ++ (shL8 ++ (shL9 ++ (shL10 ++ (shL11 ++ (shL12 ++ (shL13 ++ (shL14))))))))))))))
def aN : Nat := 894
/-- kind and length of cell n: 0 .. 6 an object of that class, 11 ints, 12 bytes, 13 longs, 14 booleans, 15 the rules, 16 the images, 17 a past -/
def sh (n : Nat) : Nat × Nat := shL.getD n (99, 0)
theorem sh_lt {n t : Nat} (h : (sh n).1 = t) (ht : t < 99) : n < aN := by
  rcases Nat.lt_or_ge n aN with q | q
  · exact q
  · have e : sh n = (99, 0) := by
      unfold sh
      rw [List.getD_eq_getElem?_getD, List.getElem?_eq_none (Nat.le_trans (by decide +kernel) q)]
      rfl
    rw [e] at h
    omega
abbrev aM : Type := (Nat → Nat → Int32) × (Nat → Nat → Int64)
def exF : Nat → Nat → (Nat → Int32) → List Value
  | 0, n, i => [.ref (n + 1), .ref (n + 2), .int (i 2), .int (i 3)]
  | 1, n, i => [.int (i 0), .ref (n + 1), .ref (n + 2), .ref (n + 3), .ref (n + 4), .int (i 5), .ref (n + 5), .ref (n + 6), .int (i 8), .int (i 9), .int (i 10)]
  | 2, n, i => [.ref (n + 1), .int (i 1), .int (i 2), .int (i 3)]
  | 3, n, i => [.int (i 0), .int (i 1), .int (i 2), .int (i 3), .ref (n + 1), .ref (n + 2), .ref (n + 3), .ref (n + 4), .ref (n + 5), .ref (n + 6), .ref (n + 7), .ref (n + 8)]
  | 4, n, i => [.ref (n + 1), .ref (n + 10), .ref (n + 17), .int (i 3), .ref (n + 18), .ref (n + 19), .ref (n + 20), .int (i 7), .int (i 8), .int (i 9)]
  | 5, n, i => [.ref (n + 1), .ref (n + 3), .int (i 2), .ref (n + 4), .ref (n + 13), .ref (n + 174), .int (i 6), .ref (n + 175), .ref (n + 182), .ref (n + 183), .ref (n + 184), .ref (n + 185)]
  | 6, n, i => [.int (i 0), .ref (n + 1), .ref (n + 2), .ref (n + 3), .ref (n + 4), .ref (n + 5), .ref (n + 6), .ref (n + 7), .ref (n + 8), .ref (n + 9), .ref (n + 10), .ref (n + 11), .ref (n + 12), .ref (n + 13), .ref (n + 14), .ref (n + 15), .ref (n + 16), .ref (n + 17), .ref (n + 18), .ref (n + 19), .ref (n + 20), .ref (n + 21), .ref (n + 22), .ref (n + 23), .ref (n + 24), .ref (n + 25), .ref (n + 26), .ref (n + 27), .int (i 28), .int (i 29), .int (i 30), .int (i 31), .int (i 32), .int (i 33), .int (i 34), .int (i 35), .int (i 36), .int (i 37), .ref (n + 28), .ref (n + 29), .ref (n + 30), .ref (n + 31), .ref (n + 32), .ref (n + 33), .ref (n + 34), .ref (n + 35), .ref (n + 36), .ref (n + 37), .int (i 48), .int (i 49), .int (i 50), .int (i 51), .int (i 52), .ref (n + 38), .ref (n + 39), .int (i 55), .int (i 56), .int (i 57), .ref (n + 40), .ref (n + 41), .ref (n + 42), .ref (n + 43), .ref (n + 44), .ref (n + 45), .int (i 64), .int (i 65)]
  | _, _, _ => []
def exC (t len n : Nat) (i : Nat → Int32) (j : Nat → Int64) : va_E :=
  if t < 7 then .inr (t, exF t n i) else if t = 11 then .inl (1, len, .inl i) else if t = 12 then .inl (2, len, .inl i) else if t = 13 then .inl (3, len, .inr (.inl j)) else if t = 14 then .inl (4, len, .inl i)
  else if t = 15 then .inl (5, len, .inr (.inr (.inr (.inr (fun k => some (n + 183 + 3 * k))))))
  else if t = 16 then .inl (6, len, .inr (.inr (.inr (.inr (fun k => some (n + 30 + 161 * k))))))
  else .inl (7, len, .inr (.inr (.inr (.inr (fun k => some (n + 4 + 7 * (i k).toNatClampNeg))))))
def ex (x : aM) (n : Nat) : va_E := exC (sh n).1 (sh n).2 n (x.1 n) (x.2 n)
def aCan (x : aM) : Prop := ∀ n k, (sh n).2 ≤ k → x.1 n k = 0
def aRS (G : aG) (x : aM) (H : Heap) : Prop := aR0 G (ex x, aN) H ∧ aCan x
def mW (x : aM) (a k : Nat) (v : Int32) : aM := (fun p q => if p = a ∧ q = k then v else x.1 p q, x.2)
def mL (x : aM) (a k : Nat) (v : Int64) : aM := (x.1, fun p q => if p = a ∧ q = k then v else x.2 p q)
def mR (x : aM) (a : Nat) (f : Nat → Int32) : aM := (fun p q => if p = a then f q else x.1 p q, x.2)
theorem cl_0 : aCl 0 RX1 TX1 4 := ⟨rfl, fun w h => by
  obtain ⟨k, hk, rfl⟩ := List.mem_map.mp h
  have hk := List.mem_range.mp hk
  by_cases h0 : k = 0
  · subst h0; exact bw318
  by_cases h1 : k = 1
  · subst h1; exact bw320
  by_cases h2 : k = 2
  · subst h2; exact bw322
  by_cases h3 : k = 3
  · subst h3; exact bw324
  omega⟩
theorem cl_1 : aCl 1 RX3 TX3 11 := ⟨rfl, fun w h => by
  obtain ⟨k, hk, rfl⟩ := List.mem_map.mp h
  have hk := List.mem_range.mp hk
  by_cases h0 : k = 0
  · subst h0; exact bw244
  by_cases h1 : k = 1
  · subst h1; exact bw246
  by_cases h2 : k = 2
  · subst h2; exact bw248
  by_cases h3 : k = 3
  · subst h3; exact bw250
  by_cases h4 : k = 4
  · subst h4; exact bw252
  by_cases h5 : k = 5
  · subst h5; exact bw254
  by_cases h6 : k = 6
  · subst h6; exact bw256
  by_cases h7 : k = 7
  · subst h7; exact bw258
  by_cases h8 : k = 8
  · subst h8; exact bw260
  by_cases h9 : k = 9
  · subst h9; exact bw262
  by_cases h10 : k = 10
  · subst h10; exact bw264
  omega⟩
theorem cl_2 : aCl 2 RX4 TX4 4 := ⟨rfl, fun w h => by
  obtain ⟨k, hk, rfl⟩ := List.mem_map.mp h
  have hk := List.mem_range.mp hk
  by_cases h0 : k = 0
  · subst h0; exact bw129
  by_cases h1 : k = 1
  · subst h1; exact bw131
  by_cases h2 : k = 2
  · subst h2; exact bw133
  by_cases h3 : k = 3
  · subst h3; exact bw135
  omega⟩
theorem cl_3 : aCl 3 RX5 TX5 12 := ⟨rfl, fun w h => by
  obtain ⟨k, hk, rfl⟩ := List.mem_map.mp h
  have hk := List.mem_range.mp hk
  by_cases h0 : k = 0
  · subst h0; exact bw183
  by_cases h1 : k = 1
  · subst h1; exact bw185
  by_cases h2 : k = 2
  · subst h2; exact bw187
  by_cases h3 : k = 3
  · subst h3; exact bw189
  by_cases h4 : k = 4
  · subst h4; exact bw191
  by_cases h5 : k = 5
  · subst h5; exact bw193
  by_cases h6 : k = 6
  · subst h6; exact bw195
  by_cases h7 : k = 7
  · subst h7; exact bw197
  by_cases h8 : k = 8
  · subst h8; exact bw199
  by_cases h9 : k = 9
  · subst h9; exact bw201
  by_cases h10 : k = 10
  · subst h10; exact bw203
  by_cases h11 : k = 11
  · subst h11; exact bw205
  omega⟩
theorem cl_4 : aCl 4 RX6 TX6 10 := ⟨rfl, fun w h => by
  obtain ⟨k, hk, rfl⟩ := List.mem_map.mp h
  have hk := List.mem_range.mp hk
  by_cases h0 : k = 0
  · subst h0; exact bw284
  by_cases h1 : k = 1
  · subst h1; exact bw286
  by_cases h2 : k = 2
  · subst h2; exact bw288
  by_cases h3 : k = 3
  · subst h3; exact bw290
  by_cases h4 : k = 4
  · subst h4; exact bw292
  by_cases h5 : k = 5
  · subst h5; exact bw294
  by_cases h6 : k = 6
  · subst h6; exact bw296
  by_cases h7 : k = 7
  · subst h7; exact bw298
  by_cases h8 : k = 8
  · subst h8; exact bw300
  by_cases h9 : k = 9
  · subst h9; exact bw302
  omega⟩
theorem cl_5 : aCl 5 RX7 TX7 12 := ⟨rfl, fun w h => by
  obtain ⟨k, hk, rfl⟩ := List.mem_map.mp h
  have hk := List.mem_range.mp hk
  by_cases h0 : k = 0
  · subst h0; exact bw340
  by_cases h1 : k = 1
  · subst h1; exact bw342
  by_cases h2 : k = 2
  · subst h2; exact bw344
  by_cases h3 : k = 3
  · subst h3; exact bw346
  by_cases h4 : k = 4
  · subst h4; exact bw348
  by_cases h5 : k = 5
  · subst h5; exact bw350
  by_cases h6 : k = 6
  · subst h6; exact bw352
  by_cases h7 : k = 7
  · subst h7; exact bw354
  by_cases h8 : k = 8
  · subst h8; exact bw356
  by_cases h9 : k = 9
  · subst h9; exact bw358
  by_cases h10 : k = 10
  · subst h10; exact bw360
  by_cases h11 : k = 11
  · subst h11; exact bw362
  omega⟩
theorem cl_6 : aCl 6 RX8 TX8 66 := ⟨rfl, fun w h => by
  obtain ⟨k, hk, rfl⟩ := List.mem_map.mp h
  have hk := List.mem_range.mp hk
  by_cases h0 : k = 0
  · subst h0; exact bw1033
  by_cases h1 : k = 1
  · subst h1; exact bw1035
  by_cases h2 : k = 2
  · subst h2; exact bw1037
  by_cases h3 : k = 3
  · subst h3; exact bw1039
  by_cases h4 : k = 4
  · subst h4; exact bw1041
  by_cases h5 : k = 5
  · subst h5; exact bw1043
  by_cases h6 : k = 6
  · subst h6; exact bw1045
  by_cases h7 : k = 7
  · subst h7; exact bw1047
  by_cases h8 : k = 8
  · subst h8; exact bw1049
  by_cases h9 : k = 9
  · subst h9; exact bw1051
  by_cases h10 : k = 10
  · subst h10; exact bw1053
  by_cases h11 : k = 11
  · subst h11; exact bw1055
  by_cases h12 : k = 12
  · subst h12; exact bw1057
  by_cases h13 : k = 13
  · subst h13; exact bw1059
  by_cases h14 : k = 14
  · subst h14; exact bw1061
  by_cases h15 : k = 15
  · subst h15; exact bw1063
  by_cases h16 : k = 16
  · subst h16; exact bw1065
  by_cases h17 : k = 17
  · subst h17; exact bw1067
  by_cases h18 : k = 18
  · subst h18; exact bw1069
  by_cases h19 : k = 19
  · subst h19; exact bw1071
  by_cases h20 : k = 20
  · subst h20; exact bw1073
  by_cases h21 : k = 21
  · subst h21; exact bw1075
  by_cases h22 : k = 22
  · subst h22; exact bw1077
  by_cases h23 : k = 23
  · subst h23; exact bw1079
  by_cases h24 : k = 24
  · subst h24; exact bw1081
  by_cases h25 : k = 25
  · subst h25; exact bw1083
  by_cases h26 : k = 26
  · subst h26; exact bw1085
  by_cases h27 : k = 27
  · subst h27; exact bw1087
  by_cases h28 : k = 28
  · subst h28; exact bw1089
  by_cases h29 : k = 29
  · subst h29; exact bw1091
  by_cases h30 : k = 30
  · subst h30; exact bw1093
  by_cases h31 : k = 31
  · subst h31; exact bw1095
  by_cases h32 : k = 32
  · subst h32; exact bw1097
  by_cases h33 : k = 33
  · subst h33; exact bw1099
  by_cases h34 : k = 34
  · subst h34; exact bw1101
  by_cases h35 : k = 35
  · subst h35; exact bw1103
  by_cases h36 : k = 36
  · subst h36; exact bw1105
  by_cases h37 : k = 37
  · subst h37; exact bw1107
  by_cases h38 : k = 38
  · subst h38; exact bw1109
  by_cases h39 : k = 39
  · subst h39; exact bw1111
  by_cases h40 : k = 40
  · subst h40; exact bw1113
  by_cases h41 : k = 41
  · subst h41; exact bw1115
  by_cases h42 : k = 42
  · subst h42; exact bw1117
  by_cases h43 : k = 43
  · subst h43; exact bw1119
  by_cases h44 : k = 44
  · subst h44; exact bw1121
  by_cases h45 : k = 45
  · subst h45; exact bw1123
  by_cases h46 : k = 46
  · subst h46; exact bw1125
  by_cases h47 : k = 47
  · subst h47; exact bw1127
  by_cases h48 : k = 48
  · subst h48; exact bw1129
  by_cases h49 : k = 49
  · subst h49; exact bw1131
  by_cases h50 : k = 50
  · subst h50; exact bw1133
  by_cases h51 : k = 51
  · subst h51; exact bw1135
  by_cases h52 : k = 52
  · subst h52; exact bw1137
  by_cases h53 : k = 53
  · subst h53; exact bw1139
  by_cases h54 : k = 54
  · subst h54; exact bw1141
  by_cases h55 : k = 55
  · subst h55; exact bw1143
  by_cases h56 : k = 56
  · subst h56; exact bw1145
  by_cases h57 : k = 57
  · subst h57; exact bw1147
  by_cases h58 : k = 58
  · subst h58; exact bw1149
  by_cases h59 : k = 59
  · subst h59; exact bw1151
  by_cases h60 : k = 60
  · subst h60; exact bw1153
  by_cases h61 : k = 61
  · subst h61; exact bw1155
  by_cases h62 : k = 62
  · subst h62; exact bw1157
  by_cases h63 : k = 63
  · subst h63; exact bw1159
  by_cases h64 : k = 64
  · subst h64; exact bw1161
  by_cases h65 : k = 65
  · subst h65; exact bw1163
  omega⟩
/-- an int field of a class: its place among the values, what may be stored -/
def aFI (ci k : Nat) (T : u_T) (tyf : Nat → FieldType) (ty : FieldType) : Prop := (∀ n i, (exF ci n i)[k]? = some (.int (i k))) ∧ (∀ n i v, (exF ci n i).set k (.int v) = exF ci n (upd i k v)) ∧ tyf k = ty ∧ (T k).2.2.2 = false ∧ (∀ n i, k < (exF ci n i).length)
theorem upd_same (f : Nat → Int32) (k : Nat) (v : Int32) : upd f k v k = v := by simp [upd]
theorem upd_ne {f : Nat → Int32} {k j : Nat} {v : Int32} (h : j ≠ k) : upd f k v j = f j := by simp [upd, h]
theorem fr_0_0 (n : Nat) (i : Nat → Int32) : (exF 0 n i)[0]? = some (.ref (n + 1)) := rfl
theorem fr_0_1 (n : Nat) (i : Nat → Int32) : (exF 0 n i)[1]? = some (.ref (n + 2)) := rfl
theorem fi_0_2 : aFI 0 2 TX1 tyX1 .int := ⟨fun _ _ => rfl, fun _ _ _ => rfl, rfl, rfl, fun _ _ => Nat.le_of_ble_eq_true rfl⟩
theorem fi_0_3 : aFI 0 3 TX1 tyX1 .int := ⟨fun _ _ => rfl, fun _ _ _ => rfl, rfl, rfl, fun _ _ => Nat.le_of_ble_eq_true rfl⟩
theorem fi_1_0 : aFI 1 0 TX3 tyX3 .int := ⟨fun _ _ => rfl, fun _ _ _ => rfl, rfl, rfl, fun _ _ => Nat.le_of_ble_eq_true rfl⟩
theorem fr_1_1 (n : Nat) (i : Nat → Int32) : (exF 1 n i)[1]? = some (.ref (n + 1)) := rfl
theorem fr_1_2 (n : Nat) (i : Nat → Int32) : (exF 1 n i)[2]? = some (.ref (n + 2)) := rfl
theorem fr_1_3 (n : Nat) (i : Nat → Int32) : (exF 1 n i)[3]? = some (.ref (n + 3)) := rfl
theorem fr_1_4 (n : Nat) (i : Nat → Int32) : (exF 1 n i)[4]? = some (.ref (n + 4)) := rfl
theorem fi_1_5 : aFI 1 5 TX3 tyX3 .int := ⟨fun _ _ => rfl, fun _ _ _ => rfl, rfl, rfl, fun _ _ => Nat.le_of_ble_eq_true rfl⟩
theorem fr_1_6 (n : Nat) (i : Nat → Int32) : (exF 1 n i)[6]? = some (.ref (n + 5)) := rfl
theorem fr_1_7 (n : Nat) (i : Nat → Int32) : (exF 1 n i)[7]? = some (.ref (n + 6)) := rfl
theorem fi_1_8 : aFI 1 8 TX3 tyX3 .int := ⟨fun _ _ => rfl, fun _ _ _ => rfl, rfl, rfl, fun _ _ => Nat.le_of_ble_eq_true rfl⟩
theorem fi_1_9 : aFI 1 9 TX3 tyX3 .int := ⟨fun _ _ => rfl, fun _ _ _ => rfl, rfl, rfl, fun _ _ => Nat.le_of_ble_eq_true rfl⟩
theorem fi_1_10 : aFI 1 10 TX3 tyX3 .int := ⟨fun _ _ => rfl, fun _ _ _ => rfl, rfl, rfl, fun _ _ => Nat.le_of_ble_eq_true rfl⟩
theorem fr_2_0 (n : Nat) (i : Nat → Int32) : (exF 2 n i)[0]? = some (.ref (n + 1)) := rfl
theorem fi_2_1 : aFI 2 1 TX4 tyX4 .int := ⟨fun _ _ => rfl, fun _ _ _ => rfl, rfl, rfl, fun _ _ => Nat.le_of_ble_eq_true rfl⟩
theorem fi_2_2 : aFI 2 2 TX4 tyX4 .int := ⟨fun _ _ => rfl, fun _ _ _ => rfl, rfl, rfl, fun _ _ => Nat.le_of_ble_eq_true rfl⟩
theorem fi_2_3 : aFI 2 3 TX4 tyX4 .int := ⟨fun _ _ => rfl, fun _ _ _ => rfl, rfl, rfl, fun _ _ => Nat.le_of_ble_eq_true rfl⟩
theorem fi_3_0 : aFI 3 0 TX5 tyX5 .int := ⟨fun _ _ => rfl, fun _ _ _ => rfl, rfl, rfl, fun _ _ => Nat.le_of_ble_eq_true rfl⟩
theorem fi_3_1 : aFI 3 1 TX5 tyX5 .int := ⟨fun _ _ => rfl, fun _ _ _ => rfl, rfl, rfl, fun _ _ => Nat.le_of_ble_eq_true rfl⟩
theorem fi_3_2 : aFI 3 2 TX5 tyX5 .int := ⟨fun _ _ => rfl, fun _ _ _ => rfl, rfl, rfl, fun _ _ => Nat.le_of_ble_eq_true rfl⟩
theorem fi_3_3 : aFI 3 3 TX5 tyX5 .int := ⟨fun _ _ => rfl, fun _ _ _ => rfl, rfl, rfl, fun _ _ => Nat.le_of_ble_eq_true rfl⟩
theorem fr_3_4 (n : Nat) (i : Nat → Int32) : (exF 3 n i)[4]? = some (.ref (n + 1)) := rfl
theorem fr_3_5 (n : Nat) (i : Nat → Int32) : (exF 3 n i)[5]? = some (.ref (n + 2)) := rfl
theorem fr_3_6 (n : Nat) (i : Nat → Int32) : (exF 3 n i)[6]? = some (.ref (n + 3)) := rfl
theorem fr_3_7 (n : Nat) (i : Nat → Int32) : (exF 3 n i)[7]? = some (.ref (n + 4)) := rfl
theorem fr_3_8 (n : Nat) (i : Nat → Int32) : (exF 3 n i)[8]? = some (.ref (n + 5)) := rfl
theorem fr_3_9 (n : Nat) (i : Nat → Int32) : (exF 3 n i)[9]? = some (.ref (n + 6)) := rfl
theorem fr_3_10 (n : Nat) (i : Nat → Int32) : (exF 3 n i)[10]? = some (.ref (n + 7)) := rfl
theorem fr_3_11 (n : Nat) (i : Nat → Int32) : (exF 3 n i)[11]? = some (.ref (n + 8)) := rfl
theorem fr_4_0 (n : Nat) (i : Nat → Int32) : (exF 4 n i)[0]? = some (.ref (n + 1)) := rfl
theorem fr_4_1 (n : Nat) (i : Nat → Int32) : (exF 4 n i)[1]? = some (.ref (n + 10)) := rfl
theorem fr_4_2 (n : Nat) (i : Nat → Int32) : (exF 4 n i)[2]? = some (.ref (n + 17)) := rfl
theorem fi_4_3 : aFI 4 3 TX6 tyX6 .int := ⟨fun _ _ => rfl, fun _ _ _ => rfl, rfl, rfl, fun _ _ => Nat.le_of_ble_eq_true rfl⟩
theorem fr_4_4 (n : Nat) (i : Nat → Int32) : (exF 4 n i)[4]? = some (.ref (n + 18)) := rfl
theorem fr_4_5 (n : Nat) (i : Nat → Int32) : (exF 4 n i)[5]? = some (.ref (n + 19)) := rfl
theorem fr_4_6 (n : Nat) (i : Nat → Int32) : (exF 4 n i)[6]? = some (.ref (n + 20)) := rfl
theorem fi_4_7 : aFI 4 7 TX6 tyX6 .int := ⟨fun _ _ => rfl, fun _ _ _ => rfl, rfl, rfl, fun _ _ => Nat.le_of_ble_eq_true rfl⟩
theorem fi_4_8 : aFI 4 8 TX6 tyX6 .int := ⟨fun _ _ => rfl, fun _ _ _ => rfl, rfl, rfl, fun _ _ => Nat.le_of_ble_eq_true rfl⟩
theorem fi_4_9 : aFI 4 9 TX6 tyX6 .int := ⟨fun _ _ => rfl, fun _ _ _ => rfl, rfl, rfl, fun _ _ => Nat.le_of_ble_eq_true rfl⟩
theorem fr_5_0 (n : Nat) (i : Nat → Int32) : (exF 5 n i)[0]? = some (.ref (n + 1)) := rfl
theorem fr_5_1 (n : Nat) (i : Nat → Int32) : (exF 5 n i)[1]? = some (.ref (n + 3)) := rfl
theorem fi_5_2 : aFI 5 2 TX7 tyX7 .int := ⟨fun _ _ => rfl, fun _ _ _ => rfl, rfl, rfl, fun _ _ => Nat.le_of_ble_eq_true rfl⟩
theorem fr_5_3 (n : Nat) (i : Nat → Int32) : (exF 5 n i)[3]? = some (.ref (n + 4)) := rfl
theorem fr_5_4 (n : Nat) (i : Nat → Int32) : (exF 5 n i)[4]? = some (.ref (n + 13)) := rfl
theorem fr_5_5 (n : Nat) (i : Nat → Int32) : (exF 5 n i)[5]? = some (.ref (n + 174)) := rfl
theorem fi_5_6 : aFI 5 6 TX7 tyX7 .int := ⟨fun _ _ => rfl, fun _ _ _ => rfl, rfl, rfl, fun _ _ => Nat.le_of_ble_eq_true rfl⟩
theorem fr_5_7 (n : Nat) (i : Nat → Int32) : (exF 5 n i)[7]? = some (.ref (n + 175)) := rfl
theorem fr_5_8 (n : Nat) (i : Nat → Int32) : (exF 5 n i)[8]? = some (.ref (n + 182)) := rfl
theorem fr_5_9 (n : Nat) (i : Nat → Int32) : (exF 5 n i)[9]? = some (.ref (n + 183)) := rfl
theorem fr_5_10 (n : Nat) (i : Nat → Int32) : (exF 5 n i)[10]? = some (.ref (n + 184)) := rfl
theorem fr_5_11 (n : Nat) (i : Nat → Int32) : (exF 5 n i)[11]? = some (.ref (n + 185)) := rfl
theorem fi_6_0 : aFI 6 0 TX8 tyX8 .int := ⟨fun _ _ => rfl, fun _ _ _ => rfl, rfl, rfl, fun _ _ => Nat.le_of_ble_eq_true rfl⟩
theorem fr_6_1 (n : Nat) (i : Nat → Int32) : (exF 6 n i)[1]? = some (.ref (n + 1)) := rfl
theorem fr_6_2 (n : Nat) (i : Nat → Int32) : (exF 6 n i)[2]? = some (.ref (n + 2)) := rfl
theorem fr_6_3 (n : Nat) (i : Nat → Int32) : (exF 6 n i)[3]? = some (.ref (n + 3)) := rfl
theorem fr_6_4 (n : Nat) (i : Nat → Int32) : (exF 6 n i)[4]? = some (.ref (n + 4)) := rfl
theorem fr_6_5 (n : Nat) (i : Nat → Int32) : (exF 6 n i)[5]? = some (.ref (n + 5)) := rfl
theorem fr_6_6 (n : Nat) (i : Nat → Int32) : (exF 6 n i)[6]? = some (.ref (n + 6)) := rfl
theorem fr_6_7 (n : Nat) (i : Nat → Int32) : (exF 6 n i)[7]? = some (.ref (n + 7)) := rfl
theorem fr_6_8 (n : Nat) (i : Nat → Int32) : (exF 6 n i)[8]? = some (.ref (n + 8)) := rfl
theorem fr_6_9 (n : Nat) (i : Nat → Int32) : (exF 6 n i)[9]? = some (.ref (n + 9)) := rfl
theorem fr_6_10 (n : Nat) (i : Nat → Int32) : (exF 6 n i)[10]? = some (.ref (n + 10)) := rfl
theorem fr_6_11 (n : Nat) (i : Nat → Int32) : (exF 6 n i)[11]? = some (.ref (n + 11)) := rfl
theorem fr_6_12 (n : Nat) (i : Nat → Int32) : (exF 6 n i)[12]? = some (.ref (n + 12)) := rfl
theorem fr_6_13 (n : Nat) (i : Nat → Int32) : (exF 6 n i)[13]? = some (.ref (n + 13)) := rfl
theorem fr_6_14 (n : Nat) (i : Nat → Int32) : (exF 6 n i)[14]? = some (.ref (n + 14)) := rfl
theorem fr_6_15 (n : Nat) (i : Nat → Int32) : (exF 6 n i)[15]? = some (.ref (n + 15)) := rfl
theorem fr_6_16 (n : Nat) (i : Nat → Int32) : (exF 6 n i)[16]? = some (.ref (n + 16)) := rfl
theorem fr_6_17 (n : Nat) (i : Nat → Int32) : (exF 6 n i)[17]? = some (.ref (n + 17)) := rfl
theorem fr_6_18 (n : Nat) (i : Nat → Int32) : (exF 6 n i)[18]? = some (.ref (n + 18)) := rfl
theorem fr_6_19 (n : Nat) (i : Nat → Int32) : (exF 6 n i)[19]? = some (.ref (n + 19)) := rfl
theorem fr_6_20 (n : Nat) (i : Nat → Int32) : (exF 6 n i)[20]? = some (.ref (n + 20)) := rfl
theorem fr_6_21 (n : Nat) (i : Nat → Int32) : (exF 6 n i)[21]? = some (.ref (n + 21)) := rfl
theorem fr_6_22 (n : Nat) (i : Nat → Int32) : (exF 6 n i)[22]? = some (.ref (n + 22)) := rfl
theorem fr_6_23 (n : Nat) (i : Nat → Int32) : (exF 6 n i)[23]? = some (.ref (n + 23)) := rfl
theorem fr_6_24 (n : Nat) (i : Nat → Int32) : (exF 6 n i)[24]? = some (.ref (n + 24)) := rfl
theorem fr_6_25 (n : Nat) (i : Nat → Int32) : (exF 6 n i)[25]? = some (.ref (n + 25)) := rfl
theorem fr_6_26 (n : Nat) (i : Nat → Int32) : (exF 6 n i)[26]? = some (.ref (n + 26)) := rfl
theorem fr_6_27 (n : Nat) (i : Nat → Int32) : (exF 6 n i)[27]? = some (.ref (n + 27)) := rfl
theorem fi_6_28 : aFI 6 28 TX8 tyX8 .int := ⟨fun _ _ => rfl, fun _ _ _ => rfl, rfl, rfl, fun _ _ => Nat.le_of_ble_eq_true rfl⟩
theorem fi_6_29 : aFI 6 29 TX8 tyX8 .int := ⟨fun _ _ => rfl, fun _ _ _ => rfl, rfl, rfl, fun _ _ => Nat.le_of_ble_eq_true rfl⟩
theorem fi_6_30 : aFI 6 30 TX8 tyX8 .int := ⟨fun _ _ => rfl, fun _ _ _ => rfl, rfl, rfl, fun _ _ => Nat.le_of_ble_eq_true rfl⟩
theorem fi_6_31 : aFI 6 31 TX8 tyX8 .int := ⟨fun _ _ => rfl, fun _ _ _ => rfl, rfl, rfl, fun _ _ => Nat.le_of_ble_eq_true rfl⟩
theorem fi_6_32 : aFI 6 32 TX8 tyX8 .int := ⟨fun _ _ => rfl, fun _ _ _ => rfl, rfl, rfl, fun _ _ => Nat.le_of_ble_eq_true rfl⟩
theorem fi_6_33 : aFI 6 33 TX8 tyX8 .int := ⟨fun _ _ => rfl, fun _ _ _ => rfl, rfl, rfl, fun _ _ => Nat.le_of_ble_eq_true rfl⟩
theorem fi_6_34 : aFI 6 34 TX8 tyX8 .int := ⟨fun _ _ => rfl, fun _ _ _ => rfl, rfl, rfl, fun _ _ => Nat.le_of_ble_eq_true rfl⟩
theorem fi_6_35 : aFI 6 35 TX8 tyX8 .int := ⟨fun _ _ => rfl, fun _ _ _ => rfl, rfl, rfl, fun _ _ => Nat.le_of_ble_eq_true rfl⟩
theorem fi_6_36 : aFI 6 36 TX8 tyX8 .int := ⟨fun _ _ => rfl, fun _ _ _ => rfl, rfl, rfl, fun _ _ => Nat.le_of_ble_eq_true rfl⟩
theorem fi_6_37 : aFI 6 37 TX8 tyX8 .int := ⟨fun _ _ => rfl, fun _ _ _ => rfl, rfl, rfl, fun _ _ => Nat.le_of_ble_eq_true rfl⟩
theorem fr_6_38 (n : Nat) (i : Nat → Int32) : (exF 6 n i)[38]? = some (.ref (n + 28)) := rfl
theorem fr_6_39 (n : Nat) (i : Nat → Int32) : (exF 6 n i)[39]? = some (.ref (n + 29)) := rfl
theorem fr_6_40 (n : Nat) (i : Nat → Int32) : (exF 6 n i)[40]? = some (.ref (n + 30)) := rfl
theorem fr_6_41 (n : Nat) (i : Nat → Int32) : (exF 6 n i)[41]? = some (.ref (n + 31)) := rfl
theorem fr_6_42 (n : Nat) (i : Nat → Int32) : (exF 6 n i)[42]? = some (.ref (n + 32)) := rfl
theorem fr_6_43 (n : Nat) (i : Nat → Int32) : (exF 6 n i)[43]? = some (.ref (n + 33)) := rfl
theorem fr_6_44 (n : Nat) (i : Nat → Int32) : (exF 6 n i)[44]? = some (.ref (n + 34)) := rfl
theorem fr_6_45 (n : Nat) (i : Nat → Int32) : (exF 6 n i)[45]? = some (.ref (n + 35)) := rfl
theorem fr_6_46 (n : Nat) (i : Nat → Int32) : (exF 6 n i)[46]? = some (.ref (n + 36)) := rfl
theorem fr_6_47 (n : Nat) (i : Nat → Int32) : (exF 6 n i)[47]? = some (.ref (n + 37)) := rfl
theorem fi_6_48 : aFI 6 48 TX8 tyX8 .int := ⟨fun _ _ => rfl, fun _ _ _ => rfl, rfl, rfl, fun _ _ => Nat.le_of_ble_eq_true rfl⟩
theorem fi_6_49 : aFI 6 49 TX8 tyX8 .int := ⟨fun _ _ => rfl, fun _ _ _ => rfl, rfl, rfl, fun _ _ => Nat.le_of_ble_eq_true rfl⟩
theorem fi_6_50 : aFI 6 50 TX8 tyX8 .int := ⟨fun _ _ => rfl, fun _ _ _ => rfl, rfl, rfl, fun _ _ => Nat.le_of_ble_eq_true rfl⟩
theorem fi_6_51 : aFI 6 51 TX8 tyX8 .int := ⟨fun _ _ => rfl, fun _ _ _ => rfl, rfl, rfl, fun _ _ => Nat.le_of_ble_eq_true rfl⟩
theorem fi_6_52 : aFI 6 52 TX8 tyX8 .int := ⟨fun _ _ => rfl, fun _ _ _ => rfl, rfl, rfl, fun _ _ => Nat.le_of_ble_eq_true rfl⟩
theorem fr_6_53 (n : Nat) (i : Nat → Int32) : (exF 6 n i)[53]? = some (.ref (n + 38)) := rfl
theorem fr_6_54 (n : Nat) (i : Nat → Int32) : (exF 6 n i)[54]? = some (.ref (n + 39)) := rfl
theorem fi_6_55 : aFI 6 55 TX8 tyX8 .int := ⟨fun _ _ => rfl, fun _ _ _ => rfl, rfl, rfl, fun _ _ => Nat.le_of_ble_eq_true rfl⟩
theorem fi_6_56 : aFI 6 56 TX8 tyX8 .int := ⟨fun _ _ => rfl, fun _ _ _ => rfl, rfl, rfl, fun _ _ => Nat.le_of_ble_eq_true rfl⟩
theorem fi_6_57 : aFI 6 57 TX8 tyX8 .boolean := ⟨fun _ _ => rfl, fun _ _ _ => rfl, rfl, rfl, fun _ _ => Nat.le_of_ble_eq_true rfl⟩
theorem fr_6_58 (n : Nat) (i : Nat → Int32) : (exF 6 n i)[58]? = some (.ref (n + 40)) := rfl
theorem fr_6_59 (n : Nat) (i : Nat → Int32) : (exF 6 n i)[59]? = some (.ref (n + 41)) := rfl
theorem fr_6_60 (n : Nat) (i : Nat → Int32) : (exF 6 n i)[60]? = some (.ref (n + 42)) := rfl
theorem fr_6_61 (n : Nat) (i : Nat → Int32) : (exF 6 n i)[61]? = some (.ref (n + 43)) := rfl
theorem fr_6_62 (n : Nat) (i : Nat → Int32) : (exF 6 n i)[62]? = some (.ref (n + 44)) := rfl
theorem fr_6_63 (n : Nat) (i : Nat → Int32) : (exF 6 n i)[63]? = some (.ref (n + 45)) := rfl
theorem fi_6_64 : aFI 6 64 TX8 tyX8 .int := ⟨fun _ _ => rfl, fun _ _ _ => rfl, rfl, rfl, fun _ _ => Nat.le_of_ble_eq_true rfl⟩
theorem fi_6_65 : aFI 6 65 TX8 tyX8 .boolean := ⟨fun _ _ => rfl, fun _ _ _ => rfl, rfl, rfl, fun _ _ => Nat.le_of_ble_eq_true rfl⟩
theorem fd_RX7_10 : 0 < 12 ∧ Cond.fieldLink RX7 10 (TX7 0).1 (TX7 0).2.1 (TX7 0).2.2.1 ∈ aBIG := ⟨by decide, bw328⟩
theorem fd_RX7_18 : 1 < 12 ∧ Cond.fieldLink RX7 18 (TX7 1).1 (TX7 1).2.1 (TX7 1).2.2.1 ∈ aBIG := ⟨by decide, bw329⟩
theorem fd_RX7_22 : 2 < 12 ∧ Cond.fieldLink RX7 22 (TX7 2).1 (TX7 2).2.1 (TX7 2).2.2.1 ∈ aBIG := ⟨by decide, bw330⟩
theorem fd_RX7_29 : 3 < 12 ∧ Cond.fieldLink RX7 29 (TX7 3).1 (TX7 3).2.1 (TX7 3).2.2.1 ∈ aBIG := ⟨by decide, bw331⟩
theorem fd_RX7_36 : 4 < 12 ∧ Cond.fieldLink RX7 36 (TX7 4).1 (TX7 4).2.1 (TX7 4).2.2.1 ∈ aBIG := ⟨by decide, bw332⟩
theorem fd_RX7_40 : 5 < 12 ∧ Cond.fieldLink RX7 40 (TX7 5).1 (TX7 5).2.1 (TX7 5).2.2.1 ∈ aBIG := ⟨by decide, bw333⟩
theorem fd_RX7_44 : 6 < 12 ∧ Cond.fieldLink RX7 44 (TX7 6).1 (TX7 6).2.1 (TX7 6).2.2.1 ∈ aBIG := ⟨by decide, bw334⟩
theorem fd_RX7_50 : 7 < 12 ∧ Cond.fieldLink RX7 50 (TX7 7).1 (TX7 7).2.1 (TX7 7).2.2.1 ∈ aBIG := ⟨by decide, bw335⟩
theorem fd_RX7_54 : 8 < 12 ∧ Cond.fieldLink RX7 54 (TX7 8).1 (TX7 8).2.1 (TX7 8).2.2.1 ∈ aBIG := ⟨by decide, bw336⟩
theorem fd_RX7_58 : 9 < 12 ∧ Cond.fieldLink RX7 58 (TX7 9).1 (TX7 9).2.1 (TX7 9).2.2.1 ∈ aBIG := ⟨by decide, bw337⟩
theorem fd_RX7_61 : 10 < 12 ∧ Cond.fieldLink RX7 61 (TX7 10).1 (TX7 10).2.1 (TX7 10).2.2.1 ∈ aBIG := ⟨by decide, bw338⟩
theorem fd_RX7_64 : 11 < 12 ∧ Cond.fieldLink RX7 64 (TX7 11).1 (TX7 11).2.1 (TX7 11).2.2.1 ∈ aBIG := ⟨by decide, bw339⟩
theorem fd_RX7_68 : 1 < 4 ∧ Cond.fieldLink RX7 68 (TX4 1).1 (TX4 1).2.1 (TX4 1).2.2.1 ∈ aBIG := ⟨by decide, bw121⟩
theorem fd_RX7_81 : 3 < 4 ∧ Cond.fieldLink RX7 81 (TX4 3).1 (TX4 3).2.1 (TX4 3).2.2.1 ∈ aBIG := ⟨by decide, bw128⟩
theorem fd_RX7_88 : 0 < 10 ∧ Cond.fieldLink RX7 88 (TX6 0).1 (TX6 0).2.1 (TX6 0).2.2.1 ∈ aBIG := ⟨by decide, bw269⟩
theorem fd_RX7_91 : 1 < 12 ∧ Cond.fieldLink RX7 91 (TX5 1).1 (TX5 1).2.1 (TX5 1).2.2.1 ∈ aBIG := ⟨by decide, bw152⟩
theorem fd_RX7_99 : 8 < 10 ∧ Cond.fieldLink RX7 99 (TX6 8).1 (TX6 8).2.1 (TX6 8).2.2.1 ∈ aBIG := ⟨by decide, bw281⟩
theorem fd_RX7_106 : 1 < 10 ∧ Cond.fieldLink RX7 106 (TX6 1).1 (TX6 1).2.1 (TX6 1).2.2.1 ∈ aBIG := ⟨by decide, bw271⟩
theorem fd_RX7_109 : 1 < 11 ∧ Cond.fieldLink RX7 109 (TX3 1).1 (TX3 1).2.1 (TX3 1).2.2.1 ∈ aBIG := ⟨by decide, bw225⟩
theorem fd_RX7_112 : 5 < 12 ∧ Cond.fieldLink RX7 112 (TX5 5).1 (TX5 5).2.1 (TX5 5).2.2.1 ∈ aBIG := ⟨by decide, bw165⟩
theorem fd_RX7_128 : 2 < 11 ∧ Cond.fieldLink RX7 128 (TX3 2).1 (TX3 2).2.1 (TX3 2).2.2.1 ∈ aBIG := ⟨by decide, bw227⟩
theorem fd_RX7_131 : 7 < 12 ∧ Cond.fieldLink RX7 131 (TX5 7).1 (TX5 7).2.1 (TX5 7).2.2.1 ∈ aBIG := ⟨by decide, bw171⟩
theorem fd_RX7_134 : 4 < 11 ∧ Cond.fieldLink RX7 134 (TX3 4).1 (TX3 4).2.1 (TX3 4).2.2.1 ∈ aBIG := ⟨by decide, bw232⟩
theorem fd_RX7_137 : 3 < 11 ∧ Cond.fieldLink RX7 137 (TX3 3).1 (TX3 3).2.1 (TX3 3).2.2.1 ∈ aBIG := ⟨by decide, bw230⟩
theorem fd_RX7_143 : 9 < 12 ∧ Cond.fieldLink RX7 143 (TX5 9).1 (TX5 9).2.1 (TX5 9).2.2.1 ∈ aBIG := ⟨by decide, bw176⟩
theorem fd_RX7_146 : 10 < 12 ∧ Cond.fieldLink RX7 146 (TX5 10).1 (TX5 10).2.1 (TX5 10).2.2.1 ∈ aBIG := ⟨by decide, bw178⟩
theorem fd_RX7_149 : 11 < 12 ∧ Cond.fieldLink RX7 149 (TX5 11).1 (TX5 11).2.1 (TX5 11).2.2.1 ∈ aBIG := ⟨by decide, bw181⟩
theorem fd_RX7_155 : 6 < 11 ∧ Cond.fieldLink RX7 155 (TX3 6).1 (TX3 6).2.1 (TX3 6).2.2.1 ∈ aBIG := ⟨by decide, bw236⟩
theorem fd_RX7_158 : 7 < 11 ∧ Cond.fieldLink RX7 158 (TX3 7).1 (TX3 7).2.1 (TX3 7).2.2.1 ∈ aBIG := ⟨by decide, bw238⟩
theorem fd_RX7_161 : 0 < 12 ∧ Cond.fieldLink RX7 161 (TX5 0).1 (TX5 0).2.1 (TX5 0).2.2.1 ∈ aBIG := ⟨by decide, bw149⟩
theorem fd_RX7_164 : 2 < 12 ∧ Cond.fieldLink RX7 164 (TX5 2).1 (TX5 2).2.1 (TX5 2).2.2.1 ∈ aBIG := ⟨by decide, bw157⟩
theorem fd_RX7_167 : 3 < 12 ∧ Cond.fieldLink RX7 167 (TX5 3).1 (TX5 3).2.1 (TX5 3).2.2.1 ∈ aBIG := ⟨by decide, bw161⟩
theorem fd_RX7_170 : 0 < 11 ∧ Cond.fieldLink RX7 170 (TX3 0).1 (TX3 0).2.1 (TX3 0).2.2.1 ∈ aBIG := ⟨by decide, bw223⟩
theorem fd_RX7_183 : 7 < 10 ∧ Cond.fieldLink RX7 183 (TX6 7).1 (TX6 7).2.1 (TX6 7).2.2.1 ∈ aBIG := ⟨by decide, bw279⟩
theorem fd_RX7_186 : 3 < 10 ∧ Cond.fieldLink RX7 186 (TX6 3).1 (TX6 3).2.1 (TX6 3).2.2.1 ∈ aBIG := ⟨by decide, bw274⟩
theorem fd_RX7_189 : 9 < 10 ∧ Cond.fieldLink RX7 189 (TX6 9).1 (TX6 9).2.1 (TX6 9).2.2.1 ∈ aBIG := ⟨by decide, bw283⟩
theorem fd_RX7_207 : 10 < 11 ∧ Cond.fieldLink RX7 207 (TX3 10).1 (TX3 10).2.1 (TX3 10).2.2.1 ∈ aBIG := ⟨by decide, bw243⟩
theorem fd_RX7_210 : 5 < 11 ∧ Cond.fieldLink RX7 210 (TX3 5).1 (TX3 5).2.1 (TX3 5).2.2.1 ∈ aBIG := ⟨by decide, bw234⟩
theorem fd_RX7_227 : 9 < 11 ∧ Cond.fieldLink RX7 227 (TX3 9).1 (TX3 9).2.1 (TX3 9).2.2.1 ∈ aBIG := ⟨by decide, bw241⟩
theorem fd_RX0_22 : 2 < 4 ∧ Cond.fieldLink RX0 22 (TX4 2).1 (TX4 2).2.1 (TX4 2).2.2.1 ∈ aBIG := ⟨by decide, bw123⟩
theorem fd_RX0_50 : 3 < 4 ∧ Cond.fieldLink RX0 50 (TX4 3).1 (TX4 3).2.1 (TX4 3).2.2.1 ∈ aBIG := ⟨by decide, bw127⟩
theorem fd_RX0_53 : 0 < 12 ∧ Cond.fieldLink RX0 53 (TX5 0).1 (TX5 0).2.1 (TX5 0).2.2.1 ∈ aBIG := ⟨by decide, bw148⟩
theorem fd_RX0_56 : 1 < 12 ∧ Cond.fieldLink RX0 56 (TX5 1).1 (TX5 1).2.1 (TX5 1).2.2.1 ∈ aBIG := ⟨by decide, bw151⟩
theorem fd_RX0_59 : 2 < 12 ∧ Cond.fieldLink RX0 59 (TX5 2).1 (TX5 2).2.1 (TX5 2).2.2.1 ∈ aBIG := ⟨by decide, bw155⟩
theorem fd_RX0_62 : 3 < 12 ∧ Cond.fieldLink RX0 62 (TX5 3).1 (TX5 3).2.1 (TX5 3).2.2.1 ∈ aBIG := ⟨by decide, bw159⟩
theorem fd_RX1_11 : 0 < 4 ∧ Cond.fieldLink RX1 11 (TX1 0).1 (TX1 0).2.1 (TX1 0).2.2.1 ∈ aBIG := ⟨by decide, bw313⟩
theorem fd_RX1_15 : 1 < 4 ∧ Cond.fieldLink RX1 15 (TX1 1).1 (TX1 1).2.1 (TX1 1).2.2.1 ∈ aBIG := ⟨by decide, bw314⟩
theorem fd_RX1_19 : 2 < 4 ∧ Cond.fieldLink RX1 19 (TX1 2).1 (TX1 2).2.1 (TX1 2).2.2.1 ∈ aBIG := ⟨by decide, bw315⟩
theorem fd_RX1_23 : 3 < 4 ∧ Cond.fieldLink RX1 23 (TX1 3).1 (TX1 3).2.1 (TX1 3).2.2.1 ∈ aBIG := ⟨by decide, bw316⟩
theorem fd_RX2_22 : 2 < 4 ∧ Cond.fieldLink RX2 22 (TX4 2).1 (TX4 2).2.1 (TX4 2).2.2.1 ∈ aBIG := ⟨by decide, bw124⟩
theorem fd_RX2_42 : 3 < 4 ∧ Cond.fieldLink RX2 42 (TX4 3).1 (TX4 3).2.1 (TX4 3).2.2.1 ∈ aBIG := ⟨by decide, bw126⟩
theorem fd_RX2_115 : 3 < 4 ∧ Cond.fieldLink RX2 115 (TX1 3).1 (TX1 3).2.1 (TX1 3).2.2.1 ∈ aBIG := ⟨by decide, bw317⟩
theorem fd_RX3_9 : 0 < 11 ∧ Cond.fieldLink RX3 9 (TX3 0).1 (TX3 0).2.1 (TX3 0).2.2.1 ∈ aBIG := ⟨by decide, bw222⟩
theorem fd_RX3_15 : 1 < 11 ∧ Cond.fieldLink RX3 15 (TX3 1).1 (TX3 1).2.1 (TX3 1).2.2.1 ∈ aBIG := ⟨by decide, bw224⟩
theorem fd_RX3_19 : 2 < 11 ∧ Cond.fieldLink RX3 19 (TX3 2).1 (TX3 2).2.1 (TX3 2).2.2.1 ∈ aBIG := ⟨by decide, bw226⟩
theorem fd_RX3_22 : 3 < 11 ∧ Cond.fieldLink RX3 22 (TX3 3).1 (TX3 3).2.1 (TX3 3).2.2.1 ∈ aBIG := ⟨by decide, bw228⟩
theorem fd_RX3_25 : 4 < 11 ∧ Cond.fieldLink RX3 25 (TX3 4).1 (TX3 4).2.1 (TX3 4).2.2.1 ∈ aBIG := ⟨by decide, bw231⟩
theorem fd_RX3_28 : 5 < 11 ∧ Cond.fieldLink RX3 28 (TX3 5).1 (TX3 5).2.1 (TX3 5).2.2.1 ∈ aBIG := ⟨by decide, bw233⟩
theorem fd_RX3_31 : 6 < 11 ∧ Cond.fieldLink RX3 31 (TX3 6).1 (TX3 6).2.1 (TX3 6).2.2.1 ∈ aBIG := ⟨by decide, bw235⟩
theorem fd_RX3_34 : 7 < 11 ∧ Cond.fieldLink RX3 34 (TX3 7).1 (TX3 7).2.1 (TX3 7).2.2.1 ∈ aBIG := ⟨by decide, bw237⟩
theorem fd_RX3_37 : 8 < 11 ∧ Cond.fieldLink RX3 37 (TX3 8).1 (TX3 8).2.1 (TX3 8).2.2.1 ∈ aBIG := ⟨by decide, bw239⟩
theorem fd_RX3_40 : 9 < 11 ∧ Cond.fieldLink RX3 40 (TX3 9).1 (TX3 9).2.1 (TX3 9).2.2.1 ∈ aBIG := ⟨by decide, bw240⟩
theorem fd_RX3_43 : 10 < 11 ∧ Cond.fieldLink RX3 43 (TX3 10).1 (TX3 10).2.1 (TX3 10).2.2.1 ∈ aBIG := ⟨by decide, bw242⟩
theorem fd_RX3_46 : 4 < 12 ∧ Cond.fieldLink RX3 46 (TX5 4).1 (TX5 4).2.1 (TX5 4).2.2.1 ∈ aBIG := ⟨by decide, bw163⟩
theorem fd_RX3_55 : 6 < 12 ∧ Cond.fieldLink RX3 55 (TX5 6).1 (TX5 6).2.1 (TX5 6).2.2.1 ∈ aBIG := ⟨by decide, bw168⟩
theorem fd_RX3_56 : 8 < 12 ∧ Cond.fieldLink RX3 56 (TX5 8).1 (TX5 8).2.1 (TX5 8).2.2.1 ∈ aBIG := ⟨by decide, bw173⟩
theorem fd_RX3_57 : 2 < 12 ∧ Cond.fieldLink RX3 57 (TX5 2).1 (TX5 2).2.1 (TX5 2).2.2.1 ∈ aBIG := ⟨by decide, bw156⟩
theorem fd_RX3_72 : 3 < 12 ∧ Cond.fieldLink RX3 72 (TX5 3).1 (TX5 3).2.1 (TX5 3).2.2.1 ∈ aBIG := ⟨by decide, bw160⟩
theorem fd_RX3_83 : 9 < 12 ∧ Cond.fieldLink RX3 83 (TX5 9).1 (TX5 9).2.1 (TX5 9).2.2.1 ∈ aBIG := ⟨by decide, bw175⟩
theorem fd_RX3_86 : 1 < 12 ∧ Cond.fieldLink RX3 86 (TX5 1).1 (TX5 1).2.1 (TX5 1).2.2.1 ∈ aBIG := ⟨by decide, bw153⟩
theorem fd_RX3_101 : 7 < 12 ∧ Cond.fieldLink RX3 101 (TX5 7).1 (TX5 7).2.1 (TX5 7).2.2.1 ∈ aBIG := ⟨by decide, bw170⟩
theorem fd_RX3_111 : 10 < 12 ∧ Cond.fieldLink RX3 111 (TX5 10).1 (TX5 10).2.1 (TX5 10).2.2.1 ∈ aBIG := ⟨by decide, bw179⟩
theorem fd_RX3_118 : 11 < 12 ∧ Cond.fieldLink RX3 118 (TX5 11).1 (TX5 11).2.1 (TX5 11).2.2.1 ∈ aBIG := ⟨by decide, bw182⟩
theorem fd_RX3_124 : 5 < 12 ∧ Cond.fieldLink RX3 124 (TX5 5).1 (TX5 5).2.1 (TX5 5).2.2.1 ∈ aBIG := ⟨by decide, bw166⟩
theorem fd_RX4_9 : 0 < 4 ∧ Cond.fieldLink RX4 9 (TX4 0).1 (TX4 0).2.1 (TX4 0).2.2.1 ∈ aBIG := ⟨by decide, bw119⟩
theorem fd_RX4_15 : 1 < 4 ∧ Cond.fieldLink RX4 15 (TX4 1).1 (TX4 1).2.1 (TX4 1).2.2.1 ∈ aBIG := ⟨by decide, bw120⟩
theorem fd_RX4_19 : 2 < 4 ∧ Cond.fieldLink RX4 19 (TX4 2).1 (TX4 2).2.1 (TX4 2).2.2.1 ∈ aBIG := ⟨by decide, bw122⟩
theorem fd_RX4_22 : 3 < 4 ∧ Cond.fieldLink RX4 22 (TX4 3).1 (TX4 3).2.1 (TX4 3).2.2.1 ∈ aBIG := ⟨by decide, bw125⟩
theorem fd_RX5_9 : 0 < 12 ∧ Cond.fieldLink RX5 9 (TX5 0).1 (TX5 0).2.1 (TX5 0).2.2.1 ∈ aBIG := ⟨by decide, bw147⟩
theorem fd_RX5_15 : 1 < 12 ∧ Cond.fieldLink RX5 15 (TX5 1).1 (TX5 1).2.1 (TX5 1).2.2.1 ∈ aBIG := ⟨by decide, bw150⟩
theorem fd_RX5_18 : 2 < 12 ∧ Cond.fieldLink RX5 18 (TX5 2).1 (TX5 2).2.1 (TX5 2).2.2.1 ∈ aBIG := ⟨by decide, bw154⟩
theorem fd_RX5_21 : 3 < 12 ∧ Cond.fieldLink RX5 21 (TX5 3).1 (TX5 3).2.1 (TX5 3).2.2.1 ∈ aBIG := ⟨by decide, bw158⟩
theorem fd_RX5_24 : 4 < 12 ∧ Cond.fieldLink RX5 24 (TX5 4).1 (TX5 4).2.1 (TX5 4).2.2.1 ∈ aBIG := ⟨by decide, bw162⟩
theorem fd_RX5_28 : 5 < 12 ∧ Cond.fieldLink RX5 28 (TX5 5).1 (TX5 5).2.1 (TX5 5).2.2.1 ∈ aBIG := ⟨by decide, bw164⟩
theorem fd_RX5_31 : 6 < 12 ∧ Cond.fieldLink RX5 31 (TX5 6).1 (TX5 6).2.1 (TX5 6).2.2.1 ∈ aBIG := ⟨by decide, bw167⟩
theorem fd_RX5_34 : 7 < 12 ∧ Cond.fieldLink RX5 34 (TX5 7).1 (TX5 7).2.1 (TX5 7).2.2.1 ∈ aBIG := ⟨by decide, bw169⟩
theorem fd_RX5_37 : 8 < 12 ∧ Cond.fieldLink RX5 37 (TX5 8).1 (TX5 8).2.1 (TX5 8).2.2.1 ∈ aBIG := ⟨by decide, bw172⟩
theorem fd_RX5_40 : 9 < 12 ∧ Cond.fieldLink RX5 40 (TX5 9).1 (TX5 9).2.1 (TX5 9).2.2.1 ∈ aBIG := ⟨by decide, bw174⟩
theorem fd_RX5_43 : 10 < 12 ∧ Cond.fieldLink RX5 43 (TX5 10).1 (TX5 10).2.1 (TX5 10).2.2.1 ∈ aBIG := ⟨by decide, bw177⟩
theorem fd_RX5_46 : 11 < 12 ∧ Cond.fieldLink RX5 46 (TX5 11).1 (TX5 11).2.1 (TX5 11).2.2.1 ∈ aBIG := ⟨by decide, bw180⟩
theorem fd_RX6_12 : 0 < 10 ∧ Cond.fieldLink RX6 12 (TX6 0).1 (TX6 0).2.1 (TX6 0).2.2.1 ∈ aBIG := ⟨by decide, bw268⟩
theorem fd_RX6_21 : 1 < 10 ∧ Cond.fieldLink RX6 21 (TX6 1).1 (TX6 1).2.1 (TX6 1).2.2.1 ∈ aBIG := ⟨by decide, bw270⟩
theorem fd_RX6_25 : 2 < 10 ∧ Cond.fieldLink RX6 25 (TX6 2).1 (TX6 2).2.1 (TX6 2).2.2.1 ∈ aBIG := ⟨by decide, bw272⟩
theorem fd_RX6_29 : 3 < 10 ∧ Cond.fieldLink RX6 29 (TX6 3).1 (TX6 3).2.1 (TX6 3).2.2.1 ∈ aBIG := ⟨by decide, bw273⟩
theorem fd_RX6_33 : 4 < 10 ∧ Cond.fieldLink RX6 33 (TX6 4).1 (TX6 4).2.1 (TX6 4).2.2.1 ∈ aBIG := ⟨by decide, bw275⟩
theorem fd_RX6_37 : 5 < 10 ∧ Cond.fieldLink RX6 37 (TX6 5).1 (TX6 5).2.1 (TX6 5).2.2.1 ∈ aBIG := ⟨by decide, bw276⟩
theorem fd_RX6_40 : 6 < 10 ∧ Cond.fieldLink RX6 40 (TX6 6).1 (TX6 6).2.1 (TX6 6).2.2.1 ∈ aBIG := ⟨by decide, bw277⟩
theorem fd_RX6_43 : 7 < 10 ∧ Cond.fieldLink RX6 43 (TX6 7).1 (TX6 7).2.1 (TX6 7).2.2.1 ∈ aBIG := ⟨by decide, bw278⟩
theorem fd_RX6_46 : 8 < 10 ∧ Cond.fieldLink RX6 46 (TX6 8).1 (TX6 8).2.1 (TX6 8).2.2.1 ∈ aBIG := ⟨by decide, bw280⟩
theorem fd_RX6_49 : 9 < 10 ∧ Cond.fieldLink RX6 49 (TX6 9).1 (TX6 9).2.1 (TX6 9).2.2.1 ∈ aBIG := ⟨by decide, bw282⟩
theorem fd_RX6_74 : 3 < 11 ∧ Cond.fieldLink RX6 74 (TX3 3).1 (TX3 3).2.1 (TX3 3).2.2.1 ∈ aBIG := ⟨by decide, bw229⟩
theorem fd_RX8_9 : 1 < 66 ∧ Cond.fieldLink RX8 9 (TX8 1).1 (TX8 1).2.1 (TX8 1).2.2.1 ∈ aBIG := ⟨by decide, bw968⟩
theorem fd_RX8_13 : 2 < 66 ∧ Cond.fieldLink RX8 13 (TX8 2).1 (TX8 2).2.1 (TX8 2).2.2.1 ∈ aBIG := ⟨by decide, bw969⟩
theorem fd_RX8_16 : 3 < 66 ∧ Cond.fieldLink RX8 16 (TX8 3).1 (TX8 3).2.1 (TX8 3).2.2.1 ∈ aBIG := ⟨by decide, bw970⟩
theorem fd_RX8_19 : 4 < 66 ∧ Cond.fieldLink RX8 19 (TX8 4).1 (TX8 4).2.1 (TX8 4).2.2.1 ∈ aBIG := ⟨by decide, bw971⟩
theorem fd_RX8_22 : 5 < 66 ∧ Cond.fieldLink RX8 22 (TX8 5).1 (TX8 5).2.1 (TX8 5).2.2.1 ∈ aBIG := ⟨by decide, bw972⟩
theorem fd_RX8_25 : 6 < 66 ∧ Cond.fieldLink RX8 25 (TX8 6).1 (TX8 6).2.1 (TX8 6).2.2.1 ∈ aBIG := ⟨by decide, bw973⟩
theorem fd_RX8_28 : 7 < 66 ∧ Cond.fieldLink RX8 28 (TX8 7).1 (TX8 7).2.1 (TX8 7).2.2.1 ∈ aBIG := ⟨by decide, bw974⟩
theorem fd_RX8_31 : 8 < 66 ∧ Cond.fieldLink RX8 31 (TX8 8).1 (TX8 8).2.1 (TX8 8).2.2.1 ∈ aBIG := ⟨by decide, bw975⟩
theorem fd_RX8_34 : 9 < 66 ∧ Cond.fieldLink RX8 34 (TX8 9).1 (TX8 9).2.1 (TX8 9).2.2.1 ∈ aBIG := ⟨by decide, bw976⟩
theorem fd_RX8_37 : 10 < 66 ∧ Cond.fieldLink RX8 37 (TX8 10).1 (TX8 10).2.1 (TX8 10).2.2.1 ∈ aBIG := ⟨by decide, bw977⟩
theorem fd_RX8_40 : 11 < 66 ∧ Cond.fieldLink RX8 40 (TX8 11).1 (TX8 11).2.1 (TX8 11).2.2.1 ∈ aBIG := ⟨by decide, bw978⟩
theorem fd_RX8_43 : 12 < 66 ∧ Cond.fieldLink RX8 43 (TX8 12).1 (TX8 12).2.1 (TX8 12).2.2.1 ∈ aBIG := ⟨by decide, bw979⟩
theorem fd_RX8_46 : 13 < 66 ∧ Cond.fieldLink RX8 46 (TX8 13).1 (TX8 13).2.1 (TX8 13).2.2.1 ∈ aBIG := ⟨by decide, bw980⟩
theorem fd_RX8_49 : 14 < 66 ∧ Cond.fieldLink RX8 49 (TX8 14).1 (TX8 14).2.1 (TX8 14).2.2.1 ∈ aBIG := ⟨by decide, bw981⟩
theorem fd_RX8_52 : 15 < 66 ∧ Cond.fieldLink RX8 52 (TX8 15).1 (TX8 15).2.1 (TX8 15).2.2.1 ∈ aBIG := ⟨by decide, bw982⟩
theorem fd_RX8_55 : 16 < 66 ∧ Cond.fieldLink RX8 55 (TX8 16).1 (TX8 16).2.1 (TX8 16).2.2.1 ∈ aBIG := ⟨by decide, bw983⟩
theorem fd_RX8_58 : 17 < 66 ∧ Cond.fieldLink RX8 58 (TX8 17).1 (TX8 17).2.1 (TX8 17).2.2.1 ∈ aBIG := ⟨by decide, bw984⟩
theorem fd_RX8_61 : 18 < 66 ∧ Cond.fieldLink RX8 61 (TX8 18).1 (TX8 18).2.1 (TX8 18).2.2.1 ∈ aBIG := ⟨by decide, bw985⟩
theorem fd_RX8_64 : 19 < 66 ∧ Cond.fieldLink RX8 64 (TX8 19).1 (TX8 19).2.1 (TX8 19).2.2.1 ∈ aBIG := ⟨by decide, bw986⟩
theorem fd_RX8_67 : 20 < 66 ∧ Cond.fieldLink RX8 67 (TX8 20).1 (TX8 20).2.1 (TX8 20).2.2.1 ∈ aBIG := ⟨by decide, bw987⟩
theorem fd_RX8_70 : 21 < 66 ∧ Cond.fieldLink RX8 70 (TX8 21).1 (TX8 21).2.1 (TX8 21).2.2.1 ∈ aBIG := ⟨by decide, bw988⟩
theorem fd_RX8_73 : 22 < 66 ∧ Cond.fieldLink RX8 73 (TX8 22).1 (TX8 22).2.1 (TX8 22).2.2.1 ∈ aBIG := ⟨by decide, bw989⟩
theorem fd_RX8_76 : 23 < 66 ∧ Cond.fieldLink RX8 76 (TX8 23).1 (TX8 23).2.1 (TX8 23).2.2.1 ∈ aBIG := ⟨by decide, bw990⟩
theorem fd_RX8_79 : 24 < 66 ∧ Cond.fieldLink RX8 79 (TX8 24).1 (TX8 24).2.1 (TX8 24).2.2.1 ∈ aBIG := ⟨by decide, bw991⟩
theorem fd_RX8_82 : 25 < 66 ∧ Cond.fieldLink RX8 82 (TX8 25).1 (TX8 25).2.1 (TX8 25).2.2.1 ∈ aBIG := ⟨by decide, bw992⟩
theorem fd_RX8_85 : 26 < 66 ∧ Cond.fieldLink RX8 85 (TX8 26).1 (TX8 26).2.1 (TX8 26).2.2.1 ∈ aBIG := ⟨by decide, bw993⟩
theorem fd_RX8_88 : 27 < 66 ∧ Cond.fieldLink RX8 88 (TX8 27).1 (TX8 27).2.1 (TX8 27).2.2.1 ∈ aBIG := ⟨by decide, bw994⟩
theorem fd_RX8_91 : 37 < 66 ∧ Cond.fieldLink RX8 91 (TX8 37).1 (TX8 37).2.1 (TX8 37).2.2.1 ∈ aBIG := ⟨by decide, bw1004⟩
theorem fd_RX8_95 : 38 < 66 ∧ Cond.fieldLink RX8 95 (TX8 38).1 (TX8 38).2.1 (TX8 38).2.2.1 ∈ aBIG := ⟨by decide, bw1005⟩
theorem fd_RX8_99 : 39 < 66 ∧ Cond.fieldLink RX8 99 (TX8 39).1 (TX8 39).2.1 (TX8 39).2.2.1 ∈ aBIG := ⟨by decide, bw1006⟩
theorem fd_RX8_102 : 40 < 66 ∧ Cond.fieldLink RX8 102 (TX8 40).1 (TX8 40).2.1 (TX8 40).2.2.1 ∈ aBIG := ⟨by decide, bw1007⟩
theorem fd_RX8_105 : 41 < 66 ∧ Cond.fieldLink RX8 105 (TX8 41).1 (TX8 41).2.1 (TX8 41).2.2.1 ∈ aBIG := ⟨by decide, bw1008⟩
theorem fd_RX8_108 : 42 < 66 ∧ Cond.fieldLink RX8 108 (TX8 42).1 (TX8 42).2.1 (TX8 42).2.2.1 ∈ aBIG := ⟨by decide, bw1009⟩
theorem fd_RX8_111 : 43 < 66 ∧ Cond.fieldLink RX8 111 (TX8 43).1 (TX8 43).2.1 (TX8 43).2.2.1 ∈ aBIG := ⟨by decide, bw1010⟩
theorem fd_RX8_114 : 44 < 66 ∧ Cond.fieldLink RX8 114 (TX8 44).1 (TX8 44).2.1 (TX8 44).2.2.1 ∈ aBIG := ⟨by decide, bw1011⟩
theorem fd_RX8_117 : 45 < 66 ∧ Cond.fieldLink RX8 117 (TX8 45).1 (TX8 45).2.1 (TX8 45).2.2.1 ∈ aBIG := ⟨by decide, bw1012⟩
theorem fd_RX8_120 : 46 < 66 ∧ Cond.fieldLink RX8 120 (TX8 46).1 (TX8 46).2.1 (TX8 46).2.2.1 ∈ aBIG := ⟨by decide, bw1013⟩
theorem fd_RX8_124 : 47 < 66 ∧ Cond.fieldLink RX8 124 (TX8 47).1 (TX8 47).2.1 (TX8 47).2.2.1 ∈ aBIG := ⟨by decide, bw1014⟩
theorem fd_RX8_127 : 48 < 66 ∧ Cond.fieldLink RX8 127 (TX8 48).1 (TX8 48).2.1 (TX8 48).2.2.1 ∈ aBIG := ⟨by decide, bw1015⟩
theorem fd_RX8_130 : 49 < 66 ∧ Cond.fieldLink RX8 130 (TX8 49).1 (TX8 49).2.1 (TX8 49).2.2.1 ∈ aBIG := ⟨by decide, bw1016⟩
theorem fd_RX8_133 : 53 < 66 ∧ Cond.fieldLink RX8 133 (TX8 53).1 (TX8 53).2.1 (TX8 53).2.2.1 ∈ aBIG := ⟨by decide, bw1020⟩
theorem fd_RX8_136 : 54 < 66 ∧ Cond.fieldLink RX8 136 (TX8 54).1 (TX8 54).2.1 (TX8 54).2.2.1 ∈ aBIG := ⟨by decide, bw1021⟩
theorem fd_RX8_139 : 58 < 66 ∧ Cond.fieldLink RX8 139 (TX8 58).1 (TX8 58).2.1 (TX8 58).2.2.1 ∈ aBIG := ⟨by decide, bw1025⟩
theorem fd_RX8_142 : 59 < 66 ∧ Cond.fieldLink RX8 142 (TX8 59).1 (TX8 59).2.1 (TX8 59).2.2.1 ∈ aBIG := ⟨by decide, bw1026⟩
theorem fd_RX8_145 : 60 < 66 ∧ Cond.fieldLink RX8 145 (TX8 60).1 (TX8 60).2.1 (TX8 60).2.2.1 ∈ aBIG := ⟨by decide, bw1027⟩
theorem fd_RX8_148 : 61 < 66 ∧ Cond.fieldLink RX8 148 (TX8 61).1 (TX8 61).2.1 (TX8 61).2.2.1 ∈ aBIG := ⟨by decide, bw1028⟩
theorem fd_RX8_151 : 62 < 66 ∧ Cond.fieldLink RX8 151 (TX8 62).1 (TX8 62).2.1 (TX8 62).2.2.1 ∈ aBIG := ⟨by decide, bw1029⟩
theorem fd_RX8_154 : 63 < 66 ∧ Cond.fieldLink RX8 154 (TX8 63).1 (TX8 63).2.1 (TX8 63).2.2.1 ∈ aBIG := ⟨by decide, bw1030⟩
theorem fd_RX8_165 : 28 < 66 ∧ Cond.fieldLink RX8 165 (TX8 28).1 (TX8 28).2.1 (TX8 28).2.2.1 ∈ aBIG := ⟨by decide, bw995⟩
theorem fd_RX8_188 : 30 < 66 ∧ Cond.fieldLink RX8 188 (TX8 30).1 (TX8 30).2.1 (TX8 30).2.2.1 ∈ aBIG := ⟨by decide, bw997⟩
theorem fd_RX8_191 : 29 < 66 ∧ Cond.fieldLink RX8 191 (TX8 29).1 (TX8 29).2.1 (TX8 29).2.2.1 ∈ aBIG := ⟨by decide, bw996⟩
theorem fd_RX8_218 : 31 < 66 ∧ Cond.fieldLink RX8 218 (TX8 31).1 (TX8 31).2.1 (TX8 31).2.2.1 ∈ aBIG := ⟨by decide, bw998⟩
theorem fd_RX8_221 : 33 < 66 ∧ Cond.fieldLink RX8 221 (TX8 33).1 (TX8 33).2.1 (TX8 33).2.2.1 ∈ aBIG := ⟨by decide, bw1000⟩
theorem fd_RX8_224 : 35 < 66 ∧ Cond.fieldLink RX8 224 (TX8 35).1 (TX8 35).2.1 (TX8 35).2.2.1 ∈ aBIG := ⟨by decide, bw1002⟩
theorem fd_RX8_259 : 36 < 66 ∧ Cond.fieldLink RX8 259 (TX8 36).1 (TX8 36).2.1 (TX8 36).2.2.1 ∈ aBIG := ⟨by decide, bw1003⟩
theorem fd_RX8_262 : 34 < 66 ∧ Cond.fieldLink RX8 262 (TX8 34).1 (TX8 34).2.1 (TX8 34).2.2.1 ∈ aBIG := ⟨by decide, bw1001⟩
theorem fd_RX8_323 : 55 < 66 ∧ Cond.fieldLink RX8 323 (TX8 55).1 (TX8 55).2.1 (TX8 55).2.2.1 ∈ aBIG := ⟨by decide, bw1022⟩
theorem fd_RX8_336 : 32 < 66 ∧ Cond.fieldLink RX8 336 (TX8 32).1 (TX8 32).2.1 (TX8 32).2.2.1 ∈ aBIG := ⟨by decide, bw999⟩
theorem fd_RX8_401 : 50 < 66 ∧ Cond.fieldLink RX8 401 (TX8 50).1 (TX8 50).2.1 (TX8 50).2.2.1 ∈ aBIG := ⟨by decide, bw1017⟩
theorem fd_RX8_404 : 51 < 66 ∧ Cond.fieldLink RX8 404 (TX8 51).1 (TX8 51).2.1 (TX8 51).2.2.1 ∈ aBIG := ⟨by decide, bw1018⟩
theorem fd_RX8_407 : 52 < 66 ∧ Cond.fieldLink RX8 407 (TX8 52).1 (TX8 52).2.1 (TX8 52).2.2.1 ∈ aBIG := ⟨by decide, bw1019⟩
theorem fd_RX8_413 : 57 < 66 ∧ Cond.fieldLink RX8 413 (TX8 57).1 (TX8 57).2.1 (TX8 57).2.2.1 ∈ aBIG := ⟨by decide, bw1024⟩
theorem fd_RX8_417 : 56 < 66 ∧ Cond.fieldLink RX8 417 (TX8 56).1 (TX8 56).2.1 (TX8 56).2.2.1 ∈ aBIG := ⟨by decide, bw1023⟩
theorem fd_RX8_519 : 65 < 66 ∧ Cond.fieldLink RX8 519 (TX8 65).1 (TX8 65).2.1 (TX8 65).2.2.1 ∈ aBIG := ⟨by decide, bw1032⟩
theorem fd_RX8_522 : 64 < 66 ∧ Cond.fieldLink RX8 522 (TX8 64).1 (TX8 64).2.1 (TX8 64).2.2.1 ∈ aBIG := ⟨by decide, bw1031⟩
theorem ex_ne {x : aM} {a k n : Nat} {v : Int32} (h : n ≠ a) : ex (mW x a k v) n = ex x n := by
  unfold ex
  have e : (mW x a k v).1 n = x.1 n := by
    funext q
    show (if n = a ∧ q = k then v else x.1 n q) = _
    rw [if_neg (fun z => h z.1)]
  rw [e]
  rfl
theorem mW_row (x : aM) (a k : Nat) (v : Int32) : (mW x a k v).1 a = upd (x.1 a) k v := by
  funext q
  show (if a = a ∧ q = k then v else x.1 a q) = upd _ _ _ q
  by_cases hq : q = k
  · rw [if_pos ⟨rfl, hq⟩]; simp [upd, hq]
  · rw [if_neg (fun z => hq z.2)]; simp [upd, hq]
theorem mW_2 (x : aM) (a k : Nat) (v : Int32) : (mW x a k v).2 = x.2 := rfl
theorem aCan.mW {x : aM} (h : aCan x) {a k : Nat} (v : Int32) (hk : k < (sh a).2) : aCan (mW x a k v) := by
  intro n q hq
  show (if n = a ∧ q = k then v else x.1 n q) = 0
  by_cases z : n = a ∧ q = k
  · obtain ⟨rfl, rfl⟩ := z
    omega
  · rw [if_neg z]
    exact h n q hq
theorem aRS.put {G : aG} {x : aM} {H1 : Heap} {a k : Nat} {v : Int32} {e : va_E} (hc : aCan x) (hk : k < (sh a).2) (he : exC (sh a).1 (sh a).2 a (upd (x.1 a) k v) (x.2 a) = e) (h : aR0 G (va_up (ex x) a e, aN) H1) : aRS G (mW x a k v) H1 := by
  refine ⟨?_, hc.mW v hk⟩
  have e2 : ex (mW x a k v) = va_up (ex x) a e := by
    funext n
    by_cases hn : n = a
    · subst hn
      simp only [va_up, if_pos rfl]
      rw [← he]
      unfold ex
      rw [mW_row]
      rfl
    · simp only [va_up, if_neg hn]
      exact ex_ne hn
  rw [e2]
  exact h
theorem ex_kind {x : aM} {a t : Nat} (h : (sh a).1 = t) : ex x a = exC t (sh a).2 a (x.1 a) (x.2 a) := by
  unfold ex
  rw [h]
theorem fits_of_zN {G : aG} {v : Int32} (h : narrow .boolean (aV G (.int v)) = aV G (.int v)) : fits .boolean (aV G (.int v)) = true := by
  have h1 : v &&& 1 = v := by simpa [aV, narrow] using h
  obtain ⟨j, hj, e⟩ := pk_andE v (m := 1) 1 (by decide)
  rw [h1] at e
  rcases (show j = 0 ∨ j = 1 by omega) with rfl | rfl
  · rw [e]; rfl
  · rw [e]; rfl
section AM4
variable {G : aG} {l : Launch} {d : Nat} {mm : aMM} {c b : Nat} {Q : Option Value → aM → Prop} {pc : Nat} {K : aP aM}
def i_getI (t k : Nat) (K : aP aM) : aP aM
  | ls, .ref a :: r, x => (sh a).1 = t ∧ K ls (.int (x.1 a k) :: r) x
  | _, _, _ => False
def i_getR (t off : Nat) (K : aP aM) : aP aM
  | ls, .ref a :: r, x => (sh a).1 = t ∧ K ls (.ref (a + off) :: r) x
  | _, _, _ => False
def i_putI (t k : Nat) (K : aP aM) : aP aM
  | ls, .int v :: .ref a :: r, x => ((sh a).1 = t ∧ k < (sh a).2) ∧ K ls r (mW x a k v)
  | _, _, _ => False
def i_putZ (t k : Nat) (K : aP aM) : aP aM
  | ls, .int v :: .ref a :: r, x => (((sh a).1 = t ∧ k < (sh a).2) ∧ narrow .boolean (.int v) = .int v) ∧ K ls r (mW x a k v)
  | _, _, _ => False
def i_iald (K : aP aM) : aP aM
  | ls, .int i :: .ref a :: r, x => ((sh a).1 = 11 ∧ vp_in i (sh a).2) ∧ K ls (.int (x.1 a i.toNatClampNeg) :: r) x
  | _, _, _ => False
def i_bald (K : aP aM) : aP aM
  | ls, .int i :: .ref a :: r, x => ((sh a).1 = 12 ∧ vp_in i (sh a).2) ∧ K ls (.int (x.1 a i.toNatClampNeg) :: r) x
  | _, _, _ => False
def i_zald (K : aP aM) : aP aM
  | ls, .int i :: .ref a :: r, x => ((sh a).1 = 14 ∧ vp_in i (sh a).2) ∧ K ls (.int (x.1 a i.toNatClampNeg) :: r) x
  | _, _, _ => False
def i_lald (K : aP aM) : aP aM
  | ls, .int i :: .ref a :: r, x => ((sh a).1 = 13 ∧ vp_in i (sh a).2) ∧ K ls (.long (x.2 a i.toNatClampNeg) :: r) x
  | _, _, _ => False
def i_iast (K : aP aM) : aP aM
  | ls, .int v :: .int i :: .ref a :: r, x => ((sh a).1 = 11 ∧ vp_in i (sh a).2) ∧ K ls r (mW x a i.toNatClampNeg v)
  | _, _, _ => False
def i_bast (K : aP aM) : aP aM
  | ls, .int v :: .int i :: .ref a :: r, x => ((sh a).1 = 12 ∧ vp_in i (sh a).2) ∧ K ls r (mW x a i.toNatClampNeg v.toInt8.toInt32)
  | _, _, _ => False
def i_zast (K : aP aM) : aP aM
  | ls, .int v :: .int i :: .ref a :: r, x => (((sh a).1 = 14 ∧ vp_in i (sh a).2) ∧ narrow .boolean (.int v) = .int v) ∧ K ls r (mW x a i.toNatClampNeg v)
  | _, _, _ => False
def i_last (K : aP aM) : aP aM
  | ls, .long v :: .int i :: .ref a :: r, x => ((sh a).1 = 13 ∧ vp_in i (sh a).2) ∧ K ls r (mL x a i.toNatClampNeg v)
  | _, _, _ => False
def i_aldR (K : aP aM) : aP aM
  | ls, .int i :: .ref a :: r, x => ((sh a).1 = 15 ∧ vp_in i (sh a).2) ∧ K ls (.ref (a + 183 + 3 * i.toNatClampNeg) :: r) x
  | _, _, _ => False
def i_aldW (K : aP aM) : aP aM
  | ls, .int i :: .ref a :: r, x => ((sh a).1 = 16 ∧ vp_in i (sh a).2) ∧ K ls (.ref (a + 30 + 161 * i.toNatClampNeg) :: r) x
  | _, _, _ => False
def i_aldP (K : aP aM) : aP aM
  | ls, .int i :: .ref a :: r, x => ((sh a).1 = 17 ∧ vp_in i (sh a).2) ∧ K ls (.ref (a + 4 + 7 * (x.1 a i.toNatClampNeg).toNatClampNeg) :: r) x
  | _, _, _ => False
def i_astP (K : aP aM) : aP aM
  | ls, .ref v :: .int i :: .ref a :: r, x => ((sh a).1 = 17 ∧ vp_in i (sh a).2) ∧ ∃ j : Nat, (j < 2 ^ 31 ∧ v = a + 4 + 7 * j ∧ (sh v).1 = 1) ∧ K ls r (mW x a i.toNatClampNeg (nI j))
  | _, _, _ => False
def i_alen (K : aP aM) : aP aM
  | ls, .ref a :: r, x => (10 < (sh a).1 ∧ (sh a).1 < 15) ∧ K ls (.int (nI (sh a).2) :: r) x
  | _, _, _ => False
def i_copy (K : aP aM) : aP aM
  | ls, .int n :: .int z :: .ref q :: .int y :: .ref p :: r, x => ((z = 0 ∧ y = 0) ∧ ((sh p).1 = 11 ∧ (sh q).1 = 11) ∧ (sh p).2 = (sh q).2 ∧ (sh q).2 < 2 ^ 31 ∧ n = nI (sh q).2) ∧ (r = [] ∧ K ls r (mR x q (x.1 p)))
  | _, _, _ => False
theorem aN_le : aN ≤ 1000000 := by decide
theorem s_getI {ix k N ci : Nat} {Cn : String} {T : u_T} {tyf : Nat → FieldType} {ty : FieldType} (hC : aCl ci Cn T N) (hF : k < N ∧ Cond.fieldLink mm.1.cls ix (T k).1 (T k).2.1 (T k).2.2.1 ∈ aBIG) (hI : aFI ci k T tyf ty) (h7 : ci < 7) (hd : decode mm.2.1 pc = .ok (.getfield ix, 3)) (h : aS (aRS G) G l d mm c b Q (pc + 3) K) : aS (aRS G) G l d mm c b Q pc (i_getI ci k K) := by
  intro ls st x hk p e R s m args below meth cd QQ P H locs arr cells slots hp hl
  unfold i_getI at hk
  split at hk
  · rename_i a r
    have ha := sh_lt hk.1 (by omega)
    exact w_getf (x := (ex x, aN)) P.1 hC hF hp.2.2.1.1 ha (by show ex x a = _; rw [ex_kind hk.1, exC, if_pos h7]) (hI.1 _ _) hd (h _ _ _ hk.2 _ _ _ _ _ _ _ _ _ _ P _ _ _ _ _ hp hl)
  · exact hk.elim
theorem s_getR {ix k N ci off : Nat} {Cn : String} {T : u_T} (hC : aCl ci Cn T N) (hF : k < N ∧ Cond.fieldLink mm.1.cls ix (T k).1 (T k).2.1 (T k).2.2.1 ∈ aBIG) (hI : ∀ n i, (exF ci n i)[k]? = some (.ref (n + off))) (h7 : ci < 7) (hd : decode mm.2.1 pc = .ok (.getfield ix, 3)) (h : aS (aRS G) G l d mm c b Q (pc + 3) K) : aS (aRS G) G l d mm c b Q pc (i_getR ci off K) := by
  intro ls st x hk p e R s m args below meth cd QQ P H locs arr cells slots hp hl
  unfold i_getR at hk
  split at hk
  · rename_i a r
    have ha := sh_lt hk.1 (by omega)
    exact w_getf (x := (ex x, aN)) P.1 hC hF hp.2.2.1.1 ha (by show ex x a = _; rw [ex_kind hk.1, exC, if_pos h7]) (hI _ _) hd (h _ _ _ hk.2 _ _ _ _ _ _ _ _ _ _ P _ _ _ _ _ hp hl)
  · exact hk.elim
theorem s_putI {ix k N ci : Nat} {Cn : String} {T : u_T} {tyf : Nat → FieldType} (hC : aCl ci Cn T N) (hF : k < N ∧ Cond.fieldLink mm.1.cls ix (T k).1 (T k).2.1 (T k).2.2.1 ∈ aBIG) (hI : aFI ci k T tyf .int) (hty : ∀ j, j < N → parseFieldDescriptor (T j).2.2.1 = some (tyf j)) (hnm : ∀ i, i < N → ∀ j, j < N → i ≠ j → (T i).2.1 ≠ (T j).2.1) (h7 : ci < 7) (hd : decode mm.2.1 pc = .ok (.putfield ix, 3)) (h : aS (aRS G) G l d mm c b Q (pc + 3) K) : aS (aRS G) G l d mm c b Q pc (i_putI ci k K) := by
  intro ls st x hk p e R s m args below meth cd QQ P H locs arr cells slots hp hl
  unfold i_putI at hk
  split at hk
  · rename_i v a r
    have ha := sh_lt hk.1.1 (by omega)
    refine w_putf (x := (ex x, aN)) (v := .int v) (ty := .int) P.1 hC hF hty hnm (Or.inl hI.2.2.2.1) (by rw [hty k hF.1, hI.2.2.1]) rfl rfl (hI.2.2.2.2 a (x.1 a)) hp.2.2.1.1 hp.2.2.2 ha (by show ex x a = _; rw [ex_kind hk.1.1, exC, if_pos h7]) hd fun H1 locs1 hr hS => ?_
    refine h _ _ _ hk.2 _ _ _ _ _ _ _ _ _ _ P _ _ _ _ _ ⟨hp.1, hp.2.1, aRS.put hp.2.2.1.2 hk.1.2 ?_ hr, hS⟩ hl
    rw [hk.1.1, exC, if_pos h7, hI.2.1]
  · exact hk.elim
theorem s_putZ {ix k N ci : Nat} {Cn : String} {T : u_T} {tyf : Nat → FieldType} (hC : aCl ci Cn T N) (hF : k < N ∧ Cond.fieldLink mm.1.cls ix (T k).1 (T k).2.1 (T k).2.2.1 ∈ aBIG) (hI : aFI ci k T tyf .boolean) (hty : ∀ j, j < N → parseFieldDescriptor (T j).2.2.1 = some (tyf j)) (hnm : ∀ i, i < N → ∀ j, j < N → i ≠ j → (T i).2.1 ≠ (T j).2.1) (h7 : ci < 7) (hd : decode mm.2.1 pc = .ok (.putfield ix, 3)) (h : aS (aRS G) G l d mm c b Q (pc + 3) K) : aS (aRS G) G l d mm c b Q pc (i_putZ ci k K) := by
  intro ls st x hk p e R s m args below meth cd QQ P H locs arr cells slots hp hl
  unfold i_putZ at hk
  split at hk
  · rename_i v a r
    have ha := sh_lt hk.1.1.1 (by omega)
    refine w_putf (x := (ex x, aN)) (v := .int v) (ty := .boolean) P.1 hC hF hty hnm (Or.inl hI.2.2.2.1) (by rw [hty k hF.1, hI.2.2.1]) hk.1.2 (fits_of_zN hk.1.2) (hI.2.2.2.2 a (x.1 a)) hp.2.2.1.1 hp.2.2.2 ha (by show ex x a = _; rw [ex_kind hk.1.1.1, exC, if_pos h7]) hd fun H1 locs1 hr hS => ?_
    refine h _ _ _ hk.2 _ _ _ _ _ _ _ _ _ _ P _ _ _ _ _ ⟨hp.1, hp.2.1, aRS.put hp.2.2.1.2 hk.1.1.2 ?_ hr, hS⟩ hl
    rw [hk.1.1.1, exC, if_pos h7, hI.2.1]
  · exact hk.elim
theorem s_iald (hd : decode mm.2.1 pc = .ok (.iaload, 1)) (h : aS (aRS G) G l d mm c b Q (pc + 1) K) : aS (aRS G) G l d mm c b Q pc (i_iald K) := by
  intro ls st x hk p e R s m args below meth cd QQ P H locs arr cells slots hp hl
  unfold i_iald at hk
  split at hk
  · rename_i i a r
    exact w_iald (x := (ex x, aN)) P.1 hp.2.2.1.1 (sh_lt hk.1.1 (by omega)) (by show ex x a = _; rw [ex_kind hk.1.1]; rfl) hk.1.2 hd (h _ _ _ hk.2 _ _ _ _ _ _ _ _ _ _ P _ _ _ _ _ hp hl)
  · exact hk.elim
theorem s_bald (hd : decode mm.2.1 pc = .ok (.baload, 1)) (h : aS (aRS G) G l d mm c b Q (pc + 1) K) : aS (aRS G) G l d mm c b Q pc (i_bald K) := by
  intro ls st x hk p e R s m args below meth cd QQ P H locs arr cells slots hp hl
  unfold i_bald at hk
  split at hk
  · rename_i i a r
    exact w_bald (x := (ex x, aN)) P.1 hp.2.2.1.1 (sh_lt hk.1.1 (by omega)) (by show ex x a = _; rw [ex_kind hk.1.1]; rfl) hk.1.2 hd (h _ _ _ hk.2 _ _ _ _ _ _ _ _ _ _ P _ _ _ _ _ hp hl)
  · exact hk.elim
theorem s_zald (hd : decode mm.2.1 pc = .ok (.baload, 1)) (h : aS (aRS G) G l d mm c b Q (pc + 1) K) : aS (aRS G) G l d mm c b Q pc (i_zald K) := by
  intro ls st x hk p e R s m args below meth cd QQ P H locs arr cells slots hp hl
  unfold i_zald at hk
  split at hk
  · rename_i i a r
    exact w_zald (x := (ex x, aN)) P.1 hp.2.2.1.1 (sh_lt hk.1.1 (by omega)) (by show ex x a = _; rw [ex_kind hk.1.1]; rfl) hk.1.2 hd (h _ _ _ hk.2 _ _ _ _ _ _ _ _ _ _ P _ _ _ _ _ hp hl)
  · exact hk.elim
theorem s_lald (hd : decode mm.2.1 pc = .ok (.laload, 1)) (h : aS (aRS G) G l d mm c b Q (pc + 1) K) : aS (aRS G) G l d mm c b Q pc (i_lald K) := by
  intro ls st x hk p e R s m args below meth cd QQ P H locs arr cells slots hp hl
  unfold i_lald at hk
  split at hk
  · rename_i i a r
    exact w_lald (x := (ex x, aN)) P.1 hp.2.2.1.1 (sh_lt hk.1.1 (by omega)) (by show ex x a = _; rw [ex_kind hk.1.1]; rfl) hk.1.2 hd (h _ _ _ hk.2 _ _ _ _ _ _ _ _ _ _ P _ _ _ _ _ hp hl)
  · exact hk.elim
theorem vp_in_lt {i : Int32} {n : Nat} (h : vp_in i n) : i.toNatClampNeg < n := Nat.not_le.mp fun q => h (Or.inr q)
theorem s_iast (hd : decode mm.2.1 pc = .ok (.iastore, 1)) (h : aS (aRS G) G l d mm c b Q (pc + 1) K) : aS (aRS G) G l d mm c b Q pc (i_iast K) := by
  intro ls st x hk p e R s m args below meth cd QQ P H locs arr cells slots hp hl
  unfold i_iast at hk
  split at hk
  · rename_i v i a r
    refine w_iast (x := (ex x, aN)) P.1 hp.2.2.1.1 hp.2.2.2 (sh_lt hk.1.1 (by omega)) (by show ex x a = _; rw [ex_kind hk.1.1]; rfl) hk.1.2 hd fun H1 locs1 hr hS => ?_
    exact h _ _ _ hk.2 _ _ _ _ _ _ _ _ _ _ P _ _ _ _ _ ⟨hp.1, hp.2.1, aRS.put hp.2.2.1.2 (vp_in_lt hk.1.2) (by rw [hk.1.1]; rfl) hr, hS⟩ hl
  · exact hk.elim
theorem s_bast (hd : decode mm.2.1 pc = .ok (.bastore, 1)) (h : aS (aRS G) G l d mm c b Q (pc + 1) K) : aS (aRS G) G l d mm c b Q pc (i_bast K) := by
  intro ls st x hk p e R s m args below meth cd QQ P H locs arr cells slots hp hl
  unfold i_bast at hk
  split at hk
  · rename_i v i a r
    refine w_bast (x := (ex x, aN)) P.1 hp.2.2.1.1 hp.2.2.2 (sh_lt hk.1.1 (by omega)) (by show ex x a = _; rw [ex_kind hk.1.1]; rfl) hk.1.2 hd fun H1 locs1 hr hS => ?_
    exact h _ _ _ hk.2 _ _ _ _ _ _ _ _ _ _ P _ _ _ _ _ ⟨hp.1, hp.2.1, aRS.put hp.2.2.1.2 (vp_in_lt hk.1.2) (by rw [hk.1.1]; rfl) hr, hS⟩ hl
  · exact hk.elim
theorem s_zast (hd : decode mm.2.1 pc = .ok (.bastore, 1)) (h : aS (aRS G) G l d mm c b Q (pc + 1) K) : aS (aRS G) G l d mm c b Q pc (i_zast K) := by
  intro ls st x hk p e R s m args below meth cd QQ P H locs arr cells slots hp hl
  unfold i_zast at hk
  split at hk
  · rename_i v i a r
    refine w_zast (x := (ex x, aN)) P.1 hp.2.2.1.1 hp.2.2.2 (sh_lt hk.1.1.1 (by omega)) (by show ex x a = _; rw [ex_kind hk.1.1.1]; rfl) hk.1.1.2 hk.1.2 hd fun H1 locs1 hr hS => ?_
    exact h _ _ _ hk.2 _ _ _ _ _ _ _ _ _ _ P _ _ _ _ _ ⟨hp.1, hp.2.1, aRS.put hp.2.2.1.2 (vp_in_lt hk.1.1.2) (by rw [hk.1.1.1]; rfl) hr, hS⟩ hl
  · exact hk.elim
theorem s_last (hd : decode mm.2.1 pc = .ok (.lastore, 1)) (h : aS (aRS G) G l d mm c b Q (pc + 1) K) : aS (aRS G) G l d mm c b Q pc (i_last K) := by
  intro ls st x hk p e R s m args below meth cd QQ P H locs arr cells slots hp hl
  unfold i_last at hk
  split at hk
  · rename_i v i a r
    refine w_last (x := (ex x, aN)) P.1 hp.2.2.1.1 hp.2.2.2 (sh_lt hk.1.1 (by omega)) (by show ex x a = _; rw [ex_kind hk.1.1]; rfl) hk.1.2 hd fun H1 locs1 hr hS => ?_
    refine h _ _ _ hk.2 _ _ _ _ _ _ _ _ _ _ P _ _ _ _ _ ⟨hp.1, hp.2.1, ⟨?_, hp.2.2.1.2⟩, hS⟩ hl
    have e2 : ex (mL x a i.toNatClampNeg v) = va_up (ex x) a (.inl (3, (sh a).2, .inr (.inl (vp_updL (x.2 a) i.toNatClampNeg v)))) := by
      funext n
      by_cases hn : n = a
      · subst hn
        simp only [va_up, if_pos rfl]
        rw [ex_kind hk.1.1]
        show (Sum.inl (3, (sh n).2, Sum.inr (Sum.inl ((mL x n i.toNatClampNeg v).2 n))) : va_E) = _
        congr 5
        funext q
        show (if n = n ∧ q = _ then v else x.2 n q) = vp_updL _ _ _ q
        by_cases hq : q = i.toNatClampNeg
        · rw [if_pos ⟨rfl, hq⟩]; simp [vp_updL, hq]
        · rw [if_neg (fun z => hq z.2)]; simp [vp_updL, hq]
      · simp only [va_up, if_neg hn]
        unfold ex
        have e3 : (mL x a i.toNatClampNeg v).2 n = x.2 n := by
          funext q
          show (if n = a ∧ q = _ then v else x.2 n q) = _
          rw [if_neg (fun z => hn z.1)]
        rw [e3]
        rfl
    rw [e2]
    exact hr
  · exact hk.elim
theorem s_aldR (hd : decode mm.2.1 pc = .ok (.aaload, 1)) (h : aS (aRS G) G l d mm c b Q (pc + 1) K) : aS (aRS G) G l d mm c b Q pc (i_aldR K) := by
  intro ls st x hk p e R s m args below meth cd QQ P H locs arr cells slots hp hl
  unfold i_aldR at hk
  split at hk
  · rename_i i a r
    exact w_aald (x := (ex x, aN)) (t := 4) (f := fun k => some (a + 183 + 3 * k)) P.1 rfl hp.2.2.1.1 (sh_lt hk.1.1 (by omega)) (by show ex x a = _; rw [ex_kind hk.1.1]; rfl) hk.1.2 hd (h _ _ _ hk.2 _ _ _ _ _ _ _ _ _ _ P _ _ _ _ _ hp hl)
  · exact hk.elim
theorem s_aldW (hd : decode mm.2.1 pc = .ok (.aaload, 1)) (h : aS (aRS G) G l d mm c b Q (pc + 1) K) : aS (aRS G) G l d mm c b Q pc (i_aldW K) := by
  intro ls st x hk p e R s m args below meth cd QQ P H locs arr cells slots hp hl
  unfold i_aldW at hk
  split at hk
  · rename_i i a r
    exact w_aald (x := (ex x, aN)) (t := 5) (f := fun k => some (a + 30 + 161 * k)) P.1 rfl hp.2.2.1.1 (sh_lt hk.1.1 (by omega)) (by show ex x a = _; rw [ex_kind hk.1.1]; rfl) hk.1.2 hd (h _ _ _ hk.2 _ _ _ _ _ _ _ _ _ _ P _ _ _ _ _ hp hl)
  · exact hk.elim
theorem s_aldP (hd : decode mm.2.1 pc = .ok (.aaload, 1)) (h : aS (aRS G) G l d mm c b Q (pc + 1) K) : aS (aRS G) G l d mm c b Q pc (i_aldP K) := by
  intro ls st x hk p e R s m args below meth cd QQ P H locs arr cells slots hp hl
  unfold i_aldP at hk
  split at hk
  · rename_i i a r
    exact w_aald (x := (ex x, aN)) (t := 6) (f := fun k => some (a + 4 + 7 * (x.1 a k).toNatClampNeg)) P.1 rfl hp.2.2.1.1 (sh_lt hk.1.1 (by omega)) (by show ex x a = _; rw [ex_kind hk.1.1]; rfl) hk.1.2 hd (h _ _ _ hk.2 _ _ _ _ _ _ _ _ _ _ P _ _ _ _ _ hp hl)
  · exact hk.elim
theorem s_astP (hd : decode mm.2.1 pc = .ok (.aastore, 1)) (h : aS (aRS G) G l d mm c b Q (pc + 1) K) : aS (aRS G) G l d mm c b Q pc (i_astP K) := by
  intro ls st x hk p e R s m args below meth cd QQ P H locs arr cells slots hp hl
  unfold i_astP at hk
  split at hk
  · rename_i v i a r
    obtain ⟨hk1, j, ⟨hj, hv, hsv⟩, hk2⟩ := hk
    refine w_aast (x := (ex x, aN)) (t := 6) (ci := 1) P.1 rfl rfl hp.2.2.1.1 hp.2.2.2 (sh_lt hk1.1 (by omega)) (by show ex x a = _; rw [ex_kind hk1.1]; rfl) (sh_lt hsv (by omega)) (by show ex x v = _; rw [ex_kind hsv]; rfl) hk1.2 hd fun H1 locs1 hr hS => ?_
    refine h _ _ _ hk2 _ _ _ _ _ _ _ _ _ _ P _ _ _ _ _ ⟨hp.1, hp.2.1, aRS.put hp.2.2.1.2 (vp_in_lt hk1.2) ?_ hr, hS⟩ hl
    rw [hk1.1]
    show (Sum.inl (7, (sh a).2, _) : va_E) = _
    congr 7
    funext q
    by_cases hq : q = i.toNatClampNeg
    · subst hq
      simp only [upd, va_up, if_true]
      rw [nI_clamp hj, hv]
    · simp only [upd, va_up, if_neg hq]
  · exact hk.elim
theorem s_alen (hd : decode mm.2.1 pc = .ok (.arraylength, 1)) (h : aS (aRS G) G l d mm c b Q (pc + 1) K) : aS (aRS G) G l d mm c b Q pc (i_alen K) := by
  intro ls st x hk p e R s m args below meth cd QQ P H locs arr cells slots hp hl
  unfold i_alen at hk
  split at hk
  · rename_i a r
    have ha : a < aN := sh_lt rfl (by omega)
    have k := h _ _ _ hk.2 _ _ _ _ _ _ _ _ _ _ P _ _ _ _ _ hp hl
    rcases (show (sh a).1 = 11 ∨ (sh a).1 = 12 ∨ (sh a).1 = 13 ∨ (sh a).1 = 14 by omega) with e1 | e1 | e1 | e1
    · exact w_alen (x := (ex x, aN)) (t := 0) P.1 rfl hp.2.2.1.1 ha (by show ex x a = _; rw [ex_kind e1]; rfl) hd k
    · exact w_alen (x := (ex x, aN)) (t := 1) P.1 rfl hp.2.2.1.1 ha (by show ex x a = _; rw [ex_kind e1]; rfl) hd k
    · exact w_alen (x := (ex x, aN)) (t := 2) P.1 rfl hp.2.2.1.1 ha (by show ex x a = _; rw [ex_kind e1]; rfl) hd k
    · exact w_alen (x := (ex x, aN)) (t := 3) P.1 rfl hp.2.2.1.1 ha (by show ex x a = _; rw [ex_kind e1]; rfl) hd k
  · exact hk.elim
theorem s_copy {ix : Nat} (hw : Cond.methodLink mm.1.cls ix arraycopyName ∈ aBIG) (hnat : Cond.native arraycopyName ∈ aBIG) (hstat : Cond.static arraycopyName ∈ aBIG) (hini : Cond.initialized "java/lang/System" ∈ aBIG) (hd : decode mm.2.1 pc = .ok (.invokestatic ix, 3)) (h : aS (aRS G) G l d mm c b Q (pc + 3) K) : aS (aRS G) G l d mm c b Q pc (i_copy K) := by
  intro ls st x hk p e R s m args below meth cd QQ P H locs arr cells slots hp hl
  unfold i_copy at hk
  split at hk
  · rename_i n z q y pp r
    obtain ⟨⟨⟨rfl, rfl⟩, ⟨h1, h2⟩, h3, h4, h5⟩, hr0, hk⟩ := hk
    subst hr0
    have hz : (0 : Int32).toNatClampNeg = 0 := by decide
    have hn : n.toNatClampNeg = (sh q).2 := by rw [h5]; exact nI_clamp h4
    refine w_copy (x := (ex x, aN)) (rest := []) P.1 ?_ hw hnat hstat hini hp.2.2.1.1 hp.2.2.2 (sh_lt h1 (by omega)) (by show ex x pp = _; rw [ex_kind h1]; rfl) (sh_lt h2 (by omega)) (by show ex x q = _; rw [ex_kind h2]; rfl) (by decide) (by decide) (by rw [h5]; exact nI_pos h4) (by rw [hz, hn]; omega) (by rw [hz, hn]; omega) (by have := P.2.1; omega) (Nat.le_trans (show (([] : List Value).map fun v => v.category).sum + (nativeFrameWords "java/lang/System" "arraycopy" 5 + 11) ≤ 60 by decide +kernel) (by have := P.2.1.2; omega)) hd fun H1 locs1 hr hS => ?_
    · rw [hl.size, P.1.ml]
    · refine h _ _ _ hk _ _ _ _ _ _ _ _ _ _ P _ _ _ _ _ ⟨hp.1, hp.2.1, ⟨?_, ?_⟩, hS⟩ hl
      · have e2 : ex (mR x q (x.1 pp)) = va_up (ex x) q (.inl (1, (sh q).2, .inl (va_cpy (x.1 pp) (x.1 q) (0 : Int32).toNatClampNeg (0 : Int32).toNatClampNeg n.toNatClampNeg))) := by
          funext j
          by_cases hj : j = q
          · subst hj
            simp only [va_up, if_pos rfl]
            rw [ex_kind h2]
            show (Sum.inl (1, (sh j).2, Sum.inl ((mR x j (x.1 pp)).1 j)) : va_E) = _
            congr 4
            funext i
            show (if j = j then x.1 pp i else x.1 j i) = _
            rw [if_pos rfl, hz, hn]
            unfold va_cpy
            by_cases hi : 0 ≤ i ∧ i < 0 + (sh j).2
            · rw [if_pos hi]
              show x.1 pp i = x.1 pp (0 + (i - 0))
              rw [Nat.sub_zero, Nat.zero_add]
            · rw [if_neg hi, hp.2.2.1.2 pp i (by omega), hp.2.2.1.2 j i (by omega)]
          · simp only [va_up, if_neg hj]
            unfold ex
            have e3 : (mR x q (x.1 pp)).1 j = x.1 j := by
              funext i
              show (if j = q then x.1 pp i else x.1 j i) = _
              rw [if_neg hj]
            rw [e3]
            rfl
        rw [e2]
        exact hr
      · intro j i hi
        show (if j = q then x.1 pp i else x.1 j i) = 0
        by_cases hj : j = q
        · rw [if_pos hj]
          subst hj
          exact hp.2.2.1.2 pp i (by omega)
        · rw [if_neg hj]
          exact hp.2.2.1.2 j i hi
  · exact hk.elim
end AM4

