/-! what the minutes do, over states as rows of ints. A state S: row 0 holds minute (0), struck (5), away (8), met now (9), lost now (10); rows 1 where things lie, 2 where cats are, 3 what they are on, 4 what they know, 5 met, 6 lost. A told room T: row 0 length, things, cats, needs; rows 1 place, 2 worth; 3 place, 4 pace, 5 knows; 6 thing, 7 every, 8 at -/
abbrev aSS : Type := Nat → Nat → Int32
def up2 (S : aSS) (j k : Nat) (v : Int32) : aSS := fun a b => if a = j ∧ b = k then v else S a b
abbrev tn (z : Int32) : Nat := z.toNatClampNeg
abbrev bitS (z : Int32) (k : Nat) : Prop := ¬ (z >>> (nI k &&& 31)) &&& 1 = 0
abbrev dueS (T S : aSS) (k : Nat) (w : Int32) : Prop := ¬ bitS (S 0 5) k ∧ a_irem w (T 7 k) = T 8 k
def shlS (k : Nat) : Int32 := 1 <<< (nI k &&& 31)
def catsOnS (C : Nat) (co : Nat → Int32) (t : Int32) : Int32 := lp (fun k a => if co k = t then a ||| shlS k else a) C 0
def metOfS (nT met : Nat → Int32) (t : Int32) (N : Nat) : Int32 := lp (fun k a => a + if nT k = t then met k else 0) N 0
def sumS (f : Nat → Int32) (N : Nat) : Int32 := lp (fun k a => a + f k) N 0
def dueNowS (T S : aSS) (N : Nat) : Int32 := lp (fun k a => if dueS T S k (S 0 0) then a ||| shlS k else a) N 0
def waitS (T S : aSS) (k : Nat) : Int32 := if T 8 k - a_irem (S 0 0) (T 7 k) < 0 then T 8 k - a_irem (S 0 0) (T 7 k) + T 7 k else T 8 k - a_irem (S 0 0) (T 7 k)
def dueInS (T S : aSS) (t : Int32) (N : Nat) : Int32 := lp (fun k a => if T 6 k = t ∧ ¬ bitS (S 0 5) k then (if waitS T S k < a then waitS T S k else a) else a) N 99
/-- the thing of the least need from the last j of N on that is due in minute w -/
def foreS (T S : aSS) (w : Int32) (N : Nat) : Nat → Int32
  | 0 => -1
  | j + 1 => if dueS T S (N - (j + 1)) w then T 6 (N - (j + 1)) else foreS T S w N j
/-- Integer.bitCount, as its bytecode has it -/
def bc1 (x : Int32) : Int32 := x - (a_iushr x 1 &&& 1431655765)
def bc2 (x : Int32) : Int32 := (x &&& 858993459) + (a_iushr x 2 &&& 858993459)
def bc3 (x : Int32) : Int32 := (x + a_iushr x 4) &&& 252645135
def bc4 (x : Int32) : Int32 := x + a_iushr x 8
def bc5 (x : Int32) : Int32 := x + a_iushr x 16
def bitCountS (x : Int32) : Int32 := bc5 (bc4 (bc3 (bc2 (bc1 x)))) &&& 63
def farS (S : aSS) (t c : Nat) : Int32 := if 0 ≤ S 1 t - S 2 c then S 1 t - S 2 c else 0 - (S 1 t - S 2 c)
/-- what a rule's words are worth for cat c and thing t -/
def envI (T S : aSS) (c t : Nat) : Nat → Int32
  | 0 => nI c
  | 1 => nI t
  | 2 => farS S t c
  | 3 => dueInS T S (nI t) (tn (T 0 3))
  | 4 => S 4 c
  | 5 => T 4 c
  | 6 => T 2 t
  | 7 => bitCountS (catsOnS (tn (T 0 2)) (S 3) (nI t) &&& (shlS c ^^^ -1))
  | 8 => metOfS (T 6) (S 5) (nI t) (tn (T 0 3))
  | 9 => metOfS (T 6) (S 6) (nI t) (tn (T 0 3))
  | _ => S 0 0
def envS (T S : aSS) (c t : Nat) : Nat → Int64 := fun w => (envI T S c t w).toInt64
abbrev aRule : Type := (Nat → Int64) → Int64
def favS (f : aRule) (T S : aSS) (c : Nat) (N : Nat) : Int64 × Int32 := lp (fun k (a : Int64 × Int32) => if a.1 < f (envS T S c k) then (f (envS T S c k), nI k) else a) N (0, -1)
def chooseS (ru : Option aRule) (T S : aSS) (c : Nat) : Int32 := match ru with
  | none => foreS T S (S 0 0 + S 4 c) (tn (T 0 3)) (tn (T 0 3))
  | some f => (favS f T S c (tn (T 0 1))).2
def stepsS (T S : aSS) (c t : Nat) : Int32 := if T 4 c < farS S t c then T 4 c else farS S t c
def placeS (T S : aSS) (c t : Nat) : Int32 := S 2 c + if S 1 t - S 2 c < 0 then -(stepsS T S c t) else stepsS T S c t
def walkS (T S : aSS) (c : Nat) (t : Int32) : aSS := up2 (up2 S 2 c (placeS T S c (tn t))) 3 c (if placeS T S c (tn t) = S 1 (tn t) then t else -1)
def catS (ru : Option aRule) (T : aSS) (k : Nat) (S : aSS) : aSS := if nI k = S 0 8 then S else if chooseS ru T S k = -1 then S else walkS T S k (chooseS ru T S k)
def moreS (v : Int32) : Int32 := if 999 < v + 1 then 999 else v + 1
def settleS (T : aSS) (k : Nat) (S : aSS) : aSS :=
  if catsOnS (tn (T 0 2)) (S 3) (T 6 k) = 0 then up2 (up2 S 5 k (moreS (S 5 k))) 0 9 (S 0 9 ||| shlS k) else up2 (up2 S 6 k (moreS (S 6 k))) 0 10 (S 0 10 ||| shlS k)
def needS (T : aSS) (k : Nat) (S : aSS) : aSS := if dueS T S k (S 0 0) then settleS T k S else S
def catsS (ru : Option aRule) (T S : aSS) : aSS := lp (catS ru T) (tn (T 0 2)) S
def needsS (T S : aSS) : aSS := lp (needS T) (tn (T 0 3)) (up2 (up2 S 0 9 0) 0 10 0)
def passS (ru : Option aRule) (T S : aSS) : aSS := up2 (needsS T (catsS ru T S)) 0 0 (needsS T (catsS ru T S) 0 0 + 1)
def passN (ru : Option aRule) (T : aSS) (n : Nat) (S : aSS) : aSS := lp (fun _ S => passS ru T S) n S
def seg (I : aSS) (n : Nat) : aSS := fun j k => I (n + j) k
/-- where cats are and what they are on, as one number -/
def numS (S : aSS) (C : Nat) : Int32 := lp (fun k a => (a <<< ((8 : Int32) &&& 31)) ||| (S 2 k <<< ((3 : Int32) &&& 31)) ||| (S 3 k + 1)) C 0
/-- a told room as it can be told: its counts, its needs' things and minutes -/
def wfT (T : aSS) : Prop := (tn (T 0 1) ≤ 6 ∧ tn (T 0 2) ≤ 3 ∧ tn (T 0 3) ≤ 8) ∧ ∀ k, k < tn (T 0 3) → (0 ≤ (T 6 k).toInt ∧ (T 6 k).toInt < tn (T 0 1)) ∧ (1 ≤ (T 7 k).toInt ∧ (T 7 k).toInt ≤ 30) ∧ (0 ≤ (T 8 k).toInt ∧ (T 8 k).toInt < (T 7 k).toInt)
theorem pos_of_toInt {z : Int32} (h : 1 ≤ z.toInt) : 0 < z := by
  rw [Int32.lt_iff_toInt_lt]
  show (0 : Int) < z.toInt
  omega
theorem ne0_of_toInt {z : Int32} (h : 1 ≤ z.toInt) : ¬ z = 0 := by
  intro e
  rw [e] at h
  exact absurd h (by decide)
theorem in_of_toInt {z : Int32} {n N : Nat} (h : 0 ≤ z.toInt ∧ z.toInt < n) (hN : n ≤ N) : vp_in z N := vp_in_iff.mpr ⟨h.1, by omega⟩
/-- a State with these rows stands at n; a Told with these rows at t -/
def okS (n : Nat) (S : aSS) (x : aM) : Prop := isS n ∧ ((x.1 n 0 = S 0 0 ∧ x.1 n 5 = S 0 5 ∧ x.1 n 8 = S 0 8 ∧ x.1 n 9 = S 0 9 ∧ x.1 n 10 = S 0 10) ∧ x.1 (n + 1) = S 1 ∧ x.1 (n + 2) = S 2 ∧ x.1 (n + 3) = S 3 ∧ x.1 (n + 4) = S 4 ∧ x.1 (n + 5) = S 5 ∧ x.1 (n + 6) = S 6)
def okT (t : Nat) (T : aSS) (x : aM) : Prop := isT t ∧ ((x.1 t 0 = T 0 0 ∧ x.1 t 1 = T 0 1 ∧ x.1 t 2 = T 0 2 ∧ x.1 t 3 = T 0 3) ∧ x.1 (t + 1) = T 1 ∧ x.1 (t + 2) = T 2 ∧ x.1 (t + 3) = T 3 ∧ x.1 (t + 4) = T 4 ∧ x.1 (t + 5) = T 5 ∧ x.1 (t + 6) = T 6 ∧ x.1 (t + 7) = T 7 ∧ x.1 (t + 8) = T 8) ∧ wfT T
/-- another row -/
def rw2 (S : aSS) (j : Nat) (f : Nat → Int32) : aSS := fun a b => if a = j then f b else S a b
/-- ints with another State at n -/
def segP (I : aSS) (n : Nat) (S : aSS) : aSS := fun a b => if n < a ∧ a < n + 7 then S (a - n) b else if a = n ∧ (b = 0 ∨ b = 5 ∨ b = 8 ∨ b = 9 ∨ b = 10) then S 0 b else I a b
theorem sg_in {I S : aSS} {n j : Nat} (h : 0 < j ∧ j < 7) : segP I n S (n + j) = S j := by
  funext b
  unfold segP
  rw [if_pos (by omega), Nat.add_sub_cancel_left]
theorem sg_0k {I S : aSS} {n k : Nat} (h : k = 0 ∨ k = 5 ∨ k = 8 ∨ k = 9 ∨ k = 10) : segP I n S n k = S 0 k := by
  unfold segP
  rw [if_neg (by omega), if_pos ⟨rfl, h⟩]
theorem sg_0 {I S : aSS} {n : Nat} : segP I n S n 0 = S 0 0 ∧ segP I n S n 5 = S 0 5 ∧ segP I n S n 8 = S 0 8 ∧ segP I n S n 9 = S 0 9 ∧ segP I n S n 10 = S 0 10 := ⟨sg_0k (by omega), sg_0k (by omega), sg_0k (by omega), sg_0k (by omega), sg_0k (by omega)⟩
theorem sg_out {I S : aSS} {n a : Nat} (h : a < n ∨ n + 7 ≤ a) : segP I n S a = I a := by
  funext b
  unfold segP
  rw [if_neg (by omega), if_neg (by omega)]
theorem sg_up {I S : aSS} {L : Nat → Nat → Int64} {n j k : Nat} {v : Int32} (h : 0 < j ∧ j < 7) : mW (segP I n S, L) (n + j) k v = (segP I n (up2 S j k v), L) := by
  show ((fun p q => if p = n + j ∧ q = k then v else segP I n S p q), L) = _
  congr 1
  funext a b
  unfold segP up2
  by_cases ha : n < a ∧ a < n + 7
  · rw [if_pos ha, if_pos ha]
    by_cases hb : a = n + j ∧ b = k
    · rw [if_pos hb, if_pos (by omega)]
    · rw [if_neg hb, if_neg (by omega)]
  · rw [if_neg ha, if_neg ha, if_neg (by omega)]
    by_cases h0 : a = n ∧ (b = 0 ∨ b = 5 ∨ b = 8 ∨ b = 9 ∨ b = 10)
    · rw [if_pos h0, if_pos h0, if_neg (by omega)]
    · rw [if_neg h0, if_neg h0]
theorem sg_up0 {I S : aSS} {L : Nat → Nat → Int64} {n k : Nat} {v : Int32} (h : k = 0 ∨ k = 5 ∨ k = 8 ∨ k = 9 ∨ k = 10) : mW (segP I n S, L) n k v = (segP I n (up2 S 0 k v), L) := by
  show ((fun p q => if p = n ∧ q = k then v else segP I n S p q), L) = _
  congr 1
  funext a b
  unfold segP up2
  by_cases ha : n < a ∧ a < n + 7
  · rw [if_pos ha, if_pos ha, if_neg (by omega), if_neg (by omega)]
  · rw [if_neg ha, if_neg ha]
    by_cases h0 : a = n ∧ (b = 0 ∨ b = 5 ∨ b = 8 ∨ b = 9 ∨ b = 10)
    · rw [if_pos h0, if_pos h0]
      by_cases hb : b = k
      · rw [if_pos ⟨h0.1, hb⟩, if_pos ⟨rfl, hb⟩]
      · rw [if_neg (fun z => hb z.2), if_neg (fun z => hb z.2)]
    · rw [if_neg h0, if_neg h0, if_neg (fun (z : a = n ∧ b = k) => h0 ⟨z.1, z.2 ▸ h⟩)]
theorem sg_self {I : aSS} {n : Nat} : segP I n (seg I n) = I := by
  funext a b
  unfold segP seg
  by_cases ha : n < a ∧ a < n + 7
  · rw [if_pos ha, Nat.add_sub_cancel' (by omega)]
  · rw [if_neg ha]
    by_cases h0 : a = n ∧ (b = 0 ∨ b = 5 ∨ b = 8 ∨ b = 9 ∨ b = 10)
    · rw [if_pos h0, h0.1]
      rfl
    · rw [if_neg h0]
theorem sg_row {I S : aSS} {L : Nat → Nat → Int64} {n j : Nat} {f : Nat → Int32} (h : 0 < j ∧ j < 7) : mR (segP I n S, L) (n + j) f = (segP I n (rw2 S j f), L) := by
  show ((fun p q => if p = n + j then f q else segP I n S p q), L) = _
  congr 1
  funext a b
  unfold segP rw2
  by_cases ha : n < a ∧ a < n + 7
  · rw [if_pos ha, if_pos ha]
    by_cases hb : a = n + j
    · rw [if_pos hb, if_pos (by omega)]
    · rw [if_neg hb, if_neg (by omega)]
  · rw [if_neg ha, if_neg ha, if_neg (by omega)]
    by_cases h0 : a = n ∧ (b = 0 ∨ b = 5 ∨ b = 8 ∨ b = 9 ∨ b = 10)
    · rw [if_pos h0, if_pos h0, if_neg (by omega)]
    · rw [if_neg h0, if_neg h0]
theorem sg_eq {I S S' : aSS} {n : Nat} (h0 : ∀ k, (k = 0 ∨ k = 5 ∨ k = 8 ∨ k = 9 ∨ k = 10) → S 0 k = S' 0 k) (h : ∀ j, 0 < j → j < 7 → S j = S' j) : segP I n S = segP I n S' := by
  funext a b
  unfold segP
  by_cases ha : n < a ∧ a < n + 7
  · rw [if_pos ha, if_pos ha, h _ (by omega) (by omega)]
  · rw [if_neg ha, if_neg ha]
    by_cases hb : a = n ∧ (b = 0 ∨ b = 5 ∨ b = 8 ∨ b = 9 ∨ b = 10)
    · rw [if_pos hb, if_pos hb, h0 _ hb.2]
    · rw [if_neg hb, if_neg hb]
theorem sg_pp {I S S' : aSS} {n : Nat} : segP (segP I n S) n S' = segP I n S' := by
  funext a b
  unfold segP
  by_cases ha : n < a ∧ a < n + 7
  · rw [if_pos ha, if_pos ha]
  · rw [if_neg ha, if_neg ha]
    by_cases hb : a = n ∧ (b = 0 ∨ b = 5 ∨ b = 8 ∨ b = 9 ∨ b = 10)
    · simp only [if_pos hb, if_neg ha]
    · simp only [if_neg hb, if_neg ha]
/-- ints with another Told at n -/
def segQ (I : aSS) (n : Nat) (S : aSS) : aSS := fun a b => if n < a ∧ a < n + 9 then S (a - n) b else if a = n ∧ (b = 0 ∨ b = 1 ∨ b = 2 ∨ b = 3) then S 0 b else I a b
theorem tg_in {I S : aSS} {n j : Nat} (h : 0 < j ∧ j < 9) : segQ I n S (n + j) = S j := by
  funext b
  unfold segQ
  rw [if_pos (by omega), Nat.add_sub_cancel_left]
theorem tg_0k {I S : aSS} {n k : Nat} (h : k = 0 ∨ k = 1 ∨ k = 2 ∨ k = 3) : segQ I n S n k = S 0 k := by
  unfold segQ
  rw [if_neg (by omega), if_pos ⟨rfl, h⟩]
theorem tg_0 {I S : aSS} {n : Nat} : segQ I n S n 0 = S 0 0 ∧ segQ I n S n 1 = S 0 1 ∧ segQ I n S n 2 = S 0 2 ∧ segQ I n S n 3 = S 0 3 := ⟨tg_0k (by omega), tg_0k (by omega), tg_0k (by omega), tg_0k (by omega)⟩
theorem tg_out {I S : aSS} {n a : Nat} (h : a < n ∨ n + 9 ≤ a) : segQ I n S a = I a := by
  funext b
  unfold segQ
  rw [if_neg (by omega), if_neg (by omega)]
theorem tg_up {I S : aSS} {L : Nat → Nat → Int64} {n j k : Nat} {v : Int32} (h : 0 < j ∧ j < 9) : mW (segQ I n S, L) (n + j) k v = (segQ I n (up2 S j k v), L) := by
  show ((fun p q => if p = n + j ∧ q = k then v else segQ I n S p q), L) = _
  congr 1
  funext a b
  unfold segQ up2
  by_cases ha : n < a ∧ a < n + 9
  · rw [if_pos ha, if_pos ha]
    by_cases hb : a = n + j ∧ b = k
    · rw [if_pos hb, if_pos (by omega)]
    · rw [if_neg hb, if_neg (by omega)]
  · rw [if_neg ha, if_neg ha, if_neg (by omega)]
    by_cases h0 : a = n ∧ (b = 0 ∨ b = 1 ∨ b = 2 ∨ b = 3)
    · rw [if_pos h0, if_pos h0, if_neg (by omega)]
    · rw [if_neg h0, if_neg h0]
theorem tg_up0 {I S : aSS} {L : Nat → Nat → Int64} {n k : Nat} {v : Int32} (h : k = 0 ∨ k = 1 ∨ k = 2 ∨ k = 3) : mW (segQ I n S, L) n k v = (segQ I n (up2 S 0 k v), L) := by
  show ((fun p q => if p = n ∧ q = k then v else segQ I n S p q), L) = _
  congr 1
  funext a b
  unfold segQ up2
  by_cases ha : n < a ∧ a < n + 9
  · rw [if_pos ha, if_pos ha, if_neg (by omega), if_neg (by omega)]
  · rw [if_neg ha, if_neg ha]
    by_cases h0 : a = n ∧ (b = 0 ∨ b = 1 ∨ b = 2 ∨ b = 3)
    · rw [if_pos h0, if_pos h0]
      by_cases hb : b = k
      · rw [if_pos ⟨h0.1, hb⟩, if_pos ⟨rfl, hb⟩]
      · rw [if_neg (fun z => hb z.2), if_neg (fun z => hb z.2)]
    · rw [if_neg h0, if_neg h0, if_neg (fun (z : a = n ∧ b = k) => h0 ⟨z.1, z.2 ▸ h⟩)]
theorem tg_self {I : aSS} {n : Nat} : segQ I n (seg I n) = I := by
  funext a b
  unfold segQ seg
  by_cases ha : n < a ∧ a < n + 9
  · rw [if_pos ha, Nat.add_sub_cancel' (by omega)]
  · rw [if_neg ha]
    by_cases h0 : a = n ∧ (b = 0 ∨ b = 1 ∨ b = 2 ∨ b = 3)
    · rw [if_pos h0, h0.1]
      rfl
    · rw [if_neg h0]
theorem tg_row {I S : aSS} {L : Nat → Nat → Int64} {n j : Nat} {f : Nat → Int32} (h : 0 < j ∧ j < 9) : mR (segQ I n S, L) (n + j) f = (segQ I n (rw2 S j f), L) := by
  show ((fun p q => if p = n + j then f q else segQ I n S p q), L) = _
  congr 1
  funext a b
  unfold segQ rw2
  by_cases ha : n < a ∧ a < n + 9
  · rw [if_pos ha, if_pos ha]
    by_cases hb : a = n + j
    · rw [if_pos hb, if_pos (by omega)]
    · rw [if_neg hb, if_neg (by omega)]
  · rw [if_neg ha, if_neg ha, if_neg (by omega)]
    by_cases h0 : a = n ∧ (b = 0 ∨ b = 1 ∨ b = 2 ∨ b = 3)
    · rw [if_pos h0, if_pos h0, if_neg (by omega)]
    · rw [if_neg h0, if_neg h0]
theorem tg_eq {I S S' : aSS} {n : Nat} (h0 : ∀ k, (k = 0 ∨ k = 1 ∨ k = 2 ∨ k = 3) → S 0 k = S' 0 k) (h : ∀ j, 0 < j → j < 9 → S j = S' j) : segQ I n S = segQ I n S' := by
  funext a b
  unfold segQ
  by_cases ha : n < a ∧ a < n + 9
  · rw [if_pos ha, if_pos ha, h _ (by omega) (by omega)]
  · rw [if_neg ha, if_neg ha]
    by_cases hb : a = n ∧ (b = 0 ∨ b = 1 ∨ b = 2 ∨ b = 3)
    · rw [if_pos hb, if_pos hb, h0 _ hb.2]
    · rw [if_neg hb, if_neg hb]
theorem tg_pp {I S S' : aSS} {n : Nat} : segQ (segQ I n S) n S' = segQ I n S' := by
  funext a b
  unfold segQ
  by_cases ha : n < a ∧ a < n + 9
  · rw [if_pos ha, if_pos ha]
  · rw [if_neg ha, if_neg ha]
    by_cases hb : a = n ∧ (b = 0 ∨ b = 1 ∨ b = 2 ∨ b = 3)
    · simp only [if_pos hb, if_neg ha]
    · simp only [if_neg hb, if_neg ha]
theorem sg_okS {I S : aSS} {L : Nat → Nat → Int64} {n : Nat} (hn : isS n) : okS n S (segP I n S, L) := ⟨hn, sg_0, sg_in (by omega), sg_in (by omega), sg_in (by omega), sg_in (by omega), sg_in (by omega), sg_in (by omega)⟩
theorem sg_okT {I S T : aSS} {L : Nat → Nat → Int64} {n t : Nat} (hs : t + 9 ≤ n ∨ n + 7 ≤ t) {L0 : Nat → Nat → Int64} (h : okT t T (I, L0)) : okT t T (segP I n S, L) := by
  obtain ⟨h1, ⟨r0, r1, r2, r3, r4, r5, r6, r7, r8⟩, w⟩ := h
  refine ⟨h1, ⟨?_, ?_, ?_, ?_, ?_, ?_, ?_, ?_, ?_⟩, w⟩
  · have e : segP I n S t = I t := sg_out (by omega)
    show segP I n S t 0 = _ ∧ segP I n S t 1 = _ ∧ segP I n S t 2 = _ ∧ segP I n S t 3 = _
    rw [e]
    exact r0
  · exact (sg_out (by omega)).trans r1
  · exact (sg_out (by omega)).trans r2
  · exact (sg_out (by omega)).trans r3
  · exact (sg_out (by omega)).trans r4
  · exact (sg_out (by omega)).trans r5
  · exact (sg_out (by omega)).trans r6
  · exact (sg_out (by omega)).trans r7
  · exact (sg_out (by omega)).trans r8
theorem up2_row {S : aSS} {j k : Nat} {v : Int32} : up2 S j k v j = upd (S j) k v := by
  funext b
  unfold up2 upd
  by_cases h : b = k
  · rw [if_pos ⟨rfl, h⟩, if_pos h]
  · rw [if_neg (fun z => h z.2), if_neg h]
theorem up2_ne {S : aSS} {i j k : Nat} {v : Int32} (h : i ≠ j) : up2 S j k v i = S i := by
  funext b
  unfold up2
  rw [if_neg (fun z => h z.1)]
theorem up2_at {S : aSS} {j k : Nat} {v : Int32} : up2 S j k v j k = v := by simp [up2]
theorem rw2_at {S : aSS} {j : Nat} {f : Nat → Int32} : rw2 S j f j = f := by
  funext b
  exact if_pos rfl
theorem rw2_ne {S : aSS} {i j : Nat} {f : Nat → Int32} (h : i ≠ j) : rw2 S j f i = S i := by
  funext b
  exact if_neg h
theorem up2_up2 {S : aSS} {j k : Nat} {v w : Int32} : up2 (up2 S j k v) j k w = up2 S j k w := by
  funext a b
  unfold up2
  by_cases h : a = j ∧ b = k
  · rw [if_pos h, if_pos h]
  · rw [if_neg h, if_neg h, if_neg h]
theorem mW_p {I : aSS} {L : Nat → Nat → Int64} {a k : Nat} {v : Int32} : mW (I, L) a k v = (up2 I a k v, L) := rfl
theorem mR_p {I : aSS} {L : Nat → Nat → Int64} {a : Nat} {f : Nat → Int32} : mR (I, L) a f = (rw2 I a f, L) := rfl
def upl (L : Nat → Nat → Int64) (a k : Nat) (v : Int64) : Nat → Nat → Int64 := fun p q => if p = a ∧ q = k then v else L p q
theorem mL_p {I : aSS} {L : Nat → Nat → Int64} {a k : Nat} {v : Int64} : mL (I, L) a k v = (I, upl L a k v) := rfl
theorem up2_nk {S : aSS} {j k i : Nat} {v : Int32} (h : i ≠ k) : up2 S j k v j i = S j i := by
  unfold up2
  rw [if_neg (fun z => h z.2)]
/-- a copy of a State over another's rows -/
def cpS (S S' : aSS) : aSS := rw2 (rw2 (rw2 (rw2 (rw2 (rw2 (up2 (up2 (up2 (up2 (up2 S 0 0 (S' 0 0)) 0 5 (S' 0 5)) 0 8 (S' 0 8)) 0 9 (S' 0 9)) 0 10 (S' 0 10)) 1 (S' 1)) 2 (S' 2)) 3 (S' 3)) 4 (S' 4)) 5 (S' 5)) 6 (S' 6)
theorem sg_cp {I S S' : aSS} {n : Nat} : segP I n (cpS S S') = segP I n S' := by
  funext a b
  unfold segP
  by_cases ha : n < a ∧ a < n + 7
  · rw [if_pos ha, if_pos ha]
    have h : a - n = 1 ∨ a - n = 2 ∨ a - n = 3 ∨ a - n = 4 ∨ a - n = 5 ∨ a - n = 6 := by omega
    rcases h with h | h | h | h | h | h <;> rw [h] <;> simp [cpS, rw2]
  · rw [if_neg ha, if_neg ha]
    by_cases h0 : a = n ∧ (b = 0 ∨ b = 5 ∨ b = 8 ∨ b = 9 ∨ b = 10)
    · rw [if_pos h0, if_pos h0]
      rcases h0.2 with h | h | h | h | h <;> rw [h] <;> simp [cpS, rw2, up2]
    · rw [if_neg h0, if_neg h0]
/-- all as the text told it, over another State's rows -/
def beginS (T S : aSS) : aSS := lp (fun k S => up2 (up2 S 5 k 0) 6 k 0) 8 (lp (fun k S => up2 S 3 k (-1)) 3 (rw2 (rw2 (rw2 (up2 (up2 (up2 (up2 (up2 S 0 0 0) 0 5 0) 0 8 (-1)) 0 9 0) 0 10 0) 1 (T 1)) 2 (T 3)) 4 (T 5)))
/-- a thing lies elsewhere, no cat is on it -/
def shiftS (T S : aSS) (t : Nat) (p : Int32) : aSS := lp (fun k S => if S 3 k = nI t then up2 S 3 k (-1) else S) (tn (T 0 2)) (up2 S 1 t p)
