/-! what the minutes do, over states as rows of ints. A state S: row 0 holds minute (0), struck (5), away (8), met now (9), lost now (10); rows 1 where things lie, 2 where cats are, 3 what they are on, 4 what they know, 5 met, 6 lost. A told room T: row 0 length, things, cats, needs; rows 1 place, 2 worth; 3 place, 4 pace, 5 knows; 6 thing, 7 every, 8 at -/
abbrev aSS : Type := Nat → Nat → Int32
def up2 (S : aSS) (j k : Nat) (v : Int32) : aSS := fun a b => if a = j ∧ b = k then v else S a b
def tn (z : Int32) : Nat := z.toNatClampNeg
abbrev bitS (z : Int32) (k : Nat) : Prop := ¬ (z >>> (nI k &&& 31)) &&& 1 = 0
abbrev dueS (T S : aSS) (k : Nat) (w : Int32) : Prop := ¬ bitS (S 0 5) k ∧ a_irem w (T 7 k) = T 8 k
def shlS (k : Nat) : Int32 := 1 <<< (nI k &&& 31)
def catsOnS (C : Nat) (co : Nat → Int32) (t : Int32) : Int32 := lp (fun k a => if co k = t then a ||| shlS k else a) C 0
def metOfS (nT met : Nat → Int32) (t : Int32) (N : Nat) : Int32 := lp (fun k a => a + if nT k = t then met k else 0) N 0
def sumS (f : Nat → Int32) (N : Nat) : Int32 := lp (fun k a => a + f k) N 0
def dueNowS (T S : aSS) (N : Nat) : Int32 := lp (fun k a => if dueS T S k (S 0 0) then a ||| shlS k else a) N 0
def waitS (T S : aSS) (k : Nat) : Int32 := if T 8 k - a_irem (S 0 0) (T 7 k) < 0 then T 8 k - a_irem (S 0 0) (T 7 k) + T 7 k else T 8 k - a_irem (S 0 0) (T 7 k)
def dueInS (T S : aSS) (t : Int32) (N : Nat) : Int32 := lp (fun k a => if T 6 k = t ∧ ¬ bitS (S 0 5) k then (if waitS T S k < a then waitS T S k else a) else a) N 99
/-- the thing of the least need from the last j of N on that is due in minute w -/
def foreS (T S : aSS) (w : Int32) (N : Nat) : Nat → Int32
  | 0 => -1
  | j + 1 => if dueS T S (N - (j + 1)) w then T 6 (N - (j + 1)) else foreS T S w N j
/-- Integer.bitCount, as its bytecode has it -/
def bc1 (x : Int32) : Int32 := x - (a_iushr x 1 &&& 1431655765)
def bc2 (x : Int32) : Int32 := (x &&& 858993459) + (a_iushr x 2 &&& 858993459)
def bc3 (x : Int32) : Int32 := (x + a_iushr x 4) &&& 252645135
def bc4 (x : Int32) : Int32 := x + a_iushr x 8
def bc5 (x : Int32) : Int32 := x + a_iushr x 16
def bitCountS (x : Int32) : Int32 := bc5 (bc4 (bc3 (bc2 (bc1 x)))) &&& 63
def farS (S : aSS) (t c : Nat) : Int32 := if 0 ≤ S 1 t - S 2 c then S 1 t - S 2 c else 0 - (S 1 t - S 2 c)
/-- what a rule's words are worth for cat c and thing t -/
def envI (T S : aSS) (c t : Nat) : Nat → Int32
  | 0 => nI c
  | 1 => nI t
  | 2 => farS S t c
  | 3 => dueInS T S (nI t) (tn (T 0 3))
  | 4 => S 4 c
  | 5 => T 4 c
  | 6 => T 2 t
  | 7 => bitCountS (catsOnS (tn (T 0 2)) (S 3) (nI t) &&& (shlS c ^^^ -1))
  | 8 => metOfS (T 6) (S 5) (nI t) (tn (T 0 3))
  | 9 => metOfS (T 6) (S 6) (nI t) (tn (T 0 3))
  | _ => S 0 0
def envS (T S : aSS) (c t : Nat) : Nat → Int64 := fun w => (envI T S c t w).toInt64
abbrev aRule : Type := (Nat → Int64) → Int64
def favS (f : aRule) (T S : aSS) (c : Nat) (N : Nat) : Int64 × Int32 := lp (fun k (a : Int64 × Int32) => if a.1 < f (envS T S c k) then (f (envS T S c k), nI k) else a) N (0, -1)
def chooseS (ru : Option aRule) (T S : aSS) (c : Nat) : Int32 := match ru with
  | none => foreS T S (S 0 0 + S 4 c) (tn (T 0 3)) (tn (T 0 3))
  | some f => (favS f T S c (tn (T 0 1))).2
def stepsS (T S : aSS) (c t : Nat) : Int32 := if T 4 c < farS S t c then T 4 c else farS S t c
def placeS (T S : aSS) (c t : Nat) : Int32 := S 2 c + if S 1 t - S 2 c < 0 then -(stepsS T S c t) else stepsS T S c t
def walkS (T S : aSS) (c : Nat) (t : Int32) : aSS := up2 (up2 S 2 c (placeS T S c (tn t))) 3 c (if placeS T S c (tn t) = S 1 (tn t) then t else -1)
def catS (ru : Option aRule) (T : aSS) (k : Nat) (S : aSS) : aSS := if nI k = S 0 8 then S else if chooseS ru T S k = -1 then S else walkS T S k (chooseS ru T S k)
def moreS (v : Int32) : Int32 := if 999 < v + 1 then 999 else v + 1
def settleS (T : aSS) (k : Nat) (S : aSS) : aSS :=
  if catsOnS (tn (T 0 2)) (S 3) (T 6 k) = 0 then up2 (up2 S 5 k (moreS (S 5 k))) 0 9 (S 0 9 ||| shlS k) else up2 (up2 S 6 k (moreS (S 6 k))) 0 10 (S 0 10 ||| shlS k)
def needS (T : aSS) (k : Nat) (S : aSS) : aSS := if dueS T S k (S 0 0) then settleS T k S else S
def catsS (ru : Option aRule) (T S : aSS) : aSS := lp (catS ru T) (tn (T 0 2)) S
def needsS (T S : aSS) : aSS := lp (needS T) (tn (T 0 3)) (up2 (up2 S 0 9 0) 0 10 0)
def passS (ru : Option aRule) (T S : aSS) : aSS := up2 (needsS T (catsS ru T S)) 0 0 (needsS T (catsS ru T S) 0 0 + 1)
def passN (ru : Option aRule) (T : aSS) (n : Nat) (S : aSS) : aSS := lp (fun _ S => passS ru T S) n S
