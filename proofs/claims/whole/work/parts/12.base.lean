/-! pure rows: loops, small numbers -/
def lp {α : Type} (f : Nat → α → α) : Nat → α → α
  | 0, a => a
  | n + 1, a => f n (lp f n a)
theorem lp_congr {α : Type} {f g : Nat → α → α} {n : Nat} {a : α} (h : ∀ k, k < n → ∀ b, f k b = g k b) : lp f n a = lp g n a := by
  induction n with
  | zero => rfl
  | succ n ih =>
    show f n (lp f n a) = g n (lp g n a)
    rw [ih (fun k hk b => h k (by omega) b), h n (by omega)]
theorem lp_inv {α : Type} {f : Nat → α → α} {n : Nat} {a : α} (I : Nat → α → Prop) (h0 : I 0 a) (hs : ∀ k b, k < n → I k b → I (k + 1) (f k b)) : I n (lp f n a) := by
  induction n with
  | zero => exact h0
  | succ n ih => exact hs n _ (by omega) (ih (fun k b hk => hs k b (by omega)))
theorem up_loop {P : Nat → Prop} {N : Nat} (he : P N) (hs : ∀ k, k < N → P (k + 1) → P k) : ∀ k, k ≤ N → P k := by
  intro k hk
  induction h : N - k generalizing k with
  | zero =>
    have : k = N := by omega
    subst this
    exact he
  | succ m ih => exact hs k (by omega) (ih (k + 1) (by omega) (by omega))
theorem tn_lt (z : Int32) : z.toNatClampNeg < 2147483648 := by
  have := Int32.toInt_lt z
  show z.toInt.toNat < 2147483648
  omega
theorem le_nI {z : Int32} {k : Nat} (hk : k < 2147483648) : (z ≤ nI k) = (z.toNatClampNeg ≤ k) := by
  apply propext
  rw [Int32.le_iff_toInt_le, nI_toInt (by omega)]
  show z.toInt ≤ k ↔ z.toInt.toNat ≤ k
  omega
theorem nI_lt' {z : Int32} {k : Nat} (hk : k < 2147483648) : (nI k < z) = (k < z.toNatClampNeg) := by
  apply propext
  rw [Int32.lt_iff_toInt_lt, nI_toInt (by omega)]
  show (k : Int) < z.toInt ↔ k < z.toInt.toNat
  omega
theorem in_nI {k N : Nat} (h : k < N) (hN : N < 2147483648) : vp_in (nI k) N = True := eq_true (vp_in_nI h (by omega))
theorem cl_nI {k : Nat} (h : k < 2147483648) : (nI k).toNatClampNeg = k := nI_clamp (by omega)
theorem eq_nI {a b : Nat} (ha : a < 2147483648) (hb : b < 2147483648) : (nI a = nI b) = (a = b) := propext (nI_eq (by omega) (by omega))
theorem le_nII {a b : Nat} (ha : a < 2147483648) (hb : b < 2147483648) : (nI a ≤ nI b) = (a ≤ b) := propext (nI_leI (by omega) (by omega))
theorem lt_nII {a b : Nat} (ha : a < 2147483648) (hb : b < 2147483648) : (nI a < nI b) = (a < b) := propext (nI_ltI (by omega) (by omega))
theorem nI_of_tn {z : Int32} (h : ¬ z < 0) : nI z.toNatClampNeg = z := by
  obtain ⟨j, hj, rfl⟩ := nI_of h
  rw [nI_clamp hj]
theorem nI_lit0 : (0 : Int32) = nI 0 := rfl
def isS (n : Nat) : Prop := sh n = (1, 11) ∧ sh (n + 1) = (11, 6) ∧ sh (n + 2) = (11, 3) ∧ sh (n + 3) = (11, 3) ∧ sh (n + 4) = (11, 3) ∧ sh (n + 5) = (11, 8) ∧ sh (n + 6) = (11, 8)
def isT (t : Nat) : Prop := sh t = (3, 12) ∧ sh (t + 1) = (11, 6) ∧ sh (t + 2) = (11, 6) ∧ sh (t + 3) = (11, 3) ∧ sh (t + 4) = (11, 3) ∧ sh (t + 5) = (11, 3) ∧ sh (t + 6) = (11, 8) ∧ sh (t + 7) = (11, 8) ∧ sh (t + 8) = (11, 8)
theorem i10 : ((1 : Int32) = 0) = False := by simp
theorem tn_0 : Int32.toNatClampNeg 0 = 0 := by decide
theorem tn_1 : Int32.toNatClampNeg 1 = 1 := by decide
theorem tn_2 : Int32.toNatClampNeg 2 = 2 := by decide
theorem tn_3 : Int32.toNatClampNeg 3 = 3 := by decide
theorem tn_4 : Int32.toNatClampNeg 4 = 4 := by decide
theorem tn_5 : Int32.toNatClampNeg 5 = 5 := by decide
theorem tn_6 : Int32.toNatClampNeg 6 = 6 := by decide
theorem tn_7 : Int32.toNatClampNeg 7 = 7 := by decide
theorem tn_8 : Int32.toNatClampNeg 8 = 8 := by decide
theorem tn_9 : Int32.toNatClampNeg 9 = 9 := by decide
theorem tn_10 : Int32.toNatClampNeg 10 = 10 := by decide
theorem tn_11 : Int32.toNatClampNeg 11 = 11 := by decide
theorem tn_12 : Int32.toNatClampNeg 12 = 12 := by decide
theorem tn_13 : Int32.toNatClampNeg 13 = 13 := by decide
theorem tn_14 : Int32.toNatClampNeg 14 = 14 := by decide
theorem tn_15 : Int32.toNatClampNeg 15 = 15 := by decide
theorem tn_19 : Int32.toNatClampNeg 19 = 19 := by decide
theorem tn_20 : Int32.toNatClampNeg 20 = 20 := by decide
theorem tn_24 : Int32.toNatClampNeg 24 = 24 := by decide
theorem tn_25 : Int32.toNatClampNeg 25 = 25 := by decide
theorem tn_29 : Int32.toNatClampNeg 29 = 29 := by decide
theorem tn_30 : Int32.toNatClampNeg 30 = 30 := by decide
theorem tn_32 : Int32.toNatClampNeg 32 = 32 := by decide
theorem tn_33 : Int32.toNatClampNeg 33 = 33 := by decide
theorem tn_40 : Int32.toNatClampNeg 40 = 40 := by decide
theorem tn_59 : Int32.toNatClampNeg 59 = 59 := by decide
theorem tn_60 : Int32.toNatClampNeg 60 = 60 := by decide
theorem tn_61 : Int32.toNatClampNeg 61 = 61 := by decide
theorem tn_64 : Int32.toNatClampNeg 64 = 64 := by decide
theorem tn_65 : Int32.toNatClampNeg 65 = 65 := by decide
theorem tn_72 : Int32.toNatClampNeg 72 = 72 := by decide
theorem tn_99 : Int32.toNatClampNeg 99 = 99 := by decide
theorem tn_100 : Int32.toNatClampNeg 100 = 100 := by decide
theorem tn_300 : Int32.toNatClampNeg 300 = 300 := by decide
theorem tn_400 : Int32.toNatClampNeg 400 = 400 := by decide
theorem tn_600 : Int32.toNatClampNeg 600 = 600 := by decide
theorem tn_999 : Int32.toNatClampNeg 999 = 999 := by decide
theorem tn_1800 : Int32.toNatClampNeg 1800 = 1800 := by decide
theorem tn_800 : Int32.toNatClampNeg 800 = 800 := by decide
theorem tn_m1 : Int32.toNatClampNeg (-1) = 0 := by decide
theorem in_0 {N : Nat} (h : 0 < N) (hN : N < 2147483648) : vp_in (0) N = True := eq_true (vp_in_nI (n := 0) h (by omega))
theorem in_1 {N : Nat} (h : 1 < N) (hN : N < 2147483648) : vp_in (1) N = True := eq_true (vp_in_nI (n := 1) h (by omega))
theorem in_2 {N : Nat} (h : 2 < N) (hN : N < 2147483648) : vp_in (2) N = True := eq_true (vp_in_nI (n := 2) h (by omega))
theorem in_3 {N : Nat} (h : 3 < N) (hN : N < 2147483648) : vp_in (3) N = True := eq_true (vp_in_nI (n := 3) h (by omega))
theorem in_4 {N : Nat} (h : 4 < N) (hN : N < 2147483648) : vp_in (4) N = True := eq_true (vp_in_nI (n := 4) h (by omega))
theorem in_5 {N : Nat} (h : 5 < N) (hN : N < 2147483648) : vp_in (5) N = True := eq_true (vp_in_nI (n := 5) h (by omega))
theorem in_6 {N : Nat} (h : 6 < N) (hN : N < 2147483648) : vp_in (6) N = True := eq_true (vp_in_nI (n := 6) h (by omega))
theorem in_7 {N : Nat} (h : 7 < N) (hN : N < 2147483648) : vp_in (7) N = True := eq_true (vp_in_nI (n := 7) h (by omega))
theorem in_8 {N : Nat} (h : 8 < N) (hN : N < 2147483648) : vp_in (8) N = True := eq_true (vp_in_nI (n := 8) h (by omega))
theorem in_9 {N : Nat} (h : 9 < N) (hN : N < 2147483648) : vp_in (9) N = True := eq_true (vp_in_nI (n := 9) h (by omega))
theorem in_10 {N : Nat} (h : 10 < N) (hN : N < 2147483648) : vp_in (10) N = True := eq_true (vp_in_nI (n := 10) h (by omega))
theorem in_11 {N : Nat} (h : 11 < N) (hN : N < 2147483648) : vp_in (11) N = True := eq_true (vp_in_nI (n := 11) h (by omega))
theorem oi_0 : Int32.ofInt 0 = nI 0 := by decide
theorem oi_1 : Int32.ofInt 1 = nI 1 := by decide
theorem oi_2 : Int32.ofInt 2 = nI 2 := by decide
theorem oi_3 : Int32.ofInt 3 = nI 3 := by decide
theorem oi_4 : Int32.ofInt 4 = nI 4 := by decide
theorem oi_5 : Int32.ofInt 5 = nI 5 := by decide
theorem oi_6 : Int32.ofInt 6 = nI 6 := by decide
theorem oi_7 : Int32.ofInt 7 = nI 7 := by decide
theorem oi_8 : Int32.ofInt 8 = nI 8 := by decide
theorem oi_9 : Int32.ofInt 9 = nI 9 := by decide
theorem oi_10 : Int32.ofInt 10 = nI 10 := by decide
theorem oi_11 : Int32.ofInt 11 = nI 11 := by decide
theorem oi_12 : Int32.ofInt 12 = nI 12 := by decide
theorem oi_13 : Int32.ofInt 13 = nI 13 := by decide
theorem oi_14 : Int32.ofInt 14 = nI 14 := by decide
theorem oi_15 : Int32.ofInt 15 = nI 15 := by decide
theorem oi_16 : Int32.ofInt 16 = nI 16 := by decide
theorem oi_17 : Int32.ofInt 17 = nI 17 := by decide
theorem oi_18 : Int32.ofInt 18 = nI 18 := by decide
theorem oi_19 : Int32.ofInt 19 = nI 19 := by decide
theorem oi_20 : Int32.ofInt 20 = nI 20 := by decide
theorem oi_21 : Int32.ofInt 21 = nI 21 := by decide
theorem oi_22 : Int32.ofInt 22 = nI 22 := by decide
theorem oi_23 : Int32.ofInt 23 = nI 23 := by decide
theorem oi_24 : Int32.ofInt 24 = nI 24 := by decide
theorem oi_25 : Int32.ofInt 25 = nI 25 := by decide
theorem oi_26 : Int32.ofInt 26 = nI 26 := by decide
theorem oi_27 : Int32.ofInt 27 = nI 27 := by decide
theorem oi_28 : Int32.ofInt 28 = nI 28 := by decide
theorem oi_29 : Int32.ofInt 29 = nI 29 := by decide
theorem oi_30 : Int32.ofInt 30 = nI 30 := by decide
theorem oi_31 : Int32.ofInt 31 = nI 31 := by decide
theorem nI_m1 (n : Nat) : nI (n + 1) + -1 = nI n := by
  rw [← nI_pred n, Int32.sub_eq_add_neg]
theorem nI_p2 (n : Nat) : nI (n + 1 + 1) - 2 = nI n := by
  rw [show nI (n + 1 + 1) = nI n + 2 from (nI_add n 2).symm, Int32.add_sub_cancel]
theorem nI_m2 (n : Nat) : nI (n + 1 + 1) + -2 = nI n := by
  rw [← nI_p2 n, Int32.sub_eq_add_neg]
theorem oi_200000 : Int32.ofInt 200000 = nI 200000 := by decide
theorem oi_200001 : Int32.ofInt 200001 = nI 200001 := by decide
theorem oi_200002 : Int32.ofInt 200002 = nI 200002 := by decide
theorem oi_200003 : Int32.ofInt 200003 = nI 200003 := by decide
theorem oi_200004 : Int32.ofInt 200004 = nI 200004 := by decide
theorem oi_200005 : Int32.ofInt 200005 = nI 200005 := by decide
theorem oi_200006 : Int32.ofInt 200006 = nI 200006 := by decide
theorem oi_200007 : Int32.ofInt 200007 = nI 200007 := by decide
theorem oi_200008 : Int32.ofInt 200008 = nI 200008 := by decide
theorem oi_200009 : Int32.ofInt 200009 = nI 200009 := by decide
theorem oi_200010 : Int32.ofInt 200010 = nI 200010 := by decide
theorem oi_200011 : Int32.ofInt 200011 = nI 200011 := by decide
theorem oi_200012 : Int32.ofInt 200012 = nI 200012 := by decide
theorem oi_200013 : Int32.ofInt 200013 = nI 200013 := by decide
theorem oi_200014 : Int32.ofInt 200014 = nI 200014 := by decide
theorem li_2 : (2 : Int32) = nI 2 := by decide
theorem li_64 : (64 : Int32) = nI 64 := by decide
theorem li_100000 : (100000 : Int32) = nI 100000 := by decide
theorem li_200000 : (200000 : Int32) = nI 200000 := by decide
theorem li_200012 : (200012 : Int32) = nI 200012 := by decide
theorem li_200013 : (200013 : Int32) = nI 200013 := by decide
theorem li_200014 : (200014 : Int32) = nI 200014 := by decide
theorem nI_le0 {n : Nat} (h : n < 2147483648) : (nI n ≤ 0) = (n = 0) := by
  have e := le_nII (a := n) (b := 0) h (by omega)
  rw [show (n = 0) = (n ≤ 0) from propext (by omega)]
  exact e
theorem nI_lt0 {n : Nat} (h : n < 2147483648) : (nI n < 0) = False := eq_false (nI_pos (by omega))
theorem nI_ge0 {n : Nat} (h : n < 2147483648) : (0 ≤ nI n) = True := eq_true (nI_pos' (by omega))
theorem nI_gt0 {n : Nat} (h : n < 2147483648) : (0 < nI n) = (0 < n) := lt_nII (a := 0) (b := n) (by omega) h
theorem nI_eq0 {n : Nat} (h : n < 2147483648) : (nI n = 0) = (n = 0) := eq_nI (a := n) (b := 0) h (by omega)
theorem nI_2le {n : Nat} (h : n < 2147483648) : (2 ≤ nI n) = (2 ≤ n) := le_nII (a := 2) (b := n) (by omega) h
theorem nI_sub {a b : Nat} (h : b ≤ a) : nI a - nI b = nI (a - b) := by
  have e : nI a = nI (a - b) + nI b := by rw [nI_add, Nat.sub_add_cancel h]
  rw [e, Int32.add_sub_cancel]
/-- what is beyond an array's length is 0, at a method's end too -/
theorem aC.can {G : aG} {l : Launch} {d mc ms : Nat} {mm : aMM} {av : List Value} {x : aM} {Q : Option Value → aM → Prop} (h : aC (aRS G) G l d mc ms mm av x (fun v y => aCan y → Q v y)) : aC (aRS G) G l d mc ms mm av x Q := by
  unfold aC Met MetFree at h ⊢
  first
    | exact h.weaken (fun _ _ _ _ z => ⟨⟨(by obtain ⟨⟨⟨v, y, a1, a2, a3⟩, a4⟩, _⟩ := z; exact ⟨v, y, a1, a2 a3.2, a3⟩), z.1.2⟩, z.2⟩)
    | (intro p e ha hc hk s m args below hf happ hP hT
       obtain ⟨k, o, h1, h2, h3, ⟨⟨⟨v, y, a1, a2, a3⟩, a4⟩, a5⟩⟩ := h p e ha hc hk s m args below hf happ hP hT
       exact ⟨k, o, h1, h2, h3, ⟨⟨⟨v, y, a1, a2 a3.2, a3⟩, a4⟩, a5⟩⟩)
theorem aT.can {G : aG} {l : Launch} {d : Nat} {mm : aMM} {c b : Nat} {Q : Option Value → aM → Prop} {pc : Nat} {ls st : List Value} {x : aM} (h : aCan x → aT (aRS G) G l d mm c b Q pc ls st x) : aT (aRS G) G l d mm c b Q pc ls st x :=
  fun p e R s m args below meth cd QQ P H locs arr cells slots hp hl => h hp.2.2.1.2 p e R s m args below meth cd QQ P H locs arr cells slots hp hl
theorem in_19 {N : Nat} (h : 19 < N) (hN : N < 2147483648) : vp_in (19) N = True := eq_true (vp_in_nI (n := 19) h (by omega))
theorem nI_0' : (0 : Int32) = nI 0 := rfl
