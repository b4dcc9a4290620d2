/-! pure rows: loops, small numbers -/
def lp {α : Type} (f : Nat → α → α) : Nat → α → α
  | 0, a => a
  | n + 1, a => f n (lp f n a)
theorem lp_congr {α : Type} {f g : Nat → α → α} {n : Nat} {a : α} (h : ∀ k, k < n → ∀ b, f k b = g k b) : lp f n a = lp g n a := by
  induction n with
  | zero => rfl
  | succ n ih =>
    show f n (lp f n a) = g n (lp g n a)
    rw [ih (fun k hk b => h k (by omega) b), h n (by omega)]
theorem lp_inv {α : Type} {f : Nat → α → α} {n : Nat} {a : α} (I : Nat → α → Prop) (h0 : I 0 a) (hs : ∀ k b, k < n → I k b → I (k + 1) (f k b)) : I n (lp f n a) := by
  induction n with
  | zero => exact h0
  | succ n ih => exact hs n _ (by omega) (ih (fun k b hk => hs k b (by omega)))
theorem up_loop {P : Nat → Prop} {N : Nat} (he : P N) (hs : ∀ k, k < N → P (k + 1) → P k) : ∀ k, k ≤ N → P k := by
  intro k hk
  induction h : N - k generalizing k with
  | zero =>
    have : k = N := by omega
    subst this
    exact he
  | succ m ih => exact hs k (by omega) (ih (k + 1) (by omega) (by omega))
theorem tn_lt (z : Int32) : z.toNatClampNeg < 2147483648 := by
  have := Int32.toInt_lt z
  show z.toInt.toNat < 2147483648
  omega
theorem le_nI {z : Int32} {k : Nat} (hk : k < 2147483648) : (z ≤ nI k) = (z.toNatClampNeg ≤ k) := by
  apply propext
  rw [Int32.le_iff_toInt_le, nI_toInt (by omega)]
  show z.toInt ≤ k ↔ z.toInt.toNat ≤ k
  omega
theorem nI_lt' {z : Int32} {k : Nat} (hk : k < 2147483648) : (nI k < z) = (k < z.toNatClampNeg) := by
  apply propext
  rw [Int32.lt_iff_toInt_lt, nI_toInt (by omega)]
  show (k : Int) < z.toInt ↔ k < z.toInt.toNat
  omega
theorem in_nI {k N : Nat} (h : k < N) (hN : N < 2147483648) : vp_in (nI k) N = True := eq_true (vp_in_nI h (by omega))
theorem cl_nI {k : Nat} (h : k < 2147483648) : (nI k).toNatClampNeg = k := nI_clamp (by omega)
theorem eq_nI {a b : Nat} (ha : a < 2147483648) (hb : b < 2147483648) : (nI a = nI b) = (a = b) := propext (nI_eq (by omega) (by omega))
theorem le_nII {a b : Nat} (ha : a < 2147483648) (hb : b < 2147483648) : (nI a ≤ nI b) = (a ≤ b) := propext (nI_leI (by omega) (by omega))
theorem lt_nII {a b : Nat} (ha : a < 2147483648) (hb : b < 2147483648) : (nI a < nI b) = (a < b) := propext (nI_ltI (by omega) (by omega))
theorem nI_of_tn {z : Int32} (h : ¬ z < 0) : nI z.toNatClampNeg = z := by
  obtain ⟨j, hj, rfl⟩ := nI_of h
  rw [nI_clamp hj]
theorem nI_lit0 : (0 : Int32) = nI 0 := rfl
def isS (n : Nat) : Prop := sh n = (1, 11) ∧ sh (n + 1) = (11, 6) ∧ sh (n + 2) = (11, 3) ∧ sh (n + 3) = (11, 3) ∧ sh (n + 4) = (11, 3) ∧ sh (n + 5) = (11, 8) ∧ sh (n + 6) = (11, 8)
def isT (t : Nat) : Prop := sh t = (3, 12) ∧ sh (t + 1) = (11, 6) ∧ sh (t + 2) = (11, 6) ∧ sh (t + 3) = (11, 3) ∧ sh (t + 4) = (11, 3) ∧ sh (t + 5) = (11, 3) ∧ sh (t + 6) = (11, 8) ∧ sh (t + 7) = (11, 8) ∧ sh (t + 8) = (11, 8)
theorem i10 : ((1 : Int32) = 0) = False := by simp
theorem tn_lit {n : Nat} (h : n < 2147483648) : Int32.toNatClampNeg (no_index (OfNat.ofNat n : Int32)) = n := nI_clamp (by omega)
theorem tn_m1 : Int32.toNatClampNeg (-1) = 0 := by decide
theorem in_lit {n N : Nat} (h : n < N) (hN : N < 2147483648) : vp_in (no_index (OfNat.ofNat n : Int32)) N = True := eq_true (vp_in_nI h (by omega))
