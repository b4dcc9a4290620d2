/-! running transformers: what each comes to -/
section SIM
variable {μ : Type} {K : aP μ} {ls r : List Value} {x : μ}
theorem i_call_0 {cc : aMM → List Value → μ → (Option Value → μ → Prop) → Prop} {mm : aMM} : i_call cc mm 0 K ls r x = ((r.map fun v => v.category).sum ≤ 8 ∧ cc mm [] x (fun v y => K ls (aPush v r) y)) := by simp [i_call]
theorem i_call_1 {cc : aMM → List Value → μ → (Option Value → μ → Prop) → Prop} {mm : aMM} {a : Value} : i_call cc mm 1 K ls (a :: r) x = ((r.map fun v => v.category).sum ≤ 8 ∧ cc mm [a] x (fun v y => K ls (aPush v r) y)) := by simp [i_call]
theorem i_call_2 {cc : aMM → List Value → μ → (Option Value → μ → Prop) → Prop} {mm : aMM} {a b : Value} : i_call cc mm 2 K ls (b :: a :: r) x = ((r.map fun v => v.category).sum ≤ 8 ∧ cc mm [a, b] x (fun v y => K ls (aPush v r) y)) := by simp [i_call]
theorem i_call_3 {cc : aMM → List Value → μ → (Option Value → μ → Prop) → Prop} {mm : aMM} {a b c : Value} : i_call cc mm 3 K ls (c :: b :: a :: r) x = ((r.map fun v => v.category).sum ≤ 8 ∧ cc mm [a, b, c] x (fun v y => K ls (aPush v r) y)) := by simp [i_call]
theorem i_call_4 {cc : aMM → List Value → μ → (Option Value → μ → Prop) → Prop} {mm : aMM} {a b c d : Value} : i_call cc mm 4 K ls (d :: c :: b :: a :: r) x = ((r.map fun v => v.category).sum ≤ 8 ∧ cc mm [a, b, c, d] x (fun v y => K ls (aPush v r) y)) := by simp [i_call]
theorem i_callT_0 {cc : aMM → List Value → μ → (Option Value → μ → Prop) → Prop} {mm : aMM} {t : Nat} : i_callT cc mm 0 K ls (.ref t :: r) x = ((aIsS t ∧ (r.map fun v => v.category).sum ≤ 8) ∧ cc mm [.ref t] x (fun v y => K ls (aPush v r) y)) := rfl
theorem i_callT_1 {cc : aMM → List Value → μ → (Option Value → μ → Prop) → Prop} {mm : aMM} {t : Nat} {a : Value} : i_callT cc mm 1 K ls (a :: .ref t :: r) x = ((aIsS t ∧ (r.map fun v => v.category).sum ≤ 8) ∧ cc mm [.ref t, a] x (fun v y => K ls (aPush v r) y)) := rfl
theorem i_callT_2 {cc : aMM → List Value → μ → (Option Value → μ → Prop) → Prop} {mm : aMM} {t : Nat} {a b : Value} : i_callT cc mm 2 K ls (b :: a :: .ref t :: r) x = ((aIsS t ∧ (r.map fun v => v.category).sum ≤ 8) ∧ cc mm [.ref t, a, b] x (fun v y => K ls (aPush v r) y)) := rfl
end SIM
section SIM2
variable {K : aP aM} {ls r : List Value} {x : aM} {cc : aMM → List Value → aM → (Option Value → aM → Prop) → Prop} {mm : aMM} {t ci : Nat} {a b c d e : Value}
theorem i_callV_0 : i_callV ci cc mm 0 K ls (.ref t :: r) x = (((sh t).1 = ci ∧ (r.map fun v => v.category).sum ≤ 8) ∧ cc mm [.ref t] x (fun v y => K ls (aPush v r) y)) := rfl
theorem i_callV_1 : i_callV ci cc mm 1 K ls (a :: .ref t :: r) x = (((sh t).1 = ci ∧ (r.map fun v => v.category).sum ≤ 8) ∧ cc mm [.ref t, a] x (fun v y => K ls (aPush v r) y)) := rfl
theorem i_callV_2 : i_callV ci cc mm 2 K ls (b :: a :: .ref t :: r) x = (((sh t).1 = ci ∧ (r.map fun v => v.category).sum ≤ 8) ∧ cc mm [.ref t, a, b] x (fun v y => K ls (aPush v r) y)) := rfl
theorem i_callV_3 : i_callV ci cc mm 3 K ls (c :: b :: a :: .ref t :: r) x = (((sh t).1 = ci ∧ (r.map fun v => v.category).sum ≤ 8) ∧ cc mm [.ref t, a, b, c] x (fun v y => K ls (aPush v r) y)) := rfl
theorem i_callV_4 : i_callV ci cc mm 4 K ls (d :: c :: b :: a :: .ref t :: r) x = (((sh t).1 = ci ∧ (r.map fun v => v.category).sum ≤ 8) ∧ cc mm [.ref t, a, b, c, d] x (fun v y => K ls (aPush v r) y)) := rfl
theorem i_callV_5 : i_callV ci cc mm 5 K ls (e :: d :: c :: b :: a :: .ref t :: r) x = (((sh t).1 = ci ∧ (r.map fun v => v.category).sum ≤ 8) ∧ cc mm [.ref t, a, b, c, d, e] x (fun v y => K ls (aPush v r) y)) := rfl
theorem aPush_none (r : List Value) : aPush none r = r := rfl
theorem aPush_some (v : Value) (r : List Value) : aPush (some v) r = v :: r := rfl
theorem cat_int (v : Int32) : (Value.int v).category = 1 := rfl
theorem cat_long (v : Int64) : (Value.long v).category = 2 := rfl
theorem cat_ref (v : Nat) : (Value.ref v).category = 1 := rfl
theorem cat_null : Value.null.category = 1 := rfl
theorem cat_ra (v : Nat) : (Value.retAddr v).category = 1 := rfl
theorem nrw_int (v : Int32) : (narrow .int (.int v) = .int v) = True := by simp [narrow]
theorem nrw_b0 : (narrow .boolean (.int 0) = .int 0) = True := by simp [narrow]
theorem nrw_b1 : (narrow .boolean (.int 1) = .int 1) = True := by simp [narrow]
end SIM2
