/-! ranges, and that minutes keep them -/
def inN (z : Int32) (n : Nat) : Prop := ∃ j, j < n ∧ z = nI j
theorem inN.tn {z : Int32} {n : Nat} (h : inN z n) (hn : n ≤ 2147483648) : tn z < n ∧ z = nI (tn z) := by
  obtain ⟨j, hj, rfl⟩ := h
  have e : (nI j).toNatClampNeg = j := nI_clamp (by omega)
  show (nI j).toNatClampNeg < n ∧ nI j = nI (nI j).toNatClampNeg
  rw [e]
  exact ⟨hj, rfl⟩
theorem inN.le {z : Int32} {n m : Nat} (h : inN z n) (hm : n ≤ m) : inN z m := by
  obtain ⟨j, hj, rfl⟩ := h
  exact ⟨j, by omega, rfl⟩
theorem inN.vp {z : Int32} {n : Nat} (h : inN z n) (hn : n < 2147483648) : vp_in z n := by
  obtain ⟨j, hj, rfl⟩ := h
  exact vp_in_nI hj (by omega)
/-- a told room's ranges -/
def wfT2 (T : aSS) : Prop := wfT T ∧ (inN (T 0 0) 31 ∧ inN (T 0 1) 7 ∧ inN (T 0 2) 4 ∧ inN (T 0 3) 9) ∧ (∀ k, k < tn (T 0 1) → inN (T 1 k) (tn (T 0 0)) ∧ inN (T 2 k) 51) ∧ ∀ k, k < tn (T 0 2) → inN (T 3 k) (tn (T 0 0)) ∧ (inN (T 4 k) 10 ∧ T 4 k ≠ 0) ∧ inN (T 5 k) 10 ∧ T 5 k ≠ 0
/-- a state's ranges, its minute at most B -/
def wfS (T S : aSS) (B : Nat) : Prop := inN (S 0 0) (B + 1) ∧ (∀ k, k < tn (T 0 1) → inN (S 1 k) (tn (T 0 0))) ∧ (∀ k, k < tn (T 0 2) → inN (S 2 k) (tn (T 0 0)) ∧ (S 3 k = -1 ∨ inN (S 3 k) (tn (T 0 1))) ∧ inN (S 4 k) 10 ∧ S 4 k ≠ 0) ∧ ∀ k, k < tn (T 0 3) → inN (S 5 k) 1000 ∧ inN (S 6 k) 1000
theorem nI_dn {a b : Nat} (h : b ≤ a) : nI a + -nI b = nI (a - b) := by
  rw [← Int32.sub_eq_add_neg, nI_sub h]
theorem nI_gap {a b : Nat} (h : a < b) (hb : b < 2147483648) : nI a - nI b < 0 := by
  have e : nI a - nI b = -nI (b - a) := by
    rw [← nI_sub (Nat.le_of_lt h), Int32.neg_sub]
  rw [e, Int32.lt_iff_toInt_lt]
  have h2 : (nI (b - a)).toInt = ((b - a : Nat) : Int) := nI_toInt (by omega)
  have h3 : (-nI (b - a)).toInt = -((b - a : Nat) : Int) := by
    rw [Int32.toInt_neg, h2]
    exact Int.bmod_eq_of_le (by omega) (by omega)
  rw [h3]
  show -((b - a : Nat) : Int) < 0
  omega
theorem far_nI {S : aSS} {t c x y : Nat} (hx : S 1 t = nI x) (hy : S 2 c = nI y) (h1 : x < 1000) (h2 : y < 1000) : farS S t c = nI (if y ≤ x then x - y else y - x) ∧ ((S 1 t - S 2 c < 0) ↔ ¬ y ≤ x) := by
  unfold farS
  rw [hx, hy]
  by_cases h : y ≤ x
  · rw [nI_sub h, if_pos (nI_pos' (by omega)), if_pos h]
    exact ⟨rfl, by simp only [h, not_true_eq_false, iff_false]; exact nI_pos (by omega)⟩
  · have g := nI_gap (a := x) (b := y) (by omega) (by omega)
    rw [if_neg (Int32.not_le.mpr g), if_neg h]
    refine ⟨?_, by simp only [h, not_false_eq_true, iff_true]; exact g⟩
    rw [Int32.zero_sub, Int32.neg_sub, nI_sub (by omega)]
theorem place_in {T S : aSS} {t c n : Nat} (hp : inN (T 4 c) 10) (hx : inN (S 1 t) n) (hy : inN (S 2 c) n) (hn : n ≤ 31) : inN (placeS T S c t) n := by
  obtain ⟨x, h1, e1⟩ := hx
  obtain ⟨y, h2, e2⟩ := hy
  obtain ⟨p, h3, e3⟩ := hp
  obtain ⟨f1, f2⟩ := far_nI e1 e2 (by omega) (by omega)
  unfold placeS stepsS
  rw [f1, e3, e2]
  by_cases h : y ≤ x
  · rw [if_pos h]
    rw [e1, e2] at f2
    rw [e1, if_neg (fun z => (f2.mp z) h)]
    by_cases g : nI p < nI (x - y)
    · rw [if_pos g, nI_add]
      rw [nI_ltI (by omega) (by omega)] at g
      exact ⟨_, by omega, rfl⟩
    · rw [if_neg g, nI_add]
      exact ⟨_, by omega, rfl⟩
  · rw [if_neg h]
    rw [e1, e2] at f2
    rw [e1, if_pos (f2.mpr h)]
    by_cases g : nI p < nI (y - x)
    · rw [if_pos g]
      rw [nI_ltI (by omega) (by omega)] at g
      rw [nI_dn (by omega)]
      exact ⟨_, by omega, rfl⟩
    · rw [if_neg g, nI_dn (by omega)]
      exact ⟨_, by omega, rfl⟩
/-- a choice is none or a thing -/
theorem choose_th {ru : Option aRule} {T S : aSS} {c : Nat} (hw : wfT T) : chooseS ru T S c = -1 ∨ inN (chooseS ru T S c) (tn (T 0 1)) := by
  unfold chooseS
  cases ru with
  | none =>
    show foreS T S (S 0 0 + S 4 c) (tn (T 0 3)) (tn (T 0 3)) = -1 ∨ inN (foreS T S (S 0 0 + S 4 c) (tn (T 0 3)) (tn (T 0 3))) _
    have hh : ∀ j, j ≤ tn (T 0 3) → foreS T S (S 0 0 + S 4 c) (tn (T 0 3)) j = -1 ∨ inN (foreS T S (S 0 0 + S 4 c) (tn (T 0 3)) j) (tn (T 0 1)) := by
      intro j
      induction j with
      | zero => exact fun _ => Or.inl rfl
      | succ j ih =>
        intro h
        unfold foreS
        by_cases hd : dueS T S (tn (T 0 3) - (j + 1)) (S 0 0 + S 4 c)
        · rw [if_pos hd]
          have h1 := (hw.2 (tn (T 0 3) - (j + 1)) (by omega)).1
          refine Or.inr ⟨(T 6 (tn (T 0 3) - (j + 1))).toInt.toNat, by omega, ?_⟩
          refine (nI_of_tn ?_).symm
          intro h2
          rw [Int32.lt_iff_toInt_lt] at h2
          have h3 : (0 : Int32).toInt = 0 := by decide
          omega
        · rw [if_neg hd]
          exact ih (by omega)
    exact hh _ (Nat.le_refl _)
  | some f =>
    rcases fav_in (f := f) (T := T) (S := S) (c := c) (N := tn (T 0 1)) with h | h
    · exact Or.inl h
    · exact Or.inr h
theorem up2_eq {S : aSS} {j k a b : Nat} {v : Int32} : up2 S j k v a b = if a = j ∧ b = k then v else S a b := rfl
theorem wf_cat {ru : Option aRule} {T S : aSS} {k B : Nat} (hT : wfT2 T) (hk : k < tn (T 0 2)) (h : wfS T S B) : wfS T (catS ru T k S) B := by
  unfold catS
  by_cases h1 : nI k = S 0 8
  · rw [if_pos h1]
    exact h
  · rw [if_neg h1]
    by_cases h2 : chooseS ru T S k = -1
    · rw [if_pos h2]
      exact h
    · rw [if_neg h2]
      have h6 : tn (T 0 0) < 31 := (hT.2.1.1.tn (by omega)).1
      have h7 : tn (T 0 1) < 7 := (hT.2.1.2.1.tn (by omega)).1
      have hc := (choose_th (ru := ru) (S := S) (c := k) hT.1).resolve_left h2
      have hc2 := (hc.tn (by omega)).1
      have hp : inN (placeS T S k (tn (chooseS ru T S k))) (tn (T 0 0)) := place_in (hT.2.2.2 k hk).2.1.1 (h.2.1 _ hc2) (h.2.2.1 k hk).1 (by omega)
      unfold walkS
      generalize chooseS ru T S k = t at *
      generalize placeS T S k (tn t) = p at *
      refine ⟨h.1, fun q hq => ?_, fun q hq => ?_, fun q hq => ?_⟩
      · rw [up2_ne (by omega), up2_ne (by omega)]
        exact h.2.1 q hq
      · have hh := h.2.2.1 q hq
        rw [up2_ne (by omega : (4 : Nat) ≠ 3), up2_ne (by omega : (4 : Nat) ≠ 2), up2_ne (by omega : (2 : Nat) ≠ 3)]
        refine ⟨?_, ?_, hh.2.2⟩
        · rw [up2_eq]
          by_cases e : 2 = 2 ∧ q = k
          · rw [if_pos e]
            exact hp
          · rw [if_neg e]
            exact hh.1
        · rw [up2_eq]
          by_cases e : 3 = 3 ∧ q = k
          · rw [if_pos e]
            by_cases e2 : p = S 1 (tn t)
            · rw [if_pos e2]
              exact Or.inr hc
            · rw [if_neg e2]
              exact Or.inl rfl
          · rw [if_neg e, up2_ne (by omega)]
            exact hh.2.1
      · rw [up2_ne (by omega), up2_ne (by omega), up2_ne (by omega), up2_ne (by omega)]
        exact h.2.2.2 q hq
theorem more_in {z : Int32} (h : inN z 1000) : inN (moreS z) 1000 := by
  obtain ⟨j, hj, rfl⟩ := h
  unfold moreS
  by_cases h : 999 < nI j + 1
  · rw [if_pos h]
    exact ⟨999, by omega, rfl⟩
  · rw [if_neg h]
    rw [nI_1, show (999 : Int32) = nI 999 from rfl, nI_ltI (by omega) (by omega)] at h
    exact ⟨j + 1, by omega, nI_1 j⟩
theorem wf_need {T S : aSS} {k B : Nat} (hk : k < tn (T 0 3)) (h : wfS T S B) : wfS T (needS T k S) B := by
  unfold needS settleS
  by_cases h1 : dueS T S k (S 0 0)
  · rw [if_pos h1]
    by_cases h2 : catsOnS (tn (T 0 2)) (S 3) (T 6 k) = 0
    · rw [if_pos h2]
      refine ⟨?_, fun q hq => ?_, fun q hq => ?_, fun q hq => ?_⟩
      · rw [up2_nk (by omega), up2_ne (by omega)]
        exact h.1
      · rw [up2_ne (by omega), up2_ne (by omega)]
        exact h.2.1 q hq
      · rw [up2_ne (by omega), up2_ne (by omega), up2_ne (by omega), up2_ne (by omega), up2_ne (by omega), up2_ne (by omega)]
        exact h.2.2.1 q hq
      · have hh := h.2.2.2 q hq
        rw [up2_ne (show (5 : Nat) ≠ 0 by omega), up2_ne (show (6 : Nat) ≠ 0 by omega), up2_ne (show (6 : Nat) ≠ 5 by omega)]
        refine ⟨?_, hh.2⟩
        rw [up2_eq]
        by_cases e : 5 = 5 ∧ q = k
        · rw [if_pos e, ← e.2]
          exact more_in hh.1
        · rw [if_neg e]
          exact hh.1
    · rw [if_neg h2]
      refine ⟨?_, fun q hq => ?_, fun q hq => ?_, fun q hq => ?_⟩
      · rw [up2_nk (by omega), up2_ne (by omega)]
        exact h.1
      · rw [up2_ne (by omega), up2_ne (by omega)]
        exact h.2.1 q hq
      · rw [up2_ne (by omega), up2_ne (by omega), up2_ne (by omega), up2_ne (by omega), up2_ne (by omega), up2_ne (by omega)]
        exact h.2.2.1 q hq
      · have hh := h.2.2.2 q hq
        rw [up2_ne (show (5 : Nat) ≠ 0 by omega), up2_ne (show (6 : Nat) ≠ 0 by omega), up2_ne (show (5 : Nat) ≠ 6 by omega)]
        refine ⟨hh.1, ?_⟩
        rw [up2_eq]
        by_cases e : 6 = 6 ∧ q = k
        · rw [if_pos e, ← e.2]
          exact more_in hh.2
        · rw [if_neg e]
          exact hh.2
  · rw [if_neg h1]
    exact h
theorem wf_up0 {T S : aSS} {k B : Nat} {v : Int32} (hk : k ≠ 0) (h : wfS T S B) : wfS T (up2 S 0 k v) B := by
  refine ⟨?_, fun q hq => ?_, fun q hq => ?_, fun q hq => ?_⟩
  · rw [up2_nk (by omega)]
    exact h.1
  · rw [up2_ne (by omega)]
    exact h.2.1 q hq
  · rw [up2_ne (by omega), up2_ne (by omega), up2_ne (by omega)]
    exact h.2.2.1 q hq
  · rw [up2_ne (by omega), up2_ne (by omega)]
    exact h.2.2.2 q hq
theorem wf_pass {ru : Option aRule} {T S : aSS} {B : Nat} (hT : wfT2 T) (hB : B < 1000000) (h : wfS T S B) : wfS T (passS ru T S) (B + 1) := by
  have h1 : wfS T (catsS ru T S) B := lp_inv (fun _ S => wfS T S B) h (fun k S hk hh => wf_cat hT hk hh)
  have h2 : wfS T (needsS T (catsS ru T S)) B := lp_inv (fun _ S => wfS T S B) (wf_up0 (by omega) (wf_up0 (by omega) h1)) (fun k S hk hh => wf_need hk hh)
  unfold passS
  generalize needsS T (catsS ru T S) = S1 at *
  refine ⟨?_, fun q hq => ?_, fun q hq => ?_, fun q hq => ?_⟩
  · rw [up2_at]
    obtain ⟨j, hj, e⟩ := h2.1
    exact ⟨j + 1, by omega, by rw [e, nI_1]⟩
  · rw [up2_ne (by omega)]
    exact h2.2.1 q hq
  · rw [up2_ne (by omega), up2_ne (by omega), up2_ne (by omega)]
    exact h2.2.2.1 q hq
  · rw [up2_ne (by omega), up2_ne (by omega)]
    exact h2.2.2.2 q hq
theorem wf_passN {ru : Option aRule} {T S : aSS} {B n : Nat} (hT : wfT2 T) (hB : B + n < 1000000) (h : wfS T S B) : wfS T (passN ru T n S) (B + n) := by
  induction n with
  | zero => exact h
  | succ n ih =>
    have := wf_pass (ru := ru) hT (B := B + n) (by omega) (ih (by omega))
    exact this
theorem wf_beg {T : aSS} (hT : wfT2 T) (B : Nat) : wfS T (begS T) B := by
  have h3 : tn (T 0 2) ≤ 3 := hT.1.1.2.1
  refine ⟨⟨0, by omega, rfl⟩, fun q hq => (hT.2.2.1 q hq).1, fun q hq => ⟨(hT.2.2.2 q hq).1, Or.inl ?_, (hT.2.2.2 q hq).2.2⟩, fun q hq => ⟨⟨0, by omega, rfl⟩, ⟨0, by omega, rfl⟩⟩⟩
  show (if q < 3 then (-1 : Int32) else 0) = -1
  rw [if_pos (by omega)]
