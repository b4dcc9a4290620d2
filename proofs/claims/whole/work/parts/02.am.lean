/-! THE ABSTRACT MACHINE: values whose references are names; locals and stack as lists; a memory of any kind. -/
/-- what is fixed: classes' numbers and slots; numbers: 0 where our cells begin, 1.. array classes, 50 the script, 60, 61 the formatter, 100.. String constants, 200.. their bytes -/
abbrev aG : Type := va_G × (Nat → Nat)
def aLoc (G : aG) (k : Nat) : Nat := if k < 1000000 then G.2 0 + k else G.2 (k - 1000000)
def aV (G : aG) (v : Value) : Value := match v with
  | .ref k => .ref (aLoc G k)
  | .retAddr _ => if G.2 61 = 0 then .null else .ref (G.2 60)
  | v => v
theorem aV_cat (G : aG) (v : Value) : (aV G v).category = v.category := by
  cases v <;> first | rfl | (simp only [aV]; split <;> rfl)
theorem aV_sum (G : aG) (l : List Value) : ((l.map (aV G)).map fun v => v.category).sum = (l.map fun v => v.category).sum := by
  induction l with
  | nil => rfl
  | cons a l ih => simp only [List.map_cons, List.sum_cons, aV_cat, ih]
def aU : Value := .float 0
def lget : List Value → Nat → Value
  | [], _ => aU
  | a :: _, 0 => a
  | _ :: l, n + 1 => lget l n
def aKill (v : Value) : Value := match v with
  | .long _ => aU
  | .double _ => aU
  | v => v
def lput : List Value → Nat → Value → List Value
  | [], _, _ => []
  | _ :: l, 0, v => v :: l
  | a :: l, n + 1, v => (if n = 0 then aKill a else a) :: lput l n v
def lput2 : List Value → Nat → Value → List Value
  | [], _, _ => []
  | [_], 0, v => [v]
  | _ :: _ :: l, 0, v => v :: aU :: l
  | a :: l, n + 1, v => (if n = 0 then aKill a else a) :: lput2 l n v
def aLZ (G : aG) (av : List Value) (ls : Array Slot) : Prop := ls.size = av.length ∧ lv_wf ls ∧ ∀ (i : Nat) (v : Value), av[i]? = some v → v ≠ aU → ls[i]? = some (.val (aV G v))
theorem lget_eq : ∀ (l : List Value) (i : Nat), lget l i ≠ aU → l[i]? = some (lget l i)
  | [], i, h => absurd rfl h
  | a :: l, 0, _ => rfl
  | a :: l, n + 1, h => by
    rw [List.getElem?_cons_succ]
    exact lget_eq l n h
theorem aLZ.at {G : aG} {av : List Value} {ls : Array Slot} (h : aLZ G av ls) {i : Nat} (hv : lget av i ≠ aU) : ls[i]? = some (.val (aV G (lget av i))) := h.2.2 i _ (lget_eq av i hv) hv
theorem lput_len : ∀ (l : List Value) (i : Nat) (v : Value), (lput l i v).length = l.length
  | [], _, _ => rfl
  | _ :: l, 0, v => rfl
  | a :: l, n + 1, v => by simp only [lput, List.length_cons, lput_len l n v]
theorem lput2_len : ∀ (l : List Value) (i : Nat) (v : Value), (lput2 l i v).length = l.length
  | [], _, _ => rfl
  | [_], 0, v => rfl
  | _ :: _ :: l, 0, v => rfl
  | [a], n + 1, v => by simp only [lput2, List.length_cons, lput2_len [] n v]
  | a :: b :: l, n + 1, v => by simp only [lput2, List.length_cons, lput2_len (b :: l) n v]
theorem lput_get : ∀ (l : List Value) (i : Nat) (v : Value) (j : Nat) (w : Value), (lput l i v)[j]? = some w → (j = i ∧ w = v) ∨ (j ≠ i ∧ ∃ a, l[j]? = some a ∧ w = if j + 1 = i then aKill a else a)
  | [], _, _, j, w, h => by simp [lput] at h
  | a :: l, 0, v, j, w, h => by
    cases j with
    | zero => simp [lput] at h; exact Or.inl ⟨rfl, h.symm⟩
    | succ j =>
      simp only [lput, List.getElem?_cons_succ] at h
      exact Or.inr ⟨by omega, w, by rw [List.getElem?_cons_succ]; exact h, by rw [if_neg (by omega)]⟩
  | a :: l, n + 1, v, j, w, h => by
    cases j with
    | zero =>
      simp only [lput, List.getElem?_cons_zero, Option.some.injEq] at h
      refine Or.inr ⟨by omega, a, rfl, ?_⟩
      rw [← h]
      by_cases hn : n = 0
      · rw [if_pos hn, if_pos (by omega)]
      · rw [if_neg hn, if_neg (by omega)]
    | succ j =>
      simp only [lput, List.getElem?_cons_succ] at h
      rcases lput_get l n v j w h with ⟨h1, h2⟩ | ⟨h1, b, h2, h3⟩
      · exact Or.inl ⟨by omega, h2⟩
      · refine Or.inr ⟨by omega, b, by rw [List.getElem?_cons_succ]; exact h2, ?_⟩
        rw [h3]
        by_cases hj : j + 1 = n
        · rw [if_pos hj, if_pos (by omega)]
        · rw [if_neg hj, if_neg (by omega)]
theorem lput2_get : ∀ (l : List Value) (i : Nat) (v : Value) (j : Nat) (w : Value), (lput2 l i v)[j]? = some w → w ≠ aU → (j = i ∧ w = v) ∨ (j ≠ i ∧ j ≠ i + 1 ∧ ∃ a, l[j]? = some a ∧ w = if j + 1 = i then aKill a else a)
  | [], _, _, j, w, h, _ => by simp [lput2] at h
  | [a], 0, v, j, w, h, _ => by
    cases j with
    | zero => simp [lput2] at h; exact Or.inl ⟨rfl, h.symm⟩
    | succ j => simp [lput2] at h
  | a :: b :: l, 0, v, j, w, h, hw => by
    cases j with
    | zero => simp [lput2] at h; exact Or.inl ⟨rfl, h.symm⟩
    | succ j =>
      cases j with
      | zero => simp [lput2] at h; exact absurd h.symm hw
      | succ j =>
        simp only [lput2, List.getElem?_cons_succ] at h
        exact Or.inr ⟨by omega, by omega, w, by rw [List.getElem?_cons_succ, List.getElem?_cons_succ]; exact h, by rw [if_neg (by omega)]⟩
  | [a], n + 1, v, j, w, h, hw => by
    cases j with
    | zero =>
      simp only [lput2, List.getElem?_cons_zero, Option.some.injEq] at h
      refine Or.inr ⟨by omega, by omega, a, rfl, ?_⟩
      rw [← h]
      by_cases hn : n = 0
      · rw [if_pos hn, if_pos (by omega)]
      · rw [if_neg hn, if_neg (by omega)]
    | succ j =>
      simp only [lput2, List.getElem?_cons_succ] at h
      simp at h
  | a :: b :: l, n + 1, v, j, w, h, hw => by
    cases j with
    | zero =>
      simp only [lput2, List.getElem?_cons_zero, Option.some.injEq] at h
      refine Or.inr ⟨by omega, by omega, a, rfl, ?_⟩
      rw [← h]
      by_cases hn : n = 0
      · rw [if_pos hn, if_pos (by omega)]
      · rw [if_neg hn, if_neg (by omega)]
    | succ j =>
      simp only [lput2, List.getElem?_cons_succ] at h
      rcases lput2_get (b :: l) n v j w h hw with ⟨h1, h2⟩ | ⟨h1, h1', c, h2, h3⟩
      · exact Or.inl ⟨by omega, h2⟩
      · refine Or.inr ⟨by omega, by omega, c, by rw [List.getElem?_cons_succ]; exact h2, ?_⟩
        rw [h3]
        by_cases hj : j + 1 = n
        · rw [if_pos hj, if_pos (by omega)]
        · rw [if_neg hj, if_neg (by omega)]
theorem aKill_real {a w : Value} (hw : w = aKill a) (h : w ≠ aU) : w = a ∧ ¬ a.category = 2 := by
  subst hw
  cases a <;> first | (refine ⟨rfl, ?_⟩; simp [Value.category]; done) | exact absurd rfl h
theorem aLZ.store1 {G : aG} {av : List Value} {ls : Array Slot} (h : aLZ G av ls) {i : Nat} {v : Value} (hi : i < av.length) (hc : v.category = 1) :
    ∃ ls', storeLocals ls i (aV G v) = some ls' ∧ aLZ G (lput av i v) ls' := by
  have h0 : lv_has ls av.length [] := ⟨h.1, h.2.1, fun q hq => by cases hq⟩
  obtain ⟨ls', e', h'⟩ := lv_store1 (v := aV G v) h0 hi (by rw [aV_cat]; exact hc)
  refine ⟨ls', e', h'.1.trans (lput_len _ _ _).symm, h'.2.1, fun j w hj hw => ?_⟩
  rcases lput_get av i v j w hj with ⟨h1, h2⟩ | ⟨h1, a, h2, h3⟩
  · subst h1; subst h2
    exact h'.2.2 (j, aV G w) List.mem_cons_self
  · have hr : w = a ∧ ¬ (j + 1 = i ∧ a.category = 2) := by
      by_cases hj : j + 1 = i
      · rw [if_pos hj] at h3
        obtain ⟨q1, q2⟩ := aKill_real h3 hw
        exact ⟨q1, fun z => q2 z.2⟩
      · rw [if_neg hj] at h3
        exact ⟨h3, fun z => hj z.1⟩
    obtain ⟨rfl, hk⟩ := hr
    have hl : lv_has ls av.length [(j, aV G w)] := ⟨h.1, h.2.1, fun q hq => by
      rw [List.mem_singleton.mp hq]
      exact h.2.2 j w h2 hw⟩
    obtain ⟨ls2, e2, g2⟩ := lv_store1 (v := aV G v) hl hi (by rw [aV_cat]; exact hc)
    rw [e'] at e2
    cases e2
    refine g2.2.2 (j, aV G w) (List.mem_cons_of_mem _ (List.mem_filter.mpr ⟨List.mem_cons_self, ?_⟩))
    have hk2 : ¬ (j + 1 = i ∧ (aV G w).category = 2) := by rw [aV_cat]; exact hk
    simp only [Bool.and_eq_true, Bool.not_eq_true', beq_eq_false_iff_ne, ne_eq, Bool.and_eq_false_iff]
    refine ⟨h1, ?_⟩
    by_cases z : j + 1 = i
    · exact Or.inr fun q => hk2 ⟨z, q⟩
    · exact Or.inl z
theorem aLZ.store2 {G : aG} {av : List Value} {ls : Array Slot} (h : aLZ G av ls) {i : Nat} {v : Value} (hi : i + 1 < av.length) (hc : v.category = 2) :
    ∃ ls', storeLocals ls i (aV G v) = some ls' ∧ aLZ G (lput2 av i v) ls' := by
  have h0 : lv_has ls av.length [] := ⟨h.1, h.2.1, fun q hq => by cases hq⟩
  obtain ⟨ls', e', h'⟩ := lv_store2 (v := aV G v) h0 hi (by rw [aV_cat]; exact hc)
  refine ⟨ls', e', h'.1.trans (lput2_len _ _ _).symm, h'.2.1, fun j w hj hw => ?_⟩
  rcases lput2_get av i v j w hj hw with ⟨h1, h2⟩ | ⟨h1, h1', a, h2, h3⟩
  · subst h1; subst h2
    exact h'.2.2 (j, aV G w) List.mem_cons_self
  · have hr : w = a ∧ ¬ (j + 1 = i ∧ a.category = 2) := by
      by_cases hj : j + 1 = i
      · rw [if_pos hj] at h3
        obtain ⟨q1, q2⟩ := aKill_real h3 hw
        exact ⟨q1, fun z => q2 z.2⟩
      · rw [if_neg hj] at h3
        exact ⟨h3, fun z => hj z.1⟩
    obtain ⟨rfl, hk⟩ := hr
    have hl : lv_has ls av.length [(j, aV G w)] := ⟨h.1, h.2.1, fun q hq => by
      rw [List.mem_singleton.mp hq]
      exact h.2.2 j w h2 hw⟩
    obtain ⟨ls2, e2, g2⟩ := lv_store2 (v := aV G v) hl hi (by rw [aV_cat]; exact hc)
    rw [e'] at e2
    cases e2
    refine g2.2.2 (j, aV G w) (List.mem_cons_of_mem _ (List.mem_filter.mpr ⟨List.mem_cons_self, ?_⟩))
    have hk2 : ¬ (j + 1 = i ∧ (aV G w).category = 2) := by rw [aV_cat]; exact hk
    simp only [Bool.and_eq_true, Bool.not_eq_true', beq_eq_false_iff_ne, ne_eq, Bool.and_eq_false_iff]
    refine ⟨h1, h1', ?_⟩
    by_cases z : j + 1 = i
    · exact Or.inr fun q => hk2 ⟨z, q⟩
    · exact Or.inl z
/-- the locals, of the method's number -/
def aLR (G : aG) (N : Nat) (av : List Value) (ls : Array Slot) : Prop := aLZ G av ls ∧ av.length = N
theorem aLR.at {G : aG} {N : Nat} {av : List Value} {ls : Array Slot} (h : aLR G N av ls) {i : Nat} (hv : lget av i ≠ aU) : ls[i]? = some (.val (aV G (lget av i))) := h.1.at hv
theorem aLR.size {G : aG} {N : Nat} {av : List Value} {ls : Array Slot} (h : aLR G N av ls) : ls.size = N := h.1.1.trans h.2
theorem aLR.store1 {G : aG} {N : Nat} {av : List Value} {ls : Array Slot} (h : aLR G N av ls) {i : Nat} {v : Value} (hi : i < av.length) (hc : v.category = 1) :
    ∃ ls', storeLocals ls i (aV G v) = some ls' ∧ aLR G N (lput av i v) ls' := by
  obtain ⟨ls', e, h'⟩ := h.1.store1 hi hc
  exact ⟨ls', e, h', (lput_len _ _ _).trans h.2⟩
theorem aLR.store2 {G : aG} {N : Nat} {av : List Value} {ls : Array Slot} (h : aLR G N av ls) {i : Nat} {v : Value} (hi : i + 1 < av.length) (hc : v.category = 2) :
    ∃ ls', storeLocals ls i (aV G v) = some ls' ∧ aLR G N (lput2 av i v) ls' := by
  obtain ⟨ls', e, h'⟩ := h.1.store2 hi hc
  exact ⟨ls', e, h', (lput2_len _ _ _).trans h.2⟩
