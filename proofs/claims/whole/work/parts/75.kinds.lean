/-! what is read is of the kinds that it must be -/
theorem chk_app : ∀ (a b : List Nat) (τ : List Bool), chk (a ++ b) τ = (chk a τ).bind (chk b)
  | [], _, _ => rfl
  | w :: a, b, τ => by
    show chk (w :: (a ++ b)) τ = (chk (w :: a) τ).bind (chk b)
    unfold chk
    by_cases h : w < 200000
    · rw [if_pos h, if_pos h]
      exact chk_app a b _
    · rw [if_neg h, if_neg h]
      match τ with
      | [] => rfl
      | [x] =>
        dsimp only
        split
        · exact chk_app a b _
        · rfl
      | x :: y :: r =>
        dsimp only
        split
        · split
          · exact chk_app a b _
          · rfl
        · split
          · split
            · exact chk_app a b _
            · rfl
          · split
            · split
              · exact chk_app a b _
              · rfl
            · split
              · split
                · exact chk_app a b _
                · rfl
              · rfl
theorem chk_two {a b : List Nat} {τ σ ρ : List Bool} (h : chk a τ = some σ) (g : chk b σ = some ρ) : chk (a ++ b) τ = some ρ := by
  rw [chk_app, h]
  exact g
/-- how many VALUES -/
def nV (c : List Nat) : Nat := (c.filter (fun w => decide (w < 200000))).length
theorem nV_app {a b : List Nat} : nV (a ++ b) = nV a + nV b := by
  unfold nV
  rw [List.filter_append, List.length_append]
theorem nV_hi {w : Nat} (h : 200000 ≤ w) : nV [w] = 0 := by
  unfold nV
  rw [List.filter_cons_of_neg (by simp; omega)]
  rfl
theorem nV_lo {w : Nat} (h : w < 200000) : nV [w] = 1 := by
  unfold nV
  rw [List.filter_cons_of_pos (by simp; omega)]
  rfl
abbrev vld (c : List Nat) : Prop := ∀ w, w ∈ c → w < 100011 ∨ 200000 ≤ w
theorem vld_app {a b : List Nat} (h : vld a) (g : vld b) : vld (a ++ b) := fun w hw => (List.mem_append.mp hw).elim (h w) (g w)
theorem vld_1 {w : Nat} (h : w < 100011 ∨ 200000 ≤ w) : vld [w] := fun v hv => by
  rw [List.mem_singleton] at hv
  rw [hv]
  exact h
/-- behind what lies there already (σ to ρ) -/
def knd (k : Nat) (f : List Bool → List Bool) (g : List Bool → List Bool) (x : PR) : Prop := ∀ p' c' k', x = .ok (p', c', k') → (∀ τ, chk c' (f τ) = some (g τ)) ∧ vld c' ∧ nV c' + k ≤ k'
abbrev knF (n : Nat) (v : Bool) (F : PF) : Prop := ∀ p k, p ≤ n → k ≤ 60 → knd k (fun τ => τ) (fun τ => v :: τ) (F p [] k)
theorem pre_nil {F : PF} (h : hom F) {p k : Nat} {cs : List Nat} : F p cs k = pre cs (F p [] k) := by
  have := h p cs [] k
  rw [List.append_nil] at this
  exact this
theorem pre_ok {a : List Nat} {x : PR} {p' k' : Nat} {c' : List Nat} (h : pre a x = .ok (p', c', k')) : ∃ c, c' = a ++ c ∧ x = .ok (p', c, k') := by
  cases x with
  | error e => simp [pre] at h
  | ok r =>
    simp only [pre, Except.ok.injEq, Prod.mk.injEq] at h
    obtain ⟨h1, h2, h3⟩ := h
    refine ⟨r.2.1, h2.symm, ?_⟩
    obtain ⟨r1, r2, r3⟩ := r
    dsimp only at h1 h3 ⊢
    rw [h1, h3]
theorem pB_ok {x : PR} {f : PF} {p' k' : Nat} {c' : List Nat} (h : pB x f = .ok (p', c', k')) : ∃ p1 c1 k1, x = .ok (p1, c1, k1) ∧ f p1 c1 k1 = .ok (p', c', k') := by
  cases x with
  | error e => simp [pB] at h
  | ok r => exact ⟨_, _, _, rfl, h⟩
theorem chk_val {w : Nat} (h : w < 200000) {τ : List Bool} : chk [w] τ = some (false :: τ) := by
  unfold chk
  rw [if_pos h]
  rfl
theorem chk_op {w : Nat} (h : 200000 ≤ w) (h2 : w < 200005) {τ : List Bool} : chk [w] (false :: false :: τ) = some (false :: τ) := by
  unfold chk
  rw [if_neg (by omega)]
  dsimp only
  rw [if_neg (by omega), if_pos h2, if_pos ⟨rfl, rfl⟩]
  rfl
theorem chk_cm {w : Nat} (h : 200005 ≤ w) (h2 : w < 200010) {τ : List Bool} : chk [w] (false :: false :: τ) = some (true :: τ) := by
  unfold chk
  rw [if_neg (by omega)]
  dsimp only
  rw [if_neg (by omega), if_neg (by omega), if_pos h2, if_pos ⟨rfl, rfl⟩]
  rfl
theorem chk_ao {w : Nat} (h : 200010 ≤ w) (h2 : w < 200012) {τ : List Bool} : chk [w] (true :: true :: τ) = some (true :: τ) := by
  unfold chk
  rw [if_neg (by omega)]
  dsimp only
  rw [if_neg (by omega), if_neg (by omega), if_neg (by omega), if_pos h2, if_pos ⟨rfl, rfl⟩]
  rfl
theorem chk_no : ∀ {τ : List Bool}, chk [200012] (true :: τ) = some (true :: τ)
  | [] => rfl
  | _ :: _ => rfl
theorem valP_K {n : Nat} {t : Nat → Nat} : knF n false (valP n t) := by
  intro p k hp hk p' c' k' h
  have hq := skp_le (t := t) hp
  unfold valP at h
  dsimp only at h
  generalize skp n t p = q at *
  by_cases hd : digA n t q = true
  · rw [if_pos hd] at h
    have hv := numV_lt (t := t) hq.2
    by_cases h5 : 5 < digE n t q - q
    · rw [if_pos h5] at h
      simp at h
    · rw [if_neg h5] at h
      by_cases h6 : 60 ≤ k
      · rw [if_pos h6] at h
        simp at h
      · rw [if_neg h6] at h
        simp only [List.nil_append, Except.ok.injEq, Prod.mk.injEq] at h
        obtain ⟨-, rfl, rfl⟩ := h
        exact ⟨fun τ => chk_val (by omega), vld_1 (by omega), by rw [nV_lo (by omega)]; omega⟩
  · rw [if_neg hd] at h
    cases hf : fndW (wordL n t q) wsWord 0 with
    | none =>
      rw [hf] at h
      simp at h
    | some i =>
      obtain ⟨g1, g2, g3⟩ := fnd_word _ _ _ hf
      have g4 : i < 11 := by
        rw [show wsWord.length = 11 from rfl] at g3
        omega
      rw [hf] at h
      dsimp only at h
      by_cases h6 : 60 ≤ k
      · rw [if_pos h6] at h
        simp at h
      · rw [if_neg h6] at h
        simp only [List.nil_append, Except.ok.injEq, Prod.mk.injEq] at h
        obtain ⟨-, rfl, rfl⟩ := h
        exact ⟨fun τ => chk_val (by omega), vld_1 (by omega), by rw [nV_lo (by omega)]; omega⟩
def pdW (w : Option Nat) (τ : List Bool) : List Bool := match w with
  | none => false :: τ
  | some _ => false :: false :: τ
theorem wl_K {w : Option Nat} (h : ∀ i, w = some i → i < 5) : (∀ τ, chk (wl w) (pdW w τ) = some (false :: τ)) ∧ vld (wl w) ∧ nV (wl w) = 0 := by
  cases w with
  | none => exact ⟨fun τ => rfl, fun w hw => by simp [wl] at hw, rfl⟩
  | some i =>
    have := h i rfl
    exact ⟨fun τ => chk_op (by omega) (by omega), vld_1 (by omega), nV_hi (by omega)⟩
theorem sumL_K {n : Nat} {t : Nat → Nat} (hn : n ≤ 400) : ∀ f p k w, p ≤ n → k ≤ 60 → (∀ i, w = some i → i < 5) → knd k (pdW w) (fun τ => false :: τ) (sumL n t f p [] k w)
  | 0, p, k, w, hp, hk, hw => by
    intro p' c' k' h
    unfold sumL at h
    simp only [List.nil_append, Except.ok.injEq, Prod.mk.injEq] at h
    obtain ⟨-, rfl, rfl⟩ := h
    obtain ⟨e1, e2, e3⟩ := wl_K hw
    exact ⟨e1, e2, by omega⟩
  | f + 1, p, k, w, hp, hk, hw => by
    intro p' c' k' h
    have hq := skp_le (t := t) hp
    obtain ⟨e1, e2, e3⟩ := wl_K hw
    unfold sumL at h
    cases hs : sgnP n t (skp n t p) ops with
    | none =>
      rw [hs] at h
      simp only [List.nil_append, Except.ok.injEq, Prod.mk.injEq] at h
      obtain ⟨-, rfl, rfl⟩ := h
      exact ⟨e1, e2, by omega⟩
    | some i =>
      obtain ⟨g1, g2⟩ := sgnP_in hs
      have g3 : i < 5 := g2
      rw [hs] at h
      dsimp only at h
      by_cases hi : i < 2
      · rw [if_pos hi] at h
        obtain ⟨p1, c1, k1, h1, h2⟩ := pB_ok h
        obtain ⟨v1, v2, v3, v4, v5⟩ := valP_go hn (by omega) hk (cok_app (fun _ h => by simp at h) (wl_cok hw)) h1
        rw [List.nil_append, pre_nil valP_H] at h1
        obtain ⟨d1, rfl, h1'⟩ := pre_ok h1
        obtain ⟨y1, y2, y3⟩ := valP_K _ k (by omega) hk _ _ _ h1'
        have h2e : sumL n t f p1 (wl w ++ d1) k1 (some i) = pre (wl w ++ d1) (sumL n t f p1 [] k1 (some i)) := by
          have := sumL_H (n := n) (t := t) f p1 (wl w ++ d1) [] k1 (some i)
          rw [List.append_nil] at this
          exact this
        rw [h2e] at h2
        obtain ⟨d2, rfl, h2'⟩ := pre_ok h2
        obtain ⟨z1, z2, z3⟩ := sumL_K hn f p1 k1 (some i) v2 v4 (fun j hj => by have : i = j := Option.some.inj hj; omega) _ _ _ h2'
        exact ⟨fun τ => chk_two (chk_two (e1 τ) (y1 _)) (z1 τ), vld_app (vld_app e2 y2) z2, by rw [nV_app, nV_app]; omega⟩
      · rw [if_neg hi] at h
        obtain ⟨p1, c1, k1, h1, h2⟩ := pB_ok h
        obtain ⟨v1, v2, v3, v4, v5⟩ := valP_go hn (by omega) hk (fun _ h => by simp at h) h1
        obtain ⟨y1, y2, y3⟩ := valP_K _ k (by omega) hk _ _ _ h1
        have h2e : sumL n t f p1 (c1 ++ [200000 + i]) k1 w = pre (c1 ++ [200000 + i]) (sumL n t f p1 [] k1 w) := by
          have := sumL_H (n := n) (t := t) f p1 (c1 ++ [200000 + i]) [] k1 w
          rw [List.append_nil] at this
          exact this
        rw [h2e] at h2
        obtain ⟨d2, rfl, h2'⟩ := pre_ok h2
        obtain ⟨z1, z2, z3⟩ := sumL_K hn f p1 k1 w v2 v4 hw _ _ _ h2'
        have e0 := nV_hi (w := 200000 + i) (by omega)
        refine ⟨fun τ => chk_two (chk_two (y1 _) ?_) (z1 τ), vld_app (vld_app y2 (vld_1 (by omega))) z2, by rw [nV_app, nV_app]; omega⟩
        cases w with
        | none => exact chk_op (by omega) (by omega)
        | some j => exact chk_op (by omega) (by omega)
theorem sumP_K {n : Nat} {t : Nat → Nat} (hn : n ≤ 400) : knF n false (sumP n t) := by
  intro p k hp hk p' c' k' h
  unfold sumP at h
  obtain ⟨p1, c1, k1, h1, h2⟩ := pB_ok h
  obtain ⟨v1, v2, v3, v4, v5⟩ := valP_go hn hp hk (fun _ h => by simp at h) h1
  obtain ⟨y1, y2, y3⟩ := valP_K _ k hp hk _ _ _ h1
  have h2e : sumL n t 400 p1 c1 k1 none = pre c1 (sumL n t 400 p1 [] k1 none) := by
    have := sumL_H (n := n) (t := t) 400 p1 c1 [] k1 none
    rw [List.append_nil] at this
    exact this
  rw [h2e] at h2
  obtain ⟨d2, rfl, h2'⟩ := pre_ok h2
  obtain ⟨z1, z2, z3⟩ := sumL_K hn 400 p1 k1 none v2 v4 (fun j hj => by simp at hj) _ _ _ h2'
  exact ⟨fun τ => chk_two (y1 _) (z1 τ), vld_app y2 z2, by rw [nV_app]; omega⟩
