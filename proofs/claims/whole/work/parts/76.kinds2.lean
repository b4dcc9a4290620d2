/-! FACTS and TESTS are of their kinds -/
theorem nil_cok : cok [] := fun _ h => by simp at h
theorem relP_K {n : Nat} {t : Nat → Nat} (hn : n ≤ 400) : knF n true (relP n t) := by
  intro p k hp hk p' c' k' h
  unfold relP at h
  obtain ⟨p1, c1, k1, h1, h2⟩ := pB_ok h
  obtain ⟨x1, x2, x3, x4, x5⟩ := sumP_go hn hp hk nil_cok h1
  obtain ⟨y1, y2, y3⟩ := sumP_K hn _ k hp hk _ _ _ h1
  have hq := skp_le (t := t) x3
  cases hs : cmpC n t (skp n t p1) with
  | none =>
    rw [hs] at h2
    simp at h2
  | some r =>
    obtain ⟨c, z⟩ := r
    obtain ⟨g1, g2, g3, g4⟩ := cmpC_in hs
    rw [hs] at h2
    dsimp only at h2
    by_cases h6 : 60 ≤ k1
    · rw [if_pos h6] at h2
      simp at h2
    · rw [if_neg h6] at h2
      obtain ⟨p2, c2, k2, h3, h4⟩ := pB_ok h2
      rw [pre_nil sumP_H] at h3
      obtain ⟨d2, rfl, h3'⟩ := pre_ok h3
      obtain ⟨z1, z2, z3⟩ := sumP_K hn _ (k1 + 1) g2 (by omega) _ _ _ h3'
      simp only [Except.ok.injEq, Prod.mk.injEq] at h4
      obtain ⟨-, rfl, rfl⟩ := h4
      have e0 := nV_hi (w := c) (by omega)
      exact ⟨fun τ => chk_two (chk_two (y1 _) (z1 _)) (chk_cm g3 g4), vld_app (vld_app y2 z2) (vld_1 (by omega)), by rw [nV_app, nV_app]; omega⟩
theorem facG_K {n : Nat} {t : Nat → Nat} (hn : n ≤ 400) {dp : Option (PF × PF)} (hd : ∀ f, dp = some f → knF n true f.1 ∧ knF n true f.2) : knF n true (facG n t dp) := by
  intro p k hp hk p' c' k' h
  have hq := skp_le (t := t) hp
  unfold facG at h
  dsimp only at h
  generalize skp n t p = q at *
  by_cases h1 : q < n ∧ t q = 91
  · rw [if_pos h1] at h
    cases dp with
    | none => simp at h
    | some f =>
      dsimp only at h
      obtain ⟨p1, c1, k1, h2, h3⟩ := pB_ok h
      have := (hd f rfl).1 _ k (by omega) hk _ _ _ h2
      by_cases h4 : skp n t p1 < n ∧ t (skp n t p1) = 93
      · rw [if_pos h4] at h3
        simp only [Except.ok.injEq, Prod.mk.injEq] at h3
        obtain ⟨-, rfl, rfl⟩ := h3
        exact this
      · rw [if_neg h4] at h3
        simp at h3
  · rw [if_neg h1] at h
    by_cases h2 : wordL n t q = wNot
    · rw [if_pos h2] at h
      cases dp with
      | none => simp at h
      | some f =>
        obtain ⟨w1, w2⟩ := word_end hq.2 (by rw [h2]; decide)
        dsimp only at h
        obtain ⟨p1, c1, k1, h3, h4⟩ := pB_ok h
        obtain ⟨y1, y2, y3⟩ := (hd f rfl).2 _ k w2 hk _ _ _ h3
        simp only [Except.ok.injEq, Prod.mk.injEq] at h4
        obtain ⟨-, rfl, rfl⟩ := h4
        have e0 := nV_hi (w := 200012) (by omega)
        exact ⟨fun τ => chk_two (y1 _) chk_no, vld_app y2 (vld_1 (by omega)), by rw [nV_app]; omega⟩
    · rw [if_neg h2] at h
      exact relP_K hn q k hq.2 hk _ _ _ h
def pdB (b : Bool) (τ : List Bool) : List Bool := match b with
  | false => true :: τ
  | true => true :: true :: τ
theorem or_K {b : Bool} : (∀ τ, chk (orL b) (pdB b τ) = some (true :: τ)) ∧ vld (orL b) ∧ nV (orL b) = 0 := by
  cases b with
  | false => exact ⟨fun τ => rfl, fun w hw => by simp [orL] at hw, rfl⟩
  | true => exact ⟨fun τ => chk_ao (by omega) (by omega), vld_1 (by omega), nV_hi (by omega)⟩
theorem tesL_K {n : Nat} {t : Nat → Nat} (hn : n ≤ 400) {F : PF} (hF : gdF n F) (hH : hom F) (hK : knF n true F) : ∀ f p k b, p ≤ n → k ≤ 60 → knd k (pdB b) (fun τ => true :: τ) (tesL n t F f p [] k b)
  | 0, p, k, b, hp, hk => by
    intro p' c' k' h
    unfold tesL at h
    simp only [List.nil_append, Except.ok.injEq, Prod.mk.injEq] at h
    obtain ⟨-, rfl, rfl⟩ := h
    obtain ⟨e1, e2, e3⟩ := or_K (b := b)
    exact ⟨e1, e2, by omega⟩
  | f + 1, p, k, b, hp, hk => by
    intro p' c' k' h
    have hq := skp_le (t := t) hp
    obtain ⟨e1, e2, e3⟩ := or_K (b := b)
    unfold tesL at h
    cases hs : fndW (wordL n t (skp n t p)) wsAO 0 with
    | none =>
      rw [hs] at h
      simp only [List.nil_append, Except.ok.injEq, Prod.mk.injEq] at h
      obtain ⟨-, rfl, rfl⟩ := h
      exact ⟨e1, e2, by omega⟩
    | some i =>
      obtain ⟨w1, w2⟩ := word_end hq.2 (ao_ne hs)
      rw [hs] at h
      match i with
      | 0 =>
        obtain ⟨p1, c1, k1, h1, h2⟩ := pB_ok h
        obtain ⟨v1, v2, v3, v4, v5, v6⟩ := (hF _ _ _ w2 hk nil_cok).1 _ _ _ h1
        obtain ⟨y1, y2, y3⟩ := hK _ k w2 hk _ _ _ h1
        have h2e : tesL n t F f p1 (c1 ++ [200010]) k1 b = pre (c1 ++ [200010]) (tesL n t F f p1 [] k1 b) := by
          have := tesL_H (n := n) (t := t) hH f p1 (c1 ++ [200010]) [] k1 b
          rw [List.append_nil] at this
          exact this
        rw [h2e] at h2
        obtain ⟨d2, rfl, h2'⟩ := pre_ok h2
        obtain ⟨z1, z2, z3⟩ := tesL_K hn hF hH hK f p1 k1 b v2 v4 _ _ _ h2'
        have e0 := nV_hi (w := 200010) (by omega)
        refine ⟨fun τ => chk_two (chk_two (y1 _) ?_) (z1 τ), vld_app (vld_app y2 (vld_1 (by omega))) z2, by rw [nV_app, nV_app]; omega⟩
        cases b with
        | false => exact chk_ao (by omega) (by omega)
        | true => exact chk_ao (by omega) (by omega)
      | i + 1 =>
        obtain ⟨p1, c1, k1, h1, h2⟩ := pB_ok h
        obtain ⟨v1, v2, v3, v4, v5, v6⟩ := (hF _ _ _ w2 hk (cok_app nil_cok orL_cok)).1 _ _ _ h1
        rw [List.nil_append, pre_nil hH] at h1
        obtain ⟨d1, rfl, h1'⟩ := pre_ok h1
        obtain ⟨y1, y2, y3⟩ := hK _ k w2 hk _ _ _ h1'
        have h2e : tesL n t F f p1 (orL b ++ d1) k1 true = pre (orL b ++ d1) (tesL n t F f p1 [] k1 true) := by
          have := tesL_H (n := n) (t := t) hH f p1 (orL b ++ d1) [] k1 true
          rw [List.append_nil] at this
          exact this
        rw [h2e] at h2
        obtain ⟨d2, rfl, h2'⟩ := pre_ok h2
        obtain ⟨z1, z2, z3⟩ := tesL_K hn hF hH hK f p1 k1 true v2 v4 _ _ _ h2'
        exact ⟨fun τ => chk_two (chk_two (e1 τ) (y1 _)) (z1 τ), vld_app (vld_app e2 y2) z2, by rw [nV_app, nV_app]; omega⟩
theorem tesP_K {n : Nat} {t : Nat → Nat} (hn : n ≤ 400) {F : PF} (hF : gdF n F) (hH : hom F) (hK : knF n true F) : knF n true (tesP n t F) := by
  intro p k hp hk p' c' k' h
  unfold tesP at h
  obtain ⟨p1, c1, k1, h1, h2⟩ := pB_ok h
  obtain ⟨v1, v2, v3, v4, v5, v6⟩ := (hF _ _ _ hp hk nil_cok).1 _ _ _ h1
  obtain ⟨y1, y2, y3⟩ := hK _ k hp hk _ _ _ h1
  have h2e : tesL n t F 400 p1 c1 k1 false = pre c1 (tesL n t F 400 p1 [] k1 false) := by
    have := tesL_H (n := n) (t := t) hH 400 p1 c1 [] k1 false
    rw [List.append_nil] at this
    exact this
  rw [h2e] at h2
  obtain ⟨d2, rfl, h2'⟩ := pre_ok h2
  obtain ⟨z1, z2, z3⟩ := tesL_K hn hF hH hK 400 p1 k1 false v2 v4 _ _ _ h2'
  exact ⟨fun τ => chk_two (y1 _) (z1 τ), vld_app y2 z2, by rw [nV_app]; omega⟩
theorem facF_K {n : Nat} {t : Nat → Nat} (hn : n ≤ 400) : ∀ r, knF n true (facF n t r)
  | 0 => facG_K hn (fun f h => by simp at h)
  | r + 1 => facG_K hn (fun f h => by
      have : f = (tesP n t (facF n t r), facF n t r) := (Option.some.inj h).symm
      subst this
      exact ⟨tesP_K hn (facF_G hn r) (facF_H r) (facF_K hn r), facF_K hn r⟩)
/-- a clause as read -/
def clK (k k' : Nat) (c : aCl2) : Prop := clOk c ∧ nV c.1 + nV (c.2.getD []) + k ≤ k'
theorem claP_K {n p k p' k' : Nat} {t : Nat → Nat} {c : aCl2} (hn : n ≤ 400) (hp : p ≤ n) (hk : k ≤ 60) (h : claP n t p k = .ok (p', c, k')) : clK k k' c ∧ p ≤ p' ∧ p' ≤ n ∧ k ≤ k' ∧ k' ≤ 60 ∧ cok c.1 ∧ cok (c.2.getD []) := by
  unfold claP at h
  cases hs : sumP n t p [] k with
  | error e => rw [hs] at h; simp at h
  | ok r =>
    obtain ⟨p1, c1, k1⟩ := r
    obtain ⟨x1, x2, x3, x4, x5⟩ := sumP_go hn hp hk nil_cok hs
    obtain ⟨y1, y2, y3⟩ := sumP_K hn _ k hp hk _ _ _ hs
    have hq := skp_le (t := t) x3
    rw [hs] at h
    dsimp only at h
    by_cases hw : wordL n t (skp n t p1) = wIf
    · rw [if_pos hw] at h
      obtain ⟨w1, w2⟩ := word_end hq.2 (by rw [hw]; decide)
      cases ht : tesP n t (facF n t 10) (runE isLo n t (skp n t p1)) [] k1 with
      | error e => rw [ht] at h; simp at h
      | ok r2 =>
        obtain ⟨p2, c2, k2⟩ := r2
        obtain ⟨v1, v2, v3, v4, v5, v6⟩ := (tesP_G hn (facF_G hn 10) _ _ _ w2 x4 nil_cok).1 _ _ _ ht
        obtain ⟨z1, z2, z3⟩ := tesP_K hn (facF_G hn 10) (facF_H 10) (facF_K hn 10) _ k1 w2 x4 _ _ _ ht
        rw [ht] at h
        simp only [Except.ok.injEq, Prod.mk.injEq] at h
        obtain ⟨rfl, rfl, rfl⟩ := h
        refine ⟨⟨⟨⟨y1 [], y2⟩, fun x hx => ?_⟩, ?_⟩, by omega, v2, by omega, v4, x5, v6⟩
        · have ex : c2 = x := Option.some.inj hx
          subst ex
          refine ⟨⟨z1 [], fun e => ?_⟩, z2⟩
          have := z1 []
          rw [e] at this
          simp [chk] at this
        · show nV c1 + nV c2 + k ≤ k2
          omega
    · rw [if_neg hw] at h
      simp only [Except.ok.injEq, Prod.mk.injEq] at h
      obtain ⟨rfl, rfl, rfl⟩ := h
      refine ⟨⟨⟨⟨y1 [], y2⟩, fun x hx => by simp at hx⟩, ?_⟩, by omega, hq.2, by omega, x4, x5, nil_cok⟩
      show nV c1 + nV [] + k ≤ k1
      have : nV [] = 0 := rfl
      omega
