/-! the language of rules and rooms: what a text says, as a function of its bytes -/
theorem twF_off {w : List Nat} {r : List Nat} {m : Nat} : ∀ (u : List Nat), (∀ c, c ∈ u → c ≠ 32) → twF w (u ++ 32 :: r) m 0 = twF w r (m + 1) 1 ∧ twF w u m 0 = none
  | [], _ => ⟨by show (if (32 : Nat) = 32 then _ else _) = _; rw [if_pos rfl, if_neg (by omega)], by show (if _ then _ else _) = _; rw [if_neg (by omega)]⟩
  | c :: u, h => by
    have hc := h c List.mem_cons_self
    have ih := twF_off (w := w) (r := r) (m := m) u (fun d hd => h d (List.mem_cons_of_mem _ hd))
    refine ⟨?_, ?_⟩
    · show (if c = 32 then _ else if _ then _ else twF w (u ++ 32 :: r) m 0) = _
      rw [if_neg hc, if_neg (by omega)]
      exact ih.1
    · show (if c = 32 then _ else if _ then _ else twF w u m 0) = _
      rw [if_neg hc, if_neg (by omega)]
      exact ih.2
theorem twF_on {w : List Nat} {r : List Nat} {m : Nat} : ∀ (u a : List Nat), (∀ c, c ∈ u → c ≠ 32) → a ++ u ≠ [] → w.take a.length = a → a.length ≤ w.length → twF w (u ++ 32 :: r) m (a.length + 1) = (if w = a ++ u then some m else twF w r (m + 1) 1) ∧ twF w u m (a.length + 1) = if w = a ++ u then some m else none
  | [], a, _, hne, ht, hl => by
    have h0 : 0 < a.length := by
      rcases a with _ | ⟨b, a⟩
      · exact absurd rfl hne
      · simp
    have e : (1 < a.length + 1 ∧ a.length + 1 - 1 = w.length) ↔ w = a ++ [] := by
      rw [List.append_nil]
      refine ⟨fun h => ?_, fun h => ⟨by omega, by rw [h]; rfl⟩⟩
      rw [← ht, List.take_of_length_le (by omega)]
    refine ⟨?_, ?_⟩
    · show (if (32 : Nat) = 32 then (if _ then _ else _) else _) = _
      rw [if_pos rfl]
      by_cases h : w = a ++ []
      · rw [if_pos h, if_pos (e.mpr h)]
      · rw [if_neg h, if_neg (fun y => h (e.mp y))]
    · show (if _ then _ else _) = _
      by_cases h : w = a ++ []
      · rw [if_pos h, if_pos (e.mpr h)]
      · rw [if_neg h, if_neg (fun y => h (e.mp y))]
  | c :: u, a, h, hne, ht, hl => by
    have hc := h c List.mem_cons_self
    have hu : ∀ d, d ∈ u → d ≠ 32 := fun d hd => h d (List.mem_cons_of_mem _ hd)
    by_cases hm : a.length < w.length ∧ w.getD a.length 0 = c
    · have ht2 : w.take (a ++ [c]).length = a ++ [c] := by
        rw [List.length_append, List.length_singleton, List.take_succ, ht]
        congr 1
        have h1 := hm.2
        simp only [List.getD, List.getElem?_eq_getElem hm.1, Option.getD_some] at h1
        rw [List.getElem?_eq_getElem hm.1, h1]
        rfl
      have ih := twF_on (w := w) (r := r) (m := m) u (a ++ [c]) hu (by simp) ht2 (by simp; omega)
      rw [List.append_assoc, List.length_append, List.length_singleton] at ih
      refine ⟨?_, ?_⟩
      · show (if c = 32 then _ else if _ then twF w (u ++ 32 :: r) m (a.length + 1 + 1) else _) = _
        rw [if_neg hc, if_pos ⟨by omega, by rw [Nat.add_sub_cancel]; exact hm.1, by rw [Nat.add_sub_cancel]; exact hm.2⟩]
        exact ih.1
      · show (if c = 32 then _ else if _ then twF w u m (a.length + 1 + 1) else _) = _
        rw [if_neg hc, if_pos ⟨by omega, by rw [Nat.add_sub_cancel]; exact hm.1, by rw [Nat.add_sub_cancel]; exact hm.2⟩]
        exact ih.2
    · have hw : ¬ w = a ++ c :: u := fun e => hm (by
        rw [e]
        refine ⟨by simp, ?_⟩
        simp [List.getD])
      have ho := twF_off (w := w) (r := r) (m := m) u hu
      refine ⟨?_, ?_⟩
      · show (if c = 32 then _ else if _ then _ else twF w (u ++ 32 :: r) m 0) = _
        rw [if_neg hc, if_neg (fun y => hm (by rw [Nat.add_sub_cancel] at y; exact y.2)), if_neg hw]
        exact ho.1
      · show (if c = 32 then _ else if _ then _ else twF w u m 0) = _
        rw [if_neg hc, if_neg (fun y => hm (by rw [Nat.add_sub_cancel] at y; exact y.2)), if_neg hw]
        exact ho.2
/-- which of these names w is -/
def fndW (w : List Nat) : List (List Nat) → Nat → Option Nat
  | [], _ => none
  | u :: r, m => if w = u then some m else fndW w r (m + 1)
def joinW : List (List Nat) → List Nat
  | [] => []
  | u :: r => match r with
    | [] => u
    | _ :: _ => u ++ 32 :: joinW r
theorem twF_fnd {w : List Nat} : ∀ (ws : List (List Nat)) (m : Nat), ws ≠ [] → (∀ u, u ∈ ws → u ≠ [] ∧ ∀ c, c ∈ u → c ≠ 32) → twF w (joinW ws) m 1 = fndW w ws m
  | [], _, h, _ => absurd rfl h
  | [u], m, _, h => by
    have hu := h u List.mem_cons_self
    have := (twF_on (w := w) (r := []) (m := m) u [] hu.2 (by simpa using hu.1) rfl (Nat.zero_le _)).2
    exact this
  | u :: v :: r, m, _, h => by
    have hu := h u List.mem_cons_self
    have := (twF_on (w := w) (r := joinW (v :: r)) (m := m) u [] hu.2 (by simpa using hu.1) rfl (Nat.zero_le _)).1
    rw [List.nil_append] at this
    show twF w (u ++ 32 :: joinW (v :: r)) m 1 = _
    rw [show (1 : Nat) = ([] : List Nat).length + 1 from rfl, this, twF_fnd (v :: r) (m + 1) (by simp) (fun x hx => h x (List.mem_cons_of_mem _ hx))]
    rfl
def wRoom : List Nat := [114, 111, 111, 109]
def wThing : List Nat := [116, 104, 105, 110, 103]
def wCat : List Nat := [99, 97, 116]
def wNeed : List Nat := [110, 101, 101, 100]
def wLie : List Nat := [108, 105, 101]
def wIf : List Nat := [105, 102]
def wNot : List Nat := [110, 111, 116]
def wAnd : List Nat := [97, 110, 100]
def wOr : List Nat := [111, 114]
def wsRoom : List (List Nat) := [wRoom, wThing, wCat, wNeed]
def wsWord : List (List Nat) := [wCat, wThing, [102, 97, 114], [100, 117, 101], [107, 110, 111, 119, 115], [112, 97, 99, 101], [119, 111, 114, 116, 104], [111, 110], [109, 101, 116], [108, 111, 115, 116], [109, 105, 110, 117, 116, 101]]
def wsAO : List (List Nat) := [wAnd, wOr]
theorem tx_0 : isTx 0 (joinW wsRoom) := ⟨by decide, by decide, by decide⟩
theorem tx_1 : isTx 1 (joinW [wLie]) := ⟨by decide, by decide, by decide⟩
theorem tx_2 : isTx 2 (joinW wsWord) := ⟨by decide, by decide, by decide⟩
theorem tx_3 : isTx 3 [43, 45, 42, 47, 37] := ⟨by decide, by decide, by decide⟩
theorem tx_4 : isTx 4 (joinW [wIf]) := ⟨by decide, by decide, by decide⟩
theorem tx_5 : isTx 5 [91] := ⟨by decide, by decide, by decide⟩
theorem tx_6 : isTx 6 (joinW [wNot]) := ⟨by decide, by decide, by decide⟩
theorem tx_7 : isTx 7 [93] := ⟨by decide, by decide, by decide⟩
theorem tx_8 : isTx 8 [60, 61, 62] := ⟨by decide, by decide, by decide⟩
theorem tx_9 : isTx 9 (joinW wsAO) := ⟨by decide, by decide, by decide⟩
theorem ws_ok : ∀ ws, ws = wsRoom ∨ ws = [wLie] ∨ ws = wsWord ∨ ws = [wIf] ∨ ws = [wNot] ∨ ws = wsAO → ws ≠ [] ∧ ∀ u, u ∈ ws → u ≠ [] ∧ ∀ c, c ∈ u → c ≠ 32 := by
  intro ws h
  rcases h with rfl | rfl | rfl | rfl | rfl | rfl <;> decide
/-! what is read: the place behind it, the codes, how many VALUES and FACTS; or the fault -/
abbrev PR : Type := Except Nat (Nat × List Nat × Nat)
def pB (x : PR) (f : Nat → List Nat → Nat → PR) : PR := match x with
  | .error e => .error e
  | .ok r => f r.1 r.2.1 r.2.2
def ftB (q k : Nat) : Nat := 1 + 8 * q + k
def valP (n : Nat) (t : Nat → Nat) (p : Nat) (cs : List Nat) (k : Nat) : PR :=
  let q := skp n t p
  if digA n t q = true then
    if 5 < digE n t q - q then .error (ftB q 1) else if 60 ≤ k then .error (ftB q 3) else .ok (digE n t q, cs ++ [numV n t q], k + 1)
  else match fndW (wordL n t q) wsWord 0 with
    | none => .error (ftB q 0)
    | some i => if 60 ≤ k then .error (ftB q 3) else .ok (runE isLo n t q, cs ++ [100000 + i], k + 1)
/-- which of the signs stands at q -/
def sgnP (n : Nat) (t : Nat → Nat) (q : Nat) (cs : List Nat) : Option Nat := if q < n then cs.findIdx? (fun a => a == t q) else none
def ops : List Nat := [43, 45, 42, 47, 37]
def wl (w : Option Nat) : List Nat := match w with
  | none => []
  | some i => [200000 + i]
def sumL (n : Nat) (t : Nat → Nat) : Nat → Nat → List Nat → Nat → Option Nat → PR
  | 0, p, cs, k, w => .ok (skp n t p, cs ++ wl w, k)
  | f + 1, p, cs, k, w => match sgnP n t (skp n t p) ops with
    | none => .ok (skp n t p, cs ++ wl w, k)
    | some i => if i < 2 then pB (valP n t (skp n t p + 1) (cs ++ wl w) k) fun p' cs' k' => sumL n t f p' cs' k' (some i)
      else pB (valP n t (skp n t p + 1) cs k) fun p' cs' k' => sumL n t f p' (cs' ++ [200000 + i]) k' w
def sumP (n : Nat) (t : Nat → Nat) (p : Nat) (cs : List Nat) (k : Nat) : PR := pB (valP n t p cs k) fun p' cs' k' => sumL n t 400 p' cs' k' none
/-- a comparison's code and how long its sign is -/
def cmpC (n : Nat) (t : Nat → Nat) (q : Nat) : Option (Nat × Nat) := match sgnP n t q [60, 61, 62] with
  | none => none
  | some 0 => if q + 1 < n ∧ t (q + 1) = 61 then some (200006, 2) else some (200005, 1)
  | some 1 => some (200007, 1)
  | some _ => if q + 1 < n ∧ t (q + 1) = 61 then some (200008, 2) else some (200009, 1)
def relP (n : Nat) (t : Nat → Nat) (p : Nat) (cs : List Nat) (k : Nat) : PR :=
  pB (sumP n t p cs k) fun p1 c1 k1 => match cmpC n t (skp n t p1) with
    | none => .error (ftB (skp n t p1) 0)
    | some (c, z) => if 60 ≤ k1 then .error (ftB (skp n t p1) 3) else pB (sumP n t (skp n t p1 + z) c1 (k1 + 1)) fun p2 c2 k2 => .ok (p2, c2 ++ [c], k2)
abbrev PF : Type := Nat → List Nat → Nat → PR
def facG (n : Nat) (t : Nat → Nat) (dp : Option (PF × PF)) (p : Nat) (cs : List Nat) (k : Nat) : PR :=
  let q := skp n t p
  if q < n ∧ t q = 91 then match dp with
    | none => .error (ftB q 2)
    | some f => pB (f.1 (q + 1) cs k) fun p' cs' k' => if skp n t p' < n ∧ t (skp n t p') = 93 then .ok (skp n t p' + 1, cs', k') else .error (ftB (skp n t p') 0)
  else if wordL n t q = wNot then match dp with
    | none => .error (ftB q 2)
    | some f => pB (f.2 (runE isLo n t q) cs k) fun p' cs' k' => .ok (p', cs' ++ [200012], k')
  else relP n t q cs k
def orL (b : Bool) : List Nat := if b = true then [200011] else []
def tesL (n : Nat) (t : Nat → Nat) (F : PF) : Nat → Nat → List Nat → Nat → Bool → PR
  | 0, p, cs, k, b => .ok (skp n t p, cs ++ orL b, k)
  | f + 1, p, cs, k, b => match fndW (wordL n t (skp n t p)) wsAO 0 with
    | none => .ok (skp n t p, cs ++ orL b, k)
    | some 0 => pB (F (runE isLo n t (skp n t p)) cs k) fun p' cs' k' => tesL n t F f p' (cs' ++ [200010]) k' b
    | some _ => pB (F (runE isLo n t (skp n t p)) (cs ++ orL b) k) fun p' cs' k' => tesL n t F f p' cs' k' true
def tesP (n : Nat) (t : Nat → Nat) (F : PF) (p : Nat) (cs : List Nat) (k : Nat) : PR := pB (F p cs k) fun p' cs' k' => tesL n t F 400 p' cs' k' false
def facF (n : Nat) (t : Nat → Nat) : Nat → PF
  | 0 => facG n t none
  | r + 1 => facG n t (some (tesP n t (facF n t r), facF n t r))
/-- the codes of a rule's clauses: of each its SUM, and its TEST, if it has one -/
abbrev aCl2 : Type := List Nat × Option (List Nat)
abbrev PC : Type := Except Nat (Nat × aCl2 × Nat)
def claP (n : Nat) (t : Nat → Nat) (p k : Nat) : PC := match sumP n t p [] k with
  | .error e => .error e
  | .ok r => if wordL n t (skp n t r.1) = wIf then (match tesP n t (facF n t 10) (runE isLo n t (skp n t r.1)) [] r.2.2 with
      | .error e => .error e
      | .ok r2 => .ok (r2.1, (r.2.1, some r2.2.1), r2.2.2)) else .ok (skp n t r.1, (r.2.1, none), r.2.2)
def rulL (n : Nat) (t : Nat → Nat) : Nat → Nat → Nat → List aCl2 → Except Nat (List aCl2)
  | 0, p, _, _ => .error (ftB (skp n t p) (if wordL n t (skp n t p) = wLie then 4 else 0))
  | f + 1, p, k, acc => if wordL n t (skp n t p) = wLie then (match claP n t (runE isLo n t (skp n t p)) k with
      | .error e => .error e
      | .ok r => if n ≤ skp n t r.1 then .ok (acc ++ [r.2.1]) else if t (skp n t r.1) = 59 then rulL n t f (skp n t r.1 + 1) r.2.2 (acc ++ [r.2.1]) else .error (ftB (skp n t r.1) 0))
    else .error (ftB (skp n t p) 0)
def rulP (n : Nat) (t : Nat → Nat) : Except Nat (List aCl2) := rulL n t 12 0 0 []
def cla1 (c : aCl2) : List Nat := match c.2 with
  | none => c.1 ++ [200013]
  | some x => c.1 ++ x ++ [200014]
def flatK (l : List aCl2) : List Nat := l.flatMap cla1
/-! what is read goes on along the text; each code has a byte of its own -/
abbrev cok (c : List Nat) : Prop := ∀ w, w ∈ c → w < 200015
theorem cok_app {a b : List Nat} (h : cok a) (g : cok b) : cok (a ++ b) := fun w hw => (List.mem_append.mp hw).elim (h w) (g w)
theorem cok_1 {c : Nat} (h : c < 200015) : cok [c] := fun w hw => by
  rw [List.mem_singleton] at hw
  omega
/-- a result from p on, over m codes and k counted -/
def gd (n p m k : Nat) (x : PR) : Prop := (∀ p' c' k', x = .ok (p', c', k') → p ≤ p' ∧ p' ≤ n ∧ k ≤ k' ∧ k' ≤ 60 ∧ c'.length + p ≤ m + p' ∧ cok c') ∧ ∀ e, x = .error e → e ≠ 0 ∧ e < 4000
theorem gd_er {n p m k e : Nat} (h : e ≠ 0 ∧ e < 4000) : gd n p m k (.error e) := ⟨fun _ _ _ h => by simp at h, fun e2 h2 => by
  have : e = e2 := by simpa using h2
  rw [← this]
  exact h⟩
theorem gd_ok {n p m k p' k' : Nat} {c' : List Nat} (h : p ≤ p' ∧ p' ≤ n ∧ k ≤ k' ∧ k' ≤ 60 ∧ c'.length + p ≤ m + p' ∧ cok c') : gd n p m k (.ok (p', c', k')) := ⟨fun a b c hh => by
  simp only [Except.ok.injEq, Prod.mk.injEq] at hh
  obtain ⟨rfl, rfl, rfl⟩ := hh
  exact h, fun e h2 => by simp at h2⟩
theorem gd_B {n p m k p0 m0 k0 : Nat} {x : PR} {f : PF} (h : gd n p0 m0 k0 x) (hf : ∀ p' c' k', p0 ≤ p' → p' ≤ n → k0 ≤ k' → k' ≤ 60 → c'.length + p0 ≤ m0 + p' → cok c' → gd n p m k (f p' c' k')) : gd n p m k (pB x f) := by
  cases x with
  | error e => exact gd_er (h.2 e rfl)
  | ok r =>
    obtain ⟨h1, h2, h3, h4, h5, h6⟩ := h.1 _ _ _ rfl
    exact hf _ _ _ h1 h2 h3 h4 h5 h6
abbrev gdF (n : Nat) (F : PF) : Prop := ∀ p cs k, p ≤ n → k ≤ 60 → cok cs → gd n (p + 1) (cs.length + 1) k (F p cs k)
theorem ftB_ok {q k : Nat} (hq : q ≤ 400) (hk : k < 5) : ftB q k ≠ 0 ∧ ftB q k < 4000 := by
  unfold ftB
  omega
theorem fnd_word {w : List Nat} : ∀ (ws : List (List Nat)) (m i : Nat), fndW w ws m = some i → w ∈ ws ∧ m ≤ i ∧ i < m + ws.length
  | [], _, _, h => by simp [fndW] at h
  | u :: r, m, i, h => by
    unfold fndW at h
    by_cases e : w = u
    · rw [if_pos e] at h
      have : m = i := Option.some.inj h
      subst this
      exact ⟨by rw [e]; exact List.mem_cons_self, Nat.le_refl _, by simp⟩
    · rw [if_neg e] at h
      obtain ⟨h1, h2, h3⟩ := fnd_word r (m + 1) i h
      exact ⟨List.mem_cons_of_mem _ h1, by omega, by simp; omega⟩
theorem word_end {n : Nat} {t : Nat → Nat} {q : Nat} (hq : q ≤ n) (h : wordL n t q ≠ []) : q < runE isLo n t q ∧ runE isLo n t q ≤ n := by
  have h1 := runE_le (P := isLo) (t := t) hq
  refine ⟨?_, h1.2⟩
  rcases Nat.lt_or_ge q (runE isLo n t q) with g | g
  · exact g
  · exact absurd (List.eq_nil_of_length_eq_zero (by rw [wordL_len]; omega)) h
theorem dig_end {n : Nat} {t : Nat → Nat} {q : Nat} (hd : digA n t q = true) : q < digE n t q ∧ digE n t q ≤ n := by
  have hd2 : q < n ∧ isDi (t q) = true := by simpa [digA] using hd
  have h1 : q + 1 ≤ runE isDi n t (q + 1) ∧ runE isDi n t (q + 1) ≤ n := runE_le (by omega)
  have h2 : digE n t q = runE isDi n t (q + 1) := runE_go hd2.1 hd2.2
  omega
theorem valP_G {n : Nat} {t : Nat → Nat} (hn : n ≤ 400) : gdF n (valP n t) := by
  intro p cs k hp hk hc
  have hq := skp_le (t := t) hp
  unfold valP
  dsimp only
  generalize skp n t p = q at *
  by_cases hd : digA n t q = true
  · rw [if_pos hd]
    have hE := dig_end hd
    have hv := numV_lt (t := t) hq.2
    by_cases h5 : 5 < digE n t q - q
    · rw [if_pos h5]
      exact gd_er (ftB_ok (by omega) (by omega))
    · rw [if_neg h5]
      by_cases h6 : 60 ≤ k
      · rw [if_pos h6]
        exact gd_er (ftB_ok (by omega) (by omega))
      · rw [if_neg h6]
        exact gd_ok ⟨by omega, by omega, by omega, by omega, by simp; omega, cok_app hc (cok_1 (by omega))⟩
  · rw [if_neg hd]
    cases hf : fndW (wordL n t q) wsWord 0 with
    | none => exact gd_er (ftB_ok (by omega) (by omega))
    | some i =>
      obtain ⟨g1, g2, g3⟩ := fnd_word _ _ _ hf
      have hne : wordL n t q ≠ [] := ((ws_ok wsWord (Or.inr (Or.inr (Or.inl rfl)))).2 _ g1).1
      obtain ⟨w1, w2⟩ := word_end hq.2 hne
      have g4 : i < 11 := by
        rw [show wsWord.length = 11 from rfl] at g3
        omega
      dsimp only
      by_cases h6 : 60 ≤ k
      · rw [if_pos h6]
        exact gd_er (ftB_ok (by omega) (by omega))
      · rw [if_neg h6]
        exact gd_ok ⟨by omega, by omega, by omega, by omega, by simp; omega, cok_app hc (cok_1 (by omega))⟩
theorem sgnP_in {n : Nat} {t : Nat → Nat} {q i : Nat} {cs : List Nat} (h : sgnP n t q cs = some i) : q < n ∧ i < cs.length := by
  unfold sgnP at h
  by_cases hq : q < n
  · rw [if_pos hq] at h
    exact ⟨hq, (List.findIdx?_eq_some_iff_findIdx_eq.mp h).1⟩
  · rw [if_neg hq] at h
    simp at h
theorem wl_cok {w : Option Nat} (h : ∀ i, w = some i → i < 5) : cok (wl w) := by
  cases w with
  | none => exact fun _ h => by simp [wl] at h
  | some i =>
    have := h i rfl
    exact cok_1 (by omega)
theorem sumL_G {n : Nat} {t : Nat → Nat} (hn : n ≤ 400) : ∀ f p cs k w, p ≤ n → k ≤ 60 → cok cs → (∀ i, w = some i → i < 5) → gd n p (cs.length + (wl w).length) k (sumL n t f p cs k w)
  | 0, p, cs, k, w, hp, hk, hc, hw => by
    have hq := skp_le (t := t) hp
    exact gd_ok ⟨by omega, by omega, by omega, by omega, by simp; omega, cok_app hc (wl_cok hw)⟩
  | f + 1, p, cs, k, w, hp, hk, hc, hw => by
    have hq := skp_le (t := t) hp
    unfold sumL
    cases hs : sgnP n t (skp n t p) ops with
    | none => exact gd_ok ⟨by omega, by omega, by omega, by omega, by simp; omega, cok_app hc (wl_cok hw)⟩
    | some i =>
      obtain ⟨g1, g2⟩ := sgnP_in hs
      have g3 : i < 5 := g2
      dsimp only
      by_cases h2 : i < 2
      · rw [if_pos h2]
        refine gd_B (valP_G hn _ _ _ (by omega) hk (cok_app hc (wl_cok hw))) (fun p' c' k' e1 e2 e3 e4 e5 e6 => ?_)
        have ih := sumL_G (t := t) hn f p' c' k' (some i) e2 e4 e6 (fun j hj => by have : i = j := Option.some.inj hj; omega)
        rw [List.length_append] at e5
        refine ⟨fun a b c h => ?_, ih.2⟩
        obtain ⟨f1, f2, f3, f4, f5, f6⟩ := ih.1 a b c h
        have f7 : (wl (some i)).length = 1 := rfl
        exact ⟨by omega, f2, by omega, f4, by omega, f6⟩
      · rw [if_neg h2]
        refine gd_B (valP_G hn _ _ _ (by omega) hk hc) (fun p' c' k' e1 e2 e3 e4 e5 e6 => ?_)
        have ih := sumL_G (t := t) hn f p' (c' ++ [200000 + i]) k' w e2 e4 (cok_app e6 (cok_1 (by omega))) hw
        rw [List.length_append, List.length_singleton] at ih
        refine ⟨fun a b c h => ?_, ih.2⟩
        obtain ⟨f1, f2, f3, f4, f5, f6⟩ := ih.1 a b c h
        exact ⟨by omega, f2, by omega, f4, by omega, f6⟩
theorem gd_le {n p m k p2 m2 k2 : Nat} {x : PR} (h : gd n p m k x) (hp : p2 ≤ p) (hm : m + p2 ≤ m2 + p) (hk : k2 ≤ k) : gd n p2 m2 k2 x := by
  refine ⟨fun a b c e => ?_, h.2⟩
  obtain ⟨f1, f2, f3, f4, f5, f6⟩ := h.1 a b c e
  exact ⟨by omega, f2, by omega, f4, by omega, f6⟩
theorem sumP_G {n : Nat} {t : Nat → Nat} (hn : n ≤ 400) : gdF n (sumP n t) := by
  intro p cs k hp hk hc
  refine gd_B (valP_G hn _ _ _ hp hk hc) (fun p' c' k' e1 e2 e3 e4 e5 e6 => ?_)
  refine gd_le (sumL_G hn 400 p' c' k' none e2 e4 e6 (fun j hj => by simp at hj)) e1 ?_ e3
  show c'.length + 0 + _ ≤ _
  omega
theorem cmpC_in {n : Nat} {t : Nat → Nat} {q c z : Nat} (h : cmpC n t q = some (c, z)) : q + 1 ≤ q + z ∧ q + z ≤ n ∧ 200005 ≤ c ∧ c < 200010 := by
  unfold cmpC at h
  cases hs : sgnP n t q [60, 61, 62] with
  | none => rw [hs] at h; simp at h
  | some i =>
    have hq := (sgnP_in hs).1
    rw [hs] at h
    match i, h with
    | 0, h =>
      change (if q + 1 < n ∧ t (q + 1) = 61 then some (200006, 2) else some (200005, 1)) = some (c, z) at h
      by_cases g : q + 1 < n ∧ t (q + 1) = 61
      · rw [if_pos g] at h
        simp only [Option.some.injEq, Prod.mk.injEq] at h
        omega
      · rw [if_neg g] at h
        simp only [Option.some.injEq, Prod.mk.injEq] at h
        omega
    | 1, h =>
      change some (200007, 1) = some (c, z) at h
      simp only [Option.some.injEq, Prod.mk.injEq] at h
      omega
    | i + 2, h =>
      change (if q + 1 < n ∧ t (q + 1) = 61 then some (200008, 2) else some (200009, 1)) = some (c, z) at h
      by_cases g : q + 1 < n ∧ t (q + 1) = 61
      · rw [if_pos g] at h
        simp only [Option.some.injEq, Prod.mk.injEq] at h
        omega
      · rw [if_neg g] at h
        simp only [Option.some.injEq, Prod.mk.injEq] at h
        omega
theorem relP_G {n : Nat} {t : Nat → Nat} (hn : n ≤ 400) : gdF n (relP n t) := by
  intro p cs k hp hk hc
  refine gd_B (sumP_G hn _ _ _ hp hk hc) (fun p1 c1 k1 e1 e2 e3 e4 e5 e6 => ?_)
  have hq := skp_le (t := t) e2
  cases hs : cmpC n t (skp n t p1) with
  | none => exact gd_er (ftB_ok (by omega) (by omega))
  | some r =>
    obtain ⟨c, z⟩ := r
    obtain ⟨h1, h2, h3, h4⟩ := cmpC_in hs
    dsimp only
    by_cases h6 : 60 ≤ k1
    · rw [if_pos h6]
      exact gd_er (ftB_ok (by omega) (by omega))
    · rw [if_neg h6]
      refine gd_B (sumP_G hn _ _ _ h2 (by omega) e6) (fun p2 c2 k2 f1 f2 f3 f4 f5 f6 => ?_)
      exact gd_ok ⟨by omega, f2, by omega, f4, by simp; omega, cok_app f6 (cok_1 (by omega))⟩
theorem facG_G {n : Nat} {t : Nat → Nat} (hn : n ≤ 400) {dp : Option (PF × PF)} (hd : ∀ f, dp = some f → gdF n f.1 ∧ gdF n f.2) : gdF n (facG n t dp) := by
  intro p cs k hp hk hc
  have hq := skp_le (t := t) hp
  unfold facG
  dsimp only
  generalize skp n t p = q at *
  by_cases h1 : q < n ∧ t q = 91
  · rw [if_pos h1]
    cases dp with
    | none => exact gd_er (ftB_ok (by omega) (by omega))
    | some f =>
      refine gd_B ((hd f rfl).1 _ _ _ (by omega) hk hc) (fun p1 c1 k1 e1 e2 e3 e4 e5 e6 => ?_)
      have hq1 := skp_le (t := t) e2
      by_cases h2 : skp n t p1 < n ∧ t (skp n t p1) = 93
      · rw [if_pos h2]
        exact gd_ok ⟨by omega, by omega, by omega, by omega, by omega, e6⟩
      · rw [if_neg h2]
        exact gd_er (ftB_ok (by omega) (by omega))
  · rw [if_neg h1]
    by_cases h2 : wordL n t q = wNot
    · rw [if_pos h2]
      cases dp with
      | none => exact gd_er (ftB_ok (by omega) (by omega))
      | some f =>
        obtain ⟨w1, w2⟩ := word_end hq.2 (by rw [h2]; decide)
        refine gd_B ((hd f rfl).2 _ _ _ w2 hk hc) (fun p1 c1 k1 e1 e2 e3 e4 e5 e6 => ?_)
        exact gd_ok ⟨by omega, by omega, by omega, by omega, by simp; omega, cok_app e6 (cok_1 (by omega))⟩
    · rw [if_neg h2]
      exact gd_le (relP_G hn _ _ _ hq.2 hk hc) (by omega) (by omega) (Nat.le_refl _)
theorem orL_cok {b : Bool} : cok (orL b) := by
  cases b
  · exact fun _ h => by simp [orL] at h
  · exact cok_1 (by omega)
theorem ao_ne {n : Nat} {t : Nat → Nat} {q i : Nat} (h : fndW (wordL n t q) wsAO 0 = some i) : wordL n t q ≠ [] := ((ws_ok wsAO (by simp)).2 _ (fnd_word _ _ _ h).1).1
theorem tesL_G {n : Nat} {t : Nat → Nat} (hn : n ≤ 400) {F : PF} (hF : gdF n F) : ∀ f p cs k b, p ≤ n → k ≤ 60 → cok cs → gd n p (cs.length + (orL b).length) k (tesL n t F f p cs k b)
  | 0, p, cs, k, b, hp, hk, hc => by
    have hq := skp_le (t := t) hp
    exact gd_ok ⟨by omega, by omega, by omega, by omega, by simp; omega, cok_app hc orL_cok⟩
  | f + 1, p, cs, k, b, hp, hk, hc => by
    have hq := skp_le (t := t) hp
    unfold tesL
    cases hs : fndW (wordL n t (skp n t p)) wsAO 0 with
    | none => exact gd_ok ⟨by omega, by omega, by omega, by omega, by simp; omega, cok_app hc orL_cok⟩
    | some i =>
      obtain ⟨w1, w2⟩ := word_end hq.2 (ao_ne hs)
      match i with
      | 0 =>
        change gd n p (cs.length + (orL b).length) k (pB (F (runE isLo n t (skp n t p)) cs k) fun p' cs' k' => tesL n t F f p' (cs' ++ [200010]) k' b)
        refine gd_B (hF _ _ _ w2 hk hc) (fun p1 c1 k1 e1 e2 e3 e4 e5 e6 => ?_)
        have ih := tesL_G (t := t) hn hF f p1 (c1 ++ [200010]) k1 b e2 e4 (cok_app e6 (cok_1 (by omega)))
        rw [List.length_append, List.length_singleton] at ih
        exact gd_le ih (by omega) (by omega) e3
      | i + 1 =>
        change gd n p (cs.length + (orL b).length) k (pB (F (runE isLo n t (skp n t p)) (cs ++ orL b) k) fun p' cs' k' => tesL n t F f p' cs' k' true)
        refine gd_B (hF _ _ _ w2 hk (cok_app hc orL_cok)) (fun p1 c1 k1 e1 e2 e3 e4 e5 e6 => ?_)
        have ih := tesL_G (t := t) hn hF f p1 c1 k1 true e2 e4 e6
        rw [List.length_append] at e5
        have f7 : (orL true).length = 1 := rfl
        exact gd_le ih (by omega) (by omega) e3
theorem tesP_G {n : Nat} {t : Nat → Nat} (hn : n ≤ 400) {F : PF} (hF : gdF n F) : gdF n (tesP n t F) := by
  intro p cs k hp hk hc
  refine gd_B (hF _ _ _ hp hk hc) (fun p' c' k' e1 e2 e3 e4 e5 e6 => ?_)
  refine gd_le (tesL_G hn hF 400 p' c' k' false e2 e4 e6) e1 ?_ e3
  show c'.length + 0 + _ ≤ _
  omega
theorem facF_G {n : Nat} {t : Nat → Nat} (hn : n ≤ 400) : ∀ r, gdF n (facF n t r)
  | 0 => facG_G hn (fun f h => by simp at h)
  | r + 1 => facG_G hn (fun f h => by
      have : f = (tesP n t (facF n t r), facF n t r) := (Option.some.inj h).symm
      subst this
      exact ⟨tesP_G hn (facF_G hn r), facF_G hn r⟩)
/-! codes that were there stay ahead -/
def pre (a : List Nat) (x : PR) : PR := match x with
  | .error e => .error e
  | .ok r => .ok (r.1, a ++ r.2.1, r.2.2)
abbrev hom (F : PF) : Prop := ∀ p a cs k, F p (a ++ cs) k = pre a (F p cs k)
theorem hom_B {a : List Nat} {x : PR} {f : PF} (hf : ∀ p cs k, f p (a ++ cs) k = pre a (f p cs k)) : pB (pre a x) f = pre a (pB x f) := by
  cases x with
  | error e => rfl
  | ok r => exact hf _ _ _
theorem valP_H {n : Nat} {t : Nat → Nat} : hom (valP n t) := by
  intro p a cs k
  unfold valP
  dsimp only
  split
  · split
    · rfl
    · split
      · rfl
      · show Except.ok _ = Except.ok _
        rw [List.append_assoc]
  · split
    · rfl
    · split
      · rfl
      · show Except.ok _ = Except.ok _
        rw [List.append_assoc]
theorem sumL_H {n : Nat} {t : Nat → Nat} : ∀ f p a cs k w, sumL n t f p (a ++ cs) k w = pre a (sumL n t f p cs k w)
  | 0, p, a, cs, k, w => by
    show Except.ok _ = Except.ok _
    rw [List.append_assoc]
  | f + 1, p, a, cs, k, w => by
    unfold sumL
    split
    · show Except.ok _ = Except.ok _
      rw [List.append_assoc]
    · split
      · rw [List.append_assoc, valP_H, hom_B (fun p' c' k' => sumL_H f p' a c' k' _)]
      · rw [valP_H, hom_B (fun p' c' k' => by rw [List.append_assoc]; exact sumL_H f p' a _ k' _)]
theorem sumP_H {n : Nat} {t : Nat → Nat} : hom (sumP n t) := by
  intro p a cs k
  unfold sumP
  rw [valP_H, hom_B (fun p' c' k' => sumL_H 400 p' a c' k' _)]
theorem relP_H {n : Nat} {t : Nat → Nat} : hom (relP n t) := by
  intro p a cs k
  unfold relP
  rw [sumP_H, hom_B (fun p1 c1 k1 => ?_)]
  cases hs : cmpC n t (skp n t p1) with
  | none => rfl
  | some r =>
    dsimp only
    split
    · rfl
    · rw [sumP_H, hom_B (fun p2 c2 k2 => by
        show Except.ok _ = Except.ok _
        rw [List.append_assoc])]
theorem facG_H {n : Nat} {t : Nat → Nat} {dp : Option (PF × PF)} (hd : ∀ f, dp = some f → hom f.1 ∧ hom f.2) : hom (facG n t dp) := by
  intro p a cs k
  unfold facG
  dsimp only
  split
  · cases dp with
    | none => rfl
    | some f =>
      dsimp only
      rw [(hd f rfl).1, hom_B (fun p1 c1 k1 => by split <;> rfl)]
  · split
    · cases dp with
      | none => rfl
      | some f =>
        dsimp only
        rw [(hd f rfl).2, hom_B (fun p1 c1 k1 => by
          show Except.ok _ = Except.ok _
          rw [List.append_assoc])]
    · exact relP_H _ _ _ _
theorem tesL_H {n : Nat} {t : Nat → Nat} {F : PF} (hF : hom F) : ∀ f p a cs k b, tesL n t F f p (a ++ cs) k b = pre a (tesL n t F f p cs k b)
  | 0, p, a, cs, k, b => by
    show Except.ok _ = Except.ok _
    rw [List.append_assoc]
  | f + 1, p, a, cs, k, b => by
    unfold tesL
    split
    · show Except.ok _ = Except.ok _
      rw [List.append_assoc]
    · rw [hF, hom_B (fun p' c' k' => by rw [List.append_assoc]; exact tesL_H hF f p' a _ k' _)]
    · rw [List.append_assoc, hF, hom_B (fun p' c' k' => tesL_H hF f p' a c' k' _)]
theorem tesP_H {n : Nat} {t : Nat → Nat} {F : PF} (hF : hom F) : hom (tesP n t F) := by
  intro p a cs k
  unfold tesP
  rw [hF, hom_B (fun p' c' k' => tesL_H hF 400 p' a c' k' _)]
theorem facF_H {n : Nat} {t : Nat → Nat} : ∀ r, hom (facF n t r)
  | 0 => facG_H (fun f h => by simp at h)
  | r + 1 => facG_H (fun f h => by
      have : f = (tesP n t (facF n t r), facF n t r) := (Option.some.inj h).symm
      subst this
      exact ⟨tesP_H (facF_H r), facF_H r⟩)
