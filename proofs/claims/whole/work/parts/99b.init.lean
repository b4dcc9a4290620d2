/-! how both begin -/
def I0 (a k : Nat) : Int32 := if (sh a).1 = 1 ∧ k = 8 then -1 else if (sh a).1 = 4 ∧ k = 8 then -1 else if (sh a).1 = 6 ∧ k = 37 then 11 else if (sh a).1 = 6 ∧ (k = 48 ∨ k = 49) then -1 else if a = 849 ∧ k = 8 then -1 else if (sh a).1 = 17 ∧ k < 20 then nI k else 0
def m0 : aM := (I0, fun _ _ => 0)
theorem I0_z {a k : Nat} (h1 : (sh a).1 = 1 → k ≠ 8) (h4 : (sh a).1 = 4 → k ≠ 8) (h6 : (sh a).1 = 6 → k ≠ 37 ∧ k ≠ 48 ∧ k ≠ 49) (h9 : a = 849 → k ≠ 8) (h17 : (sh a).1 ≠ 17) : I0 a k = 0 := by
  unfold I0
  rw [if_neg (fun y => h1 y.1 y.2), if_neg (fun y => h4 y.1 y.2), if_neg (fun y => (h6 y.1).1 y.2), if_neg (fun y => y.2.elim (h6 y.1).2.1 (h6 y.1).2.2), if_neg (fun y => h9 y.1 y.2), if_neg (fun y => h17 y.1)]
theorem I0_a {a t n : Nat} (h : sh a = (t, n)) (ht : t ≠ 1 ∧ t ≠ 4 ∧ t ≠ 6 ∧ t ≠ 17) (ha : a ≠ 849) : I0 a = fun _ => 0 := by
  have e : (sh a).1 = t := by rw [h]
  funext k
  exact I0_z (fun y => absurd (e.symm.trans y) ht.1) (fun y => absurd (e.symm.trans y) ht.2.1) (fun y => absurd (e.symm.trans y) ht.2.2.1) (fun y => absurd y ha) (fun y => absurd (e.symm.trans y) ht.2.2.2)
theorem ex_a {a n : Nat} (h : sh a = (11, n)) (ha : a ≠ 849) : ex m0 a = .inl (1, n, .inl (fun _ => 0)) := by
  have e : m0.1 a = fun _ => 0 := I0_a h (by omega) ha
  unfold ex
  rw [h, e]
  rfl
theorem ex_b {a n : Nat} (h : sh a = (12, n)) (ha : a ≠ 849) : ex m0 a = .inl (2, n, .inl (fun _ => 0)) := by
  have e : m0.1 a = fun _ => 0 := I0_a h (by omega) ha
  unfold ex
  rw [h, e]
  rfl
theorem ex_l {a n : Nat} (h : sh a = (13, n)) : ex m0 a = .inl (3, n, .inr (.inl (fun _ => 0))) := by
  unfold ex m0
  rw [h]
  rfl
theorem ex_z {a n : Nat} (h : sh a = (14, n)) (ha : a ≠ 849) : ex m0 a = .inl (4, n, .inl (fun _ => 0)) := by
  have e : m0.1 a = fun _ => 0 := I0_a h (by omega) ha
  unfold ex
  rw [h, e]
  rfl
theorem ex_o {a t n : Nat} (h : sh a = (t, n)) (ht : t < 7) : ex m0 a = .inr (t, exF t a (I0 a)) := by
  unfold ex m0
  rw [h]
  exact if_pos ht
theorem i1 {a : Nat} (h : (sh a).1 = 1) (ha : a ≠ 849) : ∀ k, k ≠ 8 → I0 a k = 0 := fun k hk => I0_z (fun _ => hk) (fun y => by omega) (fun y => by omega) (fun y => absurd y ha) (by omega)
theorem exF1 (n : Nat) (i : Nat → Int32) : exF 1 n i = [.int (i 0), .ref (n + 1), .ref (n + 2), .ref (n + 3), .ref (n + 4), .int (i 5), .ref (n + 5), .ref (n + 6), .int (i 8), .int (i 9), .int (i 10)] := rfl
theorem exF4 (n : Nat) (i : Nat → Int32) : exF 4 n i = [.ref (n + 1), .ref (n + 10), .ref (n + 17), .int (i 3), .ref (n + 18), .ref (n + 19), .ref (n + 20), .int (i 7), .int (i 8), .int (i 9)] := rfl
theorem ly1_0 {a : Nat} (h : isS a) (ha : a < 842) : ly1 (ex m0) a := by
  obtain ⟨h0, h1, h2, h3, h4, h5, h6⟩ := h
  have e : (sh a).1 = 1 := by rw [h0]
  have z := i1 e (by omega)
  have e8 : I0 a 8 = -1 := if_pos ⟨e, rfl⟩
  refine ⟨?_, ex_a h1 (by omega), ex_a h2 (by omega), ex_a h3 (by omega), ex_a h4 (by omega), ex_a h5 (by omega), ex_a h6 (by omega)⟩
  rw [ex_o h0 (by omega), exF1]
  rw [z 0 (by omega), z 5 (by omega), e8, z 9 (by omega), z 10 (by omega)]
theorem ly3_0 {a : Nat} (h : isT a) (ha : a < 830) : ly3 (ex m0) a := by
  obtain ⟨h0, h1, h2, h3, h4, h5, h6, h7, h8⟩ := h
  have z := I0_a h0 (by omega) (by omega)
  refine ⟨?_, ex_a h1 (by omega), ex_a h2 (by omega), ex_a h3 (by omega), ex_a h4 (by omega), ex_a h5 (by omega), ex_a h6 (by omega), ex_a h7 (by omega), ex_a h8 (by omega)⟩
  rw [ex_o h0 (by omega), z]
  rfl
theorem ly0_0 {a : Nat} (h0 : sh a = (0, 4)) (h1 : sh (a + 1) = (11, 400)) (h2 : sh (a + 2) = (13, 64)) (ha : a < 840) : ly0 (ex m0) a := by
  refine ⟨?_, ex_a h1 (by omega), ex_l h2⟩
  rw [ex_o h0 (by omega), I0_a h0 (by omega) (by omega)]
  rfl
theorem ly2_0 {a : Nat} (h0 : sh a = (2, 4)) (h1 : sh (a + 1) = (11, 400)) (ha : a < 840) : ly2 (ex m0) a := by
  refine ⟨?_, ex_a h1 (by omega)⟩
  rw [ex_o h0 (by omega), I0_a h0 (by omega) (by omega)]
  rfl
theorem i17 {a : Nat} (h : sh a = (17, 20)) (ha : a ≠ 849) : ∀ k, k < 20 → I0 a k = nI k := fun k hk => by
  have e : (sh a).1 = 17 := by rw [h]
  unfold I0
  rw [if_neg (fun y => by omega), if_neg (fun y => by omega), if_neg (fun y => by omega), if_neg (fun y => by omega), if_neg (fun y => ha y.1), if_pos ⟨e, hk⟩]
theorem i4 {a : Nat} (h : sh a = (4, 10)) (ha : a ≠ 849) : I0 a 8 = -1 ∧ ∀ k, k ≠ 8 → I0 a k = 0 := by
  have e : (sh a).1 = 4 := by rw [h]
  refine ⟨?_, fun k hk => I0_z (fun y => by omega) (fun _ => hk) (fun y => by omega) (fun y => absurd y ha) (by omega)⟩
  unfold I0
  rw [if_neg (fun y => by omega), if_pos ⟨e, rfl⟩]
theorem ly4_0 {a : Nat} (h : isW a) (ha : a < 688) : ly4 (ex m0) a := by
  obtain ⟨⟨h0, hT, hS⟩, ⟨h17, h18, h19, h20⟩, hP⟩ := h
  obtain ⟨e8, z⟩ := i4 h0 (by omega)
  refine ⟨?_, ly3_0 hT (by omega), ly1_0 hS (by omega), ⟨fun k => some (a + 17 + 4 + 7 * (I0 (a + 17) k).toNatClampNeg), ?_, fun k hk => ?_⟩, ⟨ex_a h18 (by omega), ex_a h19 (by omega), ex_a h20 (by omega)⟩, fun i hi => ?_⟩
  · rw [ex_o h0 (by omega), exF4]
    rw [z 3 (by omega), z 7 (by omega), e8, z 9 (by omega)]
  · unfold ex m0
    rw [h17]
    rfl
  · dsimp only
    rw [i17 h17 (by omega) k hk, nI_clamp (by omega)]
    congr 1
    omega
  · rw [show a + (21 + 7 * i) = a + 17 + 4 + 7 * i by omega]
    exact ly1_0 (hP i hi) (by omega)
theorem isW_of {w : Nat} (h : ((sh w = (4, 10) ∧ (sh (w + 1) = (3, 12) ∧ sh (w + 2) = (11, 6) ∧ sh (w + 3) = (11, 6) ∧ sh (w + 4) = (11, 3) ∧ sh (w + 5) = (11, 3) ∧ sh (w + 6) = (11, 3) ∧ sh (w + 7) = (11, 8) ∧ sh (w + 8) = (11, 8) ∧ sh (w + 9) = (11, 8)) ∧ (sh (w + 10) = (1, 11) ∧ sh (w + 11) = (11, 6) ∧ sh (w + 12) = (11, 3) ∧ sh (w + 13) = (11, 3) ∧ sh (w + 14) = (11, 3) ∧ sh (w + 15) = (11, 8) ∧ sh (w + 16) = (11, 8))) ∧ (sh (w + 17) = (17, 20) ∧ sh (w + 18) = (11, 10) ∧ sh (w + 19) = (11, 10) ∧ sh (w + 20) = (11, 10)) ∧ ∀ j, j < 20 → (sh (w + 17 + 4 + 7 * j) = (1, 11) ∧ sh (w + 17 + 4 + 7 * j + 1) = (11, 6) ∧ sh (w + 17 + 4 + 7 * j + 2) = (11, 3) ∧ sh (w + 17 + 4 + 7 * j + 3) = (11, 3) ∧ sh (w + 17 + 4 + 7 * j + 4) = (11, 3) ∧ sh (w + 17 + 4 + 7 * j + 5) = (11, 8) ∧ sh (w + 17 + 4 + 7 * j + 6) = (11, 8)))) : isW w := h
theorem isW_13 : isW 13 := isW_of ⟨⟨by decide +kernel, by decide +kernel, by decide +kernel⟩, by decide +kernel, by decide +kernel⟩
theorem isW_im : ∀ k, k < 4 → isW (204 + 161 * k) := by
  intro k hk
  have h4 : k = 0 ∨ k = 1 ∨ k = 2 ∨ k = 3 := by omega
  rcases h4 with rfl | rfl | rfl | rfl
  · exact isW_of ⟨⟨by decide +kernel, by decide +kernel, by decide +kernel⟩, by decide +kernel, by decide +kernel⟩
  · exact isW_of ⟨⟨by decide +kernel, by decide +kernel, by decide +kernel⟩, by decide +kernel, by decide +kernel⟩
  · exact isW_of ⟨⟨by decide +kernel, by decide +kernel, by decide +kernel⟩, by decide +kernel, by decide +kernel⟩
  · exact isW_of ⟨⟨by decide +kernel, by decide +kernel, by decide +kernel⟩, by decide +kernel, by decide +kernel⟩
theorem ly5_0 : ly5 (ex m0) 0 := by
  have h0 : sh 0 = (5, 12) := shC.1
  have h3 : sh (0 + 3) = (15, 6) := by decide +kernel
  have h174 : sh (0 + 174) = (16, 4) := by decide +kernel
  refine ⟨?_, ly2_0 (by decide +kernel) (by decide +kernel) (by omega), ly3_0 (a := 4) (by unfold isT; decide +kernel) (by omega), ly4_0 isW_13 (by omega), ly1_0 isS_175 (by omega), ⟨fun k => some (0 + 3 + 183 + 3 * k), ?_, fun k _ => congrArg some (by omega)⟩, ⟨fun k => some (0 + 174 + 30 + 161 * k), ?_, fun k _ => congrArg some (by omega)⟩, ⟨ex_a (by decide +kernel) (by omega), ex_a (by decide +kernel) (by omega), ex_a (by decide +kernel) (by omega), ex_a (by decide +kernel) (by omega)⟩, fun i hi => ?_, fun i hi => ?_⟩
  · rw [ex_o h0 (by omega), I0_a h0 (by omega) (by omega)]
    rfl
  · unfold ex
    rw [h3]
    rfl
  · unfold ex
    rw [h174]
    rfl
  · obtain ⟨s0, s1, s2⟩ := sh_ru i hi
    rw [show 0 + (186 + 3 * i) = 186 + 3 * i by omega]
    exact ly0_0 s0 s1 s2 (by omega)
  · rw [show 0 + (204 + 161 * i) = 204 + 161 * i by omega]
    exact ly4_0 (isW_im i hi) (by omega)
theorem exF6 (n : Nat) (i : Nat → Int32) : exF 6 n i = [.int (i 0), .ref (n + 1), .ref (n + 2), .ref (n + 3), .ref (n + 4), .ref (n + 5), .ref (n + 6), .ref (n + 7), .ref (n + 8), .ref (n + 9), .ref (n + 10), .ref (n + 11), .ref (n + 12), .ref (n + 13), .ref (n + 14), .ref (n + 15), .ref (n + 16), .ref (n + 17), .ref (n + 18), .ref (n + 19), .ref (n + 20), .ref (n + 21), .ref (n + 22), .ref (n + 23), .ref (n + 24), .ref (n + 25), .ref (n + 26), .ref (n + 27), .int (i 28), .int (i 29), .int (i 30), .int (i 31), .int (i 32), .int (i 33), .int (i 34), .int (i 35), .int (i 36), .int (i 37), .ref (n + 28), .ref (n + 29), .ref (n + 30), .ref (n + 31), .ref (n + 32), .ref (n + 33), .ref (n + 34), .ref (n + 35), .ref (n + 36), .ref (n + 37), .int (i 48), .int (i 49), .int (i 50), .int (i 51), .int (i 52), .ref (n + 38), .ref (n + 39), .int (i 55), .int (i 56), .int (i 57), .ref (n + 40), .ref (n + 41), .ref (n + 42), .ref (n + 43), .ref (n + 44), .ref (n + 45), .int (i 64), .int (i 65)] := rfl
theorem ex_e (a : Nat) : ex m0 a = exC (sh a).1 (sh a).2 a (I0 a) (fun _ => 0) := rfl
theorem ly6_0 : ly6 (ex m0) 848 := by
  have h0 : sh 848 = (6, 66) := shM.1
  have e : (sh 848).1 = 6 := by rw [h0]
  have z : ∀ k, k ≠ 37 → k ≠ 48 → k ≠ 49 → I0 848 k = 0 := fun k h1 h2 h3 => I0_z (fun y => by omega) (fun y => by omega) (fun _ => ⟨h1, h2, h3⟩) (fun y => absurd y (by omega)) (by omega)
  have e37 : I0 848 37 = 11 := by
    unfold I0
    rw [if_neg (fun y => by omega), if_neg (fun y => by omega), if_pos ⟨e, rfl⟩]
  have e48 : I0 848 48 = -1 := by
    unfold I0
    rw [if_neg (fun y => by omega), if_neg (fun y => by omega), if_neg (fun y => by omega), if_pos ⟨e, Or.inl rfl⟩]
  have e49 : I0 848 49 = -1 := by
    unfold I0
    rw [if_neg (fun y => by omega), if_neg (fun y => by omega), if_neg (fun y => by omega), if_pos ⟨e, Or.inr rfl⟩]
  have h849 : sh 849 = (11, 9) := shM.2.1
  refine ⟨?_, ?_, ex_a (by decide +kernel) (by omega), ex_a (by decide +kernel) (by omega), ex_a (by decide +kernel) (by omega), ex_a (by decide +kernel) (by omega), ex_a (by decide +kernel) (by omega), ex_a (by decide +kernel) (by omega), ex_a (by decide +kernel) (by omega), ex_a (by decide +kernel) (by omega), ex_a (by decide +kernel) (by omega), ex_a (by decide +kernel) (by omega), ex_a (by decide +kernel) (by omega), ex_a (by decide +kernel) (by omega), ex_a (by decide +kernel) (by omega), ex_a (by decide +kernel) (by omega), ex_a (by decide +kernel) (by omega), ex_a (by decide +kernel) (by omega), ex_a (by decide +kernel) (by omega), ex_a (by decide +kernel) (by omega), ex_a (by decide +kernel) (by omega), ex_a (by decide +kernel) (by omega), ex_a (by decide +kernel) (by omega), ex_a (by decide +kernel) (by omega), ex_a (by decide +kernel) (by omega), ex_a (by decide +kernel) (by omega), ex_a (by decide +kernel) (by omega), ex_a (by decide +kernel) (by omega), ex_b (by decide +kernel) (by omega), ex_a (by decide +kernel) (by omega), ex_a (by decide +kernel) (by omega), ex_a (by decide +kernel) (by omega), ex_a (by decide +kernel) (by omega), ex_a (by decide +kernel) (by omega), ex_a (by decide +kernel) (by omega), ex_a (by decide +kernel) (by omega), ex_l (by decide +kernel), ex_l (by decide +kernel), ex_a (by decide +kernel) (by omega), ex_a (by decide +kernel) (by omega), ex_a (by decide +kernel) (by omega), ex_a (by decide +kernel) (by omega), ex_a (by decide +kernel) (by omega), ex_a (by decide +kernel) (by omega), ex_a (by decide +kernel) (by omega), ex_z (by decide +kernel) (by omega)⟩
  · rw [ex_o h0 (by omega), exF6]
    rw [e37, e48, e49, z 0 (by omega) (by omega) (by omega), z 28 (by omega) (by omega) (by omega), z 29 (by omega) (by omega) (by omega), z 30 (by omega) (by omega) (by omega), z 31 (by omega) (by omega) (by omega), z 32 (by omega) (by omega) (by omega), z 33 (by omega) (by omega) (by omega), z 34 (by omega) (by omega) (by omega), z 35 (by omega) (by omega) (by omega), z 36 (by omega) (by omega) (by omega), z 50 (by omega) (by omega) (by omega), z 51 (by omega) (by omega) (by omega), z 52 (by omega) (by omega) (by omega), z 55 (by omega) (by omega) (by omega), z 56 (by omega) (by omega) (by omega), z 57 (by omega) (by omega) (by omega), z 64 (by omega) (by omega) (by omega), z 65 (by omega) (by omega) (by omega)]
  · have e9 : I0 849 = f8 := by
      funext k
      have e1 : (sh 849).1 = 11 := by rw [h849]
      unfold f8
      by_cases hk : k = 8
      · rw [if_pos hk, hk]
        unfold I0
        rw [if_neg (fun y => by omega), if_neg (fun y => by omega), if_neg (fun y => by omega), if_neg (fun y => by omega), if_pos ⟨rfl, rfl⟩]
      · rw [if_neg hk]
        exact I0_z (fun y => by omega) (fun y => by omega) (fun y => by omega) (fun _ => hk) (by omega)
    rw [show (848 + 1 : Nat) = 849 from rfl, ex_e, h849, e9]
    rfl
theorem sh_k : ∀ n, n < 894 → ((sh n).1 = 1 → (sh n).2 = 11) ∧ ((sh n).1 = 4 → (sh n).2 = 10) ∧ ((sh n).1 = 6 → (sh n).2 = 66) ∧ ((sh n).1 = 17 → (sh n).2 = 20) := by decide +kernel
theorem can_0 : aCan m0 := by
  intro n k hk
  show I0 n k = 0
  by_cases hn : n < 894
  · obtain ⟨s1, s2, s3, s4⟩ := sh_k n hn
    unfold I0
    rw [if_neg (fun y => by have := s1 y.1; omega), if_neg (fun y => by have := s2 y.1; omega), if_neg (fun y => by have := s3 y.1; omega), if_neg (fun y => by have := s3 y.1; omega), if_neg (fun y => ?_), if_neg (fun y => by have := s4 y.1; omega)]
    have h849 : (sh n).2 = 9 := by rw [y.1, shM.2.1]
    omega
  · have e : (sh n).1 ≠ 1 ∧ (sh n).1 ≠ 4 ∧ (sh n).1 ≠ 6 ∧ (sh n).1 ≠ 17 := by
      refine ⟨fun y => hn (sh_lt y (by omega)), fun y => hn (sh_lt y (by omega)), fun y => hn (sh_lt y (by omega)), fun y => hn (sh_lt y (by omega))⟩
    exact I0_z (fun y => absurd y e.1) (fun y => absurd y e.2.1) (fun y => absurd y e.2.2.1) (fun y => by omega) e.2.2.2
