/-! constructors: Whole, CatNeed -/
def ly4 (EX : Nat → va_E) (a : Nat) : Prop := EX a = .inr (4, [.ref (a + 1), .ref (a + 10), .ref (a + 17), .int 0, .ref (a + 18), .ref (a + 19), .ref (a + 20), .int 0, .int (-1), .int 0]) ∧ ly3 EX (a + 1) ∧ ly1 EX (a + 10) ∧ (∃ f, EX (a + 17) = .inl (7, 20, aRefs f) ∧ ∀ k, k < 20 → f k = some (a + (21 + 7 * k))) ∧ (EX (a + 18) = .inl (1, 10, .inl (fun _ => 0)) ∧ EX (a + 19) = .inl (1, 10, .inl (fun _ => 0)) ∧ EX (a + 20) = .inl (1, 10, .inl (fun _ => 0))) ∧ ∀ i, i < 20 → ly1 EX (a + (21 + 7 * i))
theorem ly1.o {EX : Nat → va_E} {a : Nat} (h : ly1 EX a) : ∃ vs, EX a = .inr (1, vs) := ⟨_, h.1⟩
theorem ly0.o {EX : Nat → va_E} {a : Nat} (h : ly0 EX a) : ∃ vs, EX a = .inr (0, vs) := ⟨_, h.1⟩
theorem ly4.o {EX : Nat → va_E} {a : Nat} (h : ly4 EX a) : ∃ vs, EX a = .inr (4, vs) := ⟨_, h.1⟩
theorem n4 {G : aG} {l : Launch} {d a : Nat} {EX : Nat → va_E} {x : aMD} {Q : Option Value → aMD → Prop} (hE : ly4 EX a) (hx : x.2 = a + 1) (ha : a < 830) (hxa : x.1 a = .inr (4, df_4)) (hq : ∀ x', cEnd EX a 161 x x' → Q none x') : aC (aR0 G) G l (d + 2) 160 989 mX6_init [.ref a] x Q := by
  obtain ⟨e0, eT, eS, ⟨fE, eP, eP2⟩, ⟨eN1, eN2, eN3⟩, eL⟩ := hE
  refine aC.intro (by decide) (Nat.le_of_ble_eq_true rfl) rfl (SD_X6 (d := d + 1) _ _ _ ?_)
  have h0 : bJ EX a 4 (fun j => j = a + 17) x df_4 (a + 1) x := bJ.start hx (by omega) hxa
  have LL : ∀ m i, i + m = 20 → ∀ f y, bJ EX a 4 (fun j => j = a + 17) x [.ref (a + 1), .ref (a + 10), .ref (a + 17), .int 0, .ref (a + 18), .ref (a + 19), .ref (a + 20), .int 0, .int (-1), .int 0] (a + (21 + 7 * i)) y → y.1 (a + 17) = .inl (7, 20, aRefs f) → (∀ k, k < i → f k = some (a + (21 + 7 * k))) → aT (aR0 G) G l (d + 1 + 1) mX6_init (7 * m) (42 * m) Q 81 [.ref a, .int (nI i)] [] y := by
    intro m
    induction m with
    | zero =>
      intro i hi f y h1 h2 h3
      obtain rfl : i = 20 := by omega
      refine SO_X6_81 _ _ _ ?_
      have hfin : cEnd EX a 161 x y := ⟨h1.1, h1.2.2.2.1, fun k k1 k2 => by
        by_cases g : k = a
        · rw [g, e0]
          exact Or.inl h1.2.1
        · by_cases g2 : k = a + 17
          · rw [g2, eP, h2]
            exact Or.inr ⟨7, 20, f, fE, rfl, rfl, fun k hk => (h3 k hk).trans (eP2 k hk).symm⟩
          · exact h1.2.2.2.2 k (by omega) k2 g2⟩
      simp only [i_ild, i_ildv, i_c, i_icmpge, lget]
      refine ⟨fun _ => hq y hfin, fun g => ?_⟩
      exact g (by decide)
    | succ m ih =>
      intro i hi f y h1 h2 h3
      rw [show 7 * (m + 1) = 7 * m + 6 + 1 by omega, show 42 * (m + 1) = 42 * m + 31 + 11 by omega]
      refine SI_X6_81 _ _ _ ?_
      simp only [i_ild, i_ildv, i_c, i_icmpge, lget]
      have hlt : ¬ (20 : Int32) ≤ nI i := by
        rw [show (20 : Int32) = nI 20 from rfl, nI_leI (by omega) (by omega)]
        omega
      refine ⟨fun g => hlt g, fun _ => ?_⟩
      have hl := eL i (by omega)
      obtain ⟨vs, hvs⟩ := hl.o
      refine k_body (len := 7) (N := 20) h1 rfl ⟨by omega, by omega, rfl⟩ h2 ⟨by omega, by omega⟩ ⟨by omega, by omega⟩ hvs (fun x1 e1 e2 Q2 hq2 => n1 (d := d) hl e1 (by omega) e2 hq2) (fun y' g1 g2 g3 => ?_)
      rw [show a + (21 + 7 * i) + 7 = a + (21 + 7 * (i + 1)) by omega] at g1
      refine ih (i + 1) (by omega) _ y' g1 g2 (fun k hk => ?_)
      unfold va_up
      by_cases e : k = i
      · rw [if_pos e, e]
      · rw [if_neg e]
        exact h3 k (by omega)
  refine k_oi rfl ?_
  refine k_obj (m := 1) (len := 9) h0 rfl ⟨Nat.le_of_ble_eq_true rfl, by omega, by omega⟩ (by omega) (fun x1 e1 e2 Q2 hq2 => n3 (d := d) eT e1 (by omega) e2 hq2) (fun x1 h1 _ => ?_)
  refine k_obj (m := 10) (len := 7) h1 rfl ⟨Nat.le_of_ble_eq_true rfl, by omega, by omega⟩ (by omega) (fun x1 e1 e2 Q2 hq2 => n1 (d := d) eS e1 (by omega) e2 hq2) (fun x2 h2 _ => ?_)
  refine k_arrQ (n := a + 17) h2 rfl (Nat.le_of_ble_eq_true rfl) rfl (by omega) (fun y => absurd rfl y) (fun x3 h3 p3 _ => ?_)
  have h3 : bJ EX a 4 (fun j => j = a + 17) x _ (a + 18) x3 := h3
  refine k_int h3 rfl (Nat.le_of_ble_eq_true rfl) (fun x4 h4 p4 => ?_)
  refine k_arr (m := 18) h4 rfl ⟨Nat.le_of_ble_eq_true rfl, rfl, by omega⟩ eN1 (by omega) (fun x5 h5 p5 => ?_)
  refine k_arr (m := 19) h5 rfl ⟨Nat.le_of_ble_eq_true rfl, rfl, by omega⟩ eN2 (by omega) (fun x6 h6 p6 => ?_)
  refine k_arr (m := 20) h6 rfl ⟨Nat.le_of_ble_eq_true rfl, rfl, by omega⟩ eN3 (by omega) (fun x7 h7 p7 => ?_)
  refine k_int h7 rfl (Nat.le_of_ble_eq_true rfl) (fun x8 h8 p8 => ?_)
  refine k_int h8 rfl (Nat.le_of_ble_eq_true rfl) (fun x9 h9 p9 => ?_)
  refine k_int h9 rfl (Nat.le_of_ble_eq_true rfl) (fun x10 h10 p10 => ?_)
  have p := (p10 (a + 17) (by omega)).trans ((p9 (a + 17) (by omega)).trans ((p8 (a + 17) (by omega)).trans ((p7 (a + 17) (by omega) (by omega)).trans ((p6 (a + 17) (by omega) (by omega)).trans ((p5 (a + 17) (by omega) (by omega)).trans ((p4 (a + 17) (by omega)).trans p3))))))
  have := LL 20 0 rfl _ x10 h10 p (fun k hk => absurd hk (Nat.not_lt_zero k))
  exact ⟨Nat.le_of_ble_eq_true rfl, this⟩
def ly5 (EX : Nat → va_E) (a : Nat) : Prop := EX a = .inr (5, [.ref (a + 1), .ref (a + 3), .int 0, .ref (a + 4), .ref (a + 13), .ref (a + 174), .int 0, .ref (a + 175), .ref (a + 182), .ref (a + 183), .ref (a + 184), .ref (a + 185)]) ∧ ly2 EX (a + 1) ∧ ly3 EX (a + 4) ∧ ly4 EX (a + 13) ∧ ly1 EX (a + 175) ∧ (∃ f, EX (a + 3) = .inl (5, 6, aRefs f) ∧ ∀ k, k < 6 → f k = some (a + (186 + 3 * k))) ∧ (∃ f, EX (a + 174) = .inl (6, 4, aRefs f) ∧ ∀ k, k < 4 → f k = some (a + (204 + 161 * k))) ∧ (EX (a + 182) = .inl (1, 61, .inl (fun _ => 0)) ∧ EX (a + 183) = .inl (1, 25, .inl (fun _ => 0)) ∧ EX (a + 184) = .inl (1, 25, .inl (fun _ => 0)) ∧ EX (a + 185) = .inl (1, 21, .inl (fun _ => 0))) ∧ (∀ i, i < 6 → ly0 EX (a + (186 + 3 * i))) ∧ ∀ i, i < 4 → ly4 EX (a + (204 + 161 * i))
theorem n5 {G : aG} {l : Launch} {d a : Nat} {EX : Nat → va_E} {x : aMD} {Q : Option Value → aMD → Prop} (hE : ly5 EX a) (hx : x.2 = a + 1) (ha : a < 100) (hxa : x.1 a = .inr (5, df_5)) (hq : ∀ x', cEnd EX a 848 x x' → Q none x') : aC (aR0 G) G l (d + 3) 847 8448 mX7_init [.ref a] x Q := by
  obtain ⟨e0, eT, eD, eH, eS, ⟨fR, eR, eR2⟩, ⟨fI, eI, eI2⟩, ⟨eA1, eA2, eA3, eA4⟩, eLR, eLI⟩ := hE
  refine aC.intro (by decide) (Nat.le_of_ble_eq_true rfl) rfl (SD_X7 (d := d + 2) _ _ _ ?_)
  have h0 : bJ EX a 5 (fun j => j = a + 3 ∨ j = a + 174) x df_5 (a + 1) x := bJ.start hx (by omega) hxa
  have L2 : ∀ m i, i + m = 4 → ∀ f g y, bJ EX a 5 (fun j => j = a + 3 ∨ j = a + 174) x [.ref (a + 1), .ref (a + 3), .int 0, .ref (a + 4), .ref (a + 13), .ref (a + 174), .int 0, .ref (a + 175), .ref (a + 182), .ref (a + 183), .ref (a + 184), .ref (a + 185)] (a + (204 + 161 * i)) y → y.1 (a + 3) = .inl (5, 6, aRefs g) → (∀ k, k < 6 → g k = some (a + (186 + 3 * k))) → y.1 (a + 174) = .inl (6, 4, aRefs f) → (∀ k, k < i → f k = some (a + (204 + 161 * k))) → aT (aR0 G) G l (d + 2 + 1) mX7_init (161 * m) (999 * m) Q 136 [.ref a, .int (nI i)] [] y := by
    intro m
    induction m with
    | zero =>
      intro i hi f g y h1 r2 r3 h2 h3
      obtain rfl : i = 4 := by omega
      refine SO_X7_136 _ _ _ ?_
      have hfin : cEnd EX a 848 x y := ⟨h1.1, h1.2.2.2.1, fun k k1 k2 => by
        by_cases g1 : k = a
        · rw [g1, e0]
          exact Or.inl h1.2.1
        · by_cases g2 : k = a + 3
          · rw [g2, eR, r2]
            exact Or.inr ⟨5, 6, g, fR, rfl, rfl, fun k hk => (r3 k hk).trans (eR2 k hk).symm⟩
          · by_cases g3 : k = a + 174
            · rw [g3, eI, h2]
              exact Or.inr ⟨6, 4, f, fI, rfl, rfl, fun k hk => (h3 k hk).trans (eI2 k hk).symm⟩
            · exact h1.2.2.2.2 k (by omega) k2 (fun z => z.elim g2 g3)⟩
      simp only [i_ild, i_ildv, i_c, i_icmpge, lget]
      refine ⟨fun _ => hq y hfin, fun g => ?_⟩
      exact g (by decide)
    | succ m ih =>
      intro i hi f g y h1 r2 r3 h2 h3
      rw [show 161 * (m + 1) = 161 * m + 160 + 1 by omega, show 999 * (m + 1) = 999 * m + 989 + 10 by omega]
      refine SI_X7_136 _ _ _ ?_
      simp only [i_ild, i_ildv, i_c, i_icmpge, lget]
      have hlt : ¬ (4 : Int32) ≤ nI i := by
        rw [show (4 : Int32) = nI 4 from rfl, nI_leI (by omega) (by omega)]
        omega
      refine ⟨fun g => hlt g, fun _ => ?_⟩
      have hl := eLI i (by omega)
      obtain ⟨vs, hvs⟩ := hl.o
      refine k_body (len := 161) (N := 4) h1 rfl ⟨by omega, by omega, Or.inr rfl⟩ h2 ⟨by omega, by omega⟩ ⟨by omega, by omega⟩ hvs (fun x1 e1 e2 Q2 hq2 => n4 (d := d) hl e1 (by omega) e2 hq2) (fun y' g1 g2 g3 => ?_)
      rw [show a + (204 + 161 * i) + 161 = a + (204 + 161 * (i + 1)) by omega] at g1
      refine ih (i + 1) (by omega) _ g y' g1 ((g3 (a + 3) (by omega) (by omega)).trans r2) r3 g2 (fun k hk => ?_)
      unfold va_up
      by_cases e : k = i
      · rw [if_pos e, e]
      · rw [if_neg e]
        exact h3 k (by omega)
  have L1 : ∀ m i, i + m = 6 → ∀ f g y, bJ EX a 5 (fun j => j = a + 3 ∨ j = a + 174) x [.ref (a + 1), .ref (a + 3), .int 0, .ref (a + 4), .ref (a + 13), .ref (a + 174), .int 0, .ref (a + 175), .ref (a + 182), .ref (a + 183), .ref (a + 184), .ref (a + 185)] (a + (186 + 3 * i)) y → y.1 (a + 3) = .inl (5, 6, aRefs g) → (∀ k, k < i → g k = some (a + (186 + 3 * k))) → y.1 (a + 174) = .inl (6, 4, aRefs f) → aT (aR0 G) G l (d + 2 + 1) mX7_init (644 + 3 * m) (3996 + 468 * m) Q 109 [.ref a, .int (nI i)] [] y := by
    intro m
    induction m with
    | zero =>
      intro i hi f g y h1 r2 r3 h2
      obtain rfl : i = 6 := by omega
      refine SO_X7_109 _ _ _ ?_
      simp only [i_ild, i_ildv, i_c, i_icmpge, lget]
      refine ⟨fun _ => ?_, fun g => g (by decide)⟩
      have := L2 4 0 rfl f g y h1 r2 r3 h2 (fun k hk => absurd hk (Nat.not_lt_zero k))
      exact ⟨Nat.le_of_ble_eq_true rfl, this⟩
    | succ m ih =>
      intro i hi f g y h1 r2 r3 h2
      rw [show 644 + 3 * (m + 1) = 644 + 3 * m + 2 + 1 by omega, show 3996 + 468 * (m + 1) = 3996 + 468 * m + 464 + 4 by omega]
      refine SI_X7_109 _ _ _ ?_
      simp only [i_ild, i_ildv, i_c, i_icmpge, lget]
      have hlt : ¬ (6 : Int32) ≤ nI i := by
        rw [show (6 : Int32) = nI 6 from rfl, nI_leI (by omega) (by omega)]
        omega
      refine ⟨fun g => hlt g, fun _ => ?_⟩
      have hl := eLR i (by omega)
      obtain ⟨vs, hvs⟩ := hl.o
      refine k_body (len := 3) (N := 6) h1 rfl ⟨by omega, by omega, Or.inl rfl⟩ r2 ⟨by omega, by omega⟩ ⟨by omega, by omega⟩ hvs (fun x1 e1 e2 Q2 hq2 => n0 (d := d + 1) hl e1 (by omega) e2 hq2) (fun y' g1 g2 g3 => ?_)
      rw [show a + (186 + 3 * i) + 3 = a + (186 + 3 * (i + 1)) by omega] at g1
      refine ih (i + 1) (by omega) f _ y' g1 g2 (fun k hk => ?_) ((g3 (a + 174) (by omega) (by omega)).trans h2)
      unfold va_up
      by_cases e : k = i
      · rw [if_pos e, e]
      · rw [if_neg e]
        exact r3 k (by omega)
  refine k_oi rfl ?_
  refine k_obj (m := 1) (len := 2) h0 rfl ⟨Nat.le_of_ble_eq_true rfl, by omega, by omega⟩ (by omega) (fun x1 e1 e2 Q2 hq2 => n2 (d := d + 1) eT e1 (by omega) e2 hq2) (fun x1 h1 _ => ?_)
  refine k_arrQ (n := a + 3) h1 rfl (Nat.le_of_ble_eq_true rfl) rfl (by omega) (fun y => absurd (Or.inl rfl) y) (fun x2 h2 p2 _ => ?_)
  have h2 : bJ EX a 5 (fun j => j = a + 3 ∨ j = a + 174) x _ (a + 4) x2 := h2
  refine k_int h2 rfl (Nat.le_of_ble_eq_true rfl) (fun x3 h3 p3 => ?_)
  refine k_obj (m := 4) (len := 9) h3 rfl ⟨Nat.le_of_ble_eq_true rfl, by omega, by omega⟩ (by omega) (fun x1 e1 e2 Q2 hq2 => n3 (d := d + 1) eD e1 (by omega) e2 hq2) (fun x4 h4 p4 => ?_)
  refine k_obj (m := 13) (len := 161) h4 rfl ⟨Nat.le_of_ble_eq_true rfl, by omega, by omega⟩ (by omega) (fun x1 e1 e2 Q2 hq2 => n4 (d := d) eH e1 (by omega) e2 hq2) (fun x5 h5 p5 => ?_)
  refine k_arrQ (n := a + 174) h5 rfl (Nat.le_of_ble_eq_true rfl) rfl (by omega) (fun y => absurd (Or.inr rfl) y) (fun x6 h6 q6 p6 => ?_)
  have h6 : bJ EX a 5 (fun j => j = a + 3 ∨ j = a + 174) x _ (a + 175) x6 := h6
  refine k_int h6 rfl (Nat.le_of_ble_eq_true rfl) (fun x7 h7 p7 => ?_)
  refine k_obj (m := 175) (len := 7) h7 rfl ⟨Nat.le_of_ble_eq_true rfl, by omega, by omega⟩ (by omega) (fun x1 e1 e2 Q2 hq2 => n1 (d := d + 1) eS e1 (by omega) e2 hq2) (fun x8 h8 p8 => ?_)
  refine k_arr (m := 182) h8 rfl ⟨Nat.le_of_ble_eq_true rfl, rfl, by omega⟩ eA1 (by omega) (fun x9 h9 p9 => ?_)
  refine k_arr (m := 183) h9 rfl ⟨Nat.le_of_ble_eq_true rfl, rfl, by omega⟩ eA2 (by omega) (fun x10 h10 p10 => ?_)
  refine k_arr (m := 184) h10 rfl ⟨Nat.le_of_ble_eq_true rfl, rfl, by omega⟩ eA3 (by omega) (fun x11 h11 p11 => ?_)
  refine k_arr (m := 185) h11 rfl ⟨Nat.le_of_ble_eq_true rfl, rfl, by omega⟩ eA4 (by omega) (fun x12 h12 p12 => ?_)
  have r8 : ∀ j, a < j → j < a + 175 → x12.1 j = x7.1 j := fun j j1 j2 => (p12 j (by omega) (by omega)).trans ((p11 j (by omega) (by omega)).trans ((p10 j (by omega) (by omega)).trans ((p9 j (by omega) (by omega)).trans (p8 j (by omega) (by omega)))))
  have r3 : x12.1 (a + 3) = .inl (5, 6, aNone) := (r8 (a + 3) (by omega) (by omega)).trans ((p7 (a + 3) (by omega)).trans ((p6 (a + 3) (by omega) (by omega)).trans ((p5 (a + 3) (by omega) (by omega)).trans ((p4 (a + 3) (by omega) (by omega)).trans ((p3 (a + 3) (by omega)).trans p2)))))
  have r174 : x12.1 (a + 174) = .inl (6, 4, aNone) := (r8 (a + 174) (by omega) (by omega)).trans ((p7 (a + 174) (by omega)).trans q6)
  have := L1 6 0 rfl _ _ x12 h12 r3 (fun k hk => absurd hk (Nat.not_lt_zero k)) r174
  exact ⟨Nat.le_of_ble_eq_true rfl, this⟩
