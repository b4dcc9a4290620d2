/-! acts on both -/
theorem up2_off {I : aSS} {r i k a : Nat} {v : Int32} (h : k ≠ i) : up2 I r i v a k = I a k := by rw [up2_eq, if_neg (fun y => h y.2)]
theorem RA.W {D D' : aIm} {R : List (List aCl2)} {n : Nat} {t : Nat → Nat} {E : Nat → aIm} {b : Nat → Prop} {I J : aSS} (h : RA D R n t E b I) (f : frW 13 I J) (hc : cW D'.T D'.S D'.a D'.P D'.c D'.N D'.f D'.v (R.map flatK) J) : RA D' R n t E b J := by
  obtain ⟨h1, ⟨h2, h3, h4⟩, h5, h6⟩ := h
  exact ⟨hc, ⟨by rw [f 1 (by omega)]; exact h2, h3, fun i hi => by rw [f 2 (by omega)]; exact h4 i hi⟩, fun k hk => okW_fr (h5 k hk) (fun a ha => f a (by omega)), by rw [f 0 (by omega)]; exact h6⟩
theorem frW.hi {I J : aSS} (h : frW 13 I J) : eqHi I J := fun a ha => h a (by omega)
theorem frAc.lo {I J : aSS} (h : frAc I J) : eqLo I J := fun a ha => h.1 a (by omega)
theorem RB.A {D D' : aIm} {R : List (List aCl2)} {n : Nat} {t : Nat → Nat} {E : Nat → aIm} {b : Nat → Prop} {I J : aSS} (h : RB D R n t E b I) (g : frAc I J) (hc : cM D'.T D'.S D'.a D'.P D'.c D'.N R D'.f D'.v J) : RB D' R n t E b J := by
  obtain ⟨h1, h2, h3, h4, h5⟩ := h
  have e8 : ∀ j, j < 48 → J 848 j = I 848 j := fun j h1 => g.2.1 j (by omega) (by omega) (by omega) (by omega) (by omega) (by omega)
  exact ⟨hc, h2.fr (e8 28 (by omega)) (g.1 876 (by omega)), by rw [e8 31 (by omega), e8 37 (by omega)]; exact h3, fun k hk hb => (h4 k hk hb).fr (fun q _ _ => by rw [g.1 892 (by omega)]), fun k hk => by rw [g.1 893 (by omega)]; exact h5 k hk⟩
theorem RB.sc {D : aIm} {c' : Nat} {N' : aSS} {f' v' : Int32} {R : List (List aCl2)} {n : Nat} {t : Nat → Nat} {E : Nat → aIm} {b : Nat → Prop} {I J : aSS} (h : RB D R n t E b I) (e : ∀ a, a ≠ 849 → a ≠ 861 → a ≠ 862 → a ≠ 863 → J a = I a) (h9 : ∀ q, q < 6 → J 849 q = I 849 q) (hf : okF R f' J) (hN : okMN c' N' J) (hv : J 849 7 = v') : RB (D.T, D.S, D.a, D.P, c', N', f', v') R n t E b J := by
  obtain ⟨⟨⟨c1, c2⟩, c3, c4, c5, c6, c7, c8⟩, h2, h3, h4, h5⟩ := h
  have e8 : J 848 = I 848 := e 848 (by omega) (by omega) (by omega) (by omega)
  refine ⟨⟨⟨c1.fr (fun a ha => e a (by omega) (by omega) (by omega) (by omega)) (fun k hk => h9 k (by omega)), c2.fr (fun a ha => e a (by omega) (by omega) (by omega) (by omega)) (h9 4 (by omega)) (h9 5 (by omega)) (by rw [e8])⟩, c3.fr (fun a ha => e a (by omega) (by omega) (by omega) (by omega)) (by rw [e8]), hf, hN, c6.fr (by rw [e8]) (e 886 (by omega) (by omega) (by omega) (by omega)), hv, by rw [e8]; exact c8⟩, h2.fr (by rw [e8]) (e 876 (by omega) (by omega) (by omega) (by omega)), by rw [e8]; exact h3, fun k hk hb => (h4 k hk hb).fr (fun q _ _ => by rw [e 892 (by omega) (by omega) (by omega) (by omega)]), fun k hk => by rw [e 893 (by omega) (by omega) (by omega) (by omega)]; exact h5 k hk⟩

theorem p_minute {G : aG} {l : Launch} {d : Nat} : PAIR G l d mX7_minute mX8_minute [] := by
  intro I L Q h hq
  obtain ⟨D, R, n0, t, E, b, hA, hB, hP⟩ := h
  have hW := hA.1.2.2
  have hS := hW.2.1.1
  have h8 := hW.2.1.2
  have hv := hW.2.2.2.2.2
  have hc10 : D.c ≤ 10 := hA.1.1.1.2.2
  have hN : wfN D.T D.c D.N := ⟨hc10, hW.2.2.2.1⟩
  obtain ⟨n1, hn61, hl, -, hnn⟩ := last_in hW
  have eR : ruA (R.map flatK) D.f = ruM R D.f := ru_AM hP.1
  have eH : holdR (R.map flatK) D.T D.N D.c n1 = holdM R D.T D.N D.c n1 := hold_AM hP.1
  have eL : ∀ n w, lookA (R.map flatK) D.T D.N D.c n1 n w = lookB R D.T D.N D.c n1 n w := fun n w => look_AM hP.1
  have eRl : (R.map flatK).length = R.length := List.length_map _
  by_cases g : gMinute D.T D.S
  · refine c_X7_minute (d := d + 44) hA.1 (fun _ I1 L1 f1 hc => hq _ _ _ (fun Q2 hQ2 => ?_)) (fun y => absurd g y)
    have hA1 := hA.W (D' := (D.T, passS (ruA (R.map flatK) D.f) D.T D.S, keepA D.a, keepP D.a D.P D.S, D.c, D.N, D.f, D.v)) f1 hc
    have hB1 := hB.hi f1.hi
    refine m_minute (d := d + 41) hB1.1 hS (fun _ K L' fK hK => ?_) (fun y => absurd g y)
    rw [← eR] at hK ⊢
    exact hQ2 K L' ⟨_, R, n0, t, E, b, hA1.lo fK.lo, hB1.A (D' := (D.T, passS (ruA (R.map flatK) D.f) D.T D.S, keepA D.a, keepP D.a D.P D.S, D.c, D.N, D.f, D.v)) fK hK, hP⟩
  · exact c_X7_minute (d := d + 44) hA.1 (fun y => absurd y g) (fun _ => hq _ _ _ (fun Q2 hQ2 => m_minute (d := d + 41) hB.1 hS (fun y => absurd y g) (fun _ => hQ2 I L ⟨D, R, n0, t, E, b, hA, hB, hP⟩)))
theorem p_lift {G : aG} {l : Launch} {d : Nat} {z : Int32} : PAIR G l d mX7_lift mX8_lift [.int z] := by
  intro I L Q h hq
  obtain ⟨D, R, n0, t, E, b, hA, hB, hP⟩ := h
  have hW := hA.1.2.2
  have hS := hW.2.1.1
  have h8 := hW.2.1.2
  have hv := hW.2.2.2.2.2
  have hc10 : D.c ≤ 10 := hA.1.1.1.2.2
  have hN : wfN D.T D.c D.N := ⟨hc10, hW.2.2.2.1⟩
  obtain ⟨n1, hn61, hl, -, hnn⟩ := last_in hW
  have eR : ruA (R.map flatK) D.f = ruM R D.f := ru_AM hP.1
  have eH : holdR (R.map flatK) D.T D.N D.c n1 = holdM R D.T D.N D.c n1 := hold_AM hP.1
  have eL : ∀ n w, lookA (R.map flatK) D.T D.N D.c n1 n w = lookB R D.T D.N D.c n1 n w := fun n w => look_AM hP.1
  have eRl : (R.map flatK).length = R.length := List.length_map _
  by_cases g : gLift D.T D.S z
  · refine c_X7_lift (d := d + 44) hA.1 (fun _ I1 L1 f1 hc => hq _ _ _ (fun Q2 hQ2 => ?_)) (fun y => absurd g y)
    have hA1 := hA.W (D' := (D.T, liftS D.S (tn z), keepA D.a, keepP D.a D.P D.S, D.c, D.N, D.f, D.v)) f1 hc
    have hB1 := hB.hi f1.hi
    exact m_lift (d := d + 45) hB1.1 (fun _ K fK hK => hQ2 K L1 ⟨_, R, n0, t, E, b, hA1.lo fK.lo, hB1.A (D' := (D.T, liftS D.S (tn z), keepA D.a, keepP D.a D.P D.S, D.c, D.N, D.f, D.v)) fK hK, hP⟩) (fun y => absurd g y)
  · exact c_X7_lift (d := d + 44) hA.1 (fun y => absurd y g) (fun _ => hq _ _ _ (fun Q2 hQ2 => m_lift (d := d + 45) hB.1 (fun y => absurd y g) (fun _ => hQ2 I L ⟨D, R, n0, t, E, b, hA, hB, hP⟩)))
theorem p_move {G : aG} {l : Launch} {d : Nat} {z p : Int32} : PAIR G l d mX7_move mX8_move [.int z, .int p] := by
  intro I L Q h hq
  obtain ⟨D, R, n0, t, E, b, hA, hB, hP⟩ := h
  have hW := hA.1.2.2
  have hS := hW.2.1.1
  have h8 := hW.2.1.2
  have hv := hW.2.2.2.2.2
  have hc10 : D.c ≤ 10 := hA.1.1.1.2.2
  have hN : wfN D.T D.c D.N := ⟨hc10, hW.2.2.2.1⟩
  obtain ⟨n1, hn61, hl, -, hnn⟩ := last_in hW
  have eR : ruA (R.map flatK) D.f = ruM R D.f := ru_AM hP.1
  have eH : holdR (R.map flatK) D.T D.N D.c n1 = holdM R D.T D.N D.c n1 := hold_AM hP.1
  have eL : ∀ n w, lookA (R.map flatK) D.T D.N D.c n1 n w = lookB R D.T D.N D.c n1 n w := fun n w => look_AM hP.1
  have eRl : (R.map flatK).length = R.length := List.length_map _
  by_cases g : gMove D.T D.S z p
  · refine c_X7_move (d := d + 44) hA.1 (fun _ I1 L1 f1 hc => hq _ _ _ (fun Q2 hQ2 => ?_)) (fun y => absurd g y)
    have hA1 := hA.W (D' := (D.T, up2 D.S 1 (tn z) p, keepA D.a, keepP D.a D.P D.S, D.c, D.N, D.f, D.v)) f1 hc
    have hB1 := hB.hi f1.hi
    exact m_move (d := d + 45) hB1.1 (fun _ K fK hK => hQ2 K L1 ⟨_, R, n0, t, E, b, hA1.lo fK.lo, hB1.A (D' := (D.T, up2 D.S 1 (tn z) p, keepA D.a, keepP D.a D.P D.S, D.c, D.N, D.f, D.v)) fK hK, hP⟩) (fun y => absurd g y)
  · exact c_X7_move (d := d + 44) hA.1 (fun y => absurd y g) (fun _ => hq _ _ _ (fun Q2 hQ2 => m_move (d := d + 45) hB.1 (fun y => absurd y g) (fun _ => hQ2 I L ⟨D, R, n0, t, E, b, hA, hB, hP⟩)))
theorem p_strike {G : aG} {l : Launch} {d : Nat} {z : Int32} : PAIR G l d mX7_strike mX8_strike [.int z] := by
  intro I L Q h hq
  obtain ⟨D, R, n0, t, E, b, hA, hB, hP⟩ := h
  have hW := hA.1.2.2
  have hS := hW.2.1.1
  have h8 := hW.2.1.2
  have hv := hW.2.2.2.2.2
  have hc10 : D.c ≤ 10 := hA.1.1.1.2.2
  have hN : wfN D.T D.c D.N := ⟨hc10, hW.2.2.2.1⟩
  obtain ⟨n1, hn61, hl, -, hnn⟩ := last_in hW
  have eR : ruA (R.map flatK) D.f = ruM R D.f := ru_AM hP.1
  have eH : holdR (R.map flatK) D.T D.N D.c n1 = holdM R D.T D.N D.c n1 := hold_AM hP.1
  have eL : ∀ n w, lookA (R.map flatK) D.T D.N D.c n1 n w = lookB R D.T D.N D.c n1 n w := fun n w => look_AM hP.1
  have eRl : (R.map flatK).length = R.length := List.length_map _
  by_cases g : gNeed D.T z
  · refine c_X7_strike (d := d + 44) hA.1 (fun _ I1 L1 f1 hc => hq _ _ _ (fun Q2 hQ2 => ?_)) (fun y => absurd g y)
    have hA1 := hA.W (D' := (D.T, strikeS D.S (tn z), keepA D.a, keepP D.a D.P D.S, D.c, D.N, D.f, D.v)) f1 hc
    have hB1 := hB.hi f1.hi
    exact m_strike (d := d + 45) hB1.1 (fun _ K fK hK => hQ2 K L1 ⟨_, R, n0, t, E, b, hA1.lo fK.lo, hB1.A (D' := (D.T, strikeS D.S (tn z), keepA D.a, keepP D.a D.P D.S, D.c, D.N, D.f, D.v)) fK hK, hP⟩) (fun y => absurd g y)
  · exact c_X7_strike (d := d + 44) hA.1 (fun y => absurd y g) (fun _ => hq _ _ _ (fun Q2 hQ2 => m_strike (d := d + 45) hB.1 (fun y => absurd y g) (fun _ => hQ2 I L ⟨D, R, n0, t, E, b, hA, hB, hP⟩)))
theorem p_teach {G : aG} {l : Launch} {d : Nat} {z p : Int32} : PAIR G l d mX7_teach mX8_teach [.int z, .int p] := by
  intro I L Q h hq
  obtain ⟨D, R, n0, t, E, b, hA, hB, hP⟩ := h
  have hW := hA.1.2.2
  have hS := hW.2.1.1
  have h8 := hW.2.1.2
  have hv := hW.2.2.2.2.2
  have hc10 : D.c ≤ 10 := hA.1.1.1.2.2
  have hN : wfN D.T D.c D.N := ⟨hc10, hW.2.2.2.1⟩
  obtain ⟨n1, hn61, hl, -, hnn⟩ := last_in hW
  have eR : ruA (R.map flatK) D.f = ruM R D.f := ru_AM hP.1
  have eH : holdR (R.map flatK) D.T D.N D.c n1 = holdM R D.T D.N D.c n1 := hold_AM hP.1
  have eL : ∀ n w, lookA (R.map flatK) D.T D.N D.c n1 n w = lookB R D.T D.N D.c n1 n w := fun n w => look_AM hP.1
  have eRl : (R.map flatK).length = R.length := List.length_map _
  by_cases g : gTeach D.T D.S z p
  · refine c_X7_teach (d := d + 44) hA.1 (fun _ I1 L1 f1 hc => hq _ _ _ (fun Q2 hQ2 => ?_)) (fun y => absurd g y)
    have hA1 := hA.W (D' := (D.T, up2 D.S 4 (tn z) p, keepA D.a, keepP D.a D.P D.S, D.c, D.N, D.f, D.v)) f1 hc
    have hB1 := hB.hi f1.hi
    exact m_teach (d := d + 45) hB1.1 (fun _ K fK hK => hQ2 K L1 ⟨_, R, n0, t, E, b, hA1.lo fK.lo, hB1.A (D' := (D.T, up2 D.S 4 (tn z) p, keepA D.a, keepP D.a D.P D.S, D.c, D.N, D.f, D.v)) fK hK, hP⟩) (fun y => absurd g y)
  · exact c_X7_teach (d := d + 44) hA.1 (fun y => absurd y g) (fun _ => hq _ _ _ (fun Q2 hQ2 => m_teach (d := d + 45) hB.1 (fun y => absurd y g) (fun _ => hQ2 I L ⟨D, R, n0, t, E, b, hA, hB, hP⟩)))
theorem p_undo {G : aG} {l : Launch} {d : Nat} : PAIR G l d mX7_undo mX8_undo [] := by
  intro I L Q h hq
  obtain ⟨D, R, n0, t, E, b, hA, hB, hP⟩ := h
  have hW := hA.1.2.2
  have hS := hW.2.1.1
  have h8 := hW.2.1.2
  have hv := hW.2.2.2.2.2
  have hc10 : D.c ≤ 10 := hA.1.1.1.2.2
  have hN : wfN D.T D.c D.N := ⟨hc10, hW.2.2.2.1⟩
  obtain ⟨n1, hn61, hl, -, hnn⟩ := last_in hW
  have eR : ruA (R.map flatK) D.f = ruM R D.f := ru_AM hP.1
  have eH : holdR (R.map flatK) D.T D.N D.c n1 = holdM R D.T D.N D.c n1 := hold_AM hP.1
  have eL : ∀ n w, lookA (R.map flatK) D.T D.N D.c n1 n w = lookB R D.T D.N D.c n1 n w := fun n w => look_AM hP.1
  have eRl : (R.map flatK).length = R.length := List.length_map _
  refine c_X7_undo (d := d + 44) hA.1 (fun h0 => hq _ _ _ (fun Q2 hQ2 => ?_)) (fun q h1 I1 f1 hc => hq _ _ _ (fun Q2 hQ2 => ?_))
  · exact m_undo (d := d + 46) hB.1 h8 (fun i hi => (hW.2.2.1 i hi).2) (fun _ => hQ2 I L ⟨D, R, n0, t, E, b, hA, hB, hP⟩) (fun q e => absurd (h0.symm.trans e) (by omega))
  · have hA1 := hA.W (D' := (D.T, D.P q, q, D.P, D.c, D.N, D.f, D.v)) f1 hc
    have hB1 := hB.hi f1.hi
    refine m_undo (d := d + 46) hB1.1 h8 (fun i hi => (hW.2.2.1 i hi).2) (fun e => absurd (h1.symm.trans e) (by omega)) (fun q' e K fK hK => ?_)
    obtain rfl : q' = q := by
      have := h1.symm.trans e
      omega
    exact hQ2 K L ⟨_, R, n0, t, E, b, hA1.lo fK.lo, hB1.A (D' := (D.T, D.P q', q', D.P, D.c, D.N, D.f, D.v)) fK hK, hP⟩
theorem p_seed {G : aG} {l : Launch} {d : Nat} {z : Int32} : PAIR G l d mX7_seed mX8_seed [.int z] := by
  intro I L Q h hq
  obtain ⟨D, R, n0, t, E, b, hA, hB, hP⟩ := h
  have hW := hA.1.2.2
  have hS := hW.2.1.1
  have h8 := hW.2.1.2
  have hv := hW.2.2.2.2.2
  have hc10 : D.c ≤ 10 := hA.1.1.1.2.2
  have hN : wfN D.T D.c D.N := ⟨hc10, hW.2.2.2.1⟩
  obtain ⟨n1, hn61, hl, -, hnn⟩ := last_in hW
  have eR : ruA (R.map flatK) D.f = ruM R D.f := ru_AM hP.1
  have eH : holdR (R.map flatK) D.T D.N D.c n1 = holdM R D.T D.N D.c n1 := hold_AM hP.1
  have eL : ∀ n w, lookA (R.map flatK) D.T D.N D.c n1 n w = lookB R D.T D.N D.c n1 n w := fun n w => look_AM hP.1
  have eRl : (R.map flatK).length = R.length := List.length_map _
  by_cases g : z < 0
  · exact c_X7_seed (d := d + 44) hA.1 (fun y => absurd g y) (fun _ => hq _ _ _ (fun Q2 hQ2 => m_seed (d := d + 49) hB.1.2.2.2.2.2.1 (fun y => absurd g y) (fun _ => hQ2 I L ⟨D, R, n0, t, E, b, hA, hB, hP⟩)))
  · refine c_X7_seed (d := d + 44) hA.1 (fun _ I1 f1 hc => hq _ _ _ (fun Q2 hQ2 => ?_)) (fun y => absurd y g)
    have hA1 := hA.W (D' := (D.T, D.S, D.a, D.P, D.c, D.N, D.f, z)) f1 hc
    have hB1 := hB.hi f1.hi
    refine m_seed (d := d + 49) hB1.1.2.2.2.2.2.1 (fun _ => hQ2 _ L ⟨_, R, n0, t, E, b, hA1.lo (fun a ha => up2_ne (by omega)), hB1.sc (c' := D.c) (N' := D.N) (f' := D.f) (v' := z) (fun a y _ _ _ => up2_ne y) (fun q hq => up2_nk (by omega)) ⟨?_, hB1.1.2.2.1.2⟩ ⟨?_, fun k hk => ?_⟩ up2_at, hP⟩) (fun y => absurd y g)
    · rw [up2_nk (by omega)]; exact hB1.1.2.2.1.1
    · rw [up2_nk (by omega)]; exact hB1.1.2.2.2.1.1
    · rw [up2_ne (by omega), up2_ne (by omega), up2_ne (by omega)]; exact hB1.1.2.2.2.1.2 k hk
theorem p_force {G : aG} {l : Launch} {d : Nat} {z : Int32} : PAIR G l d mX7_force mX8_force [.int z] := by
  intro I L Q h hq
  obtain ⟨D, R, n0, t, E, b, hA, hB, hP⟩ := h
  have hW := hA.1.2.2
  have hS := hW.2.1.1
  have h8 := hW.2.1.2
  have hv := hW.2.2.2.2.2
  have hc10 : D.c ≤ 10 := hA.1.1.1.2.2
  have hN : wfN D.T D.c D.N := ⟨hc10, hW.2.2.2.1⟩
  obtain ⟨n1, hn61, hl, -, hnn⟩ := last_in hW
  have eR : ruA (R.map flatK) D.f = ruM R D.f := ru_AM hP.1
  have eH : holdR (R.map flatK) D.T D.N D.c n1 = holdM R D.T D.N D.c n1 := hold_AM hP.1
  have eL : ∀ n w, lookA (R.map flatK) D.T D.N D.c n1 n w = lookB R D.T D.N D.c n1 n w := fun n w => look_AM hP.1
  have eRl : (R.map flatK).length = R.length := List.length_map _
  by_cases g : z = -1 ∨ inN z R.length
  · refine c_X7_force (d := d + 44) hA.1 (fun _ I1 f1 hc => hq _ _ _ (fun Q2 hQ2 => ?_)) (fun y => absurd (by rw [eRl]; exact g) y)
    have hA1 := hA.W (D' := (D.T, D.S, D.a, D.P, D.c, D.N, z, D.v)) f1 hc
    have hB1 := hB.hi f1.hi
    refine m_force (d := d + 48) hB1.1.2.1 hB1.1.2.2.1 (fun _ => hQ2 _ L ⟨_, R, n0, t, E, b, hA1.lo (fun a ha => up2_ne (by omega)), hB1.sc (c' := D.c) (N' := D.N) (f' := z) (v' := D.v) (fun a y _ _ _ => up2_ne y) (fun q hq => up2_nk (by omega)) ⟨up2_at, g⟩ ⟨?_, fun k hk => ?_⟩ ?_, hP⟩) (fun y => absurd g y)
    · rw [up2_nk (by omega)]; exact hB1.1.2.2.2.1.1
    · rw [up2_ne (by omega), up2_ne (by omega), up2_ne (by omega)]; exact hB1.1.2.2.2.1.2 k hk
    · rw [up2_nk (by omega)]; exact hB1.1.2.2.2.2.2.1
  · exact c_X7_force (d := d + 44) hA.1 (fun y => absurd (by rw [eRl] at y; exact y) g) (fun _ => hq _ _ _ (fun Q2 hQ2 => m_force (d := d + 48) hB.1.2.1 hB.1.2.2.1 (fun y => absurd y g) (fun _ => hQ2 I L ⟨D, R, n0, t, E, b, hA, hB, hP⟩)))
theorem p_note {G : aG} {l : Launch} {d : Nat} {n i t0 : Int32} : PAIR G l d mX7_note mX8_note [.int n, .int i, .int t0] := by
  intro I L Q h hq
  obtain ⟨D, R, n0, t, E, b, hA, hB, hP⟩ := h
  have hW := hA.1.2.2
  have hS := hW.2.1.1
  have h8 := hW.2.1.2
  have hv := hW.2.2.2.2.2
  have hc10 : D.c ≤ 10 := hA.1.1.1.2.2
  have hN : wfN D.T D.c D.N := ⟨hc10, hW.2.2.2.1⟩
  obtain ⟨n1, hn61, hl, -, hnn⟩ := last_in hW
  have eR : ruA (R.map flatK) D.f = ruM R D.f := ru_AM hP.1
  have eH : holdR (R.map flatK) D.T D.N D.c n1 = holdM R D.T D.N D.c n1 := hold_AM hP.1
  have eL : ∀ n w, lookA (R.map flatK) D.T D.N D.c n1 n w = lookB R D.T D.N D.c n1 n w := fun n w => look_AM hP.1
  have eRl : (R.map flatK).length = R.length := List.length_map _
  by_cases g0 : n = -1
  · refine c_X7_note (d := d + 44) hA.1 (fun _ I1 f1 hc => hq _ _ _ (fun Q2 hQ2 => ?_)) (fun y => absurd g0 y) (fun y => absurd g0 y)
    have hA1 := hA.W (D' := (D.T, D.S, D.a, D.P, 0, D.N, D.f, D.v)) f1 hc
    have hB1 := hB.hi f1.hi
    refine m_note (d := d + 47) hB1.1.1 hN hB1.1.2.2.2.1 (fun _ => hQ2 _ L ⟨_, R, n0, t, E, b, hA1.lo (fun a ha => up2_ne (by omega)), hB1.sc (c' := 0) (N' := D.N) (f' := D.f) (v' := D.v) (fun a y _ _ _ => up2_ne y) (fun q hq => up2_nk (by omega)) ⟨?_, hB1.1.2.2.1.2⟩ ⟨up2_at, fun k hk => by omega⟩ ?_, hP⟩) (fun y => absurd g0 y) (fun y => absurd g0 y)
    · rw [up2_nk (by omega)]; exact hB1.1.2.2.1.1
    · rw [up2_nk (by omega)]; exact hB1.1.2.2.2.2.2.1
  · by_cases g : gNote D.T D.c n i t0
    · refine c_X7_note (d := d + 44) hA.1 (fun y => absurd y g0) (fun _ _ I1 f1 hc => hq _ _ _ (fun Q2 hQ2 => ?_)) (fun _ y => absurd g y)
      have hA1 := hA.W (D' := (D.T, D.S, D.a, D.P, D.c + 1, up2 (up2 (up2 D.N 0 D.c n) 1 D.c i) 2 D.c t0, D.f, D.v)) f1 hc
      have hB1 := hB.hi f1.hi
      refine m_note (d := d + 47) hB1.1.1 hN hB1.1.2.2.2.1 (fun y => absurd y g0) (fun _ _ => hQ2 _ L ⟨_, R, n0, t, E, b, hA1.lo (fun a ha => ?_), hB1.sc (c' := D.c + 1) (N' := up2 (up2 (up2 D.N 0 D.c n) 1 D.c i) 2 D.c t0) (f' := D.f) (v' := D.v) (fun a y1 y2 y3 y4 => ?_) (fun q hq => ?_) ⟨?_, hB1.1.2.2.1.2⟩ ⟨up2_at, fun k hk => ?_⟩ ?_, hP⟩) (fun _ y => absurd g y)
      · rw [up2_ne (by omega), up2_ne (by omega), up2_ne (by omega), up2_ne (by omega)]
      · rw [up2_ne y1, up2_ne y4, up2_ne y3, up2_ne y2]
      · rw [up2_nk (by omega), up2_ne (by omega), up2_ne (by omega), up2_ne (by omega)]
      · rw [up2_nk (by omega), up2_ne (by omega), up2_ne (by omega), up2_ne (by omega)]; exact hB1.1.2.2.1.1
      · by_cases e : k = D.c
        · subst e
          refine ⟨?_, ?_, ?_⟩
          · rw [up2_ne (by omega), up2_ne (by omega), up2_ne (by omega), up2_at, up2_ne (by omega), up2_ne (by omega), up2_at]
          · rw [up2_ne (by omega), up2_ne (by omega), up2_at, up2_ne (by omega), up2_at]
          · rw [up2_ne (by omega), up2_at, up2_at]
        · have := hB1.1.2.2.2.1.2 k (by omega)
          rw [up2_ne (show (861 : Nat) ≠ 849 by omega), up2_ne (show (862 : Nat) ≠ 849 by omega), up2_ne (show (863 : Nat) ≠ 849 by omega)]
          simp only [up2_off e]
          exact this
      · rw [up2_nk (by omega), up2_ne (by omega), up2_ne (by omega), up2_ne (by omega)]; exact hB1.1.2.2.2.2.2.1
    · exact c_X7_note (d := d + 44) hA.1 (fun y => absurd y g0) (fun _ y => absurd y g) (fun _ _ => hq _ _ _ (fun Q2 hQ2 => m_note (d := d + 47) hB.1.1 hN hB.1.2.2.2.1 (fun y => absurd y g0) (fun _ y => absurd y g) (fun _ _ => hQ2 I L ⟨D, R, n0, t, E, b, hA, hB, hP⟩)))
