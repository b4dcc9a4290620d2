/-! what is asked of both, next -/

theorem p_served {G : aG} {l : Launch} {d : Nat} {z : Int32} : PAIR G l d mX7_served mX8_served [.int z] := by
  intro I L Q h hq
  obtain ⟨D, R, n0, t, E, b, hA, hB, hP⟩ := h
  have hW := hA.1.2.2
  have hS := hW.2.1.1
  have h8 := hW.2.1.2
  have hv := hW.2.2.2.2.2
  have hc10 : D.c ≤ 10 := hA.1.1.1.2.2
  have hN : wfN D.T D.c D.N := ⟨hc10, hW.2.2.2.1⟩
  obtain ⟨n1, hn61, hl, -, hnn⟩ := last_in hW
  have eR : ruA (R.map flatK) D.f = ruM R D.f := ru_AM hP.1
  have eH : holdR (R.map flatK) D.T D.N D.c n1 = holdM R D.T D.N D.c n1 := hold_AM hP.1
  have eL : ∀ n w, lookA (R.map flatK) D.T D.N D.c n1 n w = lookB R D.T D.N D.c n1 n w := fun n w => look_AM hP.1
  have eRl : (R.map flatK).length = R.length := List.length_map _
  by_cases g : gNeed D.T z
  · refine c_X7_served (d := d + 42) hA.1 (fun _ i hi b1 b2 I1 L1 f1 => hq _ _ _ (fun Q2 hQ2 => ?_)) (fun _ b2 I1 L1 f1 => hq _ _ _ (fun Q2 hQ2 => ?_)) (fun y => absurd g y)
    · rw [eR] at b1 b2
      have hA1 := hA.X f1
      have hB1 := hB.hi f1.hi
      refine m_served (d := d + 41) hB1.1.1 hB1.1.2.1 hB1.1.2.2.1 hS (fun _ j hj e1 e2 K L' hs => ?_) (fun _ e => absurd b1 (e i hi)) (fun y => absurd g y)
      have ij : j = i := by
        rcases Nat.lt_trichotomy i j with y | y | y
        · exact absurd b1 (e2 i y)
        · exact y.symm
        · exact absurd e1 (b2 j y)
      have := hQ2 K L' ⟨D, R, n0, t, E, b, hA1.lo hs.lo, hB1.V hs, hP⟩
      rw [eR] at this
      rw [ij]
      exact this
    · simp only [eR] at b2
      have hA1 := hA.X f1
      have hB1 := hB.hi f1.hi
      exact m_served (d := d + 41) hB1.1.1 hB1.1.2.1 hB1.1.2.2.1 hS (fun _ j hj e1 e2 K L' hs => absurd e1 (b2 j hj)) (fun _ e K L' hs => hQ2 K L' ⟨D, R, n0, t, E, b, hA1.lo hs.lo, hB1.V hs, hP⟩) (fun y => absurd g y)
  · refine c_X7_served (d := d + 42) hA.1 (fun y => absurd y g) (fun y => absurd y g) (fun _ => hq _ _ _ (fun Q2 hQ2 => ?_))
    exact m_served (d := d + 41) hB.1.1 hB.1.2.1 hB.1.2.2.1 hS (fun y => absurd y g) (fun y => absurd y g) (fun _ => hQ2 I L ⟨D, R, n0, t, E, b, hA, hB, hP⟩)
theorem p_ring {G : aG} {l : Launch} {d : Nat} {w : Int32} : PAIR G l d mX7_ring mX8_ring [.int w] := by
  intro I L Q h hq
  obtain ⟨D, R, n0, t, E, b, hA, hB, hP⟩ := h
  have hW := hA.1.2.2
  have hS := hW.2.1.1
  have h8 := hW.2.1.2
  have hv := hW.2.2.2.2.2
  have hc10 : D.c ≤ 10 := hA.1.1.1.2.2
  have hN : wfN D.T D.c D.N := ⟨hc10, hW.2.2.2.1⟩
  obtain ⟨n1, hn61, hl, -, hnn⟩ := last_in hW
  have eR : ruA (R.map flatK) D.f = ruM R D.f := ru_AM hP.1
  have eH : holdR (R.map flatK) D.T D.N D.c n1 = holdM R D.T D.N D.c n1 := hold_AM hP.1
  have eL : ∀ n w, lookA (R.map flatK) D.T D.N D.c n1 n w = lookB R D.T D.N D.c n1 n w := fun n w => look_AM hP.1
  have eRl : (R.map flatK).length = R.length := List.length_map _
  by_cases g : gRing D.T w
  · refine c_X7_ring (d := d + 42) hA.1 (fun _ x y h1 h2 b1 b2 I1 L1 f1 => hq _ _ _ (fun Q2 hQ2 => ?_)) (fun _ b2 I1 L1 f1 => hq _ _ _ (fun Q2 hQ2 => ?_)) (fun y => absurd g y)
    · rw [eR] at b1
      simp only [eR] at b2
      have hA1 := hA.X f1
      have hB1 := hB.hi f1.hi
      refine m_ring (d := d + 40) hB1.1.1 hB1.1.2.1 hB1.1.2.2.1 hS (fun _ x' y' h1' h2' e1 e2 K L' hs => ?_) (fun _ e => absurd b1 (e x y h1 h2)) (fun y => absurd g y)
      have ij : x' = x ∧ y' = y := by
        have k1 : ¬ (x < x' ∨ x = x' ∧ y < y') := fun z => e2 x y h1 h2 z b1
        have k2 : ¬ (x' < x ∨ x' = x ∧ y' < y) := fun z => b2 x' y' h1' h2' z e1
        omega
      obtain ⟨rfl, rfl⟩ := ij
      exact hQ2 K L' ⟨D, R, n0, t, E, b, hA1.lo hs.lo, hB1.V hs, hP⟩
    · simp only [eR] at b2
      have hA1 := hA.X f1
      have hB1 := hB.hi f1.hi
      exact m_ring (d := d + 40) hB1.1.1 hB1.1.2.1 hB1.1.2.2.1 hS (fun _ x' y' h1' h2' e1 e2 K L' hs => absurd e1 (b2 x' y' h1' h2')) (fun _ e K L' hs => hQ2 K L' ⟨D, R, n0, t, E, b, hA1.lo hs.lo, hB1.V hs, hP⟩) (fun y => absurd g y)
  · refine c_X7_ring (d := d + 42) hA.1 (fun y => absurd y g) (fun y => absurd y g) (fun _ => hq _ _ _ (fun Q2 hQ2 => ?_))
    exact m_ring (d := d + 40) hB.1.1 hB.1.2.1 hB.1.2.2.1 hS (fun y => absurd y g) (fun y => absurd y g) (fun _ => hQ2 I L ⟨D, R, n0, t, E, b, hA, hB, hP⟩)
theorem p_pence {G : aG} {l : Launch} {d : Nat} {m t0 : Int32} : PAIR G l d mX7_pence mX8_pence [.int m, .int t0] := by
  intro I L Q h hq
  obtain ⟨D, R, n0, t, E, b, hA, hB, hP⟩ := h
  have hW := hA.1.2.2
  have hS := hW.2.1.1
  have h8 := hW.2.1.2
  have hv := hW.2.2.2.2.2
  have hc10 : D.c ≤ 10 := hA.1.1.1.2.2
  have hN : wfN D.T D.c D.N := ⟨hc10, hW.2.2.2.1⟩
  obtain ⟨n1, hn61, hl, -, hnn⟩ := last_in hW
  have eR : ruA (R.map flatK) D.f = ruM R D.f := ru_AM hP.1
  have eH : holdR (R.map flatK) D.T D.N D.c n1 = holdM R D.T D.N D.c n1 := hold_AM hP.1
  have eL : ∀ n w, lookA (R.map flatK) D.T D.N D.c n1 n w = lookB R D.T D.N D.c n1 n w := fun n w => look_AM hP.1
  have eRl : (R.map flatK).length = R.length := List.length_map _
  by_cases g : gPence D.T m t0
  · exact c_X7_pence (d := d + 42) hA.1 (fun _ => hq _ _ _ (fun Q2 hQ2 => m_pence (d := d + 40) hB.1.1 hS (fun _ => hQ2 I L ⟨D, R, n0, t, E, b, hA, hB, hP⟩) (fun y => absurd g y))) (fun y => absurd g y)
  · exact c_X7_pence (d := d + 42) hA.1 (fun y => absurd y g) (fun _ => hq _ _ _ (fun Q2 hQ2 => m_pence (d := d + 40) hB.1.1 hS (fun y => absurd y g) (fun _ => hQ2 I L ⟨D, R, n0, t, E, b, hA, hB, hP⟩)))
theorem p_thing {G : aG} {l : Launch} {d : Nat} {t0 w : Int32} : PAIR G l d mX7_thing mX8_thing [.int t0, .int w] := by
  intro I L Q h hq
  obtain ⟨D, R, n0, t, E, b, hA, hB, hP⟩ := h
  have hW := hA.1.2.2
  have hS := hW.2.1.1
  have h8 := hW.2.1.2
  have hv := hW.2.2.2.2.2
  have hc10 : D.c ≤ 10 := hA.1.1.1.2.2
  have hN : wfN D.T D.c D.N := ⟨hc10, hW.2.2.2.1⟩
  obtain ⟨n1, hn61, hl, -, hnn⟩ := last_in hW
  have eR : ruA (R.map flatK) D.f = ruM R D.f := ru_AM hP.1
  have eH : holdR (R.map flatK) D.T D.N D.c n1 = holdM R D.T D.N D.c n1 := hold_AM hP.1
  have eL : ∀ n w, lookA (R.map flatK) D.T D.N D.c n1 n w = lookB R D.T D.N D.c n1 n w := fun n w => look_AM hP.1
  have eRl : (R.map flatK).length = R.length := List.length_map _
  by_cases g : gThing D.T t0
  · exact c_X7_thing (d := d + 48) hA.1 (fun _ => hq _ _ _ (fun Q2 hQ2 => m_thing (d := d + 47) hB.1.1 (fun _ => hQ2 I L ⟨D, R, n0, t, E, b, hA, hB, hP⟩) (fun y => absurd g y))) (fun y => absurd g y)
  · exact c_X7_thing (d := d + 48) hA.1 (fun y => absurd y g) (fun _ => hq _ _ _ (fun Q2 hQ2 => m_thing (d := d + 47) hB.1.1 (fun y => absurd y g) (fun _ => hQ2 I L ⟨D, R, n0, t, E, b, hA, hB, hP⟩)))
theorem p_cat {G : aG} {l : Launch} {d : Nat} {t0 w : Int32} : PAIR G l d mX7_cat mX8_cat [.int t0, .int w] := by
  intro I L Q h hq
  obtain ⟨D, R, n0, t, E, b, hA, hB, hP⟩ := h
  have hW := hA.1.2.2
  have hS := hW.2.1.1
  have h8 := hW.2.1.2
  have hv := hW.2.2.2.2.2
  have hc10 : D.c ≤ 10 := hA.1.1.1.2.2
  have hN : wfN D.T D.c D.N := ⟨hc10, hW.2.2.2.1⟩
  obtain ⟨n1, hn61, hl, -, hnn⟩ := last_in hW
  have eR : ruA (R.map flatK) D.f = ruM R D.f := ru_AM hP.1
  have eH : holdR (R.map flatK) D.T D.N D.c n1 = holdM R D.T D.N D.c n1 := hold_AM hP.1
  have eL : ∀ n w, lookA (R.map flatK) D.T D.N D.c n1 n w = lookB R D.T D.N D.c n1 n w := fun n w => look_AM hP.1
  have eRl : (R.map flatK).length = R.length := List.length_map _
  by_cases g : gCat D.T t0
  · exact c_X7_cat (d := d + 48) hA.1 (fun _ => hq _ _ _ (fun Q2 hQ2 => m_cat (d := d + 47) hB.1.1 (fun _ => hQ2 I L ⟨D, R, n0, t, E, b, hA, hB, hP⟩) (fun y => absurd g y))) (fun y => absurd g y)
  · exact c_X7_cat (d := d + 48) hA.1 (fun y => absurd y g) (fun _ => hq _ _ _ (fun Q2 hQ2 => m_cat (d := d + 47) hB.1.1 (fun y => absurd y g) (fun _ => hQ2 I L ⟨D, R, n0, t, E, b, hA, hB, hP⟩)))
theorem p_need {G : aG} {l : Launch} {d : Nat} {t0 w : Int32} : PAIR G l d mX7_need mX8_need [.int t0, .int w] := by
  intro I L Q h hq
  obtain ⟨D, R, n0, t, E, b, hA, hB, hP⟩ := h
  have hW := hA.1.2.2
  have hS := hW.2.1.1
  have h8 := hW.2.1.2
  have hv := hW.2.2.2.2.2
  have hc10 : D.c ≤ 10 := hA.1.1.1.2.2
  have hN : wfN D.T D.c D.N := ⟨hc10, hW.2.2.2.1⟩
  obtain ⟨n1, hn61, hl, -, hnn⟩ := last_in hW
  have eR : ruA (R.map flatK) D.f = ruM R D.f := ru_AM hP.1
  have eH : holdR (R.map flatK) D.T D.N D.c n1 = holdM R D.T D.N D.c n1 := hold_AM hP.1
  have eL : ∀ n w, lookA (R.map flatK) D.T D.N D.c n1 n w = lookB R D.T D.N D.c n1 n w := fun n w => look_AM hP.1
  have eRl : (R.map flatK).length = R.length := List.length_map _
  by_cases g : gNeed D.T t0
  · exact c_X7_need (d := d + 48) hA.1 (fun _ => hq _ _ _ (fun Q2 hQ2 => m_need (d := d + 47) hB.1.1 (fun _ => hQ2 I L ⟨D, R, n0, t, E, b, hA, hB, hP⟩) (fun y => absurd g y))) (fun y => absurd g y)
  · exact c_X7_need (d := d + 48) hA.1 (fun y => absurd y g) (fun _ => hq _ _ _ (fun Q2 hQ2 => m_need (d := d + 47) hB.1.1 (fun y => absurd y g) (fun _ => hQ2 I L ⟨D, R, n0, t, E, b, hA, hB, hP⟩)))
theorem p_due {G : aG} {l : Launch} {d : Nat} {z : Int32} : PAIR G l d mX7_due mX8_due [.int z] := by
  intro I L Q h hq
  obtain ⟨D, R, n0, t, E, b, hA, hB, hP⟩ := h
  have hW := hA.1.2.2
  have hS := hW.2.1.1
  have h8 := hW.2.1.2
  have hv := hW.2.2.2.2.2
  have hc10 : D.c ≤ 10 := hA.1.1.1.2.2
  have hN : wfN D.T D.c D.N := ⟨hc10, hW.2.2.2.1⟩
  obtain ⟨n1, hn61, hl, -, hnn⟩ := last_in hW
  have eR : ruA (R.map flatK) D.f = ruM R D.f := ru_AM hP.1
  have eH : holdR (R.map flatK) D.T D.N D.c n1 = holdM R D.T D.N D.c n1 := hold_AM hP.1
  have eL : ∀ n w, lookA (R.map flatK) D.T D.N D.c n1 n w = lookB R D.T D.N D.c n1 n w := fun n w => look_AM hP.1
  have eRl : (R.map flatK).length = R.length := List.length_map _
  by_cases g : gThing D.T z
  · exact c_X7_due (d := d + 44) hA.1 (fun _ => hq _ _ _ (fun Q2 hQ2 => m_due (d := d + 46) hB.1.1 hS (fun _ => hQ2 I L ⟨D, R, n0, t, E, b, hA, hB, hP⟩) (fun y => absurd g y))) (fun y => absurd g y)
  · exact c_X7_due (d := d + 44) hA.1 (fun y => absurd y g) (fun _ => hq _ _ _ (fun Q2 hQ2 => m_due (d := d + 46) hB.1.1 hS (fun y => absurd y g) (fun _ => hQ2 I L ⟨D, R, n0, t, E, b, hA, hB, hP⟩)))
theorem p_count {G : aG} {l : Launch} {d : Nat} {w : Int32} : PAIR G l d mX7_count mX8_count [.int w] := by
  intro I L Q h hq
  obtain ⟨D, R, n0, t, E, b, hA, hB, hP⟩ := h
  have hW := hA.1.2.2
  have hS := hW.2.1.1
  have h8 := hW.2.1.2
  have hv := hW.2.2.2.2.2
  have hc10 : D.c ≤ 10 := hA.1.1.1.2.2
  have hN : wfN D.T D.c D.N := ⟨hc10, hW.2.2.2.1⟩
  obtain ⟨n1, hn61, hl, -, hnn⟩ := last_in hW
  have eR : ruA (R.map flatK) D.f = ruM R D.f := ru_AM hP.1
  have eH : holdR (R.map flatK) D.T D.N D.c n1 = holdM R D.T D.N D.c n1 := hold_AM hP.1
  have eL : ∀ n w, lookA (R.map flatK) D.T D.N D.c n1 n w = lookB R D.T D.N D.c n1 n w := fun n w => look_AM hP.1
  have eRl : (R.map flatK).length = R.length := List.length_map _
  refine c_X7_count (d := d + 46) hA.1 hA.2.1.1 (hq _ _ _ (fun Q2 hQ2 => ?_))
  refine m_count (d := d + 46) hB.1.1 hB.1.2.1 hB.1.2.2.1 hB.1.2.2.2.1 hB.1.2.2.2.2.1.1 hB.1.2.2.2.2.2.1 hB.2.1.1 ?_
  have := hQ2 I L ⟨D, R, n0, t, E, b, hA, hB, hP⟩
  rw [eRl] at this
  exact this
