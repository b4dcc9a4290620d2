/-! what is asked of both: what goes on, what was noted -/
theorem hold_AM {R : List (List aCl2)} {T N : aSS} {c n : Nat} (h : ∀ cl, cl ∈ R → okCs cl) : holdR (R.map flatK) T N c n = holdM R T N c n := by
  funext k
  unfold holdR holdM
  rw [ru_AM h]
theorem look_AM {R : List (List aCl2)} {T N : aSS} {c l n : Nat} {w : Int32} (h : ∀ cl, cl ∈ R → okCs cl) : lookA (R.map flatK) T N c l n w = lookB R T N c l n w := by
  have e1 : onAt (R.map flatK) = onM R := by
    funext T n k i
    unfold onAt onM
    rw [ru_AM h]
  have e2 : lookM (R.map flatK) T N c l n = lookN R T N c l n := by
    funext i
    unfold lookM lookN
    rw [hold_AM h, e1, List.length_map]
  unfold lookA lookB
  rw [hold_AM h, e2, List.length_map]
theorem p_ahead {G : aG} {l : Launch} {d : Nat} {i n w : Int32} : PAIR G l d mX7_ahead mX8_ahead [.int i, .int n, .int w] := by
  intro I L Q h hq
  obtain ⟨D, R, n0, t, E, b, hA, hB, hP⟩ := h
  have hW := hA.1.2.2
  have hS := hW.2.1.1
  have h8 := hW.2.1.2
  have hv := hW.2.2.2.2.2
  have hc10 : D.c ≤ 10 := hA.1.1.1.2.2
  have hN : wfN D.T D.c D.N := ⟨hc10, hW.2.2.2.1⟩
  obtain ⟨n1, hn61, hl, -, hnn⟩ := last_in hW
  have eR : ruA (R.map flatK) D.f = ruM R D.f := ru_AM hP.1
  have eH : holdR (R.map flatK) D.T D.N D.c n1 = holdM R D.T D.N D.c n1 := hold_AM hP.1
  have eL : ∀ n w, lookA (R.map flatK) D.T D.N D.c n1 n w = lookB R D.T D.N D.c n1 n w := fun n w => look_AM hP.1
  have eRl : (R.map flatK).length = R.length := List.length_map _
  by_cases g : gAhead D.T i n w
  · refine c_X7_ahead (d := d + 42) hA.1  (fun _ I1 L1 f1 => hq _ _ _ (fun Q2 hQ2 => ?_)) (fun y => absurd g y)
    have hA1 := hA.X f1
    have hB1 := hB.hi f1.hi
    refine m_ahead (d := d + 39) hB1.1.1 hB1.1.2.1 hB1.1.2.2.1 hS (fun _ K L' hs => ?_) (fun y => absurd g y)
    have := hQ2 K L' ⟨D, R, n0, t, E, b, hA1.lo hs.lo, hB1.V hs, hP⟩
    simp only [eR, eH, eL, eRl] at this ⊢
    exact this
  · refine c_X7_ahead (d := d + 42) hA.1  (fun y => absurd y g) (fun _ => hq _ _ _ (fun Q2 hQ2 => ?_))
    have hB1 := hB
    exact m_ahead (d := d + 39) hB1.1.1 hB1.1.2.1 hB1.1.2.2.1 hS (fun y => absurd y g) (fun _ => hQ2 I L ⟨D, R, n0, t, E, b, hA, hB, hP⟩)
theorem p_shut {G : aG} {l : Launch} {d : Nat} {n w : Int32} : PAIR G l d mX7_shut mX8_shut [.int n, .int w] := by
  intro I L Q h hq
  obtain ⟨D, R, n0, t, E, b, hA, hB, hP⟩ := h
  have hW := hA.1.2.2
  have hS := hW.2.1.1
  have h8 := hW.2.1.2
  have hv := hW.2.2.2.2.2
  have hc10 : D.c ≤ 10 := hA.1.1.1.2.2
  have hN : wfN D.T D.c D.N := ⟨hc10, hW.2.2.2.1⟩
  obtain ⟨n1, hn61, hl, -, hnn⟩ := last_in hW
  have eR : ruA (R.map flatK) D.f = ruM R D.f := ru_AM hP.1
  have eH : holdR (R.map flatK) D.T D.N D.c n1 = holdM R D.T D.N D.c n1 := hold_AM hP.1
  have eL : ∀ n w, lookA (R.map flatK) D.T D.N D.c n1 n w = lookB R D.T D.N D.c n1 n w := fun n w => look_AM hP.1
  have eRl : (R.map flatK).length = R.length := List.length_map _
  by_cases g : gShut D.T n w
  · refine c_X7_shut (d := d + 42) hA.1  (fun _ I1 L1 f1 => hq _ _ _ (fun Q2 hQ2 => ?_)) (fun y => absurd g y)
    have hA1 := hA.X f1
    have hB1 := hB.hi f1.hi
    refine m_shut (d := d + 40) hB1.1.1 hB1.1.2.1 hB1.1.2.2.1 hS h8 (fun _ K L' hs => ?_) (fun y => absurd g y)
    have := hQ2 K L' ⟨D, R, n0, t, E, b, hA1.lo hs.lo, hB1.V hs, hP⟩
    simp only [eR, eH, eL, eRl] at this ⊢
    exact this
  · refine c_X7_shut (d := d + 42) hA.1  (fun y => absurd y g) (fun _ => hq _ _ _ (fun Q2 hQ2 => ?_))
    have hB1 := hB
    exact m_shut (d := d + 40) hB1.1.1 hB1.1.2.1 hB1.1.2.2.1 hS h8 (fun y => absurd y g) (fun _ => hQ2 I L ⟨D, R, n0, t, E, b, hA, hB, hP⟩)
theorem p_moved {G : aG} {l : Launch} {d : Nat} {t0 n w : Int32} : PAIR G l d mX7_moved mX8_moved [.int t0, .int n, .int w] := by
  intro I L Q h hq
  obtain ⟨D, R, n0, t, E, b, hA, hB, hP⟩ := h
  have hW := hA.1.2.2
  have hS := hW.2.1.1
  have h8 := hW.2.1.2
  have hv := hW.2.2.2.2.2
  have hc10 : D.c ≤ 10 := hA.1.1.1.2.2
  have hN : wfN D.T D.c D.N := ⟨hc10, hW.2.2.2.1⟩
  obtain ⟨n1, hn61, hl, -, hnn⟩ := last_in hW
  have eR : ruA (R.map flatK) D.f = ruM R D.f := ru_AM hP.1
  have eH : holdR (R.map flatK) D.T D.N D.c n1 = holdM R D.T D.N D.c n1 := hold_AM hP.1
  have eL : ∀ n w, lookA (R.map flatK) D.T D.N D.c n1 n w = lookB R D.T D.N D.c n1 n w := fun n w => look_AM hP.1
  have eRl : (R.map flatK).length = R.length := List.length_map _
  by_cases g : gMoved D.T t0 n w
  · refine c_X7_moved (d := d + 42) hA.1  (fun _ I1 L1 f1 => hq _ _ _ (fun Q2 hQ2 => ?_)) (fun y => absurd g y)
    have hA1 := hA.X f1
    have hB1 := hB.hi f1.hi
    refine m_moved (d := d + 40) hB1.1.1 hB1.1.2.1 hB1.1.2.2.1 hS h8 (fun _ K L' hs => ?_) (fun y => absurd g y)
    have := hQ2 K L' ⟨D, R, n0, t, E, b, hA1.lo hs.lo, hB1.V hs, hP⟩
    simp only [eR, eH, eL, eRl] at this ⊢
    exact this
  · refine c_X7_moved (d := d + 42) hA.1  (fun y => absurd y g) (fun _ => hq _ _ _ (fun Q2 hQ2 => ?_))
    have hB1 := hB
    exact m_moved (d := d + 40) hB1.1.1 hB1.1.2.1 hB1.1.2.2.1 hS h8 (fun y => absurd y g) (fun _ => hQ2 I L ⟨D, R, n0, t, E, b, hA, hB, hP⟩)
theorem p_tray {G : aG} {l : Launch} {d : Nat} {n w : Int32} : PAIR G l d mX7_tray mX8_tray [.int n, .int w] := by
  intro I L Q h hq
  obtain ⟨D, R, n0, t, E, b, hA, hB, hP⟩ := h
  have hW := hA.1.2.2
  have hS := hW.2.1.1
  have h8 := hW.2.1.2
  have hv := hW.2.2.2.2.2
  have hc10 : D.c ≤ 10 := hA.1.1.1.2.2
  have hN : wfN D.T D.c D.N := ⟨hc10, hW.2.2.2.1⟩
  obtain ⟨n1, hn61, hl, -, hnn⟩ := last_in hW
  have eR : ruA (R.map flatK) D.f = ruM R D.f := ru_AM hP.1
  have eH : holdR (R.map flatK) D.T D.N D.c n1 = holdM R D.T D.N D.c n1 := hold_AM hP.1
  have eL : ∀ n w, lookA (R.map flatK) D.T D.N D.c n1 n w = lookB R D.T D.N D.c n1 n w := fun n w => look_AM hP.1
  have eRl : (R.map flatK).length = R.length := List.length_map _
  by_cases g : gTray D.T n w
  · refine c_X7_tray (d := d + 42) hA.1  (fun _ I1 L1 f1 => hq _ _ _ (fun Q2 hQ2 => ?_)) (fun y => absurd g y)
    have hA1 := hA.X f1
    have hB1 := hB.hi f1.hi
    refine m_tray (d := d + 40) hB1.1.1 hB1.1.2.1 hB1.1.2.2.1 hS h8 (fun _ K L' hs => ?_) (fun y => absurd g y)
    have := hQ2 K L' ⟨D, R, n0, t, E, b, hA1.lo hs.lo, hB1.V hs, hP⟩
    simp only [eR, eH, eL, eRl] at this ⊢
    exact this
  · refine c_X7_tray (d := d + 42) hA.1  (fun y => absurd y g) (fun _ => hq _ _ _ (fun Q2 hQ2 => ?_))
    have hB1 := hB
    exact m_tray (d := d + 40) hB1.1.1 hB1.1.2.1 hB1.1.2.2.1 hS h8 (fun y => absurd y g) (fun _ => hQ2 I L ⟨D, R, n0, t, E, b, hA, hB, hP⟩)
theorem p_rests {G : aG} {l : Launch} {d : Nat} {i j n w : Int32} : PAIR G l d mX7_rests mX8_rests [.int i, .int j, .int n, .int w] := by
  intro I L Q h hq
  obtain ⟨D, R, n0, t, E, b, hA, hB, hP⟩ := h
  have hW := hA.1.2.2
  have hS := hW.2.1.1
  have h8 := hW.2.1.2
  have hv := hW.2.2.2.2.2
  have hc10 : D.c ≤ 10 := hA.1.1.1.2.2
  have hN : wfN D.T D.c D.N := ⟨hc10, hW.2.2.2.1⟩
  obtain ⟨n1, hn61, hl, -, hnn⟩ := last_in hW
  have eR : ruA (R.map flatK) D.f = ruM R D.f := ru_AM hP.1
  have eH : holdR (R.map flatK) D.T D.N D.c n1 = holdM R D.T D.N D.c n1 := hold_AM hP.1
  have eL : ∀ n w, lookA (R.map flatK) D.T D.N D.c n1 n w = lookB R D.T D.N D.c n1 n w := fun n w => look_AM hP.1
  have eRl : (R.map flatK).length = R.length := List.length_map _
  by_cases g : gRests D.T i j n w
  · refine c_X7_rests (d := d + 42) hA.1  (fun _ I1 L1 f1 => hq _ _ _ (fun Q2 hQ2 => ?_)) (fun y => absurd g y)
    have hA1 := hA.X f1
    have hB1 := hB.hi f1.hi
    refine m_rests (d := d + 40) hB1.1.1 hB1.1.2.1 hB1.1.2.2.1 hS (fun _ K L' hs => ?_) (fun y => absurd g y)
    have := hQ2 K L' ⟨D, R, n0, t, E, b, hA1.lo hs.lo, hB1.V hs, hP⟩
    simp only [eR, eH, eL, eRl] at this ⊢
    exact this
  · refine c_X7_rests (d := d + 42) hA.1  (fun y => absurd y g) (fun _ => hq _ _ _ (fun Q2 hQ2 => ?_))
    have hB1 := hB
    exact m_rests (d := d + 40) hB1.1.1 hB1.1.2.1 hB1.1.2.2.1 hS (fun y => absurd y g) (fun _ => hQ2 I L ⟨D, R, n0, t, E, b, hA, hB, hP⟩)
theorem p_visits {G : aG} {l : Launch} {d : Nat} {m n p w : Int32} : PAIR G l d mX7_visits mX8_visits [.int m, .int n, .int p, .int w] := by
  intro I L Q h hq
  obtain ⟨D, R, n0, t, E, b, hA, hB, hP⟩ := h
  have hW := hA.1.2.2
  have hS := hW.2.1.1
  have h8 := hW.2.1.2
  have hv := hW.2.2.2.2.2
  have hc10 : D.c ≤ 10 := hA.1.1.1.2.2
  have hN : wfN D.T D.c D.N := ⟨hc10, hW.2.2.2.1⟩
  obtain ⟨n1, hn61, hl, -, hnn⟩ := last_in hW
  have eR : ruA (R.map flatK) D.f = ruM R D.f := ru_AM hP.1
  have eH : holdR (R.map flatK) D.T D.N D.c n1 = holdM R D.T D.N D.c n1 := hold_AM hP.1
  have eL : ∀ n w, lookA (R.map flatK) D.T D.N D.c n1 n w = lookB R D.T D.N D.c n1 n w := fun n w => look_AM hP.1
  have eRl : (R.map flatK).length = R.length := List.length_map _
  by_cases g : gVisits D.T m n p w
  · refine c_X7_visits (d := d + 42) hA.1  (fun _ I1 L1 f1 => hq _ _ _ (fun Q2 hQ2 => ?_)) (fun y => absurd g y)
    have hA1 := hA.X f1
    have hB1 := hB.hi f1.hi
    refine m_visits (d := d + 41) hB1.1.1 hB1.1.2.1 hB1.1.2.2.1 hS hB1.1.2.2.2.2.2.1 hv hB1.1.2.2.2.2.2.2 (fun _ K L' hs => ?_) (fun y => absurd g y)
    have := hQ2 K L' ⟨D, R, n0, t, E, b, hA1.lo hs.lo, hB1.V hs, hP⟩
    simp only [eR, eH, eL, eRl] at this ⊢
    exact this
  · refine c_X7_visits (d := d + 42) hA.1  (fun y => absurd y g) (fun _ => hq _ _ _ (fun Q2 hQ2 => ?_))
    have hB1 := hB
    exact m_visits (d := d + 41) hB1.1.1 hB1.1.2.1 hB1.1.2.2.1 hS hB1.1.2.2.2.2.2.1 hv hB1.1.2.2.2.2.2.2 (fun y => absurd y g) (fun _ => hQ2 I L ⟨D, R, n0, t, E, b, hA, hB, hP⟩)
theorem p_knowing {G : aG} {l : Launch} {d : Nat} {i w : Int32} : PAIR G l d mX7_knowing mX8_knowing [.int i, .int w] := by
  intro I L Q h hq
  obtain ⟨D, R, n0, t, E, b, hA, hB, hP⟩ := h
  have hW := hA.1.2.2
  have hS := hW.2.1.1
  have h8 := hW.2.1.2
  have hv := hW.2.2.2.2.2
  have hc10 : D.c ≤ 10 := hA.1.1.1.2.2
  have hN : wfN D.T D.c D.N := ⟨hc10, hW.2.2.2.1⟩
  obtain ⟨n1, hn61, hl, -, hnn⟩ := last_in hW
  have eR : ruA (R.map flatK) D.f = ruM R D.f := ru_AM hP.1
  have eH : holdR (R.map flatK) D.T D.N D.c n1 = holdM R D.T D.N D.c n1 := hold_AM hP.1
  have eL : ∀ n w, lookA (R.map flatK) D.T D.N D.c n1 n w = lookB R D.T D.N D.c n1 n w := fun n w => look_AM hP.1
  have eRl : (R.map flatK).length = R.length := List.length_map _
  by_cases g : gKnow D.T i w
  · refine c_X7_knowing (d := d + 42) hA.1 hl hn61 (fun _ I1 L1 f1 => hq _ _ _ (fun Q2 hQ2 => ?_)) (fun y => absurd g y)
    have hA1 := hA.X f1
    have hB1 := hB.hi f1.hi
    refine m_knowing (d := d + 39) hB1.1.1 hB1.1.2.1 hB1.1.2.2.1 hS h8 hN hB1.1.2.2.2.1 hnn hn61 (fun _ K L' hs => ?_) (fun y => absurd g y)
    have := hQ2 K L' ⟨D, R, n0, t, E, b, hA1.lo hs.lo, hB1.V hs, hP⟩
    simp only [eR, eH, eL, eRl] at this ⊢
    exact this
  · refine c_X7_knowing (d := d + 42) hA.1 hl hn61 (fun y => absurd y g) (fun _ => hq _ _ _ (fun Q2 hQ2 => ?_))
    have hB1 := hB
    exact m_knowing (d := d + 39) hB1.1.1 hB1.1.2.1 hB1.1.2.2.1 hS h8 hN hB1.1.2.2.2.1 hnn hn61 (fun y => absurd y g) (fun _ => hQ2 I L ⟨D, R, n0, t, E, b, hA, hB, hP⟩)
theorem p_ruled {G : aG} {l : Launch} {d : Nat} {w : Int32} : PAIR G l d mX7_ruled mX8_ruled [.int w] := by
  intro I L Q h hq
  obtain ⟨D, R, n0, t, E, b, hA, hB, hP⟩ := h
  have hW := hA.1.2.2
  have hS := hW.2.1.1
  have h8 := hW.2.1.2
  have hv := hW.2.2.2.2.2
  have hc10 : D.c ≤ 10 := hA.1.1.1.2.2
  have hN : wfN D.T D.c D.N := ⟨hc10, hW.2.2.2.1⟩
  obtain ⟨n1, hn61, hl, -, hnn⟩ := last_in hW
  have eR : ruA (R.map flatK) D.f = ruM R D.f := ru_AM hP.1
  have eH : holdR (R.map flatK) D.T D.N D.c n1 = holdM R D.T D.N D.c n1 := hold_AM hP.1
  have eL : ∀ n w, lookA (R.map flatK) D.T D.N D.c n1 n w = lookB R D.T D.N D.c n1 n w := fun n w => look_AM hP.1
  have eRl : (R.map flatK).length = R.length := List.length_map _
  by_cases g : gRuled D.T w
  · refine c_X7_ruled (d := d + 41) hA.1 hl hn61 (fun _ I1 L1 f1 => hq _ _ _ (fun Q2 hQ2 => ?_)) (fun y => absurd g y)
    have hA1 := hA.X f1
    have hB1 := hB.hi f1.hi
    refine m_ruled (d := d + 38) hB1.1.1 hB1.1.2.1 hB1.1.2.2.1 hS h8 hN hB1.1.2.2.2.1 hnn hn61 (fun _ K L' hs => ?_) (fun y => absurd g y)
    have := hQ2 K L' ⟨D, R, n0, t, E, b, hA1.lo hs.lo, hB1.V hs, hP⟩
    simp only [eR, eH, eL, eRl] at this ⊢
    exact this
  · refine c_X7_ruled (d := d + 41) hA.1 hl hn61 (fun y => absurd y g) (fun _ => hq _ _ _ (fun Q2 hQ2 => ?_))
    have hB1 := hB
    exact m_ruled (d := d + 38) hB1.1.1 hB1.1.2.1 hB1.1.2.2.1 hS h8 hN hB1.1.2.2.2.1 hnn hn61 (fun y => absurd y g) (fun _ => hQ2 I L ⟨D, R, n0, t, E, b, hA, hB, hP⟩)
theorem p_look {G : aG} {l : Launch} {d : Nat} {m w : Int32} : PAIR G l d mX7_look mX8_look [.int m, .int w] := by
  intro I L Q h hq
  obtain ⟨D, R, n0, t, E, b, hA, hB, hP⟩ := h
  have hW := hA.1.2.2
  have hS := hW.2.1.1
  have h8 := hW.2.1.2
  have hv := hW.2.2.2.2.2
  have hc10 : D.c ≤ 10 := hA.1.1.1.2.2
  have hN : wfN D.T D.c D.N := ⟨hc10, hW.2.2.2.1⟩
  obtain ⟨n1, hn61, hl, -, hnn⟩ := last_in hW
  have eR : ruA (R.map flatK) D.f = ruM R D.f := ru_AM hP.1
  have eH : holdR (R.map flatK) D.T D.N D.c n1 = holdM R D.T D.N D.c n1 := hold_AM hP.1
  have eL : ∀ n w, lookA (R.map flatK) D.T D.N D.c n1 n w = lookB R D.T D.N D.c n1 n w := fun n w => look_AM hP.1
  have eRl : (R.map flatK).length = R.length := List.length_map _
  by_cases g : gLook D.T m w
  · refine c_X7_look (d := d + 41) hA.1 hl hn61 (fun _ I1 L1 f1 => hq _ _ _ (fun Q2 hQ2 => ?_)) (fun y => absurd g y)
    have hA1 := hA.X f1
    have hB1 := hB.hi f1.hi
    refine m_look (d := d + 38) hB1.1.1 hB1.1.2.1 hB1.1.2.2.1 hS h8 hN hB1.1.2.2.2.1 hnn hn61 (fun _ K L' hs => ?_) (fun y => absurd g y)
    have := hQ2 K L' ⟨D, R, n0, t, E, b, hA1.lo hs.lo, hB1.V hs, hP⟩
    simp only [eR, eH, eL, eRl] at this ⊢
    exact this
  · refine c_X7_look (d := d + 41) hA.1 hl hn61 (fun y => absurd y g) (fun _ => hq _ _ _ (fun Q2 hQ2 => ?_))
    have hB1 := hB
    exact m_look (d := d + 38) hB1.1.1 hB1.1.2.1 hB1.1.2.2.1 hS h8 hN hB1.1.2.2.2.1 hnn hn61 (fun y => absurd y g) (fun _ => hQ2 I L ⟨D, R, n0, t, E, b, hA, hB, hP⟩)
