/-! both: the tape, rules, rooms -/
theorem RA.P {D : aIm} {R : List (List aCl2)} {n m : Nat} {t t' : Nat → Nat} {E : Nat → aIm} {b : Nat → Prop} {I J : aSS} (h : RA D R n t E b I) (f : frP I J) (hp : okP m t' J) : RA D R m t' E b J := by
  obtain ⟨h1, -, h5, h6⟩ := h
  exact ⟨⟨okW_fr h1.1 (fun a ha => f a (by omega) (by omega)), h1.2.1.fr (fun a ha => f a (by omega) (by omega)), h1.2.2⟩, hp, fun k hk => okW_fr (h5 k hk) (fun a ha => f a (by omega) (by omega)), by rw [f 0 (by omega) (by omega)]; exact h6⟩
theorem RB.B {D : aIm} {R : List (List aCl2)} {n m : Nat} {t t' : Nat → Nat} {E : Nat → aIm} {b : Nat → Prop} {I J : aSS} (h : RB D R n t E b I) (f : frB I J) (hp : okBy m t' J) : RB D R m t' E b J := by
  obtain ⟨h1, -, h3, h4, h5⟩ := h
  have h8 := h1
  refine ⟨?_, hp, by rw [f.2 31 (by omega), f.2 37 (by omega)]; exact h3, fun k hk hb => (h4 k hk hb).fr (fun q _ _ => by rw [f.1 892 (by omega) (by omega)]), fun k hk => by rw [f.1 893 (by omega) (by omega)]; exact h5 k hk⟩
  obtain ⟨⟨c1, c2⟩, c3, c4, c5, c6, c7, c8⟩ := h1
  have e : ∀ a, 849 ≤ a → a ≠ 876 → J a = I a := fun a h1 h2 => f.1 a (by omega) h2
  have e9 : J 849 = I 849 := e 849 (by omega) (by omega)
  exact ⟨⟨c1.fr (fun a ha => e a (by omega) (by omega)) (fun k _ => by rw [e9]), c2.fr (fun a ha => e a (by omega) (by omega)) (by rw [e9]) (by rw [e9]) (f.2 48 (by omega))⟩, c3.fr (fun a ha => e a (by omega) (by omega)) (f.2 32 (by omega)), ⟨by rw [e9]; exact c4.1, c4.2⟩, ⟨by rw [e9]; exact c5.1, fun k hk => by rw [e 861 (by omega) (by omega), e 862 (by omega) (by omega), e 863 (by omega) (by omega)]; exact c5.2 k hk⟩, c6.fr (f.2 55 (by omega)) (e 886 (by omega) (by omega)), by rw [e9]; exact c7, (f.2 49 (by omega)).trans c8⟩
theorem frP.hi {I J : aSS} (h : frP I J) : eqHi I J := fun a ha => h a (by omega) (by omega)
theorem frB.lo {I J : aSS} (h : frB I J) : eqLo I J := fun a ha => h.1 a (by omega) (by omega)

theorem p_feed {G : aG} {l : Launch} {d : Nat} {v1 v2 v3 v4 v5 : Int32} : PAIR G l d mX7_feed mX8_feed [.int v1, .int v2, .int v3, .int v4, .int v5] := by
  intro I L Q h hq
  obtain ⟨D, R, n0, t, E, b, hA, hB, hP⟩ := h
  have hW := hA.1.2.2
  have hS := hW.2.1.1
  have h8 := hW.2.1.2
  have hv := hW.2.2.2.2.2
  have hc10 : D.c ≤ 10 := hA.1.1.1.2.2
  have hN : wfN D.T D.c D.N := ⟨hc10, hW.2.2.2.1⟩
  obtain ⟨n1, hn61, hl, -, hnn⟩ := last_in hW
  have eR : ruA (R.map flatK) D.f = ruM R D.f := ru_AM hP.1
  have eH : holdR (R.map flatK) D.T D.N D.c n1 = holdM R D.T D.N D.c n1 := hold_AM hP.1
  have eL : ∀ n w, lookA (R.map flatK) D.T D.N D.c n1 n w = lookB R D.T D.N D.c n1 n w := fun n w => look_AM hP.1
  have eRl : (R.map flatK).length = R.length := List.length_map _
  by_cases g : n0 + 20 ≤ 400
  · refine c_X7_feed (d := d + 44) hA.2.1 (fun _ I1 f1 hp => hq _ _ _ (fun Q2 hQ2 => ?_)) (fun y => absurd g y)
    have hB1 := hB.hi f1.hi
    exact m_feed (d := d + 48) hB1.2.1 (fun _ K fK hK => hQ2 K L ⟨D, R, _, _, E, b, (hA.P f1 hp).lo fK.lo, hB1.B fK hK, hP⟩) (fun y => absurd g y)
  · exact c_X7_feed (d := d + 44) hA.2.1 (fun y => absurd y g) (fun _ => hq _ _ _ (fun Q2 hQ2 => m_feed (d := d + 48) hB.2.1 (fun y => absurd y g) (fun _ => hQ2 I L ⟨D, R, n0, t, E, b, hA, hB, hP⟩)))
theorem p_end {G : aG} {l : Launch} {d : Nat} {z : Int32} : PAIR G l d mX7_end mX8_end [.int z] := by
  intro I L Q h hq
  obtain ⟨D, R, n0, t, E, b, hA, hB, hP⟩ := h
  have hW := hA.1.2.2
  have hS := hW.2.1.1
  have h8 := hW.2.1.2
  have hv := hW.2.2.2.2.2
  have hc10 : D.c ≤ 10 := hA.1.1.1.2.2
  have hN : wfN D.T D.c D.N := ⟨hc10, hW.2.2.2.1⟩
  obtain ⟨n1, hn61, hl, -, hnn⟩ := last_in hW
  have eR : ruA (R.map flatK) D.f = ruM R D.f := ru_AM hP.1
  have eH : holdR (R.map flatK) D.T D.N D.c n1 = holdM R D.T D.N D.c n1 := hold_AM hP.1
  have eL : ∀ n w, lookA (R.map flatK) D.T D.N D.c n1 n w = lookB R D.T D.N D.c n1 n w := fun n w => look_AM hP.1
  have eRl : (R.map flatK).length = R.length := List.length_map _
  have hn4 := hA.2.1.2.1
  refine c_X7_end (d := d + 44) hA.2.1 (fun m hm hz I1 f1 hp => hq _ _ _ (fun Q2 hQ2 => ?_)) (fun h0 => hq _ _ _ (fun Q2 hQ2 => ?_))
  · have hB1 := hB.hi f1.hi
    refine m_end (d := d + 49) hB1.2.1 (fun m' hm' hz' K fK hK => ?_) (fun y => absurd hz (y m hm))
    obtain rfl : m' = m := by
      rw [hz] at hz'
      exact ((nI_eq (by omega) (by omega)).mp hz').symm
    exact hQ2 K L ⟨D, R, _, _, E, b, (hA.P f1 hp).lo fK.lo, hB1.B fK hK, hP⟩
  · exact m_end (d := d + 49) hB.2.1 (fun m hm hz => absurd hz (h0 m hm)) (fun _ => hQ2 I L ⟨D, R, n0, t, E, b, hA, hB, hP⟩)
theorem wfA.le {T S : aSS} {a c m m' : Nat} {P : Nat → aSS} {N : aSS} {f v : Int32} (h : wfA T S a P c N f v m) (hm : m ≤ m') : wfA T S a P c N f v m' := by
  obtain ⟨h1, h2, h3, h4, h5, h6⟩ := h
  refine ⟨h1, h2, h3, h4, h5.imp id (fun y => ?_), h6⟩
  obtain ⟨j, hj, e⟩ := y
  exact ⟨j, by omega, e⟩
theorem frU.C {T S N : aSS} {a c : Nat} {P : Nat → aSS} {R R' : List (List aCl2)} {f v : Int32} {I J : aSS} (g : frU I J) (h : cM T S a P c N R f v I) (hR : okMR R' J) (hf : f = -1 ∨ inN f R'.length) : cM T S a P c N R' f v J := by
  obtain ⟨⟨c1, c2⟩, c3, c4, c5, c6, c7, c8⟩ := h
  have e : ∀ a, 849 ≤ a → a < 877 ∨ 883 < a → J a = I a := fun a h1 h2 => g.1 a (by omega) h2
  have e9 : J 849 = I 849 := e 849 (by omega) (by omega)
  exact ⟨⟨c1.fr (fun a ha => e a (by omega) (by omega)) (fun k _ => by rw [e9]), c2.fr (fun a ha => e a (by omega) (by omega)) (by rw [e9]) (by rw [e9]) (g.2 48 (by omega))⟩, hR, ⟨by rw [e9]; exact c4.1, hf⟩, ⟨by rw [e9]; exact c5.1, fun k hk => by rw [e 861 (by omega) (by omega), e 862 (by omega) (by omega), e 863 (by omega) (by omega)]; exact c5.2 k hk⟩, c6.fr (g.2 55 (by omega)) (e 886 (by omega) (by omega)), by rw [e9]; exact c7, (g.2 49 (by omega)).trans c8⟩
theorem RB.U {D : aIm} {R R' : List (List aCl2)} {n sl : Nat} {t : Nat → Nat} {E : Nat → aIm} {b : Nat → Prop} {I J : aSS} (h : RB D R n t E b I) (g : frU I J) (hR : okMR R' J) (hf : D.f = -1 ∨ inN D.f R'.length) (hB : okBy 0 t J) (hsl : sl < 6) (h31 : J 848 31 = nI sl) : RB D R' 0 t E b J := by
  obtain ⟨h1, -, h3, h4, h5⟩ := h
  exact ⟨g.C h1 hR hf, hB, ⟨⟨sl, hsl, h31⟩, (g.2 37 (by omega)).trans h3.2⟩, fun k hk hb => (h4 k hk hb).fr (fun q _ _ => by rw [g.1 892 (by omega) (by omega)]), fun k hk => by rw [g.1 893 (by omega) (by omega)]; exact h5 k hk⟩
theorem frU.lo {I J : aSS} (h : frU I J) : eqLo I J := fun a ha => h.1 a (by omega) (by omega)
theorem p_rule {G : aG} {l : Launch} {d : Nat} : PAIR G l d mX7_rule mX8_rule [] := by
  intro I L Q h hq
  obtain ⟨D, R, n0, t, E, b, hA, hB, hP⟩ := h
  have hW := hA.1.2.2
  have hS := hW.2.1.1
  have h8 := hW.2.1.2
  have hv := hW.2.2.2.2.2
  have hc10 : D.c ≤ 10 := hA.1.1.1.2.2
  have hN : wfN D.T D.c D.N := ⟨hc10, hW.2.2.2.1⟩
  obtain ⟨n1, hn61, hl, -, hnn⟩ := last_in hW
  have eR : ruA (R.map flatK) D.f = ruM R D.f := ru_AM hP.1
  have eH : holdR (R.map flatK) D.T D.N D.c n1 = holdM R D.T D.N D.c n1 := hold_AM hP.1
  have eL : ∀ n w, lookA (R.map flatK) D.T D.N D.c n1 n w = lookB R D.T D.N D.c n1 n w := fun n w => look_AM hP.1
  have eRl : (R.map flatK).length = R.length := List.length_map _
  have hn4 := hA.2.1.2.1
  refine c_X7_rule (d := d + 6) hA.2.1 hA.1.2.1 (fun h6 => hq _ _ _ (fun Q2 hQ2 => ?_)) (fun h6 acc hr I1 e1 e2 hp hR => hq _ _ _ (fun Q2 hQ2 => ?_)) (fun h6 e hr I1 e1 hp hR => hq _ _ _ (fun Q2 hQ2 => ?_))
  · rw [eRl] at h6
    exact m_rule (d := d + 37) hB.2.1 hB.1.2.1 hB.2.2.1.2 (fun _ => hQ2 I L ⟨D, R, n0, t, E, b, hA, hB, hP⟩) (fun y => by omega) (fun y => by omega)
  · rw [eRl] at h6 e1
    have hB1 := hB.hi (fun a ha => e1 a (by omega) (by omega) (by omega) (by omega))
    have hmap : (R ++ [acc]).map flatK = R.map flatK ++ [flatK acc] := by simp
    have hln : (R ++ [acc]).length = R.length + 1 := by simp
    have hW' : wfA D.T D.S D.a D.P D.c D.N D.f D.v ((R ++ [acc]).map flatK).length := hW.le (by rw [hmap]; simp)
    have hA1 : RA D (R ++ [acc]) 0 t E b I1 := by
      refine ⟨⟨okW_fr hA.1.1 (fun a ha => e1 a (by omega) (by omega) (by omega) (by omega)), by rw [hmap]; exact hR, hW'⟩, hp, fun k hk => okW_fr (hA.2.2.1 k hk) (fun a ha => e1 a (by omega) (by omega) (by omega) (by omega)), by rw [e2 6 (by omega)]; exact hA.2.2.2⟩
    refine m_rule (d := d + 37) hB1.2.1 hB1.1.2.1 hB1.2.2.1.2 (fun y => by omega) (fun _ acc' hr' K fK hK h31 hRK => ?_) (fun _ e hr' => by rw [hr] at hr'; simp at hr')
    obtain rfl : acc' = acc := by
      rw [hr] at hr'
      exact (Except.ok.inj hr').symm
    have := hQ2 K L ⟨D, R ++ [acc'], 0, t, E, b, hA1.lo fK.lo, hB1.U fK hRK (by rw [hln]; exact hB1.1.2.2.1.2.imp id (fun y => by obtain ⟨j, hj, e⟩ := y; exact ⟨j, by omega, e⟩)) hK h6 h31, fun cl hcl => (List.mem_append.mp hcl).elim (hP.1 cl) (fun y => by rw [List.mem_singleton] at y; rw [y]; exact (rulP_K hn4 hr).1), fun k hk hb => ⟨(hP.2 k hk hb).1.le (by rw [hln]; omega), (hP.2 k hk hb).2⟩⟩
    rw [eRl] at this
    exact this
  · rw [eRl] at h6 e1
    have hB1 := hB.hi (fun a ha => e1 a (by omega) (by omega) (by omega))
    have hA1 : RA D R 0 t E b I1 := ⟨⟨okW_fr hA.1.1 (fun a ha => e1 a (by omega) (by omega) (by omega)), hR, hW⟩, hp, fun k hk => okW_fr (hA.2.2.1 k hk) (fun a ha => e1 a (by omega) (by omega) (by omega)), by rw [e1 0 (by omega) (by omega) (by omega)]; exact hA.2.2.2⟩
    refine m_rule (d := d + 37) hB1.2.1 hB1.1.2.1 hB1.2.2.1.2 (fun y => by omega) (fun _ acc' hr' => by rw [hr] at hr'; simp at hr') (fun _ e' hr' K fK hK h31 hRK => ?_)
    obtain rfl : e' = e := by
      rw [hr] at hr'
      exact (Except.error.inj hr').symm
    exact hQ2 K L ⟨D, R, 0, t, E, b, hA1.lo fK.lo, hB1.U fK hRK hB1.1.2.2.1.2 hK h6 h31, hP⟩
theorem p_room {G : aG} {l : Launch} {d : Nat} : PAIR G l d mX7_room mX8_room [] := by
  intro I L Q h hq
  obtain ⟨D, R, n0, t, E, b, hA, hB, hP⟩ := h
  have hW := hA.1.2.2
  have hS := hW.2.1.1
  have h8 := hW.2.1.2
  have hv := hW.2.2.2.2.2
  have hc10 : D.c ≤ 10 := hA.1.1.1.2.2
  have hN : wfN D.T D.c D.N := ⟨hc10, hW.2.2.2.1⟩
  obtain ⟨n1, hn61, hl, -, hnn⟩ := last_in hW
  have eR : ruA (R.map flatK) D.f = ruM R D.f := ru_AM hP.1
  have eH : holdR (R.map flatK) D.T D.N D.c n1 = holdM R D.T D.N D.c n1 := hold_AM hP.1
  have eL : ∀ n w, lookA (R.map flatK) D.T D.N D.c n1 n w = lookB R D.T D.N D.c n1 n w := fun n w => look_AM hP.1
  have eRl : (R.map flatK).length = R.length := List.length_map _
  obtain ⟨sl, hsl, h31⟩ := hB.2.2.1.1
  refine c_X7_room (d := d + 36) hA.1 hA.2.1 (fun s hr hg hs2 I1 T' e1 hp hT hc => hq _ _ _ (fun Q2 hQ2 => ?_)) (fun e hr I1 f1 hp => hq _ _ _ (fun Q2 hQ2 => ?_))
  · have hi : eqHi I I1 := fun a ha => e1 a (by omega) (by omega)
    have hB1 := hB.hi hi
    have hA1 : RA (T', begS T', 0, D.P, 0, D.N, D.f, D.v) R 0 t E b I1 := ⟨hc, hp, fun k hk => okW_fr (hA.2.2.1 k hk) (fun a ha => e1 a (by omega) (by omega)), by rw [e1 0 (by omega) (by omega)]; exact hA.2.2.2⟩
    refine m_room (d := d + 42) hB1.1 h8 hB1.2.1 hsl (by rw [hi 848 (by omega)]; exact h31) hB1.2.2.1.2 (fun s' hr' hg' hs' K k1 k2 k3 k4 k5 k6 k7 => ?_) (fun e hr' => by rw [hr] at hr'; simp at hr')
    obtain rfl : s' = s := by
      rw [hr] at hr'
      exact (Except.ok.inj hr').symm
    exact hQ2 K L ⟨_, R, 0, t, E, b, hA1.lo k7, ⟨k6 T' hT, k5, ⟨⟨sl, hsl, k3⟩, k4⟩, fun k hk hb => (hB1.2.2.2.1 k hk hb).fr (fun q _ _ => by rw [k1]), fun k hk => by rw [k2]; exact hB1.2.2.2.2 k hk⟩, hP⟩
  · have hi : eqHi I I1 := fun a ha => f1 a (by omega) (by omega)
    have hB1 := hB.hi hi
    have hA1 : RA D R 0 t E b I1 := ⟨⟨okW_fr hA.1.1 (fun a ha => f1 a (by omega) (by omega)), hA.1.2.1.fr (fun a ha => f1 a (by omega) (by omega)), hW⟩, hp, fun k hk => okW_fr (hA.2.2.1 k hk) (fun a ha => f1 a (by omega) (by omega)), by rw [f1 0 (by omega) (by omega)]; exact hA.2.2.2⟩
    refine m_room (d := d + 42) hB1.1 h8 hB1.2.1 hsl (by rw [hi 848 (by omega)]; exact h31) hB1.2.2.1.2 (fun s' hr' => by rw [hr] at hr'; simp at hr') (fun e' hr' K k1 k2 k3 k4 k5 k6 k7 => ?_)
    obtain rfl : e' = e := by
      rw [hr] at hr'
      exact (Except.error.inj hr').symm
    exact hQ2 K L ⟨D, R, 0, t, E, b, hA1.lo k7, ⟨k6, k5, ⟨⟨sl, hsl, k3⟩, k4⟩, fun k hk hb => (hB1.2.2.2.1 k hk hb).fr (fun q _ _ => by rw [k1]), fun k hk => by rw [k2]; exact hB1.2.2.2.2 k hk⟩, hP⟩
