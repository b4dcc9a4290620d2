/-! both: images, the tape, rules, rooms -/
theorem bit_im : ∀ m, m < 16 → ∀ k, k < 4 → (∃ m', m' < 16 ∧ nI m ||| shlS k = nI m') ∧ ∀ j, j < 4 → (bitS (nI m ||| shlS k) j ↔ j = k ∨ bitS (nI m) j) := by
  have h : ∀ m, m < 16 → ∀ k, k < 4 → (∃ m', m' < 16 ∧ nI m ||| shlS k = nI m') := by decide +kernel
  have g : ∀ m, m < 16 → ∀ k, k < 4 → ∀ j, j < 4 → (bitS (nI m ||| shlS k) j ↔ j = k ∨ bitS (nI m) j) := by decide +kernel
  exact fun m hm k hk => ⟨h m hm k hk, g m hm k hk⟩
theorem cM.gen {T S N : aSS} {a c : Nat} {P : Nat → aSS} {R : List (List aCl2)} {f v : Int32} {I J : aSS} (h : cM T S a P c N R f v I) (e : ∀ a, 849 ≤ a → a < 887 → J a = I a) (e8 : ∀ j, j < 64 → J 848 j = I 848 j) : cM T S a P c N R f v J := by
  obtain ⟨⟨c1, c2⟩, c3, c4, c5, c6, c7, c8⟩ := h
  have e9 : J 849 = I 849 := e 849 (by omega) (by omega)
  refine ⟨⟨c1.fr (fun a ha => e a (by omega) (by omega)) (fun k _ => by rw [e9]), c2.fr (fun a ha => e a (by omega) (by omega)) (by rw [e9]) (by rw [e9]) (e8 48 (by omega))⟩, c3.fr (fun a ha => e a (by omega) (by omega)) (e8 32 (by omega)), ⟨by rw [e9]; exact c4.1, c4.2⟩, ⟨by rw [e9]; exact c5.1, fun k hk => by rw [e 861 (by omega) (by omega), e 862 (by omega) (by omega), e 863 (by omega) (by omega)]; exact c5.2 k hk⟩, c6.fr (e8 55 (by omega)) (e 886 (by omega) (by omega)), by rw [e9]; exact c7, (e8 49 (by omega)).trans c8⟩

theorem p_image {G : aG} {l : Launch} {d : Nat} {z : Int32} : PAIR G l d mX7_image mX8_image [.int z] := by
  intro I L Q h hq
  obtain ⟨D, R, n0, t, E, b, hA, hB, hP⟩ := h
  have hW := hA.1.2.2
  have hS := hW.2.1.1
  have h8 := hW.2.1.2
  have hv := hW.2.2.2.2.2
  have hc10 : D.c ≤ 10 := hA.1.1.1.2.2
  have hN : wfN D.T D.c D.N := ⟨hc10, hW.2.2.2.1⟩
  obtain ⟨n1, hn61, hl, -, hnn⟩ := last_in hW
  have eR : ruA (R.map flatK) D.f = ruM R D.f := ru_AM hP.1
  have eH : holdR (R.map flatK) D.T D.N D.c n1 = holdM R D.T D.N D.c n1 := hold_AM hP.1
  have eL : ∀ n w, lookA (R.map flatK) D.T D.N D.c n1 n w = lookB R D.T D.N D.c n1 n w := fun n w => look_AM hP.1
  have eRl : (R.map flatK).length = R.length := List.length_map _
  by_cases g : gImage z
  · refine c_X7_image (d := d + 44) hA.1 (fun k hk => ⟨_, _, _, _, _, _, _, _, hA.2.2.1 k hk⟩) (fun k hk hz I1 f1 f2 f3 hc => hq _ _ _ (fun Q2 hQ2 => ?_)) (fun y => absurd g y)
    obtain ⟨hbit, m, hm, hm6⟩ := hA.2.2.2
    obtain ⟨⟨m', hm', em⟩, eb⟩ := bit_im m hm k hk
    have i6 : I1 0 6 = nI m ||| shlS k := by rw [f2, hm6]
    have hA1 : RA D R n0 t (fun j => if j = k then D else E j) (fun j => j = k ∨ b j) I1 := by
      refine ⟨⟨okW_fr hA.1.1 (fun a ha => f1 a (by omega) (by omega)), ?_, hW⟩, ⟨by rw [f1 1 (by omega) (by omega)]; exact hA.2.1.1, hA.2.1.2.1, fun i hi => by rw [f1 2 (by omega) (by omega)]; exact hA.2.1.2.2 i hi⟩, fun j hj => ?_, fun j hj => ?_, m', hm', i6.trans em⟩
      · obtain ⟨q1, q2, q3⟩ := hA.1.2.1
        exact ⟨(f3 2 (by omega)).trans q1, q2, fun r hr => okR_fr (fun a ha => f1 a (by omega) (by omega)) (q3 r hr)⟩
      · by_cases e : j = k
        · dsimp only
          rw [if_pos e, e]
          exact hc
        · dsimp only
          rw [if_neg e]
          exact okW_fr (hA.2.2.1 j hj) (fun a ha => f1 a (by omega) (by omega))
      · rw [i6, eb j hj]
        have := hbit j hj
        rw [hm6] at this
        rw [this]
    have hB1 := hB.hi (fun a ha => f1 a (by omega) (by omega))
    refine m_image (d := d + 47) hB1.1 (fun k' hk' hz' K e1 e2 e3 e4 e5 e6 => ?_) (fun y => absurd g y)
    obtain rfl : k' = k := by
      rw [hz] at hz'
      exact ((nI_eq (by omega) (by omega)).mp hz').symm
    refine hQ2 K L ⟨D, R, n0, t, _, _, hA1.lo (fun a ha => e1 a (by omega) (by omega) (by omega) (by omega)), ⟨hB1.1.gen (fun a h1 h2 => e1 a (by omega) (by omega) (by omega) (by omega)) (fun j hj => e2 j (by omega) (by omega)), hB1.2.1.fr (e2 28 (by omega) (by omega)) (e1 876 (by omega) (by omega) (by omega) (by omega)), by rw [e2 31 (by omega) (by omega), e2 37 (by omega) (by omega)]; exact hB1.2.2.1, fun j hj hb => ?_, fun j hj => ?_⟩, hP.1, fun j hj hb => ?_⟩
    · by_cases e : j = k'
      · dsimp only
        rw [if_pos e, e]
        exact ⟨I1, e5, hB1.1.z⟩
      · dsimp only
        rw [if_neg e]
        exact (hB1.2.2.2.1 j hj (hb.resolve_left e)).fr (fun q q1 q2 => e6 q (by omega))
    · by_cases e : j = k'
      · subst e
        rw [e3]
        exact ⟨fun y => absurd y (by decide), fun y => absurd (Or.inl rfl) y⟩
      · rw [e4 j e, hB1.2.2.2.2 j hj]
        exact ⟨fun y z => z.elim e y, fun y z => y (Or.inr z)⟩
    · by_cases e : j = k'
      · dsimp only
        rw [if_pos e]
        rw [eRl] at hW
        exact ⟨hW, hc10⟩
      · dsimp only
        rw [if_neg e]
        exact hP.2 j hj (hb.resolve_left e)
  · refine c_X7_image (d := d + 44) hA.1 (fun k hk => ⟨_, _, _, _, _, _, _, _, hA.2.2.1 k hk⟩) (fun k hk hz I1 f1 f2 f3 hc => absurd ⟨?_, ?_⟩ g) (fun _ => hq _ _ _ (fun Q2 hQ2 => m_image (d := d + 47) hB.1 (fun k hk hz => absurd ⟨?_, ?_⟩ g) (fun _ => hQ2 I L ⟨D, R, n0, t, E, b, hA, hB, hP⟩)))
    all_goals (first | (rw [hz]; exact nI_pos (by omega)) | (rw [hz, show (4 : Int32) = nI 4 from rfl, nI_ltI (by omega) (by omega)]; exact hk))
theorem p_back {G : aG} {l : Launch} {d : Nat} {z : Int32} : PAIR G l d mX7_back mX8_back [.int z] := by
  intro I L Q h hq
  obtain ⟨D, R, n0, t, E, b, hA, hB, hP⟩ := h
  have hW := hA.1.2.2
  have hS := hW.2.1.1
  have h8 := hW.2.1.2
  have hv := hW.2.2.2.2.2
  have hc10 : D.c ≤ 10 := hA.1.1.1.2.2
  have hN : wfN D.T D.c D.N := ⟨hc10, hW.2.2.2.1⟩
  obtain ⟨n1, hn61, hl, -, hnn⟩ := last_in hW
  have eR : ruA (R.map flatK) D.f = ruM R D.f := ru_AM hP.1
  have eH : holdR (R.map flatK) D.T D.N D.c n1 = holdM R D.T D.N D.c n1 := hold_AM hP.1
  have eL : ∀ n w, lookA (R.map flatK) D.T D.N D.c n1 n w = lookB R D.T D.N D.c n1 n w := fun n w => look_AM hP.1
  have eRl : (R.map flatK).length = R.length := List.length_map _
  refine c_X7_back (d := d + 44) hA.1 (fun k hk hz hb => ⟨_, _, _, _, _, _, _, _, hA.2.2.1 k hk, fun I1 f1 hc => hq _ _ _ (fun Q2 hQ2 => ?_)⟩) (fun h0 => hq _ _ _ (fun Q2 hQ2 => ?_))
  · have hbk := (hA.2.2.2.1 k hk).mp hb
    obtain ⟨hwE, hcE⟩ := hP.2 k hk hbk
    have hwE' := hwE
    rw [← eRl] at hwE'
    have hA1 := hA.W (D' := E k) f1 ⟨hc, hA.1.2.1.fr (fun a ha => f1 a (by omega)), hwE'⟩
    have hB1 := hB.hi f1.hi
    refine m_back (d := d + 47) (fun k' hk' hz' hn K e1 e2 e3 => ?_) (fun y => absurd (y k hk hz) (fun z => (hB1.2.2.2.2 k hk).mp z hbk))
    obtain rfl : k' = k := by
      rw [hz] at hz'
      exact ((nI_eq (by omega) (by omega)).mp hz').symm
    obtain ⟨J, j1, j2⟩ := hB1.2.2.2.1 k' hk hbk
    have k48 : K 848 48 = J 848 48 := by
      rw [e2 48 (by omega) (by omega) (by omega), hB1.1.1.2.1.2.2, h8, j2.2.1.1.2.2, hwE.2.1.2]
    have hz0 : cM0 (E k').T (E k').S (E k').a (E k').P (E k').c (E k').N (E k').f (E k').v K := cM0.pt (fun q hq => (e3 q hq).trans (j1 q hq)) k48 hcE j2
    obtain ⟨z1, z2, z3, z4, z5, z6⟩ := hz0
    rw [z2.1.1]
    refine hQ2 K L ⟨E k', R, n0, t, E, b, hA1.lo (fun a ha => e1 a (by omega) (by omega) (by omega)), ⟨⟨⟨z1, z2⟩, hB1.1.2.1.fr (fun a ha => e1 a (by omega) (by omega) (by omega)) (e2 32 (by omega) (by omega) (by omega)), ⟨z3, hwE.2.2.2.2.1⟩, z4, z5, z6, (e2 49 (by omega) (by omega) (by omega)).trans hB1.1.2.2.2.2.2.2⟩, hB1.2.1.fr (e2 28 (by omega) (by omega) (by omega)) (e1 876 (by omega) (by omega) (by omega)), by rw [e2 31 (by omega) (by omega) (by omega), e2 37 (by omega) (by omega) (by omega)]; exact hB1.2.2.1, fun j hj hb => (hB1.2.2.2.1 j hj hb).fr (fun q _ _ => by rw [e1 892 (by omega) (by omega) (by omega)]), fun j hj => by rw [e1 893 (by omega) (by omega) (by omega)]; exact hB1.2.2.2.2 j hj⟩, hP⟩
  · refine m_back (d := d + 47) (fun k hk hz hn => ?_) (fun _ => hQ2 I L ⟨D, R, n0, t, E, b, hA, hB, hP⟩)
    exact absurd ((hB.2.2.2.2 k hk).mpr (fun y => h0 k hk hz ((hA.2.2.2.1 k hk).mpr y))) hn
