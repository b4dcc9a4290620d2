/-! both as they begin -/
def S0 : aSS := fun j k => if j = 0 ∧ k = 8 then -1 else 0
theorem S0_r {j : Nat} (h : j ≠ 0) : S0 j = fun _ => 0 := by
  funext k
  exact if_neg (fun y => h y.1)
def D0 : aIm := (fun _ _ => 0, S0, 0, fun _ => S0, 0, fun _ _ => 0, -1, 0)
theorem wfT_0 : wfT2 (fun _ _ => 0) := by
  have e : tn (0 : Int32) = 0 := by decide
  refine ⟨?_, ⟨⟨0, by omega, rfl⟩, ⟨0, by omega, rfl⟩, ⟨0, by omega, rfl⟩, ⟨0, by omega, rfl⟩⟩, fun k hk => ?_, fun k hk => ?_⟩
  · refine ⟨⟨?_, ?_, ?_⟩, fun k hk => ?_⟩
    · show tn 0 ≤ 6
      rw [e]; omega
    · show tn 0 ≤ 3
      rw [e]; omega
    · show tn 0 ≤ 8
      rw [e]; omega
    · change k < tn 0 at hk
      rw [e] at hk; omega
  · change k < tn 0 at hk
    rw [e] at hk; omega
  · change k < tn 0 at hk
    rw [e] at hk; omega
theorem wfA_0 (m : Nat) : wfA D0.T D0.S D0.a D0.P D0.c D0.N D0.f D0.v m := by
  have e : tn (0 : Int32) = 0 := by decide
  have hS : wfS D0.T S0 999 := ⟨⟨0, by omega, rfl⟩, fun k hk => by change k < tn 0 at hk; rw [e] at hk; omega, fun k hk => by change k < tn 0 at hk; rw [e] at hk; omega, fun k hk => by change k < tn 0 at hk; rw [e] at hk; omega⟩
  exact ⟨wfT_0, ⟨hS, rfl⟩, fun i hi => absurd hi (Nat.not_lt_zero i), fun k hk => absurd hk (Nat.not_lt_zero k), Or.inl rfl, by decide⟩
theorem okW_0 {w : Nat} (h : isW w) (hw : w < 688) : okW w D0.T D0.S D0.a D0.P D0.c D0.N D0.f D0.v I0 := by
  have hW := h
  obtain ⟨⟨h0, hT, hS⟩, ⟨h17, h18, h19, h20⟩, hP⟩ := h
  obtain ⟨e8, z⟩ := i4 h0 (by omega)
  have hT' := hT
  have hS' := hS
  obtain ⟨t0, t1, t2, t3, t4, t5, t6, t7, t8⟩ := hT
  obtain ⟨s0, s1, s2, s3, s4, s5, s6⟩ := hS
  have a0 : ∀ {a n : Nat}, sh a = (11, n) → a ≠ 849 → I0 a = fun _ => 0 := fun h ha => I0_a h (by omega) ha
  have es : (sh (w + 10)).1 = 1 := by rw [s0]
  have zs := i1 es (by omega)
  have es8 : I0 (w + 10) 8 = -1 := if_pos ⟨es, rfl⟩
  have zt := I0_a t0 (by omega) (by omega)
  refine ⟨⟨hW, by show 0 ≤ 20; omega, by show 0 ≤ 10; omega⟩, ⟨fun L => ⟨hT', ⟨⟨by show I0 (w + 1) 0 = _; rw [zt]; rfl, by show I0 (w + 1) 1 = _; rw [zt]; rfl, by show I0 (w + 1) 2 = _; rw [zt]; rfl, by show I0 (w + 1) 3 = _; rw [zt]; rfl⟩, a0 t1 (by omega), a0 t2 (by omega), a0 t3 (by omega), a0 t4 (by omega), a0 t5 (by omega), a0 t6 (by omega), a0 t7 (by omega), a0 t8 (by omega)⟩, wfT_0.1⟩, fun L => ⟨hS', ⟨zs 0 (by omega), zs 5 (by omega), es8, zs 9 (by omega), zs 10 (by omega)⟩, ?_, ?_, ?_, ?_, ?_, ?_⟩⟩, ⟨id, fun i hi => ⟨hi, i17 h17 (by omega) i hi⟩, fun i j _ _ e => e, fun i hi => absurd hi (Nat.not_lt_zero i)⟩, ⟨z 3 (by omega), z 7 (by omega), e8, z 9 (by omega)⟩, a0 h18 (by omega), a0 h19 (by omega), a0 h20 (by omega)⟩
  · exact (a0 s1 (by omega)).trans (S0_r (j := 1) (by omega)).symm
  · exact (a0 s2 (by omega)).trans (S0_r (j := 2) (by omega)).symm
  · exact (a0 s3 (by omega)).trans (S0_r (j := 3) (by omega)).symm
  · exact (a0 s4 (by omega)).trans (S0_r (j := 4) (by omega)).symm
  · exact (a0 s5 (by omega)).trans (S0_r (j := 5) (by omega)).symm
  · exact (a0 s6 (by omega)).trans (S0_r (j := 6) (by omega)).symm
theorem RR_0 : RR I0 := by
  have e : tn (0 : Int32) = 0 := by decide
  have m849 : ∀ k, k ≠ 8 → I0 849 k = 0 := fun k hk => I0_z (fun y => by rw [shM.2.1] at y; exact absurd y (by decide)) (fun y => by rw [shM.2.1] at y; exact absurd y (by decide)) (fun y => by rw [shM.2.1] at y; exact absurd y (by decide)) (fun _ => hk) (by rw [shM.2.1]; decide)
  have m848 : ∀ k, k ≠ 37 → k ≠ 48 → k ≠ 49 → I0 848 k = 0 := fun k h1 h2 h3 => I0_z (fun y => by rw [shM.1] at y; exact absurd y (by decide)) (fun y => by rw [shM.1] at y; exact absurd y (by decide)) (fun _ => ⟨h1, h2, h3⟩) (fun y => absurd y (by omega)) (by rw [shM.1]; decide)
  have e8 : (sh 848).1 = 6 := by rw [shM.1]
  have e37 : I0 848 37 = 11 := by
    unfold I0
    rw [if_neg (fun y => by omega), if_neg (fun y => by omega), if_pos ⟨e8, rfl⟩]
  have e48 : I0 848 48 = -1 := by
    unfold I0
    rw [if_neg (fun y => by omega), if_neg (fun y => by omega), if_neg (fun y => by omega), if_pos ⟨e8, Or.inl rfl⟩]
  have e49 : I0 848 49 = -1 := by
    unfold I0
    rw [if_neg (fun y => by omega), if_neg (fun y => by omega), if_neg (fun y => by omega), if_pos ⟨e8, Or.inr rfl⟩]
  have e9 : (sh 849).1 = 11 := by rw [shM.2.1]
  have f8' : I0 849 8 = -1 := by
    unfold I0
    rw [if_neg (fun y => by omega), if_neg (fun y => by omega), if_neg (fun y => by omega), if_neg (fun y => by omega), if_pos ⟨rfl, rfl⟩]
  have c0 := I0_a shC.1 (by omega) (by omega)
  have c1 := I0_a shC.2.1 (by omega) (by omega)
  have z893 := I0_a (show sh 893 = (14, 4) by decide +kernel) (by omega) (by omega)
  refine ⟨D0, [], 0, fun _ => 0, fun _ => D0, fun _ => False, ⟨⟨okW_0 isW_13 (by omega), ⟨by rw [c0]; rfl, Nat.zero_le _, fun r hr => absurd hr (Nat.not_lt_zero r)⟩, wfA_0 _⟩, ⟨by rw [c1]; rfl, Nat.zero_le _, fun i hi => absurd hi (Nat.not_lt_zero i)⟩, fun k hk => okW_0 (isW_im k hk) (by omega), fun k hk => ?_, ⟨0, by omega, by rw [c0]; rfl⟩⟩, ⟨⟨⟨⟨wfT_0, ⟨m849 0 (by omega), m849 1 (by omega), m849 2 (by omega), m849 3 (by omega)⟩, fun k hk => ?_, fun k hk => ?_, fun k hk => ?_⟩, ⟨⟨m849 4 (by omega), m849 5 (by omega), e48⟩, fun k hk => ?_, fun k hk => ?_, fun k hk => ?_⟩⟩, ⟨m848 32 (by omega) (by omega) (by omega), Nat.zero_le _, fun r hr => absurd hr (Nat.not_lt_zero r)⟩, ⟨f8', Or.inl rfl⟩, ⟨m849 6 (by omega), fun k hk => absurd hk (Nat.not_lt_zero k)⟩, ⟨m848 55 (by omega) (by omega) (by omega), Nat.zero_le _, fun i hi => absurd hi (Nat.not_lt_zero i)⟩, m849 7 (by omega), e49⟩, ⟨m848 28 (by omega) (by omega) (by omega), Nat.zero_le _, fun i hi => absurd hi (Nat.not_lt_zero i)⟩, ⟨⟨0, by omega, m848 31 (by omega) (by omega) (by omega)⟩, e37⟩, fun k hk hb => hb.elim, fun k hk => ?_⟩, fun cl h => by simp at h, fun k hk hb => hb.elim⟩
  · rw [c0]
    have : ∀ k, k < 4 → (bitS 0 k ↔ False) := by decide
    exact this k hk
  · change k < tn 0 at hk; rw [e] at hk; omega
  · change k < tn 0 at hk; rw [e] at hk; omega
  · change k < tn 0 at hk; rw [e] at hk; omega
  · change k < tn 0 at hk; rw [e] at hk; omega
  · change k < tn 0 at hk; rw [e] at hk; omega
  · change k < tn 0 at hk; rw [e] at hk; omega
  · rw [z893]
    exact ⟨fun _ => id, fun _ => rfl⟩
/-- a heap that is as wanted as far as it goes -/
theorem aR0.eq {G : aG} {x y : aMD} {H : Heap} (h : aR0 G x H) (hy : y.2 = x.2) (he : ∀ k, k < x.2 → eqE (x.1 k) (y.1 k)) : aR0 G y H := by
  refine ⟨by rw [hy]; exact h.1, by rw [hy]; exact h.2.1, fun k hk => ?_⟩
  rw [hy] at hk
  have hat := h.2.2 k hk
  rcases he k hk with e | ⟨t, n, f, f', e1, e2, e3⟩
  · rw [← e]
    exact hat
  · rw [e2]
    rw [e1] at hat
    have e4 : vp_cell (G.2 t) (n, .inr (.inr (.inr (.inr (fun k => (f k).map (aLoc G)))))) = vp_cell (G.2 t) (n, .inr (.inr (.inr (.inr (fun k => (f' k).map (aLoc G)))))) := by
      rw [vp_cell_q, vp_cell_q]
      unfold arrV
      congr 2
      funext j
      dsimp only
      rw [e3 j.val j.isLt]
    show H[_]? = some _
    have hat2 : H[G.2 0 + k]? = some (vp_cell (G.2 t) (n, .inr (.inr (.inr (.inr (fun k => (f k).map (aLoc G))))))) := hat
    rw [hat2, e4]
theorem aRS_0 {G : aG} {x : aMD} {H : Heap} (h : aR0 G x H) (hx : x.2 = 894) (he : ∀ k, k < 894 → eqE (x.1 k) (ex m0 k)) : aRS G m0 H := ⟨h.eq (by rw [hx]; rfl) (fun k hk => he k (by rw [hx] at hk; exact hk)), can_0⟩
