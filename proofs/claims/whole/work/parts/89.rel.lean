/-! both classes side by side -/
abbrev aIm : Type := aSS × aSS × Nat × (Nat → aSS) × Nat × aSS × Int32 × Int32
abbrev aIm.T (D : aIm) : aSS := D.1
abbrev aIm.S (D : aIm) : aSS := D.2.1
abbrev aIm.a (D : aIm) : Nat := D.2.2.1
abbrev aIm.P (D : aIm) : Nat → aSS := D.2.2.2.1
abbrev aIm.c (D : aIm) : Nat := D.2.2.2.2.1
abbrev aIm.N (D : aIm) : aSS := D.2.2.2.2.2.1
abbrev aIm.f (D : aIm) : Int32 := D.2.2.2.2.2.2.1
abbrev aIm.v (D : aIm) : Int32 := D.2.2.2.2.2.2.2
/-- the class's half -/
def RA (D : aIm) (R : List (List aCl2)) (n : Nat) (t : Nat → Nat) (E : Nat → aIm) (b : Nat → Prop) (I : aSS) : Prop := cW D.T D.S D.a D.P D.c D.N D.f D.v (R.map flatK) I ∧ okP n t I ∧ (∀ k, k < 4 → okW (204 + 161 * k) (E k).T (E k).S (E k).a (E k).P (E k).c (E k).N (E k).f (E k).v I) ∧ (∀ k, k < 4 → (bitS (I 0 6) k ↔ b k)) ∧ ∃ m, m < 16 ∧ I 0 6 = nI m
/-- the reference's half -/
def RB (D : aIm) (R : List (List aCl2)) (n : Nat) (t : Nat → Nat) (E : Nat → aIm) (b : Nat → Prop) (I : aSS) : Prop := cM D.T D.S D.a D.P D.c D.N R D.f D.v I ∧ okBy n t I ∧ ((∃ sl, sl < 6 ∧ I 848 31 = nI sl) ∧ I 848 37 = nI 11) ∧ (∀ k, k < 4 → b k → imM k (E k).T (E k).S (E k).a (E k).P (E k).c (E k).N (E k).f (E k).v I) ∧ ∀ k, k < 4 → (I 893 k = 0 ↔ ¬ b k)
/-- what holds of both -/
def RP (R : List (List aCl2)) (E : Nat → aIm) (b : Nat → Prop) : Prop := (∀ cl, cl ∈ R → okCs cl) ∧ ∀ k, k < 4 → b k → wfA (E k).T (E k).S (E k).a (E k).P (E k).c (E k).N (E k).f (E k).v R.length ∧ (E k).c ≤ 10
def RR (I : aSS) : Prop := ∃ D R n t E b, RA D R n t E b I ∧ RB D R n t E b I ∧ RP R E b
abbrev eqLo (I J : aSS) : Prop := ∀ a, a < 848 → J a = I a
abbrev eqHi (I J : aSS) : Prop := ∀ a, 848 ≤ a → J a = I a
theorem RA.lo {D : aIm} {R : List (List aCl2)} {n : Nat} {t : Nat → Nat} {E : Nat → aIm} {b : Nat → Prop} {I J : aSS} (h : RA D R n t E b I) (e : eqLo I J) : RA D R n t E b J := by
  obtain ⟨h1, ⟨h2, h3, h4⟩, h5, h6⟩ := h
  refine ⟨⟨okW_fr h1.1 (fun a ha => e a (by omega)), h1.2.1.fr (fun a ha => e a (by omega)), h1.2.2⟩, ⟨by rw [e 1 (by omega)]; exact h2, h3, fun i hi => by rw [e 2 (by omega)]; exact h4 i hi⟩, fun k hk => okW_fr (h5 k hk) (fun a ha => e a (by omega)), by rw [e 0 (by omega)]; exact h6⟩
theorem RA.X {D : aIm} {R : List (List aCl2)} {n : Nat} {t : Nat → Nat} {E : Nat → aIm} {b : Nat → Prop} {I J : aSS} (h : RA D R n t E b I) (e : frX I J) : RA D R n t E b J := by
  obtain ⟨h1, ⟨h2, h3, h4⟩, h5, h6⟩ := h
  refine ⟨h1.fr e, ⟨by rw [e 1 (by omega)]; exact h2, h3, fun i hi => by rw [e 2 (by omega)]; exact h4 i hi⟩, fun k hk => okW_fr (h5 k hk) (fun a ha => e a (by omega)), by rw [e 0 (by omega)]; exact h6⟩
theorem imM.fr {k : Nat} {T S : aSS} {a : Nat} {P : Nat → aSS} {c : Nat} {N : aSS} {f v : Int32} {I J : aSS} (h : imM k T S a P c N f v I) (e : ∀ q, 800 * k ≤ q → q < 800 * k + 776 → J 892 q = I 892 q) : imM k T S a P c N f v J := by
  obtain ⟨M, h1, h2⟩ := h
  exact ⟨M, fun q hq => (e _ (by omega) (by omega)).trans (h1 q hq), h2⟩
theorem cM.hi {T S N : aSS} {a c : Nat} {P : Nat → aSS} {R : List (List aCl2)} {f v : Int32} {I J : aSS} (h : cM T S a P c N R f v I) (e : eqHi I J) : cM T S a P c N R f v J := by
  obtain ⟨⟨c1, c2⟩, c3, c4, c5, c6, c7, c8⟩ := h
  have e9 : J 849 = I 849 := e 849 (by omega)
  have e8 : J 848 = I 848 := e 848 (by omega)
  refine ⟨⟨c1.pt (fun q _ => by rw [e9]) (fun q _ => by rw [e 856 (by omega), e 866 (by omega)]; exact ⟨rfl, rfl⟩) (fun q _ => by rw [e 857 (by omega), e 864 (by omega), e 865 (by omega)]; exact ⟨rfl, rfl, rfl⟩) (fun q _ => by rw [e 858 (by omega), e 859 (by omega), e 860 (by omega)]; exact ⟨rfl, rfl, rfl⟩), c2.pt c1.1 (fun q _ => by rw [e9]) (by rw [e8]) (fun q _ => by rw [e 853 (by omega)]) (fun q _ => by rw [e 850 (by omega), e 851 (by omega), e 852 (by omega)]; exact ⟨rfl, rfl, rfl⟩) (fun q _ => by rw [e 854 (by omega), e 855 (by omega)]; exact ⟨rfl, rfl⟩)⟩, c3.of (by rw [e8]) (e 879 (by omega)) (fun q _ => by rw [e 877 (by omega), e 878 (by omega)]; exact ⟨rfl, rfl⟩) ⟨e 880 (by omega), e 881 (by omega), e 882 (by omega)⟩, ⟨by rw [e9]; exact c4.1, c4.2⟩, ⟨by rw [e9]; exact c5.1, fun k hk => by rw [e 861 (by omega), e 862 (by omega), e 863 (by omega)]; exact c5.2 k hk⟩, c6.fr (by rw [e8]) (e 886 (by omega)), by rw [e9]; exact c7, by rw [e8]; exact c8⟩
theorem RB.hi {D : aIm} {R : List (List aCl2)} {n : Nat} {t : Nat → Nat} {E : Nat → aIm} {b : Nat → Prop} {I J : aSS} (h : RB D R n t E b I) (e : eqHi I J) : RB D R n t E b J := by
  obtain ⟨h1, h2, h3, h4, h5⟩ := h
  have e8 : J 848 = I 848 := e 848 (by omega)
  exact ⟨h1.hi e, h2.fr (by rw [e8]) (e 876 (by omega)), by rw [e8]; exact h3, fun k hk hb => (h4 k hk hb).fr (fun q _ _ => by rw [e 892 (by omega)]), fun k hk => by rw [e 893 (by omega)]; exact h5 k hk⟩
theorem sameV.C {T S N : aSS} {a c : Nat} {P : Nat → aSS} {R : List (List aCl2)} {f v : Int32} {I J : aSS} (h : cM T S a P c N R f v I) (g : sameV I J) : cM T S a P c N R f v J := by
  obtain ⟨⟨v1, v2, v3⟩, ⟨r1, r2, r3, r4, r5, r6, r7⟩, g48, g49⟩ := g
  obtain ⟨⟨c1, c2⟩, c3, c4, c5, c6, c7, c8⟩ := h
  have e : ∀ a, 856 ≤ a → a < 888 → J a = I a := fun a h1 h2 => v1 a (by omega)
  have e8 : ∀ j, j < 48 ∨ 52 < j → j ≠ 64 → j ≠ 65 → J 848 j = I 848 j := fun j h1 h2 h3 => v2 j (by omega) (by omega) (by omega) (by omega) (by omega) h2 h3
  refine ⟨⟨c1.pt (fun q hq => r1 q (by omega)) (fun q _ => by rw [e 856 (by omega) (by omega), e 866 (by omega) (by omega)]; exact ⟨rfl, rfl⟩) (fun q _ => by rw [e 857 (by omega) (by omega), e 864 (by omega) (by omega), e 865 (by omega) (by omega)]; exact ⟨rfl, rfl, rfl⟩) (fun q _ => by rw [e 858 (by omega) (by omega), e 859 (by omega) (by omega), e 860 (by omega) (by omega)]; exact ⟨rfl, rfl, rfl⟩), c2.pt c1.1 (fun q hq => r1 q hq) g48 (fun q hq => r5 q hq) (fun q hq => ⟨r2 q hq, r3 q hq, r4 q hq⟩) (fun q hq => ⟨r6 q hq, r7 q hq⟩)⟩, c3.of (e8 32 (by omega) (by omega) (by omega)) (e 879 (by omega) (by omega)) (fun q _ => by rw [e 877 (by omega) (by omega), e 878 (by omega) (by omega)]; exact ⟨rfl, rfl⟩) ⟨e 880 (by omega) (by omega), e 881 (by omega) (by omega), e 882 (by omega) (by omega)⟩, ⟨(r1 8 (by omega)).trans c4.1, c4.2⟩, ⟨(r1 6 (by omega)).trans c5.1, fun k hk => by rw [e 861 (by omega) (by omega), e 862 (by omega) (by omega), e 863 (by omega) (by omega)]; exact c5.2 k hk⟩, c6.fr (e8 55 (by omega) (by omega) (by omega)) (e 886 (by omega) (by omega)), (r1 7 (by omega)).trans c7, g49.trans c8⟩
theorem RB.V {D : aIm} {R : List (List aCl2)} {n : Nat} {t : Nat → Nat} {E : Nat → aIm} {b : Nat → Prop} {I J : aSS} (h : RB D R n t E b I) (g : sameV I J) : RB D R n t E b J := by
  obtain ⟨h1, h2, h3, h4, h5⟩ := h
  have v := g.1
  have e8 : ∀ j, j < 48 → J 848 j = I 848 j := fun j h1 => v.2.1 j (by omega) (by omega) (by omega) (by omega) (by omega) (by omega) (by omega)
  exact ⟨sameV.C h1 g, h2.fr (e8 28 (by omega)) (v.1 876 (by omega)), by rw [e8 31 (by omega), e8 37 (by omega)]; exact h3, fun k hk hb => (h4 k hk hb).fr (fun q _ _ => v.2.2 q (by omega)), fun k hk => by rw [v.1 893 (by omega)]; exact h5 k hk⟩
theorem frX.hi {I J : aSS} (h : frX I J) : eqHi I J := fun a ha => h a (by omega)
theorem sameV.lo {I J : aSS} (h : sameV I J) : eqLo I J := fun a ha => h.1.1 a (by omega)
/-- the two calls answer the same, and leave both as they belong together -/
def PAIR (G : aG) (l : Launch) (d : Nat) (m1 m2 : aMM) (args : List Value) : Prop := ∀ (I : aSS) (L : Nat → Nat → Int64) (Q : Option Value → aM → Prop), RR I → (∀ v I1 L1, (∀ Q2 : Option Value → aM → Prop, (∀ I2 L2, RR I2 → Q2 (some (.int v)) (I2, L2)) → aC (aRS G) G l (d + 50) 0 0 m2 (.ref 848 :: args) (I1, L1) Q2) → Q (some (.int v)) (I1, L1)) → aC (aRS G) G l (d + 50) 0 0 m1 (.ref 0 :: args) (I, L) Q
