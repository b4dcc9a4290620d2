/-! what the law's entry gives -/
def eLoc : List (String × Nat) := [("CatNeed$RoomReader", 28), ("CatNeed$RuleReader", 26), ("CatNeed$RuleReader", 112), ("CatNeed$RuleReader", 99), ("CatNeed$RuleReader", 45), ("CatNeed$RuleReader", 68), ("CatNeed$RuleReader", 73), ("CatNeed$RuleReader", 75), ("CatNeed$RuleReader", 82), ("CatNeed$RuleReader", 64), ("CatNeedModel", 286), ("CatNeedModel", 174), ("CatNeedModel", 172), ("CatNeedModel", 288), ("CatNeedModel", 176), ("CatNeedModel", 178), ("CatNeedModel", 180), ("CatNeedModel", 181), ("CatNeedModel", 182), ("CatNeedModel", 183), ("CatNeedModel", 184), ("CatNeedModel", 185), ("CatNeedModel", 186), ("CatNeedModel", 282), ("CatNeedModel", 284)]
def eT (i : Nat) : Term := .string (eLoc.getD i ("", 0)).1 (eLoc.getD i ("", 0)).2
def eV (i : Nat) : Term := .field (eT i) "java/lang/String" "value" "[B"
def eWa (i : Nat) : List Cond := [.exactly (eT i) "java/lang/String", .eq (.field (eT i) "java/lang/String" "coder" "B") (.int 0), .arrayOf (eV i) .byte, .eq (.length (eV i)) (.int (Int32.ofNat (aTxt i).length))]
def eWb (i : Nat) : List Cond := (List.range (aTxt i).length).map (fun j => .eq (.elem (eV i) (.int (Int32.ofNat j))) (.int ((aTxt i).getD j 0)))
abbrev eGiv : Cond := Jvm.Cond.and given_1 narrow_1
theorem eWa_in : ∀ i, i < 25 → ∀ w ∈ eWa i, w ∈ flatC eGiv := by decide +kernel
theorem eWb_in : ∀ i, i < 25 → ∀ w ∈ eWb i, w ∈ flatC eGiv := by decide +kernel
theorem eLen : ∀ i, i < 25 → (aTxt i).length < 100 := by decide +kernel
theorem eLit : ∀ q ∈ aLits, q.2.2.2 < 25 ∧ Cond.stringRef q.1 q.2.1 q.2.2.1 ∈ lw_tbl ∧ (eT q.2.2.2 = .string q.1 q.2.1 ∨ (Cond.exactly (.string q.1 q.2.1) "java/lang/String" ∈ flatC eGiv ∧ Cond.eq (eT q.2.2.2) (.string q.1 q.2.1) ∈ flatC eGiv)) := by decide +kernel
theorem eNst : ∀ q ∈ aNests, Cond.methodLinkNest q.1 q.2.1 q.2.2.1 q.2.2.2 ∈ lw_tbl := by decide +kernel
theorem eOth : ∀ w ∈ ([.arrayOver (.object "CatNeed$Rule"), .arrayOver (.object "CatNeed$Whole"), .arrayOver (.object "CatNeed$State"), .laysStatic "java/lang/String" "COMPACT_STRINGS" "Z", .laysStatic "jdk/internal/util/Preconditions" "SIOOBE_FORMATTER" "Ljava/util/function/BiFunction;"] : List Cond), w ∈ lw_tbl := by decide +kernel
theorem eGvn : ∀ w ∈ ([.eq (.static "java/lang/String" "COMPACT_STRINGS" "Z") (.int 1), .isRef (.static "jdk/internal/util/Preconditions" "SIOOBE_FORMATTER" "Ljava/util/function/BiFunction;")] : List Cond), w ∈ flatC eGiv := by decide +kernel
def eStr (args : Array Value) (s : State) (A : Nat → Prop) (i a v : Nat) : Prop := (eT i).eval args s none [] s = some (.ref a) ∧ va_O "java/lang/String" a A s s.heap ∧ va_OF "java/lang/String" "coder" "B" (.int 0) a A s s.heap ∧ va_OF "java/lang/String" "value" "[B" (.ref v) a A s s.heap ∧ va_T .byte v (aTxt i).length (fun j => .int ((aTxt i).getD j 0)) A s s.heap
theorem ent_str {args : Array Value} {s : State} {A : Nat → Prop} (hs : ∀ w ∈ flatC eGiv, w.before args s = true) (hA : ∀ a : Nat, a < s.heap.size → ¬ A a) {i : Nat} (hi : i < 25) : ∃ a v, eStr args s A i a v := by
  have ha : ∀ w ∈ eWa i, w.before args s = true := fun w h => hs w (eWa_in i hi w h)
  have hb : ∀ w ∈ eWb i, w.before args s = true := fun w h => hs w (eWb_in i hi w h)
  have hl := eLen i hi
  obtain ⟨adK, adV, h1, h2⟩ := vk_Sof (args := args) (s := s) (N := 1) (tm := fun _ => eT i) (len := [(aTxt i).length]) (byt := [aTxt i]) (A := A)
    (fun k hk => by obtain rfl : k = 0 := by omega
                    show (aTxt i).length < _
                    omega)
    (fun k hk => ha _ List.mem_cons_self)
    (fun k hk => ha _ (List.mem_cons_of_mem _ List.mem_cons_self))
    (fun k hk => ha _ (List.mem_cons_of_mem _ (List.mem_cons_of_mem _ List.mem_cons_self)))
    (fun k hk => by obtain rfl : k = 0 := by omega
                    exact ha _ (List.mem_cons_of_mem _ (List.mem_cons_of_mem _ (List.mem_cons_of_mem _ List.mem_cons_self))))
    (fun k hk j hj => by obtain rfl : k = 0 := by omega
                         exact hb _ (List.mem_map.mpr ⟨j, List.mem_range.mpr hj, rfl⟩))
    (fun k j h1 h2 h3 => absurd (show k = j by omega) h3) hA
  obtain ⟨q1, q2, q3, q4⟩ := h1.1 0 (by omega)
  exact ⟨adK 0, adV 0, h2 0 (by omega), q1, q2, q3, q4⟩
theorem ent_eq {args : Array Value} {s : State} {t u : Term} {a b : Nat} (h : (Cond.eq t u).before args s = true) (ht : t.eval args s none [] s = some (.ref a)) (hu : u.eval args s none [] s = some (.ref b)) : b = a := by
  simp [Cond.before, Cond.holds, Cond.value, ht, hu] at h
  exact h.symm
theorem ent_k {args : Array Value} {s : State} {ci N : Nat} {C : String} {T : u_T} (hts : ∀ w ∈ aBIG, w.before args s = true) (hc : aCl ci C T N) (hi : Cond.instantiable C N ∈ aBIG) : ∃ p : ClassId × (Nat → Nat), ∀ q, vwCl[ci]? = some q → u_Kn s q.1 q.2.1 q.2.2 p.1 p.2 := by
  obtain ⟨c, iS, h⟩ := u_known (C := C) (T := T) (N := N) (n := N) hts hc.2 (hts _ hi)
  refine ⟨(c, iS), fun q hq => ?_⟩
  rw [hc.1] at hq
  cases hq
  exact h
theorem ent_kind {s : State} {cA : ClassId} {kA : Class} {comp : ClassId} {ty : FieldType} (h2 : s.vm.classes[cA]? = some kA) (h3 : kA.kind = .array comp ty) : ArrOfT s cA ty := fun n z => ⟨(fun k h => by cases h), kA, h2, comp, h3⟩
theorem ent_o {args : Array Value} {s : State} {C : String} (h : (Cond.arrayOver (.object C)).before args s = true) : ∃ cA, ArrOfT s cA (.object C) ∧ va_RA s cA (.object C) := by
  obtain ⟨comp, c, k, h1, -, h3, h4, h5⟩ := Cond.arrayOver_spec h
  exact ⟨c, ent_kind h3 h4, k, comp, h3, h4, h1, h5⟩
/-- numbers for the machine -/
def entG (h0 : Nat) (cs : List Nat) (f0 f1 : Nat) (adK adV : Nat → Nat) : Nat → Nat := fun k => if k = 0 then h0 else if k < 8 then cs.getD (k - 1) 0 else if k = 60 then f0 else if k = 61 then f1 else if k < 200 then adK (k - 100) else adV (k - 200)
theorem entG_K {h0 : Nat} {cs : List Nat} {f0 f1 : Nat} {adK adV : Nat → Nat} {i : Nat} (hi : i < 100) : entG h0 cs f0 f1 adK adV (100 + i) = adK i := by
  unfold entG
  rw [if_neg (by omega), if_neg (by omega), if_neg (by omega), if_neg (by omega), if_pos (by omega), show 100 + i - 100 = i by omega]
theorem entG_V {h0 : Nat} {cs : List Nat} {f0 f1 : Nat} {adK adV : Nat → Nat} {i : Nat} (hi : i < 100) : entG h0 cs f0 f1 adK adV (200 + i) = adV i := by
  unfold entG
  rw [if_neg (by omega), if_neg (by omega), if_neg (by omega), if_neg (by omega), if_neg (by omega), show 200 + i - 200 = i by omega]
theorem ent {args : Array Value} {s : State} (hts : ∀ w ∈ lw_tbl, w.before args s = true) (hs : ∀ w ∈ flatC eGiv, w.before args s = true) : ∃ G : aG, aOk G s ∧ G.2 0 = s.heap.size := by
  have htB : ∀ w ∈ aBIG, w.before args s = true := fun w h => hts w (List.mem_filter.mp h).1
  have hA : ∀ a : Nat, a < s.heap.size → ¬ (fun q : Nat => s.heap.size ≤ q) a := fun a h => Nat.not_le.mpr h
  have hk : ∀ k : Nat, ∃ p : ClassId × (Nat → Nat), ∀ q, vwCl[k]? = some q → u_Kn s q.1 q.2.1 q.2.2 p.1 p.2 := by
    intro k
    match k with
    | 0 => exact ent_k htB cl_0 bw308
    | 1 => exact ent_k htB cl_1 bw217
    | 2 => exact ent_k htB cl_2 bw114
    | 3 => exact ent_k htB cl_3 bw142
    | 4 => exact ent_k htB cl_4 bw209
    | 5 => exact ent_k htB cl_5 bw106
    | 6 => exact ent_k htB cl_6 bw963
    | k + 7 => exact ⟨(0, fun _ => 0), fun q hq => by simp [vwCl] at hq⟩
  obtain ⟨dk, hdk⟩ := Classical.axiomOfChoice hk
  obtain ⟨c1, k1, p1, a1, b1, e1⟩ := Cond.arrayClass_spec (htB _ bw138)
  obtain ⟨c2, k2, p2, a2, b2, e2⟩ := Cond.arrayClass_spec (htB _ bw501)
  obtain ⟨c3, k3, p3, a3, b3, e3⟩ := Cond.arrayClass_spec (htB _ bw327)
  obtain ⟨c4, k4, p4, a4, b4, e4⟩ := Cond.arrayClass_spec (htB _ bw1166)
  have o5 := hts _ (eOth _ List.mem_cons_self)
  have o6 := hts _ (eOth _ (List.mem_cons_of_mem _ List.mem_cons_self))
  have o7 := hts _ (eOth _ (List.mem_cons_of_mem _ (List.mem_cons_of_mem _ List.mem_cons_self)))
  obtain ⟨c5, a5, b5⟩ := ent_o o5
  obtain ⟨c6, a6, b6⟩ := ent_o o6
  obtain ⟨c7, a7, b7⟩ := ent_o o7
  have hst : ∀ i : Nat, ∃ q : Nat × Nat, i < 25 → eStr args s (fun q : Nat => s.heap.size ≤ q) i q.1 q.2 := by
    intro i
    by_cases hi : i < 25
    · obtain ⟨a, v, h⟩ := ent_str hs hA hi
      exact ⟨(a, v), fun _ => h⟩
    · exact ⟨(0, 0), fun h => absurd h hi⟩
  obtain ⟨ad, had⟩ := Classical.axiomOfChoice hst
  have zC := va_Zof (A := fun q : Nat => s.heap.size ≤ q) (hts _ (eOth _ (List.mem_cons_of_mem _ (List.mem_cons_of_mem _ (List.mem_cons_of_mem _ List.mem_cons_self))))) (htB _ bw96) (va_eqt (hs _ (eGvn _ List.mem_cons_self))) hA
  have zF : ∃ f0 f1 : Nat, va_Z "jdk/internal/util/Preconditions" "SIOOBE_FORMATTER" "Ljava/util/function/BiFunction;" (if f1 = 0 then .null else .ref f0) (fun q : Nat => s.heap.size ≤ q) s s.heap := by
    rcases va_Zqof (A := fun q : Nat => s.heap.size ≤ q) (hts _ (eOth _ (List.mem_cons_of_mem _ (List.mem_cons_of_mem _ (List.mem_cons_of_mem _ (List.mem_cons_of_mem _ List.mem_cons_self)))))) (htB _ bw98) (hs _ (eGvn _ (List.mem_cons_of_mem _ List.mem_cons_self))) hA with h | ⟨t, h⟩
    · exact ⟨0, 0, h⟩
    · exact ⟨t, 1, h⟩
  obtain ⟨f0, f1, zF⟩ := zF
  obtain ⟨g, g0, g1, g2, g3, g4, g5, g6, g7, g60, g61, gK, gV⟩ : ∃ g : Nat → Nat, g 0 = s.heap.size ∧ g 1 = c1 ∧ g 2 = c2 ∧ g 3 = c3 ∧ g 4 = c4 ∧ g 5 = c5 ∧ g 6 = c6 ∧ g 7 = c7 ∧ g 60 = f0 ∧ g 61 = f1 ∧ (∀ i, i < 100 → g (100 + i) = (ad i).1) ∧ (∀ i, i < 100 → g (200 + i) = (ad i).2) :=
    ⟨entG s.heap.size [c1, c2, c3, c4, c5, c6, c7] f0 f1 (fun i => (ad i).1) (fun i => (ad i).2), rfl, rfl, rfl, rfl, rfl, rfl, rfl, rfl, rfl, rfl, fun i hi => entG_K hi, fun i hi => entG_V hi⟩
  have hAe : aA ((fun k => (dk k).1, fun k => (dk k).2), g) = fun q => s.heap.size ≤ q := by
    funext q
    show (g 0 ≤ q) = _
    rw [g0]
  refine ⟨((fun k => (dk k).1, fun k => (dk k).2), g), ⟨⟨⟨fun k q hq => hdk k q hq, fun k q hq => ?_⟩, fun q hq => ?_, fun q hq => va_Nw.of rfl (hts _ (eNst q hq)), va_AO.of o5, va_AO.of o6, va_AO.of o7⟩, ⟨fun i hi => ?_, by rw [hAe]; exact zC, ?_⟩, Nat.le_of_eq g0⟩, g0⟩
  · match k, hq with
    | 0, hq => cases hq; show ArrOfT s (g 1) _ ∧ va_RA s (g 1) _; rw [g1]; exact ⟨ent_kind b1 e1, a1⟩
    | 1, hq => cases hq; show ArrOfT s (g 2) _ ∧ va_RA s (g 2) _; rw [g2]; exact ⟨ent_kind b2 e2, a2⟩
    | 2, hq => cases hq; show ArrOfT s (g 3) _ ∧ va_RA s (g 3) _; rw [g3]; exact ⟨ent_kind b3 e3, a3⟩
    | 3, hq => cases hq; show ArrOfT s (g 4) _ ∧ va_RA s (g 4) _; rw [g4]; exact ⟨ent_kind b4 e4, a4⟩
    | 4, hq => cases hq; show ArrOfT s (g 5) _ ∧ va_RA s (g 5) _; rw [g5]; exact ⟨a5, b5⟩
    | 5, hq => cases hq; show ArrOfT s (g 6) _ ∧ va_RA s (g 6) _; rw [g6]; exact ⟨a6, b6⟩
    | 6, hq => cases hq; show ArrOfT s (g 7) _ ∧ va_RA s (g 7) _; rw [g7]; exact ⟨a7, b7⟩
    | k + 7, hq => exact absurd hq (by simp [aTys])
  · obtain ⟨h1, h2, h3⟩ := eLit q hq
    have e := gK q.2.2.2 (by omega)
    have hw := (had q.2.2.2 h1).1
    have hev : (Term.string q.1 q.2.1).eval args s none [] s = some (.ref (ad q.2.2.2).1) := by
      rcases h3 with h3 | ⟨h3, h4⟩
      · rw [h3] at hw
        exact hw
      · obtain ⟨a, c, cA, kA, q1, -⟩ := Cond.exactly_spec (args := args) (first := s) (o := none) (s := s) (idx := []) (hs _ h3)
        rw [q1, ent_eq (hs _ h4) hw q1]
    rw [← e] at hev
    exact vk_R.of (A := args) (hts _ h2) hev
  · have hi' : i < 25 := hi
    have h := (had i hi').2
    rw [← gK i (by omega), ← gV i (by omega)] at h
    unfold aS1
    rw [hAe]
    exact h
  · rw [← g60, ← g61] at zF
    rw [hAe]
    exact zF
