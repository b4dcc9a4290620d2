/-! a rule's codes come to what its clauses want -/
def okv : List Bool → List Int64 → Prop
  | [], [] => True
  | b :: τ, v :: st => (b = true → v = 0 ∨ v = 1) ∧ okv τ st
  | _, _ => False
theorem join_both {w : Nat} {a b : Int64} (hw : w < 12) (h : 10 ≤ w → (a = 0 ∨ a = 1) ∧ (b = 0 ∨ b = 1)) : joinS w a b = bothR w a b := by
  unfold bothR
  by_cases h10 : w = 10
  · subst h10
    obtain ⟨h1, h2⟩ := h (by omega)
    rcases h1 with rfl | rfl <;> rcases h2 with rfl | rfl <;> decide
  · rw [if_neg h10]
    by_cases h11 : w = 11
    · subst h11
      obtain ⟨h1, h2⟩ := h (by omega)
      rcases h1 with rfl | rfl <;> rcases h2 with rfl | rfl <;> decide
    · rw [if_neg h11]
theorem join_bool {w : Nat} {a b : Int64} (hw : w < 12) (h5 : 5 ≤ w) : joinS w a b = 0 ∨ joinS w a b = 1 := by
  have hw' : w = 5 ∨ w = 6 ∨ w = 7 ∨ w = 8 ∨ w = 9 ∨ w = 10 ∨ w = 11 := by omega
  have e : ∀ (p : Prop) [Decidable p], (if p then (1 : Int64) else 0) = 0 ∨ (if p then (1 : Int64) else 0) = 1 := fun p _ => by
    split
    · exact Or.inr rfl
    · exact Or.inl rfl
  rcases hw' with rfl | rfl | rfl | rfl | rfl | rfl | rfl
  · exact e _
  · exact e _
  · exact e _
  · exact e _
  · exact e _
  · show (if a = 0 then (0 : Int64) else if b = 0 then 0 else 1) = 0 ∨ (if a = 0 then (0 : Int64) else if b = 0 then 0 else 1) = 1
    split
    · exact Or.inl rfl
    · split
      · exact Or.inl rfl
      · exact Or.inr rfl
  · show (if a = 0 then (if b = 0 then (0 : Int64) else 1) else 1) = 0 ∨ (if a = 0 then (if b = 0 then (0 : Int64) else 1) else 1) = 1
    split
    · split
      · exact Or.inl rfl
      · exact Or.inr rfl
    · exact Or.inr rfl
theorem nV_cons {w : Nat} {d : List Nat} : nV (w :: d) = nV [w] + nV d := nV_app (a := [w]) (b := d)
theorem run_ev {env : Nat → Int64} : ∀ (d rest : List Nat) (st : List Int64) (τ τ' : List Bool), okv τ st → chk d τ = some τ' → st.length + nV d ≤ 64 → runR env (d ++ rest) st = runR env rest (evR env d st) ∧ okv τ' (evR env d st)
  | [], rest, st, τ, τ', ho, hc, _ => by
    have : τ = τ' := Option.some.inj hc
    subst this
    exact ⟨rfl, ho⟩
  | w :: d, rest, st, τ, τ', ho, hc, hl => by
    rw [nV_cons] at hl
    by_cases h2 : w < 200000
    · rw [nV_lo h2] at hl
      have hc2 : chk d (false :: τ) = some τ' := by
        unfold chk at hc
        rw [if_pos h2] at hc
        exact hc
      have e1 : runR env ((w :: d) ++ rest) st = runR env (d ++ rest) ((if w < 100000 then lN w else env (w - 100000)) :: st) := by
        show runR env (w :: (d ++ rest)) st = _
        conv => lhs; unfold runR
        rw [if_pos h2, if_neg (by omega)]
      have e2 : evR env (w :: d) st = evR env d ((if w < 100000 then lN w else env (w - 100000)) :: st) := by
        conv => lhs; unfold evR
        rw [if_pos h2]
      rw [e1, e2]
      exact run_ev d rest _ (false :: τ) τ' ⟨fun y => absurd y (by decide), ho⟩ hc2 (by simp; omega)
    · rw [nV_hi (by omega)] at hl
      obtain ⟨hw13, hcase⟩ := chk_tail h2 hc
      rcases hcase with ⟨y, ρ, rfl, hw12, rfl, hc2⟩ | ⟨y, z, ρ, rfl, hw12, u, hc2, hk1, hk2, hk3⟩
      · match st, ho, hl with
        | v :: st, ho, hl =>
          have hv := ho.1 rfl
          have ev : (if v = 0 then (1 : Int64) else 0) = 1 - v := by rcases hv with rfl | rfl <;> decide
          have e1 : runR env ((w :: d) ++ rest) (v :: st) = runR env (d ++ rest) ((1 - v) :: st) := by
            show runR env (w :: (d ++ rest)) (v :: st) = _
            conv => lhs; unfold runR
            rw [if_neg h2, if_neg (by omega)]
            match st with
            | [] => dsimp only; rw [if_pos hw12, ev]
            | b :: st => dsimp only; rw [if_pos hw12, ev]
          have e2 : evR env (w :: d) (v :: st) = evR env d ((1 - v) :: st) := by
            conv => lhs; unfold evR
            rw [if_neg h2]
            match st with
            | [] => rfl
            | b :: st => dsimp only; rw [if_pos hw12]
          rw [e1, e2]
          refine run_ev d rest _ (true :: ρ) τ' ⟨fun _ => ?_, ho.2⟩ hc2 (by simpa using hl)
          rcases hv with rfl | rfl
          · exact Or.inr (by decide)
          · exact Or.inl (by decide)
      · match st, ho, hl with
        | v :: v2 :: st, ho, hl =>
          obtain ⟨k, rfl⟩ : ∃ k, w = 200000 + k := ⟨w - 200000, by omega⟩
          have ej : joinS k v2 v = bothR k v2 v := join_both (by omega) (fun g => by
            obtain ⟨q1, q2⟩ := hk2 (by omega)
            exact ⟨ho.2.1 q2, ho.1 q1⟩)
          have e1 : runR env ((((200000 + k) :: d)) ++ rest) (v :: v2 :: st) = runR env (d ++ rest) (bothR k v2 v :: st) := by
            show runR env ((200000 + k) :: (d ++ rest)) (v :: v2 :: st) = _
            conv => lhs; unfold runR
            rw [if_neg h2, if_neg (by omega)]
            dsimp only
            rw [if_neg (by omega), if_neg (by omega), Nat.add_sub_cancel_left, ej]
          have e2 : evR env (((200000 + k) :: d)) (v :: v2 :: st) = evR env d (bothR k v2 v :: st) := by
            conv => lhs; unfold evR
            rw [if_neg h2]
            dsimp only
            rw [if_neg (by omega), Nat.add_sub_cancel_left]
          rw [e1, e2]
          refine run_ev d rest _ (u :: ρ) τ' ⟨fun hu => ?_, ho.2.2⟩ hc2 (by simp at hl ⊢; omega)
          rw [← ej]
          exact join_bool (by omega) (by have := hk3.mp hu; omega)
theorem ev_app {env : Nat → Int64} : ∀ (d : List Nat) (st s : List Int64) (τ τ' : List Bool), st.length = τ.length → chk d τ = some τ' → evR env d (st ++ s) = evR env d st ++ s
  | [], st, s, τ, τ', _, _ => rfl
  | w :: d, st, s, τ, τ', hl, hc => by
    by_cases h2 : w < 200000
    · have hc2 : chk d (false :: τ) = some τ' := by
        unfold chk at hc
        rw [if_pos h2] at hc
        exact hc
      have e2 : ∀ st, evR env (w :: d) st = evR env d ((if w < 100000 then lN w else env (w - 100000)) :: st) := fun st => by
        conv => lhs; unfold evR
        rw [if_pos h2]
      rw [e2, e2]
      exact ev_app d (_ :: st) s (false :: τ) τ' (by simp [hl]) hc2
    · obtain ⟨hw13, hcase⟩ := chk_tail h2 hc
      rcases hcase with ⟨y, ρ, rfl, hw12, rfl, hc2⟩ | ⟨y, z, ρ, rfl, hw12, u, hc2, hk1, hk2, hk3⟩
      · match st, hl with
        | v :: st, hl =>
          have e2 : ∀ st, evR env (w :: d) (v :: st) = evR env d ((1 - v) :: st) := fun st => by
            conv => lhs; unfold evR
            rw [if_neg h2]
            match st with
            | [] => rfl
            | b :: st => dsimp only; rw [if_pos hw12]
          show evR env (w :: d) (v :: (st ++ s)) = _
          rw [e2, e2]
          exact ev_app d ((1 - v) :: st) s (true :: ρ) τ' (by simpa using hl) hc2
      · match st, hl with
        | v :: v2 :: st, hl =>
          have e2 : ∀ st, evR env (w :: d) (v :: v2 :: st) = evR env d (bothR (w - 200000) v2 v :: st) := fun st => by
            conv => lhs; unfold evR
            rw [if_neg h2]
            dsimp only
            rw [if_neg (by omega)]
          show evR env (w :: d) (v :: v2 :: (st ++ s)) = _
          rw [e2, e2]
          exact ev_app d (_ :: st) s (u :: ρ) τ' (by simp at hl ⊢; omega) hc2
theorem chk_under {ρ' : List Bool} : ∀ (d : List Nat) (τ τ' : List Bool), chk d τ = some τ' → chk d (τ ++ ρ') = some (τ' ++ ρ')
  | [], τ, τ', h => by
    have : τ = τ' := Option.some.inj h
    rw [this]
    rfl
  | w :: d, τ, τ', h => by
    by_cases h2 : w < 200000
    · have hc2 : chk d (false :: τ) = some τ' := by
        unfold chk at h
        rw [if_pos h2] at h
        exact h
      exact chk_two (a := [w]) (chk_val h2) (chk_under d (false :: τ) τ' hc2)
    · obtain ⟨hw13, hcase⟩ := chk_tail h2 h
      rcases hcase with ⟨y, ρ, rfl, rfl, rfl, hc2⟩ | ⟨y, z, ρ, rfl, hw12, u, hc2, hk1, hk2, hk3⟩
      · exact chk_two (a := [200012]) chk_no (chk_under d (true :: ρ) τ' hc2)
      · refine chk_two (a := [w]) (σ := u :: (ρ ++ ρ')) ?_ (chk_under d (u :: ρ) τ' hc2)
        by_cases g1 : w < 200005
        · obtain ⟨rfl, rfl⟩ := hk1 (by omega)
          have : u = false := by
            cases u with
            | false => rfl
            | true => have := hk3.mp rfl; omega
          rw [this]
          exact chk_op (by omega) g1
        · have : u = true := hk3.mpr (by omega)
          rw [this]
          by_cases g2 : w < 200010
          · obtain ⟨rfl, rfl⟩ := hk1 g2
            exact chk_cm (by omega) g2
          · obtain ⟨rfl, rfl⟩ := hk2 (by omega)
            exact chk_ao (by omega) hw12
theorem okv_1 {b : Bool} : ∀ {st : List Int64}, okv [b] st → ∃ v, st = [v] ∧ (b = true → v = 0 ∨ v = 1)
  | [v], h => ⟨v, rfl, h.1⟩
  | [], h => absurd h (by simp [okv])
  | _ :: _ :: _, h => absurd h.2 (by simp [okv])
/-- a rule's clauses can be run -/
def okCs (cl : List aCl2) : Prop := ∀ c, c ∈ cl → clOk c ∧ nV c.1 + nV (c.2.getD []) ≤ 60
theorem run_flat {env : Nat → Int64} : ∀ (cl : List aCl2), okCs cl → runR env (flatK cl) [] = wantR env cl
  | [], _ => rfl
  | c :: cl, h => by
    obtain ⟨⟨⟨h1, -⟩, h2⟩, h3⟩ := h c List.mem_cons_self
    have ih := run_flat (env := env) cl (fun x hx => h x (List.mem_cons_of_mem _ hx))
    have ef : flatK (c :: cl) = cla1 c ++ flatK cl := List.flatMap_cons
    rw [ef]
    unfold cla1 wantR
    cases hc : c.2 with
    | none =>
      dsimp only
      rw [List.append_assoc, (run_ev c.1 _ [] [] [false] trivial h1 (by show 0 + _ ≤ 64; omega)).1]
      show runR env (200013 :: flatK cl) _ = _
      conv => lhs; unfold runR
      rw [if_neg (by omega), if_pos rfl]
    | some x =>
      rw [hc] at h3
      simp only [Option.getD_some] at h3
      obtain ⟨⟨x1, -⟩, -⟩ := h2 x hc
      have r1 := run_ev (env := env) c.1 (x ++ ([200014] ++ flatK cl)) [] [] [false] trivial h1 (by show 0 + _ ≤ 64; omega)
      obtain ⟨v, ev, -⟩ := okv_1 r1.2
      have x1' : chk x [] = some [true] := x1
      have hch : chk x [false] = some [true, false] := chk_under (ρ' := [false]) x [] [true] x1
      dsimp only
      rw [List.append_assoc, List.append_assoc, r1.1, ev]
      have hx0 := (run_ev (env := env) x ([200014] ++ flatK cl) [] [] [true] trivial x1 (by show 0 + _ ≤ 64; omega)).2
      obtain ⟨b, eb, hb⟩ := okv_1 hx0
      have r2 := run_ev (env := env) x ([200014] ++ flatK cl) [v] [false] [true, false] ⟨fun y => absurd y (by decide), trivial⟩ hch (by show 1 + _ ≤ 64; omega)
      have ea := ev_app (env := env) x [] [v] [] [true] rfl x1
      rw [List.nil_append, eb] at ea
      rw [r2.1, ea, eb]
      show runR env (200014 :: flatK cl) [b, v] = if b = 1 then v else wantR env cl
      conv => lhs; unfold runR
      rw [if_neg (by omega), if_neg (by omega)]
      dsimp only
      rw [if_neg (by omega), if_pos rfl]
      rcases hb rfl with rfl | rfl
      · rw [if_pos rfl, if_neg (by decide)]
        exact ih
      · rw [if_neg (by decide), if_pos rfl]
theorem ru_AM {R : List (List aCl2)} {f : Int32} (h : ∀ cl, cl ∈ R → okCs cl) : ruA (R.map flatK) f = ruM R f := by
  unfold ruA ruM
  split
  · rfl
  · rw [List.getElem?_map]
    cases hr : R[tn f]? with
    | none => rfl
    | some cl =>
      have hcl : cl ∈ R := List.mem_of_getElem? hr
      show some _ = some _
      congr 1
      funext env
      exact run_flat cl (h cl hcl)
