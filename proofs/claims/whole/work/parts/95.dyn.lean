/-! the heap grows: what constructors do -/
section DYN
variable {G : aG} {l : Launch} {d : Nat} {mm : aMM} {c b : Nat} {Q : Option Value → aMD → Prop} {pc : Nat} {K : aP aMD}
def j_new (ci : Nat) (fs : List Value) (K : aP aMD) : aP aMD := fun ls st x => x.2 + 1 ≤ 1000000 ∧ K ls (.ref x.2 :: st) (va_up x.1 x.2 (.inr (ci, fs)), x.2 + 1)
def j_newa (t N : Nat) (y : (Nat → Int32) ⊕ (Nat → Int64) ⊕ (Nat → UInt32) ⊕ (Nat → UInt64) ⊕ (Nat → Option Nat)) (K : aP aMD) : aP aMD
  | ls, .int n :: r, x => (n = nI N ∧ x.2 + 1 ≤ 1000000) ∧ K ls (.ref x.2 :: r) (va_up x.1 x.2 (.inl (t, N, y)), x.2 + 1)
  | _, _, _ => False
abbrev aNone : (Nat → Int32) ⊕ (Nat → Int64) ⊕ (Nat → UInt32) ⊕ (Nat → UInt64) ⊕ (Nat → Option Nat) := .inr (.inr (.inr (.inr (fun _ => none))))
abbrev aRefs (f : Nat → Option Nat) : (Nat → Int32) ⊕ (Nat → Int64) ⊕ (Nat → UInt32) ⊕ (Nat → UInt64) ⊕ (Nat → Option Nat) := .inr (.inr (.inr (.inr f)))
def pI (v : Value) : Prop := ∃ z, v = .int z
def pR (v : Value) : Prop := ∃ z, v = .ref z
def j_put (P : Value → Prop) (ci k : Nat) (K : aP aMD) : aP aMD
  | ls, v :: .ref a :: r, x => ∃ fs, (P v ∧ a < x.2 ∧ x.1 a = .inr (ci, fs) ∧ k < fs.length) ∧ K ls r (va_up x.1 a (.inr (ci, fs.set k v)), x.2)
  | _, _, _ => False
def j_get (ci k : Nat) (K : aP aMD) : aP aMD
  | ls, .ref a :: r, x => ∃ fs v, (a < x.2 ∧ x.1 a = .inr (ci, fs) ∧ fs[k]? = some v) ∧ K ls (v :: r) x
  | _, _, _ => False
def j_iast (K : aP aMD) : aP aMD
  | ls, .int v :: .int i :: .ref a :: r, x => ∃ n f, (a < x.2 ∧ x.1 a = .inl (1, n, .inl f) ∧ vp_in i n) ∧ K ls r (va_up x.1 a (.inl (1, n, .inl (upd f i.toNatClampNeg v))), x.2)
  | _, _, _ => False
def j_aast (t ci : Nat) (K : aP aMD) : aP aMD
  | ls, .ref v :: .int i :: .ref a :: r, x => ∃ n f vs, (a < x.2 ∧ x.1 a = .inl (t + 1, n, aRefs f) ∧ v < x.2 ∧ x.1 v = .inr (ci, vs) ∧ vp_in i n) ∧ K ls r (va_up x.1 a (.inl (t + 1, n, aRefs (va_up f i.toNatClampNeg (some v)))), x.2)
  | _, _, _ => False
theorem s_newD {ci N ix : Nat} {Cn : String} {T : u_T} {fs : List Value} {tyf : Nat → FieldType} (hC : aCl ci Cn T N) (hw : Cond.classLink mm.1.cls ix Cn ∈ aBIG) (hi : Cond.instantiable Cn N ∈ aBIG) (hini : Cond.initialized Cn ∈ aBIG) (hty : ∀ j, j < N → parseFieldDescriptor (T j).2.2.1 = some (tyf j)) (hfs : ∀ G : aG, ∀ j, j < N → defaultValue (tyf j) = vp_V (fs.map (aV G)) j) (hd : decode mm.2.1 pc = .ok (.new ix, 3)) (h : aS (aR0 G) G l d mm c b Q (pc + 3) K) : aS (aR0 G) G l d mm (c + 1) (b + N) Q pc (j_new ci fs K) := by
  intro ls st x hk p e R s m args below meth cd QQ P H locs arr cells slots hp hl
  refine w_new P.1 hC hw hi hini hty (hfs G) (by have := hp.1; omega) (by have := hp.2.1; omega) hp.2.2.1 hp.2.2.2 hk.1 hd (fun H1 hr hS => ?_)
  exact h _ _ _ hk.2 _ _ _ _ _ _ _ _ _ _ P _ _ _ _ _ ⟨by have := hp.1; omega, by have := hp.2.1; omega, hr, hS⟩ hl
theorem s_newaD {at2 : ArrayType} {ty : FieldType} {t N : Nat} {y : (Nat → Int32) ⊕ (Nat → Int64) ⊕ (Nat → UInt32) ⊕ (Nat → UInt64) ⊕ (Nat → Option Nat)} (hw : Cond.arrayClass (newarray.typeOf at2) ∈ aBIG) (hty : newarray.typeOf at2 = ty) (ht : ∀ G : aG, (aTys G)[t]? = some (G.2 (t + 1), ty)) (hy : ∀ cA : ClassId, vp_cell cA (N, y) = arrV cA N (fun _ => defaultValue ty)) (hE : ∀ G : aG, aE G (.inl (t + 1, N, y)) = .inl (G.2 (t + 1), N, y)) (hN : N < 5000) (hb : N * componentBytes ty ≤ 536870912) (hd : decode mm.2.1 pc = .ok (.newarray at2, 2)) (h : aS (aR0 G) G l d mm c b Q (pc + 2) K) : aS (aR0 G) G l d mm (c + 1) (b + N) Q pc (j_newa (t + 1) N y K) := by
  intro ls st x hk p e R s m args below meth cd QQ P H locs arr cells slots hp hl
  unfold j_newa at hk
  split at hk
  · obtain ⟨⟨rfl, hx⟩, hk⟩ := hk
    refine w_newa P.1 hw hty (ht G) hy (hE G) (nI_pos (by omega)) (nI_clamp (by omega)) hb (by have := hp.1; omega) (by have := hp.2.1; omega) hp.2.2.1 hp.2.2.2 hx hd (fun H1 hr hS => ?_)
    exact h _ _ _ hk _ _ _ _ _ _ _ _ _ _ P _ _ _ _ _ ⟨by have := hp.1; omega, by have := hp.2.1; omega, hr, hS⟩ hl
  · exact hk.elim
theorem s_newqD {t ix N : Nat} {Cn : String} (hw : Cond.classLink mm.1.cls ix Cn ∈ aBIG) (hao : ∀ (G : aG) (s : State), aOkV G s → va_AO Cn s) (ht : ∀ G : aG, (aTys G)[t]? = some (G.2 (t + 1), .object Cn)) (hN : N < 5000) (hd : decode mm.2.1 pc = .ok (.anewarray ix, 3)) (h : aS (aR0 G) G l d mm c b Q (pc + 3) K) : aS (aR0 G) G l d mm (c + 1) (b + N) Q pc (j_newa (t + 1) N aNone K) := by
  intro ls st x hk p e R s m args below meth cd QQ P H locs arr cells slots hp hl
  unfold j_newa at hk
  split at hk
  · obtain ⟨⟨rfl, hx⟩, hk⟩ := hk
    refine w_newq P.1 hw (hao G s P.1.ok.1) (ht G) (nI_pos (by omega)) (nI_clamp (by omega)) (by omega) (by have := hp.1; omega) (by have := hp.2.1; omega) hp.2.2.1 hp.2.2.2 hx hd (fun H1 hr hS => ?_)
    exact h _ _ _ hk _ _ _ _ _ _ _ _ _ _ P _ _ _ _ _ ⟨by have := hp.1; omega, by have := hp.2.1; omega, hr, hS⟩ hl
  · exact hk.elim
theorem s_putD {ci N k ix : Nat} {Cn : String} {T : u_T} {ty : FieldType} {tyf : Nat → FieldType} {A : Value → Prop} (hC : aCl ci Cn T N) (hF : k < N ∧ Cond.fieldLink mm.1.cls ix (T k).1 (T k).2.1 (T k).2.2.1 ∈ aBIG) (hty : ∀ j, j < N → parseFieldDescriptor (T j).2.2.1 = some (tyf j)) (hnm : ∀ i, i < N → ∀ j, j < N → i ≠ j → (T i).2.1 ≠ (T j).2.1) (hfin : (T k).2.2.2 = false ∨ ((T k).2.2.2 = true ∧ mm.1.name = "<init>" ∧ (T k).1 = mm.1.cls)) (hd2 : tyf k = ty) (hA : ∀ (G : aG) (v : Value), A v → narrow ty (aV G v) = aV G v ∧ fits ty (aV G v) = true) (hd : decode mm.2.1 pc = .ok (.putfield ix, 3)) (h : aS (aR0 G) G l d mm c b Q (pc + 3) K) : aS (aR0 G) G l d mm c b Q pc (j_put A ci k K) := by
  intro ls st x hk p e R s m args below meth cd QQ P H locs arr cells slots hp hl
  unfold j_put at hk
  split at hk
  · rename_i v a r
    obtain ⟨fs, ⟨h1, h2, h3, h4⟩, hk⟩ := hk
    refine w_putf (v := v) (ty := ty) P.1 hC hF hty hnm hfin (by rw [hty k hF.1, hd2]) (hA G v h1).1 (hA G v h1).2 h4 hp.2.2.1 hp.2.2.2 h2 h3 hd fun H1 locs1 hr hS => ?_
    exact h _ _ _ hk _ _ _ _ _ _ _ _ _ _ P _ _ _ _ _ ⟨hp.1, hp.2.1, hr, hS⟩ hl
  · exact hk.elim
theorem s_getD {ci N k ix : Nat} {Cn : String} {T : u_T} (hC : aCl ci Cn T N) (hF : k < N ∧ Cond.fieldLink mm.1.cls ix (T k).1 (T k).2.1 (T k).2.2.1 ∈ aBIG) (hd : decode mm.2.1 pc = .ok (.getfield ix, 3)) (h : aS (aR0 G) G l d mm c b Q (pc + 3) K) : aS (aR0 G) G l d mm c b Q pc (j_get ci k K) := by
  intro ls st x hk p e R s m args below meth cd QQ P H locs arr cells slots hp hl
  unfold j_get at hk
  split at hk
  · obtain ⟨fs, v, ⟨h1, h2, h3⟩, hk⟩ := hk
    exact w_getf P.1 hC hF hp.2.2.1 h1 h2 h3 hd (h _ _ _ hk _ _ _ _ _ _ _ _ _ _ P _ _ _ _ _ hp hl)
  · exact hk.elim
theorem s_iastD (hd : decode mm.2.1 pc = .ok (.iastore, 1)) (h : aS (aR0 G) G l d mm c b Q (pc + 1) K) : aS (aR0 G) G l d mm c b Q pc (j_iast K) := by
  intro ls st x hk p e R s m args below meth cd QQ P H locs arr cells slots hp hl
  unfold j_iast at hk
  split at hk
  · obtain ⟨n, f, ⟨h1, h2, h3⟩, hk⟩ := hk
    refine w_iast P.1 hp.2.2.1 hp.2.2.2 h1 h2 h3 hd fun H1 locs1 hr hS => ?_
    exact h _ _ _ hk _ _ _ _ _ _ _ _ _ _ P _ _ _ _ _ ⟨hp.1, hp.2.1, hr, hS⟩ hl
  · exact hk.elim
theorem s_aastD {t ci : Nat} {r : vw_C} (ht : ∀ G : aG, (aTys G)[t]? = some (G.2 (t + 1), .object r.1)) (hc : vwCl[ci]? = some r) (hd : decode mm.2.1 pc = .ok (.aastore, 1)) (h : aS (aR0 G) G l d mm c b Q (pc + 1) K) : aS (aR0 G) G l d mm c b Q pc (j_aast t ci K) := by
  intro ls st x hk p e R s m args below meth cd QQ P H locs arr cells slots hp hl
  unfold j_aast at hk
  split at hk
  · obtain ⟨n, f, vs, ⟨h1, h2, h3, h4, h5⟩, hk⟩ := hk
    refine w_aast P.1 (ht G) hc hp.2.2.1 hp.2.2.2 h1 h2 h3 h4 h5 hd fun H1 locs1 hr hS => ?_
    exact h _ _ _ hk _ _ _ _ _ _ _ _ _ _ P _ _ _ _ _ ⟨hp.1, hp.2.1, hr, hS⟩ hl
  · exact hk.elim
/-- what may be made may be more -/
theorem aT.widen {μ : Type} {rep : μ → Heap → Prop} {G : aG} {l : Launch} {d c b c2 b2 : Nat} {mm : aMM} {Q : Option Value → μ → Prop} {pc : Nat} {ls st : List Value} {x : μ} (h : aT rep G l d mm c b Q pc ls st x) (hc : c ≤ c2) (hb : b ≤ b2) : aT rep G l d mm c2 b2 Q pc ls st x :=
  fun p e R s m args below meth cd QQ P H locs arr cells slots hp hl => h p e R s m args below meth cd QQ P H locs arr cells slots ⟨by have := hp.1; omega, by have := hp.2.1; omega, hp.2.2⟩ hl
end DYN
