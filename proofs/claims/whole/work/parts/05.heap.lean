/-! heaps by names: cell k lies at the place where our cells begin + k -/
def aE (G : aG) (e : va_E) : va_E := match e with
  | .inr o => .inr (o.1, o.2.map (aV G))
  | .inl (t, n, .inr (.inr (.inr (.inr r)))) => .inl (G.2 t, n, .inr (.inr (.inr (.inr (fun k => (r k).map (aLoc G))))))
  | .inl (t, a) => .inl (G.2 t, a)
abbrev aMD : Type := (Nat → va_E) × Nat
def aR0 (G : aG) (x : aMD) (H : Heap) : Prop := H.size = G.2 0 + x.2 ∧ x.2 ≤ 1000000 ∧ ∀ k, k < x.2 → va_at G.1 vwCl (G.2 0 + k, aE G (x.1 k)) H
theorem aLoc_lt {G : aG} {k : Nat} (h : k < 1000000) : aLoc G k = G.2 0 + k := by rw [aLoc, if_pos h]
theorem aR0.loc {G : aG} {x : aMD} {H : Heap} (h : aR0 G x H) {k : Nat} (hk : k < x.2) : aLoc G k = G.2 0 + k := aLoc_lt (Nat.lt_of_lt_of_le hk h.2.1)
theorem aR0.at {G : aG} {x : aMD} {H : Heap} (h : aR0 G x H) {k : Nat} (hk : k < x.2) : va_at G.1 vwCl (aLoc G k, aE G (x.1 k)) H := by
  rw [h.loc hk]
  exact h.2.2 k hk
theorem aR0.P {G : aG} {x : aMD} {H : Heap} (h : aR0 G x H) {k : Nat} (hk : k < x.2) {e : va_E} (he : aE G (x.1 k) = e) : va_P G.1 vwCl [(aLoc G k, e)] H := by
  intro i q hq
  have hz : i < 1 := (List.getElem?_eq_some_iff.mp hq).1
  rw [show i = 0 by omega] at hq
  cases hq
  rw [← he]
  exact h.at hk
theorem aR0.set {G : aG} {x : aMD} {H H1 : Heap} (h : aR0 G x H) {k : Nat} (hk : k < x.2) {e : va_E} (he : va_at G.1 vwCl (aLoc G k, aE G e) H1) (hz : H1.size = H.size) (ho : ∀ q, q ≠ aLoc G k → H1[q]? = H[q]?) : aR0 G (va_up x.1 k e, x.2) H1 := by
  refine ⟨hz.trans h.1, h.2.1, fun j hj => ?_⟩
  by_cases hjk : j = k
  · subst hjk
    rw [h.loc hk] at he
    simp only [va_up, if_pos rfl]
    exact he
  · simp only [va_up, if_neg hjk]
    refine (h.2.2 j hj).kept (ho _ ?_)
    rw [h.loc hk]
    show G.2 0 + j ≠ _
    omega
theorem aR0.push {G : aG} {x : aMD} {H H1 : Heap} (h : aR0 G x H) (hn : x.2 + 1 ≤ 1000000) {e : va_E} (he : va_at G.1 vwCl (H.size, aE G e) H1) (hz : H1.size = H.size + 1) (ho : ∀ q, q < H.size → H1[q]? = H[q]?) : aR0 G (va_up x.1 x.2 e, x.2 + 1) H1 := by
  refine ⟨by rw [hz, h.1]; omega, hn, fun j hj => ?_⟩
  by_cases hjk : j = x.2
  · subst hjk
    rw [h.1] at he
    simp only [va_up, if_pos rfl]
    exact he
  · simp only [va_up, if_neg hjk]
    refine (h.2.2 j (by simp at hj; omega)).kept (ho _ ?_)
    rw [h.1]
    simp at hj
    show G.2 0 + j < _
    omega
theorem va_S.put2 {G : aG} {H0 H H1 : Heap} {locs : List Loc} {k : Nat} (h : va_S (aA G) H0 H locs) (z : H1.size = H.size) {a : Nat} (ha : G.2 0 ≤ a) (oq : ∀ q : Nat, q ≠ a → H1[q]? = H[q]?) : va_S (aA G) H0 H1 (locs ++ [⟨a, k⟩]) := h.put z oq ha
theorem va_S.push2 {G : aG} {H0 H H1 : Heap} {locs : List Loc} (h : va_S (aA G) H0 H locs) (z : H1.size = H.size + 1) (oq : ∀ q : Nat, q < H.size → H1[q]? = H[q]?) : va_S (aA G) H0 H1 locs :=
  ⟨Nat.le_trans h.1 (by omega), fun q h1 h2 => (oq q (Nat.lt_of_lt_of_le h1 h.1)).trans (h.2.1 q h1 h2), h.2.2⟩
theorem aLoc_ge {G : aG} {x : aMD} {H : Heap} (h : aR0 G x H) {k : Nat} (hk : k < x.2) : G.2 0 ≤ aLoc G k := by rw [h.loc hk]; omega
section AM3
variable {p : Program} {l : Launch} {e : Env} {R : Room} {s : State} {m : MethodId} {args : Array Value} {below : List Frame} {meth : Method} {c : Code} {H : Heap} {locs : List Loc} {cells slots : Nat} {QQ : State → Prop} {G : aG} {mm : aMM} {pc : Nat} {arr : Array Slot} {rest : List Value} {x : aMD}
theorem aCtx.hx (C : aCtx G p s m args meth c mm) : p.tables.exec = Jvm.exec := C.1
theorem aCtx.hb (C : aCtx G p s m args meth c mm) : c.code = mm.2.1 := C.2.1
theorem aCtx.hown (C : aCtx G p s m args meth c mm) : s.vm.findClass mm.1.cls = some m.cls := C.2.2.2.2.1
theorem aCtx.hts (C : aCtx G p s m args meth c mm) : ∀ w ∈ aBIG, w.before args s = true := C.2.2.2.2.2.1
theorem aCtx.ok (C : aCtx G p s m args meth c mm) : aOk G s := C.2.2.2.2.2.2.2.2
theorem aCtx.K (C : aCtx G p s m args meth c mm) : va_K G.1 vwCl (aTys G) s := C.ok.1.1
theorem aCtx.nm (C : aCtx G p s m args meth c mm) : meth.name = mm.1.name := C.2.2.2.2.2.2.2.1
theorem aCtx.ml (C : aCtx G p s m args meth c mm) : c.maxLocals = mm.2.2.1 := C.2.2.2.1
/-- a class's place in the list, its fields' words -/
def aCl (ci : Nat) (C : String) (T : u_T) (N : Nat) : Prop := vwCl[ci]? = some (C, T, N) ∧ ∀ w ∈ u_ws C T N, w ∈ aBIG
def aFd (mm : aMM) (T : u_T) (N k ix : Nat) : Prop := k < N ∧ Cond.fieldLink mm.1.cls ix (T k).1 (T k).2.1 (T k).2.2.1 ∈ aBIG
theorem w_getf {ci N k a ix : Nat} {Cn : String} {T : u_T} {fs : List Value} {v : Value} (C : aCtx G p s m args meth c mm) (hC : aCl ci Cn T N) (hF : aFd mm T N k ix) (hr : aR0 G x H) (ha : a < x.2) (he : x.1 a = .inr (ci, fs)) (hv : fs[k]? = some v) (hd : decode mm.2.1 pc = .ok (.getfield ix, 3))
    (kk : W p l e R s m args below meth c H locs cells slots QQ (F0 m (pc + 3) arr (aV G v :: rest))) : W p l e R s m args below meth c H locs cells slots QQ (F0 m pc arr (.ref (aLoc G a) :: rest)) :=
  va_get (D := G.1) (ws := [(aLoc G a, .inr (ci, fs.map (aV G)))]) C.hx C.hb C.hts hC.2 C.hown C.K (hr.P ha (by rw [he]; rfl)) 0 rfl hC.1 k hF.1 (C.hts _ hF.2) (fun _ h => h) (by rw [List.getElem?_map, hv]; rfl) hd kk
theorem w_putf {ci N k a ix : Nat} {Cn : String} {T : u_T} {fs : List Value} {v : Value} {ty : FieldType} {tyf : Nat → FieldType} (C : aCtx G p s m args meth c mm) (hC : aCl ci Cn T N) (hF : aFd mm T N k ix) (hty : ∀ j, j < N → parseFieldDescriptor (T j).2.2.1 = some (tyf j)) (hnm : ∀ i, i < N → ∀ j, j < N → i ≠ j → (T i).2.1 ≠ (T j).2.1) (hfin : (T k).2.2.2 = false ∨ ((T k).2.2.2 = true ∧ mm.1.name = "<init>" ∧ (T k).1 = mm.1.cls)) (hd2 : parseFieldDescriptor (T k).2.2.1 = some ty) (hn : narrow ty (aV G v) = aV G v) (hfit : fits ty (aV G v) = true) (hl : k < fs.length)
    (hr : aR0 G x H) (hS : va_S (aA G) s.heap H locs) (ha : a < x.2) (he : x.1 a = .inr (ci, fs)) (hd : decode mm.2.1 pc = .ok (.putfield ix, 3))
    (kk : ∀ (H1 : Heap) (locs1 : List Loc), aR0 G (va_up x.1 a (.inr (ci, fs.set k v)), x.2) H1 → va_S (aA G) s.heap H1 locs1 → W p l e R s m args below meth c H1 locs1 cells slots QQ (F0 m (pc + 3) arr rest)) : W p l e R s m args below meth c H locs cells slots QQ (F0 m pc arr (aV G v :: .ref (aLoc G a) :: rest)) := by
  have hap := va_apart (own := mm.1.cls) C.hts hC.2 tyf hty hnm C.K hC.1
  have hat := hr.at ha
  rw [he] at hat
  obtain ⟨r, h1, cell, q1, q2, q3, q4⟩ := hat
  have hrr : r = (Cn, T, N) := Option.some.inj (h1.symm.trans hC.1)
  subst hrr
  obtain ⟨hSl, hfc, kC, hkC, hkind⟩ := C.K.1 ci _ hC.1
  obtain ⟨cf, kf, fi, f, hi, hsl⟩ := hSl k hF.1
  have hst := (u_facts hfc hkC (u_lays C.hts hC.2 hF.1) hi).1
  have hend : ∀ H' : Heap, H'[aLoc G a]? = some (cell.setSlot f.slot (aV G v)) → H'.size = H.size → (∀ q, q ≠ aLoc G a → H'[q]? = H[q]?) → W p l e R s m args below meth c H' (locs ++ [⟨aLoc G a, f.slot⟩]) cells slots QQ (F0 m (pc + 3) arr rest) := by
    intro H' e1 e2 e3
    refine kk H' _ (hr.set ha ?_ e2 e3) (hS.put2 e2 (aLoc_ge hr ha) e3)
    refine ⟨_, hC.1, t_OB.to (V := updV (vp_V (fs.map (aV G))) k (aV G v)) ⟨_, e1, q2, q3, ?_⟩ (fun j _ => ?_)⟩
    · rw [hsl]
      exact t_set q4 hap hF.1 (aV G v)
    · show updV _ _ _ j = vp_V ((fs.set k v).map (aV G)) j
      rw [List.map_set]
      exact vp_updV_set (by rw [List.length_map]; exact hl) (aV G v) j
  rcases hfin with hfin | ⟨hfin, hin2, hdecl⟩
  · have hlay := C.hts _ (hC.2 _ (u_in_lay hF.1))
    unfold u_lay at hlay
    rw [if_neg (by rw [hfin]; decide)] at hlay
    have h6 := u_store hfc hkC hkind hlay hi hd2 hn hfit
    exact W.putK C.hx C.hb (f := f) ⟨C.hown, C.hts _ hF.2, ⟨_, _, _, hi⟩, hst⟩ (by rw [q2]; exact h6) q1 q3 (by rw [hsl]; exact k2_hasslot (q4 k hF.1)) rfl rfl hd hend
  · have hlay := C.hts _ (hC.2 _ (u_in_lay hF.1))
    unfold u_lay at hlay
    rw [if_pos hfin] at hlay
    have hcf : m.cls = cf := by
      obtain ⟨_, _, c', _, _, _, -, -, hf', -, -, -, hown2, -⟩ := Cond.laysFinal_spec hlay
      have e1 : c' = cf := by have := hi.symm.trans hf'; simp at this; exact this.1.symm
      rw [hdecl] at hown2
      rw [← e1]; exact Option.some.inj (C.hown.symm.trans hown2)
    have h6 := u_fits hfc hkC hkind (Or.inr hlay) hi hd2 hn hfit
    exact W.putFinK C.hx C.hb C.hown (C.hts _ hF.2) hi hst hcf (by rw [C.nm]; exact hin2) (by rw [q2]; exact h6) q1 q3 (by rw [hsl]; exact k2_hasslot (q4 k hF.1)) rfl rfl hd hend
theorem w_iald {a n : Nat} {f : Nat → Int32} {i : Int32} (C : aCtx G p s m args meth c mm) (hr : aR0 G x H) (ha : a < x.2) (he : x.1 a = .inl (1, n, .inl f)) (hin : vp_in i n) (hd : decode mm.2.1 pc = .ok (.iaload, 1))
    (kk : W p l e R s m args below meth c H locs cells slots QQ (F0 m (pc + 1) arr (.int (f i.toNatClampNeg) :: rest))) : W p l e R s m args below meth c H locs cells slots QQ (F0 m pc arr (.int i :: .ref (aLoc G a) :: rest)) :=
  va_iald (D := G.1) (ws := [(aLoc G a, .inl (G.2 1, n, .inl f))]) C.hx C.hb C.K (hr.P ha (by rw [he]; rfl)) 0 0 rfl rfl hin hd kk
theorem w_bald {a n : Nat} {f : Nat → Int32} {i : Int32} (C : aCtx G p s m args meth c mm) (hr : aR0 G x H) (ha : a < x.2) (he : x.1 a = .inl (2, n, .inl f)) (hin : vp_in i n) (hd : decode mm.2.1 pc = .ok (.baload, 1))
    (kk : W p l e R s m args below meth c H locs cells slots QQ (F0 m (pc + 1) arr (.int (f i.toNatClampNeg) :: rest))) : W p l e R s m args below meth c H locs cells slots QQ (F0 m pc arr (.int i :: .ref (aLoc G a) :: rest)) :=
  va_bald (D := G.1) (ws := [(aLoc G a, .inl (G.2 2, n, .inl f))]) C.hx C.hb C.K (hr.P ha (by rw [he]; rfl)) 0 1 rfl rfl hin hd kk
theorem w_zald {a n : Nat} {f : Nat → Int32} {i : Int32} (C : aCtx G p s m args meth c mm) (hr : aR0 G x H) (ha : a < x.2) (he : x.1 a = .inl (4, n, .inl f)) (hin : vp_in i n) (hd : decode mm.2.1 pc = .ok (.baload, 1))
    (kk : W p l e R s m args below meth c H locs cells slots QQ (F0 m (pc + 1) arr (.int (f i.toNatClampNeg) :: rest))) : W p l e R s m args below meth c H locs cells slots QQ (F0 m pc arr (.int i :: .ref (aLoc G a) :: rest)) :=
  va_zald (D := G.1) (ws := [(aLoc G a, .inl (G.2 4, n, .inl f))]) C.hx C.hb C.K (hr.P ha (by rw [he]; rfl)) 0 3 rfl rfl hin hd kk
theorem w_lald {a n : Nat} {f : Nat → Int64} {i : Int32} (C : aCtx G p s m args meth c mm) (hr : aR0 G x H) (ha : a < x.2) (he : x.1 a = .inl (3, n, .inr (.inl f))) (hin : vp_in i n) (hd : decode mm.2.1 pc = .ok (.laload, 1))
    (kk : W p l e R s m args below meth c H locs cells slots QQ (F0 m (pc + 1) arr (.long (f i.toNatClampNeg) :: rest))) : W p l e R s m args below meth c H locs cells slots QQ (F0 m pc arr (.int i :: .ref (aLoc G a) :: rest)) :=
  va_lald (D := G.1) (ws := [(aLoc G a, .inl (G.2 3, n, .inr (.inl f)))]) C.hx C.hb C.K (hr.P ha (by rw [he]; rfl)) 0 2 rfl rfl hin hd kk
theorem w_aald {a n t : Nat} {Cn : String} {f : Nat → Option Nat} {i : Int32} (C : aCtx G p s m args meth c mm) (ht : (aTys G)[t]? = some (G.2 (t + 1), .object Cn)) (hr : aR0 G x H) (ha : a < x.2) (he : x.1 a = .inl (t + 1, n, .inr (.inr (.inr (.inr f))))) (hin : vp_in i n) (hd : decode mm.2.1 pc = .ok (.aaload, 1))
    (kk : W p l e R s m args below meth c H locs cells slots QQ (F0 m (pc + 1) arr (aV G (va_rf (f i.toNatClampNeg)) :: rest))) : W p l e R s m args below meth c H locs cells slots QQ (F0 m pc arr (.int i :: .ref (aLoc G a) :: rest)) := by
  refine va_aldq (D := G.1) (ws := [(aLoc G a, .inl (G.2 (t + 1), n, .inr (.inr (.inr (.inr (fun k => (f k).map (aLoc G)))))))]) C.hx C.hb C.K (hr.P ha (by rw [he]; rfl)) 0 t rfl ht hin hd ?_
  have e : va_rf ((f i.toNatClampNeg).map (aLoc G)) = aV G (va_rf (f i.toNatClampNeg)) := by cases f i.toNatClampNeg <;> rfl
  rw [e]
  exact kk
theorem w_alen {a t n : Nat} {y : (Nat → Int32) ⊕ (Nat → Int64) ⊕ (Nat → UInt32) ⊕ (Nat → UInt64) ⊕ (Nat → Option Nat)} {ty : FieldType} (C : aCtx G p s m args meth c mm) (ht : (aTys G)[t]? = some (G.2 (t + 1), ty)) (hr : aR0 G x H) (ha : a < x.2) (he : x.1 a = .inl (t + 1, n, y)) (hd : decode mm.2.1 pc = .ok (.arraylength, 1))
    (kk : W p l e R s m args below meth c H locs cells slots QQ (F0 m (pc + 1) arr (.int (Int32.ofNat n) :: rest))) : W p l e R s m args below meth c H locs cells slots QQ (F0 m pc arr (.ref (aLoc G a) :: rest)) := by
  obtain ⟨z, hz⟩ : ∃ z, aE G (x.1 a) = .inl (G.2 (t + 1), n, z) := by
    rw [he]
    rcases y with f | f | f | f | f <;> exact ⟨_, rfl⟩
  exact va_alen (D := G.1) (ws := [(aLoc G a, .inl (G.2 (t + 1), n, z))]) C.hx C.hb C.K (hr.P ha hz) 0 t rfl ht rfl hd kk
theorem aE_i (G : aG) (t n : Nat) (f : Nat → Int32) : aE G (.inl (t, n, .inl f)) = .inl (G.2 t, n, .inl f) := rfl
theorem w_store {f : Nat → Int32} {k : Nat} {v : Int32} (cA n : Nat) : (vp_cell cA (n, .inl f)).setSlot k (.int v) = vp_cell cA (n, .inl (upd f k v)) := by
  rw [vp_cell_i, vp_cell_i, arrV_store]
  congr 1
  funext q
  by_cases hq : q = k
  · subst hq
    simp [updV, upd]
  · simp [updV, upd, hq]
theorem w_iast {a n : Nat} {f : Nat → Int32} {i v : Int32} (C : aCtx G p s m args meth c mm) (hr : aR0 G x H) (hS : va_S (aA G) s.heap H locs) (ha : a < x.2) (he : x.1 a = .inl (1, n, .inl f)) (hin : vp_in i n) (hd : decode mm.2.1 pc = .ok (.iastore, 1))
    (kk : ∀ (H1 : Heap) (locs1 : List Loc), aR0 G (va_up x.1 a (.inl (1, n, .inl (upd f i.toNatClampNeg v))), x.2) H1 → va_S (aA G) s.heap H1 locs1 → W p l e R s m args below meth c H1 locs1 cells slots QQ (F0 m (pc + 1) arr rest)) : W p l e R s m args below meth c H locs cells slots QQ (F0 m pc arr (.int v :: .int i :: .ref (aLoc G a) :: rest)) := by
  have hat := hr.at ha
  rw [he] at hat
  refine W.iast C.hx C.hb hat ((C.K.2 0 _ rfl).1 n (fun j => .int (f j))) (fun q => by cases q) (by show ¬ (i < 0 ∨ (arrV _ _ _).slots.size ≤ _); rw [arrV_size]; exact hin) rfl rfl hd fun H1 e1 z oq => ?_
  exact kk H1 _ (hr.set ha (by show H1[aLoc G a]? = some (vp_cell _ _); rw [e1]; exact congrArg some (w_store _ _)) z oq) (hS.put2 z (aLoc_ge hr ha) oq)
theorem w_bast {a n : Nat} {f : Nat → Int32} {i v : Int32} (C : aCtx G p s m args meth c mm) (hr : aR0 G x H) (hS : va_S (aA G) s.heap H locs) (ha : a < x.2) (he : x.1 a = .inl (2, n, .inl f)) (hin : vp_in i n) (hd : decode mm.2.1 pc = .ok (.bastore, 1))
    (kk : ∀ (H1 : Heap) (locs1 : List Loc), aR0 G (va_up x.1 a (.inl (2, n, .inl (upd f i.toNatClampNeg v.toInt8.toInt32))), x.2) H1 → va_S (aA G) s.heap H1 locs1 → W p l e R s m args below meth c H1 locs1 cells slots QQ (F0 m (pc + 1) arr rest)) : W p l e R s m args below meth c H locs cells slots QQ (F0 m pc arr (.int v :: .int i :: .ref (aLoc G a) :: rest)) := by
  have hat := hr.at ha
  rw [he] at hat
  refine W.bast C.hx C.hb hat ((C.K.2 1 _ rfl).1 n (fun j => .int (f j))) (fun q => by cases q) (by show ¬ (i < 0 ∨ (arrV _ _ _).slots.size ≤ _); rw [arrV_size]; exact hin) rfl rfl hd fun H1 e1 z oq => ?_
  exact kk H1 _ (hr.set ha (by show H1[aLoc G a]? = some (vp_cell _ _); rw [e1, narrow_byte]; exact congrArg some (w_store _ _)) z oq) (hS.put2 z (aLoc_ge hr ha) oq)
theorem w_zast {a n : Nat} {f : Nat → Int32} {i v : Int32} (C : aCtx G p s m args meth c mm) (hr : aR0 G x H) (hS : va_S (aA G) s.heap H locs) (ha : a < x.2) (he : x.1 a = .inl (4, n, .inl f)) (hin : vp_in i n) (hv : narrow .boolean (.int v) = .int v) (hd : decode mm.2.1 pc = .ok (.bastore, 1))
    (kk : ∀ (H1 : Heap) (locs1 : List Loc), aR0 G (va_up x.1 a (.inl (4, n, .inl (upd f i.toNatClampNeg v))), x.2) H1 → va_S (aA G) s.heap H1 locs1 → W p l e R s m args below meth c H1 locs1 cells slots QQ (F0 m (pc + 1) arr rest)) : W p l e R s m args below meth c H locs cells slots QQ (F0 m pc arr (.int v :: .int i :: .ref (aLoc G a) :: rest)) := by
  have hat := hr.at ha
  rw [he] at hat
  refine W.zast C.hx C.hb hat ((C.K.2 3 _ rfl).1 n (fun j => .int (f j))) (fun q => by cases q) (by show ¬ (i < 0 ∨ (arrV _ _ _).slots.size ≤ _); rw [arrV_size]; exact hin) rfl rfl hd fun H1 e1 z oq => ?_
  exact kk H1 _ (hr.set ha (by show H1[aLoc G a]? = some (vp_cell _ _); rw [e1, hv]; exact congrArg some (w_store _ _)) z oq) (hS.put2 z (aLoc_ge hr ha) oq)
theorem w_storeL {f : Nat → Int64} {k : Nat} {v : Int64} (cA n : Nat) : (vp_cell cA (n, .inr (.inl f))).setSlot k (.long v) = vp_cell cA (n, .inr (.inl (vp_updL f k v))) := by
  rw [vp_cell_l, vp_cell_l, arrV_store]
  congr 1
  funext q
  by_cases hq : q = k
  · subst hq
    simp [updV, vp_updL]
  · simp [updV, vp_updL, hq]
theorem w_last {a n : Nat} {f : Nat → Int64} {i : Int32} {v : Int64} (C : aCtx G p s m args meth c mm) (hr : aR0 G x H) (hS : va_S (aA G) s.heap H locs) (ha : a < x.2) (he : x.1 a = .inl (3, n, .inr (.inl f))) (hin : vp_in i n) (hd : decode mm.2.1 pc = .ok (.lastore, 1))
    (kk : ∀ (H1 : Heap) (locs1 : List Loc), aR0 G (va_up x.1 a (.inl (3, n, .inr (.inl (vp_updL f i.toNatClampNeg v)))), x.2) H1 → va_S (aA G) s.heap H1 locs1 → W p l e R s m args below meth c H1 locs1 cells slots QQ (F0 m (pc + 1) arr rest)) : W p l e R s m args below meth c H locs cells slots QQ (F0 m pc arr (.long v :: .int i :: .ref (aLoc G a) :: rest)) := by
  have hat := hr.at ha
  rw [he] at hat
  refine W.last C.hx C.hb hat ((C.K.2 2 _ rfl).1 n (fun j => .long (f j))) (fun q => by cases q) (by show ¬ (i < 0 ∨ (arrV _ _ _).slots.size ≤ _); rw [arrV_size]; exact hin) rfl rfl hd fun H1 e1 z oq => ?_
  exact kk H1 _ (hr.set ha (by show H1[aLoc G a]? = some (vp_cell _ _); rw [e1]; exact congrArg some (w_storeL _ _)) z oq) (hS.put2 z (aLoc_ge hr ha) oq)
theorem w_aast {a n t ci v : Nat} {r : vw_C} {vs : List Value} {f : Nat → Option Nat} {i : Int32} (C : aCtx G p s m args meth c mm) (ht : (aTys G)[t]? = some (G.2 (t + 1), .object r.1)) (hc : vwCl[ci]? = some r) (hr : aR0 G x H) (hS : va_S (aA G) s.heap H locs) (ha : a < x.2) (he : x.1 a = .inl (t + 1, n, .inr (.inr (.inr (.inr f))))) (hv : v < x.2) (hev : x.1 v = .inr (ci, vs)) (hin : vp_in i n) (hd : decode mm.2.1 pc = .ok (.aastore, 1))
    (kk : ∀ (H1 : Heap) (locs1 : List Loc), aR0 G (va_up x.1 a (.inl (t + 1, n, .inr (.inr (.inr (.inr (va_up f i.toNatClampNeg (some v))))))), x.2) H1 → va_S (aA G) s.heap H1 locs1 → W p l e R s m args below meth c H1 locs1 cells slots QQ (F0 m (pc + 1) arr rest)) : W p l e R s m args below meth c H locs cells slots QQ (F0 m pc arr (.ref (aLoc G v) :: .int i :: .ref (aLoc G a) :: rest)) := by
  have hlt : i.toNatClampNeg < n := Nat.not_le.mp fun q => hin (Or.inr q)
  have h0 : ¬ i < 0 := fun q => hin (Or.inl q)
  have hat := hr.at ha
  rw [he] at hat
  have hvt := hr.at hv
  rw [hev] at hvt
  obtain ⟨r', hr', cellV, g1, g2, g3, -⟩ := hvt
  have hcls := (C.K.1 ci r hc).2
  obtain ⟨kA, comp, k1, k2, k3, -⟩ := (C.K.2 t _ ht).2
  have hcomp : comp = G.1.1 ci := Option.some.inj (k3.symm.trans hcls.1)
  subst hcomp
  obtain ⟨kC, hkC, -⟩ := hcls.2
  refine W.aast C.hx C.hb hat (fun q h => by cases h) (fun h => by cases h) k1 k2 rfl hkC ⟨h0, by show _ < (arrV _ _ _).slots.size; rw [arrV_size]; exact hlt⟩ g1 (fun q h => by rw [g3] at h; cases h) (by rw [g2]; exact hkC) (by rw [g2]; exact va_assign hcls) rfl rfl hd fun H1 e1 z oq => ?_
  refine kk H1 _ (hr.set ha ?_ z oq) (hS.put2 z (aLoc_ge hr ha) oq)
  show H1[aLoc G a]? = some (vp_cell _ _)
  rw [e1]
  rw [vp_cell_q, vp_cell_q, arrV_store]
  congr 2
  funext q
  by_cases hq : q = i.toNatClampNeg
  · subst hq
    simp [updV, va_up, va_rf]
  · simp [updV, va_up, hq]
theorem w_newa {at2 : ArrayType} {ty : FieldType} {t : Nat} {y : (Nat → Int32) ⊕ (Nat → Int64) ⊕ (Nat → UInt32) ⊕ (Nat → UInt64) ⊕ (Nat → Option Nat)} {n : Int32} {N : Nat} (C : aCtx G p s m args meth c mm) (hw : Cond.arrayClass (newarray.typeOf at2) ∈ aBIG) (hty : newarray.typeOf at2 = ty) (ht : (aTys G)[t]? = some (G.2 (t + 1), ty)) (hy : ∀ cA : ClassId, vp_cell cA (N, y) = arrV cA N (fun _ => defaultValue ty)) (hE : aE G (.inl (t + 1, N, y)) = .inl (G.2 (t + 1), N, y)) (hnn : ¬ n < 0) (hN : n.toNatClampNeg = N) (hbytes : N * componentBytes ty ≤ 536870912) (hcells : cells + 1 ≤ R.cells) (hslots : slots + N ≤ R.slots) (hr : aR0 G x H) (hS : va_S (aA G) s.heap H locs) (hmax : x.2 + 1 ≤ 1000000) (hd : decode mm.2.1 pc = .ok (.newarray at2, 2))
    (kk : ∀ H1 : Heap, aR0 G (va_up x.1 x.2 (.inl (t + 1, N, y)), x.2 + 1) H1 → va_S (aA G) s.heap H1 locs → W p l e R s m args below meth c H1 locs (cells + 1) (slots + N) QQ (F0 m (pc + 2) arr (.ref (aLoc G x.2) :: rest))) : W p l e R s m args below meth c H locs cells slots QQ (F0 m pc arr (.int n :: rest)) := by
  subst hty
  refine va_newaK C.hx C.hb (C.hts _ hw) rfl hd rfl hnn hN hbytes hcells hslots rfl fun H1 cA e1 z1 o1 hAr hNm => ?_
  have hcA : cA = G.2 (t + 1) := by
    have h2 := (C.K.2 t _ ht).2
    have h3 : s.vm.findClass ("[" ++ (newarray.typeOf at2).toString) = some (G.2 (t + 1)) := by cases at2 <;> exact h2
    exact Option.some.inj (hNm.symm.trans h3)
  subst hcA
  have k := kk H1 (hr.push hmax (by rw [hE]; show H1[H.size]? = some (vp_cell _ _); rw [hy]; exact e1) z1 o1) (hS.push2 z1 o1)
  rw [aLoc_lt (by omega), ← hr.1] at k
  exact k
theorem w_newq {t ix : Nat} {Cn : String} {n : Int32} {N : Nat} (C : aCtx G p s m args meth c mm) (hw : Cond.classLink mm.1.cls ix Cn ∈ aBIG) (hao : va_AO Cn s) (ht : (aTys G)[t]? = some (G.2 (t + 1), .object Cn)) (hnn : ¬ n < 0) (hN : n.toNatClampNeg = N) (hbytes : N * 4 ≤ 536870912) (hcells : cells + 1 ≤ R.cells) (hslots : slots + N ≤ R.slots) (hr : aR0 G x H) (hS : va_S (aA G) s.heap H locs) (hmax : x.2 + 1 ≤ 1000000) (hd : decode mm.2.1 pc = .ok (.anewarray ix, 3))
    (kk : ∀ H1 : Heap, aR0 G (va_up x.1 x.2 (.inl (t + 1, N, .inr (.inr (.inr (.inr (fun _ => none)))))), x.2 + 1) H1 → va_S (aA G) s.heap H1 locs → W p l e R s m args below meth c H1 locs (cells + 1) (slots + N) QQ (F0 m (pc + 3) arr (.ref (aLoc G x.2) :: rest))) : W p l e R s m args below meth c H locs cells slots QQ (F0 m pc arr (.int n :: rest)) := by
  subst hN
  refine W.anew C.hx C.hb C.hown (C.hts _ hw) (va_AO.use hao) rfl hd rfl hnn hbytes hcells hslots fun cA kA comp f1 f2 f3 f4 => ?_
  generalize hH1 : H.push ({ cls := cA, slots := Array.replicate n.toNatClampNeg .null, vm := .none } : Cell) = H1
  have z1 : H1.size = H.size + 1 := by rw [← hH1, Array.size_push]
  have e1 : H1[H.size]? = some (arrV cA n.toNatClampNeg (fun _ => .null)) := by rw [← hH1, Array.getElem?_push_size, ← arrV_new]
  have o1 : ∀ q : Nat, q < H.size → H1[q]? = H[q]? := fun q hq => by rw [← hH1, Array.getElem?_push, if_neg (Nat.ne_of_lt hq)]
  have hcA : cA = G.2 (t + 1) := by
    obtain ⟨kA2, comp2, k1, k2, k3, k4⟩ := (C.K.2 t _ ht).2
    exact Option.some.inj (f1.symm.trans k4)
  subst hcA
  have k := kk H1 (hr.push hmax (by show H1[H.size]? = some (vp_cell _ _); rw [vp_cell_q]; exact e1) z1 o1) (hS.push2 z1 o1)
  rw [aLoc_lt (by omega), ← hr.1] at k
  exact k
theorem w_new {ci N ix : Nat} {Cn : String} {T : u_T} {fs : List Value} {tyf : Nat → FieldType} (C : aCtx G p s m args meth c mm) (hC : aCl ci Cn T N) (hw : Cond.classLink mm.1.cls ix Cn ∈ aBIG) (hi : Cond.instantiable Cn N ∈ aBIG) (hini : Cond.initialized Cn ∈ aBIG) (hty : ∀ j, j < N → parseFieldDescriptor (T j).2.2.1 = some (tyf j)) (hfs : ∀ j, j < N → defaultValue (tyf j) = vp_V (fs.map (aV G)) j) (hcells : cells + 1 ≤ R.cells) (hslots : slots + N ≤ R.slots) (hr : aR0 G x H) (hS : va_S (aA G) s.heap H locs) (hmax : x.2 + 1 ≤ 1000000) (hd : decode mm.2.1 pc = .ok (.new ix, 3))
    (kk : ∀ H1 : Heap, aR0 G (va_up x.1 x.2 (.inr (ci, fs)), x.2 + 1) H1 → va_S (aA G) s.heap H1 locs → W p l e R s m args below meth c H1 locs (cells + 1) (slots + N) QQ (F0 m (pc + 3) arr (.ref (aLoc G x.2) :: rest))) : W p l e R s m args below meth c H locs cells slots QQ (F0 m pc arr rest) := by
  have hKn := C.K.1 ci _ hC.1
  refine W.newcK C.hx C.hb C.hown (C.hts _ hw) (C.hts _ hi) (C.hts _ hini) rfl hd hcells hslots hKn.2.1 rfl fun H1 kC hkC e1 z1 o1 => ?_
  have k := kk H1 (hr.push hmax ⟨_, hC.1, (u_born tyf C.hts hC.2 hKn hkC e1 hty).to hfs⟩ z1 o1) (hS.push2 z1 o1)
  rw [aLoc_lt (by omega), ← hr.1] at k
  exact k
theorem w_copy {ix a a0 n0 n1 : Nat} {f g : Nat → Int32} {sp dp n : Int32} (C : aCtx G p s m args meth c mm) (hsz : arr.size = c.maxLocals) (hw : Cond.methodLink mm.1.cls ix arraycopyName ∈ aBIG) (hnat : Cond.native arraycopyName ∈ aBIG) (hstat : Cond.static arraycopyName ∈ aBIG) (hini : Cond.initialized "java/lang/System" ∈ aBIG) (hr : aR0 G x H) (hS : va_S (aA G) s.heap H locs) (h0 : a0 < x.2) (he0 : x.1 a0 = .inl (1, n0, .inl f)) (ha : a < x.2) (he : x.1 a = .inl (1, n1, .inl g))
    (h1 : ¬ sp < 0) (h2 : ¬ dp < 0) (h3 : ¬ n < 0) (h4 : sp.toNatClampNeg + n.toNatClampNeg ≤ n0) (h5 : dp.toNatClampNeg + n.toNatClampNeg ≤ n1) (hframes : 1 ≤ R.frames) (hlocals : (rest.map fun v => v.category).sum + (nativeFrameWords "java/lang/System" "arraycopy" 5 + 11) ≤ R.locals) (hd : decode mm.2.1 pc = .ok (.invokestatic ix, 3))
    (kk : ∀ (H1 : Heap) (locs1 : List Loc), aR0 G (va_up x.1 a (.inl (1, n1, .inl (va_cpy f g sp.toNatClampNeg dp.toNatClampNeg n.toNatClampNeg))), x.2) H1 → va_S (aA G) s.heap H1 locs1 → W p l e R s m args below meth c H1 locs1 cells slots QQ (F0 m (pc + 3) arr rest)) : W p l e R s m args below meth c H locs cells slots QQ (F0 m pc arr (.int n :: .int dp :: .ref (aLoc G a) :: .int sp :: .ref (aLoc G a0) :: rest)) := by
  have nn : ∀ z : Int32, ¬ z < 0 → z.toInt = (z.toNatClampNeg : Int) := by
    intro z hz
    have hz0 : (0 : Int) ≤ z.toInt := by
      have := Int32.not_lt.mp hz
      simpa using Int32.le_iff_toInt_le.mp this
    show z.toInt = ((z.toInt.toNat : Nat) : Int)
    omega
  have hat0 := hr.at h0
  rw [he0] at hat0
  have hat := hr.at ha
  rw [he] at hat
  intro T hT X
  have hc0 : H[aLoc G a0]? = some (vp_cell (G.2 1) (n0, .inl f)) := hat0
  have hc1 : H[aLoc G a]? = some (vp_cell (G.2 1) (n1, .inl g)) := hat
  obtain ⟨-, k0, hk0, cm0, hkk0⟩ := (C.K.2 0 _ rfl).1 n0 (fun j => .int (f j))
  obtain ⟨-, k1, hk1, cm1, hkk1⟩ := (C.K.2 0 _ rfl).1 n1 (fun j => .int (g j))
  obtain ⟨vm', X', step⟩ := X.arraycopy C.hx C.hown (C.hts _ hw) (C.hts _ hnat) (C.hts _ hstat) (C.hts _ hini) (src := aLoc G a0) (dst := aLoc G a) (cs := vp_cell (G.2 1) (n0, .inl f)) (cd := vp_cell (G.2 1) (n1, .inl g)) (srcPos := sp) (destPos := dp) (n := n) (by rw [hT]; exact hc0) (by rw [hT]; exact hc1)
    (fun _ h => by cases h) (fun _ h => by cases h) (fun h => by cases h) (fun h => by cases h) hk0 hk1 hkk0 hkk1 (by simp [refKind]) h1 h2 h3
    (by rw [nn sp h1, nn n h3]; show ¬ _ > ((arrV (G.2 1) n0 (fun j => .int (f j))).slots.size : Int); rw [arrV_size]; omega)
    (by rw [nn dp h2, nn n h3]; show ¬ _ > ((arrV (G.2 1) n1 (fun j => .int (g j))).slots.size : Int); rw [arrV_size]; omega)
    (fun vm₁ _ i hi => by
      have e : (vp_cell (G.2 1) (n0, .inl f)).slots.getD (sp.toNatClampNeg + i) .null = .int (f (sp.toNatClampNeg + i)) := by
        show (arrV (G.2 1) n0 (fun j => .int (f j))).slots.getD _ _ = _
        rw [Array.getD_eq_getD_getElem?, arrV_read _ _ (by omega)]
        rfl
      refine ⟨?_, ?_⟩
      · rw [e]; rfl
      · rw [e]
        exact trivial)
    (g := F0 m pc arr (.int n :: .int dp :: .ref (aLoc G a) :: .int sp :: .ref (aLoc G a0) :: rest)) rfl (by exact hsz) (rest := rest) rfl (by rw [C.hb]; exact hd) hframes (by show 2 * 0 + _ + _ ≤ _; omega)
  have e1 : copied (vp_cell (G.2 1) (n0, .inl f)) (vp_cell (G.2 1) (n1, .inl g)) sp dp n = vp_cell (G.2 1) (n1, .inl (va_cpy f g sp.toNatClampNeg dp.toNatClampNeg n.toNatClampNeg)) := va_copied (fun z => .int z) (G.2 1) (G.2 1) f g h4
  rw [e1] at X' step
  have hl : aLoc G a < H.size := (Array.getElem?_eq_some_iff.mp hc1).1
  have hheap : ((T.setVm vm').setCell (aLoc G a) (vp_cell (G.2 1) (n1, .inl (va_cpy f g sp.toNatClampNeg dp.toNatClampNeg n.toNatClampNeg)))).heap = H.setIfInBounds (aLoc G a) (vp_cell (G.2 1) (n1, .inl (va_cpy f g sp.toNatClampNeg dp.toNatClampNeg n.toNatClampNeg))) := by rw [← hT]; rfl
  have oq : ∀ q : Nat, q ≠ aLoc G a → (H.setIfInBounds (aLoc G a) (vp_cell (G.2 1) (n1, .inl (va_cpy f g sp.toNatClampNeg dp.toNatClampNeg n.toNatClampNeg))))[q]? = H[q]? := fun q hq => by simp [Array.getElem?_setIfInBounds, Ne.symm hq]
  obtain ⟨t, a1, b1⟩ := kk _ _ (hr.set ha (show (H.setIfInBounds (aLoc G a) _)[aLoc G a]? = some _ by simp [Array.getElem?_setIfInBounds, hl]) (by simp) oq) ⟨by simp; exact hS.1, fun q g1 g2 => by
      rw [oq q (fun e => g2 (by rw [e]; exact aLoc_ge hr ha))]
      exact hS.2.1 q g1 g2, fun q hq => by
      rcases List.mem_append.mp hq with h | h
      · exact hS.2.2 q h
      · obtain ⟨z, -, hz⟩ := List.mem_map.mp h
        rw [← hz]
        exact aLoc_ge hr ha⟩ _ hheap X'
  exact ⟨t, step t a1, b1⟩
end AM3
