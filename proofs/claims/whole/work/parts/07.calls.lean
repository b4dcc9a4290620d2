/-! calls: a method's contract over the abstract machine, and how a call uses it -/
def aWs (mm : aMM) : List Cond := Cond.code mm.1 mm.2.1 mm.2.2.1 mm.2.2.2 :: aBIG
def aRm (d mc ms : Nat) : Room := { frames := d + 2, cells := mc, slots := ms, locals := 40 * d + 60 }
def aQc {μ : Type} (rep : μ → Heap → Prop) (G : aG) (Q : Option Value → μ → Prop) : Array Value → State → Outcome → State → Prop := fun _ st o t => (∃ (v : Option Value) (x : μ), o = .returned (v.map (aV G)) ∧ Q v x ∧ rep x t.heap) ∧ va_F (aA G) st t
/-- called with av over the memory x the method ends, with Q of its answer and the memory then; it makes at most mc cells of ms slots -/
def aC {μ : Type} (rep : μ → Heap → Prop) (G : aG) (l : Launch) (d : Nat) (mc ms : Nat) (mm : aMM) (av : List Value) (x : μ) (Q : Option Value → μ → Prop) : Prop :=
  Met l mm.1 (aWs mm) (aRm d mc ms) (va_Pc (av.map (aV G)) (fun U => aOk G U ∧ rep x U.heap)) (aQc rep G Q) mc ms (aA G)
def aFlat : List Value → List Value
  | [] => []
  | v :: l => if v.category = 2 then v :: aU :: aFlat l else v :: aFlat l
def aEnt (N : Nat) (av : List Value) : List Value := aFlat av ++ List.replicate (N - (aFlat av).length) aU
theorem aFlat_len (G : aG) : ∀ av : List Value, (lg_sl (av.map (aV G))).length = (aFlat av).length
  | [] => rfl
  | v :: l => by
    have ih := aFlat_len G l
    unfold lg_sl at ih ⊢
    simp only [List.map_cons, List.flatMap_cons, List.length_append, aV_cat, aFlat]
    by_cases h : v.category = 2
    · rw [if_pos h, if_pos h]
      simp only [List.length_cons, List.length_nil]
      omega
    · rw [if_neg h, if_neg h]
      simp only [List.length_cons, List.length_nil]
      omega
theorem aFlat_args (G : aG) : ∀ (av : List Value) (k i : Nat) (v : Value), (aFlat av)[i]? = some v → v ≠ aU → (k + i, aV G v) ∈ lv_args k (av.map (aV G))
  | [], k, i, v, h, _ => by simp [aFlat] at h
  | w :: l, k, i, v, h, hv => by
    simp only [List.map_cons, lv_args, aV_cat]
    by_cases hc : w.category = 2
    · simp only [aFlat, if_pos hc] at h
      rw [if_pos hc]
      match i, h with
      | 0, h => simp at h; subst h; exact List.mem_cons_self
      | 1, h => simp at h; exact absurd h.symm hv
      | i + 2, h =>
        simp only [List.getElem?_cons_succ] at h
        have := aFlat_args G l (k + 2) i v h hv
        rw [show k + (i + 2) = k + 2 + i by omega]
        exact List.mem_cons_of_mem _ this
    · simp only [aFlat, if_neg hc] at h
      rw [if_neg hc]
      match i, h with
      | 0, h => simp at h; subst h; exact List.mem_cons_self
      | i + 1, h =>
        simp only [List.getElem?_cons_succ] at h
        have := aFlat_args G l (k + 1) i v h hv
        rw [show k + (i + 1) = k + 1 + i by omega]
        exact List.mem_cons_of_mem _ this
theorem aEnt_LR (G : aG) {N : Nat} {av : List Value} (h : (aFlat av).length ≤ N) : aLR G N (aEnt N av) ((lg_sl (av.map (aV G)) ++ List.replicate (N - (lg_sl (av.map (aV G))).length) Slot.unset).toArray) := by
  have hl := lv_entry (av.map (aV G)) (n := N) (by rw [aFlat_len]; exact h)
  have hlen : (aEnt N av).length = N := by
    unfold aEnt
    rw [List.length_append, List.length_replicate]
    omega
  refine ⟨⟨hl.1.trans hlen.symm, hl.2.1, fun i v hi hv => ?_⟩, hlen⟩
  have hm : (aFlat av)[i]? = some v := by
    unfold aEnt at hi
    rcases Nat.lt_or_ge i (aFlat av).length with q | q
    · rw [List.getElem?_append_left q] at hi
      exact hi
    · rw [List.getElem?_append_right q] at hi
      rw [List.getElem?_replicate] at hi
      split at hi
      · exact absurd (Option.some.inj hi).symm hv
      · cases hi
  have := hl.2.2 _ (aFlat_args G av 0 i v hm hv)
  rw [Nat.zero_add] at this
  exact this
theorem goodIn_big {w : Cond} (h : w ∈ aBIG) : w ∈ aBIG ∧ ((w.onTables && w.keeps) = true ∨ ∃ ty, w = .arrayClass ty) := ⟨h, good_of_word (aBig_good h)⟩
theorem goodIn_ws {mm : aMM} (h : Cond.code mm.1 mm.2.1 mm.2.2.1 mm.2.2.2 ∈ aBIG) : GoodIn aBIG (aWs mm) := by
  intro w hw
  rcases List.mem_cons.mp hw with rfl | hw
  · exact goodIn_big h
  · exact goodIn_big hw
section AM5
variable {μ : Type} {rep : μ → Heap → Prop} {G : aG} {l : Launch}
theorem aC.intro {d mc ms : Nat} {mm : aMM} {av ls : List Value} {x : μ} {Q : Option Value → μ → Prop} (hpl : plainName mm.1.cls = true) (hlen : (aFlat av).length ≤ mm.2.2.1) (hls : aEnt mm.2.2.1 av = ls) (h : aT rep G l d mm mc ms Q 0 ls [] x) : aC rep G l d mc ms mm av x Q := by
  subst hls
  refine Met.ofW (cc := mm.2.1) (maxL := mm.2.2.1) (ret := mm.2.2.2) hpl rfl ?_
  intro p e s m args below meth c s₁ B hml hv
  obtain ⟨rfl, hok, hrep⟩ := hv
  have hts := atoms_spec (ws := aWs mm) B.pre
  have hown : s.vm.findClass mm.1.cls = some m.cls := findClass_of_methodNamed B.named
  have C : aCtx G p s m (av.map (aV G)).toArray meth c mm := ⟨B.exec, B.bytes, B.returns, hml, hown, fun w hw => hts w (List.mem_cons_of_mem _ hw), B.notSynchronized, (name_of_methodNamed B.named B.method).1, hok⟩
  rw [lg_entry_eq]
  refine h p e (aRm d mc ms) s m (av.map (aV G)).toArray below meth c _ ⟨C, ⟨Nat.le_refl _, Nat.le_refl _⟩, ?_⟩ s.heap [] _ 0 0 ⟨by show 0 + mc ≤ mc; omega, by show 0 + ms ≤ ms; omega, hrep, va_S.rf⟩ (aEnt_LR G hlen)
  intro v y H locs cells slots pc arr hq hp
  have hc : cells ≤ mc := hp.1
  have hs : slots ≤ ms := hp.2.1
  match v with
  | none =>
    intro hr hd
    exact W.widen hc hs (W.vret B.exec B.bytes (B.returns.trans hr) (fun t ht hW => ⟨⟨none, y, rfl, hq, by rw [ht]; exact hp.2.2.1⟩, hp.2.2.2.F ht⟩) hp.2.2.2.2.2 hd B.notSynchronized)
  | some (.int a) =>
    intro hr hd
    obtain ⟨ty, hr, hn⟩ := hr
    exact W.widen hc hs (W.zret B.exec B.bytes (B.returns.trans hr) hn (fun t ht hW => ⟨⟨some (.int a), y, rfl, hq, by rw [ht]; exact hp.2.2.1⟩, hp.2.2.2.F ht⟩) hp.2.2.2.2.2 hd B.notSynchronized)
  | some (.long a) =>
    intro hr hd
    exact W.widen hc hs (W.lret B.exec B.bytes (B.returns.trans hr) (fun t ht hW => ⟨⟨some (.long a), y, rfl, hq, by rw [ht]; exact hp.2.2.1⟩, hp.2.2.2.F ht⟩) hp.2.2.2.2.2 hd B.notSynchronized)
  | some (.ref a) =>
    intro hr hd
    obtain ⟨Cn, hr⟩ := hr
    exact W.widen hc hs (W.aret B.exec B.bytes (B.returns.trans hr) (Or.inl ⟨_, rfl⟩) (Or.inr ⟨_, rfl⟩) (fun t ht hW => ⟨⟨some (.ref a), y, rfl, hq, by rw [ht]; exact hp.2.2.1⟩, hp.2.2.2.F ht⟩) hp.2.2.2.2.2 hd B.notSynchronized)
  | some .null =>
    intro hr hd
    obtain ⟨Cn, hr⟩ := hr
    exact W.widen hc hs (W.aret B.exec B.bytes (B.returns.trans hr) (Or.inl ⟨_, rfl⟩) (Or.inl rfl) (fun t ht hW => ⟨⟨some .null, y, rfl, hq, by rw [ht]; exact hp.2.2.1⟩, hp.2.2.2.F ht⟩) hp.2.2.2.2.2 hd B.notSynchronized)
  | some (.float _) => trivial
  | some (.double _) => trivial
  | some (.retAddr _) => trivial
def aPush : Option Value → List Value → List Value
  | none, r => r
  | some v, r => v :: r
theorem aPush_map (G : aG) (v : Option Value) (r : List Value) : (aPush v r).map (aV G) = (v.map (aV G)).toList ++ r.map (aV G) := by cases v <;> rfl
theorem a_run {p : Program} {e : Env} {R : Room} {s : State} {m : MethodId} {args : Array Value} {below : List Frame} {meth : Method} {cd : Code} {H : Heap} {locs : List Loc} {cells slots mc ms pc : Nat} {arr : Array Slot} {st0 rest : List Value} {QQ : State → Prop} {Q' : Option Value → μ → Prop} {a : Array Value} (hr : va_Run p l e R s m args below meth cd H locs cells slots mc ms (F0 m pc arr st0) rest (aQc rep G Q' a) (aA G)) (hS : va_S (aA G) s.heap H locs)
    (kk : ∀ (v : Option Value) (x : μ) (H1 : Heap) (locs1 : List Loc), Q' v x → rep x H1 → va_S (aA G) s.heap H1 locs1 → W p l e R s m args below meth cd H1 locs1 (cells + mc) (slots + ms) QQ (F0 m (pc + 3) arr ((v.map (aV G)).toList ++ rest))) : W p l e R s m args below meth cd H locs cells slots QQ (F0 m pc arr st0) := by
  intro T hT X
  obtain ⟨v, st₀, t, T', L, h0, X', hL, e1, e2, ⟨⟨v2, x, hv, hq, hrep⟩, hz, hk⟩, st⟩ := hr T hT X
  cases hv
  rw [h0] at hz hk
  obtain ⟨t2, a1, b1⟩ := kk v2 x T'.heap (locs ++ L) hq (by rw [e1]; exact hrep)
    ⟨Nat.le_trans hS.1 (by rw [e1]; exact hz), fun q h1 h2 => by rw [e1, hk q (Nat.lt_of_lt_of_le h1 hS.1) h2]; exact hS.2.1 q h1 h2, fun q hq => by
      rcases List.mem_append.mp hq with h | h
      · exact hS.2.2 q h
      · exact hL q h⟩ T' rfl X'
  exact ⟨t2, st t2 a1, b1⟩
theorem a_blind {av : List Value} {x : μ} : FrameBlind (va_Pc (av.map (aV G)) (fun U => aOk G U ∧ rep x U.heap)) := fun a U g mk q => ⟨q.1, aOk.calling g mk a q.2.1, q.2.2⟩
variable {d : Nat} {mm : aMM} {c b : Nat} {Q : Option Value → μ → Prop} {pc : Nat} {K : aP μ}
/-- how a callee is known: its code among the words, its parameters, its locals few -/
def aKnown (mm' : aMM) (n : Nat) : Prop := Cond.code mm'.1 mm'.2.1 mm'.2.2.1 mm'.2.2.2 ∈ aBIG ∧ Cond.initialized mm'.1.cls ∈ aBIG ∧ (mm'.1.cls ≠ "java/lang/invoke/MethodHandle" ∧ mm'.1.cls ≠ "java/lang/invoke/VarHandle" ∧ (parseMethodDescriptor mm'.1.desc).map (fun d => d.parameters.length) = some n) ∧ mm'.2.2.1 ≤ 21
def i_call (cc : aMM → List Value → μ → (Option Value → μ → Prop) → Prop) (mm' : aMM) (n : Nat) (K : aP μ) : aP μ := fun ls st x => (n ≤ st.length ∧ ((st.drop n).map fun v => v.category).sum ≤ 8) ∧ cc mm' (st.take n).reverse x (fun v y => K ls (aPush v (st.drop n)) y)
theorem a_callS {d d2 mc ms ix n cells slots : Nat} {mm' : aMM} {R : Room} {p : Program} {e : Env} {s : State} {m : MethodId} {args : Array Value} {below : List Frame} {meth : Method} {cd : Code} {H : Heap} {locs : List Loc} {arr : Array Slot} {QQ : State → Prop} {As rest : List Value} {x : μ} {Q' : Option Value → μ → Prop} (C : aCtx G p s m args meth cd mm) (hR : d2 + 2 ≤ R.frames ∧ 40 * d2 + 60 ≤ R.locals) (hd2 : d + 1 ≤ d2) (hc : cells + mc ≤ R.cells ∧ slots + ms ≤ R.slots) (hrep : rep x H) (hS : va_S (aA G) s.heap H locs) (hsz : arr.size = mm.2.2.1) (hn : As.length = n) (hcat : (rest.map fun v => v.category).sum ≤ 8)
    (hk : aKnown mm' n) (hw : Cond.methodLink mm.1.cls ix mm'.1 ∈ aBIG) (hst : Cond.static mm'.1 ∈ aBIG) (hM : aC rep G l d mc ms mm' As x Q') (hd : decode mm.2.1 pc = .ok (.invokestatic ix, 3))
    (kk : ∀ (v : Option Value) (y : μ) (H1 : Heap) (locs1 : List Loc), Q' v y → rep y H1 → va_S (aA G) s.heap H1 locs1 → W p l e R s m args below meth cd H1 locs1 (cells + mc) (slots + ms) QQ (F0 m (pc + 3) arr ((aPush v rest).map (aV G)))) : W p l e R s m args below meth cd H locs cells slots QQ (F0 m pc arr ((As.reverse ++ rest).map (aV G))) := by
  refine a_run (rest := rest.map (aV G)) (va_runS (As := As.map (aV G)) (ws := aWs mm') (rm := aRm d mc ms) ⟨C.hx, C.hb, C.ml, C.hown, C.hts⟩ hM (va_cwS n C.hts (fun w h => ?_) rfl rfl rfl hk.2.2.1 ⟨by show d + 2 + 1 ≤ _; omega, by show 8 + (mm'.2.2.1 + 11) + (40 * d + 60) ≤ _; have := hk.2.2.2; omega⟩) ⟨a_blind, fun U hU hW => ⟨rfl, aOk.entry C.ok hS hU hW, by rw [hU]; exact hrep⟩⟩ rfl (by rw [List.length_map]; exact hn) hsz (by rw [List.map_append, List.map_reverse]) ?_ hd hc) hS (fun v y H1 locs1 hq hr1 hS1 => ?_)
  · rcases List.mem_append.mp h with h | h
    · simp only [List.mem_cons, List.not_mem_nil, or_false] at h
      rcases h with rfl | rfl | rfl
      · exact goodIn_big hw
      · exact goodIn_big hst
      · exact goodIn_big hk.2.1
    · exact goodIn_ws hk.1 w h
  · rw [aV_sum]
    show 2 * 0 + _ ≤ 8
    omega
  · rw [← aPush_map]
    exact kk v y H1 locs1 hq hr1 hS1
theorem a_callV {d d2 mc ms ix n cells slots a : Nat} {mm' : aMM} {R : Room} {p : Program} {e : Env} {s : State} {m : MethodId} {args : Array Value} {below : List Frame} {meth : Method} {cd : Code} {H : Heap} {locs : List Loc} {arr : Array Slot} {QQ : State → Prop} {As rest : List Value} {x : μ} {Q' : Option Value → μ → Prop} (C : aCtx G p s m args meth cd mm) (hR : d2 + 2 ≤ R.frames ∧ 40 * d2 + 60 ≤ R.locals) (hd2 : d + 1 ≤ d2) (hc : cells + mc ≤ R.cells ∧ slots + ms ≤ R.slots) (hrep : rep x H) (hS : va_S (aA G) s.heap H locs) (hsz : arr.size = mm.2.2.1) (hn : As.length = n) (hcat : (rest.map fun v => v.category).sum ≤ 8)
    (hk : aKnown mm' n) (hw : Cond.methodLink mm.1.cls ix mm'.1 ∈ aBIG) (hst : Cond.instanceMethod mm'.1 ∈ aBIG) (hse : Cond.selects mm'.1.cls mm'.1 mm'.1 ∈ aBIG) (hrc : ∃ cellB : Cell, H[aLoc G a]? = some cellB ∧ cellB.vm.isStatics = false ∧ s.vm.findClass mm'.1.cls = some cellB.cls) (hM : aC rep G l d mc ms mm' (.ref a :: As) x Q') (hd : decode mm.2.1 pc = .ok (.invokevirtual ix, 3))
    (kk : ∀ (v : Option Value) (y : μ) (H1 : Heap) (locs1 : List Loc), Q' v y → rep y H1 → va_S (aA G) s.heap H1 locs1 → W p l e R s m args below meth cd H1 locs1 (cells + mc) (slots + ms) QQ (F0 m (pc + 3) arr ((aPush v rest).map (aV G)))) : W p l e R s m args below meth cd H locs cells slots QQ (F0 m pc arr ((As.reverse ++ .ref a :: rest).map (aV G))) := by
  refine a_run (rest := rest.map (aV G)) (va_runV (b := aLoc G a) (As := As.map (aV G)) (ws := aWs mm') (rm := aRm d mc ms) ⟨C.hx, C.hb, C.ml, C.hown, C.hts⟩ hM (cwV n C.hts (fun w h => ?_) rfl rfl rfl ⟨rfl, hk.2.2.1⟩ ⟨by show d + 2 + 1 ≤ _; omega, by show 8 + (mm'.2.2.1 + 11) + (40 * d + 60) ≤ _; have := hk.2.2.2; omega⟩) ⟨a_blind, hrc, fun U hU hW => ⟨rfl, aOk.entry C.ok hS hU hW, by rw [hU]; exact hrep⟩⟩ rfl (by rw [List.length_map]; exact hn) hsz (by rw [List.map_append, List.map_reverse]; rfl) ?_ hd hc) hS (fun v y H1 locs1 hq hr1 hS1 => ?_)
  · rcases List.mem_append.mp h with h | h
    · simp only [List.mem_cons, List.not_mem_nil, or_false] at h
      rcases h with rfl | rfl | rfl | rfl
      · exact goodIn_big hw
      · exact goodIn_big hst
      · exact goodIn_big hse
      · exact goodIn_big hk.2.1
    · exact goodIn_ws hk.1 w h
  · rw [aV_sum]
    show 2 * 0 + _ ≤ 8
    omega
  · rw [← aPush_map]
    exact kk v y H1 locs1 hq hr1 hS1
theorem a_callI {d d2 mc ms ix cells slots a : Nat} {mm' : aMM} {R : Room} {p : Program} {e : Env} {s : State} {m : MethodId} {args : Array Value} {below : List Frame} {meth : Method} {cd : Code} {H : Heap} {locs : List Loc} {arr : Array Slot} {QQ : State → Prop} {rest : List Value} {x : μ} {Q' : Option Value → μ → Prop} (C : aCtx G p s m args meth cd mm) (hR : d2 + 2 ≤ R.frames ∧ 40 * d2 + 60 ≤ R.locals) (hd2 : d + 1 ≤ d2) (hc : cells + mc ≤ R.cells ∧ slots + ms ≤ R.slots) (hrep : rep x H) (hS : va_S (aA G) s.heap H locs) (hsz : arr.size = mm.2.2.1) (hcat : (rest.map fun v => v.category).sum ≤ 8)
    (hk : aKnown mm' 0) (hret : mm'.2.2.2 = none) (hinit : mm'.1.name = "<init>") (hw : Cond.methodLink mm.1.cls ix mm'.1 ∈ aBIG ∨ ∃ host, (mm.1.cls, ix, mm'.1, host) ∈ aNests) (hst : Cond.instanceMethod mm'.1 ∈ aBIG) (hM : aC rep G l d mc ms mm' [.ref a] x Q') (hd : decode mm.2.1 pc = .ok (.invokespecial ix, 3))
    (kk : ∀ (v : Option Value) (y : μ) (H1 : Heap) (locs1 : List Loc), Q' v y → rep y H1 → va_S (aA G) s.heap H1 locs1 → W p l e R s m args below meth cd H1 locs1 (cells + mc) (slots + ms) QQ (F0 m (pc + 3) arr ((aPush v rest).map (aV G)))) : W p l e R s m args below meth cd H locs cells slots QQ (F0 m pc arr ((.ref a :: rest).map (aV G))) := by
  have hws : aWs mm' = Cond.code mm'.1 mm'.2.1 mm'.2.2.1 none :: aBIG := by unfold aWs; rw [hret]
  have hRR : (aRm d mc ms).frames + 1 ≤ R.frames ∧ 8 + (mm'.2.2.1 + 11) + (aRm d mc ms).locals ≤ R.locals := ⟨by show d + 2 + 1 ≤ _; omega, by show 8 + (mm'.2.2.1 + 11) + (40 * d + 60) ≤ _; have := hk.2.2.2; omega⟩
  have hend : ∀ (v : Option Value) (y : μ) (H1 : Heap) (locs1 : List Loc), Q' v y → rep y H1 → va_S (aA G) s.heap H1 locs1 → W p l e R s m args below meth cd H1 locs1 (cells + mc) (slots + ms) QQ (F0 m (pc + 3) arr ((v.map (aV G)).toList ++ rest.map (aV G))) := by
    intro v y H1 locs1 hq hr1 hS1
    rw [← aPush_map]
    exact kk v y H1 locs1 hq hr1 hS1
  have hsum : 2 * (F0 m pc arr ((Value.ref a :: rest).map (aV G))).monitorRoom + ((rest.map (aV G)).map fun v => v.category).sum ≤ 8 := by
    rw [aV_sum]
    show 2 * 0 + _ ≤ 8
    omega
  rcases hw with hw | ⟨host, hw⟩
  · exact a_run (rest := rest.map (aV G)) (va_runI (b := aLoc G a) (As := []) (ws := aWs mm') (rm := aRm d mc ms) ⟨C.hx, C.hb, C.ml, C.hown, C.hts⟩ hM (cwI 0 C.hts (goodIn_ws hk.1) hws rfl rfl (C.hts _ hk.2.1) (C.hts _ hw) (C.hts _ hst) hinit hk.2.2.1 hRR) ⟨a_blind, fun U hU hW => ⟨rfl, aOk.entry C.ok hS hU hW, by rw [hU]; exact hrep⟩⟩ rfl rfl hsz rfl hsum hd hc) hS hend
  · exact a_run (rest := rest.map (aV G)) (va_runIN (host := host) (b := aLoc G a) (As := []) (ws := aWs mm') (rm := aRm d mc ms) ⟨C.hx, C.hb, C.ml, C.hown, C.hts⟩ hM ⟨va_cnB 0 C.hts (goodIn_ws hk.1) hws rfl rfl (C.ok.1.2.2.1 _ hw) (C.hts _ hk.2.1) hk.2.2.1 hRR, hinit, C.hts _ hst⟩ ⟨a_blind, fun U hU hW => ⟨rfl, aOk.entry C.ok hS hU hW, by rw [hU]; exact hrep⟩⟩ rfl rfl hsz rfl hsum hd hc) hS hend
theorem s_call {mc ms ix n : Nat} {mm' : aMM} (hk : aKnown mm' n) (hw : Cond.methodLink mm.1.cls ix mm'.1 ∈ aBIG) (hst : Cond.static mm'.1 ∈ aBIG) (hd : decode mm.2.1 pc = .ok (.invokestatic ix, 3)) (h : aS rep G l (d + 1) mm c b Q (pc + 3) K) : aS rep G l (d + 1) mm (c + mc) (b + ms) Q pc (i_call (aC rep G l d mc ms) mm' n K) := by
  intro ls st x hk2 p e R s m args below meth cd QQ P H locs arr cells slots hp hl
  obtain ⟨⟨h1, h2⟩, hM⟩ := hk2
  have e0 : st = (st.take n).reverse.reverse ++ st.drop n := by rw [List.reverse_reverse, List.take_append_drop]
  rw [e0]
  refine a_callS P.1 P.2.1 (Nat.le_refl _) ⟨by have := hp.1; omega, by have := hp.2.1; omega⟩ hp.2.2.1 hp.2.2.2 hl.size (by rw [List.length_reverse, List.length_take]; omega) h2 hk hw hst hM hd fun v y H1 locs1 hq hr1 hS1 => ?_
  exact h _ _ _ hq _ _ _ _ _ _ _ _ _ _ P _ _ _ _ _ ⟨by have := hp.1; omega, by have := hp.2.1; omega, hr1, hS1⟩ hl
def i_callI (cc : aMM → List Value → μ → (Option Value → μ → Prop) → Prop) (mm' : aMM) (K : aP μ) : aP μ
  | ls, .ref a :: r, x => (r.map fun v => v.category).sum ≤ 8 ∧ cc mm' [.ref a] x (fun v y => K ls (aPush v r) y)
  | _, _, _ => False
theorem s_callI {mc ms ix : Nat} {mm' : aMM} (hk : aKnown mm' 0) (hret : mm'.2.2.2 = none) (hinit : mm'.1.name = "<init>") (hw : Cond.methodLink mm.1.cls ix mm'.1 ∈ aBIG ∨ ∃ host, (mm.1.cls, ix, mm'.1, host) ∈ aNests) (hst : Cond.instanceMethod mm'.1 ∈ aBIG) (hd : decode mm.2.1 pc = .ok (.invokespecial ix, 3)) (h : aS rep G l (d + 1) mm c b Q (pc + 3) K) : aS rep G l (d + 1) mm (c + mc) (b + ms) Q pc (i_callI (aC rep G l d mc ms) mm' K) := by
  intro ls st x hk2 p e R s m args below meth cd QQ P H locs arr cells slots hp hl
  unfold i_callI at hk2
  split at hk2
  · obtain ⟨h2, hM⟩ := hk2
    refine a_callI P.1 P.2.1 (Nat.le_refl _) ⟨by have := hp.1; omega, by have := hp.2.1; omega⟩ hp.2.2.1 hp.2.2.2 hl.size h2 hk hret hinit hw hst hM hd fun v y H1 locs1 hq hr1 hS1 => ?_
    exact h _ _ _ hq _ _ _ _ _ _ _ _ _ _ P _ _ _ _ _ ⟨by have := hp.1; omega, by have := hp.2.1; omega, hr1, hS1⟩ hl
  · exact hk2.elim
/-- Object's own constructor, on any reference -/
def i_oinit (K : aP μ) : aP μ
  | ls, .ref a :: r, x => (r.map fun v => v.category).sum ≤ 8 ∧ K ls r x
  | _, _, _ => False
theorem s_oinit {ix : Nat} (hw : Cond.methodLink mm.1.cls ix Lib.objectInit ∈ aBIG) (hi : Cond.instanceMethod Lib.objectInit ∈ aBIG) (hc : Cond.code Lib.objectInit ⟨#[0xb1]⟩ 1 none ∈ aBIG) (hd : decode mm.2.1 pc = .ok (.invokespecial ix, 3)) (h : aS rep G l d mm c b Q (pc + 3) K) : aS rep G l d mm c b Q pc (i_oinit K) := by
  intro ls st x hk p e R s m args below meth cd QQ P H locs arr cells slots hp hl
  unfold i_oinit at hk
  split at hk
  · refine W.objInit P.1.hx P.1.hb P.1.hown (P.1.hts _ hw) (P.1.hts _ hi) (P.1.hts _ hc) rfl (by rw [P.1.ml]; exact hl.size) rfl hd (by have := P.2.1; omega) ?_ (h _ _ _ hk.2 _ _ _ _ _ _ _ _ _ _ P _ _ _ _ _ hp hl)
    rw [aV_sum]
    show 2 * 0 + _ + 12 ≤ _
    have := P.2.1
    have := hk.1
    omega
  · exact hk.elim
/-! Math.min, max, abs of ints -/
def i_min (K : aP μ) : aP μ
  | ls, .int y :: .int z :: r, x => (r.map fun v => v.category).sum ≤ 8 ∧ K ls (.int (if y < z then y else z) :: r) x
  | _, _, _ => False
def i_max (K : aP μ) : aP μ
  | ls, .int y :: .int z :: r, x => (r.map fun v => v.category).sum ≤ 8 ∧ K ls (.int (if z < y then y else z) :: r) x
  | _, _, _ => False
def i_abs (K : aP μ) : aP μ
  | ls, .int z :: r, x => (r.map fun v => v.category).sum ≤ 8 ∧ K ls (.int (if 0 ≤ z then z else 0 - z) :: r) x
  | _, _, _ => False
theorem s_min {ix : Nat} (hw : Cond.methodLink mm.1.cls ix Lib.Math.min.name ∈ aBIG) (hst : Cond.static Lib.Math.min.name ∈ aBIG) (hini : Cond.initialized "java/lang/Math" ∈ aBIG) (hco : Cond.code Lib.Math.min.name Lib.Math.min.code 2 (some .int) ∈ aBIG) (hd : decode mm.2.1 pc = .ok (.invokestatic ix, 3)) (h : aS rep G l d mm c b Q (pc + 3) K) : aS rep G l d mm c b Q pc (i_min K) := by
  intro ls st x hk p e R s m args below meth cd QQ P H locs arr cells slots hp hl
  unfold i_min at hk
  split at hk
  · refine va_mmin P.1.hx P.1.hb (P.1.ml.trans hl.size.symm) P.1.hown (P.1.hts _ hw) (P.1.hts _ hst) (P.1.hts _ hini) (P.1.hts _ hco) (by have := P.2.1; omega) ?_ hp.zero.1 hp.zero.2.1 hd (h _ _ _ hk.2 _ _ _ _ _ _ _ _ _ _ P _ _ _ _ _ hp hl)
    rw [aV_sum]
    have := P.2.1
    have := hk.1
    omega
  · exact hk.elim
theorem s_max {ix : Nat} (hw : Cond.methodLink mm.1.cls ix Lib.Math.max.name ∈ aBIG) (hst : Cond.static Lib.Math.max.name ∈ aBIG) (hini : Cond.initialized "java/lang/Math" ∈ aBIG) (hco : Cond.code Lib.Math.max.name Lib.Math.max.code 2 (some .int) ∈ aBIG) (hd : decode mm.2.1 pc = .ok (.invokestatic ix, 3)) (h : aS rep G l d mm c b Q (pc + 3) K) : aS rep G l d mm c b Q pc (i_max K) := by
  intro ls st x hk p e R s m args below meth cd QQ P H locs arr cells slots hp hl
  unfold i_max at hk
  split at hk
  · refine va_mmax P.1.hx P.1.hb (P.1.ml.trans hl.size.symm) P.1.hown (P.1.hts _ hw) (P.1.hts _ hst) (P.1.hts _ hini) (P.1.hts _ hco) (by have := P.2.1; omega) ?_ hp.zero.1 hp.zero.2.1 hd (h _ _ _ hk.2 _ _ _ _ _ _ _ _ _ _ P _ _ _ _ _ hp hl)
    rw [aV_sum]
    have := P.2.1
    have := hk.1
    omega
  · exact hk.elim
theorem s_abs {ix : Nat} (hw : Cond.methodLink mm.1.cls ix Lib.Math.abs.name ∈ aBIG) (hst : Cond.static Lib.Math.abs.name ∈ aBIG) (hini : Cond.initialized "java/lang/Math" ∈ aBIG) (hco : Cond.code Lib.Math.abs.name Lib.Math.abs.code 1 (some .int) ∈ aBIG) (hd : decode mm.2.1 pc = .ok (.invokestatic ix, 3)) (h : aS rep G l d mm c b Q (pc + 3) K) : aS rep G l d mm c b Q pc (i_abs K) := by
  intro ls st x hk p e R s m args below meth cd QQ P H locs arr cells slots hp hl
  unfold i_abs at hk
  split at hk
  · refine va_mabs P.1.hx P.1.hb (P.1.ml.trans hl.size.symm) P.1.hown (P.1.hts _ hw) (P.1.hts _ hst) (P.1.hts _ hini) (P.1.hts _ hco) (by have := P.2.1; omega) ?_ hp.zero.1 hp.zero.2.1 hd (h _ _ _ hk.2 _ _ _ _ _ _ _ _ _ _ P _ _ _ _ _ hp hl)
    rw [aV_sum]
    have := P.2.1
    have := hk.1
    omega
  · exact hk.elim
/-! String constants' fields and bytes, by names 1000100 + i and 1000200 + i -/
theorem aLoc_str (G : aG) {i : Nat} : aLoc G (1000100 + i) = G.2 (100 + i) := by rw [aLoc, if_neg (by omega), show 1000100 + i - 1000000 = 100 + i by omega]
theorem aLoc_byt (G : aG) {i : Nat} : aLoc G (1000200 + i) = G.2 (200 + i) := by rw [aLoc, if_neg (by omega), show 1000200 + i - 1000000 = 200 + i by omega]
def aIsS (a : Nat) : Prop := 1000100 ≤ a ∧ a < 1000100 + aTxts.length
def aIsB (a : Nat) : Prop := 1000200 ≤ a ∧ a < 1000200 + aTxts.length
def aTxtB (a : Nat) : List Int32 := aTxt (a - 1000200)
theorem aIsS.ex {a : Nat} (h : aIsS a) : ∃ i, i < aTxts.length ∧ a = 1000100 + i := ⟨a - 1000100, by have := h.1; have := h.2; omega, by have := h.1; omega⟩
theorem aIsB.ex {a : Nat} (h : aIsB a) : ∃ i, i < aTxts.length ∧ a = 1000200 + i ∧ aTxtB a = aTxt i := ⟨a - 1000200, by have := h.1; have := h.2; omega, by have := h.1; omega, rfl⟩
def i_sval (K : aP μ) : aP μ
  | ls, .ref a :: r, x => aIsS a ∧ K ls (.ref (a + 100) :: r) x
  | _, _, _ => False
def i_scod (K : aP μ) : aP μ
  | ls, .ref a :: r, x => aIsS a ∧ K ls (.int 0 :: r) x
  | _, _, _ => False
def i_slen (K : aP μ) : aP μ
  | ls, .ref a :: r, x => aIsB a ∧ K ls (.int (nI (aTxtB a).length) :: r) x
  | _, _, _ => False
def i_sald (K : aP μ) : aP μ
  | ls, .int i :: .ref a :: r, x => (aIsB a ∧ vp_in i (aTxtB a).length) ∧ K ls (.int ((aTxtB a).getD i.toNatClampNeg 0) :: r) x
  | _, _, _ => False
theorem s_sval {ix : Nat} (hw : Cond.fieldLink mm.1.cls ix "java/lang/String" "value" "[B" ∈ aBIG) (hd : decode mm.2.1 pc = .ok (.getfield ix, 3)) (h : aS rep G l d mm c b Q (pc + 3) K) : aS rep G l d mm c b Q pc (i_sval K) := by
  intro ls st x hk p e R s m args below meth cd QQ P H locs arr cells slots hp hl
  unfold i_sval at hk
  split at hk
  · rename_i a r
    obtain ⟨h0, hk⟩ := hk
    obtain ⟨i, hi, rfl⟩ := h0.ex
    have k := h _ _ _ hk _ _ _ _ _ _ _ _ _ _ P _ _ _ _ _ hp hl
    simp only [List.map_cons, aV] at k ⊢
    rw [aLoc_str]
    rw [show 1000100 + i + 100 = 1000200 + i by omega, aLoc_byt] at k
    exact vk_getf P.1.hx P.1.hb (P.1.ok.2.1.1 i hi).2.2.1 hp.2.2.2 P.1.hown (P.1.hts _ hw) (fun _ h => h) hd k
  · exact hk.elim
theorem s_scod {ix : Nat} (hw : Cond.fieldLink mm.1.cls ix "java/lang/String" "coder" "B" ∈ aBIG) (hd : decode mm.2.1 pc = .ok (.getfield ix, 3)) (h : aS rep G l d mm c b Q (pc + 3) K) : aS rep G l d mm c b Q pc (i_scod K) := by
  intro ls st x hk p e R s m args below meth cd QQ P H locs arr cells slots hp hl
  unfold i_scod at hk
  split at hk
  · rename_i a r
    obtain ⟨h0, hk⟩ := hk
    obtain ⟨i, hi, rfl⟩ := h0.ex
    have k := h _ _ _ hk _ _ _ _ _ _ _ _ _ _ P _ _ _ _ _ hp hl
    simp only [List.map_cons, aV] at k ⊢
    rw [aLoc_str]
    exact vk_getf P.1.hx P.1.hb (P.1.ok.2.1.1 i hi).2.1 hp.2.2.2 P.1.hown (P.1.hts _ hw) (fun _ h => h) hd k
  · exact hk.elim
theorem s_slen (hd : decode mm.2.1 pc = .ok (.arraylength, 1)) (h : aS rep G l d mm c b Q (pc + 1) K) : aS rep G l d mm c b Q pc (i_slen K) := by
  intro ls st x hk p e R s m args below meth cd QQ P H locs arr cells slots hp hl
  unfold i_slen at hk
  split at hk
  · rename_i a r
    obtain ⟨h0, hk⟩ := hk
    obtain ⟨i, hi, rfl, et⟩ := h0.ex
    rw [et] at hk
    have k := h _ _ _ hk _ _ _ _ _ _ _ _ _ _ P _ _ _ _ _ hp hl
    simp only [List.map_cons, aV] at k ⊢
    rw [aLoc_byt]
    exact va_tlen P.1.hx P.1.hb (P.1.ok.2.1.1 i hi).2.2.2 hp.2.2.2 rfl hd k
  · exact hk.elim
theorem s_sald (hd : decode mm.2.1 pc = .ok (.baload, 1)) (h : aS rep G l d mm c b Q (pc + 1) K) : aS rep G l d mm c b Q pc (i_sald K) := by
  intro ls st x hk p e R s m args below meth cd QQ P H locs arr cells slots hp hl
  unfold i_sald at hk
  split at hk
  · rename_i i0 a r
    obtain ⟨⟨h0, hin⟩, hk⟩ := hk
    obtain ⟨i, hi, rfl, et⟩ := h0.ex
    rw [et] at hk hin
    have k := h _ _ _ hk _ _ _ _ _ _ _ _ _ _ P _ _ _ _ _ hp hl
    simp only [List.map_cons, aV] at k ⊢
    rw [aLoc_byt]
    exact va_tb P.1.hx P.1.hb (P.1.ok.2.1.1 i hi).2.2.2 hp.2.2.2 hin rfl hd k
  · exact hk.elim
theorem s_gsC {ix : Nat} (hw : Cond.fieldLink mm.1.cls ix "java/lang/String" "COMPACT_STRINGS" "Z" ∈ aBIG) (hd : decode mm.2.1 pc = .ok (.getstatic ix, 3)) (h : aS rep G l d mm c b Q (pc + 3) K) : aS rep G l d mm c b Q pc (i_c (.int 1) K) := by
  intro ls st x hk p e R s m args below meth cd QQ P H locs arr cells slots hp hl
  exact va_gets P.1.hx P.1.hb P.1.ok.2.1.2.1 hp.2.2.2 P.1.hown (P.1.hts _ hw) (fun _ h => h) hd (h _ _ _ hk _ _ _ _ _ _ _ _ _ _ P _ _ _ _ _ hp hl)
theorem s_gsF {ix : Nat} (hw : Cond.fieldLink mm.1.cls ix "jdk/internal/util/Preconditions" "SIOOBE_FORMATTER" "Ljava/util/function/BiFunction;" ∈ aBIG) (hd : decode mm.2.1 pc = .ok (.getstatic ix, 3)) (h : aS rep G l d mm c b Q (pc + 3) K) : aS rep G l d mm c b Q pc (i_c (.retAddr 0) K) := by
  intro ls st x hk p e R s m args below meth cd QQ P H locs arr cells slots hp hl
  exact va_gets P.1.hx P.1.hb P.1.ok.2.1.2.2 hp.2.2.2 P.1.hown (P.1.hts _ hw) (fun _ h => h) hd (h _ _ _ hk _ _ _ _ _ _ _ _ _ _ P _ _ _ _ _ hp hl)
/-- a call on a String constant -/
def i_callT (cc : aMM → List Value → μ → (Option Value → μ → Prop) → Prop) (mm' : aMM) (n : Nat) (K : aP μ) (ls st : List Value) (x : μ) : Prop := match st.drop n with
  | .ref a :: r => (aIsS a ∧ (r.map fun v => v.category).sum ≤ 8) ∧ cc mm' (.ref a :: (st.take n).reverse) x (fun v y => K ls (aPush v r) y)
  | _ => False
theorem a_split {st r : List Value} {n a : Nat} (h : st.drop n = .ref a :: r) : st = (st.take n).reverse.reverse ++ .ref a :: r ∧ ((st.take n).reverse).length = n := by
  refine ⟨by rw [List.reverse_reverse, ← h, List.take_append_drop], ?_⟩
  rw [List.length_reverse, List.length_take]
  have : n < st.length := by
    rcases Nat.lt_or_ge n st.length with q | q
    · exact q
    · rw [List.drop_eq_nil_of_le q] at h
      cases h
  omega
theorem s_callT {mc ms ix n : Nat} {mm' : aMM} (hk : aKnown mm' n) (hcl : mm'.1.cls = "java/lang/String") (hw : Cond.methodLink mm.1.cls ix mm'.1 ∈ aBIG) (hst : Cond.instanceMethod mm'.1 ∈ aBIG) (hse : Cond.selects mm'.1.cls mm'.1 mm'.1 ∈ aBIG) (hd : decode mm.2.1 pc = .ok (.invokevirtual ix, 3)) (h : aS rep G l (d + 1) mm c b Q (pc + 3) K) : aS rep G l (d + 1) mm (c + mc) (b + ms) Q pc (i_callT (aC rep G l d mc ms) mm' n K) := by
  intro ls st x hk2 p e R s m args below meth cd QQ P H locs arr cells slots hp hl
  unfold i_callT at hk2
  split at hk2
  · rename_i a r he
    obtain ⟨⟨g1, h2⟩, hM⟩ := hk2
    obtain ⟨e0, e1⟩ := a_split he
    rw [e0]
    refine a_callV P.1 P.2.1 (Nat.le_refl _) ⟨by have := hp.1; omega, by have := hp.2.1; omega⟩ hp.2.2.1 hp.2.2.2 hl.size e1 h2 hk hw hst hse ?_ hM hd fun v y H1 locs1 hq hr1 hS1 => ?_
    · obtain ⟨i, hi, rfl⟩ := g1.ex
      rw [aLoc_str, hcl]
      obtain ⟨cell, q1, q2, q3, -⟩ := (P.1.ok.2.1.1 i hi).1.kept hp.2.2.2.2.1
      exact ⟨cell, q1, q2, q3⟩
    · exact h _ _ _ hq _ _ _ _ _ _ _ _ _ _ P _ _ _ _ _ ⟨by have := hp.1; omega, by have := hp.2.1; omega, hr1, hS1⟩ hl
  · exact hk2.elim
theorem aC.mono {d mc ms : Nat} {mm : aMM} {av : List Value} {x : μ} {Q Q' : Option Value → μ → Prop} (h : aC rep G l d mc ms mm av x Q) (hq : ∀ v y, Q v y → Q' v y) : aC rep G l d mc ms mm av x Q' := by
  unfold aC Met MetFree at h ⊢
  first
    | exact h.weaken (fun _ _ _ _ z => ⟨⟨(by obtain ⟨⟨⟨v, y, a1, a2, a3⟩, a4⟩, _⟩ := z; exact ⟨v, y, a1, hq v y a2, a3⟩), z.1.2⟩, z.2⟩)
    | (intro p e ha hc hk s m args below hf happ hP hT
       obtain ⟨k, o, h1, h2, h3, ⟨⟨⟨v, y, a1, a2, a3⟩, a4⟩, a5⟩⟩ := h p e ha hc hk s m args below hf happ hP hT
       exact ⟨k, o, h1, h2, h3, ⟨⟨⟨v, y, a1, hq v y a2, a3⟩, a4⟩, a5⟩⟩)
end AM5
section AM6
variable {G : aG} {l : Launch} {d : Nat} {mm : aMM} {c b : Nat} {Q : Option Value → aM → Prop} {pc : Nat} {K : aP aM}
/-- a call on an object of class ci -/
def i_callV (ci : Nat) (cc : aMM → List Value → aM → (Option Value → aM → Prop) → Prop) (mm' : aMM) (n : Nat) (K : aP aM) (ls st : List Value) (x : aM) : Prop := match st.drop n with
  | .ref a :: r => ((sh a).1 = ci ∧ (r.map fun v => v.category).sum ≤ 8) ∧ cc mm' (.ref a :: (st.take n).reverse) x (fun v y => K ls (aPush v r) y)
  | _ => False
theorem s_callV {mc ms ix n ci N : Nat} {mm' : aMM} {T : u_T} (h7 : ci < 7) (hC : vwCl[ci]? = some (mm'.1.cls, T, N)) (hk : aKnown mm' n) (hw : Cond.methodLink mm.1.cls ix mm'.1 ∈ aBIG) (hst : Cond.instanceMethod mm'.1 ∈ aBIG) (hse : Cond.selects mm'.1.cls mm'.1 mm'.1 ∈ aBIG) (hd : decode mm.2.1 pc = .ok (.invokevirtual ix, 3)) (h : aS (aRS G) G l (d + 1) mm c b Q (pc + 3) K) : aS (aRS G) G l (d + 1) mm (c + mc) (b + ms) Q pc (i_callV ci (aC (aRS G) G l d mc ms) mm' n K) := by
  intro ls st x hk2 p e R s m args below meth cd QQ P H locs arr cells slots hp hl
  unfold i_callV at hk2
  split at hk2
  · rename_i a r he
    obtain ⟨⟨g1, h2⟩, hM⟩ := hk2
    obtain ⟨e0, e1⟩ := a_split he
    rw [e0]
    refine a_callV P.1 P.2.1 (Nat.le_refl _) ⟨by have := hp.1; omega, by have := hp.2.1; omega⟩ hp.2.2.1 hp.2.2.2 hl.size e1 h2 hk hw hst hse ?_ hM hd fun v y H1 locs1 hq hr1 hS1 => ?_
    · have hat : va_at G.1 vwCl (aLoc G a, aE G (ex x a)) H := hp.2.2.1.1.at (sh_lt g1 (by omega))
      have e2 : ex x a = .inr (ci, exF ci a (x.1 a)) := by rw [ex_kind g1, exC, if_pos h7]
      rw [e2] at hat
      obtain ⟨q', h1, cell, q1, q2, q3, -⟩ := hat
      have hq' : q' = (mm'.1.cls, T, N) := Option.some.inj (h1.symm.trans hC)
      subst hq'
      exact ⟨cell, q1, by rw [q3]; rfl, by rw [q2]; exact (P.1.K.1 ci _ hC).2.1⟩
    · exact h _ _ _ hq _ _ _ _ _ _ _ _ _ _ P _ _ _ _ _ ⟨by have := hp.1; omega, by have := hp.2.1; omega, hr1, hS1⟩ hl
  · exact hk2.elim
end AM6
