/-! instructions that read or write no cell: each a transformer of what is wanted, and why it is sound -/
section AM2
variable {μ : Type} {rep : μ → Heap → Prop} {G : aG} {l : Launch} {d : Nat} {mm : aMM} {c b : Nat} {Q : Option Value → μ → Prop} {pc : Nat} {K : aP μ}
def i_c (v : Value) (K : aP μ) : aP μ := fun ls st x => K ls (v :: st) x
theorem s_iconst {n : Int} {v : Int32} (hd : decode mm.2.1 pc = .ok (.iconst n, 1)) (hv : Int32.ofInt n = v) (h : aS rep G l d mm c b Q (pc + 1) K) : aS rep G l d mm c b Q pc (i_c (.int v) K) := by
  intro ls st x hk p e R s m args below meth cd QQ P H locs arr cells slots hp hl
  exact lv_iconst P.1.1 P.1.2.1 hd hv (h _ _ _ hk _ _ _ _ _ _ _ _ _ _ P _ _ _ _ _ hp hl)
theorem s_bipush {n : Int} {v : Int32} (hd : decode mm.2.1 pc = .ok (.bipush n, 2)) (hv : (Int8.ofInt n).toInt32 = v) (h : aS rep G l d mm c b Q (pc + 2) K) : aS rep G l d mm c b Q pc (i_c (.int v) K) := by
  intro ls st x hk p e R s m args below meth cd QQ P H locs arr cells slots hp hl
  exact lv_bipush P.1.1 P.1.2.1 hd hv (h _ _ _ hk _ _ _ _ _ _ _ _ _ _ P _ _ _ _ _ hp hl)
theorem s_sipush {n : Int} {v : Int32} (hd : decode mm.2.1 pc = .ok (.sipush n, 3)) (hv : (Int16.ofInt n).toInt32 = v) (h : aS rep G l d mm c b Q (pc + 3) K) : aS rep G l d mm c b Q pc (i_c (.int v) K) := by
  intro ls st x hk p e R s m args below meth cd QQ P H locs arr cells slots hp hl
  exact lv_sipush P.1.1 P.1.2.1 hd hv (h _ _ _ hk _ _ _ _ _ _ _ _ _ _ P _ _ _ _ _ hp hl)
theorem s_lconst {n : Fin 2} {v : Int64} (hd : decode mm.2.1 pc = .ok (.lconst n, 1)) (hv : Int64.ofNat (n : Nat) = v) (h : aS rep G l d mm c b Q (pc + 1) K) : aS rep G l d mm c b Q pc (i_c (.long v) K) := by
  intro ls st x hk p e R s m args below meth cd QQ P H locs arr cells slots hp hl
  exact lv_lconst P.1.1 P.1.2.1 hd hv (h _ _ _ hk _ _ _ _ _ _ _ _ _ _ P _ _ _ _ _ hp hl)
theorem s_null (hd : decode mm.2.1 pc = .ok (.aconst_null, 1)) (h : aS rep G l d mm c b Q (pc + 1) K) : aS rep G l d mm c b Q pc (i_c .null K) := by
  intro ls st x hk p e R s m args below meth cd QQ P H locs arr cells slots hp hl
  exact lv_null P.1.1 P.1.2.1 hd (h _ _ _ hk _ _ _ _ _ _ _ _ _ _ P _ _ _ _ _ hp hl)
theorem s_ldc {ix : Nat} {v : Int32} (hd : decode mm.2.1 pc = .ok (.ldc ix, 2)) (hw : Cond.constant mm.1.cls ix v ∈ aBIG) (h : aS rep G l d mm c b Q (pc + 2) K) : aS rep G l d mm c b Q pc (i_c (.int v) K) := by
  intro ls st x hk p e R s m args below meth cd QQ P H locs arr cells slots hp hl
  exact W.ldc P.1.1 P.1.2.1 P.1.2.2.2.2.1 (P.1.2.2.2.2.2.1 _ hw) rfl hd (h _ _ _ hk _ _ _ _ _ _ _ _ _ _ P _ _ _ _ _ hp hl)
theorem s_ldcw {ix : Nat} {v : Int32} (hd : decode mm.2.1 pc = .ok (.ldc_w ix, 3)) (hw : Cond.constant mm.1.cls ix v ∈ aBIG) (h : aS rep G l d mm c b Q (pc + 3) K) : aS rep G l d mm c b Q pc (i_c (.int v) K) := by
  intro ls st x hk p e R s m args below meth cd QQ P H locs arr cells slots hp hl
  exact lv_ldcw P.1.1 P.1.2.1 P.1.2.2.2.2.1 (P.1.2.2.2.2.2.1 _ hw) hd (h _ _ _ hk _ _ _ _ _ _ _ _ _ _ P _ _ _ _ _ hp hl)
theorem s_ldc2 {ix : Nat} {v : Int64} (hd : decode mm.2.1 pc = .ok (.ldc2_w ix, 3)) (hw : Cond.constantLong mm.1.cls ix v ∈ aBIG) (h : aS rep G l d mm c b Q (pc + 3) K) : aS rep G l d mm c b Q pc (i_c (.long v) K) := by
  intro ls st x hk p e R s m args below meth cd QQ P H locs arr cells slots hp hl
  exact W.ldc2 P.1.1 P.1.2.1 P.1.2.2.2.2.1 (P.1.2.2.2.2.2.1 _ hw) rfl hd (h _ _ _ hk _ _ _ _ _ _ _ _ _ _ P _ _ _ _ _ hp hl)
theorem s_ldcS {ix i : Nat} {tx : String} (hd : decode mm.2.1 pc = .ok (.ldc ix, 2)) (hw : (mm.1.cls, ix, tx, i) ∈ aLits) (h : aS rep G l d mm c b Q (pc + 2) K) : aS rep G l d mm c b Q pc (i_c (.ref (1000100 + i)) K) := by
  intro ls st x hk p e R s m args below meth cd QQ P H locs arr cells slots hp hl
  have hz := P.1.2.2.2.2.2.2.2.2.1.2.1 _ hw
  have e : aV G (.ref (1000100 + i)) = .ref (G.2 (100 + i)) := by
    show Value.ref (aLoc G (1000100 + i)) = _
    rw [aLoc, if_neg (by omega), show 1000100 + i - 1000000 = 100 + i by omega]
  refine va_ldcS P.1.1 P.1.2.1 P.1.2.2.2.2.1 hz hd ?_
  have k := h _ _ _ hk _ _ _ _ _ _ _ _ _ _ P _ _ _ _ _ hp hl
  rw [List.map_cons, e] at k
  exact k
def i_ildv (v : Value) (K : aP μ) (ls st : List Value) (x : μ) : Prop := match v with
  | .int a => K ls (.int a :: st) x
  | _ => False
def i_ild (i : Nat) (K : aP μ) : aP μ := fun ls st x => i_ildv (lget ls i) K ls st x
def i_lldv (v : Value) (K : aP μ) (ls st : List Value) (x : μ) : Prop := match v with
  | .long a => K ls (.long a :: st) x
  | _ => False
def i_lld (i : Nat) (K : aP μ) : aP μ := fun ls st x => i_lldv (lget ls i) K ls st x
def i_aldv (v : Value) (K : aP μ) (ls st : List Value) (x : μ) : Prop := match v with
  | .ref a => K ls (.ref a :: st) x
  | .null => K ls (.null :: st) x
  | .retAddr a => K ls (.retAddr a :: st) x
  | _ => False
def i_ald (i : Nat) (K : aP μ) : aP μ := fun ls st x => i_aldv (lget ls i) K ls st x
theorem lget_ne {ls : List Value} {i : Nat} {v : Value} (h : lget ls i = v) (hv : v ≠ aU) : lget ls i ≠ aU := by rw [h]; exact hv
theorem a_isRef (G : aG) (v : Value) (h : (∃ a, v = .ref a) ∨ v = .null ∨ ∃ a, v = .retAddr a) : aV G v = .null ∨ ∃ a, aV G v = .ref a := by
  rcases h with ⟨a, rfl⟩ | rfl | ⟨a, rfl⟩
  · exact Or.inr ⟨_, rfl⟩
  · exact Or.inl rfl
  · simp only [aV]
    split
    · exact Or.inl rfl
    · exact Or.inr ⟨_, rfl⟩
theorem s_iload_n {k : Fin 4} {i : Nat} (hd : decode mm.2.1 pc = .ok (.iload_n k, 1)) (hi : (k : Nat) = i) (h : aS rep G l d mm c b Q (pc + 1) K) : aS rep G l d mm c b Q pc (i_ild i K) := by
  intro ls st x hk p e R s m args below meth cd QQ P H locs arr cells slots hp hl
  unfold i_ild i_ildv at hk
  split at hk
  · rename_i v e
    have hz := hl.at (lget_ne e (by intro z; cases z))
    rw [e] at hz
    exact lv_iload_n P.1.1 P.1.2.1 hd hi hz (h _ _ _ hk _ _ _ _ _ _ _ _ _ _ P _ _ _ _ _ hp hl)
  · exact hk.elim
theorem s_lload_n {k : Fin 4} {i : Nat} (hd : decode mm.2.1 pc = .ok (.lload_n k, 1)) (hi : (k : Nat) = i) (h : aS rep G l d mm c b Q (pc + 1) K) : aS rep G l d mm c b Q pc (i_lld i K) := by
  intro ls st x hk p e R s m args below meth cd QQ P H locs arr cells slots hp hl
  unfold i_lld i_lldv at hk
  split at hk
  · rename_i v e
    have hz := hl.at (lget_ne e (by intro z; cases z))
    rw [e] at hz
    exact lv_lload_n P.1.1 P.1.2.1 hd hi hz (h _ _ _ hk _ _ _ _ _ _ _ _ _ _ P _ _ _ _ _ hp hl)
  · exact hk.elim
theorem s_aload_n {k : Fin 4} {i : Nat} (hd : decode mm.2.1 pc = .ok (.aload_n k, 1)) (hi : (k : Nat) = i) (h : aS rep G l d mm c b Q (pc + 1) K) : aS rep G l d mm c b Q pc (i_ald i K) := by
  intro ls st x hk p e R s m args below meth cd QQ P H locs arr cells slots hp hl
  have key : ∀ v : Value, lget ls i = v → ((∃ a, v = .ref a) ∨ v = .null ∨ ∃ a, v = .retAddr a) → K ls (v :: st) x → W p l e R s m args below meth cd H locs cells slots QQ (F0 m pc arr (st.map (aV G))) := by
    intro v e hr hk
    have hz := hl.at (lget_ne e (by rcases hr with ⟨a, rfl⟩ | rfl | ⟨a, rfl⟩ <;> (intro z; cases z)))
    rw [e] at hz
    have k := h _ _ _ hk _ _ _ _ _ _ _ _ _ _ P _ _ _ _ _ hp hl
    rw [List.map_cons] at k
    rcases a_isRef G v hr with e2 | ⟨a, e2⟩
    · subst hi
      rw [e2] at hz k
      intro T hT X
      obtain ⟨t, a1, b1⟩ := k T hT X
      refine ⟨t, ?_, b1⟩
      have hx := P.1.1
      have hb := P.1.2.1
      jvm_step X.here [X.here.top, hx, hb, hd, hz, Value.isRef]
      exact a1
    · rw [e2] at hz k
      exact lv_aload_n P.1.1 P.1.2.1 hd hi hz k
  unfold i_ald i_aldv at hk
  split at hk
  · rename_i v e; exact key _ e (Or.inl ⟨_, rfl⟩) hk
  · rename_i e; exact key _ e (Or.inr (Or.inl rfl)) hk
  · rename_i v e; exact key _ e (Or.inr (Or.inr ⟨_, rfl⟩)) hk
  · exact hk.elim
theorem s_iload {i : Nat} (hd : decode mm.2.1 pc = .ok (.iload i, 2)) (h : aS rep G l d mm c b Q (pc + 2) K) : aS rep G l d mm c b Q pc (i_ild i K) := by
  intro ls st x hk p e R s m args below meth cd QQ P H locs arr cells slots hp hl
  unfold i_ild i_ildv at hk
  split at hk
  · rename_i v e
    have hz := hl.at (lget_ne e (by intro z; cases z))
    rw [e] at hz
    exact lv_iload P.1.1 P.1.2.1 hd hz (h _ _ _ hk _ _ _ _ _ _ _ _ _ _ P _ _ _ _ _ hp hl)
  · exact hk.elim
theorem s_lload {i : Nat} (hd : decode mm.2.1 pc = .ok (.lload i, 2)) (h : aS rep G l d mm c b Q (pc + 2) K) : aS rep G l d mm c b Q pc (i_lld i K) := by
  intro ls st x hk p e R s m args below meth cd QQ P H locs arr cells slots hp hl
  unfold i_lld i_lldv at hk
  split at hk
  · rename_i v e
    have hz := hl.at (lget_ne e (by intro z; cases z))
    rw [e] at hz
    exact lv_lload P.1.1 P.1.2.1 hd hz (h _ _ _ hk _ _ _ _ _ _ _ _ _ _ P _ _ _ _ _ hp hl)
  · exact hk.elim
theorem s_aload {i : Nat} (hd : decode mm.2.1 pc = .ok (.aload i, 2)) (h : aS rep G l d mm c b Q (pc + 2) K) : aS rep G l d mm c b Q pc (i_ald i K) := by
  intro ls st x hk p e R s m args below meth cd QQ P H locs arr cells slots hp hl
  have key : ∀ v : Value, lget ls i = v → ((∃ a, v = .ref a) ∨ v = .null ∨ ∃ a, v = .retAddr a) → K ls (v :: st) x → W p l e R s m args below meth cd H locs cells slots QQ (F0 m pc arr (st.map (aV G))) := by
    intro v e hr hk
    have hz := hl.at (lget_ne e (by rcases hr with ⟨a, rfl⟩ | rfl | ⟨a, rfl⟩ <;> (intro z; cases z)))
    rw [e] at hz
    have k := h _ _ _ hk _ _ _ _ _ _ _ _ _ _ P _ _ _ _ _ hp hl
    rw [List.map_cons] at k
    rcases a_isRef G v hr with e2 | ⟨a, e2⟩
    · skip
      rw [e2] at hz k
      intro T hT X
      obtain ⟨t, a1, b1⟩ := k T hT X
      refine ⟨t, ?_, b1⟩
      have hx := P.1.1
      have hb := P.1.2.1
      jvm_step X.here [X.here.top, hx, hb, hd, hz, Value.isRef]
      exact a1
    · rw [e2] at hz k
      exact lv_aload P.1.1 P.1.2.1 hd hz k
  unfold i_ald i_aldv at hk
  split at hk
  · rename_i v e; exact key _ e (Or.inl ⟨_, rfl⟩) hk
  · rename_i e; exact key _ e (Or.inr (Or.inl rfl)) hk
  · rename_i v e; exact key _ e (Or.inr (Or.inr ⟨_, rfl⟩)) hk
  · exact hk.elim
def i_ist (i : Nat) (K : aP μ) : aP μ
  | ls, .int a :: r, x => i < ls.length ∧ K (lput ls i (.int a)) r x
  | _, _, _ => False
def i_lst (i : Nat) (K : aP μ) : aP μ
  | ls, .long a :: r, x => i + 1 < ls.length ∧ K (lput2 ls i (.long a)) r x
  | _, _, _ => False
def i_ast (i : Nat) (K : aP μ) : aP μ
  | ls, .ref a :: r, x => i < ls.length ∧ K (lput ls i (.ref a)) r x
  | ls, .null :: r, x => i < ls.length ∧ K (lput ls i .null) r x
  | _, _, _ => False
theorem s_istore_n {k : Fin 4} {i : Nat} (hd : decode mm.2.1 pc = .ok (.istore_n k, 1)) (hi : (k : Nat) = i) (h : aS rep G l d mm c b Q (pc + 1) K) : aS rep G l d mm c b Q pc (i_ist i K) := by
  intro ls st x hk p e R s m args below meth cd QQ P H locs arr cells slots hp hl
  subst hi
  have hx := P.1.1
  have hb := P.1.2.1
  unfold i_ist at hk
  split at hk
  · obtain ⟨ls2, e2, hl2⟩ := hl.store1 (v := .int _) hk.1 rfl
    have k9 := h _ _ _ hk.2 _ _ _ _ _ _ _ _ _ _ P _ _ _ _ _ hp hl2
    intro T hT X
    obtain ⟨t, a1, b1⟩ := k9 T hT X
    refine ⟨t, ?_, b1⟩
    simp only [aV] at e2
    simp only [List.map_cons, aV]
    jvm_step X.here [X.here.top, ↓top_set X.here.top, hx, hb, hd, e2, Value.isRef]
    exact a1
  · exact hk.elim
theorem s_lstore_n {k : Fin 4} {i : Nat} (hd : decode mm.2.1 pc = .ok (.lstore_n k, 1)) (hi : (k : Nat) = i) (h : aS rep G l d mm c b Q (pc + 1) K) : aS rep G l d mm c b Q pc (i_lst i K) := by
  intro ls st x hk p e R s m args below meth cd QQ P H locs arr cells slots hp hl
  subst hi
  have hx := P.1.1
  have hb := P.1.2.1
  unfold i_lst at hk
  split at hk
  · obtain ⟨ls2, e2, hl2⟩ := hl.store2 (v := .long _) hk.1 rfl
    have k9 := h _ _ _ hk.2 _ _ _ _ _ _ _ _ _ _ P _ _ _ _ _ hp hl2
    intro T hT X
    obtain ⟨t, a1, b1⟩ := k9 T hT X
    refine ⟨t, ?_, b1⟩
    simp only [aV] at e2
    simp only [List.map_cons, aV]
    jvm_step X.here [X.here.top, ↓top_set X.here.top, hx, hb, hd, e2, Value.isRef]
    exact a1
  · exact hk.elim
theorem s_astore_n {k : Fin 4} {i : Nat} (hd : decode mm.2.1 pc = .ok (.astore_n k, 1)) (hi : (k : Nat) = i) (h : aS rep G l d mm c b Q (pc + 1) K) : aS rep G l d mm c b Q pc (i_ast i K) := by
  intro ls st x hk p e R s m args below meth cd QQ P H locs arr cells slots hp hl
  subst hi
  have hx := P.1.1
  have hb := P.1.2.1
  unfold i_ast at hk
  split at hk
  · obtain ⟨ls2, e2, hl2⟩ := hl.store1 (v := .ref _) hk.1 rfl
    have k9 := h _ _ _ hk.2 _ _ _ _ _ _ _ _ _ _ P _ _ _ _ _ hp hl2
    intro T hT X
    obtain ⟨t, a1, b1⟩ := k9 T hT X
    refine ⟨t, ?_, b1⟩
    simp only [aV] at e2
    simp only [List.map_cons, aV]
    jvm_step X.here [X.here.top, ↓top_set X.here.top, hx, hb, hd, e2, Value.isRef]
    exact a1
  · obtain ⟨ls2, e2, hl2⟩ := hl.store1 (v := .null) hk.1 rfl
    have k9 := h _ _ _ hk.2 _ _ _ _ _ _ _ _ _ _ P _ _ _ _ _ hp hl2
    intro T hT X
    obtain ⟨t, a1, b1⟩ := k9 T hT X
    refine ⟨t, ?_, b1⟩
    simp only [aV] at e2
    simp only [List.map_cons, aV]
    jvm_step X.here [X.here.top, ↓top_set X.here.top, hx, hb, hd, e2, Value.isRef]
    exact a1
  · exact hk.elim
theorem s_istore {i : Nat} (hd : decode mm.2.1 pc = .ok (.istore i, 2)) (h : aS rep G l d mm c b Q (pc + 2) K) : aS rep G l d mm c b Q pc (i_ist i K) := by
  intro ls st x hk p e R s m args below meth cd QQ P H locs arr cells slots hp hl
  have hx := P.1.1
  have hb := P.1.2.1
  unfold i_ist at hk
  split at hk
  · obtain ⟨ls2, e2, hl2⟩ := hl.store1 (v := .int _) hk.1 rfl
    have k9 := h _ _ _ hk.2 _ _ _ _ _ _ _ _ _ _ P _ _ _ _ _ hp hl2
    intro T hT X
    obtain ⟨t, a1, b1⟩ := k9 T hT X
    refine ⟨t, ?_, b1⟩
    simp only [aV] at e2
    simp only [List.map_cons, aV]
    jvm_step X.here [X.here.top, ↓top_set X.here.top, hx, hb, hd, e2, Value.isRef]
    exact a1
  · exact hk.elim
theorem s_lstore {i : Nat} (hd : decode mm.2.1 pc = .ok (.lstore i, 2)) (h : aS rep G l d mm c b Q (pc + 2) K) : aS rep G l d mm c b Q pc (i_lst i K) := by
  intro ls st x hk p e R s m args below meth cd QQ P H locs arr cells slots hp hl
  have hx := P.1.1
  have hb := P.1.2.1
  unfold i_lst at hk
  split at hk
  · obtain ⟨ls2, e2, hl2⟩ := hl.store2 (v := .long _) hk.1 rfl
    have k9 := h _ _ _ hk.2 _ _ _ _ _ _ _ _ _ _ P _ _ _ _ _ hp hl2
    intro T hT X
    obtain ⟨t, a1, b1⟩ := k9 T hT X
    refine ⟨t, ?_, b1⟩
    simp only [aV] at e2
    simp only [List.map_cons, aV]
    jvm_step X.here [X.here.top, ↓top_set X.here.top, hx, hb, hd, e2, Value.isRef]
    exact a1
  · exact hk.elim
theorem s_astore {i : Nat} (hd : decode mm.2.1 pc = .ok (.astore i, 2)) (h : aS rep G l d mm c b Q (pc + 2) K) : aS rep G l d mm c b Q pc (i_ast i K) := by
  intro ls st x hk p e R s m args below meth cd QQ P H locs arr cells slots hp hl
  have hx := P.1.1
  have hb := P.1.2.1
  unfold i_ast at hk
  split at hk
  · obtain ⟨ls2, e2, hl2⟩ := hl.store1 (v := .ref _) hk.1 rfl
    have k9 := h _ _ _ hk.2 _ _ _ _ _ _ _ _ _ _ P _ _ _ _ _ hp hl2
    intro T hT X
    obtain ⟨t, a1, b1⟩ := k9 T hT X
    refine ⟨t, ?_, b1⟩
    simp only [aV] at e2
    simp only [List.map_cons, aV]
    jvm_step X.here [X.here.top, ↓top_set X.here.top, hx, hb, hd, e2, Value.isRef]
    exact a1
  · obtain ⟨ls2, e2, hl2⟩ := hl.store1 (v := .null) hk.1 rfl
    have k9 := h _ _ _ hk.2 _ _ _ _ _ _ _ _ _ _ P _ _ _ _ _ hp hl2
    intro T hT X
    obtain ⟨t, a1, b1⟩ := k9 T hT X
    refine ⟨t, ?_, b1⟩
    simp only [aV] at e2
    simp only [List.map_cons, aV]
    jvm_step X.here [X.here.top, ↓top_set X.here.top, hx, hb, hd, e2, Value.isRef]
    exact a1
  · exact hk.elim
def i_iincv (v : Value) (i : Nat) (n : Int32) (K : aP μ) (ls st : List Value) (x : μ) : Prop := match v with
  | .int a => i < ls.length ∧ K (lput ls i (.int (a + n))) st x
  | _ => False
def i_iinc (i : Nat) (n : Int32) (K : aP μ) : aP μ := fun ls st x => i_iincv (lget ls i) i n K ls st x
theorem s_iinc {i : Nat} {z : Int} {n : Int32} (hd : decode mm.2.1 pc = .ok (.iinc i z, 3)) (hn : Int32.ofInt z = n) (h : aS rep G l d mm c b Q (pc + 3) K) : aS rep G l d mm c b Q pc (i_iinc i n K) := by
  intro ls st x hk p e R s m args below meth cd QQ P H locs arr cells slots hp hl
  subst hn
  unfold i_iinc i_iincv at hk
  split at hk
  · rename_i v e
    have hz := hl.at (lget_ne e (by intro z; cases z))
    rw [e] at hz
    obtain ⟨ls2, e2, hl2⟩ := hl.store1 hk.1 (show (Value.int (v + Int32.ofInt z)).category = 1 from rfl)
    have k9 := h _ _ _ hk.2 _ _ _ _ _ _ _ _ _ _ P _ _ _ _ _ hp hl2
    have hx := P.1.1
    have hb := P.1.2.1
    intro T hT X
    obtain ⟨t, a1, b1⟩ := k9 T hT X
    refine ⟨t, ?_, b1⟩
    simp only [aV] at e2 hz
    jvm_step X.here [X.here.top, ↓top_set X.here.top, hx, hb, hd, hz, e2]
    exact a1
  · exact hk.elim
abbrev a_irem (x y : Int32) : Int32 := x - x / y * y
abbrev a_lrem (x y : Int64) : Int64 := x - x / y * y
abbrev a_iushr (x y : Int32) : Int32 := (x.toUInt32 >>> (y.toUInt32 &&& Int32.toUInt32 31)).toInt32
def i_iadd (K : aP μ) : aP μ
  | ls, .int y :: .int z :: r, x => K ls (.int (z + y) :: r) x
  | _, _, _ => False
theorem s_iadd (hd : decode mm.2.1 pc = .ok (.iadd, 1)) (h : aS rep G l d mm c b Q (pc + 1) K) : aS rep G l d mm c b Q pc (i_iadd K) := by
  intro ls st x hk p e R s m args below meth cd QQ P H locs arr cells slots hp hl
  unfold i_iadd at hk
  split at hk
  · exact lv_iadd P.1.1 P.1.2.1 hd (h _ _ _ hk _ _ _ _ _ _ _ _ _ _ P _ _ _ _ _ hp hl)
  · exact hk.elim
def i_isub (K : aP μ) : aP μ
  | ls, .int y :: .int z :: r, x => K ls (.int (z - y) :: r) x
  | _, _, _ => False
theorem s_isub (hd : decode mm.2.1 pc = .ok (.isub, 1)) (h : aS rep G l d mm c b Q (pc + 1) K) : aS rep G l d mm c b Q pc (i_isub K) := by
  intro ls st x hk p e R s m args below meth cd QQ P H locs arr cells slots hp hl
  unfold i_isub at hk
  split at hk
  · exact lv_isub P.1.1 P.1.2.1 hd (h _ _ _ hk _ _ _ _ _ _ _ _ _ _ P _ _ _ _ _ hp hl)
  · exact hk.elim
def i_imul (K : aP μ) : aP μ
  | ls, .int y :: .int z :: r, x => K ls (.int (z * y) :: r) x
  | _, _, _ => False
theorem s_imul (hd : decode mm.2.1 pc = .ok (.imul, 1)) (h : aS rep G l d mm c b Q (pc + 1) K) : aS rep G l d mm c b Q pc (i_imul K) := by
  intro ls st x hk p e R s m args below meth cd QQ P H locs arr cells slots hp hl
  unfold i_imul at hk
  split at hk
  · exact lv_imul P.1.1 P.1.2.1 hd (h _ _ _ hk _ _ _ _ _ _ _ _ _ _ P _ _ _ _ _ hp hl)
  · exact hk.elim
def i_iand (K : aP μ) : aP μ
  | ls, .int y :: .int z :: r, x => K ls (.int (z &&& y) :: r) x
  | _, _, _ => False
theorem s_iand (hd : decode mm.2.1 pc = .ok (.iand, 1)) (h : aS rep G l d mm c b Q (pc + 1) K) : aS rep G l d mm c b Q pc (i_iand K) := by
  intro ls st x hk p e R s m args below meth cd QQ P H locs arr cells slots hp hl
  unfold i_iand at hk
  split at hk
  · exact lv_iand P.1.1 P.1.2.1 hd (h _ _ _ hk _ _ _ _ _ _ _ _ _ _ P _ _ _ _ _ hp hl)
  · exact hk.elim
def i_ior (K : aP μ) : aP μ
  | ls, .int y :: .int z :: r, x => K ls (.int (z ||| y) :: r) x
  | _, _, _ => False
theorem s_ior (hd : decode mm.2.1 pc = .ok (.ior, 1)) (h : aS rep G l d mm c b Q (pc + 1) K) : aS rep G l d mm c b Q pc (i_ior K) := by
  intro ls st x hk p e R s m args below meth cd QQ P H locs arr cells slots hp hl
  unfold i_ior at hk
  split at hk
  · exact lv_ior P.1.1 P.1.2.1 hd (h _ _ _ hk _ _ _ _ _ _ _ _ _ _ P _ _ _ _ _ hp hl)
  · exact hk.elim
def i_ixor (K : aP μ) : aP μ
  | ls, .int y :: .int z :: r, x => K ls (.int (z ^^^ y) :: r) x
  | _, _, _ => False
theorem s_ixor (hd : decode mm.2.1 pc = .ok (.ixor, 1)) (h : aS rep G l d mm c b Q (pc + 1) K) : aS rep G l d mm c b Q pc (i_ixor K) := by
  intro ls st x hk p e R s m args below meth cd QQ P H locs arr cells slots hp hl
  unfold i_ixor at hk
  split at hk
  · exact lv_ixor P.1.1 P.1.2.1 hd (h _ _ _ hk _ _ _ _ _ _ _ _ _ _ P _ _ _ _ _ hp hl)
  · exact hk.elim
def i_ishl (K : aP μ) : aP μ
  | ls, .int y :: .int z :: r, x => K ls (.int (z <<< (y &&& 31)) :: r) x
  | _, _, _ => False
theorem s_ishl (hd : decode mm.2.1 pc = .ok (.ishl, 1)) (h : aS rep G l d mm c b Q (pc + 1) K) : aS rep G l d mm c b Q pc (i_ishl K) := by
  intro ls st x hk p e R s m args below meth cd QQ P H locs arr cells slots hp hl
  unfold i_ishl at hk
  split at hk
  · exact lv_ishl P.1.1 P.1.2.1 hd (h _ _ _ hk _ _ _ _ _ _ _ _ _ _ P _ _ _ _ _ hp hl)
  · exact hk.elim
def i_ishr (K : aP μ) : aP μ
  | ls, .int y :: .int z :: r, x => K ls (.int (z >>> (y &&& 31)) :: r) x
  | _, _, _ => False
theorem s_ishr (hd : decode mm.2.1 pc = .ok (.ishr, 1)) (h : aS rep G l d mm c b Q (pc + 1) K) : aS rep G l d mm c b Q pc (i_ishr K) := by
  intro ls st x hk p e R s m args below meth cd QQ P H locs arr cells slots hp hl
  unfold i_ishr at hk
  split at hk
  · exact lv_ishr P.1.1 P.1.2.1 hd (h _ _ _ hk _ _ _ _ _ _ _ _ _ _ P _ _ _ _ _ hp hl)
  · exact hk.elim
def i_iushr (K : aP μ) : aP μ
  | ls, .int y :: .int z :: r, x => K ls (.int (a_iushr z y) :: r) x
  | _, _, _ => False
theorem s_iushr (hd : decode mm.2.1 pc = .ok (.iushr, 1)) (h : aS rep G l d mm c b Q (pc + 1) K) : aS rep G l d mm c b Q pc (i_iushr K) := by
  intro ls st x hk p e R s m args below meth cd QQ P H locs arr cells slots hp hl
  unfold i_iushr at hk
  split at hk
  · exact lv_iushr P.1.1 P.1.2.1 hd rfl (h _ _ _ hk _ _ _ _ _ _ _ _ _ _ P _ _ _ _ _ hp hl)
  · exact hk.elim
def i_idiv (K : aP μ) : aP μ
  | ls, .int y :: .int z :: r, x => ¬ y = 0 ∧ K ls (.int (z / y) :: r) x
  | _, _, _ => False
theorem s_idiv (hd : decode mm.2.1 pc = .ok (.idiv, 1)) (h : aS rep G l d mm c b Q (pc + 1) K) : aS rep G l d mm c b Q pc (i_idiv K) := by
  intro ls st x hk p e R s m args below meth cd QQ P H locs arr cells slots hp hl
  unfold i_idiv at hk
  split at hk
  · exact lv_idiv P.1.1 P.1.2.1 hd hk.1 (h _ _ _ hk.2 _ _ _ _ _ _ _ _ _ _ P _ _ _ _ _ hp hl)
  · exact hk.elim
def i_irem (K : aP μ) : aP μ
  | ls, .int y :: .int z :: r, x => ¬ y = 0 ∧ K ls (.int (a_irem z y) :: r) x
  | _, _, _ => False
theorem s_irem (hd : decode mm.2.1 pc = .ok (.irem, 1)) (h : aS rep G l d mm c b Q (pc + 1) K) : aS rep G l d mm c b Q pc (i_irem K) := by
  intro ls st x hk p e R s m args below meth cd QQ P H locs arr cells slots hp hl
  unfold i_irem at hk
  split at hk
  · exact lv_irem P.1.1 P.1.2.1 hd hk.1 (h _ _ _ hk.2 _ _ _ _ _ _ _ _ _ _ P _ _ _ _ _ hp hl)
  · exact hk.elim
def i_ineg (K : aP μ) : aP μ
  | ls, .int z :: r, x => K ls (.int (-z) :: r) x
  | _, _, _ => False
theorem s_ineg (hd : decode mm.2.1 pc = .ok (.ineg, 1)) (h : aS rep G l d mm c b Q (pc + 1) K) : aS rep G l d mm c b Q pc (i_ineg K) := by
  intro ls st x hk p e R s m args below meth cd QQ P H locs arr cells slots hp hl
  unfold i_ineg at hk
  split at hk
  · exact lv_ineg P.1.1 P.1.2.1 hd (h _ _ _ hk _ _ _ _ _ _ _ _ _ _ P _ _ _ _ _ hp hl)
  · exact hk.elim
def i_ladd (K : aP μ) : aP μ
  | ls, .long y :: .long z :: r, x => K ls (.long (z + y) :: r) x
  | _, _, _ => False
theorem s_ladd (hd : decode mm.2.1 pc = .ok (.ladd, 1)) (h : aS rep G l d mm c b Q (pc + 1) K) : aS rep G l d mm c b Q pc (i_ladd K) := by
  intro ls st x hk p e R s m args below meth cd QQ P H locs arr cells slots hp hl
  unfold i_ladd at hk
  split at hk
  · exact lv_ladd P.1.1 P.1.2.1 hd (h _ _ _ hk _ _ _ _ _ _ _ _ _ _ P _ _ _ _ _ hp hl)
  · exact hk.elim
def i_lsub (K : aP μ) : aP μ
  | ls, .long y :: .long z :: r, x => K ls (.long (z - y) :: r) x
  | _, _, _ => False
theorem s_lsub (hd : decode mm.2.1 pc = .ok (.lsub, 1)) (h : aS rep G l d mm c b Q (pc + 1) K) : aS rep G l d mm c b Q pc (i_lsub K) := by
  intro ls st x hk p e R s m args below meth cd QQ P H locs arr cells slots hp hl
  unfold i_lsub at hk
  split at hk
  · exact lv_lsub P.1.1 P.1.2.1 hd (h _ _ _ hk _ _ _ _ _ _ _ _ _ _ P _ _ _ _ _ hp hl)
  · exact hk.elim
def i_lmul (K : aP μ) : aP μ
  | ls, .long y :: .long z :: r, x => K ls (.long (z * y) :: r) x
  | _, _, _ => False
theorem s_lmul (hd : decode mm.2.1 pc = .ok (.lmul, 1)) (h : aS rep G l d mm c b Q (pc + 1) K) : aS rep G l d mm c b Q pc (i_lmul K) := by
  intro ls st x hk p e R s m args below meth cd QQ P H locs arr cells slots hp hl
  unfold i_lmul at hk
  split at hk
  · exact lv_lmul P.1.1 P.1.2.1 hd (h _ _ _ hk _ _ _ _ _ _ _ _ _ _ P _ _ _ _ _ hp hl)
  · exact hk.elim
def i_land (K : aP μ) : aP μ
  | ls, .long y :: .long z :: r, x => K ls (.long (z &&& y) :: r) x
  | _, _, _ => False
theorem s_land (hd : decode mm.2.1 pc = .ok (.land, 1)) (h : aS rep G l d mm c b Q (pc + 1) K) : aS rep G l d mm c b Q pc (i_land K) := by
  intro ls st x hk p e R s m args below meth cd QQ P H locs arr cells slots hp hl
  unfold i_land at hk
  split at hk
  · exact lv_land P.1.1 P.1.2.1 hd (h _ _ _ hk _ _ _ _ _ _ _ _ _ _ P _ _ _ _ _ hp hl)
  · exact hk.elim
def i_lor (K : aP μ) : aP μ
  | ls, .long y :: .long z :: r, x => K ls (.long (z ||| y) :: r) x
  | _, _, _ => False
theorem s_lor (hd : decode mm.2.1 pc = .ok (.lor, 1)) (h : aS rep G l d mm c b Q (pc + 1) K) : aS rep G l d mm c b Q pc (i_lor K) := by
  intro ls st x hk p e R s m args below meth cd QQ P H locs arr cells slots hp hl
  unfold i_lor at hk
  split at hk
  · exact lv_lor P.1.1 P.1.2.1 hd (h _ _ _ hk _ _ _ _ _ _ _ _ _ _ P _ _ _ _ _ hp hl)
  · exact hk.elim
def i_ldiv (K : aP μ) : aP μ
  | ls, .long y :: .long z :: r, x => ¬ y = 0 ∧ K ls (.long (z / y) :: r) x
  | _, _, _ => False
theorem s_ldiv (hd : decode mm.2.1 pc = .ok (.ldiv, 1)) (h : aS rep G l d mm c b Q (pc + 1) K) : aS rep G l d mm c b Q pc (i_ldiv K) := by
  intro ls st x hk p e R s m args below meth cd QQ P H locs arr cells slots hp hl
  unfold i_ldiv at hk
  split at hk
  · exact lv_ldiv P.1.1 P.1.2.1 hd hk.1 (h _ _ _ hk.2 _ _ _ _ _ _ _ _ _ _ P _ _ _ _ _ hp hl)
  · exact hk.elim
def i_lrem (K : aP μ) : aP μ
  | ls, .long y :: .long z :: r, x => ¬ y = 0 ∧ K ls (.long (a_lrem z y) :: r) x
  | _, _, _ => False
theorem s_lrem (hd : decode mm.2.1 pc = .ok (.lrem, 1)) (h : aS rep G l d mm c b Q (pc + 1) K) : aS rep G l d mm c b Q pc (i_lrem K) := by
  intro ls st x hk p e R s m args below meth cd QQ P H locs arr cells slots hp hl
  unfold i_lrem at hk
  split at hk
  · exact lv_lrem P.1.1 P.1.2.1 hd hk.1 (h _ _ _ hk.2 _ _ _ _ _ _ _ _ _ _ P _ _ _ _ _ hp hl)
  · exact hk.elim
def i_lcmp (K : aP μ) : aP μ
  | ls, .long y :: .long z :: r, x => K ls (.int (lg_cmp z y) :: r) x
  | _, _, _ => False
theorem s_lcmp (hd : decode mm.2.1 pc = .ok (.lcmp, 1)) (h : aS rep G l d mm c b Q (pc + 1) K) : aS rep G l d mm c b Q pc (i_lcmp K) := by
  intro ls st x hk p e R s m args below meth cd QQ P H locs arr cells slots hp hl
  unfold i_lcmp at hk
  split at hk
  · exact W.lcmp P.1.1 P.1.2.1 hd (h _ _ _ hk _ _ _ _ _ _ _ _ _ _ P _ _ _ _ _ hp hl)
  · exact hk.elim
def i_i2l (K : aP μ) : aP μ
  | ls, .int z :: r, x => K ls (.long z.toInt64 :: r) x
  | _, _, _ => False
theorem s_i2l (hd : decode mm.2.1 pc = .ok (.i2l, 1)) (h : aS rep G l d mm c b Q (pc + 1) K) : aS rep G l d mm c b Q pc (i_i2l K) := by
  intro ls st x hk p e R s m args below meth cd QQ P H locs arr cells slots hp hl
  unfold i_i2l at hk
  split at hk
  · exact lv_i2l P.1.1 P.1.2.1 hd rfl (h _ _ _ hk _ _ _ _ _ _ _ _ _ _ P _ _ _ _ _ hp hl)
  · exact hk.elim
def i_l2i (K : aP μ) : aP μ
  | ls, .long z :: r, x => K ls (.int z.toInt32 :: r) x
  | _, _, _ => False
theorem s_l2i (hd : decode mm.2.1 pc = .ok (.l2i, 1)) (h : aS rep G l d mm c b Q (pc + 1) K) : aS rep G l d mm c b Q pc (i_l2i K) := by
  intro ls st x hk p e R s m args below meth cd QQ P H locs arr cells slots hp hl
  unfold i_l2i at hk
  split at hk
  · exact lv_l2i P.1.1 P.1.2.1 hd rfl (h _ _ _ hk _ _ _ _ _ _ _ _ _ _ P _ _ _ _ _ hp hl)
  · exact hk.elim
def i_i2b (K : aP μ) : aP μ
  | ls, .int z :: r, x => K ls (.int z.toInt8.toInt32 :: r) x
  | _, _, _ => False
theorem s_i2b (hd : decode mm.2.1 pc = .ok (.i2b, 1)) (h : aS rep G l d mm c b Q (pc + 1) K) : aS rep G l d mm c b Q pc (i_i2b K) := by
  intro ls st x hk p e R s m args below meth cd QQ P H locs arr cells slots hp hl
  unfold i_i2b at hk
  split at hk
  · exact lv_i2b P.1.1 P.1.2.1 hd rfl (h _ _ _ hk _ _ _ _ _ _ _ _ _ _ P _ _ _ _ _ hp hl)
  · exact hk.elim
def i_i2c (K : aP μ) : aP μ
  | ls, .int z :: r, x => K ls (.int (z.toUInt32 % 65536).toInt32 :: r) x
  | _, _, _ => False
theorem s_i2c (hd : decode mm.2.1 pc = .ok (.i2c, 1)) (h : aS rep G l d mm c b Q (pc + 1) K) : aS rep G l d mm c b Q pc (i_i2c K) := by
  intro ls st x hk p e R s m args below meth cd QQ P H locs arr cells slots hp hl
  unfold i_i2c at hk
  split at hk
  · exact lv_i2c P.1.1 P.1.2.1 hd rfl (h _ _ _ hk _ _ _ _ _ _ _ _ _ _ P _ _ _ _ _ hp hl)
  · exact hk.elim
def i_dup (K : aP μ) : aP μ
  | ls, v :: r, x => v.category = 1 ∧ K ls (v :: v :: r) x
  | _, _, _ => False
theorem s_dup (hd : decode mm.2.1 pc = .ok (.dup, 1)) (h : aS rep G l d mm c b Q (pc + 1) K) : aS rep G l d mm c b Q pc (i_dup K) := by
  intro ls st x hk p e R s m args below meth cd QQ P H locs arr cells slots hp hl
  unfold i_dup at hk
  split at hk
  · exact lv_dup P.1.1 P.1.2.1 hd ((aV_cat _ _).trans hk.1) (h _ _ _ hk.2 _ _ _ _ _ _ _ _ _ _ P _ _ _ _ _ hp hl)
  · exact hk.elim
def i_pop (K : aP μ) : aP μ
  | ls, v :: r, x => v.category = 1 ∧ K ls (r) x
  | _, _, _ => False
theorem s_pop (hd : decode mm.2.1 pc = .ok (.pop, 1)) (h : aS rep G l d mm c b Q (pc + 1) K) : aS rep G l d mm c b Q pc (i_pop K) := by
  intro ls st x hk p e R s m args below meth cd QQ P H locs arr cells slots hp hl
  unfold i_pop at hk
  split at hk
  · exact lv_pop P.1.1 P.1.2.1 hd ((aV_cat _ _).trans hk.1) (h _ _ _ hk.2 _ _ _ _ _ _ _ _ _ _ P _ _ _ _ _ hp hl)
  · exact hk.elim
def i_dup2 (K : aP μ) : aP μ
  | ls, v :: w :: r, x => (v.category = 1 ∧ w.category = 1) ∧ K ls (v :: w :: v :: w :: r) x
  | _, _, _ => False
theorem s_dup2 (hd : decode mm.2.1 pc = .ok (.dup2, 1)) (h : aS rep G l d mm c b Q (pc + 1) K) : aS rep G l d mm c b Q pc (i_dup2 K) := by
  intro ls st x hk p e R s m args below meth cd QQ P H locs arr cells slots hp hl
  unfold i_dup2 at hk
  split at hk
  · exact lv_dup2_11 P.1.1 P.1.2.1 hd ((aV_cat _ _).trans hk.1.1) ((aV_cat _ _).trans hk.1.2) (h _ _ _ hk.2 _ _ _ _ _ _ _ _ _ _ P _ _ _ _ _ hp hl)
  · exact hk.elim
def i_dup_x1 (K : aP μ) : aP μ
  | ls, v :: w :: r, x => (v.category = 1 ∧ w.category = 1) ∧ K ls (v :: w :: v :: r) x
  | _, _, _ => False
theorem s_dup_x1 (hd : decode mm.2.1 pc = .ok (.dup_x1, 1)) (h : aS rep G l d mm c b Q (pc + 1) K) : aS rep G l d mm c b Q pc (i_dup_x1 K) := by
  intro ls st x hk p e R s m args below meth cd QQ P H locs arr cells slots hp hl
  unfold i_dup_x1 at hk
  split at hk
  · exact lv_dup_x1 P.1.1 P.1.2.1 hd ((aV_cat _ _).trans hk.1.1) ((aV_cat _ _).trans hk.1.2) (h _ _ _ hk.2 _ _ _ _ _ _ _ _ _ _ P _ _ _ _ _ hp hl)
  · exact hk.elim
def i_ifeq (t K : aP μ) : aP μ
  | ls, .int z :: r, x => (z = 0 → t ls r x) ∧ (¬ z = 0 → K ls r x)
  | _, _, _ => False
theorem s_ifeq {off : Int} {tg : Nat} {t : aP μ} (hd : decode mm.2.1 pc = .ok (.ifCond .eq off, 3)) (ho : (pc : Int) + off = (tg : Int)) (ht : aS rep G l d mm c b Q tg t) (h : aS rep G l d mm c b Q (pc + 3) K) : aS rep G l d mm c b Q pc (i_ifeq t K) := by
  intro ls st x hk p e R s m args below meth cd QQ P H locs arr cells slots hp hl
  unfold i_ifeq at hk
  split at hk
  · exact lv_if_eq P.1.1 P.1.2.1 hd ho (fun q => ht _ _ _ (hk.1 q) _ _ _ _ _ _ _ _ _ _ P _ _ _ _ _ hp hl) (fun q => h _ _ _ (hk.2 q) _ _ _ _ _ _ _ _ _ _ P _ _ _ _ _ hp hl)
  · exact hk.elim
def i_ifne (t K : aP μ) : aP μ
  | ls, .int z :: r, x => (¬ z = 0 → t ls r x) ∧ (z = 0 → K ls r x)
  | _, _, _ => False
theorem s_ifne {off : Int} {tg : Nat} {t : aP μ} (hd : decode mm.2.1 pc = .ok (.ifCond .ne off, 3)) (ho : (pc : Int) + off = (tg : Int)) (ht : aS rep G l d mm c b Q tg t) (h : aS rep G l d mm c b Q (pc + 3) K) : aS rep G l d mm c b Q pc (i_ifne t K) := by
  intro ls st x hk p e R s m args below meth cd QQ P H locs arr cells slots hp hl
  unfold i_ifne at hk
  split at hk
  · exact lv_if_ne P.1.1 P.1.2.1 hd ho (fun q => ht _ _ _ (hk.1 q) _ _ _ _ _ _ _ _ _ _ P _ _ _ _ _ hp hl) (fun q => h _ _ _ (hk.2 q) _ _ _ _ _ _ _ _ _ _ P _ _ _ _ _ hp hl)
  · exact hk.elim
def i_iflt (t K : aP μ) : aP μ
  | ls, .int z :: r, x => (z < 0 → t ls r x) ∧ (¬ z < 0 → K ls r x)
  | _, _, _ => False
theorem s_iflt {off : Int} {tg : Nat} {t : aP μ} (hd : decode mm.2.1 pc = .ok (.ifCond .lt off, 3)) (ho : (pc : Int) + off = (tg : Int)) (ht : aS rep G l d mm c b Q tg t) (h : aS rep G l d mm c b Q (pc + 3) K) : aS rep G l d mm c b Q pc (i_iflt t K) := by
  intro ls st x hk p e R s m args below meth cd QQ P H locs arr cells slots hp hl
  unfold i_iflt at hk
  split at hk
  · exact lv_if_lt P.1.1 P.1.2.1 hd ho (fun q => ht _ _ _ (hk.1 q) _ _ _ _ _ _ _ _ _ _ P _ _ _ _ _ hp hl) (fun q => h _ _ _ (hk.2 q) _ _ _ _ _ _ _ _ _ _ P _ _ _ _ _ hp hl)
  · exact hk.elim
def i_ifge (t K : aP μ) : aP μ
  | ls, .int z :: r, x => (0 ≤ z → t ls r x) ∧ (¬ 0 ≤ z → K ls r x)
  | _, _, _ => False
theorem s_ifge {off : Int} {tg : Nat} {t : aP μ} (hd : decode mm.2.1 pc = .ok (.ifCond .ge off, 3)) (ho : (pc : Int) + off = (tg : Int)) (ht : aS rep G l d mm c b Q tg t) (h : aS rep G l d mm c b Q (pc + 3) K) : aS rep G l d mm c b Q pc (i_ifge t K) := by
  intro ls st x hk p e R s m args below meth cd QQ P H locs arr cells slots hp hl
  unfold i_ifge at hk
  split at hk
  · exact lv_if_ge P.1.1 P.1.2.1 hd ho (fun q => ht _ _ _ (hk.1 q) _ _ _ _ _ _ _ _ _ _ P _ _ _ _ _ hp hl) (fun q => h _ _ _ (hk.2 q) _ _ _ _ _ _ _ _ _ _ P _ _ _ _ _ hp hl)
  · exact hk.elim
def i_ifgt (t K : aP μ) : aP μ
  | ls, .int z :: r, x => (0 < z → t ls r x) ∧ (¬ 0 < z → K ls r x)
  | _, _, _ => False
theorem s_ifgt {off : Int} {tg : Nat} {t : aP μ} (hd : decode mm.2.1 pc = .ok (.ifCond .gt off, 3)) (ho : (pc : Int) + off = (tg : Int)) (ht : aS rep G l d mm c b Q tg t) (h : aS rep G l d mm c b Q (pc + 3) K) : aS rep G l d mm c b Q pc (i_ifgt t K) := by
  intro ls st x hk p e R s m args below meth cd QQ P H locs arr cells slots hp hl
  unfold i_ifgt at hk
  split at hk
  · exact lv_if_gt P.1.1 P.1.2.1 hd ho (fun q => ht _ _ _ (hk.1 q) _ _ _ _ _ _ _ _ _ _ P _ _ _ _ _ hp hl) (fun q => h _ _ _ (hk.2 q) _ _ _ _ _ _ _ _ _ _ P _ _ _ _ _ hp hl)
  · exact hk.elim
def i_ifle (t K : aP μ) : aP μ
  | ls, .int z :: r, x => (z ≤ 0 → t ls r x) ∧ (¬ z ≤ 0 → K ls r x)
  | _, _, _ => False
theorem s_ifle {off : Int} {tg : Nat} {t : aP μ} (hd : decode mm.2.1 pc = .ok (.ifCond .le off, 3)) (ho : (pc : Int) + off = (tg : Int)) (ht : aS rep G l d mm c b Q tg t) (h : aS rep G l d mm c b Q (pc + 3) K) : aS rep G l d mm c b Q pc (i_ifle t K) := by
  intro ls st x hk p e R s m args below meth cd QQ P H locs arr cells slots hp hl
  unfold i_ifle at hk
  split at hk
  · exact lv_if_le P.1.1 P.1.2.1 hd ho (fun q => ht _ _ _ (hk.1 q) _ _ _ _ _ _ _ _ _ _ P _ _ _ _ _ hp hl) (fun q => h _ _ _ (hk.2 q) _ _ _ _ _ _ _ _ _ _ P _ _ _ _ _ hp hl)
  · exact hk.elim
def i_icmpeq (t K : aP μ) : aP μ
  | ls, .int y :: .int z :: r, x => (z = y → t ls r x) ∧ (¬ z = y → K ls r x)
  | _, _, _ => False
theorem s_icmpeq {off : Int} {tg : Nat} {t : aP μ} (hd : decode mm.2.1 pc = .ok (.if_icmp .eq off, 3)) (ho : (pc : Int) + off = (tg : Int)) (ht : aS rep G l d mm c b Q tg t) (h : aS rep G l d mm c b Q (pc + 3) K) : aS rep G l d mm c b Q pc (i_icmpeq t K) := by
  intro ls st x hk p e R s m args below meth cd QQ P H locs arr cells slots hp hl
  unfold i_icmpeq at hk
  split at hk
  · exact lv_icmp_eq P.1.1 P.1.2.1 hd ho (fun q => ht _ _ _ (hk.1 q) _ _ _ _ _ _ _ _ _ _ P _ _ _ _ _ hp hl) (fun q => h _ _ _ (hk.2 q) _ _ _ _ _ _ _ _ _ _ P _ _ _ _ _ hp hl)
  · exact hk.elim
def i_icmpne (t K : aP μ) : aP μ
  | ls, .int y :: .int z :: r, x => (¬ z = y → t ls r x) ∧ (z = y → K ls r x)
  | _, _, _ => False
theorem s_icmpne {off : Int} {tg : Nat} {t : aP μ} (hd : decode mm.2.1 pc = .ok (.if_icmp .ne off, 3)) (ho : (pc : Int) + off = (tg : Int)) (ht : aS rep G l d mm c b Q tg t) (h : aS rep G l d mm c b Q (pc + 3) K) : aS rep G l d mm c b Q pc (i_icmpne t K) := by
  intro ls st x hk p e R s m args below meth cd QQ P H locs arr cells slots hp hl
  unfold i_icmpne at hk
  split at hk
  · exact lv_icmp_ne P.1.1 P.1.2.1 hd ho (fun q => ht _ _ _ (hk.1 q) _ _ _ _ _ _ _ _ _ _ P _ _ _ _ _ hp hl) (fun q => h _ _ _ (hk.2 q) _ _ _ _ _ _ _ _ _ _ P _ _ _ _ _ hp hl)
  · exact hk.elim
def i_icmplt (t K : aP μ) : aP μ
  | ls, .int y :: .int z :: r, x => (z < y → t ls r x) ∧ (¬ z < y → K ls r x)
  | _, _, _ => False
theorem s_icmplt {off : Int} {tg : Nat} {t : aP μ} (hd : decode mm.2.1 pc = .ok (.if_icmp .lt off, 3)) (ho : (pc : Int) + off = (tg : Int)) (ht : aS rep G l d mm c b Q tg t) (h : aS rep G l d mm c b Q (pc + 3) K) : aS rep G l d mm c b Q pc (i_icmplt t K) := by
  intro ls st x hk p e R s m args below meth cd QQ P H locs arr cells slots hp hl
  unfold i_icmplt at hk
  split at hk
  · exact lv_icmp_lt P.1.1 P.1.2.1 hd ho (fun q => ht _ _ _ (hk.1 q) _ _ _ _ _ _ _ _ _ _ P _ _ _ _ _ hp hl) (fun q => h _ _ _ (hk.2 q) _ _ _ _ _ _ _ _ _ _ P _ _ _ _ _ hp hl)
  · exact hk.elim
def i_icmpge (t K : aP μ) : aP μ
  | ls, .int y :: .int z :: r, x => (y ≤ z → t ls r x) ∧ (¬ y ≤ z → K ls r x)
  | _, _, _ => False
theorem s_icmpge {off : Int} {tg : Nat} {t : aP μ} (hd : decode mm.2.1 pc = .ok (.if_icmp .ge off, 3)) (ho : (pc : Int) + off = (tg : Int)) (ht : aS rep G l d mm c b Q tg t) (h : aS rep G l d mm c b Q (pc + 3) K) : aS rep G l d mm c b Q pc (i_icmpge t K) := by
  intro ls st x hk p e R s m args below meth cd QQ P H locs arr cells slots hp hl
  unfold i_icmpge at hk
  split at hk
  · exact lv_icmp_ge P.1.1 P.1.2.1 hd ho (fun q => ht _ _ _ (hk.1 q) _ _ _ _ _ _ _ _ _ _ P _ _ _ _ _ hp hl) (fun q => h _ _ _ (hk.2 q) _ _ _ _ _ _ _ _ _ _ P _ _ _ _ _ hp hl)
  · exact hk.elim
def i_icmpgt (t K : aP μ) : aP μ
  | ls, .int y :: .int z :: r, x => (y < z → t ls r x) ∧ (¬ y < z → K ls r x)
  | _, _, _ => False
theorem s_icmpgt {off : Int} {tg : Nat} {t : aP μ} (hd : decode mm.2.1 pc = .ok (.if_icmp .gt off, 3)) (ho : (pc : Int) + off = (tg : Int)) (ht : aS rep G l d mm c b Q tg t) (h : aS rep G l d mm c b Q (pc + 3) K) : aS rep G l d mm c b Q pc (i_icmpgt t K) := by
  intro ls st x hk p e R s m args below meth cd QQ P H locs arr cells slots hp hl
  unfold i_icmpgt at hk
  split at hk
  · exact lv_icmp_gt P.1.1 P.1.2.1 hd ho (fun q => ht _ _ _ (hk.1 q) _ _ _ _ _ _ _ _ _ _ P _ _ _ _ _ hp hl) (fun q => h _ _ _ (hk.2 q) _ _ _ _ _ _ _ _ _ _ P _ _ _ _ _ hp hl)
  · exact hk.elim
def i_icmple (t K : aP μ) : aP μ
  | ls, .int y :: .int z :: r, x => (z ≤ y → t ls r x) ∧ (¬ z ≤ y → K ls r x)
  | _, _, _ => False
theorem s_icmple {off : Int} {tg : Nat} {t : aP μ} (hd : decode mm.2.1 pc = .ok (.if_icmp .le off, 3)) (ho : (pc : Int) + off = (tg : Int)) (ht : aS rep G l d mm c b Q tg t) (h : aS rep G l d mm c b Q (pc + 3) K) : aS rep G l d mm c b Q pc (i_icmple t K) := by
  intro ls st x hk p e R s m args below meth cd QQ P H locs arr cells slots hp hl
  unfold i_icmple at hk
  split at hk
  · exact lv_icmp_le P.1.1 P.1.2.1 hd ho (fun q => ht _ _ _ (hk.1 q) _ _ _ _ _ _ _ _ _ _ P _ _ _ _ _ hp hl) (fun q => h _ _ _ (hk.2 q) _ _ _ _ _ _ _ _ _ _ P _ _ _ _ _ hp hl)
  · exact hk.elim
def i_ifnn (t K : aP μ) : aP μ
  | ls, .ref _ :: r, x => t ls r x
  | ls, .null :: r, x => K ls r x
  | _, _, _ => False
theorem s_ifnn {off : Int} {tg : Nat} {t : aP μ} (hd : decode mm.2.1 pc = .ok (.ifnonnull off, 3)) (ho : (pc : Int) + off = (tg : Int)) (ht : aS rep G l d mm c b Q tg t) (h : aS rep G l d mm c b Q (pc + 3) K) : aS rep G l d mm c b Q pc (i_ifnn t K) := by
  intro ls st x hk p e R s m args below meth cd QQ P H locs arr cells slots hp hl
  unfold i_ifnn at hk
  split at hk
  · exact lv_ifnonnull P.1.1 P.1.2.1 hd ho (ht _ _ _ hk _ _ _ _ _ _ _ _ _ _ P _ _ _ _ _ hp hl)
  · exact lv_ifnonnullN P.1.1 P.1.2.1 hd (h _ _ _ hk _ _ _ _ _ _ _ _ _ _ P _ _ _ _ _ hp hl)
  · exact hk.elim
theorem s_goto {off : Int} {tg : Nat} (hd : decode mm.2.1 pc = .ok (.goto off, 3)) (ho : (pc : Int) + off = (tg : Int)) (ht : aS rep G l d mm c b Q tg K) : aS rep G l d mm c b Q pc K := by
  intro ls st x hk p e R s m args below meth cd QQ P H locs arr cells slots hp hl
  exact lv_goto P.1.1 P.1.2.1 hd ho (ht _ _ _ hk _ _ _ _ _ _ _ _ _ _ P _ _ _ _ _ hp hl)
def i_sw (z : Int32) : Int → List (aP μ) → aP μ → aP μ
  | _, [], t => t
  | lo, t0 :: ts, t => fun ls r x => (z = Int32.ofInt lo → t0 ls r x) ∧ (¬ z = Int32.ofInt lo → i_sw z (lo + 1) ts t ls r x)
def i_tsw (lo : Int) (ts : List (aP μ)) (t : aP μ) : aP μ
  | ls, .int z :: r, x => i_sw z lo ts t ls r x
  | _, _, _ => False
theorem i_sw_out {z : Int32} {t : aP μ} {ls r : List Value} {x : μ} : ∀ (ts : List (aP μ)) (lo : Int), -2147483648 ≤ lo → lo + ts.length ≤ 2147483648 → (z.toInt < lo ∨ lo + ts.length ≤ z.toInt) → i_sw z lo ts t ls r x → t ls r x
  | [], _, _, _, _, h => h
  | t0 :: ts, lo, h1, h2, hz, h => by
    simp only [List.length_cons, Int.natCast_add] at h2 hz
    have hn : ¬ z = Int32.ofInt lo := by
      intro e
      have e2 : z.toInt = lo := by rw [e]; exact Int32.toInt_ofInt_of_le (by simpa using h1) (by simp; omega)
      omega
    exact i_sw_out ts (lo + 1) (by omega) (by omega) (by omega) (h.2 hn)
theorem i_sw_in {z : Int32} {t : aP μ} {ls r : List Value} {x : μ} : ∀ (ts : List (aP μ)) (lo : Int) (j : Nat) (u : aP μ), z.toInt = lo + j → ts[j]? = some u → -2147483648 ≤ lo → lo + ts.length ≤ 2147483648 → i_sw z lo ts t ls r x → u ls r x
  | [], _, _, _, _, hu, _, _, _ => by simp at hu
  | t0 :: ts, lo, 0, u, hz, hu, h1, h2, h => by
    simp at hu
    subst hu
    refine h.1 (Int32.toInt_inj.mp ?_)
    rw [hz, Int32.toInt_ofInt_of_le (by simpa using h1) (by simp only [List.length_cons, Int.natCast_add] at h2; simp; omega)]
    simp
  | t0 :: ts, lo, j + 1, u, hz, hu, h1, h2, h => by
    simp only [List.length_cons, Int.natCast_add] at h2
    have hn : ¬ z = Int32.ofInt lo := by
      intro e
      have e2 : z.toInt = lo := by rw [e]; exact Int32.toInt_ofInt_of_le (by simpa using h1) (by simp; omega)
      omega
    exact i_sw_in ts (lo + 1) j u (by omega) (by simpa using hu) (by omega) (by omega) (h.2 hn)
theorem s_tsw {dfl lo hi : Int} {offs : Array Int} {len tgd : Nat} {ts : List (aP μ)} {t : aP μ} (tgs : List Nat) (hd : decode mm.2.1 pc = .ok (.tableswitch dfl lo hi offs, len)) (hlo : -2147483648 ≤ lo) (hhi : hi < 2147483648) (hlen : lo + ts.length = hi + 1) (hoff : offs.toList.map (fun o => (pc : Int) + o) = tgs.map (fun (n : Nat) => (n : Int))) (hdo : (pc : Int) + dfl = (tgd : Int)) (hsz : offs.size = ts.length) (ht : ∀ (j tg : Nat) (u : aP μ), tgs[j]? = some tg → ts[j]? = some u → aS rep G l d mm c b Q tg u) (h : aS rep G l d mm c b Q tgd t) : aS rep G l d mm c b Q pc (i_tsw lo ts t) := by
  intro ls st x hk p e R s m args below meth cd QQ P H locs arr cells slots hp hl
  unfold i_tsw at hk
  split at hk
  · rename_i z r
    by_cases hz : z.toInt < lo ∨ hi < z.toInt
    · exact lv_tableOut P.1.1 P.1.2.1 hd hz hdo (h _ _ _ (i_sw_out ts lo hlo (by omega) (by omega) hk) _ _ _ _ _ _ _ _ _ _ P _ _ _ _ _ hp hl)
    · have hz1 : ¬ z.toInt < lo := fun q => hz (Or.inl q)
      have hz2 : ¬ hi < z.toInt := fun q => hz (Or.inr q)
      obtain ⟨j, hj⟩ : ∃ j : Nat, z.toInt = lo + j := ⟨(z.toInt - lo).toNat, by omega⟩
      have hjl : j < ts.length := by omega
      have hjo : (z.toInt - lo).toNat = j := by omega
      have hu : ts[j]? = some ts[j] := List.getElem?_eq_getElem hjl
      have ho : offs[j]? = some (offs[j]'(by omega)) := Array.getElem?_eq_getElem (by omega)
      have hm : (offs.toList.map (fun o => (pc : Int) + o))[j]? = some ((pc : Int) + (offs[j]'(by omega))) := by rw [List.getElem?_map, Array.getElem?_toList, ho]; rfl
      rw [hoff, List.getElem?_map] at hm
      cases htg : tgs[j]? with
      | none => rw [htg] at hm; cases hm
      | some tg =>
        rw [htg] at hm
        simp only [Option.map_some, Option.some.injEq] at hm
        exact lv_tableIn P.1.1 P.1.2.1 hd hz1 hz2 (by rw [hjo]; exact ho) hm.symm (ht j tg _ htg hu _ _ _ (i_sw_in ts lo j _ hj hu hlo (by omega) hk) _ _ _ _ _ _ _ _ _ _ P _ _ _ _ _ hp hl)
  · exact hk.elim
def i_iret (ty : FieldType) (q : Option Value → μ → Prop) : aP μ
  | _, [.int a], x => narrow ty (.int a) = .int a ∧ q (some (.int a)) x
  | _, _, _ => False
def i_lret (q : Option Value → μ → Prop) : aP μ
  | _, [.long a], x => q (some (.long a)) x
  | _, _, _ => False
def i_aret (q : Option Value → μ → Prop) : aP μ
  | _, [.ref a], x => q (some (.ref a)) x
  | _, [.null], x => q (some .null) x
  | _, _, _ => False
def i_vret (q : Option Value → μ → Prop) : aP μ
  | _, [], x => q none x
  | _, _, _ => False
theorem aHp.zero {rep : μ → Heap → Prop} {G : aG} {R : Room} {s : State} {c b : Nat} {x : μ} {H : Heap} {locs : List Loc} {cells slots : Nat} (h : aHp rep G R s c b x H locs cells slots) : aHp rep G R s 0 0 x H locs cells slots := ⟨Nat.le_trans (Nat.le_add_right _ _) h.1, Nat.le_trans (Nat.le_add_right _ _) h.2.1, h.2.2⟩
theorem s_iret {ty : FieldType} (hd : decode mm.2.1 pc = .ok (.ireturn, 1)) (hr : mm.2.2.2 = some ty) : aS rep G l d mm c b Q pc (i_iret ty Q) := by
  intro ls st x hk p e R s m args below meth cd QQ P H locs arr cells slots hp hl
  unfold i_iret at hk
  split at hk
  · exact P.2.2 (some (.int _)) x H locs cells slots pc arr hk.2 hp.zero ⟨ty, hr, hk.1⟩ hd
  · exact hk.elim
theorem s_lret (hd : decode mm.2.1 pc = .ok (.lreturn, 1)) (hr : mm.2.2.2 = some .long) : aS rep G l d mm c b Q pc (i_lret Q) := by
  intro ls st x hk p e R s m args below meth cd QQ P H locs arr cells slots hp hl
  unfold i_lret at hk
  split at hk
  · exact P.2.2 (some (.long _)) x H locs cells slots pc arr hk hp.zero hr hd
  · exact hk.elim
theorem s_aret {C : String} (hd : decode mm.2.1 pc = .ok (.areturn, 1)) (hr : mm.2.2.2 = some (.object C)) : aS rep G l d mm c b Q pc (i_aret Q) := by
  intro ls st x hk p e R s m args below meth cd QQ P H locs arr cells slots hp hl
  unfold i_aret at hk
  split at hk
  · exact P.2.2 (some (.ref _)) x H locs cells slots pc arr hk hp.zero ⟨C, hr⟩ hd
  · exact P.2.2 (some .null) x H locs cells slots pc arr hk hp.zero ⟨C, hr⟩ hd
  · exact hk.elim
theorem s_vret (hd : decode mm.2.1 pc = .ok (.return_, 1)) (hr : mm.2.2.2 = none) : aS rep G l d mm c b Q pc (i_vret Q) := by
  intro ls st x hk p e R s m args below meth cd QQ P H locs arr cells slots hp hl
  unfold i_vret at hk
  split at hk
  · exact P.2.2 none x H locs cells slots pc arr hk hp.zero hr hd
  · exact hk.elim
end AM2
