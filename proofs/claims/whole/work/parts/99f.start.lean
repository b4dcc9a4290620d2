/-! THE CLAIM OUT OF ONE WALK OF THE LAW'S BODY. Your part is whole_start (and what it stands on); all else here is the same for every law, but numbers. -/
def R_law : String := "CatNeedLaw"
def lw_P (b : Addr) (xs : List Int32) (args : Array Value) (s : State) : Prop := args = #[.ref b] ∧ s.IntsAt b xs ∧ xs.length ≤ 3072 ∧ (Jvm.Cond.and given_1 narrow_1).before args s = true
def lw_Q (_ : Array Value) (s : State) (o : Outcome) (t : State) : Prop := o = .returned (some (.int 1)) ∧ Framed s o t [] 600000 7302250
def lw_Z (below : List Frame) (a : Array Value) (s : State) : State → Prop := fun t => ∃ o, t.status = .running ∧ Ended t below o ∧ lw_Q a s o t
/-- the law's own end, with 1 on the stack, nothing written that was there before, its room as the claim has it -/
theorem lw_ret {p : Program} {l : Launch} {e : Env} {s : State} {m : MethodId} {below : List Frame} {meth : Method} {c : Code} {b : Nat} (hx : p.tables.exec = Jvm.exec) (hb : c.code = code) (hr : meth.sig.returnType = ret) (hlocks : meth.locks = false) {pc : Nat} {H : Heap} {ls : Array Slot} (hdg : decode code pc = .ok (.ireturn, 1)) : W p l e room_1 s m #[Value.ref b] below meth c H [] 600000 7302250 (lw_Z below #[Value.ref b] s) (F0 m pc ls [.int 1]) := by
  intro T hT X
  obtain ⟨fs, hret, hrun, hended, hW, hframe⟩ := X.leave (v := some (.int 1)) (hlocks := hlocks) (fun h => by rw [hr] at h; cases h)
  have hmeth' : T.vm.method? m = some meth := X.method'
  refine ⟨T.setFrames fs, ?_, .returned (some (.int 1)), hrun, hended, rfl, ⟨_, rfl⟩, hW, hframe⟩
  jvm_step X.here [X.here.top, hx, hb, hdg, hmeth', hr, ret, narrow_b1]
  (try refine ⟨rfl, ?_⟩); (try refine ⟨rfl, ?_⟩)
  first | (intro acts; rw [hret _ acts rfl rfl rfl]) | rw [hret _ _ rfl rfl rfl]
  exact Steps.refl _
/-- what holds at the law's entry: the machine, the code, the tables' words (any of lw_tbl by 'hts w (by decide +kernel)'), the script of L ints xs at the cell b, what the Statement gives of the start (any of its parts by flat_of_before) -/
def lw_At (p : Program) (s : State) (m : MethodId) (meth : Method) (c : Code) (b L : Nat) (xs : Nat → Int32) : Prop :=
  p.tables.exec = Jvm.exec ∧ c.code = code ∧ meth.sig.returnType = ret ∧ c.maxLocals = 4 ∧ s.vm.findClass R_law = some m.cls ∧ (∀ w ∈ lw_tbl, w.before #[Value.ref b] s = true) ∧ va_X b L xs s s.heap ∧ b < s.heap.size ∧ meth.locks = false ∧ (Jvm.Cond.and given_1 narrow_1).before #[Value.ref b] s = true
/-- both are born, and the loop begins -/
theorem lw_born {G : aG} {p : Program} {l : Launch} {e : Env} {s : State} {m : MethodId} {below : List Frame} {meth : Method} {c : Code} {b : Nat} {QQ : State → Prop} (C : aCtx G p s m #[Value.ref b] meth c (lwM meth.name)) (hG : G.2 0 = s.heap.size) {ls : Array Slot} (hl : lv_has ls 4 [(0, .ref b)])
    (kk : ∀ (H : Heap) (locs : List Loc) (ls : Array Slot), aRS G m0 H → va_S (aA G) s.heap H locs → lv_has ls 4 (lwL G b 0) → W p l e room_1 s m #[Value.ref b] below meth c H locs 894 18727 QQ (F0 m 18 ls [])) : W p l e room_1 s m #[Value.ref b] below meth c s.heap [] 0 0 QQ (F0 m 0 ls []) := by
  have hx := C.hx
  have hb : c.code = code := C.hb
  have r0 : aR0 G ((fun _ => .inr (0, []), 0) : aMD) s.heap := ⟨hG.symm, Nat.zero_le _, fun k hk => absurd hk (Nat.not_lt_zero k)⟩
  refine w_new (mm := lwM meth.name) (R := room_1) (cells := 0) (slots := 0) (locs := []) C cl_5 bw105 bw106 bw88 tyX7_ok (df_5_ok G) (by decide) (by decide) r0 va_S.rf (by decide) dL_law_0 (fun H1 hr1 hS1 => ?_)
  have hr1 : aR0 G ((va_up (fun _ => .inr (0, [])) 0 (.inr (5, df_5)), 0 + 1) : aMD) H1 := hr1
  refine lv_dup hx hb dL_law_3 rfl ?_
  refine a_callI (rep := aR0 G) (mm := lwM meth.name) (R := room_1) (rest := [.ref 0]) (a := 0) (d := 63) (d2 := 64) (cells := 0 + 1) (slots := 0 + 12) C ⟨by decide, by decide⟩ (Nat.le_refl _) ⟨by decide, by decide⟩ hr1 hS1 hl.1 (by decide) kn_X7_init rfl rfl (Or.inl bw107) bw108 (Q' := fun v y => v = none ∧ cEnd (ex m0) 0 848 (va_up (fun _ => .inr (0, [])) 0 (.inr (5, df_5)), 0 + 1) y) (n5 (d := 60) ly5_0 rfl (by decide) (show va_up (fun _ => (.inr (0, []) : va_E)) 0 (.inr (5, df_5)) 0 = .inr (5, df_5) from vu_at) (fun x' h => ⟨rfl, h⟩)) dL_law_4 (fun v y H2 locs2 hq hr2 hS2 => ?_)
  obtain ⟨rfl, hc⟩ := hq
  obtain ⟨y1, y2⟩ := y
  obtain ⟨hy2, -, hc⟩ := hc
  obtain rfl : y2 = 848 := hy2
  refine lv_astore_n (lv' := [(1, .ref (aLoc G 0)), (0, .ref b)]) hx hb dL_law_7 rfl hl (by decide) rfl (fun ls hl => ?_)
  refine w_new (mm := lwM meth.name) (R := room_1) (cells := 0 + 1 + 847) (slots := 0 + 12 + 8448) C cl_6 bw962 bw963 bw94 tyX8_ok (df_6_ok G) (by decide) (by decide) hr2 hS2 (show 848 + 1 ≤ 1000000 by decide) dL_law_8 (fun H3 hr3 hS3 => ?_)
  have hr3 : aR0 G ((va_up y1 848 (.inr (6, df_6)), 848 + 1) : aMD) H3 := hr3
  refine lv_dup hx hb dL_law_11 rfl ?_
  refine a_callI (rep := aR0 G) (mm := lwM meth.name) (R := room_1) (rest := [.ref 848]) (a := 848) (d := 61) (d2 := 64) (cells := 0 + 1 + 847 + 1) (slots := 0 + 12 + 8448 + 66) C ⟨by decide, by decide⟩ (by decide) ⟨by decide, by decide⟩ hr3 hS3 hl.1 (by decide) kn_X8_init rfl rfl (Or.inl bw964) bw965 (Q' := fun v y => v = none ∧ cEnd (ex m0) 848 46 (va_up y1 848 (.inr (6, df_6)), 848 + 1) y) (n6 (d := 60) ly6_0 rfl (by decide) (show va_up y1 848 (.inr (6, df_6)) 848 = .inr (6, df_6) from vu_at) (fun x' h => ⟨rfl, h⟩)) dL_law_12 (fun v z H4 locs4 hq hr4 hS4 => ?_)
  obtain ⟨rfl, hz2, hz1, hz⟩ := hq
  refine lv_astore_n (lv' := [(2, .ref (aLoc G 848)), (1, .ref (aLoc G 0)), (0, .ref b)]) hx hb dL_law_15 rfl hl (by decide) rfl (fun ls hl => ?_)
  refine lv_iconst (v := 0) hx hb dL_law_16 (by decide) ?_
  refine lv_istore_n (lv' := [(3, .int 0), (2, .ref (aLoc G 848)), (1, .ref (aLoc G 0)), (0, .ref b)]) hx hb dL_law_17 rfl hl (by decide) rfl (fun ls hl => ?_)
  refine kk H4 locs4 ls (aRS_0 hr4 hz2 (fun k hk => ?_)) hS4 (lv_sub hl [3, 2, 1, 0] rfl)
  by_cases h : k < 848
  · have e : z.1 k = y1 k := (hz1 k h).trans (vu_ne (by omega))
    rw [e]
    exact hc k (Nat.zero_le k) (by omega)
  · exact hz k (by omega) (by omega)
set_option maxHeartbeats 4000000 in
set_option maxRecDepth 100000 in
theorem whole_start {p : Program} {e : Env} {s : State} {m : MethodId} {below : List Frame} {meth : Method} {c : Code} (l : Launch) (hflags : l.flags = flags0) {b L : Nat} {xs : Nat → Int32} (hL : L ≤ 3072) (C0 : lw_At p s m meth c b L xs) : W p l e room_1 s m #[Value.ref b] below meth c s.heap [] 0 0 (lw_Z below #[Value.ref b] s) (entryFrame m ([Value.ref b] : List Value).toArray 4) := by
  obtain ⟨hx, hb, hr, hml, hown, hts, hX, hbl, hlocks, hgv⟩ := id C0
  obtain ⟨G, hok, hG⟩ := ent hts (flat_of_before _ hgv)
  have C : aCtx G p s m #[Value.ref b] meth c (lwM meth.name) := ⟨hx, hb, hr, hml, hown, fun w h => hts w (List.mem_filter.mp h).1, hlocks, rfl, hok⟩
  have hbA : ¬ aA G b := by
    show ¬ G.2 0 ≤ b
    rw [hG]
    exact Nat.not_le.mpr hbl
  have hl := lv_entry ([.ref b]) (n := 4) (Nat.le_of_ble_eq_true rfl)
  rw [lg_entry_eq]
  generalize (lg_sl ([.ref b]) ++ List.replicate (4 - (lg_sl ([.ref b])).length) Slot.unset).toArray = ls at hl ⊢
  have hl : lv_has ls 4 [(0, .ref b)] := hl
  refine lw_born C hG hl (fun H locs ls hrep hS hl => ?_)
  refine lw_loop C hX hbl hbA hL ⟨by decide, by decide⟩ (fun H locs ls hS => ?_) (L + 1) 0 (Nat.zero_le L) (by omega) I0 _ H locs ls RR_0 hrep hS hl
  refine va_forget (fun q hq => by have := hS.2.2 q hq; rw [← hG]; exact this) ?_
  refine W.widen (k := 600000) (n := 7302250) (by decide) (by decide) ?_
  exact lw_ret hx hb hr hlocks dL_law_1139
