/-! the law -/
def lwM (nm : String) : aMM := (⟨"CatNeedLaw", nm, ""⟩, code, 4, ret)
def lwL (G : aG) (b i : Nat) : List (Nat × Value) := [(0, .ref b), (1, .ref (aLoc G 0)), (2, .ref (aLoc G 848)), (3, .int (nI i))]
/-- what goes on after a case -/
def lwK (G : aG) (p : Program) (l : Launch) (e : Env) (s : State) (m : MethodId) (b : Nat) (below : List Frame) (meth : Method) (c : Code) (cells slots : Nat) (QQ : State → Prop) (i : Nat) : Prop := ∀ (I : aSS) (Lo : Nat → Nat → Int64) (H : Heap) (locs : List Loc) (ls : Array Slot), RR I → aRS G (I, Lo) H → va_S (aA G) s.heap H locs → lv_has ls 4 (lwL G b i) → W p l e room_1 s m #[Value.ref b] below meth c H locs cells slots QQ (F0 m 1132 ls [])
theorem lw_in {i L : Nat} (h : i + 6 ≤ L ∧ L ≤ 3072) (j : Nat) (hj : j < 6) : vp_in (nI i + nI j) L := by
  rw [nI_add]
  exact vp_in_nI (by omega) (by omega)
theorem lw_recv {G : aG} {p : Program} {s : State} {m : MethodId} {args : Array Value} {meth : Method} {cd : Code} {mm : aMM} {cls : String} {T : u_T} {N ci a : Nat} {x : aM} {H : Heap} (C : aCtx G p s m args meth cd mm) (h7 : ci < 7) (hC : vwCl[ci]? = some (cls, T, N)) (g1 : (sh a).1 = ci) (hrep : aRS G x H) : ∃ cellB : Cell, H[aLoc G a]? = some cellB ∧ cellB.vm.isStatics = false ∧ s.vm.findClass cls = some cellB.cls := by
  have hat : va_at G.1 vwCl (aLoc G a, aE G (ex x a)) H := hrep.1.at (sh_lt g1 (by omega))
  have e2 : ex x a = .inr (ci, exF ci a (x.1 a)) := by rw [ex_kind g1, exC, if_pos h7]
  rw [e2] at hat
  obtain ⟨q', h1, cell, q1, q2, q3, -⟩ := hat
  have hq' : q' = (cls, T, N) := Option.some.inj (h1.symm.trans hC)
  subst hq'
  exact ⟨cell, q1, by rw [q3]; rfl, by rw [q2]; exact (C.K.1 ci _ hC).2.1⟩
/-- the class is asked -/
theorem lw_call1 {G : aG} {p : Program} {l : Launch} {e : Env} {s : State} {m : MethodId} {b : Nat} {below : List Frame} {meth : Method} {c : Code} {H : Heap} {locs : List Loc} {cells slots n ix pc : Nat} {QQ : State → Prop} {ls : Array Slot} {m1 m2 : aMM} {As : List Value} {I : aSS} {Lo : Nat → Nat → Int64} {T : u_T} {N : Nat} (C : aCtx G p s m #[Value.ref b] meth c (lwM meth.name)) (hcs : cells ≤ 600000 ∧ slots ≤ 7302250) (hI : RR I) (hrep : aRS G (I, Lo) H) (hS : va_S (aA G) s.heap H locs) (hsz : ls.size = 4) (hn : As.length = n) (hC : vwCl[5]? = some (m1.1.cls, T, N)) (hk : aKnown m1 n) (hw : Cond.methodLink "CatNeedLaw" ix m1.1 ∈ aBIG) (hst : Cond.instanceMethod m1.1 ∈ aBIG) (hse : Cond.selects m1.1.cls m1.1 m1.1 ∈ aBIG) (hp : PAIR G l 10 m1 m2 As) (hd : decode code pc = .ok (.invokevirtual ix, 3))
    (kk : ∀ (v : Int32) (I1 : aSS) (L1 : Nat → Nat → Int64) (H1 : Heap) (locs1 : List Loc), (∀ Q2 : Option Value → aM → Prop, (∀ I2 L2, RR I2 → Q2 (some (.int v)) (I2, L2)) → aC (aRS G) G l 60 0 0 m2 (.ref 848 :: As) (I1, L1) Q2) → aRS G (I1, L1) H1 → va_S (aA G) s.heap H1 locs1 → W p l e room_1 s m #[Value.ref b] below meth c H1 locs1 cells slots QQ (F0 m (pc + 3) ls [.int v])) : W p l e room_1 s m #[Value.ref b] below meth c H locs cells slots QQ (F0 m pc ls ((As.reverse ++ [Value.ref 0]).map (aV G))) := by
  refine a_callV (R := room_1) (cells := cells) (slots := slots) (rest := []) (d := 60) (d2 := 61) (mc := 0) (ms := 0) (mm := lwM meth.name) C ⟨by decide, by decide⟩ (Nat.le_refl _) ⟨by show cells + 0 ≤ 600000; omega, by show slots + 0 ≤ 7302250; omega⟩ hrep hS hsz hn (Nat.le_of_ble_eq_true rfl) hk hw hst hse (lw_recv (ci := 5) C (by omega) hC (by decide +kernel) hrep) (Q' := fun v y => ∃ z, v = some (.int z) ∧ ∀ Q2 : Option Value → aM → Prop, (∀ I2 L2, RR I2 → Q2 (some (.int z)) (I2, L2)) → aC (aRS G) G l 60 0 0 m2 (.ref 848 :: As) y Q2) (hp I Lo _ hI (fun v I1 L1 hm => ⟨v, rfl, hm⟩)) hd (fun v y H1 locs1 hq hr1 hS1 => ?_)
  obtain ⟨z, rfl, hm⟩ := hq
  exact kk z y.1 y.2 H1 locs1 hm hr1 hS1
/-- the reference is asked -/
theorem lw_call2 {G : aG} {p : Program} {l : Launch} {e : Env} {s : State} {m : MethodId} {b : Nat} {below : List Frame} {meth : Method} {c : Code} {H : Heap} {locs : List Loc} {cells slots n ix pc : Nat} {QQ : State → Prop} {ls : Array Slot} {m2 : aMM} {As : List Value} {I1 : aSS} {L1 : Nat → Nat → Int64} {T : u_T} {N : Nat} {v : Int32} (C : aCtx G p s m #[Value.ref b] meth c (lwM meth.name)) (hcs : cells ≤ 600000 ∧ slots ≤ 7302250) (hrep : aRS G (I1, L1) H) (hS : va_S (aA G) s.heap H locs) (hsz : ls.size = 4) (hn : As.length = n) (hC : vwCl[6]? = some (m2.1.cls, T, N)) (hk : aKnown m2 n) (hw : Cond.methodLink "CatNeedLaw" ix m2.1 ∈ aBIG) (hst : Cond.instanceMethod m2.1 ∈ aBIG) (hse : Cond.selects m2.1.cls m2.1 m2.1 ∈ aBIG) (hm : ∀ Q2 : Option Value → aM → Prop, (∀ I2 L2, RR I2 → Q2 (some (.int v)) (I2, L2)) → aC (aRS G) G l 60 0 0 m2 (.ref 848 :: As) (I1, L1) Q2) (hd : decode code pc = .ok (.invokevirtual ix, 3))
    (kk : ∀ (I2 : aSS) (L2 : Nat → Nat → Int64) (H1 : Heap) (locs1 : List Loc), RR I2 → aRS G (I2, L2) H1 → va_S (aA G) s.heap H1 locs1 → W p l e room_1 s m #[Value.ref b] below meth c H1 locs1 cells slots QQ (F0 m (pc + 3) ls [.int v, .int v])) : W p l e room_1 s m #[Value.ref b] below meth c H locs cells slots QQ (F0 m pc ls ((As.reverse ++ [Value.ref 848, Value.int v]).map (aV G))) := by
  refine a_callV (R := room_1) (cells := cells) (slots := slots) (rest := [.int v]) (d := 60) (d2 := 61) (mc := 0) (ms := 0) (mm := lwM meth.name) C ⟨by decide, by decide⟩ (Nat.le_refl _) ⟨by show cells + 0 ≤ 600000; omega, by show slots + 0 ≤ 7302250; omega⟩ hrep hS hsz hn (Nat.le_of_ble_eq_true rfl) hk hw hst hse (lw_recv (ci := 6) C (by omega) hC (by decide +kernel) hrep) (Q' := fun w y => w = some (.int v) ∧ RR y.1) (hm _ (fun I2 L2 h => ⟨rfl, h⟩)) hd (fun w y H1 locs1 hq hr1 hS1 => ?_)
  obtain ⟨rfl, h⟩ := hq
  exact kk y.1 y.2 H1 locs1 h hr1 hS1

theorem lL_0 {G : aG} {p : Program} {l : Launch} {e : Env} {s : State} {m : MethodId} {below : List Frame} {meth : Method} {c : Code} {b L i : Nat} {xs : Nat → Int32} {H : Heap} {locs : List Loc} {cells slots : Nat} {QQ : State → Prop} {ls : Array Slot} (C : aCtx G p s m #[Value.ref b] meth c (lwM meth.name)) (hX : va_X b L xs s s.heap) (hbl : b < s.heap.size) (hbA : ¬ aA G b) (hin : i + 6 ≤ L ∧ L ≤ 3072) (hcs : cells ≤ 600000 ∧ slots ≤ 7302250) {I : aSS} {Lo : Nat → Nat → Int64} (hI : RR I) (hrep : aRS G (I, Lo) H) (hS : va_S (aA G) s.heap H locs) (hl : lv_has ls 4 (lwL G b i)) (kk : lwK G p l e s m b below meth c cells slots QQ i) : W p l e room_1 s m #[Value.ref b] below meth c H locs cells slots QQ (F0 m 176 ls []) := by
  have hx := C.hx
  have hb : c.code = code := C.hb
  refine lv_aload_n hx hb dL_law_176 rfl (lv_at hl 1 rfl) ?_
  refine lv_aload_n hx hb dL_law_177 rfl (lv_at hl 0 rfl) ?_
  refine lv_iload_n hx hb dL_law_178 rfl (lv_at hl 3 rfl) ?_
  refine lv_iconst (v := 1) hx hb dL_law_179 (by decide) ?_
  refine lv_iadd hx hb dL_law_180 ?_
  refine va_sld hx hb hX hbl hbA hS (lw_in hin 1 (by decide)) dL_law_181 ?_
  refine lv_aload_n hx hb dL_law_182 rfl (lv_at hl 0 rfl) ?_
  refine lv_iload_n hx hb dL_law_183 rfl (lv_at hl 3 rfl) ?_
  refine lv_iconst (v := 2) hx hb dL_law_184 (by decide) ?_
  refine lv_iadd hx hb dL_law_185 ?_
  refine va_sld hx hb hX hbl hbA hS (lw_in hin 2 (by decide)) dL_law_186 ?_
  refine lv_aload_n hx hb dL_law_187 rfl (lv_at hl 0 rfl) ?_
  refine lv_iload_n hx hb dL_law_188 rfl (lv_at hl 3 rfl) ?_
  refine lv_iconst (v := 3) hx hb dL_law_189 (by decide) ?_
  refine lv_iadd hx hb dL_law_190 ?_
  refine va_sld hx hb hX hbl hbA hS (lw_in hin 3 (by decide)) dL_law_191 ?_
  refine lv_aload_n hx hb dL_law_192 rfl (lv_at hl 0 rfl) ?_
  refine lv_iload_n hx hb dL_law_193 rfl (lv_at hl 3 rfl) ?_
  refine lv_iconst (v := 4) hx hb dL_law_194 (by decide) ?_
  refine lv_iadd hx hb dL_law_195 ?_
  refine va_sld hx hb hX hbl hbA hS (lw_in hin 4 (by decide)) dL_law_196 ?_
  refine lv_aload_n hx hb dL_law_197 rfl (lv_at hl 0 rfl) ?_
  refine lv_iload_n hx hb dL_law_198 rfl (lv_at hl 3 rfl) ?_
  refine lv_iconst (v := 5) hx hb dL_law_199 (by decide) ?_
  refine lv_iadd hx hb dL_law_200 ?_
  refine va_sld hx hb hX hbl hbA hS (lw_in hin 5 (by decide)) dL_law_201 ?_
  refine lw_call1 (m2 := mX8_feed) (n := 5) (As := [.int (xs (nI i + 1).toNatClampNeg), .int (xs (nI i + 2).toNatClampNeg), .int (xs (nI i + 3).toNatClampNeg), .int (xs (nI i + 4).toNatClampNeg), .int (xs (nI i + 5).toNatClampNeg)]) (T := _) (N := _) C hcs hI hrep hS hl.1 rfl rfl kn_X7_feed bw365 bw366 bw367 p_feed dL_law_202 (fun v I1 L1 H1 locs1 hm hr1 hS1 => ?_)
  have hS := hS1
  refine lv_aload_n hx hb dL_law_205 rfl (lv_at hl 2 rfl) ?_
  refine lv_aload_n hx hb dL_law_206 rfl (lv_at hl 0 rfl) ?_
  refine lv_iload_n hx hb dL_law_207 rfl (lv_at hl 3 rfl) ?_
  refine lv_iconst (v := 1) hx hb dL_law_208 (by decide) ?_
  refine lv_iadd hx hb dL_law_209 ?_
  refine va_sld hx hb hX hbl hbA hS (lw_in hin 1 (by decide)) dL_law_210 ?_
  refine lv_aload_n hx hb dL_law_211 rfl (lv_at hl 0 rfl) ?_
  refine lv_iload_n hx hb dL_law_212 rfl (lv_at hl 3 rfl) ?_
  refine lv_iconst (v := 2) hx hb dL_law_213 (by decide) ?_
  refine lv_iadd hx hb dL_law_214 ?_
  refine va_sld hx hb hX hbl hbA hS (lw_in hin 2 (by decide)) dL_law_215 ?_
  refine lv_aload_n hx hb dL_law_216 rfl (lv_at hl 0 rfl) ?_
  refine lv_iload_n hx hb dL_law_217 rfl (lv_at hl 3 rfl) ?_
  refine lv_iconst (v := 3) hx hb dL_law_218 (by decide) ?_
  refine lv_iadd hx hb dL_law_219 ?_
  refine va_sld hx hb hX hbl hbA hS (lw_in hin 3 (by decide)) dL_law_220 ?_
  refine lv_aload_n hx hb dL_law_221 rfl (lv_at hl 0 rfl) ?_
  refine lv_iload_n hx hb dL_law_222 rfl (lv_at hl 3 rfl) ?_
  refine lv_iconst (v := 4) hx hb dL_law_223 (by decide) ?_
  refine lv_iadd hx hb dL_law_224 ?_
  refine va_sld hx hb hX hbl hbA hS (lw_in hin 4 (by decide)) dL_law_225 ?_
  refine lv_aload_n hx hb dL_law_226 rfl (lv_at hl 0 rfl) ?_
  refine lv_iload_n hx hb dL_law_227 rfl (lv_at hl 3 rfl) ?_
  refine lv_iconst (v := 5) hx hb dL_law_228 (by decide) ?_
  refine lv_iadd hx hb dL_law_229 ?_
  refine va_sld hx hb hX hbl hbA hS (lw_in hin 5 (by decide)) dL_law_230 ?_
  refine lw_call2 (n := 5) (As := [.int (xs (nI i + 1).toNatClampNeg), .int (xs (nI i + 2).toNatClampNeg), .int (xs (nI i + 3).toNatClampNeg), .int (xs (nI i + 4).toNatClampNeg), .int (xs (nI i + 5).toNatClampNeg)]) (T := _) (N := _) C hcs hr1 hS1 hl.1 rfl rfl kn_X8_feed bw1167 bw1168 bw1169 hm dL_law_231 (fun I2 L2 H2 locs2 hI2 hr2 hS2 => ?_)
  refine lv_icmp_eq (tgt := 1132) hx hb dL_law_234 (by decide) (fun _ => kk I2 L2 H2 locs2 ls hI2 hr2 hS2 hl) (fun y => absurd rfl y)
theorem lL_1 {G : aG} {p : Program} {l : Launch} {e : Env} {s : State} {m : MethodId} {below : List Frame} {meth : Method} {c : Code} {b L i : Nat} {xs : Nat → Int32} {H : Heap} {locs : List Loc} {cells slots : Nat} {QQ : State → Prop} {ls : Array Slot} (C : aCtx G p s m #[Value.ref b] meth c (lwM meth.name)) (hX : va_X b L xs s s.heap) (hbl : b < s.heap.size) (hbA : ¬ aA G b) (hin : i + 6 ≤ L ∧ L ≤ 3072) (hcs : cells ≤ 600000 ∧ slots ≤ 7302250) {I : aSS} {Lo : Nat → Nat → Int64} (hI : RR I) (hrep : aRS G (I, Lo) H) (hS : va_S (aA G) s.heap H locs) (hl : lv_has ls 4 (lwL G b i)) (kk : lwK G p l e s m b below meth c cells slots QQ i) : W p l e room_1 s m #[Value.ref b] below meth c H locs cells slots QQ (F0 m 239 ls []) := by
  have hx := C.hx
  have hb : c.code = code := C.hb
  refine lv_aload_n hx hb dL_law_239 rfl (lv_at hl 1 rfl) ?_
  refine lv_aload_n hx hb dL_law_240 rfl (lv_at hl 0 rfl) ?_
  refine lv_iload_n hx hb dL_law_241 rfl (lv_at hl 3 rfl) ?_
  refine lv_iconst (v := 1) hx hb dL_law_242 (by decide) ?_
  refine lv_iadd hx hb dL_law_243 ?_
  refine va_sld hx hb hX hbl hbA hS (lw_in hin 1 (by decide)) dL_law_244 ?_
  refine lw_call1 (m2 := mX8_end) (n := 1) (As := [.int (xs (nI i + 1).toNatClampNeg)]) (T := _) (N := _) C hcs hI hrep hS hl.1 rfl rfl kn_X7_end bw373 bw374 bw375 p_end dL_law_245 (fun v I1 L1 H1 locs1 hm hr1 hS1 => ?_)
  have hS := hS1
  refine lv_aload_n hx hb dL_law_248 rfl (lv_at hl 2 rfl) ?_
  refine lv_aload_n hx hb dL_law_249 rfl (lv_at hl 0 rfl) ?_
  refine lv_iload_n hx hb dL_law_250 rfl (lv_at hl 3 rfl) ?_
  refine lv_iconst (v := 1) hx hb dL_law_251 (by decide) ?_
  refine lv_iadd hx hb dL_law_252 ?_
  refine va_sld hx hb hX hbl hbA hS (lw_in hin 1 (by decide)) dL_law_253 ?_
  refine lw_call2 (n := 1) (As := [.int (xs (nI i + 1).toNatClampNeg)]) (T := _) (N := _) C hcs hr1 hS1 hl.1 rfl rfl kn_X8_end bw1175 bw1176 bw1177 hm dL_law_254 (fun I2 L2 H2 locs2 hI2 hr2 hS2 => ?_)
  refine lv_icmp_eq (tgt := 1132) hx hb dL_law_257 (by decide) (fun _ => kk I2 L2 H2 locs2 ls hI2 hr2 hS2 hl) (fun y => absurd rfl y)
theorem lL_2 {G : aG} {p : Program} {l : Launch} {e : Env} {s : State} {m : MethodId} {below : List Frame} {meth : Method} {c : Code} {b L i : Nat} {xs : Nat → Int32} {H : Heap} {locs : List Loc} {cells slots : Nat} {QQ : State → Prop} {ls : Array Slot} (C : aCtx G p s m #[Value.ref b] meth c (lwM meth.name)) (hX : va_X b L xs s s.heap) (hbl : b < s.heap.size) (hbA : ¬ aA G b) (hin : i + 6 ≤ L ∧ L ≤ 3072) (hcs : cells ≤ 600000 ∧ slots ≤ 7302250) {I : aSS} {Lo : Nat → Nat → Int64} (hI : RR I) (hrep : aRS G (I, Lo) H) (hS : va_S (aA G) s.heap H locs) (hl : lv_has ls 4 (lwL G b i)) (kk : lwK G p l e s m b below meth c cells slots QQ i) : W p l e room_1 s m #[Value.ref b] below meth c H locs cells slots QQ (F0 m 262 ls []) := by
  have hx := C.hx
  have hb : c.code = code := C.hb
  refine lv_aload_n hx hb dL_law_262 rfl (lv_at hl 1 rfl) ?_
  refine lw_call1 (m2 := mX8_room) (n := 0) (As := []) (T := _) (N := _) C hcs hI hrep hS hl.1 rfl rfl kn_X7_room bw377 bw378 bw379 p_room dL_law_263 (fun v I1 L1 H1 locs1 hm hr1 hS1 => ?_)
  have hS := hS1
  refine lv_aload_n hx hb dL_law_266 rfl (lv_at hl 2 rfl) ?_
  refine lw_call2 (n := 0) (As := []) (T := _) (N := _) C hcs hr1 hS1 hl.1 rfl rfl kn_X8_room bw1179 bw1180 bw1181 hm dL_law_267 (fun I2 L2 H2 locs2 hI2 hr2 hS2 => ?_)
  refine lv_icmp_eq (tgt := 1132) hx hb dL_law_270 (by decide) (fun _ => kk I2 L2 H2 locs2 ls hI2 hr2 hS2 hl) (fun y => absurd rfl y)
theorem lL_3 {G : aG} {p : Program} {l : Launch} {e : Env} {s : State} {m : MethodId} {below : List Frame} {meth : Method} {c : Code} {b L i : Nat} {xs : Nat → Int32} {H : Heap} {locs : List Loc} {cells slots : Nat} {QQ : State → Prop} {ls : Array Slot} (C : aCtx G p s m #[Value.ref b] meth c (lwM meth.name)) (hX : va_X b L xs s s.heap) (hbl : b < s.heap.size) (hbA : ¬ aA G b) (hin : i + 6 ≤ L ∧ L ≤ 3072) (hcs : cells ≤ 600000 ∧ slots ≤ 7302250) {I : aSS} {Lo : Nat → Nat → Int64} (hI : RR I) (hrep : aRS G (I, Lo) H) (hS : va_S (aA G) s.heap H locs) (hl : lv_has ls 4 (lwL G b i)) (kk : lwK G p l e s m b below meth c cells slots QQ i) : W p l e room_1 s m #[Value.ref b] below meth c H locs cells slots QQ (F0 m 275 ls []) := by
  have hx := C.hx
  have hb : c.code = code := C.hb
  refine lv_aload_n hx hb dL_law_275 rfl (lv_at hl 1 rfl) ?_
  refine lw_call1 (m2 := mX8_rule) (n := 0) (As := []) (T := _) (N := _) C hcs hI hrep hS hl.1 rfl rfl kn_X7_rule bw502 bw503 bw504 p_rule dL_law_276 (fun v I1 L1 H1 locs1 hm hr1 hS1 => ?_)
  have hS := hS1
  refine lv_aload_n hx hb dL_law_279 rfl (lv_at hl 2 rfl) ?_
  refine lw_call2 (n := 0) (As := []) (T := _) (N := _) C hcs hr1 hS1 hl.1 rfl rfl kn_X8_rule bw1257 bw1258 bw1259 hm dL_law_280 (fun I2 L2 H2 locs2 hI2 hr2 hS2 => ?_)
  refine lv_icmp_eq (tgt := 1132) hx hb dL_law_283 (by decide) (fun _ => kk I2 L2 H2 locs2 ls hI2 hr2 hS2 hl) (fun y => absurd rfl y)
theorem lL_4 {G : aG} {p : Program} {l : Launch} {e : Env} {s : State} {m : MethodId} {below : List Frame} {meth : Method} {c : Code} {b L i : Nat} {xs : Nat → Int32} {H : Heap} {locs : List Loc} {cells slots : Nat} {QQ : State → Prop} {ls : Array Slot} (C : aCtx G p s m #[Value.ref b] meth c (lwM meth.name)) (hX : va_X b L xs s s.heap) (hbl : b < s.heap.size) (hbA : ¬ aA G b) (hin : i + 6 ≤ L ∧ L ≤ 3072) (hcs : cells ≤ 600000 ∧ slots ≤ 7302250) {I : aSS} {Lo : Nat → Nat → Int64} (hI : RR I) (hrep : aRS G (I, Lo) H) (hS : va_S (aA G) s.heap H locs) (hl : lv_has ls 4 (lwL G b i)) (kk : lwK G p l e s m b below meth c cells slots QQ i) : W p l e room_1 s m #[Value.ref b] below meth c H locs cells slots QQ (F0 m 288 ls []) := by
  have hx := C.hx
  have hb : c.code = code := C.hb
  refine lv_aload_n hx hb dL_law_288 rfl (lv_at hl 1 rfl) ?_
  refine lv_aload_n hx hb dL_law_289 rfl (lv_at hl 0 rfl) ?_
  refine lv_iload_n hx hb dL_law_290 rfl (lv_at hl 3 rfl) ?_
  refine lv_iconst (v := 1) hx hb dL_law_291 (by decide) ?_
  refine lv_iadd hx hb dL_law_292 ?_
  refine va_sld hx hb hX hbl hbA hS (lw_in hin 1 (by decide)) dL_law_293 ?_
  refine lw_call1 (m2 := mX8_force) (n := 1) (As := [.int (xs (nI i + 1).toNatClampNeg)]) (T := _) (N := _) C hcs hI hrep hS hl.1 rfl rfl kn_X7_force bw631 bw632 bw633 p_force dL_law_294 (fun v I1 L1 H1 locs1 hm hr1 hS1 => ?_)
  have hS := hS1
  refine lv_aload_n hx hb dL_law_297 rfl (lv_at hl 2 rfl) ?_
  refine lv_aload_n hx hb dL_law_298 rfl (lv_at hl 0 rfl) ?_
  refine lv_iload_n hx hb dL_law_299 rfl (lv_at hl 3 rfl) ?_
  refine lv_iconst (v := 1) hx hb dL_law_300 (by decide) ?_
  refine lv_iadd hx hb dL_law_301 ?_
  refine va_sld hx hb hX hbl hbA hS (lw_in hin 1 (by decide)) dL_law_302 ?_
  refine lw_call2 (n := 1) (As := [.int (xs (nI i + 1).toNatClampNeg)]) (T := _) (N := _) C hcs hr1 hS1 hl.1 rfl rfl kn_X8_force bw1330 bw1331 bw1332 hm dL_law_303 (fun I2 L2 H2 locs2 hI2 hr2 hS2 => ?_)
  refine lv_icmp_eq (tgt := 1132) hx hb dL_law_306 (by decide) (fun _ => kk I2 L2 H2 locs2 ls hI2 hr2 hS2 hl) (fun y => absurd rfl y)
theorem lL_5 {G : aG} {p : Program} {l : Launch} {e : Env} {s : State} {m : MethodId} {below : List Frame} {meth : Method} {c : Code} {b L i : Nat} {xs : Nat → Int32} {H : Heap} {locs : List Loc} {cells slots : Nat} {QQ : State → Prop} {ls : Array Slot} (C : aCtx G p s m #[Value.ref b] meth c (lwM meth.name)) (hX : va_X b L xs s s.heap) (hbl : b < s.heap.size) (hbA : ¬ aA G b) (hin : i + 6 ≤ L ∧ L ≤ 3072) (hcs : cells ≤ 600000 ∧ slots ≤ 7302250) {I : aSS} {Lo : Nat → Nat → Int64} (hI : RR I) (hrep : aRS G (I, Lo) H) (hS : va_S (aA G) s.heap H locs) (hl : lv_has ls 4 (lwL G b i)) (kk : lwK G p l e s m b below meth c cells slots QQ i) : W p l e room_1 s m #[Value.ref b] below meth c H locs cells slots QQ (F0 m 311 ls []) := by
  have hx := C.hx
  have hb : c.code = code := C.hb
  refine lv_aload_n hx hb dL_law_311 rfl (lv_at hl 1 rfl) ?_
  refine lv_aload_n hx hb dL_law_312 rfl (lv_at hl 0 rfl) ?_
  refine lv_iload_n hx hb dL_law_313 rfl (lv_at hl 3 rfl) ?_
  refine lv_iconst (v := 1) hx hb dL_law_314 (by decide) ?_
  refine lv_iadd hx hb dL_law_315 ?_
  refine va_sld hx hb hX hbl hbA hS (lw_in hin 1 (by decide)) dL_law_316 ?_
  refine lv_aload_n hx hb dL_law_317 rfl (lv_at hl 0 rfl) ?_
  refine lv_iload_n hx hb dL_law_318 rfl (lv_at hl 3 rfl) ?_
  refine lv_iconst (v := 2) hx hb dL_law_319 (by decide) ?_
  refine lv_iadd hx hb dL_law_320 ?_
  refine va_sld hx hb hX hbl hbA hS (lw_in hin 2 (by decide)) dL_law_321 ?_
  refine lw_call1 (m2 := mX8_thing) (n := 2) (As := [.int (xs (nI i + 1).toNatClampNeg), .int (xs (nI i + 2).toNatClampNeg)]) (T := _) (N := _) C hcs hI hrep hS hl.1 rfl rfl kn_X7_thing bw635 bw636 bw637 p_thing dL_law_322 (fun v I1 L1 H1 locs1 hm hr1 hS1 => ?_)
  have hS := hS1
  refine lv_aload_n hx hb dL_law_325 rfl (lv_at hl 2 rfl) ?_
  refine lv_aload_n hx hb dL_law_326 rfl (lv_at hl 0 rfl) ?_
  refine lv_iload_n hx hb dL_law_327 rfl (lv_at hl 3 rfl) ?_
  refine lv_iconst (v := 1) hx hb dL_law_328 (by decide) ?_
  refine lv_iadd hx hb dL_law_329 ?_
  refine va_sld hx hb hX hbl hbA hS (lw_in hin 1 (by decide)) dL_law_330 ?_
  refine lv_aload_n hx hb dL_law_331 rfl (lv_at hl 0 rfl) ?_
  refine lv_iload_n hx hb dL_law_332 rfl (lv_at hl 3 rfl) ?_
  refine lv_iconst (v := 2) hx hb dL_law_333 (by decide) ?_
  refine lv_iadd hx hb dL_law_334 ?_
  refine va_sld hx hb hX hbl hbA hS (lw_in hin 2 (by decide)) dL_law_335 ?_
  refine lw_call2 (n := 2) (As := [.int (xs (nI i + 1).toNatClampNeg), .int (xs (nI i + 2).toNatClampNeg)]) (T := _) (N := _) C hcs hr1 hS1 hl.1 rfl rfl kn_X8_thing bw1335 bw1336 bw1337 hm dL_law_336 (fun I2 L2 H2 locs2 hI2 hr2 hS2 => ?_)
  refine lv_icmp_eq (tgt := 1132) hx hb dL_law_339 (by decide) (fun _ => kk I2 L2 H2 locs2 ls hI2 hr2 hS2 hl) (fun y => absurd rfl y)
theorem lL_6 {G : aG} {p : Program} {l : Launch} {e : Env} {s : State} {m : MethodId} {below : List Frame} {meth : Method} {c : Code} {b L i : Nat} {xs : Nat → Int32} {H : Heap} {locs : List Loc} {cells slots : Nat} {QQ : State → Prop} {ls : Array Slot} (C : aCtx G p s m #[Value.ref b] meth c (lwM meth.name)) (hX : va_X b L xs s s.heap) (hbl : b < s.heap.size) (hbA : ¬ aA G b) (hin : i + 6 ≤ L ∧ L ≤ 3072) (hcs : cells ≤ 600000 ∧ slots ≤ 7302250) {I : aSS} {Lo : Nat → Nat → Int64} (hI : RR I) (hrep : aRS G (I, Lo) H) (hS : va_S (aA G) s.heap H locs) (hl : lv_has ls 4 (lwL G b i)) (kk : lwK G p l e s m b below meth c cells slots QQ i) : W p l e room_1 s m #[Value.ref b] below meth c H locs cells slots QQ (F0 m 344 ls []) := by
  have hx := C.hx
  have hb : c.code = code := C.hb
  refine lv_aload_n hx hb dL_law_344 rfl (lv_at hl 1 rfl) ?_
  refine lv_aload_n hx hb dL_law_345 rfl (lv_at hl 0 rfl) ?_
  refine lv_iload_n hx hb dL_law_346 rfl (lv_at hl 3 rfl) ?_
  refine lv_iconst (v := 1) hx hb dL_law_347 (by decide) ?_
  refine lv_iadd hx hb dL_law_348 ?_
  refine va_sld hx hb hX hbl hbA hS (lw_in hin 1 (by decide)) dL_law_349 ?_
  refine lv_aload_n hx hb dL_law_350 rfl (lv_at hl 0 rfl) ?_
  refine lv_iload_n hx hb dL_law_351 rfl (lv_at hl 3 rfl) ?_
  refine lv_iconst (v := 2) hx hb dL_law_352 (by decide) ?_
  refine lv_iadd hx hb dL_law_353 ?_
  refine va_sld hx hb hX hbl hbA hS (lw_in hin 2 (by decide)) dL_law_354 ?_
  refine lw_call1 (m2 := mX8_cat) (n := 2) (As := [.int (xs (nI i + 1).toNatClampNeg), .int (xs (nI i + 2).toNatClampNeg)]) (T := _) (N := _) C hcs hI hrep hS hl.1 rfl rfl kn_X7_cat bw655 bw656 bw657 p_cat dL_law_355 (fun v I1 L1 H1 locs1 hm hr1 hS1 => ?_)
  have hS := hS1
  refine lv_aload_n hx hb dL_law_358 rfl (lv_at hl 2 rfl) ?_
  refine lv_aload_n hx hb dL_law_359 rfl (lv_at hl 0 rfl) ?_
  refine lv_iload_n hx hb dL_law_360 rfl (lv_at hl 3 rfl) ?_
  refine lv_iconst (v := 1) hx hb dL_law_361 (by decide) ?_
  refine lv_iadd hx hb dL_law_362 ?_
  refine va_sld hx hb hX hbl hbA hS (lw_in hin 1 (by decide)) dL_law_363 ?_
  refine lv_aload_n hx hb dL_law_364 rfl (lv_at hl 0 rfl) ?_
  refine lv_iload_n hx hb dL_law_365 rfl (lv_at hl 3 rfl) ?_
  refine lv_iconst (v := 2) hx hb dL_law_366 (by decide) ?_
  refine lv_iadd hx hb dL_law_367 ?_
  refine va_sld hx hb hX hbl hbA hS (lw_in hin 2 (by decide)) dL_law_368 ?_
  refine lw_call2 (n := 2) (As := [.int (xs (nI i + 1).toNatClampNeg), .int (xs (nI i + 2).toNatClampNeg)]) (T := _) (N := _) C hcs hr1 hS1 hl.1 rfl rfl kn_X8_cat bw1355 bw1356 bw1357 hm dL_law_369 (fun I2 L2 H2 locs2 hI2 hr2 hS2 => ?_)
  refine lv_icmp_eq (tgt := 1132) hx hb dL_law_372 (by decide) (fun _ => kk I2 L2 H2 locs2 ls hI2 hr2 hS2 hl) (fun y => absurd rfl y)
theorem lL_7 {G : aG} {p : Program} {l : Launch} {e : Env} {s : State} {m : MethodId} {below : List Frame} {meth : Method} {c : Code} {b L i : Nat} {xs : Nat → Int32} {H : Heap} {locs : List Loc} {cells slots : Nat} {QQ : State → Prop} {ls : Array Slot} (C : aCtx G p s m #[Value.ref b] meth c (lwM meth.name)) (hX : va_X b L xs s s.heap) (hbl : b < s.heap.size) (hbA : ¬ aA G b) (hin : i + 6 ≤ L ∧ L ≤ 3072) (hcs : cells ≤ 600000 ∧ slots ≤ 7302250) {I : aSS} {Lo : Nat → Nat → Int64} (hI : RR I) (hrep : aRS G (I, Lo) H) (hS : va_S (aA G) s.heap H locs) (hl : lv_has ls 4 (lwL G b i)) (kk : lwK G p l e s m b below meth c cells slots QQ i) : W p l e room_1 s m #[Value.ref b] below meth c H locs cells slots QQ (F0 m 377 ls []) := by
  have hx := C.hx
  have hb : c.code = code := C.hb
  refine lv_aload_n hx hb dL_law_377 rfl (lv_at hl 1 rfl) ?_
  refine lv_aload_n hx hb dL_law_378 rfl (lv_at hl 0 rfl) ?_
  refine lv_iload_n hx hb dL_law_379 rfl (lv_at hl 3 rfl) ?_
  refine lv_iconst (v := 1) hx hb dL_law_380 (by decide) ?_
  refine lv_iadd hx hb dL_law_381 ?_
  refine va_sld hx hb hX hbl hbA hS (lw_in hin 1 (by decide)) dL_law_382 ?_
  refine lv_aload_n hx hb dL_law_383 rfl (lv_at hl 0 rfl) ?_
  refine lv_iload_n hx hb dL_law_384 rfl (lv_at hl 3 rfl) ?_
  refine lv_iconst (v := 2) hx hb dL_law_385 (by decide) ?_
  refine lv_iadd hx hb dL_law_386 ?_
  refine va_sld hx hb hX hbl hbA hS (lw_in hin 2 (by decide)) dL_law_387 ?_
  refine lw_call1 (m2 := mX8_need) (n := 2) (As := [.int (xs (nI i + 1).toNatClampNeg), .int (xs (nI i + 2).toNatClampNeg)]) (T := _) (N := _) C hcs hI hrep hS hl.1 rfl rfl kn_X7_need bw663 bw664 bw665 p_need dL_law_388 (fun v I1 L1 H1 locs1 hm hr1 hS1 => ?_)
  have hS := hS1
  refine lv_aload_n hx hb dL_law_391 rfl (lv_at hl 2 rfl) ?_
  refine lv_aload_n hx hb dL_law_392 rfl (lv_at hl 0 rfl) ?_
  refine lv_iload_n hx hb dL_law_393 rfl (lv_at hl 3 rfl) ?_
  refine lv_iconst (v := 1) hx hb dL_law_394 (by decide) ?_
  refine lv_iadd hx hb dL_law_395 ?_
  refine va_sld hx hb hX hbl hbA hS (lw_in hin 1 (by decide)) dL_law_396 ?_
  refine lv_aload_n hx hb dL_law_397 rfl (lv_at hl 0 rfl) ?_
  refine lv_iload_n hx hb dL_law_398 rfl (lv_at hl 3 rfl) ?_
  refine lv_iconst (v := 2) hx hb dL_law_399 (by decide) ?_
  refine lv_iadd hx hb dL_law_400 ?_
  refine va_sld hx hb hX hbl hbA hS (lw_in hin 2 (by decide)) dL_law_401 ?_
  refine lw_call2 (n := 2) (As := [.int (xs (nI i + 1).toNatClampNeg), .int (xs (nI i + 2).toNatClampNeg)]) (T := _) (N := _) C hcs hr1 hS1 hl.1 rfl rfl kn_X8_need bw1363 bw1364 bw1365 hm dL_law_402 (fun I2 L2 H2 locs2 hI2 hr2 hS2 => ?_)
  refine lv_icmp_eq (tgt := 1132) hx hb dL_law_405 (by decide) (fun _ => kk I2 L2 H2 locs2 ls hI2 hr2 hS2 hl) (fun y => absurd rfl y)
theorem lL_8 {G : aG} {p : Program} {l : Launch} {e : Env} {s : State} {m : MethodId} {below : List Frame} {meth : Method} {c : Code} {b L i : Nat} {xs : Nat → Int32} {H : Heap} {locs : List Loc} {cells slots : Nat} {QQ : State → Prop} {ls : Array Slot} (C : aCtx G p s m #[Value.ref b] meth c (lwM meth.name)) (hX : va_X b L xs s s.heap) (hbl : b < s.heap.size) (hbA : ¬ aA G b) (hin : i + 6 ≤ L ∧ L ≤ 3072) (hcs : cells ≤ 600000 ∧ slots ≤ 7302250) {I : aSS} {Lo : Nat → Nat → Int64} (hI : RR I) (hrep : aRS G (I, Lo) H) (hS : va_S (aA G) s.heap H locs) (hl : lv_has ls 4 (lwL G b i)) (kk : lwK G p l e s m b below meth c cells slots QQ i) : W p l e room_1 s m #[Value.ref b] below meth c H locs cells slots QQ (F0 m 410 ls []) := by
  have hx := C.hx
  have hb : c.code = code := C.hb
  refine lv_aload_n hx hb dL_law_410 rfl (lv_at hl 1 rfl) ?_
  refine lw_call1 (m2 := mX8_minute) (n := 0) (As := []) (T := _) (N := _) C hcs hI hrep hS hl.1 rfl rfl kn_X7_minute bw696 bw697 bw698 p_minute dL_law_411 (fun v I1 L1 H1 locs1 hm hr1 hS1 => ?_)
  have hS := hS1
  refine lv_aload_n hx hb dL_law_414 rfl (lv_at hl 2 rfl) ?_
  refine lw_call2 (n := 0) (As := []) (T := _) (N := _) C hcs hr1 hS1 hl.1 rfl rfl kn_X8_minute bw1390 bw1391 bw1392 hm dL_law_415 (fun I2 L2 H2 locs2 hI2 hr2 hS2 => ?_)
  refine lv_icmp_eq (tgt := 1132) hx hb dL_law_418 (by decide) (fun _ => kk I2 L2 H2 locs2 ls hI2 hr2 hS2 hl) (fun y => absurd rfl y)
theorem lL_9 {G : aG} {p : Program} {l : Launch} {e : Env} {s : State} {m : MethodId} {below : List Frame} {meth : Method} {c : Code} {b L i : Nat} {xs : Nat → Int32} {H : Heap} {locs : List Loc} {cells slots : Nat} {QQ : State → Prop} {ls : Array Slot} (C : aCtx G p s m #[Value.ref b] meth c (lwM meth.name)) (hX : va_X b L xs s s.heap) (hbl : b < s.heap.size) (hbA : ¬ aA G b) (hin : i + 6 ≤ L ∧ L ≤ 3072) (hcs : cells ≤ 600000 ∧ slots ≤ 7302250) {I : aSS} {Lo : Nat → Nat → Int64} (hI : RR I) (hrep : aRS G (I, Lo) H) (hS : va_S (aA G) s.heap H locs) (hl : lv_has ls 4 (lwL G b i)) (kk : lwK G p l e s m b below meth c cells slots QQ i) : W p l e room_1 s m #[Value.ref b] below meth c H locs cells slots QQ (F0 m 423 ls []) := by
  have hx := C.hx
  have hb : c.code = code := C.hb
  refine lv_aload_n hx hb dL_law_423 rfl (lv_at hl 1 rfl) ?_
  refine lv_aload_n hx hb dL_law_424 rfl (lv_at hl 0 rfl) ?_
  refine lv_iload_n hx hb dL_law_425 rfl (lv_at hl 3 rfl) ?_
  refine lv_iconst (v := 1) hx hb dL_law_426 (by decide) ?_
  refine lv_iadd hx hb dL_law_427 ?_
  refine va_sld hx hb hX hbl hbA hS (lw_in hin 1 (by decide)) dL_law_428 ?_
  refine lw_call1 (m2 := mX8_lift) (n := 1) (As := [.int (xs (nI i + 1).toNatClampNeg)]) (T := _) (N := _) C hcs hI hrep hS hl.1 rfl rfl kn_X7_lift bw773 bw774 bw775 p_lift dL_law_429 (fun v I1 L1 H1 locs1 hm hr1 hS1 => ?_)
  have hS := hS1
  refine lv_aload_n hx hb dL_law_432 rfl (lv_at hl 2 rfl) ?_
  refine lv_aload_n hx hb dL_law_433 rfl (lv_at hl 0 rfl) ?_
  refine lv_iload_n hx hb dL_law_434 rfl (lv_at hl 3 rfl) ?_
  refine lv_iconst (v := 1) hx hb dL_law_435 (by decide) ?_
  refine lv_iadd hx hb dL_law_436 ?_
  refine va_sld hx hb hX hbl hbA hS (lw_in hin 1 (by decide)) dL_law_437 ?_
  refine lw_call2 (n := 1) (As := [.int (xs (nI i + 1).toNatClampNeg)]) (T := _) (N := _) C hcs hr1 hS1 hl.1 rfl rfl kn_X8_lift bw1443 bw1444 bw1445 hm dL_law_438 (fun I2 L2 H2 locs2 hI2 hr2 hS2 => ?_)
  refine lv_icmp_eq (tgt := 1132) hx hb dL_law_441 (by decide) (fun _ => kk I2 L2 H2 locs2 ls hI2 hr2 hS2 hl) (fun y => absurd rfl y)
theorem lL_10 {G : aG} {p : Program} {l : Launch} {e : Env} {s : State} {m : MethodId} {below : List Frame} {meth : Method} {c : Code} {b L i : Nat} {xs : Nat → Int32} {H : Heap} {locs : List Loc} {cells slots : Nat} {QQ : State → Prop} {ls : Array Slot} (C : aCtx G p s m #[Value.ref b] meth c (lwM meth.name)) (hX : va_X b L xs s s.heap) (hbl : b < s.heap.size) (hbA : ¬ aA G b) (hin : i + 6 ≤ L ∧ L ≤ 3072) (hcs : cells ≤ 600000 ∧ slots ≤ 7302250) {I : aSS} {Lo : Nat → Nat → Int64} (hI : RR I) (hrep : aRS G (I, Lo) H) (hS : va_S (aA G) s.heap H locs) (hl : lv_has ls 4 (lwL G b i)) (kk : lwK G p l e s m b below meth c cells slots QQ i) : W p l e room_1 s m #[Value.ref b] below meth c H locs cells slots QQ (F0 m 446 ls []) := by
  have hx := C.hx
  have hb : c.code = code := C.hb
  refine lv_aload_n hx hb dL_law_446 rfl (lv_at hl 1 rfl) ?_
  refine lv_aload_n hx hb dL_law_447 rfl (lv_at hl 0 rfl) ?_
  refine lv_iload_n hx hb dL_law_448 rfl (lv_at hl 3 rfl) ?_
  refine lv_iconst (v := 1) hx hb dL_law_449 (by decide) ?_
  refine lv_iadd hx hb dL_law_450 ?_
  refine va_sld hx hb hX hbl hbA hS (lw_in hin 1 (by decide)) dL_law_451 ?_
  refine lv_aload_n hx hb dL_law_452 rfl (lv_at hl 0 rfl) ?_
  refine lv_iload_n hx hb dL_law_453 rfl (lv_at hl 3 rfl) ?_
  refine lv_iconst (v := 2) hx hb dL_law_454 (by decide) ?_
  refine lv_iadd hx hb dL_law_455 ?_
  refine va_sld hx hb hX hbl hbA hS (lw_in hin 2 (by decide)) dL_law_456 ?_
  refine lw_call1 (m2 := mX8_move) (n := 2) (As := [.int (xs (nI i + 1).toNatClampNeg), .int (xs (nI i + 2).toNatClampNeg)]) (T := _) (N := _) C hcs hI hrep hS hl.1 rfl rfl kn_X7_move bw777 bw778 bw779 p_move dL_law_457 (fun v I1 L1 H1 locs1 hm hr1 hS1 => ?_)
  have hS := hS1
  refine lv_aload_n hx hb dL_law_460 rfl (lv_at hl 2 rfl) ?_
  refine lv_aload_n hx hb dL_law_461 rfl (lv_at hl 0 rfl) ?_
  refine lv_iload_n hx hb dL_law_462 rfl (lv_at hl 3 rfl) ?_
  refine lv_iconst (v := 1) hx hb dL_law_463 (by decide) ?_
  refine lv_iadd hx hb dL_law_464 ?_
  refine va_sld hx hb hX hbl hbA hS (lw_in hin 1 (by decide)) dL_law_465 ?_
  refine lv_aload_n hx hb dL_law_466 rfl (lv_at hl 0 rfl) ?_
  refine lv_iload_n hx hb dL_law_467 rfl (lv_at hl 3 rfl) ?_
  refine lv_iconst (v := 2) hx hb dL_law_468 (by decide) ?_
  refine lv_iadd hx hb dL_law_469 ?_
  refine va_sld hx hb hX hbl hbA hS (lw_in hin 2 (by decide)) dL_law_470 ?_
  refine lw_call2 (n := 2) (As := [.int (xs (nI i + 1).toNatClampNeg), .int (xs (nI i + 2).toNatClampNeg)]) (T := _) (N := _) C hcs hr1 hS1 hl.1 rfl rfl kn_X8_move bw1447 bw1448 bw1449 hm dL_law_471 (fun I2 L2 H2 locs2 hI2 hr2 hS2 => ?_)
  refine lv_icmp_eq (tgt := 1132) hx hb dL_law_474 (by decide) (fun _ => kk I2 L2 H2 locs2 ls hI2 hr2 hS2 hl) (fun y => absurd rfl y)
theorem lL_11 {G : aG} {p : Program} {l : Launch} {e : Env} {s : State} {m : MethodId} {below : List Frame} {meth : Method} {c : Code} {b L i : Nat} {xs : Nat → Int32} {H : Heap} {locs : List Loc} {cells slots : Nat} {QQ : State → Prop} {ls : Array Slot} (C : aCtx G p s m #[Value.ref b] meth c (lwM meth.name)) (hX : va_X b L xs s s.heap) (hbl : b < s.heap.size) (hbA : ¬ aA G b) (hin : i + 6 ≤ L ∧ L ≤ 3072) (hcs : cells ≤ 600000 ∧ slots ≤ 7302250) {I : aSS} {Lo : Nat → Nat → Int64} (hI : RR I) (hrep : aRS G (I, Lo) H) (hS : va_S (aA G) s.heap H locs) (hl : lv_has ls 4 (lwL G b i)) (kk : lwK G p l e s m b below meth c cells slots QQ i) : W p l e room_1 s m #[Value.ref b] below meth c H locs cells slots QQ (F0 m 479 ls []) := by
  have hx := C.hx
  have hb : c.code = code := C.hb
  refine lv_aload_n hx hb dL_law_479 rfl (lv_at hl 1 rfl) ?_
  refine lv_aload_n hx hb dL_law_480 rfl (lv_at hl 0 rfl) ?_
  refine lv_iload_n hx hb dL_law_481 rfl (lv_at hl 3 rfl) ?_
  refine lv_iconst (v := 1) hx hb dL_law_482 (by decide) ?_
  refine lv_iadd hx hb dL_law_483 ?_
  refine va_sld hx hb hX hbl hbA hS (lw_in hin 1 (by decide)) dL_law_484 ?_
  refine lw_call1 (m2 := mX8_strike) (n := 1) (As := [.int (xs (nI i + 1).toNatClampNeg)]) (T := _) (N := _) C hcs hI hrep hS hl.1 rfl rfl kn_X7_strike bw781 bw782 bw783 p_strike dL_law_485 (fun v I1 L1 H1 locs1 hm hr1 hS1 => ?_)
  have hS := hS1
  refine lv_aload_n hx hb dL_law_488 rfl (lv_at hl 2 rfl) ?_
  refine lv_aload_n hx hb dL_law_489 rfl (lv_at hl 0 rfl) ?_
  refine lv_iload_n hx hb dL_law_490 rfl (lv_at hl 3 rfl) ?_
  refine lv_iconst (v := 1) hx hb dL_law_491 (by decide) ?_
  refine lv_iadd hx hb dL_law_492 ?_
  refine va_sld hx hb hX hbl hbA hS (lw_in hin 1 (by decide)) dL_law_493 ?_
  refine lw_call2 (n := 1) (As := [.int (xs (nI i + 1).toNatClampNeg)]) (T := _) (N := _) C hcs hr1 hS1 hl.1 rfl rfl kn_X8_strike bw1451 bw1452 bw1453 hm dL_law_494 (fun I2 L2 H2 locs2 hI2 hr2 hS2 => ?_)
  refine lv_icmp_eq (tgt := 1132) hx hb dL_law_497 (by decide) (fun _ => kk I2 L2 H2 locs2 ls hI2 hr2 hS2 hl) (fun y => absurd rfl y)
theorem lL_12 {G : aG} {p : Program} {l : Launch} {e : Env} {s : State} {m : MethodId} {below : List Frame} {meth : Method} {c : Code} {b L i : Nat} {xs : Nat → Int32} {H : Heap} {locs : List Loc} {cells slots : Nat} {QQ : State → Prop} {ls : Array Slot} (C : aCtx G p s m #[Value.ref b] meth c (lwM meth.name)) (hX : va_X b L xs s s.heap) (hbl : b < s.heap.size) (hbA : ¬ aA G b) (hin : i + 6 ≤ L ∧ L ≤ 3072) (hcs : cells ≤ 600000 ∧ slots ≤ 7302250) {I : aSS} {Lo : Nat → Nat → Int64} (hI : RR I) (hrep : aRS G (I, Lo) H) (hS : va_S (aA G) s.heap H locs) (hl : lv_has ls 4 (lwL G b i)) (kk : lwK G p l e s m b below meth c cells slots QQ i) : W p l e room_1 s m #[Value.ref b] below meth c H locs cells slots QQ (F0 m 502 ls []) := by
  have hx := C.hx
  have hb : c.code = code := C.hb
  refine lv_aload_n hx hb dL_law_502 rfl (lv_at hl 1 rfl) ?_
  refine lv_aload_n hx hb dL_law_503 rfl (lv_at hl 0 rfl) ?_
  refine lv_iload_n hx hb dL_law_504 rfl (lv_at hl 3 rfl) ?_
  refine lv_iconst (v := 1) hx hb dL_law_505 (by decide) ?_
  refine lv_iadd hx hb dL_law_506 ?_
  refine va_sld hx hb hX hbl hbA hS (lw_in hin 1 (by decide)) dL_law_507 ?_
  refine lv_aload_n hx hb dL_law_508 rfl (lv_at hl 0 rfl) ?_
  refine lv_iload_n hx hb dL_law_509 rfl (lv_at hl 3 rfl) ?_
  refine lv_iconst (v := 2) hx hb dL_law_510 (by decide) ?_
  refine lv_iadd hx hb dL_law_511 ?_
  refine va_sld hx hb hX hbl hbA hS (lw_in hin 2 (by decide)) dL_law_512 ?_
  refine lw_call1 (m2 := mX8_teach) (n := 2) (As := [.int (xs (nI i + 1).toNatClampNeg), .int (xs (nI i + 2).toNatClampNeg)]) (T := _) (N := _) C hcs hI hrep hS hl.1 rfl rfl kn_X7_teach bw785 bw786 bw787 p_teach dL_law_513 (fun v I1 L1 H1 locs1 hm hr1 hS1 => ?_)
  have hS := hS1
  refine lv_aload_n hx hb dL_law_516 rfl (lv_at hl 2 rfl) ?_
  refine lv_aload_n hx hb dL_law_517 rfl (lv_at hl 0 rfl) ?_
  refine lv_iload_n hx hb dL_law_518 rfl (lv_at hl 3 rfl) ?_
  refine lv_iconst (v := 1) hx hb dL_law_519 (by decide) ?_
  refine lv_iadd hx hb dL_law_520 ?_
  refine va_sld hx hb hX hbl hbA hS (lw_in hin 1 (by decide)) dL_law_521 ?_
  refine lv_aload_n hx hb dL_law_522 rfl (lv_at hl 0 rfl) ?_
  refine lv_iload_n hx hb dL_law_523 rfl (lv_at hl 3 rfl) ?_
  refine lv_iconst (v := 2) hx hb dL_law_524 (by decide) ?_
  refine lv_iadd hx hb dL_law_525 ?_
  refine va_sld hx hb hX hbl hbA hS (lw_in hin 2 (by decide)) dL_law_526 ?_
  refine lw_call2 (n := 2) (As := [.int (xs (nI i + 1).toNatClampNeg), .int (xs (nI i + 2).toNatClampNeg)]) (T := _) (N := _) C hcs hr1 hS1 hl.1 rfl rfl kn_X8_teach bw1455 bw1456 bw1457 hm dL_law_527 (fun I2 L2 H2 locs2 hI2 hr2 hS2 => ?_)
  refine lv_icmp_eq (tgt := 1132) hx hb dL_law_530 (by decide) (fun _ => kk I2 L2 H2 locs2 ls hI2 hr2 hS2 hl) (fun y => absurd rfl y)
theorem lL_13 {G : aG} {p : Program} {l : Launch} {e : Env} {s : State} {m : MethodId} {below : List Frame} {meth : Method} {c : Code} {b L i : Nat} {xs : Nat → Int32} {H : Heap} {locs : List Loc} {cells slots : Nat} {QQ : State → Prop} {ls : Array Slot} (C : aCtx G p s m #[Value.ref b] meth c (lwM meth.name)) (hX : va_X b L xs s s.heap) (hbl : b < s.heap.size) (hbA : ¬ aA G b) (hin : i + 6 ≤ L ∧ L ≤ 3072) (hcs : cells ≤ 600000 ∧ slots ≤ 7302250) {I : aSS} {Lo : Nat → Nat → Int64} (hI : RR I) (hrep : aRS G (I, Lo) H) (hS : va_S (aA G) s.heap H locs) (hl : lv_has ls 4 (lwL G b i)) (kk : lwK G p l e s m b below meth c cells slots QQ i) : W p l e room_1 s m #[Value.ref b] below meth c H locs cells slots QQ (F0 m 535 ls []) := by
  have hx := C.hx
  have hb : c.code = code := C.hb
  refine lv_aload_n hx hb dL_law_535 rfl (lv_at hl 1 rfl) ?_
  refine lw_call1 (m2 := mX8_undo) (n := 0) (As := []) (T := _) (N := _) C hcs hI hrep hS hl.1 rfl rfl kn_X7_undo bw789 bw790 bw791 p_undo dL_law_536 (fun v I1 L1 H1 locs1 hm hr1 hS1 => ?_)
  have hS := hS1
  refine lv_aload_n hx hb dL_law_539 rfl (lv_at hl 2 rfl) ?_
  refine lw_call2 (n := 0) (As := []) (T := _) (N := _) C hcs hr1 hS1 hl.1 rfl rfl kn_X8_undo bw1374 bw1375 bw1376 hm dL_law_540 (fun I2 L2 H2 locs2 hI2 hr2 hS2 => ?_)
  refine lv_icmp_eq (tgt := 1132) hx hb dL_law_543 (by decide) (fun _ => kk I2 L2 H2 locs2 ls hI2 hr2 hS2 hl) (fun y => absurd rfl y)
theorem lL_14 {G : aG} {p : Program} {l : Launch} {e : Env} {s : State} {m : MethodId} {below : List Frame} {meth : Method} {c : Code} {b L i : Nat} {xs : Nat → Int32} {H : Heap} {locs : List Loc} {cells slots : Nat} {QQ : State → Prop} {ls : Array Slot} (C : aCtx G p s m #[Value.ref b] meth c (lwM meth.name)) (hX : va_X b L xs s s.heap) (hbl : b < s.heap.size) (hbA : ¬ aA G b) (hin : i + 6 ≤ L ∧ L ≤ 3072) (hcs : cells ≤ 600000 ∧ slots ≤ 7302250) {I : aSS} {Lo : Nat → Nat → Int64} (hI : RR I) (hrep : aRS G (I, Lo) H) (hS : va_S (aA G) s.heap H locs) (hl : lv_has ls 4 (lwL G b i)) (kk : lwK G p l e s m b below meth c cells slots QQ i) : W p l e room_1 s m #[Value.ref b] below meth c H locs cells slots QQ (F0 m 548 ls []) := by
  have hx := C.hx
  have hb : c.code = code := C.hb
  refine lv_aload_n hx hb dL_law_548 rfl (lv_at hl 1 rfl) ?_
  refine lv_aload_n hx hb dL_law_549 rfl (lv_at hl 0 rfl) ?_
  refine lv_iload_n hx hb dL_law_550 rfl (lv_at hl 3 rfl) ?_
  refine lv_iconst (v := 1) hx hb dL_law_551 (by decide) ?_
  refine lv_iadd hx hb dL_law_552 ?_
  refine va_sld hx hb hX hbl hbA hS (lw_in hin 1 (by decide)) dL_law_553 ?_
  refine lv_aload_n hx hb dL_law_554 rfl (lv_at hl 0 rfl) ?_
  refine lv_iload_n hx hb dL_law_555 rfl (lv_at hl 3 rfl) ?_
  refine lv_iconst (v := 2) hx hb dL_law_556 (by decide) ?_
  refine lv_iadd hx hb dL_law_557 ?_
  refine va_sld hx hb hX hbl hbA hS (lw_in hin 2 (by decide)) dL_law_558 ?_
  refine lv_aload_n hx hb dL_law_559 rfl (lv_at hl 0 rfl) ?_
  refine lv_iload_n hx hb dL_law_560 rfl (lv_at hl 3 rfl) ?_
  refine lv_iconst (v := 3) hx hb dL_law_561 (by decide) ?_
  refine lv_iadd hx hb dL_law_562 ?_
  refine va_sld hx hb hX hbl hbA hS (lw_in hin 3 (by decide)) dL_law_563 ?_
  refine lw_call1 (m2 := mX8_ahead) (n := 3) (As := [.int (xs (nI i + 1).toNatClampNeg), .int (xs (nI i + 2).toNatClampNeg), .int (xs (nI i + 3).toNatClampNeg)]) (T := _) (N := _) C hcs hI hrep hS hl.1 rfl rfl kn_X7_ahead bw797 bw798 bw799 p_ahead dL_law_564 (fun v I1 L1 H1 locs1 hm hr1 hS1 => ?_)
  have hS := hS1
  refine lv_aload_n hx hb dL_law_567 rfl (lv_at hl 2 rfl) ?_
  refine lv_aload_n hx hb dL_law_568 rfl (lv_at hl 0 rfl) ?_
  refine lv_iload_n hx hb dL_law_569 rfl (lv_at hl 3 rfl) ?_
  refine lv_iconst (v := 1) hx hb dL_law_570 (by decide) ?_
  refine lv_iadd hx hb dL_law_571 ?_
  refine va_sld hx hb hX hbl hbA hS (lw_in hin 1 (by decide)) dL_law_572 ?_
  refine lv_aload_n hx hb dL_law_573 rfl (lv_at hl 0 rfl) ?_
  refine lv_iload_n hx hb dL_law_574 rfl (lv_at hl 3 rfl) ?_
  refine lv_iconst (v := 2) hx hb dL_law_575 (by decide) ?_
  refine lv_iadd hx hb dL_law_576 ?_
  refine va_sld hx hb hX hbl hbA hS (lw_in hin 2 (by decide)) dL_law_577 ?_
  refine lv_aload_n hx hb dL_law_578 rfl (lv_at hl 0 rfl) ?_
  refine lv_iload_n hx hb dL_law_579 rfl (lv_at hl 3 rfl) ?_
  refine lv_iconst (v := 3) hx hb dL_law_580 (by decide) ?_
  refine lv_iadd hx hb dL_law_581 ?_
  refine va_sld hx hb hX hbl hbA hS (lw_in hin 3 (by decide)) dL_law_582 ?_
  refine lw_call2 (n := 3) (As := [.int (xs (nI i + 1).toNatClampNeg), .int (xs (nI i + 2).toNatClampNeg), .int (xs (nI i + 3).toNatClampNeg)]) (T := _) (N := _) C hcs hr1 hS1 hl.1 rfl rfl kn_X8_ahead bw1460 bw1461 bw1462 hm dL_law_583 (fun I2 L2 H2 locs2 hI2 hr2 hS2 => ?_)
  refine lv_icmp_eq (tgt := 1132) hx hb dL_law_586 (by decide) (fun _ => kk I2 L2 H2 locs2 ls hI2 hr2 hS2 hl) (fun y => absurd rfl y)
theorem lL_15 {G : aG} {p : Program} {l : Launch} {e : Env} {s : State} {m : MethodId} {below : List Frame} {meth : Method} {c : Code} {b L i : Nat} {xs : Nat → Int32} {H : Heap} {locs : List Loc} {cells slots : Nat} {QQ : State → Prop} {ls : Array Slot} (C : aCtx G p s m #[Value.ref b] meth c (lwM meth.name)) (hX : va_X b L xs s s.heap) (hbl : b < s.heap.size) (hbA : ¬ aA G b) (hin : i + 6 ≤ L ∧ L ≤ 3072) (hcs : cells ≤ 600000 ∧ slots ≤ 7302250) {I : aSS} {Lo : Nat → Nat → Int64} (hI : RR I) (hrep : aRS G (I, Lo) H) (hS : va_S (aA G) s.heap H locs) (hl : lv_has ls 4 (lwL G b i)) (kk : lwK G p l e s m b below meth c cells slots QQ i) : W p l e room_1 s m #[Value.ref b] below meth c H locs cells slots QQ (F0 m 591 ls []) := by
  have hx := C.hx
  have hb : c.code = code := C.hb
  refine lv_aload_n hx hb dL_law_591 rfl (lv_at hl 1 rfl) ?_
  refine lv_aload_n hx hb dL_law_592 rfl (lv_at hl 0 rfl) ?_
  refine lv_iload_n hx hb dL_law_593 rfl (lv_at hl 3 rfl) ?_
  refine lv_iconst (v := 1) hx hb dL_law_594 (by decide) ?_
  refine lv_iadd hx hb dL_law_595 ?_
  refine va_sld hx hb hX hbl hbA hS (lw_in hin 1 (by decide)) dL_law_596 ?_
  refine lw_call1 (m2 := mX8_due) (n := 1) (As := [.int (xs (nI i + 1).toNatClampNeg)]) (T := _) (N := _) C hcs hI hrep hS hl.1 rfl rfl kn_X7_due bw806 bw807 bw808 p_due dL_law_597 (fun v I1 L1 H1 locs1 hm hr1 hS1 => ?_)
  have hS := hS1
  refine lv_aload_n hx hb dL_law_600 rfl (lv_at hl 2 rfl) ?_
  refine lv_aload_n hx hb dL_law_601 rfl (lv_at hl 0 rfl) ?_
  refine lv_iload_n hx hb dL_law_602 rfl (lv_at hl 3 rfl) ?_
  refine lv_iconst (v := 1) hx hb dL_law_603 (by decide) ?_
  refine lv_iadd hx hb dL_law_604 ?_
  refine va_sld hx hb hX hbl hbA hS (lw_in hin 1 (by decide)) dL_law_605 ?_
  refine lw_call2 (n := 1) (As := [.int (xs (nI i + 1).toNatClampNeg)]) (T := _) (N := _) C hcs hr1 hS1 hl.1 rfl rfl kn_X8_due bw1490 bw1491 bw1492 hm dL_law_606 (fun I2 L2 H2 locs2 hI2 hr2 hS2 => ?_)
  refine lv_icmp_eq (tgt := 1132) hx hb dL_law_609 (by decide) (fun _ => kk I2 L2 H2 locs2 ls hI2 hr2 hS2 hl) (fun y => absurd rfl y)
theorem lL_16 {G : aG} {p : Program} {l : Launch} {e : Env} {s : State} {m : MethodId} {below : List Frame} {meth : Method} {c : Code} {b L i : Nat} {xs : Nat → Int32} {H : Heap} {locs : List Loc} {cells slots : Nat} {QQ : State → Prop} {ls : Array Slot} (C : aCtx G p s m #[Value.ref b] meth c (lwM meth.name)) (hX : va_X b L xs s s.heap) (hbl : b < s.heap.size) (hbA : ¬ aA G b) (hin : i + 6 ≤ L ∧ L ≤ 3072) (hcs : cells ≤ 600000 ∧ slots ≤ 7302250) {I : aSS} {Lo : Nat → Nat → Int64} (hI : RR I) (hrep : aRS G (I, Lo) H) (hS : va_S (aA G) s.heap H locs) (hl : lv_has ls 4 (lwL G b i)) (kk : lwK G p l e s m b below meth c cells slots QQ i) : W p l e room_1 s m #[Value.ref b] below meth c H locs cells slots QQ (F0 m 614 ls []) := by
  have hx := C.hx
  have hb : c.code = code := C.hb
  refine lv_aload_n hx hb dL_law_614 rfl (lv_at hl 1 rfl) ?_
  refine lv_aload_n hx hb dL_law_615 rfl (lv_at hl 0 rfl) ?_
  refine lv_iload_n hx hb dL_law_616 rfl (lv_at hl 3 rfl) ?_
  refine lv_iconst (v := 1) hx hb dL_law_617 (by decide) ?_
  refine lv_iadd hx hb dL_law_618 ?_
  refine va_sld hx hb hX hbl hbA hS (lw_in hin 1 (by decide)) dL_law_619 ?_
  refine lw_call1 (m2 := mX8_served) (n := 1) (As := [.int (xs (nI i + 1).toNatClampNeg)]) (T := _) (N := _) C hcs hI hrep hS hl.1 rfl rfl kn_X7_served bw811 bw812 bw813 p_served dL_law_620 (fun v I1 L1 H1 locs1 hm hr1 hS1 => ?_)
  have hS := hS1
  refine lv_aload_n hx hb dL_law_623 rfl (lv_at hl 2 rfl) ?_
  refine lv_aload_n hx hb dL_law_624 rfl (lv_at hl 0 rfl) ?_
  refine lv_iload_n hx hb dL_law_625 rfl (lv_at hl 3 rfl) ?_
  refine lv_iconst (v := 1) hx hb dL_law_626 (by decide) ?_
  refine lv_iadd hx hb dL_law_627 ?_
  refine va_sld hx hb hX hbl hbA hS (lw_in hin 1 (by decide)) dL_law_628 ?_
  refine lw_call2 (n := 1) (As := [.int (xs (nI i + 1).toNatClampNeg)]) (T := _) (N := _) C hcs hr1 hS1 hl.1 rfl rfl kn_X8_served bw1494 bw1495 bw1496 hm dL_law_629 (fun I2 L2 H2 locs2 hI2 hr2 hS2 => ?_)
  refine lv_icmp_eq (tgt := 1132) hx hb dL_law_632 (by decide) (fun _ => kk I2 L2 H2 locs2 ls hI2 hr2 hS2 hl) (fun y => absurd rfl y)
theorem lL_17 {G : aG} {p : Program} {l : Launch} {e : Env} {s : State} {m : MethodId} {below : List Frame} {meth : Method} {c : Code} {b L i : Nat} {xs : Nat → Int32} {H : Heap} {locs : List Loc} {cells slots : Nat} {QQ : State → Prop} {ls : Array Slot} (C : aCtx G p s m #[Value.ref b] meth c (lwM meth.name)) (hX : va_X b L xs s s.heap) (hbl : b < s.heap.size) (hbA : ¬ aA G b) (hin : i + 6 ≤ L ∧ L ≤ 3072) (hcs : cells ≤ 600000 ∧ slots ≤ 7302250) {I : aSS} {Lo : Nat → Nat → Int64} (hI : RR I) (hrep : aRS G (I, Lo) H) (hS : va_S (aA G) s.heap H locs) (hl : lv_has ls 4 (lwL G b i)) (kk : lwK G p l e s m b below meth c cells slots QQ i) : W p l e room_1 s m #[Value.ref b] below meth c H locs cells slots QQ (F0 m 637 ls []) := by
  have hx := C.hx
  have hb : c.code = code := C.hb
  refine lv_aload_n hx hb dL_law_637 rfl (lv_at hl 1 rfl) ?_
  refine lv_aload_n hx hb dL_law_638 rfl (lv_at hl 0 rfl) ?_
  refine lv_iload_n hx hb dL_law_639 rfl (lv_at hl 3 rfl) ?_
  refine lv_iconst (v := 1) hx hb dL_law_640 (by decide) ?_
  refine lv_iadd hx hb dL_law_641 ?_
  refine va_sld hx hb hX hbl hbA hS (lw_in hin 1 (by decide)) dL_law_642 ?_
  refine lv_aload_n hx hb dL_law_643 rfl (lv_at hl 0 rfl) ?_
  refine lv_iload_n hx hb dL_law_644 rfl (lv_at hl 3 rfl) ?_
  refine lv_iconst (v := 2) hx hb dL_law_645 (by decide) ?_
  refine lv_iadd hx hb dL_law_646 ?_
  refine va_sld hx hb hX hbl hbA hS (lw_in hin 2 (by decide)) dL_law_647 ?_
  refine lw_call1 (m2 := mX8_shut) (n := 2) (As := [.int (xs (nI i + 1).toNatClampNeg), .int (xs (nI i + 2).toNatClampNeg)]) (T := _) (N := _) C hcs hI hrep hS hl.1 rfl rfl kn_X7_shut bw815 bw816 bw817 p_shut dL_law_648 (fun v I1 L1 H1 locs1 hm hr1 hS1 => ?_)
  have hS := hS1
  refine lv_aload_n hx hb dL_law_651 rfl (lv_at hl 2 rfl) ?_
  refine lv_aload_n hx hb dL_law_652 rfl (lv_at hl 0 rfl) ?_
  refine lv_iload_n hx hb dL_law_653 rfl (lv_at hl 3 rfl) ?_
  refine lv_iconst (v := 1) hx hb dL_law_654 (by decide) ?_
  refine lv_iadd hx hb dL_law_655 ?_
  refine va_sld hx hb hX hbl hbA hS (lw_in hin 1 (by decide)) dL_law_656 ?_
  refine lv_aload_n hx hb dL_law_657 rfl (lv_at hl 0 rfl) ?_
  refine lv_iload_n hx hb dL_law_658 rfl (lv_at hl 3 rfl) ?_
  refine lv_iconst (v := 2) hx hb dL_law_659 (by decide) ?_
  refine lv_iadd hx hb dL_law_660 ?_
  refine va_sld hx hb hX hbl hbA hS (lw_in hin 2 (by decide)) dL_law_661 ?_
  refine lw_call2 (n := 2) (As := [.int (xs (nI i + 1).toNatClampNeg), .int (xs (nI i + 2).toNatClampNeg)]) (T := _) (N := _) C hcs hr1 hS1 hl.1 rfl rfl kn_X8_shut bw1498 bw1499 bw1500 hm dL_law_662 (fun I2 L2 H2 locs2 hI2 hr2 hS2 => ?_)
  refine lv_icmp_eq (tgt := 1132) hx hb dL_law_665 (by decide) (fun _ => kk I2 L2 H2 locs2 ls hI2 hr2 hS2 hl) (fun y => absurd rfl y)
theorem lL_18 {G : aG} {p : Program} {l : Launch} {e : Env} {s : State} {m : MethodId} {below : List Frame} {meth : Method} {c : Code} {b L i : Nat} {xs : Nat → Int32} {H : Heap} {locs : List Loc} {cells slots : Nat} {QQ : State → Prop} {ls : Array Slot} (C : aCtx G p s m #[Value.ref b] meth c (lwM meth.name)) (hX : va_X b L xs s s.heap) (hbl : b < s.heap.size) (hbA : ¬ aA G b) (hin : i + 6 ≤ L ∧ L ≤ 3072) (hcs : cells ≤ 600000 ∧ slots ≤ 7302250) {I : aSS} {Lo : Nat → Nat → Int64} (hI : RR I) (hrep : aRS G (I, Lo) H) (hS : va_S (aA G) s.heap H locs) (hl : lv_has ls 4 (lwL G b i)) (kk : lwK G p l e s m b below meth c cells slots QQ i) : W p l e room_1 s m #[Value.ref b] below meth c H locs cells slots QQ (F0 m 670 ls []) := by
  have hx := C.hx
  have hb : c.code = code := C.hb
  refine lv_aload_n hx hb dL_law_670 rfl (lv_at hl 1 rfl) ?_
  refine lv_aload_n hx hb dL_law_671 rfl (lv_at hl 0 rfl) ?_
  refine lv_iload_n hx hb dL_law_672 rfl (lv_at hl 3 rfl) ?_
  refine lv_iconst (v := 1) hx hb dL_law_673 (by decide) ?_
  refine lv_iadd hx hb dL_law_674 ?_
  refine va_sld hx hb hX hbl hbA hS (lw_in hin 1 (by decide)) dL_law_675 ?_
  refine lv_aload_n hx hb dL_law_676 rfl (lv_at hl 0 rfl) ?_
  refine lv_iload_n hx hb dL_law_677 rfl (lv_at hl 3 rfl) ?_
  refine lv_iconst (v := 2) hx hb dL_law_678 (by decide) ?_
  refine lv_iadd hx hb dL_law_679 ?_
  refine va_sld hx hb hX hbl hbA hS (lw_in hin 2 (by decide)) dL_law_680 ?_
  refine lv_aload_n hx hb dL_law_681 rfl (lv_at hl 0 rfl) ?_
  refine lv_iload_n hx hb dL_law_682 rfl (lv_at hl 3 rfl) ?_
  refine lv_iconst (v := 3) hx hb dL_law_683 (by decide) ?_
  refine lv_iadd hx hb dL_law_684 ?_
  refine va_sld hx hb hX hbl hbA hS (lw_in hin 3 (by decide)) dL_law_685 ?_
  refine lw_call1 (m2 := mX8_moved) (n := 3) (As := [.int (xs (nI i + 1).toNatClampNeg), .int (xs (nI i + 2).toNatClampNeg), .int (xs (nI i + 3).toNatClampNeg)]) (T := _) (N := _) C hcs hI hrep hS hl.1 rfl rfl kn_X7_moved bw831 bw832 bw833 p_moved dL_law_686 (fun v I1 L1 H1 locs1 hm hr1 hS1 => ?_)
  have hS := hS1
  refine lv_aload_n hx hb dL_law_689 rfl (lv_at hl 2 rfl) ?_
  refine lv_aload_n hx hb dL_law_690 rfl (lv_at hl 0 rfl) ?_
  refine lv_iload_n hx hb dL_law_691 rfl (lv_at hl 3 rfl) ?_
  refine lv_iconst (v := 1) hx hb dL_law_692 (by decide) ?_
  refine lv_iadd hx hb dL_law_693 ?_
  refine va_sld hx hb hX hbl hbA hS (lw_in hin 1 (by decide)) dL_law_694 ?_
  refine lv_aload_n hx hb dL_law_695 rfl (lv_at hl 0 rfl) ?_
  refine lv_iload_n hx hb dL_law_696 rfl (lv_at hl 3 rfl) ?_
  refine lv_iconst (v := 2) hx hb dL_law_697 (by decide) ?_
  refine lv_iadd hx hb dL_law_698 ?_
  refine va_sld hx hb hX hbl hbA hS (lw_in hin 2 (by decide)) dL_law_699 ?_
  refine lv_aload_n hx hb dL_law_700 rfl (lv_at hl 0 rfl) ?_
  refine lv_iload_n hx hb dL_law_701 rfl (lv_at hl 3 rfl) ?_
  refine lv_iconst (v := 3) hx hb dL_law_702 (by decide) ?_
  refine lv_iadd hx hb dL_law_703 ?_
  refine va_sld hx hb hX hbl hbA hS (lw_in hin 3 (by decide)) dL_law_704 ?_
  refine lw_call2 (n := 3) (As := [.int (xs (nI i + 1).toNatClampNeg), .int (xs (nI i + 2).toNatClampNeg), .int (xs (nI i + 3).toNatClampNeg)]) (T := _) (N := _) C hcs hr1 hS1 hl.1 rfl rfl kn_X8_moved bw1507 bw1508 bw1509 hm dL_law_705 (fun I2 L2 H2 locs2 hI2 hr2 hS2 => ?_)
  refine lv_icmp_eq (tgt := 1132) hx hb dL_law_708 (by decide) (fun _ => kk I2 L2 H2 locs2 ls hI2 hr2 hS2 hl) (fun y => absurd rfl y)
theorem lL_19 {G : aG} {p : Program} {l : Launch} {e : Env} {s : State} {m : MethodId} {below : List Frame} {meth : Method} {c : Code} {b L i : Nat} {xs : Nat → Int32} {H : Heap} {locs : List Loc} {cells slots : Nat} {QQ : State → Prop} {ls : Array Slot} (C : aCtx G p s m #[Value.ref b] meth c (lwM meth.name)) (hX : va_X b L xs s s.heap) (hbl : b < s.heap.size) (hbA : ¬ aA G b) (hin : i + 6 ≤ L ∧ L ≤ 3072) (hcs : cells ≤ 600000 ∧ slots ≤ 7302250) {I : aSS} {Lo : Nat → Nat → Int64} (hI : RR I) (hrep : aRS G (I, Lo) H) (hS : va_S (aA G) s.heap H locs) (hl : lv_has ls 4 (lwL G b i)) (kk : lwK G p l e s m b below meth c cells slots QQ i) : W p l e room_1 s m #[Value.ref b] below meth c H locs cells slots QQ (F0 m 713 ls []) := by
  have hx := C.hx
  have hb : c.code = code := C.hb
  refine lv_aload_n hx hb dL_law_713 rfl (lv_at hl 1 rfl) ?_
  refine lv_aload_n hx hb dL_law_714 rfl (lv_at hl 0 rfl) ?_
  refine lv_iload_n hx hb dL_law_715 rfl (lv_at hl 3 rfl) ?_
  refine lv_iconst (v := 1) hx hb dL_law_716 (by decide) ?_
  refine lv_iadd hx hb dL_law_717 ?_
  refine va_sld hx hb hX hbl hbA hS (lw_in hin 1 (by decide)) dL_law_718 ?_
  refine lv_aload_n hx hb dL_law_719 rfl (lv_at hl 0 rfl) ?_
  refine lv_iload_n hx hb dL_law_720 rfl (lv_at hl 3 rfl) ?_
  refine lv_iconst (v := 2) hx hb dL_law_721 (by decide) ?_
  refine lv_iadd hx hb dL_law_722 ?_
  refine va_sld hx hb hX hbl hbA hS (lw_in hin 2 (by decide)) dL_law_723 ?_
  refine lw_call1 (m2 := mX8_tray) (n := 2) (As := [.int (xs (nI i + 1).toNatClampNeg), .int (xs (nI i + 2).toNatClampNeg)]) (T := _) (N := _) C hcs hI hrep hS hl.1 rfl rfl kn_X7_tray bw839 bw840 bw841 p_tray dL_law_724 (fun v I1 L1 H1 locs1 hm hr1 hS1 => ?_)
  have hS := hS1
  refine lv_aload_n hx hb dL_law_727 rfl (lv_at hl 2 rfl) ?_
  refine lv_aload_n hx hb dL_law_728 rfl (lv_at hl 0 rfl) ?_
  refine lv_iload_n hx hb dL_law_729 rfl (lv_at hl 3 rfl) ?_
  refine lv_iconst (v := 1) hx hb dL_law_730 (by decide) ?_
  refine lv_iadd hx hb dL_law_731 ?_
  refine va_sld hx hb hX hbl hbA hS (lw_in hin 1 (by decide)) dL_law_732 ?_
  refine lv_aload_n hx hb dL_law_733 rfl (lv_at hl 0 rfl) ?_
  refine lv_iload_n hx hb dL_law_734 rfl (lv_at hl 3 rfl) ?_
  refine lv_iconst (v := 2) hx hb dL_law_735 (by decide) ?_
  refine lv_iadd hx hb dL_law_736 ?_
  refine va_sld hx hb hX hbl hbA hS (lw_in hin 2 (by decide)) dL_law_737 ?_
  refine lw_call2 (n := 2) (As := [.int (xs (nI i + 1).toNatClampNeg), .int (xs (nI i + 2).toNatClampNeg)]) (T := _) (N := _) C hcs hr1 hS1 hl.1 rfl rfl kn_X8_tray bw1511 bw1512 bw1513 hm dL_law_738 (fun I2 L2 H2 locs2 hI2 hr2 hS2 => ?_)
  refine lv_icmp_eq (tgt := 1132) hx hb dL_law_741 (by decide) (fun _ => kk I2 L2 H2 locs2 ls hI2 hr2 hS2 hl) (fun y => absurd rfl y)
theorem lL_20 {G : aG} {p : Program} {l : Launch} {e : Env} {s : State} {m : MethodId} {below : List Frame} {meth : Method} {c : Code} {b L i : Nat} {xs : Nat → Int32} {H : Heap} {locs : List Loc} {cells slots : Nat} {QQ : State → Prop} {ls : Array Slot} (C : aCtx G p s m #[Value.ref b] meth c (lwM meth.name)) (hX : va_X b L xs s s.heap) (hbl : b < s.heap.size) (hbA : ¬ aA G b) (hin : i + 6 ≤ L ∧ L ≤ 3072) (hcs : cells ≤ 600000 ∧ slots ≤ 7302250) {I : aSS} {Lo : Nat → Nat → Int64} (hI : RR I) (hrep : aRS G (I, Lo) H) (hS : va_S (aA G) s.heap H locs) (hl : lv_has ls 4 (lwL G b i)) (kk : lwK G p l e s m b below meth c cells slots QQ i) : W p l e room_1 s m #[Value.ref b] below meth c H locs cells slots QQ (F0 m 746 ls []) := by
  have hx := C.hx
  have hb : c.code = code := C.hb
  refine lv_aload_n hx hb dL_law_746 rfl (lv_at hl 1 rfl) ?_
  refine lv_aload_n hx hb dL_law_747 rfl (lv_at hl 0 rfl) ?_
  refine lv_iload_n hx hb dL_law_748 rfl (lv_at hl 3 rfl) ?_
  refine lv_iconst (v := 1) hx hb dL_law_749 (by decide) ?_
  refine lv_iadd hx hb dL_law_750 ?_
  refine va_sld hx hb hX hbl hbA hS (lw_in hin 1 (by decide)) dL_law_751 ?_
  refine lv_aload_n hx hb dL_law_752 rfl (lv_at hl 0 rfl) ?_
  refine lv_iload_n hx hb dL_law_753 rfl (lv_at hl 3 rfl) ?_
  refine lv_iconst (v := 2) hx hb dL_law_754 (by decide) ?_
  refine lv_iadd hx hb dL_law_755 ?_
  refine va_sld hx hb hX hbl hbA hS (lw_in hin 2 (by decide)) dL_law_756 ?_
  refine lw_call1 (m2 := mX8_knowing) (n := 2) (As := [.int (xs (nI i + 1).toNatClampNeg), .int (xs (nI i + 2).toNatClampNeg)]) (T := _) (N := _) C hcs hI hrep hS hl.1 rfl rfl kn_X7_knowing bw895 bw896 bw897 p_knowing dL_law_757 (fun v I1 L1 H1 locs1 hm hr1 hS1 => ?_)
  have hS := hS1
  refine lv_aload_n hx hb dL_law_760 rfl (lv_at hl 2 rfl) ?_
  refine lv_aload_n hx hb dL_law_761 rfl (lv_at hl 0 rfl) ?_
  refine lv_iload_n hx hb dL_law_762 rfl (lv_at hl 3 rfl) ?_
  refine lv_iconst (v := 1) hx hb dL_law_763 (by decide) ?_
  refine lv_iadd hx hb dL_law_764 ?_
  refine va_sld hx hb hX hbl hbA hS (lw_in hin 1 (by decide)) dL_law_765 ?_
  refine lv_aload_n hx hb dL_law_766 rfl (lv_at hl 0 rfl) ?_
  refine lv_iload_n hx hb dL_law_767 rfl (lv_at hl 3 rfl) ?_
  refine lv_iconst (v := 2) hx hb dL_law_768 (by decide) ?_
  refine lv_iadd hx hb dL_law_769 ?_
  refine va_sld hx hb hX hbl hbA hS (lw_in hin 2 (by decide)) dL_law_770 ?_
  refine lw_call2 (n := 2) (As := [.int (xs (nI i + 1).toNatClampNeg), .int (xs (nI i + 2).toNatClampNeg)]) (T := _) (N := _) C hcs hr1 hS1 hl.1 rfl rfl kn_X8_knowing bw1575 bw1576 bw1577 hm dL_law_771 (fun I2 L2 H2 locs2 hI2 hr2 hS2 => ?_)
  refine lv_icmp_eq (tgt := 1132) hx hb dL_law_774 (by decide) (fun _ => kk I2 L2 H2 locs2 ls hI2 hr2 hS2 hl) (fun y => absurd rfl y)
theorem lL_21 {G : aG} {p : Program} {l : Launch} {e : Env} {s : State} {m : MethodId} {below : List Frame} {meth : Method} {c : Code} {b L i : Nat} {xs : Nat → Int32} {H : Heap} {locs : List Loc} {cells slots : Nat} {QQ : State → Prop} {ls : Array Slot} (C : aCtx G p s m #[Value.ref b] meth c (lwM meth.name)) (hX : va_X b L xs s s.heap) (hbl : b < s.heap.size) (hbA : ¬ aA G b) (hin : i + 6 ≤ L ∧ L ≤ 3072) (hcs : cells ≤ 600000 ∧ slots ≤ 7302250) {I : aSS} {Lo : Nat → Nat → Int64} (hI : RR I) (hrep : aRS G (I, Lo) H) (hS : va_S (aA G) s.heap H locs) (hl : lv_has ls 4 (lwL G b i)) (kk : lwK G p l e s m b below meth c cells slots QQ i) : W p l e room_1 s m #[Value.ref b] below meth c H locs cells slots QQ (F0 m 779 ls []) := by
  have hx := C.hx
  have hb : c.code = code := C.hb
  refine lv_aload_n hx hb dL_law_779 rfl (lv_at hl 1 rfl) ?_
  refine lv_aload_n hx hb dL_law_780 rfl (lv_at hl 0 rfl) ?_
  refine lv_iload_n hx hb dL_law_781 rfl (lv_at hl 3 rfl) ?_
  refine lv_iconst (v := 1) hx hb dL_law_782 (by decide) ?_
  refine lv_iadd hx hb dL_law_783 ?_
  refine va_sld hx hb hX hbl hbA hS (lw_in hin 1 (by decide)) dL_law_784 ?_
  refine lv_aload_n hx hb dL_law_785 rfl (lv_at hl 0 rfl) ?_
  refine lv_iload_n hx hb dL_law_786 rfl (lv_at hl 3 rfl) ?_
  refine lv_iconst (v := 2) hx hb dL_law_787 (by decide) ?_
  refine lv_iadd hx hb dL_law_788 ?_
  refine va_sld hx hb hX hbl hbA hS (lw_in hin 2 (by decide)) dL_law_789 ?_
  refine lv_aload_n hx hb dL_law_790 rfl (lv_at hl 0 rfl) ?_
  refine lv_iload_n hx hb dL_law_791 rfl (lv_at hl 3 rfl) ?_
  refine lv_iconst (v := 3) hx hb dL_law_792 (by decide) ?_
  refine lv_iadd hx hb dL_law_793 ?_
  refine va_sld hx hb hX hbl hbA hS (lw_in hin 3 (by decide)) dL_law_794 ?_
  refine lv_aload_n hx hb dL_law_795 rfl (lv_at hl 0 rfl) ?_
  refine lv_iload_n hx hb dL_law_796 rfl (lv_at hl 3 rfl) ?_
  refine lv_iconst (v := 4) hx hb dL_law_797 (by decide) ?_
  refine lv_iadd hx hb dL_law_798 ?_
  refine va_sld hx hb hX hbl hbA hS (lw_in hin 4 (by decide)) dL_law_799 ?_
  refine lw_call1 (m2 := mX8_rests) (n := 4) (As := [.int (xs (nI i + 1).toNatClampNeg), .int (xs (nI i + 2).toNatClampNeg), .int (xs (nI i + 3).toNatClampNeg), .int (xs (nI i + 4).toNatClampNeg)]) (T := _) (N := _) C hcs hI hrep hS hl.1 rfl rfl kn_X7_rests bw848 bw849 bw850 p_rests dL_law_800 (fun v I1 L1 H1 locs1 hm hr1 hS1 => ?_)
  have hS := hS1
  refine lv_aload_n hx hb dL_law_803 rfl (lv_at hl 2 rfl) ?_
  refine lv_aload_n hx hb dL_law_804 rfl (lv_at hl 0 rfl) ?_
  refine lv_iload_n hx hb dL_law_805 rfl (lv_at hl 3 rfl) ?_
  refine lv_iconst (v := 1) hx hb dL_law_806 (by decide) ?_
  refine lv_iadd hx hb dL_law_807 ?_
  refine va_sld hx hb hX hbl hbA hS (lw_in hin 1 (by decide)) dL_law_808 ?_
  refine lv_aload_n hx hb dL_law_809 rfl (lv_at hl 0 rfl) ?_
  refine lv_iload_n hx hb dL_law_810 rfl (lv_at hl 3 rfl) ?_
  refine lv_iconst (v := 2) hx hb dL_law_811 (by decide) ?_
  refine lv_iadd hx hb dL_law_812 ?_
  refine va_sld hx hb hX hbl hbA hS (lw_in hin 2 (by decide)) dL_law_813 ?_
  refine lv_aload_n hx hb dL_law_814 rfl (lv_at hl 0 rfl) ?_
  refine lv_iload_n hx hb dL_law_815 rfl (lv_at hl 3 rfl) ?_
  refine lv_iconst (v := 3) hx hb dL_law_816 (by decide) ?_
  refine lv_iadd hx hb dL_law_817 ?_
  refine va_sld hx hb hX hbl hbA hS (lw_in hin 3 (by decide)) dL_law_818 ?_
  refine lv_aload_n hx hb dL_law_819 rfl (lv_at hl 0 rfl) ?_
  refine lv_iload_n hx hb dL_law_820 rfl (lv_at hl 3 rfl) ?_
  refine lv_iconst (v := 4) hx hb dL_law_821 (by decide) ?_
  refine lv_iadd hx hb dL_law_822 ?_
  refine va_sld hx hb hX hbl hbA hS (lw_in hin 4 (by decide)) dL_law_823 ?_
  refine lw_call2 (n := 4) (As := [.int (xs (nI i + 1).toNatClampNeg), .int (xs (nI i + 2).toNatClampNeg), .int (xs (nI i + 3).toNatClampNeg), .int (xs (nI i + 4).toNatClampNeg)]) (T := _) (N := _) C hcs hr1 hS1 hl.1 rfl rfl kn_X8_rests bw1520 bw1521 bw1522 hm dL_law_824 (fun I2 L2 H2 locs2 hI2 hr2 hS2 => ?_)
  refine lv_icmp_eq (tgt := 1132) hx hb dL_law_827 (by decide) (fun _ => kk I2 L2 H2 locs2 ls hI2 hr2 hS2 hl) (fun y => absurd rfl y)
theorem lL_22 {G : aG} {p : Program} {l : Launch} {e : Env} {s : State} {m : MethodId} {below : List Frame} {meth : Method} {c : Code} {b L i : Nat} {xs : Nat → Int32} {H : Heap} {locs : List Loc} {cells slots : Nat} {QQ : State → Prop} {ls : Array Slot} (C : aCtx G p s m #[Value.ref b] meth c (lwM meth.name)) (hX : va_X b L xs s s.heap) (hbl : b < s.heap.size) (hbA : ¬ aA G b) (hin : i + 6 ≤ L ∧ L ≤ 3072) (hcs : cells ≤ 600000 ∧ slots ≤ 7302250) {I : aSS} {Lo : Nat → Nat → Int64} (hI : RR I) (hrep : aRS G (I, Lo) H) (hS : va_S (aA G) s.heap H locs) (hl : lv_has ls 4 (lwL G b i)) (kk : lwK G p l e s m b below meth c cells slots QQ i) : W p l e room_1 s m #[Value.ref b] below meth c H locs cells slots QQ (F0 m 832 ls []) := by
  have hx := C.hx
  have hb : c.code = code := C.hb
  refine lv_aload_n hx hb dL_law_832 rfl (lv_at hl 1 rfl) ?_
  refine lv_aload_n hx hb dL_law_833 rfl (lv_at hl 0 rfl) ?_
  refine lv_iload_n hx hb dL_law_834 rfl (lv_at hl 3 rfl) ?_
  refine lv_iconst (v := 1) hx hb dL_law_835 (by decide) ?_
  refine lv_iadd hx hb dL_law_836 ?_
  refine va_sld hx hb hX hbl hbA hS (lw_in hin 1 (by decide)) dL_law_837 ?_
  refine lw_call1 (m2 := mX8_ring) (n := 1) (As := [.int (xs (nI i + 1).toNatClampNeg)]) (T := _) (N := _) C hcs hI hrep hS hl.1 rfl rfl kn_X7_ring bw867 bw868 bw869 p_ring dL_law_838 (fun v I1 L1 H1 locs1 hm hr1 hS1 => ?_)
  have hS := hS1
  refine lv_aload_n hx hb dL_law_841 rfl (lv_at hl 2 rfl) ?_
  refine lv_aload_n hx hb dL_law_842 rfl (lv_at hl 0 rfl) ?_
  refine lv_iload_n hx hb dL_law_843 rfl (lv_at hl 3 rfl) ?_
  refine lv_iconst (v := 1) hx hb dL_law_844 (by decide) ?_
  refine lv_iadd hx hb dL_law_845 ?_
  refine va_sld hx hb hX hbl hbA hS (lw_in hin 1 (by decide)) dL_law_846 ?_
  refine lw_call2 (n := 1) (As := [.int (xs (nI i + 1).toNatClampNeg)]) (T := _) (N := _) C hcs hr1 hS1 hl.1 rfl rfl kn_X8_ring bw1538 bw1539 bw1540 hm dL_law_847 (fun I2 L2 H2 locs2 hI2 hr2 hS2 => ?_)
  refine lv_icmp_eq (tgt := 1132) hx hb dL_law_850 (by decide) (fun _ => kk I2 L2 H2 locs2 ls hI2 hr2 hS2 hl) (fun y => absurd rfl y)
theorem lL_23 {G : aG} {p : Program} {l : Launch} {e : Env} {s : State} {m : MethodId} {below : List Frame} {meth : Method} {c : Code} {b L i : Nat} {xs : Nat → Int32} {H : Heap} {locs : List Loc} {cells slots : Nat} {QQ : State → Prop} {ls : Array Slot} (C : aCtx G p s m #[Value.ref b] meth c (lwM meth.name)) (hX : va_X b L xs s s.heap) (hbl : b < s.heap.size) (hbA : ¬ aA G b) (hin : i + 6 ≤ L ∧ L ≤ 3072) (hcs : cells ≤ 600000 ∧ slots ≤ 7302250) {I : aSS} {Lo : Nat → Nat → Int64} (hI : RR I) (hrep : aRS G (I, Lo) H) (hS : va_S (aA G) s.heap H locs) (hl : lv_has ls 4 (lwL G b i)) (kk : lwK G p l e s m b below meth c cells slots QQ i) : W p l e room_1 s m #[Value.ref b] below meth c H locs cells slots QQ (F0 m 855 ls []) := by
  have hx := C.hx
  have hb : c.code = code := C.hb
  refine lv_aload_n hx hb dL_law_855 rfl (lv_at hl 1 rfl) ?_
  refine lv_aload_n hx hb dL_law_856 rfl (lv_at hl 0 rfl) ?_
  refine lv_iload_n hx hb dL_law_857 rfl (lv_at hl 3 rfl) ?_
  refine lv_iconst (v := 1) hx hb dL_law_858 (by decide) ?_
  refine lv_iadd hx hb dL_law_859 ?_
  refine va_sld hx hb hX hbl hbA hS (lw_in hin 1 (by decide)) dL_law_860 ?_
  refine lv_aload_n hx hb dL_law_861 rfl (lv_at hl 0 rfl) ?_
  refine lv_iload_n hx hb dL_law_862 rfl (lv_at hl 3 rfl) ?_
  refine lv_iconst (v := 2) hx hb dL_law_863 (by decide) ?_
  refine lv_iadd hx hb dL_law_864 ?_
  refine va_sld hx hb hX hbl hbA hS (lw_in hin 2 (by decide)) dL_law_865 ?_
  refine lw_call1 (m2 := mX8_pence) (n := 2) (As := [.int (xs (nI i + 1).toNatClampNeg), .int (xs (nI i + 2).toNatClampNeg)]) (T := _) (N := _) C hcs hI hrep hS hl.1 rfl rfl kn_X7_pence bw879 bw880 bw881 p_pence dL_law_866 (fun v I1 L1 H1 locs1 hm hr1 hS1 => ?_)
  have hS := hS1
  refine lv_aload_n hx hb dL_law_869 rfl (lv_at hl 2 rfl) ?_
  refine lv_aload_n hx hb dL_law_870 rfl (lv_at hl 0 rfl) ?_
  refine lv_iload_n hx hb dL_law_871 rfl (lv_at hl 3 rfl) ?_
  refine lv_iconst (v := 1) hx hb dL_law_872 (by decide) ?_
  refine lv_iadd hx hb dL_law_873 ?_
  refine va_sld hx hb hX hbl hbA hS (lw_in hin 1 (by decide)) dL_law_874 ?_
  refine lv_aload_n hx hb dL_law_875 rfl (lv_at hl 0 rfl) ?_
  refine lv_iload_n hx hb dL_law_876 rfl (lv_at hl 3 rfl) ?_
  refine lv_iconst (v := 2) hx hb dL_law_877 (by decide) ?_
  refine lv_iadd hx hb dL_law_878 ?_
  refine va_sld hx hb hX hbl hbA hS (lw_in hin 2 (by decide)) dL_law_879 ?_
  refine lw_call2 (n := 2) (As := [.int (xs (nI i + 1).toNatClampNeg), .int (xs (nI i + 2).toNatClampNeg)]) (T := _) (N := _) C hcs hr1 hS1 hl.1 rfl rfl kn_X8_pence bw1550 bw1551 bw1552 hm dL_law_880 (fun I2 L2 H2 locs2 hI2 hr2 hS2 => ?_)
  refine lv_icmp_eq (tgt := 1132) hx hb dL_law_883 (by decide) (fun _ => kk I2 L2 H2 locs2 ls hI2 hr2 hS2 hl) (fun y => absurd rfl y)
theorem lL_24 {G : aG} {p : Program} {l : Launch} {e : Env} {s : State} {m : MethodId} {below : List Frame} {meth : Method} {c : Code} {b L i : Nat} {xs : Nat → Int32} {H : Heap} {locs : List Loc} {cells slots : Nat} {QQ : State → Prop} {ls : Array Slot} (C : aCtx G p s m #[Value.ref b] meth c (lwM meth.name)) (hX : va_X b L xs s s.heap) (hbl : b < s.heap.size) (hbA : ¬ aA G b) (hin : i + 6 ≤ L ∧ L ≤ 3072) (hcs : cells ≤ 600000 ∧ slots ≤ 7302250) {I : aSS} {Lo : Nat → Nat → Int64} (hI : RR I) (hrep : aRS G (I, Lo) H) (hS : va_S (aA G) s.heap H locs) (hl : lv_has ls 4 (lwL G b i)) (kk : lwK G p l e s m b below meth c cells slots QQ i) : W p l e room_1 s m #[Value.ref b] below meth c H locs cells slots QQ (F0 m 888 ls []) := by
  have hx := C.hx
  have hb : c.code = code := C.hb
  refine lv_aload_n hx hb dL_law_888 rfl (lv_at hl 1 rfl) ?_
  refine lv_aload_n hx hb dL_law_889 rfl (lv_at hl 0 rfl) ?_
  refine lv_iload_n hx hb dL_law_890 rfl (lv_at hl 3 rfl) ?_
  refine lv_iconst (v := 1) hx hb dL_law_891 (by decide) ?_
  refine lv_iadd hx hb dL_law_892 ?_
  refine va_sld hx hb hX hbl hbA hS (lw_in hin 1 (by decide)) dL_law_893 ?_
  refine lv_aload_n hx hb dL_law_894 rfl (lv_at hl 0 rfl) ?_
  refine lv_iload_n hx hb dL_law_895 rfl (lv_at hl 3 rfl) ?_
  refine lv_iconst (v := 2) hx hb dL_law_896 (by decide) ?_
  refine lv_iadd hx hb dL_law_897 ?_
  refine va_sld hx hb hX hbl hbA hS (lw_in hin 2 (by decide)) dL_law_898 ?_
  refine lv_aload_n hx hb dL_law_899 rfl (lv_at hl 0 rfl) ?_
  refine lv_iload_n hx hb dL_law_900 rfl (lv_at hl 3 rfl) ?_
  refine lv_iconst (v := 3) hx hb dL_law_901 (by decide) ?_
  refine lv_iadd hx hb dL_law_902 ?_
  refine va_sld hx hb hX hbl hbA hS (lw_in hin 3 (by decide)) dL_law_903 ?_
  refine lw_call1 (m2 := mX8_note) (n := 3) (As := [.int (xs (nI i + 1).toNatClampNeg), .int (xs (nI i + 2).toNatClampNeg), .int (xs (nI i + 3).toNatClampNeg)]) (T := _) (N := _) C hcs hI hrep hS hl.1 rfl rfl kn_X7_note bw887 bw888 bw889 p_note dL_law_904 (fun v I1 L1 H1 locs1 hm hr1 hS1 => ?_)
  have hS := hS1
  refine lv_aload_n hx hb dL_law_907 rfl (lv_at hl 2 rfl) ?_
  refine lv_aload_n hx hb dL_law_908 rfl (lv_at hl 0 rfl) ?_
  refine lv_iload_n hx hb dL_law_909 rfl (lv_at hl 3 rfl) ?_
  refine lv_iconst (v := 1) hx hb dL_law_910 (by decide) ?_
  refine lv_iadd hx hb dL_law_911 ?_
  refine va_sld hx hb hX hbl hbA hS (lw_in hin 1 (by decide)) dL_law_912 ?_
  refine lv_aload_n hx hb dL_law_913 rfl (lv_at hl 0 rfl) ?_
  refine lv_iload_n hx hb dL_law_914 rfl (lv_at hl 3 rfl) ?_
  refine lv_iconst (v := 2) hx hb dL_law_915 (by decide) ?_
  refine lv_iadd hx hb dL_law_916 ?_
  refine va_sld hx hb hX hbl hbA hS (lw_in hin 2 (by decide)) dL_law_917 ?_
  refine lv_aload_n hx hb dL_law_918 rfl (lv_at hl 0 rfl) ?_
  refine lv_iload_n hx hb dL_law_919 rfl (lv_at hl 3 rfl) ?_
  refine lv_iconst (v := 3) hx hb dL_law_920 (by decide) ?_
  refine lv_iadd hx hb dL_law_921 ?_
  refine va_sld hx hb hX hbl hbA hS (lw_in hin 3 (by decide)) dL_law_922 ?_
  refine lw_call2 (n := 3) (As := [.int (xs (nI i + 1).toNatClampNeg), .int (xs (nI i + 2).toNatClampNeg), .int (xs (nI i + 3).toNatClampNeg)]) (T := _) (N := _) C hcs hr1 hS1 hl.1 rfl rfl kn_X8_note bw1559 bw1560 bw1561 hm dL_law_923 (fun I2 L2 H2 locs2 hI2 hr2 hS2 => ?_)
  refine lv_icmp_eq (tgt := 1132) hx hb dL_law_926 (by decide) (fun _ => kk I2 L2 H2 locs2 ls hI2 hr2 hS2 hl) (fun y => absurd rfl y)
theorem lL_25 {G : aG} {p : Program} {l : Launch} {e : Env} {s : State} {m : MethodId} {below : List Frame} {meth : Method} {c : Code} {b L i : Nat} {xs : Nat → Int32} {H : Heap} {locs : List Loc} {cells slots : Nat} {QQ : State → Prop} {ls : Array Slot} (C : aCtx G p s m #[Value.ref b] meth c (lwM meth.name)) (hX : va_X b L xs s s.heap) (hbl : b < s.heap.size) (hbA : ¬ aA G b) (hin : i + 6 ≤ L ∧ L ≤ 3072) (hcs : cells ≤ 600000 ∧ slots ≤ 7302250) {I : aSS} {Lo : Nat → Nat → Int64} (hI : RR I) (hrep : aRS G (I, Lo) H) (hS : va_S (aA G) s.heap H locs) (hl : lv_has ls 4 (lwL G b i)) (kk : lwK G p l e s m b below meth c cells slots QQ i) : W p l e room_1 s m #[Value.ref b] below meth c H locs cells slots QQ (F0 m 931 ls []) := by
  have hx := C.hx
  have hb : c.code = code := C.hb
  refine lv_aload_n hx hb dL_law_931 rfl (lv_at hl 1 rfl) ?_
  refine lv_aload_n hx hb dL_law_932 rfl (lv_at hl 0 rfl) ?_
  refine lv_iload_n hx hb dL_law_933 rfl (lv_at hl 3 rfl) ?_
  refine lv_iconst (v := 1) hx hb dL_law_934 (by decide) ?_
  refine lv_iadd hx hb dL_law_935 ?_
  refine va_sld hx hb hX hbl hbA hS (lw_in hin 1 (by decide)) dL_law_936 ?_
  refine lw_call1 (m2 := mX8_ruled) (n := 1) (As := [.int (xs (nI i + 1).toNatClampNeg)]) (T := _) (N := _) C hcs hI hrep hS hl.1 rfl rfl kn_X7_ruled bw913 bw914 bw915 p_ruled dL_law_937 (fun v I1 L1 H1 locs1 hm hr1 hS1 => ?_)
  have hS := hS1
  refine lv_aload_n hx hb dL_law_940 rfl (lv_at hl 2 rfl) ?_
  refine lv_aload_n hx hb dL_law_941 rfl (lv_at hl 0 rfl) ?_
  refine lv_iload_n hx hb dL_law_942 rfl (lv_at hl 3 rfl) ?_
  refine lv_iconst (v := 1) hx hb dL_law_943 (by decide) ?_
  refine lv_iadd hx hb dL_law_944 ?_
  refine va_sld hx hb hX hbl hbA hS (lw_in hin 1 (by decide)) dL_law_945 ?_
  refine lw_call2 (n := 1) (As := [.int (xs (nI i + 1).toNatClampNeg)]) (T := _) (N := _) C hcs hr1 hS1 hl.1 rfl rfl kn_X8_ruled bw1563 bw1564 bw1565 hm dL_law_946 (fun I2 L2 H2 locs2 hI2 hr2 hS2 => ?_)
  refine lv_icmp_eq (tgt := 1132) hx hb dL_law_949 (by decide) (fun _ => kk I2 L2 H2 locs2 ls hI2 hr2 hS2 hl) (fun y => absurd rfl y)
theorem lL_26 {G : aG} {p : Program} {l : Launch} {e : Env} {s : State} {m : MethodId} {below : List Frame} {meth : Method} {c : Code} {b L i : Nat} {xs : Nat → Int32} {H : Heap} {locs : List Loc} {cells slots : Nat} {QQ : State → Prop} {ls : Array Slot} (C : aCtx G p s m #[Value.ref b] meth c (lwM meth.name)) (hX : va_X b L xs s s.heap) (hbl : b < s.heap.size) (hbA : ¬ aA G b) (hin : i + 6 ≤ L ∧ L ≤ 3072) (hcs : cells ≤ 600000 ∧ slots ≤ 7302250) {I : aSS} {Lo : Nat → Nat → Int64} (hI : RR I) (hrep : aRS G (I, Lo) H) (hS : va_S (aA G) s.heap H locs) (hl : lv_has ls 4 (lwL G b i)) (kk : lwK G p l e s m b below meth c cells slots QQ i) : W p l e room_1 s m #[Value.ref b] below meth c H locs cells slots QQ (F0 m 954 ls []) := by
  have hx := C.hx
  have hb : c.code = code := C.hb
  refine lv_aload_n hx hb dL_law_954 rfl (lv_at hl 1 rfl) ?_
  refine lv_aload_n hx hb dL_law_955 rfl (lv_at hl 0 rfl) ?_
  refine lv_iload_n hx hb dL_law_956 rfl (lv_at hl 3 rfl) ?_
  refine lv_iconst (v := 1) hx hb dL_law_957 (by decide) ?_
  refine lv_iadd hx hb dL_law_958 ?_
  refine va_sld hx hb hX hbl hbA hS (lw_in hin 1 (by decide)) dL_law_959 ?_
  refine lv_aload_n hx hb dL_law_960 rfl (lv_at hl 0 rfl) ?_
  refine lv_iload_n hx hb dL_law_961 rfl (lv_at hl 3 rfl) ?_
  refine lv_iconst (v := 2) hx hb dL_law_962 (by decide) ?_
  refine lv_iadd hx hb dL_law_963 ?_
  refine va_sld hx hb hX hbl hbA hS (lw_in hin 2 (by decide)) dL_law_964 ?_
  refine lw_call1 (m2 := mX8_look) (n := 2) (As := [.int (xs (nI i + 1).toNatClampNeg), .int (xs (nI i + 2).toNatClampNeg)]) (T := _) (N := _) C hcs hI hrep hS hl.1 rfl rfl kn_X7_look bw921 bw922 bw923 p_look dL_law_965 (fun v I1 L1 H1 locs1 hm hr1 hS1 => ?_)
  have hS := hS1
  refine lv_aload_n hx hb dL_law_968 rfl (lv_at hl 2 rfl) ?_
  refine lv_aload_n hx hb dL_law_969 rfl (lv_at hl 0 rfl) ?_
  refine lv_iload_n hx hb dL_law_970 rfl (lv_at hl 3 rfl) ?_
  refine lv_iconst (v := 1) hx hb dL_law_971 (by decide) ?_
  refine lv_iadd hx hb dL_law_972 ?_
  refine va_sld hx hb hX hbl hbA hS (lw_in hin 1 (by decide)) dL_law_973 ?_
  refine lv_aload_n hx hb dL_law_974 rfl (lv_at hl 0 rfl) ?_
  refine lv_iload_n hx hb dL_law_975 rfl (lv_at hl 3 rfl) ?_
  refine lv_iconst (v := 2) hx hb dL_law_976 (by decide) ?_
  refine lv_iadd hx hb dL_law_977 ?_
  refine va_sld hx hb hX hbl hbA hS (lw_in hin 2 (by decide)) dL_law_978 ?_
  refine lw_call2 (n := 2) (As := [.int (xs (nI i + 1).toNatClampNeg), .int (xs (nI i + 2).toNatClampNeg)]) (T := _) (N := _) C hcs hr1 hS1 hl.1 rfl rfl kn_X8_look bw1579 bw1580 bw1581 hm dL_law_979 (fun I2 L2 H2 locs2 hI2 hr2 hS2 => ?_)
  refine lv_icmp_eq (tgt := 1132) hx hb dL_law_982 (by decide) (fun _ => kk I2 L2 H2 locs2 ls hI2 hr2 hS2 hl) (fun y => absurd rfl y)
theorem lL_27 {G : aG} {p : Program} {l : Launch} {e : Env} {s : State} {m : MethodId} {below : List Frame} {meth : Method} {c : Code} {b L i : Nat} {xs : Nat → Int32} {H : Heap} {locs : List Loc} {cells slots : Nat} {QQ : State → Prop} {ls : Array Slot} (C : aCtx G p s m #[Value.ref b] meth c (lwM meth.name)) (hX : va_X b L xs s s.heap) (hbl : b < s.heap.size) (hbA : ¬ aA G b) (hin : i + 6 ≤ L ∧ L ≤ 3072) (hcs : cells ≤ 600000 ∧ slots ≤ 7302250) {I : aSS} {Lo : Nat → Nat → Int64} (hI : RR I) (hrep : aRS G (I, Lo) H) (hS : va_S (aA G) s.heap H locs) (hl : lv_has ls 4 (lwL G b i)) (kk : lwK G p l e s m b below meth c cells slots QQ i) : W p l e room_1 s m #[Value.ref b] below meth c H locs cells slots QQ (F0 m 987 ls []) := by
  have hx := C.hx
  have hb : c.code = code := C.hb
  refine lv_aload_n hx hb dL_law_987 rfl (lv_at hl 1 rfl) ?_
  refine lv_aload_n hx hb dL_law_988 rfl (lv_at hl 0 rfl) ?_
  refine lv_iload_n hx hb dL_law_989 rfl (lv_at hl 3 rfl) ?_
  refine lv_iconst (v := 1) hx hb dL_law_990 (by decide) ?_
  refine lv_iadd hx hb dL_law_991 ?_
  refine va_sld hx hb hX hbl hbA hS (lw_in hin 1 (by decide)) dL_law_992 ?_
  refine lw_call1 (m2 := mX8_seed) (n := 1) (As := [.int (xs (nI i + 1).toNatClampNeg)]) (T := _) (N := _) C hcs hI hrep hS hl.1 rfl rfl kn_X7_seed bw934 bw935 bw936 p_seed dL_law_993 (fun v I1 L1 H1 locs1 hm hr1 hS1 => ?_)
  have hS := hS1
  refine lv_aload_n hx hb dL_law_996 rfl (lv_at hl 2 rfl) ?_
  refine lv_aload_n hx hb dL_law_997 rfl (lv_at hl 0 rfl) ?_
  refine lv_iload_n hx hb dL_law_998 rfl (lv_at hl 3 rfl) ?_
  refine lv_iconst (v := 1) hx hb dL_law_999 (by decide) ?_
  refine lv_iadd hx hb dL_law_1000 ?_
  refine va_sld hx hb hX hbl hbA hS (lw_in hin 1 (by decide)) dL_law_1001 ?_
  refine lw_call2 (n := 1) (As := [.int (xs (nI i + 1).toNatClampNeg)]) (T := _) (N := _) C hcs hr1 hS1 hl.1 rfl rfl kn_X8_seed bw1587 bw1588 bw1589 hm dL_law_1002 (fun I2 L2 H2 locs2 hI2 hr2 hS2 => ?_)
  refine lv_icmp_eq (tgt := 1132) hx hb dL_law_1005 (by decide) (fun _ => kk I2 L2 H2 locs2 ls hI2 hr2 hS2 hl) (fun y => absurd rfl y)
theorem lL_28 {G : aG} {p : Program} {l : Launch} {e : Env} {s : State} {m : MethodId} {below : List Frame} {meth : Method} {c : Code} {b L i : Nat} {xs : Nat → Int32} {H : Heap} {locs : List Loc} {cells slots : Nat} {QQ : State → Prop} {ls : Array Slot} (C : aCtx G p s m #[Value.ref b] meth c (lwM meth.name)) (hX : va_X b L xs s s.heap) (hbl : b < s.heap.size) (hbA : ¬ aA G b) (hin : i + 6 ≤ L ∧ L ≤ 3072) (hcs : cells ≤ 600000 ∧ slots ≤ 7302250) {I : aSS} {Lo : Nat → Nat → Int64} (hI : RR I) (hrep : aRS G (I, Lo) H) (hS : va_S (aA G) s.heap H locs) (hl : lv_has ls 4 (lwL G b i)) (kk : lwK G p l e s m b below meth c cells slots QQ i) : W p l e room_1 s m #[Value.ref b] below meth c H locs cells slots QQ (F0 m 1010 ls []) := by
  have hx := C.hx
  have hb : c.code = code := C.hb
  refine lv_aload_n hx hb dL_law_1010 rfl (lv_at hl 1 rfl) ?_
  refine lv_aload_n hx hb dL_law_1011 rfl (lv_at hl 0 rfl) ?_
  refine lv_iload_n hx hb dL_law_1012 rfl (lv_at hl 3 rfl) ?_
  refine lv_iconst (v := 1) hx hb dL_law_1013 (by decide) ?_
  refine lv_iadd hx hb dL_law_1014 ?_
  refine va_sld hx hb hX hbl hbA hS (lw_in hin 1 (by decide)) dL_law_1015 ?_
  refine lv_aload_n hx hb dL_law_1016 rfl (lv_at hl 0 rfl) ?_
  refine lv_iload_n hx hb dL_law_1017 rfl (lv_at hl 3 rfl) ?_
  refine lv_iconst (v := 2) hx hb dL_law_1018 (by decide) ?_
  refine lv_iadd hx hb dL_law_1019 ?_
  refine va_sld hx hb hX hbl hbA hS (lw_in hin 2 (by decide)) dL_law_1020 ?_
  refine lv_aload_n hx hb dL_law_1021 rfl (lv_at hl 0 rfl) ?_
  refine lv_iload_n hx hb dL_law_1022 rfl (lv_at hl 3 rfl) ?_
  refine lv_iconst (v := 3) hx hb dL_law_1023 (by decide) ?_
  refine lv_iadd hx hb dL_law_1024 ?_
  refine va_sld hx hb hX hbl hbA hS (lw_in hin 3 (by decide)) dL_law_1025 ?_
  refine lv_aload_n hx hb dL_law_1026 rfl (lv_at hl 0 rfl) ?_
  refine lv_iload_n hx hb dL_law_1027 rfl (lv_at hl 3 rfl) ?_
  refine lv_iconst (v := 4) hx hb dL_law_1028 (by decide) ?_
  refine lv_iadd hx hb dL_law_1029 ?_
  refine va_sld hx hb hX hbl hbA hS (lw_in hin 4 (by decide)) dL_law_1030 ?_
  refine lw_call1 (m2 := mX8_visits) (n := 4) (As := [.int (xs (nI i + 1).toNatClampNeg), .int (xs (nI i + 2).toNatClampNeg), .int (xs (nI i + 3).toNatClampNeg), .int (xs (nI i + 4).toNatClampNeg)]) (T := _) (N := _) C hcs hI hrep hS hl.1 rfl rfl kn_X7_visits bw938 bw939 bw940 p_visits dL_law_1031 (fun v I1 L1 H1 locs1 hm hr1 hS1 => ?_)
  have hS := hS1
  refine lv_aload_n hx hb dL_law_1034 rfl (lv_at hl 2 rfl) ?_
  refine lv_aload_n hx hb dL_law_1035 rfl (lv_at hl 0 rfl) ?_
  refine lv_iload_n hx hb dL_law_1036 rfl (lv_at hl 3 rfl) ?_
  refine lv_iconst (v := 1) hx hb dL_law_1037 (by decide) ?_
  refine lv_iadd hx hb dL_law_1038 ?_
  refine va_sld hx hb hX hbl hbA hS (lw_in hin 1 (by decide)) dL_law_1039 ?_
  refine lv_aload_n hx hb dL_law_1040 rfl (lv_at hl 0 rfl) ?_
  refine lv_iload_n hx hb dL_law_1041 rfl (lv_at hl 3 rfl) ?_
  refine lv_iconst (v := 2) hx hb dL_law_1042 (by decide) ?_
  refine lv_iadd hx hb dL_law_1043 ?_
  refine va_sld hx hb hX hbl hbA hS (lw_in hin 2 (by decide)) dL_law_1044 ?_
  refine lv_aload_n hx hb dL_law_1045 rfl (lv_at hl 0 rfl) ?_
  refine lv_iload_n hx hb dL_law_1046 rfl (lv_at hl 3 rfl) ?_
  refine lv_iconst (v := 3) hx hb dL_law_1047 (by decide) ?_
  refine lv_iadd hx hb dL_law_1048 ?_
  refine va_sld hx hb hX hbl hbA hS (lw_in hin 3 (by decide)) dL_law_1049 ?_
  refine lv_aload_n hx hb dL_law_1050 rfl (lv_at hl 0 rfl) ?_
  refine lv_iload_n hx hb dL_law_1051 rfl (lv_at hl 3 rfl) ?_
  refine lv_iconst (v := 4) hx hb dL_law_1052 (by decide) ?_
  refine lv_iadd hx hb dL_law_1053 ?_
  refine va_sld hx hb hX hbl hbA hS (lw_in hin 4 (by decide)) dL_law_1054 ?_
  refine lw_call2 (n := 4) (As := [.int (xs (nI i + 1).toNatClampNeg), .int (xs (nI i + 2).toNatClampNeg), .int (xs (nI i + 3).toNatClampNeg), .int (xs (nI i + 4).toNatClampNeg)]) (T := _) (N := _) C hcs hr1 hS1 hl.1 rfl rfl kn_X8_visits bw1591 bw1592 bw1593 hm dL_law_1055 (fun I2 L2 H2 locs2 hI2 hr2 hS2 => ?_)
  refine lv_icmp_eq (tgt := 1132) hx hb dL_law_1058 (by decide) (fun _ => kk I2 L2 H2 locs2 ls hI2 hr2 hS2 hl) (fun y => absurd rfl y)
theorem lL_29 {G : aG} {p : Program} {l : Launch} {e : Env} {s : State} {m : MethodId} {below : List Frame} {meth : Method} {c : Code} {b L i : Nat} {xs : Nat → Int32} {H : Heap} {locs : List Loc} {cells slots : Nat} {QQ : State → Prop} {ls : Array Slot} (C : aCtx G p s m #[Value.ref b] meth c (lwM meth.name)) (hX : va_X b L xs s s.heap) (hbl : b < s.heap.size) (hbA : ¬ aA G b) (hin : i + 6 ≤ L ∧ L ≤ 3072) (hcs : cells ≤ 600000 ∧ slots ≤ 7302250) {I : aSS} {Lo : Nat → Nat → Int64} (hI : RR I) (hrep : aRS G (I, Lo) H) (hS : va_S (aA G) s.heap H locs) (hl : lv_has ls 4 (lwL G b i)) (kk : lwK G p l e s m b below meth c cells slots QQ i) : W p l e room_1 s m #[Value.ref b] below meth c H locs cells slots QQ (F0 m 1063 ls []) := by
  have hx := C.hx
  have hb : c.code = code := C.hb
  refine lv_aload_n hx hb dL_law_1063 rfl (lv_at hl 1 rfl) ?_
  refine lv_aload_n hx hb dL_law_1064 rfl (lv_at hl 0 rfl) ?_
  refine lv_iload_n hx hb dL_law_1065 rfl (lv_at hl 3 rfl) ?_
  refine lv_iconst (v := 1) hx hb dL_law_1066 (by decide) ?_
  refine lv_iadd hx hb dL_law_1067 ?_
  refine va_sld hx hb hX hbl hbA hS (lw_in hin 1 (by decide)) dL_law_1068 ?_
  refine lw_call1 (m2 := mX8_count) (n := 1) (As := [.int (xs (nI i + 1).toNatClampNeg)]) (T := _) (N := _) C hcs hI hrep hS hl.1 rfl rfl kn_X7_count bw675 bw676 bw677 p_count dL_law_1069 (fun v I1 L1 H1 locs1 hm hr1 hS1 => ?_)
  have hS := hS1
  refine lv_aload_n hx hb dL_law_1072 rfl (lv_at hl 2 rfl) ?_
  refine lv_aload_n hx hb dL_law_1073 rfl (lv_at hl 0 rfl) ?_
  refine lv_iload_n hx hb dL_law_1074 rfl (lv_at hl 3 rfl) ?_
  refine lv_iconst (v := 1) hx hb dL_law_1075 (by decide) ?_
  refine lv_iadd hx hb dL_law_1076 ?_
  refine va_sld hx hb hX hbl hbA hS (lw_in hin 1 (by decide)) dL_law_1077 ?_
  refine lw_call2 (n := 1) (As := [.int (xs (nI i + 1).toNatClampNeg)]) (T := _) (N := _) C hcs hr1 hS1 hl.1 rfl rfl kn_X8_count bw1604 bw1605 bw1606 hm dL_law_1078 (fun I2 L2 H2 locs2 hI2 hr2 hS2 => ?_)
  refine lv_icmp_eq (tgt := 1132) hx hb dL_law_1081 (by decide) (fun _ => kk I2 L2 H2 locs2 ls hI2 hr2 hS2 hl) (fun y => absurd rfl y)
theorem lL_30 {G : aG} {p : Program} {l : Launch} {e : Env} {s : State} {m : MethodId} {below : List Frame} {meth : Method} {c : Code} {b L i : Nat} {xs : Nat → Int32} {H : Heap} {locs : List Loc} {cells slots : Nat} {QQ : State → Prop} {ls : Array Slot} (C : aCtx G p s m #[Value.ref b] meth c (lwM meth.name)) (hX : va_X b L xs s s.heap) (hbl : b < s.heap.size) (hbA : ¬ aA G b) (hin : i + 6 ≤ L ∧ L ≤ 3072) (hcs : cells ≤ 600000 ∧ slots ≤ 7302250) {I : aSS} {Lo : Nat → Nat → Int64} (hI : RR I) (hrep : aRS G (I, Lo) H) (hS : va_S (aA G) s.heap H locs) (hl : lv_has ls 4 (lwL G b i)) (kk : lwK G p l e s m b below meth c cells slots QQ i) : W p l e room_1 s m #[Value.ref b] below meth c H locs cells slots QQ (F0 m 1086 ls []) := by
  have hx := C.hx
  have hb : c.code = code := C.hb
  refine lv_aload_n hx hb dL_law_1086 rfl (lv_at hl 1 rfl) ?_
  refine lv_aload_n hx hb dL_law_1087 rfl (lv_at hl 0 rfl) ?_
  refine lv_iload_n hx hb dL_law_1088 rfl (lv_at hl 3 rfl) ?_
  refine lv_iconst (v := 1) hx hb dL_law_1089 (by decide) ?_
  refine lv_iadd hx hb dL_law_1090 ?_
  refine va_sld hx hb hX hbl hbA hS (lw_in hin 1 (by decide)) dL_law_1091 ?_
  refine lw_call1 (m2 := mX8_image) (n := 1) (As := [.int (xs (nI i + 1).toNatClampNeg)]) (T := _) (N := _) C hcs hI hrep hS hl.1 rfl rfl kn_X7_image bw949 bw950 bw951 p_image dL_law_1092 (fun v I1 L1 H1 locs1 hm hr1 hS1 => ?_)
  have hS := hS1
  refine lv_aload_n hx hb dL_law_1095 rfl (lv_at hl 2 rfl) ?_
  refine lv_aload_n hx hb dL_law_1096 rfl (lv_at hl 0 rfl) ?_
  refine lv_iload_n hx hb dL_law_1097 rfl (lv_at hl 3 rfl) ?_
  refine lv_iconst (v := 1) hx hb dL_law_1098 (by decide) ?_
  refine lv_iadd hx hb dL_law_1099 ?_
  refine va_sld hx hb hX hbl hbA hS (lw_in hin 1 (by decide)) dL_law_1100 ?_
  refine lw_call2 (n := 1) (As := [.int (xs (nI i + 1).toNatClampNeg)]) (T := _) (N := _) C hcs hr1 hS1 hl.1 rfl rfl kn_X8_image bw1612 bw1613 bw1614 hm dL_law_1101 (fun I2 L2 H2 locs2 hI2 hr2 hS2 => ?_)
  refine lv_icmp_eq (tgt := 1132) hx hb dL_law_1104 (by decide) (fun _ => kk I2 L2 H2 locs2 ls hI2 hr2 hS2 hl) (fun y => absurd rfl y)
theorem lL_31 {G : aG} {p : Program} {l : Launch} {e : Env} {s : State} {m : MethodId} {below : List Frame} {meth : Method} {c : Code} {b L i : Nat} {xs : Nat → Int32} {H : Heap} {locs : List Loc} {cells slots : Nat} {QQ : State → Prop} {ls : Array Slot} (C : aCtx G p s m #[Value.ref b] meth c (lwM meth.name)) (hX : va_X b L xs s s.heap) (hbl : b < s.heap.size) (hbA : ¬ aA G b) (hin : i + 6 ≤ L ∧ L ≤ 3072) (hcs : cells ≤ 600000 ∧ slots ≤ 7302250) {I : aSS} {Lo : Nat → Nat → Int64} (hI : RR I) (hrep : aRS G (I, Lo) H) (hS : va_S (aA G) s.heap H locs) (hl : lv_has ls 4 (lwL G b i)) (kk : lwK G p l e s m b below meth c cells slots QQ i) : W p l e room_1 s m #[Value.ref b] below meth c H locs cells slots QQ (F0 m 1109 ls []) := by
  have hx := C.hx
  have hb : c.code = code := C.hb
  refine lv_aload_n hx hb dL_law_1109 rfl (lv_at hl 1 rfl) ?_
  refine lv_aload_n hx hb dL_law_1110 rfl (lv_at hl 0 rfl) ?_
  refine lv_iload_n hx hb dL_law_1111 rfl (lv_at hl 3 rfl) ?_
  refine lv_iconst (v := 1) hx hb dL_law_1112 (by decide) ?_
  refine lv_iadd hx hb dL_law_1113 ?_
  refine va_sld hx hb hX hbl hbA hS (lw_in hin 1 (by decide)) dL_law_1114 ?_
  refine lw_call1 (m2 := mX8_back) (n := 1) (As := [.int (xs (nI i + 1).toNatClampNeg)]) (T := _) (N := _) C hcs hI hrep hS hl.1 rfl rfl kn_X7_back bw958 bw959 bw960 p_back dL_law_1115 (fun v I1 L1 H1 locs1 hm hr1 hS1 => ?_)
  have hS := hS1
  refine lv_aload_n hx hb dL_law_1118 rfl (lv_at hl 2 rfl) ?_
  refine lv_aload_n hx hb dL_law_1119 rfl (lv_at hl 0 rfl) ?_
  refine lv_iload_n hx hb dL_law_1120 rfl (lv_at hl 3 rfl) ?_
  refine lv_iconst (v := 1) hx hb dL_law_1121 (by decide) ?_
  refine lv_iadd hx hb dL_law_1122 ?_
  refine va_sld hx hb hX hbl hbA hS (lw_in hin 1 (by decide)) dL_law_1123 ?_
  refine lw_call2 (n := 1) (As := [.int (xs (nI i + 1).toNatClampNeg)]) (T := _) (N := _) C hcs hr1 hS1 hl.1 rfl rfl kn_X8_back bw1616 bw1617 bw1618 hm dL_law_1124 (fun I2 L2 H2 locs2 hI2 hr2 hS2 => ?_)
  refine lv_icmp_eq (tgt := 1132) hx hb dL_law_1127 (by decide) (fun _ => kk I2 L2 H2 locs2 ls hI2 hr2 hS2 hl) (fun y => absurd rfl y)
/-- any of the cases -/
theorem lL_all {G : aG} {p : Program} {l : Launch} {e : Env} {s : State} {m : MethodId} {below : List Frame} {meth : Method} {c : Code} {b L i : Nat} {xs : Nat → Int32} {H : Heap} {locs : List Loc} {cells slots : Nat} {QQ : State → Prop} {ls : Array Slot} (C : aCtx G p s m #[Value.ref b] meth c (lwM meth.name)) (hX : va_X b L xs s s.heap) (hbl : b < s.heap.size) (hbA : ¬ aA G b) (hin : i + 6 ≤ L ∧ L ≤ 3072) (hcs : cells ≤ 600000 ∧ slots ≤ 7302250) {I : aSS} {Lo : Nat → Nat → Int64} (hI : RR I) (hrep : aRS G (I, Lo) H) (hS : va_S (aA G) s.heap H locs) (hl : lv_has ls 4 (lwL G b i)) (kk : lwK G p l e s m b below meth c cells slots QQ i) : ∀ (j tg : Nat), ([176, 239, 262, 275, 288, 311, 344, 377, 410, 423, 446, 479, 502, 535, 548, 591, 614, 637, 670, 713, 746, 779, 832, 855, 888, 931, 954, 987, 1010, 1063, 1086, 1109] : List Nat)[j]? = some tg → W p l e room_1 s m #[Value.ref b] below meth c H locs cells slots QQ (F0 m tg ls []) := by
  intro j tg h
  match j, h with
  | 0, h => cases h; exact lL_0 C hX hbl hbA hin hcs hI hrep hS hl kk
  | 1, h => cases h; exact lL_1 C hX hbl hbA hin hcs hI hrep hS hl kk
  | 2, h => cases h; exact lL_2 C hX hbl hbA hin hcs hI hrep hS hl kk
  | 3, h => cases h; exact lL_3 C hX hbl hbA hin hcs hI hrep hS hl kk
  | 4, h => cases h; exact lL_4 C hX hbl hbA hin hcs hI hrep hS hl kk
  | 5, h => cases h; exact lL_5 C hX hbl hbA hin hcs hI hrep hS hl kk
  | 6, h => cases h; exact lL_6 C hX hbl hbA hin hcs hI hrep hS hl kk
  | 7, h => cases h; exact lL_7 C hX hbl hbA hin hcs hI hrep hS hl kk
  | 8, h => cases h; exact lL_8 C hX hbl hbA hin hcs hI hrep hS hl kk
  | 9, h => cases h; exact lL_9 C hX hbl hbA hin hcs hI hrep hS hl kk
  | 10, h => cases h; exact lL_10 C hX hbl hbA hin hcs hI hrep hS hl kk
  | 11, h => cases h; exact lL_11 C hX hbl hbA hin hcs hI hrep hS hl kk
  | 12, h => cases h; exact lL_12 C hX hbl hbA hin hcs hI hrep hS hl kk
  | 13, h => cases h; exact lL_13 C hX hbl hbA hin hcs hI hrep hS hl kk
  | 14, h => cases h; exact lL_14 C hX hbl hbA hin hcs hI hrep hS hl kk
  | 15, h => cases h; exact lL_15 C hX hbl hbA hin hcs hI hrep hS hl kk
  | 16, h => cases h; exact lL_16 C hX hbl hbA hin hcs hI hrep hS hl kk
  | 17, h => cases h; exact lL_17 C hX hbl hbA hin hcs hI hrep hS hl kk
  | 18, h => cases h; exact lL_18 C hX hbl hbA hin hcs hI hrep hS hl kk
  | 19, h => cases h; exact lL_19 C hX hbl hbA hin hcs hI hrep hS hl kk
  | 20, h => cases h; exact lL_20 C hX hbl hbA hin hcs hI hrep hS hl kk
  | 21, h => cases h; exact lL_21 C hX hbl hbA hin hcs hI hrep hS hl kk
  | 22, h => cases h; exact lL_22 C hX hbl hbA hin hcs hI hrep hS hl kk
  | 23, h => cases h; exact lL_23 C hX hbl hbA hin hcs hI hrep hS hl kk
  | 24, h => cases h; exact lL_24 C hX hbl hbA hin hcs hI hrep hS hl kk
  | 25, h => cases h; exact lL_25 C hX hbl hbA hin hcs hI hrep hS hl kk
  | 26, h => cases h; exact lL_26 C hX hbl hbA hin hcs hI hrep hS hl kk
  | 27, h => cases h; exact lL_27 C hX hbl hbA hin hcs hI hrep hS hl kk
  | 28, h => cases h; exact lL_28 C hX hbl hbA hin hcs hI hrep hS hl kk
  | 29, h => cases h; exact lL_29 C hX hbl hbA hin hcs hI hrep hS hl kk
  | 30, h => cases h; exact lL_30 C hX hbl hbA hin hcs hI hrep hS hl kk
  | 31, h => cases h; exact lL_31 C hX hbl hbA hin hcs hI hrep hS hl kk
  | j + 32, h => exact absurd h (by simp)
/-- the switch -/
theorem lw_sw {p : Program} {l : Launch} {e : Env} {s : State} {m : MethodId} {args : Array Value} {below : List Frame} {meth : Method} {c : Code} {R : Room} {H : Heap} {locs : List Loc} {cells slots pc len tgd : Nat} {QQ : State → Prop} {ls : Array Slot} {rest : List Value} {cc : ByteArray} {dfl hi : Int} {offs : Array Int} {z : Int32} (tgs : List Nat) (hx : p.tables.exec = Jvm.exec) (hb : c.code = cc) (hd : decode cc pc = .ok (.tableswitch dfl 0 hi offs, len)) (hsz : (offs.size : Int) = hi + 1) (hoff : offs.toList.map (fun o => (pc : Int) + o) = tgs.map (fun (n : Nat) => (n : Int))) (hdo : (pc : Int) + dfl = (tgd : Int)) (ht : ∀ (j tg : Nat), tgs[j]? = some tg → W p l e R s m args below meth c H locs cells slots QQ (F0 m tg ls rest)) (h : W p l e R s m args below meth c H locs cells slots QQ (F0 m tgd ls rest)) : W p l e R s m args below meth c H locs cells slots QQ (F0 m pc ls (.int z :: rest)) := by
  by_cases hz : z.toInt < 0 ∨ hi < z.toInt
  · exact lv_tableOut hx hb hd hz hdo h
  · have hz1 : ¬ z.toInt < 0 := fun q => hz (Or.inl q)
    have hz2 : ¬ hi < z.toInt := fun q => hz (Or.inr q)
    obtain ⟨j, hj⟩ : ∃ j : Nat, z.toInt = j := ⟨z.toInt.toNat, by omega⟩
    have hjl : j < offs.size := by omega
    have hjo : (z.toInt - 0).toNat = j := by omega
    have ho : offs[j]? = some (offs[j]'hjl) := Array.getElem?_eq_getElem hjl
    have hm : (offs.toList.map (fun o => (pc : Int) + o))[j]? = some ((pc : Int) + (offs[j]'hjl)) := by rw [List.getElem?_map, Array.getElem?_toList, ho]; rfl
    rw [hoff, List.getElem?_map] at hm
    cases htg : tgs[j]? with
    | none => rw [htg] at hm; cases hm
    | some tg =>
      rw [htg] at hm
      simp only [Option.map_some, Option.some.injEq] at hm
      exact lv_tableIn hx hb hd hz1 hz2 (by rw [hjo]; exact ho) hm.symm (ht j tg htg)
theorem lw_gt {i L : Nat} (hi : i ≤ 4000) (hL : L ≤ 3072) (h : ¬ nI L - 6 < nI i) : i + 6 ≤ L := by
  rw [Int32.lt_iff_toInt_lt, nI_toInt (by omega), show (6 : Int32) = nI 6 from rfl, Int32.toInt_sub, nI_toInt (by omega), nI_toInt (by omega)] at h
  rw [Int.bmod_eq_of_le (by omega) (by omega)] at h
  omega
/-- the law's loop -/
theorem lw_loop {G : aG} {p : Program} {l : Launch} {e : Env} {s : State} {m : MethodId} {below : List Frame} {meth : Method} {c : Code} {b L : Nat} {xs : Nat → Int32} {cells slots : Nat} {QQ : State → Prop} (C : aCtx G p s m #[Value.ref b] meth c (lwM meth.name)) (hX : va_X b L xs s s.heap) (hbl : b < s.heap.size) (hbA : ¬ aA G b) (hL : L ≤ 3072) (hcs : cells ≤ 600000 ∧ slots ≤ 7302250) (hend : ∀ (H : Heap) (locs : List Loc) (ls : Array Slot), va_S (aA G) s.heap H locs → W p l e room_1 s m #[Value.ref b] below meth c H locs cells slots QQ (F0 m 1139 ls [.int 1])) : ∀ (n i : Nat), i ≤ L → L + 1 ≤ i + n → ∀ (I : aSS) (Lo : Nat → Nat → Int64) (H : Heap) (locs : List Loc) (ls : Array Slot), RR I → aRS G (I, Lo) H → va_S (aA G) s.heap H locs → lv_has ls 4 (lwL G b i) → W p l e room_1 s m #[Value.ref b] below meth c H locs cells slots QQ (F0 m 18 ls []) := by
  have hx := C.hx
  have hb : c.code = code := C.hb
  intro n
  induction n with
  | zero => intro i h1 h2; exact absurd h2 (by omega)
  | succ n ih =>
    intro i h1 h2 I Lo H locs ls hI hrep hS hl
    refine lv_iload_n hx hb dL_law_18 rfl (lv_at hl 3 rfl) ?_
    refine lv_aload_n hx hb dL_law_19 rfl (lv_at hl 0 rfl) ?_
    refine va_slen hx hb hX hbl hbA hS dL_law_20 ?_
    refine lv_bipush (v := 6) hx hb dL_law_21 (by decide) ?_
    refine lv_isub hx hb dL_law_23 ?_
    refine lv_icmp_gt (tgt := 1138) hx hb dL_law_24 (by decide) (fun _ => ?_) (fun hc => ?_)
    · refine lv_iconst (v := 1) hx hb dL_law_1138 (by decide) ?_
      exact hend H locs ls hS
    · have hin : i + 6 ≤ L := lw_gt (by omega) hL hc
      refine lv_aload_n hx hb dL_law_27 rfl (lv_at hl 0 rfl) ?_
      refine lv_iload_n hx hb dL_law_28 rfl (lv_at hl 3 rfl) ?_
      refine va_sld hx hb hX hbl hbA hS (vp_in_nI (by omega) (by omega)) dL_law_29 ?_
      refine lv_bipush (v := 31) hx hb dL_law_30 (by decide) ?_
      refine lv_iand hx hb dL_law_32 ?_
      have kk : lwK G p l e s m b below meth c cells slots QQ i := by
        intro I2 L2 H2 locs2 ls2 hI2 hr2 hS2 hl2
        refine lv_iinc (v := nI (i + 6)) (lv' := [(3, .int (nI (i + 6))), (0, .ref b), (1, .ref (aLoc G 0)), (2, .ref (aLoc G 848))]) hx hb dL_law_1132 hl2 (k := 3) rfl (nI_add i 6) (by decide) rfl (fun ls3 hl3 => ?_)
        refine lv_goto (tgt := 18) hx hb dL_law_1135 (by decide) ?_
        exact ih (i + 6) (by omega) (by omega) I2 L2 H2 locs2 ls3 hI2 hr2 hS2 (lv_sub hl3 [1, 2, 3, 0] rfl)
      refine lw_sw (tgd := 1132) [176, 239, 262, 275, 288, 311, 344, 377, 410, 423, 446, 479, 502, 535, 548, 591, 614, 637, 670, 713, 746, 779, 832, 855, 888, 931, 954, 987, 1010, 1063, 1086, 1109] hx hb dL_law_33 (by decide) (by decide +kernel) (by decide) (lL_all C hX hbl hbA ⟨hin, hL⟩ hcs hI hrep hS hl kk) ?_
      exact kk I Lo H locs ls hI hrep hS hl

