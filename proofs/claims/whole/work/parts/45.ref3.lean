/-! the reference: what a rule wants -/
/-- the kinds of what lies on the stack (true: 0 or 1), behind the codes -/
def chk : List Nat → List Bool → Option (List Bool)
  | [], τ => some τ
  | w :: cs, τ => if w < 200000 then chk cs (false :: τ) else match τ with
    | [] => none
    | [a] => if w = 200012 ∧ a = true then chk cs [true] else none
    | a :: b :: r => if w = 200012 then (if a = true then chk cs (true :: b :: r) else none)
      else if w < 200005 then (if a = false ∧ b = false then chk cs (false :: r) else none)
      else if w < 200010 then (if a = false ∧ b = false then chk cs (true :: r) else none)
      else if w < 200012 then (if a = true ∧ b = true then chk cs (true :: r) else none) else none
/-- the codes run as the reference runs them -/
def evR (env : Nat → Int64) : List Nat → List Int64 → List Int64
  | [], st => st
  | w :: cs, st => if w < 200000 then evR env cs ((if w < 100000 then lN w else env (w - 100000)) :: st) else match st with
    | [] => evR env cs []
    | [a] => evR env cs [1 - a]
    | a :: b :: r => if w = 200012 then evR env cs ((1 - a) :: b :: r) else evR env cs (bothR (w - 200000) b a :: r)
/-- entries of these codes lie at a of rule r -/
def enR (r a : Nat) (c : List Nat) (I : aSS) : Prop := ∀ i, (h : i < c.length) → I 877 (300 * r + a + i) = nI (srt c[i]) ∧ I 878 (300 * r + a + i) = nI (num c[i])
theorem srt_lo {w : Nat} : (srt w = 0 ↔ w < 100000) ∧ (srt w = 1 ↔ 100000 ≤ w ∧ w < 200000) ∧ srt w < 16 := by
  unfold srt
  by_cases h : w < 100000
  · rw [if_pos h]
    omega
  · rw [if_neg h]
    by_cases h2 : w < 200000
    · rw [if_pos h2]
      omega
    · rw [if_neg h2]
      split <;> omega
theorem srt_12 {w : Nat} (h : 200000 ≤ w) (h2 : w < 200013) : srt w = 9 ↔ w = 200012 := by
  have : ∀ k, k < 13 → (srt (200000 + k) = 9 ↔ k = 12) := by decide
  obtain ⟨k, rfl⟩ : ∃ k, w = 200000 + k := ⟨w - 200000, by omega⟩
  rw [this k (by omega)]
  omega
theorem chk_tail {w : Nat} {cs : List Nat} {τ τ' : List Bool} (hw : ¬ w < 200000) (h : chk (w :: cs) τ = some τ') : w < 200013 ∧ ((∃ a r, τ = a :: r ∧ w = 200012 ∧ a = true ∧ chk cs (true :: r) = some τ') ∨ ∃ a b r, τ = a :: b :: r ∧ w < 200012 ∧ ∃ v, chk cs (v :: r) = some τ' ∧ (w < 200010 → a = false ∧ b = false) ∧ (200010 ≤ w → a = true ∧ b = true) ∧ (v = true ↔ 200005 ≤ w)) := by
  unfold chk at h
  rw [if_neg hw] at h
  match τ with
  | [] => simp at h
  | [a] =>
    dsimp only at h
    by_cases g : w = 200012 ∧ a = true
    · rw [if_pos g] at h
      exact ⟨by omega, Or.inl ⟨a, [], rfl, g.1, g.2, h⟩⟩
    · rw [if_neg g] at h
      simp at h
  | a :: b :: r =>
    dsimp only at h
    by_cases g : w = 200012
    · rw [if_pos g] at h
      by_cases g2 : a = true
      · rw [if_pos g2] at h
        exact ⟨by omega, Or.inl ⟨a, b :: r, rfl, g, g2, h⟩⟩
      · rw [if_neg g2] at h
        simp at h
    · rw [if_neg g] at h
      by_cases g1 : w < 200005
      · rw [if_pos g1] at h
        by_cases g2 : a = false ∧ b = false
        · rw [if_pos g2] at h
          exact ⟨by omega, Or.inr ⟨a, b, r, rfl, by omega, false, h, fun _ => g2, fun y => by omega, by simp; omega⟩⟩
        · rw [if_neg g2] at h
          simp at h
      · rw [if_neg g1] at h
        by_cases g3 : w < 200010
        · rw [if_pos g3] at h
          by_cases g2 : a = false ∧ b = false
          · rw [if_pos g2] at h
            exact ⟨by omega, Or.inr ⟨a, b, r, rfl, by omega, true, h, fun _ => g2, fun y => by omega, by simp; omega⟩⟩
          · rw [if_neg g2] at h
            simp at h
        · rw [if_neg g3] at h
          by_cases g4 : w < 200012
          · rw [if_pos g4] at h
            by_cases g2 : a = true ∧ b = true
            · rw [if_pos g2] at h
              exact ⟨by omega, Or.inr ⟨a, b, r, rfl, g4, true, h, fun y => by omega, fun _ => g2, by simp; omega⟩⟩
            · rw [if_neg g2] at h
              simp at h
          · rw [if_neg g4] at h
            simp at h
theorem int_pred (n : Nat) : nI (n + 1) - nI 1 = nI n := nI_pred n
set_option maxHeartbeats 4000000 in
theorem c_X8_answer {G : aG} {l : Launch} {d : Nat} {Q : Option Value → aM → Prop} {I : aSS} {L : Nat → Nat → Int64} {r a : Nat} {c : List Nat} {env : Nat → Int64} {b : Bool} (hr : r < 6) (ha : a + c.length ≤ 300) (hE : enR r a c I) (hv : ∀ w, w < 11 → L 884 w = env w) (hw : ∀ w, w ∈ c → w < 100011 ∨ 200000 ≤ w) (hc : chk c [] = some [b]) (hq : ∀ L', L' 884 = L 884 → Q (some (.long ((evR env c []).headD 0))) (I, L')) : aC (aRS G) G l (d + 4) 0 0 mX8_answer [.ref 848, .int (nI r), .int (nI a), .int (nI (a + c.length))] (I, L) Q := by
  refine E_X8_answer ?_
  simp (disch := omega) only [R_X8_answer_0, i_c, i_ild, i_ildv, i_lld, i_lldv, i_ald, i_aldv, i_ist, i_lst, i_ast, i_iinc, i_iincv, i_iadd, i_isub, i_imul, i_iand, i_ior, i_ixor, i_ishl, i_ishr, i_iushr, i_idiv, i_irem, i_ineg, i_ladd, i_lsub, i_lmul, i_land, i_lor, i_ldiv, i_lrem, i_lcmp, i_i2l, i_l2i, i_i2b, i_i2c, i_dup, i_pop, i_dup2, i_dup_x1, i_ifeq, i_ifne, i_iflt, i_ifge, i_ifgt, i_ifle, i_icmpeq, i_icmpne, i_icmplt, i_icmpge, i_icmpgt, i_icmple, i_ifnn, i_tsw, i_sw, i_iret, i_lret, i_aret, i_vret, i_getI, i_getR, i_putI, i_putZ, i_iald, i_bald, i_zald, i_lald, i_iast, i_bast, i_zast, i_last, i_aldR, i_aldW, i_aldP, i_astP, i_alen, i_copy, i_min, i_max, i_abs, i_sval, i_scod, i_slen, i_sald, i_callI, i_oinit, i_call_0, i_call_1, i_call_2, i_call_3, i_call_4, i_callT_0, i_callT_1, i_callT_2, i_callV_0, i_callV_1, i_callV_2, i_callV_3, i_callV_4, i_callV_5, lget, lput, lput2, aKill, aU, List.length_cons, List.length_nil, Nat.reduceAdd, Nat.reduceLT, Nat.reduceEqDiff, reduceIte, if_true, if_false, List.map_cons, List.map_nil, List.sum_cons, List.sum_nil, cat_int, cat_long, cat_ref, cat_null, cat_ra, Nat.reduceLeDiff, true_and, and_true, aPush_none, aPush_some, nrw_int, nrw_b0, nrw_b1, Nat.lt_irrefl, Nat.zero_lt_succ, le_nI, nI_lt', in_nI, cl_nI, eq_nI, le_nII, lt_nII, nI_1, true_imp_iff, false_imp_iff, not_true_eq_false, not_false_eq_true, and_self, forall_const, implies_true, Nat.le_refl, ne_eq, i10, tn_m1, not_true_eq_false, tn_0, tn_1, tn_2, tn_3, tn_4, tn_5, tn_6, tn_7, tn_8, tn_9, tn_10, tn_11, tn_12, tn_13, tn_14, tn_15, tn_19, tn_20, tn_24, tn_25, tn_29, tn_30, tn_32, tn_33, tn_40, tn_59, tn_60, tn_61, tn_64, tn_65, tn_72, tn_99, tn_100, tn_300, tn_400, tn_600, tn_999, tn_1800, tn_800, in_0, in_1, in_2, in_3, in_4, in_5, in_6, in_7, in_8, in_9, in_10, in_11, in_19, oi_0, oi_1, oi_2, oi_3, oi_4, oi_5, oi_6, oi_7, oi_8, oi_9, oi_10, oi_11, oi_12, oi_13, oi_14, oi_15, oi_16, oi_17, oi_18, oi_19, oi_20, oi_21, oi_22, oi_23, oi_24, oi_25, oi_26, oi_27, oi_28, oi_29, oi_30, oi_31, oi_200000, oi_200001, oi_200002, oi_200003, oi_200004, oi_200005, oi_200006, oi_200007, oi_200008, oi_200009, oi_200010, oi_200011, oi_200012, oi_200013, oi_200014, Int.reduceAdd, i_sw, lg_cmp_ge, lg_cmp_le, lg_cmp_gt, lg_cmp_lt, lg_cmp_eq, nI_pred, nI_m1, nI_p2, nI_m2, nI_le0, nI_lt0, nI_ge0, nI_gt0, nI_eq0, nI_2le, nI_sub, List.length_cons, List.length_nil, Nat.not_lt_zero]
  obtain ⟨X, hX⟩ : ∃ X, evR env c [] = X := ⟨_, rfl⟩
  rw [hX] at hq
  have LL : ∀ i, i ≤ c.length → ∀ (st : List Int64) (τ : List Bool) L' (b1 b2 : Value), L' 884 = L 884 → stkO (L' 885) st → st.length = τ.length → st.length ≤ i → chk (c.drop i) τ = some [b] → evR env (c.drop i) st = X → aT (aRS G) G l (d + 4) mX8_answer 0 0 Q 6 [.ref 848, .int (nI r), .int (nI a), .int (nI (a + c.length)), .int (nI st.length), .int (nI (a + i)), b1, b2] [] (I, L') := by
    refine up_loop ?_ (fun i hi ih => ?_)
    · intro st τ L' b1 b2 hL hs hl hli hck hev
      rw [List.drop_of_length_le (Nat.le_refl _)] at hck hev
      have hτ : τ = [b] := Option.some.inj hck
      subst hτ
      have hev2 : X = st := hev.symm
      rw [hev2] at hq
      match st, hl, hs, hq with
      | [v], _, hs, hq =>
        have e : L' 885 0 = v := hs.1
        refine S_X8_answer_6 _ _ _ ?_
        simp (disch := omega) only [R_X8_answer_6, R_X8_answer_153, i_c, i_ild, i_ildv, i_lld, i_lldv, i_ald, i_aldv, i_ist, i_lst, i_ast, i_iinc, i_iincv, i_iadd, i_isub, i_imul, i_iand, i_ior, i_ixor, i_ishl, i_ishr, i_iushr, i_idiv, i_irem, i_ineg, i_ladd, i_lsub, i_lmul, i_land, i_lor, i_ldiv, i_lrem, i_lcmp, i_i2l, i_l2i, i_i2b, i_i2c, i_dup, i_pop, i_dup2, i_dup_x1, i_ifeq, i_ifne, i_iflt, i_ifge, i_ifgt, i_ifle, i_icmpeq, i_icmpne, i_icmplt, i_icmpge, i_icmpgt, i_icmple, i_ifnn, i_tsw, i_sw, i_iret, i_lret, i_aret, i_vret, i_getI, i_getR, i_putI, i_putZ, i_iald, i_bald, i_zald, i_lald, i_iast, i_bast, i_zast, i_last, i_aldR, i_aldW, i_aldP, i_astP, i_alen, i_copy, i_min, i_max, i_abs, i_sval, i_scod, i_slen, i_sald, i_callI, i_oinit, i_call_0, i_call_1, i_call_2, i_call_3, i_call_4, i_callT_0, i_callT_1, i_callT_2, i_callV_0, i_callV_1, i_callV_2, i_callV_3, i_callV_4, i_callV_5, lget, lput, lput2, aKill, aU, List.length_cons, List.length_nil, Nat.reduceAdd, Nat.reduceLT, Nat.reduceEqDiff, reduceIte, if_true, if_false, List.map_cons, List.map_nil, List.sum_cons, List.sum_nil, cat_int, cat_long, cat_ref, cat_null, cat_ra, Nat.reduceLeDiff, true_and, and_true, aPush_none, aPush_some, nrw_int, nrw_b0, nrw_b1, Nat.lt_irrefl, Nat.zero_lt_succ, le_nI, nI_lt', in_nI, cl_nI, eq_nI, le_nII, lt_nII, nI_1, true_imp_iff, false_imp_iff, not_true_eq_false, not_false_eq_true, and_self, forall_const, implies_true, Nat.le_refl, ne_eq, i10, tn_m1, not_true_eq_false, tn_0, tn_1, tn_2, tn_3, tn_4, tn_5, tn_6, tn_7, tn_8, tn_9, tn_10, tn_11, tn_12, tn_13, tn_14, tn_15, tn_19, tn_20, tn_24, tn_25, tn_29, tn_30, tn_32, tn_33, tn_40, tn_59, tn_60, tn_61, tn_64, tn_65, tn_72, tn_99, tn_100, tn_300, tn_400, tn_600, tn_999, tn_1800, tn_800, in_0, in_1, in_2, in_3, in_4, in_5, in_6, in_7, in_8, in_9, in_10, in_11, in_19, oi_0, oi_1, oi_2, oi_3, oi_4, oi_5, oi_6, oi_7, oi_8, oi_9, oi_10, oi_11, oi_12, oi_13, oi_14, oi_15, oi_16, oi_17, oi_18, oi_19, oi_20, oi_21, oi_22, oi_23, oi_24, oi_25, oi_26, oi_27, oi_28, oi_29, oi_30, oi_31, oi_200000, oi_200001, oi_200002, oi_200003, oi_200004, oi_200005, oi_200006, oi_200007, oi_200008, oi_200009, oi_200010, oi_200011, oi_200012, oi_200013, oi_200014, Int.reduceAdd, i_sw, lg_cmp_ge, lg_cmp_le, lg_cmp_gt, lg_cmp_lt, lg_cmp_eq, nI_pred, nI_m1, nI_p2, nI_m2, nI_le0, nI_lt0, nI_ge0, nI_gt0, nI_eq0, nI_2le, nI_sub, List.length_cons, List.length_nil, Nat.not_lt_zero, shM, e]
        exact hq L' hL
    · intro st τ L' b1 b2 hL hs hl hli hck hev
      rw [List.drop_eq_getElem_cons hi] at hck hev
      obtain ⟨e1, e2⟩ := hE i hi
      have hwi := hw c[i] (List.getElem_mem hi)
      generalize c[i] = w at *
      have hs16 := (srt_lo (w := w)).2.2
      have ei : nI 300 * nI r + nI (a + i) = nI (300 * r + a + i) := by rw [pk_mul, nI_add]; congr 1; omega
      have hin : 300 * r + a + i < 1800 := by omega
      refine S_X8_answer_6 _ _ _ ?_
      simp (disch := omega) only [R_X8_answer_6, i_c, i_ild, i_ildv, i_lld, i_lldv, i_ald, i_aldv, i_ist, i_lst, i_ast, i_iinc, i_iincv, i_iadd, i_isub, i_imul, i_iand, i_ior, i_ixor, i_ishl, i_ishr, i_iushr, i_idiv, i_irem, i_ineg, i_ladd, i_lsub, i_lmul, i_land, i_lor, i_ldiv, i_lrem, i_lcmp, i_i2l, i_l2i, i_i2b, i_i2c, i_dup, i_pop, i_dup2, i_dup_x1, i_ifeq, i_ifne, i_iflt, i_ifge, i_ifgt, i_ifle, i_icmpeq, i_icmpne, i_icmplt, i_icmpge, i_icmpgt, i_icmple, i_ifnn, i_tsw, i_sw, i_iret, i_lret, i_aret, i_vret, i_getI, i_getR, i_putI, i_putZ, i_iald, i_bald, i_zald, i_lald, i_iast, i_bast, i_zast, i_last, i_aldR, i_aldW, i_aldP, i_astP, i_alen, i_copy, i_min, i_max, i_abs, i_sval, i_scod, i_slen, i_sald, i_callI, i_oinit, i_call_0, i_call_1, i_call_2, i_call_3, i_call_4, i_callT_0, i_callT_1, i_callT_2, i_callV_0, i_callV_1, i_callV_2, i_callV_3, i_callV_4, i_callV_5, lget, lput, lput2, aKill, aU, List.length_cons, List.length_nil, Nat.reduceAdd, Nat.reduceLT, Nat.reduceEqDiff, reduceIte, if_true, if_false, List.map_cons, List.map_nil, List.sum_cons, List.sum_nil, cat_int, cat_long, cat_ref, cat_null, cat_ra, Nat.reduceLeDiff, true_and, and_true, aPush_none, aPush_some, nrw_int, nrw_b0, nrw_b1, Nat.lt_irrefl, Nat.zero_lt_succ, le_nI, nI_lt', in_nI, cl_nI, eq_nI, le_nII, lt_nII, nI_1, true_imp_iff, false_imp_iff, not_true_eq_false, not_false_eq_true, and_self, forall_const, implies_true, Nat.le_refl, ne_eq, i10, tn_m1, not_true_eq_false, tn_0, tn_1, tn_2, tn_3, tn_4, tn_5, tn_6, tn_7, tn_8, tn_9, tn_10, tn_11, tn_12, tn_13, tn_14, tn_15, tn_19, tn_20, tn_24, tn_25, tn_29, tn_30, tn_32, tn_33, tn_40, tn_59, tn_60, tn_61, tn_64, tn_65, tn_72, tn_99, tn_100, tn_300, tn_400, tn_600, tn_999, tn_1800, tn_800, in_0, in_1, in_2, in_3, in_4, in_5, in_6, in_7, in_8, in_9, in_10, in_11, in_19, oi_0, oi_1, oi_2, oi_3, oi_4, oi_5, oi_6, oi_7, oi_8, oi_9, oi_10, oi_11, oi_12, oi_13, oi_14, oi_15, oi_16, oi_17, oi_18, oi_19, oi_20, oi_21, oi_22, oi_23, oi_24, oi_25, oi_26, oi_27, oi_28, oi_29, oi_30, oi_31, oi_200000, oi_200001, oi_200002, oi_200003, oi_200004, oi_200005, oi_200006, oi_200007, oi_200008, oi_200009, oi_200010, oi_200011, oi_200012, oi_200013, oi_200014, Int.reduceAdd, i_sw, lg_cmp_ge, lg_cmp_le, lg_cmp_gt, lg_cmp_lt, lg_cmp_eq, nI_pred, nI_m1, nI_p2, nI_m2, nI_le0, nI_lt0, nI_ge0, nI_gt0, nI_eq0, nI_2le, nI_sub, List.length_cons, List.length_nil, Nat.not_lt_zero, shM, show (300 : Int32) = nI 300 from rfl, li_1, ei, e1, e2, show ¬ a + c.length ≤ a + i by omega, (srt_lo (w := w)).1, (srt_lo (w := w)).2.1]
      by_cases h2 : w < 200000
      · have hck2 : chk (c.drop (i + 1)) (false :: τ) = some [b] := by
          unfold chk at hck
          rw [if_pos h2] at hck
          exact hck
        have hev2 : evR env (c.drop (i + 1)) ((if w < 100000 then lN w else env (w - 100000)) :: st) = X := by
          unfold evR at hev
          rw [if_pos h2] at hev
          exact hev
        have step : R_X8_answer_53 (fun p ls st x => aT (aRS G) G l (d + 3 + 1) mX8_answer 0 0 Q p ls st x) (aC (aRS G) G l (d + 3) 0 0) Q [.ref 848, .int (nI r), .int (nI a), .int (nI (a + c.length)), .int (nI st.length), .int (nI (a + i)), .int (nI (srt w)), .int (nI (num w))] [] (I, L') := by
          by_cases h1 : w < 100000
          · have hs0 : srt w = 0 := (srt_lo (w := w)).1.mpr h1
            have hn0 : num w = w := if_pos h1
            rw [if_pos h1] at hev2
            simp (disch := omega) only [R_X8_answer_53, R_X8_answer_77, R_X8_answer_147, i_c, i_ild, i_ildv, i_lld, i_lldv, i_ald, i_aldv, i_ist, i_lst, i_ast, i_iinc, i_iincv, i_iadd, i_isub, i_imul, i_iand, i_ior, i_ixor, i_ishl, i_ishr, i_iushr, i_idiv, i_irem, i_ineg, i_ladd, i_lsub, i_lmul, i_land, i_lor, i_ldiv, i_lrem, i_lcmp, i_i2l, i_l2i, i_i2b, i_i2c, i_dup, i_pop, i_dup2, i_dup_x1, i_ifeq, i_ifne, i_iflt, i_ifge, i_ifgt, i_ifle, i_icmpeq, i_icmpne, i_icmplt, i_icmpge, i_icmpgt, i_icmple, i_ifnn, i_tsw, i_sw, i_iret, i_lret, i_aret, i_vret, i_getI, i_getR, i_putI, i_putZ, i_iald, i_bald, i_zald, i_lald, i_iast, i_bast, i_zast, i_last, i_aldR, i_aldW, i_aldP, i_astP, i_alen, i_copy, i_min, i_max, i_abs, i_sval, i_scod, i_slen, i_sald, i_callI, i_oinit, i_call_0, i_call_1, i_call_2, i_call_3, i_call_4, i_callT_0, i_callT_1, i_callT_2, i_callV_0, i_callV_1, i_callV_2, i_callV_3, i_callV_4, i_callV_5, lget, lput, lput2, aKill, aU, List.length_cons, List.length_nil, Nat.reduceAdd, Nat.reduceLT, Nat.reduceEqDiff, reduceIte, if_true, if_false, List.map_cons, List.map_nil, List.sum_cons, List.sum_nil, cat_int, cat_long, cat_ref, cat_null, cat_ra, Nat.reduceLeDiff, true_and, and_true, aPush_none, aPush_some, nrw_int, nrw_b0, nrw_b1, Nat.lt_irrefl, Nat.zero_lt_succ, le_nI, nI_lt', in_nI, cl_nI, eq_nI, le_nII, lt_nII, nI_1, true_imp_iff, false_imp_iff, not_true_eq_false, not_false_eq_true, and_self, forall_const, implies_true, Nat.le_refl, ne_eq, i10, tn_m1, not_true_eq_false, tn_0, tn_1, tn_2, tn_3, tn_4, tn_5, tn_6, tn_7, tn_8, tn_9, tn_10, tn_11, tn_12, tn_13, tn_14, tn_15, tn_19, tn_20, tn_24, tn_25, tn_29, tn_30, tn_32, tn_33, tn_40, tn_59, tn_60, tn_61, tn_64, tn_65, tn_72, tn_99, tn_100, tn_300, tn_400, tn_600, tn_999, tn_1800, tn_800, in_0, in_1, in_2, in_3, in_4, in_5, in_6, in_7, in_8, in_9, in_10, in_11, in_19, oi_0, oi_1, oi_2, oi_3, oi_4, oi_5, oi_6, oi_7, oi_8, oi_9, oi_10, oi_11, oi_12, oi_13, oi_14, oi_15, oi_16, oi_17, oi_18, oi_19, oi_20, oi_21, oi_22, oi_23, oi_24, oi_25, oi_26, oi_27, oi_28, oi_29, oi_30, oi_31, oi_200000, oi_200001, oi_200002, oi_200003, oi_200004, oi_200005, oi_200006, oi_200007, oi_200008, oi_200009, oi_200010, oi_200011, oi_200012, oi_200013, oi_200014, Int.reduceAdd, i_sw, lg_cmp_ge, lg_cmp_le, lg_cmp_gt, lg_cmp_lt, lg_cmp_eq, nI_pred, nI_m1, nI_p2, nI_m2, nI_le0, nI_lt0, nI_ge0, nI_gt0, nI_eq0, nI_2le, nI_sub, List.length_cons, List.length_nil, Nat.not_lt_zero, shM, hs0, hn0]
            rw [nI_l (by omega)]
            exact ih (lN w :: st) (false :: τ) _ _ _ (by rw [← hL]; funext q; exact if_neg (fun y => by omega)) (stk_push hs) (by simp [hl]) (by simp; omega) hck2 hev2
          · have hs0 : ¬ srt w = 0 := fun y => h1 ((srt_lo (w := w)).1.mp y)
            have hn0 : num w = w - 100000 := by
              unfold num
              rw [if_neg h1, if_pos h2]
            rw [if_neg h1] at hev2
            have hL2 : L' 884 (w - 100000) = env (w - 100000) := by rw [hL]; exact hv _ (by omega)
            simp (disch := omega) only [R_X8_answer_53, R_X8_answer_70, R_X8_answer_77, R_X8_answer_147, i_c, i_ild, i_ildv, i_lld, i_lldv, i_ald, i_aldv, i_ist, i_lst, i_ast, i_iinc, i_iincv, i_iadd, i_isub, i_imul, i_iand, i_ior, i_ixor, i_ishl, i_ishr, i_iushr, i_idiv, i_irem, i_ineg, i_ladd, i_lsub, i_lmul, i_land, i_lor, i_ldiv, i_lrem, i_lcmp, i_i2l, i_l2i, i_i2b, i_i2c, i_dup, i_pop, i_dup2, i_dup_x1, i_ifeq, i_ifne, i_iflt, i_ifge, i_ifgt, i_ifle, i_icmpeq, i_icmpne, i_icmplt, i_icmpge, i_icmpgt, i_icmple, i_ifnn, i_tsw, i_sw, i_iret, i_lret, i_aret, i_vret, i_getI, i_getR, i_putI, i_putZ, i_iald, i_bald, i_zald, i_lald, i_iast, i_bast, i_zast, i_last, i_aldR, i_aldW, i_aldP, i_astP, i_alen, i_copy, i_min, i_max, i_abs, i_sval, i_scod, i_slen, i_sald, i_callI, i_oinit, i_call_0, i_call_1, i_call_2, i_call_3, i_call_4, i_callT_0, i_callT_1, i_callT_2, i_callV_0, i_callV_1, i_callV_2, i_callV_3, i_callV_4, i_callV_5, lget, lput, lput2, aKill, aU, List.length_cons, List.length_nil, Nat.reduceAdd, Nat.reduceLT, Nat.reduceEqDiff, reduceIte, if_true, if_false, List.map_cons, List.map_nil, List.sum_cons, List.sum_nil, cat_int, cat_long, cat_ref, cat_null, cat_ra, Nat.reduceLeDiff, true_and, and_true, aPush_none, aPush_some, nrw_int, nrw_b0, nrw_b1, Nat.lt_irrefl, Nat.zero_lt_succ, le_nI, nI_lt', in_nI, cl_nI, eq_nI, le_nII, lt_nII, nI_1, true_imp_iff, false_imp_iff, not_true_eq_false, not_false_eq_true, and_self, forall_const, implies_true, Nat.le_refl, ne_eq, i10, tn_m1, not_true_eq_false, tn_0, tn_1, tn_2, tn_3, tn_4, tn_5, tn_6, tn_7, tn_8, tn_9, tn_10, tn_11, tn_12, tn_13, tn_14, tn_15, tn_19, tn_20, tn_24, tn_25, tn_29, tn_30, tn_32, tn_33, tn_40, tn_59, tn_60, tn_61, tn_64, tn_65, tn_72, tn_99, tn_100, tn_300, tn_400, tn_600, tn_999, tn_1800, tn_800, in_0, in_1, in_2, in_3, in_4, in_5, in_6, in_7, in_8, in_9, in_10, in_11, in_19, oi_0, oi_1, oi_2, oi_3, oi_4, oi_5, oi_6, oi_7, oi_8, oi_9, oi_10, oi_11, oi_12, oi_13, oi_14, oi_15, oi_16, oi_17, oi_18, oi_19, oi_20, oi_21, oi_22, oi_23, oi_24, oi_25, oi_26, oi_27, oi_28, oi_29, oi_30, oi_31, oi_200000, oi_200001, oi_200002, oi_200003, oi_200004, oi_200005, oi_200006, oi_200007, oi_200008, oi_200009, oi_200010, oi_200011, oi_200012, oi_200013, oi_200014, Int.reduceAdd, i_sw, lg_cmp_ge, lg_cmp_le, lg_cmp_gt, lg_cmp_lt, lg_cmp_eq, nI_pred, nI_m1, nI_p2, nI_m2, nI_le0, nI_lt0, nI_ge0, nI_gt0, nI_eq0, nI_2le, nI_sub, List.length_cons, List.length_nil, Nat.not_lt_zero, shM, hs0, hn0, hL2]
            exact ih (env (w - 100000) :: st) (false :: τ) _ _ _ (by rw [← hL]; funext q; exact if_neg (fun y => by omega)) (stk_push hs) (by simp [hl]) (by simp; omega) hck2 hev2
        exact ⟨fun _ => step, fun y => ⟨fun z => absurd (show 100000 ≤ w ∧ w < 200000 by omega) z, fun _ => step⟩⟩
      · have hn1 : ¬ w < 100000 := by omega
        have hn2 : ¬ (100000 ≤ w ∧ w < 200000) := by omega
        refine ⟨fun y => absurd y hn1, fun _ => ⟨fun _ => ?_, fun y => absurd y hn2⟩⟩
        obtain ⟨hw13, hcase⟩ := chk_tail h2 hck
        have h9 := srt_12 (w := w) (by omega) hw13
        unfold evR at hev
        rw [if_neg h2] at hev
        rcases hcase with ⟨y, ρ, rfl, hw12, rfl, hck2⟩ | ⟨y, z, ρ, rfl, hw12, u, hck2, -, -, -⟩
        · have h9' : srt w = 9 := h9.mpr hw12
          match st, hl, hs, hli, hev with
          | v :: st, hl, hs, hli, hev =>
            have e : L' 885 st.length = v := hs.1
            have hev2 : evR env (c.drop (i + 1)) ((1 - v) :: st) = X := by
              match st, hev with
              | [], hev => exact hev
              | v2 :: st, hev =>
                dsimp only at hev
                rw [if_pos hw12] at hev
                exact hev
            simp only [List.length_cons] at hli
            simp (disch := omega) only [R_X8_answer_84, R_X8_answer_147, i_c, i_ild, i_ildv, i_lld, i_lldv, i_ald, i_aldv, i_ist, i_lst, i_ast, i_iinc, i_iincv, i_iadd, i_isub, i_imul, i_iand, i_ior, i_ixor, i_ishl, i_ishr, i_iushr, i_idiv, i_irem, i_ineg, i_ladd, i_lsub, i_lmul, i_land, i_lor, i_ldiv, i_lrem, i_lcmp, i_i2l, i_l2i, i_i2b, i_i2c, i_dup, i_pop, i_dup2, i_dup_x1, i_ifeq, i_ifne, i_iflt, i_ifge, i_ifgt, i_ifle, i_icmpeq, i_icmpne, i_icmplt, i_icmpge, i_icmpgt, i_icmple, i_ifnn, i_tsw, i_sw, i_iret, i_lret, i_aret, i_vret, i_getI, i_getR, i_putI, i_putZ, i_iald, i_bald, i_zald, i_lald, i_iast, i_bast, i_zast, i_last, i_aldR, i_aldW, i_aldP, i_astP, i_alen, i_copy, i_min, i_max, i_abs, i_sval, i_scod, i_slen, i_sald, i_callI, i_oinit, i_call_0, i_call_1, i_call_2, i_call_3, i_call_4, i_callT_0, i_callT_1, i_callT_2, i_callV_0, i_callV_1, i_callV_2, i_callV_3, i_callV_4, i_callV_5, lget, lput, lput2, aKill, aU, List.length_cons, List.length_nil, Nat.reduceAdd, Nat.reduceLT, Nat.reduceEqDiff, reduceIte, if_true, if_false, List.map_cons, List.map_nil, List.sum_cons, List.sum_nil, cat_int, cat_long, cat_ref, cat_null, cat_ra, Nat.reduceLeDiff, true_and, and_true, aPush_none, aPush_some, nrw_int, nrw_b0, nrw_b1, Nat.lt_irrefl, Nat.zero_lt_succ, le_nI, nI_lt', in_nI, cl_nI, eq_nI, le_nII, lt_nII, nI_1, true_imp_iff, false_imp_iff, not_true_eq_false, not_false_eq_true, and_self, forall_const, implies_true, Nat.le_refl, ne_eq, i10, tn_m1, not_true_eq_false, tn_0, tn_1, tn_2, tn_3, tn_4, tn_5, tn_6, tn_7, tn_8, tn_9, tn_10, tn_11, tn_12, tn_13, tn_14, tn_15, tn_19, tn_20, tn_24, tn_25, tn_29, tn_30, tn_32, tn_33, tn_40, tn_59, tn_60, tn_61, tn_64, tn_65, tn_72, tn_99, tn_100, tn_300, tn_400, tn_600, tn_999, tn_1800, tn_800, in_0, in_1, in_2, in_3, in_4, in_5, in_6, in_7, in_8, in_9, in_10, in_11, in_19, oi_0, oi_1, oi_2, oi_3, oi_4, oi_5, oi_6, oi_7, oi_8, oi_9, oi_10, oi_11, oi_12, oi_13, oi_14, oi_15, oi_16, oi_17, oi_18, oi_19, oi_20, oi_21, oi_22, oi_23, oi_24, oi_25, oi_26, oi_27, oi_28, oi_29, oi_30, oi_31, oi_200000, oi_200001, oi_200002, oi_200003, oi_200004, oi_200005, oi_200006, oi_200007, oi_200008, oi_200009, oi_200010, oi_200011, oi_200012, oi_200013, oi_200014, Int.reduceAdd, i_sw, lg_cmp_ge, lg_cmp_le, lg_cmp_gt, lg_cmp_lt, lg_cmp_eq, nI_pred, nI_m1, nI_p2, nI_m2, nI_le0, nI_lt0, nI_ge0, nI_gt0, nI_eq0, nI_2le, nI_sub, List.length_cons, List.length_nil, Nat.not_lt_zero, shM, h9', li_9, e]
            exact ih ((1 - v) :: st) (true :: ρ) (mL (I, L') 885 st.length (1 - v)).2 _ _ (by rw [← hL]; funext q; show (if 884 = 885 ∧ q = st.length then (1 - v) else L' 884 q) = L' 884 q; exact if_neg (fun y => by omega)) (stk_push hs.2) (by simpa using hl) (by simp; omega) hck2 hev2
        · have h9' : ¬ srt w = 9 := fun q => by have := h9.mp q; omega
          match st, hl, hs, hli, hev with
          | v :: v2 :: st, hl, hs, hli, hev =>
            dsimp only at hev
            rw [if_neg (by omega)] at hev
            have e : L' 885 (st.length + 1) = v := hs.1
            have e' : L' 885 st.length = v2 := hs.2.1
            obtain ⟨k, rfl⟩ : ∃ k, w = 200000 + k := ⟨w - 200000, by omega⟩
            rw [Nat.add_sub_cancel_left] at hev
            simp only [List.length_cons] at hli
            simp (disch := omega) only [R_X8_answer_84, R_X8_answer_114, i_c, i_ild, i_ildv, i_lld, i_lldv, i_ald, i_aldv, i_ist, i_lst, i_ast, i_iinc, i_iincv, i_iadd, i_isub, i_imul, i_iand, i_ior, i_ixor, i_ishl, i_ishr, i_iushr, i_idiv, i_irem, i_ineg, i_ladd, i_lsub, i_lmul, i_land, i_lor, i_ldiv, i_lrem, i_lcmp, i_i2l, i_l2i, i_i2b, i_i2c, i_dup, i_pop, i_dup2, i_dup_x1, i_ifeq, i_ifne, i_iflt, i_ifge, i_ifgt, i_ifle, i_icmpeq, i_icmpne, i_icmplt, i_icmpge, i_icmpgt, i_icmple, i_ifnn, i_tsw, i_sw, i_iret, i_lret, i_aret, i_vret, i_getI, i_getR, i_putI, i_putZ, i_iald, i_bald, i_zald, i_lald, i_iast, i_bast, i_zast, i_last, i_aldR, i_aldW, i_aldP, i_astP, i_alen, i_copy, i_min, i_max, i_abs, i_sval, i_scod, i_slen, i_sald, i_callI, i_oinit, i_call_0, i_call_1, i_call_2, i_call_3, i_call_4, i_callT_0, i_callT_1, i_callT_2, i_callV_0, i_callV_1, i_callV_2, i_callV_3, i_callV_4, i_callV_5, lget, lput, lput2, aKill, aU, List.length_cons, List.length_nil, Nat.reduceAdd, Nat.reduceLT, Nat.reduceEqDiff, reduceIte, if_true, if_false, List.map_cons, List.map_nil, List.sum_cons, List.sum_nil, cat_int, cat_long, cat_ref, cat_null, cat_ra, Nat.reduceLeDiff, true_and, and_true, aPush_none, aPush_some, nrw_int, nrw_b0, nrw_b1, Nat.lt_irrefl, Nat.zero_lt_succ, le_nI, nI_lt', in_nI, cl_nI, eq_nI, le_nII, lt_nII, nI_1, true_imp_iff, false_imp_iff, not_true_eq_false, not_false_eq_true, and_self, forall_const, implies_true, Nat.le_refl, ne_eq, i10, tn_m1, not_true_eq_false, tn_0, tn_1, tn_2, tn_3, tn_4, tn_5, tn_6, tn_7, tn_8, tn_9, tn_10, tn_11, tn_12, tn_13, tn_14, tn_15, tn_19, tn_20, tn_24, tn_25, tn_29, tn_30, tn_32, tn_33, tn_40, tn_59, tn_60, tn_61, tn_64, tn_65, tn_72, tn_99, tn_100, tn_300, tn_400, tn_600, tn_999, tn_1800, tn_800, in_0, in_1, in_2, in_3, in_4, in_5, in_6, in_7, in_8, in_9, in_10, in_11, in_19, oi_0, oi_1, oi_2, oi_3, oi_4, oi_5, oi_6, oi_7, oi_8, oi_9, oi_10, oi_11, oi_12, oi_13, oi_14, oi_15, oi_16, oi_17, oi_18, oi_19, oi_20, oi_21, oi_22, oi_23, oi_24, oi_25, oi_26, oi_27, oi_28, oi_29, oi_30, oi_31, oi_200000, oi_200001, oi_200002, oi_200003, oi_200004, oi_200005, oi_200006, oi_200007, oi_200008, oi_200009, oi_200010, oi_200011, oi_200012, oi_200013, oi_200014, Int.reduceAdd, i_sw, lg_cmp_ge, lg_cmp_le, lg_cmp_gt, lg_cmp_lt, lg_cmp_eq, nI_pred, nI_m1, nI_p2, nI_m2, nI_le0, nI_lt0, nI_ge0, nI_gt0, nI_eq0, nI_2le, nI_sub, List.length_cons, List.length_nil, Nat.not_lt_zero, shM, h9', li_9, e, e']
            refine c_X8_both (d := d + 1) (w := k) (by omega) ?_
            simp (disch := omega) only [R_X8_answer_147, i_c, i_ild, i_ildv, i_lld, i_lldv, i_ald, i_aldv, i_ist, i_lst, i_ast, i_iinc, i_iincv, i_iadd, i_isub, i_imul, i_iand, i_ior, i_ixor, i_ishl, i_ishr, i_iushr, i_idiv, i_irem, i_ineg, i_ladd, i_lsub, i_lmul, i_land, i_lor, i_ldiv, i_lrem, i_lcmp, i_i2l, i_l2i, i_i2b, i_i2c, i_dup, i_pop, i_dup2, i_dup_x1, i_ifeq, i_ifne, i_iflt, i_ifge, i_ifgt, i_ifle, i_icmpeq, i_icmpne, i_icmplt, i_icmpge, i_icmpgt, i_icmple, i_ifnn, i_tsw, i_sw, i_iret, i_lret, i_aret, i_vret, i_getI, i_getR, i_putI, i_putZ, i_iald, i_bald, i_zald, i_lald, i_iast, i_bast, i_zast, i_last, i_aldR, i_aldW, i_aldP, i_astP, i_alen, i_copy, i_min, i_max, i_abs, i_sval, i_scod, i_slen, i_sald, i_callI, i_oinit, i_call_0, i_call_1, i_call_2, i_call_3, i_call_4, i_callT_0, i_callT_1, i_callT_2, i_callV_0, i_callV_1, i_callV_2, i_callV_3, i_callV_4, i_callV_5, lget, lput, lput2, aKill, aU, List.length_cons, List.length_nil, Nat.reduceAdd, Nat.reduceLT, Nat.reduceEqDiff, reduceIte, if_true, if_false, List.map_cons, List.map_nil, List.sum_cons, List.sum_nil, cat_int, cat_long, cat_ref, cat_null, cat_ra, Nat.reduceLeDiff, true_and, and_true, aPush_none, aPush_some, nrw_int, nrw_b0, nrw_b1, Nat.lt_irrefl, Nat.zero_lt_succ, le_nI, nI_lt', in_nI, cl_nI, eq_nI, le_nII, lt_nII, nI_1, true_imp_iff, false_imp_iff, not_true_eq_false, not_false_eq_true, and_self, forall_const, implies_true, Nat.le_refl, ne_eq, i10, tn_m1, not_true_eq_false, tn_0, tn_1, tn_2, tn_3, tn_4, tn_5, tn_6, tn_7, tn_8, tn_9, tn_10, tn_11, tn_12, tn_13, tn_14, tn_15, tn_19, tn_20, tn_24, tn_25, tn_29, tn_30, tn_32, tn_33, tn_40, tn_59, tn_60, tn_61, tn_64, tn_65, tn_72, tn_99, tn_100, tn_300, tn_400, tn_600, tn_999, tn_1800, tn_800, in_0, in_1, in_2, in_3, in_4, in_5, in_6, in_7, in_8, in_9, in_10, in_11, in_19, oi_0, oi_1, oi_2, oi_3, oi_4, oi_5, oi_6, oi_7, oi_8, oi_9, oi_10, oi_11, oi_12, oi_13, oi_14, oi_15, oi_16, oi_17, oi_18, oi_19, oi_20, oi_21, oi_22, oi_23, oi_24, oi_25, oi_26, oi_27, oi_28, oi_29, oi_30, oi_31, oi_200000, oi_200001, oi_200002, oi_200003, oi_200004, oi_200005, oi_200006, oi_200007, oi_200008, oi_200009, oi_200010, oi_200011, oi_200012, oi_200013, oi_200014, Int.reduceAdd, i_sw, lg_cmp_ge, lg_cmp_le, lg_cmp_gt, lg_cmp_lt, lg_cmp_eq, nI_pred, nI_m1, nI_p2, nI_m2, nI_le0, nI_lt0, nI_ge0, nI_gt0, nI_eq0, nI_2le, nI_sub, List.length_cons, List.length_nil, Nat.not_lt_zero, shM]
            exact ih (bothR k v2 v :: st) (u :: ρ) _ _ _ (by rw [← hL]; funext q; exact if_neg (fun y => by omega)) (stk_push hs.2.2) (by simpa using hl) (by simp; omega) hck2 hev
  exact LL 0 (Nat.zero_le _) [] [] L _ _ rfl trivial rfl (Nat.le_refl _) hc hX
