/-! the reference: where all are, minute by minute -/
/-- the sheet has what is of minutes before k -/
def telP (ru : Option aRule) (T S1 : aSS) (k : Nat) (J : aSS) : Prop := ∀ q, q < k → ∀ c, c < tn (T 0 2) → J 890 (6 * q + c) = passN ru T q S1 3 c ∧ J 890 (6 * q + 3 + c) = passN ru T q S1 2 c
set_option maxHeartbeats 4000000 in
theorem c_X8_laysAll {G : aG} {l : Launch} {d : Nat} {Q : Option Value → aM → Prop} {I J : aSS} {L : Nat → Nat → Int64} {T S1 : aSS} {B : Nat} {R : List (List aCl2)} {f : Int32} (hW : whS T R f B I J S1) (hB : B + 61 < 1000000) (hq : ∀ J' L', whS T R f (B + 61) I J' (passN (ruM R f) T 61 S1) → J' 848 48 = J 848 48 → J' 848 49 = J 848 49 → telP (ruM R f) T S1 61 J' → Q none (J', L')) : aC (aRS G) G l (d + 9) 0 0 mX8_laysAll [.ref 848] (J, L) Q := by
  have h3 : tn (T 0 2) ≤ 3 := hW.2.1.1.1.1.1.2.1
  refine E_X8_laysAll ?_
  simp (disch := omega) only [R_X8_laysAll_0, i_c, i_ild, i_ildv, i_lld, i_lldv, i_ald, i_aldv, i_ist, i_lst, i_ast, i_iinc, i_iincv, i_iadd, i_isub, i_imul, i_iand, i_ior, i_ixor, i_ishl, i_ishr, i_iushr, i_idiv, i_irem, i_ineg, i_ladd, i_lsub, i_lmul, i_land, i_lor, i_ldiv, i_lrem, i_lcmp, i_i2l, i_l2i, i_i2b, i_i2c, i_dup, i_pop, i_dup2, i_dup_x1, i_ifeq, i_ifne, i_iflt, i_ifge, i_ifgt, i_ifle, i_icmpeq, i_icmpne, i_icmplt, i_icmpge, i_icmpgt, i_icmple, i_ifnn, i_tsw, i_sw, i_iret, i_lret, i_aret, i_vret, i_getI, i_getR, i_putI, i_putZ, i_iald, i_bald, i_zald, i_lald, i_iast, i_bast, i_zast, i_last, i_aldR, i_aldW, i_aldP, i_astP, i_alen, i_copy, i_min, i_max, i_abs, i_sval, i_scod, i_slen, i_sald, i_callI, i_oinit, i_call_0, i_call_1, i_call_2, i_call_3, i_call_4, i_callT_0, i_callT_1, i_callT_2, i_callV_0, i_callV_1, i_callV_2, i_callV_3, i_callV_4, i_callV_5, lget, lput, lput2, aKill, aU, List.length_cons, List.length_nil, Nat.reduceAdd, Nat.reduceLT, Nat.reduceEqDiff, reduceIte, if_true, if_false, List.map_cons, List.map_nil, List.sum_cons, List.sum_nil, cat_int, cat_long, cat_ref, cat_null, cat_ra, Nat.reduceLeDiff, true_and, and_true, aPush_none, aPush_some, nrw_int, nrw_b0, nrw_b1, Nat.lt_irrefl, Nat.zero_lt_succ, le_nI, nI_lt', in_nI, cl_nI, eq_nI, le_nII, lt_nII, nI_1, true_imp_iff, false_imp_iff, not_true_eq_false, not_false_eq_true, and_self, forall_const, implies_true, Nat.le_refl, ne_eq, i10, tn_m1, not_true_eq_false, tn_0, tn_1, tn_2, tn_3, tn_4, tn_5, tn_6, tn_7, tn_8, tn_9, tn_10, tn_11, tn_12, tn_13, tn_14, tn_15, tn_19, tn_20, tn_24, tn_25, tn_29, tn_30, tn_32, tn_33, tn_40, tn_59, tn_60, tn_61, tn_64, tn_65, tn_72, tn_99, tn_100, tn_300, tn_400, tn_600, tn_999, tn_1800, tn_800, in_0, in_1, in_2, in_3, in_4, in_5, in_6, in_7, in_8, in_9, in_10, in_11, in_19, oi_0, oi_1, oi_2, oi_3, oi_4, oi_5, oi_6, oi_7, oi_8, oi_9, oi_10, oi_11, oi_12, oi_13, oi_14, oi_15, oi_16, oi_17, oi_18, oi_19, oi_20, oi_21, oi_22, oi_23, oi_24, oi_25, oi_26, oi_27, oi_28, oi_29, oi_30, oi_31, oi_200000, oi_200001, oi_200002, oi_200003, oi_200004, oi_200005, oi_200006, oi_200007, oi_200008, oi_200009, oi_200010, oi_200011, oi_200012, oi_200013, oi_200014, Int.reduceAdd, i_sw, lg_cmp_ge, lg_cmp_le, lg_cmp_gt, lg_cmp_lt, lg_cmp_eq, nI_pred, nI_m1, nI_p2, nI_m2, nI_le0, nI_lt0, nI_ge0, nI_gt0, nI_eq0, nI_2le, nI_sub, List.length_cons, List.length_nil, Nat.not_lt_zero, shM]
  have LL : ∀ k, k ≤ 61 → ∀ J' L' (b : Value), whS T R f (B + k) I J' (passN (ruM R f) T k S1) → J' 848 48 = J 848 48 → J' 848 49 = J 848 49 → telP (ruM R f) T S1 k J' → aT (aRS G) G l (d + 9) mX8_laysAll 0 0 Q 2 [.ref 848, .int (nI k), b] [] (J', L') := by
    refine up_loop ?_ (fun k hk ih => ?_)
    · intro J' L' b hW' e48 e49 ht
      refine S_X8_laysAll_2 _ _ _ ?_
      simp (disch := omega) only [R_X8_laysAll_2, R_X8_laysAll_68, i_c, i_ild, i_ildv, i_lld, i_lldv, i_ald, i_aldv, i_ist, i_lst, i_ast, i_iinc, i_iincv, i_iadd, i_isub, i_imul, i_iand, i_ior, i_ixor, i_ishl, i_ishr, i_iushr, i_idiv, i_irem, i_ineg, i_ladd, i_lsub, i_lmul, i_land, i_lor, i_ldiv, i_lrem, i_lcmp, i_i2l, i_l2i, i_i2b, i_i2c, i_dup, i_pop, i_dup2, i_dup_x1, i_ifeq, i_ifne, i_iflt, i_ifge, i_ifgt, i_ifle, i_icmpeq, i_icmpne, i_icmplt, i_icmpge, i_icmpgt, i_icmple, i_ifnn, i_tsw, i_sw, i_iret, i_lret, i_aret, i_vret, i_getI, i_getR, i_putI, i_putZ, i_iald, i_bald, i_zald, i_lald, i_iast, i_bast, i_zast, i_last, i_aldR, i_aldW, i_aldP, i_astP, i_alen, i_copy, i_min, i_max, i_abs, i_sval, i_scod, i_slen, i_sald, i_callI, i_oinit, i_call_0, i_call_1, i_call_2, i_call_3, i_call_4, i_callT_0, i_callT_1, i_callT_2, i_callV_0, i_callV_1, i_callV_2, i_callV_3, i_callV_4, i_callV_5, lget, lput, lput2, aKill, aU, List.length_cons, List.length_nil, Nat.reduceAdd, Nat.reduceLT, Nat.reduceEqDiff, reduceIte, if_true, if_false, List.map_cons, List.map_nil, List.sum_cons, List.sum_nil, cat_int, cat_long, cat_ref, cat_null, cat_ra, Nat.reduceLeDiff, true_and, and_true, aPush_none, aPush_some, nrw_int, nrw_b0, nrw_b1, Nat.lt_irrefl, Nat.zero_lt_succ, le_nI, nI_lt', in_nI, cl_nI, eq_nI, le_nII, lt_nII, nI_1, true_imp_iff, false_imp_iff, not_true_eq_false, not_false_eq_true, and_self, forall_const, implies_true, Nat.le_refl, ne_eq, i10, tn_m1, not_true_eq_false, tn_0, tn_1, tn_2, tn_3, tn_4, tn_5, tn_6, tn_7, tn_8, tn_9, tn_10, tn_11, tn_12, tn_13, tn_14, tn_15, tn_19, tn_20, tn_24, tn_25, tn_29, tn_30, tn_32, tn_33, tn_40, tn_59, tn_60, tn_61, tn_64, tn_65, tn_72, tn_99, tn_100, tn_300, tn_400, tn_600, tn_999, tn_1800, tn_800, in_0, in_1, in_2, in_3, in_4, in_5, in_6, in_7, in_8, in_9, in_10, in_11, in_19, oi_0, oi_1, oi_2, oi_3, oi_4, oi_5, oi_6, oi_7, oi_8, oi_9, oi_10, oi_11, oi_12, oi_13, oi_14, oi_15, oi_16, oi_17, oi_18, oi_19, oi_20, oi_21, oi_22, oi_23, oi_24, oi_25, oi_26, oi_27, oi_28, oi_29, oi_30, oi_31, oi_200000, oi_200001, oi_200002, oi_200003, oi_200004, oi_200005, oi_200006, oi_200007, oi_200008, oi_200009, oi_200010, oi_200011, oi_200012, oi_200013, oi_200014, Int.reduceAdd, i_sw, lg_cmp_ge, lg_cmp_le, lg_cmp_gt, lg_cmp_lt, lg_cmp_eq, nI_pred, nI_m1, nI_p2, nI_m2, nI_le0, nI_lt0, nI_ge0, nI_gt0, nI_eq0, nI_2le, nI_sub, List.length_cons, List.length_nil, Nat.not_lt_zero, shM, li_60]
      exact hq J' L' hW' e48 e49 ht
    · intro J' L' b hW' e48 e49 ht
      refine S_X8_laysAll_2 _ _ _ ?_
      simp (disch := omega) only [R_X8_laysAll_2, i_c, i_ild, i_ildv, i_lld, i_lldv, i_ald, i_aldv, i_ist, i_lst, i_ast, i_iinc, i_iincv, i_iadd, i_isub, i_imul, i_iand, i_ior, i_ixor, i_ishl, i_ishr, i_iushr, i_idiv, i_irem, i_ineg, i_ladd, i_lsub, i_lmul, i_land, i_lor, i_ldiv, i_lrem, i_lcmp, i_i2l, i_l2i, i_i2b, i_i2c, i_dup, i_pop, i_dup2, i_dup_x1, i_ifeq, i_ifne, i_iflt, i_ifge, i_ifgt, i_ifle, i_icmpeq, i_icmpne, i_icmplt, i_icmpge, i_icmpgt, i_icmple, i_ifnn, i_tsw, i_sw, i_iret, i_lret, i_aret, i_vret, i_getI, i_getR, i_putI, i_putZ, i_iald, i_bald, i_zald, i_lald, i_iast, i_bast, i_zast, i_last, i_aldR, i_aldW, i_aldP, i_astP, i_alen, i_copy, i_min, i_max, i_abs, i_sval, i_scod, i_slen, i_sald, i_callI, i_oinit, i_call_0, i_call_1, i_call_2, i_call_3, i_call_4, i_callT_0, i_callT_1, i_callT_2, i_callV_0, i_callV_1, i_callV_2, i_callV_3, i_callV_4, i_callV_5, lget, lput, lput2, aKill, aU, List.length_cons, List.length_nil, Nat.reduceAdd, Nat.reduceLT, Nat.reduceEqDiff, reduceIte, if_true, if_false, List.map_cons, List.map_nil, List.sum_cons, List.sum_nil, cat_int, cat_long, cat_ref, cat_null, cat_ra, Nat.reduceLeDiff, true_and, and_true, aPush_none, aPush_some, nrw_int, nrw_b0, nrw_b1, Nat.lt_irrefl, Nat.zero_lt_succ, le_nI, nI_lt', in_nI, cl_nI, eq_nI, le_nII, lt_nII, nI_1, true_imp_iff, false_imp_iff, not_true_eq_false, not_false_eq_true, and_self, forall_const, implies_true, Nat.le_refl, ne_eq, i10, tn_m1, not_true_eq_false, tn_0, tn_1, tn_2, tn_3, tn_4, tn_5, tn_6, tn_7, tn_8, tn_9, tn_10, tn_11, tn_12, tn_13, tn_14, tn_15, tn_19, tn_20, tn_24, tn_25, tn_29, tn_30, tn_32, tn_33, tn_40, tn_59, tn_60, tn_61, tn_64, tn_65, tn_72, tn_99, tn_100, tn_300, tn_400, tn_600, tn_999, tn_1800, tn_800, in_0, in_1, in_2, in_3, in_4, in_5, in_6, in_7, in_8, in_9, in_10, in_11, in_19, oi_0, oi_1, oi_2, oi_3, oi_4, oi_5, oi_6, oi_7, oi_8, oi_9, oi_10, oi_11, oi_12, oi_13, oi_14, oi_15, oi_16, oi_17, oi_18, oi_19, oi_20, oi_21, oi_22, oi_23, oi_24, oi_25, oi_26, oi_27, oi_28, oi_29, oi_30, oi_31, oi_200000, oi_200001, oi_200002, oi_200003, oi_200004, oi_200005, oi_200006, oi_200007, oi_200008, oi_200009, oi_200010, oi_200011, oi_200012, oi_200013, oi_200014, Int.reduceAdd, i_sw, lg_cmp_ge, lg_cmp_le, lg_cmp_gt, lg_cmp_lt, lg_cmp_eq, nI_pred, nI_m1, nI_p2, nI_m2, nI_le0, nI_lt0, nI_ge0, nI_gt0, nI_eq0, nI_2le, nI_sub, List.length_cons, List.length_nil, Nat.not_lt_zero, shM, li_60, Nat.not_lt.mpr (show k ≤ 60 by omega)]
      have LC : ∀ c, c ≤ 3 → ∀ J2, whS T R f (B + k) I J2 (passN (ruM R f) T k S1) → J2 848 48 = J 848 48 → J2 848 49 = J 848 49 → telP (ruM R f) T S1 k J2 → (∀ q, q < c → q < tn (T 0 2) → J2 890 (6 * k + q) = passN (ruM R f) T k S1 3 q ∧ J2 890 (6 * k + 3 + q) = passN (ruM R f) T k S1 2 q) → aT (aRS G) G l (d + 9) mX8_laysAll 0 0 Q 10 [.ref 848, .int (nI k), .int (nI c)] [] (J2, L') := by
        refine up_loop ?_ (fun c hc ihc => ?_)
        · intro J2 hW2 e48 e49 ht hd
          refine S_X8_laysAll_10 _ _ _ ?_
          simp (disch := omega) only [R_X8_laysAll_10, R_X8_laysAll_57, i_c, i_ild, i_ildv, i_lld, i_lldv, i_ald, i_aldv, i_ist, i_lst, i_ast, i_iinc, i_iincv, i_iadd, i_isub, i_imul, i_iand, i_ior, i_ixor, i_ishl, i_ishr, i_iushr, i_idiv, i_irem, i_ineg, i_ladd, i_lsub, i_lmul, i_land, i_lor, i_ldiv, i_lrem, i_lcmp, i_i2l, i_l2i, i_i2b, i_i2c, i_dup, i_pop, i_dup2, i_dup_x1, i_ifeq, i_ifne, i_iflt, i_ifge, i_ifgt, i_ifle, i_icmpeq, i_icmpne, i_icmplt, i_icmpge, i_icmpgt, i_icmple, i_ifnn, i_tsw, i_sw, i_iret, i_lret, i_aret, i_vret, i_getI, i_getR, i_putI, i_putZ, i_iald, i_bald, i_zald, i_lald, i_iast, i_bast, i_zast, i_last, i_aldR, i_aldW, i_aldP, i_astP, i_alen, i_copy, i_min, i_max, i_abs, i_sval, i_scod, i_slen, i_sald, i_callI, i_oinit, i_call_0, i_call_1, i_call_2, i_call_3, i_call_4, i_callT_0, i_callT_1, i_callT_2, i_callV_0, i_callV_1, i_callV_2, i_callV_3, i_callV_4, i_callV_5, lget, lput, lput2, aKill, aU, List.length_cons, List.length_nil, Nat.reduceAdd, Nat.reduceLT, Nat.reduceEqDiff, reduceIte, if_true, if_false, List.map_cons, List.map_nil, List.sum_cons, List.sum_nil, cat_int, cat_long, cat_ref, cat_null, cat_ra, Nat.reduceLeDiff, true_and, and_true, aPush_none, aPush_some, nrw_int, nrw_b0, nrw_b1, Nat.lt_irrefl, Nat.zero_lt_succ, le_nI, nI_lt', in_nI, cl_nI, eq_nI, le_nII, lt_nII, nI_1, true_imp_iff, false_imp_iff, not_true_eq_false, not_false_eq_true, and_self, forall_const, implies_true, Nat.le_refl, ne_eq, i10, tn_m1, not_true_eq_false, tn_0, tn_1, tn_2, tn_3, tn_4, tn_5, tn_6, tn_7, tn_8, tn_9, tn_10, tn_11, tn_12, tn_13, tn_14, tn_15, tn_19, tn_20, tn_24, tn_25, tn_29, tn_30, tn_32, tn_33, tn_40, tn_59, tn_60, tn_61, tn_64, tn_65, tn_72, tn_99, tn_100, tn_300, tn_400, tn_600, tn_999, tn_1800, tn_800, in_0, in_1, in_2, in_3, in_4, in_5, in_6, in_7, in_8, in_9, in_10, in_11, in_19, oi_0, oi_1, oi_2, oi_3, oi_4, oi_5, oi_6, oi_7, oi_8, oi_9, oi_10, oi_11, oi_12, oi_13, oi_14, oi_15, oi_16, oi_17, oi_18, oi_19, oi_20, oi_21, oi_22, oi_23, oi_24, oi_25, oi_26, oi_27, oi_28, oi_29, oi_30, oi_31, oi_200000, oi_200001, oi_200002, oi_200003, oi_200004, oi_200005, oi_200006, oi_200007, oi_200008, oi_200009, oi_200010, oi_200011, oi_200012, oi_200013, oi_200014, Int.reduceAdd, i_sw, lg_cmp_ge, lg_cmp_le, lg_cmp_gt, lg_cmp_lt, lg_cmp_eq, nI_pred, nI_m1, nI_p2, nI_m2, nI_le0, nI_lt0, nI_ge0, nI_gt0, nI_eq0, nI_2le, nI_sub, List.length_cons, List.length_nil, Nat.not_lt_zero, shM, li_3]
          refine c_goesW (d := d) hW2 (by omega) (fun J3 L3 hW3 hf3 _ _ _ => ?_)
          have f48 := (hf3.2.1 48 (by omega) (by omega) (by omega)).trans e48
          have f49 := (hf3.2.1 49 (by omega) (by omega) (by omega)).trans e49
          have r := hf3.1 890 (by omega)
          simp (disch := omega) only [i_c, i_ild, i_ildv, i_lld, i_lldv, i_ald, i_aldv, i_ist, i_lst, i_ast, i_iinc, i_iincv, i_iadd, i_isub, i_imul, i_iand, i_ior, i_ixor, i_ishl, i_ishr, i_iushr, i_idiv, i_irem, i_ineg, i_ladd, i_lsub, i_lmul, i_land, i_lor, i_ldiv, i_lrem, i_lcmp, i_i2l, i_l2i, i_i2b, i_i2c, i_dup, i_pop, i_dup2, i_dup_x1, i_ifeq, i_ifne, i_iflt, i_ifge, i_ifgt, i_ifle, i_icmpeq, i_icmpne, i_icmplt, i_icmpge, i_icmpgt, i_icmple, i_ifnn, i_tsw, i_sw, i_iret, i_lret, i_aret, i_vret, i_getI, i_getR, i_putI, i_putZ, i_iald, i_bald, i_zald, i_lald, i_iast, i_bast, i_zast, i_last, i_aldR, i_aldW, i_aldP, i_astP, i_alen, i_copy, i_min, i_max, i_abs, i_sval, i_scod, i_slen, i_sald, i_callI, i_oinit, i_call_0, i_call_1, i_call_2, i_call_3, i_call_4, i_callT_0, i_callT_1, i_callT_2, i_callV_0, i_callV_1, i_callV_2, i_callV_3, i_callV_4, i_callV_5, lget, lput, lput2, aKill, aU, List.length_cons, List.length_nil, Nat.reduceAdd, Nat.reduceLT, Nat.reduceEqDiff, reduceIte, if_true, if_false, List.map_cons, List.map_nil, List.sum_cons, List.sum_nil, cat_int, cat_long, cat_ref, cat_null, cat_ra, Nat.reduceLeDiff, true_and, and_true, aPush_none, aPush_some, nrw_int, nrw_b0, nrw_b1, Nat.lt_irrefl, Nat.zero_lt_succ, le_nI, nI_lt', in_nI, cl_nI, eq_nI, le_nII, lt_nII, nI_1, true_imp_iff, false_imp_iff, not_true_eq_false, not_false_eq_true, and_self, forall_const, implies_true, Nat.le_refl, ne_eq, i10, tn_m1, not_true_eq_false, tn_0, tn_1, tn_2, tn_3, tn_4, tn_5, tn_6, tn_7, tn_8, tn_9, tn_10, tn_11, tn_12, tn_13, tn_14, tn_15, tn_19, tn_20, tn_24, tn_25, tn_29, tn_30, tn_32, tn_33, tn_40, tn_59, tn_60, tn_61, tn_64, tn_65, tn_72, tn_99, tn_100, tn_300, tn_400, tn_600, tn_999, tn_1800, tn_800, in_0, in_1, in_2, in_3, in_4, in_5, in_6, in_7, in_8, in_9, in_10, in_11, in_19, oi_0, oi_1, oi_2, oi_3, oi_4, oi_5, oi_6, oi_7, oi_8, oi_9, oi_10, oi_11, oi_12, oi_13, oi_14, oi_15, oi_16, oi_17, oi_18, oi_19, oi_20, oi_21, oi_22, oi_23, oi_24, oi_25, oi_26, oi_27, oi_28, oi_29, oi_30, oi_31, oi_200000, oi_200001, oi_200002, oi_200003, oi_200004, oi_200005, oi_200006, oi_200007, oi_200008, oi_200009, oi_200010, oi_200011, oi_200012, oi_200013, oi_200014, Int.reduceAdd, i_sw, lg_cmp_ge, lg_cmp_le, lg_cmp_gt, lg_cmp_lt, lg_cmp_eq, nI_pred, nI_m1, nI_p2, nI_m2, nI_le0, nI_lt0, nI_ge0, nI_gt0, nI_eq0, nI_2le, nI_sub, List.length_cons, List.length_nil, Nat.not_lt_zero, shM]
          refine ih J3 L3 _ hW3 f48 f49 (fun q hq c hc => ?_)
          rw [r]
          rcases Nat.lt_or_ge q k with y | y
          · exact ht q y c hc
          · have e : q = k := by omega
            subst e
            exact hd c (by omega) hc
        · intro J2 hW2 e48 e49 ht hd
          refine S_X8_laysAll_10 _ _ _ ?_
          simp (disch := omega) only [R_X8_laysAll_10, i_c, i_ild, i_ildv, i_lld, i_lldv, i_ald, i_aldv, i_ist, i_lst, i_ast, i_iinc, i_iincv, i_iadd, i_isub, i_imul, i_iand, i_ior, i_ixor, i_ishl, i_ishr, i_iushr, i_idiv, i_irem, i_ineg, i_ladd, i_lsub, i_lmul, i_land, i_lor, i_ldiv, i_lrem, i_lcmp, i_i2l, i_l2i, i_i2b, i_i2c, i_dup, i_pop, i_dup2, i_dup_x1, i_ifeq, i_ifne, i_iflt, i_ifge, i_ifgt, i_ifle, i_icmpeq, i_icmpne, i_icmplt, i_icmpge, i_icmpgt, i_icmple, i_ifnn, i_tsw, i_sw, i_iret, i_lret, i_aret, i_vret, i_getI, i_getR, i_putI, i_putZ, i_iald, i_bald, i_zald, i_lald, i_iast, i_bast, i_zast, i_last, i_aldR, i_aldW, i_aldP, i_astP, i_alen, i_copy, i_min, i_max, i_abs, i_sval, i_scod, i_slen, i_sald, i_callI, i_oinit, i_call_0, i_call_1, i_call_2, i_call_3, i_call_4, i_callT_0, i_callT_1, i_callT_2, i_callV_0, i_callV_1, i_callV_2, i_callV_3, i_callV_4, i_callV_5, lget, lput, lput2, aKill, aU, List.length_cons, List.length_nil, Nat.reduceAdd, Nat.reduceLT, Nat.reduceEqDiff, reduceIte, if_true, if_false, List.map_cons, List.map_nil, List.sum_cons, List.sum_nil, cat_int, cat_long, cat_ref, cat_null, cat_ra, Nat.reduceLeDiff, true_and, and_true, aPush_none, aPush_some, nrw_int, nrw_b0, nrw_b1, Nat.lt_irrefl, Nat.zero_lt_succ, le_nI, nI_lt', in_nI, cl_nI, eq_nI, le_nII, lt_nII, nI_1, true_imp_iff, false_imp_iff, not_true_eq_false, not_false_eq_true, and_self, forall_const, implies_true, Nat.le_refl, ne_eq, i10, tn_m1, not_true_eq_false, tn_0, tn_1, tn_2, tn_3, tn_4, tn_5, tn_6, tn_7, tn_8, tn_9, tn_10, tn_11, tn_12, tn_13, tn_14, tn_15, tn_19, tn_20, tn_24, tn_25, tn_29, tn_30, tn_32, tn_33, tn_40, tn_59, tn_60, tn_61, tn_64, tn_65, tn_72, tn_99, tn_100, tn_300, tn_400, tn_600, tn_999, tn_1800, tn_800, in_0, in_1, in_2, in_3, in_4, in_5, in_6, in_7, in_8, in_9, in_10, in_11, in_19, oi_0, oi_1, oi_2, oi_3, oi_4, oi_5, oi_6, oi_7, oi_8, oi_9, oi_10, oi_11, oi_12, oi_13, oi_14, oi_15, oi_16, oi_17, oi_18, oi_19, oi_20, oi_21, oi_22, oi_23, oi_24, oi_25, oi_26, oi_27, oi_28, oi_29, oi_30, oi_31, oi_200000, oi_200001, oi_200002, oi_200003, oi_200004, oi_200005, oi_200006, oi_200007, oi_200008, oi_200009, oi_200010, oi_200011, oi_200012, oi_200013, oi_200014, Int.reduceAdd, i_sw, lg_cmp_ge, lg_cmp_le, lg_cmp_gt, lg_cmp_lt, lg_cmp_eq, nI_pred, nI_m1, nI_p2, nI_m2, nI_le0, nI_lt0, nI_ge0, nI_gt0, nI_eq0, nI_2le, nI_sub, List.length_cons, List.length_nil, Nat.not_lt_zero, shM, li_3, li_6, Nat.not_le.mpr hc, pk_mul, nI_add]
          refine ihc (up2 (up2 J2 890 (6 * k + c) (J2 851 c)) 890 (6 * k + 3 + c) (J2 850 c)) ((hW2.sheet (by omega)).sheet (by omega)) e48 e49 (fun q hq c2 hc2 => ⟨?_, ?_⟩) (fun q hq hc2 => ?_)
          · rw [up2_nk (by omega), up2_nk (by omega)]
            exact (ht q hq c2 hc2).1
          · rw [up2_nk (by omega), up2_nk (by omega)]
            exact (ht q hq c2 hc2).2
          · rcases Nat.lt_or_ge q c with y | y
            · rw [up2_nk (by omega), up2_nk (by omega), up2_nk (by omega), up2_nk (by omega)]
              exact hd q y hc2
            · have e : q = c := by omega
              subst e
              have v := hW2.2.1.2.2.2.1 q hc2
              rw [up2_nk (by omega), up2_at, up2_at]
              exact ⟨v.2.1, v.1⟩
      exact LC 0 (Nat.zero_le _) J' hW' e48 e49 ht (fun q h _ => absurd h (Nat.not_lt_zero q))
  exact LL 0 (Nat.zero_le _) J L _ hW rfl rfl (fun q h => absurd h (Nat.not_lt_zero q))
theorem nI_or {a b : Nat} (h : a < 2 ^ 32) (g : b < 2 ^ 32) : nI a ||| nI b = nI (a ||| b) :=
  Int32.toBitVec_inj.mp (BitVec.eq_of_toNat_eq (by rw [Int32.toBitVec_or, BitVec.toNat_or, pk_tn h, pk_tn g, pk_tn (Nat.or_lt_two_pow h g)]))
theorem num_step {a p q : Nat} (ha : a < 2 ^ 20) (hp : p < 31) (hq : q < 7) : (nI a <<< ((8 : Int32) &&& 31)) ||| (nI p <<< ((3 : Int32) &&& 31)) ||| nI q = nI (a * 256 + p * 8 + q) := by
  rw [pk_shlN (n := a) ((8 : Int32) &&& 31) 8 (by decide) (by omega), pk_shlN (n := p) ((3 : Int32) &&& 31) 3 (by decide) (by omega), nI_or (by omega) (by omega)]
  have e1 : a * 2 ^ 8 ||| p * 2 ^ 3 = a * 256 + p * 8 := by
    have := Nat.two_pow_add_eq_or_of_lt (i := 8) (b := p * 2 ^ 3) (by omega) a
    rw [Nat.mul_comm a, ← this]
  rw [e1, nI_or (by omega) (by omega)]
  have e2 : (a * 256 + p * 8) ||| q = a * 256 + p * 8 + q := by
    have := Nat.two_pow_add_eq_or_of_lt (i := 3) (b := q) (by omega) (a * 32 + p)
    rw [show a * 256 + p * 8 = 2 ^ 3 * (a * 32 + p) by omega, ← this]
  rw [e2]
def rowR (S : aSS) (C : Nat) : Prop := ∀ c, c < C → inN (S 2 c) 31 ∧ ∃ q, q < 7 ∧ S 3 c + 1 = nI q
theorem num_in {S : aSS} : ∀ C, C ≤ 3 → rowR S C → ∃ m, m < 256 ^ C ∧ numS S C = nI m := by
  intro C
  induction C with
  | zero => intro _ _; exact ⟨0, by omega, rfl⟩
  | succ C ih =>
    intro hC h
    obtain ⟨m, hm, e⟩ := ih (by omega) (fun c hc => h c (by omega))
    obtain ⟨⟨p, hp, ep⟩, q, hq, eq⟩ := h C (by omega)
    have hp2 : 256 ^ C ≤ 256 ^ 2 := Nat.pow_le_pow_right (by omega) (by omega)
    refine ⟨m * 256 + p * 8 + q, by rw [Nat.pow_succ]; omega, ?_⟩
    show (numS S C <<< ((8 : Int32) &&& 31)) ||| (S 2 C <<< ((3 : Int32) &&& 31)) ||| (S 3 C + 1) = _
    rw [e, ep, eq, num_step (by omega) hp hq]
theorem num_eq {S S' : aSS} : ∀ C, C ≤ 3 → rowR S C → rowR S' C → (numS S C = numS S' C ↔ ∀ c, c < C → S 3 c = S' 3 c ∧ S 2 c = S' 2 c) := by
  intro C
  induction C with
  | zero => intro _ _ _; exact ⟨fun _ c h => absurd h (Nat.not_lt_zero c), fun _ => rfl⟩
  | succ C ih =>
    intro hC h h'
    have ih := ih (by omega) (fun c hc => h c (by omega)) (fun c hc => h' c (by omega))
    obtain ⟨m, hm, e⟩ := num_in C (by omega) (fun c hc => h c (by omega))
    obtain ⟨m', hm', e'⟩ := num_in C (by omega) (fun c hc => h' c (by omega))
    obtain ⟨⟨p, hp, ep⟩, q, hq, eq⟩ := h C (by omega)
    obtain ⟨⟨p', hp', ep'⟩, q', hq', eq'⟩ := h' C (by omega)
    have hp2 : 256 ^ C ≤ 256 ^ 2 := Nat.pow_le_pow_right (by omega) (by omega)
    have s1 : numS S (C + 1) = nI (m * 256 + p * 8 + q) := by
      show (numS S C <<< ((8 : Int32) &&& 31)) ||| (S 2 C <<< ((3 : Int32) &&& 31)) ||| (S 3 C + 1) = _
      rw [e, ep, eq, num_step (by omega) hp hq]
    have s2 : numS S' (C + 1) = nI (m' * 256 + p' * 8 + q') := by
      show (numS S' C <<< ((8 : Int32) &&& 31)) ||| (S' 2 C <<< ((3 : Int32) &&& 31)) ||| (S' 3 C + 1) = _
      rw [e', ep', eq', num_step (by omega) hp' hq']
    rw [e, e', nI_eq (by omega) (by omega)] at ih
    rw [s1, s2, nI_eq (by omega) (by omega)]
    constructor
    · intro hh c hc
      have em : m = m' := by omega
      have epp : p = p' := by omega
      have eqq : q = q' := by omega
      rcases Nat.lt_or_ge c C with y | y
      · exact ih.mp em c y
      · have ec : c = C := by omega
        subst ec
        rw [ep, ep', epp]
        refine ⟨?_, rfl⟩
        rw [eqq, ← eq'] at eq
        exact (Int32.add_left_inj 1).mp eq
    · intro hh
      have em := ih.mpr (fun c hc => hh c (by omega))
      obtain ⟨h1, h2⟩ := hh C (by omega)
      rw [ep, ep', nI_eq (by omega) (by omega)] at h2
      rw [h1, eq', nI_eq (by omega) (by omega)] at eq
      omega
