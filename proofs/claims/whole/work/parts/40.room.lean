/-! class CatNeed: rule; a room's text -/
theorem sh_ru : ∀ k, k < 6 → sh (186 + 3 * k) = (0, 4) ∧ sh (186 + 3 * k + 1) = (11, 400) ∧ sh (186 + 3 * k + 2) = (13, 64) := by decide
theorem okQ.R {k q : Nat} {c : List Nat} {I : aSS} (hk : k < 6) (h : okQ (186 + 3 * k) c q I) (hc : cok c) : okR (186 + 3 * k) c I := ⟨sh_ru k hk, h.2.1, h.2.2.2.1.1, h.2.2.2.2, hc⟩
set_option maxHeartbeats 1000000 in
theorem c_X7_rule {G : aG} {l : Launch} {d : Nat} {Q : Option Value → aM → Prop} {I : aSS} {L : Nat → Nat → Int64} {n : Nat} {t : Nat → Nat} {cs : List (List Nat)} (hP : okP n t I) (hR : okRs cs I) (h0 : 6 ≤ cs.length → Q (some (.int (-1))) (I, L)) (h1 : cs.length < 6 → ∀ acc, rulP n t = .ok acc → ∀ I', (∀ a, a ≠ 0 → a ≠ 1 → a ≠ 186 + 3 * cs.length → a ≠ 186 + 3 * cs.length + 1 → I' a = I a) → (∀ j, j ≠ 2 → I' 0 j = I 0 j) → okP 0 t I' → okRs (cs ++ [flatK acc]) I' → Q (some (.int (nI cs.length))) (I', L)) (h2 : cs.length < 6 → ∀ e, rulP n t = .error e → ∀ I', (∀ a, a ≠ 1 → a ≠ 186 + 3 * cs.length → a ≠ 186 + 3 * cs.length + 1 → I' a = I a) → okP 0 t I' → okRs cs I' → Q (some (.int (-2 - nI e))) (I', L)) : aC (aRS G) G l (d + 44) 0 0 mX7_rule [.ref 0] (I, L) Q := by
  obtain ⟨hR1, hR2, hR3⟩ := hR
  refine E_X7_rule ?_
  simp (disch := omega) only [R_X7_rule_0, i_c, i_ild, i_ildv, i_lld, i_lldv, i_ald, i_aldv, i_ist, i_lst, i_ast, i_iinc, i_iincv, i_iadd, i_isub, i_imul, i_iand, i_ior, i_ixor, i_ishl, i_ishr, i_iushr, i_idiv, i_irem, i_ineg, i_ladd, i_lsub, i_lmul, i_land, i_lor, i_ldiv, i_lrem, i_lcmp, i_i2l, i_l2i, i_i2b, i_i2c, i_dup, i_pop, i_dup2, i_dup_x1, i_ifeq, i_ifne, i_iflt, i_ifge, i_ifgt, i_ifle, i_icmpeq, i_icmpne, i_icmplt, i_icmpge, i_icmpgt, i_icmple, i_ifnn, i_tsw, i_sw, i_iret, i_lret, i_aret, i_vret, i_getI, i_getR, i_putI, i_putZ, i_iald, i_bald, i_zald, i_lald, i_iast, i_bast, i_zast, i_last, i_aldR, i_aldW, i_aldP, i_astP, i_alen, i_copy, i_min, i_max, i_abs, i_sval, i_scod, i_slen, i_sald, i_callI, i_oinit, i_call_0, i_call_1, i_call_2, i_call_3, i_call_4, i_callT_0, i_callT_1, i_callT_2, i_callV_0, i_callV_1, i_callV_2, i_callV_3, i_callV_4, i_callV_5, lget, lput, lput2, aKill, aU, List.length_cons, List.length_nil, Nat.reduceAdd, Nat.reduceLT, Nat.reduceEqDiff, reduceIte, if_true, if_false, List.map_cons, List.map_nil, List.sum_cons, List.sum_nil, cat_int, cat_long, cat_ref, cat_null, cat_ra, Nat.reduceLeDiff, true_and, and_true, aPush_none, aPush_some, nrw_int, nrw_b0, nrw_b1, Nat.lt_irrefl, Nat.zero_lt_succ, le_nI, nI_lt', in_nI, cl_nI, eq_nI, le_nII, lt_nII, nI_1, true_imp_iff, false_imp_iff, not_true_eq_false, not_false_eq_true, and_self, forall_const, implies_true, Nat.le_refl, ne_eq, i10, tn_m1, not_true_eq_false, tn_0, tn_1, tn_2, tn_3, tn_4, tn_5, tn_6, tn_7, tn_8, tn_9, tn_10, tn_11, tn_12, tn_13, tn_14, tn_15, tn_19, tn_20, tn_24, tn_25, tn_29, tn_30, tn_32, tn_33, tn_40, tn_59, tn_60, tn_61, tn_64, tn_65, tn_72, tn_99, tn_100, tn_300, tn_400, tn_600, tn_999, tn_1800, tn_800, in_0, in_1, in_2, in_3, in_4, in_5, in_6, in_7, in_8, in_9, in_10, in_11, in_19, oi_0, oi_1, oi_2, oi_3, oi_4, oi_5, oi_6, oi_7, oi_8, oi_9, oi_10, oi_11, oi_12, oi_13, oi_14, oi_15, oi_16, oi_17, oi_18, oi_19, oi_20, oi_21, oi_22, oi_23, oi_24, oi_25, oi_26, oi_27, oi_28, oi_29, oi_30, oi_31, oi_200000, oi_200001, oi_200002, oi_200003, oi_200004, oi_200005, oi_200006, oi_200007, oi_200008, oi_200009, oi_200010, oi_200011, oi_200012, oi_200013, oi_200014, Int.reduceAdd, i_sw, lg_cmp_ge, lg_cmp_le, lg_cmp_gt, lg_cmp_lt, lg_cmp_eq, nI_pred, nI_m1, nI_p2, nI_m2, nI_le0, nI_lt0, nI_ge0, nI_gt0, nI_eq0, nI_2le, nI_sub, List.length_cons, List.length_nil, Nat.not_lt_zero, shC, Nat.zero_add, Nat.reduceMul, hR1, li_6]
  refine ⟨fun g => ?_, fun g => h0 (by omega)⟩
  obtain ⟨s0, s1, s2⟩ := sh_ru cs.length g
  simp (disch := omega) only [R_X7_rule_11, i_c, i_ild, i_ildv, i_lld, i_lldv, i_ald, i_aldv, i_ist, i_lst, i_ast, i_iinc, i_iincv, i_iadd, i_isub, i_imul, i_iand, i_ior, i_ixor, i_ishl, i_ishr, i_iushr, i_idiv, i_irem, i_ineg, i_ladd, i_lsub, i_lmul, i_land, i_lor, i_ldiv, i_lrem, i_lcmp, i_i2l, i_l2i, i_i2b, i_i2c, i_dup, i_pop, i_dup2, i_dup_x1, i_ifeq, i_ifne, i_iflt, i_ifge, i_ifgt, i_ifle, i_icmpeq, i_icmpne, i_icmplt, i_icmpge, i_icmpgt, i_icmple, i_ifnn, i_tsw, i_sw, i_iret, i_lret, i_aret, i_vret, i_getI, i_getR, i_putI, i_putZ, i_iald, i_bald, i_zald, i_lald, i_iast, i_bast, i_zast, i_last, i_aldR, i_aldW, i_aldP, i_astP, i_alen, i_copy, i_min, i_max, i_abs, i_sval, i_scod, i_slen, i_sald, i_callI, i_oinit, i_call_0, i_call_1, i_call_2, i_call_3, i_call_4, i_callT_0, i_callT_1, i_callT_2, i_callV_0, i_callV_1, i_callV_2, i_callV_3, i_callV_4, i_callV_5, lget, lput, lput2, aKill, aU, List.length_cons, List.length_nil, Nat.reduceAdd, Nat.reduceLT, Nat.reduceEqDiff, reduceIte, if_true, if_false, List.map_cons, List.map_nil, List.sum_cons, List.sum_nil, cat_int, cat_long, cat_ref, cat_null, cat_ra, Nat.reduceLeDiff, true_and, and_true, aPush_none, aPush_some, nrw_int, nrw_b0, nrw_b1, Nat.lt_irrefl, Nat.zero_lt_succ, le_nI, nI_lt', in_nI, cl_nI, eq_nI, le_nII, lt_nII, nI_1, true_imp_iff, false_imp_iff, not_true_eq_false, not_false_eq_true, and_self, forall_const, implies_true, Nat.le_refl, ne_eq, i10, tn_m1, not_true_eq_false, tn_0, tn_1, tn_2, tn_3, tn_4, tn_5, tn_6, tn_7, tn_8, tn_9, tn_10, tn_11, tn_12, tn_13, tn_14, tn_15, tn_19, tn_20, tn_24, tn_25, tn_29, tn_30, tn_32, tn_33, tn_40, tn_59, tn_60, tn_61, tn_64, tn_65, tn_72, tn_99, tn_100, tn_300, tn_400, tn_600, tn_999, tn_1800, tn_800, in_0, in_1, in_2, in_3, in_4, in_5, in_6, in_7, in_8, in_9, in_10, in_11, in_19, oi_0, oi_1, oi_2, oi_3, oi_4, oi_5, oi_6, oi_7, oi_8, oi_9, oi_10, oi_11, oi_12, oi_13, oi_14, oi_15, oi_16, oi_17, oi_18, oi_19, oi_20, oi_21, oi_22, oi_23, oi_24, oi_25, oi_26, oi_27, oi_28, oi_29, oi_30, oi_31, oi_200000, oi_200001, oi_200002, oi_200003, oi_200004, oi_200005, oi_200006, oi_200007, oi_200008, oi_200009, oi_200010, oi_200011, oi_200012, oi_200013, oi_200014, Int.reduceAdd, i_sw, lg_cmp_ge, lg_cmp_le, lg_cmp_gt, lg_cmp_lt, lg_cmp_eq, nI_pred, nI_m1, nI_p2, nI_m2, nI_le0, nI_lt0, nI_ge0, nI_gt0, nI_eq0, nI_2le, nI_sub, List.length_cons, List.length_nil, Nat.not_lt_zero, shC, Nat.zero_add, Nat.reduceMul, hR1]
  have hru : isRu (186 + 3 * cs.length) := ⟨⟨s0, s1⟩, by omega⟩
  refine c_X2_read (d := d + 1) hP hru (fun acc hE I1 p k f1 X1 B1 hc => ?_) (fun e hE I1 p f1 X1 B1 => ?_)
  · have e02 : I1 0 2 = nI cs.length := by rw [f1 0 (by omega) (by omega) (by omega)]; exact hR1
    simp (disch := omega) only [R_X7_rule_51, i_c, i_ild, i_ildv, i_lld, i_lldv, i_ald, i_aldv, i_ist, i_lst, i_ast, i_iinc, i_iincv, i_iadd, i_isub, i_imul, i_iand, i_ior, i_ixor, i_ishl, i_ishr, i_iushr, i_idiv, i_irem, i_ineg, i_ladd, i_lsub, i_lmul, i_land, i_lor, i_ldiv, i_lrem, i_lcmp, i_i2l, i_l2i, i_i2b, i_i2c, i_dup, i_pop, i_dup2, i_dup_x1, i_ifeq, i_ifne, i_iflt, i_ifge, i_ifgt, i_ifle, i_icmpeq, i_icmpne, i_icmplt, i_icmpge, i_icmpgt, i_icmple, i_ifnn, i_tsw, i_sw, i_iret, i_lret, i_aret, i_vret, i_getI, i_getR, i_putI, i_putZ, i_iald, i_bald, i_zald, i_lald, i_iast, i_bast, i_zast, i_last, i_aldR, i_aldW, i_aldP, i_astP, i_alen, i_copy, i_min, i_max, i_abs, i_sval, i_scod, i_slen, i_sald, i_callI, i_oinit, i_call_0, i_call_1, i_call_2, i_call_3, i_call_4, i_callT_0, i_callT_1, i_callT_2, i_callV_0, i_callV_1, i_callV_2, i_callV_3, i_callV_4, i_callV_5, lget, lput, lput2, aKill, aU, List.length_cons, List.length_nil, Nat.reduceAdd, Nat.reduceLT, Nat.reduceEqDiff, reduceIte, if_true, if_false, List.map_cons, List.map_nil, List.sum_cons, List.sum_nil, cat_int, cat_long, cat_ref, cat_null, cat_ra, Nat.reduceLeDiff, true_and, and_true, aPush_none, aPush_some, nrw_int, nrw_b0, nrw_b1, Nat.lt_irrefl, Nat.zero_lt_succ, le_nI, nI_lt', in_nI, cl_nI, eq_nI, le_nII, lt_nII, nI_1, true_imp_iff, false_imp_iff, not_true_eq_false, not_false_eq_true, and_self, forall_const, implies_true, Nat.le_refl, ne_eq, i10, tn_m1, not_true_eq_false, tn_0, tn_1, tn_2, tn_3, tn_4, tn_5, tn_6, tn_7, tn_8, tn_9, tn_10, tn_11, tn_12, tn_13, tn_14, tn_15, tn_19, tn_20, tn_24, tn_25, tn_29, tn_30, tn_32, tn_33, tn_40, tn_59, tn_60, tn_61, tn_64, tn_65, tn_72, tn_99, tn_100, tn_300, tn_400, tn_600, tn_999, tn_1800, tn_800, in_0, in_1, in_2, in_3, in_4, in_5, in_6, in_7, in_8, in_9, in_10, in_11, in_19, oi_0, oi_1, oi_2, oi_3, oi_4, oi_5, oi_6, oi_7, oi_8, oi_9, oi_10, oi_11, oi_12, oi_13, oi_14, oi_15, oi_16, oi_17, oi_18, oi_19, oi_20, oi_21, oi_22, oi_23, oi_24, oi_25, oi_26, oi_27, oi_28, oi_29, oi_30, oi_31, oi_200000, oi_200001, oi_200002, oi_200003, oi_200004, oi_200005, oi_200006, oi_200007, oi_200008, oi_200009, oi_200010, oi_200011, oi_200012, oi_200013, oi_200014, Int.reduceAdd, i_sw, lg_cmp_ge, lg_cmp_le, lg_cmp_gt, lg_cmp_lt, lg_cmp_eq, nI_pred, nI_m1, nI_p2, nI_m2, nI_le0, nI_lt0, nI_ge0, nI_gt0, nI_eq0, nI_2le, nI_sub, List.length_cons, List.length_nil, Nat.not_lt_zero, shC, Nat.zero_add, Nat.reduceMul, mW_p, mR_p, mL_p, up2_ne, up2_at, up2_nk, rw2_at, rw2_ne, e02]
    refine h1 g acc hE _ (fun a y0 y1 y2 y3 => ?_) (fun j hj => ?_) ⟨?_, by omega, fun i hi => by omega⟩ ⟨?_, by simp; omega, fun r hr => ?_⟩
    · rw [up2_ne y0, up2_ne y1]
      exact f1 a y1 y2 y3
    · rw [up2_nk hj, up2_ne (by omega), f1 0 (by omega) (by omega) (by omega)]
    · rw [up2_ne (by omega), up2_at]
      rfl
    · rw [up2_at]
      simp
    · have hr2 : r < cs.length + 1 := by simpa using hr
      by_cases hrc : r < cs.length
      · rw [List.getElem_append_left hrc]
        refine okR_fr (I := I) (fun a ha => ?_) (hR3 r hrc)
        rw [up2_ne (by omega), up2_ne (by omega), f1 a (by omega) (by omega) (by omega)]
      · have er : r = cs.length := by omega
        subst er
        have e1 : (cs ++ [flatK acc])[cs.length]'hr = flatK acc := by simp
        rw [e1]
        refine okR_fr (I := I1) (fun a ha => ?_) (okQ.R g B1 hc)
        rw [up2_ne (by omega), up2_ne (by omega)]
  · have j3 := X1.2.2.2.1
    simp (disch := omega) only [i_c, i_ild, i_ildv, i_lld, i_lldv, i_ald, i_aldv, i_ist, i_lst, i_ast, i_iinc, i_iincv, i_iadd, i_isub, i_imul, i_iand, i_ior, i_ixor, i_ishl, i_ishr, i_iushr, i_idiv, i_irem, i_ineg, i_ladd, i_lsub, i_lmul, i_land, i_lor, i_ldiv, i_lrem, i_lcmp, i_i2l, i_l2i, i_i2b, i_i2c, i_dup, i_pop, i_dup2, i_dup_x1, i_ifeq, i_ifne, i_iflt, i_ifge, i_ifgt, i_ifle, i_icmpeq, i_icmpne, i_icmplt, i_icmpge, i_icmpgt, i_icmple, i_ifnn, i_tsw, i_sw, i_iret, i_lret, i_aret, i_vret, i_getI, i_getR, i_putI, i_putZ, i_iald, i_bald, i_zald, i_lald, i_iast, i_bast, i_zast, i_last, i_aldR, i_aldW, i_aldP, i_astP, i_alen, i_copy, i_min, i_max, i_abs, i_sval, i_scod, i_slen, i_sald, i_callI, i_oinit, i_call_0, i_call_1, i_call_2, i_call_3, i_call_4, i_callT_0, i_callT_1, i_callT_2, i_callV_0, i_callV_1, i_callV_2, i_callV_3, i_callV_4, i_callV_5, lget, lput, lput2, aKill, aU, List.length_cons, List.length_nil, Nat.reduceAdd, Nat.reduceLT, Nat.reduceEqDiff, reduceIte, if_true, if_false, List.map_cons, List.map_nil, List.sum_cons, List.sum_nil, cat_int, cat_long, cat_ref, cat_null, cat_ra, Nat.reduceLeDiff, true_and, and_true, aPush_none, aPush_some, nrw_int, nrw_b0, nrw_b1, Nat.lt_irrefl, Nat.zero_lt_succ, le_nI, nI_lt', in_nI, cl_nI, eq_nI, le_nII, lt_nII, nI_1, true_imp_iff, false_imp_iff, not_true_eq_false, not_false_eq_true, and_self, forall_const, implies_true, Nat.le_refl, ne_eq, i10, tn_m1, not_true_eq_false, tn_0, tn_1, tn_2, tn_3, tn_4, tn_5, tn_6, tn_7, tn_8, tn_9, tn_10, tn_11, tn_12, tn_13, tn_14, tn_15, tn_19, tn_20, tn_24, tn_25, tn_29, tn_30, tn_32, tn_33, tn_40, tn_59, tn_60, tn_61, tn_64, tn_65, tn_72, tn_99, tn_100, tn_300, tn_400, tn_600, tn_999, tn_1800, tn_800, in_0, in_1, in_2, in_3, in_4, in_5, in_6, in_7, in_8, in_9, in_10, in_11, in_19, oi_0, oi_1, oi_2, oi_3, oi_4, oi_5, oi_6, oi_7, oi_8, oi_9, oi_10, oi_11, oi_12, oi_13, oi_14, oi_15, oi_16, oi_17, oi_18, oi_19, oi_20, oi_21, oi_22, oi_23, oi_24, oi_25, oi_26, oi_27, oi_28, oi_29, oi_30, oi_31, oi_200000, oi_200001, oi_200002, oi_200003, oi_200004, oi_200005, oi_200006, oi_200007, oi_200008, oi_200009, oi_200010, oi_200011, oi_200012, oi_200013, oi_200014, Int.reduceAdd, i_sw, lg_cmp_ge, lg_cmp_le, lg_cmp_gt, lg_cmp_lt, lg_cmp_eq, nI_pred, nI_m1, nI_p2, nI_m2, nI_le0, nI_lt0, nI_ge0, nI_gt0, nI_eq0, nI_2le, nI_sub, List.length_cons, List.length_nil, Nat.not_lt_zero, shC, Nat.zero_add, Nat.reduceMul, mW_p, mR_p, mL_p, up2_ne, up2_at, up2_nk, rw2_at, rw2_ne, j3]
    refine h2 g e hE _ (fun a y1 y2 y3 => ?_) ⟨up2_at, by omega, fun i hi => by omega⟩ ⟨?_, hR2, fun r hr => ?_⟩
    · rw [up2_ne y1]
      exact f1 a y1 y2 y3
    · rw [up2_ne (by omega), f1 0 (by omega) (by omega) (by omega)]
      exact hR1
    · refine okR_fr (I := I) (fun a ha => ?_) (hR3 r hr)
      rw [up2_ne (by omega), f1 a (by omega) (by omega) (by omega)]
/-! a room as told: how long it is; things, cats, needs -/
abbrev aRm3 : Type := Nat × List (Nat × Nat) × List (Nat × Nat × Nat) × List (Nat × Nat × Nat)
/-- a number from lo on, below hi -/
def numP (n : Nat) (t : Nat → Nat) (p lo hi : Nat) : Except Nat (Nat × Nat) :=
  if digE n t (skp n t p) = skp n t p then .error (ftB (skp n t p) 0) else if 5 < digE n t (skp n t p) - skp n t p ∨ numV n t (skp n t p) < lo ∨ hi ≤ numV n t (skp n t p) then .error (ftB (skp n t p) 1) else .ok (digE n t (skp n t p), numV n t (skp n t p))
def nB {α : Type} (x : Except Nat (Nat × Nat)) (f : Nat → Nat → Except Nat α) : Except Nat α := match x with
  | .error e => .error e
  | .ok r => f r.1 r.2
def mayC (s : aRm3) (k : Nat) : Bool := match k with
  | 0 => s.1 == 0
  | 1 => s.1 != 0 && decide (s.2.1.length < 6)
  | 2 => s.1 != 0 && decide (s.2.2.1.length < 3)
  | _ => s.1 != 0 && decide (s.2.2.2.length < 8)
def claR (n : Nat) (t : Nat → Nat) (s : aRm3) (k p : Nat) : Except Nat (Nat × aRm3) := match k with
  | 0 => nB (numP n t p 2 31) fun p v => .ok (p, (v, s.2))
  | 1 => nB (numP n t p 0 s.1) fun p a => nB (numP n t p 0 51) fun p b => .ok (p, (s.1, s.2.1 ++ [(a, b)], s.2.2))
  | 2 => nB (numP n t p 0 s.1) fun p a => nB (numP n t p 1 10) fun p b => nB (numP n t p 1 10) fun p c => .ok (p, (s.1, s.2.1, s.2.2.1 ++ [(a, b, c)], s.2.2.2))
  | _ => nB (numP n t p 0 s.2.1.length) fun p a => nB (numP n t p 1 31) fun p b => nB (numP n t p 0 b) fun p c => .ok (p, (s.1, s.2.1, s.2.2.1, s.2.2.2 ++ [(a, b, c)]))
def romL (n : Nat) (t : Nat → Nat) : Nat → Nat → aRm3 → Except Nat aRm3
  | 0, p, s => .error (ftB (skp n t p) (match fndW (wordL n t (skp n t p)) wsRoom 0 with
    | none => 0
    | some _ => 4))
  | f + 1, p, s => match fndW (wordL n t (skp n t p)) wsRoom 0 with
    | none => .error (ftB (skp n t p) 0)
    | some k => if mayC s k = true then (match claR n t s k (runE isLo n t (skp n t p)) with
        | .error e => .error e
        | .ok r => if n ≤ skp n t r.1 then .ok r.2 else if t (skp n t r.1) = 59 then romL n t f (skp n t r.1 + 1) r.2 else .error (ftB (skp n t r.1) 0))
      else .error (ftB (skp n t p) 4)
def romP (n : Nat) (t : Nat → Nat) : Except Nat aRm3 := romL n t 40 0 (0, [], [], [])
/-- a told room's ranges -/
def gdR (s : aRm3) : Prop := (s.1 = 0 ∧ s.2.1 = [] ∧ s.2.2.1 = [] ∧ s.2.2.2 = [] ∨ 2 ≤ s.1 ∧ s.1 < 31) ∧ (s.2.1.length ≤ 6 ∧ ∀ i, (h : i < s.2.1.length) → s.2.1[i].1 < s.1 ∧ s.2.1[i].2 < 51) ∧ (s.2.2.1.length ≤ 3 ∧ ∀ i, (h : i < s.2.2.1.length) → s.2.2.1[i].1 < s.1 ∧ (1 ≤ s.2.2.1[i].2.1 ∧ s.2.2.1[i].2.1 < 10) ∧ 1 ≤ s.2.2.1[i].2.2 ∧ s.2.2.1[i].2.2 < 10) ∧ s.2.2.2.length ≤ 8 ∧ ∀ i, (h : i < s.2.2.2.length) → s.2.2.2[i].1 < s.2.1.length ∧ (1 ≤ s.2.2.2[i].2.1 ∧ s.2.2.2[i].2.1 < 31) ∧ s.2.2.2[i].2.2 < s.2.2.2[i].2.1
/-- the draft holds it -/
def okD (s : aRm3) (I : aSS) : Prop := (I 4 0 = nI s.1 ∧ I 4 1 = nI s.2.1.length ∧ I 4 2 = nI s.2.2.1.length ∧ I 4 3 = nI s.2.2.2.length) ∧ (∀ i, (h : i < s.2.1.length) → I 5 i = nI s.2.1[i].1 ∧ I 6 i = nI s.2.1[i].2) ∧ (∀ i, (h : i < s.2.2.1.length) → I 7 i = nI s.2.2.1[i].1 ∧ I 8 i = nI s.2.2.1[i].2.1 ∧ I 9 i = nI s.2.2.1[i].2.2) ∧ ∀ i, (h : i < s.2.2.2.length) → I 10 i = nI s.2.2.2[i].1 ∧ I 11 i = nI s.2.2.2[i].2.1 ∧ I 12 i = nI s.2.2.2[i].2.2
/-- its counts alone -/
def okE (I : aSS) : Prop := (∃ a, a ≤ 6 ∧ I 4 1 = nI a) ∧ (∃ b, b ≤ 3 ∧ I 4 2 = nI b) ∧ ∃ c, c ≤ 8 ∧ I 4 3 = nI c
def frD (I J : aSS) : Prop := ∀ a, a ≠ 1 → a < 4 ∨ 13 ≤ a → J a = I a
def frE (I J : aSS) : Prop := ∀ a, a < 4 ∨ 13 ≤ a → J a = I a
theorem frD.T {I J : aSS} (h : frT I J) : frD I J := fun a h1 _ => h a h1
theorem frD.E {I J : aSS} (h : frE I J) : frD I J := fun a _ h1 => h a h1
theorem frD.trans {I J K : aSS} (h : frD I J) (g : frD J K) : frD I K := fun a h1 h2 => (g a h1 h2).trans (h a h1 h2)
theorem okX.E {n p e : Nat} {t : Nat → Nat} {I J : aSS} (h : okX n t p e I) (hf : frE I J) : okX n t p e J := by
  unfold okX okP at h ⊢
  rw [hf 1 (by omega), hf 2 (by omega)]
  exact h
theorem okD.T {s : aRm3} {I J : aSS} (h : okD s I) (hf : frT I J) : okD s J := by
  unfold okD at h ⊢
  rw [hf 4 (by omega), hf 5 (by omega), hf 6 (by omega), hf 7 (by omega), hf 8 (by omega), hf 9 (by omega), hf 10 (by omega), hf 11 (by omega), hf 12 (by omega)]
  exact h
theorem okE.T {I J : aSS} (h : okE I) (hf : frT I J) : okE J := by
  unfold okE at h ⊢
  rw [hf 4 (by omega)]
  exact h
theorem okD.E {s : aRm3} {I : aSS} (h : okD s I) (hg : gdR s) : okE I := ⟨⟨_, hg.2.1.1, h.1.2.1⟩, ⟨_, hg.2.2.1.1, h.1.2.2.1⟩, ⟨_, hg.2.2.2.1, h.1.2.2.2⟩⟩
/-- a number is read: what it is, or the fault -/
theorem c_num_ok {G : aG} {l : Launch} {d : Nat} {Q : Option Value → aM → Prop} {I : aSS} {L : Nat → Nat → Int64} {n p lo hi : Nat} {t : Nat → Nat} {z w : Int32} (h : okX n t p 0 I) (hz : z = nI lo) (hw : w + 1 = nI hi) (hlo : lo < 100) (hhi : hi < 100) (h1 : ∀ q v, numP n t p lo hi = .ok (q, v) → ∀ I', frT I I' → okX n t q 0 I' → Q (some (.int (nI v))) (I', L)) (h2 : ∀ e, numP n t p lo hi = .error e → ¬ e = 0 → ∀ v q I', v < 100000 → frT I I' → okX n t q e I' → Q (some (.int (nI v))) (I', L)) : aC (aRS G) G l (d + 3) 0 0 mX4_takeNumber [.ref 1, .int z, .int w] (I, L) Q := by
  have hp := h.2.2.1
  have hn : n ≤ 400 := h.1.2.1
  have hle := skp_le (t := t) hp
  have hv := numV_lt (t := t) hle.2
  unfold numP at h1 h2
  refine c_X4_takeNumber h (fun I' f' X' => ?_)
  generalize skp n t p = q at *
  have hb : (nI (numV n t q) < z ∨ w < nI (numV n t q)) ↔ (numV n t q < lo ∨ hi ≤ numV n t q) := by
    have ew : w.toInt = (hi : Int) - 1 := by
      have e : w = nI hi - 1 := by rw [← hw, Int32.add_sub_cancel]
      rw [e]
      exact pk_sub_toInt (a := hi) (b := 1) (by omega) (by omega)
    rw [hz, nI_ltI (by omega) (by omega), Int32.lt_iff_toInt_lt, ew, nI_toInt (by omega)]
    omega
  unfold numE at X'
  by_cases h3 : digE n t q = q
  · rw [if_pos h3] at X' h1 h2
    rw [ftE_0] at X'
    exact h2 _ rfl (ftB_ok (by omega) (by omega)).1 _ _ I' hv f' X'
  · rw [if_neg h3] at X' h1 h2
    by_cases h4 : 5 < digE n t q - q ∨ numV n t q < lo ∨ hi ≤ numV n t q
    · rw [if_pos (h4.imp id hb.mpr)] at X'
      rw [if_pos h4] at h2
      rw [ftE_0] at X'
      exact h2 _ rfl (ftB_ok (by omega) (by omega)).1 _ _ I' hv f' X'
    · rw [if_neg (fun y => h4 (y.imp id hb.mp))] at X'
      rw [if_neg h4] at h1
      exact h1 _ _ rfl I' f' X'
theorem c_num_er {G : aG} {l : Launch} {d : Nat} {Q : Option Value → aM → Prop} {I : aSS} {L : Nat → Nat → Int64} {n p e : Nat} {t : Nat → Nat} {z w : Int32} (h : okX n t p e I) (he : ¬ e = 0) (hQ : ∀ v q I', v < 100000 → frT I I' → okX n t q e I' → Q (some (.int (nI v))) (I', L)) : aC (aRS G) G l (d + 3) 0 0 mX4_takeNumber [.ref 1, .int z, .int w] (I, L) Q := by
  have hle := skp_le (t := t) h.2.2.1
  have hv := numV_lt (t := t) hle.2
  refine c_X4_takeNumber h (fun I' f' X' => ?_)
  have e2 : ∀ (b : Prop) [Decidable b], numE n t (skp n t p) e b = e := fun b _ => by
    unfold numE
    rw [ftE_ne he, ftE_ne he]
    split <;> (try split) <;> rfl
  rw [e2] at X'
  exact hQ _ _ I' hv f' X'
theorem c_X5_clear {G : aG} {l : Launch} {d : Nat} {Q : Option Value → aM → Prop} {I : aSS} {L : Nat → Nat → Int64} (hQ : ∀ I', frE I I' → okD (0, [], [], []) I' → Q none (I', L)) : aC (aRS G) G l (d + 1) 0 0 mX5_clear [.ref 4] (I, L) Q := by
  refine E_X5_clear ?_
  simp (disch := omega) only [R_X5_clear_0, i_c, i_ild, i_ildv, i_lld, i_lldv, i_ald, i_aldv, i_ist, i_lst, i_ast, i_iinc, i_iincv, i_iadd, i_isub, i_imul, i_iand, i_ior, i_ixor, i_ishl, i_ishr, i_iushr, i_idiv, i_irem, i_ineg, i_ladd, i_lsub, i_lmul, i_land, i_lor, i_ldiv, i_lrem, i_lcmp, i_i2l, i_l2i, i_i2b, i_i2c, i_dup, i_pop, i_dup2, i_dup_x1, i_ifeq, i_ifne, i_iflt, i_ifge, i_ifgt, i_ifle, i_icmpeq, i_icmpne, i_icmplt, i_icmpge, i_icmpgt, i_icmple, i_ifnn, i_tsw, i_sw, i_iret, i_lret, i_aret, i_vret, i_getI, i_getR, i_putI, i_putZ, i_iald, i_bald, i_zald, i_lald, i_iast, i_bast, i_zast, i_last, i_aldR, i_aldW, i_aldP, i_astP, i_alen, i_copy, i_min, i_max, i_abs, i_sval, i_scod, i_slen, i_sald, i_callI, i_oinit, i_call_0, i_call_1, i_call_2, i_call_3, i_call_4, i_callT_0, i_callT_1, i_callT_2, i_callV_0, i_callV_1, i_callV_2, i_callV_3, i_callV_4, i_callV_5, lget, lput, lput2, aKill, aU, List.length_cons, List.length_nil, Nat.reduceAdd, Nat.reduceLT, Nat.reduceEqDiff, reduceIte, if_true, if_false, List.map_cons, List.map_nil, List.sum_cons, List.sum_nil, cat_int, cat_long, cat_ref, cat_null, cat_ra, Nat.reduceLeDiff, true_and, and_true, aPush_none, aPush_some, nrw_int, nrw_b0, nrw_b1, Nat.lt_irrefl, Nat.zero_lt_succ, le_nI, nI_lt', in_nI, cl_nI, eq_nI, le_nII, lt_nII, nI_1, true_imp_iff, false_imp_iff, not_true_eq_false, not_false_eq_true, and_self, forall_const, implies_true, Nat.le_refl, ne_eq, i10, tn_m1, not_true_eq_false, tn_0, tn_1, tn_2, tn_3, tn_4, tn_5, tn_6, tn_7, tn_8, tn_9, tn_10, tn_11, tn_12, tn_13, tn_14, tn_15, tn_19, tn_20, tn_24, tn_25, tn_29, tn_30, tn_32, tn_33, tn_40, tn_59, tn_60, tn_61, tn_64, tn_65, tn_72, tn_99, tn_100, tn_300, tn_400, tn_600, tn_999, tn_1800, tn_800, in_0, in_1, in_2, in_3, in_4, in_5, in_6, in_7, in_8, in_9, in_10, in_11, in_19, oi_0, oi_1, oi_2, oi_3, oi_4, oi_5, oi_6, oi_7, oi_8, oi_9, oi_10, oi_11, oi_12, oi_13, oi_14, oi_15, oi_16, oi_17, oi_18, oi_19, oi_20, oi_21, oi_22, oi_23, oi_24, oi_25, oi_26, oi_27, oi_28, oi_29, oi_30, oi_31, oi_200000, oi_200001, oi_200002, oi_200003, oi_200004, oi_200005, oi_200006, oi_200007, oi_200008, oi_200009, oi_200010, oi_200011, oi_200012, oi_200013, oi_200014, Int.reduceAdd, i_sw, lg_cmp_ge, lg_cmp_le, lg_cmp_gt, lg_cmp_lt, lg_cmp_eq, nI_pred, nI_m1, nI_p2, nI_m2, nI_le0, nI_lt0, nI_ge0, nI_gt0, nI_eq0, nI_2le, nI_sub, List.length_cons, List.length_nil, Nat.not_lt_zero, shC, Nat.zero_add, Nat.reduceMul, mW_p, mR_p, mL_p, up2_ne, up2_at, up2_nk, rw2_at, rw2_ne]
  refine hQ _ (fun a ha => by rw [up2_ne (by omega), up2_ne (by omega), up2_ne (by omega), up2_ne (by omega)]) ⟨⟨?_, ?_, ?_, ?_⟩, fun i hi => by simp at hi, fun i hi => by simp at hi, fun i hi => by simp at hi⟩
  · rw [up2_nk (by omega), up2_nk (by omega), up2_nk (by omega), up2_at]; rfl
  · rw [up2_nk (by omega), up2_nk (by omega), up2_at]; rfl
  · rw [up2_nk (by omega), up2_at]; rfl
  · rw [up2_at]; rfl
