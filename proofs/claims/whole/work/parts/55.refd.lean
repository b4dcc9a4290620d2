/-! the reference: the pence -/
theorem c_X8_worthOf {G : aG} {l : Launch} {d : Nat} {Q : Option Value → aM → Prop} {I : aSS} {L : Nat → Nat → Int64} {T S : aSS} {k : Nat} (hM : okM T S I) (hk : k < tn (T 0 1)) (hq : Q (some (.long (shareS T S k))) (I, L)) : aC (aRS G) G l (d + 2) 0 0 mX8_worthOf [.ref 848, .int (nI k)] (I, L) Q := by
  have h6 : tn (T 0 1) ≤ 6 := hM.1.1.1.1.1
  have v := (hM.1.2.2.1 k hk).1
  refine E_X8_worthOf ?_
  simp (disch := omega) only [R_X8_worthOf_0, i_c, i_ild, i_ildv, i_lld, i_lldv, i_ald, i_aldv, i_ist, i_lst, i_ast, i_iinc, i_iincv, i_iadd, i_isub, i_imul, i_iand, i_ior, i_ixor, i_ishl, i_ishr, i_iushr, i_idiv, i_irem, i_ineg, i_ladd, i_lsub, i_lmul, i_land, i_lor, i_ldiv, i_lrem, i_lcmp, i_i2l, i_l2i, i_i2b, i_i2c, i_dup, i_pop, i_dup2, i_dup_x1, i_ifeq, i_ifne, i_iflt, i_ifge, i_ifgt, i_ifle, i_icmpeq, i_icmpne, i_icmplt, i_icmpge, i_icmpgt, i_icmple, i_ifnn, i_tsw, i_sw, i_iret, i_lret, i_aret, i_vret, i_getI, i_getR, i_putI, i_putZ, i_iald, i_bald, i_zald, i_lald, i_iast, i_bast, i_zast, i_last, i_aldR, i_aldW, i_aldP, i_astP, i_alen, i_copy, i_min, i_max, i_abs, i_sval, i_scod, i_slen, i_sald, i_callI, i_oinit, i_call_0, i_call_1, i_call_2, i_call_3, i_call_4, i_callT_0, i_callT_1, i_callT_2, i_callV_0, i_callV_1, i_callV_2, i_callV_3, i_callV_4, i_callV_5, lget, lput, lput2, aKill, aU, List.length_cons, List.length_nil, Nat.reduceAdd, Nat.reduceLT, Nat.reduceEqDiff, reduceIte, if_true, if_false, List.map_cons, List.map_nil, List.sum_cons, List.sum_nil, cat_int, cat_long, cat_ref, cat_null, cat_ra, Nat.reduceLeDiff, true_and, and_true, aPush_none, aPush_some, nrw_int, nrw_b0, nrw_b1, Nat.lt_irrefl, Nat.zero_lt_succ, le_nI, nI_lt', in_nI, cl_nI, eq_nI, le_nII, lt_nII, nI_1, true_imp_iff, false_imp_iff, not_true_eq_false, not_false_eq_true, and_self, forall_const, implies_true, Nat.le_refl, ne_eq, i10, tn_m1, not_true_eq_false, tn_0, tn_1, tn_2, tn_3, tn_4, tn_5, tn_6, tn_7, tn_8, tn_9, tn_10, tn_11, tn_12, tn_13, tn_14, tn_15, tn_19, tn_20, tn_24, tn_25, tn_29, tn_30, tn_32, tn_33, tn_40, tn_59, tn_60, tn_61, tn_64, tn_65, tn_72, tn_99, tn_100, tn_300, tn_400, tn_600, tn_999, tn_1800, tn_800, in_0, in_1, in_2, in_3, in_4, in_5, in_6, in_7, in_8, in_9, in_10, in_11, in_19, oi_0, oi_1, oi_2, oi_3, oi_4, oi_5, oi_6, oi_7, oi_8, oi_9, oi_10, oi_11, oi_12, oi_13, oi_14, oi_15, oi_16, oi_17, oi_18, oi_19, oi_20, oi_21, oi_22, oi_23, oi_24, oi_25, oi_26, oi_27, oi_28, oi_29, oi_30, oi_31, oi_200000, oi_200001, oi_200002, oi_200003, oi_200004, oi_200005, oi_200006, oi_200007, oi_200008, oi_200009, oi_200010, oi_200011, oi_200012, oi_200013, oi_200014, Int.reduceAdd, i_sw, lg_cmp_ge, lg_cmp_le, lg_cmp_gt, lg_cmp_lt, lg_cmp_eq, nI_pred, nI_m1, nI_p2, nI_m2, nI_le0, nI_lt0, nI_ge0, nI_gt0, nI_eq0, nI_2le, nI_sub, List.length_cons, List.length_nil, Nat.not_lt_zero, shM, v]
  refine c_X8_metOf (d := d) hM ?_
  simp (disch := omega) only [i_c, i_ild, i_ildv, i_lld, i_lldv, i_ald, i_aldv, i_ist, i_lst, i_ast, i_iinc, i_iincv, i_iadd, i_isub, i_imul, i_iand, i_ior, i_ixor, i_ishl, i_ishr, i_iushr, i_idiv, i_irem, i_ineg, i_ladd, i_lsub, i_lmul, i_land, i_lor, i_ldiv, i_lrem, i_lcmp, i_i2l, i_l2i, i_i2b, i_i2c, i_dup, i_pop, i_dup2, i_dup_x1, i_ifeq, i_ifne, i_iflt, i_ifge, i_ifgt, i_ifle, i_icmpeq, i_icmpne, i_icmplt, i_icmpge, i_icmpgt, i_icmple, i_ifnn, i_tsw, i_sw, i_iret, i_lret, i_aret, i_vret, i_getI, i_getR, i_putI, i_putZ, i_iald, i_bald, i_zald, i_lald, i_iast, i_bast, i_zast, i_last, i_aldR, i_aldW, i_aldP, i_astP, i_alen, i_copy, i_min, i_max, i_abs, i_sval, i_scod, i_slen, i_sald, i_callI, i_oinit, i_call_0, i_call_1, i_call_2, i_call_3, i_call_4, i_callT_0, i_callT_1, i_callT_2, i_callV_0, i_callV_1, i_callV_2, i_callV_3, i_callV_4, i_callV_5, lget, lput, lput2, aKill, aU, List.length_cons, List.length_nil, Nat.reduceAdd, Nat.reduceLT, Nat.reduceEqDiff, reduceIte, if_true, if_false, List.map_cons, List.map_nil, List.sum_cons, List.sum_nil, cat_int, cat_long, cat_ref, cat_null, cat_ra, Nat.reduceLeDiff, true_and, and_true, aPush_none, aPush_some, nrw_int, nrw_b0, nrw_b1, Nat.lt_irrefl, Nat.zero_lt_succ, le_nI, nI_lt', in_nI, cl_nI, eq_nI, le_nII, lt_nII, nI_1, true_imp_iff, false_imp_iff, not_true_eq_false, not_false_eq_true, and_self, forall_const, implies_true, Nat.le_refl, ne_eq, i10, tn_m1, not_true_eq_false, tn_0, tn_1, tn_2, tn_3, tn_4, tn_5, tn_6, tn_7, tn_8, tn_9, tn_10, tn_11, tn_12, tn_13, tn_14, tn_15, tn_19, tn_20, tn_24, tn_25, tn_29, tn_30, tn_32, tn_33, tn_40, tn_59, tn_60, tn_61, tn_64, tn_65, tn_72, tn_99, tn_100, tn_300, tn_400, tn_600, tn_999, tn_1800, tn_800, in_0, in_1, in_2, in_3, in_4, in_5, in_6, in_7, in_8, in_9, in_10, in_11, in_19, oi_0, oi_1, oi_2, oi_3, oi_4, oi_5, oi_6, oi_7, oi_8, oi_9, oi_10, oi_11, oi_12, oi_13, oi_14, oi_15, oi_16, oi_17, oi_18, oi_19, oi_20, oi_21, oi_22, oi_23, oi_24, oi_25, oi_26, oi_27, oi_28, oi_29, oi_30, oi_31, oi_200000, oi_200001, oi_200002, oi_200003, oi_200004, oi_200005, oi_200006, oi_200007, oi_200008, oi_200009, oi_200010, oi_200011, oi_200012, oi_200013, oi_200014, Int.reduceAdd, i_sw, lg_cmp_ge, lg_cmp_le, lg_cmp_gt, lg_cmp_lt, lg_cmp_eq, nI_pred, nI_m1, nI_p2, nI_m2, nI_le0, nI_lt0, nI_ge0, nI_gt0, nI_eq0, nI_2le, nI_sub, List.length_cons, List.length_nil, Nat.not_lt_zero, shM]
  exact hq
theorem l64_sub {a b : Nat} (ha : a < 2 ^ 62) (hb : b < 2 ^ 62) : (lN a - lN b).toInt = (a : Int) - b := by
  rw [Int64.toInt_sub, pk_lT (by omega), pk_lT (by omega)]
  exact Int.bmod_eq_of_le (by omega) (by omega)
theorem l64_mul {a b : Nat} : lN a * lN b = lN (a * b) := by
  exact (Int64.ofNat_mul a b).symm
theorem l64_add {a b : Nat} : lN a + lN b = lN (a + b) := by
  exact (Int64.ofNat_add a b).symm
theorem l64_of {a : Nat} (h : a < 2147483648) : (nI a).toInt64 = lN a := by
  apply Int64.toInt.inj
  rw [Int32.toInt_toInt64, nI_toInt h, pk_lT (by omega)]
theorem met_in {T S : aSS} {z : Int32} (hT : wfT2 T) (h : wfS T S 999) : inN (metOfS (T 6) (S 5) z (tn (T 0 3))) 7993 := by
  have h8 : tn (T 0 3) ≤ 8 := hT.1.1.2.2
  refine (lp_in (g := fun k => if T 6 k = z then S 5 k else 0) (B := 999) (by omega) (fun k hk => ?_)).le (by omega)
  by_cases e : T 6 k = z
  · show inN (if T 6 k = z then S 5 k else 0) 1000
    rw [if_pos e]
    exact (h.2.2.2 k hk).1
  · show inN (if T 6 k = z then S 5 k else 0) 1000
    rw [if_neg e]
    exact ⟨0, by omega, rfl⟩
theorem share_in {T S : aSS} {k : Nat} (hT : wfT2 T) (h : wfS T S 999) (hk : k < tn (T 0 1)) : ∃ s, s < 400000 ∧ shareS T S k = lN s := by
  obtain ⟨p, hp, ep⟩ := (hT.2.2.1 k hk).2
  obtain ⟨q, hq, eq⟩ := met_in (z := nI k) hT h
  refine ⟨p * q, ?_, ?_⟩
  · have := Nat.mul_le_mul (show p ≤ 50 by omega) (show q ≤ 7992 by omega)
    omega
  · unfold shareS
    rw [ep, eq, l64_of (by omega), l64_of (by omega), l64_mul]
theorem all_in {T S : aSS} (hT : wfT2 T) (h : wfS T S 999) : ∀ n, n ≤ tn (T 0 1) → ∃ s, s ≤ 400000 * n ∧ allS T S n = lN s := by
  intro n
  induction n with
  | zero => intro _; exact ⟨0, by omega, rfl⟩
  | succ n ih =>
    intro hn
    obtain ⟨a, ha, ea⟩ := ih (by omega)
    obtain ⟨s, hs, es⟩ := share_in hT h (k := n) (by omega)
    refine ⟨a + s, by omega, ?_⟩
    show allS T S n + shareS T S n = _
    rw [ea, es, l64_add]
theorem lost_in {T S : aSS} {m A k : Nat} (hT : wfT2 T) (h : wfS T S 999) (hm : m < 10000) (hA : 0 < A) (hA2 : A < 2 ^ 40) (hk : k < tn (T 0 1)) : ∃ s, s < A ∧ lostP (lN m) T S (lN A) k = lN s := by
  obtain ⟨s, hs, es⟩ := share_in hT h hk
  refine ⟨m * s % A, Nat.mod_lt _ hA, ?_⟩
  have hms : m * s ≤ 10000 * 400000 := Nat.mul_le_mul (by omega) (by omega)
  unfold lostP a_lrem
  rw [es, l64_mul]
  exact pk_lRem (by omega) hA (by omega)
