/-! CatNeed$Told, and copies of States -/
theorem c_X3_copy {G : aG} {l : Launch} {d : Nat} {Q : Option Value → aM → Prop} {n p : Nat} {S I : aSS} {L : Nat → Nat → Int64} (hn : isS n) (hs : p + 7 ≤ n ∨ n + 7 ≤ p) (hS : okS p S (I, L)) (hq : Q none (segP I n S, L)) : aC (aRS G) G l (d + 1) 0 0 mX3_copyFrom [.ref n, .ref p] (I, L) Q := by
  have h := c_X3_copyFrom (G := G) (l := l) (d := d) (Q := Q) (S := seg I n) hn hs hS (by rw [sg_cp]; exact hq)
  rw [sg_self] at h
  exact h
/-- all as the text told it -/
def begS (T : aSS) : aSS
  | 0 => fun k => if k = 8 then -1 else 0
  | 1 => T 1
  | 2 => T 3
  | 3 => fun k => if k < 3 then -1 else 0
  | 4 => T 5
  | _ => fun _ => 0
theorem begin_3 {S : aSS} {m : Nat} : ∀ j k, lp (fun k S => up2 S 3 k (-1)) m S j k = if j = 3 ∧ k < m then -1 else S j k := by
  induction m with
  | zero => intro j k; rw [if_neg (by omega)]; rfl
  | succ m ih =>
    intro j k
    show up2 (lp (fun k S => up2 S 3 k (-1)) m S) 3 m (-1) j k = _
    generalize lp (fun k S => up2 S 3 k (-1)) m S = S1 at *
    unfold up2
    by_cases h : j = 3 ∧ k = m
    · rw [if_pos h, if_pos (by omega)]
    · rw [if_neg h, ih j k]
      by_cases h2 : j = 3 ∧ k < m
      · rw [if_pos h2, if_pos (by omega)]
      · rw [if_neg h2, if_neg (by omega)]
theorem begin_56 {S : aSS} {m : Nat} : ∀ j k, lp (fun k S => up2 (up2 S 5 k 0) 6 k 0) m S j k = if (j = 5 ∨ j = 6) ∧ k < m then 0 else S j k := by
  induction m with
  | zero => intro j k; rw [if_neg (by omega)]; rfl
  | succ m ih =>
    intro j k
    show up2 (up2 (lp (fun k S => up2 (up2 S 5 k 0) 6 k 0) m S) 5 m 0) 6 m 0 j k = _
    generalize lp (fun k S => up2 (up2 S 5 k 0) 6 k 0) m S = S1 at *
    unfold up2
    by_cases h : j = 6 ∧ k = m
    · rw [if_pos h, if_pos (by omega)]
    · rw [if_neg h]
      by_cases h1 : j = 5 ∧ k = m
      · rw [if_pos h1, if_pos (by omega)]
      · rw [if_neg h1, ih j k]
        by_cases h2 : (j = 5 ∨ j = 6) ∧ k < m
        · rw [if_pos h2, if_pos (by omega)]
        · rw [if_neg h2, if_neg (by omega)]
theorem sg_begin {I S T : aSS} {n : Nat} (hn : isS n) (L : Nat → Nat → Int64) (hc : aCan (segP I n (beginS T S), L)) : segP I n (beginS T S) = segP I n (begS T) := by
  obtain ⟨n0, n1, n2, n3, n4, n5, n6⟩ := hn
  have c3 : ∀ k, 3 ≤ k → beginS T S 3 k = 0 := fun k hk => by
    have := hc (n + 3) k (by rw [n3]; exact hk)
    dsimp only at this
    rw [sg_in (by omega)] at this
    exact this
  have c5 : ∀ k, 8 ≤ k → beginS T S 5 k = 0 := fun k hk => by
    have := hc (n + 5) k (by rw [n5]; exact hk)
    dsimp only at this
    rw [sg_in (by omega)] at this
    exact this
  have c6 : ∀ k, 8 ≤ k → beginS T S 6 k = 0 := fun k hk => by
    have := hc (n + 6) k (by rw [n6]; exact hk)
    dsimp only at this
    rw [sg_in (by omega)] at this
    exact this
  refine sg_eq (fun k hk => ?_) (fun j h0 h7 => ?_)
  · unfold beginS
    rw [begin_56, if_neg (by omega), begin_3, if_neg (by omega)]
    rcases hk with h | h | h | h | h <;> subst h <;> simp [up2, rw2, begS]
  · have h : j = 1 ∨ j = 2 ∨ j = 3 ∨ j = 4 ∨ j = 5 ∨ j = 6 := by omega
    funext k
    rcases h with h | h | h | h | h | h <;> subst h
    · unfold beginS
      rw [begin_56, if_neg (by omega), begin_3, if_neg (by omega)]
      simp [up2, rw2, begS]
    · unfold beginS
      rw [begin_56, if_neg (by omega), begin_3, if_neg (by omega)]
      simp [up2, rw2, begS]
    · by_cases hk : k < 3
      · unfold beginS
        rw [begin_56, if_neg (by omega), begin_3, if_pos (by omega)]
        show -1 = if k < 3 then (-1 : Int32) else 0
        rw [if_pos hk]
      · rw [c3 k (by omega)]
        show 0 = if k < 3 then (-1 : Int32) else 0
        rw [if_neg hk]
    · unfold beginS
      rw [begin_56, if_neg (by omega), begin_3, if_neg (by omega)]
      simp [up2, rw2, begS]
    · by_cases hk : k < 8
      · unfold beginS
        rw [begin_56, if_pos (by omega)]
        rfl
      · rw [c5 k (by omega)]
        rfl
    · by_cases hk : k < 8
      · unfold beginS
        rw [begin_56, if_pos (by omega)]
        rfl
      · rw [c6 k (by omega)]
        rfl
theorem c_X3_beg {G : aG} {l : Launch} {d : Nat} {Q : Option Value → aM → Prop} {n t : Nat} {T I : aSS} {L : Nat → Nat → Int64} (hn : isS n) (hs : t + 9 ≤ n ∨ n + 7 ≤ t) (hT : okT t T (I, L)) (hq : Q none (segP I n (begS T), L)) : aC (aRS G) G l (d + 1) 0 0 mX3_begin [.ref n, .ref t] (I, L) Q := by
  have h := c_X3_begin (G := G) (l := l) (d := d) (Q := fun v y => aCan y → Q v y) (S := seg I n) hn hs hT (fun hc => by rw [sg_begin hn L hc]; exact hq)
  rw [sg_self] at h
  exact aC.can h
set_option maxHeartbeats 1000000 in
theorem c_X5_copyFrom {G : aG} {l : Launch} {d : Nat} {Q : Option Value → aM → Prop} {n p : Nat} {T I : aSS} {L : Nat → Nat → Int64} (hn : isT n) (hs : p + 9 ≤ n ∨ n + 9 ≤ p) (hT : okT p T (I, L)) (hq : Q none (segQ I n T, L)) : aC (aRS G) G l (d + 1) 0 0 mX5_copyFrom [.ref n, .ref p] (I, L) Q := by
  obtain ⟨n0, n1, n2, n3, n4, n5, n6, n7, n8⟩ := hn
  obtain ⟨⟨m0, m1, m2, m3, m4, m5, m6, m7, m8⟩, ⟨p0, p1, p2, p3, p4, p5, p6, p7, p8⟩, w⟩ := hT
  dsimp only at p0 p1 p2 p3 p4 p5 p6 p7 p8
  have e : (I, L) = (segQ I n (seg I n), L) := by rw [tg_self]
  rw [e]
  generalize seg I n = S
  refine E_X5_copyFrom ?_
  simp (disch := omega) only [R_X5_copyFrom_0, i_c, i_ild, i_ildv, i_lld, i_lldv, i_ald, i_aldv, i_ist, i_lst, i_ast, i_iinc, i_iincv, i_iadd, i_isub, i_imul, i_iand, i_ior, i_ixor, i_ishl, i_ishr, i_iushr, i_idiv, i_irem, i_ineg, i_ladd, i_lsub, i_lmul, i_land, i_lor, i_ldiv, i_lrem, i_lcmp, i_i2l, i_l2i, i_i2b, i_i2c, i_dup, i_pop, i_dup2, i_dup_x1, i_ifeq, i_ifne, i_iflt, i_ifge, i_ifgt, i_ifle, i_icmpeq, i_icmpne, i_icmplt, i_icmpge, i_icmpgt, i_icmple, i_ifnn, i_tsw, i_sw, i_iret, i_lret, i_aret, i_vret, i_getI, i_getR, i_putI, i_putZ, i_iald, i_bald, i_zald, i_lald, i_iast, i_bast, i_zast, i_last, i_aldR, i_aldW, i_aldP, i_astP, i_alen, i_copy, i_min, i_max, i_abs, i_sval, i_scod, i_slen, i_sald, i_callI, i_oinit, i_call_0, i_call_1, i_call_2, i_call_3, i_call_4, i_callT_0, i_callT_1, i_callT_2, i_callV_0, i_callV_1, i_callV_2, i_callV_3, i_callV_4, i_callV_5, lget, lput, lput2, aKill, aU, List.length_cons, List.length_nil, Nat.reduceAdd, Nat.reduceLT, Nat.reduceEqDiff, reduceIte, if_true, if_false, List.map_cons, List.map_nil, List.sum_cons, List.sum_nil, cat_int, cat_long, cat_ref, cat_null, cat_ra, Nat.reduceLeDiff, true_and, and_true, aPush_none, aPush_some, nrw_int, nrw_b0, nrw_b1, Nat.lt_irrefl, Nat.zero_lt_succ, le_nI, nI_lt', in_nI, cl_nI, eq_nI, le_nII, lt_nII, nI_1, true_imp_iff, false_imp_iff, not_true_eq_false, not_false_eq_true, and_self, forall_const, implies_true, Nat.le_refl, ne_eq, i10, tn_m1, not_true_eq_false, tn_0, tn_1, tn_2, tn_3, tn_4, tn_5, tn_6, tn_7, tn_8, tn_9, tn_10, tn_11, tn_12, tn_13, tn_14, tn_15, tn_19, tn_20, tn_24, tn_25, tn_29, tn_30, tn_32, tn_33, tn_40, tn_59, tn_60, tn_61, tn_64, tn_65, tn_72, tn_99, tn_100, tn_300, tn_400, tn_600, tn_999, tn_1800, tn_800, in_0, in_1, in_2, in_3, in_4, in_5, in_6, in_7, in_8, in_9, in_10, in_11, in_19, oi_0, oi_1, oi_2, oi_3, oi_4, oi_5, oi_6, oi_7, oi_8, oi_9, oi_10, oi_11, oi_12, oi_13, oi_14, oi_15, oi_16, oi_17, oi_18, oi_19, oi_20, oi_21, oi_22, oi_23, oi_24, oi_25, oi_26, oi_27, oi_28, oi_29, oi_30, oi_31, oi_200000, oi_200001, oi_200002, oi_200003, oi_200004, oi_200005, oi_200006, oi_200007, oi_200008, oi_200009, oi_200010, oi_200011, oi_200012, oi_200013, oi_200014, Int.reduceAdd, i_sw, lg_cmp_ge, lg_cmp_le, lg_cmp_gt, lg_cmp_lt, lg_cmp_eq, nI_pred, nI_m1, nI_p2, nI_m2, nI_le0, nI_lt0, nI_ge0, nI_gt0, nI_eq0, nI_2le, nI_sub, List.length_cons, List.length_nil, n0, n1, n2, n3, n4, n5, n6, n7, n8, tg_in, tg_0, tg_up, tg_up0, tg_row, up2_at, up2_ne, rw2_at, rw2_ne, m0, m1, m2, m3, m4, m5, m6, m7, m8, tg_out, p0, p1, p2, p3, p4, p5, p6, p7, p8]
  refine ⟨⟨by decide, rfl⟩, ⟨by decide, rfl⟩, ⟨by decide, rfl⟩, ⟨by decide, rfl⟩, ⟨by decide, rfl⟩, ⟨by decide, rfl⟩, ⟨by decide, rfl⟩, ⟨by decide, rfl⟩, ?_⟩
  rw [tg_eq (S' := T)]
  · exact hq
  · intro k hk
    rcases hk with h | h | h | h <;> subst h <;> simp [up2, rw2]
  · intro j h0 h9
    have h : j = 1 ∨ j = 2 ∨ j = 3 ∨ j = 4 ∨ j = 5 ∨ j = 6 ∨ j = 7 ∨ j = 8 := by omega
    rcases h with h | h | h | h | h | h | h | h <;> subst h <;> simp [rw2_at, rw2_ne]
theorem tg_okT {I T : aSS} {L : Nat → Nat → Int64} {n : Nat} (hn : isT n) (w : wfT T) : okT n T (segQ I n T, L) := ⟨hn, ⟨tg_0, tg_in (by omega), tg_in (by omega), tg_in (by omega), tg_in (by omega), tg_in (by omega), tg_in (by omega), tg_in (by omega), tg_in (by omega)⟩, w⟩
def worthS (T : aSS) (v : Int32) (N : Nat) : Int32 := lp (fun k a => if bitS v k then a + T 2 (tn (T 6 k)) else a) N 0
set_option maxHeartbeats 1000000 in
theorem c_X5_worthOfNeeds {G : aG} {l : Launch} {d : Nat} {Q : Option Value → aM → Prop} {x : aM} {t : Nat} {v : Int32} {T : aSS} (hT : okT t T x) (hq : Q (some (.int (worthS T v (tn (T 0 3))))) x) : aC (aRS G) G l (d + 1) 0 0 mX5_worthOfNeeds [.ref t, .int v] x Q := by
  obtain ⟨⟨t0, t1, t2, t3, t4, t5, t6, t7, t8⟩, ⟨q0, q1, q2, q3, q4, q5, q6, q7, q8⟩, w⟩ := hT
  have h8 : tn (T 0 3) ≤ 8 := w.1.2.2
  refine E_X5_worthOfNeeds ?_
  simp only [R_X5_worthOfNeeds_40, R_X5_worthOfNeeds_34, R_X5_worthOfNeeds_4, R_X5_worthOfNeeds_0, i_c, i_ild, i_ildv, i_lld, i_lldv, i_ald, i_aldv, i_ist, i_lst, i_ast, i_iinc, i_iincv, i_iadd, i_isub, i_imul, i_iand, i_ior, i_ixor, i_ishl, i_ishr, i_iushr, i_idiv, i_irem, i_ineg, i_ladd, i_lsub, i_lmul, i_land, i_lor, i_ldiv, i_lrem, i_lcmp, i_i2l, i_l2i, i_i2b, i_i2c, i_dup, i_pop, i_dup2, i_dup_x1, i_ifeq, i_ifne, i_iflt, i_ifge, i_ifgt, i_ifle, i_icmpeq, i_icmpne, i_icmplt, i_icmpge, i_icmpgt, i_icmple, i_ifnn, i_tsw, i_sw, i_iret, i_lret, i_aret, i_vret, i_getI, i_getR, i_putI, i_putZ, i_iald, i_bald, i_zald, i_lald, i_iast, i_bast, i_zast, i_last, i_aldR, i_aldW, i_aldP, i_astP, i_alen, i_copy, i_min, i_max, i_abs, i_sval, i_scod, i_slen, i_sald, i_callI, i_oinit, i_call_0, i_call_1, i_call_2, i_call_3, i_call_4, i_callT_0, i_callT_1, i_callT_2, i_callV_0, i_callV_1, i_callV_2, i_callV_3, i_callV_4, i_callV_5, lget, lput, lput2, aKill, aU, List.length_cons, List.length_nil, Nat.reduceAdd, Nat.reduceLT, Nat.reduceEqDiff, reduceIte, if_true, if_false, List.map_cons, List.map_nil, List.sum_cons, List.sum_nil, cat_int, cat_long, cat_ref, cat_null, cat_ra, Nat.reduceLeDiff, true_and, and_true, aPush_none, aPush_some, nrw_int, nrw_b0, nrw_b1, Nat.lt_irrefl, Nat.zero_lt_succ]
  have L : ∀ k, k ≤ tn (T 0 3) → aT (aRS G) G l (d + 1) mX5_worthOfNeeds 0 0 Q 4 [.ref t, .int v, .int (worthS T v k), .int (nI k)] [] x := by
    refine up_loop ?_ (fun k hk ih => ?_)
    · refine S_X5_worthOfNeeds_4 _ _ _ ?_
      simp (disch := omega) only [R_X5_worthOfNeeds_40, R_X5_worthOfNeeds_34, R_X5_worthOfNeeds_4, R_X5_worthOfNeeds_0, i_c, i_ild, i_ildv, i_lld, i_lldv, i_ald, i_aldv, i_ist, i_lst, i_ast, i_iinc, i_iincv, i_iadd, i_isub, i_imul, i_iand, i_ior, i_ixor, i_ishl, i_ishr, i_iushr, i_idiv, i_irem, i_ineg, i_ladd, i_lsub, i_lmul, i_land, i_lor, i_ldiv, i_lrem, i_lcmp, i_i2l, i_l2i, i_i2b, i_i2c, i_dup, i_pop, i_dup2, i_dup_x1, i_ifeq, i_ifne, i_iflt, i_ifge, i_ifgt, i_ifle, i_icmpeq, i_icmpne, i_icmplt, i_icmpge, i_icmpgt, i_icmple, i_ifnn, i_tsw, i_sw, i_iret, i_lret, i_aret, i_vret, i_getI, i_getR, i_putI, i_putZ, i_iald, i_bald, i_zald, i_lald, i_iast, i_bast, i_zast, i_last, i_aldR, i_aldW, i_aldP, i_astP, i_alen, i_copy, i_min, i_max, i_abs, i_sval, i_scod, i_slen, i_sald, i_callI, i_oinit, i_call_0, i_call_1, i_call_2, i_call_3, i_call_4, i_callT_0, i_callT_1, i_callT_2, i_callV_0, i_callV_1, i_callV_2, i_callV_3, i_callV_4, i_callV_5, lget, lput, lput2, aKill, aU, List.length_cons, List.length_nil, Nat.reduceAdd, Nat.reduceLT, Nat.reduceEqDiff, reduceIte, if_true, if_false, List.map_cons, List.map_nil, List.sum_cons, List.sum_nil, cat_int, cat_long, cat_ref, cat_null, cat_ra, Nat.reduceLeDiff, true_and, and_true, aPush_none, aPush_some, nrw_int, nrw_b0, nrw_b1, Nat.lt_irrefl, Nat.zero_lt_succ, le_nI, nI_lt', in_nI, cl_nI, eq_nI, le_nII, lt_nII, nI_1, true_imp_iff, false_imp_iff, not_true_eq_false, not_false_eq_true, and_self, forall_const, implies_true, Nat.le_refl, ne_eq, i10, tn_m1, not_true_eq_false, tn_0, tn_1, tn_2, tn_3, tn_4, tn_5, tn_6, tn_7, tn_8, tn_9, tn_10, tn_11, tn_12, tn_13, tn_14, tn_15, tn_19, tn_20, tn_24, tn_25, tn_29, tn_30, tn_32, tn_33, tn_40, tn_59, tn_60, tn_61, tn_64, tn_65, tn_72, tn_99, tn_100, tn_300, tn_400, tn_600, tn_999, tn_1800, tn_800, in_0, in_1, in_2, in_3, in_4, in_5, in_6, in_7, in_8, in_9, in_10, in_11, in_19, oi_0, oi_1, oi_2, oi_3, oi_4, oi_5, oi_6, oi_7, oi_8, oi_9, oi_10, oi_11, oi_12, oi_13, oi_14, oi_15, oi_16, oi_17, oi_18, oi_19, oi_20, oi_21, oi_22, oi_23, oi_24, oi_25, oi_26, oi_27, oi_28, oi_29, oi_30, oi_31, oi_200000, oi_200001, oi_200002, oi_200003, oi_200004, oi_200005, oi_200006, oi_200007, oi_200008, oi_200009, oi_200010, oi_200011, oi_200012, oi_200013, oi_200014, Int.reduceAdd, i_sw, lg_cmp_ge, lg_cmp_le, lg_cmp_gt, lg_cmp_lt, lg_cmp_eq, nI_pred, nI_m1, nI_p2, nI_m2, nI_le0, nI_lt0, nI_ge0, nI_gt0, nI_eq0, nI_2le, nI_sub, List.length_cons, List.length_nil, t0, t1, t2, t3, t4, t5, t6, t7, t8, q0, q1, q2, q3, q4, q5, q6, q7, q8]
      exact hq
    · have h6 : vp_in (T 6 k) 6 := in_of_toInt (w.2 k hk).1 w.1.1
      refine S_X5_worthOfNeeds_4 _ _ _ ?_
      simp (disch := omega) only [R_X5_worthOfNeeds_40, R_X5_worthOfNeeds_34, R_X5_worthOfNeeds_4, R_X5_worthOfNeeds_0, i_c, i_ild, i_ildv, i_lld, i_lldv, i_ald, i_aldv, i_ist, i_lst, i_ast, i_iinc, i_iincv, i_iadd, i_isub, i_imul, i_iand, i_ior, i_ixor, i_ishl, i_ishr, i_iushr, i_idiv, i_irem, i_ineg, i_ladd, i_lsub, i_lmul, i_land, i_lor, i_ldiv, i_lrem, i_lcmp, i_i2l, i_l2i, i_i2b, i_i2c, i_dup, i_pop, i_dup2, i_dup_x1, i_ifeq, i_ifne, i_iflt, i_ifge, i_ifgt, i_ifle, i_icmpeq, i_icmpne, i_icmplt, i_icmpge, i_icmpgt, i_icmple, i_ifnn, i_tsw, i_sw, i_iret, i_lret, i_aret, i_vret, i_getI, i_getR, i_putI, i_putZ, i_iald, i_bald, i_zald, i_lald, i_iast, i_bast, i_zast, i_last, i_aldR, i_aldW, i_aldP, i_astP, i_alen, i_copy, i_min, i_max, i_abs, i_sval, i_scod, i_slen, i_sald, i_callI, i_oinit, i_call_0, i_call_1, i_call_2, i_call_3, i_call_4, i_callT_0, i_callT_1, i_callT_2, i_callV_0, i_callV_1, i_callV_2, i_callV_3, i_callV_4, i_callV_5, lget, lput, lput2, aKill, aU, List.length_cons, List.length_nil, Nat.reduceAdd, Nat.reduceLT, Nat.reduceEqDiff, reduceIte, if_true, if_false, List.map_cons, List.map_nil, List.sum_cons, List.sum_nil, cat_int, cat_long, cat_ref, cat_null, cat_ra, Nat.reduceLeDiff, true_and, and_true, aPush_none, aPush_some, nrw_int, nrw_b0, nrw_b1, Nat.lt_irrefl, Nat.zero_lt_succ, le_nI, nI_lt', in_nI, cl_nI, eq_nI, le_nII, lt_nII, nI_1, true_imp_iff, false_imp_iff, not_true_eq_false, not_false_eq_true, and_self, forall_const, implies_true, Nat.le_refl, ne_eq, i10, tn_m1, not_true_eq_false, tn_0, tn_1, tn_2, tn_3, tn_4, tn_5, tn_6, tn_7, tn_8, tn_9, tn_10, tn_11, tn_12, tn_13, tn_14, tn_15, tn_19, tn_20, tn_24, tn_25, tn_29, tn_30, tn_32, tn_33, tn_40, tn_59, tn_60, tn_61, tn_64, tn_65, tn_72, tn_99, tn_100, tn_300, tn_400, tn_600, tn_999, tn_1800, tn_800, in_0, in_1, in_2, in_3, in_4, in_5, in_6, in_7, in_8, in_9, in_10, in_11, in_19, oi_0, oi_1, oi_2, oi_3, oi_4, oi_5, oi_6, oi_7, oi_8, oi_9, oi_10, oi_11, oi_12, oi_13, oi_14, oi_15, oi_16, oi_17, oi_18, oi_19, oi_20, oi_21, oi_22, oi_23, oi_24, oi_25, oi_26, oi_27, oi_28, oi_29, oi_30, oi_31, oi_200000, oi_200001, oi_200002, oi_200003, oi_200004, oi_200005, oi_200006, oi_200007, oi_200008, oi_200009, oi_200010, oi_200011, oi_200012, oi_200013, oi_200014, Int.reduceAdd, i_sw, lg_cmp_ge, lg_cmp_le, lg_cmp_gt, lg_cmp_lt, lg_cmp_eq, nI_pred, nI_m1, nI_p2, nI_m2, nI_le0, nI_lt0, nI_ge0, nI_gt0, nI_eq0, nI_2le, nI_sub, List.length_cons, List.length_nil, t0, t1, t2, t3, t4, t5, t6, t7, t8, q0, q1, q2, q3, q4, q5, q6, q7, q8, Nat.not_le.mpr hk]
      refine ⟨fun h => ?_, fun h => ⟨h6, ?_⟩⟩
      · have e : worthS T v (k + 1) = worthS T v k := if_neg (fun z => z h)
        rw [e] at ih
        exact ih
      · have e : worthS T v (k + 1) = worthS T v k + T 2 (tn (T 6 k)) := if_pos h
        rw [e] at ih
        exact ih
  exact L 0 (Nat.zero_le _)
