/-! the reference: a TEST is read -/
theorem tx_23 : isTx 23 wAnd := ⟨by decide, by decide, by decide⟩
theorem tx_24 : isTx 24 wOr := ⟨by decide, by decide, by decide⟩
theorem li_93 : (93 : Int32) = nI 93 := rfl
theorem tes_fuel {n : Nat} {t : Nat → Nat} (hn : n ≤ 400) {F : PF} (hF : gdF n F) : ∀ f g p cs k b, p ≤ n → k ≤ 60 → cok cs → n ≤ p + f → n ≤ p + g → tesL n t F f p cs k b = tesL n t F g p cs k b
  | 0, 0, _, _, _, _, _, _, _, _, _ => rfl
  | 0, g + 1, p, cs, k, b, hp, hk, hc, hf, hg => by
    have e : skp n t p = p := skp_end (by omega)
    conv => rhs; unfold tesL
    rw [e, wordL_end (by omega)]
    show Except.ok _ = Except.ok _
    rw [e]
  | f + 1, 0, p, cs, k, b, hp, hk, hc, hf, hg => by
    have e : skp n t p = p := skp_end (by omega)
    conv => lhs; unfold tesL
    rw [e, wordL_end (by omega)]
    show Except.ok _ = Except.ok _
    rw [e]
  | f + 1, g + 1, p, cs, k, b, hp, hk, hc, hf, hg => by
    have hs := skp_le (t := t) hp
    unfold tesL
    cases hsg : fndW (wordL n t (skp n t p)) wsAO 0 with
    | none => rfl
    | some i =>
      obtain ⟨w1, w2⟩ := word_end hs.2 (ao_ne hsg)
      match i with
      | 0 =>
        refine pB_cong (fun p' c' k' e => ?_)
        obtain ⟨v1, v2, v3, v4, v5, v6⟩ := (hF _ _ _ w2 hk hc).1 _ _ _ e
        exact tes_fuel hn hF f g p' _ k' b v2 v4 (cok_app v6 (cok_1 (by omega))) (by omega) (by omega)
      | i + 1 =>
        refine pB_cong (fun p' c' k' e => ?_)
        obtain ⟨v1, v2, v3, v4, v5, v6⟩ := (hF _ _ _ w2 hk (cok_app hc orL_cok)).1 _ _ _ e
        exact tes_fuel hn hF f g p' _ k' true v2 v4 v6 (by omega) (by omega)
/-- the loop of a TEST -/
abbrev tT (G : aG) (l : Launch) (d : Nat) (Q : Option Value → aM → Prop) (L : Nat → Nat → Int64) (w : Int32) (J : aSS) : Prop := ∀ u v : Value, aT (aRS G) G l (d + 11) mX8_test 0 0 Q 9 [.ref 848, .int w, .int 1, u, v] [] (J, L)
theorem tT_err {G : aG} {l : Launch} {d : Nat} {Q : Option Value → aM → Prop} {J : aSS} {L : Nat → Nat → Int64} {n s e : Nat} {t : Nat → Nat} {w : Int32} (h : zS n t s e J) (hq : Q none (J, L)) : tT G l d Q L w J := by
  intro u v
  have he := h.2.2.1
  have ne := h.2.2.2.1
  have e4 := h.2.2.2.2
  refine S_X8_test_9 _ _ _ ?_
  simp (disch := omega) only [R_X8_test_9, R_X8_test_202, i_c, i_ild, i_ildv, i_lld, i_lldv, i_ald, i_aldv, i_ist, i_lst, i_ast, i_iinc, i_iincv, i_iadd, i_isub, i_imul, i_iand, i_ior, i_ixor, i_ishl, i_ishr, i_iushr, i_idiv, i_irem, i_ineg, i_ladd, i_lsub, i_lmul, i_land, i_lor, i_ldiv, i_lrem, i_lcmp, i_i2l, i_l2i, i_i2b, i_i2c, i_dup, i_pop, i_dup2, i_dup_x1, i_ifeq, i_ifne, i_iflt, i_ifge, i_ifgt, i_ifle, i_icmpeq, i_icmpne, i_icmplt, i_icmpge, i_icmpgt, i_icmple, i_ifnn, i_tsw, i_sw, i_iret, i_lret, i_aret, i_vret, i_getI, i_getR, i_putI, i_putZ, i_iald, i_bald, i_zald, i_lald, i_iast, i_bast, i_zast, i_last, i_aldR, i_aldW, i_aldP, i_astP, i_alen, i_copy, i_min, i_max, i_abs, i_sval, i_scod, i_slen, i_sald, i_callI, i_oinit, i_call_0, i_call_1, i_call_2, i_call_3, i_call_4, i_callT_0, i_callT_1, i_callT_2, i_callV_0, i_callV_1, i_callV_2, i_callV_3, i_callV_4, i_callV_5, lget, lput, lput2, aKill, aU, List.length_cons, List.length_nil, Nat.reduceAdd, Nat.reduceLT, Nat.reduceEqDiff, reduceIte, if_true, if_false, List.map_cons, List.map_nil, List.sum_cons, List.sum_nil, cat_int, cat_long, cat_ref, cat_null, cat_ra, Nat.reduceLeDiff, true_and, and_true, aPush_none, aPush_some, nrw_int, nrw_b0, nrw_b1, Nat.lt_irrefl, Nat.zero_lt_succ, le_nI, nI_lt', in_nI, cl_nI, eq_nI, le_nII, lt_nII, nI_1, true_imp_iff, false_imp_iff, not_true_eq_false, not_false_eq_true, and_self, forall_const, implies_true, Nat.le_refl, ne_eq, i10, tn_m1, not_true_eq_false, tn_0, tn_1, tn_2, tn_3, tn_4, tn_5, tn_6, tn_7, tn_8, tn_9, tn_10, tn_11, tn_12, tn_13, tn_14, tn_15, tn_19, tn_20, tn_24, tn_25, tn_29, tn_30, tn_32, tn_33, tn_40, tn_59, tn_60, tn_61, tn_64, tn_65, tn_72, tn_99, tn_100, tn_300, tn_400, tn_600, tn_999, tn_1800, tn_800, in_0, in_1, in_2, in_3, in_4, in_5, in_6, in_7, in_8, in_9, in_10, in_11, in_19, oi_0, oi_1, oi_2, oi_3, oi_4, oi_5, oi_6, oi_7, oi_8, oi_9, oi_10, oi_11, oi_12, oi_13, oi_14, oi_15, oi_16, oi_17, oi_18, oi_19, oi_20, oi_21, oi_22, oi_23, oi_24, oi_25, oi_26, oi_27, oi_28, oi_29, oi_30, oi_31, oi_200000, oi_200001, oi_200002, oi_200003, oi_200004, oi_200005, oi_200006, oi_200007, oi_200008, oi_200009, oi_200010, oi_200011, oi_200012, oi_200013, oi_200014, Int.reduceAdd, i_sw, lg_cmp_ge, lg_cmp_le, lg_cmp_gt, lg_cmp_lt, lg_cmp_eq, nI_pred, nI_m1, nI_p2, nI_m2, nI_le0, nI_lt0, nI_ge0, nI_gt0, nI_eq0, nI_2le, nI_sub, List.length_cons, List.length_nil, Nat.not_lt_zero, shM, he, ne]
  exact hq
def FACT (G : aG) (l : Launch) (d : Nat) (Q : Option Value → aM → Prop) (L : Nat → Nat → Int64) (n s a : Nat) (t : Nat → Nat) (r : Nat) : Prop := ∀ p cs k z σ J, tS n t s a p cs k z σ J → cok cs → dpt σ + r = 10 →
  (∀ K e, frY (300 * s + a) J K → facF n t r p cs k = .error e → zS n t s e K → Q none (K, L)) →
  (∀ K j c' p' k', frY (300 * s + a) J K → facF n t r p cs k = .ok (p', c' ++ List.replicate j 200012, k') → tS n t s a p' c' k' (z + 1 + j) (List.replicate j 9 ++ σ) K → tT G l d Q L 0 K) → tT G l d Q L 1 J
def brk (n : Nat) (t : Nat → Nat) : PF := fun p cs k => if skp n t p < n ∧ t (skp n t p) = 93 then .ok (skp n t p + 1, cs, k) else .error (ftB (skp n t p) 0)
def bkt (n : Nat) (t : Nat → Nat) (σ : List Nat) (x : PR) : PR := match σ with
  | [] => x
  | _ :: _ => pB x (brk n t)
theorem bkt_er {n e : Nat} {t : Nat → Nat} {σ : List Nat} : bkt n t σ (.error e) = .error e := by cases σ <;> rfl
def TESC (G : aG) (l : Launch) (d : Nat) (Q : Option Value → aM → Prop) (L : Nat → Nat → Int64) (n s a : Nat) (t : Nat → Nat) (z : Nat) (σ : List Nat) (x : PR) (J : aSS) : Prop :=
  (∀ K e, frY (300 * s + a) J K → bkt n t σ x = .error e → zS n t s e K → Q none (K, L)) ∧
  (∀ K p' c' k', σ = [] → frY (300 * s + a) J K → x = .ok (p', c', k') → tS n t s a p' c' k' (z + 1) [] K → Q none (K, L)) ∧
  ∀ σ0 K p' c' k', σ = 12 :: σ0 → frY (300 * s + a) J K → bkt n t σ x = .ok (p', c', k') → tS n t s a p' c' k' (z + 1) σ0 K → tT G l d Q L 0 K
theorem TESC.fr {G : aG} {l : Launch} {d n s a z : Nat} {Q : Option Value → aM → Prop} {L : Nat → Nat → Int64} {t : Nat → Nat} {σ : List Nat} {x : PR} {J K : aSS} (h : TESC G l d Q L n s a t z σ x J) (f : frY (300 * s + a) J K) : TESC G l d Q L n s a t z σ x K :=
  ⟨fun M e g => h.1 M e (f.trans g), fun M p' c' k' e g => h.2.1 M p' c' k' e (f.trans g), fun σ0 M p' c' k' e g => h.2.2 σ0 M p' c' k' e (f.trans g)⟩
def TEST (G : aG) (l : Launch) (d : Nat) (Q : Option Value → aM → Prop) (L : Nat → Nat → Int64) (n s a : Nat) (t : Nat → Nat) (r : Nat) : Prop := ∀ p cs k z σ J, tS n t s a p cs k z σ J → cok cs → dpt σ + r = 10 → (σ = [] ∨ ∃ σ0, σ = 12 :: σ0) → TESC G l d Q L n s a t z σ (tesP n t (facF n t r) p cs k) J → tT G l d Q L 1 J
theorem top_rep {A x y : Nat} {τ : List Nat} (h : topV τ ≠ nI y) (hxy : x ≠ y) (hx : x < 100) (hy : y < 100) : topV (List.replicate A x ++ τ) ≠ nI y := by
  cases A with
  | zero => exact h
  | succ A => exact fun e => hxy ((nI_eq (by omega) (by omega)).mp e)
theorem top_lv {σ : List Nat} {y : Nat} (hσ : σ = [] ∨ ∃ σ0, σ = 12 :: σ0) (hy : y < 12) : topV σ ≠ nI y := by
  rcases hσ with rfl | ⟨σ0, rfl⟩
  · exact fun e => absurd e.symm (nI_m1n (by omega))
  · exact fun e => by
      have := (nI_eq (a := 12) (b := y) (by omega) (by omega)).mp e
      omega
theorem ao_and {n q : Nat} {t : Nat → Nat} (h : wordL n t q = wAnd) : fndW (wordL n t q) wsAO 0 = some 0 := by rw [h]; rfl
theorem ao_or {n q : Nat} {t : Nat → Nat} (h : wordL n t q = wOr) : fndW (wordL n t q) wsAO 0 = some 1 := by rw [h]; rfl
theorem ao_no {n q : Nat} {t : Nat → Nat} (h1 : wordL n t q ≠ wAnd) (h2 : wordL n t q ≠ wOr) : fndW (wordL n t q) wsAO 0 = none := by
  unfold wsAO fndW
  rw [if_neg h1]
  unfold fndW
  rw [if_neg h2]
  rfl
theorem orL_rep {b : Bool} : orL b = List.replicate b.toNat 200011 := by cases b <;> rfl
theorem fact_of {G : aG} {l : Launch} {d n s a r : Nat} {Q : Option Value → aM → Prop} {L : Nat → Nat → Int64} {t : Nat → Nat} (h : ∀ r', r = r' + 1 → TEST G l d Q L n s a t r' ∧ FACT G l d Q L n s a t r') : FACT G l d Q L n s a t r := by
  intro p cs k z σ J hT hc hd hE hO u v
  have hn := hT.1.1.1.2.1
  have hpn := hT.1.2.1.2
  have hs := skp_le (t := t) hpn
  have he := hT.1.2.2.1
  refine S_X8_test_9 _ _ _ ?_
  simp (disch := omega) only [R_X8_test_9, i_c, i_ild, i_ildv, i_lld, i_lldv, i_ald, i_aldv, i_ist, i_lst, i_ast, i_iinc, i_iincv, i_iadd, i_isub, i_imul, i_iand, i_ior, i_ixor, i_ishl, i_ishr, i_iushr, i_idiv, i_irem, i_ineg, i_ladd, i_lsub, i_lmul, i_land, i_lor, i_ldiv, i_lrem, i_lcmp, i_i2l, i_l2i, i_i2b, i_i2c, i_dup, i_pop, i_dup2, i_dup_x1, i_ifeq, i_ifne, i_iflt, i_ifge, i_ifgt, i_ifle, i_icmpeq, i_icmpne, i_icmplt, i_icmpge, i_icmpgt, i_icmple, i_ifnn, i_tsw, i_sw, i_iret, i_lret, i_aret, i_vret, i_getI, i_getR, i_putI, i_putZ, i_iald, i_bald, i_zald, i_lald, i_iast, i_bast, i_zast, i_last, i_aldR, i_aldW, i_aldP, i_astP, i_alen, i_copy, i_min, i_max, i_abs, i_sval, i_scod, i_slen, i_sald, i_callI, i_oinit, i_call_0, i_call_1, i_call_2, i_call_3, i_call_4, i_callT_0, i_callT_1, i_callT_2, i_callV_0, i_callV_1, i_callV_2, i_callV_3, i_callV_4, i_callV_5, lget, lput, lput2, aKill, aU, List.length_cons, List.length_nil, Nat.reduceAdd, Nat.reduceLT, Nat.reduceEqDiff, reduceIte, if_true, if_false, List.map_cons, List.map_nil, List.sum_cons, List.sum_nil, cat_int, cat_long, cat_ref, cat_null, cat_ra, Nat.reduceLeDiff, true_and, and_true, aPush_none, aPush_some, nrw_int, nrw_b0, nrw_b1, Nat.lt_irrefl, Nat.zero_lt_succ, le_nI, nI_lt', in_nI, cl_nI, eq_nI, le_nII, lt_nII, nI_1, true_imp_iff, false_imp_iff, not_true_eq_false, not_false_eq_true, and_self, forall_const, implies_true, Nat.le_refl, ne_eq, i10, tn_m1, not_true_eq_false, tn_0, tn_1, tn_2, tn_3, tn_4, tn_5, tn_6, tn_7, tn_8, tn_9, tn_10, tn_11, tn_12, tn_13, tn_14, tn_15, tn_19, tn_20, tn_24, tn_25, tn_29, tn_30, tn_32, tn_33, tn_40, tn_59, tn_60, tn_61, tn_64, tn_65, tn_72, tn_99, tn_100, tn_300, tn_400, tn_600, tn_999, tn_1800, tn_800, in_0, in_1, in_2, in_3, in_4, in_5, in_6, in_7, in_8, in_9, in_10, in_11, in_19, oi_0, oi_1, oi_2, oi_3, oi_4, oi_5, oi_6, oi_7, oi_8, oi_9, oi_10, oi_11, oi_12, oi_13, oi_14, oi_15, oi_16, oi_17, oi_18, oi_19, oi_20, oi_21, oi_22, oi_23, oi_24, oi_25, oi_26, oi_27, oi_28, oi_29, oi_30, oi_31, oi_200000, oi_200001, oi_200002, oi_200003, oi_200004, oi_200005, oi_200006, oi_200007, oi_200008, oi_200009, oi_200010, oi_200011, oi_200012, oi_200013, oi_200014, Int.reduceAdd, i_sw, lg_cmp_ge, lg_cmp_le, lg_cmp_gt, lg_cmp_lt, lg_cmp_eq, nI_pred, nI_m1, nI_p2, nI_m2, nI_le0, nI_lt0, nI_ge0, nI_gt0, nI_eq0, nI_2le, nI_sub, List.length_cons, List.length_nil, Nat.not_lt_zero, shM, he]
  have hx : facF n t r p cs k = facG n t (match r with | 0 => none | r' + 1 => some (tesP n t (facF n t r'), facF n t r')) p cs k := by cases r <;> rfl
  unfold facG at hx
  dsimp only at hx
  have nb : wordL n t (skp n t p) = wNot → ¬ (skp n t p < n ∧ t (skp n t p) = 91) := fun hw y => by
    have hwl := wordL_len (n := n) (t := t) (p := skp n t p)
    rw [hw, runE_no (by rw [y.2]; decide)] at hwl
    rw [Nat.sub_self] at hwl
    exact absurd hwl (by decide)
  refine c_X8_fact (d := d) hT hc (fun hw hd2 K fK hK => ?_) (fun hw hd2 K fK hK => ?_) (fun hw hd2 K fK hK => ?_) (fun hw hd2 K fK hK => ?_) (fun hw hb K fK hKe hKo => ?_)
  · simp (disch := omega) only [R_X8_test_36, i_c, i_ild, i_ildv, i_lld, i_lldv, i_ald, i_aldv, i_ist, i_lst, i_ast, i_iinc, i_iincv, i_iadd, i_isub, i_imul, i_iand, i_ior, i_ixor, i_ishl, i_ishr, i_iushr, i_idiv, i_irem, i_ineg, i_ladd, i_lsub, i_lmul, i_land, i_lor, i_ldiv, i_lrem, i_lcmp, i_i2l, i_l2i, i_i2b, i_i2c, i_dup, i_pop, i_dup2, i_dup_x1, i_ifeq, i_ifne, i_iflt, i_ifge, i_ifgt, i_ifle, i_icmpeq, i_icmpne, i_icmplt, i_icmpge, i_icmpgt, i_icmple, i_ifnn, i_tsw, i_sw, i_iret, i_lret, i_aret, i_vret, i_getI, i_getR, i_putI, i_putZ, i_iald, i_bald, i_zald, i_lald, i_iast, i_bast, i_zast, i_last, i_aldR, i_aldW, i_aldP, i_astP, i_alen, i_copy, i_min, i_max, i_abs, i_sval, i_scod, i_slen, i_sald, i_callI, i_oinit, i_call_0, i_call_1, i_call_2, i_call_3, i_call_4, i_callT_0, i_callT_1, i_callT_2, i_callV_0, i_callV_1, i_callV_2, i_callV_3, i_callV_4, i_callV_5, lget, lput, lput2, aKill, aU, List.length_cons, List.length_nil, Nat.reduceAdd, Nat.reduceLT, Nat.reduceEqDiff, reduceIte, if_true, if_false, List.map_cons, List.map_nil, List.sum_cons, List.sum_nil, cat_int, cat_long, cat_ref, cat_null, cat_ra, Nat.reduceLeDiff, true_and, and_true, aPush_none, aPush_some, nrw_int, nrw_b0, nrw_b1, Nat.lt_irrefl, Nat.zero_lt_succ, le_nI, nI_lt', in_nI, cl_nI, eq_nI, le_nII, lt_nII, nI_1, true_imp_iff, false_imp_iff, not_true_eq_false, not_false_eq_true, and_self, forall_const, implies_true, Nat.le_refl, ne_eq, i10, tn_m1, not_true_eq_false, tn_0, tn_1, tn_2, tn_3, tn_4, tn_5, tn_6, tn_7, tn_8, tn_9, tn_10, tn_11, tn_12, tn_13, tn_14, tn_15, tn_19, tn_20, tn_24, tn_25, tn_29, tn_30, tn_32, tn_33, tn_40, tn_59, tn_60, tn_61, tn_64, tn_65, tn_72, tn_99, tn_100, tn_300, tn_400, tn_600, tn_999, tn_1800, tn_800, in_0, in_1, in_2, in_3, in_4, in_5, in_6, in_7, in_8, in_9, in_10, in_11, in_19, oi_0, oi_1, oi_2, oi_3, oi_4, oi_5, oi_6, oi_7, oi_8, oi_9, oi_10, oi_11, oi_12, oi_13, oi_14, oi_15, oi_16, oi_17, oi_18, oi_19, oi_20, oi_21, oi_22, oi_23, oi_24, oi_25, oi_26, oi_27, oi_28, oi_29, oi_30, oi_31, oi_200000, oi_200001, oi_200002, oi_200003, oi_200004, oi_200005, oi_200006, oi_200007, oi_200008, oi_200009, oi_200010, oi_200011, oi_200012, oi_200013, oi_200014, Int.reduceAdd, i_sw, lg_cmp_ge, lg_cmp_le, lg_cmp_gt, lg_cmp_lt, lg_cmp_eq, nI_pred, nI_m1, nI_p2, nI_m2, nI_le0, nI_lt0, nI_ge0, nI_gt0, nI_eq0, nI_2le, nI_sub, List.length_cons, List.length_nil, Nat.not_lt_zero, shM]
    obtain ⟨r', rfl⟩ : ∃ r', r = r' + 1 := ⟨r - 1, by omega⟩
    rw [if_neg (nb hw), if_pos hw] at hx
    dsimp only at hx
    refine (h r' rfl).2 _ cs k (z + 1) (9 :: σ) K hK hc (by show dpt σ + 1 + r' = 10; omega) (fun M e fM hv hM => ?_) (fun M j c' p' k' fM hv hM => ?_) _ _
    · rw [hv] at hx
      exact hE M e (fK.trans fM) hx hM
    · rw [hv] at hx
      change facF n t (r' + 1) p cs k = .ok (p', (c' ++ List.replicate j 200012) ++ [200012], k') at hx
      rw [List.append_assoc, ← List.replicate_succ'] at hx
      refine hO M (j + 1) c' p' k' (fK.trans fM) hx ?_
      rw [List.replicate_succ', List.append_assoc]
      rw [show z + 1 + (j + 1) = z + 1 + 1 + j by omega]
      exact hM
  · simp (disch := omega) only [R_X8_test_36, i_c, i_ild, i_ildv, i_lld, i_lldv, i_ald, i_aldv, i_ist, i_lst, i_ast, i_iinc, i_iincv, i_iadd, i_isub, i_imul, i_iand, i_ior, i_ixor, i_ishl, i_ishr, i_iushr, i_idiv, i_irem, i_ineg, i_ladd, i_lsub, i_lmul, i_land, i_lor, i_ldiv, i_lrem, i_lcmp, i_i2l, i_l2i, i_i2b, i_i2c, i_dup, i_pop, i_dup2, i_dup_x1, i_ifeq, i_ifne, i_iflt, i_ifge, i_ifgt, i_ifle, i_icmpeq, i_icmpne, i_icmplt, i_icmpge, i_icmpgt, i_icmple, i_ifnn, i_tsw, i_sw, i_iret, i_lret, i_aret, i_vret, i_getI, i_getR, i_putI, i_putZ, i_iald, i_bald, i_zald, i_lald, i_iast, i_bast, i_zast, i_last, i_aldR, i_aldW, i_aldP, i_astP, i_alen, i_copy, i_min, i_max, i_abs, i_sval, i_scod, i_slen, i_sald, i_callI, i_oinit, i_call_0, i_call_1, i_call_2, i_call_3, i_call_4, i_callT_0, i_callT_1, i_callT_2, i_callV_0, i_callV_1, i_callV_2, i_callV_3, i_callV_4, i_callV_5, lget, lput, lput2, aKill, aU, List.length_cons, List.length_nil, Nat.reduceAdd, Nat.reduceLT, Nat.reduceEqDiff, reduceIte, if_true, if_false, List.map_cons, List.map_nil, List.sum_cons, List.sum_nil, cat_int, cat_long, cat_ref, cat_null, cat_ra, Nat.reduceLeDiff, true_and, and_true, aPush_none, aPush_some, nrw_int, nrw_b0, nrw_b1, Nat.lt_irrefl, Nat.zero_lt_succ, le_nI, nI_lt', in_nI, cl_nI, eq_nI, le_nII, lt_nII, nI_1, true_imp_iff, false_imp_iff, not_true_eq_false, not_false_eq_true, and_self, forall_const, implies_true, Nat.le_refl, ne_eq, i10, tn_m1, not_true_eq_false, tn_0, tn_1, tn_2, tn_3, tn_4, tn_5, tn_6, tn_7, tn_8, tn_9, tn_10, tn_11, tn_12, tn_13, tn_14, tn_15, tn_19, tn_20, tn_24, tn_25, tn_29, tn_30, tn_32, tn_33, tn_40, tn_59, tn_60, tn_61, tn_64, tn_65, tn_72, tn_99, tn_100, tn_300, tn_400, tn_600, tn_999, tn_1800, tn_800, in_0, in_1, in_2, in_3, in_4, in_5, in_6, in_7, in_8, in_9, in_10, in_11, in_19, oi_0, oi_1, oi_2, oi_3, oi_4, oi_5, oi_6, oi_7, oi_8, oi_9, oi_10, oi_11, oi_12, oi_13, oi_14, oi_15, oi_16, oi_17, oi_18, oi_19, oi_20, oi_21, oi_22, oi_23, oi_24, oi_25, oi_26, oi_27, oi_28, oi_29, oi_30, oi_31, oi_200000, oi_200001, oi_200002, oi_200003, oi_200004, oi_200005, oi_200006, oi_200007, oi_200008, oi_200009, oi_200010, oi_200011, oi_200012, oi_200013, oi_200014, Int.reduceAdd, i_sw, lg_cmp_ge, lg_cmp_le, lg_cmp_gt, lg_cmp_lt, lg_cmp_eq, nI_pred, nI_m1, nI_p2, nI_m2, nI_le0, nI_lt0, nI_ge0, nI_gt0, nI_eq0, nI_2le, nI_sub, List.length_cons, List.length_nil, Nat.not_lt_zero, shM]
    obtain rfl : r = 0 := by omega
    rw [if_neg (nb hw), if_pos hw] at hx
    exact tT_err hK (hE K _ fK hx hK) _ _
  · simp (disch := omega) only [R_X8_test_36, i_c, i_ild, i_ildv, i_lld, i_lldv, i_ald, i_aldv, i_ist, i_lst, i_ast, i_iinc, i_iincv, i_iadd, i_isub, i_imul, i_iand, i_ior, i_ixor, i_ishl, i_ishr, i_iushr, i_idiv, i_irem, i_ineg, i_ladd, i_lsub, i_lmul, i_land, i_lor, i_ldiv, i_lrem, i_lcmp, i_i2l, i_l2i, i_i2b, i_i2c, i_dup, i_pop, i_dup2, i_dup_x1, i_ifeq, i_ifne, i_iflt, i_ifge, i_ifgt, i_ifle, i_icmpeq, i_icmpne, i_icmplt, i_icmpge, i_icmpgt, i_icmple, i_ifnn, i_tsw, i_sw, i_iret, i_lret, i_aret, i_vret, i_getI, i_getR, i_putI, i_putZ, i_iald, i_bald, i_zald, i_lald, i_iast, i_bast, i_zast, i_last, i_aldR, i_aldW, i_aldP, i_astP, i_alen, i_copy, i_min, i_max, i_abs, i_sval, i_scod, i_slen, i_sald, i_callI, i_oinit, i_call_0, i_call_1, i_call_2, i_call_3, i_call_4, i_callT_0, i_callT_1, i_callT_2, i_callV_0, i_callV_1, i_callV_2, i_callV_3, i_callV_4, i_callV_5, lget, lput, lput2, aKill, aU, List.length_cons, List.length_nil, Nat.reduceAdd, Nat.reduceLT, Nat.reduceEqDiff, reduceIte, if_true, if_false, List.map_cons, List.map_nil, List.sum_cons, List.sum_nil, cat_int, cat_long, cat_ref, cat_null, cat_ra, Nat.reduceLeDiff, true_and, and_true, aPush_none, aPush_some, nrw_int, nrw_b0, nrw_b1, Nat.lt_irrefl, Nat.zero_lt_succ, le_nI, nI_lt', in_nI, cl_nI, eq_nI, le_nII, lt_nII, nI_1, true_imp_iff, false_imp_iff, not_true_eq_false, not_false_eq_true, and_self, forall_const, implies_true, Nat.le_refl, ne_eq, i10, tn_m1, not_true_eq_false, tn_0, tn_1, tn_2, tn_3, tn_4, tn_5, tn_6, tn_7, tn_8, tn_9, tn_10, tn_11, tn_12, tn_13, tn_14, tn_15, tn_19, tn_20, tn_24, tn_25, tn_29, tn_30, tn_32, tn_33, tn_40, tn_59, tn_60, tn_61, tn_64, tn_65, tn_72, tn_99, tn_100, tn_300, tn_400, tn_600, tn_999, tn_1800, tn_800, in_0, in_1, in_2, in_3, in_4, in_5, in_6, in_7, in_8, in_9, in_10, in_11, in_19, oi_0, oi_1, oi_2, oi_3, oi_4, oi_5, oi_6, oi_7, oi_8, oi_9, oi_10, oi_11, oi_12, oi_13, oi_14, oi_15, oi_16, oi_17, oi_18, oi_19, oi_20, oi_21, oi_22, oi_23, oi_24, oi_25, oi_26, oi_27, oi_28, oi_29, oi_30, oi_31, oi_200000, oi_200001, oi_200002, oi_200003, oi_200004, oi_200005, oi_200006, oi_200007, oi_200008, oi_200009, oi_200010, oi_200011, oi_200012, oi_200013, oi_200014, Int.reduceAdd, i_sw, lg_cmp_ge, lg_cmp_le, lg_cmp_gt, lg_cmp_lt, lg_cmp_eq, nI_pred, nI_m1, nI_p2, nI_m2, nI_le0, nI_lt0, nI_ge0, nI_gt0, nI_eq0, nI_2le, nI_sub, List.length_cons, List.length_nil, Nat.not_lt_zero, shM]
    obtain ⟨r', rfl⟩ : ∃ r', r = r' + 1 := ⟨r - 1, by omega⟩
    rw [if_pos hw] at hx
    dsimp only at hx
    have hx2 : facF n t (r' + 1) p cs k = bkt n t (12 :: σ) (tesP n t (facF n t r') (skp n t p + 1) cs k) := hx
    refine (h r' rfl).1 _ cs k z (12 :: σ) K hK hc (by show dpt σ + 1 + r' = 10; omega) (Or.inr ⟨σ, rfl⟩) ⟨fun M e fM hv hM => ?_, fun M p' c' k' e => by simp at e, fun σ0 M p' c' k' e fM hv hM => ?_⟩ _ _
    · exact hE M e (fK.trans fM) (hx2.trans hv) hM
    · have e2 : σ = σ0 := by simpa using e
      subst e2
      refine hO M 0 c' p' k' (fK.trans fM) ?_ hM
      rw [hx2, hv]
      show _ = Except.ok (p', c' ++ [], k')
      rw [List.append_nil]
  · simp (disch := omega) only [R_X8_test_36, i_c, i_ild, i_ildv, i_lld, i_lldv, i_ald, i_aldv, i_ist, i_lst, i_ast, i_iinc, i_iincv, i_iadd, i_isub, i_imul, i_iand, i_ior, i_ixor, i_ishl, i_ishr, i_iushr, i_idiv, i_irem, i_ineg, i_ladd, i_lsub, i_lmul, i_land, i_lor, i_ldiv, i_lrem, i_lcmp, i_i2l, i_l2i, i_i2b, i_i2c, i_dup, i_pop, i_dup2, i_dup_x1, i_ifeq, i_ifne, i_iflt, i_ifge, i_ifgt, i_ifle, i_icmpeq, i_icmpne, i_icmplt, i_icmpge, i_icmpgt, i_icmple, i_ifnn, i_tsw, i_sw, i_iret, i_lret, i_aret, i_vret, i_getI, i_getR, i_putI, i_putZ, i_iald, i_bald, i_zald, i_lald, i_iast, i_bast, i_zast, i_last, i_aldR, i_aldW, i_aldP, i_astP, i_alen, i_copy, i_min, i_max, i_abs, i_sval, i_scod, i_slen, i_sald, i_callI, i_oinit, i_call_0, i_call_1, i_call_2, i_call_3, i_call_4, i_callT_0, i_callT_1, i_callT_2, i_callV_0, i_callV_1, i_callV_2, i_callV_3, i_callV_4, i_callV_5, lget, lput, lput2, aKill, aU, List.length_cons, List.length_nil, Nat.reduceAdd, Nat.reduceLT, Nat.reduceEqDiff, reduceIte, if_true, if_false, List.map_cons, List.map_nil, List.sum_cons, List.sum_nil, cat_int, cat_long, cat_ref, cat_null, cat_ra, Nat.reduceLeDiff, true_and, and_true, aPush_none, aPush_some, nrw_int, nrw_b0, nrw_b1, Nat.lt_irrefl, Nat.zero_lt_succ, le_nI, nI_lt', in_nI, cl_nI, eq_nI, le_nII, lt_nII, nI_1, true_imp_iff, false_imp_iff, not_true_eq_false, not_false_eq_true, and_self, forall_const, implies_true, Nat.le_refl, ne_eq, i10, tn_m1, not_true_eq_false, tn_0, tn_1, tn_2, tn_3, tn_4, tn_5, tn_6, tn_7, tn_8, tn_9, tn_10, tn_11, tn_12, tn_13, tn_14, tn_15, tn_19, tn_20, tn_24, tn_25, tn_29, tn_30, tn_32, tn_33, tn_40, tn_59, tn_60, tn_61, tn_64, tn_65, tn_72, tn_99, tn_100, tn_300, tn_400, tn_600, tn_999, tn_1800, tn_800, in_0, in_1, in_2, in_3, in_4, in_5, in_6, in_7, in_8, in_9, in_10, in_11, in_19, oi_0, oi_1, oi_2, oi_3, oi_4, oi_5, oi_6, oi_7, oi_8, oi_9, oi_10, oi_11, oi_12, oi_13, oi_14, oi_15, oi_16, oi_17, oi_18, oi_19, oi_20, oi_21, oi_22, oi_23, oi_24, oi_25, oi_26, oi_27, oi_28, oi_29, oi_30, oi_31, oi_200000, oi_200001, oi_200002, oi_200003, oi_200004, oi_200005, oi_200006, oi_200007, oi_200008, oi_200009, oi_200010, oi_200011, oi_200012, oi_200013, oi_200014, Int.reduceAdd, i_sw, lg_cmp_ge, lg_cmp_le, lg_cmp_gt, lg_cmp_lt, lg_cmp_eq, nI_pred, nI_m1, nI_p2, nI_m2, nI_le0, nI_lt0, nI_ge0, nI_gt0, nI_eq0, nI_2le, nI_sub, List.length_cons, List.length_nil, Nat.not_lt_zero, shM]
    obtain rfl : r = 0 := by omega
    rw [if_pos hw] at hx
    exact tT_err hK (hE K _ fK hx hK) _ _
  · simp (disch := omega) only [R_X8_test_35, R_X8_test_36, i_c, i_ild, i_ildv, i_lld, i_lldv, i_ald, i_aldv, i_ist, i_lst, i_ast, i_iinc, i_iincv, i_iadd, i_isub, i_imul, i_iand, i_ior, i_ixor, i_ishl, i_ishr, i_iushr, i_idiv, i_irem, i_ineg, i_ladd, i_lsub, i_lmul, i_land, i_lor, i_ldiv, i_lrem, i_lcmp, i_i2l, i_l2i, i_i2b, i_i2c, i_dup, i_pop, i_dup2, i_dup_x1, i_ifeq, i_ifne, i_iflt, i_ifge, i_ifgt, i_ifle, i_icmpeq, i_icmpne, i_icmplt, i_icmpge, i_icmpgt, i_icmple, i_ifnn, i_tsw, i_sw, i_iret, i_lret, i_aret, i_vret, i_getI, i_getR, i_putI, i_putZ, i_iald, i_bald, i_zald, i_lald, i_iast, i_bast, i_zast, i_last, i_aldR, i_aldW, i_aldP, i_astP, i_alen, i_copy, i_min, i_max, i_abs, i_sval, i_scod, i_slen, i_sald, i_callI, i_oinit, i_call_0, i_call_1, i_call_2, i_call_3, i_call_4, i_callT_0, i_callT_1, i_callT_2, i_callV_0, i_callV_1, i_callV_2, i_callV_3, i_callV_4, i_callV_5, lget, lput, lput2, aKill, aU, List.length_cons, List.length_nil, Nat.reduceAdd, Nat.reduceLT, Nat.reduceEqDiff, reduceIte, if_true, if_false, List.map_cons, List.map_nil, List.sum_cons, List.sum_nil, cat_int, cat_long, cat_ref, cat_null, cat_ra, Nat.reduceLeDiff, true_and, and_true, aPush_none, aPush_some, nrw_int, nrw_b0, nrw_b1, Nat.lt_irrefl, Nat.zero_lt_succ, le_nI, nI_lt', in_nI, cl_nI, eq_nI, le_nII, lt_nII, nI_1, true_imp_iff, false_imp_iff, not_true_eq_false, not_false_eq_true, and_self, forall_const, implies_true, Nat.le_refl, ne_eq, i10, tn_m1, not_true_eq_false, tn_0, tn_1, tn_2, tn_3, tn_4, tn_5, tn_6, tn_7, tn_8, tn_9, tn_10, tn_11, tn_12, tn_13, tn_14, tn_15, tn_19, tn_20, tn_24, tn_25, tn_29, tn_30, tn_32, tn_33, tn_40, tn_59, tn_60, tn_61, tn_64, tn_65, tn_72, tn_99, tn_100, tn_300, tn_400, tn_600, tn_999, tn_1800, tn_800, in_0, in_1, in_2, in_3, in_4, in_5, in_6, in_7, in_8, in_9, in_10, in_11, in_19, oi_0, oi_1, oi_2, oi_3, oi_4, oi_5, oi_6, oi_7, oi_8, oi_9, oi_10, oi_11, oi_12, oi_13, oi_14, oi_15, oi_16, oi_17, oi_18, oi_19, oi_20, oi_21, oi_22, oi_23, oi_24, oi_25, oi_26, oi_27, oi_28, oi_29, oi_30, oi_31, oi_200000, oi_200001, oi_200002, oi_200003, oi_200004, oi_200005, oi_200006, oi_200007, oi_200008, oi_200009, oi_200010, oi_200011, oi_200012, oi_200013, oi_200014, Int.reduceAdd, i_sw, lg_cmp_ge, lg_cmp_le, lg_cmp_gt, lg_cmp_lt, lg_cmp_eq, nI_pred, nI_m1, nI_p2, nI_m2, nI_le0, nI_lt0, nI_ge0, nI_gt0, nI_eq0, nI_2le, nI_sub, List.length_cons, List.length_nil, Nat.not_lt_zero, shM]
    rw [if_neg hb, if_neg hw] at hx
    cases hv : relP n t (skp n t p) cs k with
    | error e =>
      have hz := hKe e hv
      exact tT_err hz (hE K e fK (hx.trans hv) hz) _ _
    | ok r =>
      obtain ⟨p', c', k'⟩ := r
      refine hO K 0 c' p' k' fK ?_ (hKo _ _ _ hv) _ _
      rw [hx, hv]
      show _ = Except.ok (p', c' ++ [], k')
      rw [List.append_nil]
