/-! the reference: a VALUE -/
/-- only what reading changes has changed; rows ahead of b have not -/
def frQ (b : Nat) (I J : aSS) : Prop := (∀ a, a ≠ 848 → a ≠ 877 → a ≠ 878 → J a = I a) ∧ (∀ j, j ≠ 29 → j ≠ 30 → j ≠ 33 → j ≠ 35 → J 848 j = I 848 j) ∧ ∀ q, q < b → J 877 q = I 877 q ∧ J 878 q = I 878 q
theorem frQ.rfl {b : Nat} {I : aSS} : frQ b I I := ⟨fun _ _ _ _ => Eq.refl _, fun _ _ _ _ _ => Eq.refl _, fun _ _ => ⟨Eq.refl _, Eq.refl _⟩⟩
theorem frQ.trans {b : Nat} {I J K : aSS} (h : frQ b I J) (g : frQ b J K) : frQ b I K := ⟨fun a h1 h2 h3 => (g.1 a h1 h2 h3).trans (h.1 a h1 h2 h3), fun j h1 h2 h3 h4 => (g.2.1 j h1 h2 h3 h4).trans (h.2.1 j h1 h2 h3 h4), fun q hq => ⟨((g.2.2 q hq).1).trans (h.2.2 q hq).1, ((g.2.2 q hq).2).trans (h.2.2 q hq).2⟩⟩
theorem frQ.up {b k : Nat} {v : Int32} {I : aSS} (h : k = 29 ∨ k = 30 ∨ k = 33 ∨ k = 35) : frQ b I (up2 I 848 k v) := ⟨fun a h1 _ _ => up2_ne h1, fun j h1 h2 h3 h4 => up2_nk (by omega), fun q _ => ⟨by rw [up2_ne (by omega)], by rw [up2_ne (by omega)]⟩⟩
theorem frQ.row {b r k : Nat} {v : Int32} {I : aSS} (h : r = 877 ∨ r = 878) (hk : b ≤ k) : frQ b I (up2 I r k v) := ⟨fun a h1 h2 h3 => up2_ne (by omega), fun j _ _ _ _ => by rw [up2_ne (by omega)], fun q hq => ⟨by rw [up2_eq, if_neg (by omega)], by rw [up2_eq, if_neg (by omega)]⟩⟩
theorem frQ.le {b c : Nat} {I J : aSS} (h : frQ b I J) (hc : c ≤ b) : frQ c I J := ⟨h.1, h.2.1, fun q hq => h.2.2 q (by omega)⟩
theorem frQ.B {n b : Nat} {t : Nat → Nat} {I J : aSS} (h : frQ b I J) (g : okBy n t I) : okBy n t J := g.fr (h.2.1 28 (by omega) (by omega) (by omega) (by omega)) (h.1 876 (by omega) (by omega) (by omega))
/-- the reading of slot s goes on: at p, codes cs from a on, k counted; z entries can still be without a sign of their own -/
def yS (n : Nat) (t : Nat → Nat) (s a p : Nat) (cs : List Nat) (k z : Nat) (I : aSS) : Prop := (okBy n t I ∧ s < 6 ∧ I 848 31 = nI s ∧ I 848 37 = nI 11) ∧ (I 848 29 = nI p ∧ p ≤ n) ∧ I 848 30 = nI 0 ∧ (I 848 33 = nI (a + cs.length) ∧ enR s a cs I) ∧ (I 848 35 = nI k ∧ k ≤ 60) ∧ 3 * (a + cs.length) + 3 * z ≤ 6 * k + p
/-- a fault e has been found -/
def zS (n : Nat) (t : Nat → Nat) (s e : Nat) (I : aSS) : Prop := (okBy n t I ∧ s < 6 ∧ I 848 31 = nI s ∧ I 848 37 = nI 11) ∧ (∃ p, I 848 29 = nI p ∧ p ≤ n + 1) ∧ I 848 30 = nI e ∧ e ≠ 0 ∧ e < 4000
def yR (n : Nat) (t : Nat → Nat) (s a z : Nat) (x : PR) (I : aSS) : Prop := match x with
  | .error e => zS n t s e I
  | .ok r => yS n t s a r.1 r.2.1 r.2.2 z I
theorem frQ.H {n s b : Nat} {t : Nat → Nat} {I J : aSS} (h : frQ b I J) (g : okBy n t I ∧ s < 6 ∧ I 848 31 = nI s ∧ I 848 37 = nI 11) : okBy n t J ∧ s < 6 ∧ J 848 31 = nI s ∧ J 848 37 = nI 11 :=
  ⟨h.B g.1, g.2.1, (h.2.1 31 (by omega) (by omega) (by omega) (by omega)).trans g.2.2.1, (h.2.1 37 (by omega) (by omega) (by omega) (by omega)).trans g.2.2.2⟩
theorem enR.fr {s a : Nat} {cs : List Nat} {I J : aSS} (h : enR s a cs I) (hf : ∀ q, q < 300 * s + (a + cs.length) → J 877 q = I 877 q ∧ J 878 q = I 878 q) : enR s a cs J := fun i hi => by
  obtain ⟨e1, e2⟩ := hf (300 * s + a + i) (by omega)
  rw [e1, e2]
  exact h i hi
theorem enR.snoc {s a w : Nat} {cs : List Nat} {I : aSS} (h : enR s a cs I) (h1 : I 877 (300 * s + (a + cs.length)) = nI (srt w)) (h2 : I 878 (300 * s + (a + cs.length)) = nI (num w)) : enR s a (cs ++ [w]) I := fun i hi => by
  rcases Nat.lt_or_ge i cs.length with y | y
  · rw [List.getElem_append_left y]
    exact h i y
  · have e : i = cs.length := by
      rw [List.length_append, List.length_singleton] at hi
      omega
    subst e
    rw [List.getElem_append_right (Nat.le_refl _)]
    simp only [Nat.sub_self, List.getElem_cons_zero]
    rw [Nat.add_assoc]
    exact ⟨h1, h2⟩
theorem yS.at {n s a p k z q : Nat} {t : Nat → Nat} {cs : List Nat} {I : aSS} (h : yS n t s a p cs k z I) (hq : p ≤ q) (hqn : q ≤ n) : yS n t s a q cs k z (up2 I 848 29 (nI q)) := by
  obtain ⟨h1, h2, h3, h4, h5, h6⟩ := h
  refine ⟨(frQ.up (b := 0) (by omega)).H h1, ⟨up2_at, hqn⟩, ?_, ⟨?_, ?_⟩, ⟨?_, h5.2⟩, by omega⟩
  · rw [up2_nk (by omega)]; exact h3
  · rw [up2_nk (by omega)]; exact h4.1
  · exact h4.2.fr (fun q _ => ⟨by rw [up2_ne (by omega)], by rw [up2_ne (by omega)]⟩)
  · rw [up2_nk (by omega)]; exact h5.1
theorem zS.at {n s e q : Nat} {t : Nat → Nat} {I : aSS} (h : zS n t s e I) (hqn : q ≤ n + 1) : zS n t s e (up2 I 848 29 (nI q)) :=
  ⟨(frQ.up (b := 0) (by omega)).H h.1, ⟨q, up2_at, hqn⟩, by rw [up2_nk (by omega)]; exact h.2.2.1, h.2.2.2⟩
/-- an entry is made -/
def entM (I : aSS) (s m w : Nat) : aSS := up2 (up2 (up2 I 877 (300 * s + m) (nI (srt w))) 878 (300 * s + m) (nI (num w))) 848 33 (nI (m + 1))
theorem entM.f {I : aSS} {s m w b : Nat} (h : b ≤ 300 * s + m) : frQ b I (entM I s m w) := frQ.trans (frQ.row (by omega) h) (frQ.trans (frQ.row (by omega) h) (frQ.up (by omega)))
theorem yS.ent {n s a p k z w : Nat} {t : Nat → Nat} {cs : List Nat} {I : aSS} (h : yS n t s a p cs k (z + 1) I) : yS n t s a p (cs ++ [w]) k z (entM I s (a + cs.length) w) := by
  obtain ⟨h1, h2, h3, h4, h5, h6⟩ := h
  have hl : (cs ++ [w]).length = cs.length + 1 := by simp
  have hen : enR s a cs (entM I s (a + cs.length) w) := h4.2.fr (fun q hq => (entM.f (Nat.le_refl _)).2.2 q hq)
  refine ⟨(entM.f (b := 0) (Nat.zero_le _)).H h1, ⟨h2.1, h2.2⟩, h3, ⟨?_, ?_⟩, h5, by rw [hl]; omega⟩
  · rw [hl]
    exact up2_at
  · refine hen.snoc ?_ ?_
    · unfold entM
      rw [up2_ne (by omega), up2_ne (by omega), up2_at]
    · unfold entM
      rw [up2_ne (by omega), up2_at]
theorem yS.cap {n s a p k z : Nat} {t : Nat → Nat} {cs : List Nat} {I : aSS} (h : yS n t s a p cs k z I) : a + cs.length < 300 := by
  have h1 := h.1.1.2.1
  have h2 := h.2.1.2
  have h3 := h.2.2.2.2.1.2
  have h4 := h.2.2.2.2.2
  omega
theorem c_entY {G : aG} {l : Launch} {d : Nat} {Q : Option Value → aM → Prop} {I : aSS} {L : Nat → Nat → Int64} {n s a p k z w : Nat} {t : Nat → Nat} {cs : List Nat} {u v : Int32} (h : yS n t s a p cs k z I) (hu : u = nI (srt w)) (hv : v = nI (num w)) (hQ : Q none (entM I s (a + cs.length) w, L)) : aC (aRS G) G l (d + 1) 0 0 mX8_entry [.ref 848, .int u, .int v] (I, L) Q := by
  subst hu hv
  exact c_entry h.2.2.1 h.1.2.2.1 h.1.2.1 h.2.2.2.1.1 h.cap hQ
theorem c_entZ {G : aG} {l : Launch} {d : Nat} {Q : Option Value → aM → Prop} {I : aSS} {L : Nat → Nat → Int64} {n s e : Nat} {t : Nat → Nat} {u v : Int32} (h : zS n t s e I) (hQ : Q none (I, L)) : aC (aRS G) G l (d + 1) 0 0 mX8_entry [.ref 848, .int u, .int v] (I, L) Q :=
  c_entry_no h.2.2.1 h.2.2.2.2 h.2.2.2.1 hQ
def txW (k : Nat) : Nat := [12, 11, 14, 15, 16, 17, 18, 19, 20, 21, 22].getD k 22
theorem tx_w : ∀ k, k < 11 → isTx (txW k) (wsWord.getD k []) := by
  show ∀ k, k < 11 → (txW k < aTxts.length ∧ aTxt (txW k) = (wsWord.getD k []).map nI ∧ ∀ c, c ∈ wsWord.getD k [] → c < 128)
  decide +kernel
theorem c_X8_wordOf {G : aG} {l : Launch} {d : Nat} {Q : Option Value → aM → Prop} {x : aM} {k : Nat} (hk : k < 11) (hq : Q (some (.ref (1000100 + txW k))) x) : aC (aRS G) G l (d + 1) 0 0 mX8_wordOf [.int (nI k)] x Q := by
  refine E_X8_wordOf ?_
  have hk11 : k = 0 ∨ k = 1 ∨ k = 2 ∨ k = 3 ∨ k = 4 ∨ k = 5 ∨ k = 6 ∨ k = 7 ∨ k = 8 ∨ k = 9 ∨ k = 10 := by omega
  rcases hk11 with rfl | rfl | rfl | rfl | rfl | rfl | rfl | rfl | rfl | rfl | rfl
  all_goals (simp (disch := omega) only [R_X8_wordOf_86, R_X8_wordOf_83, R_X8_wordOf_80, R_X8_wordOf_77, R_X8_wordOf_74, R_X8_wordOf_71, R_X8_wordOf_68, R_X8_wordOf_65, R_X8_wordOf_62, R_X8_wordOf_59, R_X8_wordOf_56, R_X8_wordOf_0, i_c, i_ild, i_ildv, i_lld, i_lldv, i_ald, i_aldv, i_ist, i_lst, i_ast, i_iinc, i_iincv, i_iadd, i_isub, i_imul, i_iand, i_ior, i_ixor, i_ishl, i_ishr, i_iushr, i_idiv, i_irem, i_ineg, i_ladd, i_lsub, i_lmul, i_land, i_lor, i_ldiv, i_lrem, i_lcmp, i_i2l, i_l2i, i_i2b, i_i2c, i_dup, i_pop, i_dup2, i_dup_x1, i_ifeq, i_ifne, i_iflt, i_ifge, i_ifgt, i_ifle, i_icmpeq, i_icmpne, i_icmplt, i_icmpge, i_icmpgt, i_icmple, i_ifnn, i_tsw, i_sw, i_iret, i_lret, i_aret, i_vret, i_getI, i_getR, i_putI, i_putZ, i_iald, i_bald, i_zald, i_lald, i_iast, i_bast, i_zast, i_last, i_aldR, i_aldW, i_aldP, i_astP, i_alen, i_copy, i_min, i_max, i_abs, i_sval, i_scod, i_slen, i_sald, i_callI, i_oinit, i_call_0, i_call_1, i_call_2, i_call_3, i_call_4, i_callT_0, i_callT_1, i_callT_2, i_callV_0, i_callV_1, i_callV_2, i_callV_3, i_callV_4, i_callV_5, lget, lput, lput2, aKill, aU, List.length_cons, List.length_nil, Nat.reduceAdd, Nat.reduceLT, Nat.reduceEqDiff, reduceIte, if_true, if_false, List.map_cons, List.map_nil, List.sum_cons, List.sum_nil, cat_int, cat_long, cat_ref, cat_null, cat_ra, Nat.reduceLeDiff, true_and, and_true, aPush_none, aPush_some, nrw_int, nrw_b0, nrw_b1, Nat.lt_irrefl, Nat.zero_lt_succ, le_nI, nI_lt', in_nI, cl_nI, eq_nI, le_nII, lt_nII, nI_1, true_imp_iff, false_imp_iff, not_true_eq_false, not_false_eq_true, and_self, forall_const, implies_true, Nat.le_refl, ne_eq, i10, tn_m1, not_true_eq_false, tn_0, tn_1, tn_2, tn_3, tn_4, tn_5, tn_6, tn_7, tn_8, tn_9, tn_10, tn_11, tn_12, tn_13, tn_14, tn_15, tn_19, tn_20, tn_24, tn_25, tn_29, tn_30, tn_32, tn_33, tn_40, tn_59, tn_60, tn_61, tn_64, tn_65, tn_72, tn_99, tn_100, tn_300, tn_400, tn_600, tn_999, tn_1800, tn_800, in_0, in_1, in_2, in_3, in_4, in_5, in_6, in_7, in_8, in_9, in_10, in_11, in_19, oi_0, oi_1, oi_2, oi_3, oi_4, oi_5, oi_6, oi_7, oi_8, oi_9, oi_10, oi_11, oi_12, oi_13, oi_14, oi_15, oi_16, oi_17, oi_18, oi_19, oi_20, oi_21, oi_22, oi_23, oi_24, oi_25, oi_26, oi_27, oi_28, oi_29, oi_30, oi_31, oi_200000, oi_200001, oi_200002, oi_200003, oi_200004, oi_200005, oi_200006, oi_200007, oi_200008, oi_200009, oi_200010, oi_200011, oi_200012, oi_200013, oi_200014, Int.reduceAdd, i_sw, lg_cmp_ge, lg_cmp_le, lg_cmp_gt, lg_cmp_lt, lg_cmp_eq, nI_pred, nI_m1, nI_p2, nI_m2, nI_le0, nI_lt0, nI_ge0, nI_gt0, nI_eq0, nI_2le, nI_sub, List.length_cons, List.length_nil, Nat.not_lt_zero]; exact hq)
theorem fnd_at {w : List Nat} : ∀ (ws : List (List Nat)) (m i : Nat), i < ws.length → w = ws.getD i [] → (∀ j, j < i → w ≠ ws.getD j []) → fndW w ws m = some (m + i)
  | [], _, _, h, _, _ => by simp at h
  | u :: r, m, 0, _, h, _ => by
    unfold fndW
    exact if_pos h
  | u :: r, m, i + 1, h, h2, h3 => by
    unfold fndW
    rw [if_neg (show ¬ w = u from h3 0 (by omega)), fnd_at r (m + 1) i (by simp at h; omega) h2 (fun j hj => h3 (j + 1) (by omega))]
    congr 1
    omega
theorem fnd_no {w : List Nat} : ∀ (ws : List (List Nat)) (m : Nat), (∀ j, j < ws.length → w ≠ ws.getD j []) → fndW w ws m = none
  | [], _, _ => rfl
  | u :: r, m, h => by
    unfold fndW
    rw [if_neg (show ¬ w = u from h 0 (by simp)), fnd_no r (m + 1) (fun j hj => h (j + 1) (by simp; omega))]
