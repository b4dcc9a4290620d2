/-! constructors of what holds arrays alone -/
theorem pI_ok : ∀ (G : aG) (v : Value), pI v → narrow .int (aV G v) = aV G v ∧ fits .int (aV G v) = true := by
  rintro G v ⟨z, rfl⟩
  exact ⟨rfl, rfl⟩
theorem pR_arr (t : FieldType) : ∀ (G : aG) (v : Value), pR v → narrow (.array t) (aV G v) = aV G v ∧ fits (.array t) (aV G v) = true := by
  rintro G v ⟨z, rfl⟩
  exact ⟨rfl, rfl⟩
theorem pR_obj (C : String) : ∀ (G : aG) (v : Value), pR v → narrow (.object C) (aV G v) = aV G v ∧ fits (.object C) (aV G v) = true := by
  rintro G v ⟨z, rfl⟩
  exact ⟨rfl, rfl⟩
/-- the same cell, as far as it goes -/
def eqE (e e' : va_E) : Prop := e = e' ∨ ∃ t n f f', e = .inl (t, n, aRefs f) ∧ e' = .inl (t, n, aRefs f') ∧ ∀ k, k < n → f k = f' k
/-- a's constructor is under way: its fields are fs, n cells stand, those behind a (but q) as they must -/
def bJ (EX : Nat → va_E) (a ci : Nat) (q : Nat → Prop) (x0 : aMD) (fs : List Value) (n : Nat) (x : aMD) : Prop := x.2 = n ∧ x.1 a = .inr (ci, fs) ∧ (a < n ∧ n ≤ 2000) ∧ (∀ k, k < a → x.1 k = x0.1 k) ∧ ∀ k, a < k → k < n → ¬ q k → eqE (x.1 k) (EX k)
def cEnd (EX : Nat → va_E) (a len : Nat) (x x' : aMD) : Prop := x'.2 = a + len ∧ (∀ k, k < a → x'.1 k = x.1 k) ∧ ∀ k, a ≤ k → k < a + len → eqE (x'.1 k) (EX k)
theorem vu_at {f : Nat → va_E} {k : Nat} {e : va_E} : va_up f k e k = e := if_pos rfl
theorem vu_ne {f : Nat → va_E} {k j : Nat} {e : va_E} (h : j ≠ k) : va_up f k e j = f j := if_neg h
theorem bJ.start {EX : Nat → va_E} {a ci : Nat} {q : Nat → Prop} {x : aMD} {fs : List Value} (hx : x.2 = a + 1) (ha : a < 1000) (h : x.1 a = .inr (ci, fs)) : bJ EX a ci q x fs (a + 1) x := ⟨hx, h, ⟨by omega, by omega⟩, fun _ _ => rfl, fun k h1 h2 => by omega⟩
theorem bJ.fin {EX : Nat → va_E} {a ci n : Nat} {x0 x : aMD} {fs : List Value} (h : bJ EX a ci (fun _ => False) x0 fs (a + n) x) (he : EX a = .inr (ci, fs)) : cEnd EX a n x0 x := ⟨h.1, h.2.2.2.1, fun k h1 h2 => by
  by_cases e : k = a
  · rw [e, he]
    exact Or.inl h.2.1
  · exact h.2.2.2.2 k (by omega) h2 id⟩
theorem k_oi {ls : List Value} {a : Nat} {x : aMD} {K : aP aMD} (hls : lget ls 0 = .ref a) (kk : K ls [] x) : (i_ald 0 <| i_oinit K) ls [] x := by
  show i_aldv (lget ls 0) _ ls [] x
  rw [hls]
  exact ⟨by decide, kk⟩
theorem bJ.set {EX : Nat → va_E} {a ci n k : Nat} {q : Nat → Prop} {x0 x : aMD} {fs : List Value} {v : Value} (h : bJ EX a ci q x0 fs n x) : bJ EX a ci q x0 (fs.set k v) n (va_up x.1 a (.inr (ci, fs.set k v)), x.2) := ⟨h.1, vu_at, h.2.2.1, fun j hj => (vu_ne (by omega)).trans (h.2.2.2.1 j hj), fun j h1 h2 h3 => by
  show eqE (va_up x.1 a _ j) _
  rw [vu_ne (by omega)]
  exact h.2.2.2.2 j h1 h2 h3⟩
theorem k_int {EX : Nat → va_E} {ls : List Value} {a ci n k : Nat} {q : Nat → Prop} {x0 x : aMD} {fs : List Value} {v : Int32} {K : aP aMD} (h : bJ EX a ci q x0 fs n x) (hls : lget ls 0 = .ref a) (hk : k < fs.length) (kk : ∀ x', bJ EX a ci q x0 (fs.set k (.int v)) n x' → (∀ j, j ≠ a → x'.1 j = x.1 j) → K ls [] x') : (i_ald 0 <| i_c (.int v) <| j_put pI ci k K) ls [] x := by
  show i_aldv (lget ls 0) _ ls [] x
  rw [hls]
  exact ⟨fs, ⟨⟨v, rfl⟩, by rw [h.1]; exact h.2.2.1.1, h.2.1, hk⟩, kk _ h.set (fun j hj => vu_ne hj)⟩
theorem bJ.push {EX : Nat → va_E} {a ci n : Nat} {q : Nat → Prop} {x0 x : aMD} {fs : List Value} {e : va_E} (h : bJ EX a ci q x0 fs n x) (hn : n < 2000) (he : ¬ q n → EX n = e) : bJ EX a ci q x0 fs (n + 1) (va_up x.1 n e, n + 1) := ⟨rfl, (vu_ne (by have := h.2.2.1; omega)).trans h.2.1, ⟨by have := h.2.2.1; omega, by omega⟩, fun j hj => (vu_ne (by have := h.2.2.1; omega)).trans (h.2.2.2.1 j hj), fun j h1 h2 h3 => by
  show eqE (va_up x.1 n e j) _
  by_cases g : j = n
  · rw [g, vu_at]
    rw [g] at h3
    exact Or.inl (he h3).symm
  · rw [vu_ne g]
    exact h.2.2.2.2 j h1 (by omega) h3⟩
theorem k_arrQ {EX : Nat → va_E} {ls : List Value} {a ci n k t N : Nat} {q : Nat → Prop} {y : (Nat → Int32) ⊕ (Nat → Int64) ⊕ (Nat → UInt32) ⊕ (Nat → UInt64) ⊕ (Nat → Option Nat)} {x0 x : aMD} {fs : List Value} {z : Int32} {K : aP aMD} (h : bJ EX a ci q x0 fs n x) (hls : lget ls 0 = .ref a) (hk : k < fs.length) (hz : z = nI N) (hn : n < 2000) (hE : ¬ q n → EX n = .inl (t, N, y)) (kk : ∀ x', bJ EX a ci q x0 (fs.set k (.ref n)) (n + 1) x' → x'.1 n = .inl (t, N, y) → (∀ j, j ≠ a → j ≠ n → x'.1 j = x.1 j) → K ls [] x') : (i_ald 0 <| i_c (.int z) <| j_newa t N y <| j_put pR ci k K) ls [] x := by
  show i_aldv (lget ls 0) _ ls [] x
  rw [hls]
  have hx := h.1
  have ha := h.2.2.1.1
  refine ⟨⟨hz, by rw [hx]; omega⟩, ?_⟩
  have h1 := h.push (e := .inl (t, N, y)) hn hE
  rw [hx]
  refine ⟨fs, ⟨⟨n, rfl⟩, by show a < n + 1; omega, h1.2.1, hk⟩, ?_⟩
  exact kk _ (h1.set (k := k) (v := .ref n)) ((vu_ne (by omega)).trans vu_at) (fun j h1 h2 => (vu_ne h1).trans (vu_ne h2))
theorem k_arr {EX : Nat → va_E} {ls : List Value} {a ci k t N m : Nat} {q : Nat → Prop} {y : (Nat → Int32) ⊕ (Nat → Int64) ⊕ (Nat → UInt32) ⊕ (Nat → UInt64) ⊕ (Nat → Option Nat)} {x0 x : aMD} {fs : List Value} {z : Int32} {K : aP aMD} (h : bJ EX a ci q x0 fs (a + m) x) (hls : lget ls 0 = .ref a) (hk : k < fs.length ∧ z = nI N ∧ m < 900) (hE : EX (a + m) = .inl (t, N, y)) (ha : a < 1000) (kk : ∀ x', bJ EX a ci q x0 (fs.set k (.ref (a + m))) (a + (m + 1)) x' → (∀ j, j ≠ a → j ≠ a + m → x'.1 j = x.1 j) → K ls [] x') : (i_ald 0 <| i_c (.int z) <| j_newa t N y <| j_put pR ci k K) ls [] x :=
  k_arrQ h hls hk.1 hk.2.1 (by omega) (fun _ => hE) (fun x' h1 _ h2 => kk x' h1 h2)

def df_0 : List Value := [.null, .null, .int 0, .int 0]
theorem df_0_ok : ∀ G : aG, ∀ j, j < 4 → defaultValue (tyX1 j) = vp_V (df_0.map (aV G)) j := by
  intro G
  rw [show df_0.map (aV G) = df_0 from rfl]
  decide +kernel
def df_1 : List Value := [.int 0, .null, .null, .null, .null, .int 0, .null, .null, .int 0, .int 0, .int 0]
theorem df_1_ok : ∀ G : aG, ∀ j, j < 11 → defaultValue (tyX3 j) = vp_V (df_1.map (aV G)) j := by
  intro G
  rw [show df_1.map (aV G) = df_1 from rfl]
  decide +kernel
def df_2 : List Value := [.null, .int 0, .int 0, .int 0]
theorem df_2_ok : ∀ G : aG, ∀ j, j < 4 → defaultValue (tyX4 j) = vp_V (df_2.map (aV G)) j := by
  intro G
  rw [show df_2.map (aV G) = df_2 from rfl]
  decide +kernel
def df_3 : List Value := [.int 0, .int 0, .int 0, .int 0, .null, .null, .null, .null, .null, .null, .null, .null]
theorem df_3_ok : ∀ G : aG, ∀ j, j < 12 → defaultValue (tyX5 j) = vp_V (df_3.map (aV G)) j := by
  intro G
  rw [show df_3.map (aV G) = df_3 from rfl]
  decide +kernel
def df_4 : List Value := [.null, .null, .null, .int 0, .null, .null, .null, .int 0, .int 0, .int 0]
theorem df_4_ok : ∀ G : aG, ∀ j, j < 10 → defaultValue (tyX6 j) = vp_V (df_4.map (aV G)) j := by
  intro G
  rw [show df_4.map (aV G) = df_4 from rfl]
  decide +kernel
def df_5 : List Value := [.null, .null, .int 0, .null, .null, .null, .int 0, .null, .null, .null, .null, .null]
theorem df_5_ok : ∀ G : aG, ∀ j, j < 12 → defaultValue (tyX7 j) = vp_V (df_5.map (aV G)) j := by
  intro G
  rw [show df_5.map (aV G) = df_5 from rfl]
  decide +kernel
def df_6 : List Value := [.int 0, .null, .null, .null, .null, .null, .null, .null, .null, .null, .null, .null, .null, .null, .null, .null, .null, .null, .null, .null, .null, .null, .null, .null, .null, .null, .null, .null, .int 0, .int 0, .int 0, .int 0, .int 0, .int 0, .int 0, .int 0, .int 0, .int 0, .null, .null, .null, .null, .null, .null, .null, .null, .null, .null, .int 0, .int 0, .int 0, .int 0, .int 0, .null, .null, .int 0, .int 0, .int 0, .null, .null, .null, .null, .null, .null, .int 0, .int 0]
theorem df_6_ok : ∀ G : aG, ∀ j, j < 66 → defaultValue (tyX8 j) = vp_V (df_6.map (aV G)) j := by
  intro G
  rw [show df_6.map (aV G) = df_6 from rfl]
  decide +kernel
def RD_X4 (Q : Option Value → aMD → Prop) : aP aMD :=
  i_ald 0 <| i_oinit <| i_ald 0 <| i_c (.int 400) <| j_newa 1 400 (.inl (fun _ => 0)) <| j_put pR 2 0 <| i_ald 0 <| i_c (.int 0) <| j_put pI 2 1 <| i_ald 0 <| i_c (.int 0) <| j_put pI 2 2 <| i_ald 0 <| i_c (.int 0) <| j_put pI 2 3 <| i_vret Q
theorem SD_X4 {G : aG} {l : Launch} {d : Nat} {Q : Option Value → aMD → Prop} : aS (aR0 G) G l (d + 1) mX4_init 1 400 Q 0 (RD_X4 Q) :=
  s_aload_n dX4_init_0 rfl <| s_oinit bw118 bw111 bw112 dX4_init_1 <| s_aload_n dX4_init_4 rfl <| s_sipush dX4_init_5 (by decide) <| s_newaD (at2 := .int) (ty := .int) (t := 0) (N := 400) (y := .inl (fun _ => 0)) bw138 rfl (fun _ => rfl) (fun _ => by first | rfl | exact vp_cell_i _ _ _ | exact vp_cell_l _ _ _) (fun _ => rfl) (by decide) (by decide) dX4_init_8 <| s_putD (A := pR) (ty := (.array .int)) cl_2 fd_RX4_9 tyX4_ok nmX4 (Or.inr ⟨rfl, rfl, rfl⟩) rfl (pR_arr .int) dX4_init_10 <| s_aload_n dX4_init_13 rfl <| s_iconst dX4_init_14 (by decide) <| s_putD (A := pI) (ty := .int) cl_2 fd_RX4_15 tyX4_ok nmX4 (Or.inl rfl) rfl pI_ok dX4_init_15 <| s_aload_n dX4_init_18 rfl <| s_iconst dX4_init_19 (by decide) <| s_putD (A := pI) (ty := .int) cl_2 fd_RX4_19 tyX4_ok nmX4 (Or.inl rfl) rfl pI_ok dX4_init_20 <| s_aload_n dX4_init_23 rfl <| s_iconst dX4_init_24 (by decide) <| s_putD (A := pI) (ty := .int) cl_2 fd_RX4_22 tyX4_ok nmX4 (Or.inl rfl) rfl pI_ok dX4_init_25 <| s_vret dX4_init_28 rfl
theorem n_X4 {G : aG} {l : Launch} {d a : Nat} {EX : Nat → va_E} {x : aMD} {Q : Option Value → aMD → Prop} (hE0 : EX a = .inr (2, [.ref (a + 1), .int 0, .int 0, .int 0])) (hE1 : EX (a + 1) = .inl (1, 400, .inl (fun _ => 0))) (hx : x.2 = a + 1) (ha : a < 1000) (hxa : x.1 a = .inr (2, df_2)) (hq : ∀ x', cEnd EX a 2 x x' → Q none x') : aC (aR0 G) G l (d + 1) 1 400 mX4_init [.ref a] x Q := by
  refine aC.intro (by decide) (Nat.le_of_ble_eq_true rfl) rfl (SD_X4 _ _ _ ?_)
  have h0 : bJ EX a 2 (fun _ => False) x df_2 (a + 1) x := bJ.start hx ha hxa
  refine k_oi rfl ?_
  refine k_arr h0 rfl ⟨Nat.le_of_ble_eq_true rfl, rfl, by omega⟩ hE1 ha (fun x1 h1 _ => ?_)
  refine k_int h1 rfl (Nat.le_of_ble_eq_true rfl) (fun x2 h2 _ => ?_)
  refine k_int h2 rfl (Nat.le_of_ble_eq_true rfl) (fun x3 h3 _ => ?_)
  refine k_int h3 rfl (Nat.le_of_ble_eq_true rfl) (fun x4 h4 _ => ?_)
  exact hq _ (h4.fin (by rw [hE0]; rfl))
def RD_X1 (Q : Option Value → aMD → Prop) : aP aMD :=
  i_ald 0 <| i_oinit <| i_ald 0 <| i_c (.int 400) <| j_newa 1 400 (.inl (fun _ => 0)) <| j_put pR 0 0 <| i_ald 0 <| i_c (.int 64) <| j_newa 3 64 (.inr (.inl (fun _ => 0))) <| j_put pR 0 1 <| i_ald 0 <| i_c (.int 0) <| j_put pI 0 2 <| i_ald 0 <| i_c (.int 0) <| j_put pI 0 3 <| i_vret Q
theorem SD_X1 {G : aG} {l : Launch} {d : Nat} {Q : Option Value → aMD → Prop} : aS (aR0 G) G l (d + 1) mX1_init 2 464 Q 0 (RD_X1 Q) :=
  s_aload_n dX1_init_0 rfl <| s_oinit bw312 bw111 bw112 dX1_init_1 <| s_aload_n dX1_init_4 rfl <| s_sipush dX1_init_5 (by decide) <| s_newaD (at2 := .int) (ty := .int) (t := 0) (N := 400) (y := .inl (fun _ => 0)) bw138 rfl (fun _ => rfl) (fun _ => by first | rfl | exact vp_cell_i _ _ _ | exact vp_cell_l _ _ _) (fun _ => rfl) (by decide) (by decide) dX1_init_8 <| s_putD (A := pR) (ty := (.array .int)) cl_0 fd_RX1_11 tyX1_ok nmX1 (Or.inr ⟨rfl, rfl, rfl⟩) rfl (pR_arr .int) dX1_init_10 <| s_aload_n dX1_init_13 rfl <| s_bipush dX1_init_14 (by decide) <| s_newaD (at2 := .long) (ty := .long) (t := 2) (N := 64) (y := .inr (.inl (fun _ => 0))) bw327 rfl (fun _ => rfl) (fun _ => by first | rfl | exact vp_cell_i _ _ _ | exact vp_cell_l _ _ _) (fun _ => rfl) (by decide) (by decide) dX1_init_16 <| s_putD (A := pR) (ty := (.array .long)) cl_0 fd_RX1_15 tyX1_ok nmX1 (Or.inr ⟨rfl, rfl, rfl⟩) rfl (pR_arr .long) dX1_init_18 <| s_aload_n dX1_init_21 rfl <| s_iconst dX1_init_22 (by decide) <| s_putD (A := pI) (ty := .int) cl_0 fd_RX1_19 tyX1_ok nmX1 (Or.inl rfl) rfl pI_ok dX1_init_23 <| s_aload_n dX1_init_26 rfl <| s_iconst dX1_init_27 (by decide) <| s_putD (A := pI) (ty := .int) cl_0 fd_RX1_23 tyX1_ok nmX1 (Or.inl rfl) rfl pI_ok dX1_init_28 <| s_vret dX1_init_31 rfl
theorem n_X1 {G : aG} {l : Launch} {d a : Nat} {EX : Nat → va_E} {x : aMD} {Q : Option Value → aMD → Prop} (hE0 : EX a = .inr (0, [.ref (a + 1), .ref (a + 2), .int 0, .int 0])) (hE1 : EX (a + 1) = .inl (1, 400, .inl (fun _ => 0))) (hE2 : EX (a + 2) = .inl (3, 64, .inr (.inl (fun _ => 0)))) (hx : x.2 = a + 1) (ha : a < 1000) (hxa : x.1 a = .inr (0, df_0)) (hq : ∀ x', cEnd EX a 3 x x' → Q none x') : aC (aR0 G) G l (d + 1) 2 464 mX1_init [.ref a] x Q := by
  refine aC.intro (by decide) (Nat.le_of_ble_eq_true rfl) rfl (SD_X1 _ _ _ ?_)
  have h0 : bJ EX a 0 (fun _ => False) x df_0 (a + 1) x := bJ.start hx ha hxa
  refine k_oi rfl ?_
  refine k_arr h0 rfl ⟨Nat.le_of_ble_eq_true rfl, rfl, by omega⟩ hE1 ha (fun x1 h1 _ => ?_)
  refine k_arr h1 rfl ⟨Nat.le_of_ble_eq_true rfl, rfl, by omega⟩ hE2 ha (fun x2 h2 _ => ?_)
  refine k_int h2 rfl (Nat.le_of_ble_eq_true rfl) (fun x3 h3 _ => ?_)
  refine k_int h3 rfl (Nat.le_of_ble_eq_true rfl) (fun x4 h4 _ => ?_)
  exact hq _ (h4.fin (by rw [hE0]; rfl))
def RD_X3 (Q : Option Value → aMD → Prop) : aP aMD :=
  i_ald 0 <| i_oinit <| i_ald 0 <| i_c (.int 0) <| j_put pI 1 0 <| i_ald 0 <| i_c (.int 6) <| j_newa 1 6 (.inl (fun _ => 0)) <| j_put pR 1 1 <| i_ald 0 <| i_c (.int 3) <| j_newa 1 3 (.inl (fun _ => 0)) <| j_put pR 1 2 <| i_ald 0 <| i_c (.int 3) <| j_newa 1 3 (.inl (fun _ => 0)) <| j_put pR 1 3 <| i_ald 0 <| i_c (.int 3) <| j_newa 1 3 (.inl (fun _ => 0)) <| j_put pR 1 4 <| i_ald 0 <| i_c (.int 0) <| j_put pI 1 5 <| i_ald 0 <| i_c (.int 8) <| j_newa 1 8 (.inl (fun _ => 0)) <| j_put pR 1 6 <| i_ald 0 <| i_c (.int 8) <| j_newa 1 8 (.inl (fun _ => 0)) <| j_put pR 1 7 <| i_ald 0 <| i_c (.int (-1)) <| j_put pI 1 8 <| i_ald 0 <| i_c (.int 0) <| j_put pI 1 9 <| i_ald 0 <| i_c (.int 0) <| j_put pI 1 10 <| i_vret Q
theorem SD_X3 {G : aG} {l : Launch} {d : Nat} {Q : Option Value → aMD → Prop} : aS (aR0 G) G l (d + 1) mX3_init 6 31 Q 0 (RD_X3 Q) :=
  s_aload_n dX3_init_0 rfl <| s_oinit bw221 bw111 bw112 dX3_init_1 <| s_aload_n dX3_init_4 rfl <| s_iconst dX3_init_5 (by decide) <| s_putD (A := pI) (ty := .int) cl_1 fd_RX3_9 tyX3_ok nmX3 (Or.inl rfl) rfl pI_ok dX3_init_6 <| s_aload_n dX3_init_9 rfl <| s_bipush dX3_init_10 (by decide) <| s_newaD (at2 := .int) (ty := .int) (t := 0) (N := 6) (y := .inl (fun _ => 0)) bw138 rfl (fun _ => rfl) (fun _ => by first | rfl | exact vp_cell_i _ _ _ | exact vp_cell_l _ _ _) (fun _ => rfl) (by decide) (by decide) dX3_init_12 <| s_putD (A := pR) (ty := (.array .int)) cl_1 fd_RX3_15 tyX3_ok nmX3 (Or.inr ⟨rfl, rfl, rfl⟩) rfl (pR_arr .int) dX3_init_14 <| s_aload_n dX3_init_17 rfl <| s_iconst dX3_init_18 (by decide) <| s_newaD (at2 := .int) (ty := .int) (t := 0) (N := 3) (y := .inl (fun _ => 0)) bw138 rfl (fun _ => rfl) (fun _ => by first | rfl | exact vp_cell_i _ _ _ | exact vp_cell_l _ _ _) (fun _ => rfl) (by decide) (by decide) dX3_init_19 <| s_putD (A := pR) (ty := (.array .int)) cl_1 fd_RX3_19 tyX3_ok nmX3 (Or.inr ⟨rfl, rfl, rfl⟩) rfl (pR_arr .int) dX3_init_21 <| s_aload_n dX3_init_24 rfl <| s_iconst dX3_init_25 (by decide) <| s_newaD (at2 := .int) (ty := .int) (t := 0) (N := 3) (y := .inl (fun _ => 0)) bw138 rfl (fun _ => rfl) (fun _ => by first | rfl | exact vp_cell_i _ _ _ | exact vp_cell_l _ _ _) (fun _ => rfl) (by decide) (by decide) dX3_init_26 <| s_putD (A := pR) (ty := (.array .int)) cl_1 fd_RX3_22 tyX3_ok nmX3 (Or.inr ⟨rfl, rfl, rfl⟩) rfl (pR_arr .int) dX3_init_28 <| s_aload_n dX3_init_31 rfl <| s_iconst dX3_init_32 (by decide) <| s_newaD (at2 := .int) (ty := .int) (t := 0) (N := 3) (y := .inl (fun _ => 0)) bw138 rfl (fun _ => rfl) (fun _ => by first | rfl | exact vp_cell_i _ _ _ | exact vp_cell_l _ _ _) (fun _ => rfl) (by decide) (by decide) dX3_init_33 <| s_putD (A := pR) (ty := (.array .int)) cl_1 fd_RX3_25 tyX3_ok nmX3 (Or.inr ⟨rfl, rfl, rfl⟩) rfl (pR_arr .int) dX3_init_35 <| s_aload_n dX3_init_38 rfl <| s_iconst dX3_init_39 (by decide) <| s_putD (A := pI) (ty := .int) cl_1 fd_RX3_28 tyX3_ok nmX3 (Or.inl rfl) rfl pI_ok dX3_init_40 <| s_aload_n dX3_init_43 rfl <| s_bipush dX3_init_44 (by decide) <| s_newaD (at2 := .int) (ty := .int) (t := 0) (N := 8) (y := .inl (fun _ => 0)) bw138 rfl (fun _ => rfl) (fun _ => by first | rfl | exact vp_cell_i _ _ _ | exact vp_cell_l _ _ _) (fun _ => rfl) (by decide) (by decide) dX3_init_46 <| s_putD (A := pR) (ty := (.array .int)) cl_1 fd_RX3_31 tyX3_ok nmX3 (Or.inr ⟨rfl, rfl, rfl⟩) rfl (pR_arr .int) dX3_init_48 <| s_aload_n dX3_init_51 rfl <| s_bipush dX3_init_52 (by decide) <| s_newaD (at2 := .int) (ty := .int) (t := 0) (N := 8) (y := .inl (fun _ => 0)) bw138 rfl (fun _ => rfl) (fun _ => by first | rfl | exact vp_cell_i _ _ _ | exact vp_cell_l _ _ _) (fun _ => rfl) (by decide) (by decide) dX3_init_54 <| s_putD (A := pR) (ty := (.array .int)) cl_1 fd_RX3_34 tyX3_ok nmX3 (Or.inr ⟨rfl, rfl, rfl⟩) rfl (pR_arr .int) dX3_init_56 <| s_aload_n dX3_init_59 rfl <| s_iconst dX3_init_60 (by decide) <| s_putD (A := pI) (ty := .int) cl_1 fd_RX3_37 tyX3_ok nmX3 (Or.inl rfl) rfl pI_ok dX3_init_61 <| s_aload_n dX3_init_64 rfl <| s_iconst dX3_init_65 (by decide) <| s_putD (A := pI) (ty := .int) cl_1 fd_RX3_40 tyX3_ok nmX3 (Or.inl rfl) rfl pI_ok dX3_init_66 <| s_aload_n dX3_init_69 rfl <| s_iconst dX3_init_70 (by decide) <| s_putD (A := pI) (ty := .int) cl_1 fd_RX3_43 tyX3_ok nmX3 (Or.inl rfl) rfl pI_ok dX3_init_71 <| s_vret dX3_init_74 rfl
theorem n_X3 {G : aG} {l : Launch} {d a : Nat} {EX : Nat → va_E} {x : aMD} {Q : Option Value → aMD → Prop} (hE0 : EX a = .inr (1, [.int 0, .ref (a + 1), .ref (a + 2), .ref (a + 3), .ref (a + 4), .int 0, .ref (a + 5), .ref (a + 6), .int (-1), .int 0, .int 0])) (hE1 : EX (a + 1) = .inl (1, 6, .inl (fun _ => 0))) (hE2 : EX (a + 2) = .inl (1, 3, .inl (fun _ => 0))) (hE3 : EX (a + 3) = .inl (1, 3, .inl (fun _ => 0))) (hE4 : EX (a + 4) = .inl (1, 3, .inl (fun _ => 0))) (hE5 : EX (a + 5) = .inl (1, 8, .inl (fun _ => 0))) (hE6 : EX (a + 6) = .inl (1, 8, .inl (fun _ => 0))) (hx : x.2 = a + 1) (ha : a < 1000) (hxa : x.1 a = .inr (1, df_1)) (hq : ∀ x', cEnd EX a 7 x x' → Q none x') : aC (aR0 G) G l (d + 1) 6 31 mX3_init [.ref a] x Q := by
  refine aC.intro (by decide) (Nat.le_of_ble_eq_true rfl) rfl (SD_X3 _ _ _ ?_)
  have h0 : bJ EX a 1 (fun _ => False) x df_1 (a + 1) x := bJ.start hx ha hxa
  refine k_oi rfl ?_
  refine k_int h0 rfl (Nat.le_of_ble_eq_true rfl) (fun x1 h1 _ => ?_)
  refine k_arr h1 rfl ⟨Nat.le_of_ble_eq_true rfl, rfl, by omega⟩ hE1 ha (fun x2 h2 _ => ?_)
  refine k_arr h2 rfl ⟨Nat.le_of_ble_eq_true rfl, rfl, by omega⟩ hE2 ha (fun x3 h3 _ => ?_)
  refine k_arr h3 rfl ⟨Nat.le_of_ble_eq_true rfl, rfl, by omega⟩ hE3 ha (fun x4 h4 _ => ?_)
  refine k_arr h4 rfl ⟨Nat.le_of_ble_eq_true rfl, rfl, by omega⟩ hE4 ha (fun x5 h5 _ => ?_)
  refine k_int h5 rfl (Nat.le_of_ble_eq_true rfl) (fun x6 h6 _ => ?_)
  refine k_arr h6 rfl ⟨Nat.le_of_ble_eq_true rfl, rfl, by omega⟩ hE5 ha (fun x7 h7 _ => ?_)
  refine k_arr h7 rfl ⟨Nat.le_of_ble_eq_true rfl, rfl, by omega⟩ hE6 ha (fun x8 h8 _ => ?_)
  refine k_int h8 rfl (Nat.le_of_ble_eq_true rfl) (fun x9 h9 _ => ?_)
  refine k_int h9 rfl (Nat.le_of_ble_eq_true rfl) (fun x10 h10 _ => ?_)
  refine k_int h10 rfl (Nat.le_of_ble_eq_true rfl) (fun x11 h11 _ => ?_)
  exact hq _ (h11.fin (by rw [hE0]; rfl))
def RD_X5 (Q : Option Value → aMD → Prop) : aP aMD :=
  i_ald 0 <| i_oinit <| i_ald 0 <| i_c (.int 0) <| j_put pI 3 0 <| i_ald 0 <| i_c (.int 0) <| j_put pI 3 1 <| i_ald 0 <| i_c (.int 0) <| j_put pI 3 2 <| i_ald 0 <| i_c (.int 0) <| j_put pI 3 3 <| i_ald 0 <| i_c (.int 6) <| j_newa 1 6 (.inl (fun _ => 0)) <| j_put pR 3 4 <| i_ald 0 <| i_c (.int 6) <| j_newa 1 6 (.inl (fun _ => 0)) <| j_put pR 3 5 <| i_ald 0 <| i_c (.int 3) <| j_newa 1 3 (.inl (fun _ => 0)) <| j_put pR 3 6 <| i_ald 0 <| i_c (.int 3) <| j_newa 1 3 (.inl (fun _ => 0)) <| j_put pR 3 7 <| i_ald 0 <| i_c (.int 3) <| j_newa 1 3 (.inl (fun _ => 0)) <| j_put pR 3 8 <| i_ald 0 <| i_c (.int 8) <| j_newa 1 8 (.inl (fun _ => 0)) <| j_put pR 3 9 <| i_ald 0 <| i_c (.int 8) <| j_newa 1 8 (.inl (fun _ => 0)) <| j_put pR 3 10 <| i_ald 0 <| i_c (.int 8) <| j_newa 1 8 (.inl (fun _ => 0)) <| j_put pR 3 11 <| i_vret Q
theorem SD_X5 {G : aG} {l : Launch} {d : Nat} {Q : Option Value → aMD → Prop} : aS (aR0 G) G l (d + 1) mX5_init 8 45 Q 0 (RD_X5 Q) :=
  s_aload_n dX5_init_0 rfl <| s_oinit bw146 bw111 bw112 dX5_init_1 <| s_aload_n dX5_init_4 rfl <| s_iconst dX5_init_5 (by decide) <| s_putD (A := pI) (ty := .int) cl_3 fd_RX5_9 tyX5_ok nmX5 (Or.inl rfl) rfl pI_ok dX5_init_6 <| s_aload_n dX5_init_9 rfl <| s_iconst dX5_init_10 (by decide) <| s_putD (A := pI) (ty := .int) cl_3 fd_RX5_15 tyX5_ok nmX5 (Or.inl rfl) rfl pI_ok dX5_init_11 <| s_aload_n dX5_init_14 rfl <| s_iconst dX5_init_15 (by decide) <| s_putD (A := pI) (ty := .int) cl_3 fd_RX5_18 tyX5_ok nmX5 (Or.inl rfl) rfl pI_ok dX5_init_16 <| s_aload_n dX5_init_19 rfl <| s_iconst dX5_init_20 (by decide) <| s_putD (A := pI) (ty := .int) cl_3 fd_RX5_21 tyX5_ok nmX5 (Or.inl rfl) rfl pI_ok dX5_init_21 <| s_aload_n dX5_init_24 rfl <| s_bipush dX5_init_25 (by decide) <| s_newaD (at2 := .int) (ty := .int) (t := 0) (N := 6) (y := .inl (fun _ => 0)) bw138 rfl (fun _ => rfl) (fun _ => by first | rfl | exact vp_cell_i _ _ _ | exact vp_cell_l _ _ _) (fun _ => rfl) (by decide) (by decide) dX5_init_27 <| s_putD (A := pR) (ty := (.array .int)) cl_3 fd_RX5_24 tyX5_ok nmX5 (Or.inr ⟨rfl, rfl, rfl⟩) rfl (pR_arr .int) dX5_init_29 <| s_aload_n dX5_init_32 rfl <| s_bipush dX5_init_33 (by decide) <| s_newaD (at2 := .int) (ty := .int) (t := 0) (N := 6) (y := .inl (fun _ => 0)) bw138 rfl (fun _ => rfl) (fun _ => by first | rfl | exact vp_cell_i _ _ _ | exact vp_cell_l _ _ _) (fun _ => rfl) (by decide) (by decide) dX5_init_35 <| s_putD (A := pR) (ty := (.array .int)) cl_3 fd_RX5_28 tyX5_ok nmX5 (Or.inr ⟨rfl, rfl, rfl⟩) rfl (pR_arr .int) dX5_init_37 <| s_aload_n dX5_init_40 rfl <| s_iconst dX5_init_41 (by decide) <| s_newaD (at2 := .int) (ty := .int) (t := 0) (N := 3) (y := .inl (fun _ => 0)) bw138 rfl (fun _ => rfl) (fun _ => by first | rfl | exact vp_cell_i _ _ _ | exact vp_cell_l _ _ _) (fun _ => rfl) (by decide) (by decide) dX5_init_42 <| s_putD (A := pR) (ty := (.array .int)) cl_3 fd_RX5_31 tyX5_ok nmX5 (Or.inr ⟨rfl, rfl, rfl⟩) rfl (pR_arr .int) dX5_init_44 <| s_aload_n dX5_init_47 rfl <| s_iconst dX5_init_48 (by decide) <| s_newaD (at2 := .int) (ty := .int) (t := 0) (N := 3) (y := .inl (fun _ => 0)) bw138 rfl (fun _ => rfl) (fun _ => by first | rfl | exact vp_cell_i _ _ _ | exact vp_cell_l _ _ _) (fun _ => rfl) (by decide) (by decide) dX5_init_49 <| s_putD (A := pR) (ty := (.array .int)) cl_3 fd_RX5_34 tyX5_ok nmX5 (Or.inr ⟨rfl, rfl, rfl⟩) rfl (pR_arr .int) dX5_init_51 <| s_aload_n dX5_init_54 rfl <| s_iconst dX5_init_55 (by decide) <| s_newaD (at2 := .int) (ty := .int) (t := 0) (N := 3) (y := .inl (fun _ => 0)) bw138 rfl (fun _ => rfl) (fun _ => by first | rfl | exact vp_cell_i _ _ _ | exact vp_cell_l _ _ _) (fun _ => rfl) (by decide) (by decide) dX5_init_56 <| s_putD (A := pR) (ty := (.array .int)) cl_3 fd_RX5_37 tyX5_ok nmX5 (Or.inr ⟨rfl, rfl, rfl⟩) rfl (pR_arr .int) dX5_init_58 <| s_aload_n dX5_init_61 rfl <| s_bipush dX5_init_62 (by decide) <| s_newaD (at2 := .int) (ty := .int) (t := 0) (N := 8) (y := .inl (fun _ => 0)) bw138 rfl (fun _ => rfl) (fun _ => by first | rfl | exact vp_cell_i _ _ _ | exact vp_cell_l _ _ _) (fun _ => rfl) (by decide) (by decide) dX5_init_64 <| s_putD (A := pR) (ty := (.array .int)) cl_3 fd_RX5_40 tyX5_ok nmX5 (Or.inr ⟨rfl, rfl, rfl⟩) rfl (pR_arr .int) dX5_init_66 <| s_aload_n dX5_init_69 rfl <| s_bipush dX5_init_70 (by decide) <| s_newaD (at2 := .int) (ty := .int) (t := 0) (N := 8) (y := .inl (fun _ => 0)) bw138 rfl (fun _ => rfl) (fun _ => by first | rfl | exact vp_cell_i _ _ _ | exact vp_cell_l _ _ _) (fun _ => rfl) (by decide) (by decide) dX5_init_72 <| s_putD (A := pR) (ty := (.array .int)) cl_3 fd_RX5_43 tyX5_ok nmX5 (Or.inr ⟨rfl, rfl, rfl⟩) rfl (pR_arr .int) dX5_init_74 <| s_aload_n dX5_init_77 rfl <| s_bipush dX5_init_78 (by decide) <| s_newaD (at2 := .int) (ty := .int) (t := 0) (N := 8) (y := .inl (fun _ => 0)) bw138 rfl (fun _ => rfl) (fun _ => by first | rfl | exact vp_cell_i _ _ _ | exact vp_cell_l _ _ _) (fun _ => rfl) (by decide) (by decide) dX5_init_80 <| s_putD (A := pR) (ty := (.array .int)) cl_3 fd_RX5_46 tyX5_ok nmX5 (Or.inr ⟨rfl, rfl, rfl⟩) rfl (pR_arr .int) dX5_init_82 <| s_vret dX5_init_85 rfl
theorem n_X5 {G : aG} {l : Launch} {d a : Nat} {EX : Nat → va_E} {x : aMD} {Q : Option Value → aMD → Prop} (hE0 : EX a = .inr (3, [.int 0, .int 0, .int 0, .int 0, .ref (a + 1), .ref (a + 2), .ref (a + 3), .ref (a + 4), .ref (a + 5), .ref (a + 6), .ref (a + 7), .ref (a + 8)])) (hE1 : EX (a + 1) = .inl (1, 6, .inl (fun _ => 0))) (hE2 : EX (a + 2) = .inl (1, 6, .inl (fun _ => 0))) (hE3 : EX (a + 3) = .inl (1, 3, .inl (fun _ => 0))) (hE4 : EX (a + 4) = .inl (1, 3, .inl (fun _ => 0))) (hE5 : EX (a + 5) = .inl (1, 3, .inl (fun _ => 0))) (hE6 : EX (a + 6) = .inl (1, 8, .inl (fun _ => 0))) (hE7 : EX (a + 7) = .inl (1, 8, .inl (fun _ => 0))) (hE8 : EX (a + 8) = .inl (1, 8, .inl (fun _ => 0))) (hx : x.2 = a + 1) (ha : a < 1000) (hxa : x.1 a = .inr (3, df_3)) (hq : ∀ x', cEnd EX a 9 x x' → Q none x') : aC (aR0 G) G l (d + 1) 8 45 mX5_init [.ref a] x Q := by
  refine aC.intro (by decide) (Nat.le_of_ble_eq_true rfl) rfl (SD_X5 _ _ _ ?_)
  have h0 : bJ EX a 3 (fun _ => False) x df_3 (a + 1) x := bJ.start hx ha hxa
  refine k_oi rfl ?_
  refine k_int h0 rfl (Nat.le_of_ble_eq_true rfl) (fun x1 h1 _ => ?_)
  refine k_int h1 rfl (Nat.le_of_ble_eq_true rfl) (fun x2 h2 _ => ?_)
  refine k_int h2 rfl (Nat.le_of_ble_eq_true rfl) (fun x3 h3 _ => ?_)
  refine k_int h3 rfl (Nat.le_of_ble_eq_true rfl) (fun x4 h4 _ => ?_)
  refine k_arr h4 rfl ⟨Nat.le_of_ble_eq_true rfl, rfl, by omega⟩ hE1 ha (fun x5 h5 _ => ?_)
  refine k_arr h5 rfl ⟨Nat.le_of_ble_eq_true rfl, rfl, by omega⟩ hE2 ha (fun x6 h6 _ => ?_)
  refine k_arr h6 rfl ⟨Nat.le_of_ble_eq_true rfl, rfl, by omega⟩ hE3 ha (fun x7 h7 _ => ?_)
  refine k_arr h7 rfl ⟨Nat.le_of_ble_eq_true rfl, rfl, by omega⟩ hE4 ha (fun x8 h8 _ => ?_)
  refine k_arr h8 rfl ⟨Nat.le_of_ble_eq_true rfl, rfl, by omega⟩ hE5 ha (fun x9 h9 _ => ?_)
  refine k_arr h9 rfl ⟨Nat.le_of_ble_eq_true rfl, rfl, by omega⟩ hE6 ha (fun x10 h10 _ => ?_)
  refine k_arr h10 rfl ⟨Nat.le_of_ble_eq_true rfl, rfl, by omega⟩ hE7 ha (fun x11 h11 _ => ?_)
  refine k_arr h11 rfl ⟨Nat.le_of_ble_eq_true rfl, rfl, by omega⟩ hE8 ha (fun x12 h12 _ => ?_)
  exact hq _ (h12.fin (by rw [hE0]; rfl))
