/-! who may be called; literals -/
section AM7
variable {μ : Type} {rep : μ → Heap → Prop} {G : aG} {l : Launch} {d : Nat} {mm : aMM} {c b : Nat} {Q : Option Value → μ → Prop} {pc : Nat}
theorem aS_T : aS rep G l d mm c b Q pc (fun ls st x => aT rep G l d mm c b Q pc ls st x) := fun _ _ _ h => h
theorem aS_F : aS rep G l d mm c b Q pc (fun _ _ _ => False) := fun _ _ _ h => h.elim
theorem a_nil {ts : List (aP μ)} : ∀ (j tg : Nat) (u : aP μ), ([] : List Nat)[j]? = some tg → ts[j]? = some u → aS rep G l d mm c b Q tg u := fun j tg u h _ => by simp at h
theorem a_cons {t : aP μ} {ts : List (aP μ)} {n : Nat} {ns : List Nat} (h0 : aS rep G l d mm c b Q n t) (h : ∀ (j tg : Nat) (u : aP μ), ns[j]? = some tg → ts[j]? = some u → aS rep G l d mm c b Q tg u) : ∀ (j tg : Nat) (u : aP μ), (n :: ns)[j]? = some tg → (t :: ts)[j]? = some u → aS rep G l d mm c b Q tg u := by
  intro j tg u h1 h2
  cases j with
  | zero =>
    simp at h1 h2
    subst h1; subst h2
    exact h0
  | succ j =>
    simp only [List.getElem?_cons_succ] at h1 h2
    exact h j tg u h1 h2
theorem a_ldcwS {p : Program} {e : Env} {R : Room} {s : State} {m : MethodId} {args : Array Value} {below : List Frame} {meth : Method} {c : Code} {T : State} {locs : List Loc} {cells slots : Nat}
    (X : Stand p l e R s m args below meth c T locs cells slots) (hexec : p.tables.exec = Jvm.exec) {own text : String} {index : Nat} {a : Addr} (hown : s.vm.findClass own = some m.cls)
    (hconst : (Cond.stringRef own index text).before args s = true) (hev : (Term.string own index).eval args s none [] s = some (.ref a)) {g : JFrame} (hg : g.method = m) (hdg : decode c.code g.pc = .ok (.ldc_w index, 3)) :
    ∀ target, Steps p.tables e below (T.setTop { g with pc := g.pc + 3, stack := .ref a :: g.stack }) target → Steps p.tables e below (T.setTop g) target := by
  obtain ⟨k, cf, i, a', hk, hcf, hcp, -, hr, hev'⟩ := Cond.stringRef_spec hown hconst
  cases hev.symm.trans hev'
  obtain ⟨k', hk', he⟩ := X.warmed.alike.2.2 _ _ hk
  have hr' : k'.resolved[index]? = some (some (.string a)) := by
    rcases X.warmed.entry hk hk' index with h | ⟨h, -⟩
    · rw [h]; exact hr
    · rw [hr] at h; cases h
  intro target hrest
  subst hg
  jvm_step X.here [hexec, hdg, ldc_w.wp_string (e := e) (s := T) (f := g) X.here.top hk' (by rw [he]; exact hcf) hcp hr']
  exact hrest
theorem s_ldcwS {K : aP μ} {ix i : Nat} {tx : String} (hd : decode mm.2.1 pc = .ok (.ldc_w ix, 3)) (hw : (mm.1.cls, ix, tx, i) ∈ aLits) (h : aS rep G l d mm c b Q (pc + 3) K) : aS rep G l d mm c b Q pc (i_c (.ref (1000100 + i)) K) := by
  intro ls st x hk p e R s m args below meth cd QQ P H locs arr cells slots hp hl
  have hz := P.1.2.2.2.2.2.2.2.2.1.2.1 _ hw
  have e0 : aV G (.ref (1000100 + i)) = .ref (G.2 (100 + i)) := by
    show Value.ref (aLoc G (1000100 + i)) = _
    rw [aLoc, if_neg (by omega), show 1000100 + i - 1000000 = 100 + i by omega]
  have k := h _ _ _ hk _ _ _ _ _ _ _ _ _ _ P _ _ _ _ _ hp hl
  rw [List.map_cons, e0] at k
  intro T hT X
  obtain ⟨t, a1, b1⟩ := k T hT X
  exact ⟨t, a_ldcwS X P.1.1 P.1.2.2.2.2.1 (text := tx) (a := G.2 (100 + i)) hz.1 hz.2 (g := F0 m pc arr (st.map (aV G))) rfl (by rw [P.1.2.1]; exact hd) t a1, b1⟩
end AM7
theorem li_RX0_28 : ("CatNeed$RoomReader", 28, "room thing cat need", 0) ∈ aLits := by simp [aLits]
theorem li_RX2_26 : ("CatNeed$RuleReader", 26, "lie", 1) ∈ aLits := by simp [aLits]
theorem li_RX2_112 : ("CatNeed$RuleReader", 112, "cat thing far due knows pace worth on met lost minute", 2) ∈ aLits := by simp [aLits]
theorem li_RX2_99 : ("CatNeed$RuleReader", 99, "+-*/%", 3) ∈ aLits := by simp [aLits]
theorem li_RX2_45 : ("CatNeed$RuleReader", 45, "if", 4) ∈ aLits := by simp [aLits]
theorem li_RX2_68 : ("CatNeed$RuleReader", 68, "[", 5) ∈ aLits := by simp [aLits]
theorem li_RX2_73 : ("CatNeed$RuleReader", 73, "not", 6) ∈ aLits := by simp [aLits]
theorem li_RX2_75 : ("CatNeed$RuleReader", 75, "]", 7) ∈ aLits := by simp [aLits]
theorem li_RX2_82 : ("CatNeed$RuleReader", 82, "<=>", 8) ∈ aLits := by simp [aLits]
theorem li_RX2_64 : ("CatNeed$RuleReader", 64, "and or", 9) ∈ aLits := by simp [aLits]
theorem li_RX8_286 : ("CatNeedModel", 286, "room", 10) ∈ aLits := by simp [aLits]
theorem li_RX8_174 : ("CatNeedModel", 174, "thing", 11) ∈ aLits := by simp [aLits]
theorem li_RX8_172 : ("CatNeedModel", 172, "cat", 12) ∈ aLits := by simp [aLits]
theorem li_RX8_288 : ("CatNeedModel", 288, "need", 13) ∈ aLits := by simp [aLits]
theorem li_RX8_326 : ("CatNeedModel", 326, "lie", 1) ∈ aLits := by simp [aLits]
theorem li_RX8_176 : ("CatNeedModel", 176, "far", 14) ∈ aLits := by simp [aLits]
theorem li_RX8_178 : ("CatNeedModel", 178, "due", 15) ∈ aLits := by simp [aLits]
theorem li_RX8_180 : ("CatNeedModel", 180, "knows", 16) ∈ aLits := by simp [aLits]
theorem li_RX8_181 : ("CatNeedModel", 181, "pace", 17) ∈ aLits := by simp [aLits]
theorem li_RX8_182 : ("CatNeedModel", 182, "worth", 18) ∈ aLits := by simp [aLits]
theorem li_RX8_183 : ("CatNeedModel", 183, "on", 19) ∈ aLits := by simp [aLits]
theorem li_RX8_184 : ("CatNeedModel", 184, "met", 20) ∈ aLits := by simp [aLits]
theorem li_RX8_185 : ("CatNeedModel", 185, "lost", 21) ∈ aLits := by simp [aLits]
theorem li_RX8_186 : ("CatNeedModel", 186, "minute", 22) ∈ aLits := by simp [aLits]
theorem li_RX8_328 : ("CatNeedModel", 328, "if", 4) ∈ aLits := by simp [aLits]
theorem li_RX8_268 : ("CatNeedModel", 268, "not", 6) ∈ aLits := by simp [aLits]
theorem li_RX8_282 : ("CatNeedModel", 282, "and", 23) ∈ aLits := by simp [aLits]
theorem li_RX8_284 : ("CatNeedModel", 284, "or", 24) ∈ aLits := by simp [aLits]
theorem kn_X0_read : aKnown mX0_read 2 := ⟨bw383, bw95, ⟨by decide, by decide, by decide +kernel⟩, by decide⟩
theorem kn_X0_mayCome : aKnown mX0_mayCome 2 := ⟨bw456, bw95, ⟨by decide, by decide, by decide +kernel⟩, by decide⟩
theorem kn_X0_readClause : aKnown mX0_readClause 3 := ⟨bw459, bw95, ⟨by decide, by decide, by decide +kernel⟩, by decide⟩
theorem kn_X1_clear : aKnown mX1_clear 0 := ⟨bw512, bw93, ⟨by decide, by decide, by decide +kernel⟩, by decide⟩
theorem kn_X1_add : aKnown mX1_add 1 := ⟨bw538, bw93, ⟨by decide, by decide, by decide +kernel⟩, by decide⟩
theorem kn_X1_valueFor : aKnown mX1_valueFor 4 := ⟨bw735, bw93, ⟨by decide, by decide, by decide +kernel⟩, by decide⟩
theorem kn_X1_joined : aKnown mX1_joined 3 := ⟨bw763, bw93, ⟨by decide, by decide, by decide +kernel⟩, by decide⟩
theorem kn_X2_read : aKnown mX2_read 2 := ⟨bw508, bw101, ⟨by decide, by decide, by decide +kernel⟩, by decide⟩
theorem kn_X2_readTest : aKnown mX2_readTest 3 := ⟨bw607, bw101, ⟨by decide, by decide, by decide +kernel⟩, by decide⟩
theorem kn_X2_readFact : aKnown mX2_readFact 3 := ⟨bw610, bw101, ⟨by decide, by decide, by decide +kernel⟩, by decide⟩
theorem kn_X2_readComparison : aKnown mX2_readComparison 2 := ⟨bw617, bw101, ⟨by decide, by decide, by decide +kernel⟩, by decide⟩
theorem kn_X2_readSum : aKnown mX2_readSum 2 := ⟨bw520, bw101, ⟨by decide, by decide, by decide +kernel⟩, by decide⟩
theorem kn_X2_readValue : aKnown mX2_readValue 2 := ⟨bw523, bw101, ⟨by decide, by decide, by decide +kernel⟩, by decide⟩
theorem kn_X2_tallyOne : aKnown mX2_tallyOne 3 := ⟨bw534, bw101, ⟨by decide, by decide, by decide +kernel⟩, by decide⟩
theorem kn_X3_begin : aKnown mX3_begin 1 := ⟨bw499, bw92, ⟨by decide, by decide, by decide +kernel⟩, by decide⟩
theorem kn_X3_copyFrom : aKnown mX3_copyFrom 1 := ⟨bw711, bw92, ⟨by decide, by decide, by decide +kernel⟩, by decide⟩
theorem kn_X3_pass : aKnown mX3_pass 2 := ⟨bw723, bw92, ⟨by decide, by decide, by decide +kernel⟩, by decide⟩
theorem kn_X3_foreseen : aKnown mX3_foreseen 2 := ⟨bw727, bw92, ⟨by decide, by decide, by decide +kernel⟩, by decide⟩
theorem kn_X3_favoured : aKnown mX3_favoured 3 := ⟨bw731, bw92, ⟨by decide, by decide, by decide +kernel⟩, by decide⟩
theorem kn_X3_goTowards : aKnown mX3_goTowards 3 := ⟨bw767, bw92, ⟨by decide, by decide, by decide +kernel⟩, by decide⟩
theorem kn_X3_settle : aKnown mX3_settle 2 := ⟨bw772, bw92, ⟨by decide, by decide, by decide +kernel⟩, by decide⟩
theorem kn_X3_isStruck : aKnown mX3_isStruck 1 := ⟨bw674, bw92, ⟨by decide, by decide, by decide +kernel⟩, by decide⟩
theorem kn_X3_isDue : aKnown mX3_isDue 3 := ⟨bw686, bw92, ⟨by decide, by decide, by decide +kernel⟩, by decide⟩
theorem kn_X3_dueNow : aKnown mX3_dueNow 1 := ⟨bw682, bw92, ⟨by decide, by decide, by decide +kernel⟩, by decide⟩
theorem kn_X3_dueIn : aKnown mX3_dueIn 2 := ⟨bw748, bw92, ⟨by decide, by decide, by decide +kernel⟩, by decide⟩
theorem kn_X3_needsRound : aKnown mX3_needsRound 2 := ⟨bw878, bw92, ⟨by decide, by decide, by decide +kernel⟩, by decide⟩
theorem kn_X3_catsOn : aKnown mX3_catsOn 2 := ⟨bw654, bw92, ⟨by decide, by decide, by decide +kernel⟩, by decide⟩
theorem kn_X3_catsAsNumber : aKnown mX3_catsAsNumber 1 := ⟨bw874, bw92, ⟨by decide, by decide, by decide +kernel⟩, by decide⟩
theorem kn_X3_metOf : aKnown mX3_metOf 2 := ⟨bw646, bw92, ⟨by decide, by decide, by decide +kernel⟩, by decide⟩
theorem kn_X3_lostOf : aKnown mX3_lostOf 2 := ⟨bw650, bw92, ⟨by decide, by decide, by decide +kernel⟩, by decide⟩
theorem kn_X3_metInAll : aKnown mX3_metInAll 1 := ⟨bw691, bw92, ⟨by decide, by decide, by decide +kernel⟩, by decide⟩
theorem kn_X3_lostInAll : aKnown mX3_lostInAll 1 := ⟨bw695, bw92, ⟨by decide, by decide, by decide +kernel⟩, by decide⟩
theorem kn_X3_gain : aKnown mX3_gain 2 := ⟨bw862, bw92, ⟨by decide, by decide, by decide +kernel⟩, by decide⟩
theorem kn_X3_sendAway : aKnown mX3_sendAway 1 := ⟨bw822, bw92, ⟨by decide, by decide, by decide +kernel⟩, by decide⟩
theorem kn_X3_shift : aKnown mX3_shift 3 := ⟨bw838, bw92, ⟨by decide, by decide, by decide +kernel⟩, by decide⟩
theorem kn_X3_wordValue : aKnown mX3_wordValue 4 := ⟨bw741, bw92, ⟨by decide, by decide, by decide +kernel⟩, by decide⟩
theorem kn_X4_put : aKnown mX4_put 1 := ⟨bw372, bw89, ⟨by decide, by decide, by decide +kernel⟩, by decide⟩
theorem kn_X4_rewind : aKnown mX4_rewind 0 := ⟨bw391, bw89, ⟨by decide, by decide, by decide +kernel⟩, by decide⟩
theorem kn_X4_fail : aKnown mX4_fail 2 := ⟨bw453, bw89, ⟨by decide, by decide, by decide +kernel⟩, by decide⟩
theorem kn_X4_skipBlanks : aKnown mX4_skipBlanks 0 := ⟨bw395, bw89, ⟨by decide, by decide, by decide +kernel⟩, by decide⟩
theorem kn_X4_takeSign : aKnown mX4_takeSign 1 := ⟨bw543, bw89, ⟨by decide, by decide, by decide +kernel⟩, by decide⟩
theorem kn_X4_takeNext : aKnown mX4_takeNext 1 := ⟨bw484, bw89, ⟨by decide, by decide, by decide +kernel⟩, by decide⟩
theorem kn_X4_takeWord : aKnown mX4_takeWord 1 := ⟨bw400, bw89, ⟨by decide, by decide, by decide +kernel⟩, by decide⟩
theorem kn_X4_digitNext : aKnown mX4_digitNext 0 := ⟨bw527, bw89, ⟨by decide, by decide, by decide +kernel⟩, by decide⟩
theorem kn_X4_takeNumber : aKnown mX4_takeNumber 2 := ⟨bw463, bw89, ⟨by decide, by decide, by decide +kernel⟩, by decide⟩
theorem kn_X4_takeSemicolon : aKnown mX4_takeSemicolon 0 := ⟨bw480, bw89, ⟨by decide, by decide, by decide +kernel⟩, by decide⟩
theorem kn_X5_clear : aKnown mX5_clear 0 := ⟨bw387, bw90, ⟨by decide, by decide, by decide +kernel⟩, by decide⟩
theorem kn_X5_addThing : aKnown mX5_addThing 2 := ⟨bw468, bw90, ⟨by decide, by decide, by decide +kernel⟩, by decide⟩
theorem kn_X5_addCat : aKnown mX5_addCat 3 := ⟨bw472, bw90, ⟨by decide, by decide, by decide +kernel⟩, by decide⟩
theorem kn_X5_addNeed : aKnown mX5_addNeed 3 := ⟨bw476, bw90, ⟨by decide, by decide, by decide +kernel⟩, by decide⟩
theorem kn_X5_copyFrom : aKnown mX5_copyFrom 1 := ⟨bw492, bw90, ⟨by decide, by decide, by decide +kernel⟩, by decide⟩
theorem kn_X5_worthOfNeeds : aKnown mX5_worthOfNeeds 1 := ⟨bw830, bw90, ⟨by decide, by decide, by decide +kernel⟩, by decide⟩
theorem kn_X6_enter : aKnown mX6_enter 1 := ⟨bw488, bw91, ⟨by decide, by decide, by decide +kernel⟩, by decide⟩
theorem kn_X6_copyFrom : aKnown mX6_copyFrom 1 := ⟨bw956, bw91, ⟨by decide, by decide, by decide +kernel⟩, by decide⟩
theorem kn_X6_keep : aKnown mX6_keep 0 := ⟨bw707, bw91, ⟨by decide, by decide, by decide +kernel⟩, by decide⟩
theorem kn_X6_takeBack : aKnown mX6_takeBack 0 := ⟨bw796, bw91, ⟨by decide, by decide, by decide +kernel⟩, by decide⟩
theorem kn_X6_write : aKnown mX6_write 3 := ⟨bw894, bw91, ⟨by decide, by decide, by decide +kernel⟩, by decide⟩
theorem kn_X6_lastNoted : aKnown mX6_lastNoted 0 := ⟨bw907, bw91, ⟨by decide, by decide, by decide +kernel⟩, by decide⟩
theorem kn_X6_notesAgree : aKnown mX6_notesAgree 2 := ⟨bw912, bw91, ⟨by decide, by decide, by decide +kernel⟩, by decide⟩
theorem kn_X7_feed : aKnown mX7_feed 5 := ⟨bw368, bw88, ⟨by decide, by decide, by decide +kernel⟩, by decide⟩
theorem kn_X7_end : aKnown mX7_end 1 := ⟨bw376, bw88, ⟨by decide, by decide, by decide +kernel⟩, by decide⟩
theorem kn_X7_room : aKnown mX7_room 0 := ⟨bw380, bw88, ⟨by decide, by decide, by decide +kernel⟩, by decide⟩
theorem kn_X7_rule : aKnown mX7_rule 0 := ⟨bw505, bw88, ⟨by decide, by decide, by decide +kernel⟩, by decide⟩
theorem kn_X7_force : aKnown mX7_force 1 := ⟨bw634, bw88, ⟨by decide, by decide, by decide +kernel⟩, by decide⟩
theorem kn_X7_thing : aKnown mX7_thing 2 := ⟨bw638, bw88, ⟨by decide, by decide, by decide +kernel⟩, by decide⟩
theorem kn_X7_cat : aKnown mX7_cat 2 := ⟨bw658, bw88, ⟨by decide, by decide, by decide +kernel⟩, by decide⟩
theorem kn_X7_need : aKnown mX7_need 2 := ⟨bw666, bw88, ⟨by decide, by decide, by decide +kernel⟩, by decide⟩
theorem kn_X7_count : aKnown mX7_count 1 := ⟨bw678, bw88, ⟨by decide, by decide, by decide +kernel⟩, by decide⟩
theorem kn_X7_minute : aKnown mX7_minute 0 := ⟨bw699, bw88, ⟨by decide, by decide, by decide +kernel⟩, by decide⟩
theorem kn_X7_lift : aKnown mX7_lift 1 := ⟨bw776, bw88, ⟨by decide, by decide, by decide +kernel⟩, by decide⟩
theorem kn_X7_move : aKnown mX7_move 2 := ⟨bw780, bw88, ⟨by decide, by decide, by decide +kernel⟩, by decide⟩
theorem kn_X7_strike : aKnown mX7_strike 1 := ⟨bw784, bw88, ⟨by decide, by decide, by decide +kernel⟩, by decide⟩
theorem kn_X7_teach : aKnown mX7_teach 2 := ⟨bw788, bw88, ⟨by decide, by decide, by decide +kernel⟩, by decide⟩
theorem kn_X7_undo : aKnown mX7_undo 0 := ⟨bw792, bw88, ⟨by decide, by decide, by decide +kernel⟩, by decide⟩
theorem kn_X7_ahead : aKnown mX7_ahead 3 := ⟨bw800, bw88, ⟨by decide, by decide, by decide +kernel⟩, by decide⟩
theorem kn_X7_due : aKnown mX7_due 1 := ⟨bw809, bw88, ⟨by decide, by decide, by decide +kernel⟩, by decide⟩
theorem kn_X7_served : aKnown mX7_served 1 := ⟨bw814, bw88, ⟨by decide, by decide, by decide +kernel⟩, by decide⟩
theorem kn_X7_shut : aKnown mX7_shut 2 := ⟨bw818, bw88, ⟨by decide, by decide, by decide +kernel⟩, by decide⟩
theorem kn_X7_moved : aKnown mX7_moved 3 := ⟨bw834, bw88, ⟨by decide, by decide, by decide +kernel⟩, by decide⟩
theorem kn_X7_tray : aKnown mX7_tray 2 := ⟨bw842, bw88, ⟨by decide, by decide, by decide +kernel⟩, by decide⟩
theorem kn_X7_rests : aKnown mX7_rests 4 := ⟨bw851, bw88, ⟨by decide, by decide, by decide +kernel⟩, by decide⟩
theorem kn_X7_ring : aKnown mX7_ring 1 := ⟨bw870, bw88, ⟨by decide, by decide, by decide +kernel⟩, by decide⟩
theorem kn_X7_pence : aKnown mX7_pence 2 := ⟨bw882, bw88, ⟨by decide, by decide, by decide +kernel⟩, by decide⟩
theorem kn_X7_note : aKnown mX7_note 3 := ⟨bw890, bw88, ⟨by decide, by decide, by decide +kernel⟩, by decide⟩
theorem kn_X7_knowing : aKnown mX7_knowing 2 := ⟨bw898, bw88, ⟨by decide, by decide, by decide +kernel⟩, by decide⟩
theorem kn_X7_ruled : aKnown mX7_ruled 1 := ⟨bw916, bw88, ⟨by decide, by decide, by decide +kernel⟩, by decide⟩
theorem kn_X7_look : aKnown mX7_look 2 := ⟨bw924, bw88, ⟨by decide, by decide, by decide +kernel⟩, by decide⟩
theorem kn_X7_seed : aKnown mX7_seed 1 := ⟨bw937, bw88, ⟨by decide, by decide, by decide +kernel⟩, by decide⟩
theorem kn_X7_visits : aKnown mX7_visits 4 := ⟨bw941, bw88, ⟨by decide, by decide, by decide +kernel⟩, by decide⟩
theorem kn_X7_image : aKnown mX7_image 1 := ⟨bw952, bw88, ⟨by decide, by decide, by decide +kernel⟩, by decide⟩
theorem kn_X7_back : aKnown mX7_back 1 := ⟨bw961, bw88, ⟨by decide, by decide, by decide +kernel⟩, by decide⟩
theorem kn_X7_stands : aKnown mX7_stands 0 := ⟨bw703, bw88, ⟨by decide, by decide, by decide +kernel⟩, by decide⟩
theorem kn_X7_isThing : aKnown mX7_isThing 1 := ⟨bw642, bw88, ⟨by decide, by decide, by decide +kernel⟩, by decide⟩
theorem kn_X7_isCat : aKnown mX7_isCat 1 := ⟨bw662, bw88, ⟨by decide, by decide, by decide +kernel⟩, by decide⟩
theorem kn_X7_isNeed : aKnown mX7_isNeed 1 := ⟨bw670, bw88, ⟨by decide, by decide, by decide +kernel⟩, by decide⟩
theorem kn_X7_ruleBy : aKnown mX7_ruleBy 1 := ⟨bw719, bw88, ⟨by decide, by decide, by decide +kernel⟩, by decide⟩
theorem kn_X7_inForce : aKnown mX7_inForce 0 := ⟨bw715, bw88, ⟨by decide, by decide, by decide +kernel⟩, by decide⟩
theorem kn_X7_goOn : aKnown mX7_goOn 2 := ⟨bw805, bw88, ⟨by decide, by decide, by decide +kernel⟩, by decide⟩
theorem kn_X7_worthMet : aKnown mX7_worthMet 1 := ⟨bw826, bw88, ⟨by decide, by decide, by decide +kernel⟩, by decide⟩
theorem kn_X7_losesNone : aKnown mX7_losesNone 2 := ⟨bw847, bw88, ⟨by decide, by decide, by decide +kernel⟩, by decide⟩
theorem kn_X7_knowsBy : aKnown mX7_knowsBy 1 := ⟨bw858, bw88, ⟨by decide, by decide, by decide +kernel⟩, by decide⟩
theorem kn_X7_weigh : aKnown mX7_weigh 4 := ⟨bw855, bw88, ⟨by decide, by decide, by decide +kernel⟩, by decide⟩
theorem kn_X7_isRest : aKnown mX7_isRest 1 := ⟨bw866, bw88, ⟨by decide, by decide, by decide +kernel⟩, by decide⟩
theorem kn_X7_share : aKnown mX7_share 1 := ⟨bw886, bw88, ⟨by decide, by decide, by decide +kernel⟩, by decide⟩
theorem kn_X7_notesHold : aKnown mX7_notesHold 1 := ⟨bw903, bw88, ⟨by decide, by decide, by decide +kernel⟩, by decide⟩
theorem kn_X7_rulesThatHold : aKnown mX7_rulesThatHold 0 := ⟨bw920, bw88, ⟨by decide, by decide, by decide +kernel⟩, by decide⟩
theorem kn_X7_countAlike : aKnown mX7_countAlike 2 := ⟨bw928, bw88, ⟨by decide, by decide, by decide +kernel⟩, by decide⟩
theorem kn_X7_mostAlike : aKnown mX7_mostAlike 1 := ⟨bw932, bw88, ⟨by decide, by decide, by decide +kernel⟩, by decide⟩
theorem kn_X7_drawn : aKnown mX7_drawn 1 := ⟨bw944, bw88, ⟨by decide, by decide, by decide +kernel⟩, by decide⟩
theorem kn_X8_in : aKnown mX8_in 3 := ⟨bw1245, bw94, ⟨by decide, by decide, by decide +kernel⟩, by decide⟩
theorem kn_X8_bits : aKnown mX8_bits 1 := ⟨bw1424, bw94, ⟨by decide, by decide, by decide +kernel⟩, by decide⟩
theorem kn_X8_has : aKnown mX8_has 2 := ⟨bw1373, bw94, ⟨by decide, by decide, by decide +kernel⟩, by decide⟩
theorem kn_X8_isRoom : aKnown mX8_isRoom 0 := ⟨bw1397, bw94, ⟨by decide, by decide, by decide +kernel⟩, by decide⟩
theorem kn_X8_isThing : aKnown mX8_isThing 1 := ⟨bw1342, bw94, ⟨by decide, by decide, by decide +kernel⟩, by decide⟩
theorem kn_X8_isCat : aKnown mX8_isCat 1 := ⟨bw1362, bw94, ⟨by decide, by decide, by decide +kernel⟩, by decide⟩
theorem kn_X8_isNeed : aKnown mX8_isNeed 1 := ⟨bw1370, bw94, ⟨by decide, by decide, by decide +kernel⟩, by decide⟩
theorem kn_X8_feed : aKnown mX8_feed 5 := ⟨bw1170, bw94, ⟨by decide, by decide, by decide +kernel⟩, by decide⟩
theorem kn_X8_put : aKnown mX8_put 1 := ⟨bw1174, bw94, ⟨by decide, by decide, by decide +kernel⟩, by decide⟩
theorem kn_X8_end : aKnown mX8_end 1 := ⟨bw1178, bw94, ⟨by decide, by decide, by decide +kernel⟩, by decide⟩
theorem kn_X8_wordOf : aKnown mX8_wordOf 1 := ⟨bw1288, bw94, ⟨by decide, by decide, by decide +kernel⟩, by decide⟩
theorem kn_X8_fails : aKnown mX8_fails 2 := ⟨bw1219, bw94, ⟨by decide, by decide, by decide +kernel⟩, by decide⟩
theorem kn_X8_sign : aKnown mX8_sign 0 := ⟨bw1202, bw94, ⟨by decide, by decide, by decide +kernel⟩, by decide⟩
theorem kn_X8_blanks : aKnown mX8_blanks 0 := ⟨bw1198, bw94, ⟨by decide, by decide, by decide +kernel⟩, by decide⟩
theorem kn_X8_isDigit : aKnown mX8_isDigit 0 := ⟨bw1240, bw94, ⟨by decide, by decide, by decide +kernel⟩, by decide⟩
theorem kn_X8_stood : aKnown mX8_stood 1 := ⟨bw1213, bw94, ⟨by decide, by decide, by decide +kernel⟩, by decide⟩
theorem kn_X8_takes : aKnown mX8_takes 1 := ⟨bw1302, bw94, ⟨by decide, by decide, by decide +kernel⟩, by decide⟩
theorem kn_X8_entry : aKnown mX8_entry 2 := ⟨bw1285, bw94, ⟨by decide, by decide, by decide +kernel⟩, by decide⟩
theorem kn_X8_isCounted : aKnown mX8_isCounted 1 := ⟨bw1281, bw94, ⟨by decide, by decide, by decide +kernel⟩, by decide⟩
theorem kn_X8_digits : aKnown mX8_digits 1 := ⟨bw1236, bw94, ⟨by decide, by decide, by decide +kernel⟩, by decide⟩
theorem kn_X8_value : aKnown mX8_value 0 := ⟨bw1277, bw94, ⟨by decide, by decide, by decide +kernel⟩, by decide⟩
theorem kn_X8_term : aKnown mX8_term 0 := ⟨bw1273, bw94, ⟨by decide, by decide, by decide +kernel⟩, by decide⟩
theorem kn_X8_sum : aKnown mX8_sum 0 := ⟨bw1269, bw94, ⟨by decide, by decide, by decide +kernel⟩, by decide⟩
theorem kn_X8_compared : aKnown mX8_compared 0 := ⟨bw1319, bw94, ⟨by decide, by decide, by decide +kernel⟩, by decide⟩
theorem kn_X8_top : aKnown mX8_top 0 := ⟨bw1327, bw94, ⟨by decide, by decide, by decide +kernel⟩, by decide⟩
theorem kn_X8_opens : aKnown mX8_opens 1 := ⟨bw1315, bw94, ⟨by decide, by decide, by decide +kernel⟩, by decide⟩
theorem kn_X8_answers : aKnown mX8_answers 1 := ⟨bw1323, bw94, ⟨by decide, by decide, by decide +kernel⟩, by decide⟩
theorem kn_X8_fact : aKnown mX8_fact 0 := ⟨bw1310, bw94, ⟨by decide, by decide, by decide +kernel⟩, by decide⟩
theorem kn_X8_test : aKnown mX8_test 0 := ⟨bw1306, bw94, ⟨by decide, by decide, by decide +kernel⟩, by decide⟩
theorem kn_X8_amount : aKnown mX8_amount 2 := ⟨bw1231, bw94, ⟨by decide, by decide, by decide +kernel⟩, by decide⟩
theorem kn_X8_roomWord : aKnown mX8_roomWord 1 := ⟨bw1205, bw94, ⟨by decide, by decide, by decide +kernel⟩, by decide⟩
theorem kn_X8_roomPart : aKnown mX8_roomPart 1 := ⟨bw1227, bw94, ⟨by decide, by decide, by decide +kernel⟩, by decide⟩
theorem kn_X8_isFull : aKnown mX8_isFull 2 := ⟨bw1223, bw94, ⟨by decide, by decide, by decide +kernel⟩, by decide⟩
theorem kn_X8_roomClause : aKnown mX8_roomClause 1 := ⟨bw1194, bw94, ⟨by decide, by decide, by decide +kernel⟩, by decide⟩
theorem kn_X8_copies : aKnown mX8_copies 2 := ⟨bw1252, bw94, ⟨by decide, by decide, by decide +kernel⟩, by decide⟩
theorem kn_X8_goesOn : aKnown mX8_goesOn 0 := ⟨bw1249, bw94, ⟨by decide, by decide, by decide +kernel⟩, by decide⟩
theorem kn_X8_starts : aKnown mX8_starts 0 := ⟨bw1190, bw94, ⟨by decide, by decide, by decide +kernel⟩, by decide⟩
theorem kn_X8_readsAll : aKnown mX8_readsAll 0 := ⟨bw1186, bw94, ⟨by decide, by decide, by decide +kernel⟩, by decide⟩
theorem kn_X8_begins : aKnown mX8_begins 0 := ⟨bw1256, bw94, ⟨by decide, by decide, by decide +kernel⟩, by decide⟩
theorem kn_X8_room : aKnown mX8_room 0 := ⟨bw1182, bw94, ⟨by decide, by decide, by decide +kernel⟩, by decide⟩
theorem kn_X8_ruleClause : aKnown mX8_ruleClause 1 := ⟨bw1264, bw94, ⟨by decide, by decide, by decide +kernel⟩, by decide⟩
theorem kn_X8_rule : aKnown mX8_rule 0 := ⟨bw1260, bw94, ⟨by decide, by decide, by decide +kernel⟩, by decide⟩
theorem kn_X8_force : aKnown mX8_force 1 := ⟨bw1333, bw94, ⟨by decide, by decide, by decide +kernel⟩, by decide⟩
theorem kn_X8_wanted : aKnown mX8_wanted 0 := ⟨bw1428, bw94, ⟨by decide, by decide, by decide +kernel⟩, by decide⟩
theorem kn_X8_truth : aKnown mX8_truth 1 := ⟨bw1438, bw94, ⟨by decide, by decide, by decide +kernel⟩, by decide⟩
theorem kn_X8_both : aKnown mX8_both 3 := ⟨bw1435, bw94, ⟨by decide, by decide, by decide +kernel⟩, by decide⟩
theorem kn_X8_answer : aKnown mX8_answer 3 := ⟨bw1432, bw94, ⟨by decide, by decide, by decide +kernel⟩, by decide⟩
theorem kn_X8_isDue : aKnown mX8_isDue 2 := ⟨bw1413, bw94, ⟨by decide, by decide, by decide +kernel⟩, by decide⟩
theorem kn_X8_catsOn : aKnown mX8_catsOn 1 := ⟨bw1354, bw94, ⟨by decide, by decide, by decide +kernel⟩, by decide⟩
theorem kn_X8_metOf : aKnown mX8_metOf 1 := ⟨bw1346, bw94, ⟨by decide, by decide, by decide +kernel⟩, by decide⟩
theorem kn_X8_lostOf : aKnown mX8_lostOf 1 := ⟨bw1350, bw94, ⟨by decide, by decide, by decide +kernel⟩, by decide⟩
theorem kn_X8_thing : aKnown mX8_thing 2 := ⟨bw1338, bw94, ⟨by decide, by decide, by decide +kernel⟩, by decide⟩
theorem kn_X8_cat : aKnown mX8_cat 2 := ⟨bw1358, bw94, ⟨by decide, by decide, by decide +kernel⟩, by decide⟩
theorem kn_X8_need : aKnown mX8_need 2 := ⟨bw1366, bw94, ⟨by decide, by decide, by decide +kernel⟩, by decide⟩
theorem kn_X8_dueIn : aKnown mX8_dueIn 1 := ⟨bw1421, bw94, ⟨by decide, by decide, by decide +kernel⟩, by decide⟩
theorem kn_X8_likes : aKnown mX8_likes 2 := ⟨bw1417, bw94, ⟨by decide, by decide, by decide +kernel⟩, by decide⟩
theorem kn_X8_choice : aKnown mX8_choice 1 := ⟨bw1409, bw94, ⟨by decide, by decide, by decide +kernel⟩, by decide⟩
theorem kn_X8_walks : aKnown mX8_walks 2 := ⟨bw1442, bw94, ⟨by decide, by decide, by decide +kernel⟩, by decide⟩
theorem kn_X8_goes : aKnown mX8_goes 0 := ⟨bw1405, bw94, ⟨by decide, by decide, by decide +kernel⟩, by decide⟩
theorem kn_X8_goFor : aKnown mX8_goFor 1 := ⟨bw1481, bw94, ⟨by decide, by decide, by decide +kernel⟩, by decide⟩
theorem kn_X8_sumOf : aKnown mX8_sumOf 1 := ⟨bw1485, bw94, ⟨by decide, by decide, by decide +kernel⟩, by decide⟩
theorem kn_X8_moves : aKnown mX8_moves 1 := ⟨bw1385, bw94, ⟨by decide, by decide, by decide +kernel⟩, by decide⟩
theorem kn_X8_movesRow : aKnown mX8_movesRow 1 := ⟨bw1389, bw94, ⟨by decide, by decide, by decide +kernel⟩, by decide⟩
theorem kn_X8_movesAll : aKnown mX8_movesAll 2 := ⟨bw1381, bw94, ⟨by decide, by decide, by decide +kernel⟩, by decide⟩
theorem kn_X8_keepsAct : aKnown mX8_keepsAct 0 := ⟨bw1401, bw94, ⟨by decide, by decide, by decide +kernel⟩, by decide⟩
theorem kn_X8_undo : aKnown mX8_undo 0 := ⟨bw1377, bw94, ⟨by decide, by decide, by decide +kernel⟩, by decide⟩
theorem kn_X8_minute : aKnown mX8_minute 0 := ⟨bw1393, bw94, ⟨by decide, by decide, by decide +kernel⟩, by decide⟩
theorem kn_X8_lift : aKnown mX8_lift 1 := ⟨bw1446, bw94, ⟨by decide, by decide, by decide +kernel⟩, by decide⟩
theorem kn_X8_move : aKnown mX8_move 2 := ⟨bw1450, bw94, ⟨by decide, by decide, by decide +kernel⟩, by decide⟩
theorem kn_X8_strike : aKnown mX8_strike 1 := ⟨bw1454, bw94, ⟨by decide, by decide, by decide +kernel⟩, by decide⟩
theorem kn_X8_teach : aKnown mX8_teach 2 := ⟨bw1458, bw94, ⟨by decide, by decide, by decide +kernel⟩, by decide⟩
theorem kn_X8_keepsAll : aKnown mX8_keepsAll 0 := ⟨bw1469, bw94, ⟨by decide, by decide, by decide +kernel⟩, by decide⟩
theorem kn_X8_laysBack : aKnown mX8_laysBack 0 := ⟨bw1489, bw94, ⟨by decide, by decide, by decide +kernel⟩, by decide⟩
theorem kn_X8_ahead : aKnown mX8_ahead 3 := ⟨bw1463, bw94, ⟨by decide, by decide, by decide +kernel⟩, by decide⟩
theorem kn_X8_due : aKnown mX8_due 1 := ⟨bw1493, bw94, ⟨by decide, by decide, by decide +kernel⟩, by decide⟩
theorem kn_X8_served : aKnown mX8_served 1 := ⟨bw1497, bw94, ⟨by decide, by decide, by decide +kernel⟩, by decide⟩
theorem kn_X8_worthMet : aKnown mX8_worthMet 1 := ⟨bw1506, bw94, ⟨by decide, by decide, by decide +kernel⟩, by decide⟩
theorem kn_X8_shut : aKnown mX8_shut 2 := ⟨bw1501, bw94, ⟨by decide, by decide, by decide +kernel⟩, by decide⟩
theorem kn_X8_moved : aKnown mX8_moved 3 := ⟨bw1510, bw94, ⟨by decide, by decide, by decide +kernel⟩, by decide⟩
theorem kn_X8_isNoneLost : aKnown mX8_isNoneLost 2 := ⟨bw1519, bw94, ⟨by decide, by decide, by decide +kernel⟩, by decide⟩
theorem kn_X8_tray : aKnown mX8_tray 2 := ⟨bw1514, bw94, ⟨by decide, by decide, by decide +kernel⟩, by decide⟩
theorem kn_X8_earns : aKnown mX8_earns 1 := ⟨bw1533, bw94, ⟨by decide, by decide, by decide +kernel⟩, by decide⟩
theorem kn_X8_laysKnown : aKnown mX8_laysKnown 3 := ⟨bw1529, bw94, ⟨by decide, by decide, by decide +kernel⟩, by decide⟩
theorem kn_X8_isRest : aKnown mX8_isRest 1 := ⟨bw1537, bw94, ⟨by decide, by decide, by decide +kernel⟩, by decide⟩
theorem kn_X8_rests : aKnown mX8_rests 4 := ⟨bw1523, bw94, ⟨by decide, by decide, by decide +kernel⟩, by decide⟩
theorem kn_X8_laysAll : aKnown mX8_laysAll 0 := ⟨bw1545, bw94, ⟨by decide, by decide, by decide +kernel⟩, by decide⟩
theorem kn_X8_isAlike : aKnown mX8_isAlike 2 := ⟨bw1549, bw94, ⟨by decide, by decide, by decide +kernel⟩, by decide⟩
theorem kn_X8_ring : aKnown mX8_ring 1 := ⟨bw1541, bw94, ⟨by decide, by decide, by decide +kernel⟩, by decide⟩
theorem kn_X8_worthOf : aKnown mX8_worthOf 1 := ⟨bw1558, bw94, ⟨by decide, by decide, by decide +kernel⟩, by decide⟩
theorem kn_X8_pence : aKnown mX8_pence 2 := ⟨bw1553, bw94, ⟨by decide, by decide, by decide +kernel⟩, by decide⟩
theorem kn_X8_note : aKnown mX8_note 3 := ⟨bw1562, bw94, ⟨by decide, by decide, by decide +kernel⟩, by decide⟩
theorem kn_X8_doNotesFit : aKnown mX8_doNotesFit 0 := ⟨bw1574, bw94, ⟨by decide, by decide, by decide +kernel⟩, by decide⟩
theorem kn_X8_couldRule : aKnown mX8_couldRule 1 := ⟨bw1570, bw94, ⟨by decide, by decide, by decide +kernel⟩, by decide⟩
theorem kn_X8_ruled : aKnown mX8_ruled 1 := ⟨bw1566, bw94, ⟨by decide, by decide, by decide +kernel⟩, by decide⟩
theorem kn_X8_knowing : aKnown mX8_knowing 2 := ⟨bw1578, bw94, ⟨by decide, by decide, by decide +kernel⟩, by decide⟩
theorem kn_X8_mostAlike : aKnown mX8_mostAlike 2 := ⟨bw1586, bw94, ⟨by decide, by decide, by decide +kernel⟩, by decide⟩
theorem kn_X8_look : aKnown mX8_look 2 := ⟨bw1582, bw94, ⟨by decide, by decide, by decide +kernel⟩, by decide⟩
theorem kn_X8_seed : aKnown mX8_seed 1 := ⟨bw1590, bw94, ⟨by decide, by decide, by decide +kernel⟩, by decide⟩
theorem kn_X8_draws : aKnown mX8_draws 1 := ⟨bw1599, bw94, ⟨by decide, by decide, by decide +kernel⟩, by decide⟩
theorem kn_X8_visits : aKnown mX8_visits 4 := ⟨bw1594, bw94, ⟨by decide, by decide, by decide +kernel⟩, by decide⟩
theorem kn_X8_allDue : aKnown mX8_allDue 0 := ⟨bw1611, bw94, ⟨by decide, by decide, by decide +kernel⟩, by decide⟩
theorem kn_X8_count : aKnown mX8_count 1 := ⟨bw1607, bw94, ⟨by decide, by decide, by decide +kernel⟩, by decide⟩
theorem kn_X8_carryRow : aKnown mX8_carryRow 1 := ⟨bw1477, bw94, ⟨by decide, by decide, by decide +kernel⟩, by decide⟩
theorem kn_X8_carriesAll : aKnown mX8_carriesAll 2 := ⟨bw1473, bw94, ⟨by decide, by decide, by decide +kernel⟩, by decide⟩
theorem kn_X8_image : aKnown mX8_image 1 := ⟨bw1615, bw94, ⟨by decide, by decide, by decide +kernel⟩, by decide⟩
theorem kn_X8_back : aKnown mX8_back 1 := ⟨bw1619, bw94, ⟨by decide, by decide, by decide +kernel⟩, by decide⟩
theorem kn_J6_bitCount_0f7a4 : aKnown mJ6_bitCount_0f7a4 1 := ⟨bw752, bw104, ⟨by decide, by decide, by decide +kernel⟩, by decide⟩
theorem kn_J0_length_8abf5 : aKnown mJ0_length_8abf5 0 := ⟨bw405, bw96, ⟨by decide, by decide, by decide +kernel⟩, by decide⟩
theorem kn_J0_charAt_5068e : aKnown mJ0_charAt_5068e 1 := ⟨bw415, bw96, ⟨by decide, by decide, by decide +kernel⟩, by decide⟩
theorem kn_J0_indexOf_0f7a4 : aKnown mJ0_indexOf_0f7a4 1 := ⟨bw547, bw96, ⟨by decide, by decide, by decide +kernel⟩, by decide⟩
theorem kn_J0_indexOf_7cf53 : aKnown mJ0_indexOf_7cf53 2 := ⟨bw551, bw96, ⟨by decide, by decide, by decide +kernel⟩, by decide⟩
theorem kn_J0_coder_7d493 : aKnown mJ0_coder_7d493 0 := ⟨bw409, bw96, ⟨by decide, by decide, by decide +kernel⟩, by decide⟩
theorem kn_J0_isLatin1_aae02 : aKnown mJ0_isLatin1_aae02 0 := ⟨bw419, bw96, ⟨by decide, by decide, by decide +kernel⟩, by decide⟩
theorem kn_J0_checkIndex_df160 : aKnown mJ0_checkIndex_df160 2 := ⟨bw425, bw96, ⟨by decide, by decide, by decide +kernel⟩, by decide⟩
theorem kn_J1_charAt_3b067 : aKnown mJ1_charAt_3b067 2 := ⟨bw422, bw97, ⟨by decide, by decide, by decide +kernel⟩, by decide⟩
theorem kn_J1_canEncode_9a6ad : aKnown mJ1_canEncode_9a6ad 1 := ⟨bw558, bw97, ⟨by decide, by decide, by decide +kernel⟩, by decide⟩
theorem kn_J1_indexOf_4cfef : aKnown mJ1_indexOf_4cfef 4 := ⟨bw555, bw97, ⟨by decide, by decide, by decide +kernel⟩, by decide⟩
theorem kn_J1_indexOfChar_4cfef : aKnown mJ1_indexOfChar_4cfef 4 := ⟨bw567, bw97, ⟨by decide, by decide, by decide +kernel⟩, by decide⟩
theorem kn_J3_checkIndex_8e157 : aKnown mJ3_checkIndex_8e157 3 := ⟨bw430, bw98, ⟨by decide, by decide, by decide +kernel⟩, by decide⟩
theorem kn_X1_init : aKnown mX1_init 0 := ⟨bw311, bw93, ⟨by decide, by decide, by decide +kernel⟩, by decide⟩
theorem kn_X3_init : aKnown mX3_init 0 := ⟨bw220, bw92, ⟨by decide, by decide, by decide +kernel⟩, by decide⟩
theorem kn_X4_init : aKnown mX4_init 0 := ⟨bw117, bw89, ⟨by decide, by decide, by decide +kernel⟩, by decide⟩
theorem kn_X5_init : aKnown mX5_init 0 := ⟨bw145, bw90, ⟨by decide, by decide, by decide +kernel⟩, by decide⟩
theorem kn_X6_init : aKnown mX6_init 0 := ⟨bw212, bw91, ⟨by decide, by decide, by decide +kernel⟩, by decide⟩
theorem kn_X7_init : aKnown mX7_init 0 := ⟨bw109, bw88, ⟨by decide, by decide, by decide +kernel⟩, by decide⟩
theorem kn_X8_init : aKnown mX8_init 0 := ⟨bw966, bw94, ⟨by decide, by decide, by decide +kernel⟩, by decide⟩
