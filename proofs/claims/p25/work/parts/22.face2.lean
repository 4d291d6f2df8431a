/-! the class's calls -/
abbrev gAns : Type := gR × CS
def vI (x : Int32) : gR := .inr (.int x)
def gDone (Post : Option Value → gH → Prop) (X : String → gH → Prop) (a : Nat) (n n' : Nat → Nat) (h : gH) (r : gAns) : Prop := ∀ h', ClsAt h' a n n' r.2 → gFr (cS n n') h h' → gOut Post X h' r.1
theorem gDone.exc {Post : Option Value → gH → Prop} {X : String → gH → Prop} {a : Nat} {n n' : Nat → Nat} {h : gH} {r : gAns} {S : CS} {E : String} (hp : gDone Post X a n n' h r) (C : ClsAt h a n n' S) (e : r = (.inl E, S)) : X E h := by
  subst e
  exact hp h C (gFr_rf _ _)
theorem gDone.to {Post : Option Value → gH → Prop} {X : String → gH → Prop} {a : Nat} {n n' : Nat → Nat} {h h' : gH} {r : gAns} {S : CS} {x : Int32} (hp : gDone Post X a n n' h r) (C : ClsAt h' a n n' S) (F : gFr (cS n n') h h') (e : r = (vI x, S)) : Post (some (.int x)) h' := by
  subst e
  exact hp h' C F
theorem gDone.val {Post : Option Value → gH → Prop} {X : String → gH → Prop} {a : Nat} {n n' : Nat → Nat} {h : gH} {r : gAns} {S : CS} {x : Int32} (hp : gDone Post X a n n' h r) (C : ClsAt h a n n' S) (e : r = (vI x, S)) : Post (some (.int x)) h := hp.to C (gFr_rf _ _) e
theorem okR_ex {x : Int32} {k : Nat} (hk : k < 2 ^ 31) (h : okR x k = true) : ∃ j, j < k ∧ x = nI j ∧ (nI j).toNatClampNeg = j := by
  obtain ⟨h1, h2⟩ := okR_of hk h
  exact ⟨_, h1, h2, nI_clamp (by omega)⟩
theorem okH_ex {x : Int32} {k : Nat} (hk : k < 2 ^ 31) (h : okH x k = true) : ∃ j, 1 ≤ j ∧ j ≤ k ∧ x = nI j ∧ (nI j).toNatClampNeg = j := by
  obtain ⟨h0, h1, h2⟩ := okH_of hk h
  exact ⟨_, h0, h1, h2, nI_clamp (by omega)⟩
theorem gFr.house {n : Nat → Nat} {h h' : gH} (F : gFr [n 1, n 3] h h') : gFr (nS n) h h' := F.mono (by simp [nS])
theorem ClsAt.house {h h' : gH} {a : Nat} {n n' : Nat → Nat} {S : CS} (C : ClsAt h a n n' S) {L' : Nat → Int64} {am' : Nat → Int32} (H : HouseAt h' (n 1) (n 2) (n 3) L' am') (F : gFr [n 1, n 3] h h') : ClsAt h' a n n' (L', am', S.2.2) := C.now (S' := (L', am', S.2.2)) (NightAt.house C.2.1 H F) F.house

def fWall (S : CS) (x y w : Int32) : gAns :=
  if okC x y = true then
    if okR w 4 = true then
      if nbOk (cellI x y) w.toNatClampNeg = true then (vI (b01 (lb (wCells (reL (oWall S.1 (cellI x y) w.toNatClampNeg)) w.toNatClampNeg) (cellI x y))), (reL (oWall S.1 (cellI x y) w.toNatClampNeg), S.2))
      else (.inl eS, S)
    else (.inl eA, S)
  else (.inl eI, S)
set_option maxRecDepth 10000 in
theorem c_wall (d : Nat) {a : Nat} {n n' : Nat → Nat} {S : CS} {x y w : Int32} {h : gH} (C : ClsAt h a n n' S) {mc ms : Nat} (hmc : 4 ≤ mc) (hms : 24 ≤ ms) {Post : Option Value → gH → Prop} {X : String → gH → Prop} (hp : gDone Post X a n n' h (fWall S x y w)) : gSafe (d + 7) mX5_wall [.ref a, .int x, .int y, .int w] h mc ms Post X := by
  have Ca := C.1
  have N0 := C.2.1.1
  have H1 := C.2.1.2.1.1
  unfold fWall at hp
  refine ⟨Nat.le_of_ble_eq_true rfl, fun K hK => ?_⟩
  show K 0 [some (.ref a), some (.int x), some (.int y), some (.int w), none] [] _ _ _
  refine s_iload_n hK dX5_wall_0 rfl ?_
  refine s_iload_n hK dX5_wall_1 rfl ?_
  refine s_S2 hK (mc := 1) (ms := 6) dX5_wall_2 kS_X5_19 (by rfl) (by omega) (by omega) ?_
  refine c_checkedCell _ (by omega) (by omega) (fun e => (hp.exc C (by rw [if_neg (by simp [e])]) : X eI h)) (fun e => ?_)
  rw [if_pos e] at hp
  have hc := (okC_of e).1
  refine s_istore hK dX5_wall_5 rfl ?_
  refine s_iload_n hK dX5_wall_7 rfl ?_
  refine s_S1 hK (mc := 1) (ms := 6) dX5_wall_8 kS_X5_23 (by rfl) (by omega) (by omega) ?_
  refine c_checkDirection _ (by omega) (by omega) (fun e2 => (hp.exc C (by rw [if_neg (by simp [e2])]) : X eA h)) (fun e2 => ?_)
  rw [if_pos e2] at hp
  obtain ⟨k, hk, rfl, ek⟩ := okR_ex (by omega) e2
  rw [ek] at hp
  refine s_iload hK dX5_wall_11 rfl ?_
  refine s_iload_n hK dX5_wall_13 rfl ?_
  refine s_S20 hK dX5_wall_14 kS_X5_27 (by rfl) ?_
  refine c_isRim _ hc hk ?_
  cases e3 : nbOk (cellI x y) k with
  | false =>
    rw [if_neg (by simp [e3])] at hp
    refine s_ifeq hK dX5_wall_17 30 (by decide) (fun c_17 => ?_) (fun c_17 => ?_)
    · exact absurd c_17 (by decide)
    · refine s_throw hK dX5_wall_20 kT_X5_wall_20 (by omega) (by omega) (by omega) (by rfl) ?_
      exact hp.exc C rfl
  | true =>
    rw [if_pos e3] at hp
    refine s_ifeq hK dX5_wall_17 30 (by decide) (fun c_17 => ?_) (fun c_17 => ?_)
    · refine s_aload_n hK dX5_wall_30 rfl ?_
      refine s_getfield hK dX5_wall_31 kF_X5_10 (by first | assumption | exact H.1 | exact H.2.1) (by rfl) ?_
      refine s_getfield hK dX5_wall_34 kF_X5_40 (by first | assumption | exact H.1 | exact H.2.1) (by rfl) ?_
      refine s_iload hK dX5_wall_37 rfl ?_
      refine s_iload_n hK dX5_wall_39 rfl ?_
      refine s_V20 hK dX5_wall_40 kV_X5_44 (by first | assumption | exact H.1 | exact H.2.1) (by rfl) ?_
      refine c_switchWall _ hc hk C.2.1.2.1 (fun h1 K1 F1 => ?_)
      have C1 := C.house K1 F1
      have Ca := C1.1
      have N0 := C1.2.1.1
      have H1 := C1.2.1.2.1.1
      refine s_aload_n hK dX5_wall_43 rfl ?_
      refine s_getfield hK dX5_wall_44 kF_X5_10 (by first | assumption | exact H.1 | exact H.2.1) (by rfl) ?_
      refine s_getfield hK dX5_wall_47 kF_X5_40 (by first | assumption | exact H.1 | exact H.2.1) (by rfl) ?_
      refine s_iload hK dX5_wall_50 rfl ?_
      refine s_iload_n hK dX5_wall_52 rfl ?_
      refine s_V20 hK dX5_wall_53 kV_X5_50 (by first | assumption | exact H.1 | exact H.2.1) (by rfl) ?_
      refine c_hasWall _ hk hc K1 ?_
      refine s_ireturn hK dX5_wall_56 rfl (by first | rfl | exact b01_nar _) ?_
      · exact hp.to C1 F1.house.now rfl
    · exact absurd rfl c_17
def fCandle (S : CS) (x y w : Int32) : gAns :=
  if okC x y = true then
    if okH w 60 = true then
      if iPop (S.1 0) < nI 10 ∧ thg S.1 (cellI x y) = 0 then (vI (iPop (reL (oCandle S.1 (cellI x y)) 0)), (reL (oCandle S.1 (cellI x y)), upd S.2.1 (cellI x y) w, S.2.2))
      else (.inl eS, S)
    else (.inl eA, S)
  else (.inl eI, S)
set_option maxRecDepth 10000 in
theorem c_candle (d : Nat) {a : Nat} {n n' : Nat → Nat} {S : CS} {x y w : Int32} {h : gH} (C : ClsAt h a n n' S) {mc ms : Nat} (hmc : 4 ≤ mc) (hms : 24 ≤ ms) {Post : Option Value → gH → Prop} {X : String → gH → Prop} (hp : gDone Post X a n n' h (fCandle S x y w)) : gSafe (d + 7) mX5_candle [.ref a, .int x, .int y, .int w] h mc ms Post X := by
  have Ca := C.1
  have N0 := C.2.1.1
  have H1 := C.2.1.2.1.1
  unfold fCandle at hp
  refine ⟨Nat.le_of_ble_eq_true rfl, fun K hK => ?_⟩
  show K 0 [some (.ref a), some (.int x), some (.int y), some (.int w), none] [] _ _ _
  refine s_iload_n hK dX5_candle_0 rfl ?_
  refine s_iload_n hK dX5_candle_1 rfl ?_
  refine s_S2 hK (mc := 1) (ms := 6) dX5_candle_2 kS_X5_19 (by rfl) (by omega) (by omega) ?_
  refine c_checkedCell _ (by omega) (by omega) (fun e => (hp.exc C (by rw [if_neg (by simp [e])]) : X eI h)) (fun e => ?_)
  rw [if_pos e] at hp
  have hc := (okC_of e).1
  refine s_istore hK dX5_candle_5 rfl ?_
  have bad : okH w 60 = false → K 18 [some (.ref a), some (.int x), some (.int y), some (.int w), some (.int (nI (cellI x y)))] [] h (mc - 1) (ms - 6) := by
    intro e2
    refine s_throw hK dX5_candle_18 kT_X5_candle_18 (by omega) (by omega) (by omega) (by rfl) ?_
    exact hp.exc C (by rw [if_neg (by simp [e2])])
  refine s_iload_n hK dX5_candle_7 rfl ?_
  refine s_iconst hK (v := 1) dX5_candle_8 (by decide) ?_
  refine s_icmplt hK dX5_candle_9 18 (by decide) (fun c_9 => ?_) (fun c_9 => ?_)
  · exact bad (by simp [okH, c_9])
  · refine s_iload_n hK dX5_candle_12 rfl ?_
    refine s_bipush hK (v := 60) dX5_candle_13 (by decide) ?_
    refine s_icmple hK dX5_candle_15 28 (by decide) (fun c_15 => ?_) (fun c_15 => ?_)
    · have e2 : okH w 60 = true := by
        have q : w ≤ nI 60 := c_15
        simp [okH, c_9, q]
      rw [if_pos e2] at hp
      refine s_aload_n hK dX5_candle_28 rfl ?_
      refine s_aload_n hK dX5_candle_29 rfl ?_
      refine s_getfield hK dX5_candle_30 kF_X5_10 (by first | assumption | exact H.1 | exact H.2.1) (by rfl) ?_
      refine s_getfield hK dX5_candle_33 kF_X5_40 (by first | assumption | exact H.1 | exact H.2.1) (by rfl) ?_
      refine s_V00 hK dX5_candle_36 kV_X5_58 (by first | assumption | exact H.1 | exact H.2.1) (by rfl) ?_
      refine c_candleCount _ C.2.1.2.1 ?_
      refine s_bipush hK (v := 10) dX5_candle_39 (by decide) ?_
      refine s_iload hK dX5_candle_41 rfl ?_
      refine s_V3 hK (mc := 1) (ms := 6) dX5_candle_43 kV_X5_62 (by first | assumption | exact H.1 | exact H.2.1) (by rfl) (by omega) (by omega) ?_
      refine c_checkRoomFor (k := 10) _ hc C (by omega) (by omega) (fun e3 => (hp.exc C (by rw [if_neg (of_eq_false e3)]) : X eS h)) (fun e3 e4 => ?_)
      rw [if_pos ⟨e3, e4⟩] at hp
      refine s_aload_n hK dX5_candle_46 rfl ?_
      refine s_getfield hK dX5_candle_47 kF_X5_10 (by first | assumption | exact H.1 | exact H.2.1) (by rfl) ?_
      refine s_getfield hK dX5_candle_50 kF_X5_40 (by first | assumption | exact H.1 | exact H.2.1) (by rfl) ?_
      refine s_iload hK dX5_candle_53 rfl ?_
      refine s_iload_n hK dX5_candle_55 rfl ?_
      refine s_V20 hK dX5_candle_56 kV_X5_66 (by first | assumption | exact H.1 | exact H.2.1) (by rfl) ?_
      refine c_addCandle _ hc C.2.1.2.1 (fun h1 K1 F1 => ?_)
      have C1 := C.house K1 F1
      have Ca := C1.1
      have N0 := C1.2.1.1
      have H1 := C1.2.1.2.1.1
      refine s_aload_n hK dX5_candle_59 rfl ?_
      refine s_getfield hK dX5_candle_60 kF_X5_10 (by first | assumption | exact H.1 | exact H.2.1) (by rfl) ?_
      refine s_getfield hK dX5_candle_63 kF_X5_40 (by first | assumption | exact H.1 | exact H.2.1) (by rfl) ?_
      refine s_V00 hK dX5_candle_66 kV_X5_58 (by first | assumption | exact H.1 | exact H.2.1) (by rfl) ?_
      refine c_candleCount _ K1 ?_
      refine s_ireturn hK dX5_candle_69 rfl (by first | rfl | exact b01_nar _) ?_
      · exact hp.to C1 F1.house.now rfl
    · refine bad ?_
      have q : ¬ w ≤ nI 60 := c_15
      simp [okH, q]
def fMirror (S : CS) (x y : Int32) (b : Bool) : gAns :=
  if okC x y = true then
    if iPop (S.1 2 ||| S.1 3) < nI 10 ∧ thg S.1 (cellI x y) = 0 then (vI (iPop (reL (oMirror S.1 (cellI x y) b) 2 ||| reL (oMirror S.1 (cellI x y) b) 3)), (reL (oMirror S.1 (cellI x y) b), S.2))
    else (.inl eS, S)
  else (.inl eI, S)
set_option maxRecDepth 10000 in
theorem c_mirror (d : Nat) {a : Nat} {n n' : Nat → Nat} {S : CS} {x y : Int32} {b : Bool} {h : gH} (C : ClsAt h a n n' S) {mc ms : Nat} (hmc : 4 ≤ mc) (hms : 24 ≤ ms) {Post : Option Value → gH → Prop} {X : String → gH → Prop} (hp : gDone Post X a n n' h (fMirror S x y b)) : gSafe (d + 7) mX5_mirror [.ref a, .int x, .int y, .int (b01 b)] h mc ms Post X := by
  have Ca := C.1
  have N0 := C.2.1.1
  have H1 := C.2.1.2.1.1
  unfold fMirror at hp
  refine ⟨Nat.le_of_ble_eq_true rfl, fun K hK => ?_⟩
  show K 0 [some (.ref a), some (.int x), some (.int y), some (.int (b01 b)), none] [] _ _ _
  refine s_iload_n hK dX5_mirror_0 rfl ?_
  refine s_iload_n hK dX5_mirror_1 rfl ?_
  refine s_S2 hK (mc := 1) (ms := 6) dX5_mirror_2 kS_X5_19 (by rfl) (by omega) (by omega) ?_
  refine c_checkedCell _ (by omega) (by omega) (fun e => (hp.exc C (by rw [if_neg (by simp [e])]) : X eI h)) (fun e => ?_)
  rw [if_pos e] at hp
  have hc := (okC_of e).1
  refine s_istore hK dX5_mirror_5 rfl ?_
  refine s_aload_n hK dX5_mirror_7 rfl ?_
  refine s_aload_n hK dX5_mirror_8 rfl ?_
  refine s_getfield hK dX5_mirror_9 kF_X5_10 (by first | assumption | exact H.1 | exact H.2.1) (by rfl) ?_
  refine s_getfield hK dX5_mirror_12 kF_X5_40 (by first | assumption | exact H.1 | exact H.2.1) (by rfl) ?_
  refine s_V00 hK dX5_mirror_15 kV_X5_69 (by first | assumption | exact H.1 | exact H.2.1) (by rfl) ?_
  refine c_mirrorCount _ C.2.1.2.1 ?_
  refine s_bipush hK (v := 10) dX5_mirror_18 (by decide) ?_
  refine s_iload hK dX5_mirror_20 rfl ?_
  refine s_V3 hK (mc := 1) (ms := 6) dX5_mirror_22 kV_X5_62 (by first | assumption | exact H.1 | exact H.2.1) (by rfl) (by omega) (by omega) ?_
  refine c_checkRoomFor (k := 10) _ hc C (by omega) (by omega) (fun e3 => (hp.exc C (by rw [if_neg (of_eq_false e3)]) : X eS h)) (fun e3 e4 => ?_)
  rw [if_pos ⟨e3, e4⟩] at hp
  refine s_aload_n hK dX5_mirror_25 rfl ?_
  refine s_getfield hK dX5_mirror_26 kF_X5_10 (by first | assumption | exact H.1 | exact H.2.1) (by rfl) ?_
  refine s_getfield hK dX5_mirror_29 kF_X5_40 (by first | assumption | exact H.1 | exact H.2.1) (by rfl) ?_
  refine s_iload hK dX5_mirror_32 rfl ?_
  refine s_iload_n hK dX5_mirror_34 rfl ?_
  refine s_V20 hK dX5_mirror_35 kV_X5_72 (by first | assumption | exact H.1 | exact H.2.1) (by rfl) ?_
  refine c_addMirror _ hc C.2.1.2.1 (fun h1 K1 F1 => ?_)
  have C1 := C.house K1 F1
  have Ca := C1.1
  have N0 := C1.2.1.1
  have H1 := C1.2.1.2.1.1
  refine s_aload_n hK dX5_mirror_38 rfl ?_
  refine s_getfield hK dX5_mirror_39 kF_X5_10 (by first | assumption | exact H.1 | exact H.2.1) (by rfl) ?_
  refine s_getfield hK dX5_mirror_42 kF_X5_40 (by first | assumption | exact H.1 | exact H.2.1) (by rfl) ?_
  refine s_V00 hK dX5_mirror_45 kV_X5_69 (by first | assumption | exact H.1 | exact H.2.1) (by rfl) ?_
  refine c_mirrorCount _ K1 ?_
  refine s_ireturn hK dX5_mirror_48 rfl (by first | rfl | exact b01_nar _) ?_
  exact hp.to C1 F1.house.now rfl
def fTally (S : CS) (x y : Int32) : gAns :=
  if okC x y = true then
    if iPop (S.1 4) < nI 6 ∧ thg S.1 (cellI x y) = 0 then (vI (iPop (oTally S.1 (cellI x y) 4)), (oTally S.1 (cellI x y), S.2))
    else (.inl eS, S)
  else (.inl eI, S)
set_option maxRecDepth 10000 in
theorem c_tally (d : Nat) {a : Nat} {n n' : Nat → Nat} {S : CS} {x y : Int32} {h : gH} (C : ClsAt h a n n' S) {mc ms : Nat} (hmc : 4 ≤ mc) (hms : 24 ≤ ms) {Post : Option Value → gH → Prop} {X : String → gH → Prop} (hp : gDone Post X a n n' h (fTally S x y)) : gSafe (d + 7) mX5_tally [.ref a, .int x, .int y] h mc ms Post X := by
  have Ca := C.1
  have N0 := C.2.1.1
  have H1 := C.2.1.2.1.1
  unfold fTally at hp
  refine ⟨Nat.le_of_ble_eq_true rfl, fun K hK => ?_⟩
  show K 0 [some (.ref a), some (.int x), some (.int y), none] [] _ _ _
  refine s_iload_n hK dX5_tally_0 rfl ?_
  refine s_iload_n hK dX5_tally_1 rfl ?_
  refine s_S2 hK (mc := 1) (ms := 6) dX5_tally_2 kS_X5_19 (by rfl) (by omega) (by omega) ?_
  refine c_checkedCell _ (by omega) (by omega) (fun e => (hp.exc C (by rw [if_neg (by simp [e])]) : X eI h)) (fun e => ?_)
  rw [if_pos e] at hp
  have hc := (okC_of e).1
  refine s_istore_n hK dX5_tally_5 rfl ?_
  refine s_aload_n hK dX5_tally_6 rfl ?_
  refine s_aload_n hK dX5_tally_7 rfl ?_
  refine s_getfield hK dX5_tally_8 kF_X5_10 (by first | assumption | exact H.1 | exact H.2.1) (by rfl) ?_
  refine s_getfield hK dX5_tally_11 kF_X5_40 (by first | assumption | exact H.1 | exact H.2.1) (by rfl) ?_
  refine s_V00 hK dX5_tally_14 kV_X5_76 (by first | assumption | exact H.1 | exact H.2.1) (by rfl) ?_
  refine c_tallyCount _ C.2.1.2.1 ?_
  refine s_bipush hK (v := 6) dX5_tally_17 (by decide) ?_
  refine s_iload_n hK dX5_tally_19 rfl ?_
  refine s_V3 hK (mc := 1) (ms := 6) dX5_tally_20 kV_X5_62 (by first | assumption | exact H.1 | exact H.2.1) (by rfl) (by omega) (by omega) ?_
  refine c_checkRoomFor (k := 6) _ hc C (by omega) (by omega) (fun e3 => (hp.exc C (by rw [if_neg (of_eq_false e3)]) : X eS h)) (fun e3 e4 => ?_)
  rw [if_pos ⟨e3, e4⟩] at hp
  refine s_aload_n hK dX5_tally_23 rfl ?_
  refine s_getfield hK dX5_tally_24 kF_X5_10 (by first | assumption | exact H.1 | exact H.2.1) (by rfl) ?_
  refine s_getfield hK dX5_tally_27 kF_X5_40 (by first | assumption | exact H.1 | exact H.2.1) (by rfl) ?_
  refine s_iload_n hK dX5_tally_30 rfl ?_
  refine s_V10 hK dX5_tally_31 kV_X5_79 (by first | assumption | exact H.1 | exact H.2.1) (by rfl) ?_
  refine c_addTally _ hc C.2.1.2.1 (fun h1 K1 F1 => ?_)
  have C1 := C.house K1 F1
  have Ca := C1.1
  have N0 := C1.2.1.1
  have H1 := C1.2.1.2.1.1
  refine s_aload_n hK dX5_tally_34 rfl ?_
  refine s_getfield hK dX5_tally_35 kF_X5_10 (by first | assumption | exact H.1 | exact H.2.1) (by rfl) ?_
  refine s_getfield hK dX5_tally_38 kF_X5_40 (by first | assumption | exact H.1 | exact H.2.1) (by rfl) ?_
  refine s_V00 hK dX5_tally_41 kV_X5_76 (by first | assumption | exact H.1 | exact H.2.1) (by rfl) ?_
  refine c_tallyCount _ K1 ?_
  refine s_ireturn hK dX5_tally_44 rfl (by first | rfl | exact b01_nar _) ?_
  exact hp.to C1 F1.house.now rfl
def fRemove (S : CS) (x y : Int32) : gAns :=
  if okC x y = true then
    if thg S.1 (cellI x y) = 0 then (.inl eS, S)
    else (vI (nI (thg S.1 (cellI x y))), (reL (oClear S.1 (cellI x y)), upd S.2.1 (cellI x y) 0, S.2.2))
  else (.inl eI, S)
theorem thg_lt (L : Nat → Int64) (c : Nat) : thg L c < 5 := by
  unfold thg
  repeat' split
  all_goals omega
set_option maxRecDepth 10000 in
theorem c_remove (d : Nat) {a : Nat} {n n' : Nat → Nat} {S : CS} {x y : Int32} {h : gH} (C : ClsAt h a n n' S) {mc ms : Nat} (hmc : 4 ≤ mc) (hms : 24 ≤ ms) {Post : Option Value → gH → Prop} {X : String → gH → Prop} (hp : gDone Post X a n n' h (fRemove S x y)) : gSafe (d + 7) mX5_remove [.ref a, .int x, .int y] h mc ms Post X := by
  have Ca := C.1
  have N0 := C.2.1.1
  have H1 := C.2.1.2.1.1
  unfold fRemove at hp
  refine ⟨Nat.le_of_ble_eq_true rfl, fun K hK => ?_⟩
  show K 0 [some (.ref a), some (.int x), some (.int y), none, none] [] _ _ _
  refine s_iload_n hK dX5_remove_0 rfl ?_
  refine s_iload_n hK dX5_remove_1 rfl ?_
  refine s_S2 hK (mc := 1) (ms := 6) dX5_remove_2 kS_X5_19 (by rfl) (by omega) (by omega) ?_
  refine c_checkedCell _ (by omega) (by omega) (fun e => (hp.exc C (by rw [if_neg (by simp [e])]) : X eI h)) (fun e => ?_)
  rw [if_pos e] at hp
  have hc := (okC_of e).1
  have t5 := thg_lt S.1 (cellI x y)
  refine s_istore_n hK dX5_remove_5 rfl ?_
  refine s_aload_n hK dX5_remove_6 rfl ?_
  refine s_getfield hK dX5_remove_7 kF_X5_10 (by first | assumption | exact H.1 | exact H.2.1) (by rfl) ?_
  refine s_getfield hK dX5_remove_10 kF_X5_40 (by first | assumption | exact H.1 | exact H.2.1) (by rfl) ?_
  refine s_iload_n hK dX5_remove_13 rfl ?_
  refine s_V10 hK dX5_remove_14 kV_X5_82 (by first | assumption | exact H.1 | exact H.2.1) (by rfl) ?_
  refine c_thingIn _ hc C.2.1.2.1 ?_
  refine s_istore hK dX5_remove_17 rfl ?_
  refine s_iload hK dX5_remove_19 rfl ?_
  refine s_ifne hK dX5_remove_21 34 (by decide) (fun c_21 => ?_) (fun c_21 => ?_)
  · rw [if_neg (fun q => c_21 (by rw [q]; rfl))] at hp
    refine s_aload_n hK dX5_remove_34 rfl ?_
    refine s_getfield hK dX5_remove_35 kF_X5_10 (by first | assumption | exact H.1 | exact H.2.1) (by rfl) ?_
    refine s_getfield hK dX5_remove_38 kF_X5_40 (by first | assumption | exact H.1 | exact H.2.1) (by rfl) ?_
    refine s_iload_n hK dX5_remove_41 rfl ?_
    refine s_V10 hK dX5_remove_42 kV_X5_88 (by first | assumption | exact H.1 | exact H.2.1) (by rfl) ?_
    refine c_clear _ hc C.2.1.2.1 (fun h1 K1 F1 => ?_)
    have C1 := C.house K1 F1
    refine s_iload hK dX5_remove_45 rfl ?_
    refine s_ireturn hK dX5_remove_47 rfl (by first | rfl | exact b01_nar _) ?_
    exact hp.to C1 F1.house.now rfl
  · rw [if_pos ((nI_eq (b := 0) (by omega) (by omega)).mp c_21)] at hp
    refine s_throw hK dX5_remove_24 kT_X5_remove_24 (by omega) (by omega) (by omega) (by rfl) ?_
    exact hp.exc C rfl
def fLight (S : CS) (x y : Int32) : gAns :=
  if okC x y = true then
    if cwax S.1 S.2.1 (cellI x y) = true then (vI (b01 (lb (reL (oSwitch S.1 (cellI x y)) 1) (cellI x y))), (reL (oSwitch S.1 (cellI x y)), S.2))
    else (.inl eS, S)
  else (.inl eI, S)
set_option maxRecDepth 10000 in
theorem c_light (d : Nat) {a : Nat} {n n' : Nat → Nat} {S : CS} {x y : Int32} {h : gH} (C : ClsAt h a n n' S) {mc ms : Nat} (hmc : 4 ≤ mc) (hms : 24 ≤ ms) {Post : Option Value → gH → Prop} {X : String → gH → Prop} (hp : gDone Post X a n n' h (fLight S x y)) : gSafe (d + 7) mX5_light [.ref a, .int x, .int y] h mc ms Post X := by
  have Ca := C.1
  have N0 := C.2.1.1
  have H1 := C.2.1.2.1.1
  unfold fLight at hp
  refine ⟨Nat.le_of_ble_eq_true rfl, fun K hK => ?_⟩
  show K 0 [some (.ref a), some (.int x), some (.int y), none] [] _ _ _
  refine s_iload_n hK dX5_light_0 rfl ?_
  refine s_iload_n hK dX5_light_1 rfl ?_
  refine s_S2 hK (mc := 1) (ms := 6) dX5_light_2 kS_X5_19 (by rfl) (by omega) (by omega) ?_
  refine c_checkedCell _ (by omega) (by omega) (fun e => (hp.exc C (by rw [if_neg (by simp [e])]) : X eI h)) (fun e => ?_)
  rw [if_pos e] at hp
  have hc := (okC_of e).1
  refine s_istore_n hK dX5_light_5 rfl ?_
  refine s_aload_n hK dX5_light_6 rfl ?_
  refine s_getfield hK dX5_light_7 kF_X5_10 (by first | assumption | exact H.1 | exact H.2.1) (by rfl) ?_
  refine s_getfield hK dX5_light_10 kF_X5_40 (by first | assumption | exact H.1 | exact H.2.1) (by rfl) ?_
  refine s_iload_n hK dX5_light_13 rfl ?_
  refine s_V10 hK dX5_light_14 kV_X5_91 (by first | assumption | exact H.1 | exact H.2.1) (by rfl) ?_
  refine c_hasCandleWithWax _ hc C.2.1.2.1 ?_
  cases e3 : cwax S.1 S.2.1 (cellI x y) with
  | false =>
    rw [if_neg (by simp [e3])] at hp
    refine s_ifne hK dX5_light_17 30 (by decide) (fun c_17 => ?_) (fun c_17 => ?_)
    · exact absurd rfl c_17
    · refine s_throw hK dX5_light_20 kT_X5_light_20 (by omega) (by omega) (by omega) (by rfl) ?_
      exact hp.exc C rfl
  | true =>
    rw [if_pos e3] at hp
    refine s_ifne hK dX5_light_17 30 (by decide) (fun c_17 => ?_) (fun c_17 => ?_)
    · refine s_aload_n hK dX5_light_30 rfl ?_
      refine s_getfield hK dX5_light_31 kF_X5_10 (by first | assumption | exact H.1 | exact H.2.1) (by rfl) ?_
      refine s_getfield hK dX5_light_34 kF_X5_40 (by first | assumption | exact H.1 | exact H.2.1) (by rfl) ?_
      refine s_iload_n hK dX5_light_37 rfl ?_
      refine s_V10 hK dX5_light_38 kV_X5_97 (by first | assumption | exact H.1 | exact H.2.1) (by rfl) ?_
      refine c_switchCandle _ hc C.2.1.2.1 (fun h1 K1 F1 => ?_)
      have C1 := C.house K1 F1
      have Ca := C1.1
      have N0 := C1.2.1.1
      have H1 := C1.2.1.2.1.1
      refine s_aload_n hK dX5_light_41 rfl ?_
      refine s_getfield hK dX5_light_42 kF_X5_10 (by first | assumption | exact H.1 | exact H.2.1) (by rfl) ?_
      refine s_getfield hK dX5_light_45 kF_X5_40 (by first | assumption | exact H.1 | exact H.2.1) (by rfl) ?_
      refine s_iload_n hK dX5_light_48 rfl ?_
      refine s_V10 hK dX5_light_49 kV_X5_100 (by first | assumption | exact H.1 | exact H.2.1) (by rfl) ?_
      refine c_isBurning _ hc K1 ?_
      refine s_ireturn hK dX5_light_52 rfl (by first | rfl | exact b01_nar _) ?_
      exact hp.to C1 F1.house.now rfl
    · exact absurd c_17 (by decide)
