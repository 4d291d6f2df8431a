/-! the class's calls on ghosts and on what is there -/
theorem ClsAt.night {h h' : gH} {a : Nat} {n n' : Nat → Nat} {S S' : CS} (C : ClsAt h a n n' S) (N : NightAt h' n S'.1 S'.2.1 S'.2.2.1 S'.2.2.2.1 S'.2.2.2.2) (F : gFr (nS n) h h') : ClsAt h' a n n' S' := C.now N F
def fCome (S : CS) (x y p : Int32) : gAns :=
  if okC x y = true then
    if okH p 3 = true then
      if S.2.2.2.1 < 6 then (vI (nI S.2.2.2.1), (S.1, S.2.1, addG S.2.2.1 S.2.2.2.1 (cellI x y) p.toNatClampNeg, S.2.2.2.1 + 1, S.2.2.2.2))
      else (.inl eS, S)
    else (.inl eA, S)
  else (.inl eI, S)
set_option maxRecDepth 10000 in
theorem c_come (d : Nat) {a : Nat} {n n' : Nat → Nat} {S : CS} {x y p : Int32} {h : gH} (C : ClsAt h a n n' S) (ok : CSok S) {mc ms : Nat} (hmc : 4 ≤ mc) (hms : 24 ≤ ms) {Post : Option Value → gH → Prop} {X : String → gH → Prop} (hp : gDone Post X a n n' h (fCome S x y p)) : gSafe (d + 7) mX5_come [.ref a, .int x, .int y, .int p] h mc ms Post X := by
  have Ca := C.1
  have N0 := C.2.1.1
  have H1 := C.2.1.2.1.1
  unfold fCome at hp
  have h6 := ok.1
  refine ⟨Nat.le_of_ble_eq_true rfl, fun K hK => ?_⟩
  show K 0 [some (.ref a), some (.int x), some (.int y), some (.int p), none] [] _ _ _
  refine s_iload_n hK dX5_come_0 rfl ?_
  refine s_iload_n hK dX5_come_1 rfl ?_
  refine s_S2 hK (mc := 1) (ms := 6) dX5_come_2 kS_X5_19 (by rfl) (by omega) (by omega) ?_
  refine c_checkedCell _ (by omega) (by omega) (fun e => (hp.exc C (by rw [if_neg (by simp [e])]) : X eI h)) (fun e => ?_)
  rw [if_pos e] at hp
  have hc := (okC_of e).1
  refine s_istore hK dX5_come_5 rfl ?_
  have bad : okH p 3 = false → K 17 [some (.ref a), some (.int x), some (.int y), some (.int p), some (.int (nI (cellI x y)))] [] h (mc - 1) (ms - 6) := by
    intro e2
    refine s_throw hK dX5_come_17 kT_X5_come_17 (by omega) (by omega) (by omega) (by rfl) ?_
    exact hp.exc C (by rw [if_neg (by simp [e2])])
  refine s_iload_n hK dX5_come_7 rfl ?_
  refine s_iconst hK (v := 1) dX5_come_8 (by decide) ?_
  refine s_icmplt hK dX5_come_9 17 (by decide) (fun c_9 => ?_) (fun c_9 => ?_)
  · exact bad (by simp [okH, c_9])
  · refine s_iload_n hK dX5_come_12 rfl ?_
    refine s_iconst hK (v := 3) dX5_come_13 (by decide) ?_
    refine s_icmple hK dX5_come_14 27 (by decide) (fun c_14 => ?_) (fun c_14 => ?_)
    · have e2 : okH p 3 = true := by
        have q : p ≤ nI 3 := c_14
        simp [okH, c_9, q]
      rw [if_pos e2] at hp
      obtain ⟨k, hk0, hk, rfl, ek⟩ := okH_ex (by omega) e2
      rw [ek] at hp
      refine s_aload_n hK dX5_come_27 rfl ?_
      refine s_getfield hK dX5_come_28 kF_X5_10 (by first | assumption | exact H.1 | exact H.2.1) (by rfl) ?_
      refine s_getfield hK dX5_come_31 kF_X5_105 (by first | assumption | exact H.1 | exact H.2.1) (by rfl) ?_
      refine s_bipush hK (v := 6) dX5_come_34 (by decide) ?_
      refine s_icmplt hK dX5_come_36 49 (by decide) (fun c_36 => ?_) (fun c_36 => ?_)
      · have q : S.2.2.2.1 < 6 := (nI_ltI (by omega) (by omega)).mp (show nI S.2.2.2.1 < nI 6 from c_36)
        rw [if_pos q] at hp
        refine s_aload_n hK dX5_come_49 rfl ?_
        refine s_getfield hK dX5_come_50 kF_X5_10 (by first | assumption | exact H.1 | exact H.2.1) (by rfl) ?_
        refine s_iload hK dX5_come_53 rfl ?_
        refine s_iload_n hK dX5_come_55 rfl ?_
        refine s_V20 hK dX5_come_56 kV_X5_111 (by first | assumption | exact H.1 | exact H.2.1) (by rfl) ?_
        refine c_addGhost _ q hc C.2.1 (fun h1 N1 F1 => ?_)
        refine s_ireturn hK dX5_come_59 rfl (by first | rfl | exact b01_nar _) ?_
        exact hp.to (C.night (S' := (S.1, S.2.1, addG S.2.2.1 S.2.2.2.1 (cellI x y) k, S.2.2.2.1 + 1, S.2.2.2.2)) N1 F1) F1.now rfl
      · have q : ¬ S.2.2.2.1 < 6 := fun z => c_36 (show nI S.2.2.2.1 < nI 6 from (nI_ltI (by omega) (by omega)).mpr z)
        rw [if_neg q] at hp
        refine s_throw hK dX5_come_39 kT_X5_come_39 (by omega) (by omega) (by omega) (by rfl) ?_
        exact hp.exc C rfl
    · refine bad ?_
      have q : ¬ p ≤ nI 3 := c_14
      simp [okH, q]
def fSend (S : CS) (g x y : Int32) : gAns :=
  if okR g S.2.2.2.1 = true then
    if okC x y = true then (vI (stpF S.1 (setG S.2.2.1 g.toNatClampNeg 2 (cellI x y) g.toNatClampNeg 0) (cellI x y) (mpG (setG S.2.2.1 g.toNatClampNeg 2 (cellI x y)) g.toNatClampNeg)), (S.1, S.2.1, setG S.2.2.1 g.toNatClampNeg 2 (cellI x y), S.2.2.2))
    else (.inl eI, S)
  else (.inl eI, S)
set_option maxRecDepth 10000 in
theorem c_send (d : Nat) {a : Nat} {n n' : Nat → Nat} {S : CS} {g x y : Int32} {h : gH} (C : ClsAt h a n n' S) (ok : CSok S) {mc ms : Nat} (hmc : 4 ≤ mc) (hms : 24 ≤ ms) {Post : Option Value → gH → Prop} {X : String → gH → Prop} (hp : gDone Post X a n n' h (fSend S g x y)) : gSafe (d + 7) mX5_send [.ref a, .int g, .int x, .int y] h mc ms Post X := by
  have Ca := C.1
  have N0 := C.2.1.1
  have H1 := C.2.1.2.1.1
  unfold fSend at hp
  refine ⟨Nat.le_of_ble_eq_true rfl, fun K hK => ?_⟩
  show K 0 [some (.ref a), some (.int g), some (.int x), some (.int y), none] [] _ _ _
  refine s_aload_n hK dX5_send_0 rfl ?_
  refine s_iload_n hK dX5_send_1 rfl ?_
  refine s_V1 hK (mc := 1) (ms := 6) dX5_send_2 kV_X5_114 (by first | assumption | exact H.1 | exact H.2.1) (by rfl) (by omega) (by omega) ?_
  refine c_checkGhost _ C (by omega) (by omega) (fun eg => (hp.exc C (by rw [if_neg (by simp [eg])]) : X eI h)) (fun eg => ?_)
  rw [if_pos eg] at hp
  obtain ⟨j, hj, rfl, ej⟩ := okR_ex (by have := ok.1; omega) eg
  rw [ej] at hp
  have hg : j < 6 := by have := ok.1; omega
  have hG := ok.2 j hg
  refine s_iload_n hK dX5_send_5 rfl ?_
  refine s_iload_n hK dX5_send_6 rfl ?_
  refine s_S2 hK (mc := 1) (ms := 6) dX5_send_7 kS_X5_19 (by rfl) (by omega) (by omega) ?_
  refine c_checkedCell _ (by omega) (by omega) (fun e => (hp.exc C (by rw [if_neg (by simp [e])]) : X eI h)) (fun e => ?_)
  rw [if_pos e] at hp
  have hc := (okC_of e).1
  refine s_istore hK dX5_send_10 rfl ?_
  refine s_aload_n hK dX5_send_12 rfl ?_
  refine s_getfield hK dX5_send_13 kF_X5_10 (by first | assumption | exact H.1 | exact H.2.1) (by rfl) ?_
  refine s_iload_n hK dX5_send_16 rfl ?_
  refine s_iload hK dX5_send_17 rfl ?_
  refine s_V20 hK dX5_send_19 kV_X5_117 (by first | assumption | exact H.1 | exact H.2.1) (by rfl) ?_
  refine c_setGoal _ hg hc C.2.1 (fun h1 N1 F1 => ?_)
  have C1 := C.night (S' := (S.1, S.2.1, setG S.2.2.1 j 2 (cellI x y), S.2.2.2)) N1 F1
  have Ca := C1.1
  have N0 := C1.2.1.1
  refine s_aload_n hK dX5_send_22 rfl ?_
  refine s_getfield hK dX5_send_23 kF_X5_10 (by first | assumption | exact H.1 | exact H.2.1) (by rfl) ?_
  refine s_iload_n hK dX5_send_26 rfl ?_
  refine s_iload hK dX5_send_27 rfl ?_
  refine s_V20 hK dX5_send_29 kV_X5_120 (by first | assumption | exact H.1 | exact H.2.1) (by rfl) ?_
  refine c_stepsTo _ hg hc ⟨by simpa [setG] using hG.1, by simpa [setG] using hG.2.2.2⟩ N1 (fun h2 N2 F2 => ?_)
  refine s_ireturn hK dX5_send_32 rfl (by first | rfl | exact b01_nar _) ?_
  exact hp.to (C1.night (S' := (S.1, S.2.1, setG S.2.2.1 j 2 (cellI x y), S.2.2.2)) N2 F2) (F1.now.tr F2.now) rfl
def fRite (S : CS) (g : Int32) : gAns :=
  if okR g S.2.2.2.1 = true then
    if mpG S.2.2.1 g.toNatClampNeg = true then (.inl eS, S)
    else (vI (nI (sumT (setG S.2.2.1 g.toNatClampNeg 3 1) 5 S.2.2.2.1)), (S.1, S.2.1, setG S.2.2.1 g.toNatClampNeg 3 1, S.2.2.2))
  else (.inl eI, S)
set_option maxRecDepth 10000 in
theorem c_rite (d : Nat) {a : Nat} {n n' : Nat → Nat} {S : CS} {g : Int32} {h : gH} (C : ClsAt h a n n' S) (ok : CSok S) {mc ms : Nat} (hmc : 4 ≤ mc) (hms : 24 ≤ ms) {Post : Option Value → gH → Prop} {X : String → gH → Prop} (hp : gDone Post X a n n' h (fRite S g)) : gSafe (d + 7) mX5_rite [.ref a, .int g] h mc ms Post X := by
  have Ca := C.1
  have N0 := C.2.1.1
  have H1 := C.2.1.2.1.1
  unfold fRite at hp
  refine ⟨Nat.le_of_ble_eq_true rfl, fun K hK => ?_⟩
  show K 0 [some (.ref a), some (.int g)] [] _ _ _
  refine s_aload_n hK dX5_rite_0 rfl ?_
  refine s_iload_n hK dX5_rite_1 rfl ?_
  refine s_V1 hK (mc := 1) (ms := 6) dX5_rite_2 kV_X5_114 (by first | assumption | exact H.1 | exact H.2.1) (by rfl) (by omega) (by omega) ?_
  refine c_checkGhost _ C (by omega) (by omega) (fun eg => (hp.exc C (by rw [if_neg (by simp [eg])]) : X eI h)) (fun eg => ?_)
  rw [if_pos eg] at hp
  obtain ⟨j, hj, rfl, ej⟩ := okR_ex (by have := ok.1; omega) eg
  rw [ej] at hp
  have hg : j < 6 := by have := ok.1; omega
  have hG := ok.2 j hg
  refine s_aload_n hK dX5_rite_5 rfl ?_
  refine s_getfield hK dX5_rite_6 kF_X5_10 (by first | assumption | exact H.1 | exact H.2.1) (by rfl) ?_
  refine s_iload_n hK dX5_rite_9 rfl ?_
  refine s_V10 hK dX5_rite_10 kV_X5_123 (by first | assumption | exact H.1 | exact H.2.1) (by rfl) ?_
  refine c_mayPass _ hg hG.2.2.2 C.2.1 ?_
  cases e3 : mpG S.2.2.1 j with
  | true =>
    rw [if_pos e3] at hp
    refine s_ifeq hK dX5_rite_13 26 (by decide) (fun c_13 => ?_) (fun c_13 => ?_)
    · exact absurd c_13 (by decide)
    · refine s_throw hK dX5_rite_16 kT_X5_rite_16 (by omega) (by omega) (by omega) (by rfl) ?_
      exact hp.exc C rfl
  | false =>
    rw [if_neg (by simp [e3])] at hp
    refine s_ifeq hK dX5_rite_13 26 (by decide) (fun c_13 => ?_) (fun c_13 => ?_)
    · refine s_aload_n hK dX5_rite_26 rfl ?_
      refine s_getfield hK dX5_rite_27 kF_X5_10 (by first | assumption | exact H.1 | exact H.2.1) (by rfl) ?_
      refine s_iload_n hK dX5_rite_30 rfl ?_
      refine s_iconst hK (v := 5) dX5_rite_31 (by decide) ?_
      refine s_iconst hK (v := 1) dX5_rite_32 (by decide) ?_
      refine s_V30 hK dX5_rite_33 kV_X5_128 (by first | assumption | exact H.1 | exact H.2.1) (by rfl) ?_
      refine c_setTrait (k := 5) (v := 1) _ hg (by omega) C.2.1 (fun h1 N1 F1 => ?_)
      have C1 := C.night (S' := (S.1, S.2.1, setG S.2.2.1 j 3 1, S.2.2.2)) N1 F1
      have Ca := C1.1
      have N0 := C1.2.1.1
      refine s_aload_n hK dX5_rite_36 rfl ?_
      refine s_getfield hK dX5_rite_37 kF_X5_10 (by first | assumption | exact H.1 | exact H.2.1) (by rfl) ?_
      refine s_iconst hK (v := 5) dX5_rite_40 (by decide) ?_
      refine s_V10 hK dX5_rite_41 kV_X5_131 (by first | assumption | exact H.1 | exact H.2.1) (by rfl) ?_
      refine c_sumOfTrait (k := 5) _ ok.1 (by omega) N1 ?_
      refine s_ireturn hK dX5_rite_44 rfl (by first | rfl | exact b01_nar _) ?_
      exact hp.to C1 F1.now rfl
    · exact absurd rfl c_13
def fCell (S : CS) (x y w : Int32) : gAns :=
  if okC x y = true then
    if okR w 5 = true then (vI (tCell S.1 S.2.1 S.2.2.1 S.2.2.2.1 (cellI x y) w.toNatClampNeg), S) else (.inl eI, S)
  else (.inl eI, S)
set_option maxRecDepth 10000 in
theorem c_cell (d : Nat) {a : Nat} {n n' : Nat → Nat} {S : CS} {x y w : Int32} {h : gH} (C : ClsAt h a n n' S) (ok : CSok S) {mc ms : Nat} (hmc : 4 ≤ mc) (hms : 24 ≤ ms) {Post : Option Value → gH → Prop} {X : String → gH → Prop} (hp : gDone Post X a n n' h (fCell S x y w)) : gSafe (d + 7) mX5_cell [.ref a, .int x, .int y, .int w] h mc ms Post X := by
  have Ca := C.1
  have N0 := C.2.1.1
  have H1 := C.2.1.2.1.1
  unfold fCell at hp
  refine ⟨Nat.le_of_ble_eq_true rfl, fun K hK => ?_⟩
  show K 0 [some (.ref a), some (.int x), some (.int y), some (.int w), none] [] _ _ _
  refine s_iload_n hK dX5_cell_0 rfl ?_
  refine s_iload_n hK dX5_cell_1 rfl ?_
  refine s_S2 hK (mc := 1) (ms := 6) dX5_cell_2 kS_X5_19 (by rfl) (by omega) (by omega) ?_
  refine c_checkedCell _ (by omega) (by omega) (fun e => (hp.exc C (by rw [if_neg (by simp [e])]) : X eI h)) (fun e => ?_)
  rw [if_pos e] at hp
  have hc := (okC_of e).1
  refine s_istore hK dX5_cell_5 rfl ?_
  refine s_iload_n hK dX5_cell_7 rfl ?_
  refine s_iconst hK (v := 5) dX5_cell_8 (by decide) ?_
  refine s_S2 hK (mc := 1) (ms := 6) dX5_cell_9 kS_X5_134 (by rfl) (by omega) (by omega) ?_
  refine c_checkWhat (k := 5) _ (by omega) (by omega) (fun e2 => (hp.exc C (by rw [if_neg (by simp [e2])]) : X eI h)) (fun e2 => ?_)
  rw [if_pos e2] at hp
  obtain ⟨k, hk, rfl, ek⟩ := okR_ex (by omega) e2
  rw [ek] at hp
  refine s_aload_n hK dX5_cell_12 rfl ?_
  refine s_getfield hK dX5_cell_13 kF_X5_10 (by first | assumption | exact H.1 | exact H.2.1) (by rfl) ?_
  refine s_iload hK dX5_cell_16 rfl ?_
  refine s_iload_n hK dX5_cell_18 rfl ?_
  refine s_V20 hK dX5_cell_19 kV_X5_137 (by first | assumption | exact H.1 | exact H.2.1) (by rfl) ?_
  refine c_aboutCell _ ok.1 ok.2 hc hk C.2.1 ?_
  refine s_ireturn hK dX5_cell_22 rfl (by first | rfl | exact b01_nar _) ?_
  exact hp.val C rfl
def fWalled (S : CS) (x y w : Int32) : gAns :=
  if okC x y = true then
    if okR w 4 = true then (vI (b01 (!nbOk (cellI x y) w.toNatClampNeg || lb (wCells S.1 w.toNatClampNeg) (cellI x y))), S) else (.inl eA, S)
  else (.inl eI, S)
set_option maxRecDepth 10000 in
theorem c_walled (d : Nat) {a : Nat} {n n' : Nat → Nat} {S : CS} {x y w : Int32} {h : gH} (C : ClsAt h a n n' S) {mc ms : Nat} (hmc : 4 ≤ mc) (hms : 24 ≤ ms) {Post : Option Value → gH → Prop} {X : String → gH → Prop} (hp : gDone Post X a n n' h (fWalled S x y w)) : gSafe (d + 7) mX5_walled [.ref a, .int x, .int y, .int w] h mc ms Post X := by
  have Ca := C.1
  have N0 := C.2.1.1
  have H1 := C.2.1.2.1.1
  unfold fWalled at hp
  refine ⟨Nat.le_of_ble_eq_true rfl, fun K hK => ?_⟩
  show K 0 [some (.ref a), some (.int x), some (.int y), some (.int w), none] [] _ _ _
  refine s_iload_n hK dX5_walled_0 rfl ?_
  refine s_iload_n hK dX5_walled_1 rfl ?_
  refine s_S2 hK (mc := 1) (ms := 6) dX5_walled_2 kS_X5_19 (by rfl) (by omega) (by omega) ?_
  refine c_checkedCell _ (by omega) (by omega) (fun e => (hp.exc C (by rw [if_neg (by simp [e])]) : X eI h)) (fun e => ?_)
  rw [if_pos e] at hp
  have hc := (okC_of e).1
  refine s_istore hK dX5_walled_5 rfl ?_
  refine s_iload_n hK dX5_walled_7 rfl ?_
  refine s_S1 hK (mc := 1) (ms := 6) dX5_walled_8 kS_X5_23 (by rfl) (by omega) (by omega) ?_
  refine c_checkDirection _ (by omega) (by omega) (fun e2 => (hp.exc C (by rw [if_neg (by simp [e2])]) : X eA h)) (fun e2 => ?_)
  rw [if_pos e2] at hp
  obtain ⟨k, hk, rfl, ek⟩ := okR_ex (by omega) e2
  rw [ek] at hp
  have one : nbOk (cellI x y) k = false ∨ lb (wCells S.1 k) (cellI x y) = true → K 36 [some (.ref a), some (.int x), some (.int y), some (.int (nI k)), some (.int (nI (cellI x y)))] [] h (mc - 1 - 1) (ms - 6 - 6) := by
    intro e5
    refine s_iconst hK (v := 1) dX5_walled_36 (by decide) ?_
    refine s_goto hK dX5_walled_37 41 (by decide) ?_
    refine s_ireturn hK dX5_walled_41 rfl (by first | rfl | exact b01_nar _) ?_
    exact hp.val C (by rcases e5 with q | q <;> simp [q, vI, b01])
  refine s_iload hK dX5_walled_11 rfl ?_
  refine s_iload_n hK dX5_walled_13 rfl ?_
  refine s_S20 hK dX5_walled_14 kS_X5_27 (by rfl) ?_
  refine c_isRim _ hc hk ?_
  cases e3 : nbOk (cellI x y) k with
  | false =>
    refine s_ifne hK dX5_walled_17 36 (by decide) (fun c_17 => ?_) (fun c_17 => ?_)
    · exact one (Or.inl e3)
    · exact absurd c_17 (by decide)
  | true =>
    refine s_ifne hK dX5_walled_17 36 (by decide) (fun c_17 => ?_) (fun c_17 => ?_)
    · exact absurd rfl c_17
    · refine s_aload_n hK dX5_walled_20 rfl ?_
      refine s_getfield hK dX5_walled_21 kF_X5_10 (by first | assumption | exact H.1 | exact H.2.1) (by rfl) ?_
      refine s_getfield hK dX5_walled_24 kF_X5_40 (by first | assumption | exact H.1 | exact H.2.1) (by rfl) ?_
      refine s_iload hK dX5_walled_27 rfl ?_
      refine s_iload_n hK dX5_walled_29 rfl ?_
      refine s_V20 hK dX5_walled_30 kV_X5_50 (by first | assumption | exact H.1 | exact H.2.1) (by rfl) ?_
      refine c_hasWall _ hk hc C.2.1.2.1 ?_
      cases e4 : lb (wCells S.1 k) (cellI x y) with
      | true =>
        refine s_ifeq hK dX5_walled_33 40 (by decide) (fun c_33 => ?_) (fun c_33 => ?_)
        · exact absurd c_33 (by decide)
        · exact one (Or.inr e4)
      | false =>
        refine s_ifeq hK dX5_walled_33 40 (by decide) (fun c_33 => ?_) (fun c_33 => ?_)
        · refine s_iconst hK (v := 0) dX5_walled_40 (by decide) ?_
          refine s_ireturn hK dX5_walled_41 rfl (by first | rfl | exact b01_nar _) ?_
          exact hp.val C (by simp [e3, e4, vI, b01])
        · exact absurd rfl c_33
def fGhost (S : CS) (g w : Int32) : gAns :=
  if okR g S.2.2.2.1 = true then
    if okR w 8 = true then (vI (nI (trG S.2.2.1 g.toNatClampNeg w.toNatClampNeg)), S) else (.inl eI, S)
  else (.inl eI, S)
set_option maxRecDepth 10000 in
theorem c_ghost (d : Nat) {a : Nat} {n n' : Nat → Nat} {S : CS} {g w : Int32} {h : gH} (C : ClsAt h a n n' S) (ok : CSok S) {mc ms : Nat} (hmc : 4 ≤ mc) (hms : 24 ≤ ms) {Post : Option Value → gH → Prop} {X : String → gH → Prop} (hp : gDone Post X a n n' h (fGhost S g w)) : gSafe (d + 7) mX5_ghost [.ref a, .int g, .int w] h mc ms Post X := by
  have Ca := C.1
  have N0 := C.2.1.1
  have H1 := C.2.1.2.1.1
  unfold fGhost at hp
  refine ⟨Nat.le_of_ble_eq_true rfl, fun K hK => ?_⟩
  show K 0 [some (.ref a), some (.int g), some (.int w)] [] _ _ _
  refine s_aload_n hK dX5_ghost_0 rfl ?_
  refine s_iload_n hK dX5_ghost_1 rfl ?_
  refine s_V1 hK (mc := 1) (ms := 6) dX5_ghost_2 kV_X5_114 (by first | assumption | exact H.1 | exact H.2.1) (by rfl) (by omega) (by omega) ?_
  refine c_checkGhost _ C (by omega) (by omega) (fun eg => (hp.exc C (by rw [if_neg (by simp [eg])]) : X eI h)) (fun eg => ?_)
  rw [if_pos eg] at hp
  obtain ⟨j, hj, rfl, ej⟩ := okR_ex (by have := ok.1; omega) eg
  rw [ej] at hp
  have hg : j < 6 := by have := ok.1; omega
  have hG := ok.2 j hg
  refine s_iload_n hK dX5_ghost_5 rfl ?_
  refine s_bipush hK (v := 8) dX5_ghost_6 (by decide) ?_
  refine s_S2 hK (mc := 1) (ms := 6) dX5_ghost_8 kS_X5_134 (by rfl) (by omega) (by omega) ?_
  refine c_checkWhat (k := 8) _ (by omega) (by omega) (fun e2 => (hp.exc C (by rw [if_neg (by simp [e2])]) : X eI h)) (fun e2 => ?_)
  rw [if_pos e2] at hp
  obtain ⟨k, hk, rfl, ek⟩ := okR_ex (by omega) e2
  rw [ek] at hp
  refine s_aload_n hK dX5_ghost_11 rfl ?_
  refine s_getfield hK dX5_ghost_12 kF_X5_10 (by first | assumption | exact H.1 | exact H.2.1) (by rfl) ?_
  refine s_iload_n hK dX5_ghost_15 rfl ?_
  refine s_iload_n hK dX5_ghost_16 rfl ?_
  refine s_V20 hK dX5_ghost_17 kV_X5_140 (by first | assumption | exact H.1 | exact H.2.1) (by rfl) ?_
  refine c_trait _ hg hk C.2.1 ?_
  refine s_ireturn hK dX5_ghost_20 rfl (by first | rfl | exact b01_nar _) ?_
  exact hp.val C rfl
def fCount (S : CS) (w : Int32) : gAns :=
  if okR w 10 = true then (vI (tAll S.1 S.2.1 S.2.2.1 S.2.2.2.1 S.2.2.2.2 w.toNatClampNeg), S) else (.inl eI, S)
set_option maxRecDepth 10000 in
theorem c_count (d : Nat) {a : Nat} {n n' : Nat → Nat} {S : CS} {w : Int32} {h : gH} (C : ClsAt h a n n' S) (ok : CSok S) {mc ms : Nat} (hmc : 4 ≤ mc) (hms : 24 ≤ ms) {Post : Option Value → gH → Prop} {X : String → gH → Prop} (hp : gDone Post X a n n' h (fCount S w)) : gSafe (d + 7) mX5_count [.ref a, .int w] h mc ms Post X := by
  have Ca := C.1
  have N0 := C.2.1.1
  have H1 := C.2.1.2.1.1
  unfold fCount at hp
  refine ⟨Nat.le_of_ble_eq_true rfl, fun K hK => ?_⟩
  show K 0 [some (.ref a), some (.int w)] [] _ _ _
  refine s_iload_n hK dX5_count_0 rfl ?_
  refine s_bipush hK (v := 10) dX5_count_1 (by decide) ?_
  refine s_S2 hK (mc := 1) (ms := 6) dX5_count_3 kS_X5_134 (by rfl) (by omega) (by omega) ?_
  refine c_checkWhat (k := 10) _ (by omega) (by omega) (fun e2 => (hp.exc C (by rw [if_neg (by simp [e2])]) : X eI h)) (fun e2 => ?_)
  rw [if_pos e2] at hp
  obtain ⟨k, hk, rfl, ek⟩ := okR_ex (by omega) e2
  rw [ek] at hp
  refine s_aload_n hK dX5_count_6 rfl ?_
  refine s_getfield hK dX5_count_7 kF_X5_10 (by first | assumption | exact H.1 | exact H.2.1) (by rfl) ?_
  refine s_iload_n hK dX5_count_10 rfl ?_
  refine s_V10 hK dX5_count_11 kV_X5_143 (by first | assumption | exact H.1 | exact H.2.1) (by rfl) ?_
  refine c_aboutAll _ ok.1 hk C.2.1 ?_
  refine s_ireturn hK dX5_count_14 rfl (by first | rfl | exact b01_nar _) ?_
  exact hp.val C rfl
def fShines (S : CS) (x y : Int32) : gAns :=
  if okC x y = true then (vI (iPop (litFrom S.1 (cellI x y))), S) else (.inl eI, S)
def fWay (S : CS) (g x y : Int32) : gAns :=
  if okR g S.2.2.2.1 = true then
    if okC x y = true then (vI (stpF S.1 (S.2.2.1 g.toNatClampNeg 0) (cellI x y) (mpG S.2.2.1 g.toNatClampNeg)), S) else (.inl eI, S)
  else (.inl eI, S)
set_option maxRecDepth 10000 in
theorem c_way (d : Nat) {a : Nat} {n n' : Nat → Nat} {S : CS} {g x y : Int32} {h : gH} (C : ClsAt h a n n' S) (ok : CSok S) {mc ms : Nat} (hmc : 4 ≤ mc) (hms : 24 ≤ ms) {Post : Option Value → gH → Prop} {X : String → gH → Prop} (hp : gDone Post X a n n' h (fWay S g x y)) : gSafe (d + 7) mX5_way [.ref a, .int g, .int x, .int y] h mc ms Post X := by
  have Ca := C.1
  have N0 := C.2.1.1
  have H1 := C.2.1.2.1.1
  unfold fWay at hp
  refine ⟨Nat.le_of_ble_eq_true rfl, fun K hK => ?_⟩
  show K 0 [some (.ref a), some (.int g), some (.int x), some (.int y), none] [] _ _ _
  refine s_aload_n hK dX5_way_0 rfl ?_
  refine s_iload_n hK dX5_way_1 rfl ?_
  refine s_V1 hK (mc := 1) (ms := 6) dX5_way_2 kV_X5_114 (by first | assumption | exact H.1 | exact H.2.1) (by rfl) (by omega) (by omega) ?_
  refine c_checkGhost _ C (by omega) (by omega) (fun eg => (hp.exc C (by rw [if_neg (by simp [eg])]) : X eI h)) (fun eg => ?_)
  rw [if_pos eg] at hp
  obtain ⟨j, hj, rfl, ej⟩ := okR_ex (by have := ok.1; omega) eg
  rw [ej] at hp
  have hg : j < 6 := by have := ok.1; omega
  have hG := ok.2 j hg
  refine s_iload_n hK dX5_way_5 rfl ?_
  refine s_iload_n hK dX5_way_6 rfl ?_
  refine s_S2 hK (mc := 1) (ms := 6) dX5_way_7 kS_X5_19 (by rfl) (by omega) (by omega) ?_
  refine c_checkedCell _ (by omega) (by omega) (fun e => (hp.exc C (by rw [if_neg (by simp [e])]) : X eI h)) (fun e => ?_)
  rw [if_pos e] at hp
  have hc := (okC_of e).1
  refine s_istore hK dX5_way_10 rfl ?_
  refine s_aload_n hK dX5_way_12 rfl ?_
  refine s_getfield hK dX5_way_13 kF_X5_10 (by first | assumption | exact H.1 | exact H.2.1) (by rfl) ?_
  refine s_iload_n hK dX5_way_16 rfl ?_
  refine s_iload hK dX5_way_17 rfl ?_
  refine s_V20 hK dX5_way_19 kV_X5_120 (by first | assumption | exact H.1 | exact H.2.1) (by rfl) ?_
  refine c_stepsTo _ hg hc ⟨hG.1, hG.2.2.2⟩ C.2.1 (fun h2 N2 F2 => ?_)
  refine s_ireturn hK dX5_way_22 rfl (by first | rfl | exact b01_nar _) ?_
  exact hp.to (C.night N2 F2) F2.now rfl
def fNext (S : CS) (g : Int32) : gAns :=
  if okR g S.2.2.2.1 = true then (vI (oI (nxtF S.1 (S.2.2.1 g.toNatClampNeg 0) (S.2.2.1 g.toNatClampNeg 2) (mpG S.2.2.1 g.toNatClampNeg))), S)
  else (.inl eI, S)
set_option maxRecDepth 10000 in
theorem c_next (d : Nat) {a : Nat} {n n' : Nat → Nat} {S : CS} {g : Int32} {h : gH} (C : ClsAt h a n n' S) (ok : CSok S) {mc ms : Nat} (hmc : 4 ≤ mc) (hms : 24 ≤ ms) {Post : Option Value → gH → Prop} {X : String → gH → Prop} (hp : gDone Post X a n n' h (fNext S g)) : gSafe (d + 7) mX5_next [.ref a, .int g] h mc ms Post X := by
  have Ca := C.1
  have N0 := C.2.1.1
  have H1 := C.2.1.2.1.1
  unfold fNext at hp
  refine ⟨Nat.le_of_ble_eq_true rfl, fun K hK => ?_⟩
  show K 0 [some (.ref a), some (.int g)] [] _ _ _
  refine s_aload_n hK dX5_next_0 rfl ?_
  refine s_iload_n hK dX5_next_1 rfl ?_
  refine s_V1 hK (mc := 1) (ms := 6) dX5_next_2 kV_X5_114 (by first | assumption | exact H.1 | exact H.2.1) (by rfl) (by omega) (by omega) ?_
  refine c_checkGhost _ C (by omega) (by omega) (fun eg => (hp.exc C (by rw [if_neg (by simp [eg])]) : X eI h)) (fun eg => ?_)
  rw [if_pos eg] at hp
  obtain ⟨j, hj, rfl, ej⟩ := okR_ex (by have := ok.1; omega) eg
  rw [ej] at hp
  have hg : j < 6 := by have := ok.1; omega
  have hG := ok.2 j hg
  refine s_aload_n hK dX5_next_5 rfl ?_
  refine s_getfield hK dX5_next_6 kF_X5_10 (by first | assumption | exact H.1 | exact H.2.1) (by rfl) ?_
  refine s_iload_n hK dX5_next_9 rfl ?_
  refine s_V10 hK dX5_next_10 kV_X5_156 (by first | assumption | exact H.1 | exact H.2.1) (by rfl) ?_
  refine c_nextDirection _ hg ⟨hG.1, hG.2.2.1, hG.2.2.2⟩ C.2.1 (fun h2 N2 F2 => ?_)
  refine s_ireturn hK dX5_next_13 rfl (by first | rfl | exact b01_nar _) ?_
  exact hp.to (C.night N2 F2) F2.now rfl
