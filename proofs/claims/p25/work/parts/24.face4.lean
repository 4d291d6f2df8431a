/-! the class's hours, and looking ahead -/
def hrS (S : CS) : CS := ((hourL S.1 S.2.1 S.2.2.1 S.2.2.2.1).1, (hourA S.1 S.2.1 S.2.2.1 S.2.2.2.1).1, (hourA S.1 S.2.1 S.2.2.1 S.2.2.2.1).2.1, S.2.2.2.1, S.2.2.2.2 + 1)
def hrH (S : CS) : Nat := (hourA S.1 S.2.1 S.2.2.1 S.2.2.2.1).2.2
def pasS (S : CS) : Nat → CS
  | 0 => S
  | k + 1 => hrS (pasS S k)
def pasH (S : CS) : Nat → Nat
  | 0 => 0
  | k + 1 => pasH S k + hrH (pasS S k)
theorem hrS_ok {S : CS} (ok : CSok S) : CSok (hrS S) := ⟨ok.1, hausF_ok (walkF_ok ok.2 _ ok.1) _⟩
theorem pasS_ok {S : CS} (ok : CSok S) : ∀ k, CSok (pasS S k)
  | 0 => ok
  | k + 1 => hrS_ok (pasS_ok ok k)
theorem hausF_le (L : Nat → Int64) (s : AG) : ∀ n, (hausF L s n).2.2 ≤ s.2.2 + n
  | 0 => Nat.le_refl _
  | n + 1 => by
    have := hausF_le L s n
    show (hauF L (hausF L s n) n).2.2 ≤ _
    unfold hauF
    split
    · show (hausF L s n).2.2 ≤ _
      omega
    · split
      · show (hausF L s n).2.2 + 1 ≤ _
        omega
      · omega
theorem hrH_le {S : CS} (ok : CSok S) : hrH S ≤ 6 := by
  have := hausF_le (hourL S.1 S.2.1 S.2.2.1 S.2.2.2.1).1 ((bdN S.1 S.2.1 63).2, (hourL S.1 S.2.1 S.2.2.1 S.2.2.2.1).2, 0) S.2.2.2.1
  have h6 := ok.1
  unfold hrH hourA
  show _ ≤ 6
  have e : ((bdN S.1 S.2.1 63).2, (hourL S.1 S.2.1 S.2.2.1 S.2.2.2.1).2, 0).2.2 = 0 := rfl
  omega
theorem pasH_le {S : CS} (ok : CSok S) : ∀ k, pasH S k ≤ 6 * k
  | 0 => Nat.le_refl _
  | k + 1 => by
    have h1 := pasH_le ok k
    have h2 := hrH_le (pasS_ok ok k)
    show pasH S k + hrH (pasS S k) ≤ _
    omega
def fPass (S : CS) (t : Int32) : gAns :=
  if okH t 40 = true then (vI (nI (pasH S t.toNatClampNeg)), pasS S t.toNatClampNeg) else (.inl eA, S)
set_option maxRecDepth 10000 in
theorem c_pass (d : Nat) {a : Nat} {n n' : Nat → Nat} {S : CS} {t : Int32} {h : gH} (C : ClsAt h a n n' S) (ok : CSok S) {mc ms : Nat} (hmc : 4 ≤ mc) (hms : 24 ≤ ms) {Post : Option Value → gH → Prop} {X : String → gH → Prop} (hp : gDone Post X a n n' h (fPass S t)) : gSafe (d + 7) mX5_pass [.ref a, .int t] h mc ms Post X := by
  unfold fPass at hp
  refine ⟨Nat.le_of_ble_eq_true rfl, fun K hK => ?_⟩
  show K 0 [some (.ref a), some (.int t), none, none] [] _ _ _
  refine s_iload_n hK dX5_pass_0 rfl ?_
  refine s_bipush hK (v := 40) dX5_pass_1 (by decide) ?_
  refine s_S2 hK (mc := 1) (ms := 6) dX5_pass_3 kS_X5_159 (by rfl) (by omega) (by omega) ?_
  refine c_checkHours (k := 40) _ (by omega) (by omega) (fun e => (hp.exc C (by rw [if_neg (by simp [e])]) : X eA h)) (fun e => ?_)
  rw [if_pos e] at hp
  obtain ⟨k, hk0, hk, rfl, ek⟩ := okH_ex (by omega) e
  rw [ek] at hp
  refine s_iconst hK (v := 0) dX5_pass_6 (by decide) ?_
  refine s_istore_n hK dX5_pass_7 rfl ?_
  refine s_iconst hK (v := 0) dX5_pass_8 (by decide) ?_
  refine s_istore_n hK dX5_pass_9 rfl ?_
  have loop : ∀ m i, i + m = k → ∀ h1, ClsAt h1 a n n' (pasS S i) → gFr (cS n n') h h1 → K 10 [some (.ref a), some (.int (nI k)), some (.int (nI (pasH S i))), some (.int (nI i))] [] h1 (mc - 1) (ms - 6) := by
    intro m
    induction m with
    | zero =>
      intro i hi h1 C1 F1
      obtain rfl : i = k := by omega
      refine s_iload_n hK dX5_pass_10 rfl ?_
      refine s_iload_n hK dX5_pass_11 rfl ?_
      refine s_icmpge hK dX5_pass_12 31 (by decide) (fun c_12 => ?_) (fun c_12 => ?_)
      · refine s_iload_n hK dX5_pass_31 rfl ?_
        refine s_ireturn hK dX5_pass_32 rfl (by first | rfl | exact b01_nar _) ?_
        exact hp.to C1 F1 rfl
      · exact absurd (Int32.le_refl (nI i)) c_12
    | succ m ih =>
      intro i hi h1 C1 F1
      have Ca := C1.1
      have N0 := C1.2.1.1
      refine s_iload_n hK dX5_pass_10 rfl ?_
      refine s_iload_n hK dX5_pass_11 rfl ?_
      refine s_icmpge hK dX5_pass_12 31 (by decide) (fun c_12 => ?_) (fun c_12 => ?_)
      · exact absurd c_12 (nI_ge (by omega) (by omega))
      · refine s_iload_n hK dX5_pass_15 rfl ?_
        refine s_aload_n hK dX5_pass_16 rfl ?_
        refine s_getfield hK dX5_pass_17 kF_X5_10 (by first | assumption | exact H.1 | exact H.2.1) (by rfl) ?_
        refine s_V00 hK dX5_pass_20 kV_X5_162 (by first | assumption | exact H.1 | exact H.2.1) (by rfl) ?_
        refine c_passHour _ (pasS_ok ok i).1 (pasS_ok ok i).2 C1.2.1 (fun h2 N2 F2 => ?_)
        have C2 := C1.night (S' := pasS S (i + 1)) N2 F2
        refine s_iadd hK dX5_pass_23 ?_
        refine s_istore_n hK dX5_pass_24 rfl ?_
        refine s_iinck hK (v := 1) dX5_pass_25 rfl (by decide) rfl ?_
        refine s_goto hK dX5_pass_28 10 (by decide) ?_
        rw [nI_1, nI_add]
        exact ih (i + 1) (by omega) h2 C2 (F1.tr F2.now)
  exact loop k 0 (by omega) h C (gFr_rf _ _)
theorem NightAt.same {h : gH} {n : Nat → Nat} {L L' : Nat → Int64} {am : Nat → Int32} {G : Nat → Nat → Nat} {gc hr : Nat} (N : NightAt h n L am G gc hr) (e : ∀ k, k < 8 → L k = L' k) : NightAt h n L' am G gc hr := by
  obtain ⟨m0, ⟨m1, m2⟩, r⟩ := N
  refine ⟨m0, ⟨?_, m2⟩, r⟩
  rw [m1]
  unfold hF
  rw [e 0 (by omega), e 1 (by omega), e 2 (by omega), e 3 (by omega), e 4 (by omega), e 5 (by omega), e 6 (by omega), e 7 (by omega)]
theorem c_copyAhead (d : Nat) {a : Nat} {n n' : Nat → Nat} {S : CS} {h : gH} (C : ClsAt h a n n' S) {mc ms : Nat} {Post : Option Value → gH → Prop} {X : String → gH → Prop} (hp : ∀ h', NightS h' n' S → ClsAt h' a n n' S → gFr (cS n n') h h' → Post none h') : gSafe (d + 4) mX2_copyFrom [.ref (n' 0), .ref (n 0)] h mc ms Post X := by
  obtain ⟨S2, M⟩ := C.2.2.1
  refine c_nightCopy d M C.2.1 (fun x hx i hi => ?_) (fun h' L' e N' F' => ?_)
  · obtain ⟨j, hj, rfl⟩ := nS_mem hx
    exact C.2.2.2 i j hi hj
  · have N2 : NightS h' n' S := NightAt.same N' e
    exact hp h' N2 (C.ahead N2 F') F'.ahead
theorem ClsAt.then {h h' : gH} {a : Nat} {n n' : Nat → Nat} {S S2 : CS} (C : ClsAt h a n n' S) (N : NightAt h' n' S2.1 S2.2.1 S2.2.2.1 S2.2.2.2.1 S2.2.2.2.2) (F : gFr (nS n') h h') : ClsAt h' a n n' S := C.ahead (S2 := S2) N F
def swS (S : CS) : Option Nat → CS
  | none => S
  | some c => (reL (oSwitch S.1 c), S.2)
theorem swS_ok {S : CS} (ok : CSok S) : ∀ o, CSok (swS S o)
  | none => ok
  | some _ => ok
set_option maxRecDepth 10000 in
theorem c_hauntsAhead (d : Nat) {a : Nat} {n n' : Nat → Nat} {S : CS} {k : Nat} (hk : k ≤ 40) {o : Option Nat} (ho : ∀ c, o = some c → c < 63) {h : gH} (C : ClsAt h a n n' S) (ok : CSok S) {mc ms : Nat} {Post : Option Value → gH → Prop} {X : String → gH → Prop} (hp : ∀ h', ClsAt h' a n n' S → NightS h' n' (pasS (swS S o) k) → gFr (cS n n') h h' → Post (some (.int (nI (pasH (swS S o) k)))) h') : gSafe (d + 7) mX5_hauntsAhead [.ref a, .int (nI k), .int (oI o)] h mc ms Post X := by
  have Ca := C.1
  have M0 : ∃ S2, h (n' 0) = some (.inr (1, [.ref (n' 1), .ref (n' 4), .ref (n' 5), .int (nI S2), .int (nI (S2 * 0 + (Classical.choose C.2.2.1).2.2.2.2))])) ∧ S2 = (Classical.choose C.2.2.1).2.2.2.1 := ⟨_, by have := (Classical.choose_spec C.2.2.1).1; rw [Nat.mul_zero, Nat.zero_add]; exact this, rfl⟩
  obtain ⟨S2, M0, -⟩ := M0
  refine ⟨Nat.le_of_ble_eq_true rfl, fun K hK => ?_⟩
  show K 0 [some (.ref a), some (.int (nI k)), some (.int (oI o)), none, none] [] _ _ _
  refine s_aload_n hK dX5_hauntsAhead_0 rfl ?_
  refine s_getfield hK dX5_hauntsAhead_1 kF_X5_16 (by first | assumption | exact H.1 | exact H.2.1) (by rfl) ?_
  refine s_aload_n hK dX5_hauntsAhead_4 rfl ?_
  refine s_getfield hK dX5_hauntsAhead_5 kF_X5_10 (by first | assumption | exact H.1 | exact H.2.1) (by rfl) ?_
  refine s_V10 hK dX5_hauntsAhead_8 kV_X5_182 (by first | assumption | exact H.1 | exact H.2.1) (by rfl) ?_
  refine c_copyAhead _ C (fun h1 N1 C1 F1 => ?_)
  have loop : ∀ m i, i + m = k → ∀ h1, ClsAt h1 a n n' S → NightS h1 n' (pasS (swS S o) i) → gFr (cS n n') h h1 → K 32 [some (.ref a), some (.int (nI k)), some (.int (oI o)), some (.int (nI (pasH (swS S o) i))), some (.int (nI i))] [] h1 mc ms := by
    intro m
    induction m with
    | zero =>
      intro i hi h1 C1 N1 F1
      obtain rfl : i = k := by omega
      refine s_iload hK dX5_hauntsAhead_32 rfl ?_
      refine s_iload_n hK dX5_hauntsAhead_34 rfl ?_
      refine s_icmpge hK dX5_hauntsAhead_35 54 (by decide) (fun c_35 => ?_) (fun c_35 => ?_)
      · refine s_iload_n hK dX5_hauntsAhead_54 rfl ?_
        refine s_ireturn hK dX5_hauntsAhead_55 rfl (by first | rfl | exact b01_nar _) ?_
        exact hp h1 C1 N1 F1
      · exact absurd (Int32.le_refl (nI i)) c_35
    | succ m ih =>
      intro i hi h1 C1 N1 F1
      have Ca := C1.1
      have N0 := N1.1
      refine s_iload hK dX5_hauntsAhead_32 rfl ?_
      refine s_iload_n hK dX5_hauntsAhead_34 rfl ?_
      refine s_icmpge hK dX5_hauntsAhead_35 54 (by decide) (fun c_35 => ?_) (fun c_35 => ?_)
      · exact absurd c_35 (nI_ge (by omega) (by omega))
      · refine s_iload_n hK dX5_hauntsAhead_38 rfl ?_
        refine s_aload_n hK dX5_hauntsAhead_39 rfl ?_
        refine s_getfield hK dX5_hauntsAhead_40 kF_X5_16 (by first | assumption | exact H.1 | exact H.2.1) (by rfl) ?_
        refine s_V00 hK dX5_hauntsAhead_43 kV_X5_162 (by first | assumption | exact H.1 | exact H.2.1) (by rfl) ?_
        refine c_passHour _ (pasS_ok (swS_ok ok o) i).1 (pasS_ok (swS_ok ok o) i).2 N1 (fun h2 N2 F2 => ?_)
        have C2 := C1.then (S2 := pasS (swS S o) (i + 1)) N2 F2
        refine s_iadd hK dX5_hauntsAhead_46 ?_
        refine s_istore_n hK dX5_hauntsAhead_47 rfl ?_
        refine s_iinck hK (v := 1) dX5_hauntsAhead_48 rfl (by decide) rfl ?_
        refine s_goto hK dX5_hauntsAhead_51 32 (by decide) ?_
        rw [nI_1, nI_add]
        exact ih (i + 1) (by omega) h2 C2 N2 (F1.tr F2.ahead)
  have Ca := C1.1
  have N0 := N1.1
  have H1 := N1.2.1.1
  refine s_iload_n hK dX5_hauntsAhead_11 rfl ?_
  refine s_iconst hK (v := (-1)) dX5_hauntsAhead_12 (by decide) ?_
  refine s_icmpeq hK dX5_hauntsAhead_13 27 (by decide) (fun c_13 => ?_) (fun c_13 => ?_)
  · have e : o = none := by
      cases o with
      | none => rfl
      | some c =>
        have h63 := ho c rfl
        exfalso
        have q : nI c = -1 := c_13
        have q2 := nI_pos (n := c) (by omega)
        rw [q] at q2
        exact q2 (by decide)
    refine s_iconst hK (v := 0) dX5_hauntsAhead_27 (by decide) ?_
    refine s_istore_n hK dX5_hauntsAhead_28 rfl ?_
    refine s_iconst hK (v := 0) dX5_hauntsAhead_29 (by decide) ?_
    refine s_istore hK dX5_hauntsAhead_30 rfl ?_
    refine loop k 0 (by omega) h1 C1 ?_ F1
    rw [e]
    exact N1
  · cases o with
    | none => exact absurd rfl c_13
    | some c =>
      have h63 := ho c rfl
      refine s_aload_n hK dX5_hauntsAhead_16 rfl ?_
      refine s_getfield hK dX5_hauntsAhead_17 kF_X5_16 (by first | assumption | exact H.1 | exact H.2.1) (by rfl) ?_
      refine s_getfield hK dX5_hauntsAhead_20 kF_X5_40 (by first | assumption | exact H.1 | exact H.2.1) (by rfl) ?_
      refine s_iload_n hK dX5_hauntsAhead_23 rfl ?_
      refine s_V10 hK dX5_hauntsAhead_24 kV_X5_97 (by first | assumption | exact H.1 | exact H.2.1) (by rfl) ?_
      refine c_switchCandle _ h63 N1.2.1 (fun h2 K2 F2 => ?_)
      have N2 : NightS h2 n' (swS S (some c)) := NightAt.house N1 K2 F2
      have C2 := C1.ahead N2 F2.house
      refine s_iconst hK (v := 0) dX5_hauntsAhead_27 (by decide) ?_
      refine s_istore_n hK dX5_hauntsAhead_28 rfl ?_
      refine s_iconst hK (v := 0) dX5_hauntsAhead_29 (by decide) ?_
      refine s_istore hK dX5_hauntsAhead_30 rfl ?_
      exact loop k 0 (by omega) h2 C2 N2 (F1.tr F2.house.ahead)
def fForesee (S : CS) (t w : Int32) : gAns :=
  if okH t 40 = true then
    if okR w 4 = true then
      (vI (match w.toNatClampNeg with
        | 0 => nI (pasH S t.toNatClampNeg)
        | 1 => iPop ((pasS S t.toNatClampNeg).1 1)
        | 2 => iPop ((pasS S t.toNatClampNeg).1 7)
        | _ => nI (cntG (fun g => decide ((pasS S t.toNatClampNeg).2.2.1 g 0 = (pasS S t.toNatClampNeg).2.2.1 g 2)) (pasS S t.toNatClampNeg).2.2.2.1)), S)
    else (.inl eI, S)
  else (.inl eA, S)
set_option maxRecDepth 10000 in
theorem c_foresee (d : Nat) {a : Nat} {n n' : Nat → Nat} {S : CS} {t w : Int32} {h : gH} (C : ClsAt h a n n' S) (ok : CSok S) {mc ms : Nat} (hmc : 4 ≤ mc) (hms : 24 ≤ ms) {Post : Option Value → gH → Prop} {X : String → gH → Prop} (hp : gDone Post X a n n' h (fForesee S t w)) : gSafe (d + 8) mX5_foresee [.ref a, .int t, .int w] h mc ms Post X := by
  have Ca := C.1
  unfold fForesee at hp
  refine ⟨Nat.le_of_ble_eq_true rfl, fun K hK => ?_⟩
  show K 0 [some (.ref a), some (.int t), some (.int w), none] [] _ _ _
  refine s_iload_n hK dX5_foresee_0 rfl ?_
  refine s_bipush hK (v := 40) dX5_foresee_1 (by decide) ?_
  refine s_S2 hK (mc := 1) (ms := 6) dX5_foresee_3 kS_X5_159 (by rfl) (by omega) (by omega) ?_
  refine c_checkHours (k := 40) _ (by omega) (by omega) (fun e => (hp.exc C (by rw [if_neg (by simp [e])]) : X eA h)) (fun e => ?_)
  rw [if_pos e] at hp
  obtain ⟨k, hk0, hk, rfl, ek⟩ := okH_ex (by omega) e
  rw [ek] at hp
  refine s_iload_n hK dX5_foresee_6 rfl ?_
  refine s_iconst hK (v := 4) dX5_foresee_7 (by decide) ?_
  refine s_S2 hK (mc := 1) (ms := 6) dX5_foresee_8 kS_X5_134 (by rfl) (by omega) (by omega) ?_
  refine c_checkWhat (k := 4) _ (by omega) (by omega) (fun e2 => (hp.exc C (by rw [if_neg (by simp [e2])]) : X eI h)) (fun e2 => ?_)
  rw [if_pos e2] at hp
  obtain ⟨j, hj, rfl, ej⟩ := okR_ex (by omega) e2
  rw [ej] at hp
  refine s_aload_n hK dX5_foresee_11 rfl ?_
  refine s_iload_n hK dX5_foresee_12 rfl ?_
  refine s_iconst hK (v := (-1)) dX5_foresee_13 (by decide) ?_
  refine s_V20 hK dX5_foresee_14 kV_X5_165 (by first | assumption | exact H.1 | exact H.2.1) (by rfl) ?_
  refine c_hauntsAhead (o := none) _ hk (fun _ q => nomatch q) C ok (fun h1 C1 N1 F1 => ?_)
  have Ca := C1.1
  have N0 := N1.1
  have H1 := N1.2.1.1
  refine s_istore_n hK dX5_foresee_17 rfl ?_
  refine s_iload_n hK dX5_foresee_18 rfl ?_
  match j, hj with
  | 0, _ =>
    refine s_tswI hK dX5_foresee_19 44 (by decide) (by rfl) (by decide) ?_
    refine s_iload_n hK dX5_foresee_44 rfl ?_
    refine s_ireturn hK dX5_foresee_45 rfl (by first | rfl | exact b01_nar _) ?_
    exact hp.to C1 F1 rfl
  | 1, _ =>
    refine s_tswI hK dX5_foresee_19 46 (by decide) (by rfl) (by decide) ?_
    refine s_aload_n hK dX5_foresee_46 rfl ?_
    refine s_getfield hK dX5_foresee_47 kF_X5_16 (by first | assumption | exact H.1 | exact H.2.1) (by rfl) ?_
    refine s_getfield hK dX5_foresee_50 kF_X5_40 (by first | assumption | exact H.1 | exact H.2.1) (by rfl) ?_
    refine s_V00 hK dX5_foresee_53 kV_X5_168 (by first | assumption | exact H.1 | exact H.2.1) (by rfl) ?_
    refine c_burningCount _ N1.2.1 ?_
    refine s_ireturn hK dX5_foresee_56 rfl (by first | rfl | exact b01_nar _) ?_
    exact hp.to C1 F1 rfl
  | 2, _ =>
    refine s_tswI hK dX5_foresee_19 57 (by decide) (by rfl) (by decide) ?_
    refine s_aload_n hK dX5_foresee_57 rfl ?_
    refine s_getfield hK dX5_foresee_58 kF_X5_16 (by first | assumption | exact H.1 | exact H.2.1) (by rfl) ?_
    refine s_getfield hK dX5_foresee_61 kF_X5_40 (by first | assumption | exact H.1 | exact H.2.1) (by rfl) ?_
    refine s_V00 hK dX5_foresee_64 kV_X5_171 (by first | assumption | exact H.1 | exact H.2.1) (by rfl) ?_
    refine c_litCount _ N1.2.1 ?_
    refine s_ireturn hK dX5_foresee_67 rfl (by first | rfl | exact b01_nar _) ?_
    exact hp.to C1 F1 rfl
  | 3, _ =>
    refine s_tswO hK dX5_foresee_19 68 (by decide) (by decide) ?_
    refine s_aload_n hK dX5_foresee_68 rfl ?_
    refine s_getfield hK dX5_foresee_69 kF_X5_16 (by first | assumption | exact H.1 | exact H.2.1) (by rfl) ?_
    refine s_V00 hK dX5_foresee_72 kV_X5_174 (by first | assumption | exact H.1 | exact H.2.1) (by rfl) ?_
    refine c_ghostsAtGoals _ (pasS_ok ok k).1 (pasS_ok ok k).2 N1 ?_
    refine s_ireturn hK dX5_foresee_75 rfl (by first | rfl | exact b01_nar _) ?_
    exact hp.to C1 F1 rfl
  | j + 4, q => exact absurd q (by omega)
def okM (m : Int32) : Bool := decide (¬ m < 0) && decide (m ≤ 99)
def fReaches (S : CS) (x y m : Int32) : gAns :=
  if okC x y = true then
    if okM m = true then
      (vI (if lb (S.1 4) (cellI x y) = true then oI (fndB (fun k => decide ((pasS S k).2.1 (cellI x y) = m)) 61) else -1), S)
    else (.inl eA, S)
  else (.inl eI, S)