/-! brought back; foresee of the model -/
theorem step_k {s : LG} {g k : Nat} (h1 : k ≠ 1) (h7 : k ≠ 7) : (stepF s g).1 k = s.1 k := by
  unfold stepF
  split
  · rfl
  · split
    · exact blow_k k h1 h7
    · rfl
theorem steps_k {s : LG} {g k : Nat} (h1 : k ≠ 1) (h7 : k ≠ 7) : ∀ n, (stepsF s g n).1 k = s.1 k
  | 0 => rfl
  | n + 1 => (step_k h1 h7).trans (steps_k h1 h7 n)
theorem walk_k {s : LG} {k : Nat} (h1 : k ≠ 1) (h7 : k ≠ 7) : ∀ n, (walkF s n).1 k = s.1 k
  | 0 => rfl
  | n + 1 => (steps_k h1 h7 _).trans (walk_k h1 h7 n)
theorem hr_k (S : CS) {k : Nat} (h1 : k ≠ 1) (h7 : k ≠ 7) : (hrS S).1 k = S.1 k := by
  have a := walk_k (s := (reL (bdN S.1 S.2.1 63).1, S.2.2.1)) h1 h7 S.2.2.2.1
  show (walkF (reL (bdN S.1 S.2.1 63).1, S.2.2.1) S.2.2.2.1).1 k = S.1 k
  rw [a]
  show reL (bdN S.1 S.2.1 63).1 k = S.1 k
  rw [reL_ne h7, bdN_k h1]
theorem pas_k (S : CS) {k : Nat} (h1 : k ≠ 1) (h7 : k ≠ 7) : ∀ n, (pasS S n).1 k = S.1 k
  | 0 => rfl
  | n + 1 => (hr_k _ h1 h7).trans (pas_k S h1 h7 n)
/-- the same walls, things and number of ghosts -/
def sameH (S S' : CS) : Prop := (∀ k, k ≠ 1 → k ≠ 7 → S'.1 k = S.1 k) ∧ S'.2.2.2.1 = S.2.2.2.1
theorem sameH_pas (S : CS) (n : Nat) : sameH S (pasS S n) := ⟨fun _ h1 h7 => pas_k S h1 h7 n, pas_gc S n⟩
theorem sameH.row {S S' : CS} (h : sameH S S') {lt lt' : Nat → Bool} {st rw st' rw' : Nat → Int32} {k j : Nat} (h1 : 1 ≤ k) (h2 : k < 4) : mC S' lt st rw k j = mC S lt' st' rw' k j := by
  have et : thg S'.1 j = thg S.1 j := thg_of (by rw [h.1 0 (by decide) (by decide)]) (by rw [h.1 2 (by decide) (by decide)]) (by rw [h.1 3 (by decide) (by decide)]) (by rw [h.1 4 (by decide) (by decide)])
  rcases (show k = 1 ∨ k = 2 ∨ k = 3 by omega) with rfl | rfl | rfl
  · show b01 (lb (S'.1 5) j) = b01 (lb (S.1 5) j)
    rw [h.1 5 (by decide) (by decide)]
  · show b01 (lb (S'.1 6) j) = b01 (lb (S.1 6) j)
    rw [h.1 6 (by decide) (by decide)]
  · show nI (thg S'.1 j) = nI (thg S.1 j)
    rw [et]
set_option maxRecDepth 10000 in
theorem c_bringBack (d : Nat) {m : Nat → Nat} {thr : Int32} {S S' : CS} {lt lt0 : Nat → Bool} {st rw st0 rw0 : Nat → Int32} {q : Nat} {r : Nat → Nat} (hS : sameH S S') {h : gH} (M : MdlAt h m thr S' lt st rw) (P : KpN h m q r (mC S lt0 st0 rw0) 4) {mc ms : Nat} (hmc : 1 ≤ mc) (hms : 4 ≤ ms) {Post : Option Value → gH → Prop} {X : String → gH → Prop} (hp : ∀ h', MdlAt h' m thr S lt st rw → KpN h' m q r (mC S lt0 st0 rw0) 4 → gNw (mS m) h h' → Post none h') : gSafe (d + 1) mX6_bringBack [.ref (m 0), .ref q] h mc ms Post X := by
  refine ⟨Nat.le_of_ble_eq_true rfl, fun K hK => ?_⟩
  show K 0 [some (.ref (m 0)), some (.ref q), none, none] [] _ _ _
  refine s_iconst hK (v := 4) dX6_bringBack_0 (by decide) ?_
  refine s_anewarray hK (N := 4) dX6_bringBack_1 kArr (by decide) (by decide) (by omega) (by omega) (by omega) (fun q2 Q => ?_)
  have A : ∀ o, MdlAt (gU h q2 o) m thr S' lt st rw := M_al M Q
  have A0 : ∀ o, gU h q2 o (m 0) = _ := fun o => (A o).own0
  refine s_dup hK dX6_bringBack_4 rfl ?_
  refine s_iconst hK (v := 0) dX6_bringBack_5 (by decide) ?_
  refine s_aload_n hK dX6_bringBack_6 rfl ?_
  refine s_getfield hK dX6_bringBack_7 kF_X6_20 (A0 _) (by rfl) ?_
  refine s_aastore hK dX6_bringBack_10 (gU_eq _ _ _) (g := ((A _).a4).choose) ((A _).a4).choose_spec.1 (vp_in_nI (n := 0) (by omega) (by omega)) ?_
  rw [gU_gU, show (0 : Int32).toNatClampNeg = 0 by decide]
  refine s_dup hK dX6_bringBack_11 rfl ?_
  refine s_iconst hK (v := 1) dX6_bringBack_12 (by decide) ?_
  refine s_aload_n hK dX6_bringBack_13 rfl ?_
  refine s_getfield hK dX6_bringBack_14 kF_X6_23 (A0 _) (by rfl) ?_
  refine s_aastore hK dX6_bringBack_17 (gU_eq _ _ _) (g := ((A _).a5).choose) ((A _).a5).choose_spec.1 (vp_in_nI (n := 1) (by omega) (by omega)) ?_
  rw [gU_gU, show (1 : Int32).toNatClampNeg = 1 by decide]
  refine s_dup hK dX6_bringBack_18 rfl ?_
  refine s_iconst hK (v := 2) dX6_bringBack_19 (by decide) ?_
  refine s_aload_n hK dX6_bringBack_20 rfl ?_
  refine s_getfield hK dX6_bringBack_21 kF_X6_26 (A0 _) (by rfl) ?_
  refine s_aastore hK dX6_bringBack_24 (gU_eq _ _ _) (g := ((A _).a6).choose) ((A _).a6).choose_spec.1 (vp_in_nI (n := 2) (by omega) (by omega)) ?_
  rw [gU_gU, show (2 : Int32).toNatClampNeg = 2 by decide]
  refine s_dup hK dX6_bringBack_25 rfl ?_
  refine s_iconst hK (v := 3) dX6_bringBack_26 (by decide) ?_
  refine s_aload_n hK dX6_bringBack_27 rfl ?_
  refine s_getfield hK dX6_bringBack_28 kF_X6_29 (A0 _) (by rfl) ?_
  refine s_aastore hK dX6_bringBack_31 (gU_eq _ _ _) (g := ((A _).a7).choose) ((A _).a7).choose_spec.1 (vp_in_nI (n := 3) (by omega) (by omega)) ?_
  rw [gU_gU, show (3 : Int32).toNatClampNeg = 3 by decide]
  obtain ⟨f4, hf4⟩ : ∃ f, f = va_up (va_up (va_up (va_up (fun _ => none) 0 (some (m 4))) 1 (some (m 5))) 2 (some (m 6))) 3 (some (m 7)) := ⟨_, rfl⟩
  have f4i : ∀ k, k < 4 → f4 k = some (m (k + 4)) := by
    intro k hk
    rw [hf4]
    match k, hk with
    | 0, _ => rfl
    | 1, _ => rfl
    | 2, _ => rfl
    | 3, _ => rfl
  rw [← hf4]
  have M1 := A (.inl (3, 4, .inr (.inr (.inr (.inr f4)))))
  have E1 : gU h q2 (.inl (3, 4, .inr (.inr (.inr (.inr f4))))) q2 = _ := gU_eq _ _ _
  have F1 : gNw (mS m) h (gU h q2 (.inl (3, 4, .inr (.inr (.inr (.inr f4)))))) := gNw.al (gNw.rf _ _) Q _
  have nq2 := M_out M Q
  generalize gU h q2 (.inl (3, 4, .inr (.inr (.inr (.inr f4))))) = h1 at M1 E1 F1
  clear A A0 hf4
  refine s_astore_n hK dX6_bringBack_32 rfl ?_
  refine s_iconst hK (v := 0) dX6_bringBack_33 (by decide) ?_
  refine s_istore_n hK dX6_bringBack_34 rfl ?_
  have loop : ∀ t k, k + t = 4 → ∀ h2, RawM h2 m thr S'.2.2.2.1 (fun k' j => if 4 ≤ k' ∧ k' < 4 + k then mC S lt0 st0 rw0 k' j else mC S' lt st rw k' j) → h2 q2 = some (.inl (3, 4, .inr (.inr (.inr (.inr f4))))) → gNw (mS m) h h2 → K 35 [some (.ref (m 0)), some (.ref q), some (.ref q2), some (.int (nI k))] [] h2 (mc - 1) (ms - 4) := by
    intro t
    induction t with
    | zero =>
      intro k hk h2 R2 E2 F2
      obtain rfl : k = 4 := by omega
      refine s_iload_n hK dX6_bringBack_35 rfl ?_
      refine s_aload_n hK dX6_bringBack_36 rfl ?_
      refine s_alen hK (v := nI 4) dX6_bringBack_37 E2 (by rfl) (by rfl) ?_
      refine s_icmpge hK dX6_bringBack_38 62 (by decide) (fun c_38 => ?_) (fun c_38 => ?_)
      · refine s_return hK dX6_bringBack_62 rfl ?_
        refine hp h2 ?_ (P.nw F2) F2
        unfold MdlAt
        rw [← hS.2]
        refine R2.cong (fun k' j k1 k2 hj => ?_)
        by_cases z : 4 ≤ k' ∧ k' < 4 + 4
        · rw [if_pos z]
          rcases (show k' = 4 ∨ k' = 5 ∨ k' = 6 ∨ k' = 7 by omega) with rfl | rfl | rfl | rfl <;> rfl
        · rw [if_neg z]
          by_cases z3 : k' < 4
          · exact hS.row k1 z3
          · rcases (show k' = 8 ∨ k' = 9 ∨ k' = 10 by omega) with rfl | rfl | rfl <;> rfl
      · exact absurd (Int32.le_refl (nI 4)) c_38
    | succ t ih =>
      intro k hk h2 R2 E2 F2
      have P2 := P.nw F2
      obtain ⟨⟨fq, eq, eqi⟩, rows, -, -⟩ := P2
      obtain ⟨fr, er, kr⟩ := rows k (by omega)
      obtain ⟨fm, em, km⟩ := R2.2.1 (k + 4) (by omega) (by omega)
      have mt : mT (k + 4) = 0 := by
        rcases (show k = 0 ∨ k = 1 ∨ k = 2 ∨ k = 3 by omega) with rfl | rfl | rfl | rfl <;> rfl
      have ml : mLen (k + 4) ≤ 63 := by
        rcases (show k = 0 ∨ k = 1 ∨ k = 2 ∨ k = 3 by omega) with rfl | rfl | rfl | rfl <;> decide
      rw [mt] at em
      have ck : (nI k).toNatClampNeg = k := nI_clamp (by omega)
      have cl : (nI (mLen (k + 4))).toNatClampNeg = mLen (k + 4) := nI_clamp (by omega)
      have c0 : (0 : Int32).toNatClampNeg = 0 := by decide
      refine s_iload_n hK dX6_bringBack_35 rfl ?_
      refine s_aload_n hK dX6_bringBack_36 rfl ?_
      refine s_alen hK (v := nI 4) dX6_bringBack_37 E2 (by rfl) (by rfl) ?_
      refine s_icmpge hK dX6_bringBack_38 62 (by decide) (fun c_38 => ?_) (fun c_38 => ?_)
      · exact absurd c_38 (nI_ge (b := 4) (by omega) (by omega))
      · refine s_aload_n hK dX6_bringBack_41 rfl ?_
        refine s_iload_n hK dX6_bringBack_42 rfl ?_
        refine s_aaload hK dX6_bringBack_43 eq (vp_in_nI (by omega) (by omega)) (by rw [ck]; exact eqi k (by omega)) ?_
        refine s_iconst hK (v := 0) dX6_bringBack_44 (by decide) ?_
        refine s_aload_n hK dX6_bringBack_45 rfl ?_
        refine s_iload_n hK dX6_bringBack_46 rfl ?_
        refine s_aaload hK dX6_bringBack_47 E2 (vp_in_nI (by omega) (by omega)) (by rw [ck]; exact f4i k (by omega)) ?_
        refine s_iconst hK (v := 0) dX6_bringBack_48 (by decide) ?_
        refine s_aload_n hK dX6_bringBack_49 rfl ?_
        refine s_iload_n hK dX6_bringBack_50 rfl ?_
        refine s_aaload hK dX6_bringBack_51 E2 (vp_in_nI (by omega) (by omega)) (by rw [ck]; exact f4i k (by omega)) ?_
        refine s_alen hK (v := nI (mLen (k + 4))) dX6_bringBack_52 em (by rfl) (by rfl) ?_
        refine s_copy hK dX6_bringBack_53 kCpy er em (by decide) (by decide) (nI_pos (by omega)) (by rw [c0, cl]; omega) (by rw [c0, cl]; omega) (by omega) (by rfl) ?_
        rw [c0, cl]
        have R3 := RawM.rep (k := k + 4) (f' := va_cpy fr fm 0 0 (mLen (k + 4))) (D := fun k' j => if 4 ≤ k' ∧ k' < 4 + (k + 1) then mC S lt0 st0 rw0 k' j else mC S' lt st rw k' j) R2 (by omega) (by omega) (fun j hj => by
          rw [pk_cpy_in (Nat.zero_le _) (by omega), show 0 + (j - 0) = j by omega, kr j hj]
          exact (if_pos ⟨by omega, by omega⟩).symm) (fun k' j k1 k2 k3 hj => by
          show (if 4 ≤ k' ∧ k' < 4 + k then mC S lt0 st0 rw0 k' j else mC S' lt st rw k' j) = (if 4 ≤ k' ∧ k' < 4 + (k + 1) then mC S lt0 st0 rw0 k' j else mC S' lt st rw k' j)
          by_cases z : 4 ≤ k' ∧ k' < 4 + k
          · rw [if_pos z, if_pos (by omega)]
          · rw [if_neg z, if_neg (by omega)])
        rw [mt] at R3
        have E3 : gU h2 (m (k + 4)) (.inl (0, mLen (k + 4), .inl (va_cpy fr fm 0 0 (mLen (k + 4))))) q2 = some (.inl (3, 4, .inr (.inr (.inr (.inr f4))))) := (gU_ne (nq2 (k + 4) (by omega)).symm).trans E2
        have F3 : gNw (mS m) h (gU h2 (m (k + 4)) (.inl (0, mLen (k + 4), .inl (va_cpy fr fm 0 0 (mLen (k + 4)))))) := F2.set (mS_in (by omega)) _
        refine s_iinck hK (v := 1) dX6_bringBack_56 rfl (by decide) rfl ?_
        refine s_goto hK dX6_bringBack_59 35 (by decide) ?_
        rw [nI_1]
        exact ih (k + 1) (by omega) _ R3 E3 F3
  refine loop 4 0 (by omega) h1 (RawM.cong M1 (fun k' j k1 k2 hj => ?_)) E1 F1
  exact (if_neg (by omega)).symm
def fsA (S : CS) (k wh : Nat) : Int32 := match wh with
  | 0 => nI (pasH S k)
  | 1 => iPop ((pasS S k).1 1)
  | 2 => iPop ((pasS S k).1 7)
  | _ => nI (cntG (fun g => decide ((pasS S k).2.2.1 g 0 = (pasS S k).2.2.1 g 2)) (pasS S k).2.2.2.1)
set_option maxHeartbeats 1000000 in
set_option maxRecDepth 10000 in
theorem c_foreseeM (d : Nat) {m : Nat → Nat} {thr t w : Int32} {S : CS} {lt : Nat → Bool} {st rw : Nat → Int32} {h : gH} (M : MdlAt h m thr S lt st rw) (V : InvS S) {mc ms : Nat} (hmc : 6 ≤ mc) (hms : 172 ≤ ms) {Post : Option Value → gH → Prop} {X : String → gH → Prop} (hp : mDone cdC Post m h (fForesee S t w)) : gSafe (d + 12) mX6_foresee [.ref (m 0), .int t, .int w] h mc ms Post X := by
  unfold fForesee at hp
  have M0 := M.own0
  refine ⟨Nat.le_of_ble_eq_true rfl, fun K hK => ?_⟩
  show K 0 [some (.ref (m 0)), some (.int t), some (.int w), none, none, none, none] [] _ _ _
  refine s_aload_n hK dX6_foresee_0 rfl ?_
  refine s_iconst hK (v := 0) dX6_foresee_1 (by decide) ?_
  refine s_putfield hK dX6_foresee_2 kF_X6_41 (by assumption) (by rfl) (by rfl) (by rfl) ?_
  have M1 : MdlAt (gU h (m 0) (.inr (5, (mF m thr S.2.2.2.1).set 0 (.int 0)))) m 0 S lt st rw := RawM.own (thr' := 0) (gc' := S.2.2.2.1) M
  have F1 : gFr (mS m) h (gU h (m 0) (.inr (5, (mF m thr S.2.2.2.1).set 0 (.int 0)))) := gFr.mdl (k := 0) (gFr_U _ _ _) (by omega)
  generalize gU h (m 0) (.inr (5, (mF m thr S.2.2.2.1).set 0 (.int 0))) = h1 at M1 F1
  clear M0
  have M0 := M1.own0
  refine s_iload_n hK dX6_foresee_5 rfl ?_
  refine s_iconst hK (v := 1) dX6_foresee_6 (by decide) ?_
  refine s_bipush hK (v := 40) dX6_foresee_7 (by decide) ?_
  refine s_S30 hK dX6_foresee_9 kS_X6_45 (by rfl) ?_
  refine c_isIn _ ?_
  rw [show (decide (¬ t < 1) && decide (t ≤ 40)) = okH t 40 from rfl]
  cases e : okH t 40 with
  | false =>
    rw [if_neg (by simp [e])] at hp
    refine s_ifne hK dX6_foresee_12 21 (by decide) (fun c_12 => ?_) (fun c_12 => ?_)
    · exact absurd rfl c_12
    · refine s_aload_n hK dX6_foresee_15 rfl ?_
      refine s_iconst hK (v := 1) dX6_foresee_16 (by decide) ?_
      refine s_V10 hK dX6_foresee_17 kV_X6_62 (by first | assumption | exact H.1 | exact H.2.1) (by rfl) ?_
      refine c_fail _ M1 (fun h2 M2 F2 => ?_)
      refine s_ireturn hK dX6_foresee_20 rfl (by first | rfl | exact b01_nar _) ?_
      exact hp.exc M2 (F1.tr F2) rfl rfl
  | true =>
    rw [if_pos e] at hp
    refine s_ifne hK dX6_foresee_12 21 (by decide) (fun c_12 => ?_) (fun c_12 => ?_)
    · refine s_iload_n hK dX6_foresee_21 rfl ?_
      refine s_iconst hK (v := 0) dX6_foresee_22 (by decide) ?_
      refine s_iconst hK (v := 3) dX6_foresee_23 (by decide) ?_
      refine s_S30 hK dX6_foresee_24 kS_X6_45 (by rfl) ?_
      refine c_isIn _ ?_
      rw [okR_3]
      cases e2 : okR w 4 with
      | false =>
        rw [if_neg (by simp [e2])] at hp
        refine s_ifne hK dX6_foresee_27 36 (by decide) (fun c_27 => ?_) (fun c_27 => ?_)
        · exact absurd rfl c_27
        · refine s_aload_n hK dX6_foresee_30 rfl ?_
          refine s_iconst hK (v := 2) dX6_foresee_31 (by decide) ?_
          refine s_V10 hK dX6_foresee_32 kV_X6_62 (by first | assumption | exact H.1 | exact H.2.1) (by rfl) ?_
          refine c_fail _ M1 (fun h2 M2 F2 => ?_)
          refine s_ireturn hK dX6_foresee_35 rfl (by first | rfl | exact b01_nar _) ?_
          exact hp.exc M2 (F1.tr F2) rfl rfl
      | true =>
        rw [if_pos e2] at hp
        obtain ⟨k, hk1, hk, rfl, ek⟩ := okH_ex (by omega) e
        obtain ⟨wh, hwh, rfl, ew⟩ := okR_ex (by omega) e2
        rw [ek, ew] at hp
        have hp : mDone cdC Post m h (vI (fsA S k wh), S) := hp
        refine s_ifne hK dX6_foresee_27 36 (by decide) (fun c_27 => ?_) (fun c_27 => ?_)
        · refine s_aload_n hK dX6_foresee_36 rfl ?_
          refine s_V0 hK (mc := 5) (ms := 168) dX6_foresee_37 kV_X6_156 (by first | assumption | exact H.1 | exact H.2.1) (by rfl) (by omega) (by omega) ?_
          refine c_kept _ M1 (by omega) (by omega) (fun h2 q r M2 P2 F2 => ?_)
          have M0 := M2.own0
          have G2 : gNw (mS m) h h2 := gNw.call F1.nw F2 (fun q hq => absurd hq (by simp))
          obtain ⟨f7, e7, k7⟩ := M2.a7
          have k71 := k7 1 (by omega)
          rw [if_neg (by omega)] at k71
          refine s_astore_n hK dX6_foresee_40 rfl ?_
          refine s_aload_n hK dX6_foresee_41 rfl ?_
          refine s_getfield hK dX6_foresee_42 kF_X6_29 (by first | assumption | exact H.1 | exact H.2.1) (by rfl) ?_
          refine s_iconst hK (v := 1) dX6_foresee_45 (by decide) ?_
          refine s_ialoadN hK (j := 1) dX6_foresee_46 e7 (by omega) (by omega) ?_
          rw [k71]
          refine s_istore hK dX6_foresee_47 rfl ?_
          refine s_aload_n hK dX6_foresee_49 rfl ?_
          refine s_iload_n hK dX6_foresee_50 rfl ?_
          refine s_V10 hK dX6_foresee_51 kV_X6_148 (by first | assumption | exact H.1 | exact H.2.1) (by rfl) ?_
          refine c_hoursOn _ hk1 hk V M2 (fun h3 st3 rw3 M3 F3 => ?_)
          have P3 := P2.nw F3.nw
          have G3 := gNw.tr G2 F3.nw
          have M0 := M3.own0
          have V3 := pasS_V V k
          have fin : ∀ told : Int32, told = fsA S k wh → ∀ w4 w6, K 147 [some (.ref (m 0)), some (.int (nI k)), some (.int (nI wh)), some (.ref q), w4, some (.int told), w6] [] h3 (mc - 5) (ms - 168) := by
            intro told et w4 w6
            rw [← et] at hp
            refine s_aload_n hK dX6_foresee_147 rfl ?_
            refine s_aload_n hK dX6_foresee_148 rfl ?_
            refine s_V1 hK (mc := 1) (ms := 4) dX6_foresee_149 kV_X6_160 (by first | assumption | exact H.1 | exact H.2.1) (by rfl) (by omega) (by omega) ?_
            refine c_bringBack _ (sameH_pas S k) M3 P3 (by omega) (by omega) (fun h4 M4 P4 F4 => ?_)
            refine s_iload hK dX6_foresee_152 rfl ?_
            refine s_ireturn hK dX6_foresee_154 rfl (by first | rfl | exact b01_nar _) ?_
            exact hp h4 0 told _ st3 rw3 M4 (gNw.tr G3 F4) ⟨rfl, rfl⟩
          have out : wh ≠ 3 → ∀ told : Int32, told = fsA S k wh → ∀ (b4 : Int32) w5 w6, K 95 [some (.ref (m 0)), some (.int (nI k)), some (.int (nI wh)), some (.ref q), some (.int b4), w5, w6] [.int told] h3 (mc - 5) (ms - 168) := by
            intro h3n told et b4 w5 w6
            refine s_istore hK dX6_foresee_95 rfl ?_
            refine s_iconst hK (v := 0) dX6_foresee_97 (by decide) ?_
            refine s_istore hK dX6_foresee_98 rfl ?_
            refine s_iload hK dX6_foresee_100 rfl ?_
            refine s_aload_n hK dX6_foresee_102 rfl ?_
            refine s_getfield hK dX6_foresee_103 kF_X6_49 (by first | assumption | exact H.1 | exact H.2.1) (by rfl) ?_
            refine s_icmpge hK dX6_foresee_106 147 (by decide) (fun c_106 => ?_) (fun c_106 => ?_)
            · exact fin told et _ _
            · refine s_iload_n hK dX6_foresee_109 rfl ?_
              refine s_iconst hK (v := 3) dX6_foresee_110 (by decide) ?_
              refine s_icmpne hK dX6_foresee_111 147 (by decide) (fun c_111 => ?_) (fun c_111 => ?_)
              · exact fin told et _ _
              · exact absurd ((nI_eq (b := 3) (by omega) (by omega)).mp c_111) h3n
          refine s_iload_n hK dX6_foresee_54 rfl ?_
          rcases (show wh = 0 ∨ wh = 1 ∨ wh = 2 ∨ wh = 3 by omega) with rfl | rfl | rfl | rfl
          · obtain ⟨f7, e7, k7⟩ := M3.a7
            have k71 := k7 1 (by omega)
            rw [if_neg (by omega), pas_gc, sum_pas] at k71
            refine s_ifne hK dX6_foresee_55 70 (by decide) (fun c_55 => ?_) (fun c_55 => ?_)
            · exact absurd rfl c_55
            · refine s_aload_n hK dX6_foresee_58 rfl ?_
              refine s_getfield hK dX6_foresee_59 kF_X6_29 (by first | assumption | exact H.1 | exact H.2.1) (by rfl) ?_
              refine s_iconst hK (v := 1) dX6_foresee_62 (by decide) ?_
              refine s_ialoadN hK (j := 1) dX6_foresee_63 e7 (by omega) (by omega) ?_
              rw [k71]
              refine s_iload hK dX6_foresee_64 rfl ?_
              refine s_isub hK dX6_foresee_66 ?_
              rw [pk_sub (by omega), show sumT S.2.2.1 6 S.2.2.2.1 + pasH S k - sumT S.2.2.1 6 S.2.2.2.1 = pasH S k by omega]
              refine s_goto hK dX6_foresee_67 95 (by decide) ?_
              exact out (by omega) _ rfl _ _ _
          · refine s_ifne hK dX6_foresee_55 70 (by decide) (fun c_55 => ?_) (fun c_55 => ?_)
            · refine s_iload_n hK dX6_foresee_70 rfl ?_
              refine s_iconst hK (v := 1) dX6_foresee_71 (by decide) ?_
              refine s_icmpne hK dX6_foresee_72 82 (by decide) (fun c_72 => ?_) (fun c_72 => ?_)
              · exact absurd rfl c_72
              · refine s_aload_n hK dX6_foresee_75 rfl ?_
                refine s_V00 hK dX6_foresee_76 kV_X6_127 (by first | assumption | exact H.1 | exact H.2.1) (by rfl) ?_
                refine c_burningM _ M3 V3.2.2.1 ?_
                refine s_goto hK dX6_foresee_79 95 (by decide) ?_
                exact out (by omega) _ rfl _ _ _
            · exact absurd c_55 (by decide)
          · refine s_ifne hK dX6_foresee_55 70 (by decide) (fun c_55 => ?_) (fun c_55 => ?_)
            · refine s_iload_n hK dX6_foresee_70 rfl ?_
              refine s_iconst hK (v := 1) dX6_foresee_71 (by decide) ?_
              refine s_icmpne hK dX6_foresee_72 82 (by decide) (fun c_72 => ?_) (fun c_72 => ?_)
              · refine s_iload_n hK dX6_foresee_82 rfl ?_
                refine s_iconst hK (v := 2) dX6_foresee_83 (by decide) ?_
                refine s_icmpne hK dX6_foresee_84 94 (by decide) (fun c_84 => ?_) (fun c_84 => ?_)
                · exact absurd rfl c_84
                · refine s_aload_n hK dX6_foresee_87 rfl ?_
                  refine s_V00 hK dX6_foresee_88 kV_X6_80 (by first | assumption | exact H.1 | exact H.2.1) (by rfl) ?_
                  refine c_litCells _ M3 ?_
                  refine s_goto hK dX6_foresee_91 95 (by decide) ?_
                  refine out (by omega) _ ?_ _ _ _
                  have s7 : SB ((pasS S k).1 7) := by
                    rw [V3.2.2.2]
                    exact relit_SBs 63 (Nat.le_refl _)
                  exact (pop63 s7).symm
              · exact absurd c_72 (by decide)
            · exact absurd c_55 (by decide)
          · have hgc := V3.1.1
            have loop : ∀ u i, i + u = (pasS S k).2.2.2.1 → ∀ b4 : Int32, K 100 [some (.ref (m 0)), some (.int (nI k)), some (.int (nI 3)), some (.ref q), some (.int b4), some (.int (nI (cntG (fun g => decide ((pasS S k).2.2.1 g 0 = (pasS S k).2.2.1 g 2)) i))), some (.int (nI i))] [] h3 (mc - 5) (ms - 168) := by
              intro u
              induction u with
              | zero =>
                intro i hi b4
                obtain rfl : i = (pasS S k).2.2.2.1 := by omega
                refine s_iload hK dX6_foresee_100 rfl ?_
                refine s_aload_n hK dX6_foresee_102 rfl ?_
                refine s_getfield hK dX6_foresee_103 kF_X6_49 (by first | assumption | exact H.1 | exact H.2.1) (by rfl) ?_
                refine s_icmpge hK dX6_foresee_106 147 (by decide) (fun c_106 => ?_) (fun c_106 => ?_)
                · exact fin _ rfl _ _
                · exact absurd (Int32.le_refl (nI (pasS S k).2.2.2.1)) c_106
              | succ u ih =>
                intro i hi b4
                have hG := V3.1.2 i (by omega)
                refine s_iload hK dX6_foresee_100 rfl ?_
                refine s_aload_n hK dX6_foresee_102 rfl ?_
                refine s_getfield hK dX6_foresee_103 kF_X6_49 (by first | assumption | exact H.1 | exact H.2.1) (by rfl) ?_
                refine s_icmpge hK dX6_foresee_106 147 (by decide) (fun c_106 => ?_) (fun c_106 => ?_)
                · exact absurd c_106 (nI_ge (a := i) (b := (pasS S k).2.2.2.1) (by omega) (by omega))
                · refine s_iload_n hK dX6_foresee_109 rfl ?_
                  refine s_iconst hK (v := 3) dX6_foresee_110 (by decide) ?_
                  refine s_icmpne hK dX6_foresee_111 147 (by decide) (fun c_111 => ?_) (fun c_111 => ?_)
                  · exact absurd rfl c_111
                  · refine s_iload hK dX6_foresee_114 rfl ?_
                    refine s_aload_n hK dX6_foresee_116 rfl ?_
                    refine s_iload hK dX6_foresee_117 rfl ?_
                    refine s_iconst hK (v := 0) dX6_foresee_119 (by decide) ?_
                    refine s_V20 hK dX6_foresee_120 kV_X6_95 (by first | assumption | exact H.1 | exact H.2.1) (by rfl) ?_
                    refine c_sp (k := 0) _ (by omega) (by omega) M3 ?_
                    refine s_aload_n hK dX6_foresee_123 rfl ?_
                    refine s_iload hK dX6_foresee_124 rfl ?_
                    refine s_iconst hK (v := 2) dX6_foresee_126 (by decide) ?_
                    refine s_V20 hK dX6_foresee_127 kV_X6_95 (by first | assumption | exact H.1 | exact H.2.1) (by rfl) ?_
                    refine c_sp (k := 2) _ (by omega) (by omega) M3 ?_
                    have r := ih (i + 1) (by omega) b4
                    rw [cntG_succ] at r
                    refine s_icmpne hK dX6_foresee_130 137 (by decide) (fun c_130 => ?_) (fun c_130 => ?_)
                    · have q : ¬ (pasS S k).2.2.1 i 0 = (pasS S k).2.2.1 i 2 := fun z => c_130 (by rw [z])
                      rw [if_neg (by simp [q])] at r
                      refine s_iconst hK (v := 0) dX6_foresee_137 (by decide) ?_
                      refine s_iadd hK dX6_foresee_138 ?_
                      refine s_istore hK dX6_foresee_139 rfl ?_
                      refine s_iinck hK (v := 1) dX6_foresee_141 rfl (by decide) rfl ?_
                      refine s_goto hK dX6_foresee_144 100 (by decide) ?_
                      rw [Int32.add_zero, nI_1]
                      exact r
                    · have q : (pasS S k).2.2.1 i 0 = (pasS S k).2.2.1 i 2 := (nI_eq (by omega) (by omega)).mp c_130
                      rw [if_pos (by simp [q])] at r
                      refine s_iconst hK (v := 1) dX6_foresee_133 (by decide) ?_
                      refine s_goto hK dX6_foresee_134 138 (by decide) ?_
                      refine s_iadd hK dX6_foresee_138 ?_
                      refine s_istore hK dX6_foresee_139 rfl ?_
                      refine s_iinck hK (v := 1) dX6_foresee_141 rfl (by decide) rfl ?_
                      refine s_goto hK dX6_foresee_144 100 (by decide) ?_
                      rw [nI_1, nI_1]
                      exact r
            refine s_ifne hK dX6_foresee_55 70 (by decide) (fun c_55 => ?_) (fun c_55 => ?_)
            · refine s_iload_n hK dX6_foresee_70 rfl ?_
              refine s_iconst hK (v := 1) dX6_foresee_71 (by decide) ?_
              refine s_icmpne hK dX6_foresee_72 82 (by decide) (fun c_72 => ?_) (fun c_72 => ?_)
              · refine s_iload_n hK dX6_foresee_82 rfl ?_
                refine s_iconst hK (v := 2) dX6_foresee_83 (by decide) ?_
                refine s_icmpne hK dX6_foresee_84 94 (by decide) (fun c_84 => ?_) (fun c_84 => ?_)
                · refine s_iconst hK (v := 0) dX6_foresee_94 (by decide) ?_
                  refine s_istore hK dX6_foresee_95 rfl ?_
                  refine s_iconst hK (v := 0) dX6_foresee_97 (by decide) ?_
                  refine s_istore hK dX6_foresee_98 rfl ?_
                  exact loop _ 0 (Nat.zero_add _) _
                · exact absurd c_84 (by decide)
              · exact absurd c_72 (by decide)
            · exact absurd c_55 (by decide)
        · exact absurd c_27 (by decide)
    · exact absurd c_12 (by decide)
