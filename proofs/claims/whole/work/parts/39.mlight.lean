/-! light of the model -/
theorem thg1 (L : Nat → Int64) (c : Nat) : thg L c = 1 ↔ lb (L 0) c = true := by
  rw [← in11 L c]
  unfold inT
  rw [Bool.and_eq_true, decide_eq_true_eq, decide_eq_true_eq]
  omega
theorem switch_bu {L : Nat → Int64} {c : Nat} (hc : c < 63) : ∀ j, j < 63 → lb (reL (oSwitch L c) 1) j = if j = c then !lb (L 1) c else lb (L 1) j := by
  intro j hj
  have e0 : reL (oSwitch L c) 1 = L 1 ^^^ bOnly c := rfl
  rw [e0, lb_xor, lb_only (by omega)]
  by_cases e : j = c
  · rw [if_pos e, e]
    simp
  · simp [e]
theorem switch_k {L : Nat → Int64} {c : Nat} : ∀ k, k ≠ 1 → k ≠ 7 → reL (oSwitch L c) k = L k := by
  intro k k1 k7
  rw [reL_ne k7]
  exact if_neg k1
theorem one_b01 (b : Bool) : (1 : Int32) - b01 b = b01 (!b) := by cases b <;> rfl
set_option maxRecDepth 10000 in
theorem c_lightM (d : Nat) {m : Nat → Nat} {thr x y : Int32} {S : CS} {lt : Nat → Bool} {st rw : Nat → Int32} {h : gH} (M : MdlAt h m thr S lt st rw) (T : InvT S.1 S.2.1) {mc ms : Nat} {Post : Option Value → gH → Prop} {X : String → gH → Prop} (hp : mDone cdB Post m h (fLight S x y)) : gSafe (d + 3) mX6_light [.ref (m 0), .int x, .int y] h mc ms Post X := by
  unfold fLight at hp
  have M0 := M.own0
  obtain ⟨f3, e3, k3⟩ := M.a3
  obtain ⟨f4, e4, k4⟩ := M.a4
  refine ⟨Nat.le_of_ble_eq_true rfl, fun K hK => ?_⟩
  show K 0 [some (.ref (m 0)), some (.int x), some (.int y)] [] _ _ _
  have exc : ∀ t : Int32, ¬ t = 0 → (∀ h', MdlAt h' m t S lt st rw → gFr (mS m) h h' → Post (some (.int 0)) h') → K 47 [some (.ref (m 0)), some (.int x), some (.int y)] [.int t, .ref (m 0)] h mc ms := by
    intro t ht hq
    refine s_putfield hK dX6_light_47 kF_X6_41 (by assumption) (by rfl) (by rfl) (by rfl) ?_
    have M1 : MdlAt (gU h (m 0) (.inr (5, (mF m thr S.2.2.2.1).set 0 (.int t)))) m t S lt st rw := RawM.own (thr' := t) (gc' := S.2.2.2.1) M
    have F1 : gFr (mS m) h (gU h (m 0) (.inr (5, (mF m thr S.2.2.2.1).set 0 (.int t)))) := gFr.mdl (k := 0) (gFr_U _ _ _) (by omega)
    generalize gU h (m 0) (.inr (5, (mF m thr S.2.2.2.1).set 0 (.int t))) = h1 at M1 F1
    have M0 := M1.own0
    refine s_aload_n hK dX6_light_50 rfl ?_
    refine s_getfield hK dX6_light_51 kF_X6_41 (by first | assumption | exact H.1 | exact H.2.1) (by rfl) ?_
    refine s_ifeq hK dX6_light_54 59 (by decide) (fun c_54 => ?_) (fun c_54 => ?_)
    · exact absurd c_54 ht
    · refine s_iconst hK (v := 0) dX6_light_57 (by decide) ?_
      refine s_ireturn hK dX6_light_58 rfl (by first | rfl | exact b01_nar _) ?_
      exact hq h1 M1 F1
  refine s_aload_n hK dX6_light_0 rfl ?_
  refine s_iload_n hK dX6_light_1 rfl ?_
  refine s_iload_n hK dX6_light_2 rfl ?_
  refine s_S20 hK dX6_light_3 kS_X6_52 (by rfl) ?_
  refine c_isCell _ ?_
  cases e : okC x y with
  | false =>
    rw [if_neg (by simp [e])] at hp
    refine s_ifne hK dX6_light_6 13 (by decide) (fun c_6 => ?_) (fun c_6 => ?_)
    · exact absurd rfl c_6
    · refine s_iconst hK (v := 1) dX6_light_9 (by decide) ?_
      refine s_goto hK dX6_light_10 47 (by decide) ?_
      exact exc 1 (by decide) (fun h' M2 F2 => hp.exc M2 F2 rfl rfl)
  | true =>
    rw [if_pos e] at hp
    obtain ⟨hc, e9⟩ := okC_of e
    have t5 := thg_lt S.1 (cellI x y)
    obtain ⟨v, v1, v2, -, -⟩ := T.2.2.2.2.2 _ hc
    have no : cwax S.1 S.2.1 (cellI x y) = false → K 42 [some (.ref (m 0)), some (.int x), some (.int y)] [.ref (m 0)] h mc ms := by
      intro q
      rw [if_neg (by simp [q])] at hp
      refine s_iconst hK (v := 2) dX6_light_42 (by decide) ?_
      refine s_goto hK dX6_light_43 47 (by decide) ?_
      exact exc 2 (by decide) (fun h' M2 F2 => hp.exc M2 F2 rfl rfl)
    refine s_ifne hK dX6_light_6 13 (by decide) (fun c_6 => ?_) (fun c_6 => ?_)
    · refine s_aload_n hK dX6_light_13 rfl ?_
      refine s_getfield hK dX6_light_14 kF_X6_16 (by first | assumption | exact H.1 | exact H.2.1) (by rfl) ?_
      refine s_bipush hK (v := 9) dX6_light_17 (by decide) ?_
      refine s_iload_n hK dX6_light_19 rfl ?_
      refine s_imul hK dX6_light_20 ?_
      refine s_iload_n hK dX6_light_21 rfl ?_
      refine s_iadd hK dX6_light_22 ?_
      rw [e9]
      refine s_ialoadN hK dX6_light_23 (by assumption) (by omega) (by omega) ?_
      rw [k3 _ hc]
      refine s_iconst hK (v := 1) dX6_light_24 (by decide) ?_
      refine s_icmpne hK dX6_light_25 42 (by decide) (fun c_25 => ?_) (fun c_25 => ?_)
      · refine no ?_
        have q : ¬ lb (S.1 0) (cellI x y) = true := fun z => c_25 (by rw [(thg1 _ _).mpr z]; rfl)
        unfold cwax
        simp [q]
      · have q0 : lb (S.1 0) (cellI x y) = true := (thg1 _ _).mp ((nI_eq (b := 1) (by omega) (by omega)).mp c_25)
        refine s_aload_n hK dX6_light_28 rfl ?_
        refine s_getfield hK dX6_light_29 kF_X6_20 (by first | assumption | exact H.1 | exact H.2.1) (by rfl) ?_
        refine s_bipush hK (v := 9) dX6_light_32 (by decide) ?_
        refine s_iload_n hK dX6_light_34 rfl ?_
        refine s_imul hK dX6_light_35 ?_
        refine s_iload_n hK dX6_light_36 rfl ?_
        refine s_iadd hK dX6_light_37 ?_
        rw [e9]
        refine s_ialoadN hK dX6_light_38 (by assumption) (by omega) (by omega) ?_
        rw [k4 _ hc, v2]
        refine s_ifne hK dX6_light_39 46 (by decide) (fun c_39 => ?_) (fun c_39 => ?_)
        · have v0 : v ≠ 0 := fun z => c_39 (by rw [z]; rfl)
          have q : cwax S.1 S.2.1 (cellI x y) = true := by
            unfold cwax
            rw [q0, v2]
            have : (0 : Int32) < nI v := (nI_ltI (a := 0) (by omega) (by omega)).mpr (by omega)
            simp [this]
          rw [if_pos q] at hp
          clear no exc
          refine s_iconst hK (v := 0) dX6_light_46 (by decide) ?_
          refine s_putfield hK dX6_light_47 kF_X6_41 (by assumption) (by rfl) (by rfl) (by rfl) ?_
          have M1 : MdlAt (gU h (m 0) (.inr (5, (mF m thr S.2.2.2.1).set 0 (.int 0)))) m 0 S lt st rw := RawM.own (thr' := 0) (gc' := S.2.2.2.1) M
          have F1 : gFr (mS m) h (gU h (m 0) (.inr (5, (mF m thr S.2.2.2.1).set 0 (.int 0)))) := gFr.mdl (k := 0) (gFr_U _ _ _) (by omega)
          generalize gU h (m 0) (.inr (5, (mF m thr S.2.2.2.1).set 0 (.int 0))) = h1 at M1 F1
          clear M0 e3 k3 e4 k4
          have M0 := M1.own0
          obtain ⟨f5, e5, k5⟩ := M1.a5
          refine s_aload_n hK dX6_light_50 rfl ?_
          refine s_getfield hK dX6_light_51 kF_X6_41 (by first | assumption | exact H.1 | exact H.2.1) (by rfl) ?_
          refine s_ifeq hK dX6_light_54 59 (by decide) (fun c_54 => ?_) (fun c_54 => ?_)
          · refine s_aload_n hK dX6_light_59 rfl ?_
            refine s_getfield hK dX6_light_60 kF_X6_23 (by first | assumption | exact H.1 | exact H.2.1) (by rfl) ?_
            refine s_bipush hK (v := 9) dX6_light_63 (by decide) ?_
            refine s_iload_n hK dX6_light_65 rfl ?_
            refine s_imul hK dX6_light_66 ?_
            refine s_iload_n hK dX6_light_67 rfl ?_
            refine s_iadd hK dX6_light_68 ?_
            rw [e9]
            refine s_iconst hK (v := 1) dX6_light_69 (by decide) ?_
            refine s_aload_n hK dX6_light_70 rfl ?_
            refine s_getfield hK dX6_light_71 kF_X6_23 (by first | assumption | exact H.1 | exact H.2.1) (by rfl) ?_
            refine s_bipush hK (v := 9) dX6_light_74 (by decide) ?_
            refine s_iload_n hK dX6_light_76 rfl ?_
            refine s_imul hK dX6_light_77 ?_
            refine s_iload_n hK dX6_light_78 rfl ?_
            refine s_iadd hK dX6_light_79 ?_
            rw [e9]
            refine s_ialoadN hK dX6_light_80 (by assumption) (by omega) (by omega) ?_
            rw [k5 _ hc]
            refine s_isub hK dX6_light_81 ?_
            rw [one_b01]
            refine s_iastoreN hK dX6_light_82 (by assumption) (by omega) (by omega) ?_
            have M2 : MdlAt (gU h1 (m 5) (.inl (0, 63, .inl (upd f5 (cellI x y) (b01 (!lb (S.1 1) (cellI x y))))))) m 0 (reL (oSwitch S.1 (cellI x y)), S.2) lt st rw := RawM.cong (RawM.set (k := 5) (i := cellI x y) (x := b01 (!lb (S.1 1) (cellI x y))) M1 (by omega) (by omega) k5) (mC_burn (S' := (reL (oSwitch S.1 (cellI x y)), S.2)) (switch_bu hc) switch_k rfl)
            have F2 : gFr (mS m) h (gU h1 (m 5) (.inl (0, 63, .inl (upd f5 (cellI x y) (b01 (!lb (S.1 1) (cellI x y))))))) := F1.tr (gFr.mdl (k := 5) (gFr_U _ _ _) (by omega))
            generalize gU h1 (m 5) (.inl (0, 63, .inl (upd f5 (cellI x y) (b01 (!lb (S.1 1) (cellI x y)))))) = h2 at M2 F2
            clear M0 e5 k5
            have M0 := M2.own0
            obtain ⟨f5, e5, k5⟩ := M2.a5
            refine s_aload_n hK dX6_light_83 rfl ?_
            refine s_getfield hK dX6_light_84 kF_X6_23 (by first | assumption | exact H.1 | exact H.2.1) (by rfl) ?_
            refine s_bipush hK (v := 9) dX6_light_87 (by decide) ?_
            refine s_iload_n hK dX6_light_89 rfl ?_
            refine s_imul hK dX6_light_90 ?_
            refine s_iload_n hK dX6_light_91 rfl ?_
            refine s_iadd hK dX6_light_92 ?_
            rw [e9]
            refine s_ialoadN hK dX6_light_93 (by assumption) (by omega) (by omega) ?_
            rw [k5 _ hc]
            cases eb : lb (reL (oSwitch S.1 (cellI x y)) 1) (cellI x y) with
            | false =>
              rw [eb] at hp
              refine s_iconst hK (v := 1) dX6_light_94 (by decide) ?_
              refine s_icmpne hK dX6_light_95 102 (by decide) (fun c_95 => ?_) (fun c_95 => ?_)
              · refine s_iconst hK (v := 0) dX6_light_102 (by decide) ?_
                refine s_ireturn hK dX6_light_103 rfl (by first | rfl | exact b01_nar _) ?_
                exact hp.val M2 F2 rfl rfl
              · exact absurd c_95 (by decide)
            | true =>
              rw [eb] at hp
              refine s_iconst hK (v := 1) dX6_light_94 (by decide) ?_
              refine s_icmpne hK dX6_light_95 102 (by decide) (fun c_95 => ?_) (fun c_95 => ?_)
              · exact absurd rfl c_95
              · refine s_iconst hK (v := 1) dX6_light_98 (by decide) ?_
                refine s_goto hK dX6_light_99 103 (by decide) ?_
                refine s_ireturn hK dX6_light_103 rfl (by first | rfl | exact b01_nar _) ?_
                exact hp.val M2 F2 rfl rfl
          · exact absurd rfl c_54
        · refine no ?_
          have v0 : v = 0 := (nI_eq (b := 0) (by omega) (by omega)).mp c_39
          unfold cwax
          rw [v2, v0, show decide (0 < nI 0) = false by decide]
          exact Bool.and_false _
    · exact absurd c_6 (by decide)
