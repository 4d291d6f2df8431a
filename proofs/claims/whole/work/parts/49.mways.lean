/-! way, next, send of the model -/
set_option maxRecDepth 10000 in
theorem c_wayM (d : Nat) {m : Nat → Nat} {thr g x y : Int32} {S : CS} {lt : Nat → Bool} {st rw : Nat → Int32} {h : gH} (M : MdlAt h m thr S lt st rw) (ok : CSok S) (I : InvW S.1) (D : InvD S.1) (h7 : S.1 7 = relit S.1) {mc ms : Nat} {Post : Option Value → gH → Prop} {X : String → gH → Prop} (hp : mDone cdB Post m h (fWay S g x y)) : gSafe (d + 8) mX6_way [.ref (m 0), .int g, .int x, .int y] h mc ms Post X := by
  have h6 := ok.1
  unfold fWay at hp
  have M0 := M.own0
  refine ⟨Nat.le_of_ble_eq_true rfl, fun K hK => ?_⟩
  show K 0 [some (.ref (m 0)), some (.int g), some (.int x), some (.int y)] [] _ _ _
  refine s_aload_n hK dX6_way_0 rfl ?_
  refine s_iconst hK (v := 0) dX6_way_1 (by decide) ?_
  refine s_putfield hK dX6_way_2 kF_X6_41 (by assumption) (by rfl) (by rfl) (by rfl) ?_
  have M1 : MdlAt (gU h (m 0) (.inr (5, (mF m thr S.2.2.2.1).set 0 (.int 0)))) m 0 S lt st rw := RawM.own (thr' := 0) (gc' := S.2.2.2.1) M
  have F1 : gFr (mS m) h (gU h (m 0) (.inr (5, (mF m thr S.2.2.2.1).set 0 (.int 0)))) := gFr.mdl (k := 0) (gFr_U _ _ _) (by omega)
  generalize gU h (m 0) (.inr (5, (mF m thr S.2.2.2.1).set 0 (.int 0))) = h1 at M1 F1
  clear M0
  have M0 := M1.own0
  have bad : fWay S g x y = (.inl eI, S) → K 35 [some (.ref (m 0)), some (.int g), some (.int x), some (.int y)] [] h1 mc ms := by
    intro q
    unfold fWay at q
    rw [q] at hp
    refine s_aload_n hK dX6_way_35 rfl ?_
    refine s_iconst hK (v := 1) dX6_way_36 (by decide) ?_
    refine s_V10 hK dX6_way_37 kV_X6_62 (by first | assumption | exact H.1 | exact H.2.1) (by rfl) ?_
    refine c_fail _ M1 (fun h2 M2 F2 => ?_)
    refine s_ireturn hK dX6_way_40 rfl (by first | rfl | exact b01_nar _) ?_
    exact hp.exc M2 (F1.tr F2) rfl rfl
  refine s_aload_n hK dX6_way_5 rfl ?_
  refine s_iload_n hK dX6_way_6 rfl ?_
  refine s_V10 hK dX6_way_7 kV_X6_104 (by first | assumption | exact H.1 | exact H.2.1) (by rfl) ?_
  refine c_isGhost _ M1 ok ?_
  cases e : okR g S.2.2.2.1 with
  | false =>
    refine s_ifeq hK dX6_way_10 35 (by decide) (fun c_10 => ?_) (fun c_10 => ?_)
    · exact bad (by unfold fWay; rw [if_neg (by simp [e])])
    · exact absurd rfl c_10
  | true =>
    refine s_ifeq hK dX6_way_10 35 (by decide) (fun c_10 => ?_) (fun c_10 => ?_)
    · exact absurd c_10 (by decide)
    · refine s_iload_n hK dX6_way_13 rfl ?_
      refine s_iload_n hK dX6_way_14 rfl ?_
      refine s_S20 hK dX6_way_15 kS_X6_52 (by rfl) ?_
      refine c_isCell _ ?_
      cases e2 : okC x y with
      | false =>
        refine s_ifeq hK dX6_way_18 35 (by decide) (fun c_18 => ?_) (fun c_18 => ?_)
        · exact bad (by unfold fWay; rw [if_pos e, if_neg (by simp [e2])])
        · exact absurd rfl c_18
      | true =>
        rw [if_pos e, if_pos e2] at hp
        clear bad
        obtain ⟨j, hj, rfl, ej⟩ := okR_ex (by omega) e
        obtain ⟨hc, e9⟩ := okC_of e2
        rw [ej] at hp
        refine s_ifeq hK dX6_way_18 35 (by decide) (fun c_18 => ?_) (fun c_18 => ?_)
        · exact absurd c_18 (by decide)
        · refine s_aload_n hK dX6_way_21 rfl ?_
          refine s_iload_n hK dX6_way_22 rfl ?_
          refine s_bipush hK (v := 9) dX6_way_23 (by decide) ?_
          refine s_iload_n hK dX6_way_25 rfl ?_
          refine s_imul hK dX6_way_26 ?_
          refine s_iload_n hK dX6_way_27 rfl ?_
          refine s_iadd hK dX6_way_28 ?_
          rw [e9]
          refine s_V20 hK dX6_way_29 kV_X6_101 (by first | assumption | exact H.1 | exact H.2.1) (by rfl) ?_
          refine c_wayOf _ (by omega) hc ok M1 I D h7 (fun h2 ds vN rw2 M2 F2 _ => ?_)
          refine s_goto hK dX6_way_32 40 (by decide) ?_
          refine s_ireturn hK dX6_way_40 rfl (by first | rfl | exact b01_nar _) ?_
          exact hp.val M2 (F1.tr F2) rfl rfl
set_option maxRecDepth 10000 in
theorem c_nextM (d : Nat) {m : Nat → Nat} {thr g : Int32} {S : CS} {lt : Nat → Bool} {st rw : Nat → Int32} {h : gH} (M : MdlAt h m thr S lt st rw) (ok : CSok S) (I : InvW S.1) (D : InvD S.1) (h7 : S.1 7 = relit S.1) {mc ms : Nat} {Post : Option Value → gH → Prop} {X : String → gH → Prop} (hp : mDone cdB Post m h (fNext S g)) : gSafe (d + 9) mX6_next [.ref (m 0), .int g] h mc ms Post X := by
  have h6 := ok.1
  unfold fNext at hp
  have M0 := M.own0
  refine ⟨Nat.le_of_ble_eq_true rfl, fun K hK => ?_⟩
  show K 0 [some (.ref (m 0)), some (.int g)] [] _ _ _
  refine s_aload_n hK dX6_next_0 rfl ?_
  refine s_iconst hK (v := 0) dX6_next_1 (by decide) ?_
  refine s_putfield hK dX6_next_2 kF_X6_41 (by assumption) (by rfl) (by rfl) (by rfl) ?_
  have M1 : MdlAt (gU h (m 0) (.inr (5, (mF m thr S.2.2.2.1).set 0 (.int 0)))) m 0 S lt st rw := RawM.own (thr' := 0) (gc' := S.2.2.2.1) M
  have F1 : gFr (mS m) h (gU h (m 0) (.inr (5, (mF m thr S.2.2.2.1).set 0 (.int 0)))) := gFr.mdl (k := 0) (gFr_U _ _ _) (by omega)
  generalize gU h (m 0) (.inr (5, (mF m thr S.2.2.2.1).set 0 (.int 0))) = h1 at M1 F1
  clear M0
  have M0 := M1.own0
  refine s_aload_n hK dX6_next_5 rfl ?_
  refine s_iload_n hK dX6_next_6 rfl ?_
  refine s_V10 hK dX6_next_7 kV_X6_104 (by first | assumption | exact H.1 | exact H.2.1) (by rfl) ?_
  refine c_isGhost _ M1 ok ?_
  cases e : okR g S.2.2.2.1 with
  | false =>
    rw [if_neg (by simp [e])] at hp
    refine s_ifeq hK dX6_next_10 21 (by decide) (fun c_10 => ?_) (fun c_10 => ?_)
    · refine s_aload_n hK dX6_next_21 rfl ?_
      refine s_iconst hK (v := 1) dX6_next_22 (by decide) ?_
      refine s_V10 hK dX6_next_23 kV_X6_62 (by first | assumption | exact H.1 | exact H.2.1) (by rfl) ?_
      refine c_fail _ M1 (fun h2 M2 F2 => ?_)
      refine s_ireturn hK dX6_next_26 rfl (by first | rfl | exact b01_nar _) ?_
      exact hp.exc M2 (F1.tr F2) rfl rfl
    · exact absurd rfl c_10
  | true =>
    rw [if_pos e] at hp
    obtain ⟨j, hj, rfl, ej⟩ := okR_ex (by omega) e
    rw [ej] at hp
    refine s_ifeq hK dX6_next_10 21 (by decide) (fun c_10 => ?_) (fun c_10 => ?_)
    · exact absurd c_10 (by decide)
    · refine s_aload_n hK dX6_next_13 rfl ?_
      refine s_iload_n hK dX6_next_14 rfl ?_
      refine s_V10 hK dX6_next_15 kV_X6_108 (by first | assumption | exact H.1 | exact H.2.1) (by rfl) ?_
      refine c_nextOf _ (by omega) ok M1 I D h7 (fun h2 lt2 st2 rw2 M2 F2 => ?_)
      refine s_goto hK dX6_next_18 26 (by decide) ?_
      refine s_ireturn hK dX6_next_26 rfl (by first | rfl | exact b01_nar _) ?_
      exact hp.val M2 (F1.tr F2) rfl rfl
set_option maxRecDepth 10000 in
theorem c_sendM (d : Nat) {m : Nat → Nat} {thr g x y : Int32} {S : CS} {lt : Nat → Bool} {st rw : Nat → Int32} {h : gH} (M : MdlAt h m thr S lt st rw) (ok : CSok S) (I : InvW S.1) (D : InvD S.1) (h7 : S.1 7 = relit S.1) {mc ms : Nat} {Post : Option Value → gH → Prop} {X : String → gH → Prop} (hp : mDone cdB Post m h (fSend S g x y)) : gSafe (d + 8) mX6_send [.ref (m 0), .int g, .int x, .int y] h mc ms Post X := by
  have h6 := ok.1
  unfold fSend at hp
  have M0 := M.own0
  refine ⟨Nat.le_of_ble_eq_true rfl, fun K hK => ?_⟩
  show K 0 [some (.ref (m 0)), some (.int g), some (.int x), some (.int y)] [] _ _ _
  refine s_aload_n hK dX6_send_0 rfl ?_
  refine s_iconst hK (v := 0) dX6_send_1 (by decide) ?_
  refine s_putfield hK dX6_send_2 kF_X6_41 (by assumption) (by rfl) (by rfl) (by rfl) ?_
  have M1 : MdlAt (gU h (m 0) (.inr (5, (mF m thr S.2.2.2.1).set 0 (.int 0)))) m 0 S lt st rw := RawM.own (thr' := 0) (gc' := S.2.2.2.1) M
  have F1 : gFr (mS m) h (gU h (m 0) (.inr (5, (mF m thr S.2.2.2.1).set 0 (.int 0)))) := gFr.mdl (k := 0) (gFr_U _ _ _) (by omega)
  generalize gU h (m 0) (.inr (5, (mF m thr S.2.2.2.1).set 0 (.int 0))) = h1 at M1 F1
  clear M0
  have M0 := M1.own0
  have bad : fSend S g x y = (.inl eI, S) → K 21 [some (.ref (m 0)), some (.int g), some (.int x), some (.int y)] [] h1 mc ms := by
    intro q
    unfold fSend at q
    rw [q] at hp
    refine s_aload_n hK dX6_send_21 rfl ?_
    refine s_iconst hK (v := 1) dX6_send_22 (by decide) ?_
    refine s_V10 hK dX6_send_23 kV_X6_62 (by first | assumption | exact H.1 | exact H.2.1) (by rfl) ?_
    refine c_fail _ M1 (fun h2 M2 F2 => ?_)
    refine s_ireturn hK dX6_send_26 rfl (by first | rfl | exact b01_nar _) ?_
    exact hp.exc M2 (F1.tr F2) rfl rfl
  refine s_aload_n hK dX6_send_5 rfl ?_
  refine s_iload_n hK dX6_send_6 rfl ?_
  refine s_V10 hK dX6_send_7 kV_X6_104 (by first | assumption | exact H.1 | exact H.2.1) (by rfl) ?_
  refine c_isGhost _ M1 ok ?_
  cases e : okR g S.2.2.2.1 with
  | false =>
    refine s_ifeq hK dX6_send_10 21 (by decide) (fun c_10 => ?_) (fun c_10 => ?_)
    · exact bad (by unfold fSend; rw [if_neg (by simp [e])])
    · exact absurd rfl c_10
  | true =>
    refine s_ifeq hK dX6_send_10 21 (by decide) (fun c_10 => ?_) (fun c_10 => ?_)
    · exact absurd c_10 (by decide)
    · refine s_iload_n hK dX6_send_13 rfl ?_
      refine s_iload_n hK dX6_send_14 rfl ?_
      refine s_S20 hK dX6_send_15 kS_X6_52 (by rfl) ?_
      refine c_isCell _ ?_
      cases e2 : okC x y with
      | false =>
        refine s_ifne hK dX6_send_18 27 (by decide) (fun c_18 => ?_) (fun c_18 => ?_)
        · exact absurd rfl c_18
        · exact bad (by unfold fSend; rw [if_pos e, if_neg (by simp [e2])])
      | true =>
        rw [if_pos e, if_pos e2] at hp
        clear bad
        obtain ⟨j, hj, rfl, ej⟩ := okR_ex (by omega) e
        obtain ⟨hc, e9⟩ := okC_of e2
        rw [ej] at hp
        refine s_ifne hK dX6_send_18 27 (by decide) (fun c_18 => ?_) (fun c_18 => ?_)
        · refine s_aload_n hK dX6_send_27 rfl ?_
          refine s_iload_n hK dX6_send_28 rfl ?_
          refine s_iconst hK (v := 2) dX6_send_29 (by decide) ?_
          refine s_bipush hK (v := 9) dX6_send_30 (by decide) ?_
          refine s_iload_n hK dX6_send_32 rfl ?_
          refine s_imul hK dX6_send_33 ?_
          refine s_iload_n hK dX6_send_34 rfl ?_
          refine s_iadd hK dX6_send_35 ?_
          rw [e9]
          refine s_V30 hK dX6_send_36 kV_X6_117 (by first | assumption | exact H.1 | exact H.2.1) (by rfl) ?_
          refine c_putM (k := 2) _ (by omega) (by omega) M1 (fun h2 R2 F2 => ?_)
          have M2 := M_put (g := j) (k := 2) (v := cellI x y) (by omega) (by omega) (by omega) R2
          have ok2 : CSok (S.1, S.2.1, setG S.2.2.1 j 2 (cellI x y), S.2.2.2) := ⟨ok.1, ok.2.set ⟨by omega, by omega, fun _ => hc, by omega⟩⟩
          have M0 := M2.own0
          refine s_aload_n hK dX6_send_39 rfl ?_
          refine s_iload_n hK dX6_send_40 rfl ?_
          refine s_bipush hK (v := 9) dX6_send_41 (by decide) ?_
          refine s_iload_n hK dX6_send_43 rfl ?_
          refine s_imul hK dX6_send_44 ?_
          refine s_iload_n hK dX6_send_45 rfl ?_
          refine s_iadd hK dX6_send_46 ?_
          rw [e9]
          refine s_V20 hK dX6_send_47 kV_X6_101 (by first | assumption | exact H.1 | exact H.2.1) (by rfl) ?_
          refine c_wayOf (S := (S.1, S.2.1, setG S.2.2.1 j 2 (cellI x y), S.2.2.2)) _ (by omega) hc ok2 M2 I D h7 (fun h3 ds vN rw3 M3 F3 _ => ?_)
          refine s_ireturn hK dX6_send_50 rfl (by first | rfl | exact b01_nar _) ?_
          exact hp.val M3 ((F1.tr F2).tr F3) rfl rfl
        · exact absurd c_18 (by decide)
