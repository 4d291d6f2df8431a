/-! the model's calls on things: mirror, remove, light -/
theorem or_SB2 {x z : Int64} (h : SB x) (k : SB z) : SB (x ||| z) := by
  unfold SB at *
  rw [lb_or, h, k]
  rfl
theorem pop_23 {L : Nat → Int64} {am : Nat → Int32} (T : InvT L am) : iPop (L 2 ||| L 3) = nI (cntG (inT L 2 3) 63) := pop_in (or_SB2 (SB_of T (by omega)) (SB_of T (by omega))) (fun c => (in23 T c).trans (lb_or _ _ _).symm)
theorem bu_no {L : Nat → Int64} {am : Nat → Int32} (T : InvT L am) {c : Nat} (h : lb (L 0) c = false) : lb (L 1) c = false := by
  cases eb : lb (L 1) c with
  | false => rfl
  | true => exact absurd (T.2.2.2.2.1 _ eb).1 (by rw [h]; decide)
theorem va_no {L : Nat → Int64} {am : Nat → Int32} (T : InvT L am) {c : Nat} (hc : c < 63) (h : thg L c = 0) : am c = 0 := by
  obtain ⟨v, -, ev, -, ez⟩ := T.2.2.2.2.2 _ hc
  rw [ev, ez (by omega) (by omega)]
  rfl
theorem if_self {α : Type} {f : Nat → α} {v : α} {j c : Nat} (h : f c = v) : f j = if j = c then v else f j := by
  by_cases e : j = c
  · rw [if_pos e, e, h]
  · rw [if_neg e]
theorem mC_burn {S S' : CS} {lt : Nat → Bool} {st rw : Nat → Int32} {c : Nat} {b : Bool} (h1 : ∀ j, j < 63 → lb (S'.1 1) j = if j = c then b else lb (S.1 1) j) (h0 : ∀ k, k ≠ 1 → k ≠ 7 → S'.1 k = S.1 k) (hr : S'.2 = S.2) : ∀ k j, 1 ≤ k → k < 11 → j < mLen k → updC (mC S lt st rw) 5 c (b01 b) k j = mC S' lt st rw k j := by
  intro k j k1 k2 hj
  by_cases e5 : k = 5
  · subst e5
    show (if 5 = 5 then (if j = c then b01 b else b01 (lb (S.1 1) j)) else _) = b01 (lb (S'.1 1) j)
    rw [if_pos rfl, h1 j hj]
    by_cases e : j = c
    · rw [if_pos e, if_pos e]
    · rw [if_neg e, if_neg e]
  · rw [updC_same e5]
    have et : thg S'.1 j = thg S.1 j := thg_of (by rw [h0 0 (by decide) (by decide)]) (by rw [h0 2 (by decide) (by decide)]) (by rw [h0 3 (by decide) (by decide)]) (by rw [h0 4 (by decide) (by decide)])
    unfold mC
    split
    · rw [h0 5 (by decide) (by decide)]
    · rw [h0 6 (by decide) (by decide)]
    · rw [et]
    · rw [hr]
    · exact absurd rfl e5
    · rw [hr]
    · rw [hr]
    · rfl
    · rfl
    · rfl
set_option maxRecDepth 10000 in
theorem c_mirrorM (d : Nat) {m : Nat → Nat} {thr x y : Int32} {b : Bool} {S : CS} {lt : Nat → Bool} {st rw : Nat → Int32} {h : gH} (M : MdlAt h m thr S lt st rw) (T : InvT S.1 S.2.1) (T' : okC x y = true → thg S.1 (cellI x y) = 0 → InvT (reL (oMirror S.1 (cellI x y) b)) S.2.1) (n10 : cntG (inT S.1 2 3) 63 ≤ 10) {mc ms : Nat} {Post : Option Value → gH → Prop} {X : String → gH → Prop} (hp : mDone cdB Post m h (fMirror S x y b)) : gSafe (d + 4) mX6_mirror [.ref (m 0), .int x, .int y, .int (b01 b)] h mc ms Post X := by
  unfold fMirror at hp
  rw [pop_23 T] at hp
  have M0 := M.own0
  refine ⟨Nat.le_of_ble_eq_true rfl, fun K hK => ?_⟩
  show K 0 [some (.ref (m 0)), some (.int x), some (.int y), some (.int (b01 b))] [] _ _ _
  refine s_aload_n hK dX6_mirror_0 rfl ?_
  refine s_iconst hK (v := 0) dX6_mirror_1 (by decide) ?_
  refine s_putfield hK dX6_mirror_2 kF_X6_41 (by assumption) (by rfl) (by rfl) (by rfl) ?_
  have M1 : MdlAt (gU h (m 0) (.inr (5, (mF m thr S.2.2.2.1).set 0 (.int 0)))) m 0 S lt st rw := RawM.own (thr' := 0) (gc' := S.2.2.2.1) M
  have F1 : gFr (mS m) h (gU h (m 0) (.inr (5, (mF m thr S.2.2.2.1).set 0 (.int 0)))) := gFr.mdl (k := 0) (gFr_U _ _ _) (by omega)
  generalize gU h (m 0) (.inr (5, (mF m thr S.2.2.2.1).set 0 (.int 0))) = h1 at M1 F1
  clear M0
  have M0 := M1.own0
  obtain ⟨f3, e3, k3⟩ := M1.a3
  refine s_iload_n hK dX6_mirror_5 rfl ?_
  refine s_iload_n hK dX6_mirror_6 rfl ?_
  refine s_S20 hK dX6_mirror_7 kS_X6_52 (by rfl) ?_
  refine c_isCell _ ?_
  cases e : okC x y with
  | false =>
    rw [if_neg (by simp [e])] at hp
    refine s_ifne hK dX6_mirror_10 19 (by decide) (fun c_10 => ?_) (fun c_10 => ?_)
    · exact absurd rfl c_10
    · refine s_aload_n hK dX6_mirror_13 rfl ?_
      refine s_iconst hK (v := 1) dX6_mirror_14 (by decide) ?_
      refine s_V10 hK dX6_mirror_15 kV_X6_62 (by first | assumption | exact H.1 | exact H.2.1) (by rfl) ?_
      refine c_fail _ M1 (fun h2 M2 F2 => ?_)
      refine s_ireturn hK dX6_mirror_18 rfl (by first | rfl | exact b01_nar _) ?_
      exact hp.exc M2 (F1.tr F2) rfl rfl
  | true =>
    rw [if_pos e] at hp
    obtain ⟨hc, e9⟩ := okC_of e
    have t5 := thg_lt S.1 (cellI x y)
    refine s_ifne hK dX6_mirror_10 19 (by decide) (fun c_10 => ?_) (fun c_10 => ?_)
    · have no : ¬ (nI (cntG (inT S.1 2 3) 63) < nI 10 ∧ thg S.1 (cellI x y) = 0) → K 44 [some (.ref (m 0)), some (.int x), some (.int y), some (.int (b01 b))] [] h1 mc ms := by
        intro q
        rw [if_neg q] at hp
        refine s_aload_n hK dX6_mirror_44 rfl ?_
        refine s_iconst hK (v := 2) dX6_mirror_45 (by decide) ?_
        refine s_V10 hK dX6_mirror_46 kV_X6_62 (by first | assumption | exact H.1 | exact H.2.1) (by rfl) ?_
        refine c_fail _ M1 (fun h2 M2 F2 => ?_)
        refine s_goto hK dX6_mirror_49 73 (by decide) ?_
        refine s_ireturn hK dX6_mirror_73 rfl (by first | rfl | exact b01_nar _) ?_
        exact hp.exc M2 (F1.tr F2) rfl rfl
      refine s_aload_n hK dX6_mirror_19 rfl ?_
      refine s_iconst hK (v := 2) dX6_mirror_20 (by decide) ?_
      refine s_iconst hK (v := 3) dX6_mirror_21 (by decide) ?_
      refine s_V20 hK dX6_mirror_22 kV_X6_60 (by first | assumption | exact H.1 | exact H.2.1) (by rfl) ?_
      refine c_things (a := 2) (b := 3) _ (by omega) (by omega) M1 ?_
      refine s_bipush hK (v := 10) dX6_mirror_25 (by decide) ?_
      refine s_icmpeq hK dX6_mirror_27 44 (by decide) (fun c_27 => ?_) (fun c_27 => ?_)
      · exact no (fun q => (lt_ne n10 (by omega)).mp q.1 c_27)
      · refine s_aload_n hK dX6_mirror_30 rfl ?_
        refine s_getfield hK dX6_mirror_31 kF_X6_16 (by first | assumption | exact H.1 | exact H.2.1) (by rfl) ?_
        refine s_bipush hK (v := 9) dX6_mirror_34 (by decide) ?_
        refine s_iload_n hK dX6_mirror_36 rfl ?_
        refine s_imul hK dX6_mirror_37 ?_
        refine s_iload_n hK dX6_mirror_38 rfl ?_
        refine s_iadd hK dX6_mirror_39 ?_
        rw [e9]
        refine s_ialoadN hK dX6_mirror_40 (by assumption) (by omega) (by omega) ?_
        rw [k3 _ hc]
        refine s_ifeq hK dX6_mirror_41 52 (by decide) (fun c_41 => ?_) (fun c_41 => ?_)
        · have q0 : thg S.1 (cellI x y) = 0 := (nI_eq (b := 0) (by omega) (by omega)).mp c_41
          have v0 := va_no T hc q0
          have b0 := bu_no T (thg_0 q0).1
          rw [if_pos ⟨(lt_ne n10 (by omega)).mpr c_27, q0⟩] at hp
          rw [pop_23 (T' e q0)] at hp
          have th := mirror_th hc q0 b
          obtain ⟨m1, m5, m6⟩ := mirror_1 S.1 (cellI x y) b
          refine s_aload_n hK dX6_mirror_52 rfl ?_
          refine s_bipush hK (v := 9) dX6_mirror_53 (by decide) ?_
          refine s_iload_n hK dX6_mirror_55 rfl ?_
          refine s_imul hK dX6_mirror_56 ?_
          refine s_iload_n hK dX6_mirror_57 rfl ?_
          refine s_iadd hK dX6_mirror_58 ?_
          rw [e9]
          refine s_iload_n hK dX6_mirror_59 rfl ?_
          have bu : ∀ j, j < 63 → lb (reL (oMirror S.1 (cellI x y) b) 1) j = if j = cellI x y then false else lb (S.1 1) j := fun j _ => by
            rw [m1]
            exact if_self (f := fun j => lb (S.1 1) j) b0
          cases b with
          | false =>
            refine s_ifeq hK dX6_mirror_60 67 (by decide) (fun c_60 => ?_) (fun c_60 => ?_)
            · refine s_iconst hK (v := 3) dX6_mirror_67 (by decide) ?_
              refine s_iconst hK (v := 0) dX6_mirror_68 (by decide) ?_
              refine s_iconst hK (v := 0) dX6_mirror_69 (by decide) ?_
              refine s_V40 hK dX6_mirror_70 kV_X6_66 (by first | assumption | exact H.1 | exact H.2.1) (by rfl) ?_
              refine c_setM (S' := (reL (oMirror S.1 (cellI x y) false), S.2)) (t := 3) (v := 0) (b := false) _ hc (by omega) M1 rfl (mC_set th bu (fun j _ => if_self v0) m5 m6 rfl) (fun h2 M2 F2 => ?_)
              refine s_ireturn hK dX6_mirror_73 rfl (by first | rfl | exact b01_nar _) ?_
              exact hp.val M2 (F1.tr F2) rfl rfl
            · exact absurd rfl c_60
          | true =>
            refine s_ifeq hK dX6_mirror_60 67 (by decide) (fun c_60 => ?_) (fun c_60 => ?_)
            · exact absurd c_60 (by decide)
            · refine s_iconst hK (v := 2) dX6_mirror_63 (by decide) ?_
              refine s_goto hK dX6_mirror_64 68 (by decide) ?_
              refine s_iconst hK (v := 0) dX6_mirror_68 (by decide) ?_
              refine s_iconst hK (v := 0) dX6_mirror_69 (by decide) ?_
              refine s_V40 hK dX6_mirror_70 kV_X6_66 (by first | assumption | exact H.1 | exact H.2.1) (by rfl) ?_
              refine c_setM (S' := (reL (oMirror S.1 (cellI x y) true), S.2)) (t := 2) (v := 0) (b := false) _ hc (by omega) M1 rfl (mC_set th bu (fun j _ => if_self v0) m5 m6 rfl) (fun h2 M2 F2 => ?_)
              refine s_ireturn hK dX6_mirror_73 rfl (by first | rfl | exact b01_nar _) ?_
              exact hp.val M2 (F1.tr F2) rfl rfl
        · exact no (fun q => c_41 (by rw [q.2]; rfl))
    · exact absurd c_10 (by decide)
set_option maxRecDepth 10000 in
theorem c_removeM (d : Nat) {m : Nat → Nat} {thr x y : Int32} {S : CS} {lt : Nat → Bool} {st rw : Nat → Int32} {h : gH} (M : MdlAt h m thr S lt st rw) {mc ms : Nat} {Post : Option Value → gH → Prop} {X : String → gH → Prop} (hp : mDone cdB Post m h (fRemove S x y)) : gSafe (d + 4) mX6_remove [.ref (m 0), .int x, .int y] h mc ms Post X := by
  unfold fRemove at hp
  have M0 := M.own0
  refine ⟨Nat.le_of_ble_eq_true rfl, fun K hK => ?_⟩
  show K 0 [some (.ref (m 0)), some (.int x), some (.int y), none] [] _ _ _
  refine s_aload_n hK dX6_remove_0 rfl ?_
  refine s_iconst hK (v := 0) dX6_remove_1 (by decide) ?_
  refine s_putfield hK dX6_remove_2 kF_X6_41 (by assumption) (by rfl) (by rfl) (by rfl) ?_
  have M1 : MdlAt (gU h (m 0) (.inr (5, (mF m thr S.2.2.2.1).set 0 (.int 0)))) m 0 S lt st rw := RawM.own (thr' := 0) (gc' := S.2.2.2.1) M
  have F1 : gFr (mS m) h (gU h (m 0) (.inr (5, (mF m thr S.2.2.2.1).set 0 (.int 0)))) := gFr.mdl (k := 0) (gFr_U _ _ _) (by omega)
  generalize gU h (m 0) (.inr (5, (mF m thr S.2.2.2.1).set 0 (.int 0))) = h1 at M1 F1
  clear M0
  have M0 := M1.own0
  obtain ⟨f3, e3, k3⟩ := M1.a3
  refine s_iload_n hK dX6_remove_5 rfl ?_
  refine s_iload_n hK dX6_remove_6 rfl ?_
  refine s_S20 hK dX6_remove_7 kS_X6_52 (by rfl) ?_
  refine c_isCell _ ?_
  cases e : okC x y with
  | false =>
    rw [if_neg (by simp [e])] at hp
    refine s_ifne hK dX6_remove_10 19 (by decide) (fun c_10 => ?_) (fun c_10 => ?_)
    · exact absurd rfl c_10
    · refine s_aload_n hK dX6_remove_13 rfl ?_
      refine s_iconst hK (v := 1) dX6_remove_14 (by decide) ?_
      refine s_V10 hK dX6_remove_15 kV_X6_62 (by first | assumption | exact H.1 | exact H.2.1) (by rfl) ?_
      refine c_fail _ M1 (fun h2 M2 F2 => ?_)
      refine s_ireturn hK dX6_remove_18 rfl (by first | rfl | exact b01_nar _) ?_
      exact hp.exc M2 (F1.tr F2) rfl rfl
  | true =>
    rw [if_pos e] at hp
    obtain ⟨hc, e9⟩ := okC_of e
    have t5 := thg_lt S.1 (cellI x y)
    refine s_ifne hK dX6_remove_10 19 (by decide) (fun c_10 => ?_) (fun c_10 => ?_)
    · refine s_aload_n hK dX6_remove_19 rfl ?_
      refine s_getfield hK dX6_remove_20 kF_X6_16 (by first | assumption | exact H.1 | exact H.2.1) (by rfl) ?_
      refine s_bipush hK (v := 9) dX6_remove_23 (by decide) ?_
      refine s_iload_n hK dX6_remove_25 rfl ?_
      refine s_imul hK dX6_remove_26 ?_
      refine s_iload_n hK dX6_remove_27 rfl ?_
      refine s_iadd hK dX6_remove_28 ?_
      rw [e9]
      refine s_ialoadN hK dX6_remove_29 (by assumption) (by omega) (by omega) ?_
      rw [k3 _ hc]
      refine s_istore_n hK dX6_remove_30 rfl ?_
      refine s_iload_n hK dX6_remove_31 rfl ?_
      refine s_ifne hK dX6_remove_32 41 (by decide) (fun c_32 => ?_) (fun c_32 => ?_)
      · have q : ¬ thg S.1 (cellI x y) = 0 := fun z => c_32 (by rw [z]; rfl)
        rw [if_neg q] at hp
        refine s_aload_n hK dX6_remove_41 rfl ?_
        refine s_bipush hK (v := 9) dX6_remove_42 (by decide) ?_
        refine s_iload_n hK dX6_remove_44 rfl ?_
        refine s_imul hK dX6_remove_45 ?_
        refine s_iload_n hK dX6_remove_46 rfl ?_
        refine s_iadd hK dX6_remove_47 ?_
        refine s_iconst hK (v := 0) dX6_remove_48 (by decide) ?_
        refine s_iconst hK (v := 0) dX6_remove_49 (by decide) ?_
        refine s_iconst hK (v := 0) dX6_remove_50 (by decide) ?_
        rw [e9]
        refine s_V40 hK dX6_remove_51 kV_X6_66 (by first | assumption | exact H.1 | exact H.2.1) (by rfl) ?_
        refine c_setM (S' := (reL (oClear S.1 (cellI x y)), upd S.2.1 (cellI x y) 0, S.2.2)) (t := 0) (v := 0) (b := false) _ hc (by omega) M1 rfl (mC_set (clear_th hc) (clear_bu hc) (fun _ _ => rfl) rfl rfl rfl) (fun h2 M2 F2 => ?_)
        refine s_pop hK dX6_remove_54 rfl ?_
        refine s_iload_n hK dX6_remove_55 rfl ?_
        refine s_ireturn hK dX6_remove_56 rfl (by first | rfl | exact b01_nar _) ?_
        exact hp.val M2 (F1.tr F2) rfl rfl
      · have q : thg S.1 (cellI x y) = 0 := (nI_eq (b := 0) (by omega) (by omega)).mp c_32
        rw [if_pos q] at hp
        refine s_aload_n hK dX6_remove_35 rfl ?_
        refine s_iconst hK (v := 2) dX6_remove_36 (by decide) ?_
        refine s_V10 hK dX6_remove_37 kV_X6_62 (by first | assumption | exact H.1 | exact H.2.1) (by rfl) ?_
        refine c_fail _ M1 (fun h2 M2 F2 => ?_)
        refine s_ireturn hK dX6_remove_40 rfl (by first | rfl | exact b01_nar _) ?_
        exact hp.exc M2 (F1.tr F2) rfl rfl
    · exact absurd c_10 (by decide)
