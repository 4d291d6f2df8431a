/-! count and cell of the model -/
set_option maxRecDepth 10000 in
theorem c_countM (d : Nat) {m : Nat → Nat} {thr w : Int32} {S : CS} {lt : Nat → Bool} {st rw : Nat → Int32} {h : gH} (M : MdlAt h m thr S lt st rw) (T : InvT S.1 S.2.1) (I : InvW S.1) (D : InvD S.1) (h7 : S.1 7 = relit S.1) (h8 : SB (S.1 7)) {mc ms : Nat} {Post : Option Value → gH → Prop} {X : String → gH → Prop} (hp : mDone cdB Post m h (fCount S w)) : gSafe (d + 7) mX6_count [.ref (m 0), .int w] h mc ms Post X := by
  unfold fCount at hp
  have M0 := M.own0
  refine ⟨Nat.le_of_ble_eq_true rfl, fun K hK => ?_⟩
  show K 0 [some (.ref (m 0)), some (.int w)] [] _ _ _
  refine s_aload_n hK dX6_count_0 rfl ?_
  refine s_iconst hK (v := 0) dX6_count_1 (by decide) ?_
  refine s_putfield hK dX6_count_2 kF_X6_41 (by assumption) (by rfl) (by rfl) (by rfl) ?_
  have M1 : MdlAt (gU h (m 0) (.inr (5, (mF m thr S.2.2.2.1).set 0 (.int 0)))) m 0 S lt st rw := RawM.own (thr' := 0) (gc' := S.2.2.2.1) M
  have F1 : gFr (mS m) h (gU h (m 0) (.inr (5, (mF m thr S.2.2.2.1).set 0 (.int 0)))) := gFr.mdl (k := 0) (gFr_U _ _ _) (by omega)
  generalize gU h (m 0) (.inr (5, (mF m thr S.2.2.2.1).set 0 (.int 0))) = h1 at M1 F1
  clear M0
  have M0 := M1.own0
  refine s_iload_n hK dX6_count_5 rfl ?_
  refine s_iconst hK (v := 0) dX6_count_6 (by decide) ?_
  refine s_bipush hK (v := 9) dX6_count_7 (by decide) ?_
  refine s_S30 hK dX6_count_9 kS_X6_45 (by rfl) ?_
  refine c_isIn _ ?_
  rw [show (decide (¬ w < 0) && decide (w ≤ 9)) = okR w 10 from okR_in (k := 9) (by omega)]
  cases e : okR w 10 with
  | false =>
    rw [if_neg (by simp [e])] at hp
    refine s_ifne hK dX6_count_12 21 (by decide) (fun c_12 => ?_) (fun c_12 => ?_)
    · exact absurd rfl c_12
    · refine s_aload_n hK dX6_count_15 rfl ?_
      refine s_iconst hK (v := 1) dX6_count_16 (by decide) ?_
      refine s_V10 hK dX6_count_17 kV_X6_62 (by first | assumption | exact H.1 | exact H.2.1) (by rfl) ?_
      refine c_fail _ M1 (fun h2 M2 F2 => ?_)
      refine s_ireturn hK dX6_count_20 rfl (by first | rfl | exact b01_nar _) ?_
      exact hp.exc M2 (F1.tr F2) rfl rfl
  | true =>
    rw [if_pos e] at hp
    obtain ⟨k, hk, rfl, ek⟩ := okR_ex (by omega) e
    rw [ek] at hp
    refine s_ifne hK dX6_count_12 21 (by decide) (fun c_12 => ?_) (fun c_12 => ?_)
    · refine s_aload_n hK dX6_count_21 rfl ?_
      refine s_V00 hK dX6_count_22 kV_X6_89 (by first | assumption | exact H.1 | exact H.2.1) (by rfl) ?_
      refine c_reckonLight _ M1 I D (fun h2 M2 F2 => ?_)
      rw [← h7] at M2
      clear M0
      have M0 := M2.own0
      refine s_aload_n hK dX6_count_25 rfl ?_
      refine s_iload_n hK dX6_count_26 rfl ?_
      refine s_V10 hK dX6_count_27 kV_X6_136 (by first | assumption | exact H.1 | exact H.2.1) (by rfl) ?_
      refine c_counted _ hk M2 T I h8 ?_
      refine s_ireturn hK dX6_count_30 rfl (by first | rfl | exact b01_nar _) ?_
      exact hp.val M2 (F1.tr F2) rfl rfl
    · exact absurd c_12 (by decide)
set_option maxRecDepth 10000 in
theorem c_cellM (d : Nat) {m : Nat → Nat} {thr x y w : Int32} {S : CS} {lt : Nat → Bool} {st rw : Nat → Int32} {h : gH} (M : MdlAt h m thr S lt st rw) (ok : CSok S) (I : InvW S.1) (D : InvD S.1) (h7 : S.1 7 = relit S.1) {mc ms : Nat} {Post : Option Value → gH → Prop} {X : String → gH → Prop} (hp : mDone cdB Post m h (fCell S x y w)) : gSafe (d + 7) mX6_cell [.ref (m 0), .int x, .int y, .int w] h mc ms Post X := by
  unfold fCell at hp
  have M0 := M.own0
  refine ⟨Nat.le_of_ble_eq_true rfl, fun K hK => ?_⟩
  show K 0 [some (.ref (m 0)), some (.int x), some (.int y), some (.int w)] [] _ _ _
  refine s_aload_n hK dX6_cell_0 rfl ?_
  refine s_iconst hK (v := 0) dX6_cell_1 (by decide) ?_
  refine s_putfield hK dX6_cell_2 kF_X6_41 (by assumption) (by rfl) (by rfl) (by rfl) ?_
  have M1 : MdlAt (gU h (m 0) (.inr (5, (mF m thr S.2.2.2.1).set 0 (.int 0)))) m 0 S lt st rw := RawM.own (thr' := 0) (gc' := S.2.2.2.1) M
  have F1 : gFr (mS m) h (gU h (m 0) (.inr (5, (mF m thr S.2.2.2.1).set 0 (.int 0)))) := gFr.mdl (k := 0) (gFr_U _ _ _) (by omega)
  generalize gU h (m 0) (.inr (5, (mF m thr S.2.2.2.1).set 0 (.int 0))) = h1 at M1 F1
  clear M0
  have M0 := M1.own0
  have bad : okC x y = false ∨ okR w 5 = false → K 22 [some (.ref (m 0)), some (.int x), some (.int y), some (.int w)] [] h1 mc ms := by
    intro q
    have e : (if okC x y = true then (if okR w 5 = true then (vI (tCell S.1 S.2.1 S.2.2.1 S.2.2.2.1 (cellI x y) w.toNatClampNeg), S) else (.inl eI, S)) else (.inl eI, S) : gAns) = (.inl eI, S) := by
      rcases q with q | q
      · rw [if_neg (by simp [q])]
      · by_cases q2 : okC x y = true
        · rw [if_pos q2, if_neg (by simp [q])]
        · rw [if_neg q2]
    rw [e] at hp
    refine s_aload_n hK dX6_cell_22 rfl ?_
    refine s_iconst hK (v := 1) dX6_cell_23 (by decide) ?_
    refine s_V10 hK dX6_cell_24 kV_X6_62 (by first | assumption | exact H.1 | exact H.2.1) (by rfl) ?_
    refine c_fail _ M1 (fun h2 M2 F2 => ?_)
    refine s_ireturn hK dX6_cell_27 rfl (by first | rfl | exact b01_nar _) ?_
    exact hp.exc M2 (F1.tr F2) rfl rfl
  refine s_iload_n hK dX6_cell_5 rfl ?_
  refine s_iload_n hK dX6_cell_6 rfl ?_
  refine s_S20 hK dX6_cell_7 kS_X6_52 (by rfl) ?_
  refine c_isCell _ ?_
  cases e : okC x y with
  | false =>
    refine s_ifeq hK dX6_cell_10 22 (by decide) (fun c_10 => ?_) (fun c_10 => ?_)
    · exact bad (Or.inl e)
    · exact absurd rfl c_10
  | true =>
    obtain ⟨hc, e9⟩ := okC_of e
    refine s_ifeq hK dX6_cell_10 22 (by decide) (fun c_10 => ?_) (fun c_10 => ?_)
    · exact absurd c_10 (by decide)
    · refine s_iload_n hK dX6_cell_13 rfl ?_
      refine s_iconst hK (v := 0) dX6_cell_14 (by decide) ?_
      refine s_iconst hK (v := 4) dX6_cell_15 (by decide) ?_
      refine s_S30 hK dX6_cell_16 kS_X6_45 (by rfl) ?_
      refine c_isIn _ ?_
      rw [show (decide (¬ w < 0) && decide (w ≤ 4)) = okR w 5 from okR_in (k := 4) (by omega)]
      cases e2 : okR w 5 with
      | false =>
        refine s_ifne hK dX6_cell_19 28 (by decide) (fun c_19 => ?_) (fun c_19 => ?_)
        · exact absurd rfl c_19
        · exact bad (Or.inr e2)
      | true =>
        rw [if_pos e, if_pos e2] at hp
        clear bad
        obtain ⟨k, hk, rfl, ek⟩ := okR_ex (by omega) e2
        rw [ek] at hp
        refine s_ifne hK dX6_cell_19 28 (by decide) (fun c_19 => ?_) (fun c_19 => ?_)
        · refine s_aload_n hK dX6_cell_28 rfl ?_
          refine s_V00 hK dX6_cell_29 kV_X6_89 (by first | assumption | exact H.1 | exact H.2.1) (by rfl) ?_
          refine c_reckonLight _ M1 I D (fun h2 M2 F2 => ?_)
          rw [← h7] at M2
          clear M0
          have M0 := M2.own0
          refine s_aload_n hK dX6_cell_32 rfl ?_
          refine s_bipush hK (v := 9) dX6_cell_33 (by decide) ?_
          refine s_iload_n hK dX6_cell_35 rfl ?_
          refine s_imul hK dX6_cell_36 ?_
          refine s_iload_n hK dX6_cell_37 rfl ?_
          refine s_iadd hK dX6_cell_38 ?_
          rw [e9]
          refine s_iload_n hK dX6_cell_39 rfl ?_
          refine s_V20 hK dX6_cell_40 kV_X6_121 (by first | assumption | exact H.1 | exact H.2.1) (by rfl) ?_
          refine c_cellTold _ hc hk ok M2 ?_
          refine s_ireturn hK dX6_cell_43 rfl (by first | rfl | exact b01_nar _) ?_
          exact hp.val M2 (F1.tr F2) rfl rfl
        · exact absurd c_19 (by decide)
