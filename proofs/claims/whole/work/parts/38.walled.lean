/-! walled and light of the model -/
theorem okR_3 {w : Int32} : (decide (¬ w < 0) && decide (w ≤ 3)) = okR w 4 := okR_in (k := 3) (by omega)
theorem neg_bs {c dn : Nat} (hc : c < 63) (hd : dn < 4) : bsI c dn = -1 ↔ nbOk c dn = false := by
  unfold bsI
  by_cases q : nbOk c dn = true
  · rw [if_pos q]
    have h0 := nb_lt hc hd q
    have q2 := nI_pos (n := nbOf c dn) (by omega)
    constructor
    · intro z
      rw [z] at q2
      exact absurd (by decide) q2
    · intro z
      rw [z] at q
      cases q
  · rw [if_neg q]
    exact ⟨fun _ => Bool.eq_false_iff.mpr q, fun _ => rfl⟩
set_option maxRecDepth 10000 in
theorem c_walledM (d : Nat) {m : Nat → Nat} {thr x y w : Int32} {S : CS} {lt : Nat → Bool} {st rw : Nat → Int32} {h : gH} (M : MdlAt h m thr S lt st rw) (I : InvW S.1) {mc ms : Nat} {Post : Option Value → gH → Prop} {X : String → gH → Prop} (hp : mDone cdB Post m h (fWalled S x y w)) : gSafe (d + 5) mX6_walled [.ref (m 0), .int x, .int y, .int w] h mc ms Post X := by
  unfold fWalled at hp
  have M0 := M.own0
  refine ⟨Nat.le_of_ble_eq_true rfl, fun K hK => ?_⟩
  show K 0 [some (.ref (m 0)), some (.int x), some (.int y), some (.int w)] [] _ _ _
  have exc : ∀ t : Int32, ¬ t = 0 → (∀ h', MdlAt h' m t S lt st rw → gFr (mS m) h h' → Post (some (.int 0)) h') → K 27 [some (.ref (m 0)), some (.int x), some (.int y), some (.int w)] [.int t, .ref (m 0)] h mc ms := by
    intro t ht hq
    refine s_putfield hK dX6_walled_27 kF_X6_41 (by assumption) (by rfl) (by rfl) (by rfl) ?_
    have M1 : MdlAt (gU h (m 0) (.inr (5, (mF m thr S.2.2.2.1).set 0 (.int t)))) m t S lt st rw := RawM.own (thr' := t) (gc' := S.2.2.2.1) M
    have F1 : gFr (mS m) h (gU h (m 0) (.inr (5, (mF m thr S.2.2.2.1).set 0 (.int t)))) := gFr.mdl (k := 0) (gFr_U _ _ _) (by omega)
    generalize gU h (m 0) (.inr (5, (mF m thr S.2.2.2.1).set 0 (.int t))) = h1 at M1 F1
    have M0 := M1.own0
    refine s_aload_n hK dX6_walled_30 rfl ?_
    refine s_getfield hK dX6_walled_31 kF_X6_41 (by first | assumption | exact H.1 | exact H.2.1) (by rfl) ?_
    refine s_ifne hK dX6_walled_34 69 (by decide) (fun c_34 => ?_) (fun c_34 => ?_)
    · refine s_iconst hK (v := 0) dX6_walled_69 (by decide) ?_
      refine s_ireturn hK dX6_walled_70 rfl (by first | rfl | exact b01_nar _) ?_
      exact hq h1 M1 F1
    · exact absurd c_34 ht
  refine s_aload_n hK dX6_walled_0 rfl ?_
  refine s_iload_n hK dX6_walled_1 rfl ?_
  refine s_iload_n hK dX6_walled_2 rfl ?_
  refine s_S20 hK dX6_walled_3 kS_X6_52 (by rfl) ?_
  refine c_isCell _ ?_
  cases e : okC x y with
  | false =>
    rw [if_neg (by simp [e])] at hp
    refine s_ifne hK dX6_walled_6 13 (by decide) (fun c_6 => ?_) (fun c_6 => ?_)
    · exact absurd rfl c_6
    · refine s_iconst hK (v := 1) dX6_walled_9 (by decide) ?_
      refine s_goto hK dX6_walled_10 27 (by decide) ?_
      exact exc 1 (by decide) (fun h' M2 F2 => hp.exc M2 F2 rfl rfl)
  | true =>
    rw [if_pos e] at hp
    obtain ⟨hc, e9⟩ := okC_of e
    refine s_ifne hK dX6_walled_6 13 (by decide) (fun c_6 => ?_) (fun c_6 => ?_)
    · refine s_iload_n hK dX6_walled_13 rfl ?_
      refine s_iconst hK (v := 0) dX6_walled_14 (by decide) ?_
      refine s_iconst hK (v := 3) dX6_walled_15 (by decide) ?_
      refine s_S30 hK dX6_walled_16 kS_X6_45 (by rfl) ?_
      refine c_isIn _ ?_
      rw [okR_3]
      cases e2 : okR w 4 with
      | false =>
        rw [if_neg (by simp [e2])] at hp
        refine s_ifne hK dX6_walled_19 26 (by decide) (fun c_19 => ?_) (fun c_19 => ?_)
        · exact absurd rfl c_19
        · refine s_iconst hK (v := 2) dX6_walled_22 (by decide) ?_
          refine s_goto hK dX6_walled_23 27 (by decide) ?_
          exact exc 2 (by decide) (fun h' M2 F2 => hp.exc M2 F2 rfl rfl)
      | true =>
        rw [if_pos e2] at hp
        obtain ⟨k, hk, rfl, ek⟩ := okR_ex (by omega) e2
        rw [ek] at hp
        refine s_ifne hK dX6_walled_19 26 (by decide) (fun c_19 => ?_) (fun c_19 => ?_)
        · refine s_iconst hK (v := 0) dX6_walled_26 (by decide) ?_
          refine s_putfield hK dX6_walled_27 kF_X6_41 (by assumption) (by rfl) (by rfl) (by rfl) ?_
          have M1 : MdlAt (gU h (m 0) (.inr (5, (mF m thr S.2.2.2.1).set 0 (.int 0)))) m 0 S lt st rw := RawM.own (thr' := 0) (gc' := S.2.2.2.1) M
          have F1 : gFr (mS m) h (gU h (m 0) (.inr (5, (mF m thr S.2.2.2.1).set 0 (.int 0)))) := gFr.mdl (k := 0) (gFr_U _ _ _) (by omega)
          generalize gU h (m 0) (.inr (5, (mF m thr S.2.2.2.1).set 0 (.int 0))) = h1 at M1 F1
          clear M0 exc
          have M0 := M1.own0
          have yes : (!nbOk (cellI x y) k || lb (wCells S.1 k) (cellI x y)) = true → K 65 [some (.ref (m 0)), some (.int x), some (.int y), some (.int (nI k))] [] h1 mc ms := by
            intro q
            rw [q] at hp
            refine s_iconst hK (v := 1) dX6_walled_65 (by decide) ?_
            refine s_goto hK dX6_walled_66 70 (by decide) ?_
            refine s_ireturn hK dX6_walled_70 rfl (by first | rfl | exact b01_nar _) ?_
            exact hp.val M1 F1 rfl rfl
          refine s_aload_n hK dX6_walled_30 rfl ?_
          refine s_getfield hK dX6_walled_31 kF_X6_41 (by first | assumption | exact H.1 | exact H.2.1) (by rfl) ?_
          refine s_ifne hK dX6_walled_34 69 (by decide) (fun c_34 => ?_) (fun c_34 => ?_)
          · exact absurd rfl c_34
          · refine s_aload_n hK dX6_walled_37 rfl ?_
            refine s_bipush hK (v := 9) dX6_walled_38 (by decide) ?_
            refine s_iload_n hK dX6_walled_40 rfl ?_
            refine s_imul hK dX6_walled_41 ?_
            refine s_iload_n hK dX6_walled_42 rfl ?_
            refine s_iadd hK dX6_walled_43 ?_
            rw [e9]
            refine s_iload_n hK dX6_walled_44 rfl ?_
            refine s_V20 hK dX6_walled_45 kV_X6_70 (by first | assumption | exact H.1 | exact H.2.1) (by rfl) ?_
            refine c_hasWallM _ hc hk M1 I ?_
            cases e4 : lb (wCells S.1 k) (cellI x y) with
            | true =>
              refine s_ifne hK dX6_walled_48 65 (by decide) (fun c_48 => ?_) (fun c_48 => ?_)
              · exact yes (by simp [e4])
              · exact absurd c_48 (by decide)
            | false =>
              refine s_ifne hK dX6_walled_48 65 (by decide) (fun c_48 => ?_) (fun c_48 => ?_)
              · exact absurd rfl c_48
              · refine s_bipush hK (v := 9) dX6_walled_51 (by decide) ?_
                refine s_iload_n hK dX6_walled_53 rfl ?_
                refine s_imul hK dX6_walled_54 ?_
                refine s_iload_n hK dX6_walled_55 rfl ?_
                refine s_iadd hK dX6_walled_56 ?_
                rw [e9]
                refine s_iload_n hK dX6_walled_57 rfl ?_
                refine s_S20 hK dX6_walled_58 kS_X6_56 (by rfl) ?_
                refine c_beside _ hc hk ?_
                refine s_iconst hK (v := (-1)) dX6_walled_61 (by decide) ?_
                refine s_icmpne hK dX6_walled_62 69 (by decide) (fun c_62 => ?_) (fun c_62 => ?_)
                · have q : nbOk (cellI x y) k = true := by
                    cases z : nbOk (cellI x y) k with
                    | true => rfl
                    | false => exact absurd ((neg_bs hc hk).mpr z) c_62
                  rw [q, e4] at hp
                  refine s_iconst hK (v := 0) dX6_walled_69 (by decide) ?_
                  refine s_ireturn hK dX6_walled_70 rfl (by first | rfl | exact b01_nar _) ?_
                  exact hp.val M1 F1 rfl rfl
                · have q := (neg_bs hc hk).mp c_62
                  exact yes (by simp [q])
        · exact absurd c_19 (by decide)
    · exact absurd c_6 (by decide)
