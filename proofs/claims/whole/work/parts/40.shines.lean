/-! shines of the model -/
theorem beam_SBs {L : Nat → Int64} {own cells : Int64} {dn : Nat} (ho : SB own) (hc : SB cells) (hd : dn < 4) : ∀ n, SB (beamI L own cells dn n).1 ∧ (beamI L own cells dn n).2.1 < 4 ∧ SB (beamI L own cells dn n).2.2
  | 0 => ⟨ho, hd, hc⟩
  | n + 1 => by
    obtain ⟨a, b, c⟩ := beam_SBs ho hc hd n
    have s := bMv_SB (and_SB (y := wCells L (beamI L own cells dn n).2.1 ^^^ (-1)) a) b
    rw [beam_succ]
    exact ⟨s, trn_lt b, or_SB2 c s⟩
theorem litF_SBs {L : Nat → Int64} {own : Int64} (ho : SB own) : ∀ n, n ≤ 4 → SB (litF L own n)
  | 0, _ => ho
  | n + 1, h => (beam_SBs ho (litF_SBs ho n (by omega)) (by omega : n < 4) 6).2.2
theorem litFrom_SBs {L : Nat → Int64} {c : Nat} (hc : c < 63) : SB (litFrom L c) := litF_SBs (bOnly_SB hc) 4 (Nat.le_refl _)
theorem relit_SBs {L : Nat → Int64} : ∀ n, n ≤ 63 → SB (relitN L n)
  | 0, _ => by
    show SB 0
    unfold SB
    exact lb_0 _
  | n + 1, h => by
    show SB (if lb (L 1) n then relitN L n ||| litFrom L n else relitN L n)
    have ih := relit_SBs (L := L) n (by omega)
    split
    · exact or_SB2 ih (litFrom_SBs (by omega))
    · exact ih
set_option maxRecDepth 10000 in
theorem c_shinesM (d : Nat) {m : Nat → Nat} {thr x y : Int32} {S : CS} {lt : Nat → Bool} {st rw : Nat → Int32} {h : gH} (M : MdlAt h m thr S lt st rw) (I : InvW S.1) (D : InvD S.1) {mc ms : Nat} {Post : Option Value → gH → Prop} {X : String → gH → Prop} (hp : mDone cdB Post m h (fShines S x y)) : gSafe (d + 6) mX6_shines [.ref (m 0), .int x, .int y] h mc ms Post X := by
  unfold fShines at hp
  have M0 := M.own0
  refine ⟨Nat.le_of_ble_eq_true rfl, fun K hK => ?_⟩
  show K 0 [some (.ref (m 0)), some (.int x), some (.int y), none] [] _ _ _
  refine s_aload_n hK dX6_shines_0 rfl ?_
  refine s_iconst hK (v := 0) dX6_shines_1 (by decide) ?_
  refine s_putfield hK dX6_shines_2 kF_X6_41 (by assumption) (by rfl) (by rfl) (by rfl) ?_
  have M1 : MdlAt (gU h (m 0) (.inr (5, (mF m thr S.2.2.2.1).set 0 (.int 0)))) m 0 S lt st rw := RawM.own (thr' := 0) (gc' := S.2.2.2.1) M
  have F1 : gFr (mS m) h (gU h (m 0) (.inr (5, (mF m thr S.2.2.2.1).set 0 (.int 0)))) := gFr.mdl (k := 0) (gFr_U _ _ _) (by omega)
  generalize gU h (m 0) (.inr (5, (mF m thr S.2.2.2.1).set 0 (.int 0))) = h1 at M1 F1
  clear M0
  have M0 := M1.own0
  refine s_iload_n hK dX6_shines_5 rfl ?_
  refine s_iload_n hK dX6_shines_6 rfl ?_
  refine s_S20 hK dX6_shines_7 kS_X6_52 (by rfl) ?_
  refine c_isCell _ ?_
  cases e : okC x y with
  | false =>
    rw [if_neg (by simp [e])] at hp
    refine s_ifne hK dX6_shines_10 19 (by decide) (fun c_10 => ?_) (fun c_10 => ?_)
    · exact absurd rfl c_10
    · refine s_aload_n hK dX6_shines_13 rfl ?_
      refine s_iconst hK (v := 1) dX6_shines_14 (by decide) ?_
      refine s_V10 hK dX6_shines_15 kV_X6_62 (by first | assumption | exact H.1 | exact H.2.1) (by rfl) ?_
      refine c_fail _ M1 (fun h2 M2 F2 => ?_)
      refine s_ireturn hK dX6_shines_18 rfl (by first | rfl | exact b01_nar _) ?_
      exact hp.exc M2 (F1.tr F2) rfl rfl
  | true =>
    rw [if_pos e] at hp
    obtain ⟨hc, e9⟩ := okC_of e
    refine s_ifne hK dX6_shines_10 19 (by decide) (fun c_10 => ?_) (fun c_10 => ?_)
    · refine s_iconst hK (v := 0) dX6_shines_19 (by decide) ?_
      refine s_istore_n hK dX6_shines_20 rfl ?_
      have loop1 : ∀ t i, i + t = 63 → ∀ h1, MdlAt h1 m 0 S (fun j => if j < i then false else lt j) st rw → gFr (mS m) h h1 → K 21 [some (.ref (m 0)), some (.int x), some (.int y), some (.int (nI i))] [] h1 mc ms := by
        intro t
        induction t with
        | zero =>
          intro i hi h1 M1 F1
          obtain rfl : i = 63 := by omega
          have M0 := M1.own0
          refine s_iload_n hK dX6_shines_21 rfl ?_
          refine s_bipush hK (v := 63) dX6_shines_22 (by decide) ?_
          refine s_icmpge hK dX6_shines_24 40 (by decide) (fun c_24 => ?_) (fun c_24 => ?_)
          · refine s_aload_n hK dX6_shines_40 rfl ?_
            refine s_bipush hK (v := 9) dX6_shines_41 (by decide) ?_
            refine s_iload_n hK dX6_shines_43 rfl ?_
            refine s_imul hK dX6_shines_44 ?_
            refine s_iload_n hK dX6_shines_45 rfl ?_
            refine s_iadd hK dX6_shines_46 ?_
            rw [e9]
            refine s_V10 hK dX6_shines_47 kV_X6_76 (by first | assumption | exact H.1 | exact H.2.1) (by rfl) ?_

            refine c_shine _ hc M1 I D (fun h2 M2 F2 => ?_)
            have M2 : MdlAt h2 m 0 S (lb (litFrom S.1 (cellI x y))) st rw := M2.ltc (fun j hj => by rw [if_pos hj, Bool.false_or])
            have M0 := M2.own0
            refine s_aload_n hK dX6_shines_50 rfl ?_
            refine s_V00 hK dX6_shines_51 kV_X6_80 (by first | assumption | exact H.1 | exact H.2.1) (by rfl) ?_
            refine c_litCells _ M2 ?_
            refine s_ireturn hK dX6_shines_54 rfl (by first | rfl | exact b01_nar _) ?_
            exact hp.val M2 (F1.tr F2) rfl (pop63 (litFrom_SBs hc))
          · exact absurd (Int32.le_refl (nI 63)) c_24
        | succ t ih =>
          intro i hi h1 M1 F1
          have M0 := M1.own0
          obtain ⟨f8, e8, k8⟩ := M1.a8
          refine s_iload_n hK dX6_shines_21 rfl ?_
          refine s_bipush hK (v := 63) dX6_shines_22 (by decide) ?_
          refine s_icmpge hK dX6_shines_24 40 (by decide) (fun c_24 => ?_) (fun c_24 => ?_)
          · exact absurd c_24 (nI_ge (b := 63) (by omega) (by omega))
          · refine s_aload_n hK dX6_shines_27 rfl ?_
            refine s_getfield hK dX6_shines_28 kF_X6_32 (by first | assumption | exact H.1 | exact H.2.1) (by rfl) ?_
            refine s_iload_n hK dX6_shines_31 rfl ?_
            refine s_iconst hK (v := 0) dX6_shines_32 (by decide) ?_
            refine s_bastoreN hK dX6_shines_33 (by assumption) (by omega) (by omega) ?_
            refine s_iinck hK (v := 1) dX6_shines_34 rfl (by decide) rfl ?_
            refine s_goto hK dX6_shines_37 21 (by decide) ?_
            rw [nI_1]
            refine ih (i + 1) (by omega) _ ((M1.lit (b := false) k8 (by decide)).ltc (fun j hj => ?_)) (F1.tr (gFr.mdl (k := 8) (gFr_U _ _ _) (by omega)))
            by_cases q : j = i
            · simp [q]
            · have e : j < i + 1 ↔ j < i := by omega
              simp [q, e]
      exact loop1 63 0 (by omega) h1 (M1.ltc (fun j _ => by simp)) F1
    · exact absurd c_10 (by decide)
