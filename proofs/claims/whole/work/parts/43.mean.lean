/-! mean of the model -/
set_option maxRecDepth 10000 in
theorem c_meanM (d : Nat) {m : Nat → Nat} {thr : Int32} {S : CS} {lt : Nat → Bool} {st rw : Nat → Int32} {h : gH} (M : MdlAt h m thr S lt st rw) (T : InvT S.1 S.2.1) (hn : iPop (S.1 4) ≠ 0 → vf_n64 (FP.ddiv (FP.i2d (sumMk S.1 S.2.1 63)) (FP.i2d (iPop (S.1 4))))) {mc ms : Nat} {Post : Option Value → gH → Prop} {X : String → gH → Prop} (hp : ∀ h', MdlAt h' m 0 S lt st rw → gFr (mS m) h h' → Post (some (.double (meanV S))) h') : gSafe (d + 3) mX6_mean [.ref (m 0)] h mc ms Post X := by
  have M0 := M.own0
  have ep := pop_in (SB_of T (k := 4) (by omega)) (in44 T)
  unfold meanV at hp
  refine ⟨Nat.le_of_ble_eq_true rfl, fun K hK => ?_⟩
  show K 0 [some (.ref (m 0)), none] [] _ _ _
  refine s_aload_n hK dX6_mean_0 rfl ?_
  refine s_iconst hK (v := 0) dX6_mean_1 (by decide) ?_
  refine s_putfield hK dX6_mean_2 kF_X6_41 (by assumption) (by rfl) (by rfl) (by rfl) ?_
  have M1 : MdlAt (gU h (m 0) (.inr (5, (mF m thr S.2.2.2.1).set 0 (.int 0)))) m 0 S lt st rw := RawM.own (thr' := 0) (gc' := S.2.2.2.1) M
  have F1 : gFr (mS m) h (gU h (m 0) (.inr (5, (mF m thr S.2.2.2.1).set 0 (.int 0)))) := gFr.mdl (k := 0) (gFr_U _ _ _) (by omega)
  generalize gU h (m 0) (.inr (5, (mF m thr S.2.2.2.1).set 0 (.int 0))) = h1 at M1 F1
  clear M0
  have M0 := M1.own0
  have hp := hp h1 M1 F1
  refine s_aload_n hK dX6_mean_5 rfl ?_
  refine s_iconst hK (v := 4) dX6_mean_6 (by decide) ?_
  refine s_iconst hK (v := 4) dX6_mean_7 (by decide) ?_
  refine s_V20 hK dX6_mean_8 kV_X6_60 (by first | assumption | exact H.1 | exact H.2.1) (by rfl) ?_
  refine c_things (a := 4) (b := 4) _ (by omega) (by omega) M1 ?_
  rw [← ep]
  refine s_istore_n hK dX6_mean_11 rfl ?_
  refine s_iload_n hK dX6_mean_12 rfl ?_
  refine s_ifne hK dX6_mean_13 20 (by decide) (fun c_13 => ?_) (fun c_13 => ?_)
  · rw [if_neg c_13] at hp
    refine s_aload_n hK dX6_mean_20 rfl ?_
    refine s_V00 hK dX6_mean_21 kV_X6_133 (by first | assumption | exact H.1 | exact H.2.1) (by rfl) ?_
    refine c_marksM _ M1 T ?_
    refine s_i2d hK dX6_mean_24 ?_
    refine s_iload_n hK dX6_mean_25 rfl ?_
    refine s_i2d hK dX6_mean_26 ?_
    refine s_ddiv hK dX6_mean_27 (hn c_13) ?_
    refine s_dreturn hK dX6_mean_28 rfl ?_
    exact hp
  · rw [if_pos c_13] at hp
    refine s_dconst hK dX6_mean_16 ?_
    refine s_goto hK dX6_mean_17 28 (by decide) ?_
    refine s_dreturn hK dX6_mean_28 rfl ?_
    exact hp
