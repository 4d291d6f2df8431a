/-! ghost of the model -/
theorem mDone.new {cd : String → Int32} {Post : Option Value → gH → Prop} {m : Nat → Nat} {h h1 h' : gH} {r : gAns} {S : CS} {x : Int32} {lt : Nat → Bool} {st rw : Nat → Int32} (hp : mDone cd Post m h r) (M : MdlAt h' m 0 S lt st rw) (F : gFr (mS m) h h1) (G : gNw [] h1 h') (e : r = (vI x, S)) : Post (some (.int x)) h' := by
  subst e
  exact hp h' 0 x lt st rw M (gNw.call F.nw G (fun q hq => absurd hq (by simp))) ⟨rfl, rfl⟩
set_option maxRecDepth 10000 in
theorem c_ghostM (d : Nat) {m : Nat → Nat} {thr g w : Int32} {S : CS} {lt : Nat → Bool} {st rw : Nat → Int32} {h : gH} (M : MdlAt h m thr S lt st rw) (ok : CSok S) {mc ms : Nat} (hmc : 1 ≤ mc) (hms : 8 ≤ ms) {Post : Option Value → gH → Prop} {X : String → gH → Prop} (hp : mDone cdB Post m h (fGhost S g w)) : gSafe (d + 3) mX6_ghost [.ref (m 0), .int g, .int w] h mc ms Post X := by
  have h6 := ok.1
  unfold fGhost at hp
  have M0 := M.own0
  refine ⟨Nat.le_of_ble_eq_true rfl, fun K hK => ?_⟩
  show K 0 [some (.ref (m 0)), some (.int g), some (.int w)] [] _ _ _
  refine s_aload_n hK dX6_ghost_0 rfl ?_
  refine s_iconst hK (v := 0) dX6_ghost_1 (by decide) ?_
  refine s_putfield hK dX6_ghost_2 kF_X6_41 (by assumption) (by rfl) (by rfl) (by rfl) ?_
  have M1 : MdlAt (gU h (m 0) (.inr (5, (mF m thr S.2.2.2.1).set 0 (.int 0)))) m 0 S lt st rw := RawM.own (thr' := 0) (gc' := S.2.2.2.1) M
  have F1 : gFr (mS m) h (gU h (m 0) (.inr (5, (mF m thr S.2.2.2.1).set 0 (.int 0)))) := gFr.mdl (k := 0) (gFr_U _ _ _) (by omega)
  generalize gU h (m 0) (.inr (5, (mF m thr S.2.2.2.1).set 0 (.int 0))) = h1 at M1 F1
  clear M0
  have M0 := M1.own0
  have bad : fGhost S g w = (.inl eI, S) → K 32 [some (.ref (m 0)), some (.int g), some (.int w)] [] h1 mc ms := by
    intro q
    unfold fGhost at q
    rw [q] at hp
    refine s_aload_n hK dX6_ghost_32 rfl ?_
    refine s_iconst hK (v := 1) dX6_ghost_33 (by decide) ?_
    refine s_V10 hK dX6_ghost_34 kV_X6_62 (by first | assumption | exact H.1 | exact H.2.1) (by rfl) ?_
    refine c_fail _ M1 (fun h2 M2 F2 => ?_)
    refine s_ireturn hK dX6_ghost_37 rfl (by first | rfl | exact b01_nar _) ?_
    exact hp.exc M2 (F1.tr F2) rfl rfl
  refine s_aload_n hK dX6_ghost_5 rfl ?_
  refine s_iload_n hK dX6_ghost_6 rfl ?_
  refine s_V10 hK dX6_ghost_7 kV_X6_104 (by first | assumption | exact H.1 | exact H.2.1) (by rfl) ?_
  refine c_isGhost _ M1 ok ?_
  cases e : okR g S.2.2.2.1 with
  | false =>
    refine s_ifeq hK dX6_ghost_10 32 (by decide) (fun c_10 => ?_) (fun c_10 => ?_)
    · exact bad (by unfold fGhost; rw [if_neg (by simp [e])])
    · exact absurd rfl c_10
  | true =>
    refine s_ifeq hK dX6_ghost_10 32 (by decide) (fun c_10 => ?_) (fun c_10 => ?_)
    · exact absurd c_10 (by decide)
    · refine s_iload_n hK dX6_ghost_13 rfl ?_
      refine s_iconst hK (v := 0) dX6_ghost_14 (by decide) ?_
      refine s_bipush hK (v := 7) dX6_ghost_15 (by decide) ?_
      refine s_S30 hK dX6_ghost_17 kS_X6_45 (by rfl) ?_
      refine c_isIn _ ?_
      rw [show (decide (¬ w < 0) && decide (w ≤ 7)) = okR w 8 from okR_in (k := 7) (by omega)]
      cases e2 : okR w 8 with
      | false =>
        refine s_ifeq hK dX6_ghost_20 32 (by decide) (fun c_20 => ?_) (fun c_20 => ?_)
        · exact bad (by unfold fGhost; rw [if_pos e, if_neg (by simp [e2])])
        · exact absurd rfl c_20
      | true =>
        rw [if_pos e, if_pos e2] at hp
        clear bad
        obtain ⟨j, hj, rfl, ej⟩ := okR_ex (by omega) e
        obtain ⟨k, hk, rfl, ek⟩ := okR_ex (by omega) e2
        rw [ej, ek] at hp
        refine s_ifeq hK dX6_ghost_20 32 (by decide) (fun c_20 => ?_) (fun c_20 => ?_)
        · exact absurd c_20 (by decide)
        · refine s_aload_n hK dX6_ghost_23 rfl ?_
          refine s_iload_n hK dX6_ghost_24 rfl ?_
          refine s_iload_n hK dX6_ghost_25 rfl ?_
          refine s_V2 hK (mc := 1) (ms := 8) dX6_ghost_26 kV_X6_124 (by first | assumption | exact H.1 | exact H.2.1) (by rfl) (by omega) (by omega) ?_
          refine c_ghostTold _ (by omega) hk ok M1 (by omega) (by omega) (fun h2 M2 F2 => ?_)
          refine s_goto hK dX6_ghost_29 37 (by decide) ?_
          refine s_ireturn hK dX6_ghost_37 rfl (by first | rfl | exact b01_nar _) ?_
          exact hp.new M2 F1 F2 rfl
