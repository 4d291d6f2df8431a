/-! the model's calls on things -/
def mAns (cd : String → Int32) (r : gR) (thr v : Int32) : Prop := match r with
  | .inl E => thr = cd E
  | .inr x => thr = 0 ∧ x = .int v
def cdA (E : String) : Int32 := if E = eI then 1 else if E = eA then 2 else 3
def cdB (E : String) : Int32 := if E = eI then 1 else 2
def cdC (E : String) : Int32 := if E = eA then 1 else 2
theorem gFr.nw {S : List Nat} {h h' : gH} (F : gFr S h h') : gNw S h h' := fun q hq _ => F q hq
def mDone (cd : String → Int32) (Post : Option Value → gH → Prop) (m : Nat → Nat) (h : gH) (r : gAns) : Prop := ∀ h' thr v lt st rw, MdlAt h' m thr r.2 lt st rw → gNw (mS m) h h' → mAns cd r.1 thr v → Post (some (.int v)) h'
theorem mDone.exc {cd : String → Int32} {Post : Option Value → gH → Prop} {m : Nat → Nat} {h h' : gH} {r : gAns} {S : CS} {E : String} {thr v : Int32} {lt : Nat → Bool} {st rw : Nat → Int32} (hp : mDone cd Post m h r) (M : MdlAt h' m thr S lt st rw) (F : gFr (mS m) h h') (e : r = (.inl E, S)) (ec : thr = cd E) : Post (some (.int v)) h' := by
  subst e
  exact hp h' thr v lt st rw M F.nw ec
theorem mDone.val {cd : String → Int32} {Post : Option Value → gH → Prop} {m : Nat → Nat} {h h' : gH} {r : gAns} {S : CS} {x v : Int32} {lt : Nat → Bool} {st rw : Nat → Int32} (hp : mDone cd Post m h r) (M : MdlAt h' m 0 S lt st rw) (F : gFr (mS m) h h') (e : r = (vI x, S)) (ev : x = v) : Post (some (.int v)) h' := by
  subst e
  subst ev
  exact hp h' 0 x lt st rw M F.nw ⟨rfl, rfl⟩
theorem SB_of {L : Nat → Int64} {am : Nat → Int32} (T : InvT L am) {k : Nat} (hk : k < 5) : SB (L k) := by
  unfold SB
  cases e : lb (L k) 63 with
  | false => rfl
  | true => exact absurd (T.1 k hk 63 e) (by omega)
theorem pop_in {L : Nat → Int64} {x : Int64} {a b : Nat} (h : SB x) (e : ∀ c, inT L a b c = lb x c) : iPop x = nI (cntG (inT L a b) 63) := by
  rw [pop63 h]
  exact congrArg nI (cntG_cong (fun i _ => (e i).symm))
theorem or_SB {x : Int64} {c : Nat} (h : SB x) (hc : c < 63) : SB (x ||| bOnly c) := by
  unfold SB at *
  rw [lb_or, h, lb_only (by omega)]
  simp
  omega
theorem lt_ne {n k : Nat} (hn : n ≤ k) (hk : k < 2 ^ 31) : nI n < nI k ↔ ¬ nI n = nI k := by
  rw [nI_ltI (by omega) hk, nI_eq (by omega) hk]
  omega
set_option maxRecDepth 10000 in
theorem c_candleM (d : Nat) {m : Nat → Nat} {thr x y w : Int32} {S : CS} {lt : Nat → Bool} {st rw : Nat → Int32} {h : gH} (M : MdlAt h m thr S lt st rw) (T : InvT S.1 S.2.1) (n10 : cntG (inT S.1 1 1) 63 ≤ 10) {mc ms : Nat} {Post : Option Value → gH → Prop} {X : String → gH → Prop} (hp : mDone cdA Post m h (fCandle S x y w)) : gSafe (d + 4) mX6_candle [.ref (m 0), .int x, .int y, .int w] h mc ms Post X := by
  unfold fCandle at hp
  rw [pop_in (SB_of T (by omega)) (in11 S.1)] at hp
  have M0 := M.own0
  refine ⟨Nat.le_of_ble_eq_true rfl, fun K hK => ?_⟩
  show K 0 [some (.ref (m 0)), some (.int x), some (.int y), some (.int w)] [] _ _ _
  refine s_aload_n hK dX6_candle_0 rfl ?_
  refine s_iconst hK (v := 0) dX6_candle_1 (by decide) ?_
  refine s_putfield hK dX6_candle_2 kF_X6_41 (by assumption) (by rfl) (by rfl) (by rfl) ?_
  have M1 : MdlAt (gU h (m 0) (.inr (5, (mF m thr S.2.2.2.1).set 0 (.int 0)))) m 0 S lt st rw := RawM.own (thr' := 0) (gc' := S.2.2.2.1) M
  have F1 : gFr (mS m) h (gU h (m 0) (.inr (5, (mF m thr S.2.2.2.1).set 0 (.int 0)))) := gFr.mdl (k := 0) (gFr_U _ _ _) (by omega)
  generalize gU h (m 0) (.inr (5, (mF m thr S.2.2.2.1).set 0 (.int 0))) = h1 at M1 F1
  clear M0
  have M0 := M1.own0
  obtain ⟨f3, e3, k3⟩ := M1.a3
  refine s_iload_n hK dX6_candle_5 rfl ?_
  refine s_iload_n hK dX6_candle_6 rfl ?_
  refine s_S20 hK dX6_candle_7 kS_X6_52 (by rfl) ?_
  refine c_isCell _ ?_
  cases e : okC x y with
  | false =>
    rw [if_neg (by simp [e])] at hp
    refine s_ifne hK dX6_candle_10 19 (by decide) (fun c_10 => ?_) (fun c_10 => ?_)
    · exact absurd rfl c_10
    · refine s_aload_n hK dX6_candle_13 rfl ?_
      refine s_iconst hK (v := 1) dX6_candle_14 (by decide) ?_
      refine s_V10 hK dX6_candle_15 kV_X6_62 (by first | assumption | exact H.1 | exact H.2.1) (by rfl) ?_
      refine c_fail _ M1 (fun h2 M2 F2 => ?_)
      refine s_ireturn hK dX6_candle_18 rfl (by first | rfl | exact b01_nar _) ?_
      exact hp.exc M2 (F1.tr F2) rfl rfl
  | true =>
    rw [if_pos e] at hp
    obtain ⟨hc, e9⟩ := okC_of e
    have t5 := thg_lt S.1 (cellI x y)
    refine s_ifne hK dX6_candle_10 19 (by decide) (fun c_10 => ?_) (fun c_10 => ?_)
    · refine s_iload_n hK dX6_candle_19 rfl ?_
      refine s_iconst hK (v := 1) dX6_candle_20 (by decide) ?_
      refine s_bipush hK (v := 60) dX6_candle_21 (by decide) ?_
      refine s_S30 hK dX6_candle_23 kS_X6_45 (by rfl) ?_
      refine c_isIn _ ?_
      rw [show (decide (¬ w < 1) && decide (w ≤ 60)) = okH w 60 from rfl]
      cases e2 : okH w 60 with
      | false =>
        rw [if_neg (by simp [e2])] at hp
        refine s_ifne hK dX6_candle_26 35 (by decide) (fun c_26 => ?_) (fun c_26 => ?_)
        · exact absurd rfl c_26
        · refine s_aload_n hK dX6_candle_29 rfl ?_
          refine s_iconst hK (v := 2) dX6_candle_30 (by decide) ?_
          refine s_V10 hK dX6_candle_31 kV_X6_62 (by first | assumption | exact H.1 | exact H.2.1) (by rfl) ?_
          refine c_fail _ M1 (fun h2 M2 F2 => ?_)
          refine s_ireturn hK dX6_candle_34 rfl (by first | rfl | exact b01_nar _) ?_
          exact hp.exc M2 (F1.tr F2) rfl rfl
      | true =>
        rw [if_pos e2] at hp
        have no : ¬ (nI (cntG (inT S.1 1 1) 63) < nI 10 ∧ thg S.1 (cellI x y) = 0) → K 60 [some (.ref (m 0)), some (.int x), some (.int y), some (.int w)] [] h1 mc ms := by
          intro q
          rw [if_neg q] at hp
          refine s_aload_n hK dX6_candle_60 rfl ?_
          refine s_iconst hK (v := 3) dX6_candle_61 (by decide) ?_
          refine s_V10 hK dX6_candle_62 kV_X6_62 (by first | assumption | exact H.1 | exact H.2.1) (by rfl) ?_
          refine c_fail _ M1 (fun h2 M2 F2 => ?_)
          refine s_goto hK dX6_candle_65 81 (by decide) ?_
          refine s_ireturn hK dX6_candle_81 rfl (by first | rfl | exact b01_nar _) ?_
          exact hp.exc M2 (F1.tr F2) rfl rfl
        refine s_ifne hK dX6_candle_26 35 (by decide) (fun c_26 => ?_) (fun c_26 => ?_)
        · refine s_aload_n hK dX6_candle_35 rfl ?_
          refine s_iconst hK (v := 1) dX6_candle_36 (by decide) ?_
          refine s_iconst hK (v := 1) dX6_candle_37 (by decide) ?_
          refine s_V20 hK dX6_candle_38 kV_X6_60 (by first | assumption | exact H.1 | exact H.2.1) (by rfl) ?_
          refine c_things (a := 1) (b := 1) _ (by omega) (by omega) M1 ?_
          refine s_bipush hK (v := 10) dX6_candle_41 (by decide) ?_
          refine s_icmpeq hK dX6_candle_43 60 (by decide) (fun c_43 => ?_) (fun c_43 => ?_)
          · exact no (fun q => (lt_ne n10 (by omega)).mp q.1 c_43)
          · refine s_aload_n hK dX6_candle_46 rfl ?_
            refine s_getfield hK dX6_candle_47 kF_X6_16 (by first | assumption | exact H.1 | exact H.2.1) (by rfl) ?_
            refine s_bipush hK (v := 9) dX6_candle_50 (by decide) ?_
            refine s_iload_n hK dX6_candle_52 rfl ?_
            refine s_imul hK dX6_candle_53 ?_
            refine s_iload_n hK dX6_candle_54 rfl ?_
            refine s_iadd hK dX6_candle_55 ?_
            rw [e9]
            refine s_ialoadN hK dX6_candle_56 (by assumption) (by omega) (by omega) ?_
            rw [k3 _ hc]
            refine s_ifeq hK dX6_candle_57 68 (by decide) (fun c_57 => ?_) (fun c_57 => ?_)
            · have q0 : thg S.1 (cellI x y) = 0 := (nI_eq (b := 0) (by omega) (by omega)).mp c_57
              rw [if_pos ⟨(lt_ne n10 (by omega)).mpr c_43, q0⟩] at hp
              refine s_aload_n hK dX6_candle_68 rfl ?_
              refine s_bipush hK (v := 9) dX6_candle_69 (by decide) ?_
              refine s_iload_n hK dX6_candle_71 rfl ?_
              refine s_imul hK dX6_candle_72 ?_
              refine s_iload_n hK dX6_candle_73 rfl ?_
              refine s_iadd hK dX6_candle_74 ?_
              refine s_iconst hK (v := 1) dX6_candle_75 (by decide) ?_
              refine s_iload_n hK dX6_candle_76 rfl ?_
              refine s_iconst hK (v := 1) dX6_candle_77 (by decide) ?_
              rw [e9]
              refine s_V40 hK dX6_candle_78 kV_X6_66 (by first | assumption | exact H.1 | exact H.2.1) (by rfl) ?_
              refine c_setM (S' := (reL (oCandle S.1 (cellI x y)), upd S.2.1 (cellI x y) w, S.2.2)) (t := 1) (b := true) _ hc (by omega) M1 rfl (mC_set (candle_th hc) (candle_bu hc) (fun _ _ => rfl) rfl rfl rfl) (fun h2 M2 F2 => ?_)
              refine s_ireturn hK dX6_candle_81 rfl (by first | rfl | exact b01_nar _) ?_
              refine hp.val M2 (F1.tr F2) rfl ?_
              exact pop_in (L := reL (oCandle S.1 (cellI x y))) (x := reL (oCandle S.1 (cellI x y)) 0) (a := 1) (b := 1) (or_SB (SB_of T (k := 0) (by omega)) hc) (in11 _)
            · exact no (fun q => c_57 (by rw [q.2]; rfl))
        · exact absurd c_26 (by decide)
    · exact absurd c_10 (by decide)
set_option maxRecDepth 10000 in
theorem c_tallyM (d : Nat) {m : Nat → Nat} {thr x y : Int32} {S : CS} {lt : Nat → Bool} {st rw : Nat → Int32} {h : gH} (M : MdlAt h m thr S lt st rw) (T : InvT S.1 S.2.1) (T' : okC x y = true → thg S.1 (cellI x y) = 0 → InvT (oTally S.1 (cellI x y)) S.2.1) (n6 : cntG (inT S.1 4 4) 63 ≤ 6) {mc ms : Nat} {Post : Option Value → gH → Prop} {X : String → gH → Prop} (hp : mDone cdB Post m h (fTally S x y)) : gSafe (d + 4) mX6_tally [.ref (m 0), .int x, .int y] h mc ms Post X := by
  unfold fTally at hp
  rw [pop_in (SB_of T (by omega)) (in44 T)] at hp
  have M0 := M.own0
  refine ⟨Nat.le_of_ble_eq_true rfl, fun K hK => ?_⟩
  show K 0 [some (.ref (m 0)), some (.int x), some (.int y)] [] _ _ _
  refine s_aload_n hK dX6_tally_0 rfl ?_
  refine s_iconst hK (v := 0) dX6_tally_1 (by decide) ?_
  refine s_putfield hK dX6_tally_2 kF_X6_41 (by assumption) (by rfl) (by rfl) (by rfl) ?_
  have M1 : MdlAt (gU h (m 0) (.inr (5, (mF m thr S.2.2.2.1).set 0 (.int 0)))) m 0 S lt st rw := RawM.own (thr' := 0) (gc' := S.2.2.2.1) M
  have F1 : gFr (mS m) h (gU h (m 0) (.inr (5, (mF m thr S.2.2.2.1).set 0 (.int 0)))) := gFr.mdl (k := 0) (gFr_U _ _ _) (by omega)
  generalize gU h (m 0) (.inr (5, (mF m thr S.2.2.2.1).set 0 (.int 0))) = h1 at M1 F1
  clear M0
  have M0 := M1.own0
  obtain ⟨f3, e3, k3⟩ := M1.a3
  refine s_iload_n hK dX6_tally_5 rfl ?_
  refine s_iload_n hK dX6_tally_6 rfl ?_
  refine s_S20 hK dX6_tally_7 kS_X6_52 (by rfl) ?_
  refine c_isCell _ ?_
  cases e : okC x y with
  | false =>
    rw [if_neg (by simp [e])] at hp
    refine s_ifne hK dX6_tally_10 19 (by decide) (fun c_10 => ?_) (fun c_10 => ?_)
    · exact absurd rfl c_10
    · refine s_aload_n hK dX6_tally_13 rfl ?_
      refine s_iconst hK (v := 1) dX6_tally_14 (by decide) ?_
      refine s_V10 hK dX6_tally_15 kV_X6_62 (by first | assumption | exact H.1 | exact H.2.1) (by rfl) ?_
      refine c_fail _ M1 (fun h2 M2 F2 => ?_)
      refine s_ireturn hK dX6_tally_18 rfl (by first | rfl | exact b01_nar _) ?_
      exact hp.exc M2 (F1.tr F2) rfl rfl
  | true =>
    rw [if_pos e] at hp
    obtain ⟨hc, e9⟩ := okC_of e
    have t5 := thg_lt S.1 (cellI x y)
    refine s_ifne hK dX6_tally_10 19 (by decide) (fun c_10 => ?_) (fun c_10 => ?_)
    · have no : ¬ (nI (cntG (inT S.1 4 4) 63) < nI 6 ∧ thg S.1 (cellI x y) = 0) → K 44 [some (.ref (m 0)), some (.int x), some (.int y)] [] h1 mc ms := by
        intro q
        rw [if_neg q] at hp
        refine s_aload_n hK dX6_tally_44 rfl ?_
        refine s_iconst hK (v := 2) dX6_tally_45 (by decide) ?_
        refine s_V10 hK dX6_tally_46 kV_X6_62 (by first | assumption | exact H.1 | exact H.2.1) (by rfl) ?_
        refine c_fail _ M1 (fun h2 M2 F2 => ?_)
        refine s_goto hK dX6_tally_49 65 (by decide) ?_
        refine s_ireturn hK dX6_tally_65 rfl (by first | rfl | exact b01_nar _) ?_
        exact hp.exc M2 (F1.tr F2) rfl rfl
      refine s_aload_n hK dX6_tally_19 rfl ?_
      refine s_iconst hK (v := 4) dX6_tally_20 (by decide) ?_
      refine s_iconst hK (v := 4) dX6_tally_21 (by decide) ?_
      refine s_V20 hK dX6_tally_22 kV_X6_60 (by first | assumption | exact H.1 | exact H.2.1) (by rfl) ?_
      refine c_things (a := 4) (b := 4) _ (by omega) (by omega) M1 ?_
      refine s_bipush hK (v := 6) dX6_tally_25 (by decide) ?_
      refine s_icmpeq hK dX6_tally_27 44 (by decide) (fun c_27 => ?_) (fun c_27 => ?_)
      · exact no (fun q => (lt_ne n6 (by omega)).mp q.1 c_27)
      · refine s_aload_n hK dX6_tally_30 rfl ?_
        refine s_getfield hK dX6_tally_31 kF_X6_16 (by first | assumption | exact H.1 | exact H.2.1) (by rfl) ?_
        refine s_bipush hK (v := 9) dX6_tally_34 (by decide) ?_
        refine s_iload_n hK dX6_tally_36 rfl ?_
        refine s_imul hK dX6_tally_37 ?_
        refine s_iload_n hK dX6_tally_38 rfl ?_
        refine s_iadd hK dX6_tally_39 ?_
        rw [e9]
        refine s_ialoadN hK dX6_tally_40 (by assumption) (by omega) (by omega) ?_
        rw [k3 _ hc]
        refine s_ifeq hK dX6_tally_41 52 (by decide) (fun c_41 => ?_) (fun c_41 => ?_)
        · have q0 : thg S.1 (cellI x y) = 0 := (nI_eq (b := 0) (by omega) (by omega)).mp c_41
          have v0 : S.2.1 (cellI x y) = 0 := by
            obtain ⟨v, -, ev, -, ez⟩ := T.2.2.2.2.2 _ hc
            rw [ev, ez (by omega) (by omega)]
            rfl
          have b0 : lb (S.1 1) (cellI x y) = false := by
            cases eb : lb (S.1 1) (cellI x y) with
            | false => rfl
            | true => exact absurd (T.2.2.2.2.1 _ eb).1 (by rw [(thg_0 q0).1]; decide)
          rw [if_pos ⟨(lt_ne n6 (by omega)).mpr c_27, q0⟩] at hp
          refine s_aload_n hK dX6_tally_52 rfl ?_
          refine s_bipush hK (v := 9) dX6_tally_53 (by decide) ?_
          refine s_iload_n hK dX6_tally_55 rfl ?_
          refine s_imul hK dX6_tally_56 ?_
          refine s_iload_n hK dX6_tally_57 rfl ?_
          refine s_iadd hK dX6_tally_58 ?_
          refine s_iconst hK (v := 4) dX6_tally_59 (by decide) ?_
          refine s_iconst hK (v := 0) dX6_tally_60 (by decide) ?_
          refine s_iconst hK (v := 0) dX6_tally_61 (by decide) ?_
          rw [e9]
          refine s_V40 hK dX6_tally_62 kV_X6_66 (by first | assumption | exact H.1 | exact H.2.1) (by rfl) ?_
          refine c_setM (S' := (oTally S.1 (cellI x y), S.2)) (t := 4) (v := 0) (b := false) _ hc (by omega) M1 rfl (mC_set (tally_th hc q0) (fun j _ => ?_) (fun j _ => ?_) rfl rfl rfl) (fun h2 M2 F2 => ?_)
          · show lb (S.1 1) j = _
            by_cases ej : j = cellI x y
            · rw [if_pos ej, ej, b0]
            · rw [if_neg ej]
          · show S.2.1 j = _
            by_cases ej : j = cellI x y
            · rw [if_pos ej, ej, v0]
            · rw [if_neg ej]
          · refine s_ireturn hK dX6_tally_65 rfl (by first | rfl | exact b01_nar _) ?_
            refine hp.val M2 (F1.tr F2) rfl ?_
            exact pop_in (L := oTally S.1 (cellI x y)) (x := oTally S.1 (cellI x y) 4) (a := 4) (b := 4) (or_SB (SB_of T (k := 4) (by omega)) hc) (in44 (T' e q0))
        · exact no (fun q => c_41 (by rw [q.2]; rfl))
    · exact absurd c_10 (by decide)
