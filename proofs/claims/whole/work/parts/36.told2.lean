/-! what the model tells of cells; the rite -/
theorem sumT_set {G : Nat → Nat → Nat} {g k v : Nat} (hk : k ≠ 4) : ∀ n, sumT (setG G g k v) 6 n = sumT G 6 n
  | 0 => rfl
  | n + 1 => by
    show sumT (setG G g k v) 6 n + setG G g k v n 4 = sumT G 6 n + G n 4
    rw [sumT_set hk n]
    unfold setG
    rw [if_neg (fun z => hk z.2.symm)]
theorem M_put {h : gH} {m : Nat → Nat} {thr : Int32} {S : CS} {lt : Nat → Bool} {st rw : Nat → Int32} {g k v : Nat} (hg : g < 6) (hk : k < 6) (hk4 : k ≠ 4) (R : RawM h m thr S.2.2.2.1 (updC (mC S lt st rw) 6 (6 * g + k) (nI v))) : MdlAt h m thr (S.1, S.2.1, setG S.2.2.1 g k v, S.2.2.2) lt st rw := by
  refine RawM.cong R (fun k' j k1 k2 hj => ?_)
  by_cases e6 : k' = 6
  · subst e6
    have hj : j < 36 := hj
    show (if 6 = 6 then (if j = 6 * g + k then nI v else nI (S.2.2.1 (j / 6) (j % 6))) else _) = nI (setG S.2.2.1 g k v (j / 6) (j % 6))
    rw [if_pos rfl]
    unfold setG
    by_cases e : j = 6 * g + k
    · rw [if_pos e, if_pos (by omega)]
    · rw [if_neg e, if_neg (by omega)]
  · rw [updC_same e6]
    unfold mC
    split
    · rfl
    · rfl
    · rfl
    · rfl
    · rfl
    · exact absurd rfl e6
    · show (if j = 0 then nI S.2.2.2.2 else nI (sumT S.2.2.1 6 S.2.2.2.1)) = (if j = 0 then nI S.2.2.2.2 else nI (sumT (setG S.2.2.1 g k v) 6 S.2.2.2.1))
      rw [sumT_set hk4]
    · rfl
    · rfl
    · rfl
set_option maxRecDepth 10000 in
theorem c_cellTold (d : Nat) {m : Nat → Nat} {thr : Int32} {S : CS} {st rw : Nat → Int32} {c k : Nat} (hc : c < 63) (hk : k < 5) (ok : CSok S) {h : gH} (M : MdlAt h m thr S (lb (S.1 7)) st rw) {mc ms : Nat} {Post : Option Value → gH → Prop} {X : String → gH → Prop} (hp : Post (some (.int (tCell S.1 S.2.1 S.2.2.1 S.2.2.2.1 c k))) h) : gSafe (d + 2) mX6_cellTold [.ref (m 0), .int (nI c), .int (nI k)] h mc ms Post X := by
  have M0 := M.own0
  have h6 := ok.1
  obtain ⟨f3, e3, k3⟩ := M.a3
  obtain ⟨f4, e4, k4⟩ := M.a4
  obtain ⟨f5, e5, k5⟩ := M.a5
  obtain ⟨f8, e8, k8⟩ := M.a8
  unfold tCell at hp
  refine ⟨Nat.le_of_ble_eq_true rfl, fun K hK => ?_⟩
  show K 0 [some (.ref (m 0)), some (.int (nI c)), some (.int (nI k)), none, none] [] _ _ _
  refine s_iconst hK (v := 0) dX6_cellTold_0 (by decide) ?_
  refine s_istore_n hK dX6_cellTold_1 rfl ?_
  refine s_iload_n hK dX6_cellTold_2 rfl ?_
  match k, hk with
  | 0, _ =>
    refine s_tswI hK dX6_cellTold_3 32 (by decide) (by rfl) (by decide) ?_
    refine s_aload_n hK dX6_cellTold_32 rfl ?_
    refine s_getfield hK dX6_cellTold_33 kF_X6_16 (by first | assumption | exact H.1 | exact H.2.1) (by rfl) ?_
    refine s_iload_n hK dX6_cellTold_36 rfl ?_
    refine s_ialoadN hK dX6_cellTold_37 (by assumption) (by omega) (by omega) ?_
    rw [k3 _ hc]
    refine s_ireturn hK dX6_cellTold_38 rfl (by first | rfl | exact b01_nar _) ?_
    exact hp
  | 1, _ =>
    refine s_tswI hK dX6_cellTold_3 39 (by decide) (by rfl) (by decide) ?_
    refine s_aload_n hK dX6_cellTold_39 rfl ?_
    refine s_getfield hK dX6_cellTold_40 kF_X6_20 (by first | assumption | exact H.1 | exact H.2.1) (by rfl) ?_
    refine s_iload_n hK dX6_cellTold_43 rfl ?_
    refine s_ialoadN hK dX6_cellTold_44 (by assumption) (by omega) (by omega) ?_
    rw [k4 _ hc]
    refine s_ireturn hK dX6_cellTold_45 rfl (by first | rfl | exact b01_nar _) ?_
    exact hp
  | 2, _ =>
    refine s_tswI hK dX6_cellTold_3 46 (by decide) (by rfl) (by decide) ?_
    refine s_aload_n hK dX6_cellTold_46 rfl ?_
    refine s_getfield hK dX6_cellTold_47 kF_X6_23 (by first | assumption | exact H.1 | exact H.2.1) (by rfl) ?_
    refine s_iload_n hK dX6_cellTold_50 rfl ?_
    refine s_ialoadN hK dX6_cellTold_51 (by assumption) (by omega) (by omega) ?_
    rw [k5 _ hc]
    refine s_ireturn hK dX6_cellTold_52 rfl (by first | rfl | exact b01_nar _) ?_
    exact hp
  | 3, _ =>
    refine s_tswI hK dX6_cellTold_3 53 (by decide) (by rfl) (by decide) ?_
    refine s_aload_n hK dX6_cellTold_53 rfl ?_
    refine s_getfield hK dX6_cellTold_54 kF_X6_32 (by first | assumption | exact H.1 | exact H.2.1) (by rfl) ?_
    refine s_iload_n hK dX6_cellTold_57 rfl ?_
    refine s_baloadN hK dX6_cellTold_58 (by assumption) (by omega) (by omega) ?_
    rw [k8 _ hc]
    have hp : Post (some (.int (b01 (lb (S.1 7) c)))) h := hp
    cases e : lb (S.1 7) c with
    | false =>
      rw [e] at hp
      refine s_ifeq hK dX6_cellTold_59 66 (by decide) (fun c_59 => ?_) (fun c_59 => ?_)
      · refine s_iconst hK (v := 0) dX6_cellTold_66 (by decide) ?_
        refine s_ireturn hK dX6_cellTold_67 rfl (by first | rfl | exact b01_nar _) ?_
        exact hp
      · exact absurd rfl c_59
    | true =>
      rw [e] at hp
      refine s_ifeq hK dX6_cellTold_59 66 (by decide) (fun c_59 => ?_) (fun c_59 => ?_)
      · exact absurd c_59 (by decide)
      · refine s_iconst hK (v := 1) dX6_cellTold_62 (by decide) ?_
        refine s_goto hK dX6_cellTold_63 67 (by decide) ?_
        refine s_ireturn hK dX6_cellTold_67 rfl (by first | rfl | exact b01_nar _) ?_
        exact hp
  | 4, _ =>
    refine s_tswO hK dX6_cellTold_3 68 (by decide) (by decide) ?_
    refine s_iconst hK (v := 0) dX6_cellTold_68 (by decide) ?_
    refine s_istore hK dX6_cellTold_69 rfl ?_
    have loop : ∀ t i, i + t = S.2.2.2.1 → K 71 [some (.ref (m 0)), some (.int (nI c)), some (.int (nI 4)), some (.int (nI (cntG (fun g => decide (S.2.2.1 g 0 = c)) i))), some (.int (nI i))] [] h mc ms := by
      intro t
      induction t with
      | zero =>
        intro i hi
        obtain rfl : i = S.2.2.2.1 := by omega
        refine s_iload hK dX6_cellTold_71 rfl ?_
        refine s_aload_n hK dX6_cellTold_73 rfl ?_
        refine s_getfield hK dX6_cellTold_74 kF_X6_49 (by first | assumption | exact H.1 | exact H.2.1) (by rfl) ?_
        refine s_icmpge hK dX6_cellTold_77 105 (by decide) (fun c_77 => ?_) (fun c_77 => ?_)
        · refine s_iload_n hK dX6_cellTold_105 rfl ?_
          refine s_ireturn hK dX6_cellTold_106 rfl (by first | rfl | exact b01_nar _) ?_
          exact hp
        · exact absurd (Int32.le_refl (nI _)) c_77
      | succ t ih =>
        intro i hi
        have nxt := ih (i + 1) (by omega)
        rw [cntG_succ] at nxt
        have hG := (ok.2 i (by omega)).1
        refine s_iload hK dX6_cellTold_71 rfl ?_
        refine s_aload_n hK dX6_cellTold_73 rfl ?_
        refine s_getfield hK dX6_cellTold_74 kF_X6_49 (by first | assumption | exact H.1 | exact H.2.1) (by rfl) ?_
        refine s_icmpge hK dX6_cellTold_77 105 (by decide) (fun c_77 => ?_) (fun c_77 => ?_)
        · exact absurd c_77 (nI_ge (by omega) (by omega))
        · refine s_iload_n hK dX6_cellTold_80 rfl ?_
          refine s_aload_n hK dX6_cellTold_81 rfl ?_
          refine s_iload hK dX6_cellTold_82 rfl ?_
          refine s_iconst hK (v := 0) dX6_cellTold_84 (by decide) ?_
          refine s_V20 hK dX6_cellTold_85 kV_X6_95 (by first | assumption | exact H.1 | exact H.2.1) (by rfl) ?_
          refine c_sp (k := 0) _ (by omega) (by omega) M ?_
          refine s_iload_n hK dX6_cellTold_88 rfl ?_
          refine s_icmpne hK dX6_cellTold_89 96 (by decide) (fun c_89 => ?_) (fun c_89 => ?_)
          · have q : ¬ decide (S.2.2.1 i 0 = c) = true := fun z => c_89 (by rw [of_decide_eq_true z])
            rw [if_neg q] at nxt
            refine s_iconst hK (v := 0) dX6_cellTold_96 (by decide) ?_
            refine s_iadd hK dX6_cellTold_97 ?_
            refine s_istore_n hK dX6_cellTold_98 rfl ?_
            refine s_iinck hK (v := 1) dX6_cellTold_99 rfl (by decide) rfl ?_
            refine s_goto hK dX6_cellTold_102 71 (by decide) ?_
            rw [nI_1, Int32.add_zero]
            exact nxt
          · have q : decide (S.2.2.1 i 0 = c) = true := decide_eq_true ((nI_eq (by omega) (by omega)).mp c_89)
            rw [if_pos q] at nxt
            refine s_iconst hK (v := 1) dX6_cellTold_92 (by decide) ?_
            refine s_goto hK dX6_cellTold_93 97 (by decide) ?_
            refine s_iadd hK dX6_cellTold_97 ?_
            refine s_istore_n hK dX6_cellTold_98 rfl ?_
            refine s_iinck hK (v := 1) dX6_cellTold_99 rfl (by decide) rfl ?_
            refine s_goto hK dX6_cellTold_102 71 (by decide) ?_
            rw [nI_1, nI_1]
            exact nxt
    exact loop S.2.2.2.1 0 (by omega)
  | k + 5, q => exact absurd q (by omega)
set_option maxRecDepth 10000 in
theorem c_riteM (d : Nat) {m : Nat → Nat} {thr g : Int32} {S : CS} {lt : Nat → Bool} {st rw : Nat → Int32} {h : gH} (M : MdlAt h m thr S lt st rw) (ok : CSok S) {mc ms : Nat} {Post : Option Value → gH → Prop} {X : String → gH → Prop} (hp : mDone cdB Post m h (fRite S g)) : gSafe (d + 3) mX6_rite [.ref (m 0), .int g] h mc ms Post X := by
  have h6 := ok.1
  unfold fRite at hp
  have M0 := M.own0
  refine ⟨Nat.le_of_ble_eq_true rfl, fun K hK => ?_⟩
  show K 0 [some (.ref (m 0)), some (.int g), none, none] [] _ _ _
  refine s_aload_n hK dX6_rite_0 rfl ?_
  refine s_iconst hK (v := 0) dX6_rite_1 (by decide) ?_
  refine s_putfield hK dX6_rite_2 kF_X6_41 (by assumption) (by rfl) (by rfl) (by rfl) ?_
  have M1 : MdlAt (gU h (m 0) (.inr (5, (mF m thr S.2.2.2.1).set 0 (.int 0)))) m 0 S lt st rw := RawM.own (thr' := 0) (gc' := S.2.2.2.1) M
  have F1 : gFr (mS m) h (gU h (m 0) (.inr (5, (mF m thr S.2.2.2.1).set 0 (.int 0)))) := gFr.mdl (k := 0) (gFr_U _ _ _) (by omega)
  generalize gU h (m 0) (.inr (5, (mF m thr S.2.2.2.1).set 0 (.int 0))) = h1 at M1 F1
  clear M0
  have M0 := M1.own0
  refine s_aload_n hK dX6_rite_5 rfl ?_
  refine s_iload_n hK dX6_rite_6 rfl ?_
  refine s_V10 hK dX6_rite_7 kV_X6_104 (by first | assumption | exact H.1 | exact H.2.1) (by rfl) ?_
  refine c_isGhost _ M1 ok ?_
  cases e : okR g S.2.2.2.1 with
  | false =>
    rw [if_neg (by simp [e])] at hp
    refine s_ifne hK dX6_rite_10 19 (by decide) (fun c_10 => ?_) (fun c_10 => ?_)
    · exact absurd rfl c_10
    · refine s_aload_n hK dX6_rite_13 rfl ?_
      refine s_iconst hK (v := 1) dX6_rite_14 (by decide) ?_
      refine s_V10 hK dX6_rite_15 kV_X6_62 (by first | assumption | exact H.1 | exact H.2.1) (by rfl) ?_
      refine c_fail _ M1 (fun h2 M2 F2 => ?_)
      refine s_ireturn hK dX6_rite_18 rfl (by first | rfl | exact b01_nar _) ?_
      exact hp.exc M2 (F1.tr F2) rfl rfl
  | true =>
    rw [if_pos e] at hp
    obtain ⟨j, hj, rfl, ej⟩ := okR_ex (by omega) e
    rw [ej] at hp
    have hg : j < 6 := by omega
    have hG := ok.2 j hg
    refine s_ifne hK dX6_rite_10 19 (by decide) (fun c_10 => ?_) (fun c_10 => ?_)
    · refine s_aload_n hK dX6_rite_19 rfl ?_
      refine s_iload_n hK dX6_rite_20 rfl ?_
      refine s_iconst hK (v := 3) dX6_rite_21 (by decide) ?_
      refine s_V20 hK dX6_rite_22 kV_X6_95 (by first | assumption | exact H.1 | exact H.2.1) (by rfl) ?_
      refine c_sp (k := 3) _ hg (by omega) M1 ?_
      refine s_iconst hK (v := 1) dX6_rite_25 (by decide) ?_
      refine s_icmpne hK dX6_rite_26 35 (by decide) (fun c_26 => ?_) (fun c_26 => ?_)
      · have q : ¬ mpG S.2.2.1 j = true := fun z => c_26 (by rw [show S.2.2.1 j 3 = 1 from of_decide_eq_true z]; rfl)
        rw [if_neg q] at hp
        refine s_aload_n hK dX6_rite_35 rfl ?_
        refine s_iload_n hK dX6_rite_36 rfl ?_
        refine s_iconst hK (v := 3) dX6_rite_37 (by decide) ?_
        refine s_iconst hK (v := 1) dX6_rite_38 (by decide) ?_
        refine s_V30 hK dX6_rite_39 kV_X6_117 (by first | assumption | exact H.1 | exact H.2.1) (by rfl) ?_
        refine c_putM (k := 3) (v := 1) _ hg (by omega) M1 (fun h2 R2 F2 => ?_)
        have M2 := M_put hg (by omega) (by omega) R2
        have M0 := M2.own0
        refine s_iconst hK (v := 0) dX6_rite_42 (by decide) ?_
        refine s_istore_n hK dX6_rite_43 rfl ?_
        refine s_iconst hK (v := 0) dX6_rite_44 (by decide) ?_
        refine s_istore_n hK dX6_rite_45 rfl ?_
        have loop : ∀ t i, i + t = S.2.2.2.1 → K 46 [some (.ref (m 0)), some (.int (nI j)), some (.int (nI (sumT (setG S.2.2.1 j 3 1) 5 i))), some (.int (nI i))] [] h2 mc ms := by
          intro t
          induction t with
          | zero =>
            intro i hi
            obtain rfl : i = S.2.2.2.1 := by omega
            refine s_iload_n hK dX6_rite_46 rfl ?_
            refine s_aload_n hK dX6_rite_47 rfl ?_
            refine s_getfield hK dX6_rite_48 kF_X6_49 (by first | assumption | exact H.1 | exact H.2.1) (by rfl) ?_
            refine s_icmpge hK dX6_rite_51 69 (by decide) (fun c_51 => ?_) (fun c_51 => ?_)
            · refine s_iload_n hK dX6_rite_69 rfl ?_
              refine s_ireturn hK dX6_rite_70 rfl (by first | rfl | exact b01_nar _) ?_
              exact hp.val M2 (F1.tr F2) rfl rfl
            · exact absurd (Int32.le_refl (nI _)) c_51
          | succ t ih =>
            intro i hi
            have nxt := ih (i + 1) (by omega)
            refine s_iload_n hK dX6_rite_46 rfl ?_
            refine s_aload_n hK dX6_rite_47 rfl ?_
            refine s_getfield hK dX6_rite_48 kF_X6_49 (by first | assumption | exact H.1 | exact H.2.1) (by rfl) ?_
            refine s_icmpge hK dX6_rite_51 69 (by decide) (fun c_51 => ?_) (fun c_51 => ?_)
            · exact absurd c_51 (nI_ge (a := i) (b := S.2.2.2.1) (by omega) (by omega))
            · refine s_iload_n hK dX6_rite_54 rfl ?_
              refine s_aload_n hK dX6_rite_55 rfl ?_
              refine s_iload_n hK dX6_rite_56 rfl ?_
              refine s_iconst hK (v := 3) dX6_rite_57 (by decide) ?_
              refine s_V20 hK dX6_rite_58 kV_X6_95 (by first | assumption | exact H.1 | exact H.2.1) (by rfl) ?_
              refine c_sp (k := 3) _ (by omega) (by omega) M2 ?_
              refine s_iadd hK dX6_rite_61 ?_
              refine s_istore_n hK dX6_rite_62 rfl ?_
              refine s_iinck hK (v := 1) dX6_rite_63 rfl (by decide) rfl ?_
              refine s_goto hK dX6_rite_66 46 (by decide) ?_
              rw [nI_1, nI_add]
              exact nxt
        exact loop S.2.2.2.1 0 (by omega)
      · have q1 : S.2.2.1 j 3 = 1 := (nI_eq (b := 1) (by omega) (by omega)).mp c_26
        have q : mpG S.2.2.1 j = true := decide_eq_true q1
        rw [if_pos q] at hp
        refine s_aload_n hK dX6_rite_29 rfl ?_
        refine s_iconst hK (v := 2) dX6_rite_30 (by decide) ?_
        refine s_V10 hK dX6_rite_31 kV_X6_62 (by first | assumption | exact H.1 | exact H.2.1) (by rfl) ?_
        refine c_fail _ M1 (fun h2 M2 F2 => ?_)
        refine s_ireturn hK dX6_rite_34 rfl (by first | rfl | exact b01_nar _) ?_
        exact hp.exc M2 (F1.tr F2) rfl rfl
    · exact absurd c_10 (by decide)
