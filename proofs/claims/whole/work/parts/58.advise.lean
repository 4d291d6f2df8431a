/-! reaches and advise of the model -/
theorem okM_in {m : Int32} : (decide (¬ m < 0) && decide (m ≤ 99)) = okM m := rfl
set_option maxHeartbeats 1000000 in
set_option maxRecDepth 10000 in
theorem c_reachesM (d : Nat) {m : Nat → Nat} {thr x y z : Int32} {S : CS} {lt : Nat → Bool} {st rw : Nat → Int32} {h : gH} (M : MdlAt h m thr S lt st rw) (V : InvS S) {mc ms : Nat} (hmc : 6 ≤ mc) (hms : 172 ≤ ms) {Post : Option Value → gH → Prop} {X : String → gH → Prop} (hp : mDone cdB Post m h (fReaches S x y z)) : gSafe (d + 11) mX6_reaches [.ref (m 0), .int x, .int y, .int z] h mc ms Post X := by
  unfold fReaches at hp
  have M0 := M.own0
  refine ⟨Nat.le_of_ble_eq_true rfl, fun K hK => ?_⟩
  show K 0 [some (.ref (m 0)), some (.int x), some (.int y), some (.int z), none, none, none] [] _ _ _
  refine s_aload_n hK dX6_reaches_0 rfl ?_
  refine s_iconst hK (v := 0) dX6_reaches_1 (by decide) ?_
  refine s_putfield hK dX6_reaches_2 kF_X6_41 (by assumption) (by rfl) (by rfl) (by rfl) ?_
  have M1 : MdlAt (gU h (m 0) (.inr (5, (mF m thr S.2.2.2.1).set 0 (.int 0)))) m 0 S lt st rw := RawM.own (thr' := 0) (gc' := S.2.2.2.1) M
  have F1 : gFr (mS m) h (gU h (m 0) (.inr (5, (mF m thr S.2.2.2.1).set 0 (.int 0)))) := gFr.mdl (k := 0) (gFr_U _ _ _) (by omega)
  generalize gU h (m 0) (.inr (5, (mF m thr S.2.2.2.1).set 0 (.int 0))) = h1 at M1 F1
  clear M0
  have M0 := M1.own0
  obtain ⟨f3, e3, k3⟩ := M1.a3
  refine s_iload_n hK dX6_reaches_5 rfl ?_
  refine s_iload_n hK dX6_reaches_6 rfl ?_
  refine s_S20 hK dX6_reaches_7 kS_X6_52 (by rfl) ?_
  refine c_isCell _ ?_
  cases e : okC x y with
  | false =>
    rw [if_neg (by simp [e])] at hp
    refine s_ifne hK dX6_reaches_10 19 (by decide) (fun c_10 => ?_) (fun c_10 => ?_)
    · exact absurd rfl c_10
    · refine s_aload_n hK dX6_reaches_13 rfl ?_
      refine s_iconst hK (v := 1) dX6_reaches_14 (by decide) ?_
      refine s_V10 hK dX6_reaches_15 kV_X6_62 (by first | assumption | exact H.1 | exact H.2.1) (by rfl) ?_
      refine c_fail _ M1 (fun h2 M2 F2 => ?_)
      refine s_ireturn hK dX6_reaches_18 rfl (by first | rfl | exact b01_nar _) ?_
      exact hp.exc M2 (F1.tr F2) rfl rfl
  | true =>
    rw [if_pos e] at hp
    obtain ⟨hc, e9⟩ := okC_of e
    have t5 := thg_lt S.1 (cellI x y)
    refine s_ifne hK dX6_reaches_10 19 (by decide) (fun c_10 => ?_) (fun c_10 => ?_)
    · refine s_iload_n hK dX6_reaches_19 rfl ?_
      refine s_iconst hK (v := 0) dX6_reaches_20 (by decide) ?_
      refine s_bipush hK (v := 99) dX6_reaches_21 (by decide) ?_
      refine s_S30 hK dX6_reaches_23 kS_X6_45 (by rfl) ?_
      refine c_isIn _ ?_
      rw [okM_in]
      cases e2 : okM z with
      | false =>
        rw [if_neg (by simp [e2])] at hp
        refine s_ifne hK dX6_reaches_26 35 (by decide) (fun c_26 => ?_) (fun c_26 => ?_)
        · exact absurd rfl c_26
        · refine s_aload_n hK dX6_reaches_29 rfl ?_
          refine s_iconst hK (v := 2) dX6_reaches_30 (by decide) ?_
          refine s_V10 hK dX6_reaches_31 kV_X6_62 (by first | assumption | exact H.1 | exact H.2.1) (by rfl) ?_
          refine c_fail _ M1 (fun h2 M2 F2 => ?_)
          refine s_ireturn hK dX6_reaches_34 rfl (by first | rfl | exact b01_nar _) ?_
          exact hp.exc M2 (F1.tr F2) rfl rfl
      | true =>
        rw [if_pos e2] at hp
        refine s_ifne hK dX6_reaches_26 35 (by decide) (fun c_26 => ?_) (fun c_26 => ?_)
        · refine s_bipush hK (v := 9) dX6_reaches_35 (by decide) ?_
          refine s_iload_n hK dX6_reaches_37 rfl ?_
          refine s_imul hK dX6_reaches_38 ?_
          refine s_iload_n hK dX6_reaches_39 rfl ?_
          refine s_iadd hK dX6_reaches_40 ?_
          rw [e9]
          refine s_istore hK dX6_reaches_41 rfl ?_
          refine s_aload_n hK dX6_reaches_43 rfl ?_
          refine s_getfield hK dX6_reaches_44 kF_X6_16 (by first | assumption | exact H.1 | exact H.2.1) (by rfl) ?_
          refine s_iload hK dX6_reaches_47 rfl ?_
          refine s_ialoadN hK dX6_reaches_49 (by assumption) (by omega) (by omega) ?_
          rw [k3 _ hc]
          refine s_iconst hK (v := 4) dX6_reaches_50 (by decide) ?_
          refine s_icmpeq hK dX6_reaches_51 56 (by decide) (fun c_51 => ?_) (fun c_51 => ?_)
          · have e4 : lb (S.1 4) (cellI x y) = true := (thg4 V.2.2.1 _).mp ((nI_eq (b := 4) (by omega) (by omega)).mp c_51)
            rw [if_pos e4] at hp
            refine s_aload_n hK dX6_reaches_56 rfl ?_
            refine s_V0 hK (mc := 5) (ms := 168) dX6_reaches_57 kV_X6_156 (by first | assumption | exact H.1 | exact H.2.1) (by rfl) (by omega) (by omega) ?_
            refine c_kept _ M1 (by omega) (by omega) (fun h2 q r M2 P2 F2 => ?_)
            have G2 : gNw (mS m) h h2 := gNw.call F1.nw F2 (fun q hq => absurd hq (by simp))
            refine s_astore hK dX6_reaches_60 rfl ?_
            refine s_iconst hK (v := 0) dX6_reaches_62 (by decide) ?_
            refine s_istore hK dX6_reaches_63 rfl ?_
            have fin : ∀ i told : Int32, ∀ n lt1 st1 rw1 h3, told = oI (fndB (fun k => decide ((pasS S k).2.1 (cellI x y) = z)) 61) → MdlAt h3 m 0 (pasS S n) lt1 st1 rw1 → gFr (mS m) h2 h3 → K 107 [some (.ref (m 0)), some (.int x), some (.int y), some (.int z), some (.int (nI (cellI x y))), some (.ref q), some (.int told)] [] h3 (mc - 5) (ms - 168) := by
              intro i told n lt1 st1 rw1 h3 et M3 F3
              have M0 := M3.own0
              refine s_aload_n hK dX6_reaches_107 rfl ?_
              refine s_aload hK dX6_reaches_108 rfl ?_
              refine s_V1 hK (mc := 1) (ms := 4) dX6_reaches_110 kV_X6_160 (by first | assumption | exact H.1 | exact H.2.1) (by rfl) (by omega) (by omega) ?_
              refine c_bringBack _ (sameH_pas S n) M3 (P2.nw F3.nw) (by omega) (by omega) (fun h4 M4 P4 F4 => ?_)
              refine s_iload hK dX6_reaches_113 rfl ?_
              refine s_ireturn hK dX6_reaches_115 rfl (by first | rfl | exact b01_nar _) ?_
              rw [← et] at hp
              exact hp h4 0 told _ st1 rw1 M4 (gNw.tr (gNw.tr G2 F3.nw) F4) ⟨rfl, rfl⟩
            have last : ∀ n lt1 st1 rw1 h3, n ≤ 60 → (∀ j, j < n → decide ((pasS S j).2.1 (cellI x y) = z) = false) → (n = 60 ∨ (pasS S n).2.1 (cellI x y) = z) → MdlAt h3 m 0 (pasS S n) lt1 st1 rw1 → gFr (mS m) h2 h3 → K 93 [some (.ref (m 0)), some (.int x), some (.int y), some (.int z), some (.int (nI (cellI x y))), some (.ref q), some (.int (nI n))] [] h3 (mc - 5) (ms - 168) := by
              intro n lt1 st1 rw1 h3 hn hno hor M3 F3
              have M0 := M3.own0
              obtain ⟨f4, e44, k4⟩ := M3.a4
              refine s_aload_n hK dX6_reaches_93 rfl ?_
              refine s_getfield hK dX6_reaches_94 kF_X6_20 (by first | assumption | exact H.1 | exact H.2.1) (by rfl) ?_
              refine s_iload hK dX6_reaches_97 rfl ?_
              refine s_ialoadN hK dX6_reaches_99 (by assumption) (by omega) (by omega) ?_
              rw [k4 _ hc]
              refine s_iload_n hK dX6_reaches_100 rfl ?_
              refine s_icmpeq hK dX6_reaches_101 107 (by decide) (fun c_101 => ?_) (fun c_101 => ?_)
              · refine fin 0 _ n lt1 st1 rw1 h3 ?_ M3 F3
                rw [fndB_some (p := fun k => decide ((pasS S k).2.1 (cellI x y) = z)) (i := n) (decide_eq_true c_101) hno 61 (by omega)]
                rfl
              · refine s_iconst hK (v := (-1)) dX6_reaches_104 (by decide) ?_
                refine s_istore hK dX6_reaches_105 rfl ?_
                refine fin 0 _ n lt1 st1 rw1 h3 ?_ M3 F3
                have n60 : n = 60 := hor.resolve_right c_101
                rw [fndB_none (p := fun k => decide ((pasS S k).2.1 (cellI x y) = z)) (n := 61) (fun j hj => ?_)]
                · rfl
                · by_cases ej : j < n
                  · exact hno j ej
                  · obtain rfl : j = n := by omega
                    exact decide_eq_false c_101
            have loop : ∀ t n, n + t = 60 → ∀ lt1 st1 rw1 h3, (∀ j, j < n → decide ((pasS S j).2.1 (cellI x y) = z) = false) → MdlAt h3 m 0 (pasS S n) lt1 st1 rw1 → gFr (mS m) h2 h3 → K 65 [some (.ref (m 0)), some (.int x), some (.int y), some (.int z), some (.int (nI (cellI x y))), some (.ref q), some (.int (nI n))] [] h3 (mc - 5) (ms - 168) := by
              intro t
              induction t with
              | zero =>
                intro n hn lt1 st1 rw1 h3 hno M3 F3
                obtain rfl : n = 60 := by omega
                refine s_iload hK dX6_reaches_65 rfl ?_
                refine s_bipush hK (v := 60) dX6_reaches_67 (by decide) ?_
                refine s_icmpge hK dX6_reaches_69 93 (by decide) (fun c_69 => ?_) (fun c_69 => ?_)
                · exact last 60 lt1 st1 rw1 h3 (by omega) hno (Or.inl rfl) M3 F3
                · exact absurd (Int32.le_refl (nI 60)) c_69
              | succ t ih =>
                intro n hn lt1 st1 rw1 h3 hno M3 F3
                have M0 := M3.own0
                obtain ⟨f4, e44, k4⟩ := M3.a4
                refine s_iload hK dX6_reaches_65 rfl ?_
                refine s_bipush hK (v := 60) dX6_reaches_67 (by decide) ?_
                refine s_icmpge hK dX6_reaches_69 93 (by decide) (fun c_69 => ?_) (fun c_69 => ?_)
                · exact absurd c_69 (nI_ge (b := 60) (by omega) (by omega))
                · refine s_aload_n hK dX6_reaches_72 rfl ?_
                  refine s_getfield hK dX6_reaches_73 kF_X6_20 (by first | assumption | exact H.1 | exact H.2.1) (by rfl) ?_
                  refine s_iload hK dX6_reaches_76 rfl ?_
                  refine s_ialoadN hK dX6_reaches_78 (by assumption) (by omega) (by omega) ?_
                  rw [k4 _ hc]
                  refine s_iload_n hK dX6_reaches_79 rfl ?_
                  refine s_icmpeq hK dX6_reaches_80 93 (by decide) (fun c_80 => ?_) (fun c_80 => ?_)
                  · exact last n lt1 st1 rw1 h3 (by omega) hno (Or.inr c_80) M3 F3
                  · refine s_aload_n hK dX6_reaches_83 rfl ?_
                    refine s_V00 hK dX6_reaches_84 kV_X6_145 (by first | assumption | exact H.1 | exact H.2.1) (by rfl) ?_
                    refine c_hourOn _ (pasS_V V n) M3 (fun h4 st4 rw4 M4 F4 => ?_)
                    refine s_iinck hK (v := 1) dX6_reaches_87 rfl (by decide) rfl ?_
                    refine s_goto hK dX6_reaches_90 65 (by decide) ?_
                    rw [nI_1]
                    refine ih (n + 1) (by omega) _ st4 rw4 h4 (fun j hj => ?_) M4 (F3.tr F4)
                    by_cases ej : j < n
                    · exact hno j ej
                    · obtain rfl : j = n := by omega
                      exact decide_eq_false c_80
            exact loop 60 0 (by omega) lt st rw h2 (fun j hj => absurd hj (Nat.not_lt_zero _)) M2 (gFr_rf _ _)
          · have e4 : ¬ lb (S.1 4) (cellI x y) = true := fun w => c_51 (by rw [(thg4 V.2.2.1 _).mpr w]; rfl)
            rw [if_neg e4] at hp
            refine s_iconst hK (v := (-1)) dX6_reaches_54 (by decide) ?_
            refine s_ireturn hK dX6_reaches_55 rfl (by first | rfl | exact b01_nar _) ?_
            exact hp.val M1 F1 rfl rfl
        · exact absurd c_26 (by decide)
    · exact absurd c_10 (by decide)
theorem switch_T {L : Nat → Int64} {am : Nat → Int32} {c : Nat} (hc : c < 63) (T : InvT L am) (h : cwax L am c = true) : InvT (reL (oSwitch L c)) am := by
  unfold cwax at h
  rw [Bool.and_eq_true, decide_eq_true_eq] at h
  have T0 := T
  obtain ⟨t1, t2, t3, t4, t5, t6⟩ := T
  have b := switch_bu (L := L) hc
  have k := switch_k (L := L) (c := c)
  have e1 : reL (oSwitch L c) 1 = L 1 ^^^ bOnly c := rfl
  have b2 : ∀ j, lb (reL (oSwitch L c) 1) j = true → j = c ∨ lb (L 1) j = true := by
    intro j hj
    rw [e1, xor_only hc] at hj
    by_cases z : j = c
    · exact Or.inl z
    · rw [if_neg z] at hj
      exact Or.inr hj
  refine ⟨fun i hi j hj => ?_, t2, t3, t4, fun j hj => ?_, t6⟩
  · by_cases z : i = 1
    · subst z
      rcases b2 j hj with z | z
      · rw [z]; exact hc
      · exact t1 1 (by omega) j z
    · rw [k i z (by omega)] at hj
      exact t1 i hi j hj
  · show lb (L 0) j = true ∧ _
    rcases b2 j hj with z | z
    · rw [z]
      refine ⟨h.1, ?_⟩
      obtain ⟨v, v1, v2, -⟩ := t6 c hc
      have h2 := h.2
      rw [v2] at h2
      have : 0 < v := (nI_ltI (a := 0) (by omega) (by omega)).mp h2
      exact ⟨v - 1, by omega, by rw [v2, show v - 1 + 1 = v by omega]⟩
    · exact t5 j z
theorem switch_V {S : CS} {c : Nat} (hc : c < 63) (V : InvS S) (h : cwax S.1 S.2.1 c = true) : InvS (swS S (some c)) := ⟨V.1, InvW_of V.2.1 rfl rfl, switch_T hc V.2.2.1 h, reL_7 _⟩
theorem sameH_sw (S : CS) (c k : Nat) : sameH S (pasS (swS S (some c)) k) := ⟨fun i h1 h7 => (pas_k _ h1 h7 k).trans (switch_k i h1 h7), pas_gc _ k⟩
set_option maxHeartbeats 1000000 in
set_option maxRecDepth 10000 in
theorem c_adviseM (d : Nat) {m : Nat → Nat} {thr t : Int32} {S : CS} {lt : Nat → Bool} {st rw : Nat → Int32} {h : gH} (M : MdlAt h m thr S lt st rw) (V : InvS S) (hT : sumT S.2.2.1 6 S.2.2.2.1 ≤ 1000000) {mc ms : Nat} (hmc : 69 ≤ mc) (hms : 424 ≤ ms) {Post : Option Value → gH → Prop} {X : String → gH → Prop} (hp : mDone cdC Post m h (fAdvise S t)) : gSafe (d + 12) mX6_advise [.ref (m 0), .int t] h mc ms Post X := by
  unfold fAdvise at hp
  have M0 := M.own0
  refine ⟨Nat.le_of_ble_eq_true rfl, fun K hK => ?_⟩
  show K 0 [some (.ref (m 0)), some (.int t), none, none, none, none, none] [] _ _ _
  refine s_aload_n hK dX6_advise_0 rfl ?_
  refine s_iconst hK (v := 0) dX6_advise_1 (by decide) ?_
  refine s_putfield hK dX6_advise_2 kF_X6_41 (by assumption) (by rfl) (by rfl) (by rfl) ?_
  have M1 : MdlAt (gU h (m 0) (.inr (5, (mF m thr S.2.2.2.1).set 0 (.int 0)))) m 0 S lt st rw := RawM.own (thr' := 0) (gc' := S.2.2.2.1) M
  have F1 : gFr (mS m) h (gU h (m 0) (.inr (5, (mF m thr S.2.2.2.1).set 0 (.int 0)))) := gFr.mdl (k := 0) (gFr_U _ _ _) (by omega)
  generalize gU h (m 0) (.inr (5, (mF m thr S.2.2.2.1).set 0 (.int 0))) = h1 at M1 F1
  clear M0
  have M0 := M1.own0
  refine s_iload_n hK dX6_advise_5 rfl ?_
  refine s_iconst hK (v := 1) dX6_advise_6 (by decide) ?_
  refine s_bipush hK (v := 8) dX6_advise_7 (by decide) ?_
  refine s_S30 hK dX6_advise_9 kS_X6_45 (by rfl) ?_
  refine c_isIn _ ?_
  rw [show (decide (¬ t < 1) && decide (t ≤ 8)) = okH t 8 from rfl]
  cases e : okH t 8 with
  | false =>
    rw [if_neg (by simp [e])] at hp
    refine s_ifne hK dX6_advise_12 21 (by decide) (fun c_12 => ?_) (fun c_12 => ?_)
    · exact absurd rfl c_12
    · refine s_aload_n hK dX6_advise_15 rfl ?_
      refine s_iconst hK (v := 1) dX6_advise_16 (by decide) ?_
      refine s_V10 hK dX6_advise_17 kV_X6_62 (by first | assumption | exact H.1 | exact H.2.1) (by rfl) ?_
      refine c_fail _ M1 (fun h2 M2 F2 => ?_)
      refine s_ireturn hK dX6_advise_20 rfl (by first | rfl | exact b01_nar _) ?_
      exact hp.exc M2 (F1.tr F2) rfl rfl
  | true =>
    rw [if_pos e] at hp
    obtain ⟨k, hk1, hk, rfl, ek⟩ := okH_ex (by omega) e
    rw [ek] at hp
    refine s_ifne hK dX6_advise_12 21 (by decide) (fun c_12 => ?_) (fun c_12 => ?_)
    · refine s_aload_n hK dX6_advise_21 rfl ?_
      refine s_V0 hK (mc := 5) (ms := 168) dX6_advise_22 kV_X6_156 (by first | assumption | exact H.1 | exact H.2.1) (by rfl) (by omega) (by omega) ?_
      refine c_kept _ M1 (by omega) (by omega) (fun h2 q r M2 P2 F2 => ?_)
      have M0 := M2.own0
      have G2 : gNw (mS m) h h2 := gNw.call F1.nw F2 (fun q hq => absurd hq (by simp))
      have loop : ∀ u i, i + u = 63 → ∀ bc bs, u ≤ bc → 4 * u ≤ bs → ∀ lt1 st1 rw1 w6 h3, MdlAt h3 m 0 S lt1 st1 rw1 → gNw (mS m) h2 h3 → K 49 [some (.ref (m 0)), some (.int (nI k)), some (.ref q), some (.int (oI (advF S k i).2)), some (.int (nI (sumT S.2.2.1 6 S.2.2.2.1 + (advF S k i).1))), some (.int (nI i)), w6] [] h3 bc bs := by
        intro u
        induction u with
        | zero =>
          intro i hi bc bs hbc hbs lt1 st1 rw1 w6 h3 M3 F3
          obtain rfl : i = 63 := by omega
          refine s_iload hK dX6_advise_49 rfl ?_
          refine s_bipush hK (v := 63) dX6_advise_51 (by decide) ?_
          refine s_icmpge hK dX6_advise_53 137 (by decide) (fun c_53 => ?_) (fun c_53 => ?_)
          · refine s_iload_n hK dX6_advise_137 rfl ?_
            refine s_ireturn hK dX6_advise_138 rfl (by first | rfl | exact b01_nar _) ?_
            exact hp h3 0 _ lt1 st1 rw1 M3 (gNw.tr G2 F3) ⟨rfl, rfl⟩
          · exact absurd (Int32.le_refl (nI 63)) c_53
        | succ u ih =>
          intro i hi bc bs hbc hbs lt1 st1 rw1 w6 h3 M3 F3
          have M0 := M3.own0
          obtain ⟨f3, e3, k3⟩ := M3.a3
          obtain ⟨f4, e4, k4⟩ := M3.a4
          have t5 := thg_lt S.1 i
          obtain ⟨v, v1, v2, -⟩ := V.2.2.1.2.2.2.2.2 i (by omega)
          have ad : ∀ a, advF S k (i + 1) = a → ∀ bc bs, u ≤ bc → 4 * u ≤ bs → ∀ lt1 st1 rw1 w6 h3, MdlAt h3 m 0 S lt1 st1 rw1 → gNw (mS m) h2 h3 → K 131 [some (.ref (m 0)), some (.int (nI k)), some (.ref q), some (.int (oI a.2)), some (.int (nI (sumT S.2.2.1 6 S.2.2.2.1 + a.1))), some (.int (nI i)), w6] [] h3 bc bs := by
            intro a ea bc bs hbc hbs lt1 st1 rw1 w6 h3 M3 F3
            subst ea
            refine s_iinck hK (v := 1) dX6_advise_131 rfl (by decide) rfl ?_
            refine s_goto hK dX6_advise_134 49 (by decide) ?_
            rw [nI_1]
            exact ih (i + 1) (by omega) bc bs hbc hbs lt1 st1 rw1 _ h3 M3 F3
          have no : cwax S.1 S.2.1 i = false → advF S k (i + 1) = advF S k i := fun z => by
            show (if _ then _ else _) = _
            rw [if_neg (by rw [z]; simp)]
          refine s_iload hK dX6_advise_49 rfl ?_
          refine s_bipush hK (v := 63) dX6_advise_51 (by decide) ?_
          refine s_icmpge hK dX6_advise_53 137 (by decide) (fun c_53 => ?_) (fun c_53 => ?_)
          · exact absurd c_53 (nI_ge (b := 63) (by omega) (by omega))
          · refine s_aload_n hK dX6_advise_56 rfl ?_
            refine s_getfield hK dX6_advise_57 kF_X6_16 (by first | assumption | exact H.1 | exact H.2.1) (by rfl) ?_
            refine s_iload hK dX6_advise_60 rfl ?_
            refine s_ialoadN hK dX6_advise_62 (by assumption) (by omega) (by omega) ?_
            rw [k3 _ (by omega)]
            refine s_iconst hK (v := 1) dX6_advise_63 (by decide) ?_
            refine s_icmpne hK dX6_advise_64 131 (by decide) (fun c_64 => ?_) (fun c_64 => ?_)
            · have z : ¬ lb (S.1 0) i = true := fun z => c_64 (by rw [(thg1 _ _).mpr z]; rfl)
              exact ad _ (no (by unfold cwax; simp [z])) bc bs (by omega) (by omega) lt1 st1 rw1 _ h3 M3 F3
            · have z0 : lb (S.1 0) i = true := (thg1 _ _).mp ((nI_eq (b := 1) (by omega) (by omega)).mp c_64)
              refine s_aload_n hK dX6_advise_67 rfl ?_
              refine s_getfield hK dX6_advise_68 kF_X6_20 (by first | assumption | exact H.1 | exact H.2.1) (by rfl) ?_
              refine s_iload hK dX6_advise_71 rfl ?_
              refine s_ialoadN hK dX6_advise_73 (by assumption) (by omega) (by omega) ?_
              rw [k4 _ (by omega), v2]
              refine s_ifne hK dX6_advise_74 80 (by decide) (fun c_74 => ?_) (fun c_74 => ?_)
              · have vz : v ≠ 0 := fun z => c_74 (by rw [z]; rfl)
                have wx : cwax S.1 S.2.1 i = true := by
                  unfold cwax
                  rw [z0, v2]
                  have : (0 : Int32) < nI v := (nI_ltI (a := 0) (by omega) (by omega)).mpr (by omega)
                  simp [this]
                have VS := switch_V (show i < 63 by omega) V wx
                obtain ⟨f5, e5, k5⟩ := M3.a5
                refine s_aload_n hK dX6_advise_80 rfl ?_
                refine s_getfield hK dX6_advise_81 kF_X6_23 (by first | assumption | exact H.1 | exact H.2.1) (by rfl) ?_
                refine s_iload hK dX6_advise_84 rfl ?_
                refine s_iconst hK (v := 1) dX6_advise_86 (by decide) ?_
                refine s_aload_n hK dX6_advise_87 rfl ?_
                refine s_getfield hK dX6_advise_88 kF_X6_23 (by first | assumption | exact H.1 | exact H.2.1) (by rfl) ?_
                refine s_iload hK dX6_advise_91 rfl ?_
                refine s_ialoadN hK dX6_advise_93 (by assumption) (by omega) (by omega) ?_
                rw [k5 _ (by omega)]
                refine s_isub hK dX6_advise_94 ?_
                rw [one_b01]
                refine s_iastoreN hK dX6_advise_95 (by assumption) (by omega) (by omega) ?_
                have M4 : MdlAt (gU h3 (m 5) (.inl (0, 63, .inl (upd f5 i (b01 (!lb (S.1 1) i)))))) m 0 (swS S (some i)) lt1 st1 rw1 := M3.burn (S' := swS S (some i)) (b := !lb (S.1 1) i) k5 rfl (switch_bu (by omega)) switch_k rfl
                have F4 : gFr (mS m) h3 (gU h3 (m 5) (.inl (0, 63, .inl (upd f5 i (b01 (!lb (S.1 1) i)))))) := gFr.mdl (k := 5) (gFr_U _ _ _) (by omega)
                generalize gU h3 (m 5) (.inl (0, 63, .inl (upd f5 i (b01 (!lb (S.1 1) i))))) = h4 at M4 F4
                clear M0 e3 k3 e4 k4 e5 k5
                have M0 := M4.own0
                refine s_aload_n hK dX6_advise_96 rfl ?_
                refine s_iload_n hK dX6_advise_97 rfl ?_
                refine s_V10 hK dX6_advise_98 kV_X6_148 (by first | assumption | exact H.1 | exact H.2.1) (by rfl) ?_
                refine c_hoursOn _ hk1 (by omega) VS M4 (fun h5 st5 rw5 M5 F5 => ?_)
                have M0 := M5.own0
                obtain ⟨f7, e7, k7⟩ := M5.a7
                have k71 := k7 1 (by omega)
                rw [if_neg (by omega), pas_gc, sum_pas] at k71
                have k71 : f7 1 = nI (sumT S.2.2.1 6 S.2.2.2.1 + pasH (swS S (some i)) k) := k71
                refine s_aload_n hK dX6_advise_101 rfl ?_
                refine s_getfield hK dX6_advise_102 kF_X6_29 (by first | assumption | exact H.1 | exact H.2.1) (by rfl) ?_
                refine s_iconst hK (v := 1) dX6_advise_105 (by decide) ?_
                refine s_ialoadN hK (j := 1) dX6_advise_106 e7 (by omega) (by omega) ?_
                rw [k71]
                refine s_istore hK dX6_advise_107 rfl ?_
                refine s_aload_n hK dX6_advise_109 rfl ?_
                refine s_aload_n hK dX6_advise_110 rfl ?_
                have F35 : gNw (mS m) h2 h5 := gNw.tr (gNw.tr F3 F4.nw) F5.nw
                refine s_V1 hK (mc := 1) (ms := 4) dX6_advise_111 kV_X6_160 (by first | assumption | exact H.1 | exact H.2.1) (by rfl) (by omega) (by omega) ?_
                refine c_bringBack _ (sameH_sw S i k) M5 (P2.nw F35) (by omega) (by omega) (fun h6 M6 P6 F6 => ?_)
                have F36 := gNw.tr F35 F6
                have b1 := pasH_le VS.1 k
                have b2 := advF_le V.1 k i
                refine s_iload hK dX6_advise_114 rfl ?_
                refine s_iload hK dX6_advise_116 rfl ?_
                refine s_icmplt hK dX6_advise_118 124 (by decide) (fun c_118 => ?_) (fun c_118 => ?_)
                · have lt9 : pasH (swS S (some i)) k < (advF S k i).1 := by
                    have := (nI_ltI (by omega) (by omega)).mp c_118
                    omega
                  refine s_iload hK dX6_advise_124 rfl ?_
                  refine s_istore_n hK dX6_advise_126 rfl ?_
                  refine s_iload hK dX6_advise_127 rfl ?_
                  refine s_istore hK dX6_advise_129 rfl ?_
                  exact ad (pasH (swS S (some i)) k, some i) (if_pos ⟨wx, lt9⟩) (bc - 1) (bs - 4) (by omega) (by omega) _ st5 rw5 _ h6 M6 F36
                · have lt9 : ¬ pasH (swS S (some i)) k < (advF S k i).1 := fun z => c_118 ((nI_ltI (by omega) (by omega)).mpr (by omega))
                  refine s_goto hK dX6_advise_121 131 (by decide) ?_
                  exact ad _ (if_neg (fun z => lt9 z.2)) (bc - 1) (bs - 4) (by omega) (by omega) _ st5 rw5 _ h6 M6 F36
              · have vz : v = 0 := (nI_eq (b := 0) (by omega) (by omega)).mp c_74
                refine s_goto hK dX6_advise_77 131 (by decide) ?_
                refine ad _ (no ?_) bc bs (by omega) (by omega) lt1 st1 rw1 _ h3 M3 F3
                unfold cwax
                rw [v2, vz, show decide (0 < nI 0) = false by decide]
                exact Bool.and_false _
      refine s_astore_n hK dX6_advise_25 rfl ?_
      refine s_aload_n hK dX6_advise_26 rfl ?_
      refine s_iload_n hK dX6_advise_27 rfl ?_
      refine s_V10 hK dX6_advise_28 kV_X6_148 (by first | assumption | exact H.1 | exact H.2.1) (by rfl) ?_
      refine c_hoursOn _ hk1 (by omega) V M2 (fun h3 st3 rw3 M3 F3 => ?_)
      have M0 := M3.own0
      obtain ⟨f7, e7, k7⟩ := M3.a7
      have k71 := k7 1 (by omega)
      rw [if_neg (by omega), pas_gc, sum_pas] at k71
      refine s_iconst hK (v := (-1)) dX6_advise_31 (by decide) ?_
      refine s_istore_n hK dX6_advise_32 rfl ?_
      refine s_aload_n hK dX6_advise_33 rfl ?_
      refine s_getfield hK dX6_advise_34 kF_X6_29 (by first | assumption | exact H.1 | exact H.2.1) (by rfl) ?_
      refine s_iconst hK (v := 1) dX6_advise_37 (by decide) ?_
      refine s_ialoadN hK (j := 1) dX6_advise_38 e7 (by omega) (by omega) ?_
      rw [k71]
      refine s_istore hK dX6_advise_39 rfl ?_
      refine s_aload_n hK dX6_advise_41 rfl ?_
      refine s_aload_n hK dX6_advise_42 rfl ?_
      refine s_V1 hK (mc := 1) (ms := 4) dX6_advise_43 kV_X6_160 (by first | assumption | exact H.1 | exact H.2.1) (by rfl) (by omega) (by omega) ?_
      refine c_bringBack _ (sameH_pas S k) M3 (P2.nw F3.nw) (by omega) (by omega) (fun h4 M4 P4 F4 => ?_)
      refine s_iconst hK (v := 0) dX6_advise_46 (by decide) ?_
      refine s_istore hK dX6_advise_47 rfl ?_
      exact loop 63 0 (by omega) _ _ (by omega) (by omega) _ st3 rw3 _ h4 M4 (gNw.tr F3.nw F4)
    · exact absurd c_12 (by decide)
