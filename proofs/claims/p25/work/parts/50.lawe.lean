/-! the law: an hour in whole; its loop; its start -/
set_option maxHeartbeats 1000000 in
set_option maxRecDepth 10000 in
theorem l_hour {K : gK} (hK : gClosed (gSafe 10) mL_law 11 lwPost lwX (fun _ => none) K) {a b L t : Nat} {xs : Nat → Int32} {n n' m : Nat → Nat} {S : CS} {i : Nat} (I : InvC S i) {h : gH} (W_0 : LW h a b L xs n n' m S S) {z4 : Int32} {l5 l6 l7 l8 l9 l10 l11 l12 l13 l14 l15 l16 l17 l18 l19 l20 l21 l22 l23 l24 l25 : Option Value} {bc bs : Nat} (hbc : 4000 ≤ bc) (hbs : 25000 ≤ bs) (next : ∀ h' l5 l6 l7 l8 l9 l10 l11 l12 l13 l14 l15 l16 l17 l18 l19 l20 l21 l22 l23 l24 l25 bc' bs', InvC (hrS S) (i + 1) → LW h' a b L xs n n' m (hrS S) (hrS S) → bc ≤ bc' + 4000 → bs ≤ bs' + 25000 → K 1154 [some (.ref b), some (.ref a), some (.ref (m 0)), some (.int (nI t)), some (.int z4), l5, l6, l7, l8, l9, l10, l11, l12, l13, l14, l15, l16, l17, l18, l19, l20, l21, l22, l23, l24, l25] [] h' bc' bs') : K 79 [some (.ref b), some (.ref a), some (.ref (m 0)), some (.int (nI t)), some (.int z4), l5, l6, l7, l8, l9, l10, l11, l12, l13, l14, l15, l16, l17, l18, l19, l20, l21, l22, l23, l24, l25] [] h bc bs := by
  have V := I.1
  have I1 : InvC (hrS S) (i + 1) := by
    have := iPass (t := nI 1) I
    rw [fPass_n] at this
    exact this
  refine l_was hK I W_0 (by omega) (by omega) (fun h1 q6 q7 l8 l9 bc1 bs1 W_1 R6_1 A7_1 B6 o7 u1 u2 => ?_)
  refine l_val hK I W_1 R6_1 A7_1 B6 o7 (by omega) (by omega) (fun h2 q8 l9 l10 bc2 bs2 W_2 R6_2 A7_2 R8_2 B8 u3 u4 => ?_)
  have V1 := hrS_V V
  have eP := fPass_n S
  have e0 : fForesee S (nI 1) (nI 0) = (vI (nI (pasH S 1)), S) := fForesee_n S (w := 0) (by omega)
  have e1 : fForesee S (nI 1) (nI 1) = (vI (iPop ((hrS S).1 1)), S) := fForesee_n S (w := 1) (by omega)
  have e2 : fForesee S (nI 1) (nI 2) = (vI (iPop ((hrS S).1 7)), S) := fForesee_n S (w := 2) (by omega)
  have e3 : fForesee S (nI 1) (nI 3) = (vI (nI (cntG (fun g => decide ((hrS S).2.2.1 g 0 = (hrS S).2.2.1 g 2)) S.2.2.2.1)), S) := fForesee_n S (w := 3) (by omega)
  have hs : sumT (hrS S).2.2.1 6 (hrS S).2.2.2.1 = sumT S.2.2.1 6 S.2.2.2.1 + pasH S 1 := sum_pas S 1
  have k5 : (hrS S).1 5 = S.1 5 := hr_k S (by decide) (by decide)
  have k6 : (hrS S).1 6 = S.1 6 := hr_k S (by decide) (by decide)
  have hh : (hrS S).2.2.2.2 = S.2.2.2.2 + 1 := rfl
  have hg : (hrS S).2.2.2.1 = S.2.2.2.1 := rfl
  have fd : ∀ k, k < S.2.2.2.1 → dis ((hrS S).2.2.1 k 0) (S.2.2.1 k 0) ≤ S.2.2.1 k 1 := fun k hk => hr_dis V hk
  have fg : ∀ k, (hrS S).2.2.1 k 2 = S.2.2.1 k 2 := fun k => hr_gol
  have fp : ∀ k, (hrS S).2.2.1 k 1 = S.2.2.1 k 1 := fun k => hr_pac
  have fm : ∀ k, (hrS S).2.2.1 k 3 ≤ S.2.2.1 k 3 := fun k => hr_may
  have f5 : ∀ k, k < S.2.2.2.1 → (hrS S).2.2.1 k 5 = S.2.2.1 k 5 + (lb ((hrS S).1 7) ((hrS S).2.2.1 k 0)).toNat ∧ (hrS S).2.2.1 k 4 = S.2.2.1 k 4 + (hx (hrS S) k).toNat := fun k hk => hr_45 hk
  have fh : ∀ k, S.2.2.1 k 0 = S.2.2.1 k 2 → (hrS S).2.2.1 k 0 = S.2.2.1 k 0 := fun k e => hr_hom e
  have ft : ∀ c, thg (hrS S).1 c = thg S.1 c := fun c => hr_thg c
  have fb : ∀ c, c < 63 → lb ((hrS S).1 1) c = true → lb (S.1 1) c = true := fun c hc e => hr_bur hc e
  have fw : ∀ c, c < 63 → thg S.1 c = 1 → (hrS S).2.1 c = S.2.1 c - b01 (lb (S.1 1) c) := fun c hc e => hr_wax V hc e
  have fz : ∀ c, c < 63 → ¬ thg S.1 c = 1 → ¬ thg S.1 c = 4 → (hrS S).2.1 c = 0 := fun c hc e e' => hr_zer V hc e e'
  have fT : ∀ c, thg S.1 c = 4 → (hrS S).2.1 c = itM (S.2.1 c) (cntG (fun k => decide ((hrS S).2.2.1 k 0 = c) && hx (hrS S) k) S.2.2.2.1) := fun c e => hr_tal V e
  have fl : ∀ c, c < 63 → lb ((hrS S).1 1) c = true → lb ((hrS S).1 7) c = true := fun c hc e => hr_lit V hc e
  have f0 : ∀ c, lb ((hrS S).1 1) c = true → ¬ (hrS S).2.1 c = 0 := fun c e => hr_wx0 V e
  generalize pasH S 1 = p1 at eP e0 hs
  obtain ⟨S1, eS⟩ : ∃ S1, hrS S = S1 := ⟨_, rfl⟩
  rw [eS] at I1 V1 eP e1 e2 e3 hs k5 k6 hh hg fd fg fp fm f5 fh ft fb fw fz fT fl f0 next
  have eb : iPop (S1.1 1) = nI (cntG (lb (S1.1 1)) 63) := pop63 (SB_of V1.2.2.1 (by omega))
  have el : iPop (S1.1 7) = nI (cntG (lb (S1.1 7)) 63) := by
    rw [V1.2.2.2]
    exact pop63 (relit_SBs 63 (by omega))
  have fn : cntG (lb (S1.1 1)) 63 = 0 → cntG (lb (S1.1 7)) 63 = 0 := fun z => by
    rw [V1.2.2.2]
    exact cnt_n 63 (fun c _ => relit_no (fun c hc => cnt_z z c hc) c)
  have fle : cntG (lb (S1.1 1)) 63 ≤ cntG (lb (S1.1 7)) 63 := cnt_mono 63 (fun c hc e => fl c hc e)
  refine l_pass hK I V1 eS hg eP e0 e1 e2 e3 hs k5 k6 hh W_2 R6_2 A7_2 R8_2 B6 o7 B8 (by omega) (by omega) (fun h3 bc3 bs3 W_3 R6_3 A7_3 R8_3 u5 u6 => ?_)
  rw [eb, el]
  refine l_ghosts hK I V1 hg fd fg fp fm f5 fh W_3 R6_3 A7_3 R8_3 B6 o7 B8 (by omega) (by omega) (fun h4 q16 l18 l19 l20 l21 l22 l23 l24 l25 bc4 bs4 W_4 R8_4 H_4 o16 u7 u8 => ?_)
  refine l_cells hK I V1 hg ft fb fw fz fT fl f0 fn fle B8 o16 W_4 R8_4 H_4 (by omega) (by omega) (fun h5 l5 l6 l7 l8 l9 l10 l11 l12 l13 l14 l15 l16 l17 l18 l19 l20 l21 l22 l23 l24 l25 bc5 bs5 W_5 u9 u10 => ?_)
  exact next h5 _ _ _ _ _ _ _ _ _ _ _ _ _ _ _ _ _ _ _ _ _ _ _ I1 W_5 (by omega) (by omega)
set_option maxHeartbeats 1000000 in
set_option maxRecDepth 10000 in
theorem l_loop {K : gK} (hK : gClosed (gSafe 10) mL_law 11 lwPost lwX (fun _ => none) K) {a b L s0 : Nat} {xs : Nat → Int32} {n n' : Nat → Nat} (hL : L ≤ 1000) : ∀ j t, t + j = 16 → ∀ h m S i l4 l5 l6 l7 l8 l9 l10 l11 l12 l13 l14 l15 l16 l17 l18 l19 l20 l21 l22 l23 l24 l25 bc bs, m 0 = s0 → InvC S i → LW h a b L xs n n' m S S → 5000 * j + 4000 ≤ bc → 30000 * j + 30000 ≤ bs → K 22 [some (.ref b), some (.ref a), some (.ref s0), some (.int (nI t)), l4, l5, l6, l7, l8, l9, l10, l11, l12, l13, l14, l15, l16, l17, l18, l19, l20, l21, l22, l23, l24, l25] [] h bc bs := by
  intro j
  induction j with
  | zero =>
    intro t ht h m S i l4 l5 l6 l7 l8 l9 l10 l11 l12 l13 l14 l15 l16 l17 l18 l19 l20 l21 l22 l23 l24 l25 bc bs e0 I W hbc hbs
    obtain rfl : t = 16 := by omega
    have M0 := W.2.1.c0
    refine s_iload_n hK dL_law_22 rfl ?_
    refine s_bipush hK (v := 16) dL_law_23 (by decide) ?_
    refine s_icmpge hK dL_law_25 1160 (by decide) (fun c_25 => ?_) (fun c_25 => ?_)
    · refine s_aload_n hK dL_law_1160 rfl ?_
      refine s_aload_n hK dL_law_1161 rfl ?_
      rw [← e0]
      refine s_V1 hK (mc := 4000) (ms := 30000) dL_law_1162 kV_L_162 (by assumption) (by rfl) (by omega) (by omega) ?_
      refine c_isSame _ I W.1 W.2.1 W.2.2.1 (by omega) (by omega) (fun h' => ?_)
      refine s_ireturn hK dL_law_1165 rfl (by first | rfl | exact b01_nar _) ?_
      rfl
    · exact absurd (Int32.le_refl (nI 16)) c_25
  | succ j ih =>
    intro t ht h m S i l4 l5 l6 l7 l8 l9 l10 l11 l12 l13 l14 l15 l16 l17 l18 l19 l20 l21 l22 l23 l24 l25 bc bs e0 I W hbc hbs
    refine s_iload_n hK dL_law_22 rfl ?_
    refine s_bipush hK (v := 16) dL_law_23 (by decide) ?_
    refine s_icmpge hK dL_law_25 1160 (by decide) (fun c_25 => ?_) (fun c_25 => ?_)
    · exact absurd c_25 (nI_ge (b := 16) (by omega) (by omega))
    · refine s_aload_n hK dL_law_28 rfl ?_
      refine s_iload_n hK dL_law_29 rfl ?_
      refine s_S20 hK dL_law_30 kS_L_118 (by rfl) ?_
      refine c_lcell _ (by omega) hL W.2.2.2.1 (fun v => ?_)
      refine s_sipush hK (v := 139) dL_law_33 (by decide) ?_
      refine s_iload_n hK dL_law_36 rfl ?_
      refine s_imul hK dL_law_37 ?_
      refine s_iadd hK dL_law_38 ?_
      generalize v + 139 * nI t = z4
      refine s_istore hK dL_law_39 rfl ?_
      refine s_iconst hK (v := 0) dL_law_41 (by decide) ?_
      refine s_istore hK dL_law_42 rfl ?_
      have acts : ∀ jj k, k + jj = 2 → ∀ h m S i l6 l7 l8 l9 l10 l11 l12 l13 l14 l15 l16 l17 l18 l19 l20 l21 l22 l23 l24 l25 bc' bs', m 0 = s0 → InvC S i → LW h a b L xs n n' m S S → bc ≤ bc' + 60 * k → bs ≤ bs' + 400 * k → K 44 [some (.ref b), some (.ref a), some (.ref s0), some (.int (nI t)), some (.int z4), some (.int (nI k)), l6, l7, l8, l9, l10, l11, l12, l13, l14, l15, l16, l17, l18, l19, l20, l21, l22, l23, l24, l25] [] h bc' bs' := by
        intro jj
        induction jj with
        | zero =>
          intro k hk h m S i l6 l7 l8 l9 l10 l11 l12 l13 l14 l15 l16 l17 l18 l19 l20 l21 l22 l23 l24 l25 bc' bs' e0 I W u1 u2
          obtain rfl : k = 2 := by omega
          refine s_iload hK dL_law_44 rfl ?_
          refine s_iconst hK (v := 2) dL_law_46 (by decide) ?_
          refine s_icmpge hK dL_law_47 79 (by decide) (fun c_47 => ?_) (fun c_47 => ?_)
          · rw [← e0]
            refine l_hour hK I W (by omega) (by omega) (fun h' l5 l6 l7 l8 l9 l10 l11 l12 l13 l14 l15 l16 l17 l18 l19 l20 l21 l22 l23 l24 l25 bc2 bs2 I' W' u3 u4 => ?_)
            refine s_iinck hK (v := 1) dL_law_1154 rfl (by decide) rfl ?_
            refine s_goto hK dL_law_1157 22 (by decide) ?_
            rw [nI_1, e0]
            exact ih (t + 1) (by omega) h' m (hrS S) (i + 1) _ _ _ _ _ _ _ _ _ _ _ _ _ _ _ _ _ _ _ _ _ _ _ _ e0 I' W' (by omega) (by omega)
          · exact absurd (Int32.le_refl (nI 2)) c_47
        | succ jj ihj =>
          intro k hk h m S i l6 l7 l8 l9 l10 l11 l12 l13 l14 l15 l16 l17 l18 l19 l20 l21 l22 l23 l24 l25 bc' bs' e0 I W u1 u2
          refine s_iload hK dL_law_44 rfl ?_
          refine s_iconst hK (v := 2) dL_law_46 (by decide) ?_
          refine s_icmpge hK dL_law_47 79 (by decide) (fun c_47 => ?_) (fun c_47 => ?_)
          · exact absurd c_47 (nI_ge (b := 2) (by omega) (by omega))
          · refine s_aload_n hK dL_law_50 rfl ?_
            refine s_aload_n hK dL_law_51 rfl ?_
            refine s_iload hK dL_law_52 rfl ?_
            refine s_iconst hK (v := 2) dL_law_54 (by decide) ?_
            refine s_iload hK dL_law_55 rfl ?_
            refine s_imul hK dL_law_57 ?_
            refine s_ishr hK dL_law_58 ?_
            refine s_bipush hK (v := 73) dL_law_59 (by decide) ?_
            refine s_iload hK dL_law_61 rfl ?_
            refine s_imul hK dL_law_63 ?_
            refine s_iadd hK dL_law_64 ?_
            rw [← e0]
            refine s_S3 hK (mc := 60) (ms := 400) dL_law_65 kS_L_122 (by rfl) (by omega) (by omega) ?_
            refine c_act _ I W.1 W.2.1 W.2.2.1 (by omega) (by omega) (fun h2 m2 S2 e2 I2 C2 M2 D2 kp => ?_)
            obtain ⟨k1, k2⟩ := kp b (by rw [W.2.2.2.1]; exact fun z => nomatch z) W.2.2.2.2.1 W.2.2.2.2.2
            refine s_ifne hK dL_law_68 73 (by decide) (fun c_68 => ?_) (fun c_68 => ?_)
            · refine s_iinck hK (v := 1) dL_law_73 rfl (by decide) rfl ?_
              refine s_goto hK dL_law_76 44 (by decide) ?_
              rw [nI_1, e0]
              exact ihj (k + 1) (by omega) h2 m2 S2 (i + 1) _ _ _ _ _ _ _ _ _ _ _ _ _ _ _ _ _ _ _ _ _ _ (e2.trans e0) I2 ⟨C2, M2, D2, k1.trans W.2.2.2.1, W.2.2.2.2.1, k2⟩ (by omega) (by omega)
            · exact absurd c_68 (by decide)
      exact acts 2 0 (by omega) h m S i _ _ _ _ _ _ _ _ _ _ _ _ _ _ _ _ _ _ _ _ _ _ e0 I W (by omega) (by omega)
set_option maxRecDepth 10000 in
theorem l_start {K : gK} (hK : gClosed (gSafe 10) mL_law 11 lwPost lwX (fun _ => none) K) {b L : Nat} {xs : Nat → Int32} (hL : L ≤ 260) {bc bs : Nat} (hbc : 100000 ≤ bc) (hbs : 700000 ≤ bs) : K 0 [some (.ref b), none, none, none, none, none, none, none, none, none, none, none, none, none, none, none, none, none, none, none, none, none, none, none, none, none] [] (fun q => if q = b then some (.inl (7, L, .inl xs)) else none) bc bs := by
  have hb0 : (fun q => if q = b then some (.inl (7, L, .inl xs)) else none : gH) b = some (.inl (7, L, .inl xs)) := if_pos rfl
  generalize (fun q => if q = b then some (.inl (7, L, .inl xs)) else none : gH) = h0 at hb0 ⊢
  refine s_new hK (ci := 4) dL_law_0 rfl kN_L_41 kMk_X5 gB_X5 (by omega) (by omega) (fun a A => ?_)
  refine s_dup hK dL_law_3 rfl ?_
  refine s_I0 hK (mc := 14) (ms := 264) dL_law_4 kI_L_126 (by rfl) (by omega) (by omega) ?_
  refine c_clsInit _ (gU_eq _ _ _) (by omega) (by omega) (fun h1 n n' C1 N1 F1 => ?_)
  have ba : b ≠ a := fun z => by rw [← z, hb0] at A; cases A
  have hb1 : h1 b = some (.inl (7, L, .inl xs)) := by
    have e : gU h0 a (.inr (4, [.null, .null])) b = some (.inl (7, L, .inl xs)) := (gU_ne ba).trans hb0
    rw [F1 b (by simpa using ba) (by rw [e]; exact fun z => nomatch z), e]
  have ob : oC a n n' b := by
    refine ⟨ba, fun i hi => ⟨fun z => ?_, fun z => ?_⟩⟩
    · have := (N1 i hi).1
      rw [← z, gU_ne ba, hb0] at this
      cases this
    · have := (N1 i hi).2
      rw [← z, gU_ne ba, hb0] at this
      cases this
  refine s_astore_n hK dL_law_7 rfl ?_
  refine s_aload_n hK dL_law_8 rfl ?_
  refine s_aload_n hK dL_law_9 rfl ?_
  refine s_S2 hK (mc := 3800) (ms := 25000) dL_law_10 kS_L_127 (by rfl) (by omega) (by omega) ?_
  refine c_build _ (by omega) C1 hb1 ob (by omega) (by omega) (fun h2 m S I2 C2 M2 D2 hb2 sb2 => ?_)
  refine s_astore_n hK dL_law_13 rfl ?_
  refine s_aload_n hK dL_law_14 rfl ?_
  refine s_ifnonnull hK dL_law_15 20 (by decide) ?_
  refine s_iconst hK (v := 0) dL_law_20 (by decide) ?_
  refine s_istore_n hK dL_law_21 rfl ?_
  exact l_loop hK (by omega) 16 0 (by omega) h2 m S 60 _ _ _ _ _ _ _ _ _ _ _ _ _ _ _ _ _ _ _ _ _ _ _ _ rfl I2 ⟨C2, M2, D2, hb2, ob, sb2⟩ (by omega) (by omega)
