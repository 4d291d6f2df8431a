/-! something done to both; the house that cells choose -/
set_option maxRecDepth 10000 in
theorem c_act (d : Nat) {a : Nat} {n n' m : Nat → Nat} {S : CS} {i : Nat} {z : Int32} (I : InvC S i) {h : gH} (C : ClsAt h a n n' S) (M : SimAt h m S) (D : Dj a n n' m (8 + S.2.2.2.1)) {mc ms : Nat} {Post : Option Value → gH → Prop} {X : String → gH → Prop} (hmc : 60 ≤ mc) (hms : 400 ≤ ms) (P : ActP Post h a n n' m S i) : gSafe (d + 8) mL_act [.ref a, .ref (m 0), .int z] h mc ms Post X := by
  have C0 := M.c0
  refine ⟨Nat.le_of_ble_eq_true rfl, fun K hK => ?_⟩
  show K 0 [some (.ref a), some (.ref (m 0)), some (.int z), none, none, none, none, none, none, none, none, none, none, none, none] [] _ _ _
  refine s_iload_n hK dL_act_0 rfl ?_
  refine s_bipush hK (v := nI 9) dL_act_1 (by decide) ?_
  refine s_S20 hK dL_act_3 kS_L_9 (by rfl) ?_
  refine c_belN _ (by omega) (by omega) ?_
  have hx := belN_lt z (n := 9) (by omega)
  generalize belN z 9 = x at hx ⊢
  refine s_istore_n hK dL_act_6 rfl ?_
  refine s_iload_n hK dL_act_7 rfl ?_
  refine s_iconst hK (v := 3) dL_act_8 (by decide) ?_
  refine s_ishr hK dL_act_9 ?_
  refine s_bipush hK (v := nI 7) dL_act_10 (by decide) ?_
  refine s_S20 hK dL_act_12 kS_L_9 (by rfl) ?_
  refine c_belN _ (by omega) (by omega) ?_
  have hy := belN_lt (z >>> (3 &&& 31)) (n := 7) (by omega)
  generalize belN (z >>> (3 &&& 31)) 7 = y at hy ⊢
  obtain ⟨c, hc, rfl, rfl⟩ : ∃ c, c < 63 ∧ x = c % 9 ∧ y = c / 9 := ⟨9 * y + x, by omega, by omega, by omega⟩
  have ec : 9 * (c / 9) + c % 9 = c := by omega
  obtain ⟨fg, g1, -⟩ := M.c5
  have Tc := M.c2
  obtain ⟨ft, t1, t2⟩ := Tc.2 _ hx
  have t3 : ft (c / 9) = nI (thg S.1 (9 * (c / 9) + c % 9)) := t2 _ hy
  rw [ec] at t3
  refine s_istore hK dL_act_15 rfl ?_
  refine s_aload_n hK dL_act_17 rfl ?_
  refine s_getfield hK dL_act_18 kF_L_15 (by assumption) (by rfl) ?_
  refine s_alen hK (v := nI S.2.2.2.1) dL_act_21 g1 rfl rfl ?_
  refine s_istore hK dL_act_22 rfl ?_
  refine s_aload_n hK dL_act_24 rfl ?_
  refine s_getfield hK dL_act_25 kF_L_21 (by assumption) (by rfl) ?_
  refine s_iload_n hK dL_act_28 rfl ?_
  refine s_aaload hK dL_act_29 Tc.1 rfl hx (by omega) (if_pos hx) ?_
  refine s_iload hK dL_act_30 rfl ?_
  refine s_ialoadN hK dL_act_32 t1 hy (by omega) ?_
  rw [t3]
  refine s_istore hK dL_act_33 rfl ?_
  refine s_iload_n hK dL_act_35 rfl ?_
  refine s_bipush hK (v := 9) dL_act_36 (by decide) ?_
  refine s_ishr hK dL_act_38 ?_
  refine s_bipush hK (v := nI 14) dL_act_39 (by decide) ?_
  refine s_S20 hK dL_act_41 kS_L_9 (by rfl) ?_
  refine c_belN _ (by omega) (by omega) ?_
  have hs := belN_lt (z >>> (9 &&& 31)) (n := 14) (by omega)
  generalize belN (z >>> (9 &&& 31)) 14 = s at hs ⊢
  have es : (nI s).toInt = (s : Int) := nI_toInt (by omega)
  refine s_tswitch hK dL_act_44 (fun _ => ⟨792, by decide, a_send d hK I hc C M D P hmc hms⟩) (fun q1 q2 => ?_)
  have h11 : s ≤ 11 := by
    rw [es] at q2
    omega
  clear es q1 q2
  match s, h11 with
  | 0, _ => exact ⟨64, 108, by decide +kernel, by decide, a_wall d hK I hc C M D P hmc hms⟩
  | 1, _ => exact ⟨64, 108, by decide +kernel, by decide, a_wall d hK I hc C M D P hmc hms⟩
  | 2, _ => exact ⟨64, 108, by decide +kernel, by decide, a_wall d hK I hc C M D P hmc hms⟩
  | 3, _ => exact ⟨64, 108, by decide +kernel, by decide, a_wall d hK I hc C M D P hmc hms⟩
  | 4, _ => exact ⟨135, 179, by decide +kernel, by decide, a_candle d hK I hc C M D P hmc hms⟩
  | 5, _ => exact ⟨135, 179, by decide +kernel, by decide, a_candle d hK I hc C M D P hmc hms⟩
  | 6, _ => exact ⟨221, 265, by decide +kernel, by decide, a_mirror d hK I hc C M D P hmc hms⟩
  | 7, _ => exact ⟨307, 351, by decide +kernel, by decide, a_tally d hK I hc C M D P hmc hms⟩
  | 8, _ => exact ⟨355, 399, by decide +kernel, by decide, a_remove d hK I hc C M D P hmc hms⟩
  | 9, _ => exact ⟨420, 464, by decide +kernel, by decide, a_light d hK I hc C M D P hmc hms⟩
  | 10, _ => exact ⟨491, 535, by decide +kernel, by decide, a_come d hK I hc C M D P hmc hms⟩
  | 11, _ => exact ⟨636, 680, by decide +kernel, by decide, a_rite d hK I hc C M D P hmc hms⟩
set_option maxRecDepth 10000 in
theorem c_build (d : Nat) {a b L : Nat} {xs : Nat → Int32} {n n' : Nat → Nat} (hL : L ≤ 1000) {h : gH} (C : ClsAt h a n n' S0) (hb : h b = some (.inl (7, L, .inl xs))) (ob : oC a n n' b) {mc ms : Nat} {Post : Option Value → gH → Prop} {X : String → gH → Prop} (hmc : 3800 ≤ mc) (hms : 25000 ≤ ms) (hp : ∀ h' m S, InvC S 60 → ClsAt h' a n n' S → SimAt h' m S → Dj a n n' m (8 + S.2.2.2.1) → h' b = some (.inl (7, L, .inl xs)) → ¬ sD m (8 + S.2.2.2.1) b → Post (some (.ref (m 0))) h') : gSafe (d + 9) mL_build [.ref a, .ref b] h mc ms Post X := by
  refine ⟨Nat.le_of_ble_eq_true rfl, fun K hK => ?_⟩
  show K 0 [some (.ref a), some (.ref b), none, none] [] _ _ _
  refine s_new hK (ci := 6) dL_build_0 rfl kN_L_16 kMk_X7 gB_X7 (by omega) (by omega) (fun s S => ?_)
  refine s_dup hK dL_build_3 rfl ?_
  refine s_I0 hK (mc := 106) (ms := 792) dL_build_4 kI_L_117 (by rfl) (by omega) (by omega) ?_
  refine c_simInit _ (gU_eq _ _ _) (by omega) (by omega) (fun h1 m m0 M1 F1 t1 => ?_)
  have F0 : gNw [] h (gU h s (.inr (6, [.null, .null, .null, .null, .null, .int 0, .int 0, .null, .null]))) := gNw.new S _
  have F : gNw [] h h1 := fun p hp hn => by
    have e := F0 p hp hn
    rw [F1 p (fun z => by
      rw [List.mem_singleton.mp z] at hn
      exact hn S) (by rw [e]; exact hn), e]
  have fr : ∀ p, sD m 8 p → h p = none := fun p hp => by
    rcases t1 p hp with e | e
    · rw [e]; exact S
    · exact F0.none e (by simp)
  have fr : ∀ p, sD m 8 p → h p = none := fr
  have C1 := C.nw F
  have D1 : Dj a n n' m 8 := fun p hp => C.th (fr p hp)
  have hb1 : h1 b = some (.inl (7, L, .inl xs)) := (F b (by simp) (by rw [hb]; exact fun z => nomatch z)).trans hb
  have sb1 : ¬ sD m 8 b := fun z => by
    have := fr b z
    rw [hb] at this
    cases this
  clear F F0 F1 t1 fr S C hb
  refine s_astore_n hK dL_build_7 rfl ?_
  refine s_iconst hK (v := 0) dL_build_8 (by decide) ?_
  refine s_istore_n hK dL_build_9 rfl ?_
  rw [← m0]
  have loop : ∀ j k, k + j = 60 → ∀ (h1 : gH) m' S bc bs, j * 60 ≤ bc → j * 400 ≤ bs → m' 0 = m 0 → InvC S k → ClsAt h1 a n n' S → SimAt h1 m' S → Dj a n n' m' (8 + S.2.2.2.1) → h1 b = some (.inl (7, L, .inl xs)) → ¬ sD m' (8 + S.2.2.2.1) b → K 10 [some (.ref a), some (.ref b), some (.ref (m 0)), some (.int (nI k))] [] h1 bc bs := by
    intro j
    induction j with
    | zero =>
      intro k hk h1 m' S bc bs hbc hbs e0 I1 C1 M1 D1 hb1 sb1
      obtain rfl : k = 60 := by omega
      refine s_iload_n hK dL_build_10 rfl ?_
      refine s_bipush hK (v := 60) dL_build_11 (by decide) ?_
      refine s_icmpge hK dL_build_13 84 (by decide) (fun c_13 => ?_) (fun c_13 => ?_)
      · refine s_aload_n hK dL_build_84 rfl ?_
        refine s_areturn hK dL_build_85 rfl (Or.inl ⟨_, rfl⟩) ?_
        rw [← e0]
        exact hp h1 m' S I1 C1 M1 D1 hb1 sb1
      · exact absurd (Int32.le_refl (nI 60)) c_13
    | succ j ih =>
      intro k hk h1 m' S bc bs hbc hbs e0 I1 C1 M1 D1 hb1 sb1
      have at69 : ∀ v w : Int32, K 69 [some (.ref a), some (.ref b), some (.ref (m 0)), some (.int (nI k))] [.int v, .int w, .ref (m 0), .ref a] h1 bc bs := by
        intro v w
        refine s_iadd hK dL_build_69 ?_
        rw [← e0]
        refine s_S3 hK (mc := 60) (ms := 400) dL_build_70 kS_L_122 (by rfl) (by omega) (by omega) ?_
        refine c_act _ I1 C1 M1 D1 (by omega) (by omega) (fun h2 m2 S2 e2 I2 C2 M2 D2 kp => ?_)
        obtain ⟨k1, k2⟩ := kp b (by rw [hb1]; exact fun z => nomatch z) ob sb1
        refine s_ifne hK dL_build_73 78 (by decide) (fun c_73 => ?_) (fun c_73 => ?_)
        · refine s_iinck hK (v := 1) dL_build_78 rfl (by decide) rfl ?_
          refine s_goto hK dL_build_81 10 (by decide) ?_
          rw [nI_1, e0]
          exact ih (k + 1) (by omega) h2 m2 S2 _ _ (by omega) (by omega) (e2.trans e0) I2 C2 M2 D2 (k1.trans hb1) k2
        · exact absurd c_73 (by decide)
      have em : nI k - nI k / nI 15 * nI 15 = nI (k % 15) := by
        rw [nI_div (by omega) (by omega), nI_mul, nI_sub (Nat.div_mul_le_self _ _), show k - k / 15 * 15 = k % 15 by omega]
      refine s_iload_n hK dL_build_10 rfl ?_
      refine s_bipush hK (v := 60) dL_build_11 (by decide) ?_
      refine s_icmpge hK dL_build_13 84 (by decide) (fun c_13 => ?_) (fun c_13 => ?_)
      · exact absurd c_13 (nI_ge (b := 60) (by omega) (by omega))
      · refine s_aload_n hK dL_build_16 rfl ?_
        refine s_aload_n hK dL_build_17 rfl ?_
        refine s_aload_n hK dL_build_18 rfl ?_
        refine s_iload_n hK dL_build_19 rfl ?_
        refine s_bipush hK (v := nI 15) dL_build_20 (by decide) ?_
        refine s_irem hK dL_build_22 (by decide) ?_
        rw [em]
        refine s_S20 hK dL_build_23 kS_L_118 (by rfl) ?_
        refine c_lcell _ (by omega) hL hb1 (fun v => ?_)
        refine s_iload_n hK dL_build_26 rfl ?_
        refine s_bipush hK (v := 15) dL_build_27 (by decide) ?_
        refine s_idiv hK dL_build_29 (by decide) ?_
        refine s_iconst hK (v := 3) dL_build_30 (by decide) ?_
        refine s_imul hK dL_build_31 ?_
        refine s_ishr hK dL_build_32 ?_
        refine s_sipush hK (v := 139) dL_build_33 (by decide) ?_
        refine s_iload_n hK dL_build_36 rfl ?_
        refine s_imul hK dL_build_37 ?_
        refine s_iadd hK dL_build_38 ?_
        generalize v >>> _ + _ = w
        have at68 : K 68 [some (.ref a), some (.ref b), some (.ref (m 0)), some (.int (nI k))] [.int w, .ref (m 0), .ref a] h1 bc bs := by
          refine s_iconst hK (v := 0) dL_build_68 (by decide) ?_
          exact at69 _ _
        refine s_iload_n hK dL_build_39 rfl ?_
        refine s_bipush hK (v := 15) dL_build_40 (by decide) ?_
        refine s_irem hK dL_build_42 (by decide) ?_
        refine s_bipush hK (v := 12) dL_build_43 (by decide) ?_
        refine s_icmpge hK dL_build_45 68 (by decide) (fun c_45 => ?_) (fun c_45 => ?_)
        · exact at68
        · refine s_iload_n hK dL_build_48 rfl ?_
          refine s_bipush hK (v := 14) dL_build_49 (by decide) ?_
          refine s_icmple hK dL_build_51 68 (by decide) (fun c_51 => ?_) (fun c_51 => ?_)
          · exact at68
          · refine s_iload_n hK dL_build_54 rfl ?_
            refine s_bipush hK (v := 30) dL_build_55 (by decide) ?_
            refine s_icmpge hK dL_build_57 68 (by decide) (fun c_57 => ?_) (fun c_57 => ?_)
            · exact at68
            · refine s_sipush hK (v := 512) dL_build_60 (by decide) ?_
              refine s_iload_n hK dL_build_63 rfl ?_
              refine s_imul hK dL_build_64 ?_
              refine s_goto hK dL_build_65 69 (by decide) ?_
              exact at69 _ _
  exact loop 60 0 (by omega) h1 m S0 _ _ (by omega) (by omega) rfl InvC_0 C1 M1 D1 hb1 sb1
