/-! come of the model -/
theorem RawM.rep {h : gH} {m : Nat → Nat} {thr : Int32} {gc : Nat} {C D : Nat → Nat → Int32} (M : RawM h m thr gc C) {k : Nat} {f' : Nat → Int32} (h1 : 1 ≤ k) (h2 : k < 11) (e : ∀ j, j < mLen k → f' j = D k j) (e2 : ∀ k' j, 1 ≤ k' → k' < 11 → k' ≠ k → j < mLen k' → C k' j = D k' j) : RawM (gU h (m k) (.inl (mT k, mLen k, .inl f'))) m thr gc D := by
  have inj := M.2.2
  refine ⟨?_, fun k' q1 q2 => ?_, inj⟩
  · rw [gU_ne (fun z => by have := inj 0 k (by omega) h2 z; omega)]
    exact M.1
  · by_cases ek : k' = k
    · subst ek
      exact ⟨_, gU_eq _ _ _, e⟩
    · obtain ⟨f2, a, b⟩ := M.2.1 k' q1 q2
      refine ⟨f2, ?_, fun j hj => (b j hj).trans (e2 k' j q1 q2 ek hj)⟩
      rw [gU_ne (fun z => ek (inj k' k q2 h2 z))]
      exact a
def newG (c p j : Nat) : Nat := match j with
  | 0 => c
  | 1 => p
  | 2 => c
  | 3 => 1
  | _ => 0
theorem addG_at {G : Nat → Nat → Nat} {g c p j : Nat} (hz : G g 4 = 0 ∧ G g 5 = 0) (hj : j < 6) : addG G g c p g j = newG c p j := by
  unfold addG
  match j, hj with
  | 0, _ => simp [setG, newG]
  | 1, _ => simp [setG, newG]
  | 2, _ => simp [setG, newG]
  | 3, _ => simp [setG, newG]
  | 4, _ => simp [setG, newG, hz.1]
  | 5, _ => simp [setG, newG, hz.2]
theorem addG_ne {G : Nat → Nat → Nat} {g c p g' j : Nat} (h : g' ≠ g) : addG G g c p g' j = G g' j := by
  unfold addG
  simp [setG, h]
theorem addG_sum {G : Nat → Nat → Nat} {g c p : Nat} (hz : G g 4 = 0 ∧ G g 5 = 0) : sumT (addG G g c p) 6 (g + 1) = sumT G 6 g := by
  have e : ∀ n, sumT (addG G g c p) 6 n = sumT G 6 n := by
    intro n
    unfold addG
    rw [sumT_set (by decide), sumT_set (by decide), sumT_set (by decide), sumT_set (by decide)]
  rw [e]
  show sumT G 6 g + trG G g 6 = _
  have : trG G g 6 = 0 := hz.1
  rw [this, Nat.add_zero]
set_option maxRecDepth 10000 in
theorem c_comeM (d : Nat) {m : Nat → Nat} {thr x y p : Int32} {S : CS} {lt : Nat → Bool} {st rw : Nat → Int32} {h : gH} (M : MdlAt h m thr S lt st rw) (ok : CSok S) (hz : ∀ g, S.2.2.2.1 ≤ g → S.2.2.1 g 4 = 0 ∧ S.2.2.1 g 5 = 0) {mc ms : Nat} (hmc : 1 ≤ mc) (hms : 6 ≤ ms) {Post : Option Value → gH → Prop} {X : String → gH → Prop} (hp : mDone cdA Post m h (fCome S x y p)) : gSafe (d + 3) mX6_come [.ref (m 0), .int x, .int y, .int p] h mc ms Post X := by
  have h6 := ok.1
  unfold fCome at hp
  have M0 := M.own0
  refine ⟨Nat.le_of_ble_eq_true rfl, fun K hK => ?_⟩
  show K 0 [some (.ref (m 0)), some (.int x), some (.int y), some (.int p), none] [] _ _ _
  refine s_aload_n hK dX6_come_0 rfl ?_
  refine s_iconst hK (v := 0) dX6_come_1 (by decide) ?_
  refine s_putfield hK dX6_come_2 kF_X6_41 (by assumption) (by rfl) (by rfl) (by rfl) ?_
  have M1 : MdlAt (gU h (m 0) (.inr (5, (mF m thr S.2.2.2.1).set 0 (.int 0)))) m 0 S lt st rw := RawM.own (thr' := 0) (gc' := S.2.2.2.1) M
  have F1 : gFr (mS m) h (gU h (m 0) (.inr (5, (mF m thr S.2.2.2.1).set 0 (.int 0)))) := gFr.mdl (k := 0) (gFr_U _ _ _) (by omega)
  generalize gU h (m 0) (.inr (5, (mF m thr S.2.2.2.1).set 0 (.int 0))) = h1 at M1 F1
  clear M0
  have M0 := M1.own0
  refine s_iload_n hK dX6_come_5 rfl ?_
  refine s_iload_n hK dX6_come_6 rfl ?_
  refine s_S20 hK dX6_come_7 kS_X6_52 (by rfl) ?_
  refine c_isCell _ ?_
  cases e : okC x y with
  | false =>
    rw [if_neg (by simp [e])] at hp
    refine s_ifne hK dX6_come_10 19 (by decide) (fun c_10 => ?_) (fun c_10 => ?_)
    · exact absurd rfl c_10
    · refine s_aload_n hK dX6_come_13 rfl ?_
      refine s_iconst hK (v := 1) dX6_come_14 (by decide) ?_
      refine s_V10 hK dX6_come_15 kV_X6_62 (by first | assumption | exact H.1 | exact H.2.1) (by rfl) ?_
      refine c_fail _ M1 (fun h2 M2 F2 => ?_)
      refine s_ireturn hK dX6_come_18 rfl (by first | rfl | exact b01_nar _) ?_
      exact hp.exc M2 (F1.tr F2) rfl rfl
  | true =>
    rw [if_pos e] at hp
    obtain ⟨hc, e9⟩ := okC_of e
    refine s_ifne hK dX6_come_10 19 (by decide) (fun c_10 => ?_) (fun c_10 => ?_)
    · refine s_iload_n hK dX6_come_19 rfl ?_
      refine s_iconst hK (v := 1) dX6_come_20 (by decide) ?_
      refine s_iconst hK (v := 3) dX6_come_21 (by decide) ?_
      refine s_S30 hK dX6_come_22 kS_X6_45 (by rfl) ?_
      refine c_isIn _ ?_
      rw [show (decide (¬ p < 1) && decide (p ≤ 3)) = okH p 3 from rfl]
      cases e2 : okH p 3 with
      | false =>
        rw [if_neg (by simp [e2])] at hp
        refine s_ifne hK dX6_come_25 34 (by decide) (fun c_25 => ?_) (fun c_25 => ?_)
        · exact absurd rfl c_25
        · refine s_aload_n hK dX6_come_28 rfl ?_
          refine s_iconst hK (v := 2) dX6_come_29 (by decide) ?_
          refine s_V10 hK dX6_come_30 kV_X6_62 (by first | assumption | exact H.1 | exact H.2.1) (by rfl) ?_
          refine c_fail _ M1 (fun h2 M2 F2 => ?_)
          refine s_ireturn hK dX6_come_33 rfl (by first | rfl | exact b01_nar _) ?_
          exact hp.exc M2 (F1.tr F2) rfl rfl
      | true =>
        rw [if_pos e2] at hp
        obtain ⟨k, hk1, hk3, rfl, ek⟩ := okH_ex (by omega) e2
        rw [ek] at hp
        refine s_ifne hK dX6_come_25 34 (by decide) (fun c_25 => ?_) (fun c_25 => ?_)
        · refine s_aload_n hK dX6_come_34 rfl ?_
          refine s_getfield hK dX6_come_35 kF_X6_49 (by first | assumption | exact H.1 | exact H.2.1) (by rfl) ?_
          refine s_bipush hK (v := 6) dX6_come_38 (by decide) ?_
          refine s_icmpne hK dX6_come_40 49 (by decide) (fun c_40 => ?_) (fun c_40 => ?_)
          · have q : S.2.2.2.1 < 6 := by
              have : ¬ S.2.2.2.1 = 6 := fun z => c_40 (by rw [z]; rfl)
              omega
            rw [if_pos q] at hp
            refine s_bipush hK (v := 6) dX6_come_49 (by decide) ?_
            refine s_newarray hK (N := 6) dX6_come_51 rfl (by first | decide | exact nI_pos (by omega)) (by first | rfl | exact nI_clamp (by omega)) (by omega) (by omega) (by omega) (fun q Q => ?_)
            have A : ∀ o, MdlAt (gU h1 q o) m 0 S lt st rw := M_al M1 Q
            have A0 : ∀ o, gU h1 q o (m 0) = _ := fun o => (A o).own0
            have nq : m 6 ≠ q := fun z => by
              obtain ⟨f, r, -⟩ := M1.a6
              rw [z, Q] at r
              cases r
            refine s_dup hK dX6_come_53 rfl ?_
            refine s_iconst hK (v := 0) dX6_come_54 (by decide) ?_
            refine s_bipush hK (v := 9) dX6_come_55 (by decide) ?_
            refine s_iload_n hK dX6_come_57 rfl ?_
            refine s_imul hK dX6_come_58 ?_
            refine s_iload_n hK dX6_come_59 rfl ?_
            refine s_iadd hK dX6_come_60 ?_
            rw [e9]
            refine s_iastoreN hK (j := 0) dX6_come_61 (gU_eq _ _ _) (by omega) (by omega) ?_
            rw [gU_gU]
            refine s_dup hK dX6_come_62 rfl ?_
            refine s_iconst hK (v := 1) dX6_come_63 (by decide) ?_
            refine s_iload_n hK dX6_come_64 rfl ?_
            refine s_iastoreN hK (j := 1) dX6_come_65 (gU_eq _ _ _) (by omega) (by omega) ?_
            rw [gU_gU]
            refine s_dup hK dX6_come_66 rfl ?_
            refine s_iconst hK (v := 2) dX6_come_67 (by decide) ?_
            refine s_bipush hK (v := 9) dX6_come_68 (by decide) ?_
            refine s_iload_n hK dX6_come_70 rfl ?_
            refine s_imul hK dX6_come_71 ?_
            refine s_iload_n hK dX6_come_72 rfl ?_
            refine s_iadd hK dX6_come_73 ?_
            rw [e9]
            refine s_iastoreN hK (j := 2) dX6_come_74 (gU_eq _ _ _) (by omega) (by omega) ?_
            rw [gU_gU]
            refine s_dup hK dX6_come_75 rfl ?_
            refine s_iconst hK (v := 3) dX6_come_76 (by decide) ?_
            refine s_iconst hK (v := 1) dX6_come_77 (by decide) ?_
            refine s_iastoreN hK (j := 3) dX6_come_78 (gU_eq _ _ _) (by omega) (by omega) ?_
            rw [gU_gU]
            refine s_dup hK dX6_come_79 rfl ?_
            refine s_iconst hK (v := 4) dX6_come_80 (by decide) ?_
            refine s_iconst hK (v := 0) dX6_come_81 (by decide) ?_
            refine s_iastoreN hK (j := 4) dX6_come_82 (gU_eq _ _ _) (by omega) (by omega) ?_
            rw [gU_gU]
            refine s_dup hK dX6_come_83 rfl ?_
            refine s_iconst hK (v := 5) dX6_come_84 (by decide) ?_
            refine s_iconst hK (v := 0) dX6_come_85 (by decide) ?_
            refine s_iastoreN hK (j := 5) dX6_come_86 (gU_eq _ _ _) (by omega) (by omega) ?_
            rw [gU_gU]
            obtain ⟨fS, hfS⟩ : ∃ f : Nat → Int32, f = upd (upd (upd (upd (upd (upd (fun _ => 0) 0 (nI (cellI x y))) 1 (nI k)) 2 (nI (cellI x y))) 3 1) 4 0) 5 0 := ⟨_, rfl⟩
            have fj : ∀ j, j < 6 → fS j = nI (newG (cellI x y) k j) := by
              intro j hj
              rw [hfS]
              match j, hj with
              | 0, _ => rfl
              | 1, _ => rfl
              | 2, _ => rfl
              | 3, _ => rfl
              | 4, _ => rfl
              | 5, _ => rfl
            rw [← hfS]
            have M2 := A (.inl (0, 6, .inl fS))
            have eq2 : gU h1 q (.inl (0, 6, .inl fS)) q = _ := gU_eq _ _ _
            have G2 : gNw (mS m) h (gU h1 q (.inl (0, 6, .inl fS))) := gNw.al F1.nw Q _
            generalize gU h1 q (.inl (0, 6, .inl fS)) = h2 at M2 eq2 G2
            clear A A0 M0
            have M0 := M2.own0
            obtain ⟨f6, e6, k6⟩ := M2.a6
            refine s_astore hK dX6_come_87 rfl ?_
            refine s_aload hK dX6_come_89 rfl ?_
            refine s_iconst hK (v := 0) dX6_come_91 (by decide) ?_
            refine s_aload_n hK dX6_come_92 rfl ?_
            refine s_getfield hK dX6_come_93 kF_X6_26 (by first | assumption | exact H.1 | exact H.2.1) (by rfl) ?_
            refine s_bipush hK (v := 6) dX6_come_96 (by decide) ?_
            refine s_aload_n hK dX6_come_98 rfl ?_
            refine s_getfield hK dX6_come_99 kF_X6_49 (by first | assumption | exact H.1 | exact H.2.1) (by rfl) ?_
            refine s_imul hK dX6_come_102 ?_
            rw [show (6 : Int32) = nI 6 from rfl, pk_mul]
            refine s_bipush hK (v := 6) dX6_come_103 (by decide) ?_
            have c0 : (0 : Int32).toNatClampNeg = 0 := by decide
            have c6 : (6 : Int32).toNatClampNeg = 6 := by decide
            refine s_copy hK dX6_come_105 kCpy eq2 e6 (by decide) (nI_pos (by omega)) (nI_pos (n := 6) (by omega)) (by rw [c0, c6]; omega) (by rw [nI_clamp (by omega), c6]; omega) (by omega) (by rfl) ?_
            rw [nI_clamp (show 6 * S.2.2.2.1 < 2 ^ 31 by omega), c6, c0]
            have R3 : RawM (gU h2 (m 6) (.inl (0, 36, .inl (va_cpy fS f6 0 (6 * S.2.2.2.1) 6)))) m 0 S.2.2.2.1 (mC (S.1, S.2.1, addG S.2.2.1 S.2.2.2.1 (cellI x y) k, S.2.2.2.1 + 1, S.2.2.2.2) lt st rw) := by
              refine RawM.rep (k := 6) M2 (by omega) (by omega) (fun j hj => ?_) (fun k' j q1 q2 q3 hj => ?_)
              · show va_cpy fS f6 0 (6 * S.2.2.2.1) 6 j = nI (addG S.2.2.1 S.2.2.2.1 (cellI x y) k (j / 6) (j % 6))
                have hj : j < 36 := hj
                by_cases z : 6 * S.2.2.2.1 ≤ j ∧ j < 6 * S.2.2.2.1 + 6
                · rw [pk_cpy_in z.1 z.2, fj _ (by omega), show j / 6 = S.2.2.2.1 by omega, addG_at (hz _ (Nat.le_refl _)) (by omega), show 0 + (j - 6 * S.2.2.2.1) = j % 6 by omega]
                · rw [pk_cpy_out (by omega), k6 j hj, addG_ne (by omega)]
              · rcases (show k' = 1 ∨ k' = 2 ∨ k' = 3 ∨ k' = 4 ∨ k' = 5 ∨ k' = 7 ∨ k' = 8 ∨ k' = 9 ∨ k' = 10 by omega) with rfl | rfl | rfl | rfl | rfl | rfl | rfl | rfl | rfl
                · rfl
                · rfl
                · rfl
                · rfl
                · rfl
                · show (if j = 0 then nI S.2.2.2.2 else nI (sumT S.2.2.1 6 S.2.2.2.1)) = if j = 0 then nI S.2.2.2.2 else nI (sumT (addG S.2.2.1 S.2.2.2.1 (cellI x y) k) 6 (S.2.2.2.1 + 1))
                  rw [addG_sum (hz _ (Nat.le_refl _))]
                · rfl
                · rfl
                · rfl
            have G3 : gNw (mS m) h (gU h2 (m 6) (.inl (0, 36, .inl (va_cpy fS f6 0 (6 * S.2.2.2.1) 6)))) := G2.set (mS_in (k := 6) (by omega)) _
            generalize gU h2 (m 6) (.inl (0, 36, .inl (va_cpy fS f6 0 (6 * S.2.2.2.1) 6))) = h3 at R3 G3
            clear M0
            have M0 := R3.1
            refine s_aload_n hK dX6_come_108 rfl ?_
            refine s_dup hK dX6_come_109 rfl ?_
            refine s_getfield hK dX6_come_110 kF_X6_49 (by first | assumption | exact H.1 | exact H.2.1) (by rfl) ?_
            refine s_iconst hK (v := 1) dX6_come_113 (by decide) ?_
            refine s_iadd hK dX6_come_114 ?_
            rw [nI_1]
            refine s_putfield hK dX6_come_115 kF_X6_49 (by assumption) (by rfl) (by rfl) (by rfl) ?_
            have R4 : RawM (gU h3 (m 0) (.inr (5, (mF m 0 S.2.2.2.1).set 6 (.int (nI (S.2.2.2.1 + 1)))))) m 0 (S.2.2.2.1 + 1) (mC (S.1, S.2.1, addG S.2.2.1 S.2.2.2.1 (cellI x y) k, S.2.2.2.1 + 1, S.2.2.2.2) lt st rw) := RawM.own (thr' := 0) (gc' := S.2.2.2.1 + 1) R3
            have G4 : gNw (mS m) h (gU h3 (m 0) (.inr (5, (mF m 0 S.2.2.2.1).set 6 (.int (nI (S.2.2.2.1 + 1)))))) := G3.set (mS_in (k := 0) (by omega)) _
            generalize gU h3 (m 0) (.inr (5, (mF m 0 S.2.2.2.1).set 6 (.int (nI (S.2.2.2.1 + 1))))) = h4 at R4 G4
            clear M0
            have M0 := R4.1
            refine s_aload_n hK dX6_come_118 rfl ?_
            refine s_getfield hK dX6_come_119 kF_X6_49 (by first | assumption | exact H.1 | exact H.2.1) (by rfl) ?_
            refine s_iconst hK (v := 1) dX6_come_122 (by decide) ?_
            refine s_isub hK dX6_come_123 ?_
            rw [nI_pred]
            refine s_ireturn hK dX6_come_124 rfl (by first | rfl | exact b01_nar _) ?_
            exact hp h4 0 _ lt st rw R4 G4 ⟨rfl, rfl⟩
          · have q : S.2.2.2.1 = 6 := (nI_eq (b := 6) (by omega) (by omega)).mp c_40
            rw [if_neg (by omega)] at hp
            refine s_aload_n hK dX6_come_43 rfl ?_
            refine s_iconst hK (v := 3) dX6_come_44 (by decide) ?_
            refine s_V10 hK dX6_come_45 kV_X6_62 (by first | assumption | exact H.1 | exact H.2.1) (by rfl) ?_
            refine c_fail _ M1 (fun h2 M2 F2 => ?_)
            refine s_ireturn hK dX6_come_48 rfl (by first | rfl | exact b01_nar _) ?_
            exact hp.exc M2 (F1.tr F2) rfl rfl
        · exact absurd c_25 (by decide)
    · exact absurd c_10 (by decide)
