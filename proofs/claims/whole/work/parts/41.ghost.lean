/-! what the model tells of a ghost -/
theorem M_al {h : gH} {m : Nat → Nat} {thr : Int32} {S : CS} {lt : Nat → Bool} {st rw : Nat → Int32} (M : MdlAt h m thr S lt st rw) {q : Nat} (hq : h q = none) (o : gO) : MdlAt (gU h q o) m thr S lt st rw := RawM.keep M (fun k hk => by
  refine gU_ne (fun z => ?_)
  by_cases e : k = 0
  · have r := M.1
    rw [← e, z, hq] at r
    cases r
  · obtain ⟨f, r, -⟩ := M.2.1 k (by omega) hk
    rw [z, hq] at r
    cases r)
set_option maxRecDepth 10000 in
theorem c_ghostTold (d : Nat) {m : Nat → Nat} {thr : Int32} {S : CS} {lt : Nat → Bool} {st rw : Nat → Int32} {g k : Nat} (hg : g < 6) (hk : k < 8) (ok : CSok S) {h : gH} (M : MdlAt h m thr S lt st rw) {mc ms : Nat} (hmc : 1 ≤ mc) (hms : 8 ≤ ms) {Post : Option Value → gH → Prop} {X : String → gH → Prop} (hp : ∀ h', MdlAt h' m thr S lt st rw → gNw [] h h' → Post (some (.int (nI (trG S.2.2.1 g k)))) h') : gSafe (d + 2) mX6_ghostTold [.ref (m 0), .int (nI g), .int (nI k)] h mc ms Post X := by
  have M0 := M.own0
  have hG := ok.2 g hg
  refine ⟨Nat.le_of_ble_eq_true rfl, fun K hK => ?_⟩
  show K 0 [some (.ref (m 0)), some (.int (nI g)), some (.int (nI k)), none, none, none] [] _ _ _
  refine s_aload_n hK dX6_ghostTold_0 rfl ?_
  refine s_iload_n hK dX6_ghostTold_1 rfl ?_
  refine s_iconst hK (v := 0) dX6_ghostTold_2 (by decide) ?_
  refine s_V20 hK dX6_ghostTold_3 kV_X6_95 (by first | assumption | exact H.1 | exact H.2.1) (by rfl) ?_
  refine c_sp (k := 0) _ hg (by omega) M ?_
  refine s_istore_n hK dX6_ghostTold_6 rfl ?_
  refine s_aload_n hK dX6_ghostTold_7 rfl ?_
  refine s_iload_n hK dX6_ghostTold_8 rfl ?_
  refine s_iconst hK (v := 2) dX6_ghostTold_9 (by decide) ?_
  refine s_V20 hK dX6_ghostTold_10 kV_X6_95 (by first | assumption | exact H.1 | exact H.2.1) (by rfl) ?_
  refine c_sp (k := 2) _ hg (by omega) M ?_
  refine s_istore hK dX6_ghostTold_13 rfl ?_
  refine s_bipush hK (v := 8) dX6_ghostTold_15 (by decide) ?_
  refine s_newarray hK (N := 8) dX6_ghostTold_17 rfl (by first | decide | exact nI_pos (by omega)) (by first | rfl | exact nI_clamp (by omega)) (by omega) (by omega) (by omega) (fun q Q => ?_)
  have A : ∀ o, MdlAt (gU h q o) m thr S lt st rw := M_al M Q
  have A0 : ∀ o, gU h q o (m 0) = _ := fun o => (A o).own0
  refine s_dup hK dX6_ghostTold_19 rfl ?_
  refine s_iconst hK (v := 0) dX6_ghostTold_20 (by decide) ?_
  refine s_iload_n hK dX6_ghostTold_21 rfl ?_
  refine s_bipush hK (v := 9) dX6_ghostTold_22 (by decide) ?_
  refine s_irem hK dX6_ghostTold_24 (by decide) ?_
  refine s_iastoreN hK (j := 0) dX6_ghostTold_25 (gU_eq _ _ _) (by omega) (by omega) ?_
  rw [gU_gU]
  refine s_dup hK dX6_ghostTold_26 rfl ?_
  refine s_iconst hK (v := 1) dX6_ghostTold_27 (by decide) ?_
  refine s_iload_n hK dX6_ghostTold_28 rfl ?_
  refine s_bipush hK (v := 9) dX6_ghostTold_29 (by decide) ?_
  refine s_idiv hK dX6_ghostTold_31 (by decide) ?_
  refine s_iastoreN hK (j := 1) dX6_ghostTold_32 (gU_eq _ _ _) (by omega) (by omega) ?_
  rw [gU_gU]
  refine s_dup hK dX6_ghostTold_33 rfl ?_
  refine s_iconst hK (v := 2) dX6_ghostTold_34 (by decide) ?_
  refine s_aload_n hK dX6_ghostTold_35 rfl ?_
  refine s_iload_n hK dX6_ghostTold_36 rfl ?_
  refine s_iconst hK (v := 1) dX6_ghostTold_37 (by decide) ?_
  refine s_V20 hK dX6_ghostTold_38 kV_X6_95 (A0 _) (by rfl) ?_
  refine c_sp (k := 1) _ hg (by omega) (A _) ?_
  refine s_iastoreN hK (j := 2) dX6_ghostTold_41 (gU_eq _ _ _) (by omega) (by omega) ?_
  rw [gU_gU]
  refine s_dup hK dX6_ghostTold_42 rfl ?_
  refine s_iconst hK (v := 3) dX6_ghostTold_43 (by decide) ?_
  refine s_iload hK dX6_ghostTold_44 rfl ?_
  refine s_bipush hK (v := 9) dX6_ghostTold_46 (by decide) ?_
  refine s_irem hK dX6_ghostTold_48 (by decide) ?_
  refine s_iastoreN hK (j := 3) dX6_ghostTold_49 (gU_eq _ _ _) (by omega) (by omega) ?_
  rw [gU_gU]
  refine s_dup hK dX6_ghostTold_50 rfl ?_
  refine s_iconst hK (v := 4) dX6_ghostTold_51 (by decide) ?_
  refine s_iload hK dX6_ghostTold_52 rfl ?_
  refine s_bipush hK (v := 9) dX6_ghostTold_54 (by decide) ?_
  refine s_idiv hK dX6_ghostTold_56 (by decide) ?_
  refine s_iastoreN hK (j := 4) dX6_ghostTold_57 (gU_eq _ _ _) (by omega) (by omega) ?_
  rw [gU_gU]
  refine s_dup hK dX6_ghostTold_58 rfl ?_
  refine s_iconst hK (v := 5) dX6_ghostTold_59 (by decide) ?_
  refine s_aload_n hK dX6_ghostTold_60 rfl ?_
  refine s_iload_n hK dX6_ghostTold_61 rfl ?_
  refine s_iconst hK (v := 3) dX6_ghostTold_62 (by decide) ?_
  refine s_V20 hK dX6_ghostTold_63 kV_X6_95 (A0 _) (by rfl) ?_
  refine c_sp (k := 3) _ hg (by omega) (A _) ?_
  refine s_iastoreN hK (j := 5) dX6_ghostTold_66 (gU_eq _ _ _) (by omega) (by omega) ?_
  rw [gU_gU]
  refine s_dup hK dX6_ghostTold_67 rfl ?_
  refine s_bipush hK (v := 6) dX6_ghostTold_68 (by decide) ?_
  refine s_aload_n hK dX6_ghostTold_70 rfl ?_
  refine s_iload_n hK dX6_ghostTold_71 rfl ?_
  refine s_iconst hK (v := 4) dX6_ghostTold_72 (by decide) ?_
  refine s_V20 hK dX6_ghostTold_73 kV_X6_95 (A0 _) (by rfl) ?_
  refine c_sp (k := 4) _ hg (by omega) (A _) ?_
  refine s_iastoreN hK (j := 6) dX6_ghostTold_76 (gU_eq _ _ _) (by omega) (by omega) ?_
  rw [gU_gU]
  refine s_dup hK dX6_ghostTold_77 rfl ?_
  refine s_bipush hK (v := 7) dX6_ghostTold_78 (by decide) ?_
  refine s_aload_n hK dX6_ghostTold_80 rfl ?_
  refine s_iload_n hK dX6_ghostTold_81 rfl ?_
  refine s_iconst hK (v := 5) dX6_ghostTold_82 (by decide) ?_
  refine s_V20 hK dX6_ghostTold_83 kV_X6_95 (A0 _) (by rfl) ?_
  refine c_sp (k := 5) _ hg (by omega) (A _) ?_
  refine s_iastoreN hK (j := 7) dX6_ghostTold_86 (gU_eq _ _ _) (by omega) (by omega) ?_
  rw [gU_gU]
  refine s_astore hK dX6_ghostTold_87 rfl ?_
  refine s_aload hK dX6_ghostTold_89 rfl ?_
  refine s_iload_n hK dX6_ghostTold_91 rfl ?_
  refine s_ialoadN hK (j := k) dX6_ghostTold_92 (gU_eq _ _ _) hk (by omega) ?_
  refine s_ireturn hK dX6_ghostTold_93 rfl (by first | rfl | exact b01_nar _) ?_
  have fin : ∀ w H, MdlAt H m thr S lt st rw → gNw [] h H → w = nI (trG S.2.2.1 g k) → Post (some (.int w)) H := fun w H a b c => by
    rw [c]
    exact hp H a b
  refine fin _ _ (A _) (gNw.new Q _) ?_
  rw [show (9 : Int32) = nI 9 from rfl, pk_rem (by omega) (by omega) (by omega), pk_div (by omega) (by omega) (by omega), pk_rem (by omega) (by omega) (by omega), pk_div (by omega) (by omega) (by omega)]
  match k, hk with
  | 0, _ => rfl
  | 1, _ => rfl
  | 2, _ => rfl
  | 3, _ => rfl
  | 4, _ => rfl
  | 5, _ => rfl
  | 6, _ => rfl
  | 7, _ => rfl
  | k + 8, q => exact absurd q (by omega)
