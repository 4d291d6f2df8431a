/-! digest of the model -/
set_option maxHeartbeats 1000000 in
set_option maxRecDepth 10000 in
theorem c_digestM (d : Nat) {m : Nat → Nat} {thr : Int32} {S : CS} {lt : Nat → Bool} {st rw : Nat → Int32} {h : gH} (M : MdlAt h m thr S lt st rw) (V : InvS S) {mc ms : Nat} (hmc : 48 ≤ mc) (hms : 384 ≤ ms) {Post : Option Value → gH → Prop} {X : String → gH → Prop} (hp : ∀ h' lt' st' rw', MdlAt h' m 0 S lt' st' rw' → gNw (mS m) h h' → Post (some (.long (digG S S.2.2.2.1))) h') : gSafe (d + 7) mX6_digest [.ref (m 0)] h mc ms Post X := by
  have M0 := M.own0
  have h6 := V.1.1
  refine ⟨Nat.le_of_ble_eq_true rfl, fun K hK => ?_⟩
  show K 0 [some (.ref (m 0)), none, none, none, none] [] _ _ _
  refine s_aload_n hK dX6_digest_0 rfl ?_
  refine s_iconst hK (v := 0) dX6_digest_1 (by decide) ?_
  refine s_putfield hK dX6_digest_2 kF_X6_41 (by assumption) (by rfl) (by rfl) (by rfl) ?_
  have M1 : MdlAt (gU h (m 0) (.inr (5, (mF m thr S.2.2.2.1).set 0 (.int 0)))) m 0 S lt st rw := RawM.own (thr' := 0) (gc' := S.2.2.2.1) M
  have F1 : gFr (mS m) h (gU h (m 0) (.inr (5, (mF m thr S.2.2.2.1).set 0 (.int 0)))) := gFr.mdl (k := 0) (gFr_U _ _ _) (by omega)
  generalize gU h (m 0) (.inr (5, (mF m thr S.2.2.2.1).set 0 (.int 0))) = h1 at M1 F1
  clear M0
  have M0 := M1.own0
  refine s_aload_n hK dX6_digest_5 rfl ?_
  refine s_V00 hK dX6_digest_6 kV_X6_89 (by first | assumption | exact H.1 | exact H.2.1) (by rfl) ?_
  refine c_reckonLight _ M1 V.2.1 (T_D V.2.2.1) (fun h2 M2 F2 => ?_)
  rw [← V.2.2.2] at M2
  have s7 : SB (S.1 7) := by
    rw [V.2.2.2]
    exact relit_SBs 63 (Nat.le_refl _)
  have F2 := (F1.tr F2).nw
  clear M0 F1 M1
  have M0 := M2.own0
  have loopG : ∀ t i, i + t = S.2.2.2.1 → ∀ bc bs, 8 * t ≤ bc → 64 * t ≤ bs → ∀ w h3, MdlAt h3 m 0 S (lb (S.1 7)) st rw → gNw (mS m) h h3 → K 128 [some (.ref (m 0)), some (.long (digG S i)), none, some (.int (nI i)), w] [] h3 bc bs := by
    intro t
    induction t with
    | zero =>
      intro i hi bc bs hbc hbs w h3 M3 F3
      obtain rfl : i = S.2.2.2.1 := by omega
      have M0 := M3.own0
      refine s_iload_n hK dX6_digest_128 rfl ?_
      refine s_aload_n hK dX6_digest_129 rfl ?_
      refine s_getfield hK dX6_digest_130 kF_X6_49 (by first | assumption | exact H.1 | exact H.2.1) (by rfl) ?_
      refine s_icmpge hK dX6_digest_133 173 (by decide) (fun c_133 => ?_) (fun c_133 => ?_)
      · refine s_lload_n hK dX6_digest_173 rfl ?_
        refine s_lreturn hK dX6_digest_174 rfl ?_
        exact hp h3 _ st rw M3 F3
      · exact absurd (Int32.le_refl (nI S.2.2.2.1)) c_133
    | succ t ih =>
      intro i hi bc bs hbc hbs w h3 M3 F3
      have M0 := M3.own0
      refine s_iload_n hK dX6_digest_128 rfl ?_
      refine s_aload_n hK dX6_digest_129 rfl ?_
      refine s_getfield hK dX6_digest_130 kF_X6_49 (by first | assumption | exact H.1 | exact H.2.1) (by rfl) ?_
      refine s_icmpge hK dX6_digest_133 173 (by decide) (fun c_133 => ?_) (fun c_133 => ?_)
      · exact absurd c_133 (nI_ge (by omega) (by omega))
      · refine s_iconst hK (v := 0) dX6_digest_136 (by decide) ?_
        refine s_istore hK dX6_digest_137 rfl ?_
        have inner : ∀ u j, j + u = 8 → ∀ bc bs, u + 8 * t ≤ bc → 8 * u + 64 * t ≤ bs → ∀ h4, MdlAt h4 m 0 S (lb (S.1 7)) st rw → gNw (mS m) h h4 → K 139 [some (.ref (m 0)), some (.long (digT S i (digG S i) j)), none, some (.int (nI i)), some (.int (nI j))] [] h4 bc bs := by
          intro u
          induction u with
          | zero =>
            intro j hj bc bs hbc hbs h4 M4 F4
            obtain rfl : j = 8 := by omega
            refine s_iload hK dX6_digest_139 rfl ?_
            refine s_bipush hK (v := 8) dX6_digest_141 (by decide) ?_
            refine s_icmpge hK dX6_digest_143 167 (by decide) (fun c_143 => ?_) (fun c_143 => ?_)
            · refine s_iinck hK (v := 1) dX6_digest_167 rfl (by decide) rfl ?_
              refine s_goto hK dX6_digest_170 128 (by decide) ?_
              rw [nI_1]
              exact ih (i + 1) (by omega) bc bs (by omega) (by omega) _ h4 M4 F4
            · exact absurd (Int32.le_refl (nI 8)) c_143
          | succ u ih2 =>
            intro j hj bc bs hbc hbs h4 M4 F4
            have M0 := M4.own0
            refine s_iload hK dX6_digest_139 rfl ?_
            refine s_bipush hK (v := 8) dX6_digest_141 (by decide) ?_
            refine s_icmpge hK dX6_digest_143 167 (by decide) (fun c_143 => ?_) (fun c_143 => ?_)
            · exact absurd c_143 (nI_ge (b := 8) (by omega) (by omega))
            · refine s_lload_n hK dX6_digest_146 rfl ?_
              refine s_ldc2_w hK dX6_digest_147 kC_X6_166 ?_
              refine s_lmul hK dX6_digest_150 ?_
              refine s_aload_n hK dX6_digest_151 rfl ?_
              refine s_iload_n hK dX6_digest_152 rfl ?_
              refine s_iload hK dX6_digest_153 rfl ?_
              refine s_V2 hK (mc := 1) (ms := 8) dX6_digest_155 kV_X6_124 (by first | assumption | exact H.1 | exact H.2.1) (by rfl) (by omega) (by omega) ?_
              refine c_ghostTold _ (by omega) (by omega) V.1 M4 (by omega) (by omega) (fun h5 M5 F5 => ?_)
              refine s_i2l hK dX6_digest_158 ?_
              refine s_ladd hK dX6_digest_159 ?_
              refine s_lstore_n hK dX6_digest_160 rfl ?_
              refine s_iinck hK (v := 1) dX6_digest_161 rfl (by decide) rfl ?_
              refine s_goto hK dX6_digest_164 139 (by decide) ?_
              rw [nI_1]
              exact ih2 (j + 1) (by omega) _ _ (by omega) (by omega) h5 M5 (gNw.call F4 F5 (fun q hq => absurd hq (by simp)))
        exact inner 8 0 (by omega) _ _ (by omega) (by omega) h3 M3 F3
  have loopB : ∀ t i, i + t = 63 → ∀ w, K 42 [some (.ref (m 0)), some (.long (digB S i)), none, some (.int (nI i)), w] [] h2 mc ms := by
    intro t
    induction t with
    | zero =>
      intro i hi w
      obtain rfl : i = 63 := by omega
      refine s_iload_n hK dX6_digest_42 rfl ?_
      refine s_bipush hK (v := 63) dX6_digest_43 (by decide) ?_
      refine s_icmpge hK dX6_digest_45 126 (by decide) (fun c_45 => ?_) (fun c_45 => ?_)
      · refine s_iconst hK (v := 0) dX6_digest_126 (by decide) ?_
        refine s_istore_n hK dX6_digest_127 rfl ?_
        exact loopG S.2.2.2.1 0 (by omega) mc ms (by omega) (by omega) _ h2 M2 F2
      · exact absurd (Int32.le_refl (nI 63)) c_45
    | succ t ih =>
      intro i hi w
      obtain ⟨f1, e1, k1⟩ := M2.a1
      obtain ⟨f2, e2, k2⟩ := M2.a2
      refine s_iload_n hK dX6_digest_42 rfl ?_
      refine s_bipush hK (v := 63) dX6_digest_43 (by decide) ?_
      refine s_icmpge hK dX6_digest_45 126 (by decide) (fun c_45 => ?_) (fun c_45 => ?_)
      · exact absurd c_45 (nI_ge (b := 63) (by omega) (by omega))
      · refine s_iconst hK (v := 0) dX6_digest_48 (by decide) ?_
        refine s_istore hK dX6_digest_49 rfl ?_
        have fin : ∀ w4, K 119 [some (.ref (m 0)), some (.long (digC S i (digB S i) 5)), none, some (.int (nI i)), some (.int w4)] [.long (digB S (i + 1))] h2 mc ms := by
          intro w4
          refine s_lstore_n hK dX6_digest_119 rfl ?_
          refine s_iinck hK (v := 1) dX6_digest_120 rfl (by decide) rfl ?_
          refine s_goto hK dX6_digest_123 42 (by decide) ?_
          rw [nI_1]
          exact ih (i + 1) (by omega) _
        have second : ∀ w4, K 99 [some (.ref (m 0)), some (.long (digC S i (digB S i) 5)), none, some (.int (nI i)), some (.int w4)] [.long (digC S i (digB S i) 5 * 31 + (b01 (lb (wCells S.1 1) i)).toInt64)] h2 mc ms := by
          intro w4
          have r := fin w4
          have e9 : digB S (i + 1) = (digC S i (digB S i) 5 * 31 + (b01 (lb (wCells S.1 1) i)).toInt64) * 31 + (b01 (lb (wCells S.1 2) i)).toInt64 := rfl
          rw [e9] at r
          refine s_ldc2_w hK dX6_digest_99 kC_X6_166 ?_
          refine s_lmul hK dX6_digest_102 ?_
          refine s_aload_n hK dX6_digest_103 rfl ?_
          refine s_getfield hK dX6_digest_104 kF_X6_13 (by first | assumption | exact H.1 | exact H.2.1) (by rfl) ?_
          refine s_iload_n hK dX6_digest_107 rfl ?_
          refine s_baloadN hK dX6_digest_108 (by assumption) (by omega) (by omega) ?_
          rw [k2 _ (by omega)]
          show K 109 _ (Value.int (b01 (lb (wCells S.1 2) i)) :: _) _ _ _
          cases ew : lb (wCells S.1 2) i with
          | false =>
            rw [ew] at r
            refine s_ifeq hK dX6_digest_109 116 (by decide) (fun c_109 => ?_) (fun c_109 => ?_)
            · refine s_iconst hK (v := 0) dX6_digest_116 (by decide) ?_
              refine s_i2l hK dX6_digest_117 ?_
              refine s_ladd hK dX6_digest_118 ?_
              exact r
            · exact absurd rfl c_109
          | true =>
            rw [ew] at r
            refine s_ifeq hK dX6_digest_109 116 (by decide) (fun c_109 => ?_) (fun c_109 => ?_)
            · exact absurd c_109 (by decide)
            · refine s_iconst hK (v := 1) dX6_digest_112 (by decide) ?_
              refine s_goto hK dX6_digest_113 117 (by decide) ?_
              refine s_i2l hK dX6_digest_117 ?_
              refine s_ladd hK dX6_digest_118 ?_
              exact r
        have first : ∀ w4, K 78 [some (.ref (m 0)), some (.long (digC S i (digB S i) 5)), none, some (.int (nI i)), some (.int w4)] [] h2 mc ms := by
          intro w4
          have r := second w4
          refine s_lload_n hK dX6_digest_78 rfl ?_
          refine s_ldc2_w hK dX6_digest_79 kC_X6_166 ?_
          refine s_lmul hK dX6_digest_82 ?_
          refine s_aload_n hK dX6_digest_83 rfl ?_
          refine s_getfield hK dX6_digest_84 kF_X6_9 (by first | assumption | exact H.1 | exact H.2.1) (by rfl) ?_
          refine s_iload_n hK dX6_digest_87 rfl ?_
          refine s_baloadN hK dX6_digest_88 (by assumption) (by omega) (by omega) ?_
          rw [k1 _ (by omega)]
          show K 89 _ (Value.int (b01 (lb (wCells S.1 1) i)) :: _) _ _ _
          cases ew : lb (wCells S.1 1) i with
          | false =>
            rw [ew] at r
            refine s_ifeq hK dX6_digest_89 96 (by decide) (fun c_89 => ?_) (fun c_89 => ?_)
            · refine s_iconst hK (v := 0) dX6_digest_96 (by decide) ?_
              refine s_i2l hK dX6_digest_97 ?_
              refine s_ladd hK dX6_digest_98 ?_
              exact r
            · exact absurd rfl c_89
          | true =>
            rw [ew] at r
            refine s_ifeq hK dX6_digest_89 96 (by decide) (fun c_89 => ?_) (fun c_89 => ?_)
            · exact absurd c_89 (by decide)
            · refine s_iconst hK (v := 1) dX6_digest_92 (by decide) ?_
              refine s_goto hK dX6_digest_93 97 (by decide) ?_
              refine s_i2l hK dX6_digest_97 ?_
              refine s_ladd hK dX6_digest_98 ?_
              exact r
        have inner : ∀ u j, j + u = 5 → K 51 [some (.ref (m 0)), some (.long (digC S i (digB S i) j)), none, some (.int (nI i)), some (.int (nI j))] [] h2 mc ms := by
          intro u
          induction u with
          | zero =>
            intro j hj
            obtain rfl : j = 5 := by omega
            refine s_iload hK dX6_digest_51 rfl ?_
            refine s_iconst hK (v := 5) dX6_digest_53 (by decide) ?_
            refine s_icmpge hK dX6_digest_54 78 (by decide) (fun c_54 => ?_) (fun c_54 => ?_)
            · exact first _
            · exact absurd (Int32.le_refl (nI 5)) c_54
          | succ u ih2 =>
            intro j hj
            refine s_iload hK dX6_digest_51 rfl ?_
            refine s_iconst hK (v := 5) dX6_digest_53 (by decide) ?_
            refine s_icmpge hK dX6_digest_54 78 (by decide) (fun c_54 => ?_) (fun c_54 => ?_)
            · exact absurd c_54 (nI_ge (b := 5) (by omega) (by omega))
            · refine s_lload_n hK dX6_digest_57 rfl ?_
              refine s_ldc2_w hK dX6_digest_58 kC_X6_166 ?_
              refine s_lmul hK dX6_digest_61 ?_
              refine s_aload_n hK dX6_digest_62 rfl ?_
              refine s_iload_n hK dX6_digest_63 rfl ?_
              refine s_iload hK dX6_digest_64 rfl ?_
              refine s_V20 hK dX6_digest_66 kV_X6_121 (by first | assumption | exact H.1 | exact H.2.1) (by rfl) ?_
              refine c_cellTold _ (by omega) (by omega) V.1 M2 ?_
              refine s_i2l hK dX6_digest_69 ?_
              refine s_ladd hK dX6_digest_70 ?_
              refine s_lstore_n hK dX6_digest_71 rfl ?_
              refine s_iinck hK (v := 1) dX6_digest_72 rfl (by decide) rfl ?_
              refine s_goto hK dX6_digest_75 51 (by decide) ?_
              rw [nI_1]
              exact ih2 (j + 1) (by omega)
        exact inner 5 0 (by omega)
  have loopA : ∀ t i, i + t = 10 → K 15 [some (.ref (m 0)), some (.long (digA S i)), none, some (.int (nI i)), none] [] h2 mc ms := by
    intro t
    induction t with
    | zero =>
      intro i hi
      obtain rfl : i = 10 := by omega
      refine s_iload_n hK dX6_digest_15 rfl ?_
      refine s_bipush hK (v := 10) dX6_digest_16 (by decide) ?_
      refine s_icmpge hK dX6_digest_18 40 (by decide) (fun c_18 => ?_) (fun c_18 => ?_)
      · refine s_iconst hK (v := 0) dX6_digest_40 (by decide) ?_
        refine s_istore_n hK dX6_digest_41 rfl ?_
        exact loopB 63 0 (by omega) _
      · exact absurd (Int32.le_refl (nI 10)) c_18
    | succ t ih =>
      intro i hi
      refine s_iload_n hK dX6_digest_15 rfl ?_
      refine s_bipush hK (v := 10) dX6_digest_16 (by decide) ?_
      refine s_icmpge hK dX6_digest_18 40 (by decide) (fun c_18 => ?_) (fun c_18 => ?_)
      · exact absurd c_18 (nI_ge (b := 10) (by omega) (by omega))
      · refine s_lload_n hK dX6_digest_21 rfl ?_
        refine s_ldc2_w hK dX6_digest_22 kC_X6_166 ?_
        refine s_lmul hK dX6_digest_25 ?_
        refine s_aload_n hK dX6_digest_26 rfl ?_
        refine s_iload_n hK dX6_digest_27 rfl ?_
        refine s_V10 hK dX6_digest_28 kV_X6_136 (by first | assumption | exact H.1 | exact H.2.1) (by rfl) ?_
        refine c_counted _ (by omega) M2 V.2.2.1 V.2.1 s7 ?_
        refine s_i2l hK dX6_digest_31 ?_
        refine s_ladd hK dX6_digest_32 ?_
        refine s_lstore_n hK dX6_digest_33 rfl ?_
        refine s_iinck hK (v := 1) dX6_digest_34 rfl (by decide) rfl ?_
        refine s_goto hK dX6_digest_37 15 (by decide) ?_
        rw [nI_1]
        exact ih (i + 1) (by omega)
  refine s_ldc2_w hK dX6_digest_9 kC_X6_164 ?_
  refine s_lstore_n hK dX6_digest_12 rfl ?_
  refine s_iconst hK (v := 0) dX6_digest_13 (by decide) ?_
  refine s_istore_n hK dX6_digest_14 rfl ?_
  exact loopA 10 0 (by omega)
