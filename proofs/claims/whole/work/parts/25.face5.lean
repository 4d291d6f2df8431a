/-! advise, mean, digest -/
def advF (S : CS) (k : Nat) : Nat → Nat × Option Nat
  | 0 => (pasH S k, none)
  | c + 1 => if cwax S.1 S.2.1 c = true ∧ pasH (swS S (some c)) k < (advF S k c).1 then (pasH (swS S (some c)) k, some c) else advF S k c
theorem advF_le {S : CS} (ok : CSok S) (k : Nat) : ∀ c, (advF S k c).1 ≤ 6 * k
  | 0 => pasH_le ok k
  | c + 1 => by
    unfold advF
    split
    · exact pasH_le (swS_ok ok (some c)) k
    · exact advF_le ok k c
def fAdvise (S : CS) (t : Int32) : gAns :=
  if okH t 8 = true then (vI (oI (advF S t.toNatClampNeg 63).2), S) else (.inl eA, S)
set_option maxRecDepth 10000 in
theorem c_advise (d : Nat) {a : Nat} {n n' : Nat → Nat} {S : CS} {t : Int32} {h : gH} (C : ClsAt h a n n' S) (ok : CSok S) {mc ms : Nat} (hmc : 4 ≤ mc) (hms : 24 ≤ ms) {Post : Option Value → gH → Prop} {X : String → gH → Prop} (hp : gDone Post X a n n' h (fAdvise S t)) : gSafe (d + 8) mX5_advise [.ref a, .int t] h mc ms Post X := by
  have Ca := C.1
  unfold fAdvise at hp
  refine ⟨Nat.le_of_ble_eq_true rfl, fun K hK => ?_⟩
  show K 0 [some (.ref a), some (.int t), none, none, none, none] [] _ _ _
  refine s_iload_n hK dX5_advise_0 rfl ?_
  refine s_bipush hK (v := 8) dX5_advise_1 (by decide) ?_
  refine s_S2 hK (mc := 1) (ms := 6) dX5_advise_3 kS_X5_159 (by rfl) (by omega) (by omega) ?_
  refine c_checkHours (k := 8) _ (by omega) (by omega) (fun e => (hp.exc C (by rw [if_neg (by simp [e])]) : X eA h)) (fun e => ?_)
  rw [if_pos e] at hp
  obtain ⟨k, hk0, hk, rfl, ek⟩ := okH_ex (by omega) e
  rw [ek] at hp
  refine s_aload_n hK dX5_advise_6 rfl ?_
  refine s_iload_n hK dX5_advise_7 rfl ?_
  refine s_iconst hK (v := (-1)) dX5_advise_8 (by decide) ?_
  refine s_V20 hK dX5_advise_9 kV_X5_165 (by first | assumption | exact H.1 | exact H.2.1) (by rfl) ?_
  refine c_hauntsAhead (o := none) _ (by omega) (fun _ q => nomatch q) C ok (fun h1 C1 N1 F1 => ?_)
  refine s_istore_n hK dX5_advise_12 rfl ?_
  refine s_iconst hK (v := (-1)) dX5_advise_13 (by decide) ?_
  refine s_istore_n hK dX5_advise_14 rfl ?_
  refine s_iconst hK (v := 0) dX5_advise_15 (by decide) ?_
  refine s_istore hK dX5_advise_16 rfl ?_
  have loop : ∀ m i, i + m = 63 → ∀ h1 w, ClsAt h1 a n n' S → gFr (cS n n') h h1 → K 18 [some (.ref a), some (.int (nI k)), some (.int (nI (advF S k i).1)), some (.int (oI (advF S k i).2)), some (.int (nI i)), w] [] h1 (mc - 1) (ms - 6) := by
    intro m
    induction m with
    | zero =>
      intro i hi h1 w C1 F1
      obtain rfl : i = 63 := by omega
      refine s_iload hK dX5_advise_18 rfl ?_
      refine s_bipush hK (v := 63) dX5_advise_20 (by decide) ?_
      refine s_icmpge hK dX5_advise_22 67 (by decide) (fun c_22 => ?_) (fun c_22 => ?_)
      · refine s_iload_n hK dX5_advise_67 rfl ?_
        refine s_ireturn hK dX5_advise_68 rfl (by first | rfl | exact b01_nar _) ?_
        exact hp.to C1 F1 rfl
      · exact absurd (Int32.le_refl (nI 63)) c_22
    | succ m ih =>
      intro i hi h1 w C1 F1
      have Ca := C1.1
      have N0 := C1.2.1.1
      have H1 := C1.2.1.2.1.1
      have l1 := advF_le ok k i
      refine s_iload hK dX5_advise_18 rfl ?_
      refine s_bipush hK (v := 63) dX5_advise_20 (by decide) ?_
      refine s_icmpge hK dX5_advise_22 67 (by decide) (fun c_22 => ?_) (fun c_22 => ?_)
      · exact absurd c_22 (nI_ge (b := 63) (by omega) (by omega))
      · refine s_aload_n hK dX5_advise_25 rfl ?_
        refine s_getfield hK dX5_advise_26 kF_X5_10 (by first | assumption | exact H.1 | exact H.2.1) (by rfl) ?_
        refine s_getfield hK dX5_advise_29 kF_X5_40 (by first | assumption | exact H.1 | exact H.2.1) (by rfl) ?_
        refine s_iload hK dX5_advise_32 rfl ?_
        refine s_V10 hK dX5_advise_34 kV_X5_91 (by first | assumption | exact H.1 | exact H.2.1) (by rfl) ?_
        refine c_hasCandleWithWax _ (by omega) C1.2.1.2.1 ?_
        cases e3 : cwax S.1 S.2.1 i with
        | false =>
          have ea : advF S k (i + 1) = advF S k i := by
            have q : ¬ (cwax S.1 S.2.1 i = true ∧ pasH (swS S (some i)) k < (advF S k i).1) := by simp [e3]
            show (if _ then _ else _) = _
            rw [if_neg q]
          refine s_ifeq hK dX5_advise_37 61 (by decide) (fun c_37 => ?_) (fun c_37 => ?_)
          · refine s_iinck hK (v := 1) dX5_advise_61 rfl (by decide) rfl ?_
            refine s_goto hK dX5_advise_64 18 (by decide) ?_
            rw [nI_1, ← ea]
            exact ih (i + 1) (by omega) h1 w C1 F1
          · exact absurd rfl c_37
        | true =>
          refine s_ifeq hK dX5_advise_37 61 (by decide) (fun c_37 => ?_) (fun c_37 => ?_)
          · exact absurd c_37 (by decide)
          · refine s_aload_n hK dX5_advise_40 rfl ?_
            refine s_iload_n hK dX5_advise_41 rfl ?_
            refine s_iload hK dX5_advise_42 rfl ?_
            refine s_V20 hK dX5_advise_44 kV_X5_165 (by first | assumption | exact H.1 | exact H.2.1) (by rfl) ?_
            refine c_hauntsAhead (o := some i) _ (by omega) (fun c q => by cases q; omega) C1 ok (fun h2 C2 N2 F2 => ?_)
            have l2 := pasH_le (swS_ok ok (some i)) k
            refine s_istore hK dX5_advise_47 rfl ?_
            refine s_iload hK dX5_advise_49 rfl ?_
            refine s_iload_n hK dX5_advise_51 rfl ?_
            refine s_icmpge hK dX5_advise_52 61 (by decide) (fun c_52 => ?_) (fun c_52 => ?_)
            · have q : ¬ pasH (swS S (some i)) k < (advF S k i).1 := fun z => absurd c_52 (nI_ge z (by omega))
              have ea : advF S k (i + 1) = advF S k i := by
                show (if _ then _ else _) = _
                rw [if_neg (fun z => q z.2)]
              refine s_iinck hK (v := 1) dX5_advise_61 rfl (by decide) rfl ?_
              refine s_goto hK dX5_advise_64 18 (by decide) ?_
              rw [nI_1, ← ea]
              exact ih (i + 1) (by omega) h2 _ C2 (F1.tr F2)
            · have q : pasH (swS S (some i)) k < (advF S k i).1 := by
                refine Nat.lt_of_not_le (fun z => c_52 ?_)
                exact (nI_leI (by omega) (by omega)).mpr z
              have ea : advF S k (i + 1) = (pasH (swS S (some i)) k, some i) := by
                show (if _ then _ else _) = _
                rw [if_pos ⟨e3, q⟩]
              refine s_iload hK dX5_advise_55 rfl ?_
              refine s_istore_n hK dX5_advise_57 rfl ?_
              refine s_iload hK dX5_advise_58 rfl ?_
              refine s_istore_n hK dX5_advise_60 rfl ?_
              refine s_iinck hK (v := 1) dX5_advise_61 rfl (by decide) rfl ?_
              refine s_goto hK dX5_advise_64 18 (by decide) ?_
              rw [nI_1]
              have r := ih (i + 1) (by omega) h2 (some (.int (nI (pasH (swS S (some i)) k)))) C2 (F1.tr F2)
              rw [ea] at r
              exact r
  exact loop 63 0 (by omega) h1 none C1 F1
def meanV (S : CS) : UInt64 := if iPop (S.1 4) = 0 then FP.dconst0 else FP.ddiv (FP.i2d (sumMk S.1 S.2.1 63)) (FP.i2d (iPop (S.1 4)))
set_option maxRecDepth 10000 in
theorem c_mean (d : Nat) {a : Nat} {n n' : Nat → Nat} {S : CS} {h : gH} (C : ClsAt h a n n' S) (hn : iPop (S.1 4) ≠ 0 → vf_n64 (FP.ddiv (FP.i2d (sumMk S.1 S.2.1 63)) (FP.i2d (iPop (S.1 4))))) {mc ms : Nat} {Post : Option Value → gH → Prop} {X : String → gH → Prop} (hp : Post (some (.double (meanV S))) h) : gSafe (d + 7) mX5_mean [.ref a] h mc ms Post X := by
  have Ca := C.1
  have N0 := C.2.1.1
  have H1 := C.2.1.2.1.1
  unfold meanV at hp
  refine ⟨Nat.le_of_ble_eq_true rfl, fun K hK => ?_⟩
  show K 0 [some (.ref a), none] [] _ _ _
  refine s_aload_n hK dX5_mean_0 rfl ?_
  refine s_getfield hK dX5_mean_1 kF_X5_10 (by first | assumption | exact H.1 | exact H.2.1) (by rfl) ?_
  refine s_getfield hK dX5_mean_4 kF_X5_40 (by first | assumption | exact H.1 | exact H.2.1) (by rfl) ?_
  refine s_V00 hK dX5_mean_7 kV_X5_76 (by first | assumption | exact H.1 | exact H.2.1) (by rfl) ?_
  refine c_tallyCount _ C.2.1.2.1 ?_
  refine s_istore_n hK dX5_mean_10 rfl ?_
  refine s_iload_n hK dX5_mean_11 rfl ?_
  refine s_ifne hK dX5_mean_12 19 (by decide) (fun c_12 => ?_) (fun c_12 => ?_)
  · rw [if_neg c_12] at hp
    refine s_aload_n hK dX5_mean_19 rfl ?_
    refine s_getfield hK dX5_mean_20 kF_X5_10 (by first | assumption | exact H.1 | exact H.2.1) (by rfl) ?_
    refine s_getfield hK dX5_mean_23 kF_X5_40 (by first | assumption | exact H.1 | exact H.2.1) (by rfl) ?_
    refine s_V00 hK dX5_mean_26 kV_X5_189 (by first | assumption | exact H.1 | exact H.2.1) (by rfl) ?_
    refine c_sumOfMarks _ C.2.1.2.1 ?_
    refine s_i2d hK dX5_mean_29 ?_
    refine s_iload_n hK dX5_mean_30 rfl ?_
    refine s_i2d hK dX5_mean_31 ?_
    refine s_ddiv hK dX5_mean_32 (hn c_12) ?_
    refine s_dreturn hK dX5_mean_33 rfl ?_
    exact hp
  · rw [if_pos c_12] at hp
    refine s_dconst hK dX5_mean_15 ?_
    refine s_goto hK dX5_mean_16 33 (by decide) ?_
    refine s_dreturn hK dX5_mean_33 rfl ?_
    exact hp
def digA (S : CS) : Nat → Int64
  | 0 => 1009
  | k + 1 => digA S k * 31 + (tAll S.1 S.2.1 S.2.2.1 S.2.2.2.1 S.2.2.2.2 k).toInt64
def digC (S : CS) (c : Nat) (x : Int64) : Nat → Int64
  | 0 => x
  | k + 1 => digC S c x k * 31 + (tCell S.1 S.2.1 S.2.2.1 S.2.2.2.1 c k).toInt64
def digW (S : CS) (c : Nat) (x : Int64) : Int64 := (x * 31 + (b01 (lb (wCells S.1 1) c)).toInt64) * 31 + (b01 (lb (wCells S.1 2) c)).toInt64
def digB (S : CS) : Nat → Int64
  | 0 => digA S 10
  | c + 1 => digW S c (digC S c (digB S c) 5)
def digT (S : CS) (g : Nat) (x : Int64) : Nat → Int64
  | 0 => x
  | k + 1 => digT S g x k * 31 + (nI (trG S.2.2.1 g k)).toInt64
def digG (S : CS) : Nat → Int64
  | 0 => digB S 63
  | g + 1 => digT S g (digG S g) 8
set_option maxRecDepth 10000 in
theorem c_digest (d : Nat) {a : Nat} {n n' : Nat → Nat} {S : CS} {h : gH} (C : ClsAt h a n n' S) (ok : CSok S) {mc ms : Nat} {Post : Option Value → gH → Prop} {X : String → gH → Prop} (hp : Post (some (.long (digG S S.2.2.2.1))) h) : gSafe (d + 7) mX5_digest [.ref a] h mc ms Post X := by
  have Ca := C.1
  have N0 := C.2.1.1
  have H1 := C.2.1.2.1.1
  have h6 := ok.1
  refine ⟨Nat.le_of_ble_eq_true rfl, fun K hK => ?_⟩
  show K 0 [some (.ref a), none, none, none, none] [] _ _ _
  have loopG : ∀ m i w, i + m = S.2.2.2.1 → K 139 [some (.ref a), some (.long (digG S i)), none, some (.int (nI i)), w] [] h mc ms := by
    intro m
    induction m with
    | zero =>
      intro i w hi
      obtain rfl : i = S.2.2.2.1 := by omega
      refine s_iload_n hK dX5_digest_139 rfl ?_
      refine s_aload_n hK dX5_digest_140 rfl ?_
      refine s_getfield hK dX5_digest_141 kF_X5_10 (by first | assumption | exact H.1 | exact H.2.1) (by rfl) ?_
      refine s_getfield hK dX5_digest_144 kF_X5_105 (by first | assumption | exact H.1 | exact H.2.1) (by rfl) ?_
      refine s_icmpge hK dX5_digest_147 190 (by decide) (fun c_147 => ?_) (fun c_147 => ?_)
      · refine s_lload_n hK dX5_digest_190 rfl ?_
        refine s_lreturn hK dX5_digest_191 rfl ?_
        exact hp
      · exact absurd (Int32.le_refl (nI _)) c_147
    | succ m ih =>
      intro i w hi
      refine s_iload_n hK dX5_digest_139 rfl ?_
      refine s_aload_n hK dX5_digest_140 rfl ?_
      refine s_getfield hK dX5_digest_141 kF_X5_10 (by first | assumption | exact H.1 | exact H.2.1) (by rfl) ?_
      refine s_getfield hK dX5_digest_144 kF_X5_105 (by first | assumption | exact H.1 | exact H.2.1) (by rfl) ?_
      refine s_icmpge hK dX5_digest_147 190 (by decide) (fun c_147 => ?_) (fun c_147 => ?_)
      · exact absurd c_147 (nI_ge (by omega) (by omega))
      · refine s_iconst hK (v := 0) dX5_digest_150 (by decide) ?_
        refine s_istore hK dX5_digest_151 rfl ?_
        have inner : ∀ t j, j + t = 8 → K 153 [some (.ref a), some (.long (digT S i (digG S i) j)), none, some (.int (nI i)), some (.int (nI j))] [] h mc ms := by
          intro t
          induction t with
          | zero =>
            intro j hj
            obtain rfl : j = 8 := by omega
            refine s_iload hK dX5_digest_153 rfl ?_
            refine s_bipush hK (v := 8) dX5_digest_155 (by decide) ?_
            refine s_icmpge hK dX5_digest_157 184 (by decide) (fun c_157 => ?_) (fun c_157 => ?_)
            · refine s_iinck hK (v := 1) dX5_digest_184 rfl (by decide) rfl ?_
              refine s_goto hK dX5_digest_187 139 (by decide) ?_
              rw [nI_1]
              exact ih (i + 1) _ (by omega)
            · exact absurd (Int32.le_refl (nI 8)) c_157
          | succ t ih2 =>
            intro j hj
            refine s_iload hK dX5_digest_153 rfl ?_
            refine s_bipush hK (v := 8) dX5_digest_155 (by decide) ?_
            refine s_icmpge hK dX5_digest_157 184 (by decide) (fun c_157 => ?_) (fun c_157 => ?_)
            · exact absurd c_157 (nI_ge (b := 8) (by omega) (by omega))
            · refine s_lload_n hK dX5_digest_160 rfl ?_
              refine s_ldc2_w hK dX5_digest_161 kC_X5_194 ?_
              refine s_lmul hK dX5_digest_164 ?_
              refine s_aload_n hK dX5_digest_165 rfl ?_
              refine s_getfield hK dX5_digest_166 kF_X5_10 (by first | assumption | exact H.1 | exact H.2.1) (by rfl) ?_
              refine s_iload_n hK dX5_digest_169 rfl ?_
              refine s_iload hK dX5_digest_170 rfl ?_
              refine s_V20 hK dX5_digest_172 kV_X5_140 (by first | assumption | exact H.1 | exact H.2.1) (by rfl) ?_
              refine c_trait _ (by omega) (by omega) C.2.1 ?_
              refine s_i2l hK dX5_digest_175 ?_
              refine s_ladd hK dX5_digest_176 ?_
              refine s_lstore_n hK dX5_digest_177 rfl ?_
              refine s_iinck hK (v := 1) dX5_digest_178 rfl (by decide) rfl ?_
              refine s_goto hK dX5_digest_181 153 (by decide) ?_
              rw [nI_1]
              exact ih2 (j + 1) (by omega)
        exact inner 8 0 (by omega)
  have loopB : ∀ m i w, i + m = 63 → K 36 [some (.ref a), some (.long (digB S i)), none, some (.int (nI i)), w] [] h mc ms := by
    intro m
    induction m with
    | zero =>
      intro i w hi
      obtain rfl : i = 63 := by omega
      refine s_iload_n hK dX5_digest_36 rfl ?_
      refine s_bipush hK (v := 63) dX5_digest_37 (by decide) ?_
      refine s_icmpge hK dX5_digest_39 137 (by decide) (fun c_39 => ?_) (fun c_39 => ?_)
      · refine s_iconst hK (v := 0) dX5_digest_137 (by decide) ?_
        refine s_istore_n hK dX5_digest_138 rfl ?_
        exact loopG S.2.2.2.1 0 _ (by omega)
      · exact absurd (Int32.le_refl (nI 63)) c_39
    | succ m ih =>
      intro i w hi
      refine s_iload_n hK dX5_digest_36 rfl ?_
      refine s_bipush hK (v := 63) dX5_digest_37 (by decide) ?_
      refine s_icmpge hK dX5_digest_39 137 (by decide) (fun c_39 => ?_) (fun c_39 => ?_)
      · exact absurd c_39 (nI_ge (b := 63) (by omega) (by omega))
      · refine s_iconst hK (v := 0) dX5_digest_42 (by decide) ?_
        refine s_istore hK dX5_digest_43 rfl ?_
        have last : ∀ w2, K 103 [some (.ref a), some (.long (digC S i (digB S i) 5 * 31 + (b01 (lb (wCells S.1 1) i)).toInt64)), none, some (.int (nI i)), w2] [] h mc ms := by
          intro w2
          have e9 : digB S (i + 1) = (digC S i (digB S i) 5 * 31 + (b01 (lb (wCells S.1 1) i)).toInt64) * 31 + (b01 (lb (wCells S.1 2) i)).toInt64 := rfl
          refine s_lload_n hK dX5_digest_103 rfl ?_
          refine s_ldc2_w hK dX5_digest_104 kC_X5_194 ?_
          refine s_lmul hK dX5_digest_107 ?_
          refine s_aload_n hK dX5_digest_108 rfl ?_
          refine s_getfield hK dX5_digest_109 kF_X5_10 (by first | assumption | exact H.1 | exact H.2.1) (by rfl) ?_
          refine s_getfield hK dX5_digest_112 kF_X5_40 (by first | assumption | exact H.1 | exact H.2.1) (by rfl) ?_
          refine s_iload_n hK dX5_digest_115 rfl ?_
          refine s_iconst hK (v := 2) dX5_digest_116 (by decide) ?_
          refine s_V20 hK dX5_digest_117 kV_X5_50 (by first | assumption | exact H.1 | exact H.2.1) (by rfl) ?_
          refine c_hasWall (dn := 2) _ (by omega) (by omega) C.2.1.2.1 ?_
          cases e4 : lb (wCells S.1 2) i with
          | true =>
            rw [e4] at e9
            refine s_ifeq hK dX5_digest_120 127 (by decide) (fun c_120 => ?_) (fun c_120 => ?_)
            · exact absurd c_120 (by decide)
            · refine s_iconst hK (v := 1) dX5_digest_123 (by decide) ?_
              refine s_goto hK dX5_digest_124 128 (by decide) ?_
              refine s_i2l hK dX5_digest_128 ?_
              refine s_ladd hK dX5_digest_129 ?_
              refine s_lstore_n hK dX5_digest_130 rfl ?_
              refine s_iinck hK (v := 1) dX5_digest_131 rfl (by decide) rfl ?_
              refine s_goto hK dX5_digest_134 36 (by decide) ?_
              rw [nI_1]
              have r := ih (i + 1) w2 (by omega)
              rw [e9] at r
              exact r
          | false =>
            rw [e4] at e9
            refine s_ifeq hK dX5_digest_120 127 (by decide) (fun c_120 => ?_) (fun c_120 => ?_)
            · refine s_iconst hK (v := 0) dX5_digest_127 (by decide) ?_
              refine s_i2l hK dX5_digest_128 ?_
              refine s_ladd hK dX5_digest_129 ?_
              refine s_lstore_n hK dX5_digest_130 rfl ?_
              refine s_iinck hK (v := 1) dX5_digest_131 rfl (by decide) rfl ?_
              refine s_goto hK dX5_digest_134 36 (by decide) ?_
              rw [nI_1]
              have r := ih (i + 1) w2 (by omega)
              rw [e9] at r
              exact r
            · exact absurd rfl c_120
        have inner : ∀ t j, j + t = 5 → K 45 [some (.ref a), some (.long (digC S i (digB S i) j)), none, some (.int (nI i)), some (.int (nI j))] [] h mc ms := by
          intro t
          induction t with
          | zero =>
            intro j hj
            obtain rfl : j = 5 := by omega
            refine s_iload hK dX5_digest_45 rfl ?_
            refine s_iconst hK (v := 5) dX5_digest_47 (by decide) ?_
            refine s_icmpge hK dX5_digest_48 75 (by decide) (fun c_48 => ?_) (fun c_48 => ?_)
            · refine s_lload_n hK dX5_digest_75 rfl ?_
              refine s_ldc2_w hK dX5_digest_76 kC_X5_194 ?_
              refine s_lmul hK dX5_digest_79 ?_
              refine s_aload_n hK dX5_digest_80 rfl ?_
              refine s_getfield hK dX5_digest_81 kF_X5_10 (by first | assumption | exact H.1 | exact H.2.1) (by rfl) ?_
              refine s_getfield hK dX5_digest_84 kF_X5_40 (by first | assumption | exact H.1 | exact H.2.1) (by rfl) ?_
              refine s_iload_n hK dX5_digest_87 rfl ?_
              refine s_iconst hK (v := 1) dX5_digest_88 (by decide) ?_
              refine s_V20 hK dX5_digest_89 kV_X5_50 (by first | assumption | exact H.1 | exact H.2.1) (by rfl) ?_
              refine c_hasWall (dn := 1) _ (by omega) (by omega) C.2.1.2.1 ?_
              have r := last (some (.int (nI 5)))
              cases e4 : lb (wCells S.1 1) i with
              | true =>
                rw [e4] at r
                refine s_ifeq hK dX5_digest_92 99 (by decide) (fun c_92 => ?_) (fun c_92 => ?_)
                · exact absurd c_92 (by decide)
                · refine s_iconst hK (v := 1) dX5_digest_95 (by decide) ?_
                  refine s_goto hK dX5_digest_96 100 (by decide) ?_
                  refine s_i2l hK dX5_digest_100 ?_
                  refine s_ladd hK dX5_digest_101 ?_
                  refine s_lstore_n hK dX5_digest_102 rfl ?_
                  exact r
              | false =>
                rw [e4] at r
                refine s_ifeq hK dX5_digest_92 99 (by decide) (fun c_92 => ?_) (fun c_92 => ?_)
                · refine s_iconst hK (v := 0) dX5_digest_99 (by decide) ?_
                  refine s_i2l hK dX5_digest_100 ?_
                  refine s_ladd hK dX5_digest_101 ?_
                  refine s_lstore_n hK dX5_digest_102 rfl ?_
                  exact r
                · exact absurd rfl c_92
            · exact absurd (Int32.le_refl (nI 5)) c_48
          | succ t ih2 =>
            intro j hj
            refine s_iload hK dX5_digest_45 rfl ?_
            refine s_iconst hK (v := 5) dX5_digest_47 (by decide) ?_
            refine s_icmpge hK dX5_digest_48 75 (by decide) (fun c_48 => ?_) (fun c_48 => ?_)
            · exact absurd c_48 (nI_ge (b := 5) (by omega) (by omega))
            · refine s_lload_n hK dX5_digest_51 rfl ?_
              refine s_ldc2_w hK dX5_digest_52 kC_X5_194 ?_
              refine s_lmul hK dX5_digest_55 ?_
              refine s_aload_n hK dX5_digest_56 rfl ?_
              refine s_getfield hK dX5_digest_57 kF_X5_10 (by first | assumption | exact H.1 | exact H.2.1) (by rfl) ?_
              refine s_iload_n hK dX5_digest_60 rfl ?_
              refine s_iload hK dX5_digest_61 rfl ?_
              refine s_V20 hK dX5_digest_63 kV_X5_137 (by first | assumption | exact H.1 | exact H.2.1) (by rfl) ?_
              refine c_aboutCell _ h6 ok.2 (by omega) (by omega) C.2.1 ?_
              refine s_i2l hK dX5_digest_66 ?_
              refine s_ladd hK dX5_digest_67 ?_
              refine s_lstore_n hK dX5_digest_68 rfl ?_
              refine s_iinck hK (v := 1) dX5_digest_69 rfl (by decide) rfl ?_
              refine s_goto hK dX5_digest_72 45 (by decide) ?_
              rw [nI_1]
              exact ih2 (j + 1) (by omega)
        exact inner 5 0 (by omega)
  refine s_ldc2_w hK dX5_digest_0 kC_X5_192 ?_
  refine s_lstore_n hK dX5_digest_3 rfl ?_
  refine s_iconst hK (v := 0) dX5_digest_4 (by decide) ?_
  refine s_istore_n hK dX5_digest_5 rfl ?_
  have loopA : ∀ m i, i + m = 10 → K 6 [some (.ref a), some (.long (digA S i)), none, some (.int (nI i)), none] [] h mc ms := by
    intro m
    induction m with
    | zero =>
      intro i hi
      obtain rfl : i = 10 := by omega
      refine s_iload_n hK dX5_digest_6 rfl ?_
      refine s_bipush hK (v := 10) dX5_digest_7 (by decide) ?_
      refine s_icmpge hK dX5_digest_9 34 (by decide) (fun c_9 => ?_) (fun c_9 => ?_)
      · refine s_iconst hK (v := 0) dX5_digest_34 (by decide) ?_
        refine s_istore_n hK dX5_digest_35 rfl ?_
        exact loopB 63 0 none (by omega)
      · exact absurd (Int32.le_refl (nI 10)) c_9
    | succ m ih =>
      intro i hi
      refine s_iload_n hK dX5_digest_6 rfl ?_
      refine s_bipush hK (v := 10) dX5_digest_7 (by decide) ?_
      refine s_icmpge hK dX5_digest_9 34 (by decide) (fun c_9 => ?_) (fun c_9 => ?_)
      · exact absurd c_9 (nI_ge (b := 10) (by omega) (by omega))
      · refine s_lload_n hK dX5_digest_12 rfl ?_
        refine s_ldc2_w hK dX5_digest_13 kC_X5_194 ?_
        refine s_lmul hK dX5_digest_16 ?_
        refine s_aload_n hK dX5_digest_17 rfl ?_
        refine s_getfield hK dX5_digest_18 kF_X5_10 (by first | assumption | exact H.1 | exact H.2.1) (by rfl) ?_
        refine s_iload_n hK dX5_digest_21 rfl ?_
        refine s_V10 hK dX5_digest_22 kV_X5_143 (by first | assumption | exact H.1 | exact H.2.1) (by rfl) ?_
        refine c_aboutAll _ h6 (by omega) C.2.1 ?_
        refine s_i2l hK dX5_digest_25 ?_
        refine s_ladd hK dX5_digest_26 ?_
        refine s_lstore_n hK dX5_digest_27 rfl ?_
        refine s_iinck hK (v := 1) dX5_digest_28 rfl (by decide) rfl ?_
        refine s_goto hK dX5_digest_31 6 (by decide) ?_
        rw [nI_1]
        exact ih (i + 1) (by omega)
  exact loopA 10 0 (by omega)
