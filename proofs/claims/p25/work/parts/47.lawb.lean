/-! the law: what it asks before an hour -/
set_option maxRecDepth 10000 in
theorem l_ask {K : gK} (hK : gClosed (gSafe 10) mL_law 11 lwPost lwX (fun _ => none) K) {a b L t : Nat} {xs : Nat → Int32} {n n' m : Nat → Nat} {S : CS} {i : Nat} (I : InvC S i) {q6 q7 k : Nat} (hk : k < S.2.2.2.1) {h : gH} (W_0 : LW h a b L xs n n' m S S) (R6_0 : Rw h q6 S.2.2.2.1 8 (fun k w => nI (trG S.2.2.1 k w)) (k + 1) 0) (A7_0 : Ar h q7 S.2.2.2.1 (fun k => stpF S.1 (S.2.2.1 k 0) (S.2.2.1 k 2) (mpG S.2.2.1 k)) (k + 1)) (B6 : ∀ p, q6 ≤ p → p < q6 + (S.2.2.2.1 + 1) → ow a b n n' m (8 + S.2.2.2.1) p) (o7 : ow a b n n' m (8 + S.2.2.2.1) q7) {z4 : Int32} {l9 l10 l11 l12 l13 l14 l15 l16 l17 l18 l19 l20 l21 l22 l23 l24 l25 : Option Value} {bc bs : Nat} (hbc : 10 ≤ bc) (hbs : 60 ≤ bs) (next : ∀ h' l9 bc' bs', LW h' a b L xs n n' m S S → Rw h' q6 S.2.2.2.1 8 (fun k w => nI (trG S.2.2.1 k w)) (k + 1) 0 → Ar h' q7 S.2.2.2.1 (fun k => stpF S.1 (S.2.2.1 k 0) (S.2.2.1 k 2) (mpG S.2.2.1 k)) (k + 1) → bc ≤ bc' + 8 → bs ≤ bs' + 48 → K 298 [some (.ref b), some (.ref a), some (.ref (m 0)), some (.int (nI t)), some (.int z4), some (.int (nI S.2.2.2.1)), some (.ref (q6)), some (.ref (q7)), some (.int (nI k)), l9, l10, l11, l12, l13, l14, l15, l16, l17, l18, l19, l20, l21, l22, l23, l24, l25] [] h' bc' bs') : K 169 [some (.ref b), some (.ref a), some (.ref (m 0)), some (.int (nI t)), some (.int z4), some (.int (nI S.2.2.2.1)), some (.ref (q6)), some (.ref (q7)), some (.int (nI k)), l9, l10, l11, l12, l13, l14, l15, l16, l17, l18, l19, l20, l21, l22, l23, l24, l25] [] h bc bs := by
  have V := I.1
  have ok := V.1
  have g6 := ok.1
  obtain ⟨go0, go1, go2, go3⟩ := ok.2 k (by omega)
  have Ca := W_0.1.1
  refine s_aload_n hK dL_law_169 rfl ?_
  refine s_iload hK dL_law_170 rfl ?_
  refine s_V1 hK (mc := 4) (ms := 24) dL_law_172 kV_L_140 (by assumption) (by rfl) (by omega) (by omega) ?_
  refine c_next _ W_0.1 ok (by omega) (by omega) (gDone_of (fNext_n hk g6) (fun h1 C1 F1 => ?_))
  have W_1 := W_0.cls C1 F1
  have Ca := W_1.1.1
  have R6_1 := R6_0.kp B6 (Kp.cls F1)
  have A7_1 := A7_0.kp o7 (Kp.cls F1)
  obtain ⟨f6, r1, r2⟩ := R6_1.row0 hk (by omega : k < k + 1)
  have r2 : ∀ w', w' < 8 → f6 w' = nI (trG S.2.2.1 k w') := r2
  obtain ⟨f7, y1, y2⟩ := A7_1.at_ hk (by omega : k < k + 1)
  have y2 : f7 k = stpF S.1 (S.2.2.1 k 0) (S.2.2.1 k 2) (mpG S.2.2.1 k) := y2
  have nn := nxt_ne (mp := mpG S.2.2.1 k) V.2.1 go0 go2
  have on := oI_neg (o := nxtF S.1 (S.2.2.1 k 0) (S.2.2.1 k 2) (mpG S.2.2.1 k)) (fun b hb => (nxtF_ok go0 hb).1)
  have s0 := stp_0 (L := S.1) (fr := S.2.2.1 k 0) (go := S.2.2.1 k 2) (mp := mpG S.2.2.1 k)
  have three : K 258 [some (.ref b), some (.ref a), some (.ref (m 0)), some (.int (nI t)), some (.int z4), some (.int (nI S.2.2.2.1)), some (.ref (q6)), some (.ref (q7)), some (.int (nI k)), some (.int (oI (nxtF S.1 (S.2.2.1 k 0) (S.2.2.1 k 2) (mpG S.2.2.1 k)))), l10, l11, l12, l13, l14, l15, l16, l17, l18, l19, l20, l21, l22, l23, l24, l25] [] h1 (bc - 4) (bs - 24) := by
    refine s_iload hK dL_law_258 rfl ?_
    refine s_iflt hK dL_law_260 298 (by decide) (fun c_260 => ?_) (fun c_260 => ?_)
    · exact next h1 _ _ _ W_1 R6_1 A7_1 (by omega) (by omega)
    · refine s_aload hK dL_law_263 rfl ?_
      refine s_iload hK dL_law_265 rfl ?_
      refine s_aaload hK dL_law_267 R6_1.1 rfl hk (by omega) (if_pos hk) ?_
      refine s_iconst hK (v := nI 5) dL_law_268 (by decide) ?_
      refine s_ialoadN hK dL_law_269 r1 (show 5 < 8 by omega) (by omega) ?_
      rw [r2 5 (by omega)]
      refine s_ifne hK dL_law_270 298 (by decide) (fun c_270 => ?_) (fun c_270 => ?_)
      · exact next h1 _ _ _ W_1 R6_1 A7_1 (by omega) (by omega)
      · have e3 : S.2.2.1 k 3 = 0 := (nI_eq (b := 0) (by omega) (by omega)).mp c_270
        have em : mpG S.2.2.1 k = false := decide_eq_false (by omega)
        have hne : nxtF S.1 (S.2.2.1 k 0) (S.2.2.1 k 2) (mpG S.2.2.1 k) ≠ none := on.mp (Int32.not_lt.mp c_260)
        obtain ⟨d, ed⟩ := Option.ne_none_iff_exists'.mp hne
        rw [em] at ed
        obtain ⟨hd, nb, nw⟩ := nxt_wall V.2.1 go0 go2 ed
        rw [em, ed]
        refine s_aload_n hK dL_law_273 rfl ?_
        refine s_aload hK dL_law_274 rfl ?_
        refine s_iload hK dL_law_276 rfl ?_
        refine s_aaload hK dL_law_278 R6_1.1 rfl hk (by omega) (if_pos hk) ?_
        refine s_iconst hK (v := nI 0) dL_law_279 (by decide) ?_
        refine s_ialoadN hK dL_law_280 r1 (show 0 < 8 by omega) (by omega) ?_
        rw [r2 0 (by omega)]
        refine s_aload hK dL_law_281 rfl ?_
        refine s_iload hK dL_law_283 rfl ?_
        refine s_aaload hK dL_law_285 R6_1.1 rfl hk (by omega) (if_pos hk) ?_
        refine s_iconst hK (v := nI 1) dL_law_286 (by decide) ?_
        refine s_ialoadN hK dL_law_287 r1 (show 1 < 8 by omega) (by omega) ?_
        rw [r2 1 (by omega)]
        refine s_iload hK dL_law_288 rfl ?_
        refine s_V3 hK (mc := 4) (ms := 24) dL_law_290 kV_L_143 (by assumption) (by rfl) (by omega) (by omega) ?_
        refine c_walled _ W_1.1 (by omega) (by omega) (gDone_of (fWalled_c go0 hd) (fun h2 C2 F2 => ?_))
        rw [nb, nw]
        refine s_ifeq hK dL_law_293 298 (by decide) (fun c_293 => ?_) (fun c_293 => ?_)
        · exact next h2 _ _ _ (W_1.cls C2 F2) (R6_1.kp B6 (Kp.cls F2)) (A7_1.kp o7 (Kp.cls F2)) (by omega) (by omega)
        · exact absurd rfl c_293
  have two : K 203 [some (.ref b), some (.ref a), some (.ref (m 0)), some (.int (nI t)), some (.int z4), some (.int (nI S.2.2.2.1)), some (.ref (q6)), some (.ref (q7)), some (.int (nI k)), some (.int (oI (nxtF S.1 (S.2.2.1 k 0) (S.2.2.1 k 2) (mpG S.2.2.1 k)))), l10, l11, l12, l13, l14, l15, l16, l17, l18, l19, l20, l21, l22, l23, l24, l25] [] h1 (bc - 4) (bs - 24) := by
    refine s_aload hK dL_law_203 rfl ?_
    refine s_iload hK dL_law_205 rfl ?_
    refine s_ialoadN hK dL_law_207 y1 hk (by omega) ?_
    rw [y2]
    have rest : ∀ v : Int32, v = b01 (decide (S.2.2.1 k 0 = S.2.2.1 k 2)) → K 216 [some (.ref b), some (.ref a), some (.ref (m 0)), some (.int (nI t)), some (.int z4), some (.int (nI S.2.2.2.1)), some (.ref (q6)), some (.ref (q7)), some (.int (nI k)), some (.int (oI (nxtF S.1 (S.2.2.1 k 0) (S.2.2.1 k 2) (mpG S.2.2.1 k)))), l10, l11, l12, l13, l14, l15, l16, l17, l18, l19, l20, l21, l22, l23, l24, l25] [.int v] h1 (bc - 4) (bs - 24) := by
      intro v hv
      have cmp : ∀ w : Int32, w = b01 (decide (S.2.2.1 k 0 = S.2.2.1 k 2)) → K 255 [some (.ref b), some (.ref a), some (.ref (m 0)), some (.int (nI t)), some (.int z4), some (.int (nI S.2.2.2.1)), some (.ref (q6)), some (.ref (q7)), some (.int (nI k)), some (.int (oI (nxtF S.1 (S.2.2.1 k 0) (S.2.2.1 k 2) (mpG S.2.2.1 k)))), l10, l11, l12, l13, l14, l15, l16, l17, l18, l19, l20, l21, l22, l23, l24, l25] [.int w, .int v] h1 (bc - 4) (bs - 24) := by
        intro w hw
        rw [hv, hw]
        refine s_icmpne hK dL_law_255 296 (by decide) (fun c_255 => ?_) (fun c_255 => ?_)
        · exact absurd rfl c_255
        · exact three
      refine s_aload hK dL_law_216 rfl ?_
      refine s_iload hK dL_law_218 rfl ?_
      refine s_aaload hK dL_law_220 R6_1.1 rfl hk (by omega) (if_pos hk) ?_
      refine s_iconst hK (v := nI 0) dL_law_221 (by decide) ?_
      refine s_ialoadN hK dL_law_222 r1 (show 0 < 8 by omega) (by omega) ?_
      rw [r2 0 (by omega)]
      refine s_aload hK dL_law_223 rfl ?_
      refine s_iload hK dL_law_225 rfl ?_
      refine s_aaload hK dL_law_227 R6_1.1 rfl hk (by omega) (if_pos hk) ?_
      refine s_iconst hK (v := nI 3) dL_law_228 (by decide) ?_
      refine s_ialoadN hK dL_law_229 r1 (show 3 < 8 by omega) (by omega) ?_
      rw [r2 3 (by omega)]
      refine s_icmpne hK dL_law_230 254 (by decide) (fun c_230 => ?_) (fun c_230 => ?_)
      · have ne : ¬ S.2.2.1 k 0 = S.2.2.1 k 2 := fun z => c_230 (by show nI (S.2.2.1 k 0 % 9) = nI (S.2.2.1 k 2 % 9); rw [z])
        refine s_iconst hK (v := 0) dL_law_254 (by decide) ?_
        refine cmp _ ?_
        rw [decide_eq_false ne]
        rfl
      · have q1 : S.2.2.1 k 0 % 9 = S.2.2.1 k 2 % 9 := (nI_eq (by omega) (by omega)).mp c_230
        refine s_aload hK dL_law_233 rfl ?_
        refine s_iload hK dL_law_235 rfl ?_
        refine s_aaload hK dL_law_237 R6_1.1 rfl hk (by omega) (if_pos hk) ?_
        refine s_iconst hK (v := nI 1) dL_law_238 (by decide) ?_
        refine s_ialoadN hK dL_law_239 r1 (show 1 < 8 by omega) (by omega) ?_
        rw [r2 1 (by omega)]
        refine s_aload hK dL_law_240 rfl ?_
        refine s_iload hK dL_law_242 rfl ?_
        refine s_aaload hK dL_law_244 R6_1.1 rfl hk (by omega) (if_pos hk) ?_
        refine s_iconst hK (v := nI 4) dL_law_245 (by decide) ?_
        refine s_ialoadN hK dL_law_246 r1 (show 4 < 8 by omega) (by omega) ?_
        rw [r2 4 (by omega)]
        refine s_icmpne hK dL_law_247 254 (by decide) (fun c_247 => ?_) (fun c_247 => ?_)
        · have ne : ¬ S.2.2.1 k 0 = S.2.2.1 k 2 := fun z => c_247 (by show nI (S.2.2.1 k 0 / 9) = nI (S.2.2.1 k 2 / 9); rw [z])
          refine s_iconst hK (v := 0) dL_law_254 (by decide) ?_
          refine cmp _ ?_
          rw [decide_eq_false ne]
          rfl
        · have q2 : S.2.2.1 k 0 / 9 = S.2.2.1 k 2 / 9 := (nI_eq (by omega) (by omega)).mp c_247
          refine s_iconst hK (v := 1) dL_law_250 (by decide) ?_
          refine s_goto hK dL_law_251 255 (by decide) ?_
          refine cmp _ ?_
          rw [decide_eq_true (by omega)]
          rfl
    refine s_ifne hK dL_law_208 215 (by decide) (fun c_208 => ?_) (fun c_208 => ?_)
    · refine s_iconst hK (v := 0) dL_law_215 (by decide) ?_
      refine rest _ ?_
      rw [decide_eq_false (fun z => c_208 (s0.mpr z))]
      rfl
    · refine s_iconst hK (v := 1) dL_law_211 (by decide) ?_
      refine s_goto hK dL_law_212 216 (by decide) ?_
      refine rest _ ?_
      rw [decide_eq_true (s0.mp c_208)]
      rfl
  refine s_istore hK dL_law_175 rfl ?_
  refine s_iload hK dL_law_177 rfl ?_
  by_cases hs : 0 < stpF S.1 (S.2.2.1 k 0) (S.2.2.1 k 2) (mpG S.2.2.1 k)
  · have od := on.mpr (nn.mpr hs)
    refine s_iflt hK dL_law_179 186 (by decide) (fun c_179 => ?_) (fun c_179 => ?_)
    · exact absurd c_179 (Int32.not_lt.mpr od)
    · refine s_iconst hK (v := 1) dL_law_182 (by decide) ?_
      refine s_goto hK dL_law_183 187 (by decide) ?_
      refine s_aload hK dL_law_187 rfl ?_
      refine s_iload hK dL_law_189 rfl ?_
      refine s_ialoadN hK dL_law_191 y1 hk (by omega) ?_
      rw [y2]
      refine s_ifle hK dL_law_192 199 (by decide) (fun c_192 => ?_) (fun c_192 => ?_)
      · exact absurd hs (Int32.not_lt.mpr c_192)
      · refine s_iconst hK (v := 1) dL_law_195 (by decide) ?_
        refine s_goto hK dL_law_196 200 (by decide) ?_
        refine s_icmpne hK dL_law_200 296 (by decide) (fun c_200 => ?_) (fun c_200 => ?_)
        · exact absurd rfl c_200
        · exact two
  · have od : ¬ 0 ≤ oI (nxtF S.1 (S.2.2.1 k 0) (S.2.2.1 k 2) (mpG S.2.2.1 k)) := fun z => hs (nn.mp (on.mp z))
    refine s_iflt hK dL_law_179 186 (by decide) (fun c_179 => ?_) (fun c_179 => ?_)
    · refine s_iconst hK (v := 0) dL_law_186 (by decide) ?_
      refine s_aload hK dL_law_187 rfl ?_
      refine s_iload hK dL_law_189 rfl ?_
      refine s_ialoadN hK dL_law_191 y1 hk (by omega) ?_
      rw [y2]
      refine s_ifle hK dL_law_192 199 (by decide) (fun c_192 => ?_) (fun c_192 => ?_)
      · refine s_iconst hK (v := 0) dL_law_199 (by decide) ?_
        refine s_icmpne hK dL_law_200 296 (by decide) (fun c_200 => ?_) (fun c_200 => ?_)
        · exact absurd rfl c_200
        · exact two
      · exact absurd (Int32.not_le.mp c_192) hs
    · exact absurd (Int32.not_lt.mp c_179) od
set_option maxRecDepth 10000 in
theorem l_was {K : gK} (hK : gClosed (gSafe 10) mL_law 11 lwPost lwX (fun _ => none) K) {a b L t : Nat} {xs : Nat → Int32} {n n' m : Nat → Nat} {S : CS} {i : Nat} (I : InvC S i) {h : gH} (W_0 : LW h a b L xs n n' m S S) {z4 : Int32} {l5 l6 l7 l8 l9 l10 l11 l12 l13 l14 l15 l16 l17 l18 l19 l20 l21 l22 l23 l24 l25 : Option Value} {bc bs : Nat} (hbc : 400 ≤ bc) (hbs : 2500 ≤ bs) (next : ∀ h' q6 q7 l8 l9 bc' bs', LW h' a b L xs n n' m S S → Rw h' q6 S.2.2.2.1 8 (fun k w => nI (trG S.2.2.1 k w)) S.2.2.2.1 0 → Ar h' q7 S.2.2.2.1 (fun k => stpF S.1 (S.2.2.1 k 0) (S.2.2.1 k 2) (mpG S.2.2.1 k)) S.2.2.2.1 → (∀ p, q6 ≤ p → p < q6 + (S.2.2.2.1 + 1) → ow a b n n' m (8 + S.2.2.2.1) p) → ow a b n n' m (8 + S.2.2.2.1) q7 → bc ≤ bc' + 400 → bs ≤ bs' + 2500 → K 304 [some (.ref b), some (.ref a), some (.ref (m 0)), some (.int (nI t)), some (.int z4), some (.int (nI S.2.2.2.1)), some (.ref (q6)), some (.ref (q7)), l8, l9, l10, l11, l12, l13, l14, l15, l16, l17, l18, l19, l20, l21, l22, l23, l24, l25] [] h' bc' bs') : K 79 [some (.ref b), some (.ref a), some (.ref (m 0)), some (.int (nI t)), some (.int z4), l5, l6, l7, l8, l9, l10, l11, l12, l13, l14, l15, l16, l17, l18, l19, l20, l21, l22, l23, l24, l25] [] h bc bs := by
  have V := I.1
  have ok := V.1
  have g6 := ok.1
  have Ca := W_0.1.1
  refine s_aload_n hK dL_law_79 rfl ?_
  refine s_iconst hK (v := nI 1) dL_law_80 (by decide) ?_
  refine s_V1 hK (mc := 4) (ms := 24) dL_law_81 kV_L_131 (by assumption) (by rfl) (by omega) (by omega) ?_
  refine c_count _ W_0.1 ok (by omega) (by omega) (gDone_of (v := nI S.2.2.2.1) (fCount_n (w := 1) (by omega)) (fun h1 C1 F1 => ?_))
  have W_1 := W_0.cls C1 F1
  refine s_istore hK dL_law_84 rfl ?_
  refine s_iload hK dL_law_86 rfl ?_
  refine s_bipush hK (v := 8) dL_law_88 (by decide) ?_
  refine s_mna2 hK (nm := "[[I") (N := S.2.2.2.1) (M := 8) dL_law_90 rfl kA_L_134 (nI_pos (by omega)) (nI_clamp (by omega)) (by decide) (by decide) (by omega) (by omega) (by omega) (by omega) (fun q6 Q6 => ?_)
  have N2 := G2_nw (n := S.2.2.2.1) 2 0 8 Q6
  have R6_2 := Rw0 h1 q6 S.2.2.2.1 8 (fun k w => nI (trG S.2.2.1 k w))
  have B6 : ∀ p, q6 ≤ p → p < q6 + (S.2.2.2.1 + 1) → ow a b n n' m (8 + S.2.2.2.1) p := fun p p1 p2 => W_1.fresh (th_new Q6 p p1 p2)
  have W_2 := W_1.nw N2
  generalize gG2 h1 q6 2 0 S.2.2.2.1 8 = h2 at R6_2 W_2 ⊢
  clear N2
  refine s_astore hK dL_law_94 rfl ?_
  refine s_iload hK dL_law_96 rfl ?_
  refine s_newI hK (N := S.2.2.2.1) dL_law_98 (by omega) (by omega) (by omega) (fun q7 h3 Q7 N3 A7 => ?_)
  have o7 : ow a b n n' m (8 + S.2.2.2.1) q7 := W_2.fresh Q7
  have o67 := R6_2.out Q7
  have W_3 := W_2.nw N3
  have R6_3 := R6_2.kp B6 (Kp.nw N3)
  have A7_3 : Ar h3 q7 S.2.2.2.1 (fun k => stpF S.1 (S.2.2.1 k 0) (S.2.2.1 k 2) (mpG S.2.2.1 k)) 0 := ⟨_, A7, fun j _ hj => absurd hj (Nat.not_lt_zero _)⟩
  clear A7 N3
  refine s_astore hK dL_law_100 rfl ?_
  refine s_iconst hK (v := 0) dL_law_102 (by decide) ?_
  refine s_istore hK dL_law_103 rfl ?_
  have hbc : 50 * S.2.2.2.1 ≤ bc - 4 - (1 + S.2.2.2.1) - 1 := by omega
  have hbs : 350 * S.2.2.2.1 ≤ bs - 24 - (S.2.2.2.1 + S.2.2.2.1 * 8) - S.2.2.2.1 := by omega
  have ubc : bc ≤ bc - 4 - (1 + S.2.2.2.1) - 1 + 20 := by omega
  have ubs : bs ≤ bs - 24 - (S.2.2.2.1 + S.2.2.2.1 * 8) - S.2.2.2.1 + 100 := by omega
  generalize bc - 4 - (1 + S.2.2.2.1) - 1 = bc1 at hbc ubc ⊢
  generalize bs - 24 - (S.2.2.2.1 + S.2.2.2.1 * 8) - S.2.2.2.1 = bs1 at hbs ubs ⊢
  have loop : ∀ j k, k + j = S.2.2.2.1 → ∀ h3 l9 bc' bs', LW h3 a b L xs n n' m S S → Rw h3 q6 S.2.2.2.1 8 (fun k w => nI (trG S.2.2.1 k w)) k 0 → Ar h3 q7 S.2.2.2.1 (fun k => stpF S.1 (S.2.2.1 k 0) (S.2.2.1 k 2) (mpG S.2.2.1 k)) k → 50 * j ≤ bc' → 350 * j ≤ bs' → bc1 ≤ bc' + 50 * k → bs1 ≤ bs' + 350 * k → K 105 [some (.ref b), some (.ref a), some (.ref (m 0)), some (.int (nI t)), some (.int z4), some (.int (nI S.2.2.2.1)), some (.ref (q6)), some (.ref (q7)), some (.int (nI k)), l9, l10, l11, l12, l13, l14, l15, l16, l17, l18, l19, l20, l21, l22, l23, l24, l25] [] h3 bc' bs' := by
    intro j
    induction j with
    | zero =>
      intro k hk h3 l9 bc' bs' W_3 R6_3 A7_3 hbc hbs u1 u2
      obtain rfl : k = S.2.2.2.1 := by omega
      refine s_iload hK dL_law_105 rfl ?_
      refine s_iload hK dL_law_107 rfl ?_
      refine s_icmpge hK dL_law_109 304 (by decide) (fun c_109 => ?_) (fun c_109 => ?_)
      · exact next h3 q6 q7 _ _ _ _ W_3 R6_3 A7_3 B6 o7 (by omega) (by omega)
      · exact absurd (Int32.le_refl _) c_109
    | succ j ih =>
      intro k hk h3 l9 bc' bs' W_3 R6_3 A7_3 hbc hbs u1 u2
      have hkg : k < S.2.2.2.1 := by omega
      obtain ⟨go0, go1, go2, go3⟩ := ok.2 k (by omega)
      refine s_iload hK dL_law_105 rfl ?_
      refine s_iload hK dL_law_107 rfl ?_
      refine s_icmpge hK dL_law_109 304 (by decide) (fun c_109 => ?_) (fun c_109 => ?_)
      · exact absurd c_109 (nI_ge (by omega) (by omega))
      · refine s_iconst hK (v := 0) dL_law_112 (by decide) ?_
        refine s_istore hK dL_law_113 rfl ?_
        have inner : ∀ jj w, w + jj = 8 → ∀ h3 bc'' bs'', LW h3 a b L xs n n' m S S → Rw h3 q6 S.2.2.2.1 8 (fun k w => nI (trG S.2.2.1 k w)) k w → Ar h3 q7 S.2.2.2.1 (fun k => stpF S.1 (S.2.2.1 k 0) (S.2.2.1 k 2) (mpG S.2.2.1 k)) k → 50 * j + 18 + 4 * jj ≤ bc'' → 350 * j + 108 + 24 * jj ≤ bs'' → bc' ≤ bc'' + 4 * w → bs' ≤ bs'' + 24 * w → K 115 [some (.ref b), some (.ref a), some (.ref (m 0)), some (.int (nI t)), some (.int z4), some (.int (nI S.2.2.2.1)), some (.ref (q6)), some (.ref (q7)), some (.int (nI k)), some (.int (nI w)), l10, l11, l12, l13, l14, l15, l16, l17, l18, l19, l20, l21, l22, l23, l24, l25] [] h3 bc'' bs'' := by
          intro jj
          induction jj with
          | zero =>
            intro w hw h3 bc'' bs'' W_3 R6_3 A7_3 hbc'' hbs'' v1 v2
            obtain rfl : w = 8 := by omega
            refine s_iload hK dL_law_115 rfl ?_
            refine s_bipush hK (v := 8) dL_law_117 (by decide) ?_
            refine s_icmpge hK dL_law_119 144 (by decide) (fun c_119 => ?_) (fun c_119 => ?_)
            · have R6_3 := R6_3.row
              have Ca := W_3.1.1
              obtain ⟨f6, r1, r2⟩ := R6_3.row0 hkg (by omega : k < k + 1)
              have r2 : ∀ w', w' < 8 → f6 w' = nI (trG S.2.2.1 k w') := r2
              refine s_aload hK dL_law_144 rfl ?_
              refine s_iload hK dL_law_146 rfl ?_
              refine s_aload_n hK dL_law_148 rfl ?_
              refine s_iload hK dL_law_149 rfl ?_
              refine s_aload hK dL_law_151 rfl ?_
              refine s_iload hK dL_law_153 rfl ?_
              refine s_aaload hK dL_law_155 R6_3.1 rfl hkg (by omega) (if_pos hkg) ?_
              refine s_iconst hK (v := nI 3) dL_law_156 (by decide) ?_
              refine s_ialoadN hK dL_law_157 r1 (show 3 < 8 by omega) (by omega) ?_
              rw [r2 3 (by omega)]
              refine s_aload hK dL_law_158 rfl ?_
              refine s_iload hK dL_law_160 rfl ?_
              refine s_aaload hK dL_law_162 R6_3.1 rfl hkg (by omega) (if_pos hkg) ?_
              refine s_iconst hK (v := nI 4) dL_law_163 (by decide) ?_
              refine s_ialoadN hK dL_law_164 r1 (show 4 < 8 by omega) (by omega) ?_
              rw [r2 4 (by omega)]
              refine s_V3 hK (mc := 4) (ms := 24) dL_law_165 kV_L_138 (by assumption) (by rfl) (by omega) (by omega) ?_
              refine c_way _ W_3.1 ok (by omega) (by omega) (gDone_of (fWay_n hkg g6 go2) (fun h4 C4 F4 => ?_))
              have W_4 := W_3.cls C4 F4
              have R6_4 := R6_3.kp B6 (Kp.cls F4)
              have A7_4 := A7_3.kp o7 (Kp.cls F4)
              obtain ⟨f7, y1, y2⟩ := A7_4.put
              refine s_iastoreN hK dL_law_168 y1 hkg (by omega) ?_
              have W_5 := W_4.own o7 (.inl (0, S.2.2.2.1, .inl (upd f7 k (stpF S.1 (S.2.2.1 k 0) (S.2.2.1 k 2) (mpG S.2.2.1 k)))))
              have R6_5 := R6_4.ne o67 (.inl (0, S.2.2.2.1, .inl (upd f7 k (stpF S.1 (S.2.2.1 k 0) (S.2.2.1 k 2) (mpG S.2.2.1 k)))))
              refine l_ask hK I hkg W_5 R6_5 y2 B6 o7 (by omega) (by omega) (fun h6 l9 bc3 bs3 W_6 R6_6 A7_6 x1 x2 => ?_)
              refine s_iinck hK (v := 1) dL_law_298 rfl (by decide) rfl ?_
              refine s_goto hK dL_law_301 105 (by decide) ?_
              rw [nI_1]
              exact ih (k + 1) (by omega) h6 _ _ _ W_6 R6_6 A7_6 (by omega) (by omega) (by omega) (by omega)
            · exact absurd (Int32.le_refl (nI 8)) c_119
          | succ jj ihj =>
            intro w hw h3 bc'' bs'' W_3 R6_3 A7_3 hbc'' hbs'' v1 v2
            have Ca := W_3.1.1
            have hw8 : w < 8 := by omega
            refine s_iload hK dL_law_115 rfl ?_
            refine s_bipush hK (v := 8) dL_law_117 (by decide) ?_
            refine s_icmpge hK dL_law_119 144 (by decide) (fun c_119 => ?_) (fun c_119 => ?_)
            · exact absurd c_119 (nI_ge (b := 8) (by omega) (by omega))
            · refine s_aload hK dL_law_122 rfl ?_
              refine s_iload hK dL_law_124 rfl ?_
              refine s_aaload hK dL_law_126 R6_3.1 rfl hkg (by omega) (if_pos hkg) ?_
              refine s_iload hK dL_law_127 rfl ?_
              refine s_aload_n hK dL_law_129 rfl ?_
              refine s_iload hK dL_law_130 rfl ?_
              refine s_iload hK dL_law_132 rfl ?_
              refine s_V2 hK (mc := 4) (ms := 24) dL_law_134 kV_L_135 (by assumption) (by rfl) (by omega) (by omega) ?_
              refine c_ghost _ W_3.1 ok (by omega) (by omega) (gDone_of (fGhost_n hkg g6 hw8) (fun h4 C4 F4 => ?_))
              have W_4 := W_3.cls C4 F4
              have R6_4 := R6_3.kp B6 (Kp.cls F4)
              have A7_4 := A7_3.kp o7 (Kp.cls F4)
              obtain ⟨f6, r1, -⟩ := R6_4.2 k hkg
              refine s_iastoreN hK dL_law_137 r1 hw8 (by omega) ?_
              have W_5 := W_4.own (B6 (q6 + 1 + k) (by omega) (by omega)) (.inl (0, 8, .inl (upd f6 w (nI (trG S.2.2.1 k w)))))
              have R6_5 := R6_4.put hkg hw8 r1
              have A7_5 := A7_4.ne (p := q6 + 1 + k) (fun z => o67 ⟨by omega, by omega⟩) (.inl (0, 8, .inl (upd f6 w (nI (trG S.2.2.1 k w)))))
              refine s_iinck hK (v := 1) dL_law_138 rfl (by decide) rfl ?_
              refine s_goto hK dL_law_141 115 (by decide) ?_
              rw [nI_1]
              exact ihj (w + 1) (by omega) _ _ _ W_5 R6_5 A7_5 (by omega) (by omega) (by omega) (by omega)
        exact inner 8 0 (by omega) h3 _ _ W_3 R6_3 A7_3 (by omega) (by omega) (by omega) (by omega)
  exact loop S.2.2.2.1 0 (by omega) h3 _ _ _ W_3 R6_3 A7_3 (by omega) (by omega) (by omega) (by omega)
set_option maxRecDepth 10000 in
theorem l_val {K : gK} (hK : gClosed (gSafe 10) mL_law 11 lwPost lwX (fun _ => none) K) {a b L t : Nat} {xs : Nat → Int32} {n n' m : Nat → Nat} {S : CS} {i : Nat} (I : InvC S i) {q6 q7 : Nat} {h : gH} (W_0 : LW h a b L xs n n' m S S) (R6_0 : Rw h q6 S.2.2.2.1 8 (fun k w => nI (trG S.2.2.1 k w)) S.2.2.2.1 0) (A7_0 : Ar h q7 S.2.2.2.1 (fun k => stpF S.1 (S.2.2.1 k 0) (S.2.2.1 k 2) (mpG S.2.2.1 k)) S.2.2.2.1) (B6 : ∀ p, q6 ≤ p → p < q6 + (S.2.2.2.1 + 1) → ow a b n n' m (8 + S.2.2.2.1) p) (o7 : ow a b n n' m (8 + S.2.2.2.1) q7) {z4 : Int32} {l8 l9 l10 l11 l12 l13 l14 l15 l16 l17 l18 l19 l20 l21 l22 l23 l24 l25 : Option Value} {bc bs : Nat} (hbc : 900 ≤ bc) (hbs : 5500 ≤ bs) (next : ∀ h' q8 l9 l10 bc' bs', LW h' a b L xs n n' m S S → Rw h' q6 S.2.2.2.1 8 (fun k w => nI (trG S.2.2.1 k w)) S.2.2.2.1 0 → Ar h' q7 S.2.2.2.1 (fun k => stpF S.1 (S.2.2.1 k 0) (S.2.2.1 k 2) (mpG S.2.2.1 k)) S.2.2.2.1 → Rw h' q8 63 3 (fun c w => tCell S.1 S.2.1 S.2.2.1 S.2.2.2.1 c w) 63 0 → (∀ p, q8 ≤ p → p < q8 + (63 + 1) → ow a b n n' m (8 + S.2.2.2.1) p) → bc ≤ bc' + 900 → bs ≤ bs' + 5500 → K 368 [some (.ref b), some (.ref a), some (.ref (m 0)), some (.int (nI t)), some (.int z4), some (.int (nI S.2.2.2.1)), some (.ref (q6)), some (.ref (q7)), some (.ref (q8)), l9, l10, l11, l12, l13, l14, l15, l16, l17, l18, l19, l20, l21, l22, l23, l24, l25] [] h' bc' bs') : K 304 [some (.ref b), some (.ref a), some (.ref (m 0)), some (.int (nI t)), some (.int z4), some (.int (nI S.2.2.2.1)), some (.ref (q6)), some (.ref (q7)), l8, l9, l10, l11, l12, l13, l14, l15, l16, l17, l18, l19, l20, l21, l22, l23, l24, l25] [] h bc bs := by
  have V := I.1
  have ok := V.1
  have g6 := ok.1
  refine s_bipush hK (v := 63) dL_law_304 (by decide) ?_
  refine s_iconst hK (v := 3) dL_law_306 (by decide) ?_
  refine s_mna2 hK (nm := "[[I") (N := 63) (M := 3) dL_law_307 rfl kA_L_134 (by decide) (by decide) (by decide) (by decide) (by omega) (by omega) (by omega) (by omega) (fun q8 Q8 => ?_)
  have N2 := G2_nw (n := 63) 2 0 3 Q8
  have R8_2 := Rw0 h q8 63 3 (fun c w => tCell S.1 S.2.1 S.2.2.1 S.2.2.2.1 c w)
  have B8 : ∀ p, q8 ≤ p → p < q8 + (63 + 1) → ow a b n n' m (8 + S.2.2.2.1) p := fun p p1 p2 => W_0.fresh (th_new Q8 p p1 p2)
  have W_2 := W_0.nw N2
  have R6_2 := R6_0.kp B6 (Kp.nw N2)
  have A7_2 := A7_0.kp o7 (Kp.nw N2)
  have x68 : ∀ p, q8 ≤ p → p < q8 + (63 + 1) → ¬ (q6 ≤ p ∧ p < q6 + (S.2.2.2.1 + 1)) := fun p p1 p2 => R6_0.out (th_new Q8 p p1 p2)
  have x78 : ∀ p, q8 ≤ p → p < q8 + (63 + 1) → p ≠ q7 := fun p p1 p2 z => A7_0.th (by rw [← z]; exact th_new Q8 p p1 p2)
  generalize gG2 h q8 2 0 63 3 = h2 at R8_2 W_2 R6_2 A7_2 ⊢
  clear N2 Q8
  refine s_astore hK dL_law_311 rfl ?_
  refine s_iconst hK (v := 0) dL_law_313 (by decide) ?_
  refine s_istore hK dL_law_314 rfl ?_
  have hbc : 12 * 63 ≤ bc - (1 + 63) := by omega
  have hbs : 72 * 63 ≤ bs - (63 + 63 * 3) := by omega
  have ubc : bc ≤ bc - (1 + 63) + 100 := by omega
  have ubs : bs ≤ bs - (63 + 63 * 3) + 300 := by omega
  generalize bc - (1 + 63) = bc1 at hbc ubc ⊢
  generalize bs - (63 + 63 * 3) = bs1 at hbs ubs ⊢
  have loop : ∀ j c, c + j = 63 → ∀ h3 l10 bc' bs', LW h3 a b L xs n n' m S S → Rw h3 q6 S.2.2.2.1 8 (fun k w => nI (trG S.2.2.1 k w)) S.2.2.2.1 0 → Ar h3 q7 S.2.2.2.1 (fun k => stpF S.1 (S.2.2.1 k 0) (S.2.2.1 k 2) (mpG S.2.2.1 k)) S.2.2.2.1 → Rw h3 q8 63 3 (fun c w => tCell S.1 S.2.1 S.2.2.1 S.2.2.2.1 c w) c 0 → 12 * j ≤ bc' → 72 * j ≤ bs' → bc1 ≤ bc' + 12 * c → bs1 ≤ bs' + 72 * c → K 316 [some (.ref b), some (.ref a), some (.ref (m 0)), some (.int (nI t)), some (.int z4), some (.int (nI S.2.2.2.1)), some (.ref (q6)), some (.ref (q7)), some (.ref (q8)), some (.int (nI c)), l10, l11, l12, l13, l14, l15, l16, l17, l18, l19, l20, l21, l22, l23, l24, l25] [] h3 bc' bs' := by
    intro j
    induction j with
    | zero =>
      intro c hc h3 l10 bc' bs' W_3 R6_3 A7_3 R8_3 hbc hbs u1 u2
      obtain rfl : c = 63 := by omega
      refine s_iload hK dL_law_316 rfl ?_
      refine s_bipush hK (v := 63) dL_law_318 (by decide) ?_
      refine s_icmpge hK dL_law_320 368 (by decide) (fun c_320 => ?_) (fun c_320 => ?_)
      · exact next h3 q8 _ _ _ _ W_3 R6_3 A7_3 R8_3 B8 (by omega) (by omega)
      · exact absurd (Int32.le_refl (nI 63)) c_320
    | succ j ih =>
      intro c hc h3 l10 bc' bs' W_3 R6_3 A7_3 R8_3 hbc hbs u1 u2
      have hc63 : c < 63 := by omega
      obtain ⟨em, ed⟩ := dm9 hc63
      refine s_iload hK dL_law_316 rfl ?_
      refine s_bipush hK (v := 63) dL_law_318 (by decide) ?_
      refine s_icmpge hK dL_law_320 368 (by decide) (fun c_320 => ?_) (fun c_320 => ?_)
      · exact absurd c_320 (nI_ge (b := 63) (by omega) (by omega))
      · refine s_iconst hK (v := 0) dL_law_323 (by decide) ?_
        refine s_istore hK dL_law_324 rfl ?_
        have inner : ∀ jj w, w + jj = 3 → ∀ h3 bc'' bs'', LW h3 a b L xs n n' m S S → Rw h3 q6 S.2.2.2.1 8 (fun k w => nI (trG S.2.2.1 k w)) S.2.2.2.1 0 → Ar h3 q7 S.2.2.2.1 (fun k => stpF S.1 (S.2.2.1 k 0) (S.2.2.1 k 2) (mpG S.2.2.1 k)) S.2.2.2.1 → Rw h3 q8 63 3 (fun c w => tCell S.1 S.2.1 S.2.2.1 S.2.2.2.1 c w) c w → 12 * j + 4 * jj ≤ bc'' → 72 * j + 24 * jj ≤ bs'' → bc' ≤ bc'' + 4 * w → bs' ≤ bs'' + 24 * w → K 326 [some (.ref b), some (.ref a), some (.ref (m 0)), some (.int (nI t)), some (.int z4), some (.int (nI S.2.2.2.1)), some (.ref (q6)), some (.ref (q7)), some (.ref (q8)), some (.int (nI c)), some (.int (nI w)), l11, l12, l13, l14, l15, l16, l17, l18, l19, l20, l21, l22, l23, l24, l25] [] h3 bc'' bs'' := by
          intro jj
          induction jj with
          | zero =>
            intro w hw h3 bc'' bs'' W_3 R6_3 A7_3 R8_3 hbc'' hbs'' v1 v2
            obtain rfl : w = 3 := by omega
            refine s_iload hK dL_law_326 rfl ?_
            refine s_iconst hK (v := 3) dL_law_328 (by decide) ?_
            refine s_icmpge hK dL_law_329 362 (by decide) (fun c_329 => ?_) (fun c_329 => ?_)
            · refine s_iinck hK (v := 1) dL_law_362 rfl (by decide) rfl ?_
              refine s_goto hK dL_law_365 316 (by decide) ?_
              rw [nI_1]
              exact ih (c + 1) (by omega) h3 _ _ _ W_3 R6_3 A7_3 R8_3.row (by omega) (by omega) (by omega) (by omega)
            · exact absurd (Int32.le_refl (nI 3)) c_329
          | succ jj ihj =>
            intro w hw h3 bc'' bs'' W_3 R6_3 A7_3 R8_3 hbc'' hbs'' v1 v2
            have Ca := W_3.1.1
            have hw3 : w < 3 := by omega
            refine s_iload hK dL_law_326 rfl ?_
            refine s_iconst hK (v := 3) dL_law_328 (by decide) ?_
            refine s_icmpge hK dL_law_329 362 (by decide) (fun c_329 => ?_) (fun c_329 => ?_)
            · exact absurd c_329 (nI_ge (b := 3) (by omega) (by omega))
            · refine s_aload hK dL_law_332 rfl ?_
              refine s_iload hK dL_law_334 rfl ?_
              refine s_aaload hK dL_law_336 R8_3.1 rfl hc63 (by omega) (if_pos hc63) ?_
              refine s_iload hK dL_law_337 rfl ?_
              refine s_aload_n hK dL_law_339 rfl ?_
              refine s_iload hK dL_law_340 rfl ?_
              refine s_bipush hK (v := nI 9) dL_law_342 (by decide) ?_
              refine s_irem hK dL_law_344 (by decide) ?_
              rw [em]
              refine s_iload hK dL_law_345 rfl ?_
              refine s_bipush hK (v := nI 9) dL_law_347 (by decide) ?_
              refine s_idiv hK dL_law_349 (by decide) ?_
              rw [ed]
              refine s_iload hK dL_law_350 rfl ?_
              refine s_V3 hK (mc := 4) (ms := 24) dL_law_352 kV_L_146 (by assumption) (by rfl) (by omega) (by omega) ?_
              refine c_cell _ W_3.1 ok (by omega) (by omega) (gDone_of (fCell_c hc63 (show w < 5 by omega)) (fun h4 C4 F4 => ?_))
              have W_4 := W_3.cls C4 F4
              have R6_4 := R6_3.kp B6 (Kp.cls F4)
              have A7_4 := A7_3.kp o7 (Kp.cls F4)
              have R8_4 := R8_3.kp B8 (Kp.cls F4)
              obtain ⟨f8, r1, -⟩ := R8_4.2 c hc63
              refine s_iastoreN hK dL_law_355 r1 hw3 (by omega) ?_
              have W_5 := W_4.own (B8 (q8 + 1 + c) (by omega) (by omega)) (.inl (0, 3, .inl (upd f8 w (tCell S.1 S.2.1 S.2.2.1 S.2.2.2.1 c w))))
              have R8_5 := R8_4.put hc63 hw3 r1
              have R6_5 := R6_4.ne (x68 (q8 + 1 + c) (by omega) (by omega)) (.inl (0, 3, .inl (upd f8 w (tCell S.1 S.2.1 S.2.2.1 S.2.2.2.1 c w))))
              have A7_5 := A7_4.ne (x78 (q8 + 1 + c) (by omega) (by omega)) (.inl (0, 3, .inl (upd f8 w (tCell S.1 S.2.1 S.2.2.1 S.2.2.2.1 c w))))
              refine s_iinck hK (v := 1) dL_law_356 rfl (by decide) rfl ?_
              refine s_goto hK dL_law_359 326 (by decide) ?_
              rw [nI_1]
              exact ihj (w + 1) (by omega) _ _ _ W_5 R6_5 A7_5 R8_5 (by omega) (by omega) (by omega) (by omega)
        exact inner 3 0 (by omega) h3 _ _ W_3 R6_3 A7_3 R8_3 (by omega) (by omega) (by omega) (by omega)
  exact loop 63 0 (by omega) h2 _ _ _ W_2 R6_2 A7_2 R8_2 (by omega) (by omega) (by omega) (by omega)
