/-! the law: the cells behind the hour; its loop; its start -/
theorem cnt_z {p : Nat → Bool} : ∀ {n : Nat}, cntG p n = 0 → ∀ c, c < n → p c = false
  | 0, _, c, hc => absurd hc (Nat.not_lt_zero _)
  | n + 1, h, c, hc => by
    rw [cntG_succ] at h
    cases e : p n with
    | true =>
      rw [e, if_pos rfl] at h
      omega
    | false =>
      rw [e, if_neg (by decide)] at h
      by_cases ec : c = n
      · rw [ec]; exact e
      · exact cnt_z h c (by omega)
theorem cnt_n {p : Nat → Bool} : ∀ n, (∀ c, c < n → p c = false) → cntG p n = 0
  | 0, _ => rfl
  | n + 1, h => by
    rw [cntG_succ, h n (by omega), if_neg (by decide)]
    exact cnt_n n (fun c hc => h c (by omega))
theorem cnt_s01 (p : Nat → Bool) (c : Nat) : nI (cntG p c) + b01 (p c) = nI (cntG p (c + 1)) := by
  rw [cntG_succ]
  cases p c with
  | true =>
    rw [if_pos rfl]
    exact nI_1 _
  | false =>
    rw [if_neg (by decide)]
    exact Int32.add_zero _
set_option maxHeartbeats 1000000 in
set_option maxRecDepth 10000 in
theorem l_cell {K : gK} (hK : gClosed (gSafe 10) mL_law 11 lwPost lwX (fun _ => none) K) {a b L t : Nat} {xs : Nat → Int32} {n n' m : Nat → Nat} {S S1 : CS} {i : Nat} (I : InvC S i) (V1 : InvS S1) (hg : S1.2.2.2.1 = S.2.2.2.1) (ft : ∀ c, thg S1.1 c = thg S.1 c) (fb : ∀ c, c < 63 → lb (S1.1 1) c = true → lb (S.1 1) c = true) (fw : ∀ c, c < 63 → thg S.1 c = 1 → S1.2.1 c = S.2.1 c - b01 (lb (S.1 1) c)) (fz : ∀ c, c < 63 → ¬ thg S.1 c = 1 → ¬ thg S.1 c = 4 → S1.2.1 c = 0) (fT : ∀ c, thg S.1 c = 4 → S1.2.1 c = itM (S.2.1 c) (cntG (fun k => decide (S1.2.2.1 k 0 = c) && hx S1 k) S.2.2.2.1)) (fl : ∀ c, c < 63 → lb (S1.1 1) c = true → lb (S1.1 7) c = true) (f0 : ∀ c, lb (S1.1 1) c = true → ¬ S1.2.1 c = 0) {q6 q7 q8 q16 c : Nat} (hc : c < 63) (B8 : ∀ p, q8 ≤ p → p < q8 + (63 + 1) → ow a b n n' m (8 + S.2.2.2.1) p) (o16 : ow a b n n' m (8 + S.2.2.2.1) q16) {h : gH} (W_0 : LW h a b L xs n n' m S1 S1) (R8_0 : Rw h q8 63 3 (fun c w => tCell S.1 S.2.1 S.2.2.1 S.2.2.2.1 c w) 63 0) (H_0 : Hr h q16 S1 S.2.2.2.1) {z4 v9 v13 v14 v15 : Int32} {l21 l22 l23 l24 l25 : Option Value} {bc bs : Nat} (hbc : 20 ≤ bc) (hbs : 120 ≤ bs) (next : ∀ h' l21 l22 l23 l24 l25 bc' bs', LW h' a b L xs n n' m S1 S1 → Rw h' q8 63 3 (fun c w => tCell S.1 S.2.1 S.2.2.1 S.2.2.2.1 c w) 63 0 → Hr h' q16 S1 S.2.2.2.1 → bc ≤ bc' + 20 → bs ≤ bs' + 120 → K 825 [some (.ref b), some (.ref a), some (.ref (m 0)), some (.int (nI t)), some (.int z4), some (.int (nI S.2.2.2.1)), some (.ref (q6)), some (.ref (q7)), some (.ref (q8)), some (.int (v9)), some (.int (nI (cntG (lb (S1.1 1)) 63))), some (.int (nI (cntG (lb (S1.1 7)) 63))), some (.int (nI (cntG (fun g => decide (S1.2.2.1 g 0 = S1.2.2.1 g 2)) S.2.2.2.1))), some (.int (v13)), some (.int (v14)), some (.int (v15)), some (.ref (q16)), some (.int (nI (cntG (fun g => decide (S1.2.2.1 g 0 = S1.2.2.1 g 2)) S.2.2.2.1))), some (.int (nI (cntG (lb (S1.1 7)) (c + 1)))), some (.int (nI (cntG (lb (S1.1 1)) (c + 1)))), some (.int (nI (c + 1))), l21, l22, l23, l24, l25] [] h' bc' bs') : K 832 [some (.ref b), some (.ref a), some (.ref (m 0)), some (.int (nI t)), some (.int z4), some (.int (nI S.2.2.2.1)), some (.ref (q6)), some (.ref (q7)), some (.ref (q8)), some (.int (v9)), some (.int (nI (cntG (lb (S1.1 1)) 63))), some (.int (nI (cntG (lb (S1.1 7)) 63))), some (.int (nI (cntG (fun g => decide (S1.2.2.1 g 0 = S1.2.2.1 g 2)) S.2.2.2.1))), some (.int (v13)), some (.int (v14)), some (.int (v15)), some (.ref (q16)), some (.int (nI (cntG (fun g => decide (S1.2.2.1 g 0 = S1.2.2.1 g 2)) S.2.2.2.1))), some (.int (nI (cntG (lb (S1.1 7)) c))), some (.int (nI (cntG (lb (S1.1 1)) c))), some (.int (nI c)), l21, l22, l23, l24, l25] [] h bc bs := by
  have ok1 := V1.1
  have g6 : S1.2.2.2.1 ≤ 6 := ok1.1
  have t5 := thg_lt S1.1 c
  obtain ⟨em, ed⟩ := dm9 hc
  have T := I.1.2.2.1
  obtain ⟨v0, v0l, ev0, -⟩ := T.2.2.2.2.2 c hc
  have Ca := W_0.1.1
  refine s_aload_n hK dL_law_832 rfl ?_
  refine s_iload hK dL_law_833 rfl ?_
  refine s_bipush hK (v := nI 9) dL_law_835 (by decide) ?_
  refine s_irem hK dL_law_837 (by decide) ?_
  rw [em]
  refine s_iload hK dL_law_838 rfl ?_
  refine s_bipush hK (v := nI 9) dL_law_840 (by decide) ?_
  refine s_idiv hK dL_law_842 (by decide) ?_
  rw [ed]
  refine s_iconst hK (v := nI 0) dL_law_843 (by decide) ?_
  refine s_V3 hK (mc := 4) (ms := 24) dL_law_844 kV_L_146 (by assumption) (by rfl) (by omega) (by omega) ?_
  refine c_cell _ W_0.1 ok1 (by omega) (by omega) (gDone_of (v := nI (thg S1.1 c)) (fCell_c hc (show 0 < 5 by omega)) (fun h1 C1 F1 => ?_))
  have W_1 := W_0.cls C1 F1
  have Ca := W_1.1.1
  have R8_1 := R8_0.kp B8 (Kp.cls F1)
  have H_1 := H_0.kp o16 (Kp.cls F1)
  refine s_istore hK dL_law_847 rfl ?_
  show K 849 [some (.ref b), some (.ref a), some (.ref (m 0)), some (.int (nI t)), some (.int z4), some (.int (nI S.2.2.2.1)), some (.ref (q6)), some (.ref (q7)), some (.ref (q8)), some (.int (v9)), some (.int (nI (cntG (lb (S1.1 1)) 63))), some (.int (nI (cntG (lb (S1.1 7)) 63))), some (.int (nI (cntG (fun g => decide (S1.2.2.1 g 0 = S1.2.2.1 g 2)) S.2.2.2.1))), some (.int (v13)), some (.int (v14)), some (.int (v15)), some (.ref (q16)), some (.int (nI (cntG (fun g => decide (S1.2.2.1 g 0 = S1.2.2.1 g 2)) S.2.2.2.1))), some (.int (nI (cntG (lb (S1.1 7)) c))), some (.int (nI (cntG (lb (S1.1 1)) c))), some (.int (nI c)), some (.int (nI (thg S1.1 c))), l22, l23, l24, l25] [] _ _ _
  refine s_aload_n hK dL_law_849 rfl ?_
  refine s_iload hK dL_law_850 rfl ?_
  refine s_bipush hK (v := nI 9) dL_law_852 (by decide) ?_
  refine s_irem hK dL_law_854 (by decide) ?_
  rw [em]
  refine s_iload hK dL_law_855 rfl ?_
  refine s_bipush hK (v := nI 9) dL_law_857 (by decide) ?_
  refine s_idiv hK dL_law_859 (by decide) ?_
  rw [ed]
  refine s_iconst hK (v := nI 1) dL_law_860 (by decide) ?_
  refine s_V3 hK (mc := 4) (ms := 24) dL_law_861 kV_L_146 (by assumption) (by rfl) (by omega) (by omega) ?_
  refine c_cell _ W_1.1 ok1 (by omega) (by omega) (gDone_of (v := S1.2.1 c) (fCell_c hc (show 1 < 5 by omega)) (fun h2 C2 F2 => ?_))
  have W_2 := W_1.cls C2 F2
  have Ca := W_2.1.1
  have R8_2 := R8_1.kp B8 (Kp.cls F2)
  have H_2 := H_1.kp o16 (Kp.cls F2)
  refine s_istore hK dL_law_864 rfl ?_
  show K 866 [some (.ref b), some (.ref a), some (.ref (m 0)), some (.int (nI t)), some (.int z4), some (.int (nI S.2.2.2.1)), some (.ref (q6)), some (.ref (q7)), some (.ref (q8)), some (.int (v9)), some (.int (nI (cntG (lb (S1.1 1)) 63))), some (.int (nI (cntG (lb (S1.1 7)) 63))), some (.int (nI (cntG (fun g => decide (S1.2.2.1 g 0 = S1.2.2.1 g 2)) S.2.2.2.1))), some (.int (v13)), some (.int (v14)), some (.int (v15)), some (.ref (q16)), some (.int (nI (cntG (fun g => decide (S1.2.2.1 g 0 = S1.2.2.1 g 2)) S.2.2.2.1))), some (.int (nI (cntG (lb (S1.1 7)) c))), some (.int (nI (cntG (lb (S1.1 1)) c))), some (.int (nI c)), some (.int (nI (thg S1.1 c))), some (.int (S1.2.1 c)), l23, l24, l25] [] _ _ _
  refine s_aload_n hK dL_law_866 rfl ?_
  refine s_iload hK dL_law_867 rfl ?_
  refine s_bipush hK (v := nI 9) dL_law_869 (by decide) ?_
  refine s_irem hK dL_law_871 (by decide) ?_
  rw [em]
  refine s_iload hK dL_law_872 rfl ?_
  refine s_bipush hK (v := nI 9) dL_law_874 (by decide) ?_
  refine s_idiv hK dL_law_876 (by decide) ?_
  rw [ed]
  refine s_iconst hK (v := nI 2) dL_law_877 (by decide) ?_
  refine s_V3 hK (mc := 4) (ms := 24) dL_law_878 kV_L_146 (by assumption) (by rfl) (by omega) (by omega) ?_
  refine c_cell _ W_2.1 ok1 (by omega) (by omega) (gDone_of (v := b01 (lb (S1.1 1) c)) (fCell_c hc (show 2 < 5 by omega)) (fun h3 C3 F3 => ?_))
  have W_3 := W_2.cls C3 F3
  have Ca := W_3.1.1
  have R8_3 := R8_2.kp B8 (Kp.cls F3)
  have H_3 := H_2.kp o16 (Kp.cls F3)
  refine s_iconst hK (v := 1) dL_law_881 (by decide) ?_
  have at890 : ∀ v : Int32, v = b01 (lb (S1.1 1) c) → K 890 [some (.ref b), some (.ref a), some (.ref (m 0)), some (.int (nI t)), some (.int z4), some (.int (nI S.2.2.2.1)), some (.ref (q6)), some (.ref (q7)), some (.ref (q8)), some (.int (v9)), some (.int (nI (cntG (lb (S1.1 1)) 63))), some (.int (nI (cntG (lb (S1.1 7)) 63))), some (.int (nI (cntG (fun g => decide (S1.2.2.1 g 0 = S1.2.2.1 g 2)) S.2.2.2.1))), some (.int (v13)), some (.int (v14)), some (.int (v15)), some (.ref (q16)), some (.int (nI (cntG (fun g => decide (S1.2.2.1 g 0 = S1.2.2.1 g 2)) S.2.2.2.1))), some (.int (nI (cntG (lb (S1.1 7)) c))), some (.int (nI (cntG (lb (S1.1 1)) c))), some (.int (nI c)), some (.int (nI (thg S1.1 c))), some (.int (S1.2.1 c)), l23, l24, l25] [.int v] h3 (bc - 4 - 4 - 4) (bs - 24 - 24 - 24) := by
    intro v hv
    rw [hv]
    refine s_istore hK dL_law_890 rfl ?_
    show K 892 [some (.ref b), some (.ref a), some (.ref (m 0)), some (.int (nI t)), some (.int z4), some (.int (nI S.2.2.2.1)), some (.ref (q6)), some (.ref (q7)), some (.ref (q8)), some (.int (v9)), some (.int (nI (cntG (lb (S1.1 1)) 63))), some (.int (nI (cntG (lb (S1.1 7)) 63))), some (.int (nI (cntG (fun g => decide (S1.2.2.1 g 0 = S1.2.2.1 g 2)) S.2.2.2.1))), some (.int (v13)), some (.int (v14)), some (.int (v15)), some (.ref (q16)), some (.int (nI (cntG (fun g => decide (S1.2.2.1 g 0 = S1.2.2.1 g 2)) S.2.2.2.1))), some (.int (nI (cntG (lb (S1.1 7)) c))), some (.int (nI (cntG (lb (S1.1 1)) c))), some (.int (nI c)), some (.int (nI (thg S1.1 c))), some (.int (S1.2.1 c)), some (.int (b01 (lb (S1.1 1) c))), l24, l25] [] _ _ _
    refine s_iload hK dL_law_892 rfl ?_
    refine s_aload_n hK dL_law_894 rfl ?_
    refine s_iload hK dL_law_895 rfl ?_
    refine s_bipush hK (v := nI 9) dL_law_897 (by decide) ?_
    refine s_irem hK dL_law_899 (by decide) ?_
    rw [em]
    refine s_iload hK dL_law_900 rfl ?_
    refine s_bipush hK (v := nI 9) dL_law_902 (by decide) ?_
    refine s_idiv hK dL_law_904 (by decide) ?_
    rw [ed]
    refine s_iconst hK (v := nI 3) dL_law_905 (by decide) ?_
    refine s_V3 hK (mc := 4) (ms := 24) dL_law_906 kV_L_146 (by assumption) (by rfl) (by omega) (by omega) ?_
    refine c_cell _ W_3.1 ok1 (by omega) (by omega) (gDone_of (v := b01 (lb (S1.1 7) c)) (fCell_c hc (show 3 < 5 by omega)) (fun h4 C4 F4 => ?_))
    have W_4 := W_3.cls C4 F4
    have Ca := W_4.1.1
    have R8_4 := R8_3.kp B8 (Kp.cls F4)
    have H_4 := H_3.kp o16 (Kp.cls F4)
    refine s_iadd hK dL_law_909 ?_
    rw [cnt_s01]
    refine s_istore hK dL_law_910 rfl ?_
    show K 912 [some (.ref b), some (.ref a), some (.ref (m 0)), some (.int (nI t)), some (.int z4), some (.int (nI S.2.2.2.1)), some (.ref (q6)), some (.ref (q7)), some (.ref (q8)), some (.int (v9)), some (.int (nI (cntG (lb (S1.1 1)) 63))), some (.int (nI (cntG (lb (S1.1 7)) 63))), some (.int (nI (cntG (fun g => decide (S1.2.2.1 g 0 = S1.2.2.1 g 2)) S.2.2.2.1))), some (.int (v13)), some (.int (v14)), some (.int (v15)), some (.ref (q16)), some (.int (nI (cntG (fun g => decide (S1.2.2.1 g 0 = S1.2.2.1 g 2)) S.2.2.2.1))), some (.int (nI (cntG (lb (S1.1 7)) (c + 1)))), some (.int (nI (cntG (lb (S1.1 1)) c))), some (.int (nI c)), some (.int (nI (thg S1.1 c))), some (.int (S1.2.1 c)), some (.int (b01 (lb (S1.1 1) c))), l24, l25] [] _ _ _
    have marks : ∀ (h : gH) bc' bs', LW h a b L xs n n' m S1 S1 → Rw h q8 63 3 (fun c w => tCell S.1 S.2.1 S.2.2.1 S.2.2.2.1 c w) 63 0 → Hr h q16 S1 S.2.2.2.1 → bc ≤ bc' + 20 → bs ≤ bs' + 120 → K 1024 [some (.ref b), some (.ref a), some (.ref (m 0)), some (.int (nI t)), some (.int z4), some (.int (nI S.2.2.2.1)), some (.ref (q6)), some (.ref (q7)), some (.ref (q8)), some (.int (v9)), some (.int (nI (cntG (lb (S1.1 1)) 63))), some (.int (nI (cntG (lb (S1.1 7)) 63))), some (.int (nI (cntG (fun g => decide (S1.2.2.1 g 0 = S1.2.2.1 g 2)) S.2.2.2.1))), some (.int (v13)), some (.int (v14)), some (.int (v15)), some (.ref (q16)), some (.int (nI (cntG (fun g => decide (S1.2.2.1 g 0 = S1.2.2.1 g 2)) S.2.2.2.1))), some (.int (nI (cntG (lb (S1.1 7)) (c + 1)))), some (.int (nI (cntG (lb (S1.1 1)) (c + 1)))), some (.int (nI c)), some (.int (nI (thg S1.1 c))), some (.int (S1.2.1 c)), some (.int (b01 (lb (S1.1 1) c))), l24, l25] [] h bc' bs' := by
      intro h bc' bs' W_4 R8_4 H_4 u1 u2
      obtain ⟨f8, r1, r2⟩ := R8_4.row0 hc hc
      have r2 : ∀ w', w' < 3 → f8 w' = tCell S.1 S.2.1 S.2.2.1 S.2.2.2.1 c w' := r2
      obtain ⟨fh', y1, y2⟩ := H_4
      have y3 := y2 c hc
      have cn : cntG (fun k => decide (S1.2.2.1 k 0 = c) && hx S1 k) S.2.2.2.1 ≤ 6 := Nat.le_trans (cnt_le _ _) I.1.1.1
      refine s_aload hK dL_law_1024 rfl ?_
      refine s_iload hK dL_law_1026 rfl ?_
      refine s_aaload hK dL_law_1028 R8_4.1 rfl hc (by omega) (if_pos hc) ?_
      refine s_iconst hK (v := nI 1) dL_law_1029 (by decide) ?_
      refine s_ialoadN hK dL_law_1030 r1 (show 1 < 3 by omega) (by omega) ?_
      rw [r2 1 (by omega)]
      refine s_istore hK dL_law_1031 rfl ?_
      refine s_iconst hK (v := 0) dL_law_1033 (by decide) ?_
      refine s_istore hK dL_law_1034 rfl ?_
      have loop : ∀ j k, k + j = cntG (fun k => decide (S1.2.2.1 k 0 = c) && hx S1 k) S.2.2.2.1 → K 1036 [some (.ref b), some (.ref a), some (.ref (m 0)), some (.int (nI t)), some (.int z4), some (.int (nI S.2.2.2.1)), some (.ref (q6)), some (.ref (q7)), some (.ref (q8)), some (.int (v9)), some (.int (nI (cntG (lb (S1.1 1)) 63))), some (.int (nI (cntG (lb (S1.1 7)) 63))), some (.int (nI (cntG (fun g => decide (S1.2.2.1 g 0 = S1.2.2.1 g 2)) S.2.2.2.1))), some (.int (v13)), some (.int (v14)), some (.int (v15)), some (.ref (q16)), some (.int (nI (cntG (fun g => decide (S1.2.2.1 g 0 = S1.2.2.1 g 2)) S.2.2.2.1))), some (.int (nI (cntG (lb (S1.1 7)) (c + 1)))), some (.int (nI (cntG (lb (S1.1 1)) (c + 1)))), some (.int (nI c)), some (.int (nI (thg S1.1 c))), some (.int (S1.2.1 c)), some (.int (b01 (lb (S1.1 1) c))), some (.int (itM (S.2.1 c) k)), some (.int (nI k))] [] h bc' bs' := by
        intro j
        induction j with
        | zero =>
          intro k hk
          refine s_iload hK dL_law_1036 rfl ?_
          refine s_aload hK dL_law_1038 rfl ?_
          refine s_iload hK dL_law_1040 rfl ?_
          refine s_ialoadN hK dL_law_1042 y1 hc (by omega) ?_
          rw [y3]
          refine s_icmpge hK dL_law_1043 1093 (by decide) (fun c_1043 => ?_) (fun c_1043 => ?_)
          · refine s_iload hK dL_law_1093 rfl ?_
            refine s_iconst hK (v := 4) dL_law_1095 (by decide) ?_
            by_cases e4 : thg S1.1 c = 4
            · have ef := fT c (by rw [← ft]; exact e4)
              rw [← show k = _ from hk] at ef
              refine s_icmpne hK dL_law_1096 1108 (by decide) (fun c_1096 => ?_) (fun c_1096 => ?_)
              · exact absurd (by rw [e4]; rfl) c_1096
              · refine s_iload hK dL_law_1099 rfl ?_
                refine s_iload hK dL_law_1101 rfl ?_
                refine s_icmpeq hK dL_law_1103 1108 (by decide) (fun c_1103 => ?_) (fun c_1103 => ?_)
                · refine s_iinck hK (v := 1) dL_law_1108 rfl (by decide) rfl ?_
                  refine s_goto hK dL_law_1111 825 (by decide) ?_
                  rw [nI_1]
                  exact next h _ _ _ _ _ _ _ W_4 R8_4 ⟨fh', y1, y2⟩ u1 u2
                · exact absurd ef c_1103
            · refine s_icmpne hK dL_law_1096 1108 (by decide) (fun c_1096 => ?_) (fun c_1096 => ?_)
              · refine s_iinck hK (v := 1) dL_law_1108 rfl (by decide) rfl ?_
                refine s_goto hK dL_law_1111 825 (by decide) ?_
                rw [nI_1]
                exact next h _ _ _ _ _ _ _ W_4 R8_4 ⟨fh', y1, y2⟩ u1 u2
              · exact absurd ((nI_eq (b := 4) (by omega) (by omega)).mp c_1096) e4
          · exact absurd (nI_le (by omega) (by omega)) c_1043
        | succ j ih =>
          intro k hk
          obtain ⟨w0, hw0, ew0⟩ := itM_N v0l k
          rw [← ev0] at ew0
          have ih := ih (k + 1) (by omega)
          have mk : mkNext (nI w0) = mkS (if nI w0 = 99 then 0 else nI w0 + 1) := mk_K ⟨w0, hw0⟩
          have es : itM (S.2.1 c) (k + 1) = mkS (if nI w0 = 99 then 0 else nI w0 + 1) := by
            show mkNext (itM (S.2.1 c) k) = _
            rw [ew0, mk]
          rw [es] at ih
          rw [ew0]
          have at1061 : ∀ b9 : Int32, b9 = (if nI w0 = 99 then 0 else nI w0 + 1) → K 1061 [some (.ref b), some (.ref a), some (.ref (m 0)), some (.int (nI t)), some (.int z4), some (.int (nI S.2.2.2.1)), some (.ref (q6)), some (.ref (q7)), some (.ref (q8)), some (.int (v9)), some (.int (nI (cntG (lb (S1.1 1)) 63))), some (.int (nI (cntG (lb (S1.1 7)) 63))), some (.int (nI (cntG (fun g => decide (S1.2.2.1 g 0 = S1.2.2.1 g 2)) S.2.2.2.1))), some (.int (v13)), some (.int (v14)), some (.int (v15)), some (.ref (q16)), some (.int (nI (cntG (fun g => decide (S1.2.2.1 g 0 = S1.2.2.1 g 2)) S.2.2.2.1))), some (.int (nI (cntG (lb (S1.1 7)) (c + 1)))), some (.int (nI (cntG (lb (S1.1 1)) (c + 1)))), some (.int (nI c)), some (.int (nI (thg S1.1 c))), some (.int (S1.2.1 c)), some (.int (b01 (lb (S1.1 1) c))), some (.int (nI w0)), some (.int (nI k))] [.int b9] h bc' bs' := by
            intro b9 hb
            rw [← hb] at ih
            unfold mkS at ih
            refine s_istore hK dL_law_1061 rfl ?_
            show K 1063 [some (.ref b), some (.ref a), some (.ref (m 0)), some (.int (nI t)), some (.int z4), some (.int (nI S.2.2.2.1)), some (.ref (q6)), some (.ref (q7)), some (.ref (q8)), some (.int (v9)), some (.int (nI (cntG (lb (S1.1 1)) 63))), some (.int (nI (cntG (lb (S1.1 7)) 63))), some (.int (nI (cntG (fun g => decide (S1.2.2.1 g 0 = S1.2.2.1 g 2)) S.2.2.2.1))), some (.int (v13)), some (.int (v14)), some (.int (v15)), some (.ref (q16)), some (.int (nI (cntG (fun g => decide (S1.2.2.1 g 0 = S1.2.2.1 g 2)) S.2.2.2.1))), some (.int (nI (cntG (lb (S1.1 7)) (c + 1)))), some (.int (nI (cntG (lb (S1.1 1)) (c + 1)))), some (.int (nI c)), some (.int (nI (thg S1.1 c))), some (.int (S1.2.1 c)), some (.int (b01 (lb (S1.1 1) c))), some (.int (b9)), some (.int (nI k))] [] _ _ _
            refine s_iload hK dL_law_1063 rfl ?_
            refine s_bipush hK (v := 13) dL_law_1065 (by decide) ?_
            refine s_irem hK dL_law_1067 (by decide) ?_
            refine s_ifne hK dL_law_1068 1087 (by decide) (fun c_1068 => ?_) (fun c_1068 => ?_)
            · rw [if_neg c_1068] at ih
              refine s_iinck hK (v := 1) dL_law_1087 rfl (by decide) rfl ?_
              refine s_goto hK dL_law_1090 1036 (by decide) ?_
              rw [nI_1]
              exact ih
            · rw [if_pos c_1068] at ih
              refine s_iload hK dL_law_1071 rfl ?_
              refine s_bipush hK (v := 10) dL_law_1073 (by decide) ?_
              refine s_irem hK dL_law_1075 (by decide) ?_
              refine s_bipush hK (v := 10) dL_law_1076 (by decide) ?_
              refine s_imul hK dL_law_1078 ?_
              refine s_iload hK dL_law_1079 rfl ?_
              refine s_bipush hK (v := 10) dL_law_1081 (by decide) ?_
              refine s_idiv hK dL_law_1083 (by decide) ?_
              refine s_iadd hK dL_law_1084 ?_
              refine s_istore hK dL_law_1085 rfl ?_
              show K 1087 [some (.ref b), some (.ref a), some (.ref (m 0)), some (.int (nI t)), some (.int z4), some (.int (nI S.2.2.2.1)), some (.ref (q6)), some (.ref (q7)), some (.ref (q8)), some (.int (v9)), some (.int (nI (cntG (lb (S1.1 1)) 63))), some (.int (nI (cntG (lb (S1.1 7)) 63))), some (.int (nI (cntG (fun g => decide (S1.2.2.1 g 0 = S1.2.2.1 g 2)) S.2.2.2.1))), some (.int (v13)), some (.int (v14)), some (.int (v15)), some (.ref (q16)), some (.int (nI (cntG (fun g => decide (S1.2.2.1 g 0 = S1.2.2.1 g 2)) S.2.2.2.1))), some (.int (nI (cntG (lb (S1.1 7)) (c + 1)))), some (.int (nI (cntG (lb (S1.1 1)) (c + 1)))), some (.int (nI c)), some (.int (nI (thg S1.1 c))), some (.int (S1.2.1 c)), some (.int (b01 (lb (S1.1 1) c))), some (.int ((b9 - b9 / 10 * 10) * 10 + b9 / 10)), some (.int (nI k))] [] _ _ _
              refine s_iinck hK (v := 1) dL_law_1087 rfl (by decide) rfl ?_
              refine s_goto hK dL_law_1090 1036 (by decide) ?_
              rw [nI_1]
              exact ih
          refine s_iload hK dL_law_1036 rfl ?_
          refine s_aload hK dL_law_1038 rfl ?_
          refine s_iload hK dL_law_1040 rfl ?_
          refine s_ialoadN hK dL_law_1042 y1 hc (by omega) ?_
          rw [y3]
          refine s_icmpge hK dL_law_1043 1093 (by decide) (fun c_1043 => ?_) (fun c_1043 => ?_)
          · exact absurd c_1043 (nI_ge (by omega) (by omega))
          · refine s_iload hK dL_law_1046 rfl ?_
            refine s_bipush hK (v := 99) dL_law_1048 (by decide) ?_
            refine s_icmpne hK dL_law_1050 1057 (by decide) (fun c_1050 => ?_) (fun c_1050 => ?_)
            · refine s_iload hK dL_law_1057 rfl ?_
              refine s_iconst hK (v := 1) dL_law_1059 (by decide) ?_
              refine s_iadd hK dL_law_1060 ?_
              exact at1061 _ (if_neg c_1050).symm
            · refine s_iconst hK (v := 0) dL_law_1053 (by decide) ?_
              refine s_goto hK dL_law_1054 1061 (by decide) ?_
              exact at1061 _ (if_pos c_1050).symm
      exact loop (cntG (fun k => decide (S1.2.2.1 k 0 = c) && hx S1 k) S.2.2.2.1) 0 (by omega)
    have at979 : ∀ (h : gH) bc' bs', LW h a b L xs n n' m S1 S1 → Rw h q8 63 3 (fun c w => tCell S.1 S.2.1 S.2.2.1 S.2.2.2.1 c w) 63 0 → Hr h q16 S1 S.2.2.2.1 → bc ≤ bc' + 20 → bs ≤ bs' + 120 → K 979 [some (.ref b), some (.ref a), some (.ref (m 0)), some (.int (nI t)), some (.int z4), some (.int (nI S.2.2.2.1)), some (.ref (q6)), some (.ref (q7)), some (.ref (q8)), some (.int (v9)), some (.int (nI (cntG (lb (S1.1 1)) 63))), some (.int (nI (cntG (lb (S1.1 7)) 63))), some (.int (nI (cntG (fun g => decide (S1.2.2.1 g 0 = S1.2.2.1 g 2)) S.2.2.2.1))), some (.int (v13)), some (.int (v14)), some (.int (v15)), some (.ref (q16)), some (.int (nI (cntG (fun g => decide (S1.2.2.1 g 0 = S1.2.2.1 g 2)) S.2.2.2.1))), some (.int (nI (cntG (lb (S1.1 7)) (c + 1)))), some (.int (nI (cntG (lb (S1.1 1)) (c + 1)))), some (.int (nI c)), some (.int (nI (thg S1.1 c))), some (.int (S1.2.1 c)), some (.int (b01 (lb (S1.1 1) c))), l24, l25] [] h bc' bs' := by
      intro h bc' bs' W_4 R8_4 H_4 u1 u2
      obtain ⟨f8, r1, r2⟩ := R8_4.row0 hc hc
      have r2 : ∀ w', w' < 3 → f8 w' = tCell S.1 S.2.1 S.2.2.1 S.2.2.2.1 c w' := r2
      have at1005 : K 1005 [some (.ref b), some (.ref a), some (.ref (m 0)), some (.int (nI t)), some (.int z4), some (.int (nI S.2.2.2.1)), some (.ref (q6)), some (.ref (q7)), some (.ref (q8)), some (.int (v9)), some (.int (nI (cntG (lb (S1.1 1)) 63))), some (.int (nI (cntG (lb (S1.1 7)) 63))), some (.int (nI (cntG (fun g => decide (S1.2.2.1 g 0 = S1.2.2.1 g 2)) S.2.2.2.1))), some (.int (v13)), some (.int (v14)), some (.int (v15)), some (.ref (q16)), some (.int (nI (cntG (fun g => decide (S1.2.2.1 g 0 = S1.2.2.1 g 2)) S.2.2.2.1))), some (.int (nI (cntG (lb (S1.1 7)) (c + 1)))), some (.int (nI (cntG (lb (S1.1 1)) (c + 1)))), some (.int (nI c)), some (.int (nI (thg S1.1 c))), some (.int (S1.2.1 c)), some (.int (b01 (lb (S1.1 1) c))), l24, l25] [] h bc' bs' := by
        refine s_iload hK dL_law_1005 rfl ?_
        refine s_iconst hK (v := 1) dL_law_1007 (by decide) ?_
        refine s_icmpeq hK dL_law_1008 1024 (by decide) (fun c_1008 => ?_) (fun c_1008 => ?_)
        · exact marks h _ _ W_4 R8_4 H_4 u1 u2
        · refine s_iload hK dL_law_1011 rfl ?_
          refine s_iconst hK (v := 4) dL_law_1013 (by decide) ?_
          refine s_icmpeq hK dL_law_1014 1024 (by decide) (fun c_1014 => ?_) (fun c_1014 => ?_)
          · exact marks h _ _ W_4 R8_4 H_4 u1 u2
          · refine s_iload hK dL_law_1017 rfl ?_
            have ez := fz c hc (fun z => c_1008 (by rw [ft, z]; rfl)) (fun z => c_1014 (by rw [ft, z]; rfl))
            refine s_ifeq hK dL_law_1019 1024 (by decide) (fun c_1019 => ?_) (fun c_1019 => ?_)
            · exact marks h _ _ W_4 R8_4 H_4 u1 u2
            · exact absurd ez c_1019
      refine s_iload hK dL_law_979 rfl ?_
      refine s_iconst hK (v := 1) dL_law_981 (by decide) ?_
      refine s_icmpne hK dL_law_982 1005 (by decide) (fun c_982 => ?_) (fun c_982 => ?_)
      · exact at1005
      · have e1 : thg S.1 c = 1 := by rw [← ft]; exact (nI_eq (b := 1) (by omega) (by omega)).mp c_982
        have ew := fw c hc e1
        refine s_iload hK dL_law_985 rfl ?_
        refine s_aload hK dL_law_987 rfl ?_
        refine s_iload hK dL_law_989 rfl ?_
        refine s_aaload hK dL_law_991 R8_4.1 rfl hc (by omega) (if_pos hc) ?_
        refine s_iconst hK (v := nI 1) dL_law_992 (by decide) ?_
        refine s_ialoadN hK dL_law_993 r1 (show 1 < 3 by omega) (by omega) ?_
        rw [r2 1 (by omega)]
        refine s_aload hK dL_law_994 rfl ?_
        refine s_iload hK dL_law_996 rfl ?_
        refine s_aaload hK dL_law_998 R8_4.1 rfl hc (by omega) (if_pos hc) ?_
        refine s_iconst hK (v := nI 2) dL_law_999 (by decide) ?_
        refine s_ialoadN hK dL_law_1000 r1 (show 2 < 3 by omega) (by omega) ?_
        rw [r2 2 (by omega)]
        refine s_isub hK dL_law_1001 ?_
        refine s_icmpne hK dL_law_1002 1022 (by decide) (fun c_1002 => ?_) (fun c_1002 => ?_)
        · exact absurd ew c_1002
        · exact at1005
    have at924 : ∀ v : Int32, v = b01 (lb (S1.1 1) c) → K 924 [some (.ref b), some (.ref a), some (.ref (m 0)), some (.int (nI t)), some (.int z4), some (.int (nI S.2.2.2.1)), some (.ref (q6)), some (.ref (q7)), some (.ref (q8)), some (.int (v9)), some (.int (nI (cntG (lb (S1.1 1)) 63))), some (.int (nI (cntG (lb (S1.1 7)) 63))), some (.int (nI (cntG (fun g => decide (S1.2.2.1 g 0 = S1.2.2.1 g 2)) S.2.2.2.1))), some (.int (v13)), some (.int (v14)), some (.int (v15)), some (.ref (q16)), some (.int (nI (cntG (fun g => decide (S1.2.2.1 g 0 = S1.2.2.1 g 2)) S.2.2.2.1))), some (.int (nI (cntG (lb (S1.1 7)) (c + 1)))), some (.int (nI (cntG (lb (S1.1 1)) c))), some (.int (nI c)), some (.int (nI (thg S1.1 c))), some (.int (S1.2.1 c)), some (.int (b01 (lb (S1.1 1) c))), l24, l25] [.int v, .int (nI (cntG (lb (S1.1 1)) c))] h4 (bc - 4 - 4 - 4 - 4) (bs - 24 - 24 - 24 - 24) := by
      intro v hv
      rw [hv]
      refine s_iadd hK dL_law_924 ?_
      rw [cnt_s01]
      refine s_istore hK dL_law_925 rfl ?_
      show K 927 [some (.ref b), some (.ref a), some (.ref (m 0)), some (.int (nI t)), some (.int z4), some (.int (nI S.2.2.2.1)), some (.ref (q6)), some (.ref (q7)), some (.ref (q8)), some (.int (v9)), some (.int (nI (cntG (lb (S1.1 1)) 63))), some (.int (nI (cntG (lb (S1.1 7)) 63))), some (.int (nI (cntG (fun g => decide (S1.2.2.1 g 0 = S1.2.2.1 g 2)) S.2.2.2.1))), some (.int (v13)), some (.int (v14)), some (.int (v15)), some (.ref (q16)), some (.int (nI (cntG (fun g => decide (S1.2.2.1 g 0 = S1.2.2.1 g 2)) S.2.2.2.1))), some (.int (nI (cntG (lb (S1.1 7)) (c + 1)))), some (.int (nI (cntG (lb (S1.1 1)) (c + 1)))), some (.int (nI c)), some (.int (nI (thg S1.1 c))), some (.int (S1.2.1 c)), some (.int (b01 (lb (S1.1 1) c))), l24, l25] [] _ _ _
      obtain ⟨f8, r1, r2⟩ := R8_4.row0 hc hc
      have r2 : ∀ w', w' < 3 → f8 w' = tCell S.1 S.2.1 S.2.2.1 S.2.2.2.1 c w' := r2
      refine s_iload hK dL_law_927 rfl ?_
      refine s_aload hK dL_law_929 rfl ?_
      refine s_iload hK dL_law_931 rfl ?_
      refine s_aaload hK dL_law_933 R8_4.1 rfl hc (by omega) (if_pos hc) ?_
      refine s_iconst hK (v := nI 0) dL_law_934 (by decide) ?_
      refine s_ialoadN hK dL_law_935 r1 (show 0 < 3 by omega) (by omega) ?_
      rw [r2 0 (by omega)]
      refine s_icmpne hK dL_law_936 977 (by decide) (fun c_936 => ?_) (fun c_936 => ?_)
      · exact absurd (by rw [ft]; rfl) c_936
      · refine s_iload hK dL_law_939 rfl ?_
        by_cases eb : lb (S1.1 1) c = true
        · refine s_ifeq hK dL_law_941 979 (by decide) (fun c_941 => ?_) (fun c_941 => ?_)
          · exact absurd c_941 (by rw [eb]; decide)
          · refine s_aload hK dL_law_944 rfl ?_
            refine s_iload hK dL_law_946 rfl ?_
            refine s_aaload hK dL_law_948 R8_4.1 rfl hc (by omega) (if_pos hc) ?_
            refine s_iconst hK (v := nI 2) dL_law_949 (by decide) ?_
            refine s_ialoadN hK dL_law_950 r1 (show 2 < 3 by omega) (by omega) ?_
            rw [r2 2 (by omega), show tCell S.1 S.2.1 S.2.2.1 S.2.2.2.1 c 2 = b01 (lb (S.1 1) c) from rfl, fb c hc eb]
            refine s_ifeq hK dL_law_951 977 (by decide) (fun c_951 => ?_) (fun c_951 => ?_)
            · exact absurd c_951 (by decide)
            · refine s_iload hK dL_law_954 rfl ?_
              refine s_ifeq hK dL_law_956 977 (by decide) (fun c_956 => ?_) (fun c_956 => ?_)
              · exact absurd c_956 (f0 c eb)
              · have Ca := W_4.1.1
                refine s_aload_n hK dL_law_959 rfl ?_
                refine s_iload hK dL_law_960 rfl ?_
                refine s_bipush hK (v := nI 9) dL_law_962 (by decide) ?_
                refine s_irem hK dL_law_964 (by decide) ?_
                rw [em]
                refine s_iload hK dL_law_965 rfl ?_
                refine s_bipush hK (v := nI 9) dL_law_967 (by decide) ?_
                refine s_idiv hK dL_law_969 (by decide) ?_
                rw [ed]
                refine s_iconst hK (v := nI 3) dL_law_970 (by decide) ?_
                refine s_V3 hK (mc := 4) (ms := 24) dL_law_971 kV_L_146 (by assumption) (by rfl) (by omega) (by omega) ?_
                refine c_cell _ W_4.1 ok1 (by omega) (by omega) (gDone_of (v := b01 (lb (S1.1 7) c)) (fCell_c hc (show 3 < 5 by omega)) (fun h5 C5 F5 => ?_))
                have W_5 := W_4.cls C5 F5
                have Ca := W_5.1.1
                have R8_5 := R8_4.kp B8 (Kp.cls F5)
                have H_5 := H_4.kp o16 (Kp.cls F5)
                rw [fl c hc eb]
                refine s_ifne hK dL_law_974 979 (by decide) (fun c_974 => ?_) (fun c_974 => ?_)
                · exact at979 h5 _ _ W_5 R8_5 H_5 (by omega) (by omega)
                · exact absurd c_974 (by decide)
        · have eb := bool_f eb
          refine s_ifeq hK dL_law_941 979 (by decide) (fun c_941 => ?_) (fun c_941 => ?_)
          · exact at979 h4 _ _ W_4 R8_4 H_4 (by omega) (by omega)
          · exact absurd (by rw [eb]; rfl) c_941
    refine s_iload hK dL_law_912 rfl ?_
    refine s_iload hK dL_law_914 rfl ?_
    by_cases eb : lb (S1.1 1) c = true
    · refine s_ifeq hK dL_law_916 923 (by decide) (fun c_916 => ?_) (fun c_916 => ?_)
      · exact absurd c_916 (by rw [eb]; decide)
      · refine s_iconst hK (v := 1) dL_law_919 (by decide) ?_
        refine s_goto hK dL_law_920 924 (by decide) ?_
        exact at924 _ (by rw [eb]; rfl)
    · have eb := bool_f eb
      refine s_ifeq hK dL_law_916 923 (by decide) (fun c_916 => ?_) (fun c_916 => ?_)
      · refine s_iconst hK (v := 0) dL_law_923 (by decide) ?_
        exact at924 _ (by rw [eb]; rfl)
      · exact absurd (by rw [eb]; rfl) c_916
  by_cases eb : lb (S1.1 1) c = true
  · refine s_icmpne hK dL_law_882 889 (by decide) (fun c_882 => ?_) (fun c_882 => ?_)
    · exact absurd (by rw [eb]; rfl) c_882
    · refine s_iconst hK (v := 1) dL_law_885 (by decide) ?_
      refine s_goto hK dL_law_886 890 (by decide) ?_
      exact at890 _ (by rw [eb]; rfl)
  · have eb := bool_f eb
    refine s_icmpne hK dL_law_882 889 (by decide) (fun c_882 => ?_) (fun c_882 => ?_)
    · refine s_iconst hK (v := 0) dL_law_889 (by decide) ?_
      exact at890 _ (by rw [eb]; rfl)
    · exact absurd c_882 (by rw [eb]; decide)
set_option maxHeartbeats 1000000 in
set_option maxRecDepth 10000 in
theorem l_cells {K : gK} (hK : gClosed (gSafe 10) mL_law 11 lwPost lwX (fun _ => none) K) {a b L t : Nat} {xs : Nat → Int32} {n n' m : Nat → Nat} {S S1 : CS} {i : Nat} (I : InvC S i) (V1 : InvS S1) (hg : S1.2.2.2.1 = S.2.2.2.1) (ft : ∀ c, thg S1.1 c = thg S.1 c) (fb : ∀ c, c < 63 → lb (S1.1 1) c = true → lb (S.1 1) c = true) (fw : ∀ c, c < 63 → thg S.1 c = 1 → S1.2.1 c = S.2.1 c - b01 (lb (S.1 1) c)) (fz : ∀ c, c < 63 → ¬ thg S.1 c = 1 → ¬ thg S.1 c = 4 → S1.2.1 c = 0) (fT : ∀ c, thg S.1 c = 4 → S1.2.1 c = itM (S.2.1 c) (cntG (fun k => decide (S1.2.2.1 k 0 = c) && hx S1 k) S.2.2.2.1)) (fl : ∀ c, c < 63 → lb (S1.1 1) c = true → lb (S1.1 7) c = true) (f0 : ∀ c, lb (S1.1 1) c = true → ¬ S1.2.1 c = 0) (fn : cntG (lb (S1.1 1)) 63 = 0 → cntG (lb (S1.1 7)) 63 = 0) (fle : cntG (lb (S1.1 1)) 63 ≤ cntG (lb (S1.1 7)) 63) {q6 q7 q8 q16 : Nat} (B8 : ∀ p, q8 ≤ p → p < q8 + (63 + 1) → ow a b n n' m (8 + S.2.2.2.1) p) (o16 : ow a b n n' m (8 + S.2.2.2.1) q16) {h : gH} (W_0 : LW h a b L xs n n' m S1 S1) (R8_0 : Rw h q8 63 3 (fun c w => tCell S.1 S.2.1 S.2.2.1 S.2.2.2.1 c w) 63 0) (H_0 : Hr h q16 S1 S.2.2.2.1) {z4 v9 v13 v14 v15 : Int32} {l19 l20 l21 l22 l23 l24 l25 : Option Value} {bc bs : Nat} (hbc : 1300 ≤ bc) (hbs : 8000 ≤ bs) (next : ∀ h' l5 l6 l7 l8 l9 l10 l11 l12 l13 l14 l15 l16 l17 l18 l19 l20 l21 l22 l23 l24 l25 bc' bs', LW h' a b L xs n n' m S1 S1 → bc ≤ bc' + 1300 → bs ≤ bs' + 8000 → K 1154 [some (.ref b), some (.ref a), some (.ref (m 0)), some (.int (nI t)), some (.int z4), l5, l6, l7, l8, l9, l10, l11, l12, l13, l14, l15, l16, l17, l18, l19, l20, l21, l22, l23, l24, l25] [] h' bc' bs') : K 816 [some (.ref b), some (.ref a), some (.ref (m 0)), some (.int (nI t)), some (.int z4), some (.int (nI S.2.2.2.1)), some (.ref (q6)), some (.ref (q7)), some (.ref (q8)), some (.int (v9)), some (.int (nI (cntG (lb (S1.1 1)) 63))), some (.int (nI (cntG (lb (S1.1 7)) 63))), some (.int (nI (cntG (fun g => decide (S1.2.2.1 g 0 = S1.2.2.1 g 2)) S.2.2.2.1))), some (.int (v13)), some (.int (v14)), some (.int (v15)), some (.ref (q16)), some (.int (nI (cntG (fun g => decide (S1.2.2.1 g 0 = S1.2.2.1 g 2)) S.2.2.2.1))), some (.int (nI S.2.2.2.1)), l19, l20, l21, l22, l23, l24, l25] [] h bc bs := by
  have x1 := cnt_le (lb (S1.1 1)) 63
  have x7 := cnt_le (lb (S1.1 7)) 63
  refine s_iconst hK (v := 0) dL_law_816 (by decide) ?_
  refine s_istore hK dL_law_817 rfl ?_
  refine s_iconst hK (v := 0) dL_law_819 (by decide) ?_
  refine s_istore hK dL_law_820 rfl ?_
  refine s_iconst hK (v := 0) dL_law_822 (by decide) ?_
  refine s_istore hK dL_law_823 rfl ?_
  have loop : ∀ j c, c + j = 63 → ∀ h l21 l22 l23 l24 l25 bc' bs', LW h a b L xs n n' m S1 S1 → Rw h q8 63 3 (fun c w => tCell S.1 S.2.1 S.2.2.1 S.2.2.2.1 c w) 63 0 → Hr h q16 S1 S.2.2.2.1 → 20 * j ≤ bc' → 120 * j ≤ bs' → bc ≤ bc' + 20 * c → bs ≤ bs' + 120 * c → K 825 [some (.ref b), some (.ref a), some (.ref (m 0)), some (.int (nI t)), some (.int z4), some (.int (nI S.2.2.2.1)), some (.ref (q6)), some (.ref (q7)), some (.ref (q8)), some (.int (v9)), some (.int (nI (cntG (lb (S1.1 1)) 63))), some (.int (nI (cntG (lb (S1.1 7)) 63))), some (.int (nI (cntG (fun g => decide (S1.2.2.1 g 0 = S1.2.2.1 g 2)) S.2.2.2.1))), some (.int (v13)), some (.int (v14)), some (.int (v15)), some (.ref (q16)), some (.int (nI (cntG (fun g => decide (S1.2.2.1 g 0 = S1.2.2.1 g 2)) S.2.2.2.1))), some (.int (nI (cntG (lb (S1.1 7)) c))), some (.int (nI (cntG (lb (S1.1 1)) c))), some (.int (nI c)), l21, l22, l23, l24, l25] [] h bc' bs' := by
    intro j
    induction j with
    | zero =>
      intro c hc h l21 l22 l23 l24 l25 bc' bs' W_1 R8_1 H_1 hbc hbs u1 u2
      obtain rfl : c = 63 := by omega
      refine s_iload hK dL_law_825 rfl ?_
      refine s_bipush hK (v := 63) dL_law_827 (by decide) ?_
      refine s_icmpge hK dL_law_829 1114 (by decide) (fun c_829 => ?_) (fun c_829 => ?_)
      · refine s_iload hK dL_law_1114 rfl ?_
        refine s_iload hK dL_law_1116 rfl ?_
        refine s_icmpne hK dL_law_1118 1152 (by decide) (fun c_1118 => ?_) (fun c_1118 => ?_)
        · exact absurd rfl c_1118
        · refine s_iload hK dL_law_1121 rfl ?_
          refine s_iload hK dL_law_1123 rfl ?_
          refine s_icmpne hK dL_law_1125 1152 (by decide) (fun c_1125 => ?_) (fun c_1125 => ?_)
          · exact absurd rfl c_1125
          · refine s_iload hK dL_law_1128 rfl ?_
            refine s_iload hK dL_law_1130 rfl ?_
            refine s_icmpne hK dL_law_1132 1152 (by decide) (fun c_1132 => ?_) (fun c_1132 => ?_)
            · exact absurd rfl c_1132
            · have at1145 : K 1145 [some (.ref b), some (.ref a), some (.ref (m 0)), some (.int (nI t)), some (.int z4), some (.int (nI S.2.2.2.1)), some (.ref (q6)), some (.ref (q7)), some (.ref (q8)), some (.int (v9)), some (.int (nI (cntG (lb (S1.1 1)) 63))), some (.int (nI (cntG (lb (S1.1 7)) 63))), some (.int (nI (cntG (fun g => decide (S1.2.2.1 g 0 = S1.2.2.1 g 2)) S.2.2.2.1))), some (.int (v13)), some (.int (v14)), some (.int (v15)), some (.ref (q16)), some (.int (nI (cntG (fun g => decide (S1.2.2.1 g 0 = S1.2.2.1 g 2)) S.2.2.2.1))), some (.int (nI (cntG (lb (S1.1 7)) 63))), some (.int (nI (cntG (lb (S1.1 1)) 63))), some (.int (nI 63)), l21, l22, l23, l24, l25] [] h bc' bs' := by
                refine s_iload hK dL_law_1145 rfl ?_
                refine s_iload hK dL_law_1147 rfl ?_
                refine s_icmpge hK dL_law_1149 1154 (by decide) (fun c_1149 => ?_) (fun c_1149 => ?_)
                · exact next h _ _ _ _ _ _ _ _ _ _ _ _ _ _ _ _ _ _ _ _ _ _ _ W_1 (by omega) (by omega)
                · exact absurd (nI_le fle (by omega)) c_1149
              refine s_iload hK dL_law_1135 rfl ?_
              refine s_ifne hK dL_law_1137 1145 (by decide) (fun c_1137 => ?_) (fun c_1137 => ?_)
              · exact at1145
              · have z := (nI_eq (b := 0) (by omega) (by omega)).mp c_1137
                refine s_iload hK dL_law_1140 rfl ?_
                refine s_ifne hK dL_law_1142 1152 (by decide) (fun c_1142 => ?_) (fun c_1142 => ?_)
                · exact absurd (by rw [fn z]; rfl) c_1142
                · exact at1145
      · exact absurd (Int32.le_refl (nI 63)) c_829
    | succ j ih =>
      intro c hc h l21 l22 l23 l24 l25 bc' bs' W_1 R8_1 H_1 hbc hbs u1 u2
      refine s_iload hK dL_law_825 rfl ?_
      refine s_bipush hK (v := 63) dL_law_827 (by decide) ?_
      refine s_icmpge hK dL_law_829 1114 (by decide) (fun c_829 => ?_) (fun c_829 => ?_)
      · exact absurd c_829 (nI_ge (b := 63) (by omega) (by omega))
      · refine l_cell hK I V1 hg ft fb fw fz fT fl f0 (by omega) B8 o16 W_1 R8_1 H_1 (by omega) (by omega) (fun h2 l21 l22 l23 l24 l25 bc2 bs2 W_2 R8_2 H_2 y1 y2 => ?_)
        exact ih (c + 1) (by omega) h2 _ _ _ _ _ _ _ W_2 R8_2 H_2 (by omega) (by omega) (by omega) (by omega)
  exact loop 63 0 (by omega) h _ _ _ _ _ _ _ W_0 R8_0 H_0 (by omega) (by omega) (by omega) (by omega)
