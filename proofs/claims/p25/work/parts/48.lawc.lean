/-! the law: the hour, and what it looks at behind it -/
theorem abs9 {a b : Nat} (ha : a < 9) (hb : b < 9) : (if 0 ≤ nI a - nI b then nI a - nI b else 0 - (nI a - nI b)) = nI ((a - b) + (b - a)) := abs_dis ⟨a, ha⟩ ⟨b, hb⟩
set_option maxRecDepth 10000 in
theorem l_pass {K : gK} (hK : gClosed (gSafe 10) mL_law 11 lwPost lwX (fun _ => none) K) {a b L t : Nat} {xs : Nat → Int32} {n n' m : Nat → Nat} {S S1 : CS} {i : Nat} (I : InvC S i) {p1 : Nat} (V1 : InvS S1) (eS : hrS S = S1) (hg : S1.2.2.2.1 = S.2.2.2.1) (eP : fPass S (nI 1) = (vI (nI p1), S1)) (e0 : fForesee S (nI 1) (nI 0) = (vI (nI p1), S)) (e1 : fForesee S (nI 1) (nI 1) = (vI (iPop (S1.1 1)), S)) (e2 : fForesee S (nI 1) (nI 2) = (vI (iPop (S1.1 7)), S)) (e3 : fForesee S (nI 1) (nI 3) = (vI (nI (cntG (fun g => decide (S1.2.2.1 g 0 = S1.2.2.1 g 2)) S.2.2.2.1)), S)) (hs : sumT S1.2.2.1 6 S1.2.2.2.1 = sumT S.2.2.1 6 S.2.2.2.1 + p1) (k5 : S1.1 5 = S.1 5) (k6 : S1.1 6 = S.1 6) (hh : S1.2.2.2.2 = S.2.2.2.2 + 1) {q6 q7 q8 : Nat} {h : gH} (W_0 : LW h a b L xs n n' m S S) (R6_0 : Rw h q6 S.2.2.2.1 8 (fun k w => nI (trG S.2.2.1 k w)) S.2.2.2.1 0) (A7_0 : Ar h q7 S.2.2.2.1 (fun k => stpF S.1 (S.2.2.1 k 0) (S.2.2.1 k 2) (mpG S.2.2.1 k)) S.2.2.2.1) (R8_0 : Rw h q8 63 3 (fun c w => tCell S.1 S.2.1 S.2.2.1 S.2.2.2.1 c w) 63 0) (B6 : ∀ p, q6 ≤ p → p < q6 + (S.2.2.2.1 + 1) → ow a b n n' m (8 + S.2.2.2.1) p) (o7 : ow a b n n' m (8 + S.2.2.2.1) q7) (B8 : ∀ p, q8 ≤ p → p < q8 + (63 + 1) → ow a b n n' m (8 + S.2.2.2.1) p) {z4 : Int32} {l9 l10 l11 l12 l13 l14 l15 l16 l17 l18 l19 l20 l21 l22 l23 l24 l25 : Option Value} {bc bs : Nat} (hbc : 300 ≤ bc) (hbs : 2000 ≤ bs) (next : ∀ h' bc' bs', LW h' a b L xs n n' m S1 S1 → Rw h' q6 S.2.2.2.1 8 (fun k w => nI (trG S.2.2.1 k w)) S.2.2.2.1 0 → Ar h' q7 S.2.2.2.1 (fun k => stpF S.1 (S.2.2.1 k 0) (S.2.2.1 k 2) (mpG S.2.2.1 k)) S.2.2.2.1 → Rw h' q8 63 3 (fun c w => tCell S.1 S.2.1 S.2.2.1 S.2.2.2.1 c w) 63 0 → bc ≤ bc' + 300 → bs ≤ bs' + 2000 → K 498 [some (.ref b), some (.ref a), some (.ref (m 0)), some (.int (nI t)), some (.int z4), some (.int (nI S.2.2.2.1)), some (.ref (q6)), some (.ref (q7)), some (.ref (q8)), some (.int (iPop (S.1 5) + iPop (S.1 6))), some (.int (iPop (S1.1 1))), some (.int (iPop (S1.1 7))), some (.int (nI (cntG (fun g => decide (S1.2.2.1 g 0 = S1.2.2.1 g 2)) S.2.2.2.1))), some (.int (nI (p1))), some (.int (nI (sumT S.2.2.1 6 S.2.2.2.1))), some (.int (nI S.2.2.2.2)), l16, l17, l18, l19, l20, l21, l22, l23, l24, l25] [] h' bc' bs') : K 368 [some (.ref b), some (.ref a), some (.ref (m 0)), some (.int (nI t)), some (.int z4), some (.int (nI S.2.2.2.1)), some (.ref (q6)), some (.ref (q7)), some (.ref (q8)), l9, l10, l11, l12, l13, l14, l15, l16, l17, l18, l19, l20, l21, l22, l23, l24, l25] [] h bc bs := by
  have V := I.1
  have ok := V.1
  have ok' := V1.1
  have Ca := W_0.1.1
  refine s_aload_n hK dL_law_368 rfl ?_
  refine s_bipush hK (v := nI 6) dL_law_369 (by decide) ?_
  refine s_V1 hK (mc := 4) (ms := 24) dL_law_371 kV_L_131 (by assumption) (by rfl) (by omega) (by omega) ?_
  refine c_count _ W_0.1 ok (by omega) (by omega) (gDone_of (v := iPop (S.1 5) + iPop (S.1 6)) (fCount_n (w := 6) (by omega)) (fun h1 C1 F1 => ?_))
  have W_1 := W_0.cls C1 F1
  have Ca := W_1.1.1
  have R6_1 := R6_0.kp B6 (Kp.cls F1)
  have A7_1 := A7_0.kp o7 (Kp.cls F1)
  have R8_1 := R8_0.kp B8 (Kp.cls F1)
  refine s_istore hK dL_law_374 rfl ?_
  show K 376 [some (.ref b), some (.ref a), some (.ref (m 0)), some (.int (nI t)), some (.int z4), some (.int (nI S.2.2.2.1)), some (.ref (q6)), some (.ref (q7)), some (.ref (q8)), some (.int (iPop (S.1 5) + iPop (S.1 6))), l10, l11, l12, l13, l14, l15, l16, l17, l18, l19, l20, l21, l22, l23, l24, l25] [] _ _ _
  refine s_aload_n hK dL_law_376 rfl ?_
  refine s_iconst hK (v := nI 1) dL_law_377 (by decide) ?_
  refine s_iconst hK (v := nI 1) dL_law_378 (by decide) ?_
  refine s_V2 hK (mc := 4) (ms := 24) dL_law_379 kV_L_148 (by assumption) (by rfl) (by omega) (by omega) ?_
  refine c_foresee _ W_1.1 ok (by omega) (by omega) (gDone_of e1 (fun h2 C2 F2 => ?_))
  have W_2 := W_1.cls C2 F2
  have Ca := W_2.1.1
  have R6_2 := R6_1.kp B6 (Kp.cls F2)
  have A7_2 := A7_1.kp o7 (Kp.cls F2)
  have R8_2 := R8_1.kp B8 (Kp.cls F2)
  refine s_istore hK dL_law_382 rfl ?_
  show K 384 [some (.ref b), some (.ref a), some (.ref (m 0)), some (.int (nI t)), some (.int z4), some (.int (nI S.2.2.2.1)), some (.ref (q6)), some (.ref (q7)), some (.ref (q8)), some (.int (iPop (S.1 5) + iPop (S.1 6))), some (.int (iPop (S1.1 1))), l11, l12, l13, l14, l15, l16, l17, l18, l19, l20, l21, l22, l23, l24, l25] [] _ _ _
  refine s_aload_n hK dL_law_384 rfl ?_
  refine s_iconst hK (v := nI 1) dL_law_385 (by decide) ?_
  refine s_iconst hK (v := nI 2) dL_law_386 (by decide) ?_
  refine s_V2 hK (mc := 4) (ms := 24) dL_law_387 kV_L_148 (by assumption) (by rfl) (by omega) (by omega) ?_
  refine c_foresee _ W_2.1 ok (by omega) (by omega) (gDone_of e2 (fun h3 C3 F3 => ?_))
  have W_3 := W_2.cls C3 F3
  have Ca := W_3.1.1
  have R6_3 := R6_2.kp B6 (Kp.cls F3)
  have A7_3 := A7_2.kp o7 (Kp.cls F3)
  have R8_3 := R8_2.kp B8 (Kp.cls F3)
  refine s_istore hK dL_law_390 rfl ?_
  show K 392 [some (.ref b), some (.ref a), some (.ref (m 0)), some (.int (nI t)), some (.int z4), some (.int (nI S.2.2.2.1)), some (.ref (q6)), some (.ref (q7)), some (.ref (q8)), some (.int (iPop (S.1 5) + iPop (S.1 6))), some (.int (iPop (S1.1 1))), some (.int (iPop (S1.1 7))), l12, l13, l14, l15, l16, l17, l18, l19, l20, l21, l22, l23, l24, l25] [] _ _ _
  refine s_aload_n hK dL_law_392 rfl ?_
  refine s_iconst hK (v := nI 1) dL_law_393 (by decide) ?_
  refine s_iconst hK (v := nI 3) dL_law_394 (by decide) ?_
  refine s_V2 hK (mc := 4) (ms := 24) dL_law_395 kV_L_148 (by assumption) (by rfl) (by omega) (by omega) ?_
  refine c_foresee _ W_3.1 ok (by omega) (by omega) (gDone_of e3 (fun h4 C4 F4 => ?_))
  have W_4 := W_3.cls C4 F4
  have Ca := W_4.1.1
  have R6_4 := R6_3.kp B6 (Kp.cls F4)
  have A7_4 := A7_3.kp o7 (Kp.cls F4)
  have R8_4 := R8_3.kp B8 (Kp.cls F4)
  refine s_istore hK dL_law_398 rfl ?_
  show K 400 [some (.ref b), some (.ref a), some (.ref (m 0)), some (.int (nI t)), some (.int z4), some (.int (nI S.2.2.2.1)), some (.ref (q6)), some (.ref (q7)), some (.ref (q8)), some (.int (iPop (S.1 5) + iPop (S.1 6))), some (.int (iPop (S1.1 1))), some (.int (iPop (S1.1 7))), some (.int (nI (cntG (fun g => decide (S1.2.2.1 g 0 = S1.2.2.1 g 2)) S.2.2.2.1))), l13, l14, l15, l16, l17, l18, l19, l20, l21, l22, l23, l24, l25] [] _ _ _
  refine s_aload_n hK dL_law_400 rfl ?_
  refine s_iconst hK (v := nI 1) dL_law_401 (by decide) ?_
  refine s_iconst hK (v := nI 0) dL_law_402 (by decide) ?_
  refine s_V2 hK (mc := 4) (ms := 24) dL_law_403 kV_L_148 (by assumption) (by rfl) (by omega) (by omega) ?_
  refine c_foresee _ W_4.1 ok (by omega) (by omega) (gDone_of e0 (fun h5 C5 F5 => ?_))
  have W_5 := W_4.cls C5 F5
  have Ca := W_5.1.1
  have R6_5 := R6_4.kp B6 (Kp.cls F5)
  have A7_5 := A7_4.kp o7 (Kp.cls F5)
  have R8_5 := R8_4.kp B8 (Kp.cls F5)
  refine s_istore hK dL_law_406 rfl ?_
  show K 408 [some (.ref b), some (.ref a), some (.ref (m 0)), some (.int (nI t)), some (.int z4), some (.int (nI S.2.2.2.1)), some (.ref (q6)), some (.ref (q7)), some (.ref (q8)), some (.int (iPop (S.1 5) + iPop (S.1 6))), some (.int (iPop (S1.1 1))), some (.int (iPop (S1.1 7))), some (.int (nI (cntG (fun g => decide (S1.2.2.1 g 0 = S1.2.2.1 g 2)) S.2.2.2.1))), some (.int (nI (p1))), l14, l15, l16, l17, l18, l19, l20, l21, l22, l23, l24, l25] [] _ _ _
  refine s_aload_n hK dL_law_408 rfl ?_
  refine s_bipush hK (v := nI 8) dL_law_409 (by decide) ?_
  refine s_V1 hK (mc := 4) (ms := 24) dL_law_411 kV_L_131 (by assumption) (by rfl) (by omega) (by omega) ?_
  refine c_count _ W_5.1 ok (by omega) (by omega) (gDone_of (v := nI (sumT S.2.2.1 6 S.2.2.2.1)) (fCount_n (w := 8) (by omega)) (fun h6 C6 F6 => ?_))
  have W_6 := W_5.cls C6 F6
  have Ca := W_6.1.1
  have R6_6 := R6_5.kp B6 (Kp.cls F6)
  have A7_6 := A7_5.kp o7 (Kp.cls F6)
  have R8_6 := R8_5.kp B8 (Kp.cls F6)
  refine s_istore hK dL_law_414 rfl ?_
  show K 416 [some (.ref b), some (.ref a), some (.ref (m 0)), some (.int (nI t)), some (.int z4), some (.int (nI S.2.2.2.1)), some (.ref (q6)), some (.ref (q7)), some (.ref (q8)), some (.int (iPop (S.1 5) + iPop (S.1 6))), some (.int (iPop (S1.1 1))), some (.int (iPop (S1.1 7))), some (.int (nI (cntG (fun g => decide (S1.2.2.1 g 0 = S1.2.2.1 g 2)) S.2.2.2.1))), some (.int (nI (p1))), some (.int (nI (sumT S.2.2.1 6 S.2.2.2.1))), l15, l16, l17, l18, l19, l20, l21, l22, l23, l24, l25] [] _ _ _
  refine s_aload_n hK dL_law_416 rfl ?_
  refine s_iconst hK (v := nI 0) dL_law_417 (by decide) ?_
  refine s_V1 hK (mc := 4) (ms := 24) dL_law_418 kV_L_131 (by assumption) (by rfl) (by omega) (by omega) ?_
  refine c_count _ W_6.1 ok (by omega) (by omega) (gDone_of (v := nI S.2.2.2.2) (fCount_n (w := 0) (by omega)) (fun h7 C7 F7 => ?_))
  have W_7 := W_6.cls C7 F7
  have Ca := W_7.1.1
  have R6_7 := R6_6.kp B6 (Kp.cls F7)
  have A7_7 := A7_6.kp o7 (Kp.cls F7)
  have R8_7 := R8_6.kp B8 (Kp.cls F7)
  refine s_istore hK dL_law_421 rfl ?_
  show K 423 [some (.ref b), some (.ref a), some (.ref (m 0)), some (.int (nI t)), some (.int z4), some (.int (nI S.2.2.2.1)), some (.ref (q6)), some (.ref (q7)), some (.ref (q8)), some (.int (iPop (S.1 5) + iPop (S.1 6))), some (.int (iPop (S1.1 1))), some (.int (iPop (S1.1 7))), some (.int (nI (cntG (fun g => decide (S1.2.2.1 g 0 = S1.2.2.1 g 2)) S.2.2.2.1))), some (.int (nI (p1))), some (.int (nI (sumT S.2.2.1 6 S.2.2.2.1))), some (.int (nI S.2.2.2.2)), l16, l17, l18, l19, l20, l21, l22, l23, l24, l25] [] _ _ _
  refine s_aload_n hK dL_law_423 rfl ?_
  refine s_iconst hK (v := nI 1) dL_law_424 (by decide) ?_
  refine s_V1 hK (mc := 4) (ms := 24) dL_law_425 kV_L_151 (by assumption) (by rfl) (by omega) (by omega) ?_
  refine c_pass _ W_7.1 ok (by omega) (by omega) (gDone_of eP (fun h8 C8 F8 => ?_))
  have W_8 := W_7.cls C8 F8
  have Ca := W_8.1.1
  have R6_8 := R6_7.kp B6 (Kp.cls F8)
  have A7_8 := A7_7.kp o7 (Kp.cls F8)
  have R8_8 := R8_7.kp B8 (Kp.cls F8)
  refine s_iload hK dL_law_428 rfl ?_
  refine s_icmpne hK dL_law_430 491 (by decide) (fun c_430 => ?_) (fun c_430 => ?_)
  · exact absurd rfl c_430
  · refine s_aload_n hK dL_law_433 rfl ?_
    refine s_bipush hK (v := nI 8) dL_law_434 (by decide) ?_
    refine s_V1 hK (mc := 4) (ms := 24) dL_law_436 kV_L_131 (by assumption) (by rfl) (by omega) (by omega) ?_
    refine c_count _ W_8.1 ok' (by omega) (by omega) (gDone_of (v := nI (sumT S1.2.2.1 6 S1.2.2.2.1)) (fCount_n (S := S1) (w := 8) (by omega)) (fun h9 C9 F9 => ?_))
    have W_9 := W_8.cls C9 F9
    have Ca := W_9.1.1
    have R6_9 := R6_8.kp B6 (Kp.cls F9)
    have A7_9 := A7_8.kp o7 (Kp.cls F9)
    have R8_9 := R8_8.kp B8 (Kp.cls F9)
    refine s_iload hK dL_law_439 rfl ?_
    refine s_iload hK dL_law_441 rfl ?_
    refine s_iadd hK dL_law_443 ?_
    rw [nI_add, hs]
    refine s_icmpne hK dL_law_444 491 (by decide) (fun c_444 => ?_) (fun c_444 => ?_)
    · exact absurd rfl c_444
    · refine s_aload_n hK dL_law_447 rfl ?_
      refine s_iconst hK (v := nI 3) dL_law_448 (by decide) ?_
      refine s_V1 hK (mc := 4) (ms := 24) dL_law_449 kV_L_131 (by assumption) (by rfl) (by omega) (by omega) ?_
      refine c_count _ W_9.1 ok' (by omega) (by omega) (gDone_of (v := iPop (S1.1 1)) (fCount_n (S := S1) (w := 3) (by omega)) (fun h10 C10 F10 => ?_))
      have W_10 := W_9.cls C10 F10
      have Ca := W_10.1.1
      have R6_10 := R6_9.kp B6 (Kp.cls F10)
      have A7_10 := A7_9.kp o7 (Kp.cls F10)
      have R8_10 := R8_9.kp B8 (Kp.cls F10)
      refine s_iload hK dL_law_452 rfl ?_
      refine s_icmpne hK dL_law_454 491 (by decide) (fun c_454 => ?_) (fun c_454 => ?_)
      · exact absurd rfl c_454
      · refine s_aload_n hK dL_law_457 rfl ?_
        refine s_bipush hK (v := nI 7) dL_law_458 (by decide) ?_
        refine s_V1 hK (mc := 4) (ms := 24) dL_law_460 kV_L_131 (by assumption) (by rfl) (by omega) (by omega) ?_
        refine c_count _ W_10.1 ok' (by omega) (by omega) (gDone_of (v := iPop (S1.1 7)) (fCount_n (S := S1) (w := 7) (by omega)) (fun h11 C11 F11 => ?_))
        have W_11 := W_10.cls C11 F11
        have Ca := W_11.1.1
        have R6_11 := R6_10.kp B6 (Kp.cls F11)
        have A7_11 := A7_10.kp o7 (Kp.cls F11)
        have R8_11 := R8_10.kp B8 (Kp.cls F11)
        refine s_iload hK dL_law_463 rfl ?_
        refine s_icmpne hK dL_law_465 491 (by decide) (fun c_465 => ?_) (fun c_465 => ?_)
        · exact absurd rfl c_465
        · refine s_aload_n hK dL_law_468 rfl ?_
          refine s_bipush hK (v := nI 6) dL_law_469 (by decide) ?_
          refine s_V1 hK (mc := 4) (ms := 24) dL_law_471 kV_L_131 (by assumption) (by rfl) (by omega) (by omega) ?_
          refine c_count _ W_11.1 ok' (by omega) (by omega) (gDone_of (v := iPop (S1.1 5) + iPop (S1.1 6)) (fCount_n (S := S1) (w := 6) (by omega)) (fun h12 C12 F12 => ?_))
          have W_12 := W_11.cls C12 F12
          have Ca := W_12.1.1
          have R6_12 := R6_11.kp B6 (Kp.cls F12)
          have A7_12 := A7_11.kp o7 (Kp.cls F12)
          have R8_12 := R8_11.kp B8 (Kp.cls F12)
          rw [k5, k6]
          refine s_iload hK dL_law_474 rfl ?_
          refine s_icmpne hK dL_law_476 491 (by decide) (fun c_476 => ?_) (fun c_476 => ?_)
          · exact absurd rfl c_476
          · refine s_aload_n hK dL_law_479 rfl ?_
            refine s_iconst hK (v := nI 0) dL_law_480 (by decide) ?_
            refine s_V1 hK (mc := 4) (ms := 24) dL_law_481 kV_L_131 (by assumption) (by rfl) (by omega) (by omega) ?_
            refine c_count _ W_12.1 ok' (by omega) (by omega) (gDone_of (v := nI S1.2.2.2.2) (fCount_n (S := S1) (w := 0) (by omega)) (fun h13 C13 F13 => ?_))
            have W_13 := W_12.cls C13 F13
            have Ca := W_13.1.1
            have R6_13 := R6_12.kp B6 (Kp.cls F13)
            have A7_13 := A7_12.kp o7 (Kp.cls F13)
            have R8_13 := R8_12.kp B8 (Kp.cls F13)
            rw [hh]
            refine s_iload hK dL_law_484 rfl ?_
            refine s_iconst hK (v := 1) dL_law_486 (by decide) ?_
            refine s_iadd hK dL_law_487 ?_
            rw [nI_1]
            refine s_icmpeq hK dL_law_488 493 (by decide) (fun c_488 => ?_) (fun c_488 => ?_)
            · have M0 := W_13.2.1.c0
              refine s_aload_n hK dL_law_493 rfl ?_
              refine s_V0 hK (mc := 200) (ms := 1500) dL_law_494 kV_L_154 (by assumption) (by rfl) (by omega) (by omega) ?_
              refine c_passS _ V W_13.2.1 (by omega) (by omega) (fun v h9 M9 F9 => ?_)
              rw [eS] at M9
              obtain ⟨C, M, D, e, ob, s⟩ := W_13
              have W9 : LW h9 a b L xs n n' m S1 S1 := ⟨C.sim D F9, M9, by rw [hg]; exact D, (F9 b s (by rw [e]; exact fun z => nomatch z)).trans e, ob, by rw [hg]; exact s⟩
              refine s_pop hK dL_law_497 rfl ?_
              exact next h9 _ _ W9 (R6_13.kp B6 (Kp.sim F9)) (A7_13.kp o7 (Kp.sim F9)) (R8_13.kp B8 (Kp.sim F9)) (by omega) (by omega)
            · exact absurd rfl c_488
set_option maxHeartbeats 1000000 in
set_option maxRecDepth 10000 in
theorem l_gchk {K : gK} (hK : gClosed (gSafe 10) mL_law 11 lwPost lwX (fun _ => none) K) {a b L t : Nat} {xs : Nat → Int32} {n n' m : Nat → Nat} {S S1 : CS} {i : Nat} (I : InvC S i) (V1 : InvS S1) (hg : S1.2.2.2.1 = S.2.2.2.1) (fd : ∀ k, k < S.2.2.2.1 → dis (S1.2.2.1 k 0) (S.2.2.1 k 0) ≤ S.2.2.1 k 1) (fg : ∀ k, S1.2.2.1 k 2 = S.2.2.1 k 2) (fp : ∀ k, S1.2.2.1 k 1 = S.2.2.1 k 1) (fm : ∀ k, S1.2.2.1 k 3 ≤ S.2.2.1 k 3) (f5 : ∀ k, k < S.2.2.2.1 → S1.2.2.1 k 5 = S.2.2.1 k 5 + (lb (S1.1 7) (S1.2.2.1 k 0)).toNat ∧ S1.2.2.1 k 4 = S.2.2.1 k 4 + (hx S1 k).toNat) (fh : ∀ k, S.2.2.1 k 0 = S.2.2.1 k 2 → S1.2.2.1 k 0 = S.2.2.1 k 0) {q6 q7 q8 q16 k : Nat} (hk : k < S.2.2.2.1) (B6 : ∀ p, q6 ≤ p → p < q6 + (S.2.2.2.1 + 1) → ow a b n n' m (8 + S.2.2.2.1) p) (o7 : ow a b n n' m (8 + S.2.2.2.1) q7) (B8 : ∀ p, q8 ≤ p → p < q8 + (63 + 1) → ow a b n n' m (8 + S.2.2.2.1) p) (o16 : ow a b n n' m (8 + S.2.2.2.1) q16) (x6 : ¬ (q6 ≤ q16 ∧ q16 < q6 + (S.2.2.2.1 + 1))) (x7 : q16 ≠ q7) (x8 : ¬ (q8 ≤ q16 ∧ q16 < q8 + (63 + 1))) {h : gH} (W_0 : LW h a b L xs n n' m S1 S1) (R6_0 : Rw h q6 S.2.2.2.1 8 (fun k w => nI (trG S.2.2.1 k w)) S.2.2.2.1 0) (A7_0 : Ar h q7 S.2.2.2.1 (fun k => stpF S.1 (S.2.2.1 k 0) (S.2.2.1 k 2) (mpG S.2.2.1 k)) S.2.2.2.1) (R8_0 : Rw h q8 63 3 (fun c w => tCell S.1 S.2.1 S.2.2.1 S.2.2.2.1 c w) 63 0) (H_0 : Hr h q16 S1 (k + 1)) {z4 v9 v10 v11 v12 v13 v14 v15 : Int32} {l23 l24 l25 : Option Value} {bc bs : Nat} (hbc : 16 ≤ bc) (hbs : 96 ≤ bs) (next : ∀ h', LW h' a b L xs n n' m S1 S1 → Rw h' q6 S.2.2.2.1 8 (fun k w => nI (trG S.2.2.1 k w)) S.2.2.2.1 0 → Ar h' q7 S.2.2.2.1 (fun k => stpF S.1 (S.2.2.1 k 0) (S.2.2.1 k 2) (mpG S.2.2.1 k)) S.2.2.2.1 → Rw h' q8 63 3 (fun c w => tCell S.1 S.2.1 S.2.2.1 S.2.2.2.1 c w) 63 0 → Hr h' q16 S1 (k + 1) → K 810 [some (.ref b), some (.ref a), some (.ref (m 0)), some (.int (nI t)), some (.int z4), some (.int (nI S.2.2.2.1)), some (.ref (q6)), some (.ref (q7)), some (.ref (q8)), some (.int (v9)), some (.int (v10)), some (.int (v11)), some (.int (v12)), some (.int (v13)), some (.int (v14)), some (.int (v15)), some (.ref (q16)), some (.int (nI (cntG (fun g => decide (S1.2.2.1 g 0 = S1.2.2.1 g 2)) (k + 1)))), some (.int (nI k)), some (.int (nI (S1.2.2.1 k 0 % 9))), some (.int (nI (S1.2.2.1 k 0 / 9))), some (.int (b01 (lb (S1.1 7) (S1.2.2.1 k 0)))), some (.int (b01 (decide (thg S1.1 (S1.2.2.1 k 0) = 4)))), l23, l24, l25] [] h' (bc - 4 - 4 - 4 - 4) (bs - 24 - 24 - 24 - 24)) : K 638 [some (.ref b), some (.ref a), some (.ref (m 0)), some (.int (nI t)), some (.int z4), some (.int (nI S.2.2.2.1)), some (.ref (q6)), some (.ref (q7)), some (.ref (q8)), some (.int (v9)), some (.int (v10)), some (.int (v11)), some (.int (v12)), some (.int (v13)), some (.int (v14)), some (.int (v15)), some (.ref (q16)), some (.int (nI (cntG (fun g => decide (S1.2.2.1 g 0 = S1.2.2.1 g 2)) (k + 1)))), some (.int (nI k)), some (.int (nI (S1.2.2.1 k 0 % 9))), some (.int (nI (S1.2.2.1 k 0 / 9))), some (.int (b01 (lb (S1.1 7) (S1.2.2.1 k 0)))), some (.int (b01 (decide (thg S1.1 (S1.2.2.1 k 0) = 4)))), l23, l24, l25] [] h bc bs := by
  have ok1 := V1.1
  have g6 : S1.2.2.2.1 ≤ 6 := ok1.1
  have hk1 : k < S1.2.2.2.1 := by omega
  obtain ⟨go0, go1, go2, go3⟩ := ok1.2 k (by omega)
  obtain ⟨gp0, gp1, gp2, gp3⟩ := I.1.1.2 k (by omega)
  have d1 := fd k hk
  obtain ⟨f55, f44⟩ := f5 k hk
  have Ca := W_0.1.1
  obtain ⟨f6, r1, r2⟩ := R6_0.row0 hk hk
  have r2 : ∀ w', w' < 8 → f6 w' = nI (trG S.2.2.1 k w') := r2
  refine s_iload hK dL_law_638 rfl ?_
  refine s_aload hK dL_law_640 rfl ?_
  refine s_iload hK dL_law_642 rfl ?_
  refine s_aaload hK dL_law_644 R6_0.1 rfl hk (by omega) (if_pos hk) ?_
  refine s_iconst hK (v := nI 0) dL_law_645 (by decide) ?_
  refine s_ialoadN hK dL_law_646 r1 (show 0 < 8 by omega) (by omega) ?_
  rw [r2 0 (by omega)]
  refine s_isub hK dL_law_647 ?_
  refine s_abs hK dL_law_648 kB_L_157 (by omega) (by rfl) ?_
  rw [show (if 0 ≤ nI (S1.2.2.1 k 0 % 9) - nI (trG S.2.2.1 k 0) then nI (S1.2.2.1 k 0 % 9) - nI (trG S.2.2.1 k 0) else 0 - (nI (S1.2.2.1 k 0 % 9) - nI (trG S.2.2.1 k 0))) = nI ((S1.2.2.1 k 0 % 9 - S.2.2.1 k 0 % 9) + (S.2.2.1 k 0 % 9 - S1.2.2.1 k 0 % 9)) from abs9 (a := S1.2.2.1 k 0 % 9) (b := S.2.2.1 k 0 % 9) (Nat.mod_lt _ (by omega)) (Nat.mod_lt _ (by omega))]
  refine s_iload hK dL_law_651 rfl ?_
  refine s_aload hK dL_law_653 rfl ?_
  refine s_iload hK dL_law_655 rfl ?_
  refine s_aaload hK dL_law_657 R6_0.1 rfl hk (by omega) (if_pos hk) ?_
  refine s_iconst hK (v := nI 1) dL_law_658 (by decide) ?_
  refine s_ialoadN hK dL_law_659 r1 (show 1 < 8 by omega) (by omega) ?_
  rw [r2 1 (by omega)]
  refine s_isub hK dL_law_660 ?_
  refine s_abs hK dL_law_661 kB_L_157 (by omega) (by rfl) ?_
  rw [show (if 0 ≤ nI (S1.2.2.1 k 0 / 9) - nI (trG S.2.2.1 k 1) then nI (S1.2.2.1 k 0 / 9) - nI (trG S.2.2.1 k 1) else 0 - (nI (S1.2.2.1 k 0 / 9) - nI (trG S.2.2.1 k 1))) = nI ((S1.2.2.1 k 0 / 9 - S.2.2.1 k 0 / 9) + (S.2.2.1 k 0 / 9 - S1.2.2.1 k 0 / 9)) from abs9 (a := S1.2.2.1 k 0 / 9) (b := S.2.2.1 k 0 / 9) (by omega) (by omega)]
  refine s_iadd hK dL_law_664 ?_
  rw [nI_add]
  refine s_aload hK dL_law_665 rfl ?_
  refine s_iload hK dL_law_667 rfl ?_
  refine s_aaload hK dL_law_669 R6_0.1 rfl hk (by omega) (if_pos hk) ?_
  refine s_iconst hK (v := nI 2) dL_law_670 (by decide) ?_
  refine s_ialoadN hK dL_law_671 r1 (show 2 < 8 by omega) (by omega) ?_
  rw [r2 2 (by omega)]
  refine s_icmpgt hK dL_law_672 774 (by decide) (fun c_672 => ?_) (fun c_672 => ?_)
  · have d2 : (S1.2.2.1 k 0 % 9 - S.2.2.1 k 0 % 9) + (S.2.2.1 k 0 % 9 - S1.2.2.1 k 0 % 9) + ((S1.2.2.1 k 0 / 9 - S.2.2.1 k 0 / 9) + (S.2.2.1 k 0 / 9 - S1.2.2.1 k 0 / 9)) ≤ S.2.2.1 k 1 := d1
    have c9 : nI (S.2.2.1 k 1) < _ := c_672
    have c9 := (nI_ltI (by omega) (by omega)).mp c9
    omega
  · skip
    refine s_aload_n hK dL_law_675 rfl ?_
    refine s_iload hK dL_law_676 rfl ?_
    refine s_iconst hK (v := nI 2) dL_law_678 (by decide) ?_
    refine s_V2 hK (mc := 4) (ms := 24) dL_law_679 kV_L_135 (by assumption) (by rfl) (by omega) (by omega) ?_
    refine c_ghost _ W_0.1 ok1 (by omega) (by omega) (gDone_of (v := nI (S1.2.2.1 k 1)) (fGhost_n hk1 g6 (show 2 < 8 by omega)) (fun h1 C1 F1 => ?_))
    have W_1 := W_0.cls C1 F1
    have Ca := W_1.1.1
    have R6_1 := R6_0.kp B6 (Kp.cls F1)
    have A7_1 := A7_0.kp o7 (Kp.cls F1)
    have R8_1 := R8_0.kp B8 (Kp.cls F1)
    have H_1 := H_0.kp o16 (Kp.cls F1)
    obtain ⟨f6, r1, r2⟩ := R6_1.row0 hk hk
    have r2 : ∀ w', w' < 8 → f6 w' = nI (trG S.2.2.1 k w') := r2
    refine s_aload hK dL_law_682 rfl ?_
    refine s_iload hK dL_law_684 rfl ?_
    refine s_aaload hK dL_law_686 R6_1.1 rfl hk (by omega) (if_pos hk) ?_
    refine s_iconst hK (v := nI 2) dL_law_687 (by decide) ?_
    refine s_ialoadN hK dL_law_688 r1 (show 2 < 8 by omega) (by omega) ?_
    rw [r2 2 (by omega)]
    refine s_icmpne hK dL_law_689 774 (by decide) (fun c_689 => ?_) (fun c_689 => ?_)
    · exact absurd (by rw [fp k]; rfl) c_689
    · skip
      refine s_aload_n hK dL_law_692 rfl ?_
      refine s_iload hK dL_law_693 rfl ?_
      refine s_iconst hK (v := nI 5) dL_law_695 (by decide) ?_
      refine s_V2 hK (mc := 4) (ms := 24) dL_law_696 kV_L_135 (by assumption) (by rfl) (by omega) (by omega) ?_
      refine c_ghost _ W_1.1 ok1 (by omega) (by omega) (gDone_of (v := nI (S1.2.2.1 k 3)) (fGhost_n hk1 g6 (show 5 < 8 by omega)) (fun h2 C2 F2 => ?_))
      have W_2 := W_1.cls C2 F2
      have Ca := W_2.1.1
      have R6_2 := R6_1.kp B6 (Kp.cls F2)
      have A7_2 := A7_1.kp o7 (Kp.cls F2)
      have R8_2 := R8_1.kp B8 (Kp.cls F2)
      have H_2 := H_1.kp o16 (Kp.cls F2)
      obtain ⟨f6, r1, r2⟩ := R6_2.row0 hk hk
      have r2 : ∀ w', w' < 8 → f6 w' = nI (trG S.2.2.1 k w') := r2
      refine s_aload hK dL_law_699 rfl ?_
      refine s_iload hK dL_law_701 rfl ?_
      refine s_aaload hK dL_law_703 R6_2.1 rfl hk (by omega) (if_pos hk) ?_
      refine s_iconst hK (v := nI 5) dL_law_704 (by decide) ?_
      refine s_ialoadN hK dL_law_705 r1 (show 5 < 8 by omega) (by omega) ?_
      rw [r2 5 (by omega)]
      refine s_icmpgt hK dL_law_706 774 (by decide) (fun c_706 => ?_) (fun c_706 => ?_)
      · have c9 : nI (S.2.2.1 k 3) < nI (S1.2.2.1 k 3) := c_706
        have c9 := (nI_ltI (by omega) (by omega)).mp c9
        have := fm k
        omega
      · skip
        refine s_aload_n hK dL_law_709 rfl ?_
        refine s_iload hK dL_law_710 rfl ?_
        refine s_bipush hK (v := nI 6) dL_law_712 (by decide) ?_
        refine s_V2 hK (mc := 4) (ms := 24) dL_law_714 kV_L_135 (by assumption) (by rfl) (by omega) (by omega) ?_
        refine c_ghost _ W_2.1 ok1 (by omega) (by omega) (gDone_of (v := nI (S1.2.2.1 k 4)) (fGhost_n hk1 g6 (show 6 < 8 by omega)) (fun h3 C3 F3 => ?_))
        have W_3 := W_2.cls C3 F3
        have Ca := W_3.1.1
        have R6_3 := R6_2.kp B6 (Kp.cls F3)
        have A7_3 := A7_2.kp o7 (Kp.cls F3)
        have R8_3 := R8_2.kp B8 (Kp.cls F3)
        have H_3 := H_2.kp o16 (Kp.cls F3)
        obtain ⟨f6, r1, r2⟩ := R6_3.row0 hk hk
        have r2 : ∀ w', w' < 8 → f6 w' = nI (trG S.2.2.1 k w') := r2
        refine s_aload hK dL_law_717 rfl ?_
        refine s_iload hK dL_law_719 rfl ?_
        refine s_aaload hK dL_law_721 R6_3.1 rfl hk (by omega) (if_pos hk) ?_
        refine s_bipush hK (v := nI 6) dL_law_722 (by decide) ?_
        refine s_ialoadN hK dL_law_724 r1 (show 6 < 8 by omega) (by omega) ?_
        rw [r2 6 (by omega)]
        have T1 := V1.2.2.1
        have ehx : hx S1 k = (!lb (S1.1 7) (S1.2.2.1 k 0) && decide (thg S1.1 (S1.2.2.1 k 0) = 4)) := by
          unfold hx
          congr 1
          cases e4 : lb (S1.1 4) (S1.2.2.1 k 0) with
          | true => rw [decide_eq_true ((thg4 T1 _).mpr e4)]
          | false => rw [decide_eq_false (fun z => by rw [(thg4 T1 _).mp z] at e4; cases e4)]
        have at740 : ∀ v : Int32, v = b01 (hx S1 k) → K 740 [some (.ref b), some (.ref a), some (.ref (m 0)), some (.int (nI t)), some (.int z4), some (.int (nI S.2.2.2.1)), some (.ref (q6)), some (.ref (q7)), some (.ref (q8)), some (.int (v9)), some (.int (v10)), some (.int (v11)), some (.int (v12)), some (.int (v13)), some (.int (v14)), some (.int (v15)), some (.ref (q16)), some (.int (nI (cntG (fun g => decide (S1.2.2.1 g 0 = S1.2.2.1 g 2)) (k + 1)))), some (.int (nI k)), some (.int (nI (S1.2.2.1 k 0 % 9))), some (.int (nI (S1.2.2.1 k 0 / 9))), some (.int (b01 (lb (S1.1 7) (S1.2.2.1 k 0)))), some (.int (b01 (decide (thg S1.1 (S1.2.2.1 k 0) = 4)))), l23, l24, l25] [.int v, .int (nI (trG S.2.2.1 k 6)), .int (nI (S1.2.2.1 k 4))] h3 (bc - 4 - 4 - 4) (bs - 24 - 24 - 24) := by
          intro v hv
          have ev : nI (trG S.2.2.1 k 6) + v = nI (S1.2.2.1 k 4) := by
            rw [hv, f44]
            show nI (S.2.2.1 k 4) + b01 (hx S1 k) = _
            cases hx S1 k
            · exact Int32.add_zero _
            · exact nI_1 _
          refine s_iadd hK dL_law_740 ?_
          rw [ev]
          refine s_icmpne hK dL_law_741 774 (by decide) (fun c_741 => ?_) (fun c_741 => ?_)
          · exact absurd rfl c_741
          · skip
            refine s_aload_n hK dL_law_744 rfl ?_
            refine s_iload hK dL_law_745 rfl ?_
            refine s_bipush hK (v := nI 7) dL_law_747 (by decide) ?_
            refine s_V2 hK (mc := 4) (ms := 24) dL_law_749 kV_L_135 (by assumption) (by rfl) (by omega) (by omega) ?_
            refine c_ghost _ W_3.1 ok1 (by omega) (by omega) (gDone_of (v := nI (S1.2.2.1 k 5)) (fGhost_n hk1 g6 (show 7 < 8 by omega)) (fun h4 C4 F4 => ?_))
            have W_4 := W_3.cls C4 F4
            have Ca := W_4.1.1
            have R6_4 := R6_3.kp B6 (Kp.cls F4)
            have A7_4 := A7_3.kp o7 (Kp.cls F4)
            have R8_4 := R8_3.kp B8 (Kp.cls F4)
            have H_4 := H_3.kp o16 (Kp.cls F4)
            obtain ⟨f6, r1, r2⟩ := R6_4.row0 hk hk
            have r2 : ∀ w', w' < 8 → f6 w' = nI (trG S.2.2.1 k w') := r2
            refine s_aload hK dL_law_752 rfl ?_
            refine s_iload hK dL_law_754 rfl ?_
            refine s_aaload hK dL_law_756 R6_4.1 rfl hk (by omega) (if_pos hk) ?_
            refine s_bipush hK (v := nI 7) dL_law_757 (by decide) ?_
            refine s_ialoadN hK dL_law_759 r1 (show 7 < 8 by omega) (by omega) ?_
            rw [r2 7 (by omega)]
            have at770 : ∀ v : Int32, v = b01 (lb (S1.1 7) (S1.2.2.1 k 0)) → K 770 [some (.ref b), some (.ref a), some (.ref (m 0)), some (.int (nI t)), some (.int z4), some (.int (nI S.2.2.2.1)), some (.ref (q6)), some (.ref (q7)), some (.ref (q8)), some (.int (v9)), some (.int (v10)), some (.int (v11)), some (.int (v12)), some (.int (v13)), some (.int (v14)), some (.int (v15)), some (.ref (q16)), some (.int (nI (cntG (fun g => decide (S1.2.2.1 g 0 = S1.2.2.1 g 2)) (k + 1)))), some (.int (nI k)), some (.int (nI (S1.2.2.1 k 0 % 9))), some (.int (nI (S1.2.2.1 k 0 / 9))), some (.int (b01 (lb (S1.1 7) (S1.2.2.1 k 0)))), some (.int (b01 (decide (thg S1.1 (S1.2.2.1 k 0) = 4)))), l23, l24, l25] [.int v, .int (nI (trG S.2.2.1 k 7)), .int (nI (S1.2.2.1 k 5))] h4 (bc - 4 - 4 - 4 - 4) (bs - 24 - 24 - 24 - 24) := by
              intro v hv
              have ev : nI (trG S.2.2.1 k 7) + v = nI (S1.2.2.1 k 5) := by
                rw [hv, f55]
                show nI (S.2.2.1 k 5) + b01 (lb (S1.1 7) (S1.2.2.1 k 0)) = _
                cases lb (S1.1 7) (S1.2.2.1 k 0)
                · exact Int32.add_zero _
                · exact nI_1 _
              refine s_iadd hK dL_law_770 ?_
              rw [ev]
              refine s_icmpeq hK dL_law_771 776 (by decide) (fun c_771 => ?_) (fun c_771 => ?_)
              · obtain ⟨f7, y1, y2⟩ := A7_4.at_ hk hk
                have y2 : f7 k = stpF S.1 (S.2.2.1 k 0) (S.2.2.1 k 2) (mpG S.2.2.1 k) := y2
                refine s_aload hK dL_law_776 rfl ?_
                refine s_iload hK dL_law_778 rfl ?_
                refine s_ialoadN hK dL_law_780 y1 hk (by omega) ?_
                rw [y2]
                refine s_ifne hK dL_law_781 810 (by decide) (fun c_781 => ?_) (fun c_781 => ?_)
                · exact next h4 W_4 R6_4 A7_4 R8_4 H_4
                · have e0 := fh k (stp_0.mp c_781)
                  refine s_iload hK dL_law_784 rfl ?_
                  refine s_aload hK dL_law_786 rfl ?_
                  refine s_iload hK dL_law_788 rfl ?_
                  refine s_aaload hK dL_law_790 R6_4.1 rfl hk (by omega) (if_pos hk) ?_
                  refine s_iconst hK (v := nI 0) dL_law_791 (by decide) ?_
                  refine s_ialoadN hK dL_law_792 r1 (show 0 < 8 by omega) (by omega) ?_
                  rw [r2 0 (by omega)]
                  refine s_icmpne hK dL_law_793 808 (by decide) (fun c_793 => ?_) (fun c_793 => ?_)
                  · exact absurd (by rw [e0]; rfl) c_793
                  · refine s_iload hK dL_law_796 rfl ?_
                    refine s_aload hK dL_law_798 rfl ?_
                    refine s_iload hK dL_law_800 rfl ?_
                    refine s_aaload hK dL_law_802 R6_4.1 rfl hk (by omega) (if_pos hk) ?_
                    refine s_iconst hK (v := nI 1) dL_law_803 (by decide) ?_
                    refine s_ialoadN hK dL_law_804 r1 (show 1 < 8 by omega) (by omega) ?_
                    rw [r2 1 (by omega)]
                    refine s_icmpeq hK dL_law_805 810 (by decide) (fun c_805 => ?_) (fun c_805 => ?_)
                    · exact next h4 W_4 R6_4 A7_4 R8_4 H_4
                    · exact absurd (by rw [e0]; rfl) c_805
              · exact absurd rfl c_771
            refine s_iload hK dL_law_760 rfl ?_
            by_cases el : lb (S1.1 7) (S1.2.2.1 k 0) = true
            · refine s_ifeq hK dL_law_762 769 (by decide) (fun c_762 => ?_) (fun c_762 => ?_)
              · exact absurd c_762 (by rw [el]; decide)
              · refine s_iconst hK (v := 1) dL_law_765 (by decide) ?_
                refine s_goto hK dL_law_766 770 (by decide) ?_
                exact at770 _ (by rw [el]; rfl)
            · have el := bool_f el
              refine s_ifeq hK dL_law_762 769 (by decide) (fun c_762 => ?_) (fun c_762 => ?_)
              · refine s_iconst hK (v := 0) dL_law_769 (by decide) ?_
                exact at770 _ (by rw [el]; rfl)
              · exact absurd (by rw [el]; rfl) c_762
        refine s_iload hK dL_law_725 rfl ?_
        by_cases el : lb (S1.1 7) (S1.2.2.1 k 0) = true
        · refine s_ifne hK dL_law_727 739 (by decide) (fun c_727 => ?_) (fun c_727 => ?_)
          · refine s_iconst hK (v := 0) dL_law_739 (by decide) ?_
            exact at740 _ (by rw [ehx, el]; rfl)
          · exact absurd c_727 (by rw [el]; decide)
        · have el := bool_f el
          refine s_ifne hK dL_law_727 739 (by decide) (fun c_727 => ?_) (fun c_727 => ?_)
          · exact absurd (by rw [el]; rfl) c_727
          · refine s_iload hK dL_law_730 rfl ?_
            by_cases e4 : thg S1.1 (S1.2.2.1 k 0) = 4
            · refine s_ifeq hK dL_law_732 739 (by decide) (fun c_732 => ?_) (fun c_732 => ?_)
              · exact absurd c_732 (by rw [decide_eq_true e4]; decide)
              · refine s_iconst hK (v := 1) dL_law_735 (by decide) ?_
                refine s_goto hK dL_law_736 740 (by decide) ?_
                exact at740 _ (by rw [ehx, el, decide_eq_true e4]; rfl)
            · refine s_ifeq hK dL_law_732 739 (by decide) (fun c_732 => ?_) (fun c_732 => ?_)
              · refine s_iconst hK (v := 0) dL_law_739 (by decide) ?_
                exact at740 _ (by rw [ehx, el, decide_eq_false e4]; rfl)
              · exact absurd (by rw [decide_eq_false e4]; rfl) c_732
set_option maxHeartbeats 1000000 in
set_option maxRecDepth 10000 in
theorem l_gone {K : gK} (hK : gClosed (gSafe 10) mL_law 11 lwPost lwX (fun _ => none) K) {a b L t : Nat} {xs : Nat → Int32} {n n' m : Nat → Nat} {S S1 : CS} {i : Nat} (I : InvC S i) (V1 : InvS S1) (hg : S1.2.2.2.1 = S.2.2.2.1) (fd : ∀ k, k < S.2.2.2.1 → dis (S1.2.2.1 k 0) (S.2.2.1 k 0) ≤ S.2.2.1 k 1) (fg : ∀ k, S1.2.2.1 k 2 = S.2.2.1 k 2) (fp : ∀ k, S1.2.2.1 k 1 = S.2.2.1 k 1) (fm : ∀ k, S1.2.2.1 k 3 ≤ S.2.2.1 k 3) (f5 : ∀ k, k < S.2.2.2.1 → S1.2.2.1 k 5 = S.2.2.1 k 5 + (lb (S1.1 7) (S1.2.2.1 k 0)).toNat ∧ S1.2.2.1 k 4 = S.2.2.1 k 4 + (hx S1 k).toNat) (fh : ∀ k, S.2.2.1 k 0 = S.2.2.1 k 2 → S1.2.2.1 k 0 = S.2.2.1 k 0) {q6 q7 q8 q16 k : Nat} (hk : k < S.2.2.2.1) (B6 : ∀ p, q6 ≤ p → p < q6 + (S.2.2.2.1 + 1) → ow a b n n' m (8 + S.2.2.2.1) p) (o7 : ow a b n n' m (8 + S.2.2.2.1) q7) (B8 : ∀ p, q8 ≤ p → p < q8 + (63 + 1) → ow a b n n' m (8 + S.2.2.2.1) p) (o16 : ow a b n n' m (8 + S.2.2.2.1) q16) (x6 : ¬ (q6 ≤ q16 ∧ q16 < q6 + (S.2.2.2.1 + 1))) (x7 : q16 ≠ q7) (x8 : ¬ (q8 ≤ q16 ∧ q16 < q8 + (63 + 1))) {h : gH} (W_0 : LW h a b L xs n n' m S1 S1) (R6_0 : Rw h q6 S.2.2.2.1 8 (fun k w => nI (trG S.2.2.1 k w)) S.2.2.2.1 0) (A7_0 : Ar h q7 S.2.2.2.1 (fun k => stpF S.1 (S.2.2.1 k 0) (S.2.2.1 k 2) (mpG S.2.2.1 k)) S.2.2.2.1) (R8_0 : Rw h q8 63 3 (fun c w => tCell S.1 S.2.1 S.2.2.1 S.2.2.2.1 c w) 63 0) (H_0 : Hr h q16 S1 k) {z4 v9 v10 v11 v12 v13 v14 v15 : Int32} {l19 l20 l21 l22 l23 l24 l25 : Option Value} {bc bs : Nat} (hbc : 40 ≤ bc) (hbs : 240 ≤ bs) (next : ∀ h' l19 l20 l21 l22 l23 l24 l25 bc' bs', LW h' a b L xs n n' m S1 S1 → Rw h' q6 S.2.2.2.1 8 (fun k w => nI (trG S.2.2.1 k w)) S.2.2.2.1 0 → Ar h' q7 S.2.2.2.1 (fun k => stpF S.1 (S.2.2.1 k 0) (S.2.2.1 k 2) (mpG S.2.2.1 k)) S.2.2.2.1 → Rw h' q8 63 3 (fun c w => tCell S.1 S.2.1 S.2.2.1 S.2.2.2.1 c w) 63 0 → Hr h' q16 S1 (k + 1) → bc ≤ bc' + 40 → bs ≤ bs' + 240 → K 510 [some (.ref b), some (.ref a), some (.ref (m 0)), some (.int (nI t)), some (.int z4), some (.int (nI S.2.2.2.1)), some (.ref (q6)), some (.ref (q7)), some (.ref (q8)), some (.int (v9)), some (.int (v10)), some (.int (v11)), some (.int (v12)), some (.int (v13)), some (.int (v14)), some (.int (v15)), some (.ref (q16)), some (.int (nI (cntG (fun g => decide (S1.2.2.1 g 0 = S1.2.2.1 g 2)) (k + 1)))), some (.int (nI (k + 1))), l19, l20, l21, l22, l23, l24, l25] [] h' bc' bs') : K 517 [some (.ref b), some (.ref a), some (.ref (m 0)), some (.int (nI t)), some (.int z4), some (.int (nI S.2.2.2.1)), some (.ref (q6)), some (.ref (q7)), some (.ref (q8)), some (.int (v9)), some (.int (v10)), some (.int (v11)), some (.int (v12)), some (.int (v13)), some (.int (v14)), some (.int (v15)), some (.ref (q16)), some (.int (nI (cntG (fun g => decide (S1.2.2.1 g 0 = S1.2.2.1 g 2)) k))), some (.int (nI k)), l19, l20, l21, l22, l23, l24, l25] [] h bc bs := by
  have ok1 := V1.1
  have g6 : S1.2.2.2.1 ≤ 6 := ok1.1
  have hk1 : k < S1.2.2.2.1 := by omega
  obtain ⟨go0, go1, go2, go3⟩ := ok1.2 k (by omega)
  have T1 := V1.2.2.1
  have t5 := thg_lt S1.1 (S1.2.2.1 k 0)
  have Ca := W_0.1.1
  refine s_aload_n hK dL_law_517 rfl ?_
  refine s_iload hK dL_law_518 rfl ?_
  refine s_iconst hK (v := nI 0) dL_law_520 (by decide) ?_
  refine s_V2 hK (mc := 4) (ms := 24) dL_law_521 kV_L_135 (by assumption) (by rfl) (by omega) (by omega) ?_
  refine c_ghost _ W_0.1 ok1 (by omega) (by omega) (gDone_of (v := nI (S1.2.2.1 k 0 % 9)) (fGhost_n hk1 g6 (show 0 < 8 by omega)) (fun h1 C1 F1 => ?_))
  have W_1 := W_0.cls C1 F1
  have Ca := W_1.1.1
  have R6_1 := R6_0.kp B6 (Kp.cls F1)
  have A7_1 := A7_0.kp o7 (Kp.cls F1)
  have R8_1 := R8_0.kp B8 (Kp.cls F1)
  have H_1 := H_0.kp o16 (Kp.cls F1)
  refine s_istore hK dL_law_524 rfl ?_
  refine s_aload_n hK dL_law_526 rfl ?_
  refine s_iload hK dL_law_527 rfl ?_
  refine s_iconst hK (v := nI 1) dL_law_529 (by decide) ?_
  refine s_V2 hK (mc := 4) (ms := 24) dL_law_530 kV_L_135 (by assumption) (by rfl) (by omega) (by omega) ?_
  refine c_ghost _ W_1.1 ok1 (by omega) (by omega) (gDone_of (v := nI (S1.2.2.1 k 0 / 9)) (fGhost_n hk1 g6 (show 1 < 8 by omega)) (fun h2 C2 F2 => ?_))
  have W_2 := W_1.cls C2 F2
  have Ca := W_2.1.1
  have R6_2 := R6_1.kp B6 (Kp.cls F2)
  have A7_2 := A7_1.kp o7 (Kp.cls F2)
  have R8_2 := R8_1.kp B8 (Kp.cls F2)
  have H_2 := H_1.kp o16 (Kp.cls F2)
  refine s_istore hK dL_law_533 rfl ?_
  refine s_aload_n hK dL_law_535 rfl ?_
  refine s_iload hK dL_law_536 rfl ?_
  refine s_iload hK dL_law_538 rfl ?_
  refine s_iconst hK (v := nI 3) dL_law_540 (by decide) ?_
  refine s_V3 hK (mc := 4) (ms := 24) dL_law_541 kV_L_146 (by assumption) (by rfl) (by omega) (by omega) ?_
  refine c_cell _ W_2.1 ok1 (by omega) (by omega) (gDone_of (v := b01 (lb (S1.1 7) (S1.2.2.1 k 0))) (fCell_c go0 (show 3 < 5 by omega)) (fun h3 C3 F3 => ?_))
  have W_3 := W_2.cls C3 F3
  have Ca := W_3.1.1
  have R6_3 := R6_2.kp B6 (Kp.cls F3)
  have A7_3 := A7_2.kp o7 (Kp.cls F3)
  have R8_3 := R8_2.kp B8 (Kp.cls F3)
  have H_3 := H_2.kp o16 (Kp.cls F3)
  have at553 : ∀ v : Int32, v = b01 (lb (S1.1 7) (S1.2.2.1 k 0)) → K 553 [some (.ref b), some (.ref a), some (.ref (m 0)), some (.int (nI t)), some (.int z4), some (.int (nI S.2.2.2.1)), some (.ref (q6)), some (.ref (q7)), some (.ref (q8)), some (.int (v9)), some (.int (v10)), some (.int (v11)), some (.int (v12)), some (.int (v13)), some (.int (v14)), some (.int (v15)), some (.ref (q16)), some (.int (nI (cntG (fun g => decide (S1.2.2.1 g 0 = S1.2.2.1 g 2)) k))), some (.int (nI k)), some (.int (nI (S1.2.2.1 k 0 % 9))), some (.int (nI (S1.2.2.1 k 0 / 9))), l21, l22, l23, l24, l25] [.int v] h3 (bc - 4 - 4 - 4) (bs - 24 - 24 - 24) := by
    intro v hv
    rw [hv]
    refine s_istore hK dL_law_553 rfl ?_
    refine s_aload_n hK dL_law_555 rfl ?_
    refine s_iload hK dL_law_556 rfl ?_
    refine s_iload hK dL_law_558 rfl ?_
    refine s_iconst hK (v := nI 0) dL_law_560 (by decide) ?_
    refine s_V3 hK (mc := 4) (ms := 24) dL_law_561 kV_L_146 (by assumption) (by rfl) (by omega) (by omega) ?_
    refine c_cell _ W_3.1 ok1 (by omega) (by omega) (gDone_of (v := nI (thg S1.1 (S1.2.2.1 k 0))) (fCell_c go0 (show 0 < 5 by omega)) (fun h4 C4 F4 => ?_))
    have W_4 := W_3.cls C4 F4
    have Ca := W_4.1.1
    have R6_4 := R6_3.kp B6 (Kp.cls F4)
    have A7_4 := A7_3.kp o7 (Kp.cls F4)
    have R8_4 := R8_3.kp B8 (Kp.cls F4)
    have H_4 := H_3.kp o16 (Kp.cls F4)
    have at573 : ∀ v : Int32, v = b01 (decide (thg S1.1 (S1.2.2.1 k 0) = 4)) → K 573 [some (.ref b), some (.ref a), some (.ref (m 0)), some (.int (nI t)), some (.int z4), some (.int (nI S.2.2.2.1)), some (.ref (q6)), some (.ref (q7)), some (.ref (q8)), some (.int (v9)), some (.int (v10)), some (.int (v11)), some (.int (v12)), some (.int (v13)), some (.int (v14)), some (.int (v15)), some (.ref (q16)), some (.int (nI (cntG (fun g => decide (S1.2.2.1 g 0 = S1.2.2.1 g 2)) k))), some (.int (nI k)), some (.int (nI (S1.2.2.1 k 0 % 9))), some (.int (nI (S1.2.2.1 k 0 / 9))), some (.int (b01 (lb (S1.1 7) (S1.2.2.1 k 0)))), l22, l23, l24, l25] [.int v] h4 (bc - 4 - 4 - 4 - 4) (bs - 24 - 24 - 24 - 24) := by
      intro v hv
      rw [hv]
      obtain ⟨fh', y1, y2⟩ := H_4
      refine s_istore hK dL_law_573 rfl ?_
      refine s_aload hK dL_law_575 rfl ?_
      refine s_bipush hK (v := 9) dL_law_577 (by decide) ?_
      refine s_iload hK dL_law_579 rfl ?_
      refine s_imul hK dL_law_581 ?_
      refine s_iload hK dL_law_582 rfl ?_
      refine s_iadd hK dL_law_584 ?_
      rw [nI_9]
      refine s_dup2 hK dL_law_585 rfl rfl ?_
      refine s_ialoadN hK dL_law_586 y1 go0 (by omega) ?_
      have ehx : hx S1 k = (!lb (S1.1 7) (S1.2.2.1 k 0) && decide (thg S1.1 (S1.2.2.1 k 0) = 4)) := by
        unfold hx
        congr 1
        cases e4 : lb (S1.1 4) (S1.2.2.1 k 0) with
        | true => rw [decide_eq_true ((thg4 T1 _).mpr e4)]
        | false => rw [decide_eq_false (fun z => by rw [(thg4 T1 _).mp z] at e4; cases e4)]
      have at602 : ∀ v : Int32, v = b01 (hx S1 k) → K 602 [some (.ref b), some (.ref a), some (.ref (m 0)), some (.int (nI t)), some (.int z4), some (.int (nI S.2.2.2.1)), some (.ref (q6)), some (.ref (q7)), some (.ref (q8)), some (.int (v9)), some (.int (v10)), some (.int (v11)), some (.int (v12)), some (.int (v13)), some (.int (v14)), some (.int (v15)), some (.ref (q16)), some (.int (nI (cntG (fun g => decide (S1.2.2.1 g 0 = S1.2.2.1 g 2)) k))), some (.int (nI k)), some (.int (nI (S1.2.2.1 k 0 % 9))), some (.int (nI (S1.2.2.1 k 0 / 9))), some (.int (b01 (lb (S1.1 7) (S1.2.2.1 k 0)))), some (.int (b01 (decide (thg S1.1 (S1.2.2.1 k 0) = 4)))), l23, l24, l25] [.int v, .int (fh' (S1.2.2.1 k 0)), .int (nI (S1.2.2.1 k 0)), .ref q16] h4 (bc - 4 - 4 - 4 - 4) (bs - 24 - 24 - 24 - 24) := by
        intro v hv
        refine s_iadd hK dL_law_602 ?_
        refine s_iastoreN hK dL_law_603 y1 go0 (by omega) ?_
        have H_5 := Hr.put (v := fh' (S1.2.2.1 k 0) + v) y1 y2 (by rw [hv])
        have o16' := o16
        rw [← hg] at o16'
        have W_5 := W_4.own o16' (.inl (0, 63, .inl (upd fh' (S1.2.2.1 k 0) (fh' (S1.2.2.1 k 0) + v))))
        have R6_5 := R6_4.ne x6 (.inl (0, 63, .inl (upd fh' (S1.2.2.1 k 0) (fh' (S1.2.2.1 k 0) + v))))
        have A7_5 := A7_4.ne x7 (.inl (0, 63, .inl (upd fh' (S1.2.2.1 k 0) (fh' (S1.2.2.1 k 0) + v))))
        have R8_5 := R8_4.ne x8 (.inl (0, 63, .inl (upd fh' (S1.2.2.1 k 0) (fh' (S1.2.2.1 k 0) + v))))
        generalize gU h4 q16 (.inl (0, 63, .inl (upd fh' (S1.2.2.1 k 0) (fh' (S1.2.2.1 k 0) + v)))) = h5 at H_5 W_5 R6_5 A7_5 R8_5 ⊢
        clear y1 y2
        obtain ⟨f6, r1, r2⟩ := R6_5.row0 hk hk
        have r2 : ∀ w', w' < 8 → f6 w' = nI (trG S.2.2.1 k w') := r2
        have at635 : ∀ v : Int32, v = b01 (decide (S1.2.2.1 k 0 = S1.2.2.1 k 2)) → K 635 [some (.ref b), some (.ref a), some (.ref (m 0)), some (.int (nI t)), some (.int z4), some (.int (nI S.2.2.2.1)), some (.ref (q6)), some (.ref (q7)), some (.ref (q8)), some (.int (v9)), some (.int (v10)), some (.int (v11)), some (.int (v12)), some (.int (v13)), some (.int (v14)), some (.int (v15)), some (.ref (q16)), some (.int (nI (cntG (fun g => decide (S1.2.2.1 g 0 = S1.2.2.1 g 2)) k))), some (.int (nI k)), some (.int (nI (S1.2.2.1 k 0 % 9))), some (.int (nI (S1.2.2.1 k 0 / 9))), some (.int (b01 (lb (S1.1 7) (S1.2.2.1 k 0)))), some (.int (b01 (decide (thg S1.1 (S1.2.2.1 k 0) = 4)))), l23, l24, l25] [.int v, .int (nI (cntG (fun g => decide (S1.2.2.1 g 0 = S1.2.2.1 g 2)) k))] h5 (bc - 4 - 4 - 4 - 4) (bs - 24 - 24 - 24 - 24) := by
          intro v hv
          have ev : nI (cntG (fun g => decide (S1.2.2.1 g 0 = S1.2.2.1 g 2)) k) + v = nI (cntG (fun g => decide (S1.2.2.1 g 0 = S1.2.2.1 g 2)) (k + 1)) := by
            rw [hv, cntG_succ]
            by_cases e : S1.2.2.1 k 0 = S1.2.2.1 k 2
            · rw [decide_eq_true e, if_pos rfl]
              exact nI_1 _
            · rw [decide_eq_false e, if_neg (by decide)]
              exact Int32.add_zero _
          refine s_iadd hK dL_law_635 ?_
          rw [ev]
          refine s_istore hK dL_law_636 rfl ?_
          refine l_gchk hK I V1 hg fd fg fp fm f5 fh hk B6 o7 B8 o16 x6 x7 x8 W_5 R6_5 A7_5 R8_5 H_5 (by omega) (by omega) (fun h6 W_6 R6_6 A7_6 R8_6 H_6 => ?_)
          refine s_iinck hK (v := 1) dL_law_810 rfl (by decide) rfl ?_
          refine s_goto hK dL_law_813 510 (by decide) ?_
          rw [nI_1]
          exact next h6 _ _ _ _ _ _ _ _ _ W_6 R6_6 A7_6 R8_6 H_6 (by omega) (by omega)
        refine s_iload hK dL_law_604 rfl ?_
        refine s_iload hK dL_law_606 rfl ?_
        refine s_aload hK dL_law_608 rfl ?_
        refine s_iload hK dL_law_610 rfl ?_
        refine s_aaload hK dL_law_612 R6_5.1 rfl hk (by omega) (if_pos hk) ?_
        refine s_iconst hK (v := nI 3) dL_law_613 (by decide) ?_
        refine s_ialoadN hK dL_law_614 r1 (show 3 < 8 by omega) (by omega) ?_
        rw [r2 3 (by omega), show trG S.2.2.1 k 3 = S1.2.2.1 k 2 % 9 by rw [fg k]; rfl]
        refine s_icmpne hK dL_law_615 634 (by decide) (fun c_615 => ?_) (fun c_615 => ?_)
        · have ne : ¬ S1.2.2.1 k 0 = S1.2.2.1 k 2 := fun z => c_615 (by rw [z])
          refine s_iconst hK (v := 0) dL_law_634 (by decide) ?_
          refine at635 _ ?_
          rw [decide_eq_false ne]
          rfl
        · have q1 : S1.2.2.1 k 0 % 9 = S1.2.2.1 k 2 % 9 := (nI_eq (by omega) (by omega)).mp c_615
          refine s_iload hK dL_law_618 rfl ?_
          refine s_aload hK dL_law_620 rfl ?_
          refine s_iload hK dL_law_622 rfl ?_
          refine s_aaload hK dL_law_624 R6_5.1 rfl hk (by omega) (if_pos hk) ?_
          refine s_iconst hK (v := nI 4) dL_law_625 (by decide) ?_
          refine s_ialoadN hK dL_law_626 r1 (show 4 < 8 by omega) (by omega) ?_
          rw [r2 4 (by omega), show trG S.2.2.1 k 4 = S1.2.2.1 k 2 / 9 by rw [fg k]; rfl]
          refine s_icmpne hK dL_law_627 634 (by decide) (fun c_627 => ?_) (fun c_627 => ?_)
          · have ne : ¬ S1.2.2.1 k 0 = S1.2.2.1 k 2 := fun z => c_627 (by rw [z])
            refine s_iconst hK (v := 0) dL_law_634 (by decide) ?_
            refine at635 _ ?_
            rw [decide_eq_false ne]
            rfl
          · have q2 : S1.2.2.1 k 0 / 9 = S1.2.2.1 k 2 / 9 := (nI_eq (by omega) (by omega)).mp c_627
            refine s_iconst hK (v := 1) dL_law_630 (by decide) ?_
            refine s_goto hK dL_law_631 635 (by decide) ?_
            refine at635 _ ?_
            rw [decide_eq_true (by omega)]
            rfl
      refine s_iload hK dL_law_587 rfl ?_
      by_cases el : lb (S1.1 7) (S1.2.2.1 k 0) = true
      · refine s_ifne hK dL_law_589 597 (by decide) (fun c_589 => ?_) (fun c_589 => ?_)
        · refine s_iconst hK (v := 0) dL_law_597 (by decide) ?_
          refine s_goto hK dL_law_598 602 (by decide) ?_
          exact at602 _ (by rw [ehx, el]; rfl)
        · exact absurd c_589 (by rw [el]; decide)
      · have el := bool_f el
        refine s_ifne hK dL_law_589 597 (by decide) (fun c_589 => ?_) (fun c_589 => ?_)
        · exact absurd (by rw [el]; rfl) c_589
        · refine s_iload hK dL_law_592 rfl ?_
          by_cases e4 : thg S1.1 (S1.2.2.1 k 0) = 4
          · refine s_ifne hK dL_law_594 601 (by decide) (fun c_594 => ?_) (fun c_594 => ?_)
            · refine s_iconst hK (v := 1) dL_law_601 (by decide) ?_
              exact at602 _ (by rw [ehx, el, decide_eq_true e4]; rfl)
            · exact absurd c_594 (by rw [decide_eq_true e4]; decide)
          · refine s_ifne hK dL_law_594 601 (by decide) (fun c_594 => ?_) (fun c_594 => ?_)
            · exact absurd (by rw [decide_eq_false e4]; rfl) c_594
            · refine s_iconst hK (v := 0) dL_law_597 (by decide) ?_
              refine s_goto hK dL_law_598 602 (by decide) ?_
              exact at602 _ (by rw [ehx, el, decide_eq_false e4]; rfl)
    refine s_iconst hK (v := 4) dL_law_564 (by decide) ?_
    by_cases e4 : thg S1.1 (S1.2.2.1 k 0) = 4
    · refine s_icmpne hK dL_law_565 572 (by decide) (fun c_565 => ?_) (fun c_565 => ?_)
      · exact absurd (by rw [e4]; rfl) c_565
      · refine s_iconst hK (v := 1) dL_law_568 (by decide) ?_
        refine s_goto hK dL_law_569 573 (by decide) ?_
        exact at573 _ (by rw [decide_eq_true e4]; rfl)
    · refine s_icmpne hK dL_law_565 572 (by decide) (fun c_565 => ?_) (fun c_565 => ?_)
      · refine s_iconst hK (v := 0) dL_law_572 (by decide) ?_
        exact at573 _ (by rw [decide_eq_false e4]; rfl)
      · exact absurd ((nI_eq (b := 4) (by omega) (by omega)).mp c_565) e4
  refine s_iconst hK (v := 1) dL_law_544 (by decide) ?_
  by_cases el : lb (S1.1 7) (S1.2.2.1 k 0) = true
  · refine s_icmpne hK dL_law_545 552 (by decide) (fun c_545 => ?_) (fun c_545 => ?_)
    · exact absurd (by rw [el]; rfl) c_545
    · refine s_iconst hK (v := 1) dL_law_548 (by decide) ?_
      refine s_goto hK dL_law_549 553 (by decide) ?_
      exact at553 _ (by rw [el]; rfl)
  · have el := bool_f el
    refine s_icmpne hK dL_law_545 552 (by decide) (fun c_545 => ?_) (fun c_545 => ?_)
    · refine s_iconst hK (v := 0) dL_law_552 (by decide) ?_
      exact at553 _ (by rw [el]; rfl)
    · exact absurd c_545 (by rw [el]; decide)
set_option maxHeartbeats 1000000 in
set_option maxRecDepth 10000 in
theorem l_ghosts {K : gK} (hK : gClosed (gSafe 10) mL_law 11 lwPost lwX (fun _ => none) K) {a b L t : Nat} {xs : Nat → Int32} {n n' m : Nat → Nat} {S S1 : CS} {i : Nat} (I : InvC S i) (V1 : InvS S1) (hg : S1.2.2.2.1 = S.2.2.2.1) (fd : ∀ k, k < S.2.2.2.1 → dis (S1.2.2.1 k 0) (S.2.2.1 k 0) ≤ S.2.2.1 k 1) (fg : ∀ k, S1.2.2.1 k 2 = S.2.2.1 k 2) (fp : ∀ k, S1.2.2.1 k 1 = S.2.2.1 k 1) (fm : ∀ k, S1.2.2.1 k 3 ≤ S.2.2.1 k 3) (f5 : ∀ k, k < S.2.2.2.1 → S1.2.2.1 k 5 = S.2.2.1 k 5 + (lb (S1.1 7) (S1.2.2.1 k 0)).toNat ∧ S1.2.2.1 k 4 = S.2.2.1 k 4 + (hx S1 k).toNat) (fh : ∀ k, S.2.2.1 k 0 = S.2.2.1 k 2 → S1.2.2.1 k 0 = S.2.2.1 k 0) {q6 q7 q8 : Nat} {h : gH} (W_0 : LW h a b L xs n n' m S1 S1) (R6_0 : Rw h q6 S.2.2.2.1 8 (fun k w => nI (trG S.2.2.1 k w)) S.2.2.2.1 0) (A7_0 : Ar h q7 S.2.2.2.1 (fun k => stpF S.1 (S.2.2.1 k 0) (S.2.2.1 k 2) (mpG S.2.2.1 k)) S.2.2.2.1) (R8_0 : Rw h q8 63 3 (fun c w => tCell S.1 S.2.1 S.2.2.1 S.2.2.2.1 c w) 63 0) (B6 : ∀ p, q6 ≤ p → p < q6 + (S.2.2.2.1 + 1) → ow a b n n' m (8 + S.2.2.2.1) p) (o7 : ow a b n n' m (8 + S.2.2.2.1) q7) (B8 : ∀ p, q8 ≤ p → p < q8 + (63 + 1) → ow a b n n' m (8 + S.2.2.2.1) p) {z4 v9 v10 v11 v12 v13 v14 v15 : Int32} {l16 l17 l18 l19 l20 l21 l22 l23 l24 l25 : Option Value} {bc bs : Nat} (hbc : 300 ≤ bc) (hbs : 2000 ≤ bs) (next : ∀ h' q16 (l18 : Option Value) l19 l20 l21 l22 l23 l24 l25 bc' bs', LW h' a b L xs n n' m S1 S1 → Rw h' q8 63 3 (fun c w => tCell S.1 S.2.1 S.2.2.1 S.2.2.2.1 c w) 63 0 → Hr h' q16 S1 S.2.2.2.1 → ow a b n n' m (8 + S.2.2.2.1) q16 → bc ≤ bc' + 300 → bs ≤ bs' + 2000 → K 816 [some (.ref b), some (.ref a), some (.ref (m 0)), some (.int (nI t)), some (.int z4), some (.int (nI S.2.2.2.1)), some (.ref (q6)), some (.ref (q7)), some (.ref (q8)), some (.int (v9)), some (.int (v10)), some (.int (v11)), some (.int (v12)), some (.int (v13)), some (.int (v14)), some (.int (v15)), some (.ref (q16)), some (.int (nI (cntG (fun g => decide (S1.2.2.1 g 0 = S1.2.2.1 g 2)) S.2.2.2.1))), some (.int (nI S.2.2.2.1)), l19, l20, l21, l22, l23, l24, l25] [] h' bc' bs') : K 498 [some (.ref b), some (.ref a), some (.ref (m 0)), some (.int (nI t)), some (.int z4), some (.int (nI S.2.2.2.1)), some (.ref (q6)), some (.ref (q7)), some (.ref (q8)), some (.int (v9)), some (.int (v10)), some (.int (v11)), some (.int (v12)), some (.int (v13)), some (.int (v14)), some (.int (v15)), l16, l17, l18, l19, l20, l21, l22, l23, l24, l25] [] h bc bs := by
  refine s_bipush hK (v := nI 63) dL_law_498 (by decide) ?_
  refine s_newI hK dL_law_500 (by omega) (by omega) (by omega) (fun q16 h1 Q N1 A1 => ?_)
  have o16 : ow a b n n' m (8 + S.2.2.2.1) q16 := by
    have := W_0.fresh Q
    rw [hg] at this
    exact this
  have x6 := R6_0.out Q
  have x7 : q16 ≠ q7 := fun z => A7_0.th (by rw [← z]; exact Q)
  have x8 := R8_0.out Q
  have W_1 := W_0.nw N1
  have R6_1 := R6_0.kp B6 (Kp.nw N1)
  have A7_1 := A7_0.kp o7 (Kp.nw N1)
  have R8_1 := R8_0.kp B8 (Kp.nw N1)
  have H_1 : Hr h1 q16 S1 0 := ⟨_, A1, fun c _ => rfl⟩
  clear N1 A1 Q
  refine s_astore hK dL_law_502 rfl ?_
  refine s_iconst hK (v := 0) dL_law_504 (by decide) ?_
  refine s_istore hK dL_law_505 rfl ?_
  refine s_iconst hK (v := 0) dL_law_507 (by decide) ?_
  refine s_istore hK dL_law_508 rfl ?_
  have hbc : 40 * S.2.2.2.1 ≤ bc - 1 := by have := I.1.1.1; omega
  have hbs : 240 * S.2.2.2.1 ≤ bs - 63 := by have := I.1.1.1; omega
  have g6 := I.1.1.1
  have ubc : bc ≤ bc - 1 + 10 := by omega
  have ubs : bs ≤ bs - 63 + 100 := by omega
  generalize bc - 1 = bc1 at hbc ubc ⊢
  generalize bs - 63 = bs1 at hbs ubs ⊢
  have loop : ∀ j k, k + j = S.2.2.2.1 → ∀ h1 l19 l20 l21 l22 l23 l24 l25 bc' bs', LW h1 a b L xs n n' m S1 S1 → Rw h1 q6 S.2.2.2.1 8 (fun k w => nI (trG S.2.2.1 k w)) S.2.2.2.1 0 → Ar h1 q7 S.2.2.2.1 (fun k => stpF S.1 (S.2.2.1 k 0) (S.2.2.1 k 2) (mpG S.2.2.1 k)) S.2.2.2.1 → Rw h1 q8 63 3 (fun c w => tCell S.1 S.2.1 S.2.2.1 S.2.2.2.1 c w) 63 0 → Hr h1 q16 S1 k → 40 * j ≤ bc' → 240 * j ≤ bs' → bc1 ≤ bc' + 40 * k → bs1 ≤ bs' + 240 * k → K 510 [some (.ref b), some (.ref a), some (.ref (m 0)), some (.int (nI t)), some (.int z4), some (.int (nI S.2.2.2.1)), some (.ref (q6)), some (.ref (q7)), some (.ref (q8)), some (.int (v9)), some (.int (v10)), some (.int (v11)), some (.int (v12)), some (.int (v13)), some (.int (v14)), some (.int (v15)), some (.ref (q16)), some (.int (nI (cntG (fun g => decide (S1.2.2.1 g 0 = S1.2.2.1 g 2)) k))), some (.int (nI k)), l19, l20, l21, l22, l23, l24, l25] [] h1 bc' bs' := by
    intro j
    induction j with
    | zero =>
      intro k hk h1 l19 l20 l21 l22 l23 l24 l25 bc' bs' W_1 R6_1 A7_1 R8_1 H_1 hbc hbs u1 u2
      obtain rfl : k = S.2.2.2.1 := by omega
      refine s_iload hK dL_law_510 rfl ?_
      refine s_iload hK dL_law_512 rfl ?_
      refine s_icmpge hK dL_law_514 816 (by decide) (fun c_514 => ?_) (fun c_514 => ?_)
      · exact next h1 q16 none _ _ _ _ _ _ _ _ _ W_1 R8_1 H_1 o16 (by omega) (by omega)
      · exact absurd (Int32.le_refl _) c_514
    | succ j ih =>
      intro k hk h1 l19 l20 l21 l22 l23 l24 l25 bc' bs' W_1 R6_1 A7_1 R8_1 H_1 hbc hbs u1 u2
      have hkg : k < S.2.2.2.1 := by omega
      refine s_iload hK dL_law_510 rfl ?_
      refine s_iload hK dL_law_512 rfl ?_
      refine s_icmpge hK dL_law_514 816 (by decide) (fun c_514 => ?_) (fun c_514 => ?_)
      · exact absurd c_514 (nI_ge (by omega) (by omega))
      · refine l_gone hK I V1 hg fd fg fp fm f5 fh hkg B6 o7 B8 o16 x6 x7 x8 W_1 R6_1 A7_1 R8_1 H_1 (by omega) (by omega) (fun h2 l19 l20 l21 l22 l23 l24 l25 bc2 bs2 W_2 R6_2 A7_2 R8_2 H_2 x1 x2 => ?_)
        exact ih (k + 1) (by omega) h2 _ _ _ _ _ _ _ _ _ W_2 R6_2 A7_2 R8_2 H_2 (by omega) (by omega) (by omega) (by omega)
  exact loop S.2.2.2.1 0 (by omega) h1 _ _ _ _ _ _ _ _ _ W_1 R6_1 A7_1 R8_1 H_1 (by omega) (by omega) (by omega) (by omega)
