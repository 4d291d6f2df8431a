/-! the law: mean, digest, its loop, its start -/
set_option maxRecDepth 10000 in
theorem l_mean {ro : Nat → Option (Nat × (Nat → Int32))} {K : gK} (hK : gClosed (gSafe 13) mL_law 14 lwPost lwX ro K) {b L : Nat} {xs : Nat → Int32} (hro : ro b = some (L, xs)) (hL : L ≤ 2048) {q : Nat} {a o : Nat} {n n' m : Nat → Nat} {S : CS} {i : Nat} (I : InvC S i) {h : gH} (A : LawAt h a o n n' m S) {w5 w6 w7 w8 : Option Value} {bc bs : Nat} (hbc : 80 ≤ bc) (hbs : 500 ≤ bs) (next : ∀ h' S' w5 w6 w7 w8 bc' bs', InvC S' (i + 1) → LawAt h' a o n n' m S' → bc ≤ bc' + 80 → bs ≤ bs' + 500 → K 1640 [some (.ref b), some (.ref a), some (.ref (m 0)), some (.ref o), some (.int (nI q)), w5, w6, w7, w8] [] h' bc' bs') : K 1585 [some (.ref b), some (.ref a), some (.ref (m 0)), some (.ref o), some (.int (nI q)), w5, w6, w7, w8] [] h bc bs := by
  obtain ⟨C, ⟨thr, lt, st, rw, M⟩, ⟨fo, O⟩, D⟩ := A
  have Ca := C.1
  have V := I.1
  refine s_aload_n hK dL_law_1585 rfl ?_
  refine s_V00 hK dL_law_1586 kV_L_155 (by first | assumption | exact H.1 | exact H.2.1) (by rfl) ?_
  refine c_mean _ C (mean_n I) ?_
  have M0 := M.own0
  obtain ⟨x, hx⟩ : ∃ x, x = meanV S := ⟨_, rfl⟩
  rw [← hx]
  refine s_dstore hK dL_law_1589 rfl ?_
  refine s_aload_n hK dL_law_1591 rfl ?_
  refine s_V00 hK dL_law_1592 kV_L_159 (by first | assumption | exact H.1 | exact H.2.1) (by rfl) ?_
  refine c_meanM _ M V.2.2.1 (mean_n I) (fun h1 M1 F1 => ?_)
  obtain ⟨C1, O1⟩ := law_C M O C D F1.nw
  have fin : ∀ w5 w6 w7 w8, K 1640 [some (.ref b), some (.ref a), some (.ref (m 0)), some (.ref o), some (.int (nI q)), w5, w6, w7, w8] [] h1 bc bs := fun w5 w6 w7 w8 => next h1 S w5 w6 w7 w8 bc bs I.up ⟨C1, ⟨_, _, _, _, M1⟩, ⟨fo, O1⟩, D⟩ (by omega) (by omega)
  rw [← hx]
  refine s_dstore hK dL_law_1595 rfl ?_
  refine s_dload hK dL_law_1597 rfl ?_
  refine s_dload hK dL_law_1599 rfl ?_
  refine s_dcmp hK dL_law_1601 ?_
  refine s_ifeq hK dL_law_1602 1623 (by decide) (fun c_1602 => ?_) (fun c_1602 => ?_)
  · refine s_goto hK dL_law_1623 1640 (by decide) ?_
    exact fin _ _ _ _
  · refine s_dload hK dL_law_1605 rfl ?_
    refine s_dload hK dL_law_1607 rfl ?_
    refine s_dcmp hK dL_law_1609 ?_
    refine s_ifeq hK dL_law_1610 1621 (by decide) (fun c_1610 => ?_) (fun c_1610 => ?_)
    · exact absurd c_1610 c_1602
    · refine s_dload hK dL_law_1613 rfl ?_
      refine s_dload hK dL_law_1615 rfl ?_
      refine s_dcmp hK dL_law_1617 ?_
      refine s_ifne hK dL_law_1618 1623 (by decide) (fun c_1618 => ?_) (fun c_1618 => ?_)
      · refine s_goto hK dL_law_1623 1640 (by decide) ?_
        exact fin _ _ _ _
      · exact absurd c_1618 c_1602
set_option maxRecDepth 10000 in
theorem l_digest {ro : Nat → Option (Nat × (Nat → Int32))} {K : gK} (hK : gClosed (gSafe 13) mL_law 14 lwPost lwX ro K) {b L : Nat} {xs : Nat → Int32} (hro : ro b = some (L, xs)) (hL : L ≤ 2048) {q : Nat} {a o : Nat} {n n' m : Nat → Nat} {S : CS} {i : Nat} (I : InvC S i) {h : gH} (A : LawAt h a o n n' m S) {w5 w6 w7 w8 : Option Value} {bc bs : Nat} (hbc : 80 ≤ bc) (hbs : 500 ≤ bs) (next : ∀ h' S' w5 w6 w7 w8 bc' bs', InvC S' (i + 1) → LawAt h' a o n n' m S' → bc ≤ bc' + 80 → bs ≤ bs' + 500 → K 1640 [some (.ref b), some (.ref a), some (.ref (m 0)), some (.ref o), some (.int (nI q)), w5, w6, w7, w8] [] h' bc' bs') : K 1626 [some (.ref b), some (.ref a), some (.ref (m 0)), some (.ref o), some (.int (nI q)), w5, w6, w7, w8] [] h bc bs := by
  obtain ⟨C, ⟨thr, lt, st, rw, M⟩, ⟨fo, O⟩, D⟩ := A
  have Ca := C.1
  have V := I.1
  refine s_aload_n hK dL_law_1626 rfl ?_
  refine s_V00 hK dL_law_1627 kV_L_160 (by first | assumption | exact H.1 | exact H.2.1) (by rfl) ?_
  refine c_digest _ C V.1 ?_
  have M0 := M.own0
  refine s_aload_n hK dL_law_1630 rfl ?_
  refine s_V0 hK (mc := 48) (ms := 384) dL_law_1631 kV_L_164 (by first | assumption | exact H.1 | exact H.2.1) (by rfl) (by omega) (by omega) ?_
  refine c_digestM _ M V (by omega) (by omega) (fun h1 lt1 st1 rw1 M1 F1 => ?_)
  obtain ⟨C1, O1⟩ := law_C M O C D F1
  refine s_lcmp hK dL_law_1634 ?_
  refine s_ifeq hK dL_law_1635 1640 (by decide) (fun c_1635 => ?_) (fun c_1635 => ?_)
  · exact next h1 S w5 w6 w7 w8 _ _ I.up ⟨C1, ⟨_, _, _, _, M1⟩, ⟨fo, O1⟩, D⟩ (by omega) (by omega)
  · exact absurd ((lg_cmp_eq _ _).mpr rfl) c_1635
theorem idx_sub {L q : Nat} (hL : L ≤ 2048) (hq : q ≤ 3000) : (nI L - nI 4 < nI q) ↔ L < q + 4 := by
  rw [Int32.lt_iff_toInt_lt, pk_sub_toInt (by omega) (by omega), nI_toInt (by omega)]
  omega
theorem tsw_out {c : Nat} (h1 : 22 ≤ c) (h2 : c < 32) : (decide ((nI c).toInt < 0) || decide ((21 : Int) < (nI c).toInt)) = true := by
  rw [nI_toInt (by omega)]
  simp
  omega
set_option maxRecDepth 10000 in
set_option maxHeartbeats 1000000 in
theorem l_loop {ro : Nat → Option (Nat × (Nat → Int32))} {K : gK} (hK : gClosed (gSafe 13) mL_law 14 lwPost lwX ro K) {b L : Nat} {xs : Nat → Int32} (hro : ro b = some (L, xs)) (hL : L ≤ 2048) {a o : Nat} {n n' m : Nat → Nat} : ∀ (t i : Nat), i + t = 512 → ∀ (q : Nat), q = 4 * i → ∀ (S : CS) (h : gH) (w5 w6 w7 w8 : Option Value) (bc bs : Nat), 80 * t ≤ bc → 500 * t ≤ bs → InvC S i → LawAt h a o n n' m S → K 23 [some (.ref b), some (.ref a), some (.ref (m 0)), some (.ref o), some (.int (nI q)), w5, w6, w7, w8] [] h bc bs := by
  intro t
  induction t with
  | zero =>
    intro i hi q eq S h w5 w6 w7 w8 bc bs hbc hbs I A
    refine s_iload hK dL_law_23 rfl ?_
    refine s_aload_n hK dL_law_25 rfl ?_
    refine s_rolen hK (v := nI L) dL_law_26 hro rfl ?_
    refine s_iconst hK (v := 4) dL_law_27 (by decide) ?_
    refine s_isub hK dL_law_28 ?_
    refine s_icmpgt hK dL_law_29 1646 (by decide) (fun c_29 => ?_) (fun c_29 => ?_)
    · refine s_iconst hK (v := 1) dL_law_1646 (by decide) ?_
      refine s_ireturn hK dL_law_1647 rfl (by first | rfl | exact b01_nar _) ?_
      rfl
    · exact absurd ((idx_sub hL (by omega)).mpr (by omega)) c_29
  | succ t ih =>
    intro i hi q eq S h w5 w6 w7 w8 bc bs hbc hbs I A
    refine s_iload hK dL_law_23 rfl ?_
    refine s_aload_n hK dL_law_25 rfl ?_
    refine s_rolen hK (v := nI L) dL_law_26 hro rfl ?_
    refine s_iconst hK (v := 4) dL_law_27 (by decide) ?_
    refine s_isub hK dL_law_28 ?_
    refine s_icmpgt hK dL_law_29 1646 (by decide) (fun c_29 => ?_) (fun c_29 => ?_)
    · refine s_iconst hK (v := 1) dL_law_1646 (by decide) ?_
      refine s_ireturn hK dL_law_1647 rfl (by first | rfl | exact b01_nar _) ?_
      rfl
    · have hq : q + 3 < L := by
        have z9 : ¬ L < q + 4 := fun z => c_29 ((idx_sub hL (by omega)).mpr z)
        omega
      have next : ∀ h' S' w5 w6 w7 w8 bc' bs', InvC S' (i + 1) → LawAt h' a o n n' m S' → bc ≤ bc' + 80 → bs ≤ bs' + 500 → K 1640 [some (.ref b), some (.ref a), some (.ref (m 0)), some (.ref o), some (.int (nI q)), w5, w6, w7, w8] [] h' bc' bs' := by
        intro h' S' w5 w6 w7 w8 bc' bs' I' A' b1 b2
        refine s_iinck hK (v := 4) dL_law_1640 rfl (by decide) rfl ?_
        refine s_goto hK dL_law_1643 23 (by decide) ?_
        rw [show (4 : Int32) = nI 4 from rfl, nI_add]
        exact ih (i + 1) (by omega) (q + 4) (by omega) S' h' w5 w6 w7 w8 bc' bs' (by omega) (by omega) I' A'
      refine s_aload_n hK dL_law_32 rfl ?_
      refine s_iload hK dL_law_33 rfl ?_
      refine s_roload hK dL_law_35 hro (vp_in_nI (by omega) (by omega)) ?_
      refine s_bipush hK (v := 31) dL_law_36 (by decide) ?_
      refine s_iand hK dL_law_38 ?_
      rw [pk_and _ 5 (by decide)]
      have hc32 : (xs (nI q).toNatClampNeg).toBitVec.toNat % 2 ^ 5 < 32 := Nat.mod_lt _ (by omega)
      generalize (xs (nI q).toNatClampNeg).toBitVec.toNat % 2 ^ 5 = c at hc32
      by_cases hc : 22 ≤ c
      · refine s_tswO hK dL_law_39 1640 (tsw_out hc hc32) (by decide) ?_
        exact next h S w5 w6 w7 w8 bc bs I.up A (by omega) (by omega)
      · match c, hc with
        | 0, _ =>
          refine s_tswI hK dL_law_39 140 (by decide) (by rfl) (by decide) ?_
          exact l_wall hK hro hL hq I (by omega) A (by omega) (by omega) next
        | 1, _ =>
          refine s_tswI hK dL_law_39 227 (by decide) (by rfl) (by decide) ?_
          exact l_candle hK hro hL hq I (by omega) A (by omega) (by omega) next
        | 2, _ =>
          refine s_tswI hK dL_law_39 307 (by decide) (by rfl) (by decide) ?_
          exact l_mirror hK hro hL hq I (by omega) A (by omega) (by omega) next
        | 3, _ =>
          refine s_tswI hK dL_law_39 403 (by decide) (by rfl) (by decide) ?_
          exact l_tally hK hro hL hq I (by omega) A (by omega) (by omega) next
        | 4, _ =>
          refine s_tswI hK dL_law_39 471 (by decide) (by rfl) (by decide) ?_
          exact l_remove hK hro hL hq I (by omega) A (by omega) (by omega) next
        | 5, _ =>
          refine s_tswI hK dL_law_39 539 (by decide) (by rfl) (by decide) ?_
          exact l_light hK hro hL hq I (by omega) A (by omega) (by omega) next
        | 6, _ =>
          refine s_tswI hK dL_law_39 614 (by decide) (by rfl) (by decide) ?_
          exact l_come hK hro hL hq I (by omega) A (by omega) (by omega) next
        | 7, _ =>
          refine s_tswI hK dL_law_39 694 (by decide) (by rfl) (by decide) ?_
          exact l_send hK hro hL hq I (by omega) A (by omega) (by omega) next
        | 8, _ =>
          refine s_tswI hK dL_law_39 774 (by decide) (by rfl) (by decide) ?_
          exact l_rite hK hro hL hq I (by omega) A (by omega) (by omega) next
        | 9, _ =>
          refine s_tswI hK dL_law_39 830 (by decide) (by rfl) (by decide) ?_
          exact l_cell hK hro hL hq I (by omega) A (by omega) (by omega) next
        | 10, _ =>
          refine s_tswI hK dL_law_39 910 (by decide) (by rfl) (by decide) ?_
          exact l_walled hK hro hL hq I (by omega) A (by omega) (by omega) next
        | 11, _ =>
          refine s_tswI hK dL_law_39 997 (by decide) (by rfl) (by decide) ?_
          exact l_ghost hK hro hL hq I (by omega) A (by omega) (by omega) next
        | 12, _ =>
          refine s_tswI hK dL_law_39 1065 (by decide) (by rfl) (by decide) ?_
          exact l_count hK hro hL hq I (by omega) A (by omega) (by omega) next
        | 13, _ =>
          refine s_tswI hK dL_law_39 1121 (by decide) (by rfl) (by decide) ?_
          exact l_shines hK hro hL hq I (by omega) A (by omega) (by omega) next
        | 14, _ =>
          refine s_tswI hK dL_law_39 1189 (by decide) (by rfl) (by decide) ?_
          exact l_way hK hro hL hq I (by omega) A (by omega) (by omega) next
        | 15, _ =>
          refine s_tswI hK dL_law_39 1269 (by decide) (by rfl) (by decide) ?_
          exact l_next hK hro hL hq I (by omega) A (by omega) (by omega) next
        | 16, _ =>
          refine s_tswI hK dL_law_39 1325 (by decide) (by rfl) (by decide) ?_
          exact l_pass hK hro hL hq I (by omega) A (by omega) (by omega) next
        | 17, _ =>
          refine s_tswI hK dL_law_39 1381 (by decide) (by rfl) (by decide) ?_
          exact l_foresee hK hro hL hq I (by omega) A (by omega) (by omega) next
        | 18, _ =>
          refine s_tswI hK dL_law_39 1449 (by decide) (by rfl) (by decide) ?_
          exact l_reaches hK hro hL hq I (by omega) A (by omega) (by omega) next
        | 19, _ =>
          refine s_tswI hK dL_law_39 1529 (by decide) (by rfl) (by decide) ?_
          exact l_advise hK hro hL hq I (by omega) A (by omega) (by omega) next
        | 20, _ =>
          refine s_tswI hK dL_law_39 1585 (by decide) (by rfl) (by decide) ?_
          exact l_mean hK hro hL I A (by omega) (by omega) next
        | 21, _ =>
          refine s_tswI hK dL_law_39 1626 (by decide) (by rfl) (by decide) ?_
          exact l_digest hK hro hL I A (by omega) (by omega) next
        | c + 22, z => exact absurd (by omega) z
