/-! the law's own house tells what the class tells -/
def cnW (S : CS) (k : Nat) : Nat := sm k (fun q => w4 S.1 (cl7 q))
def cnM (S : CS) (k : Nat) : Nat := sm k (fun q => mk9 S (cl7 q))
def wq (L : Nat → Int64) (c k : Nat) : Nat := sm k (fun d => (wl L c d).toNat)
theorem wq_4 (L : Nat → Int64) (c : Nat) : wq L c 4 = w4 L c := by
  show 0 + (wl L c 0).toNat + (wl L c 1).toNat + (wl L c 2).toNat + (wl L c 3).toNat = _
  unfold w4
  omega
theorem wq_s (L : Nat → Int64) (c k : Nat) : wq L c (k + 1) = wq L c k + (wl L c k).toNat := rfl
theorem upd_at (f : Nat → Int32) (k : Nat) (v : Int32) (j : Nat) : upd f k v j = if j = k then v else f j := rfl
set_option maxRecDepth 10000 in
theorem c_isSame (d : Nat) {a : Nat} {n n' m : Nat → Nat} {S : CS} {i : Nat} (I : InvC S i) {h : gH} (C : ClsAt h a n n' S) (M : SimAt h m S) (D : Dj a n n' m (8 + S.2.2.2.1)) {mc ms : Nat} {Post : Option Value → gH → Prop} {X : String → gH → Prop} (hmc : 4000 ≤ mc) (hms : 30000 ≤ ms) (hp : ∀ h', Post (some (.int 1)) h') : gSafe (d + 8) mX7_isSame [.ref (m 0), .ref a] h mc ms Post X := by
  have V := I.1
  have ok := V.1
  have hg := ok.1
  have GO := ok.2
  have T := V.2.2.1
  have el : S.1 7 = relit S.1 := V.2.2.2
  have M0 := M.c0
  refine ⟨Nat.le_of_ble_eq_true rfl, fun K hK => ?_⟩
  show K 0 [some (.ref (m 0)), some (.ref (a)), none, none, none, none, none, none, none, none, none, none] [] _ _ _
  refine s_aload_n hK dX7_isSame_0 rfl ?_
  refine s_V0 hK (mc := 10) (ms := 72) dX7_isSame_1 kV_X7_64 (by assumption) (by rfl) (by omega) (by omega) ?_
  refine c_litS _ M V.2.1 (T_D T) (by omega) (by omega) (fun q h1 Z1 Q1 F1 => ?_)
  have O : ∀ p, q ≤ p → p < q + 10 → oC a n n' p := fun p p1 p2 => C.th (by
    have := Q1 (p - q) (by omega)
    rwa [show q + (p - q) = p by omega] at this)
  have W1 : SW h1 a n n' m S q := ⟨C.nw F1, M.nw F1, Z1⟩
  have nbx : ∀ x y d, x < 9 → y < 7 → d < 4 → okC (nI x + gxI d) (nI y + gyI d) = nbOk (9 * y + x) d := fun x y d hx hy hd => by
    have := nbok (c := 9 * y + x) (d := d) (by omega) hd
    rwa [show (9 * y + x) % 9 = x by omega, show (9 * y + x) / 9 = y by omega] at this
  refine s_astore_n hK dX7_isSame_4 rfl ?_
  refine s_iconst hK (v := 0) dX7_isSame_5 (by decide) ?_
  refine s_istore_n hK dX7_isSame_6 rfl ?_
  refine s_iconst hK (v := 0) dX7_isSame_7 (by decide) ?_
  refine s_istore hK dX7_isSame_8 rfl ?_
  refine s_iconst hK (v := 0) dX7_isSame_10 (by decide) ?_
  refine s_istore hK dX7_isSame_11 rfl ?_
  have hbc : 40 * 63 + 1000 ≤ mc - 10 := by omega
  have hbs : 240 * 63 + 10000 ≤ ms - 72 := by omega
  generalize mc - 10 = bc at hbc ⊢
  generalize ms - 72 = bs at hbs ⊢
  clear Z1 Q1 F1 hmc hms M0
  have c4n : iPop (S.1 4) = nI (cntG (fun c => decide (thg S.1 c = 4)) 63) := cnt_4 T
  have c4l := cnt_le (fun c => decide (thg S.1 c = 4)) 63
  have phase3 : ∀ (h1 : gH) bc bs l5 l6 l7 l8 l9 l10 l11, 100 ≤ bc → 1000 ≤ bs → SW h1 a n n' m S q → K 491 [some (.ref (m 0)), some (.ref (a)), some (.ref (q)), some (.int (nI (cnW S 63))), some (.int (nI (cnM S 63))), l5, l6, l7, l8, l9, l10, l11] [] h1 bc bs := by
    intro h1 bc bs l5 l6 l7 l8 l9 l10 l11 hbc hbs W1
    refine s_bipush hK (v := nI 10) dX7_isSame_491 (by decide) ?_
    refine s_newI hK dX7_isSame_493 (by omega) (by omega) (by omega) (fun t h2 tt F2 A2 => ?_)
    have ot : oC a n n' t := W1.1.th tt
    have W2 := W1.nw F2
    have C0 := W2.2.1.c0
    refine s_dup hK dX7_isSame_495 rfl ?_
    refine s_iconst hK (v := nI 0) dX7_isSame_496 (by decide) ?_
    refine s_aload_n hK dX7_isSame_497 rfl ?_
    refine s_getfield hK dX7_isSame_498 kF_X7_45 (by assumption) (by rfl) ?_
    refine s_tst hK dX7_isSame_501 tt F2 A2 (show 0 < 10 by omega) (by omega) (fun h3 F3 A3 => ?_)
    have W3 := W1.nw F3
    have C0 := W3.2.1.c0
    refine s_dup hK dX7_isSame_502 rfl ?_
    refine s_iconst hK (v := nI 1) dX7_isSame_503 (by decide) ?_
    refine s_aload_n hK dX7_isSame_504 rfl ?_
    refine s_getfield hK dX7_isSame_505 kF_X7_29 (by assumption) (by rfl) ?_
    obtain ⟨fg, g1, -⟩ := W3.2.1.c5
    refine s_alen hK (v := nI S.2.2.2.1) dX7_isSame_508 g1 rfl rfl ?_
    refine s_tst hK dX7_isSame_509 tt F3 A3 (show 1 < 10 by omega) (by omega) (fun h4 F4 A4 => ?_)
    have W4 := W1.nw F4
    have C0 := W4.2.1.c0
    refine s_dup hK dX7_isSame_510 rfl ?_
    refine s_iconst hK (v := nI 2) dX7_isSame_511 (by decide) ?_
    refine s_aload_n hK dX7_isSame_512 rfl ?_
    refine s_iconst hK (v := nI 1) dX7_isSame_513 (by decide) ?_
    refine s_V10 hK dX7_isSame_514 kV_X7_118 (by assumption) (by rfl) ?_
    refine c_thingsS _ (t := 1) (by omega) W4.2.1 ?_
    refine s_tst hK dX7_isSame_517 tt F4 A4 (show 2 < 10 by omega) (by omega) (fun h5 F5 A5 => ?_)
    have W5 := W1.nw F5
    have C0 := W5.2.1.c0
    refine s_dup hK dX7_isSame_518 rfl ?_
    refine s_iconst hK (v := nI 3) dX7_isSame_519 (by decide) ?_
    refine s_aload_n hK dX7_isSame_520 rfl ?_
    refine s_V00 hK dX7_isSame_521 kV_X7_121 (by assumption) (by rfl) ?_
    refine c_burning _ W5.2.1 ?_
    refine s_tst hK dX7_isSame_524 tt F5 A5 (show 3 < 10 by omega) (by omega) (fun h6 F6 A6 => ?_)
    have W6 := W1.nw F6
    have C0 := W6.2.1.c0
    refine s_dup hK dX7_isSame_525 rfl ?_
    refine s_iconst hK (v := nI 4) dX7_isSame_526 (by decide) ?_
    refine s_aload_n hK dX7_isSame_527 rfl ?_
    refine s_iconst hK (v := nI 2) dX7_isSame_528 (by decide) ?_
    refine s_V10 hK dX7_isSame_529 kV_X7_118 (by assumption) (by rfl) ?_
    refine c_thingsS _ (t := 2) (by omega) W6.2.1 ?_
    refine s_aload_n hK dX7_isSame_532 rfl ?_
    refine s_iconst hK (v := nI 3) dX7_isSame_533 (by decide) ?_
    refine s_V10 hK dX7_isSame_534 kV_X7_118 (by assumption) (by rfl) ?_
    refine c_thingsS _ (t := 3) (by omega) W6.2.1 ?_
    refine s_iadd hK dX7_isSame_537 ?_
    rw [nI_add]
    refine s_tst hK dX7_isSame_538 tt F6 A6 (show 4 < 10 by omega) (by omega) (fun h7 F7 A7 => ?_)
    have W7 := W1.nw F7
    have C0 := W7.2.1.c0
    refine s_dup hK dX7_isSame_539 rfl ?_
    refine s_iconst hK (v := nI 5) dX7_isSame_540 (by decide) ?_
    refine s_aload_n hK dX7_isSame_541 rfl ?_
    refine s_iconst hK (v := nI 4) dX7_isSame_542 (by decide) ?_
    refine s_V10 hK dX7_isSame_543 kV_X7_118 (by assumption) (by rfl) ?_
    refine c_thingsS _ (t := 4) (by omega) W7.2.1 ?_
    refine s_tst hK dX7_isSame_546 tt F7 A7 (show 5 < 10 by omega) (by omega) (fun h8 F8 A8 => ?_)
    have W8 := W1.nw F8
    have C0 := W8.2.1.c0
    refine s_dup hK dX7_isSame_547 rfl ?_
    refine s_bipush hK (v := nI 6) dX7_isSame_548 (by decide) ?_
    refine s_iload_n hK dX7_isSame_550 rfl ?_
    refine s_iconst hK (v := 2) dX7_isSame_551 (by decide) ?_
    refine s_idiv hK dX7_isSame_552 (by decide) ?_
    refine s_tst hK dX7_isSame_553 tt F8 A8 (show 6 < 10 by omega) (by omega) (fun h9 F9 A9 => ?_)
    have W9 := W1.nw F9
    have C0 := W9.2.1.c0
    refine s_dup hK dX7_isSame_554 rfl ?_
    refine s_bipush hK (v := nI 7) dX7_isSame_555 (by decide) ?_
    refine s_aload_n hK dX7_isSame_557 rfl ?_
    refine s_S10 hK dX7_isSame_558 kS_X7_125 (by rfl) ?_
    refine c_many _ W9.2.2 ?_
    refine s_tst hK dX7_isSame_561 tt F9 A9 (show 7 < 10 by omega) (by omega) (fun h10 F10 A10 => ?_)
    have W10 := W1.nw F10
    have C0 := W10.2.1.c0
    refine s_dup hK dX7_isSame_562 rfl ?_
    refine s_bipush hK (v := nI 8) dX7_isSame_563 (by decide) ?_
    refine s_aload_n hK dX7_isSame_565 rfl ?_
    refine s_getfield hK dX7_isSame_566 kF_X7_88 (by assumption) (by rfl) ?_
    refine s_tst hK dX7_isSame_569 tt F10 A10 (show 8 < 10 by omega) (by omega) (fun h11 F11 A11 => ?_)
    have W11 := W1.nw F11
    have C0 := W11.2.1.c0
    refine s_dup hK dX7_isSame_570 rfl ?_
    refine s_bipush hK (v := nI 9) dX7_isSame_571 (by decide) ?_
    refine s_iload hK dX7_isSame_573 rfl ?_
    refine s_tst hK dX7_isSame_575 tt F11 A11 (show 9 < 10 by omega) (by omega) (fun h12 F12 A12 => ?_)
    have W12 := W1.nw F12
    have C0 := W12.2.1.c0
    have tl : ∀ w, w < 10 → (upd (upd (upd (upd (upd (upd (upd (upd (upd (upd (fun _ => 0) 0 (nI S.2.2.2.2)) 1 (nI S.2.2.2.1)) 2 (nI (cntG (fun c => decide (thg S.1 c = 1)) 63))) 3 (nI (cntG (lb (S.1 1)) 63))) 4 (nI (cntG (fun c => decide (thg S.1 c = 2)) 63 + cntG (fun c => decide (thg S.1 c = 3)) 63))) 5 (nI (cntG (fun c => decide (thg S.1 c = 4)) 63))) 6 (nI (cnW S 63) / 2)) 7 (nI (cntG (lb (relit S.1)) 63))) 8 (nI (sumT S.2.2.1 6 S.2.2.2.1))) 9 (nI (cnM S 63))) w = tAll S.1 S.2.1 S.2.2.1 S.2.2.2.1 S.2.2.2.2 w := by
      intro w hw
      simp only [upd_at]
      match w, hw with
      | 0, _ => rfl
      | 1, _ => rfl
      | 2, _ => exact (cnt_1 S.1 T).symm
      | 3, _ => exact (pop63 (SB_of T (by omega))).symm
      | 4, _ => exact (cnt_23 T).symm
      | 5, _ => exact c4n.symm
      | 6, _ =>
        show nI (cnW S 63) / 2 = iPop (S.1 5) + iPop (S.1 6)
        rw [walls_pop V.2.1, show cnW S 63 = sm 63 (w4 S.1) from sm_perm _]
      | 7, _ =>
        show nI (cntG (lb (relit S.1)) 63) = iPop (S.1 7)
        rw [el]
        exact (pop63 (relit_SBs 63 (by omega))).symm
      | 8, _ => rfl
      | 9, _ =>
        show nI (cnM S 63) = sumMk S.1 S.2.1 63
        rw [marks_sm T 63 (by omega), show cnM S 63 = sm 63 (mk9 S) from sm_perm _]
    have A12 : h12 t = some (.inl (0, 10, .inl _)) := A12
    generalize (upd (upd (upd (upd (upd (upd (upd (upd (upd (upd (fun _ => (0 : Int32)) 0 (nI S.2.2.2.2)) 1 (nI S.2.2.2.1)) 2 (nI (cntG (fun c => decide (thg S.1 c = 1)) 63))) 3 (nI (cntG (lb (S.1 1)) 63))) 4 (nI (cntG (fun c => decide (thg S.1 c = 2)) 63 + cntG (fun c => decide (thg S.1 c = 3)) 63))) 5 (nI (cntG (fun c => decide (thg S.1 c = 4)) 63))) 6 (nI (cnW S 63) / 2)) 7 (nI (cntG (lb (relit S.1)) 63))) 8 (nI (sumT S.2.2.1 6 S.2.2.2.1))) 9 (nI (cnM S 63))) = f at A12 tl
    refine s_astore hK dX7_isSame_576 rfl ?_
    refine s_iconst hK (v := 0) dX7_isSame_578 (by decide) ?_
    refine s_istore hK dX7_isSame_579 rfl ?_
    clear A2 A3 A4 A5 A6 A7 A8 A9 A10 A11 F2 F3 F4 F5 F6 F7 F8 F9 F10 F11 F12 W2 W3 W4 W5 W6 W7 W8 W9 W10 W11
    have hbc : 10 * 4 ≤ bc - 1 := by omega
    have hbs : 10 * 24 ≤ bs - 10 := by omega
    generalize bc - 1 = bc at hbc ⊢
    generalize bs - 10 = bs at hbs ⊢
    have loop : ∀ j w, w + j = 10 → ∀ (h1 : gH) bc bs, j * 4 ≤ bc → j * 24 ≤ bs → SW h1 a n n' m S q → h1 t = some (.inl (0, 10, .inl f)) → K 581 [some (.ref (m 0)), some (.ref (a)), some (.ref (q)), some (.int (nI (cnW S 63))), some (.int (nI (cnM S 63))), some (.ref (t)), some (.int (nI w)), l7, l8, l9, l10, l11] [] h1 bc bs := by
      intro j
      induction j with
      | zero =>
        intro w hw h1 bc bs hbc hbs W1 A1
        obtain rfl : w = 10 := by omega
        have Ca := W1.1.1
        have C0 := W1.2.1.c0
        refine s_iload hK dX7_isSame_581 rfl ?_
        refine s_bipush hK (v := 10) dX7_isSame_583 (by decide) ?_
        refine s_icmpge hK dX7_isSame_585 610 (by decide) (fun c_585 => ?_) (fun c_585 => ?_)
        · refine s_aload_n hK dX7_isSame_610 rfl ?_
          refine s_V00 hK dX7_isSame_611 kV_X7_132 (by assumption) (by rfl) ?_
          refine c_mean _ W1.1 (fun z => (mean_n I z).1) ?_
          refine s_aload_n hK dX7_isSame_614 rfl ?_
          refine s_iconst hK (v := nI 4) dX7_isSame_615 (by decide) ?_
          refine s_V10 hK dX7_isSame_616 kV_X7_118 (by assumption) (by rfl) ?_
          refine c_thingsS _ (t := 4) (by omega) W1.2.1 ?_
          have fin : ∀ v : UInt64, Op.cmpValue (FP.dcmp (meanV S) v) .l = 0 → K 636 [some (.ref (m 0)), some (.ref (a)), some (.ref (q)), some (.int (nI (cnW S 63))), some (.int (nI (cnM S 63))), some (.ref (t)), some (.int (nI 10)), l7, l8, l9, l10, l11] [.double v, .double (meanV S)] h1 bc bs := by
            intro v hv
            refine s_dcmp hK dX7_isSame_636 ?_
            rw [hv]
            refine s_ifne hK dX7_isSame_637 644 (by decide) (fun c_637 => ?_) (fun c_637 => ?_)
            · exact absurd rfl c_637
            · refine s_iconst hK (v := 1) dX7_isSame_640 (by decide) ?_
              refine s_goto hK dX7_isSame_641 645 (by decide) ?_
              refine s_ireturn hK dX7_isSame_645 rfl (by first | rfl | exact b01_nar _) ?_
              exact hp _
          by_cases e : cntG (fun c => decide (thg S.1 c = 4)) 63 = 0
          · refine s_ifne hK dX7_isSame_619 626 (by decide) (fun c_619 => ?_) (fun c_619 => ?_)
            · exact absurd (by rw [e]; rfl) c_619
            · refine s_dconst hK dX7_isSame_622 ?_
              refine s_goto hK dX7_isSame_623 636 (by decide) ?_
              refine fin _ ?_
              unfold meanV
              rw [if_pos (by rw [c4n, e]; rfl)]
              exact mean_t0
          · have ne : iPop (S.1 4) ≠ 0 := by
              rw [c4n]
              exact fun z => e ((nI_eq (b := 0) (by omega) (by omega)).mp z)
            have mn := mean_n I ne
            have em : meanV S = FP.ddiv (FP.i2d (sumMk S.1 S.2.1 63)) (FP.i2d (iPop (S.1 4))) := if_neg ne
            rw [← em] at mn
            rw [marks_sm T 63 (by omega), ← show cnM S 63 = sm 63 (mk9 S) from sm_perm _, c4n] at em
            refine s_ifne hK dX7_isSame_619 626 (by decide) (fun c_619 => ?_) (fun c_619 => ?_)
            · refine s_iload hK dX7_isSame_626 rfl ?_
              refine s_i2d hK dX7_isSame_628 ?_
              refine s_aload_n hK dX7_isSame_629 rfl ?_
              refine s_iconst hK (v := nI 4) dX7_isSame_630 (by decide) ?_
              refine s_V10 hK dX7_isSame_631 kV_X7_118 (by assumption) (by rfl) ?_
              refine c_thingsS _ (t := 4) (by omega) W1.2.1 ?_
              refine s_i2d hK dX7_isSame_634 ?_
              refine s_ddiv hK dX7_isSame_635 (by rw [← em]; exact mn.1) ?_
              refine fin _ ?_
              rw [← em]
              exact mn.2
            · exact absurd ((nI_eq (b := 0) (by omega) (by omega)).mp c_619) e
        · exact absurd (Int32.le_refl (nI 10)) c_585
      | succ j ih =>
        intro w hw h1 bc bs hbc hbs W1 A1
        have Ca := W1.1.1
        refine s_iload hK dX7_isSame_581 rfl ?_
        refine s_bipush hK (v := 10) dX7_isSame_583 (by decide) ?_
        refine s_icmpge hK dX7_isSame_585 610 (by decide) (fun c_585 => ?_) (fun c_585 => ?_)
        · exact absurd c_585 (nI_ge (b := 10) (by omega) (by omega))
        · refine s_aload_n hK dX7_isSame_588 rfl ?_
          refine s_iload hK dX7_isSame_589 rfl ?_
          refine s_V1 hK (mc := 4) (ms := 24) dX7_isSame_591 kV_X7_129 (by assumption) (by rfl) (by omega) (by omega) ?_
          refine c_count _ W1.1 ok (by omega) (by omega) (gDone_of (fCount_n (show w < 10 by omega)) (fun h2 C2 F2 => ?_))
          have W2 := W1.cls D O C2 F2
          have A2 := (F2 t ot.out).trans A1
          refine s_aload hK dX7_isSame_594 rfl ?_
          refine s_iload hK dX7_isSame_596 rfl ?_
          refine s_ialoadN hK dX7_isSame_598 A2 (show w < 10 by omega) (by omega) ?_
          rw [tl w (by omega)]
          refine s_icmpeq hK dX7_isSame_599 604 (by decide) (fun c_599 => ?_) (fun c_599 => ?_)
          · refine s_iinck hK (v := 1) dX7_isSame_604 rfl (by decide) rfl ?_
            refine s_goto hK dX7_isSame_607 581 (by decide) ?_
            rw [nI_1]
            exact ih (w + 1) (by omega) h2 _ _ (by omega) (by omega) W2 A2
          · exact absurd rfl c_599
    exact loop 10 0 (by omega) h12 _ _ (by omega) (by omega) W12 A12
  have phase2 : ∀ (h1 : gH) bc bs l5 l6 l7 l8 l9 l10 l11, 40 * 6 + 100 ≤ bc → 240 * 6 + 1000 ≤ bs → SW h1 a n n' m S q → K 349 [some (.ref (m 0)), some (.ref (a)), some (.ref (q)), some (.int (nI (cnW S 63))), some (.int (nI (cnM S 63))), l5, l6, l7, l8, l9, l10, l11] [] h1 bc bs := by
    intro h1 bc bs l5 l6 l7 l8 l9 l10 l11 hbc hbs W1
    refine s_iconst hK (v := 0) dX7_isSame_349 (by decide) ?_
    refine s_istore hK dX7_isSame_350 rfl ?_
    have loop : ∀ j k, k + j = S.2.2.2.1 → ∀ (h1 : gH) bc bs l6 l7 l8 l9 l10 l11, 40 * j + 100 ≤ bc → 240 * j + 1000 ≤ bs → SW h1 a n n' m S q → K 352 [some (.ref (m 0)), some (.ref (a)), some (.ref (q)), some (.int (nI (cnW S 63))), some (.int (nI (cnM S 63))), some (.int (nI k)), l6, l7, l8, l9, l10, l11] [] h1 bc bs := by
      intro j
      induction j with
      | zero =>
        intro k hk h1 bc bs l6 l7 l8 l9 l10 l11 hbc hbs W1
        obtain rfl : k = S.2.2.2.1 := by omega
        have C0 := W1.2.1.c0
        obtain ⟨fg, g1, -⟩ := W1.2.1.c5
        refine s_iload hK dX7_isSame_352 rfl ?_
        refine s_aload_n hK dX7_isSame_354 rfl ?_
        refine s_getfield hK dX7_isSame_355 kF_X7_29 (by assumption) (by rfl) ?_
        refine s_alen hK dX7_isSame_358 g1 rfl rfl ?_
        refine s_icmpge hK dX7_isSame_359 491 (by decide) (fun c_359 => ?_) (fun c_359 => ?_)
        · exact phase3 h1 _ _ _ _ _ _ _ _ _ (by omega) (by omega) W1
        · exact absurd (Int32.le_refl _) c_359
      | succ j ih =>
        intro k hk h1 bc bs l6 l7 l8 l9 l10 l11 hbc hbs W1
        have hkg : k < S.2.2.2.1 := by omega
        obtain ⟨go0, go1, go2, go3⟩ := GO k (by omega)
        have C0 := W1.2.1.c0
        obtain ⟨fg, g1, g2⟩ := W1.2.1.c5
        refine s_iload hK dX7_isSame_352 rfl ?_
        refine s_aload_n hK dX7_isSame_354 rfl ?_
        refine s_getfield hK dX7_isSame_355 kF_X7_29 (by assumption) (by rfl) ?_
        refine s_alen hK dX7_isSame_358 g1 rfl rfl ?_
        refine s_icmpge hK dX7_isSame_359 491 (by decide) (fun c_359 => ?_) (fun c_359 => ?_)
        · exact absurd c_359 (nI_ge (by omega) (by omega))
        · refine s_aload_n hK dX7_isSame_362 rfl ?_
          refine s_getfield hK dX7_isSame_363 kF_X7_29 (by assumption) (by rfl) ?_
          refine s_iload hK dX7_isSame_366 rfl ?_
          refine s_aaload hK dX7_isSame_368 g1 rfl hkg (by show S.2.2.2.1 < _; omega) (g2 k hkg) ?_
          refine s_astore hK dX7_isSame_369 rfl ?_
          refine s_bipush hK (v := nI 8) dX7_isSame_371 (by decide) ?_
          refine s_newI hK dX7_isSame_373 (by omega) (by omega) (by omega) (fun t h2 tt F2 A2 => ?_)
          have ot : oC a n n' t := W1.1.th tt
          have W2 := W1.nw F2
          have Gk := W2.2.1.c8 hkg
          refine s_dup hK dX7_isSame_375 rfl ?_
          refine s_iconst hK (v := nI 0) dX7_isSame_376 (by decide) ?_
          refine s_aload hK dX7_isSame_377 rfl ?_
          refine s_getfield hK dX7_isSame_379 kF_X7_68 (by assumption) (by rfl) ?_
          refine s_tst hK dX7_isSame_382 tt F2 A2 (show 0 < 8 by omega) (by omega) (fun h3 F3 A3 => ?_)
          have W3 := W1.nw F3
          have Gk := W3.2.1.c8 hkg
          refine s_dup hK dX7_isSame_383 rfl ?_
          refine s_iconst hK (v := nI 1) dX7_isSame_384 (by decide) ?_
          refine s_aload hK dX7_isSame_385 rfl ?_
          refine s_getfield hK dX7_isSame_387 kF_X7_71 (by assumption) (by rfl) ?_
          refine s_tst hK dX7_isSame_390 tt F3 A3 (show 1 < 8 by omega) (by omega) (fun h4 F4 A4 => ?_)
          have W4 := W1.nw F4
          have Gk := W4.2.1.c8 hkg
          refine s_dup hK dX7_isSame_391 rfl ?_
          refine s_iconst hK (v := nI 2) dX7_isSame_392 (by decide) ?_
          refine s_aload hK dX7_isSame_393 rfl ?_
          refine s_getfield hK dX7_isSame_395 kF_X7_91 (by assumption) (by rfl) ?_
          refine s_tst hK dX7_isSame_398 tt F4 A4 (show 2 < 8 by omega) (by omega) (fun h5 F5 A5 => ?_)
          have W5 := W1.nw F5
          have Gk := W5.2.1.c8 hkg
          refine s_dup hK dX7_isSame_399 rfl ?_
          refine s_iconst hK (v := nI 3) dX7_isSame_400 (by decide) ?_
          refine s_aload hK dX7_isSame_401 rfl ?_
          refine s_getfield hK dX7_isSame_403 kF_X7_78 (by assumption) (by rfl) ?_
          refine s_tst hK dX7_isSame_406 tt F5 A5 (show 3 < 8 by omega) (by omega) (fun h6 F6 A6 => ?_)
          have W6 := W1.nw F6
          have Gk := W6.2.1.c8 hkg
          refine s_dup hK dX7_isSame_407 rfl ?_
          refine s_iconst hK (v := nI 4) dX7_isSame_408 (by decide) ?_
          refine s_aload hK dX7_isSame_409 rfl ?_
          refine s_getfield hK dX7_isSame_411 kF_X7_81 (by assumption) (by rfl) ?_
          refine s_tst hK dX7_isSame_414 tt F6 A6 (show 4 < 8 by omega) (by omega) (fun h7 F7 A7 => ?_)
          have W7 := W1.nw F7
          have Gk := W7.2.1.c8 hkg
          refine s_dup hK dX7_isSame_415 rfl ?_
          refine s_iconst hK (v := nI 5) dX7_isSame_416 (by decide) ?_
          refine s_aload hK dX7_isSame_417 rfl ?_
          refine s_getfield hK dX7_isSame_419 kF_X7_74 (by assumption) (by rfl) ?_
          have at430 : K 430 [some (.ref (m 0)), some (.ref (a)), some (.ref (q)), some (.int (nI (cnW S 63))), some (.int (nI (cnM S 63))), some (.int (nI k)), some (.ref (m (8 + k))), l7, l8, l9, l10, l11] [.int (nI (S.2.2.1 k 3)), .int (nI 5), .ref t, .ref t] h7 (bc - 1) (bs - 8) := by
            refine s_tst hK dX7_isSame_430 tt F7 A7 (show 5 < 8 by omega) (by omega) (fun h8 F8 A8 => ?_)
            have W8 := W1.nw F8
            have Gk := W8.2.1.c8 hkg
            refine s_dup hK dX7_isSame_431 rfl ?_
            refine s_bipush hK (v := nI 6) dX7_isSame_432 (by decide) ?_
            refine s_aload hK dX7_isSame_434 rfl ?_
            refine s_getfield hK dX7_isSame_436 kF_X7_101 (by assumption) (by rfl) ?_
            refine s_tst hK dX7_isSame_439 tt F8 A8 (show 6 < 8 by omega) (by omega) (fun h9 F9 A9 => ?_)
            have W9 := W1.nw F9
            have Gk := W9.2.1.c8 hkg
            refine s_dup hK dX7_isSame_440 rfl ?_
            refine s_bipush hK (v := nI 7) dX7_isSame_441 (by decide) ?_
            refine s_aload hK dX7_isSame_443 rfl ?_
            refine s_getfield hK dX7_isSame_445 kF_X7_98 (by assumption) (by rfl) ?_
            refine s_tst hK dX7_isSame_448 tt F9 A9 (show 7 < 8 by omega) (by omega) (fun h10 F10 A10 => ?_)
            have W10 := W1.nw F10
            have Gk := W10.2.1.c8 hkg
            have tl : ∀ w, w < 8 → (upd (upd (upd (upd (upd (upd (upd (upd (fun _ => (0 : Int32)) 0 (nI (S.2.2.1 k 0 % 9))) 1 (nI (S.2.2.1 k 0 / 9))) 2 (nI (S.2.2.1 k 1))) 3 (nI (S.2.2.1 k 2 % 9))) 4 (nI (S.2.2.1 k 2 / 9))) 5 (nI (S.2.2.1 k 3))) 6 (nI (S.2.2.1 k 4))) 7 (nI (S.2.2.1 k 5))) w = nI (trG S.2.2.1 k w) := by
              intro w hw
              simp only [upd_at]
              match w, hw with
              | 0, _ => rfl
              | 1, _ => rfl
              | 2, _ => rfl
              | 3, _ => rfl
              | 4, _ => rfl
              | 5, _ => rfl
              | 6, _ => rfl
              | 7, _ => rfl
            generalize (upd (upd (upd (upd (upd (upd (upd (upd (fun _ => (0 : Int32)) 0 (nI (S.2.2.1 k 0 % 9))) 1 (nI (S.2.2.1 k 0 / 9))) 2 (nI (S.2.2.1 k 1))) 3 (nI (S.2.2.1 k 2 % 9))) 4 (nI (S.2.2.1 k 2 / 9))) 5 (nI (S.2.2.1 k 3))) 6 (nI (S.2.2.1 k 4))) 7 (nI (S.2.2.1 k 5))) = f at A10 tl
            refine s_astore hK dX7_isSame_449 rfl ?_
            refine s_iconst hK (v := 0) dX7_isSame_451 (by decide) ?_
            refine s_istore hK dX7_isSame_452 rfl ?_
            have hbc : 40 * j + 100 + 8 * 4 ≤ bc - 1 := by omega
            have hbs : 240 * j + 1000 + 8 * 24 ≤ bs - 8 := by omega
            generalize bc - 1 = bc at hbc ⊢
            generalize bs - 8 = bs at hbs ⊢
            have loop2 : ∀ jj w, w + jj = 8 → ∀ (h1 : gH) bc bs, 40 * j + 100 + jj * 4 ≤ bc → 240 * j + 1000 + jj * 24 ≤ bs → SW h1 a n n' m S q → h1 t = some (.inl (0, 8, .inl f)) → K 454 [some (.ref (m 0)), some (.ref (a)), some (.ref (q)), some (.int (nI (cnW S 63))), some (.int (nI (cnM S 63))), some (.int (nI k)), some (.ref (m (8 + k))), some (.ref (t)), some (.int (nI w)), l9, l10, l11] [] h1 bc bs := by
              intro jj
              induction jj with
              | zero =>
                intro w hw h1 bc bs hbc hbs W1 A1
                obtain rfl : w = 8 := by omega
                refine s_iload hK dX7_isSame_454 rfl ?_
                refine s_bipush hK (v := 8) dX7_isSame_456 (by decide) ?_
                refine s_icmpge hK dX7_isSame_458 485 (by decide) (fun c_458 => ?_) (fun c_458 => ?_)
                · refine s_iinck hK (v := 1) dX7_isSame_485 rfl (by decide) rfl ?_
                  refine s_goto hK dX7_isSame_488 352 (by decide) ?_
                  rw [nI_1]
                  exact ih (k + 1) (by omega) h1 bc bs _ _ _ _ _ _ (by omega) (by omega) W1
                · exact absurd (Int32.le_refl (nI 8)) c_458
              | succ jj ihj =>
                intro w hw h1 bc bs hbc hbs W1 A1
                have Ca := W1.1.1
                refine s_iload hK dX7_isSame_454 rfl ?_
                refine s_bipush hK (v := 8) dX7_isSame_456 (by decide) ?_
                refine s_icmpge hK dX7_isSame_458 485 (by decide) (fun c_458 => ?_) (fun c_458 => ?_)
                · exact absurd c_458 (nI_ge (b := 8) (by omega) (by omega))
                · refine s_aload_n hK dX7_isSame_461 rfl ?_
                  refine s_iload hK dX7_isSame_462 rfl ?_
                  refine s_iload hK dX7_isSame_464 rfl ?_
                  refine s_V2 hK (mc := 4) (ms := 24) dX7_isSame_466 kV_X7_114 (by assumption) (by rfl) (by omega) (by omega) ?_
                  refine c_ghost _ W1.1 ok (by omega) (by omega) (gDone_of (fGhost_n hkg hg (show w < 8 by omega)) (fun h2 C2 F2 => ?_))
                  have W2 := W1.cls D O C2 F2
                  have A2 := (F2 t ot.out).trans A1
                  refine s_aload hK dX7_isSame_469 rfl ?_
                  refine s_iload hK dX7_isSame_471 rfl ?_
                  refine s_ialoadN hK dX7_isSame_473 A2 (show w < 8 by omega) (by omega) ?_
                  rw [tl w (by omega)]
                  refine s_icmpeq hK dX7_isSame_474 479 (by decide) (fun c_474 => ?_) (fun c_474 => ?_)
                  · refine s_iinck hK (v := 1) dX7_isSame_479 rfl (by decide) rfl ?_
                    refine s_goto hK dX7_isSame_482 454 (by decide) ?_
                    rw [nI_1]
                    exact ihj (w + 1) (by omega) h2 _ _ (by omega) (by omega) W2 A2
                  · exact absurd rfl c_474
            exact loop2 8 0 (by omega) h10 _ _ (by omega) (by omega) W10 A10
          rcases (show S.2.2.1 k 3 = 0 ∨ S.2.2.1 k 3 = 1 by omega) with e | e
          · rw [e] at at430 ⊢
            refine s_ifeq hK dX7_isSame_422 429 (by decide) (fun c_422 => ?_) (fun c_422 => ?_)
            · refine s_iconst hK (v := 0) dX7_isSame_429 (by decide) ?_
              exact at430
            · exact absurd rfl c_422
          · rw [e] at at430 ⊢
            refine s_ifeq hK dX7_isSame_422 429 (by decide) (fun c_422 => ?_) (fun c_422 => ?_)
            · exact absurd c_422 (by decide)
            · refine s_iconst hK (v := 1) dX7_isSame_425 (by decide) ?_
              refine s_goto hK dX7_isSame_426 430 (by decide) ?_
              exact at430
    exact loop S.2.2.2.1 0 (by omega) h1 _ _ _ _ _ _ _ _ (by omega) (by omega) W1
  have loopX : ∀ k x, x + k = 9 → ∀ (h1 : gH) bc bs l6 l7 l8 l9 l10 l11, 40 * (7 * k) + 1000 ≤ bc → 240 * (7 * k) + 10000 ≤ bs → SW h1 a n n' m S q → K 13 [some (.ref (m 0)), some (.ref (a)), some (.ref (q)), some (.int (nI (cnW S (7 * x)))), some (.int (nI (cnM S (7 * x)))), some (.int (nI x)), l6, l7, l8, l9, l10, l11] [] h1 bc bs := by
    intro k
    induction k with
    | zero =>
      intro x hx h1 bc bs l6 l7 l8 l9 l10 l11 hbc hbs W1
      obtain rfl : x = 9 := by omega
      refine s_iload hK dX7_isSame_13 rfl ?_
      refine s_bipush hK (v := 9) dX7_isSame_15 (by decide) ?_
      refine s_icmpge hK dX7_isSame_17 349 (by decide) (fun c_17 => ?_) (fun c_17 => ?_)
      · exact phase2 h1 _ _ _ _ _ _ _ _ _ (by omega) (by omega) W1
      · exact absurd (Int32.le_refl (nI 9)) c_17
    | succ k ih =>
      intro x hx h1 bc bs l6 l7 l8 l9 l10 l11 hbc hbs W1
      refine s_iload hK dX7_isSame_13 rfl ?_
      refine s_bipush hK (v := 9) dX7_isSame_15 (by decide) ?_
      refine s_icmpge hK dX7_isSame_17 349 (by decide) (fun c_17 => ?_) (fun c_17 => ?_)
      · exact absurd c_17 (nI_ge (b := 9) (by omega) (by omega))
      · refine s_iconst hK (v := 0) dX7_isSame_20 (by decide) ?_
        refine s_istore hK dX7_isSame_21 rfl ?_
        have loopY : ∀ j y, y + j = 7 → ∀ (h1 : gH) bc bs l7 l8 l9 l10 l11, 40 * (7 * k + j) + 1000 ≤ bc → 240 * (7 * k + j) + 10000 ≤ bs → SW h1 a n n' m S q → K 23 [some (.ref (m 0)), some (.ref (a)), some (.ref (q)), some (.int (nI (cnW S (7 * x + y)))), some (.int (nI (cnM S (7 * x + y)))), some (.int (nI x)), some (.int (nI y)), l7, l8, l9, l10, l11] [] h1 bc bs := by
          intro j
          induction j with
          | zero =>
            intro y hy h1 bc bs l7 l8 l9 l10 l11 hbc hbs W1
            obtain rfl : y = 7 := by omega
            refine s_iload hK dX7_isSame_23 rfl ?_
            refine s_bipush hK (v := 7) dX7_isSame_25 (by decide) ?_
            refine s_icmpge hK dX7_isSame_27 343 (by decide) (fun c_27 => ?_) (fun c_27 => ?_)
            · refine s_iinck hK (v := 1) dX7_isSame_343 rfl (by decide) rfl ?_
              refine s_goto hK dX7_isSame_346 13 (by decide) ?_
              rw [nI_1, show 7 * x + 7 = 7 * (x + 1) by omega]
              exact ih (x + 1) (by omega) h1 bc bs _ _ _ _ _ _ (by omega) (by omega) W1
            · exact absurd (Int32.le_refl (nI 7)) c_27
          | succ j ihj =>
            intro y hy h1 bc bs l7 l8 l9 l10 l11 hbc hbs W1
            have hx9 : x < 9 := by omega
            have hy7 : y < 7 := by omega
            have hc : 9 * y + x < 63 := by omega
            have eW : cnW S (7 * x + y + 1) = cnW S (7 * x + y) + w4 S.1 (9 * y + x) := sm_xy hy7
            have eM : cnM S (7 * x + y + 1) = cnM S (7 * x + y) + mk9 S (9 * y + x) := sm_xy hy7
            have ihj := ihj (y + 1) (by omega)
            rw [show 7 * x + (y + 1) = 7 * x + y + 1 by omega, eW, eM] at ihj
            generalize cnW S (7 * x + y) = CW at ihj ⊢
            generalize cnM S (7 * x + y) = CM at ihj ⊢
            have C0 := W1.2.1.c0
            obtain ⟨fg, g1, g2⟩ := W1.2.1.c5
            refine s_iload hK dX7_isSame_23 rfl ?_
            refine s_bipush hK (v := 7) dX7_isSame_25 (by decide) ?_
            refine s_icmpge hK dX7_isSame_27 343 (by decide) (fun c_27 => ?_) (fun c_27 => ?_)
            · exact absurd c_27 (nI_ge (b := 7) (by omega) (by omega))
            · refine s_iconst hK (v := 0) dX7_isSame_30 (by decide) ?_
              refine s_istore hK dX7_isSame_31 rfl ?_
              refine s_aload_n hK dX7_isSame_33 rfl ?_
              refine s_getfield hK dX7_isSame_34 kF_X7_29 (by assumption) (by rfl) ?_
              refine s_astore hK dX7_isSame_37 rfl ?_
              refine s_aload hK dX7_isSame_39 rfl ?_
              refine s_alen hK dX7_isSame_41 g1 rfl rfl ?_
              refine s_istore hK dX7_isSame_42 rfl ?_
              refine s_iconst hK (v := 0) dX7_isSame_44 (by decide) ?_
              refine s_istore hK dX7_isSame_45 rfl ?_
              obtain ⟨hn, ehn⟩ : ∃ z, z = cntG (fun g => decide (S.2.2.1 g 0 = 9 * y + x)) := ⟨_, rfl⟩
              have after : ∀ l10 l11, K 97 [some (.ref (m 0)), some (.ref (a)), some (.ref (q)), some (.int (nI CW)), some (.int (nI CM)), some (.int (nI x)), some (.int (nI y)), some (.int (nI (hn S.2.2.2.1))), some (.ref (m 5)), some (.int (nI S.2.2.2.1)), l10, l11] [] h1 bc bs := by
                intro l10 l11
                refine s_iconst hK (v := nI 5) dX7_isSame_97 (by decide) ?_
                refine s_newI hK dX7_isSame_98 (by omega) (by omega) (by omega) (fun t h2 tt F2 A2 => ?_)
                have ot : oC a n n' t := W1.1.th tt
                have W2 := W1.nw F2
                have C0 := W2.2.1.c0
                refine s_dup hK dX7_isSame_100 rfl ?_
                refine s_iconst hK (v := nI 0) dX7_isSame_101 (by decide) ?_
                refine s_aload_n hK dX7_isSame_102 rfl ?_
                refine s_getfield hK dX7_isSame_103 kF_X7_16 (by assumption) (by rfl) ?_
                have Tc := W2.2.1.c2
                obtain ⟨ft, t1, t2⟩ := Tc.2 _ hx9
                have t3 : ft y = nI (thg S.1 (9 * y + x)) := t2 y hy7
                refine s_iload hK dX7_isSame_106 rfl ?_
                refine s_aaload hK dX7_isSame_108 Tc.1 rfl hx9 (by omega) (if_pos hx9) ?_
                refine s_iload hK dX7_isSame_109 rfl ?_
                refine s_ialoadN hK dX7_isSame_111 t1 hy7 (by omega) ?_
                rw [t3]
                refine s_tst hK dX7_isSame_112 tt F2 A2 (show 0 < 5 by omega) (by omega) (fun h3 F3 A3 => ?_)
                have W3 := W1.nw F3
                have C0 := W3.2.1.c0
                refine s_dup hK dX7_isSame_113 rfl ?_
                refine s_iconst hK (v := nI 1) dX7_isSame_114 (by decide) ?_
                refine s_aload_n hK dX7_isSame_115 rfl ?_
                refine s_getfield hK dX7_isSame_116 kF_X7_19 (by assumption) (by rfl) ?_
                have Ac := W3.2.1.c3
                obtain ⟨fa, a1, a2⟩ := Ac.2 _ hx9
                have a3 := a2 y hy7
                refine s_iload hK dX7_isSame_119 rfl ?_
                refine s_aaload hK dX7_isSame_121 Ac.1 rfl hx9 (by omega) (if_pos hx9) ?_
                refine s_iload hK dX7_isSame_122 rfl ?_
                refine s_ialoadN hK dX7_isSame_124 a1 hy7 (by omega) ?_
                rw [a3]
                refine s_tst hK dX7_isSame_125 tt F3 A3 (show 1 < 5 by omega) (by omega) (fun h4 F4 A4 => ?_)
                have W4 := W1.nw F4
                have C0 := W4.2.1.c0
                refine s_dup hK dX7_isSame_126 rfl ?_
                refine s_iconst hK (v := nI 2) dX7_isSame_127 (by decide) ?_
                refine s_aload_n hK dX7_isSame_128 rfl ?_
                refine s_getfield hK dX7_isSame_129 kF_X7_24 (by assumption) (by rfl) ?_
                have Bc := W4.2.1.c4
                obtain ⟨fb, b1, b2⟩ := Bc.2 _ hx9
                have b3 := b2 y hy7
                refine s_iload hK dX7_isSame_132 rfl ?_
                refine s_aaload hK dX7_isSame_134 Bc.1 rfl hx9 (by omega) (if_pos hx9) ?_
                refine s_iload hK dX7_isSame_135 rfl ?_
                refine s_baloadN hK dX7_isSame_137 b1 hy7 (by omega) ?_
                rw [b3]
                have at146 : K 146 [some (.ref (m 0)), some (.ref (a)), some (.ref (q)), some (.int (nI CW)), some (.int (nI CM)), some (.int (nI x)), some (.int (nI y)), some (.int (nI (hn S.2.2.2.1))), some (.ref (m 5)), some (.int (nI S.2.2.2.1)), l10, l11] [.int (b01 (lb (S.1 1) (9 * y + x))), .int (nI 2), .ref t, .ref t] h4 (bc - 1) (bs - 5) := by
                  refine s_tst hK dX7_isSame_146 tt F4 A4 (show 2 < 5 by omega) (by omega) (fun h5 F5 A5 => ?_)
                  have W5 := W1.nw F5
                  refine s_dup hK dX7_isSame_147 rfl ?_
                  refine s_iconst hK (v := nI 3) dX7_isSame_148 (by decide) ?_
                  have Zc := W5.2.2
                  obtain ⟨fz, z1, z2⟩ := Zc.2 _ hx9
                  have z3 := z2 y hy7
                  refine s_aload_n hK dX7_isSame_149 rfl ?_
                  refine s_iload hK dX7_isSame_150 rfl ?_
                  refine s_aaload hK dX7_isSame_152 Zc.1 rfl hx9 (by omega) (if_pos hx9) ?_
                  refine s_iload hK dX7_isSame_153 rfl ?_
                  refine s_baloadN hK dX7_isSame_155 z1 hy7 (by omega) ?_
                  rw [z3]
                  have at164 : K 164 [some (.ref (m 0)), some (.ref (a)), some (.ref (q)), some (.int (nI CW)), some (.int (nI CM)), some (.int (nI x)), some (.int (nI y)), some (.int (nI (hn S.2.2.2.1))), some (.ref (m 5)), some (.int (nI S.2.2.2.1)), l10, l11] [.int (b01 (lb (relit S.1) (9 * y + x))), .int (nI 3), .ref t, .ref t] h5 (bc - 1) (bs - 5) := by
                    refine s_tst hK dX7_isSame_164 tt F5 A5 (show 3 < 5 by omega) (by omega) (fun h6 F6 A6 => ?_)
                    refine s_dup hK dX7_isSame_165 rfl ?_
                    refine s_iconst hK (v := nI 4) dX7_isSame_166 (by decide) ?_
                    refine s_iload hK dX7_isSame_167 rfl ?_
                    refine s_tst hK dX7_isSame_169 tt F6 A6 (show 4 < 5 by omega) (by omega) (fun h7 F7 A7 => ?_)
                    have W7 := W1.nw F7
                    have tl : ∀ w, w < 5 → (upd (upd (upd (upd (upd (fun _ => (0 : Int32)) 0 (nI (thg S.1 (9 * y + x)))) 1 (S.2.1 (9 * y + x))) 2 (b01 (lb (S.1 1) (9 * y + x)))) 3 (b01 (lb (relit S.1) (9 * y + x)))) 4 (nI (hn S.2.2.2.1))) w = tCell S.1 S.2.1 S.2.2.1 S.2.2.2.1 (9 * y + x) w := by
                      intro w hw
                      simp only [upd_at]
                      match w, hw with
                      | 0, _ => rfl
                      | 1, _ => rfl
                      | 2, _ => rfl
                      | 3, _ =>
                        show b01 (lb (relit S.1) (9 * y + x)) = b01 (lb (S.1 7) (9 * y + x))
                        rw [el]
                      | 4, _ =>
                        show nI (hn S.2.2.2.1) = nI _
                        rw [ehn]
                    generalize (upd (upd (upd (upd (upd (fun _ => (0 : Int32)) 0 (nI (thg S.1 (9 * y + x)))) 1 (S.2.1 (9 * y + x))) 2 (b01 (lb (S.1 1) (9 * y + x)))) 3 (b01 (lb (relit S.1) (9 * y + x)))) 4 (nI (hn S.2.2.2.1))) = f at A7 tl
                    refine s_astore hK dX7_isSame_170 rfl ?_
                    refine s_iconst hK (v := 0) dX7_isSame_172 (by decide) ?_
                    refine s_istore hK dX7_isSame_173 rfl ?_
                    have hbc : 40 * (7 * k + j) + 1000 + 16 + 5 * 4 ≤ bc - 1 := by omega
                    have hbs : 240 * (7 * k + j) + 10000 + 96 + 5 * 24 ≤ bs - 5 := by omega
                    generalize bc - 1 = bc at hbc ⊢
                    generalize bs - 5 = bs at hbs ⊢
                    have marks : ∀ (h1 : gH) bc bs, 40 * (7 * k + j) + 1000 ≤ bc → 240 * (7 * k + j) + 10000 ≤ bs → SW h1 a n n' m S q → K 304 [some (.ref (m 0)), some (.ref (a)), some (.ref (q)), some (.int (nI (CW + w4 S.1 (9 * y + x)))), some (.int (nI CM)), some (.int (nI x)), some (.int (nI y)), some (.int (nI (hn S.2.2.2.1))), some (.ref (t)), some (.int (nI 4)), l10, l11] [] h1 bc bs := by
                      intro h1 bc bs hbc hbs W1
                      have C0 := W1.2.1.c0
                      have Tc := W1.2.1.c2
                      obtain ⟨ft, t1, t2⟩ := Tc.2 _ hx9
                      have t3 : ft y = nI (thg S.1 (9 * y + x)) := t2 y hy7
                      have Ac := W1.2.1.c3
                      obtain ⟨fa, a1, a2⟩ := Ac.2 _ hx9
                      have a3 := a2 y hy7
                      have t5 := thg_lt S.1 (9 * y + x)
                      have mm := (mk9_I T hc).1
                      refine s_iload hK dX7_isSame_304 rfl ?_
                      refine s_aload_n hK dX7_isSame_306 rfl ?_
                      refine s_getfield hK dX7_isSame_307 kF_X7_16 (by assumption) (by rfl) ?_
                      refine s_iload hK dX7_isSame_310 rfl ?_
                      refine s_aaload hK dX7_isSame_312 Tc.1 rfl hx9 (by omega) (if_pos hx9) ?_
                      refine s_iload hK dX7_isSame_313 rfl ?_
                      refine s_ialoadN hK dX7_isSame_315 t1 hy7 (by omega) ?_
                      rw [t3]
                      by_cases e4 : thg S.1 (9 * y + x) = 4
                      · rw [if_pos e4] at mm
                        refine s_iconst hK (v := 4) dX7_isSame_316 (by decide) ?_
                        refine s_icmpne hK dX7_isSame_317 333 (by decide) (fun c_317 => ?_) (fun c_317 => ?_)
                        · exact absurd (by rw [e4]; rfl) c_317
                        · refine s_aload_n hK dX7_isSame_320 rfl ?_
                          refine s_getfield hK dX7_isSame_321 kF_X7_19 (by assumption) (by rfl) ?_
                          refine s_iload hK dX7_isSame_324 rfl ?_
                          refine s_aaload hK dX7_isSame_326 Ac.1 rfl hx9 (by omega) (if_pos hx9) ?_
                          refine s_iload hK dX7_isSame_327 rfl ?_
                          refine s_ialoadN hK dX7_isSame_329 a1 hy7 (by omega) ?_
                          rw [a3, mm]
                          refine s_goto hK dX7_isSame_330 334 (by decide) ?_
                          refine s_iadd hK dX7_isSame_334 ?_
                          rw [nI_add]
                          refine s_istore hK dX7_isSame_335 rfl ?_
                          refine s_iinck hK (v := 1) dX7_isSame_337 rfl (by decide) rfl ?_
                          refine s_goto hK dX7_isSame_340 23 (by decide) ?_
                          rw [nI_1]
                          exact ihj h1 bc bs _ _ _ _ _ hbc hbs W1
                      · rw [if_neg e4] at mm
                        refine s_iconst hK (v := 4) dX7_isSame_316 (by decide) ?_
                        refine s_icmpne hK dX7_isSame_317 333 (by decide) (fun c_317 => ?_) (fun c_317 => ?_)
                        · refine s_iconst hK (v := 0) dX7_isSame_333 (by decide) ?_
                          rw [show (0 : Int32) = nI (mk9 S (9 * y + x)) from mm]
                          refine s_iadd hK dX7_isSame_334 ?_
                          rw [nI_add]
                          refine s_istore hK dX7_isSame_335 rfl ?_
                          refine s_iinck hK (v := 1) dX7_isSame_337 rfl (by decide) rfl ?_
                          refine s_goto hK dX7_isSame_340 23 (by decide) ?_
                          rw [nI_1]
                          exact ihj h1 bc bs _ _ _ _ _ hbc hbs W1
                        · exact absurd ((nI_eq (b := 4) (by omega) (by omega)).mp c_317) e4
                    have walls : ∀ jj dd, dd + jj = 4 → ∀ (h1 : gH) bc bs, 40 * (7 * k + j) + 1000 + jj * 4 ≤ bc → 240 * (7 * k + j) + 10000 + jj * 24 ≤ bs → SW h1 a n n' m S q → K 210 [some (.ref (m 0)), some (.ref (a)), some (.ref (q)), some (.int (nI (CW + wq S.1 (9 * y + x) dd))), some (.int (nI CM)), some (.int (nI x)), some (.int (nI y)), some (.int (nI (hn S.2.2.2.1))), some (.ref (t)), some (.int (nI dd)), l10, l11] [] h1 bc bs := by
                      intro jj
                      induction jj with
                      | zero =>
                        intro dd hd h1 bc bs hbc hbs W1
                        obtain rfl : dd = 4 := by omega
                        rw [wq_4]
                        refine s_iload hK dX7_isSame_210 rfl ?_
                        refine s_iconst hK (v := 4) dX7_isSame_212 (by decide) ?_
                        refine s_icmpge hK dX7_isSame_213 304 (by decide) (fun c_213 => ?_) (fun c_213 => ?_)
                        · exact marks h1 bc bs (by omega) (by omega) W1
                        · exact absurd (Int32.le_refl (nI 4)) c_213
                      | succ jj ihw =>
                        intro dd hd h1 bc bs hbc hbs W1
                        have hd4 : dd < 4 := by omega
                        have ihw := ihw (dd + 1) (by omega)
                        rw [wq_s] at ihw
                        generalize wq S.1 (9 * y + x) dd = WQ at ihw ⊢
                        have C0 := W1.2.1.c0
                        have Wc := W1.2.1.c1
                        obtain ⟨x1, x2⟩ := Wc.2 _ hx9
                        obtain ⟨fw, w1, w2⟩ := x2 y hy7
                        have w3 := w2 dd hd4
                        have sec : ∀ v, v = nI (CW + (WQ + (wl S.1 (9 * y + x) dd).toNat)) → K 239 [some (.ref (m 0)), some (.ref (a)), some (.ref (q)), some (.int (nI (CW + WQ))), some (.int (nI CM)), some (.int (nI x)), some (.int (nI y)), some (.int (nI (hn S.2.2.2.1))), some (.ref (t)), some (.int (nI dd)), l10, l11] [.int v] h1 bc bs := by
                          intro v hv
                          rw [hv]
                          generalize nI (CW + (WQ + (wl S.1 (9 * y + x) dd).toNat)) = v3 at ihw ⊢
                          have Ca := W1.1.1
                          refine s_istore_n hK dX7_isSame_239 rfl ?_
                          refine s_aload_n hK dX7_isSame_240 rfl ?_
                          refine s_iload hK dX7_isSame_241 rfl ?_
                          refine s_iload hK dX7_isSame_243 rfl ?_
                          refine s_iload hK dX7_isSame_245 rfl ?_
                          refine s_V3 hK (mc := 4) (ms := 24) dX7_isSame_247 kV_X7_110 (by assumption) (by rfl) (by omega) (by omega) ?_
                          refine c_walled _ W1.1 (by omega) (by omega) (gDone_of (fWalled_n hx9 hy7 hd4) (fun h2 C2 F2 => ?_))
                          have W2 := W1.cls D O C2 F2
                          have C0 := W2.2.1.c0
                          have Wc := W2.2.1.c1
                          obtain ⟨x1, x2⟩ := Wc.2 _ hx9
                          obtain ⟨fw, w1, w2⟩ := x2 y hy7
                          have w3 := w2 dd hd4
                          refine s_aload_n hK dX7_isSame_250 rfl ?_
                          refine s_getfield hK dX7_isSame_251 kF_X7_9 (by assumption) (by rfl) ?_
                          refine s_iload hK dX7_isSame_254 rfl ?_
                          refine s_aaload hK dX7_isSame_256 Wc.1 rfl hx9 (by omega) (if_pos hx9) ?_
                          refine s_iload hK dX7_isSame_257 rfl ?_
                          refine s_aaload hK dX7_isSame_259 x1 rfl hy7 (by omega) (if_pos hy7) ?_
                          refine s_iload hK dX7_isSame_260 rfl ?_
                          refine s_baloadN hK dX7_isSame_262 w1 hd4 (by omega) ?_
                          rw [w3]
                          have fin : K 298 [some (.ref (m 0)), some (.ref (a)), some (.ref (q)), some (.int (v3)), some (.int (nI CM)), some (.int (nI x)), some (.int (nI y)), some (.int (nI (hn S.2.2.2.1))), some (.ref (t)), some (.int (nI dd)), l10, l11] [] h2 (bc - 4) (bs - 24) := by
                            refine s_iinck hK (v := 1) dX7_isSame_298 rfl (by decide) rfl ?_
                            refine s_goto hK dX7_isSame_301 210 (by decide) ?_
                            rw [nI_1]
                            exact ihw h2 _ _ (by omega) (by omega) W2
                          cases ew : wl S.1 (9 * y + x) dd with
                          | true =>
                            rw [Bool.or_true]
                            refine s_ifne hK dX7_isSame_263 288 (by decide) (fun c_263 => ?_) (fun c_263 => ?_)
                            · refine s_iconst hK (v := 1) dX7_isSame_288 (by decide) ?_
                              refine s_goto hK dX7_isSame_289 293 (by decide) ?_
                              refine s_icmpeq hK dX7_isSame_293 298 (by decide) (fun c_293 => ?_) (fun c_293 => ?_)
                              · exact fin
                              · exact absurd rfl c_293
                            · exact absurd c_263 (by decide)
                          | false =>
                            rw [Bool.or_false]
                            refine s_ifne hK dX7_isSame_263 288 (by decide) (fun c_263 => ?_) (fun c_263 => ?_)
                            · exact absurd rfl c_263
                            · refine s_iload hK dX7_isSame_266 rfl ?_
                              refine s_iload hK dX7_isSame_268 rfl ?_
                              refine s_S10 hK dX7_isSame_270 kS_X7_49 (by rfl) ?_
                              refine c_goX _ hd4 ?_
                              refine s_iadd hK dX7_isSame_273 ?_
                              refine s_iload hK dX7_isSame_274 rfl ?_
                              refine s_iload hK dX7_isSame_276 rfl ?_
                              refine s_S10 hK dX7_isSame_278 kS_X7_53 (by rfl) ?_
                              refine c_goY _ hd4 ?_
                              refine s_iadd hK dX7_isSame_281 ?_
                              refine s_S20 hK dX7_isSame_282 kS_X7_56 (by rfl) ?_
                              refine c_isInS _ ?_
                              rw [nbx x y dd hx9 hy7 hd4]
                              cases en : nbOk (9 * y + x) dd with
                              | true =>
                                refine s_ifne hK dX7_isSame_285 292 (by decide) (fun c_285 => ?_) (fun c_285 => ?_)
                                · refine s_iconst hK (v := 0) dX7_isSame_292 (by decide) ?_
                                  refine s_icmpeq hK dX7_isSame_293 298 (by decide) (fun c_293 => ?_) (fun c_293 => ?_)
                                  · exact fin
                                  · exact absurd rfl c_293
                                · exact absurd c_285 (by decide)
                              | false =>
                                refine s_ifne hK dX7_isSame_285 292 (by decide) (fun c_285 => ?_) (fun c_285 => ?_)
                                · exact absurd rfl c_285
                                · refine s_iconst hK (v := 1) dX7_isSame_288 (by decide) ?_
                                  refine s_goto hK dX7_isSame_289 293 (by decide) ?_
                                  refine s_icmpeq hK dX7_isSame_293 298 (by decide) (fun c_293 => ?_) (fun c_293 => ?_)
                                  · exact fin
                                  · exact absurd rfl c_293
                        refine s_iload hK dX7_isSame_210 rfl ?_
                        refine s_iconst hK (v := 4) dX7_isSame_212 (by decide) ?_
                        refine s_icmpge hK dX7_isSame_213 304 (by decide) (fun c_213 => ?_) (fun c_213 => ?_)
                        · exact absurd c_213 (nI_ge (b := 4) (by omega) (by omega))
                        · refine s_iload_n hK dX7_isSame_216 rfl ?_
                          refine s_aload_n hK dX7_isSame_217 rfl ?_
                          refine s_getfield hK dX7_isSame_218 kF_X7_9 (by assumption) (by rfl) ?_
                          refine s_iload hK dX7_isSame_221 rfl ?_
                          refine s_aaload hK dX7_isSame_223 Wc.1 rfl hx9 (by omega) (if_pos hx9) ?_
                          refine s_iload hK dX7_isSame_224 rfl ?_
                          refine s_aaload hK dX7_isSame_226 x1 rfl hy7 (by omega) (if_pos hy7) ?_
                          refine s_iload hK dX7_isSame_227 rfl ?_
                          refine s_baloadN hK dX7_isSame_229 w1 hd4 (by omega) ?_
                          rw [w3]
                          cases ew : wl S.1 (9 * y + x) dd with
                          | true =>
                            rw [ew] at sec
                            refine s_ifeq hK dX7_isSame_230 237 (by decide) (fun c_230 => ?_) (fun c_230 => ?_)
                            · exact absurd c_230 (by decide)
                            · refine s_iconst hK (v := 1) dX7_isSame_233 (by decide) ?_
                              refine s_goto hK dX7_isSame_234 238 (by decide) ?_
                              refine s_iadd hK dX7_isSame_238 ?_
                              refine sec _ ?_
                              rw [nI_1]
                              rfl
                          | false =>
                            rw [ew] at sec
                            refine s_ifeq hK dX7_isSame_230 237 (by decide) (fun c_230 => ?_) (fun c_230 => ?_)
                            · refine s_iconst hK (v := 0) dX7_isSame_237 (by decide) ?_
                              refine s_iadd hK dX7_isSame_238 ?_
                              refine sec _ ?_
                              rw [Int32.add_zero]
                              rfl
                            · exact absurd rfl c_230
                    have what : ∀ jj w, w + jj = 5 → ∀ (h1 : gH) bc bs, 40 * (7 * k + j) + 1000 + 16 + jj * 4 ≤ bc → 240 * (7 * k + j) + 10000 + 96 + jj * 24 ≤ bs → SW h1 a n n' m S q → h1 t = some (.inl (0, 5, .inl f)) → K 175 [some (.ref (m 0)), some (.ref (a)), some (.ref (q)), some (.int (nI CW)), some (.int (nI CM)), some (.int (nI x)), some (.int (nI y)), some (.int (nI (hn S.2.2.2.1))), some (.ref (t)), some (.int (nI w)), l10, l11] [] h1 bc bs := by
                      intro jj
                      induction jj with
                      | zero =>
                        intro w hw h1 bc bs hbc hbs W1 A1
                        obtain rfl : w = 5 := by omega
                        refine s_iload hK dX7_isSame_175 rfl ?_
                        refine s_iconst hK (v := 5) dX7_isSame_177 (by decide) ?_
                        refine s_icmpge hK dX7_isSame_178 207 (by decide) (fun c_178 => ?_) (fun c_178 => ?_)
                        · refine s_iconst hK (v := 0) dX7_isSame_207 (by decide) ?_
                          refine s_istore hK dX7_isSame_208 rfl ?_
                          exact walls 4 0 (by omega) h1 bc bs (by omega) (by omega) W1
                        · exact absurd (Int32.le_refl (nI 5)) c_178
                      | succ jj ihw =>
                        intro w hw h1 bc bs hbc hbs W1 A1
                        have Ca := W1.1.1
                        refine s_iload hK dX7_isSame_175 rfl ?_
                        refine s_iconst hK (v := 5) dX7_isSame_177 (by decide) ?_
                        refine s_icmpge hK dX7_isSame_178 207 (by decide) (fun c_178 => ?_) (fun c_178 => ?_)
                        · exact absurd c_178 (nI_ge (b := 5) (by omega) (by omega))
                        · refine s_aload_n hK dX7_isSame_181 rfl ?_
                          refine s_iload hK dX7_isSame_182 rfl ?_
                          refine s_iload hK dX7_isSame_184 rfl ?_
                          refine s_iload hK dX7_isSame_186 rfl ?_
                          refine s_V3 hK (mc := 4) (ms := 24) dX7_isSame_188 kV_X7_104 (by assumption) (by rfl) (by omega) (by omega) ?_
                          refine c_cell _ W1.1 ok (by omega) (by omega) (gDone_of (fCell_n hx9 hy7 (show w < 5 by omega)) (fun h2 C2 F2 => ?_))
                          have W2 := W1.cls D O C2 F2
                          have A2 := (F2 t ot.out).trans A1
                          refine s_aload hK dX7_isSame_191 rfl ?_
                          refine s_iload hK dX7_isSame_193 rfl ?_
                          refine s_ialoadN hK dX7_isSame_195 A2 (show w < 5 by omega) (by omega) ?_
                          rw [tl w (by omega)]
                          refine s_icmpeq hK dX7_isSame_196 201 (by decide) (fun c_196 => ?_) (fun c_196 => ?_)
                          · refine s_iinck hK (v := 1) dX7_isSame_201 rfl (by decide) rfl ?_
                            refine s_goto hK dX7_isSame_204 175 (by decide) ?_
                            rw [nI_1]
                            exact ihw (w + 1) (by omega) h2 _ _ (by omega) (by omega) W2 A2
                          · exact absurd rfl c_196
                    exact what 5 0 (by omega) h7 _ _ (by omega) (by omega) W7 A7
                  cases eb : lb (relit S.1) (9 * y + x) with
                  | true =>
                    rw [eb] at at164
                    refine s_ifeq hK dX7_isSame_156 163 (by decide) (fun c_156 => ?_) (fun c_156 => ?_)
                    · exact absurd c_156 (by decide)
                    · refine s_iconst hK (v := 1) dX7_isSame_159 (by decide) ?_
                      refine s_goto hK dX7_isSame_160 164 (by decide) ?_
                      exact at164
                  | false =>
                    rw [eb] at at164
                    refine s_ifeq hK dX7_isSame_156 163 (by decide) (fun c_156 => ?_) (fun c_156 => ?_)
                    · refine s_iconst hK (v := 0) dX7_isSame_163 (by decide) ?_
                      exact at164
                    · exact absurd rfl c_156
                cases eb : lb (S.1 1) (9 * y + x) with
                | true =>
                  rw [eb] at at146
                  refine s_ifeq hK dX7_isSame_138 145 (by decide) (fun c_138 => ?_) (fun c_138 => ?_)
                  · exact absurd c_138 (by decide)
                  · refine s_iconst hK (v := 1) dX7_isSame_141 (by decide) ?_
                    refine s_goto hK dX7_isSame_142 146 (by decide) ?_
                    exact at146
                | false =>
                  rw [eb] at at146
                  refine s_ifeq hK dX7_isSame_138 145 (by decide) (fun c_138 => ?_) (fun c_138 => ?_)
                  · refine s_iconst hK (v := 0) dX7_isSame_145 (by decide) ?_
                    exact at146
                  · exact absurd rfl c_138
              have here : ∀ jj kk, kk + jj = S.2.2.2.1 → ∀ l11, K 47 [some (.ref (m 0)), some (.ref (a)), some (.ref (q)), some (.int (nI CW)), some (.int (nI CM)), some (.int (nI x)), some (.int (nI y)), some (.int (nI (hn kk))), some (.ref (m 5)), some (.int (nI S.2.2.2.1)), some (.int (nI kk)), l11] [] h1 bc bs := by
                intro jj
                induction jj with
                | zero =>
                  intro kk hkk l11
                  obtain rfl : kk = S.2.2.2.1 := by omega
                  refine s_iload hK dX7_isSame_47 rfl ?_
                  refine s_iload hK dX7_isSame_49 rfl ?_
                  refine s_icmpge hK dX7_isSame_51 97 (by decide) (fun c_51 => ?_) (fun c_51 => ?_)
                  · exact after _ _
                  · exact absurd (Int32.le_refl _) c_51
                | succ jj ihh =>
                  intro kk hkk l11
                  have hkg : kk < S.2.2.2.1 := by omega
                  obtain ⟨go0, -⟩ := GO kk (by omega)
                  have Gk := W1.2.1.c8 hkg
                  have hs : hn (kk + 1) = if S.2.2.1 kk 0 = 9 * y + x then hn kk + 1 else hn kk := by
                    rw [ehn, cntG_succ]
                    by_cases e : S.2.2.1 kk 0 = 9 * y + x
                    · simp [e]
                    · simp [e]
                  have ihh := ihh (kk + 1) (by omega)
                  rw [hs] at ihh
                  refine s_iload hK dX7_isSame_47 rfl ?_
                  refine s_iload hK dX7_isSame_49 rfl ?_
                  refine s_icmpge hK dX7_isSame_51 97 (by decide) (fun c_51 => ?_) (fun c_51 => ?_)
                  · exact absurd c_51 (nI_ge (by omega) (by omega))
                  · refine s_aload hK dX7_isSame_54 rfl ?_
                    refine s_iload hK dX7_isSame_56 rfl ?_
                    refine s_aaload hK dX7_isSame_58 g1 rfl hkg (by show S.2.2.2.1 < _; omega) (g2 kk hkg) ?_
                    refine s_astore hK dX7_isSame_59 rfl ?_
                    refine s_iload hK dX7_isSame_61 rfl ?_
                    refine s_aload hK dX7_isSame_63 rfl ?_
                    refine s_getfield hK dX7_isSame_65 kF_X7_68 (by assumption) (by rfl) ?_
                    refine s_iload hK dX7_isSame_68 rfl ?_
                    by_cases ex : S.2.2.1 kk 0 = 9 * y + x
                    · have e1 : S.2.2.1 kk 0 % 9 = x := by omega
                      have e2 : S.2.2.1 kk 0 / 9 = y := by omega
                      rw [if_pos ex] at ihh
                      refine s_icmpne hK dX7_isSame_70 87 (by decide) (fun c_70 => ?_) (fun c_70 => ?_)
                      · exact absurd (by rw [e1]) c_70
                      · refine s_aload hK dX7_isSame_73 rfl ?_
                        refine s_getfield hK dX7_isSame_75 kF_X7_71 (by assumption) (by rfl) ?_
                        refine s_iload hK dX7_isSame_78 rfl ?_
                        refine s_icmpne hK dX7_isSame_80 87 (by decide) (fun c_80 => ?_) (fun c_80 => ?_)
                        · exact absurd (by rw [e2]) c_80
                        · refine s_iconst hK (v := 1) dX7_isSame_83 (by decide) ?_
                          refine s_goto hK dX7_isSame_84 88 (by decide) ?_
                          refine s_iadd hK dX7_isSame_88 ?_
                          refine s_istore hK dX7_isSame_89 rfl ?_
                          refine s_iinck hK (v := 1) dX7_isSame_91 rfl (by decide) rfl ?_
                          refine s_goto hK dX7_isSame_94 47 (by decide) ?_
                          rw [nI_1, nI_1]
                          exact ihh _
                    · rw [if_neg ex] at ihh
                      have no : K 87 [some (.ref (m 0)), some (.ref (a)), some (.ref (q)), some (.int (nI CW)), some (.int (nI CM)), some (.int (nI x)), some (.int (nI y)), some (.int (nI (hn kk))), some (.ref (m 5)), some (.int (nI S.2.2.2.1)), some (.int (nI kk)), some (.ref (m (8 + kk)))] [.int (nI (hn kk))] h1 bc bs := by
                        refine s_iconst hK (v := 0) dX7_isSame_87 (by decide) ?_
                        refine s_iadd hK dX7_isSame_88 ?_
                        refine s_istore hK dX7_isSame_89 rfl ?_
                        refine s_iinck hK (v := 1) dX7_isSame_91 rfl (by decide) rfl ?_
                        refine s_goto hK dX7_isSame_94 47 (by decide) ?_
                        rw [Int32.add_zero, nI_1]
                        exact ihh _
                      refine s_icmpne hK dX7_isSame_70 87 (by decide) (fun c_70 => ?_) (fun c_70 => ?_)
                      · exact no
                      · refine s_aload hK dX7_isSame_73 rfl ?_
                        refine s_getfield hK dX7_isSame_75 kF_X7_71 (by assumption) (by rfl) ?_
                        refine s_iload hK dX7_isSame_78 rfl ?_
                        refine s_icmpne hK dX7_isSame_80 87 (by decide) (fun c_80 => ?_) (fun c_80 => ?_)
                        · exact no
                        · have e1 := (nI_eq (by omega) (by omega)).mp c_70
                          have e2 := (nI_eq (by omega) (by omega)).mp c_80
                          omega
              have h0 : hn 0 = 0 := by rw [ehn]; rfl
              have h1' := here S.2.2.2.1 0 (by omega) l11
              rw [h0] at h1'
              exact h1'
        exact loopY 7 0 (by omega) h1 bc bs _ _ _ _ _ (by omega) (by omega) W1
  exact loopX 9 0 (by omega) h1 bc bs _ _ _ _ _ _ (by omega) (by omega) W1
