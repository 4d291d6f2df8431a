/-! the law's own house: walls and light -/
theorem wl_rim {L : Nat → Int64} (I : InvW L) {c d : Nat} (hc : c < 63) (hd : d < 4) (h : nbOk c d = false) : wl L c d = false := by
  cases e : wl L c d with
  | false => rfl
  | true =>
    exfalso
    match d, hd, h, e with
    | 0, _, h, e =>
      have e : lb (wCells L 0) c = true := e
      have h : ¬ 9 ≤ c := of_decide_eq_false h
      rw [wC0 hc] at e
      simp [h] at e
    | 1, _, h, e =>
      have h : ¬ c % 9 ≠ 8 := of_decide_eq_false h
      exact h (I.1 c e).2
    | 2, _, h, e =>
      have h : ¬ c < 54 := of_decide_eq_false h
      exact h (I.2 c e)
    | 3, _, h, e =>
      have e : lb (wCells L 3) c = true := e
      rw [wC3 I hc, h] at e
      cases e
set_option maxRecDepth 100000 in
theorem edge_eq : ∀ c c' : Fin 63, ∀ d d' : Fin 4, nbOk c.val d.val = true → nbOk c'.val d'.val = true → ((wRow d'.val = wRow d.val ∧ wAt c'.val d'.val = wAt c.val d.val) ↔ ((c'.val = nbOf c.val d.val ∧ d'.val = opp d.val) ∨ (c'.val = c.val ∧ d'.val = d.val))) := by
  intro c c' d d' h h'
  have n1 := nb_lt c.2 d.2 h
  have hd := d.2
  have hd' := d'.2
  generalize d.val = e at *
  generalize d'.val = e' at *
  generalize c.val = x at *
  generalize c'.val = x' at *
  match e, hd, e', hd' with
  | 0, _, 0, _ => have h : 9 ≤ x := of_decide_eq_true h; have h' : 9 ≤ x' := of_decide_eq_true h'; simp [wRow, wAt, nbOf, opp]; omega
  | 0, _, 1, _ => simp [wRow, wAt, nbOf, opp]
  | 0, _, 2, _ => have h : 9 ≤ x := of_decide_eq_true h; simp [wRow, wAt, nbOf, opp]
  | 0, _, 3, _ => simp [wRow, wAt, nbOf, opp]
  | 1, _, 0, _ => simp [wRow, wAt, nbOf, opp]
  | 1, _, 1, _ => simp [wRow, wAt, nbOf, opp]
  | 1, _, 2, _ => simp [wRow, wAt, nbOf, opp]
  | 1, _, 3, _ => have h' : x' % 9 ≠ 0 := of_decide_eq_true h'; simp [wRow, wAt, nbOf, opp]; omega
  | 2, _, 0, _ => have h' : 9 ≤ x' := of_decide_eq_true h'; simp [wRow, wAt, nbOf, opp]; omega
  | 2, _, 1, _ => simp [wRow, wAt, nbOf, opp]
  | 2, _, 2, _ => simp [wRow, wAt, nbOf, opp]
  | 2, _, 3, _ => simp [wRow, wAt, nbOf, opp]
  | 3, _, 0, _ => simp [wRow, wAt, nbOf, opp]
  | 3, _, 1, _ => have h : x % 9 ≠ 0 := of_decide_eq_true h; simp [wRow, wAt, nbOf, opp]
  | 3, _, 2, _ => simp [wRow, wAt, nbOf, opp]
  | 3, _, 3, _ => have h : x % 9 ≠ 0 := of_decide_eq_true h; have h' : x' % 9 ≠ 0 := of_decide_eq_true h'; simp [wRow, wAt, nbOf, opp]; omega
theorem opp_lt4 {d : Nat} (hd : d < 4) : opp d < 4 := opp_lt hd
theorem wall_wl {L : Nat → Int64} (I : InvW L) {c dn : Nat} (hc : c < 63) (hd : dn < 4) (ho : nbOk c dn = true) {c' d' : Nat} (hc' : c' < 63) (hd' : d' < 4) : wl (reL (oWall L c dn)) c' d' = if c' = nbOf c dn ∧ d' = opp dn then !wl L c dn else if c' = c ∧ d' = dn then !wl L c dn else wl L c' d' := by
  have I' := wall_InvW hc hd ho I
  obtain ⟨b1, b2, b3⟩ := wall_bits (L := L) hc hd ho
  have hno := nb_opp hc hd ho
  cases eo : nbOk c' d' with
  | false =>
    rw [wl_rim I' hc' hd' eo, wl_rim I hc' hd' eo, if_neg, if_neg]
    · rintro ⟨rfl, rfl⟩
      rw [ho] at eo
      cases eo
    · rintro ⟨rfl, rfl⟩
      rw [hno.1] at eo
      cases eo
  | true =>
    have q := edge_eq ⟨c, hc⟩ ⟨c', hc'⟩ ⟨dn, hd⟩ ⟨d', hd'⟩ ho eo
    have w1 : wl (reL (oWall L c dn)) c' d' = _ := wall_at hc' hd' eo I'
    have w2 : wl L c' d' = _ := wall_at hc' hd' eo I
    have w3 : wl L c dn = _ := wall_at hc hd ho I
    by_cases er : wRow d' = wRow dn
    · rw [w1, er, b1]
      by_cases ea : wAt c' d' = wAt c dn
      · rw [if_pos ea, ← w3]
        rcases q.mp ⟨er, ea⟩ with q1 | q1
        · rw [if_pos q1]
        · by_cases q2 : c' = nbOf c dn ∧ d' = opp dn
          · rw [if_pos q2]
          · rw [if_neg q2, if_pos q1]
      · have nq : ¬ ((c' = nbOf c dn ∧ d' = opp dn) ∨ (c' = c ∧ d' = dn)) := fun z => ea (q.mpr z).2
        rw [if_neg ea, if_neg (fun z => nq (Or.inl z)), if_neg (fun z => nq (Or.inr z)), w2, er]
    · have nq : ¬ ((c' = nbOf c dn ∧ d' = opp dn) ∨ (c' = c ∧ d' = dn)) := fun z => er (q.mpr z).1
      have e7 : wRow d' ≠ 7 := by unfold wRow; split <;> decide
      rw [if_neg (fun z => nq (Or.inl z)), if_neg (fun z => nq (Or.inr z)), w1, w2, b2 _ er e7]
theorem wall_thg {L : Nat → Int64} {c dn : Nat} (hc : c < 63) (hd : dn < 4) (ho : nbOk c dn = true) (j : Nat) : thg (reL (oWall L c dn)) j = thg L j ∧ reL (oWall L c dn) 1 = L 1 := by
  obtain ⟨b1, b2, b3⟩ := wall_bits (L := L) hc hd ho
  have e5 : wRow dn = 5 ∨ wRow dn = 6 := by
    unfold wRow
    split
    · exact Or.inl rfl
    · exact Or.inr rfl
  exact ⟨thg_of (by rw [b2 0 (by omega) (by decide)]) (by rw [b2 2 (by omega) (by decide)]) (by rw [b2 3 (by omega) (by decide)]) (by rw [b2 4 (by omega) (by decide)]), b2 1 (by omega) (by decide)⟩
theorem nbxy {c d : Nat} (hc : c < 63) (hd : d < 4) (ho : nbOk c d = true) : nI (c % 9) + gxI d = nI (nbOf c d % 9) ∧ nI (c / 9) + gyI d = nI (nbOf c d / 9) := nb_xy ⟨c, hc⟩ ⟨d, hd⟩ ho
theorem nbok {c d : Nat} (hc : c < 63) (hd : d < 4) : okC (nI (c % 9) + gxI d) (nI (c / 9) + gyI d) = nbOk c d := nb_ok ⟨c, hc⟩ ⟨d, hd⟩
set_option maxRecDepth 10000 in
theorem c_turnWall (d : Nat) {m : Nat → Nat} {S : CS} {c dn : Nat} (hc : c < 63) (hd : dn < 4) (ho : nbOk c dn = true) {h : gH} (M : SimAt h m S) (I : InvW S.1) {mc ms : Nat} {Post : Option Value → gH → Prop} {X : String → gH → Prop} (hp : ∀ h', SimAt h' m (reL (oWall S.1 c dn), S.2) → sFr m (8 + S.2.2.2.1) h h' → Post none h') : gSafe (d + 2) mX7_turnWall [.ref (m 0), .int (nI (c % 9)), .int (nI (c / 9)), .int (nI dn)] h mc ms Post X := by
  have M0 := M.c0
  have W := M.c1
  have hx : c % 9 < 9 := Nat.mod_lt _ (by omega)
  have hy : c / 9 < 7 := by omega
  have ec : 9 * (c / 9) + c % 9 = c := by omega
  have W2 := (W.2 _ hx).1
  obtain ⟨f, e1, e2⟩ := (W.2 _ hx).2 _ hy
  rw [ec] at e2
  have h9 := nb_lt hc hd ho
  have hx' : nbOf c dn % 9 < 9 := Nat.mod_lt _ (by omega)
  have hy' : nbOf c dn / 9 < 7 := by omega
  have ec' : 9 * (nbOf c dn / 9) + nbOf c dn % 9 = nbOf c dn := by omega
  obtain ⟨gx, gy⟩ := nbxy hc hd ho
  refine ⟨Nat.le_of_ble_eq_true rfl, fun K hK => ?_⟩
  show K 0 [some (.ref (m 0)), some (.int (nI (c % 9))), some (.int (nI (c / 9))), some (.int (nI dn))] [] _ _ _
  refine s_aload_n hK dX7_turnWall_0 rfl ?_
  refine s_getfield hK dX7_turnWall_1 kF_X7_9 (by first | assumption | exact H.1 | exact H.2.1) (by rfl) ?_
  refine s_iload_n hK dX7_turnWall_4 rfl ?_
  refine s_aaload hK dX7_turnWall_5 W.1 rfl hx (by omega) (if_pos hx) ?_
  refine s_iload_n hK dX7_turnWall_6 rfl ?_
  refine s_aaload hK dX7_turnWall_7 W2 rfl hy (by omega) (if_pos hy) ?_
  refine s_iload_n hK dX7_turnWall_8 rfl ?_
  refine s_aload_n hK dX7_turnWall_9 rfl ?_
  refine s_getfield hK dX7_turnWall_10 kF_X7_9 (by first | assumption | exact H.1 | exact H.2.1) (by rfl) ?_
  refine s_iload_n hK dX7_turnWall_13 rfl ?_
  refine s_aaload hK dX7_turnWall_14 W.1 rfl hx (by omega) (if_pos hx) ?_
  refine s_iload_n hK dX7_turnWall_15 rfl ?_
  refine s_aaload hK dX7_turnWall_16 W2 rfl hy (by omega) (if_pos hy) ?_
  refine s_iload_n hK dX7_turnWall_17 rfl ?_
  refine s_baloadN hK dX7_turnWall_18 e1 hd (by omega) ?_
  rw [e2 dn hd]
  have go : ∀ v, v = b01 (!wl S.1 c dn) → K 27 [some (.ref (m 0)), some (.int (nI (c % 9))), some (.int (nI (c / 9))), some (.int (nI dn))] [.int v, .int (nI dn), .ref (m 1 + 1 + c % 9 * 8 + 1 + c / 9)] h mc ms := by
    intro v hv
    refine s_bastoreN hK dX7_turnWall_27 e1 hd (by omega) ?_
    have W1 := W.put (d := dn) hx hy (!wl S.1 c dn) hv e1
    have B : inB m 1 (m 1 + 1 + c % 9 * 8 + 1 + c / 9) := ⟨by omega, by show _ < m 1 + 73; omega⟩
    have F1 : ∀ p, ¬ inB m 1 p → gU h (m 1 + 1 + c % 9 * 8 + 1 + c / 9) (.inl (1, 4, .inl (upd f dn (vp_nar .boolean v)))) p = h p := fun p hp => ne_blk B hp
    generalize gU h (m 1 + 1 + c % 9 * 8 + 1 + c / 9) (.inl (1, 4, .inl (upd f dn (vp_nar .boolean v)))) = h1 at W1 F1
    have N0 : h1 (m 0) = some (.inr (6, smF m S)) := (F1 _ (M.2.out (i := 0) (by omega) (by omega) (by decide) ⟨Nat.le_refl _, by show _ < _ + 1; omega⟩)).trans M0
    have V2 := (W1.2 _ hx').1
    have V3 := (W1.2 _ hx).1
    obtain ⟨f1, g1, g2⟩ := (W1.2 _ hx').2 _ hy'
    obtain ⟨f3, g3, g4⟩ := (W1.2 _ hx).2 _ hy
    rw [ec] at g4
    refine s_aload_n hK dX7_turnWall_28 rfl ?_
    refine s_getfield hK dX7_turnWall_29 kF_X7_9 (by first | assumption | exact H.1 | exact H.2.1) (by rfl) ?_
    refine s_iload_n hK dX7_turnWall_32 rfl ?_
    refine s_iload_n hK dX7_turnWall_33 rfl ?_
    refine s_S10 hK dX7_turnWall_34 kS_X7_49 (by rfl) ?_
    refine c_goX _ hd ?_
    refine s_iadd hK dX7_turnWall_37 ?_
    rw [gx]
    refine s_aaload hK dX7_turnWall_38 W1.1 rfl hx' (by omega) (if_pos hx') ?_
    refine s_iload_n hK dX7_turnWall_39 rfl ?_
    refine s_iload_n hK dX7_turnWall_40 rfl ?_
    refine s_S10 hK dX7_turnWall_41 kS_X7_53 (by rfl) ?_
    refine c_goY _ hd ?_
    refine s_iadd hK dX7_turnWall_44 ?_
    rw [gy]
    refine s_aaload hK dX7_turnWall_45 V2 rfl hy' (by omega) (if_pos hy') ?_
    refine s_iload_n hK dX7_turnWall_46 rfl ?_
    refine s_iconst hK (v := 2) dX7_turnWall_47 (by decide) ?_
    refine s_iadd hK dX7_turnWall_48 ?_
    refine s_iconst hK (v := 4) dX7_turnWall_49 (by decide) ?_
    refine s_irem hK dX7_turnWall_50 (by decide) ?_
    rw [opp_I ⟨dn, hd⟩]
    refine s_aload_n hK dX7_turnWall_51 rfl ?_
    refine s_getfield hK dX7_turnWall_52 kF_X7_9 (by first | assumption | exact H.1 | exact H.2.1) (by rfl) ?_
    refine s_iload_n hK dX7_turnWall_55 rfl ?_
    refine s_aaload hK dX7_turnWall_56 W1.1 rfl hx (by omega) (if_pos hx) ?_
    refine s_iload_n hK dX7_turnWall_57 rfl ?_
    refine s_aaload hK dX7_turnWall_58 V3 rfl hy (by omega) (if_pos hy) ?_
    refine s_iload_n hK dX7_turnWall_59 rfl ?_
    refine s_baloadN hK dX7_turnWall_60 g3 hd (by omega) ?_
    have b0 : f3 dn = b01 (!wl S.1 c dn) := by
      rw [g4 dn hd]
      simp
    rw [b0]
    refine s_bastoreN hK dX7_turnWall_61 g1 (opp_lt4 hd) (by omega) ?_
    have W5 := W1.put (d := opp dn) hx' hy' (!wl S.1 c dn) (v := b01 (!wl S.1 c dn)) rfl g1
    have B5 : inB m 1 (m 1 + 1 + nbOf c dn % 9 * 8 + 1 + nbOf c dn / 9) := ⟨by omega, by show _ < m 1 + 73; omega⟩
    have F5 : ∀ p, ¬ inB m 1 p → gU h1 (m 1 + 1 + nbOf c dn % 9 * 8 + 1 + nbOf c dn / 9) (.inl (1, 4, .inl (upd f1 (opp dn) (vp_nar .boolean (b01 (!wl S.1 c dn)))))) p = h p := fun p hp => (ne_blk B5 hp).trans (F1 p hp)
    generalize gU h1 (m 1 + 1 + nbOf c dn % 9 * 8 + 1 + nbOf c dn / 9) (.inl (1, 4, .inl (upd f1 (opp dn) (vp_nar .boolean (b01 (!wl S.1 c dn)))))) = h5 at W5 F5
    refine s_return hK dX7_turnWall_62 rfl ?_
    refine hp h5 (M.put (i := 1) rfl (by omega) F5 ?_ ?_) (sFr.blk (i := 1) (by omega) F5)
    · refine W3.cong W5 (fun c' d' hc' hd' => ?_)
      show _ = wl (reL (oWall S.1 c dn)) c' d'
      rw [wall_wl I hc hd ho hc' hd', ec', ec]
    · intro j hj hj2 C
      match j, hj, C with
      | 0, _, C => exact C
      | 2, _, C => exact I2.cong (F := fun c => nI (thg S.1 c)) C (fun c' _ => by
          show nI (thg S.1 c') = nI (thg (reL (oWall S.1 c dn)) c')
          rw [(wall_thg hc hd ho c').1])
      | 3, _, C => exact C
      | 4, _, C => exact Z2.cong (F := lb (S.1 1)) C (fun c' _ => by
          show _ = lb (reL (oWall S.1 c dn) 1) c'
          rw [(wall_thg hc hd ho c').2])
      | 5, _, C => exact C
      | 6, _, C => exact C
      | 7, _, C => exact C
      | j + 8, _, C => exact C
  cases ew : wl S.1 c dn with
  | false =>
    refine s_ifne hK dX7_turnWall_19 26 (by decide) (fun c_19 => ?_) (fun c_19 => ?_)
    · exact absurd rfl c_19
    · refine s_iconst hK (v := 1) dX7_turnWall_22 (by decide) ?_
      refine s_goto hK dX7_turnWall_23 27 (by decide) ?_
      exact go 1 (by rw [ew]; rfl)
  | true =>
    refine s_ifne hK dX7_turnWall_19 26 (by decide) (fun c_19 => ?_) (fun c_19 => ?_)
    · refine s_iconst hK (v := 0) dX7_turnWall_26 (by decide) ?_
      exact go 0 (by rw [ew]; rfl)
    · exact absurd c_19 (by decide)
