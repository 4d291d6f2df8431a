/-! wall of the model -/
theorem xor_only {x : Int64} {c j : Nat} (hc : c < 63) : lb (x ^^^ bOnly c) j = if j = c then !lb x c else lb x j := by
  rw [lb_xor, lb_only (by omega)]
  by_cases e : j = c
  · rw [if_pos e, e]
    cases lb x c <;> simp
  · rw [if_neg e]
    cases lb x j <;> simp [e]
def wAt (c dn : Nat) : Nat := if dn = 0 ∨ dn = 3 then nbOf c dn else c
def wRow (dn : Nat) : Nat := if dn = 1 ∨ dn = 3 then 5 else 6
theorem wall_bits {L : Nat → Int64} {c dn : Nat} (hc : c < 63) (hd : dn < 4) (ho : nbOk c dn = true) : (∀ j, lb (reL (oWall L c dn) (wRow dn)) j = if j = wAt c dn then !lb (L (wRow dn)) (wAt c dn) else lb (L (wRow dn)) j) ∧ (∀ k, k ≠ wRow dn → k ≠ 7 → reL (oWall L c dn) k = L k) ∧ wAt c dn < 63 := by
  have hn := nb_lt hc hd ho
  have hm := bMv_only hc hd
  rw [if_pos ho] at hm
  rcases (show dn = 0 ∨ dn = 1 ∨ dn = 2 ∨ dn = 3 by omega) with rfl | rfl | rfl | rfl
  · refine ⟨fun j => ?_, fun k h1 h2 => ?_, hn⟩
    · show lb (L 6 ^^^ bMv (bOnly c) 0) j = if j = nbOf c 0 then !lb (L 6) (nbOf c 0) else lb (L 6) j
      rw [hm]
      exact xor_only hn
    · rw [reL_ne h2]
      exact if_neg h1
  · refine ⟨fun j => ?_, fun k h1 h2 => ?_, hc⟩
    · show lb (L 5 ^^^ bOnly c) j = if j = c then !lb (L 5) c else lb (L 5) j
      exact xor_only hc
    · rw [reL_ne h2]
      exact if_neg h1
  · refine ⟨fun j => ?_, fun k h1 h2 => ?_, hc⟩
    · show lb (L 6 ^^^ bOnly c) j = if j = c then !lb (L 6) c else lb (L 6) j
      exact xor_only hc
    · rw [reL_ne h2]
      exact if_neg h1
  · refine ⟨fun j => ?_, fun k h1 h2 => ?_, hn⟩
    · show lb (L 5 ^^^ bMv (bOnly c) 3) j = if j = nbOf c 3 then !lb (L 5) (nbOf c 3) else lb (L 5) j
      rw [hm]
      exact xor_only hn
    · rw [reL_ne h2]
      exact if_neg h1
theorem InvW_of {L L' : Nat → Int64} (I : InvW L) (h5 : L' 5 = L 5) (h6 : L' 6 = L 6) : InvW L' := by
  unfold InvW
  rw [h5, h6]
  exact I
theorem wall_InvW {L : Nat → Int64} {c dn : Nat} (hc : c < 63) (hd : dn < 4) (ho : nbOk c dn = true) (I : InvW L) : InvW (reL (oWall L c dn)) := by
  obtain ⟨b1, b2, b3⟩ := wall_bits (L := L) hc hd ho
  rcases (show dn = 0 ∨ dn = 1 ∨ dn = 2 ∨ dn = 3 by omega) with rfl | rfl | rfl | rfl
  · refine ⟨fun j hj => ?_, fun j hj => ?_⟩
    · rw [b2 5 (by decide) (by decide)] at hj
      exact I.1 j hj
    · have b1 := b1 j
      have b1 : lb (reL (oWall L c 0) 6) j = if j = c - 9 then !lb (L 6) (c - 9) else lb (L 6) j := b1
      rw [b1] at hj
      split at hj
      · omega
      · exact I.2 j hj
  · refine ⟨fun j hj => ?_, fun j hj => ?_⟩
    · have b1 := b1 j
      have b1 : lb (reL (oWall L c 1) 5) j = if j = c then !lb (L 5) c else lb (L 5) j := b1
      rw [b1] at hj
      split at hj
      · next e =>
        have := of_decide_eq_true ho
        rw [e]
        exact ⟨hc, this⟩
      · exact I.1 j hj
    · rw [b2 6 (by decide) (by decide)] at hj
      exact I.2 j hj
  · refine ⟨fun j hj => ?_, fun j hj => ?_⟩
    · rw [b2 5 (by decide) (by decide)] at hj
      exact I.1 j hj
    · have b1 := b1 j
      have b1 : lb (reL (oWall L c 2) 6) j = if j = c then !lb (L 6) c else lb (L 6) j := b1
      rw [b1] at hj
      split at hj
      · next e =>
        have := of_decide_eq_true ho
        omega
      · exact I.2 j hj
  · refine ⟨fun j hj => ?_, fun j hj => ?_⟩
    · have b1 := b1 j
      have b1 : lb (reL (oWall L c 3) 5) j = if j = c - 1 then !lb (L 5) (c - 1) else lb (L 5) j := b1
      rw [b1] at hj
      split at hj
      · next e =>
        have := of_decide_eq_true ho
        omega
      · exact I.1 j hj
    · rw [b2 6 (by decide) (by decide)] at hj
      exact I.2 j hj
/-- the wall at a cell, by the row's bit -/
theorem wall_at {L : Nat → Int64} {c dn : Nat} (hc : c < 63) (hd : dn < 4) (ho : nbOk c dn = true) (I : InvW L) : lb (wCells L dn) c = lb (L (wRow dn)) (wAt c dn) := by
  rcases (show dn = 0 ∨ dn = 1 ∨ dn = 2 ∨ dn = 3 by omega) with rfl | rfl | rfl | rfl
  · have q : 9 ≤ c := of_decide_eq_true ho
    rw [wC0 hc]
    show _ = lb (L 6) (c - 9)
    simp [q]
  · rfl
  · rfl
  · rw [wC3 I hc, ho]
    rfl
theorem mC_w {S S' : CS} {lt : Nat → Bool} {st rw : Nat → Int32} {r a : Nat} {b : Bool} (hr5 : r = 1 ∨ r = 2) (h5 : ∀ j, lb (S'.1 (r + 4)) j = if j = a then b else lb (S.1 (r + 4)) j) (h0 : ∀ k, k ≠ r + 4 → k ≠ 7 → S'.1 k = S.1 k) (hr : S'.2 = S.2) : ∀ k j, 1 ≤ k → k < 11 → j < mLen k → updC (mC S lt st rw) r a (b01 b) k j = mC S' lt st rw k j := by
  intro k j k1 k2 hj
  by_cases e5 : k = r
  · subst e5
    unfold updC
    rw [if_pos rfl]
    rcases hr5 with rfl | rfl
    · show (if j = a then b01 b else b01 (lb (S.1 5) j)) = b01 (lb (S'.1 5) j)
      rw [h5 j]
      by_cases e : j = a
      · rw [if_pos e, if_pos e]
      · rw [if_neg e, if_neg e]
    · show (if j = a then b01 b else b01 (lb (S.1 6) j)) = b01 (lb (S'.1 6) j)
      rw [h5 j]
      by_cases e : j = a
      · rw [if_pos e, if_pos e]
      · rw [if_neg e, if_neg e]
  · rw [updC_same e5]
    have et : thg S'.1 j = thg S.1 j := thg_of (by rw [h0 0 (by omega) (by omega)]) (by rw [h0 2 (by omega) (by omega)]) (by rw [h0 3 (by omega) (by omega)]) (by rw [h0 4 (by omega) (by omega)])
    unfold mC
    split
    · rw [h0 5 (by omega) (by decide)]
    · rw [h0 6 (by omega) (by decide)]
    · rw [et]
    · rw [hr]
    · rw [h0 1 (by omega) (by decide)]
    · rw [hr]
    · rw [hr]
    · rfl
    · rfl
    · rfl
set_option maxHeartbeats 1000000 in
set_option maxRecDepth 10000 in
theorem c_wallM (d : Nat) {m : Nat → Nat} {thr x y w : Int32} {S : CS} {lt : Nat → Bool} {st rw : Nat → Int32} {h : gH} (M : MdlAt h m thr S lt st rw) (I : InvW S.1) {mc ms : Nat} {Post : Option Value → gH → Prop} {X : String → gH → Prop} (hp : mDone cdA Post m h (fWall S x y w)) : gSafe (d + 4) mX6_wall [.ref (m 0), .int x, .int y, .int w] h mc ms Post X := by
  unfold fWall at hp
  have M0 := M.own0
  refine ⟨Nat.le_of_ble_eq_true rfl, fun K hK => ?_⟩
  show K 0 [some (.ref (m 0)), some (.int x), some (.int y), some (.int w), none, none, none] [] _ _ _
  have exc : ∀ t : Int32, ¬ t = 0 → (∀ h', MdlAt h' m t S lt st rw → gFr (mS m) h h' → Post (some (.int 0)) h') → K 45 [some (.ref (m 0)), some (.int x), some (.int y), some (.int w), none, none, none] [.int t, .ref (m 0)] h mc ms := by
    intro t ht hq
    refine s_putfield hK dX6_wall_45 kF_X6_41 (by assumption) (by rfl) (by rfl) (by rfl) ?_
    have M1 : MdlAt (gU h (m 0) (.inr (5, (mF m thr S.2.2.2.1).set 0 (.int t)))) m t S lt st rw := RawM.own (thr' := t) (gc' := S.2.2.2.1) M
    have F1 : gFr (mS m) h (gU h (m 0) (.inr (5, (mF m thr S.2.2.2.1).set 0 (.int t)))) := gFr.mdl (k := 0) (gFr_U _ _ _) (by omega)
    generalize gU h (m 0) (.inr (5, (mF m thr S.2.2.2.1).set 0 (.int t))) = h1 at M1 F1
    have M0 := M1.own0
    refine s_aload_n hK dX6_wall_48 rfl ?_
    refine s_getfield hK dX6_wall_49 kF_X6_41 (by first | assumption | exact H.1 | exact H.2.1) (by rfl) ?_
    refine s_ifeq hK dX6_wall_52 57 (by decide) (fun c_52 => ?_) (fun c_52 => ?_)
    · exact absurd c_52 ht
    · refine s_iconst hK (v := 0) dX6_wall_55 (by decide) ?_
      refine s_ireturn hK dX6_wall_56 rfl (by first | rfl | exact b01_nar _) ?_
      exact hq h1 M1 F1
  refine s_aload_n hK dX6_wall_0 rfl ?_
  refine s_iload_n hK dX6_wall_1 rfl ?_
  refine s_iload_n hK dX6_wall_2 rfl ?_
  refine s_S20 hK dX6_wall_3 kS_X6_52 (by rfl) ?_
  refine c_isCell _ ?_
  cases e : okC x y with
  | false =>
    rw [if_neg (by simp [e])] at hp
    refine s_ifne hK dX6_wall_6 13 (by decide) (fun c_6 => ?_) (fun c_6 => ?_)
    · exact absurd rfl c_6
    · refine s_iconst hK (v := 1) dX6_wall_9 (by decide) ?_
      refine s_goto hK dX6_wall_10 45 (by decide) ?_
      exact exc 1 (by decide) (fun h' M2 F2 => hp.exc M2 F2 rfl rfl)
  | true =>
    rw [if_pos e] at hp
    obtain ⟨hc, e9⟩ := okC_of e
    refine s_ifne hK dX6_wall_6 13 (by decide) (fun c_6 => ?_) (fun c_6 => ?_)
    · refine s_iload_n hK dX6_wall_13 rfl ?_
      refine s_iconst hK (v := 0) dX6_wall_14 (by decide) ?_
      refine s_iconst hK (v := 3) dX6_wall_15 (by decide) ?_
      refine s_S30 hK dX6_wall_16 kS_X6_45 (by rfl) ?_
      refine c_isIn _ ?_
      rw [okR_3]
      cases e2 : okR w 4 with
      | false =>
        rw [if_neg (by simp [e2])] at hp
        refine s_ifne hK dX6_wall_19 26 (by decide) (fun c_19 => ?_) (fun c_19 => ?_)
        · exact absurd rfl c_19
        · refine s_iconst hK (v := 2) dX6_wall_22 (by decide) ?_
          refine s_goto hK dX6_wall_23 45 (by decide) ?_
          exact exc 2 (by decide) (fun h' M2 F2 => hp.exc M2 F2 rfl rfl)
      | true =>
        rw [if_pos e2] at hp
        obtain ⟨k, hk, rfl, ek⟩ := okR_ex (by omega) e2
        rw [ek] at hp
        refine s_ifne hK dX6_wall_19 26 (by decide) (fun c_19 => ?_) (fun c_19 => ?_)
        · refine s_bipush hK (v := 9) dX6_wall_26 (by decide) ?_
          refine s_iload_n hK dX6_wall_28 rfl ?_
          refine s_imul hK dX6_wall_29 ?_
          refine s_iload_n hK dX6_wall_30 rfl ?_
          refine s_iadd hK dX6_wall_31 ?_
          refine s_iload_n hK dX6_wall_32 rfl ?_
          rw [e9]
          refine s_S20 hK dX6_wall_33 kS_X6_56 (by rfl) ?_
          refine c_beside _ hc hk ?_
          unfold bsI
          cases ho : nbOk (cellI x y) k with
          | false =>
            rw [if_neg (by simp [ho])] at hp
            rw [if_neg (by simp)]
            refine s_iconst hK (v := (-1)) dX6_wall_36 (by decide) ?_
            refine s_icmpne hK dX6_wall_37 44 (by decide) (fun c_37 => ?_) (fun c_37 => ?_)
            · exact absurd rfl c_37
            · refine s_iconst hK (v := 3) dX6_wall_40 (by decide) ?_
              refine s_goto hK dX6_wall_41 45 (by decide) ?_
              exact exc 3 (by decide) (fun h' M2 F2 => hp.exc M2 F2 rfl rfl)
          | true =>
            rw [if_pos ho] at hp
            rw [if_pos rfl]
            have hnb := nb_lt hc hk ho
            clear exc
            obtain ⟨wb1, wb2, wb3⟩ := wall_bits (L := S.1) hc hk ho
            rw [wall_at hc hk ho (wall_InvW hc hk ho I), wb1, if_pos rfl] at hp
            refine s_iconst hK (v := (-1)) dX6_wall_36 (by decide) ?_
            refine s_icmpne hK dX6_wall_37 44 (by decide) (fun c_37 => ?_) (fun c_37 => ?_)
            · refine s_iconst hK (v := 0) dX6_wall_44 (by decide) ?_
              refine s_putfield hK dX6_wall_45 kF_X6_41 (by assumption) (by rfl) (by rfl) (by rfl) ?_
              have M1 : MdlAt (gU h (m 0) (.inr (5, (mF m thr S.2.2.2.1).set 0 (.int 0)))) m 0 S lt st rw := RawM.own (thr' := 0) (gc' := S.2.2.2.1) M
              have F1 : gFr (mS m) h (gU h (m 0) (.inr (5, (mF m thr S.2.2.2.1).set 0 (.int 0)))) := gFr.mdl (k := 0) (gFr_U _ _ _) (by omega)
              generalize gU h (m 0) (.inr (5, (mF m thr S.2.2.2.1).set 0 (.int 0))) = h1 at M1 F1
              clear M0
              have M0 := M1.own0
              obtain ⟨f1, e1, k1⟩ := M1.a1
              obtain ⟨f2, e2, k2⟩ := M1.a2
              have fin1 : wRow k = 5 → ∀ a, a = wAt (cellI x y) k → K 107 [some (.ref (m 0)), some (.int x), some (.int y), some (.int (nI k)), some (.int (nI (cellI x y))), some (.int (nI a)), some (.ref (m 1))] [] h1 mc ms := by
                intro er a ea
                rw [er, ← ea] at hp wb1
                rw [er] at wb2
                rw [← ea] at wb3
                have go : ∀ v : Int32, v = b01 (!lb (S.1 5) a) → ∀ h2, h2 = gU h1 (m 1) (.inl (1, 63, .inl (upd f1 a v))) → K 125 [some (.ref (m 0)), some (.int x), some (.int y), some (.int (nI k)), some (.int (nI (cellI x y))), some (.int (nI a)), some (.ref (m 1))] [] h2 mc ms := by
                  intro v ev h2 eh
                  subst ev
                  have M2 : MdlAt h2 m 0 (reL (oWall S.1 (cellI x y) k), S.2) lt st rw := by
                    rw [eh]
                    exact RawM.cong (RawM.set (k := 1) (i := a) (x := b01 (!lb (S.1 5) a)) M1 (by omega) (by omega) k1) (mC_w (S' := (reL (oWall S.1 (cellI x y) k), S.2)) (r := 1) (Or.inl rfl) wb1 wb2 rfl)
                  have F2 : gFr (mS m) h h2 := by
                    rw [eh]
                    exact F1.tr (gFr.mdl (k := 1) (gFr_U _ _ _) (by omega))
                  obtain ⟨f9, e9, k9⟩ := M2.a1
                  refine s_aload hK dX6_wall_125 rfl ?_
                  refine s_iload hK dX6_wall_127 rfl ?_
                  refine s_baloadN hK dX6_wall_129 (by assumption) (by omega) (by omega) ?_
                  rw [k9 _ wb3]
                  rw [wb1, if_pos rfl]
                  refine s_ireturn hK dX6_wall_130 rfl (by first | rfl | exact b01_nar _) ?_
                  exact hp.val M2 F2 rfl rfl
                refine s_aload hK dX6_wall_107 rfl ?_
                refine s_iload hK dX6_wall_109 rfl ?_
                refine s_aload hK dX6_wall_111 rfl ?_
                refine s_iload hK dX6_wall_113 rfl ?_
                refine s_baloadN hK dX6_wall_115 (by assumption) (by omega) (by omega) ?_
                rw [k1 _ wb3]
                cases eb : lb (S.1 5) a with
                | false =>
                  rw [eb] at go
                  refine s_ifne hK dX6_wall_116 123 (by decide) (fun c_116 => ?_) (fun c_116 => ?_)
                  · exact absurd rfl c_116
                  · refine s_iconst hK (v := 1) dX6_wall_119 (by decide) ?_
                    refine s_goto hK dX6_wall_120 124 (by decide) ?_
                    refine s_bastoreN hK dX6_wall_124 (by assumption) (by omega) (by omega) ?_
                    exact go _ (by decide) _ rfl
                | true =>
                  rw [eb] at go
                  refine s_ifne hK dX6_wall_116 123 (by decide) (fun c_116 => ?_) (fun c_116 => ?_)
                  · refine s_iconst hK (v := 0) dX6_wall_123 (by decide) ?_
                    refine s_bastoreN hK dX6_wall_124 (by assumption) (by omega) (by omega) ?_
                    exact go _ (by decide) _ rfl
                  · exact absurd c_116 (by decide)
              have fin2 : wRow k = 6 → ∀ a, a = wAt (cellI x y) k → K 107 [some (.ref (m 0)), some (.int x), some (.int y), some (.int (nI k)), some (.int (nI (cellI x y))), some (.int (nI a)), some (.ref (m 2))] [] h1 mc ms := by
                intro er a ea
                rw [er, ← ea] at hp wb1
                rw [er] at wb2
                rw [← ea] at wb3
                have go : ∀ v : Int32, v = b01 (!lb (S.1 6) a) → ∀ h2, h2 = gU h1 (m 2) (.inl (1, 63, .inl (upd f2 a v))) → K 125 [some (.ref (m 0)), some (.int x), some (.int y), some (.int (nI k)), some (.int (nI (cellI x y))), some (.int (nI a)), some (.ref (m 2))] [] h2 mc ms := by
                  intro v ev h2 eh
                  subst ev
                  have M2 : MdlAt h2 m 0 (reL (oWall S.1 (cellI x y) k), S.2) lt st rw := by
                    rw [eh]
                    exact RawM.cong (RawM.set (k := 2) (i := a) (x := b01 (!lb (S.1 6) a)) M1 (by omega) (by omega) k2) (mC_w (S' := (reL (oWall S.1 (cellI x y) k), S.2)) (r := 2) (Or.inr rfl) wb1 wb2 rfl)
                  have F2 : gFr (mS m) h h2 := by
                    rw [eh]
                    exact F1.tr (gFr.mdl (k := 2) (gFr_U _ _ _) (by omega))
                  obtain ⟨f9, e9, k9⟩ := M2.a2
                  refine s_aload hK dX6_wall_125 rfl ?_
                  refine s_iload hK dX6_wall_127 rfl ?_
                  refine s_baloadN hK dX6_wall_129 (by assumption) (by omega) (by omega) ?_
                  rw [k9 _ wb3]
                  rw [wb1, if_pos rfl]
                  refine s_ireturn hK dX6_wall_130 rfl (by first | rfl | exact b01_nar _) ?_
                  exact hp.val M2 F2 rfl rfl
                refine s_aload hK dX6_wall_107 rfl ?_
                refine s_iload hK dX6_wall_109 rfl ?_
                refine s_aload hK dX6_wall_111 rfl ?_
                refine s_iload hK dX6_wall_113 rfl ?_
                refine s_baloadN hK dX6_wall_115 (by assumption) (by omega) (by omega) ?_
                rw [k2 _ wb3]
                cases eb : lb (S.1 6) a with
                | false =>
                  rw [eb] at go
                  refine s_ifne hK dX6_wall_116 123 (by decide) (fun c_116 => ?_) (fun c_116 => ?_)
                  · exact absurd rfl c_116
                  · refine s_iconst hK (v := 1) dX6_wall_119 (by decide) ?_
                    refine s_goto hK dX6_wall_120 124 (by decide) ?_
                    refine s_bastoreN hK dX6_wall_124 (by assumption) (by omega) (by omega) ?_
                    exact go _ (by decide) _ rfl
                | true =>
                  rw [eb] at go
                  refine s_ifne hK dX6_wall_116 123 (by decide) (fun c_116 => ?_) (fun c_116 => ?_)
                  · refine s_iconst hK (v := 0) dX6_wall_123 (by decide) ?_
                    refine s_bastoreN hK dX6_wall_124 (by assumption) (by omega) (by omega) ?_
                    exact go _ (by decide) _ rfl
                  · exact absurd c_116 (by decide)
              refine s_aload_n hK dX6_wall_48 rfl ?_
              refine s_getfield hK dX6_wall_49 kF_X6_41 (by first | assumption | exact H.1 | exact H.2.1) (by rfl) ?_
              refine s_ifeq hK dX6_wall_52 57 (by decide) (fun c_52 => ?_) (fun c_52 => ?_)
              · refine s_bipush hK (v := 9) dX6_wall_57 (by decide) ?_
                refine s_iload_n hK dX6_wall_59 rfl ?_
                refine s_imul hK dX6_wall_60 ?_
                refine s_iload_n hK dX6_wall_61 rfl ?_
                refine s_iadd hK dX6_wall_62 ?_
                rw [e9]
                refine s_istore hK dX6_wall_63 rfl ?_
                refine s_iload_n hK dX6_wall_65 rfl ?_
                rcases (show k = 0 ∨ k = 1 ∨ k = 2 ∨ k = 3 by omega) with rfl | rfl | rfl | rfl
                · refine s_ifeq hK dX6_wall_66 74 (by decide) (fun c_66 => ?_) (fun c_66 => ?_)
                  · refine s_iload hK dX6_wall_74 rfl ?_
                    refine s_iload_n hK dX6_wall_76 rfl ?_
                    refine s_S20 hK dX6_wall_77 kS_X6_56 (by rfl) ?_
                    refine c_beside _ hc (by omega) ?_
                    unfold bsI
                    rw [if_pos ho]
                    refine s_goto hK dX6_wall_80 85 (by decide) ?_
                    refine s_istore hK dX6_wall_85 rfl ?_
                    refine s_iload_n hK dX6_wall_87 rfl ?_
                    refine s_iconst hK (v := 2) dX6_wall_88 (by decide) ?_
                    refine s_irem hK dX6_wall_89 (by decide) ?_
                    refine s_iconst hK (v := 1) dX6_wall_90 (by decide) ?_
                    refine s_icmpne hK dX6_wall_91 101 (by decide) (fun c_91 => ?_) (fun c_91 => ?_)
                    · refine s_aload_n hK dX6_wall_101 rfl ?_
                      refine s_getfield hK dX6_wall_102 kF_X6_13 (by first | assumption | exact H.1 | exact H.2.1) (by rfl) ?_
                      refine s_astore hK dX6_wall_105 rfl ?_
                      exact fin2 rfl _ rfl
                    · exact absurd c_91 (by decide)
                  · exact absurd rfl c_66
                · refine s_ifeq hK dX6_wall_66 74 (by decide) (fun c_66 => ?_) (fun c_66 => ?_)
                  · exact absurd c_66 (by decide)
                  · refine s_iload_n hK dX6_wall_69 rfl ?_
                    refine s_iconst hK (v := 3) dX6_wall_70 (by decide) ?_
                    refine s_icmpne hK dX6_wall_71 83 (by decide) (fun c_71 => ?_) (fun c_71 => ?_)
                    · refine s_iload hK dX6_wall_83 rfl ?_
                      refine s_istore hK dX6_wall_85 rfl ?_
                      refine s_iload_n hK dX6_wall_87 rfl ?_
                      refine s_iconst hK (v := 2) dX6_wall_88 (by decide) ?_
                      refine s_irem hK dX6_wall_89 (by decide) ?_
                      refine s_iconst hK (v := 1) dX6_wall_90 (by decide) ?_
                      refine s_icmpne hK dX6_wall_91 101 (by decide) (fun c_91 => ?_) (fun c_91 => ?_)
                      · exact absurd (by decide) c_91
                      · refine s_aload_n hK dX6_wall_94 rfl ?_
                        refine s_getfield hK dX6_wall_95 kF_X6_9 (by first | assumption | exact H.1 | exact H.2.1) (by rfl) ?_
                        refine s_goto hK dX6_wall_98 105 (by decide) ?_
                        refine s_astore hK dX6_wall_105 rfl ?_
                        exact fin1 rfl _ rfl
                    · exact absurd c_71 (by decide)
                · refine s_ifeq hK dX6_wall_66 74 (by decide) (fun c_66 => ?_) (fun c_66 => ?_)
                  · exact absurd c_66 (by decide)
                  · refine s_iload_n hK dX6_wall_69 rfl ?_
                    refine s_iconst hK (v := 3) dX6_wall_70 (by decide) ?_
                    refine s_icmpne hK dX6_wall_71 83 (by decide) (fun c_71 => ?_) (fun c_71 => ?_)
                    · refine s_iload hK dX6_wall_83 rfl ?_
                      refine s_istore hK dX6_wall_85 rfl ?_
                      refine s_iload_n hK dX6_wall_87 rfl ?_
                      refine s_iconst hK (v := 2) dX6_wall_88 (by decide) ?_
                      refine s_irem hK dX6_wall_89 (by decide) ?_
                      refine s_iconst hK (v := 1) dX6_wall_90 (by decide) ?_
                      refine s_icmpne hK dX6_wall_91 101 (by decide) (fun c_91 => ?_) (fun c_91 => ?_)
                      · refine s_aload_n hK dX6_wall_101 rfl ?_
                        refine s_getfield hK dX6_wall_102 kF_X6_13 (by first | assumption | exact H.1 | exact H.2.1) (by rfl) ?_
                        refine s_astore hK dX6_wall_105 rfl ?_
                        exact fin2 rfl _ rfl
                      · exact absurd c_91 (by decide)
                    · exact absurd c_71 (by decide)
                · refine s_ifeq hK dX6_wall_66 74 (by decide) (fun c_66 => ?_) (fun c_66 => ?_)
                  · exact absurd c_66 (by decide)
                  · refine s_iload_n hK dX6_wall_69 rfl ?_
                    refine s_iconst hK (v := 3) dX6_wall_70 (by decide) ?_
                    refine s_icmpne hK dX6_wall_71 83 (by decide) (fun c_71 => ?_) (fun c_71 => ?_)
                    · exact absurd rfl c_71
                    · refine s_iload hK dX6_wall_74 rfl ?_
                      refine s_iload_n hK dX6_wall_76 rfl ?_
                      refine s_S20 hK dX6_wall_77 kS_X6_56 (by rfl) ?_
                      refine c_beside _ hc (by omega) ?_
                      unfold bsI
                      rw [if_pos ho]
                      refine s_goto hK dX6_wall_80 85 (by decide) ?_
                      refine s_istore hK dX6_wall_85 rfl ?_
                      refine s_iload_n hK dX6_wall_87 rfl ?_
                      refine s_iconst hK (v := 2) dX6_wall_88 (by decide) ?_
                      refine s_irem hK dX6_wall_89 (by decide) ?_
                      refine s_iconst hK (v := 1) dX6_wall_90 (by decide) ?_
                      refine s_icmpne hK dX6_wall_91 101 (by decide) (fun c_91 => ?_) (fun c_91 => ?_)
                      · exact absurd (by decide) c_91
                      · refine s_aload_n hK dX6_wall_94 rfl ?_
                        refine s_getfield hK dX6_wall_95 kF_X6_9 (by first | assumption | exact H.1 | exact H.2.1) (by rfl) ?_
                        refine s_goto hK dX6_wall_98 105 (by decide) ?_
                        refine s_astore hK dX6_wall_105 rfl ?_
                        exact fin1 rfl _ rfl
              · exact absurd rfl c_52
            · exact absurd c_37 (nI_m1 (by omega))
        · exact absurd c_19 (by decide)
    · exact absurd c_6 (by decide)
