/-! the model's light -/
theorem beam_succ (L : Nat → Int64) (own cells : Int64) (dn n : Nat) : beamI L own cells dn (n + 1) = (bMv ((beamI L own cells dn n).1 &&& (wCells L (beamI L own cells dn n).2.1 ^^^ (-1))) (beamI L own cells dn n).2.1, trn L (bMv ((beamI L own cells dn n).1 &&& (wCells L (beamI L own cells dn n).2.1 ^^^ (-1))) (beamI L own cells dn n).2.1 &&& (own ^^^ (-1))) (beamI L own cells dn n).2.1, (beamI L own cells dn n).2.2 ||| bMv ((beamI L own cells dn n).1 &&& (wCells L (beamI L own cells dn n).2.1 ^^^ (-1))) (beamI L own cells dn n).2.1) := rfl
theorem beam_stop {L : Nat → Int64} {own cells : Int64} {f n c dn : Nat} {X : Int64} (hc : c < 63) (hd : dn < 4) (e : beamI L own cells f n = (bOnly c, dn, X)) (hs : lb (wCells L dn) c = true ∨ nbOk c dn = false) (hn : n < 6) : (beamI L own cells f 6).2.2 = X := by
  have e1 : beamI L own cells f (n + 1) = (0, dn, X) := by
    rw [beam_succ, e]
    show (bMv (bOnly c &&& (wCells L dn ^^^ (-1))) dn, trn L (bMv (bOnly c &&& (wCells L dn ^^^ (-1))) dn &&& (own ^^^ (-1))) dn, X ||| bMv (bOnly c &&& (wCells L dn ^^^ (-1))) dn) = _
    rw [beam_next hc hd, if_pos hs, Int64.zero_and, trn_0, Int64.or_zero]
  have r := beam_end (L := L) (own := own) (cells := cells) (dn := f) (n := n + 1) (by rw [e1]; exact hd) (by rw [e1]) (5 - n)
  rw [show n + 1 + (5 - n) = 6 by omega, e1] at r
  exact r.2.2
theorem beam_go {L : Nat → Int64} (D : InvD L) {o : Nat} (ho : o < 63) {cells : Int64} {f n c dn : Nat} {X : Int64} (hc : c < 63) (hd : dn < 4) (e : beamI L (bOnly o) cells f n = (bOnly c, dn, X)) (h1 : lb (wCells L dn) c = false) (h2 : nbOk c dn = true) : beamI L (bOnly o) cells f (n + 1) = (bOnly (nbOf c dn), if nbOf c dn = o then dn else trT dn (thg L (nbOf c dn)), X ||| bOnly (nbOf c dn)) := by
  rw [beam_succ, e]
  show (bMv (bOnly c &&& (wCells L dn ^^^ (-1))) dn, trn L (bMv (bOnly c &&& (wCells L dn ^^^ (-1))) dn &&& (bOnly o ^^^ (-1))) dn, X ||| bMv (bOnly c &&& (wCells L dn ^^^ (-1))) dn) = _
  rw [beam_next hc hd, if_neg (by simp [h1, h2]), trn_only D (nb_lt hc hd h2) ho]
set_option maxRecDepth 10000 in
theorem c_shine (d : Nat) {m : Nat → Nat} {thr : Int32} {S : CS} {lt : Nat → Bool} {st rw : Nat → Int32} {o : Nat} (ho : o < 63) {h : gH} (M : MdlAt h m thr S lt st rw) (I : InvW S.1) (D : InvD S.1) {mc ms : Nat} {Post : Option Value → gH → Prop} {X : String → gH → Prop} (hp : ∀ h', MdlAt h' m thr S (fun j => lt j || lb (litFrom S.1 o) j) st rw → gFr (mS m) h h' → Post none h') : gSafe (d + 5) mX6_shine [.ref (m 0), .int (nI o)] h mc ms Post X := by
  have M0 := M.own0
  obtain ⟨f8, e8, k8⟩ := M.a8
  refine ⟨Nat.le_of_ble_eq_true rfl, fun K hK => ?_⟩
  show K 0 [some (.ref (m 0)), some (.int (nI o)), none, none, none, none] [] _ _ _
  refine s_aload_n hK dX6_shine_0 rfl ?_
  refine s_getfield hK dX6_shine_1 kF_X6_32 (by first | assumption | exact H.1 | exact H.2.1) (by rfl) ?_
  refine s_iload_n hK dX6_shine_4 rfl ?_
  refine s_iconst hK (v := 1) dX6_shine_5 (by decide) ?_
  refine s_bastoreN hK dX6_shine_6 (by assumption) (by omega) (by omega) ?_
  have M1 : MdlAt (gU h (m 8) (.inl (1, 63, .inl (upd f8 o (vp_nar .boolean 1))))) m thr S (fun j => lt j || lb (bOnly o) j) st rw := by
    refine (M.lit (b := true) k8 (by decide)).ltc (fun j hj => ?_)
    have := lb_add (lt := lt) (X := 0) ho j hj
    simp only [lb_0, Bool.or_false, Int64.zero_or] at this
    exact this
  have F1 : gFr (mS m) h (gU h (m 8) (.inl (1, 63, .inl (upd f8 o (vp_nar .boolean 1))))) := gFr.mdl (k := 8) (gFr_U _ _ _) (by omega)
  generalize gU h (m 8) (.inl (1, 63, .inl (upd f8 o (vp_nar .boolean 1)))) = h1 at M1 F1
  clear M0 e8 k8
  refine s_iconst hK (v := 0) dX6_shine_7 (by decide) ?_
  refine s_istore_n hK dX6_shine_8 rfl ?_
  have loop : ∀ t f, f + t = 4 → ∀ h1 w3 w4 w5, MdlAt h1 m thr S (fun j => lt j || lb (litF S.1 (bOnly o) f) j) st rw → gFr (mS m) h h1 → K 9 [some (.ref (m 0)), some (.int (nI o)), some (.int (nI f)), w3, w4, w5] [] h1 mc ms := by
    intro t
    induction t with
    | zero =>
      intro f hf h1 w3 w4 w5 M1 F1
      obtain rfl : f = 4 := by omega
      refine s_iload_n hK dX6_shine_9 rfl ?_
      refine s_iconst hK (v := 4) dX6_shine_10 (by decide) ?_
      refine s_icmpge hK dX6_shine_11 97 (by decide) (fun c_11 => ?_) (fun c_11 => ?_)
      · refine s_return hK dX6_shine_97 rfl ?_
        exact hp h1 M1 F1
      · exact absurd (Int32.le_refl (nI 4)) c_11
    | succ t ih =>
      intro f hf h1 w3 w4 w5 M1 F1
      refine s_iload_n hK dX6_shine_9 rfl ?_
      refine s_iconst hK (v := 4) dX6_shine_10 (by decide) ?_
      refine s_icmpge hK dX6_shine_11 97 (by decide) (fun c_11 => ?_) (fun c_11 => ?_)
      · exact absurd c_11 (nI_ge (b := 4) (by omega) (by omega))
      · refine s_iload_n hK dX6_shine_14 rfl ?_
        refine s_istore_n hK dX6_shine_15 rfl ?_
        refine s_iload_n hK dX6_shine_16 rfl ?_
        refine s_istore hK dX6_shine_17 rfl ?_
        refine s_iconst hK (v := 0) dX6_shine_19 (by decide) ?_
        refine s_istore hK dX6_shine_20 rfl ?_
        have out : ∀ h2 w3 w4 w5 Y, Y = (beamI S.1 (bOnly o) (litF S.1 (bOnly o) f) f 6).2.2 → MdlAt h2 m thr S (fun j => lt j || lb Y j) st rw → gFr (mS m) h h2 → K 91 [some (.ref (m 0)), some (.int (nI o)), some (.int (nI f)), w3, w4, w5] [] h2 mc ms := by
          intro h2 w3 w4 w5 Y eY M2 F2
          refine s_iinck hK (v := 1) dX6_shine_91 rfl (by decide) rfl ?_
          refine s_goto hK dX6_shine_94 9 (by decide) ?_
          rw [nI_1]
          refine ih (f + 1) (by omega) h2 w3 w4 w5 ?_ F2
          subst eY
          exact M2
        have inner : ∀ t2 n, n + t2 = 6 → ∀ h2 c dn Y, c < 63 → dn < 4 → beamI S.1 (bOnly o) (litF S.1 (bOnly o) f) f n = (bOnly c, dn, Y) → MdlAt h2 m thr S (fun j => lt j || lb Y j) st rw → gFr (mS m) h h2 → K 22 [some (.ref (m 0)), some (.int (nI o)), some (.int (nI f)), some (.int (nI c)), some (.int (nI dn)), some (.int (nI n))] [] h2 mc ms := by
          intro t2
          induction t2 with
          | zero =>
            intro n hn h2 c dn Y hc hd eb M2 F2
            obtain rfl : n = 6 := by omega
            refine s_iload hK dX6_shine_22 rfl ?_
            refine s_bipush hK (v := 6) dX6_shine_24 (by decide) ?_
            refine s_icmpge hK dX6_shine_26 91 (by decide) (fun c_26 => ?_) (fun c_26 => ?_)
            · exact out h2 _ _ _ Y (by rw [eb]) M2 F2
            · exact absurd (Int32.le_refl (nI 6)) c_26
          | succ t2 ih2 =>
            intro n hn h2 c dn Y hc hd eb M2 F2
            have M0 := M2.own0
            obtain ⟨f3, e3, k3⟩ := M2.a3
            refine s_iload hK dX6_shine_22 rfl ?_
            refine s_bipush hK (v := 6) dX6_shine_24 (by decide) ?_
            refine s_icmpge hK dX6_shine_26 91 (by decide) (fun c_26 => ?_) (fun c_26 => ?_)
            · exact absurd c_26 (nI_ge (b := 6) (by omega) (by omega))
            · refine s_aload_n hK dX6_shine_29 rfl ?_
              refine s_iload_n hK dX6_shine_30 rfl ?_
              refine s_iload hK dX6_shine_31 rfl ?_
              refine s_V20 hK dX6_shine_33 kV_X6_70 (by first | assumption | exact H.1 | exact H.2.1) (by rfl) ?_
              refine c_hasWallM _ hc hd M2 I ?_
              cases ew : lb (wCells S.1 dn) c with
              | true =>
                refine s_ifne hK dX6_shine_36 91 (by decide) (fun c_36 => ?_) (fun c_36 => ?_)
                · exact out h2 _ _ _ Y (beam_stop hc hd eb (Or.inl ew) (by omega)).symm M2 F2
                · exact absurd c_36 (by decide)
              | false =>
                refine s_ifne hK dX6_shine_36 91 (by decide) (fun c_36 => ?_) (fun c_36 => ?_)
                · exact absurd rfl c_36
                · refine s_iload_n hK dX6_shine_39 rfl ?_
                  refine s_iload hK dX6_shine_40 rfl ?_
                  refine s_S20 hK dX6_shine_42 kS_X6_56 (by rfl) ?_
                  refine c_beside _ hc hd ?_
                  unfold bsI
                  cases eo : nbOk c dn with
                  | false =>
                    rw [if_neg (by simp)]
                    refine s_iconst hK (v := (-1)) dX6_shine_45 (by decide) ?_
                    refine s_icmpne hK dX6_shine_46 52 (by decide) (fun c_46 => ?_) (fun c_46 => ?_)
                    · exact absurd rfl c_46
                    · refine s_goto hK dX6_shine_49 91 (by decide) ?_
                      exact out h2 _ _ _ Y (beam_stop hc hd eb (Or.inr eo) (by omega)).symm M2 F2
                  | true =>
                    have h9 := nb_lt hc hd eo
                    rw [if_pos rfl]
                    refine s_iconst hK (v := (-1)) dX6_shine_45 (by decide) ?_
                    refine s_icmpne hK dX6_shine_46 52 (by decide) (fun c_46 => ?_) (fun c_46 => ?_)
                    · refine s_iload_n hK dX6_shine_52 rfl ?_
                      refine s_iload hK dX6_shine_53 rfl ?_
                      refine s_S20 hK dX6_shine_55 kS_X6_56 (by rfl) ?_
                      refine c_beside _ hc hd ?_
                      unfold bsI
                      rw [if_pos eo]
                      obtain ⟨f8, e8, k8⟩ := M2.a8
                      refine s_istore_n hK dX6_shine_58 rfl ?_
                      refine s_aload_n hK dX6_shine_59 rfl ?_
                      refine s_getfield hK dX6_shine_60 kF_X6_32 (by first | assumption | exact H.1 | exact H.2.1) (by rfl) ?_
                      refine s_iload_n hK dX6_shine_63 rfl ?_
                      refine s_iconst hK (v := 1) dX6_shine_64 (by decide) ?_
                      refine s_bastoreN hK dX6_shine_65 (by assumption) (by omega) (by omega) ?_
                      have M3 : MdlAt (gU h2 (m 8) (.inl (1, 63, .inl (upd f8 (nbOf c dn) (vp_nar .boolean 1))))) m thr S (fun j => lt j || lb (Y ||| bOnly (nbOf c dn)) j) st rw := (M2.lit (b := true) k8 (by decide)).ltc (lb_add h9)
                      have F3 : gFr (mS m) h (gU h2 (m 8) (.inl (1, 63, .inl (upd f8 (nbOf c dn) (vp_nar .boolean 1))))) := F2.tr (gFr.mdl (k := 8) (gFr_U _ _ _) (by omega))
                      generalize gU h2 (m 8) (.inl (1, 63, .inl (upd f8 (nbOf c dn) (vp_nar .boolean 1)))) = h3 at M3 F3
                      have eb2 := beam_go D ho hc hd eb ew eo
                      clear M0 e3 k3 e8 k8
                      have M0 := M3.own0
                      obtain ⟨f3, e3, k3⟩ := M3.a3
                      refine s_iload_n hK dX6_shine_66 rfl ?_
                      refine s_iload_n hK dX6_shine_67 rfl ?_
                      refine s_icmpeq hK dX6_shine_68 85 (by decide) (fun c_68 => ?_) (fun c_68 => ?_)
                      · have q : nbOf c dn = o := (nI_eq (by omega) (by omega)).mp c_68
                        rw [if_pos q] at eb2
                        refine s_iinck hK (v := 1) dX6_shine_85 rfl (by decide) rfl ?_
                        refine s_goto hK dX6_shine_88 22 (by decide) ?_
                        rw [nI_1]
                        exact ih2 (n + 1) (by omega) h3 _ dn _ h9 hd eb2 M3 F3
                      · have q : ¬ nbOf c dn = o := fun z => c_68 (by rw [z])
                        rw [if_neg q] at eb2
                        refine s_aload_n hK dX6_shine_71 rfl ?_
                        refine s_iload hK dX6_shine_72 rfl ?_
                        refine s_aload_n hK dX6_shine_74 rfl ?_
                        refine s_getfield hK dX6_shine_75 kF_X6_16 (by first | assumption | exact H.1 | exact H.2.1) (by rfl) ?_
                        refine s_iload_n hK dX6_shine_78 rfl ?_
                        refine s_ialoadN hK dX6_shine_79 (by assumption) (by omega) (by omega) ?_
                        rw [k3 _ h9]
                        refine s_V20 hK dX6_shine_80 kV_X6_73 (by first | assumption | exact H.1 | exact H.2.1) (by rfl) ?_
                        refine c_turnedM _ hd (thg_lt _ _) ?_
                        refine s_istore hK dX6_shine_83 rfl ?_
                        refine s_iinck hK (v := 1) dX6_shine_85 rfl (by decide) rfl ?_
                        refine s_goto hK dX6_shine_88 22 (by decide) ?_
                        rw [nI_1]
                        exact ih2 (n + 1) (by omega) h3 _ _ _ h9 (trT_lt hd) eb2 M3 F3
                    · have q2 := nI_pos (n := nbOf c dn) (by omega)
                      rw [c_46] at q2
                      exact absurd (by decide) q2
        exact inner 6 0 (by omega) h1 o f _ ho (by omega) rfl M1 F1
  exact loop 4 0 (by omega) h1 none none none M1 F1
set_option maxRecDepth 10000 in
theorem c_reckonLight (d : Nat) {m : Nat → Nat} {thr : Int32} {S : CS} {lt : Nat → Bool} {st rw : Nat → Int32} {h : gH} (M : MdlAt h m thr S lt st rw) (I : InvW S.1) (D : InvD S.1) {mc ms : Nat} {Post : Option Value → gH → Prop} {X : String → gH → Prop} (hp : ∀ h', MdlAt h' m thr S (lb (relit S.1)) st rw → gFr (mS m) h h' → Post none h') : gSafe (d + 6) mX6_reckonLight [.ref (m 0)] h mc ms Post X := by
  refine ⟨Nat.le_of_ble_eq_true rfl, fun K hK => ?_⟩
  show K 0 [some (.ref (m 0)), none] [] _ _ _
  have loop2 : ∀ t i, i + t = 63 → ∀ h1, MdlAt h1 m thr S (lb (relitN S.1 i)) st rw → gFr (mS m) h h1 → K 23 [some (.ref (m 0)), some (.int (nI i))] [] h1 mc ms := by
    intro t
    induction t with
    | zero =>
      intro i hi h1 M1 F1
      obtain rfl : i = 63 := by omega
      refine s_iload_n hK dX6_reckonLight_23 rfl ?_
      refine s_bipush hK (v := 63) dX6_reckonLight_24 (by decide) ?_
      refine s_icmpge hK dX6_reckonLight_26 50 (by decide) (fun c_26 => ?_) (fun c_26 => ?_)
      · refine s_return hK dX6_reckonLight_50 rfl ?_
        exact hp h1 M1 F1
      · exact absurd (Int32.le_refl (nI 63)) c_26
    | succ t ih =>
      intro i hi h1 M1 F1
      have M0 := M1.own0
      obtain ⟨f5, e5, k5⟩ := M1.a5
      refine s_iload_n hK dX6_reckonLight_23 rfl ?_
      refine s_bipush hK (v := 63) dX6_reckonLight_24 (by decide) ?_
      refine s_icmpge hK dX6_reckonLight_26 50 (by decide) (fun c_26 => ?_) (fun c_26 => ?_)
      · exact absurd c_26 (nI_ge (b := 63) (by omega) (by omega))
      · refine s_aload_n hK dX6_reckonLight_29 rfl ?_
        refine s_getfield hK dX6_reckonLight_30 kF_X6_23 (by first | assumption | exact H.1 | exact H.2.1) (by rfl) ?_
        refine s_iload_n hK dX6_reckonLight_33 rfl ?_
        refine s_ialoadN hK dX6_reckonLight_34 (by assumption) (by omega) (by omega) ?_
        refine s_iconst hK (v := 1) dX6_reckonLight_35 (by decide) ?_
        rw [k5 _ (by omega)]
        cases e : lb (S.1 1) i with
        | false =>
          have er : relitN S.1 (i + 1) = relitN S.1 i := by
            show (if _ then _ else _) = _
            rw [if_neg (by simp [e])]
          refine s_icmpne hK dX6_reckonLight_36 44 (by decide) (fun c_36 => ?_) (fun c_36 => ?_)
          · refine s_iinck hK (v := 1) dX6_reckonLight_44 rfl (by decide) rfl ?_
            refine s_goto hK dX6_reckonLight_47 23 (by decide) ?_
            rw [nI_1]
            refine ih (i + 1) (by omega) h1 ?_ F1
            rw [er]
            exact M1
          · exact absurd c_36 (by decide)
        | true =>
          have er : relitN S.1 (i + 1) = relitN S.1 i ||| litFrom S.1 i := by
            show (if _ then _ else _) = _
            rw [if_pos e]
          refine s_icmpne hK dX6_reckonLight_36 44 (by decide) (fun c_36 => ?_) (fun c_36 => ?_)
          · exact absurd rfl c_36
          · refine s_aload_n hK dX6_reckonLight_39 rfl ?_
            refine s_iload_n hK dX6_reckonLight_40 rfl ?_
            refine s_V10 hK dX6_reckonLight_41 kV_X6_76 (by first | assumption | exact H.1 | exact H.2.1) (by rfl) ?_
            refine c_shine _ (by omega) M1 I D (fun h2 M2 F2 => ?_)
            refine s_iinck hK (v := 1) dX6_reckonLight_44 rfl (by decide) rfl ?_
            refine s_goto hK dX6_reckonLight_47 23 (by decide) ?_
            rw [nI_1]
            refine ih (i + 1) (by omega) h2 ?_ (F1.tr F2)
            rw [er]
            exact M2.ltc (fun j _ => (lb_or _ _ _).symm)
  have loop1 : ∀ t i, i + t = 63 → ∀ h1, MdlAt h1 m thr S (fun j => if j < i then false else lt j) st rw → gFr (mS m) h h1 → K 2 [some (.ref (m 0)), some (.int (nI i))] [] h1 mc ms := by
    intro t
    induction t with
    | zero =>
      intro i hi h1 M1 F1
      obtain rfl : i = 63 := by omega
      refine s_iload_n hK dX6_reckonLight_2 rfl ?_
      refine s_bipush hK (v := 63) dX6_reckonLight_3 (by decide) ?_
      refine s_icmpge hK dX6_reckonLight_5 21 (by decide) (fun c_5 => ?_) (fun c_5 => ?_)
      · refine s_iconst hK (v := 0) dX6_reckonLight_21 (by decide) ?_
        refine s_istore_n hK dX6_reckonLight_22 rfl ?_
        refine loop2 63 0 (by omega) h1 (M1.ltc (fun j hj => ?_)) F1
        rw [if_pos hj]
        exact (lb_0 j).symm
      · exact absurd (Int32.le_refl (nI 63)) c_5
    | succ t ih =>
      intro i hi h1 M1 F1
      have M0 := M1.own0
      obtain ⟨f8, e8, k8⟩ := M1.a8
      refine s_iload_n hK dX6_reckonLight_2 rfl ?_
      refine s_bipush hK (v := 63) dX6_reckonLight_3 (by decide) ?_
      refine s_icmpge hK dX6_reckonLight_5 21 (by decide) (fun c_5 => ?_) (fun c_5 => ?_)
      · exact absurd c_5 (nI_ge (b := 63) (by omega) (by omega))
      · refine s_aload_n hK dX6_reckonLight_8 rfl ?_
        refine s_getfield hK dX6_reckonLight_9 kF_X6_32 (by first | assumption | exact H.1 | exact H.2.1) (by rfl) ?_
        refine s_iload_n hK dX6_reckonLight_12 rfl ?_
        refine s_iconst hK (v := 0) dX6_reckonLight_13 (by decide) ?_
        refine s_bastoreN hK dX6_reckonLight_14 (by assumption) (by omega) (by omega) ?_
        refine s_iinck hK (v := 1) dX6_reckonLight_15 rfl (by decide) rfl ?_
        refine s_goto hK dX6_reckonLight_18 2 (by decide) ?_
        rw [nI_1]
        refine ih (i + 1) (by omega) _ ((M1.lit (b := false) k8 (by decide)).ltc (fun j hj => ?_)) (F1.tr (gFr.mdl (k := 8) (gFr_U _ _ _) (by omega)))
        by_cases q : j = i
        · simp [q]
        · have e : j < i + 1 ↔ j < i := by omega
          simp [q, e]
  refine s_iconst hK (v := 0) dX6_reckonLight_0 (by decide) ?_
  refine s_istore_n hK dX6_reckonLight_1 rfl ?_
  exact loop1 63 0 (by omega) h (M.ltc (fun j _ => by simp)) (gFr_rf _ _)
set_option maxRecDepth 10000 in
theorem c_litCells (d : Nat) {m : Nat → Nat} {thr : Int32} {S : CS} {lt : Nat → Bool} {st rw : Nat → Int32} {h : gH} (M : MdlAt h m thr S lt st rw) {mc ms : Nat} {Post : Option Value → gH → Prop} {X : String → gH → Prop} (hp : Post (some (.int (nI (cntG lt 63)))) h) : gSafe (d + 1) mX6_litCells [.ref (m 0)] h mc ms Post X := by
  have M0 := M.own0
  obtain ⟨f8, e8, k8⟩ := M.a8
  refine ⟨Nat.le_of_ble_eq_true rfl, fun K hK => ?_⟩
  show K 0 [some (.ref (m 0)), none, none, none, none, none] [] _ _ _
  refine s_iconst hK (v := 0) dX6_litCells_0 (by decide) ?_
  refine s_istore_n hK dX6_litCells_1 rfl ?_
  refine s_aload_n hK dX6_litCells_2 rfl ?_
  refine s_getfield hK dX6_litCells_3 kF_X6_32 (by first | assumption | exact H.1 | exact H.2.1) (by rfl) ?_
  refine s_astore_n hK dX6_litCells_6 rfl ?_
  refine s_aload_n hK dX6_litCells_7 rfl ?_
  refine s_alen hK dX6_litCells_8 (by assumption) (by rfl) (by rfl) ?_
  refine s_istore_n hK dX6_litCells_9 rfl ?_
  refine s_iconst hK (v := 0) dX6_litCells_10 (by decide) ?_
  refine s_istore hK dX6_litCells_11 rfl ?_
  have loop : ∀ t i, i + t = 63 → ∀ w, K 13 [some (.ref (m 0)), some (.int (nI (cntG lt i))), some (.ref (m 8)), some (.int (nI 63)), some (.int (nI i)), w] [] h mc ms := by
    intro t
    induction t with
    | zero =>
      intro i hi w
      obtain rfl : i = 63 := by omega
      refine s_iload hK dX6_litCells_13 rfl ?_
      refine s_iload_n hK dX6_litCells_15 rfl ?_
      refine s_icmpge hK dX6_litCells_16 44 (by decide) (fun c_16 => ?_) (fun c_16 => ?_)
      · refine s_iload_n hK dX6_litCells_44 rfl ?_
        refine s_ireturn hK dX6_litCells_45 rfl (by first | rfl | exact b01_nar _) ?_
        exact hp
      · exact absurd (Int32.le_refl (nI 63)) c_16
    | succ t ih =>
      intro i hi w
      refine s_iload hK dX6_litCells_13 rfl ?_
      refine s_iload_n hK dX6_litCells_15 rfl ?_
      refine s_icmpge hK dX6_litCells_16 44 (by decide) (fun c_16 => ?_) (fun c_16 => ?_)
      · exact absurd c_16 (nI_ge (b := 63) (by omega) (by omega))
      · refine s_aload_n hK dX6_litCells_19 rfl ?_
        refine s_iload hK dX6_litCells_20 rfl ?_
        refine s_baloadN hK dX6_litCells_22 (by assumption) (by omega) (by omega) ?_
        rw [k8 _ (by omega)]
        refine s_istore hK dX6_litCells_23 rfl ?_
        refine s_iload_n hK dX6_litCells_25 rfl ?_
        refine s_iload hK dX6_litCells_26 rfl ?_
        cases e : lt i with
        | false =>
          have ec : cntG lt (i + 1) = cntG lt i := by
            show (if _ then _ else _) = _
            rw [if_neg (by simp [e])]
          refine s_ifeq hK dX6_litCells_28 35 (by decide) (fun c_28 => ?_) (fun c_28 => ?_)
          · refine s_iconst hK (v := 0) dX6_litCells_35 (by decide) ?_
            refine s_iadd hK dX6_litCells_36 ?_
            refine s_istore_n hK dX6_litCells_37 rfl ?_
            refine s_iinck hK (v := 1) dX6_litCells_38 rfl (by decide) rfl ?_
            refine s_goto hK dX6_litCells_41 13 (by decide) ?_
            rw [nI_1]
            have r := ih (i + 1) (by omega) (some (.int (b01 false)))
            rw [ec] at r
            rw [show nI (cntG lt i) + 0 = nI (cntG lt i) from Int32.add_zero _]
            exact r
          · exact absurd rfl c_28
        | true =>
          have ec : cntG lt (i + 1) = cntG lt i + 1 := by
            show (if _ then _ else _) = _
            rw [if_pos e]
          refine s_ifeq hK dX6_litCells_28 35 (by decide) (fun c_28 => ?_) (fun c_28 => ?_)
          · exact absurd c_28 (by decide)
          · refine s_iconst hK (v := 1) dX6_litCells_31 (by decide) ?_
            refine s_goto hK dX6_litCells_32 36 (by decide) ?_
            refine s_iadd hK dX6_litCells_36 ?_
            refine s_istore_n hK dX6_litCells_37 rfl ?_
            refine s_iinck hK (v := 1) dX6_litCells_38 rfl (by decide) rfl ?_
            refine s_goto hK dX6_litCells_41 13 (by decide) ?_
            rw [nI_1, nI_1]
            have r := ih (i + 1) (by omega) (some (.int (b01 true)))
            rw [ec] at r
            exact r
  exact loop 63 0 (by omega) none
