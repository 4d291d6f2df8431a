/-! a step of the model -/
theorem relit_7 (L : Nat → Int64) (v : Int64) : ∀ n, relitN (vp_updL L 7 v) n = relitN L n
  | 0 => rfl
  | n + 1 => by
    show (if lb (L 1) n then relitN (vp_updL L 7 v) n ||| litFrom (vp_updL L 7 v) n else relitN (vp_updL L 7 v) n) = if lb (L 1) n then relitN L n ||| litFrom L n else relitN L n
    rw [relit_7 L v n, litFrom_7]
theorem reL_7 (L : Nat → Int64) : reL L 7 = relit (reL L) := by
  show relit L = relitN (vp_updL L 7 (relit L)) 63
  rw [relit_7]
  rfl
theorem T_D {L : Nat → Int64} {am : Nat → Int32} (T : InvT L am) : InvD L := fun c h => ⟨(T.2.1 c h).1, (T.2.1 c h).2.1⟩
theorem mC_L {S S' : CS} {lt : Nat → Bool} {st rw : Nat → Int32} (h1 : ∀ j, j < 63 → lb (S'.1 1) j = lb (S.1 1) j) (h0 : ∀ k, k ≠ 1 → k ≠ 7 → S'.1 k = S.1 k) (hr : S'.2 = S.2) : ∀ k j, 1 ≤ k → k < 11 → j < mLen k → mC S lt st rw k j = mC S' lt st rw k j := by
  intro k j k1 k2 hj
  have et : thg S'.1 j = thg S.1 j := thg_of (by rw [h0 0 (by decide) (by decide)]) (by rw [h0 2 (by decide) (by decide)]) (by rw [h0 3 (by decide) (by decide)]) (by rw [h0 4 (by decide) (by decide)])
  unfold mC
  split
  · rw [h0 5 (by decide) (by decide)]
  · rw [h0 6 (by decide) (by decide)]
  · rw [et]
  · rw [hr]
  · rw [h1 j hj]
  · rw [hr]
  · rw [hr]
  · rfl
  · rfl
  · rfl
theorem MdlAt.chL {h : gH} {m : Nat → Nat} {thr : Int32} {S S' : CS} {lt : Nat → Bool} {st rw : Nat → Int32} (M : MdlAt h m thr S lt st rw) (h1 : ∀ j, j < 63 → lb (S'.1 1) j = lb (S.1 1) j) (h0 : ∀ k, k ≠ 1 → k ≠ 7 → S'.1 k = S.1 k) (hr : S'.2 = S.2) : MdlAt h m thr S' lt st rw := by
  unfold MdlAt
  rw [hr]
  exact RawM.cong M (mC_L h1 h0 hr)
theorem MdlAt.burn {h : gH} {m : Nat → Nat} {thr : Int32} {S S' : CS} {lt : Nat → Bool} {st rw : Nat → Int32} (M : MdlAt h m thr S lt st rw) {c : Nat} {b : Bool} {x : Int32} {f' : Nat → Int32} (e : ∀ j, j < 63 → f' j = b01 (lb (S.1 1) j)) (hx : x = b01 b) (h1 : ∀ j, j < 63 → lb (S'.1 1) j = if j = c then b else lb (S.1 1) j) (h0 : ∀ k, k ≠ 1 → k ≠ 7 → S'.1 k = S.1 k) (hr : S'.2 = S.2) : MdlAt (gU h (m 5) (.inl (0, 63, .inl (upd f' c x)))) m thr S' lt st rw := by
  subst hx
  unfold MdlAt
  rw [hr]
  exact RawM.cong (RawM.set (k := 5) (i := c) (x := b01 b) M (by omega) (by omega) e) (mC_burn h1 h0 hr)
/-- the burning candles, when the neighbours in n directions are out -/
def blX (L : Nat → Int64) (c : Nat) : Nat → Int64
  | 0 => L 1
  | n + 1 => if nbOk c n then blX L c n &&& (bOnly (nbOf c n) ^^^ (-1)) else blX L c n
theorem blX_suc {L : Nat → Int64} {c n j : Nat} (hc : c < 63) (hn : n < 4) (hj : j < 63) : lb (blX L c (n + 1)) j = (lb (blX L c n) j && !(nbOk c n && decide (nbOf c n = j))) := by
  show lb (if nbOk c n then blX L c n &&& (bOnly (nbOf c n) ^^^ (-1)) else blX L c n) j = _
  cases ho : nbOk c n with
  | false => simp
  | true =>
    rw [if_pos rfl, and_but (nb_lt hc hn ho) hj]
    have e : decide (j = nbOf c n) = decide (nbOf c n = j) := decide_eq_decide.mpr eq_comm
    rw [e]
    rfl
theorem blX_4 {L : Nat → Int64} {c j : Nat} (hc : c < 63) (hj : j < 63) : lb (blX L c 4) j = (lb (L 1) j && !ex4 (fun k => nbOk c k && decide (nbOf c k = j))) := by
  rw [blX_suc hc (by omega) hj, blX_suc hc (by omega) hj, blX_suc hc (by omega) hj, blX_suc hc (by omega) hj]
  show _ = (lb (L 1) j && !((nbOk c 0 && decide (nbOf c 0 = j)) || ((nbOk c 1 && decide (nbOf c 1 = j)) || ((nbOk c 2 && decide (nbOf c 2 = j)) || (nbOk c 3 && decide (nbOf c 3 = j))))))
  show ((((lb (L 1) j && _) && _) && _) && _) = _
  generalize (nbOk c 0 && decide (nbOf c 0 = j)) = a0
  generalize (nbOk c 1 && decide (nbOf c 1 = j)) = a1
  generalize (nbOk c 2 && decide (nbOf c 2 = j)) = a2
  generalize (nbOk c 3 && decide (nbOf c 3 = j)) = a3
  cases lb (L 1) j <;> cases a0 <;> cases a1 <;> cases a2 <;> cases a3 <;> rfl
theorem blow_lb {L : Nat → Int64} (I : InvW L) {c j : Nat} (hc : c < 63) (hj : j < 63) : lb (reL (oBlow L c) 1) j = lb (blX L c 4) j := by
  rw [blX_4 hc hj]
  show lb (L 1 &&& ((nbsI L (bOnly c) false 4 ||| nbsI L (bOnly c) true 4) ^^^ (-1))) j = _
  rw [lb_and, lb_not (by omega), lb_or, nbs_lb I (bOnly_SB hc) hj, nbs_lb I (bOnly_SB hc) hj]
  congr 2
  have key : ∀ e, e < 4 → ((nbOk j e && (lb (bOnly c) (nbOf j e) && (lb (wCells L e) j == false))) || (nbOk j e && (lb (bOnly c) (nbOf j e) && (lb (wCells L e) j == true)))) = (nbOk j e && decide (nbOf j e = c)) := by
    intro e he
    rw [lb_only (by omega)]
    cases nbOk j e <;> cases lb (wCells L e) j <;> simp
  have e1 : (ex4 (fun e => nbOk j e && (lb (bOnly c) (nbOf j e) && (lb (wCells L e) j == false))) || ex4 (fun e => nbOk j e && (lb (bOnly c) (nbOf j e) && (lb (wCells L e) j == true)))) = ex4 (fun e => nbOk j e && decide (nbOf j e = c)) := by
    rw [← ex4_cong key]
    have r := ex4_or3 (fun e => nbOk j e && (lb (bOnly c) (nbOf j e) && (lb (wCells L e) j == false))) (fun e => nbOk j e && (lb (bOnly c) (nbOf j e) && (lb (wCells L e) j == true))) (fun _ => false)
    have z : ex4 (fun _ => false) = false := rfl
    rw [z, Bool.or_false] at r
    rw [← r]
    exact ex4_cong (fun d _ => by rw [Bool.or_false])
  rw [e1]
  have iff : ex4 (fun e => nbOk j e && decide (nbOf j e = c)) = true ↔ ex4 (fun k => nbOk c k && decide (nbOf c k = j)) = true := by
    rw [ex4_iff, ex4_iff]
    constructor
    · rintro ⟨e, he, h⟩
      rw [Bool.and_eq_true, decide_eq_true_eq] at h
      obtain ⟨o1, o2⟩ := nb_opp hj he h.1
      rw [h.2] at o1 o2
      exact ⟨opp e, opp_lt he, by rw [o1, o2]; simp⟩
    · rintro ⟨e, he, h⟩
      rw [Bool.and_eq_true, decide_eq_true_eq] at h
      obtain ⟨o1, o2⟩ := nb_opp hc he h.1
      rw [h.2] at o1 o2
      exact ⟨opp e, opp_lt he, by rw [o1, o2]; simp⟩
  cases e2 : ex4 (fun e => nbOk j e && decide (nbOf j e = c)) with
  | true => exact (iff.mp e2).symm
  | false =>
    cases e3 : ex4 (fun k => nbOk c k && decide (nbOf c k = j)) with
    | false => rfl
    | true => rw [iff.mpr e3] at e2; cases e2
theorem InvT_burn {L L' : Nat → Int64} {am : Nat → Int32} (T : InvT L am) (h0 : ∀ k, k ≠ 1 → k ≠ 7 → L' k = L k) (h1 : ∀ c, lb (L' 1) c = true → lb (L 1) c = true) : InvT L' am := by
  obtain ⟨t1, t2, t3, t4, t5, t6⟩ := T
  have e0 := h0 0 (by decide) (by decide)
  have e2 := h0 2 (by decide) (by decide)
  have e3 := h0 3 (by decide) (by decide)
  have e4 := h0 4 (by decide) (by decide)
  refine ⟨fun k hk c hc => ?_, ?_, ?_, ?_, fun c hc => ?_, fun c hc => ?_⟩
  · by_cases e : k = 1
    · rw [e] at hc
      exact t1 1 (by omega) c (h1 c hc)
    · rw [h0 k e (by omega)] at hc
      exact t1 k hk c hc
  · rw [e0, e2, e3, e4]; exact t2
  · rw [e2, e3, e4]; exact t3
  · rw [e3, e4]; exact t4
  · rw [e0]; exact t5 c (h1 c hc)
  · have et : thg L' c = thg L c := thg_of (by rw [e0]) (by rw [e2]) (by rw [e3]) (by rw [e4])
    rw [et]
    exact t6 c hc
theorem blow_k {L : Nat → Int64} {c : Nat} : ∀ k, k ≠ 1 → k ≠ 7 → reL (oBlow L c) k = L k := fun k h1 h7 => by
  rw [reL_ne h7]
  exact if_neg h1
theorem blow_T {L : Nat → Int64} {am : Nat → Int32} {c : Nat} (T : InvT L am) : InvT (reL (oBlow L c)) am := InvT_burn T blow_k (fun j hj => by
  have e : reL (oBlow L c) 1 = L 1 &&& ((nbsI L (bOnly c) false 4 ||| nbsI L (bOnly c) true 4) ^^^ (-1)) := rfl
  rw [e, lb_and, Bool.and_eq_true] at hj
  exact hj.1)
/-- what the steps of an hour need of the longs -/
def InvL (L : Nat → Int64) (am : Nat → Int32) : Prop := InvW L ∧ InvT L am ∧ L 7 = relit L
theorem blow_L {L : Nat → Int64} {am : Nat → Int32} {c : Nat} (V : InvL L am) : InvL (reL (oBlow L c)) am := ⟨InvW_of V.1 rfl rfl, blow_T V.2.1, reL_7 _⟩
theorem stepF_L {s : LG} {am : Nat → Int32} {g : Nat} (V : InvL s.1 am) : InvL (stepF s g).1 am := by
  unfold stepF
  split
  · exact V
  · split
    · exact blow_L V
    · exact V
set_option maxHeartbeats 1000000 in
set_option maxRecDepth 10000 in
theorem c_stepM (d : Nat) {m : Nat → Nat} {thr : Int32} {S : CS} {lt : Nat → Bool} {st rw : Nat → Int32} {g : Nat} (hg : g < 6) (ok : CSok S) {h : gH} (M : MdlAt h m thr S lt st rw) (V : InvL S.1 S.2.1) {mc ms : Nat} {Post : Option Value → gH → Prop} {X : String → gH → Prop} (hp : ∀ h' lt' st' rw', MdlAt h' m thr ((stepF (S.1, S.2.2.1) g).1, S.2.1, (stepF (S.1, S.2.2.1) g).2, S.2.2.2) lt' st' rw' → gFr (mS m) h h' → Post (some (.int (b01 (nxtF S.1 (S.2.2.1 g 0) (S.2.2.1 g 2) (mpG S.2.2.1 g)).isSome))) h') : gSafe (d + 9) mX6_step [.ref (m 0), .int (nI g)] h mc ms Post X := by
  have M0 := M.own0
  obtain ⟨g0, -, g2, g3⟩ := ok.2 g hg
  refine ⟨Nat.le_of_ble_eq_true rfl, fun K hK => ?_⟩
  show K 0 [some (.ref (m 0)), some (.int (nI g)), none, none, none, none] [] _ _ _
  refine s_aload_n hK dX6_step_0 rfl ?_
  refine s_iload_n hK dX6_step_1 rfl ?_
  refine s_V10 hK dX6_step_2 kV_X6_108 (by first | assumption | exact H.1 | exact H.2.1) (by rfl) ?_
  refine c_nextOf _ hg ok M V.1 (T_D V.2.1) V.2.2 (fun h1 lt1 st1 rw1 M1 F1 => ?_)
  have M0 := M1.own0
  cases e : nxtF S.1 (S.2.2.1 g 0) (S.2.2.1 g 2) (mpG S.2.2.1 g) with
  | none =>
    have es : stepF (S.1, S.2.2.1) g = (S.1, S.2.2.1) := by
      unfold stepF
      show (match nxtF S.1 (S.2.2.1 g 0) (S.2.2.1 g 2) (mpG S.2.2.1 g) with | none => _ | some dn => _) = _
      rw [e]
    rw [es, e] at hp
    show K 5 _ (.int (-1) :: _) _ _ _
    refine s_istore_n hK dX6_step_5 rfl ?_
    refine s_iload_n hK dX6_step_6 rfl ?_
    refine s_iconst hK (v := (-1)) dX6_step_7 (by decide) ?_
    refine s_icmpne hK dX6_step_8 13 (by decide) (fun c_8 => ?_) (fun c_8 => ?_)
    · exact absurd rfl c_8
    · refine s_iconst hK (v := 0) dX6_step_11 (by decide) ?_
      refine s_ireturn hK dX6_step_12 rfl (by first | rfl | exact b01_nar _) ?_
      exact hp h1 _ _ _ M1 F1
  | some dn =>
    obtain ⟨hd, hok⟩ := nxtF_ok g0 e
    have hto := nb_lt g0 hd hok
    have es : stepF (S.1, S.2.2.1) g = if lb (wCells S.1 dn) (S.2.2.1 g 0) then (reL (oBlow S.1 (nbOf (S.2.2.1 g 0) dn)), setG (setG S.2.2.1 g 0 (nbOf (S.2.2.1 g 0) dn)) g 3 0) else (S.1, setG S.2.2.1 g 0 (nbOf (S.2.2.1 g 0) dn)) := by
      show (match nxtF S.1 (S.2.2.1 g 0) (S.2.2.1 g 2) (mpG S.2.2.1 g) with | none => _ | some dn => _) = _
      rw [e]
    rw [es, e] at hp
    show K 5 _ (.int (nI dn) :: _) _ _ _
    obtain ⟨to, eto⟩ : ∃ z, z = nbOf (S.2.2.1 g 0) dn := ⟨_, rfl⟩
    rw [← eto] at hp hto
    refine s_istore_n hK dX6_step_5 rfl ?_
    refine s_iload_n hK dX6_step_6 rfl ?_
    refine s_iconst hK (v := (-1)) dX6_step_7 (by decide) ?_
    refine s_icmpne hK dX6_step_8 13 (by decide) (fun c_8 => ?_) (fun c_8 => ?_)
    · refine s_aload_n hK dX6_step_13 rfl ?_
      refine s_aload_n hK dX6_step_14 rfl ?_
      refine s_iload_n hK dX6_step_15 rfl ?_
      refine s_iconst hK (v := 0) dX6_step_16 (by decide) ?_
      refine s_V20 hK dX6_step_17 kV_X6_95 (by first | assumption | exact H.1 | exact H.2.1) (by rfl) ?_
      refine c_sp (k := 0) _ hg (by omega) M1 ?_
      refine s_iload_n hK dX6_step_20 rfl ?_
      refine s_V20 hK dX6_step_21 kV_X6_70 (by first | assumption | exact H.1 | exact H.2.1) (by rfl) ?_
      refine c_hasWallM _ g0 hd M1 V.1 ?_
      refine s_istore_n hK dX6_step_24 rfl ?_
      refine s_aload_n hK dX6_step_25 rfl ?_
      refine s_iload_n hK dX6_step_26 rfl ?_
      refine s_iconst hK (v := 0) dX6_step_27 (by decide) ?_
      refine s_V20 hK dX6_step_28 kV_X6_95 (by first | assumption | exact H.1 | exact H.2.1) (by rfl) ?_
      refine c_sp (k := 0) _ hg (by omega) M1 ?_
      refine s_iload_n hK dX6_step_31 rfl ?_
      refine s_S20 hK dX6_step_32 kS_X6_56 (by rfl) ?_
      refine c_beside _ g0 hd ?_
      unfold bsI
      rw [if_pos hok, ← eto]
      refine s_istore hK dX6_step_35 rfl ?_
      refine s_aload_n hK dX6_step_37 rfl ?_
      refine s_iload_n hK dX6_step_38 rfl ?_
      refine s_iconst hK (v := 0) dX6_step_39 (by decide) ?_
      refine s_iload hK dX6_step_40 rfl ?_
      refine s_V30 hK dX6_step_42 kV_X6_117 (by first | assumption | exact H.1 | exact H.2.1) (by rfl) ?_
      refine c_putM (k := 0) (v := to) _ hg (by omega) M1 (fun h2 R2 F2 => ?_)
      have M2 := M_put (g := g) (k := 0) (v := to) hg (by omega) (by omega) R2
      have M0 := M2.own0
      have F2 := F1.tr F2
      refine s_iload_n hK dX6_step_45 rfl ?_
      cases ew : lb (wCells S.1 dn) (S.2.2.1 g 0) with
      | false =>
        rw [ew] at hp
        refine s_ifne hK dX6_step_46 51 (by decide) (fun c_46 => ?_) (fun c_46 => ?_)
        · exact absurd rfl c_46
        · refine s_iconst hK (v := 1) dX6_step_49 (by decide) ?_
          refine s_ireturn hK dX6_step_50 rfl (by first | rfl | exact b01_nar _) ?_
          exact hp h2 _ _ _ M2 F2
      | true =>
        rw [ew, if_pos rfl] at hp
        refine s_ifne hK dX6_step_46 51 (by decide) (fun c_46 => ?_) (fun c_46 => ?_)
        · refine s_aload_n hK dX6_step_51 rfl ?_
          refine s_iload_n hK dX6_step_52 rfl ?_
          refine s_iconst hK (v := 3) dX6_step_53 (by decide) ?_
          refine s_iconst hK (v := 0) dX6_step_54 (by decide) ?_
          refine s_V30 hK dX6_step_55 kV_X6_117 (by first | assumption | exact H.1 | exact H.2.1) (by rfl) ?_
          refine c_putM (k := 3) (v := 0) _ hg (by omega) M2 (fun h3 R3 F3 => ?_)
          have M3 := M_put (g := g) (k := 3) (v := 0) hg (by omega) (by omega) R3
          have F3 := F2.tr F3
          clear M2 R3 R2 F2 M1 F1 M0
          refine s_iconst hK (v := 0) dX6_step_58 (by decide) ?_
          refine s_istore hK dX6_step_59 rfl ?_
          have loop : ∀ t i, i + t = 4 → ∀ h4, MdlAt h4 m thr (vp_updL S.1 1 (blX S.1 to i), S.2.1, setG (setG S.2.2.1 g 0 to) g 3 0, S.2.2.2) lt1 st1 rw1 → gFr (mS m) h h4 → K 61 [some (.ref (m 0)), some (.int (nI g)), some (.int (nI dn)), some (.int (b01 true)), some (.int (nI to)), some (.int (nI i))] [] h4 mc ms := by
            intro t
            induction t with
            | zero =>
              intro i hi h4 M4 F4
              obtain rfl : i = 4 := by omega
              refine s_iload hK dX6_step_61 rfl ?_
              refine s_iconst hK (v := 4) dX6_step_63 (by decide) ?_
              refine s_icmpge hK dX6_step_64 97 (by decide) (fun c_64 => ?_) (fun c_64 => ?_)
              · refine s_iconst hK (v := 1) dX6_step_97 (by decide) ?_
                refine s_ireturn hK dX6_step_98 rfl (by first | rfl | exact b01_nar _) ?_
                refine hp h4 lt1 st1 rw1 (M4.chL (fun j hj => ?_) (fun k k1 k7 => ?_) rfl) F4
                · show lb (reL (oBlow S.1 to) 1) j = lb (blX S.1 to 4) j
                  exact blow_lb V.1 hto hj
                · show reL (oBlow S.1 to) k = vp_updL S.1 1 (blX S.1 to 4) k
                  rw [blow_k k k1 k7]
                  exact (if_neg k1).symm
              · exact absurd (Int32.le_refl (nI 4)) c_64
            | succ t ih =>
              intro i hi h4 M4 F4
              have M0 := M4.own0
              obtain ⟨f5, e5, k5⟩ := M4.a5
              refine s_iload hK dX6_step_61 rfl ?_
              refine s_iconst hK (v := 4) dX6_step_63 (by decide) ?_
              refine s_icmpge hK dX6_step_64 97 (by decide) (fun c_64 => ?_) (fun c_64 => ?_)
              · exact absurd c_64 (nI_ge (b := 4) (by omega) (by omega))
              · refine s_iload hK dX6_step_67 rfl ?_
                refine s_iload hK dX6_step_69 rfl ?_
                refine s_S20 hK dX6_step_71 kS_X6_56 (by rfl) ?_
                refine c_beside _ hto (by omega) ?_
                unfold bsI
                cases eo : nbOk to i with
                | false =>
                  rw [if_neg (by simp)]
                  refine s_iconst hK (v := (-1)) dX6_step_74 (by decide) ?_
                  refine s_icmpeq hK dX6_step_75 91 (by decide) (fun c_75 => ?_) (fun c_75 => ?_)
                  · refine s_iinck hK (v := 1) dX6_step_91 rfl (by decide) rfl ?_
                    refine s_goto hK dX6_step_94 61 (by decide) ?_
                    rw [nI_1]
                    refine ih (i + 1) (by omega) h4 ?_ F4
                    have eb : blX S.1 to (i + 1) = blX S.1 to i := by
                      show (if nbOk to i then _ else _) = _
                      rw [if_neg (by simp [eo])]
                    rw [eb]
                    exact M4
                  · exact absurd rfl c_75
                | true =>
                  have hn := nb_lt hto (by omega) eo
                  rw [if_pos rfl]
                  refine s_iconst hK (v := (-1)) dX6_step_74 (by decide) ?_
                  refine s_icmpeq hK dX6_step_75 91 (by decide) (fun c_75 => ?_) (fun c_75 => ?_)
                  · exact absurd c_75 (nI_m1 (by omega))
                  · refine s_aload_n hK dX6_step_78 rfl ?_
                    refine s_getfield hK dX6_step_79 kF_X6_23 (by first | assumption | exact H.1 | exact H.2.1) (by rfl) ?_
                    refine s_iload hK dX6_step_82 rfl ?_
                    refine s_iload hK dX6_step_84 rfl ?_
                    refine s_S20 hK dX6_step_86 kS_X6_56 (by rfl) ?_
                    refine c_beside _ hto (by omega) ?_
                    unfold bsI
                    rw [if_pos eo]
                    refine s_iconst hK (v := 0) dX6_step_89 (by decide) ?_
                    refine s_iastoreN hK dX6_step_90 (by assumption) (by omega) (by omega) ?_
                    refine s_iinck hK (v := 1) dX6_step_91 rfl (by decide) rfl ?_
                    refine s_goto hK dX6_step_94 61 (by decide) ?_
                    rw [nI_1]
                    refine ih (i + 1) (by omega) _ (M4.burn (b := false) k5 rfl (fun j hj => ?_) (fun k k1 k7 => ?_) rfl) (F4.tr (gFr.mdl (k := 5) (gFr_U _ _ _) (by omega)))
                    · show lb (blX S.1 to (i + 1)) j = if j = nbOf to i then false else lb (blX S.1 to i) j
                      rw [blX_suc hto (by omega) hj, eo]
                      by_cases q : j = nbOf to i
                      · rw [if_pos q, q]
                        simp
                      · rw [if_neg q]
                        have q2 : ¬ nbOf to i = j := fun z => q z.symm
                        simp [q2]
                    · show vp_updL S.1 1 _ k = vp_updL S.1 1 _ k
                      unfold vp_updL
                      rw [if_neg k1, if_neg k1]
          refine loop 4 0 (by omega) h3 ?_ F3
          refine M3.chL (fun j hj => rfl) (fun k k1 k7 => ?_) rfl
          show vp_updL S.1 1 _ k = S.1 k
          exact if_neg k1
        · exact absurd c_46 (by decide)
    · exact absurd c_8 (nI_m1 (by omega))
