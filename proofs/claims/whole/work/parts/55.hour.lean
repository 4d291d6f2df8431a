/-! an hour of the model -/
def bdS (p : (Nat → Int64) × (Nat → Int32)) (n : Nat) : (Nat → Int64) × (Nat → Int32) := if lb (p.1 1) n then (if p.2 n - 1 ≤ 0 then vp_updL p.1 1 (p.1 1 &&& (bOnly n ^^^ (-1))) else p.1, upd p.2 n (p.2 n - 1)) else p
theorem bdN_suc (L : Nat → Int64) (am : Nat → Int32) (n : Nat) : bdN L am (n + 1) = bdS (bdN L am n) n := rfl
/-- one candle's hour: it doesn't burn; it burns out; it goes on -/
theorem bdS_cases {p : (Nat → Int64) × (Nat → Int32)} {n : Nat} (T : InvT p.1 p.2) : (lb (p.1 1) n = false ∧ bdS p n = p) ∨ (lb (p.1 1) n = true ∧ p.2 n = nI 1 ∧ bdS p n = (vp_updL p.1 1 (p.1 1 &&& (bOnly n ^^^ (-1))), upd p.2 n (nI 0))) ∨ ∃ v, v < 100 ∧ lb (p.1 1) n = true ∧ p.2 n = nI (v + 2) ∧ bdS p n = (p.1, upd p.2 n (nI (v + 1))) := by
  unfold bdS
  cases e : lb (p.1 1) n with
  | false => exact Or.inl ⟨rfl, by simp⟩
  | true =>
    obtain ⟨-, v, hv, ev⟩ := T.2.2.2.2.1 n e
    rw [ev, nI_pred, if_pos rfl]
    by_cases z : v = 0
    · subst z
      refine Or.inr (Or.inl ⟨rfl, rfl, ?_⟩)
      rw [if_pos (by decide)]
    · refine Or.inr (Or.inr ⟨v - 1, by omega, rfl, by rw [show v - 1 + 2 = v + 1 by omega], ?_⟩)
      rw [if_neg (nI_nle (by omega) (by omega)), show v - 1 + 1 = v by omega]
theorem bdS_k {p : (Nat → Int64) × (Nat → Int32)} {n k : Nat} (hk : k ≠ 1) : (bdS p n).1 k = p.1 k := by
  unfold bdS
  split
  · show (if p.2 n - 1 ≤ 0 then vp_updL p.1 1 (p.1 1 &&& (bOnly n ^^^ (-1))) else p.1) k = p.1 k
    split
    · exact if_neg hk
    · rfl
  · rfl
theorem bdN_k {L : Nat → Int64} {am : Nat → Int32} {k : Nat} (hk : k ≠ 1) : ∀ n, (bdN L am n).1 k = L k
  | 0 => rfl
  | n + 1 => by
    rw [bdN_suc, bdS_k hk]
    exact bdN_k hk n
theorem bdS_T {p : (Nat → Int64) × (Nat → Int32)} {n : Nat} (hn : n < 63) (T : InvT p.1 p.2) : InvT (bdS p n).1 (bdS p n).2 := by
  have T0 := T
  obtain ⟨t1, t2, t3, t4, t5, t6⟩ := T
  rcases bdS_cases T0 (n := n) with ⟨-, e⟩ | ⟨e1, e2, e⟩ | ⟨v, hv, e1, e2, e⟩
  · rw [e]; exact T0
  · have t0 := (t5 n e1).1
    have et : thg p.1 n = 1 := (thg1 _ _).mpr t0
    have T1 : InvT (vp_updL p.1 1 (p.1 1 &&& (bOnly n ^^^ (-1)))) p.2 := InvT_burn T0 (fun k k1 _ => if_neg k1) (fun c hc => by
      have hc : lb (p.1 1 &&& (bOnly n ^^^ (-1))) c = true := hc
      rw [lb_and, Bool.and_eq_true] at hc
      exact hc.1)
    obtain ⟨s1, s2, s3, s4, s5, s6⟩ := T1
    rw [e]
    refine ⟨s1, s2, s3, s4, fun c hc => ?_, fun c hc => ?_⟩
    · have ne : c ≠ n := fun z => by
        have hc : lb (p.1 1 &&& (bOnly n ^^^ (-1))) c = true := hc
        rw [z, and_but hn hn] at hc
        simp at hc
      show _ ∧ ∃ v, v < 100 ∧ upd p.2 n (nI 0) c = nI (v + 1)
      rw [pk_un ne]
      exact s5 c hc
    · have et9 : ∀ c, thg (vp_updL p.1 1 (p.1 1 &&& (bOnly n ^^^ (-1)))) c = thg p.1 c := fun c => rfl
      show ∃ v, v < 100 ∧ upd p.2 n (nI 0) c = nI v ∧ (thg (vp_updL p.1 1 (p.1 1 &&& (bOnly n ^^^ (-1)))) c = 1 → v ≤ 60) ∧ (thg (vp_updL p.1 1 (p.1 1 &&& (bOnly n ^^^ (-1)))) c ≠ 1 → thg (vp_updL p.1 1 (p.1 1 &&& (bOnly n ^^^ (-1)))) c ≠ 4 → v = 0)
      rw [et9]
      by_cases z : c = n
      · rw [z, pk_us, et]
        exact ⟨0, by omega, rfl, fun _ => by omega, fun q => absurd rfl q⟩
      · rw [pk_un z]
        exact t6 c hc
  · have t0 := (t5 n e1).1
    have et : thg p.1 n = 1 := (thg1 _ _).mpr t0
    rw [e]
    refine ⟨t1, t2, t3, t4, fun c hc => ?_, fun c hc => ?_⟩
    · refine ⟨(t5 c hc).1, ?_⟩
      by_cases z : c = n
      · rw [z]
        exact ⟨v, hv, pk_us⟩
      · show ∃ w, w < 100 ∧ upd p.2 n (nI (v + 1)) c = nI (w + 1)
        rw [pk_un z]
        exact (t5 c hc).2
    · by_cases z : c = n
      · rw [z]
        obtain ⟨w, w1, w2, w3, w4⟩ := t6 n hn
        have := w3 et
        rw [e2, nI_eq (by omega) (by omega)] at w2
        exact ⟨v + 1, by omega, pk_us, fun _ => by omega, fun q => absurd et q⟩
      · show ∃ w, w < 100 ∧ upd p.2 n (nI (v + 1)) c = nI w ∧ _
        rw [pk_un z]
        exact t6 c hc
theorem bdN_T {L : Nat → Int64} {am : Nat → Int32} (T : InvT L am) : ∀ n, n ≤ 63 → InvT (bdN L am n).1 (bdN L am n).2
  | 0, _ => T
  | n + 1, h => by
    rw [bdN_suc]
    exact bdS_T (by omega) (bdN_T T n (by omega))
theorem reL_T {L : Nat → Int64} {am : Nat → Int32} (T : InvT L am) : InvT (reL L) am := InvT_burn T (fun k _ k7 => reL_ne k7) (fun _ h => h)
theorem bd_L {L : Nat → Int64} {am : Nat → Int32} (V : InvL L am) : InvL (reL (bdN L am 63).1) (bdN L am 63).2 := ⟨InvW_of V.1 (by rw [reL_ne (by decide), bdN_k (by decide)]) (by rw [reL_ne (by decide), bdN_k (by decide)]), reL_T (bdN_T V.2.1 63 (Nat.le_refl _)), reL_7 _⟩
theorem stepsF_L {s : LG} {am : Nat → Int32} {g : Nat} (V : InvL s.1 am) : ∀ n, InvL (stepsF s g n).1 am
  | 0 => V
  | n + 1 => stepF_L (stepsF_L V n)
theorem walkF_L {s : LG} {am : Nat → Int32} (V : InvL s.1 am) : ∀ n, InvL (walkF s n).1 am
  | 0 => V
  | n + 1 => stepsF_L (walkF_L V n) _
def InvS (S : CS) : Prop := CSok S ∧ InvL S.1 S.2.1
theorem hrS_V {S : CS} (V : InvS S) : InvS (hrS S) := by
  refine ⟨hrS_ok V.1, ?_⟩
  have W := walkF_L (s := (reL (bdN S.1 S.2.1 63).1, S.2.2.1)) (bd_L V.2) S.2.2.2.1
  exact ⟨W.1, hausF_T (s := ((bdN S.1 S.2.1 63).2, (hourL S.1 S.2.1 S.2.2.1 S.2.2.2.1).2, 0)) W.2.1 _, W.2.2⟩
theorem pasS_V {S : CS} (V : InvS S) : ∀ k, InvS (pasS S k)
  | 0 => V
  | k + 1 => hrS_V (pasS_V V k)
theorem steps_stop {s : LG} {g j : Nat} (h : stepF (stepsF s g j) g = stepsF s g j) : ∀ k, stepsF s g (j + k) = stepsF s g j
  | 0 => rfl
  | k + 1 => by
    show stepF (stepsF s g (j + k)) g = _
    rw [steps_stop h k, h]
theorem M_hour {h : gH} {m : Nat → Nat} {thr : Int32} {S : CS} {lt : Nat → Bool} {st rw : Nat → Int32} {f' : Nat → Int32} (M : MdlAt h m thr S lt st rw) (e : ∀ j, j < 2 → f' j = if j = 0 then nI S.2.2.2.2 else nI (sumT S.2.2.1 6 S.2.2.2.1)) : MdlAt (gU h (m 7) (.inl (0, 2, .inl (upd f' 0 (nI (S.2.2.2.2 + 1)))))) m thr (S.1, S.2.1, S.2.2.1, S.2.2.2.1, S.2.2.2.2 + 1) lt st rw := by
  refine RawM.cong (RawM.set (k := 7) (i := 0) (x := nI (S.2.2.2.2 + 1)) M (by omega) (by omega) e) (fun k j h1 h2 hj => ?_)
  by_cases e7 : k = 7
  · subst e7
    show (if 7 = 7 then (if j = 0 then nI (S.2.2.2.2 + 1) else if j = 0 then nI S.2.2.2.2 else nI (sumT S.2.2.1 6 S.2.2.2.1)) else _) = if j = 0 then nI (S.2.2.2.2 + 1) else nI (sumT S.2.2.1 6 S.2.2.2.1)
    rw [if_pos rfl]
    by_cases z : j = 0
    · rw [if_pos z, if_pos z]
    · rw [if_neg z, if_neg z, if_neg z]
  · rw [updC_same e7]
    rcases (show k = 1 ∨ k = 2 ∨ k = 3 ∨ k = 4 ∨ k = 5 ∨ k = 6 ∨ k = 8 ∨ k = 9 ∨ k = 10 by omega) with rfl | rfl | rfl | rfl | rfl | rfl | rfl | rfl | rfl <;> rfl
set_option maxHeartbeats 1000000 in
set_option maxRecDepth 10000 in
theorem c_hourOn (d : Nat) {m : Nat → Nat} {thr : Int32} {S : CS} {lt : Nat → Bool} {st rw : Nat → Int32} (V : InvS S) {h : gH} (M : MdlAt h m thr S lt st rw) {mc ms : Nat} {Post : Option Value → gH → Prop} {X : String → gH → Prop} (hp : ∀ h' st' rw', MdlAt h' m thr (hrS S) (lb ((hrS S).1 7)) st' rw' → gFr (mS m) h h' → Post none h') : gSafe (d + 10) mX6_hourOn [.ref (m 0)] h mc ms Post X := by
  have h6 := V.1.1
  have hG := V.1.2
  have VB := bd_L V.2
  refine ⟨Nat.le_of_ble_eq_true rfl, fun K hK => ?_⟩
  show K 0 [some (.ref (m 0)), none, none] [] _ _ _
  refine s_iconst hK (v := 0) dX6_hourOn_0 (by decide) ?_
  refine s_istore_n hK dX6_hourOn_1 rfl ?_
  have loop3 : ∀ t i, i + t = S.2.2.2.1 → ∀ st1 rw1 w2 h1, MdlAt h1 m thr ((hourL S.1 S.2.1 S.2.2.1 S.2.2.2.1).1, (hausF (hourL S.1 S.2.1 S.2.2.1 S.2.2.2.1).1 ((bdN S.1 S.2.1 63).2, (hourL S.1 S.2.1 S.2.2.1 S.2.2.2.1).2, 0) i).1, (hausF (hourL S.1 S.2.1 S.2.2.1 S.2.2.2.1).1 ((bdN S.1 S.2.1 63).2, (hourL S.1 S.2.1 S.2.2.1 S.2.2.2.1).2, 0) i).2.1, S.2.2.2) (lb ((hrS S).1 7)) st1 rw1 → gFr (mS m) h h1 → K 99 [some (.ref (m 0)), some (.int (nI i)), w2] [] h1 mc ms := by
    intro t
    induction t with
    | zero =>
      intro i hi st1 rw1 w2 h1 M1 F1
      obtain rfl : i = S.2.2.2.1 := by omega
      have M0 := M1.own0
      obtain ⟨f7, e7, k7⟩ := M1.a7
      have k70 := k7 0 (by omega)
      rw [if_pos rfl] at k70
      refine s_iload_n hK dX6_hourOn_99 rfl ?_
      refine s_aload_n hK dX6_hourOn_100 rfl ?_
      refine s_getfield hK dX6_hourOn_101 kF_X6_49 (by first | assumption | exact H.1 | exact H.2.1) (by rfl) ?_
      refine s_icmpge hK dX6_hourOn_104 118 (by decide) (fun c_104 => ?_) (fun c_104 => ?_)
      · refine s_aload_n hK dX6_hourOn_118 rfl ?_
        refine s_getfield hK dX6_hourOn_119 kF_X6_29 (by first | assumption | exact H.1 | exact H.2.1) (by rfl) ?_
        refine s_iconst hK (v := 0) dX6_hourOn_122 (by decide) ?_
        refine s_dup2 hK dX6_hourOn_123 rfl rfl ?_
        refine s_ialoadN hK (j := 0) dX6_hourOn_124 e7 (by omega) (by omega) ?_
        rw [k70]
        refine s_iconst hK (v := 1) dX6_hourOn_125 (by decide) ?_
        refine s_iadd hK dX6_hourOn_126 ?_
        rw [nI_1]
        refine s_iastoreN hK (j := 0) dX6_hourOn_127 e7 (by omega) (by omega) ?_
        refine s_return hK dX6_hourOn_128 rfl ?_
        exact hp _ st1 rw1 (M_hour M1 k7) (F1.tr (gFr.mdl (k := 7) (gFr_U _ _ _) (by omega)))
      · exact absurd (Int32.le_refl (nI S.2.2.2.1)) c_104
    | succ t ih =>
      intro i hi st1 rw1 w2 h1 M1 F1
      have M0 := M1.own0
      have W := walkF_L (s := (reL (bdN S.1 S.2.1 63).1, S.2.2.1)) VB S.2.2.2.1
      have TT := hausF_T (L := (hourL S.1 S.2.1 S.2.2.1 S.2.2.2.1).1) (s := ((bdN S.1 S.2.1 63).2, (hourL S.1 S.2.1 S.2.2.1 S.2.2.2.1).2, 0)) W.2.1 i
      have hGG := (hausF_ok (L := (hourL S.1 S.2.1 S.2.2.1 S.2.2.2.1).1) (s := ((bdN S.1 S.2.1 63).2, (hourL S.1 S.2.1 S.2.2.1 S.2.2.2.1).2, 0)) (walkF_ok (s := (reL (bdN S.1 S.2.1 63).1, S.2.2.1)) hG S.2.2.2.1 h6) i) i (by omega)
      refine s_iload_n hK dX6_hourOn_99 rfl ?_
      refine s_aload_n hK dX6_hourOn_100 rfl ?_
      refine s_getfield hK dX6_hourOn_101 kF_X6_49 (by first | assumption | exact H.1 | exact H.2.1) (by rfl) ?_
      refine s_icmpge hK dX6_hourOn_104 118 (by decide) (fun c_104 => ?_) (fun c_104 => ?_)
      · exact absurd c_104 (nI_ge (a := i) (b := S.2.2.2.1) (by omega) (by omega))
      · refine s_aload_n hK dX6_hourOn_107 rfl ?_
        refine s_iload_n hK dX6_hourOn_108 rfl ?_
        refine s_V10 hK dX6_hourOn_109 kV_X6_142 (by first | assumption | exact H.1 | exact H.2.1) (by rfl) ?_
        refine c_hauntM (S := ((hourL S.1 S.2.1 S.2.2.1 S.2.2.2.1).1, (hausF (hourL S.1 S.2.1 S.2.2.1 S.2.2.2.1).1 ((bdN S.1 S.2.1 63).2, (hourL S.1 S.2.1 S.2.2.1 S.2.2.2.1).2, 0) i).1, (hausF (hourL S.1 S.2.1 S.2.2.1 S.2.2.2.1).1 ((bdN S.1 S.2.1 63).2, (hourL S.1 S.2.1 S.2.2.1 S.2.2.2.1).2, 0) i).2.1, S.2.2.2)) (n := (hausF (hourL S.1 S.2.1 S.2.2.1 S.2.2.2.1).1 ((bdN S.1 S.2.1 63).2, (hourL S.1 S.2.1 S.2.2.1 S.2.2.2.1).2, 0) i).2.2) _ (show i < S.2.2.2.1 by omega) h6 hGG.1 TT M1 (fun h2 M2 F2 => ?_)
        refine s_iinck hK (v := 1) dX6_hourOn_112 rfl (by decide) rfl ?_
        refine s_goto hK dX6_hourOn_115 99 (by decide) ?_
        rw [nI_1]
        exact ih (i + 1) (by omega) _ _ _ h2 M2 (F1.tr F2)
  have loop2 : ∀ t i, i + t = S.2.2.2.1 → ∀ lt1 st1 rw1 w2 h1, MdlAt h1 m thr ((walkF (reL (bdN S.1 S.2.1 63).1, S.2.2.1) i).1, (bdN S.1 S.2.1 63).2, (walkF (reL (bdN S.1 S.2.1 63).1, S.2.2.1) i).2, S.2.2.2) lt1 st1 rw1 → gFr (mS m) h h1 → K 54 [some (.ref (m 0)), some (.int (nI i)), w2] [] h1 mc ms := by
    intro t
    induction t with
    | zero =>
      intro i hi lt1 st1 rw1 w2 h1 M1 F1
      obtain rfl : i = S.2.2.2.1 := by omega
      have M0 := M1.own0
      have W := walkF_L (s := (reL (bdN S.1 S.2.1 63).1, S.2.2.1)) VB S.2.2.2.1
      refine s_iload_n hK dX6_hourOn_54 rfl ?_
      refine s_aload_n hK dX6_hourOn_55 rfl ?_
      refine s_getfield hK dX6_hourOn_56 kF_X6_49 (by first | assumption | exact H.1 | exact H.2.1) (by rfl) ?_
      refine s_icmpge hK dX6_hourOn_59 93 (by decide) (fun c_59 => ?_) (fun c_59 => ?_)
      · refine s_aload_n hK dX6_hourOn_93 rfl ?_
        refine s_V00 hK dX6_hourOn_94 kV_X6_89 (by first | assumption | exact H.1 | exact H.2.1) (by rfl) ?_
        refine c_reckonLight _ M1 W.1 (T_D W.2.1) (fun h2 M2 F2 => ?_)
        have e7 : relit (walkF (reL (bdN S.1 S.2.1 63).1, S.2.2.1) S.2.2.2.1).1 = (hrS S).1 7 := W.2.2.symm
        rw [e7] at M2
        refine s_iconst hK (v := 0) dX6_hourOn_97 (by decide) ?_
        refine s_istore_n hK dX6_hourOn_98 rfl ?_
        exact loop3 S.2.2.2.1 0 (by omega) _ _ _ h2 M2 (F1.tr F2)
      · exact absurd (Int32.le_refl (nI S.2.2.2.1)) c_59
    | succ t ih =>
      intro i hi lt1 st1 rw1 w2 h1 M1 F1
      have M0 := M1.own0
      have hGi := walkF_ok (s := (reL (bdN S.1 S.2.1 63).1, S.2.2.1)) hG i (by omega)
      have Vi := walkF_L (s := (reL (bdN S.1 S.2.1 63).1, S.2.2.1)) VB i
      refine s_iload_n hK dX6_hourOn_54 rfl ?_
      refine s_aload_n hK dX6_hourOn_55 rfl ?_
      refine s_getfield hK dX6_hourOn_56 kF_X6_49 (by first | assumption | exact H.1 | exact H.2.1) (by rfl) ?_
      refine s_icmpge hK dX6_hourOn_59 93 (by decide) (fun c_59 => ?_) (fun c_59 => ?_)
      · exact absurd c_59 (nI_ge (a := i) (b := S.2.2.2.1) (by omega) (by omega))
      · refine s_aload_n hK dX6_hourOn_62 rfl ?_
        refine s_iload_n hK dX6_hourOn_63 rfl ?_
        refine s_iconst hK (v := 1) dX6_hourOn_64 (by decide) ?_
        refine s_V20 hK dX6_hourOn_65 kV_X6_95 (by first | assumption | exact H.1 | exact H.2.1) (by rfl) ?_
        refine c_sp (k := 1) _ (by omega) (by omega) M1 ?_
        refine s_istore_n hK dX6_hourOn_68 rfl ?_
        have hpace := (hGi i (by omega)).2.1
        obtain ⟨s0, hs0⟩ : ∃ z, z = walkF (reL (bdN S.1 S.2.1 63).1, S.2.2.1) i := ⟨_, rfl⟩
        have next : ∀ lt1 st1 rw1 w2 h1, MdlAt h1 m thr ((stepsF s0 i (s0.2 i 1)).1, (bdN S.1 S.2.1 63).2, (stepsF s0 i (s0.2 i 1)).2, S.2.2.2) lt1 st1 rw1 → gFr (mS m) h h1 → K 87 [some (.ref (m 0)), some (.int (nI i)), w2] [] h1 mc ms := by
          intro lt1 st1 rw1 w2 h1 M1 F1
          refine s_iinck hK (v := 1) dX6_hourOn_87 rfl (by decide) rfl ?_
          refine s_goto hK dX6_hourOn_90 54 (by decide) ?_
          rw [nI_1]
          refine ih (i + 1) (by omega) lt1 st1 rw1 _ h1 ?_ F1
          rw [hs0] at M1
          exact M1
        have e1 : (walkF (reL (bdN S.1 S.2.1 63).1, S.2.2.1) i).2 i 1 = s0.2 i 1 := by rw [hs0]
        rw [← hs0] at M1 hGi Vi hpace
        have inner : ∀ t2 j, j + t2 = s0.2 i 1 → ∀ lt2 st2 rw2 h2, MdlAt h2 m thr ((stepsF s0 i j).1, (bdN S.1 S.2.1 63).2, (stepsF s0 i j).2, S.2.2.2) lt2 st2 rw2 → gFr (mS m) h h2 → K 69 [some (.ref (m 0)), some (.int (nI i)), some (.int (nI t2))] [] h2 mc ms := by
          intro t2
          induction t2 with
          | zero =>
            intro j hj lt2 st2 rw2 h2 M2 F2
            obtain rfl : j = s0.2 i 1 := by omega
            refine s_iload_n hK dX6_hourOn_69 rfl ?_
            refine s_ifle hK dX6_hourOn_70 87 (by decide) (fun c_70 => ?_) (fun c_70 => ?_)
            · exact next lt2 st2 rw2 _ h2 M2 F2
            · exact absurd (by decide) c_70
          | succ t2 ih2 =>
            intro j hj lt2 st2 rw2 h2 M2 F2
            have M0 := M2.own0
            refine s_iload_n hK dX6_hourOn_69 rfl ?_
            refine s_ifle hK dX6_hourOn_70 87 (by decide) (fun c_70 => ?_) (fun c_70 => ?_)
            · exact absurd c_70 (nI_nle (by omega) (by omega))
            · refine s_aload_n hK dX6_hourOn_73 rfl ?_
              refine s_iload_n hK dX6_hourOn_74 rfl ?_
              refine s_V10 hK dX6_hourOn_75 kV_X6_139 (by first | assumption | exact H.1 | exact H.2.1) (by rfl) ?_
              refine c_stepM (S := ((stepsF s0 i j).1, (bdN S.1 S.2.1 63).2, (stepsF s0 i j).2, S.2.2.2)) _ (by omega) ⟨h6, stepsF_ok hGi (by omega) j⟩ M2 (stepsF_L Vi j) (fun h3 lt3 st3 rw3 M3 F3 => ?_)
              have M3 : MdlAt h3 m thr ((stepsF s0 i (j + 1)).1, (bdN S.1 S.2.1 63).2, (stepsF s0 i (j + 1)).2, S.2.2.2) lt3 st3 rw3 := M3
              cases e : nxtF (stepsF s0 i j).1 ((stepsF s0 i j).2 i 0) ((stepsF s0 i j).2 i 2) (mpG (stepsF s0 i j).2 i) with
              | none =>
                have es : stepF (stepsF s0 i j) i = stepsF s0 i j := by
                  unfold stepF
                  rw [e]
                have el : stepsF s0 i (s0.2 i 1) = stepsF s0 i (j + 1) := by
                  have a := steps_stop es (t2 + 1)
                  have b := steps_stop es 1
                  rw [show j + (t2 + 1) = s0.2 i 1 by omega] at a
                  rw [a, b]
                rw [← el] at M3
                show K 78 _ (.int 0 :: _) _ _ _
                refine s_ifeq hK dX6_hourOn_78 87 (by decide) (fun c_78 => ?_) (fun c_78 => ?_)
                · exact next lt3 st3 rw3 _ h3 M3 (F2.tr F3)
                · exact absurd rfl c_78
              | some dn =>
                show K 78 _ (.int 1 :: _) _ _ _
                refine s_ifeq hK dX6_hourOn_78 87 (by decide) (fun c_78 => ?_) (fun c_78 => ?_)
                · exact absurd c_78 (by decide)
                · refine s_iinck hK (v := (-1)) dX6_hourOn_81 rfl (by decide) rfl ?_
                  refine s_goto hK dX6_hourOn_84 69 (by decide) ?_
                  rw [pk_m1]
                  exact ih2 (j + 1) (by omega) lt3 st3 rw3 h3 M3 (F2.tr F3)
        have r := inner (s0.2 i 1) 0 (by omega) lt1 st1 rw1 h1 M1 F1
        rw [← e1] at r
        exact r
  have loop1 : ∀ t i, i + t = 63 → ∀ h1, MdlAt h1 m thr ((bdN S.1 S.2.1 i).1, (bdN S.1 S.2.1 i).2, S.2.2) lt st rw → gFr (mS m) h h1 → K 2 [some (.ref (m 0)), some (.int (nI i)), none] [] h1 mc ms := by
    intro t
    induction t with
    | zero =>
      intro i hi h1 M1 F1
      obtain rfl : i = 63 := by omega
      refine s_iload_n hK dX6_hourOn_2 rfl ?_
      refine s_bipush hK (v := 63) dX6_hourOn_3 (by decide) ?_
      refine s_icmpge hK dX6_hourOn_5 52 (by decide) (fun c_5 => ?_) (fun c_5 => ?_)
      · refine s_iconst hK (v := 0) dX6_hourOn_52 (by decide) ?_
        refine s_istore_n hK dX6_hourOn_53 rfl ?_
        refine loop2 S.2.2.2.1 0 (by omega) lt st rw _ h1 (M1.chL (fun j hj => rfl) (fun k k1 k7 => ?_) rfl) F1
        exact reL_ne k7
      · exact absurd (Int32.le_refl (nI 63)) c_5
    | succ t ih =>
      intro i hi h1 M1 F1
      have M0 := M1.own0
      obtain ⟨f5, e5, k5⟩ := M1.a5
      have T := bdN_T V.2.2.1 i (by omega)
      have nxt := ih (i + 1) (by omega)
      rw [bdN_suc] at nxt
      obtain ⟨p, hp9⟩ : ∃ z, z = bdN S.1 S.2.1 i := ⟨_, rfl⟩
      rw [← hp9] at M1 k5 T nxt
      refine s_iload_n hK dX6_hourOn_2 rfl ?_
      refine s_bipush hK (v := 63) dX6_hourOn_3 (by decide) ?_
      refine s_icmpge hK dX6_hourOn_5 52 (by decide) (fun c_5 => ?_) (fun c_5 => ?_)
      · exact absurd c_5 (nI_ge (b := 63) (by omega) (by omega))
      · refine s_aload_n hK dX6_hourOn_8 rfl ?_
        refine s_getfield hK dX6_hourOn_9 kF_X6_23 (by first | assumption | exact H.1 | exact H.2.1) (by rfl) ?_
        refine s_iload_n hK dX6_hourOn_12 rfl ?_
        refine s_ialoadN hK dX6_hourOn_13 (by assumption) (by omega) (by omega) ?_
        rw [k5 _ (by omega)]
        show K 14 _ (.int (b01 (lb (p.1 1) i)) :: _) _ _ _
        rcases bdS_cases T (n := i) with ⟨e0, e⟩ | ⟨e0, e2, e⟩ | ⟨v, hv, e0, e2, e⟩
        · rw [e] at nxt
          rw [e0]
          refine s_ifne hK dX6_hourOn_14 20 (by decide) (fun c_14 => ?_) (fun c_14 => ?_)
          · exact absurd rfl c_14
          · refine s_goto hK dX6_hourOn_17 46 (by decide) ?_
            refine s_iinck hK (v := 1) dX6_hourOn_46 rfl (by decide) rfl ?_
            refine s_goto hK dX6_hourOn_49 2 (by decide) ?_
            rw [nI_1]
            exact nxt h1 M1 F1
        · rw [e] at nxt
          rw [e0]
          obtain ⟨f4, e4, k4⟩ := M1.a4
          refine s_ifne hK dX6_hourOn_14 20 (by decide) (fun c_14 => ?_) (fun c_14 => ?_)
          · refine s_aload_n hK dX6_hourOn_20 rfl ?_
            refine s_getfield hK dX6_hourOn_21 kF_X6_20 (by first | assumption | exact H.1 | exact H.2.1) (by rfl) ?_
            refine s_iload_n hK dX6_hourOn_24 rfl ?_
            refine s_dup2 hK dX6_hourOn_25 rfl rfl ?_
            refine s_ialoadN hK dX6_hourOn_26 (by assumption) (by omega) (by omega) ?_
            rw [k4 _ (by omega)]
            show K 27 _ (.int (p.2 i) :: _) _ _ _
            rw [e2]
            refine s_iconst hK (v := 1) dX6_hourOn_27 (by decide) ?_
            refine s_isub hK dX6_hourOn_28 ?_
            rw [nI_pred]
            refine s_iastoreN hK dX6_hourOn_29 (by assumption) (by omega) (by omega) ?_
            have M2 := M1.val (c := i) (x := nI 0) k4
            have F2 : gFr (mS m) h (gU h1 (m 4) (.inl (0, 63, .inl (upd f4 i (nI 0))))) := F1.tr (gFr.mdl (k := 4) (gFr_U _ _ _) (by omega))
            generalize gU h1 (m 4) (.inl (0, 63, .inl (upd f4 i (nI 0)))) = h2 at M2 F2
            clear M0 e4 k4 e5 k5
            have M0 := M2.own0
            obtain ⟨f4, e4, k4⟩ := M2.a4
            obtain ⟨f5, e5, k5⟩ := M2.a5
            refine s_aload_n hK dX6_hourOn_30 rfl ?_
            refine s_getfield hK dX6_hourOn_31 kF_X6_20 (by first | assumption | exact H.1 | exact H.2.1) (by rfl) ?_
            refine s_iload_n hK dX6_hourOn_34 rfl ?_
            refine s_ialoadN hK dX6_hourOn_35 (by assumption) (by omega) (by omega) ?_
            rw [k4 _ (by omega)]
            show K 36 _ (.int (upd p.2 i (nI 0) i) :: _) _ _ _
            rw [pk_us]
            refine s_ifne hK dX6_hourOn_36 46 (by decide) (fun c_36 => ?_) (fun c_36 => ?_)
            · exact absurd rfl c_36
            · refine s_aload_n hK dX6_hourOn_39 rfl ?_
              refine s_getfield hK dX6_hourOn_40 kF_X6_23 (by first | assumption | exact H.1 | exact H.2.1) (by rfl) ?_
              refine s_iload_n hK dX6_hourOn_43 rfl ?_
              refine s_iconst hK (v := 0) dX6_hourOn_44 (by decide) ?_
              refine s_iastoreN hK dX6_hourOn_45 (by assumption) (by omega) (by omega) ?_
              refine s_iinck hK (v := 1) dX6_hourOn_46 rfl (by decide) rfl ?_
              refine s_goto hK dX6_hourOn_49 2 (by decide) ?_
              rw [nI_1]
              refine nxt _ (M2.burn (b := false) k5 rfl (fun j hj => ?_) (fun k k1 k7 => ?_) rfl) (F2.tr (gFr.mdl (k := 5) (gFr_U _ _ _) (by omega)))
              · show lb (p.1 1 &&& (bOnly i ^^^ (-1))) j = if j = i then false else lb (p.1 1) j
                rw [and_but (by omega) hj]
                by_cases q : j = i
                · rw [if_pos q]
                  simp [q]
                · rw [if_neg q]
                  simp [q]
              · exact if_neg k1
          · exact absurd c_14 (by decide)
        · rw [e] at nxt
          rw [e0]
          obtain ⟨f4, e4, k4⟩ := M1.a4
          refine s_ifne hK dX6_hourOn_14 20 (by decide) (fun c_14 => ?_) (fun c_14 => ?_)
          · refine s_aload_n hK dX6_hourOn_20 rfl ?_
            refine s_getfield hK dX6_hourOn_21 kF_X6_20 (by first | assumption | exact H.1 | exact H.2.1) (by rfl) ?_
            refine s_iload_n hK dX6_hourOn_24 rfl ?_
            refine s_dup2 hK dX6_hourOn_25 rfl rfl ?_
            refine s_ialoadN hK dX6_hourOn_26 (by assumption) (by omega) (by omega) ?_
            rw [k4 _ (by omega)]
            show K 27 _ (.int (p.2 i) :: _) _ _ _
            rw [e2]
            refine s_iconst hK (v := 1) dX6_hourOn_27 (by decide) ?_
            refine s_isub hK dX6_hourOn_28 ?_
            rw [nI_pred]
            refine s_iastoreN hK dX6_hourOn_29 (by assumption) (by omega) (by omega) ?_
            have M2 := M1.val (c := i) (x := nI (v + 1)) k4
            have F2 : gFr (mS m) h (gU h1 (m 4) (.inl (0, 63, .inl (upd f4 i (nI (v + 1)))))) := F1.tr (gFr.mdl (k := 4) (gFr_U _ _ _) (by omega))
            generalize gU h1 (m 4) (.inl (0, 63, .inl (upd f4 i (nI (v + 1))))) = h2 at M2 F2
            clear M0 e4 k4 e5 k5
            have M0 := M2.own0
            obtain ⟨f4, e4, k4⟩ := M2.a4
            refine s_aload_n hK dX6_hourOn_30 rfl ?_
            refine s_getfield hK dX6_hourOn_31 kF_X6_20 (by first | assumption | exact H.1 | exact H.2.1) (by rfl) ?_
            refine s_iload_n hK dX6_hourOn_34 rfl ?_
            refine s_ialoadN hK dX6_hourOn_35 (by assumption) (by omega) (by omega) ?_
            rw [k4 _ (by omega)]
            show K 36 _ (.int (upd p.2 i (nI (v + 1)) i) :: _) _ _ _
            rw [pk_us]
            refine s_ifne hK dX6_hourOn_36 46 (by decide) (fun c_36 => ?_) (fun c_36 => ?_)
            · refine s_iinck hK (v := 1) dX6_hourOn_46 rfl (by decide) rfl ?_
              refine s_goto hK dX6_hourOn_49 2 (by decide) ?_
              rw [nI_1]
              exact nxt h2 M2 F2
            · exact absurd ((nI_eq (b := 0) (by omega) (by omega)).mp c_36) (by omega)
          · exact absurd c_14 (by decide)
  exact loop1 63 0 (by omega) h M (gFr_rf _ _)
set_option maxRecDepth 10000 in
theorem c_hoursOn (d : Nat) {m : Nat → Nat} {thr : Int32} {S : CS} {lt : Nat → Bool} {st rw : Nat → Int32} {k : Nat} (hk1 : 1 ≤ k) (hk : k ≤ 40) (V : InvS S) {h : gH} (M : MdlAt h m thr S lt st rw) {mc ms : Nat} {Post : Option Value → gH → Prop} {X : String → gH → Prop} (hp : ∀ h' st' rw', MdlAt h' m thr (pasS S k) (lb ((pasS S k).1 7)) st' rw' → gFr (mS m) h h' → Post none h') : gSafe (d + 11) mX6_hoursOn [.ref (m 0), .int (nI k)] h mc ms Post X := by
  refine ⟨Nat.le_of_ble_eq_true rfl, fun K hK => ?_⟩
  show K 0 [some (.ref (m 0)), some (.int (nI k)), none] [] _ _ _
  refine s_iconst hK (v := 0) dX6_hoursOn_0 (by decide) ?_
  refine s_istore_n hK dX6_hoursOn_1 rfl ?_
  have loop : ∀ t i, i + t = k → ∀ lt1 st1 rw1 h1, (1 ≤ i → lt1 = lb ((pasS S i).1 7)) → MdlAt h1 m thr (pasS S i) lt1 st1 rw1 → gFr (mS m) h h1 → K 2 [some (.ref (m 0)), some (.int (nI k)), some (.int (nI i))] [] h1 mc ms := by
    intro t
    induction t with
    | zero =>
      intro i hi lt1 st1 rw1 h1 el M1 F1
      obtain rfl : i = k := by omega
      refine s_iload_n hK dX6_hoursOn_2 rfl ?_
      refine s_iload_n hK dX6_hoursOn_3 rfl ?_
      refine s_icmpge hK dX6_hoursOn_4 17 (by decide) (fun c_4 => ?_) (fun c_4 => ?_)
      · refine s_return hK dX6_hoursOn_17 rfl ?_
        rw [el hk1] at M1
        exact hp h1 st1 rw1 M1 F1
      · exact absurd (Int32.le_refl (nI i)) c_4
    | succ t ih =>
      intro i hi lt1 st1 rw1 h1 el M1 F1
      have M0 := M1.own0
      refine s_iload_n hK dX6_hoursOn_2 rfl ?_
      refine s_iload_n hK dX6_hoursOn_3 rfl ?_
      refine s_icmpge hK dX6_hoursOn_4 17 (by decide) (fun c_4 => ?_) (fun c_4 => ?_)
      · exact absurd c_4 (nI_ge (by omega) (by omega))
      · refine s_aload_n hK dX6_hoursOn_7 rfl ?_
        refine s_V00 hK dX6_hoursOn_8 kV_X6_145 (by first | assumption | exact H.1 | exact H.2.1) (by rfl) ?_
        refine c_hourOn _ (pasS_V V i) M1 (fun h2 st2 rw2 M2 F2 => ?_)
        refine s_iinck hK (v := 1) dX6_hoursOn_11 rfl (by decide) rfl ?_
        refine s_goto hK dX6_hoursOn_14 2 (by decide) ?_
        rw [nI_1]
        exact ih (i + 1) (by omega) _ st2 rw2 h2 (fun _ => rfl) M2 (F1.tr F2)
  exact loop k 0 (by omega) lt st rw h (fun z => absurd z (by omega)) M (gFr_rf _ _)
