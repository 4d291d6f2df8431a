/-! a haunting of the model -/
def mk2 (v : Nat) : Nat := if (v + 1) % 100 % 13 = 0 then (v + 1) % 100 % 10 * 10 + (v + 1) % 100 / 10 else (v + 1) % 100
theorem mk2_lt {v : Nat} (h : v < 100) : mk2 v < 100 := by
  unfold mk2
  split <;> omega
theorem mk_eq : ∀ v : Fin 100, mkNext (nI v.val) = nI (mk2 v.val) := by decide +kernel
theorem MdlAt.val {h : gH} {m : Nat → Nat} {thr : Int32} {S : CS} {lt : Nat → Bool} {st rw : Nat → Int32} (M : MdlAt h m thr S lt st rw) {c : Nat} {x : Int32} {f' : Nat → Int32} (e : ∀ j, j < 63 → f' j = S.2.1 j) : MdlAt (gU h (m 4) (.inl (0, 63, .inl (upd f' c x)))) m thr (S.1, upd S.2.1 c x, S.2.2) lt st rw := by
  refine RawM.cong (RawM.set (k := 4) (i := c) (x := x) M (by omega) (by omega) e) (fun k j h1 h2 hj => ?_)
  by_cases e4 : k = 4
  · subst e4
    unfold updC
    rw [if_pos rfl]
    rfl
  · rw [updC_same e4]
    rcases (show k = 1 ∨ k = 2 ∨ k = 3 ∨ k = 5 ∨ k = 6 ∨ k = 7 ∨ k = 8 ∨ k = 9 ∨ k = 10 by omega) with rfl | rfl | rfl | rfl | rfl | rfl | rfl | rfl | rfl <;> rfl
theorem sumT_inc {G : Nat → Nat → Nat} {g : Nat} : ∀ n, g < n → sumT (setG G g 4 (G g 4 + 1)) 6 n = sumT G 6 n + 1
  | 0, h => absurd h (Nat.not_lt_zero _)
  | n + 1, h => by
    show sumT (setG G g 4 (G g 4 + 1)) 6 n + setG G g 4 (G g 4 + 1) n 4 = sumT G 6 n + G n 4 + 1
    by_cases e : g = n
    · subst e
      have q : ∀ k, k ≤ g → sumT (setG G g 4 (G g 4 + 1)) 6 k = sumT G 6 k := by
        intro k
        induction k with
        | zero => intro _; rfl
        | succ k ih =>
          intro hk
          show sumT (setG G g 4 (G g 4 + 1)) 6 k + setG G g 4 (G g 4 + 1) k 4 = sumT G 6 k + G k 4
          rw [ih (by omega), setG_ne _ _ (by omega)]
      rw [q g (Nat.le_refl _), setG_same]
      omega
    · rw [sumT_inc n (by omega), setG_ne _ _ (by omega)]
      omega
theorem InvT_mark {L : Nat → Int64} {am : Nat → Int32} {c : Nat} (T : InvT L am) (h4 : lb (L 4) c = true) : InvT L (upd am c (mkNext (am c))) := by
  obtain ⟨t1, t2, t3, t4, t5, t6⟩ := T
  have hc := t1 4 (by omega) c h4
  refine ⟨t1, t2, t3, t4, fun j hj => ?_, fun j hj => ?_⟩
  · have q := t5 j hj
    have ne : j ≠ c := fun z => by
      have := (t2 j q.1).2.2
      rw [z, h4] at this
      cases this
    rw [pk_un ne]
    exact q
  · by_cases e : j = c
    · subst e
      obtain ⟨v, v1, v2, -⟩ := t6 j hj
      have ev : mkNext (am j) = nI (mk2 v) := by rw [v2]; exact mk_eq ⟨v, v1⟩
      have et : thg L j = 4 := by
        have e4 := h4
        have := (in44 (am := am) ⟨t1, t2, t3, t4, t5, t6⟩ j).trans e4
        unfold inT at this
        rw [Bool.and_eq_true, decide_eq_true_eq, decide_eq_true_eq] at this
        omega
      refine ⟨mk2 v, mk2_lt v1, by rw [pk_us, ev], fun z => by omega, fun _ z => absurd et z⟩
    · rw [pk_un e]
      exact t6 j hj
theorem hauF_T {L : Nat → Int64} {s : AG} {g : Nat} (T : InvT L s.1) : InvT L (hauF L s g).1 := by
  unfold hauF
  split
  · exact T
  · split
    · next h4 => exact InvT_mark T h4
    · exact T
theorem hausF_T {L : Nat → Int64} {s : AG} (T : InvT L s.1) : ∀ n, InvT L (hausF L s n).1
  | 0 => T
  | n + 1 => hauF_T (hausF_T T n)
theorem M_inc {h : gH} {m : Nat → Nat} {thr : Int32} {S : CS} {lt : Nat → Bool} {st rw : Nat → Int32} {g : Nat} (hg : g < S.2.2.2.1) (h6 : S.2.2.2.1 ≤ 6) (R : RawM h m thr S.2.2.2.1 (updC (updC (mC S lt st rw) 6 (6 * g + 4) (nI (S.2.2.1 g 4 + 1))) 7 1 (nI (sumT S.2.2.1 6 S.2.2.2.1 + 1)))) : MdlAt h m thr (S.1, S.2.1, setG S.2.2.1 g 4 (S.2.2.1 g 4 + 1), S.2.2.2) lt st rw := by
  refine RawM.cong R (fun k j k1 k2 hj => ?_)
  by_cases e7 : k = 7
  · subst e7
    show (if 7 = 7 then (if j = 1 then nI (sumT S.2.2.1 6 S.2.2.2.1 + 1) else updC (mC S lt st rw) 6 (6 * g + 4) (nI (S.2.2.1 g 4 + 1)) 7 j) else _) = if j = 0 then nI S.2.2.2.2 else nI (sumT (setG S.2.2.1 g 4 (S.2.2.1 g 4 + 1)) 6 S.2.2.2.1)
    have hj : j < 2 := hj
    rw [if_pos rfl]
    by_cases e : j = 1
    · rw [if_pos e, if_neg (by omega), sumT_inc _ hg]
    · rw [if_neg e, if_pos (by omega), updC_same (by decide)]
      show (if j = 0 then _ else _) = _
      rw [if_pos (by omega)]
  · rw [updC_same e7]
    by_cases e6 : k = 6
    · subst e6
      have hj : j < 36 := hj
      show (if 6 = 6 then (if j = 6 * g + 4 then nI (S.2.2.1 g 4 + 1) else nI (S.2.2.1 (j / 6) (j % 6))) else _) = nI (setG S.2.2.1 g 4 (S.2.2.1 g 4 + 1) (j / 6) (j % 6))
      rw [if_pos rfl]
      by_cases e : j = 6 * g + 4
      · rw [if_pos e, show j / 6 = g by omega, show j % 6 = 4 by omega, setG_same]
      · rw [if_neg e, setG_ne _ _ (by omega)]
    · rw [updC_same e6]
      rcases (show k = 1 ∨ k = 2 ∨ k = 3 ∨ k = 4 ∨ k = 5 ∨ k = 8 ∨ k = 9 ∨ k = 10 by omega) with rfl | rfl | rfl | rfl | rfl | rfl | rfl | rfl <;> rfl
set_option maxRecDepth 10000 in
theorem c_hauntM (d : Nat) {m : Nat → Nat} {thr : Int32} {S : CS} {st rw : Nat → Int32} {g n : Nat} (hg : g < S.2.2.2.1) (h6 : S.2.2.2.1 ≤ 6) (g0 : S.2.2.1 g 0 < 63) (T : InvT S.1 S.2.1) {h : gH} (M : MdlAt h m thr S (lb (S.1 7)) st rw) {mc ms : Nat} {Post : Option Value → gH → Prop} {X : String → gH → Prop} (hp : ∀ h', MdlAt h' m thr (S.1, (hauF S.1 (S.2.1, S.2.2.1, n) g).1, (hauF S.1 (S.2.1, S.2.2.1, n) g).2.1, S.2.2.2) (lb (S.1 7)) st rw → gFr (mS m) h h' → Post none h') : gSafe (d + 2) mX6_haunt [.ref (m 0), .int (nI g)] h mc ms Post X := by
  have M0 := M.own0
  obtain ⟨f8, e8, k8⟩ := M.a8
  have t5 := thg_lt S.1 (S.2.2.1 g 0)
  unfold hauF at hp
  refine ⟨Nat.le_of_ble_eq_true rfl, fun K hK => ?_⟩
  show K 0 [some (.ref (m 0)), some (.int (nI g)), none, none] [] _ _ _
  refine s_aload_n hK dX6_haunt_0 rfl ?_
  refine s_iload_n hK dX6_haunt_1 rfl ?_
  refine s_iconst hK (v := 0) dX6_haunt_2 (by decide) ?_
  refine s_V20 hK dX6_haunt_3 kV_X6_95 (by first | assumption | exact H.1 | exact H.2.1) (by rfl) ?_
  refine c_sp (k := 0) _ (by omega) (by omega) M ?_
  refine s_istore_n hK dX6_haunt_6 rfl ?_
  refine s_aload_n hK dX6_haunt_7 rfl ?_
  refine s_getfield hK dX6_haunt_8 kF_X6_32 (by first | assumption | exact H.1 | exact H.2.1) (by rfl) ?_
  refine s_iload_n hK dX6_haunt_11 rfl ?_
  refine s_baloadN hK dX6_haunt_12 (by assumption) (by omega) (by omega) ?_
  rw [k8 _ g0]
  cases e7 : lb (S.1 7) (S.2.2.1 g 0) with
  | true =>
    rw [if_pos e7] at hp
    refine s_ifeq hK dX6_haunt_13 31 (by decide) (fun c_13 => ?_) (fun c_13 => ?_)
    · exact absurd c_13 (by decide)
    · refine s_aload_n hK dX6_haunt_16 rfl ?_
      refine s_iload_n hK dX6_haunt_17 rfl ?_
      refine s_iconst hK (v := 5) dX6_haunt_18 (by decide) ?_
      refine s_aload_n hK dX6_haunt_19 rfl ?_
      refine s_iload_n hK dX6_haunt_20 rfl ?_
      refine s_iconst hK (v := 5) dX6_haunt_21 (by decide) ?_
      refine s_V20 hK dX6_haunt_22 kV_X6_95 (by first | assumption | exact H.1 | exact H.2.1) (by rfl) ?_
      refine c_sp (k := 5) _ (by omega) (by omega) M ?_
      refine s_iconst hK (v := 1) dX6_haunt_25 (by decide) ?_
      refine s_iadd hK dX6_haunt_26 ?_
      rw [nI_1]
      refine s_V30 hK dX6_haunt_27 kV_X6_117 (by first | assumption | exact H.1 | exact H.2.1) (by rfl) ?_
      refine c_putM (k := 5) _ (by omega) (by omega) M (fun h2 R2 F2 => ?_)
      have M2 := M_put (g := g) (k := 5) (v := S.2.2.1 g 5 + 1) (by omega) (by omega) (by omega) R2
      refine s_return hK dX6_haunt_30 rfl ?_
      exact hp h2 M2 F2
  | false =>
    rw [if_neg (by rw [e7]; decide)] at hp
    obtain ⟨f3, e3, k3⟩ := M.a3
    refine s_ifeq hK dX6_haunt_13 31 (by decide) (fun c_13 => ?_) (fun c_13 => ?_)
    · refine s_aload_n hK dX6_haunt_31 rfl ?_
      refine s_getfield hK dX6_haunt_32 kF_X6_16 (by first | assumption | exact H.1 | exact H.2.1) (by rfl) ?_
      refine s_iload_n hK dX6_haunt_35 rfl ?_
      refine s_ialoadN hK dX6_haunt_36 (by assumption) (by omega) (by omega) ?_
      rw [k3 _ g0]
      refine s_iconst hK (v := 4) dX6_haunt_37 (by decide) ?_
      refine s_icmpeq hK dX6_haunt_38 42 (by decide) (fun c_38 => ?_) (fun c_38 => ?_)
      · have e4 : lb (S.1 4) (S.2.2.1 g 0) = true := (thg4 T _).mp ((nI_eq (b := 4) (by omega) (by omega)).mp c_38)
        rw [if_pos e4] at hp
        obtain ⟨v, v1, v2, -⟩ := T.2.2.2.2.2 _ g0
        have ev : mkNext (S.2.1 (S.2.2.1 g 0)) = nI (mk2 v) := by rw [v2]; exact mk_eq ⟨v, v1⟩
        rw [show (S.2.1, S.2.2.1, n).1 (S.2.2.1 g 0) = S.2.1 (S.2.2.1 g 0) from rfl, ev] at hp
        obtain ⟨f4, e44, k4⟩ := M.a4
        refine s_aload_n hK dX6_haunt_42 rfl ?_
        refine s_getfield hK dX6_haunt_43 kF_X6_20 (by first | assumption | exact H.1 | exact H.2.1) (by rfl) ?_
        refine s_iload_n hK dX6_haunt_46 rfl ?_
        refine s_ialoadN hK dX6_haunt_47 (by assumption) (by omega) (by omega) ?_
        rw [k4 _ g0, v2]
        refine s_iconst hK (v := 1) dX6_haunt_48 (by decide) ?_
        refine s_iadd hK dX6_haunt_49 ?_
        rw [nI_1]
        refine s_bipush hK (v := 100) dX6_haunt_50 (by decide) ?_
        refine s_irem hK dX6_haunt_52 (by decide) ?_
        rw [show (100 : Int32) = nI 100 from rfl, pk_rem (by omega) (by omega) (by omega)]
        have hp2 := hp
        have vb : (v + 1) % 100 < 100 := Nat.mod_lt _ (by omega)
        have fin : ∀ x : Int32, x = nI (mk2 v) → ∀ w3, K 82 [some (.ref (m 0)), some (.int (nI g)), some (.int (nI (S.2.2.1 g 0))), w3] [.int x, .int (nI (S.2.2.1 g 0)), .ref (m 4)] h mc ms := by
          intro x ex w3
          subst ex
          refine s_iastoreN hK dX6_haunt_82 (by assumption) (by omega) (by omega) ?_
          have M2 := M.val (c := S.2.2.1 g 0) (x := nI (mk2 v)) k4
          have F2 : gFr (mS m) h (gU h (m 4) (.inl (0, 63, .inl (upd f4 (S.2.2.1 g 0) (nI (mk2 v)))))) := gFr.mdl (k := 4) (gFr_U _ _ _) (by omega)
          generalize gU h (m 4) (.inl (0, 63, .inl (upd f4 (S.2.2.1 g 0) (nI (mk2 v))))) = h2 at M2 F2
          clear M0 e8 k8 e3 k3 e44 k4
          have M0 := M2.own0
          refine s_aload_n hK dX6_haunt_83 rfl ?_
          refine s_iload_n hK dX6_haunt_84 rfl ?_
          refine s_iconst hK (v := 4) dX6_haunt_85 (by decide) ?_
          refine s_aload_n hK dX6_haunt_86 rfl ?_
          refine s_iload_n hK dX6_haunt_87 rfl ?_
          refine s_iconst hK (v := 4) dX6_haunt_88 (by decide) ?_
          refine s_V20 hK dX6_haunt_89 kV_X6_95 (by first | assumption | exact H.1 | exact H.2.1) (by rfl) ?_
          refine c_sp (k := 4) _ (by omega) (by omega) M2 ?_
          refine s_iconst hK (v := 1) dX6_haunt_92 (by decide) ?_
          refine s_iadd hK dX6_haunt_93 ?_
          rw [nI_1]
          refine s_V30 hK dX6_haunt_94 kV_X6_117 (by first | assumption | exact H.1 | exact H.2.1) (by rfl) ?_
          refine c_putM (k := 4) _ (by omega) (by omega) M2 (fun h3 R3 F3 => ?_)
          have F3 := F2.tr F3
          have M0 := R3.1
          obtain ⟨f7, e7b, k7⟩ := R3.2.1 7 (by omega) (by omega)
          have e7b : h3 (m 7) = some (.inl (0, 2, .inl f7)) := e7b
          have k71 : f7 1 = nI (sumT S.2.2.1 6 S.2.2.2.1) := (k7 1 (by decide)).trans (updC_same (by decide))
          refine s_aload_n hK dX6_haunt_97 rfl ?_
          refine s_getfield hK dX6_haunt_98 kF_X6_29 (by first | assumption | exact H.1 | exact H.2.1) (by rfl) ?_
          refine s_iconst hK (v := 1) dX6_haunt_101 (by decide) ?_
          refine s_dup2 hK dX6_haunt_102 rfl rfl ?_
          refine s_ialoadN hK (j := 1) dX6_haunt_103 e7b (by omega) (by omega) ?_
          rw [k71]
          refine s_iconst hK (v := 1) dX6_haunt_104 (by decide) ?_
          refine s_iadd hK dX6_haunt_105 ?_
          rw [nI_1]
          refine s_iastoreN hK (j := 1) dX6_haunt_106 e7b (by omega) (by omega) ?_
          have R4 := RawM.set (k := 7) (i := 1) (x := nI (sumT S.2.2.1 6 S.2.2.2.1 + 1)) R3 (by omega) (by omega) k7
          have M4 : MdlAt (gU h3 (m 7) (.inl (0, 2, .inl (upd f7 1 (nI (sumT S.2.2.1 6 S.2.2.2.1 + 1)))))) m thr (S.1, upd S.2.1 (S.2.2.1 g 0) (nI (mk2 v)), setG S.2.2.1 g 4 (S.2.2.1 g 4 + 1), S.2.2.2) (lb (S.1 7)) st rw := M_inc (S := (S.1, upd S.2.1 (S.2.2.1 g 0) (nI (mk2 v)), S.2.2)) hg h6 R4
          refine s_return hK dX6_haunt_107 rfl ?_
          exact hp _ M4 (F3.tr (gFr.mdl (k := 7) (gFr_U _ _ _) (by omega)))
        refine s_istore_n hK dX6_haunt_53 rfl ?_
        refine s_aload_n hK dX6_haunt_54 rfl ?_
        refine s_getfield hK dX6_haunt_55 kF_X6_20 (by first | assumption | exact H.1 | exact H.2.1) (by rfl) ?_
        refine s_iload_n hK dX6_haunt_58 rfl ?_
        refine s_iload_n hK dX6_haunt_59 rfl ?_
        refine s_bipush hK (v := 13) dX6_haunt_60 (by decide) ?_
        refine s_irem hK dX6_haunt_62 (by decide) ?_
        rw [show (13 : Int32) = nI 13 from rfl, pk_rem (by omega) (by omega) (by omega)]
        refine s_ifne hK dX6_haunt_63 81 (by decide) (fun c_63 => ?_) (fun c_63 => ?_)
        · have q : ¬ (v + 1) % 100 % 13 = 0 := fun z => c_63 (by rw [z]; rfl)
          refine s_iload_n hK dX6_haunt_81 rfl ?_
          exact fin _ (by unfold mk2; rw [if_neg q]) _
        · have q : (v + 1) % 100 % 13 = 0 := (nI_eq (b := 0) (by omega) (by omega)).mp c_63
          refine s_iload_n hK dX6_haunt_66 rfl ?_
          refine s_bipush hK (v := 10) dX6_haunt_67 (by decide) ?_
          refine s_irem hK dX6_haunt_69 (by decide) ?_
          rw [show (10 : Int32) = nI 10 from rfl, pk_rem (by omega) (by omega) (by omega)]
          refine s_bipush hK (v := 10) dX6_haunt_70 (by decide) ?_
          refine s_imul hK dX6_haunt_72 ?_
          rw [show (10 : Int32) = nI 10 from rfl, pk_mul]
          refine s_iload_n hK dX6_haunt_73 rfl ?_
          refine s_bipush hK (v := 10) dX6_haunt_74 (by decide) ?_
          refine s_idiv hK dX6_haunt_76 (by decide) ?_
          rw [show (10 : Int32) = nI 10 from rfl, pk_div (by omega) (by omega) (by omega)]
          refine s_iadd hK dX6_haunt_77 ?_
          rw [nI_add]
          refine s_goto hK dX6_haunt_78 82 (by decide) ?_
          exact fin _ (by unfold mk2; rw [if_pos q]) _
      · have e4 : ¬ lb (S.1 4) (S.2.2.1 g 0) = true := fun z => c_38 (by rw [(thg4 T _).mpr z]; rfl)
        rw [if_neg e4] at hp
        refine s_return hK dX6_haunt_41 rfl ?_
        exact hp h M (gFr_rf _ _)
    · exact absurd rfl c_13
