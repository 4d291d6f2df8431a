/-! what the model counts and tells -/
theorem add_b01 (n : Nat) (b : Bool) : nI n + b01 b = nI (if b then n + 1 else n) := by
  cases b with
  | false => exact Int32.add_zero _
  | true => exact nI_1 n
theorem cntG_succ (p : Nat → Bool) (n : Nat) : cntG p (n + 1) = if p n then cntG p n + 1 else cntG p n := rfl
set_option maxRecDepth 10000 in
theorem c_burningM (d : Nat) {m : Nat → Nat} {thr : Int32} {S : CS} {lt : Nat → Bool} {st rw : Nat → Int32} {h : gH} (M : MdlAt h m thr S lt st rw) (T : InvT S.1 S.2.1) {mc ms : Nat} {Post : Option Value → gH → Prop} {X : String → gH → Prop} (hp : Post (some (.int (iPop (S.1 1)))) h) : gSafe (d + 1) mX6_burning [.ref (m 0)] h mc ms Post X := by
  rw [pop63 (SB_of T (by omega))] at hp
  have M0 := M.own0
  obtain ⟨f5, e5, k5⟩ := M.a5
  refine ⟨Nat.le_of_ble_eq_true rfl, fun K hK => ?_⟩
  show K 0 [some (.ref (m 0)), none, none, none, none, none] [] _ _ _
  refine s_iconst hK (v := 0) dX6_burning_0 (by decide) ?_
  refine s_istore_n hK dX6_burning_1 rfl ?_
  refine s_aload_n hK dX6_burning_2 rfl ?_
  refine s_getfield hK dX6_burning_3 kF_X6_23 (by first | assumption | exact H.1 | exact H.2.1) (by rfl) ?_
  refine s_astore_n hK dX6_burning_6 rfl ?_
  refine s_aload_n hK dX6_burning_7 rfl ?_
  refine s_alen hK dX6_burning_8 (by assumption) (by rfl) (by rfl) ?_
  refine s_istore_n hK dX6_burning_9 rfl ?_
  refine s_iconst hK (v := 0) dX6_burning_10 (by decide) ?_
  refine s_istore hK dX6_burning_11 rfl ?_
  have loop : ∀ t i, i + t = 63 → ∀ w, K 13 [some (.ref (m 0)), some (.int (nI (cntG (lb (S.1 1)) i))), some (.ref (m 5)), some (.int (nI 63)), some (.int (nI i)), w] [] h mc ms := by
    intro t
    induction t with
    | zero =>
      intro i hi w
      obtain rfl : i = 63 := by omega
      refine s_iload hK dX6_burning_13 rfl ?_
      refine s_iload_n hK dX6_burning_15 rfl ?_
      refine s_icmpge hK dX6_burning_16 36 (by decide) (fun c_16 => ?_) (fun c_16 => ?_)
      · refine s_iload_n hK dX6_burning_36 rfl ?_
        refine s_ireturn hK dX6_burning_37 rfl (by first | rfl | exact b01_nar _) ?_
        exact hp
      · exact absurd (Int32.le_refl (nI 63)) c_16
    | succ t ih =>
      intro i hi w
      refine s_iload hK dX6_burning_13 rfl ?_
      refine s_iload_n hK dX6_burning_15 rfl ?_
      refine s_icmpge hK dX6_burning_16 36 (by decide) (fun c_16 => ?_) (fun c_16 => ?_)
      · exact absurd c_16 (nI_ge (b := 63) (by omega) (by omega))
      · refine s_aload_n hK dX6_burning_19 rfl ?_
        refine s_iload hK dX6_burning_20 rfl ?_
        refine s_ialoadN hK dX6_burning_22 (by assumption) (by omega) (by omega) ?_
        rw [k5 _ (by omega)]
        refine s_istore hK dX6_burning_23 rfl ?_
        refine s_iload_n hK dX6_burning_25 rfl ?_
        refine s_iload hK dX6_burning_26 rfl ?_
        refine s_iadd hK dX6_burning_28 ?_
        refine s_istore_n hK dX6_burning_29 rfl ?_
        refine s_iinck hK (v := 1) dX6_burning_30 rfl (by decide) rfl ?_
        refine s_goto hK dX6_burning_33 13 (by decide) ?_
        rw [nI_1, add_b01, ← cntG_succ]
        exact ih (i + 1) (by omega) _
  exact loop 63 0 (by omega) none
theorem thg4 {L : Nat → Int64} {am : Nat → Int32} (T : InvT L am) (c : Nat) : thg L c = 4 ↔ lb (L 4) c = true := by
  rw [← in44 T c]
  unfold inT
  rw [Bool.and_eq_true, decide_eq_true_eq, decide_eq_true_eq]
  omega
set_option maxRecDepth 10000 in
theorem c_marksM (d : Nat) {m : Nat → Nat} {thr : Int32} {S : CS} {lt : Nat → Bool} {st rw : Nat → Int32} {h : gH} (M : MdlAt h m thr S lt st rw) (T : InvT S.1 S.2.1) {mc ms : Nat} {Post : Option Value → gH → Prop} {X : String → gH → Prop} (hp : Post (some (.int (sumMk S.1 S.2.1 63))) h) : gSafe (d + 1) mX6_marks [.ref (m 0)] h mc ms Post X := by
  have M0 := M.own0
  obtain ⟨f3, e3, k3⟩ := M.a3
  obtain ⟨f4, e4, k4⟩ := M.a4
  refine ⟨Nat.le_of_ble_eq_true rfl, fun K hK => ?_⟩
  show K 0 [some (.ref (m 0)), none, none] [] _ _ _
  refine s_iconst hK (v := 0) dX6_marks_0 (by decide) ?_
  refine s_istore_n hK dX6_marks_1 rfl ?_
  refine s_iconst hK (v := 0) dX6_marks_2 (by decide) ?_
  refine s_istore_n hK dX6_marks_3 rfl ?_
  have loop : ∀ t i, i + t = 63 → K 4 [some (.ref (m 0)), some (.int (sumMk S.1 S.2.1 i)), some (.int (nI i))] [] h mc ms := by
    intro t
    induction t with
    | zero =>
      intro i hi
      obtain rfl : i = 63 := by omega
      refine s_iload_n hK dX6_marks_4 rfl ?_
      refine s_bipush hK (v := 63) dX6_marks_5 (by decide) ?_
      refine s_icmpge hK dX6_marks_7 39 (by decide) (fun c_7 => ?_) (fun c_7 => ?_)
      · refine s_iload_n hK dX6_marks_39 rfl ?_
        refine s_ireturn hK dX6_marks_40 rfl (by first | rfl | exact b01_nar _) ?_
        exact hp
      · exact absurd (Int32.le_refl (nI 63)) c_7
    | succ t ih =>
      intro i hi
      have t5 := thg_lt S.1 i
      refine s_iload_n hK dX6_marks_4 rfl ?_
      refine s_bipush hK (v := 63) dX6_marks_5 (by decide) ?_
      refine s_icmpge hK dX6_marks_7 39 (by decide) (fun c_7 => ?_) (fun c_7 => ?_)
      · exact absurd c_7 (nI_ge (b := 63) (by omega) (by omega))
      · refine s_iload_n hK dX6_marks_10 rfl ?_
        refine s_aload_n hK dX6_marks_11 rfl ?_
        refine s_getfield hK dX6_marks_12 kF_X6_16 (by first | assumption | exact H.1 | exact H.2.1) (by rfl) ?_
        refine s_iload_n hK dX6_marks_15 rfl ?_
        refine s_ialoadN hK dX6_marks_16 (by assumption) (by omega) (by omega) ?_
        rw [k3 _ (by omega)]
        refine s_iconst hK (v := 4) dX6_marks_17 (by decide) ?_
        refine s_icmpne hK dX6_marks_18 30 (by decide) (fun c_18 => ?_) (fun c_18 => ?_)
        · have q : ¬ lb (S.1 4) i = true := fun z => c_18 (by rw [(thg4 T i).mpr z]; rfl)
          have es : sumMk S.1 S.2.1 (i + 1) = sumMk S.1 S.2.1 i := if_neg q
          refine s_iconst hK (v := 0) dX6_marks_30 (by decide) ?_
          refine s_iadd hK dX6_marks_31 ?_
          refine s_istore_n hK dX6_marks_32 rfl ?_
          refine s_iinck hK (v := 1) dX6_marks_33 rfl (by decide) rfl ?_
          refine s_goto hK dX6_marks_36 4 (by decide) ?_
          rw [nI_1, Int32.add_zero, ← es]
          exact ih (i + 1) (by omega)
        · have q : lb (S.1 4) i = true := (thg4 T i).mp ((nI_eq (b := 4) (by omega) (by omega)).mp c_18)
          have es : sumMk S.1 S.2.1 (i + 1) = sumMk S.1 S.2.1 i + S.2.1 i := if_pos q
          refine s_aload_n hK dX6_marks_21 rfl ?_
          refine s_getfield hK dX6_marks_22 kF_X6_20 (by first | assumption | exact H.1 | exact H.2.1) (by rfl) ?_
          refine s_iload_n hK dX6_marks_25 rfl ?_
          refine s_ialoadN hK dX6_marks_26 (by assumption) (by omega) (by omega) ?_
          rw [k4 _ (by omega)]
          refine s_goto hK dX6_marks_27 31 (by decide) ?_
          refine s_iadd hK dX6_marks_31 ?_
          refine s_istore_n hK dX6_marks_32 rfl ?_
          refine s_iinck hK (v := 1) dX6_marks_33 rfl (by decide) rfl ?_
          refine s_goto hK dX6_marks_36 4 (by decide) ?_
          rw [nI_1, ← es]
          exact ih (i + 1) (by omega)
  exact loop 63 0 (by omega)
theorem W_SB {L : Nat → Int64} (I : InvW L) : SB (L 5) ∧ SB (L 6) := by
  unfold SB
  refine ⟨?_, ?_⟩
  · cases e : lb (L 5) 63 with
    | false => rfl
    | true => exact absurd (I.1 _ e).1 (by omega)
  · cases e : lb (L 6) 63 with
    | false => rfl
    | true => exact absurd (I.2 _ e) (by omega)
set_option maxRecDepth 10000 in
theorem c_wallsM (d : Nat) {m : Nat → Nat} {thr : Int32} {S : CS} {lt : Nat → Bool} {st rw : Nat → Int32} {h : gH} (M : MdlAt h m thr S lt st rw) (I : InvW S.1) {mc ms : Nat} {Post : Option Value → gH → Prop} {X : String → gH → Prop} (hp : Post (some (.int (iPop (S.1 5) + iPop (S.1 6)))) h) : gSafe (d + 1) mX6_walls [.ref (m 0)] h mc ms Post X := by
  rw [pop63 (W_SB I).1, pop63 (W_SB I).2, nI_add] at hp
  have M0 := M.own0
  obtain ⟨f1, e1, k1⟩ := M.a1
  obtain ⟨f2, e2, k2⟩ := M.a2
  refine ⟨Nat.le_of_ble_eq_true rfl, fun K hK => ?_⟩
  show K 0 [some (.ref (m 0)), none, none] [] _ _ _
  refine s_iconst hK (v := 0) dX6_walls_0 (by decide) ?_
  refine s_istore_n hK dX6_walls_1 rfl ?_
  refine s_iconst hK (v := 0) dX6_walls_2 (by decide) ?_
  refine s_istore_n hK dX6_walls_3 rfl ?_
  have loop : ∀ t i, i + t = 63 → K 4 [some (.ref (m 0)), some (.int (nI (cntG (lb (S.1 5)) i + cntG (lb (S.1 6)) i))), some (.int (nI i))] [] h mc ms := by
    intro t
    induction t with
    | zero =>
      intro i hi
      obtain rfl : i = 63 := by omega
      refine s_iload_n hK dX6_walls_4 rfl ?_
      refine s_bipush hK (v := 63) dX6_walls_5 (by decide) ?_
      refine s_icmpge hK dX6_walls_7 48 (by decide) (fun c_7 => ?_) (fun c_7 => ?_)
      · refine s_iload_n hK dX6_walls_48 rfl ?_
        refine s_ireturn hK dX6_walls_49 rfl (by first | rfl | exact b01_nar _) ?_
        exact hp
      · exact absurd (Int32.le_refl (nI 63)) c_7
    | succ t ih =>
      intro i hi
      have nxt := ih (i + 1) (by omega)
      rw [cntG_succ, cntG_succ] at nxt
      refine s_iload_n hK dX6_walls_4 rfl ?_
      refine s_bipush hK (v := 63) dX6_walls_5 (by decide) ?_
      refine s_icmpge hK dX6_walls_7 48 (by decide) (fun c_7 => ?_) (fun c_7 => ?_)
      · exact absurd c_7 (nI_ge (b := 63) (by omega) (by omega))
      · have half : ∀ z : Nat, nI (cntG (lb (S.1 5)) i + cntG (lb (S.1 6)) i) + (nI z + b01 (lb (S.1 6) i)) = nI ((cntG (lb (S.1 5)) i + z) + (if lb (S.1 6) i then cntG (lb (S.1 6)) i + 1 else cntG (lb (S.1 6)) i)) := by
          intro z
          rw [add_b01, nI_add]
          congr 1
          split <;> omega
        have tail : ∀ z : Nat, (cntG (lb (S.1 5)) i + z = if lb (S.1 5) i then cntG (lb (S.1 5)) i + 1 else cntG (lb (S.1 5)) i) → K 25 [some (.ref (m 0)), some (.int (nI (cntG (lb (S.1 5)) i + cntG (lb (S.1 6)) i))), some (.int (nI i))] [.int (nI z), .int (nI (cntG (lb (S.1 5)) i + cntG (lb (S.1 6)) i))] h mc ms := by
          intro z ez
          have hz := half z
          rw [ez] at hz
          refine s_aload_n hK dX6_walls_25 rfl ?_
          refine s_getfield hK dX6_walls_26 kF_X6_13 (by first | assumption | exact H.1 | exact H.2.1) (by rfl) ?_
          refine s_iload_n hK dX6_walls_29 rfl ?_
          refine s_baloadN hK dX6_walls_30 (by assumption) (by omega) (by omega) ?_
          rw [k2 _ (by omega)]
          cases e : lb (S.1 6) i with
          | false =>
            rw [e] at hz nxt
            refine s_ifeq hK dX6_walls_31 38 (by decide) (fun c_31 => ?_) (fun c_31 => ?_)
            · refine s_iconst hK (v := 0) dX6_walls_38 (by decide) ?_
              refine s_iadd hK dX6_walls_39 ?_
              refine s_iadd hK dX6_walls_40 ?_
              refine s_istore_n hK dX6_walls_41 rfl ?_
              refine s_iinck hK (v := 1) dX6_walls_42 rfl (by decide) rfl ?_
              refine s_goto hK dX6_walls_45 4 (by decide) ?_
              rw [nI_1, show nI z + 0 = nI z + b01 false from rfl, hz]
              exact nxt
            · exact absurd rfl c_31
          | true =>
            rw [e] at hz nxt
            refine s_ifeq hK dX6_walls_31 38 (by decide) (fun c_31 => ?_) (fun c_31 => ?_)
            · exact absurd c_31 (by decide)
            · refine s_iconst hK (v := 1) dX6_walls_34 (by decide) ?_
              refine s_goto hK dX6_walls_35 39 (by decide) ?_
              refine s_iadd hK dX6_walls_39 ?_
              refine s_iadd hK dX6_walls_40 ?_
              refine s_istore_n hK dX6_walls_41 rfl ?_
              refine s_iinck hK (v := 1) dX6_walls_42 rfl (by decide) rfl ?_
              refine s_goto hK dX6_walls_45 4 (by decide) ?_
              rw [show nI z + 1 = nI z + b01 true from rfl, hz, nI_1]
              exact nxt
        refine s_iload_n hK dX6_walls_10 rfl ?_
        refine s_aload_n hK dX6_walls_11 rfl ?_
        refine s_getfield hK dX6_walls_12 kF_X6_9 (by first | assumption | exact H.1 | exact H.2.1) (by rfl) ?_
        refine s_iload_n hK dX6_walls_15 rfl ?_
        refine s_baloadN hK dX6_walls_16 (by assumption) (by omega) (by omega) ?_
        rw [k1 _ (by omega)]
        cases e : lb (S.1 5) i with
        | false =>
          refine s_ifeq hK dX6_walls_17 24 (by decide) (fun c_17 => ?_) (fun c_17 => ?_)
          · refine s_iconst hK (v := 0) dX6_walls_24 (by decide) ?_
            exact tail 0 (by rw [e]; rfl)
          · exact absurd rfl c_17
        | true =>
          refine s_ifeq hK dX6_walls_17 24 (by decide) (fun c_17 => ?_) (fun c_17 => ?_)
          · exact absurd c_17 (by decide)
          · refine s_iconst hK (v := 1) dX6_walls_20 (by decide) ?_
            refine s_goto hK dX6_walls_21 25 (by decide) ?_
            exact tail 1 (by rw [e]; rfl)
  exact loop 63 0 (by omega)
set_option maxRecDepth 10000 in
theorem c_counted (d : Nat) {m : Nat → Nat} {thr : Int32} {S : CS} {st rw : Nat → Int32} {k : Nat} (hk : k < 10) {h : gH} (M : MdlAt h m thr S (lb (S.1 7)) st rw) (T : InvT S.1 S.2.1) (I : InvW S.1) (h7 : SB (S.1 7)) {mc ms : Nat} {Post : Option Value → gH → Prop} {X : String → gH → Prop} (hp : Post (some (.int (tAll S.1 S.2.1 S.2.2.1 S.2.2.2.1 S.2.2.2.2 k))) h) : gSafe (d + 3) mX6_counted [.ref (m 0), .int (nI k)] h mc ms Post X := by
  have M0 := M.own0
  obtain ⟨f7, e7, k7⟩ := M.a7
  unfold tAll at hp
  refine ⟨Nat.le_of_ble_eq_true rfl, fun K hK => ?_⟩
  show K 0 [some (.ref (m 0)), some (.int (nI k))] [] _ _ _
  refine s_iload_n hK dX6_counted_0 rfl ?_
  match k, hk with
  | 0, _ =>
    refine s_tswI hK dX6_counted_1 52 (by decide) (by rfl) (by decide) ?_
    refine s_aload_n hK dX6_counted_52 rfl ?_
    refine s_getfield hK dX6_counted_53 kF_X6_29 (by first | assumption | exact H.1 | exact H.2.1) (by rfl) ?_
    refine s_iconst hK (v := 0) dX6_counted_56 (by decide) ?_
    refine s_ialoadN hK (j := 0) dX6_counted_57 (by assumption) (by omega) (by omega) ?_
    rw [k7 _ (by omega)]
    refine s_ireturn hK dX6_counted_58 rfl (by first | rfl | exact b01_nar _) ?_
    exact hp
  | 1, _ =>
    refine s_tswI hK dX6_counted_1 59 (by decide) (by rfl) (by decide) ?_
    refine s_aload_n hK dX6_counted_59 rfl ?_
    refine s_getfield hK dX6_counted_60 kF_X6_49 (by first | assumption | exact H.1 | exact H.2.1) (by rfl) ?_
    refine s_ireturn hK dX6_counted_63 rfl (by first | rfl | exact b01_nar _) ?_
    exact hp
  | 2, _ =>
    refine s_tswI hK dX6_counted_1 64 (by decide) (by rfl) (by decide) ?_
    refine s_aload_n hK dX6_counted_64 rfl ?_
    refine s_iconst hK (v := 1) dX6_counted_65 (by decide) ?_
    refine s_iconst hK (v := 1) dX6_counted_66 (by decide) ?_
    refine s_V20 hK dX6_counted_67 kV_X6_60 (by first | assumption | exact H.1 | exact H.2.1) (by rfl) ?_
    refine c_things (a := 1) (b := 1) _ (by omega) (by omega) M ?_
    refine s_ireturn hK dX6_counted_70 rfl (by first | rfl | exact b01_nar _) ?_
    rw [← pop_in (SB_of T (by omega)) (in11 S.1)]
    exact hp
  | 3, _ =>
    refine s_tswI hK dX6_counted_1 71 (by decide) (by rfl) (by decide) ?_
    refine s_aload_n hK dX6_counted_71 rfl ?_
    refine s_V00 hK dX6_counted_72 kV_X6_127 (by first | assumption | exact H.1 | exact H.2.1) (by rfl) ?_
    refine c_burningM _ M T ?_
    refine s_ireturn hK dX6_counted_75 rfl (by first | rfl | exact b01_nar _) ?_
    exact hp
  | 4, _ =>
    refine s_tswI hK dX6_counted_1 76 (by decide) (by rfl) (by decide) ?_
    refine s_aload_n hK dX6_counted_76 rfl ?_
    refine s_iconst hK (v := 2) dX6_counted_77 (by decide) ?_
    refine s_iconst hK (v := 3) dX6_counted_78 (by decide) ?_
    refine s_V20 hK dX6_counted_79 kV_X6_60 (by first | assumption | exact H.1 | exact H.2.1) (by rfl) ?_
    refine c_things (a := 2) (b := 3) _ (by omega) (by omega) M ?_
    refine s_ireturn hK dX6_counted_82 rfl (by first | rfl | exact b01_nar _) ?_
    rw [← pop_23 T]
    exact hp
  | 5, _ =>
    refine s_tswI hK dX6_counted_1 83 (by decide) (by rfl) (by decide) ?_
    refine s_aload_n hK dX6_counted_83 rfl ?_
    refine s_iconst hK (v := 4) dX6_counted_84 (by decide) ?_
    refine s_iconst hK (v := 4) dX6_counted_85 (by decide) ?_
    refine s_V20 hK dX6_counted_86 kV_X6_60 (by first | assumption | exact H.1 | exact H.2.1) (by rfl) ?_
    refine c_things (a := 4) (b := 4) _ (by omega) (by omega) M ?_
    refine s_ireturn hK dX6_counted_89 rfl (by first | rfl | exact b01_nar _) ?_
    rw [← pop_in (SB_of T (by omega)) (in44 T)]
    exact hp
  | 6, _ =>
    refine s_tswI hK dX6_counted_1 90 (by decide) (by rfl) (by decide) ?_
    refine s_aload_n hK dX6_counted_90 rfl ?_
    refine s_V00 hK dX6_counted_91 kV_X6_130 (by first | assumption | exact H.1 | exact H.2.1) (by rfl) ?_
    refine c_wallsM _ M I ?_
    refine s_ireturn hK dX6_counted_94 rfl (by first | rfl | exact b01_nar _) ?_
    exact hp
  | 7, _ =>
    refine s_tswI hK dX6_counted_1 95 (by decide) (by rfl) (by decide) ?_
    refine s_aload_n hK dX6_counted_95 rfl ?_
    refine s_V00 hK dX6_counted_96 kV_X6_80 (by first | assumption | exact H.1 | exact H.2.1) (by rfl) ?_
    refine c_litCells _ M ?_
    refine s_ireturn hK dX6_counted_99 rfl (by first | rfl | exact b01_nar _) ?_
    rw [← pop63 h7]
    exact hp
  | 8, _ =>
    refine s_tswI hK dX6_counted_1 100 (by decide) (by rfl) (by decide) ?_
    refine s_aload_n hK dX6_counted_100 rfl ?_
    refine s_getfield hK dX6_counted_101 kF_X6_29 (by first | assumption | exact H.1 | exact H.2.1) (by rfl) ?_
    refine s_iconst hK (v := 1) dX6_counted_104 (by decide) ?_
    refine s_ialoadN hK (j := 1) dX6_counted_105 (by assumption) (by omega) (by omega) ?_
    rw [k7 _ (by omega)]
    refine s_ireturn hK dX6_counted_106 rfl (by first | rfl | exact b01_nar _) ?_
    exact hp
  | 9, _ =>
    refine s_tswO hK dX6_counted_1 107 (by decide) (by decide) ?_
    refine s_aload_n hK dX6_counted_107 rfl ?_
    refine s_V00 hK dX6_counted_108 kV_X6_133 (by first | assumption | exact H.1 | exact H.2.1) (by rfl) ?_
    refine c_marksM _ M T ?_
    refine s_ireturn hK dX6_counted_111 rfl (by first | rfl | exact b01_nar _) ?_
    exact hp
  | k + 10, q => exact absurd q (by omega)
