/-! the model's things -/
theorem isIn_nI {a b t : Nat} (ha : a < 2 ^ 31) (hb : b < 2 ^ 31) (ht : t < 2 ^ 31) : (decide (¬ nI t < nI a) && decide (nI t ≤ nI b)) = (decide (a ≤ t) && decide (t ≤ b)) := by
  have e1 : (¬ nI t < nI a) ↔ a ≤ t := by
    rw [nI_ltI ht ha]
    omega
  rw [decide_eq_decide.mpr e1, decide_eq_decide.mpr (nI_leI ht hb)]
def inT (L : Nat → Int64) (a b : Nat) (c : Nat) : Bool := decide (a ≤ thg L c) && decide (thg L c ≤ b)
set_option maxRecDepth 10000 in
theorem c_things (d : Nat) {m : Nat → Nat} {thr : Int32} {S : CS} {lt : Nat → Bool} {st rw : Nat → Int32} {a b : Nat} (ha : a < 5) (hb : b < 5) {h : gH} (M : MdlAt h m thr S lt st rw) {mc ms : Nat} {Post : Option Value → gH → Prop} {X : String → gH → Prop} (hp : Post (some (.int (nI (cntG (inT S.1 a b) 63)))) h) : gSafe (d + 2) mX6_things [.ref (m 0), .int (nI a), .int (nI b)] h mc ms Post X := by
  have M0 := M.own0
  obtain ⟨f3, e3, k3⟩ := M.a3
  refine ⟨Nat.le_of_ble_eq_true rfl, fun K hK => ?_⟩
  show K 0 [some (.ref (m 0)), some (.int (nI a)), some (.int (nI b)), none, none, none, none, none] [] _ _ _
  refine s_iconst hK (v := 0) dX6_things_0 (by decide) ?_
  refine s_istore_n hK dX6_things_1 rfl ?_
  refine s_aload_n hK dX6_things_2 rfl ?_
  refine s_getfield hK dX6_things_3 kF_X6_16 (by first | assumption | exact H.1 | exact H.2.1) (by rfl) ?_
  refine s_astore hK dX6_things_6 rfl ?_
  refine s_aload hK dX6_things_8 rfl ?_
  refine s_alen hK dX6_things_10 (by assumption) (by rfl) (by rfl) ?_
  refine s_istore hK dX6_things_11 rfl ?_
  refine s_iconst hK (v := 0) dX6_things_13 (by decide) ?_
  refine s_istore hK dX6_things_14 rfl ?_
  have loop : ∀ t i, i + t = 63 → ∀ w, K 16 [some (.ref (m 0)), some (.int (nI a)), some (.int (nI b)), some (.int (nI (cntG (inT S.1 a b) i))), some (.ref (m 3)), some (.int (nI 63)), some (.int (nI i)), w] [] h mc ms := by
    intro t
    induction t with
    | zero =>
      intro i hi w
      obtain rfl : i = 63 := by omega
      refine s_iload hK dX6_things_16 rfl ?_
      refine s_iload hK dX6_things_18 rfl ?_
      refine s_icmpge hK dX6_things_20 54 (by decide) (fun c_20 => ?_) (fun c_20 => ?_)
      · refine s_iload_n hK dX6_things_54 rfl ?_
        refine s_ireturn hK dX6_things_55 rfl (by first | rfl | exact b01_nar _) ?_
        exact hp
      · exact absurd (Int32.le_refl (nI 63)) c_20
    | succ t ih =>
      intro i hi w
      have t5 := thg_lt S.1 i
      refine s_iload hK dX6_things_16 rfl ?_
      refine s_iload hK dX6_things_18 rfl ?_
      refine s_icmpge hK dX6_things_20 54 (by decide) (fun c_20 => ?_) (fun c_20 => ?_)
      · exact absurd c_20 (nI_ge (b := 63) (by omega) (by omega))
      · refine s_aload hK dX6_things_23 rfl ?_
        refine s_iload hK dX6_things_25 rfl ?_
        refine s_ialoadN hK dX6_things_27 (by assumption) (by omega) (by omega) ?_
        rw [k3 _ (by omega)]
        refine s_istore hK dX6_things_28 rfl ?_
        refine s_iload_n hK dX6_things_30 rfl ?_
        refine s_iload hK dX6_things_31 rfl ?_
        refine s_iload_n hK dX6_things_33 rfl ?_
        refine s_iload_n hK dX6_things_34 rfl ?_
        refine s_S30 hK dX6_things_35 kS_X6_45 (by rfl) ?_
        refine c_isIn _ ?_
        rw [isIn_nI (by omega) (by omega) (by omega)]
        rw [show (decide (a ≤ thg S.1 i) && decide (thg S.1 i ≤ b)) = inT S.1 a b i from rfl]
        cases e : inT S.1 a b i with
        | false =>
          have ec : cntG (inT S.1 a b) (i + 1) = cntG (inT S.1 a b) i := by
            show (if _ then _ else _) = _
            rw [if_neg (by simp [e])]
          refine s_ifeq hK dX6_things_38 45 (by decide) (fun c_38 => ?_) (fun c_38 => ?_)
          · refine s_iconst hK (v := 0) dX6_things_45 (by decide) ?_
            refine s_iadd hK dX6_things_46 ?_
            refine s_istore_n hK dX6_things_47 rfl ?_
            refine s_iinck hK (v := 1) dX6_things_48 rfl (by decide) rfl ?_
            refine s_goto hK dX6_things_51 16 (by decide) ?_
            rw [nI_1]
            have r := ih (i + 1) (by omega) (some (.int (nI (thg S.1 i))))
            rw [ec] at r
            rw [show nI (cntG (inT S.1 a b) i) + 0 = nI (cntG (inT S.1 a b) i) from Int32.add_zero _]
            exact r
          · exact absurd rfl c_38
        | true =>
          have ec : cntG (inT S.1 a b) (i + 1) = cntG (inT S.1 a b) i + 1 := by
            show (if _ then _ else _) = _
            rw [if_pos e]
          refine s_ifeq hK dX6_things_38 45 (by decide) (fun c_38 => ?_) (fun c_38 => ?_)
          · exact absurd c_38 (by decide)
          · refine s_iconst hK (v := 1) dX6_things_41 (by decide) ?_
            refine s_goto hK dX6_things_42 46 (by decide) ?_
            refine s_iadd hK dX6_things_46 ?_
            refine s_istore_n hK dX6_things_47 rfl ?_
            refine s_iinck hK (v := 1) dX6_things_48 rfl (by decide) rfl ?_
            refine s_goto hK dX6_things_51 16 (by decide) ?_
            rw [nI_1, nI_1]
            have r := ih (i + 1) (by omega) (some (.int (nI (thg S.1 i))))
            rw [ec] at r
            exact r
  exact loop 63 0 (by omega) none
/-- how many things are alike, by the model -/
def alikeN (L : Nat → Int64) (t : Nat) : Nat := if t = 2 ∨ t = 3 then cntG (inT L 2 3) 63 else cntG (inT L t t) 63
set_option maxRecDepth 10000 in
theorem c_setM (d : Nat) {m : Nat → Nat} {thr v : Int32} {S S' : CS} {lt : Nat → Bool} {st rw : Nat → Int32} {c t : Nat} {b : Bool} (hc : c < 63) (ht : t < 5) {h : gH} (M : MdlAt h m thr S lt st rw) (eg : S'.2.2.2.1 = S.2.2.2.1) (eS : ∀ k j, 1 ≤ k → k < 11 → j < mLen k → updC (updC (updC (mC S lt st rw) 3 c (nI t)) 4 c v) 5 c (b01 b) k j = mC S' lt st rw k j) {mc ms : Nat} {Post : Option Value → gH → Prop} {X : String → gH → Prop} (hp : ∀ h', MdlAt h' m thr S' lt st rw → gFr (mS m) h h' → Post (some (.int (nI (alikeN S'.1 t)))) h') : gSafe (d + 3) mX6_set [.ref (m 0), .int (nI c), .int (nI t), .int v, .int (b01 b)] h mc ms Post X := by
  have M0 := M.own0
  obtain ⟨f3, e3, k3⟩ := M.a3
  obtain ⟨f4, e4, k4⟩ := M.a4
  obtain ⟨f5, e5, k5⟩ := M.a5
  have inj := M.2.2
  have n34 : m 4 ≠ m 3 := fun z => by have := inj 4 3 (by omega) (by omega) z; omega
  have n35 : m 5 ≠ m 3 := fun z => by have := inj 5 3 (by omega) (by omega) z; omega
  have n45 : m 5 ≠ m 4 := fun z => by have := inj 5 4 (by omega) (by omega) z; omega
  have n03 : m 0 ≠ m 3 := fun z => by have := inj 0 3 (by omega) (by omega) z; omega
  have n04 : m 0 ≠ m 4 := fun z => by have := inj 0 4 (by omega) (by omega) z; omega
  refine ⟨Nat.le_of_ble_eq_true rfl, fun K hK => ?_⟩
  show K 0 [some (.ref (m 0)), some (.int (nI c)), some (.int (nI t)), some (.int v), some (.int (b01 b))] [] _ _ _
  refine s_aload_n hK dX6_set_0 rfl ?_
  refine s_getfield hK dX6_set_1 kF_X6_16 (by first | assumption | exact H.1 | exact H.2.1) (by rfl) ?_
  refine s_iload_n hK dX6_set_4 rfl ?_
  refine s_iload_n hK dX6_set_5 rfl ?_
  refine s_iastoreN hK dX6_set_6 (by assumption) (by omega) (by omega) ?_
  have R1 := RawM.set (k := 3) (i := c) (x := nI t) M (by omega) (by omega) k3
  have F1 : gFr (mS m) h (gU h (m 3) (.inl (0, 63, .inl (upd f3 c (nI t))))) := gFr.mdl (k := 3) (gFr_U _ _ _) (by omega)
  have M0 : gU h (m 3) (.inl (0, 63, .inl (upd f3 c (nI t)))) (m 0) = _ := (gU_ne n03).trans M0
  have e4 : gU h (m 3) (.inl (0, 63, .inl (upd f3 c (nI t)))) (m 4) = _ := (gU_ne n34).trans e4
  have e5 : gU h (m 3) (.inl (0, 63, .inl (upd f3 c (nI t)))) (m 5) = _ := (gU_ne n35).trans e5
  have R1 : RawM (gU h (m 3) (.inl (0, 63, .inl (upd f3 c (nI t))))) m thr S.2.2.2.1 _ := R1
  generalize gU h (m 3) (.inl (0, 63, .inl (upd f3 c (nI t)))) = h1 at R1 F1 M0 e4 e5
  refine s_aload_n hK dX6_set_7 rfl ?_
  refine s_getfield hK dX6_set_8 kF_X6_20 (by first | assumption | exact H.1 | exact H.2.1) (by rfl) ?_
  refine s_iload_n hK dX6_set_11 rfl ?_
  refine s_iload_n hK dX6_set_12 rfl ?_
  refine s_iastoreN hK dX6_set_13 (by assumption) (by omega) (by omega) ?_
  have R2 := RawM.set (k := 4) (i := c) (x := v) (f' := f4) R1 (by omega) (by omega) (fun j hj => (k4 j hj).trans (updC_same (C := mC S lt st rw) (k := 3) (i := c) (x := nI t) (k' := 4) (j := j) (by decide)).symm)
  have F2 : gFr (mS m) h (gU h1 (m 4) (.inl (0, 63, .inl (upd f4 c v)))) := F1.tr (gFr.mdl (k := 4) (gFr_U _ _ _) (by omega))
  have M0 : gU h1 (m 4) (.inl (0, 63, .inl (upd f4 c v))) (m 0) = _ := (gU_ne n04).trans M0
  have e5 : gU h1 (m 4) (.inl (0, 63, .inl (upd f4 c v))) (m 5) = _ := (gU_ne n45).trans e5
  have R2 : RawM (gU h1 (m 4) (.inl (0, 63, .inl (upd f4 c v)))) m thr S.2.2.2.1 _ := R2
  generalize gU h1 (m 4) (.inl (0, 63, .inl (upd f4 c v))) = h2 at R2 F2 M0 e5
  refine s_aload_n hK dX6_set_14 rfl ?_
  refine s_getfield hK dX6_set_15 kF_X6_23 (by first | assumption | exact H.1 | exact H.2.1) (by rfl) ?_
  refine s_iload_n hK dX6_set_18 rfl ?_
  refine s_iload hK dX6_set_19 rfl ?_
  refine s_iastoreN hK dX6_set_21 (by assumption) (by omega) (by omega) ?_
  have R3 := RawM.set (k := 5) (i := c) (x := b01 b) (f' := f5) R2 (by omega) (by omega) (fun j hj => (k5 j hj).trans ((updC_same (C := updC (mC S lt st rw) 3 c (nI t)) (k := 4) (i := c) (x := v) (k' := 5) (j := j) (by decide)).trans (updC_same (C := mC S lt st rw) (k := 3) (i := c) (x := nI t) (k' := 5) (j := j) (by decide))).symm)
  have F3 : gFr (mS m) h (gU h2 (m 5) (.inl (0, 63, .inl (upd f5 c (b01 b))))) := F2.tr (gFr.mdl (k := 5) (gFr_U _ _ _) (by omega))
  have R3 : RawM (gU h2 (m 5) (.inl (0, 63, .inl (upd f5 c (b01 b))))) m thr S.2.2.2.1 _ := R3
  generalize gU h2 (m 5) (.inl (0, 63, .inl (upd f5 c (b01 b)))) = h3 at R3 F3
  have M3 : MdlAt h3 m thr S' lt st rw := by
    unfold MdlAt
    rw [eg]
    exact R3.cong eS
  clear R1 R2 R3 M0
  have M0 := M3.own0
  have res := hp h3 M3 F3
  unfold alikeN at res
  have two : t = 2 ∨ t = 3 → K 32 [some (.ref (m 0)), some (.int (nI c)), some (.int (nI t)), some (.int v), some (.int (b01 b))] [] h3 mc ms := by
    intro q
    rw [if_pos q] at res
    refine s_aload_n hK dX6_set_32 rfl ?_
    refine s_iconst hK (v := 2) dX6_set_33 (by decide) ?_
    refine s_iconst hK (v := 3) dX6_set_34 (by decide) ?_
    refine s_V20 hK dX6_set_35 kV_X6_60 (by first | assumption | exact H.1 | exact H.2.1) (by rfl) ?_
    refine c_things (a := 2) (b := 3) _ (by omega) (by omega) M3 ?_
    refine s_goto hK dX6_set_38 47 (by decide) ?_
    refine s_ireturn hK dX6_set_47 rfl (by first | rfl | exact b01_nar _) ?_
    exact res
  refine s_iload_n hK dX6_set_22 rfl ?_
  refine s_iconst hK (v := 2) dX6_set_23 (by decide) ?_
  refine s_icmpeq hK dX6_set_24 32 (by decide) (fun c_24 => ?_) (fun c_24 => ?_)
  · exact two (Or.inl ((nI_eq (b := 2) (by omega) (by omega)).mp c_24))
  · have q2 : ¬ t = 2 := fun z => c_24 (by rw [z]; rfl)
    refine s_iload_n hK dX6_set_27 rfl ?_
    refine s_iconst hK (v := 3) dX6_set_28 (by decide) ?_
    refine s_icmpne hK dX6_set_29 41 (by decide) (fun c_29 => ?_) (fun c_29 => ?_)
    · have q3 : ¬ t = 3 := fun z => c_29 (by rw [z]; rfl)
      rw [if_neg (by omega)] at res
      refine s_aload_n hK dX6_set_41 rfl ?_
      refine s_iload_n hK dX6_set_42 rfl ?_
      refine s_iload_n hK dX6_set_43 rfl ?_
      refine s_V20 hK dX6_set_44 kV_X6_60 (by first | assumption | exact H.1 | exact H.2.1) (by rfl) ?_
      refine c_things _ (by omega) (by omega) M3 ?_
      refine s_ireturn hK dX6_set_47 rfl (by first | rfl | exact b01_nar _) ?_
      exact res
    · exact two (Or.inr ((nI_eq (b := 3) (by omega) (by omega)).mp c_29))
