/-! the law's own house: small methods -/
def gxI (d : Nat) : Int32 := if d = 1 then 1 else if d = 3 then -1 else 0
def gyI (d : Nat) : Int32 := if d = 2 then 1 else if d = 0 then -1 else 0
theorem gx_1 : ∀ d : Fin 4, nI d.val = 1 → gxI d.val = 1 := by decide +kernel
theorem gx_3 : ∀ d : Fin 4, nI d.val = 3 → gxI d.val = -1 := by decide +kernel
theorem gx_0 : ∀ d : Fin 4, ¬ nI d.val = 1 → ¬ nI d.val = 3 → gxI d.val = 0 := by decide +kernel
theorem gy_2 : ∀ d : Fin 4, nI d.val = 2 → gyI d.val = 1 := by decide +kernel
theorem gy_0 : ∀ d : Fin 4, nI d.val = 0 → gyI d.val = -1 := by decide +kernel
theorem gy_1 : ∀ d : Fin 4, ¬ nI d.val = 2 → ¬ nI d.val = 0 → gyI d.val = 0 := by decide +kernel
theorem c_goX (d : Nat) {dn : Nat} (hd : dn < 4) {h : gH} {mc ms : Nat} {Post : Option Value → gH → Prop} {X : String → gH → Prop} (hp : Post (some (.int (gxI dn))) h) : gSafe (d + 1) mX7_goX [.int (nI dn)] h mc ms Post X := by
  refine ⟨Nat.le_of_ble_eq_true rfl, fun K hK => ?_⟩
  show K 0 [some (.int (nI dn))] [] _ _ _
  refine s_iload_n hK dX7_goX_0 rfl ?_
  refine s_iconst hK (v := 1) dX7_goX_1 (by decide) ?_
  refine s_icmpne hK dX7_goX_2 9 (by decide) (fun c_2 => ?_) (fun c_2 => ?_)
  · refine s_iload_n hK dX7_goX_9 rfl ?_
    refine s_iconst hK (v := 3) dX7_goX_10 (by decide) ?_
    refine s_icmpne hK dX7_goX_11 18 (by decide) (fun c_11 => ?_) (fun c_11 => ?_)
    · rw [gx_0 ⟨dn, hd⟩ c_2 c_11] at hp
      refine s_iconst hK (v := 0) dX7_goX_18 (by decide) ?_
      refine s_ireturn hK dX7_goX_19 rfl (by first | rfl | exact b01_nar _) ?_
      exact hp
    · rw [gx_3 ⟨dn, hd⟩ c_11] at hp
      refine s_iconst hK (v := (-1)) dX7_goX_14 (by decide) ?_
      refine s_goto hK dX7_goX_15 19 (by decide) ?_
      refine s_ireturn hK dX7_goX_19 rfl (by first | rfl | exact b01_nar _) ?_
      exact hp
  · rw [gx_1 ⟨dn, hd⟩ c_2] at hp
    refine s_iconst hK (v := 1) dX7_goX_5 (by decide) ?_
    refine s_goto hK dX7_goX_6 19 (by decide) ?_
    refine s_ireturn hK dX7_goX_19 rfl (by first | rfl | exact b01_nar _) ?_
    exact hp
theorem c_goY (d : Nat) {dn : Nat} (hd : dn < 4) {h : gH} {mc ms : Nat} {Post : Option Value → gH → Prop} {X : String → gH → Prop} (hp : Post (some (.int (gyI dn))) h) : gSafe (d + 1) mX7_goY [.int (nI dn)] h mc ms Post X := by
  refine ⟨Nat.le_of_ble_eq_true rfl, fun K hK => ?_⟩
  show K 0 [some (.int (nI dn))] [] _ _ _
  refine s_iload_n hK dX7_goY_0 rfl ?_
  refine s_iconst hK (v := 2) dX7_goY_1 (by decide) ?_
  refine s_icmpne hK dX7_goY_2 9 (by decide) (fun c_2 => ?_) (fun c_2 => ?_)
  · refine s_iload_n hK dX7_goY_9 rfl ?_
    refine s_ifne hK dX7_goY_10 17 (by decide) (fun c_10 => ?_) (fun c_10 => ?_)
    · rw [gy_1 ⟨dn, hd⟩ c_2 c_10] at hp
      refine s_iconst hK (v := 0) dX7_goY_17 (by decide) ?_
      refine s_ireturn hK dX7_goY_18 rfl (by first | rfl | exact b01_nar _) ?_
      exact hp
    · rw [gy_0 ⟨dn, hd⟩ c_10] at hp
      refine s_iconst hK (v := (-1)) dX7_goY_13 (by decide) ?_
      refine s_goto hK dX7_goY_14 18 (by decide) ?_
      refine s_ireturn hK dX7_goY_18 rfl (by first | rfl | exact b01_nar _) ?_
      exact hp
  · rw [gy_2 ⟨dn, hd⟩ c_2] at hp
    refine s_iconst hK (v := 1) dX7_goY_5 (by decide) ?_
    refine s_goto hK dX7_goY_6 18 (by decide) ?_
    refine s_ireturn hK dX7_goY_18 rfl (by first | rfl | exact b01_nar _) ?_
    exact hp
theorem c_isInS (d : Nat) {x y : Int32} {h : gH} {mc ms : Nat} {Post : Option Value → gH → Prop} {X : String → gH → Prop} (hp : Post (some (.int (b01 (okC x y)))) h) : gSafe (d + 1) mX7_isIn [.int x, .int y] h mc ms Post X := by
  refine ⟨Nat.le_of_ble_eq_true rfl, fun K hK => ?_⟩
  show K 0 [some (.int x), some (.int y)] [] _ _ _
  have bad : okC x y = false → K 24 [some (.int x), some (.int y)] [] h mc ms := by
    intro e
    rw [e] at hp
    refine s_iconst hK (v := 0) dX7_isIn_24 (by decide) ?_
    refine s_ireturn hK dX7_isIn_25 rfl (by first | rfl | exact b01_nar _) ?_
    exact hp
  refine s_iload_n hK dX7_isIn_0 rfl ?_
  refine s_iflt hK dX7_isIn_1 24 (by decide) (fun c_1 => ?_) (fun c_1 => ?_)
  · refine bad ?_
    unfold okC okR
    simp [c_1]
  · refine s_iload_n hK dX7_isIn_4 rfl ?_
    refine s_bipush hK (v := 9) dX7_isIn_5 (by decide) ?_
    refine s_icmpge hK dX7_isIn_7 24 (by decide) (fun c_7 => ?_) (fun c_7 => ?_)
    · refine bad ?_
      unfold okC okR
      have : ¬ x < nI 9 := Int32.not_lt.mpr c_7
      simp [this]
    · refine s_iload_n hK dX7_isIn_10 rfl ?_
      refine s_iflt hK dX7_isIn_11 24 (by decide) (fun c_11 => ?_) (fun c_11 => ?_)
      · refine bad ?_
        unfold okC okR
        simp [c_11]
      · refine s_iload_n hK dX7_isIn_14 rfl ?_
        refine s_bipush hK (v := 7) dX7_isIn_15 (by decide) ?_
        refine s_icmpge hK dX7_isIn_17 24 (by decide) (fun c_17 => ?_) (fun c_17 => ?_)
        · refine bad ?_
          unfold okC okR
          have : ¬ y < nI 7 := Int32.not_lt.mpr c_17
          simp [this]
        · have e : okC x y = true := by
            unfold okC okR
            have h9 : x < nI 9 := Int32.not_le.mp c_7
            have h7 : y < nI 7 := Int32.not_le.mp c_17
            simp [c_1, c_11, h9, h7]
          rw [e] at hp
          refine s_iconst hK (v := 1) dX7_isIn_20 (by decide) ?_
          refine s_goto hK dX7_isIn_21 25 (by decide) ?_
          refine s_ireturn hK dX7_isIn_25 rfl (by first | rfl | exact b01_nar _) ?_
          exact hp
theorem nb_xy : ∀ c : Fin 63, ∀ d : Fin 4, nbOk c.val d.val = true → nI (c.val % 9) + gxI d.val = nI (nbOf c.val d.val % 9) ∧ nI (c.val / 9) + gyI d.val = nI (nbOf c.val d.val / 9) := by decide +kernel
theorem nb_ok : ∀ c : Fin 63, ∀ d : Fin 4, okC (nI (c.val % 9) + gxI d.val) (nI (c.val / 9) + gyI d.val) = nbOk c.val d.val := by decide +kernel
theorem opp_I : ∀ d : Fin 4, nI d.val + 2 - (nI d.val + 2) / 4 * 4 = nI (opp d.val) := by decide +kernel
set_option maxRecDepth 10000 in
theorem c_burning (d : Nat) {m : Nat → Nat} {S : CS} {h : gH} (M : SimAt h m S) {mc ms : Nat} {Post : Option Value → gH → Prop} {X : String → gH → Prop} (hp : Post (some (.int (nI (cntG (lb (S.1 1)) 63)))) h) : gSafe (d + 1) mX7_burning [.ref (m 0)] h mc ms Post X := by
  have M0 := M.c0
  have Z := M.c4
  obtain ⟨cn, hcn⟩ : ∃ cn, cn = cntG (fun q => lb (S.1 1) (cl7 q)) := ⟨_, rfl⟩
  refine ⟨Nat.le_of_ble_eq_true rfl, fun K hK => ?_⟩
  show K 0 [some (.ref (m 0)), none, none, none] [] _ _ _
  refine s_iconst hK (v := 0) dX7_burning_0 (by decide) ?_
  refine s_istore_n hK dX7_burning_1 rfl ?_
  refine s_iconst hK (v := 0) dX7_burning_2 (by decide) ?_
  refine s_istore_n hK dX7_burning_3 rfl ?_
  have loopX : ∀ k x, x + k = 9 → ∀ (v3 : Option Value), K 4 [some (.ref (m 0)), some (.int (nI (cn (7 * x)))), some (.int (nI x)), v3] [] h mc ms := by
    intro k
    induction k with
    | zero =>
      intro x hx v3
      obtain rfl : x = 9 := by omega
      refine s_iload_n hK dX7_burning_4 rfl ?_
      refine s_bipush hK (v := 9) dX7_burning_5 (by decide) ?_
      refine s_icmpge hK dX7_burning_7 49 (by decide) (fun c_7 => ?_) (fun c_7 => ?_)
      · refine s_iload_n hK dX7_burning_49 rfl ?_
        refine s_ireturn hK dX7_burning_50 rfl (by first | rfl | exact b01_nar _) ?_
        rw [hcn, cnt_perm]
        exact hp
      · exact absurd (Int32.le_refl (nI 9)) c_7
    | succ k ih =>
      intro x hx v3
      refine s_iload_n hK dX7_burning_4 rfl ?_
      refine s_bipush hK (v := 9) dX7_burning_5 (by decide) ?_
      refine s_icmpge hK dX7_burning_7 49 (by decide) (fun c_7 => ?_) (fun c_7 => ?_)
      · exact absurd c_7 (nI_ge (b := 9) (by omega) (by omega))
      · refine s_iconst hK (v := 0) dX7_burning_10 (by decide) ?_
        refine s_istore_n hK dX7_burning_11 rfl ?_
        have loopY : ∀ j y, y + j = 7 → K 12 [some (.ref (m 0)), some (.int (nI (cn (7 * x + y)))), some (.int (nI x)), some (.int (nI y))] [] h mc ms := by
          intro j
          induction j with
          | zero =>
            intro y hy
            obtain rfl : y = 7 := by omega
            refine s_iload_n hK dX7_burning_12 rfl ?_
            refine s_bipush hK (v := 7) dX7_burning_13 (by decide) ?_
            refine s_icmpge hK dX7_burning_15 43 (by decide) (fun c_15 => ?_) (fun c_15 => ?_)
            · refine s_iinck hK (v := 1) dX7_burning_43 rfl (by decide) rfl ?_
              refine s_goto hK dX7_burning_46 4 (by decide) ?_
              rw [nI_1, show 7 * x + 7 = 7 * (x + 1) by omega]
              exact ih (x + 1) (by omega) _
            · exact absurd (Int32.le_refl (nI 7)) c_15
          | succ j ihj =>
            intro y hy
            obtain ⟨f, e1, e2⟩ := Z.2 x (by omega)
            have hs := cnt_xy (p := lb (S.1 1)) (x := x) (y := y) (by omega)
            rw [← hcn] at hs
            refine s_iload_n hK dX7_burning_12 rfl ?_
            refine s_bipush hK (v := 7) dX7_burning_13 (by decide) ?_
            refine s_icmpge hK dX7_burning_15 43 (by decide) (fun c_15 => ?_) (fun c_15 => ?_)
            · exact absurd c_15 (nI_ge (b := 7) (by omega) (by omega))
            · refine s_iload_n hK dX7_burning_18 rfl ?_
              refine s_aload_n hK dX7_burning_19 rfl ?_
              refine s_getfield hK dX7_burning_20 kF_X7_24 (by first | assumption | exact H.1 | exact H.2.1) (by rfl) ?_
              refine s_iload_n hK dX7_burning_23 rfl ?_
              refine s_aaload hK dX7_burning_24 Z.1 rfl (show x < 9 by omega) (by omega) (if_pos (show x < 9 by omega)) ?_
              refine s_iload_n hK dX7_burning_25 rfl ?_
              refine s_baloadN hK dX7_burning_26 e1 (show y < 7 by omega) (by omega) ?_
              rw [e2 y (by omega)]
              cases eb : lb (S.1 1) (9 * y + x) with
              | false =>
                refine s_ifeq hK dX7_burning_27 34 (by decide) (fun c_27 => ?_) (fun c_27 => ?_)
                · refine s_iconst hK (v := 0) dX7_burning_34 (by decide) ?_
                  refine s_iadd hK dX7_burning_35 ?_
                  refine s_istore_n hK dX7_burning_36 rfl ?_
                  refine s_iinck hK (v := 1) dX7_burning_37 rfl (by decide) rfl ?_
                  refine s_goto hK dX7_burning_40 12 (by decide) ?_
                  rw [Int32.add_zero, nI_1]
                  rw [eb, if_neg (by decide)] at hs
                  rw [← hs]
                  exact ihj (y + 1) (by omega)
                · exact absurd rfl c_27
              | true =>
                refine s_ifeq hK dX7_burning_27 34 (by decide) (fun c_27 => ?_) (fun c_27 => ?_)
                · exact absurd c_27 (by decide)
                · refine s_iconst hK (v := 1) dX7_burning_30 (by decide) ?_
                  refine s_goto hK dX7_burning_31 35 (by decide) ?_
                  refine s_iadd hK dX7_burning_35 ?_
                  refine s_istore_n hK dX7_burning_36 rfl ?_
                  refine s_iinck hK (v := 1) dX7_burning_37 rfl (by decide) rfl ?_
                  refine s_goto hK dX7_burning_40 12 (by decide) ?_
                  rw [nI_1, nI_1]
                  rw [eb, if_pos rfl] at hs
                  rw [← hs]
                  exact ihj (y + 1) (by omega)
        exact loopY 7 0 (by omega)
  have l0 : cn (7 * 0) = 0 := by rw [hcn]; rfl
  have l1 := loopX 9 0 (by omega) none
  rw [l0] at l1
  exact l1
set_option maxRecDepth 10000 in
theorem c_thingsS (d : Nat) {m : Nat → Nat} {S : CS} {t : Nat} (ht : t < 100) {h : gH} (M : SimAt h m S) {mc ms : Nat} {Post : Option Value → gH → Prop} {X : String → gH → Prop} (hp : Post (some (.int (nI (cntG (fun c => decide (thg S.1 c = t)) 63)))) h) : gSafe (d + 1) mX7_things [.ref (m 0), .int (nI t)] h mc ms Post X := by
  have M0 := M.c0
  have Z := M.c2
  obtain ⟨cn, hcn⟩ : ∃ cn, cn = cntG (fun q => decide (thg S.1 (cl7 q) = t)) := ⟨_, rfl⟩
  refine ⟨Nat.le_of_ble_eq_true rfl, fun K hK => ?_⟩
  show K 0 [some (.ref (m 0)), some (.int (nI t)), none, none, none] [] _ _ _
  refine s_iconst hK (v := 0) dX7_things_0 (by decide) ?_
  refine s_istore_n hK dX7_things_1 rfl ?_
  refine s_iconst hK (v := 0) dX7_things_2 (by decide) ?_
  refine s_istore_n hK dX7_things_3 rfl ?_
  have loopX : ∀ k x, x + k = 9 → ∀ (v4 : Option Value), K 4 [some (.ref (m 0)), some (.int (nI t)), some (.int (nI (cn (7 * x)))), some (.int (nI x)), v4] [] h mc ms := by
    intro k
    induction k with
    | zero =>
      intro x hx v4
      obtain rfl : x = 9 := by omega
      refine s_iload_n hK dX7_things_4 rfl ?_
      refine s_bipush hK (v := 9) dX7_things_5 (by decide) ?_
      refine s_icmpge hK dX7_things_7 53 (by decide) (fun c_7 => ?_) (fun c_7 => ?_)
      · refine s_iload_n hK dX7_things_53 rfl ?_
        refine s_ireturn hK dX7_things_54 rfl (by first | rfl | exact b01_nar _) ?_
        rw [hcn, cnt_perm (fun c => decide (thg S.1 c = t))]
        exact hp
      · exact absurd (Int32.le_refl (nI 9)) c_7
    | succ k ih =>
      intro x hx v4
      refine s_iload_n hK dX7_things_4 rfl ?_
      refine s_bipush hK (v := 9) dX7_things_5 (by decide) ?_
      refine s_icmpge hK dX7_things_7 53 (by decide) (fun c_7 => ?_) (fun c_7 => ?_)
      · exact absurd c_7 (nI_ge (b := 9) (by omega) (by omega))
      · refine s_iconst hK (v := 0) dX7_things_10 (by decide) ?_
        refine s_istore hK dX7_things_11 rfl ?_
        have loopY : ∀ j y, y + j = 7 → K 13 [some (.ref (m 0)), some (.int (nI t)), some (.int (nI (cn (7 * x + y)))), some (.int (nI x)), some (.int (nI y))] [] h mc ms := by
          intro j
          induction j with
          | zero =>
            intro y hy
            obtain rfl : y = 7 := by omega
            refine s_iload hK dX7_things_13 rfl ?_
            refine s_bipush hK (v := 7) dX7_things_15 (by decide) ?_
            refine s_icmpge hK dX7_things_17 47 (by decide) (fun c_17 => ?_) (fun c_17 => ?_)
            · refine s_iinck hK (v := 1) dX7_things_47 rfl (by decide) rfl ?_
              refine s_goto hK dX7_things_50 4 (by decide) ?_
              rw [nI_1, show 7 * x + 7 = 7 * (x + 1) by omega]
              exact ih (x + 1) (by omega) _
            · exact absurd (Int32.le_refl (nI 7)) c_17
          | succ j ihj =>
            intro y hy
            obtain ⟨f, e1, e2⟩ := Z.2 x (by omega)
            have e2 : ∀ y, y < 7 → f y = nI (thg S.1 (9 * y + x)) := e2
            have hs := cnt_xy (p := fun c => decide (thg S.1 c = t)) (x := x) (y := y) (by omega)
            rw [← hcn] at hs
            have h5 : thg S.1 (9 * y + x) < 5 := thg_lt _ _
            refine s_iload hK dX7_things_13 rfl ?_
            refine s_bipush hK (v := 7) dX7_things_15 (by decide) ?_
            refine s_icmpge hK dX7_things_17 47 (by decide) (fun c_17 => ?_) (fun c_17 => ?_)
            · exact absurd c_17 (nI_ge (b := 7) (by omega) (by omega))
            · refine s_iload_n hK dX7_things_20 rfl ?_
              refine s_aload_n hK dX7_things_21 rfl ?_
              refine s_getfield hK dX7_things_22 kF_X7_16 (by first | assumption | exact H.1 | exact H.2.1) (by rfl) ?_
              refine s_iload_n hK dX7_things_25 rfl ?_
              refine s_aaload hK dX7_things_26 Z.1 rfl (show x < 9 by omega) (by omega) (if_pos (show x < 9 by omega)) ?_
              refine s_iload hK dX7_things_27 rfl ?_
              refine s_ialoadN hK dX7_things_29 e1 (show y < 7 by omega) (by omega) ?_
              rw [e2 y (by omega)]
              refine s_iload_n hK dX7_things_30 rfl ?_
              refine s_icmpne hK dX7_things_31 38 (by decide) (fun c_31 => ?_) (fun c_31 => ?_)
              · have en : ¬ thg S.1 (9 * y + x) = t := fun z => c_31 (by rw [z])
                refine s_iconst hK (v := 0) dX7_things_38 (by decide) ?_
                refine s_iadd hK dX7_things_39 ?_
                refine s_istore_n hK dX7_things_40 rfl ?_
                refine s_iinck hK (v := 1) dX7_things_41 rfl (by decide) rfl ?_
                refine s_goto hK dX7_things_44 13 (by decide) ?_
                rw [Int32.add_zero, nI_1]
                rw [decide_eq_false en, if_neg (by decide)] at hs
                rw [← hs]
                exact ihj (y + 1) (by omega)
              · have en : thg S.1 (9 * y + x) = t := (nI_eq (by omega) (by omega)).mp c_31
                refine s_iconst hK (v := 1) dX7_things_34 (by decide) ?_
                refine s_goto hK dX7_things_35 39 (by decide) ?_
                refine s_iadd hK dX7_things_39 ?_
                refine s_istore_n hK dX7_things_40 rfl ?_
                refine s_iinck hK (v := 1) dX7_things_41 rfl (by decide) rfl ?_
                refine s_goto hK dX7_things_44 13 (by decide) ?_
                rw [nI_1, nI_1]
                rw [decide_eq_true en, if_pos rfl] at hs
                rw [← hs]
                exact ihj (y + 1) (by omega)
        exact loopY 7 0 (by omega)
  have l0 : cn (7 * 0) = 0 := by rw [hcn]; rfl
  have l1 := loopX 9 0 (by omega) none
  rw [l0] at l1
  exact l1
set_option maxRecDepth 10000 in
theorem c_many (d : Nat) {q : Nat} {F : Nat → Bool} {h : gH} (Z : Z2 h q F) {mc ms : Nat} {Post : Option Value → gH → Prop} {X : String → gH → Prop} (hp : Post (some (.int (nI (cntG F 63)))) h) : gSafe (d + 1) mX7_many [.ref q] h mc ms Post X := by
  obtain ⟨cn, hcn⟩ : ∃ cn, cn = cntG (fun q => F (cl7 q)) := ⟨_, rfl⟩
  have Z1 := Z.1
  refine ⟨Nat.le_of_ble_eq_true rfl, fun K hK => ?_⟩
  show K 0 [some (.ref q), none, none, none, none, none, none, none, none, none] [] _ _ _
  refine s_iconst hK (v := 0) dX7_many_0 (by decide) ?_
  refine s_istore_n hK dX7_many_1 rfl ?_
  refine s_aload_n hK dX7_many_2 rfl ?_
  refine s_astore_n hK dX7_many_3 rfl ?_
  refine s_aload_n hK dX7_many_4 rfl ?_
  refine s_alen hK dX7_many_5 (by assumption) (by rfl) (by rfl) ?_
  refine s_istore_n hK dX7_many_6 rfl ?_
  refine s_iconst hK (v := 0) dX7_many_7 (by decide) ?_
  refine s_istore hK dX7_many_8 rfl ?_
  have loopX : ∀ k x, x + k = 9 → ∀ (v5 v6 v7 v8 v9 : Option Value), K 10 [some (.ref q), some (.int (nI (cn (7 * x)))), some (.ref q), some (.int (nI 9)), some (.int (nI x)), v5, v6, v7, v8, v9] [] h mc ms := by
    intro k
    induction k with
    | zero =>
      intro x hx v5 v6 v7 v8 v9
      obtain rfl : x = 9 := by omega
      refine s_iload hK dX7_many_10 rfl ?_
      refine s_iload_n hK dX7_many_12 rfl ?_
      refine s_icmpge hK dX7_many_13 73 (by decide) (fun c_13 => ?_) (fun c_13 => ?_)
      · refine s_iload_n hK dX7_many_73 rfl ?_
        refine s_ireturn hK dX7_many_74 rfl (by first | rfl | exact b01_nar _) ?_
        rw [hcn, cnt_perm]
        exact hp
      · exact absurd (Int32.le_refl (nI 9)) c_13
    | succ k ih =>
      intro x hx v5 v6 v7 v8 v9
      obtain ⟨f, e1, e2⟩ := Z.2 x (by omega)
      refine s_iload hK dX7_many_10 rfl ?_
      refine s_iload_n hK dX7_many_12 rfl ?_
      refine s_icmpge hK dX7_many_13 73 (by decide) (fun c_13 => ?_) (fun c_13 => ?_)
      · exact absurd c_13 (nI_ge (b := 9) (by omega) (by omega))
      · refine s_aload_n hK dX7_many_16 rfl ?_
        refine s_iload hK dX7_many_17 rfl ?_
        refine s_aaload hK dX7_many_19 Z1 rfl (show x < 9 by omega) (by omega) (if_pos (show x < 9 by omega)) ?_
        refine s_astore hK dX7_many_20 rfl ?_
        refine s_aload hK dX7_many_22 rfl ?_
        refine s_astore hK dX7_many_24 rfl ?_
        refine s_aload hK dX7_many_26 rfl ?_
        refine s_alen hK dX7_many_28 e1 rfl rfl ?_
        refine s_istore hK dX7_many_29 rfl ?_
        refine s_iconst hK (v := 0) dX7_many_31 (by decide) ?_
        refine s_istore hK dX7_many_32 rfl ?_
        have loopY : ∀ j y, y + j = 7 → ∀ (v9 : Option Value), K 34 [some (.ref q), some (.int (nI (cn (7 * x + y)))), some (.ref q), some (.int (nI 9)), some (.int (nI x)), some (.ref (q + 1 + x)), some (.ref (q + 1 + x)), some (.int (nI 7)), some (.int (nI y)), v9] [] h mc ms := by
          intro j
          induction j with
          | zero =>
            intro y hy v9
            obtain rfl : y = 7 := by omega
            refine s_iload hK dX7_many_34 rfl ?_
            refine s_iload hK dX7_many_36 rfl ?_
            refine s_icmpge hK dX7_many_38 67 (by decide) (fun c_38 => ?_) (fun c_38 => ?_)
            · refine s_iinck hK (v := 1) dX7_many_67 rfl (by decide) rfl ?_
              refine s_goto hK dX7_many_70 10 (by decide) ?_
              rw [nI_1, show 7 * x + 7 = 7 * (x + 1) by omega]
              exact ih (x + 1) (by omega) _ _ _ _ _
            · exact absurd (Int32.le_refl (nI 7)) c_38
          | succ j ihj =>
            intro y hy v9
            have hs := cnt_xy (p := F) (x := x) (y := y) (by omega)
            rw [← hcn] at hs
            refine s_iload hK dX7_many_34 rfl ?_
            refine s_iload hK dX7_many_36 rfl ?_
            refine s_icmpge hK dX7_many_38 67 (by decide) (fun c_38 => ?_) (fun c_38 => ?_)
            · exact absurd c_38 (nI_ge (b := 7) (by omega) (by omega))
            · refine s_aload hK dX7_many_41 rfl ?_
              refine s_iload hK dX7_many_43 rfl ?_
              refine s_baloadN hK dX7_many_45 e1 (show y < 7 by omega) (by omega) ?_
              rw [e2 y (by omega)]
              refine s_istore hK dX7_many_46 rfl ?_
              refine s_iload_n hK dX7_many_48 rfl ?_
              refine s_iload hK dX7_many_49 rfl ?_
              cases eb : F (9 * y + x) with
              | false =>
                refine s_ifeq hK dX7_many_51 58 (by decide) (fun c_51 => ?_) (fun c_51 => ?_)
                · refine s_iconst hK (v := 0) dX7_many_58 (by decide) ?_
                  refine s_iadd hK dX7_many_59 ?_
                  refine s_istore_n hK dX7_many_60 rfl ?_
                  refine s_iinck hK (v := 1) dX7_many_61 rfl (by decide) rfl ?_
                  refine s_goto hK dX7_many_64 34 (by decide) ?_
                  rw [Int32.add_zero, nI_1]
                  rw [eb, if_neg (by decide)] at hs
                  rw [← hs]
                  exact ihj (y + 1) (by omega) _
                · exact absurd rfl c_51
              | true =>
                refine s_ifeq hK dX7_many_51 58 (by decide) (fun c_51 => ?_) (fun c_51 => ?_)
                · exact absurd c_51 (by decide)
                · refine s_iconst hK (v := 1) dX7_many_54 (by decide) ?_
                  refine s_goto hK dX7_many_55 59 (by decide) ?_
                  refine s_iadd hK dX7_many_59 ?_
                  refine s_istore_n hK dX7_many_60 rfl ?_
                  refine s_iinck hK (v := 1) dX7_many_61 rfl (by decide) rfl ?_
                  refine s_goto hK dX7_many_64 34 (by decide) ?_
                  rw [nI_1, nI_1]
                  rw [eb, if_pos rfl] at hs
                  rw [← hs]
                  exact ihj (y + 1) (by omega) _
        exact loopY 7 0 (by omega) _
  have l0 : cn (7 * 0) = 0 := by rw [hcn]; rfl
  have l1 := loopX 9 0 (by omega) none none none none none
  rw [l0] at l1
  exact l1
theorem c_below (d : Nat) {v n : Int32} (hn : ¬ n = 0) {h : gH} {mc ms : Nat} {Post : Option Value → gH → Prop} {X : String → gH → Prop} (hp : Post (some (.int ((v &&& 2147483647) - (v &&& 2147483647) / n * n))) h) : gSafe (d + 1) mL_below [.int v, .int n] h mc ms Post X := by
  refine ⟨Nat.le_of_ble_eq_true rfl, fun K hK => ?_⟩
  show K 0 [some (.int v), some (.int n)] [] _ _ _
  refine s_iload_n hK dL_below_0 rfl ?_
  refine s_ldc hK dL_below_1 kJ_L_7 ?_
  refine s_iand hK dL_below_3 ?_
  refine s_iload_n hK dL_below_4 rfl ?_
  refine s_irem hK dL_below_5 hn ?_
  refine s_ireturn hK dL_below_6 rfl (by first | rfl | exact b01_nar _) ?_
  exact hp
theorem c_lcell (d : Nat) {b n : Nat} {f : Nat → Int32} {k : Nat} (hk : k < 1000) (hn : n ≤ 1000) {h : gH} (hb : h b = some (.inl (7, n, .inl f))) {mc ms : Nat} {Post : Option Value → gH → Prop} {X : String → gH → Prop} (hp : ∀ v, Post (some (.int v)) h) : gSafe (d + 1) mL_cell [.ref b, .int (nI k)] h mc ms Post X := by
  refine ⟨Nat.le_of_ble_eq_true rfl, fun K hK => ?_⟩
  show K 0 [some (.ref b), some (.int (nI k))] [] _ _ _
  refine s_iload_n hK dL_cell_0 rfl ?_
  refine s_aload_n hK dL_cell_1 rfl ?_
  refine s_rolen hK dL_cell_2 hb rfl ?_
  refine s_icmpge hK dL_cell_3 12 (by decide) (fun c_3 => ?_) (fun c_3 => ?_)
  · refine s_ldc hK dL_cell_12 kJ_L_8 ?_
    refine s_iload_n hK dL_cell_14 rfl ?_
    refine s_iconst hK (v := 3) dL_cell_15 (by decide) ?_
    refine s_iadd hK dL_cell_16 ?_
    refine s_imul hK dL_cell_17 ?_
    refine s_ireturn hK dL_cell_18 rfl (by first | rfl | exact b01_nar _) ?_
    exact hp _
  · refine s_aload_n hK dL_cell_6 rfl ?_
    refine s_iload_n hK dL_cell_7 rfl ?_
    have hlt : k < n := (nI_ltI (by omega) (by omega)).mp (Int32.not_le.mp c_3)
    refine s_roload hK dL_cell_8 hb (nI_in hlt (by omega)) ?_
    refine s_goto hK dL_cell_9 18 (by decide) ?_
    refine s_ireturn hK dL_cell_18 rfl (by first | rfl | exact b01_nar _) ?_
    exact hp _
