/-! the model's walls and light -/
def InvW (L : Nat → Int64) : Prop := (∀ c, lb (L 5) c = true → c < 63 ∧ c % 9 ≠ 8) ∧ (∀ c, lb (L 6) c = true → c < 54)
def InvD (L : Nat → Int64) : Prop := ∀ c, lb (L 0) c = true → lb (L 2) c = false ∧ lb (L 3) c = false
theorem wC0 {L : Nat → Int64} {c : Nat} (hc : c < 63) : lb (wCells L 0) c = (decide (9 ≤ c) && lb (L 6) (c - 9)) := lb_shl _ _ 9 lb_c9 (by omega)
theorem wC3 {L : Nat → Int64} (I : InvW L) {c : Nat} (hc : c < 63) : lb (wCells L 3) c = (nbOk c 3 && lb (L 5) (c - 1)) := by
  have e : lb (wCells L 3) c = (decide (1 ≤ c) && lb (L 5) (c - 1)) := lb_shl _ _ 1 lb_c1 (by omega)
  rw [e]
  cases e5 : lb (L 5) (c - 1) with
  | false => simp
  | true =>
    have q := (I.1 _ e5).2
    show (decide (1 ≤ c) && true) = (decide (c % 9 ≠ 0) && true)
    rw [Bool.and_true, Bool.and_true]
    apply decide_eq_decide.mpr
    omega
set_option maxRecDepth 10000 in
theorem c_hasWallM (d : Nat) {m : Nat → Nat} {thr : Int32} {S : CS} {lt : Nat → Bool} {st rw : Nat → Int32} {c dn : Nat} (hc : c < 63) (hd : dn < 4) {h : gH} (M : MdlAt h m thr S lt st rw) (I : InvW S.1) {mc ms : Nat} {Post : Option Value → gH → Prop} {X : String → gH → Prop} (hp : Post (some (.int (b01 (lb (wCells S.1 dn) c)))) h) : gSafe (d + 4) mX6_hasWall [.ref (m 0), .int (nI c), .int (nI dn)] h mc ms Post X := by
  have M0 := M.own0
  obtain ⟨f1, e1, k1⟩ := M.a1
  obtain ⟨f2, e2, k2⟩ := M.a2
  refine ⟨Nat.le_of_ble_eq_true rfl, fun K hK => ?_⟩
  show K 0 [some (.ref (m 0)), some (.int (nI c)), some (.int (nI dn)), none] [] _ _ _
  rcases (show dn = 0 ∨ dn = 1 ∨ dn = 2 ∨ dn = 3 by omega) with rfl | rfl | rfl | rfl
  · have no : lb (wCells S.1 0) c = false → ∀ w, K 65 [some (.ref (m 0)), some (.int (nI c)), some (.int (nI 0)), w] [] h mc ms := by
      intro e w
      rw [e] at hp
      refine s_iconst hK (v := 0) dX6_hasWall_65 (by decide) ?_
      refine s_ireturn hK dX6_hasWall_66 rfl (by first | rfl | exact b01_nar _) ?_
      exact hp
    rw [wC0 hc] at hp no
    refine s_iload_n hK dX6_hasWall_0 rfl ?_
    refine s_iconst hK (v := 1) dX6_hasWall_1 (by decide) ?_
    refine s_icmpne hK dX6_hasWall_2 12 (by decide) (fun c_2 => ?_) (fun c_2 => ?_)
    · refine s_iload_n hK dX6_hasWall_12 rfl ?_
      refine s_iconst hK (v := 2) dX6_hasWall_13 (by decide) ?_
      refine s_icmpne hK dX6_hasWall_14 24 (by decide) (fun c_14 => ?_) (fun c_14 => ?_)
      · refine s_iload_n hK dX6_hasWall_24 rfl ?_
        refine s_iload_n hK dX6_hasWall_25 rfl ?_
        refine s_S20 hK dX6_hasWall_26 kS_X6_56 (by rfl) ?_
        refine c_beside _ hc (by omega) ?_
        unfold bsI
        refine s_istore_n hK dX6_hasWall_29 rfl ?_
        refine s_iload_n hK dX6_hasWall_30 rfl ?_
        refine s_iconst hK (v := (-1)) dX6_hasWall_31 (by decide) ?_
        refine s_icmpeq hK dX6_hasWall_32 65 (by decide) (fun c_32 => ?_) (fun c_32 => ?_)
        · refine no ?_ _
          by_cases q : nbOk c 0 = true
          · rw [if_pos q] at c_32
            have h0 : nbOf c 0 < 63 := nb_lt hc (by omega) q
            have q2 := nI_pos (n := nbOf c 0) (by omega)
            rw [c_32] at q2
            exact absurd (by decide) q2
          · have : ¬ 9 ≤ c := fun z => q (decide_eq_true z)
            simp [this]
        · by_cases q : nbOk c 0 = true
          · rw [if_pos q]
            have q9 : 9 ≤ c := of_decide_eq_true q
            have h0 : nbOf c 0 < 63 := nb_lt hc (by omega) q
            refine s_iload_n hK dX6_hasWall_35 rfl ?_
            refine s_iconst hK (v := 3) dX6_hasWall_36 (by decide) ?_
            refine s_icmpne hK dX6_hasWall_37 52 (by decide) (fun c_37 => ?_) (fun c_37 => ?_)
            · refine s_aload_n hK dX6_hasWall_52 rfl ?_
              refine s_getfield hK dX6_hasWall_53 kF_X6_13 (by first | assumption | exact H.1 | exact H.2.1) (by rfl) ?_
              refine s_iload_n hK dX6_hasWall_56 rfl ?_
              · refine s_baloadN hK dX6_hasWall_57 (by assumption) (by omega) (by omega) ?_
                rw [k2 _ (by omega)]
                show K 58 _ [.int (b01 (lb (S.1 6) (c - 9)))] h mc ms
                cases e9 : lb (S.1 6) (c - 9) with
                | false =>
                  refine s_ifeq hK dX6_hasWall_58 65 (by decide) (fun c_58 => ?_) (fun c_58 => ?_)
                  · exact no (by rw [e9]; simp) _
                  · exact absurd rfl c_58
                | true =>
                  refine s_ifeq hK dX6_hasWall_58 65 (by decide) (fun c_58 => ?_) (fun c_58 => ?_)
                  · exact absurd c_58 (by decide)
                  · refine s_iconst hK (v := 1) dX6_hasWall_61 (by decide) ?_
                    refine s_goto hK dX6_hasWall_62 66 (by decide) ?_
                    refine s_ireturn hK dX6_hasWall_66 rfl (by first | rfl | exact b01_nar _) ?_
                    rw [e9] at hp
                    rw [show (decide (9 ≤ c) && true) = true by simp [q9]] at hp
                    exact hp
            · exact absurd c_37 (by decide)
          · rw [if_neg q] at c_32
            exact absurd rfl c_32
      · exact absurd c_14 (by decide)
    · exact absurd c_2 (by decide)
  · refine s_iload_n hK dX6_hasWall_0 rfl ?_
    refine s_iconst hK (v := 1) dX6_hasWall_1 (by decide) ?_
    refine s_icmpne hK dX6_hasWall_2 12 (by decide) (fun c_2 => ?_) (fun c_2 => ?_)
    · exact absurd rfl c_2
    · refine s_aload_n hK dX6_hasWall_5 rfl ?_
      refine s_getfield hK dX6_hasWall_6 kF_X6_9 (by first | assumption | exact H.1 | exact H.2.1) (by rfl) ?_
      refine s_iload_n hK dX6_hasWall_9 rfl ?_
      refine s_baloadN hK dX6_hasWall_10 (by assumption) (by omega) (by omega) ?_
      rw [k1 _ (by omega)]
      refine s_ireturn hK dX6_hasWall_11 rfl (by first | rfl | exact b01_nar _) ?_
      exact hp
  · refine s_iload_n hK dX6_hasWall_0 rfl ?_
    refine s_iconst hK (v := 1) dX6_hasWall_1 (by decide) ?_
    refine s_icmpne hK dX6_hasWall_2 12 (by decide) (fun c_2 => ?_) (fun c_2 => ?_)
    · refine s_iload_n hK dX6_hasWall_12 rfl ?_
      refine s_iconst hK (v := 2) dX6_hasWall_13 (by decide) ?_
      refine s_icmpne hK dX6_hasWall_14 24 (by decide) (fun c_14 => ?_) (fun c_14 => ?_)
      · exact absurd rfl c_14
      · refine s_aload_n hK dX6_hasWall_17 rfl ?_
        refine s_getfield hK dX6_hasWall_18 kF_X6_13 (by first | assumption | exact H.1 | exact H.2.1) (by rfl) ?_
        refine s_iload_n hK dX6_hasWall_21 rfl ?_
        refine s_baloadN hK dX6_hasWall_22 (by assumption) (by omega) (by omega) ?_
        rw [k2 _ (by omega)]
        refine s_ireturn hK dX6_hasWall_23 rfl (by first | rfl | exact b01_nar _) ?_
        exact hp
    · exact absurd c_2 (by decide)
  · have no : lb (wCells S.1 3) c = false → ∀ w, K 65 [some (.ref (m 0)), some (.int (nI c)), some (.int (nI 3)), w] [] h mc ms := by
      intro e w
      rw [e] at hp
      refine s_iconst hK (v := 0) dX6_hasWall_65 (by decide) ?_
      refine s_ireturn hK dX6_hasWall_66 rfl (by first | rfl | exact b01_nar _) ?_
      exact hp
    rw [wC3 I hc] at hp no
    refine s_iload_n hK dX6_hasWall_0 rfl ?_
    refine s_iconst hK (v := 1) dX6_hasWall_1 (by decide) ?_
    refine s_icmpne hK dX6_hasWall_2 12 (by decide) (fun c_2 => ?_) (fun c_2 => ?_)
    · refine s_iload_n hK dX6_hasWall_12 rfl ?_
      refine s_iconst hK (v := 2) dX6_hasWall_13 (by decide) ?_
      refine s_icmpne hK dX6_hasWall_14 24 (by decide) (fun c_14 => ?_) (fun c_14 => ?_)
      · refine s_iload_n hK dX6_hasWall_24 rfl ?_
        refine s_iload_n hK dX6_hasWall_25 rfl ?_
        refine s_S20 hK dX6_hasWall_26 kS_X6_56 (by rfl) ?_
        refine c_beside _ hc (by omega) ?_
        unfold bsI
        refine s_istore_n hK dX6_hasWall_29 rfl ?_
        refine s_iload_n hK dX6_hasWall_30 rfl ?_
        refine s_iconst hK (v := (-1)) dX6_hasWall_31 (by decide) ?_
        refine s_icmpeq hK dX6_hasWall_32 65 (by decide) (fun c_32 => ?_) (fun c_32 => ?_)
        · refine no ?_ _
          by_cases q : nbOk c 3 = true
          · rw [if_pos q] at c_32
            have h0 : nbOf c 3 < 63 := nb_lt hc (by omega) q
            have q2 := nI_pos (n := nbOf c 3) (by omega)
            rw [c_32] at q2
            exact absurd (by decide) q2
          · simp [q]
        · by_cases q : nbOk c 3 = true
          · rw [if_pos q]
            have h0 : nbOf c 3 < 63 := nb_lt hc (by omega) q
            refine s_iload_n hK dX6_hasWall_35 rfl ?_
            refine s_iconst hK (v := 3) dX6_hasWall_36 (by decide) ?_
            refine s_icmpne hK dX6_hasWall_37 52 (by decide) (fun c_37 => ?_) (fun c_37 => ?_)
            · exact absurd rfl c_37
            · refine s_aload_n hK dX6_hasWall_40 rfl ?_
              refine s_getfield hK dX6_hasWall_41 kF_X6_9 (by first | assumption | exact H.1 | exact H.2.1) (by rfl) ?_
              refine s_iload_n hK dX6_hasWall_44 rfl ?_
              · refine s_baloadN hK dX6_hasWall_45 (by assumption) (by omega) (by omega) ?_
                rw [k1 _ (by show c - 1 < 63; omega)]
                show K 46 _ [.int (b01 (lb (S.1 5) (c - 1)))] h mc ms
                cases e9 : lb (S.1 5) (c - 1) with
                | false =>
                  refine s_ifeq hK dX6_hasWall_46 65 (by decide) (fun c_46 => ?_) (fun c_46 => ?_)
                  · exact no (by rw [e9]; simp) _
                  · exact absurd rfl c_46
                | true =>
                  refine s_ifeq hK dX6_hasWall_46 65 (by decide) (fun c_46 => ?_) (fun c_46 => ?_)
                  · exact absurd c_46 (by decide)
                  · refine s_goto hK dX6_hasWall_49 61 (by decide) ?_
                    refine s_iconst hK (v := 1) dX6_hasWall_61 (by decide) ?_
                    refine s_goto hK dX6_hasWall_62 66 (by decide) ?_
                    refine s_ireturn hK dX6_hasWall_66 rfl (by first | rfl | exact b01_nar _) ?_
                    rw [e9, q] at hp
                    exact hp
          · rw [if_neg q] at c_32
            exact absurd rfl c_32
      · exact absurd c_14 (by decide)
    · exact absurd c_2 (by decide)
theorem mC_lt {S : CS} {lt lt' : Nat → Bool} {st rw : Nat → Int32} {k j : Nat} (h : k ≠ 8) : mC S lt st rw k j = mC S lt' st rw k j := by
  unfold mC
  split
  all_goals first | rfl | exact absurd rfl h
theorem MdlAt.ltc {h : gH} {m : Nat → Nat} {thr : Int32} {S : CS} {lt lt' : Nat → Bool} {st rw : Nat → Int32} (M : MdlAt h m thr S lt st rw) (e : ∀ j, j < 63 → lt j = lt' j) : MdlAt h m thr S lt' st rw := by
  refine RawM.cong M (fun k j h1 h2 hj => ?_)
  by_cases ek : k = 8
  · subst ek
    exact congrArg b01 (e j hj)
  · exact mC_lt ek
theorem MdlAt.lit {h : gH} {m : Nat → Nat} {thr : Int32} {S : CS} {lt : Nat → Bool} {st rw : Nat → Int32} (M : MdlAt h m thr S lt st rw) {i : Nat} {b : Bool} {x : Int32} {f' : Nat → Int32} (e : ∀ j, j < 63 → f' j = b01 (lt j)) (hx : x = b01 b) : MdlAt (gU h (m 8) (.inl (1, 63, .inl (upd f' i x)))) m thr S (fun j => if j = i then b else lt j) st rw := by
  subst hx
  refine RawM.cong (RawM.set (k := 8) (i := i) (x := b01 b) M (by omega) (by omega) e) (fun k j h1 h2 hj => ?_)
  unfold updC
  by_cases ek : k = 8
  · subst ek
    rw [if_pos rfl]
    show (if j = i then b01 b else b01 (lt j)) = b01 (if j = i then b else lt j)
    by_cases ej : j = i
    · rw [if_pos ej, if_pos ej]
    · rw [if_neg ej, if_neg ej]
  · rw [if_neg ek]
    exact mC_lt ek
theorem lb_add {lt : Nat → Bool} {X : Int64} {i : Nat} (hi : i < 63) : ∀ j, j < 63 → (if j = i then true else (lt j || lb X j)) = (lt j || lb (X ||| bOnly i) j) := by
  intro j hj
  rw [lb_or, lb_only (by omega)]
  by_cases e : j = i
  · simp [e]
  · simp [e]
def trT (dn t : Nat) : Nat := if t = 2 then dn ^^^ 1 else if t = 3 then 3 - dn else dn
theorem trT_lt {dn t : Nat} (h : dn < 4) : trT dn t < 4 := by
  unfold trT
  split
  · match dn, h with
    | 0, _ => decide
    | 1, _ => decide
    | 2, _ => decide
    | 3, _ => decide
  · split <;> omega
set_option maxRecDepth 10000 in
theorem c_turnedM (d : Nat) {a : Nat} {dn t : Nat} (hd : dn < 4) (ht : t < 5) {h : gH} {mc ms : Nat} {Post : Option Value → gH → Prop} {X : String → gH → Prop} (hp : Post (some (.int (nI (trT dn t)))) h) : gSafe (d + 1) mX6_turned [.ref a, .int (nI dn), .int (nI t)] h mc ms Post X := by
  unfold trT at hp
  refine ⟨Nat.le_of_ble_eq_true rfl, fun K hK => ?_⟩
  show K 0 [some (.ref a), some (.int (nI dn)), some (.int (nI t))] [] _ _ _
  refine s_iload_n hK dX6_turned_0 rfl ?_
  refine s_iconst hK (v := 2) dX6_turned_1 (by decide) ?_
  refine s_icmpne hK dX6_turned_2 9 (by decide) (fun c_2 => ?_) (fun c_2 => ?_)
  · have q2 : ¬ t = 2 := fun z => c_2 (by rw [z]; rfl)
    rw [if_neg q2] at hp
    refine s_iload_n hK dX6_turned_9 rfl ?_
    refine s_iconst hK (v := 3) dX6_turned_10 (by decide) ?_
    refine s_icmpne hK dX6_turned_11 20 (by decide) (fun c_11 => ?_) (fun c_11 => ?_)
    · have q3 : ¬ t = 3 := fun z => c_11 (by rw [z]; rfl)
      rw [if_neg q3] at hp
      refine s_iload_n hK dX6_turned_20 rfl ?_
      refine s_ireturn hK dX6_turned_21 rfl (by first | rfl | exact b01_nar _) ?_
      exact hp
    · have q3 : t = 3 := (nI_eq (b := 3) (by omega) (by omega)).mp c_11
      rw [if_pos q3] at hp
      refine s_iconst hK (v := 3) dX6_turned_14 (by decide) ?_
      refine s_iload_n hK dX6_turned_15 rfl ?_
      refine s_isub hK dX6_turned_16 ?_
      refine s_goto hK dX6_turned_17 21 (by decide) ?_
      rw [nI_3sub ⟨dn, hd⟩]
      refine s_ireturn hK dX6_turned_21 rfl (by first | rfl | exact b01_nar _) ?_
      exact hp
  · have q2 : t = 2 := (nI_eq (b := 2) (by omega) (by omega)).mp c_2
    rw [if_pos q2] at hp
    refine s_iload_n hK dX6_turned_5 rfl ?_
    refine s_iconst hK (v := 1) dX6_turned_6 (by decide) ?_
    refine s_ixor hK dX6_turned_7 ?_
    rw [nI_xor1 ⟨dn, hd⟩]
    refine s_ireturn hK dX6_turned_8 rfl (by first | rfl | exact b01_nar _) ?_
    exact hp
theorem and_only {c : Nat} (hc : c < 63) (x : Int64) : bOnly c &&& x = if lb x c = true then bOnly c else 0 := by
  refine lb_ext (fun i hi => ?_)
  rw [lb_and, lb_only (by omega)]
  by_cases e : i = c
  · subst e
    cases e2 : lb x i with
    | true => simp [lb_only (show i < 64 by omega)]
    | false => simp [lb_0]
  · cases e2 : lb x c with
    | true => simp [e, lb_only (show c < 64 by omega)]
    | false => simp [e, lb_0]
theorem only_ne {c : Nat} (hc : c < 63) : bOnly c ≠ 0 := lb_ne0.mpr ⟨c, by omega, by rw [lb_only (by omega)]; simp⟩
theorem lb_not {x : Int64} {i : Nat} (hi : i < 64) : lb (x ^^^ (-1)) i = !lb x i := by
  rw [lb_xor, lb_m1 hi]
  cases lb x i <;> rfl
theorem bMv_0 {d : Nat} (hd : d < 4) : bMv 0 d = 0 := by
  rcases (show d = 0 ∨ d = 1 ∨ d = 2 ∨ d = 3 by omega) with rfl | rfl | rfl | rfl <;> decide +kernel
theorem beam_next {L : Nat → Int64} {c dn : Nat} (hc : c < 63) (hd : dn < 4) : bMv (bOnly c &&& (wCells L dn ^^^ (-1))) dn = if lb (wCells L dn) c = true ∨ nbOk c dn = false then 0 else bOnly (nbOf c dn) := by
  rw [and_only hc, lb_not (by omega)]
  cases e : lb (wCells L dn) c with
  | true => simp [bMv_0 hd]
  | false =>
    cases e2 : nbOk c dn with
    | true => simp [bMv_only hc hd, e2]
    | false => simp [bMv_only hc hd, e2]
theorem trn_0 (L : Nat → Int64) (dn : Nat) : trn L 0 dn = dn := by
  unfold trn
  rw [Int64.zero_and, Int64.zero_and]
  simp
theorem trn_only {L : Nat → Int64} (D : InvD L) {c own dn : Nat} (hc : c < 63) (ho : own < 63) : trn L (bOnly c &&& (bOnly own ^^^ (-1))) dn = if c = own then dn else trT dn (thg L c) := by
  rw [and_only hc, lb_not (by omega), lb_only (by omega)]
  by_cases e : c = own
  · simp [e, trn_0]
  · simp only [e, decide_false, Bool.not_false, if_true, if_false]
    unfold trn
    rw [and_only hc, and_only hc]
    unfold trT thg
    have n1 := only_ne hc
    cases e0 : lb (L 0) c with
    | true =>
      obtain ⟨q2, q3⟩ := D c e0
      simp [q2, q3]
    | false =>
      cases e2 : lb (L 2) c with
      | true => simp [n1]
      | false =>
        cases e3 : lb (L 3) c with
        | true => simp [n1]
        | false => cases e4 : lb (L 4) c <;> simp
theorem beam_end {L : Nat → Int64} {own cells : Int64} {dn n : Nat} (hd : (beamI L own cells dn n).2.1 < 4) (h : (beamI L own cells dn n).1 = 0) : ∀ k, (beamI L own cells dn (n + k)).1 = 0 ∧ (beamI L own cells dn (n + k)).2.1 = (beamI L own cells dn n).2.1 ∧ (beamI L own cells dn (n + k)).2.2 = (beamI L own cells dn n).2.2
  | 0 => ⟨h, rfl, rfl⟩
  | k + 1 => by
    obtain ⟨h1, h2, h3⟩ := beam_end hd h k
    have e : ∀ n, beamI L own cells dn (n + 1) = (bMv ((beamI L own cells dn n).1 &&& (wCells L (beamI L own cells dn n).2.1 ^^^ (-1))) (beamI L own cells dn n).2.1, trn L (bMv ((beamI L own cells dn n).1 &&& (wCells L (beamI L own cells dn n).2.1 ^^^ (-1))) (beamI L own cells dn n).2.1 &&& (own ^^^ (-1))) (beamI L own cells dn n).2.1, (beamI L own cells dn n).2.2 ||| bMv ((beamI L own cells dn n).1 &&& (wCells L (beamI L own cells dn n).2.1 ^^^ (-1))) (beamI L own cells dn n).2.1) := fun _ => rfl
    rw [← Nat.add_assoc, e, h1, h2, h3, Int64.zero_and, bMv_0 hd, Int64.zero_and, trn_0, Int64.or_zero]
    exact ⟨rfl, rfl, rfl⟩
