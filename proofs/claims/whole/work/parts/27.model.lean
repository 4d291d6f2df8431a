/-! the model: its object, its rows -/
def mT (k : Nat) : Nat := match k with
  | 1 => 1
  | 2 => 1
  | 8 => 1
  | _ => 0
def mLen (k : Nat) : Nat := match k with
  | 6 => 36
  | 7 => 2
  | 9 => 126
  | 10 => 126
  | _ => 63
def mF (m : Nat → Nat) (thr : Int32) (gc : Nat) : List Value := [.int thr, .ref (m 1), .ref (m 2), .ref (m 3), .ref (m 4), .ref (m 5), .int (nI gc), .ref (m 6), .ref (m 7), .ref (m 8), .ref (m 9), .ref (m 10)]
/-- the model at m 0: walls m 1, m 2, things m 3, values m 4, burns m 5, ghosts m 6, numbers m 7, light m 8, steps m 9, row m 10 -/
def RawM (h : gH) (m : Nat → Nat) (thr : Int32) (gc : Nat) (C : Nat → Nat → Int32) : Prop :=
  h (m 0) = some (.inr (5, mF m thr gc)) ∧ (∀ k, 1 ≤ k → k < 11 → ∃ f' : Nat → Int32, h (m k) = some (.inl (mT k, mLen k, .inl f')) ∧ ∀ j, j < mLen k → f' j = C k j) ∧ ∀ i j, i < 11 → j < 11 → m i = m j → i = j
theorem RawM.cong {h : gH} {m : Nat → Nat} {thr : Int32} {gc : Nat} {C D : Nat → Nat → Int32} (M : RawM h m thr gc C) (e : ∀ k j, 1 ≤ k → k < 11 → j < mLen k → C k j = D k j) : RawM h m thr gc D := by
  refine ⟨M.1, fun k h1 h2 => ?_, M.2.2⟩
  obtain ⟨f', a, b⟩ := M.2.1 k h1 h2
  exact ⟨f', a, fun j hj => (b j hj).trans (e k j h1 h2 hj)⟩
def updC (C : Nat → Nat → Int32) (k i : Nat) (x : Int32) : Nat → Nat → Int32 := fun k' j => if k' = k then (if j = i then x else C k j) else C k' j
theorem RawM.set {h : gH} {m : Nat → Nat} {thr : Int32} {gc : Nat} {C : Nat → Nat → Int32} (M : RawM h m thr gc C) {k i : Nat} {x : Int32} {f' : Nat → Int32} (h1 : 1 ≤ k) (h2 : k < 11) (e : ∀ j, j < mLen k → f' j = C k j) : RawM (gU h (m k) (.inl (mT k, mLen k, .inl (upd f' i x)))) m thr gc (updC C k i x) := by
  have inj := M.2.2
  refine ⟨?_, fun k' q1 q2 => ?_, inj⟩
  · rw [gU_ne (fun z => by have := inj 0 k (by omega) h2 z; omega)]
    exact M.1
  · by_cases ek : k' = k
    · subst ek
      refine ⟨_, gU_eq _ _ _, fun j hj => ?_⟩
      unfold updC
      rw [if_pos rfl]
      by_cases ej : j = i
      · subst ej
        rw [if_pos rfl, pk_us]
      · rw [if_neg ej, pk_un ej]
        exact e j hj
    · obtain ⟨f2, a, b⟩ := M.2.1 k' q1 q2
      refine ⟨f2, ?_, fun j hj => ?_⟩
      · rw [gU_ne (fun z => ek (inj k' k q2 h2 z))]
        exact a
      · unfold updC
        rw [if_neg ek]
        exact b j hj
theorem RawM.own {h : gH} {m : Nat → Nat} {thr thr' : Int32} {gc gc' : Nat} {C : Nat → Nat → Int32} (M : RawM h m thr gc C) : RawM (gU h (m 0) (.inr (5, mF m thr' gc'))) m thr' gc' C := by
  have inj := M.2.2
  refine ⟨gU_eq _ _ _, fun k' q1 q2 => ?_, inj⟩
  obtain ⟨f2, a, b⟩ := M.2.1 k' q1 q2
  refine ⟨f2, ?_, b⟩
  rw [gU_ne (fun z => by have := inj k' 0 q2 (by omega) z; omega)]
  exact a
theorem RawM.keep {h h' : gH} {m : Nat → Nat} {thr : Int32} {gc : Nat} {C : Nat → Nat → Int32} (M : RawM h m thr gc C) (e : ∀ k, k < 11 → h' (m k) = h (m k)) : RawM h' m thr gc C := by
  refine ⟨(e 0 (by omega)).trans M.1, fun k q1 q2 => ?_, M.2.2⟩
  obtain ⟨f2, a, b⟩ := M.2.1 k q1 q2
  exact ⟨f2, (e k q2).trans a, b⟩
/-- the model's addresses -/
def mS (m : Nat → Nat) : List Nat := [m 0, m 1, m 2, m 3, m 4, m 5, m 6, m 7, m 8, m 9, m 10]
theorem mS_in {m : Nat → Nat} {k : Nat} (hk : k < 11) : m k ∈ mS m := by
  unfold mS
  match k, hk with
  | 0, _ => simp
  | 1, _ => simp
  | 2, _ => simp
  | 3, _ => simp
  | 4, _ => simp
  | 5, _ => simp
  | 6, _ => simp
  | 7, _ => simp
  | 8, _ => simp
  | 9, _ => simp
  | 10, _ => simp
  | k + 11, q => exact absurd q (by omega)
theorem gFr.mdl {m : Nat → Nat} {h h' : gH} {k : Nat} (F : gFr [m k] h h') (hk : k < 11) : gFr (mS m) h h' := F.mono (fun q hq => by simp at hq; subst hq; exact mS_in hk)
/-- what the rows hold, by the class's own state: lt, st, rw are scratch -/
def mC (S : CS) (lt : Nat → Bool) (st rw : Nat → Int32) (k j : Nat) : Int32 := match k with
  | 1 => b01 (lb (S.1 5) j)
  | 2 => b01 (lb (S.1 6) j)
  | 3 => nI (thg S.1 j)
  | 4 => S.2.1 j
  | 5 => b01 (lb (S.1 1) j)
  | 6 => nI (S.2.2.1 (j / 6) (j % 6))
  | 7 => if j = 0 then nI S.2.2.2.2 else nI (sumT S.2.2.1 6 S.2.2.2.1)
  | 8 => b01 (lt j)
  | 9 => st j
  | _ => rw j
def MdlAt (h : gH) (m : Nat → Nat) (thr : Int32) (S : CS) (lt : Nat → Bool) (st rw : Nat → Int32) : Prop := RawM h m thr S.2.2.2.1 (mC S lt st rw)
theorem MdlAt.own0 {h : gH} {m : Nat → Nat} {thr : Int32} {S : CS} {lt : Nat → Bool} {st rw : Nat → Int32} (M : MdlAt h m thr S lt st rw) : h (m 0) = some (.inr (5, mF m thr S.2.2.2.1)) := M.1
theorem MdlAt.a1 {h : gH} {m : Nat → Nat} {thr : Int32} {S : CS} {lt : Nat → Bool} {st rw : Nat → Int32} (M : MdlAt h m thr S lt st rw) : ∃ f' : Nat → Int32, h (m 1) = some (.inl (1, 63, .inl f')) ∧ ∀ j, j < 63 → f' j = b01 (lb (S.1 5) j) := M.2.1 1 (by omega) (by omega)
theorem MdlAt.a2 {h : gH} {m : Nat → Nat} {thr : Int32} {S : CS} {lt : Nat → Bool} {st rw : Nat → Int32} (M : MdlAt h m thr S lt st rw) : ∃ f' : Nat → Int32, h (m 2) = some (.inl (1, 63, .inl f')) ∧ ∀ j, j < 63 → f' j = b01 (lb (S.1 6) j) := M.2.1 2 (by omega) (by omega)
theorem MdlAt.a3 {h : gH} {m : Nat → Nat} {thr : Int32} {S : CS} {lt : Nat → Bool} {st rw : Nat → Int32} (M : MdlAt h m thr S lt st rw) : ∃ f' : Nat → Int32, h (m 3) = some (.inl (0, 63, .inl f')) ∧ ∀ j, j < 63 → f' j = nI (thg S.1 j) := M.2.1 3 (by omega) (by omega)
theorem MdlAt.a4 {h : gH} {m : Nat → Nat} {thr : Int32} {S : CS} {lt : Nat → Bool} {st rw : Nat → Int32} (M : MdlAt h m thr S lt st rw) : ∃ f' : Nat → Int32, h (m 4) = some (.inl (0, 63, .inl f')) ∧ ∀ j, j < 63 → f' j = S.2.1 j := M.2.1 4 (by omega) (by omega)
theorem MdlAt.a5 {h : gH} {m : Nat → Nat} {thr : Int32} {S : CS} {lt : Nat → Bool} {st rw : Nat → Int32} (M : MdlAt h m thr S lt st rw) : ∃ f' : Nat → Int32, h (m 5) = some (.inl (0, 63, .inl f')) ∧ ∀ j, j < 63 → f' j = b01 (lb (S.1 1) j) := M.2.1 5 (by omega) (by omega)
theorem MdlAt.a6 {h : gH} {m : Nat → Nat} {thr : Int32} {S : CS} {lt : Nat → Bool} {st rw : Nat → Int32} (M : MdlAt h m thr S lt st rw) : ∃ f' : Nat → Int32, h (m 6) = some (.inl (0, 36, .inl f')) ∧ ∀ j, j < 36 → f' j = nI (S.2.2.1 (j / 6) (j % 6)) := M.2.1 6 (by omega) (by omega)
theorem MdlAt.a7 {h : gH} {m : Nat → Nat} {thr : Int32} {S : CS} {lt : Nat → Bool} {st rw : Nat → Int32} (M : MdlAt h m thr S lt st rw) : ∃ f' : Nat → Int32, h (m 7) = some (.inl (0, 2, .inl f')) ∧ ∀ j, j < 2 → f' j = if j = 0 then nI S.2.2.2.2 else nI (sumT S.2.2.1 6 S.2.2.2.1) := M.2.1 7 (by omega) (by omega)
theorem MdlAt.a8 {h : gH} {m : Nat → Nat} {thr : Int32} {S : CS} {lt : Nat → Bool} {st rw : Nat → Int32} (M : MdlAt h m thr S lt st rw) : ∃ f' : Nat → Int32, h (m 8) = some (.inl (1, 63, .inl f')) ∧ ∀ j, j < 63 → f' j = b01 (lt j) := M.2.1 8 (by omega) (by omega)
theorem MdlAt.a9 {h : gH} {m : Nat → Nat} {thr : Int32} {S : CS} {lt : Nat → Bool} {st rw : Nat → Int32} (M : MdlAt h m thr S lt st rw) : ∃ f' : Nat → Int32, h (m 9) = some (.inl (0, 126, .inl f')) ∧ ∀ j, j < 126 → f' j = st j := M.2.1 9 (by omega) (by omega)
theorem MdlAt.a10 {h : gH} {m : Nat → Nat} {thr : Int32} {S : CS} {lt : Nat → Bool} {st rw : Nat → Int32} (M : MdlAt h m thr S lt st rw) : ∃ f' : Nat → Int32, h (m 10) = some (.inl (0, 126, .inl f')) ∧ ∀ j, j < 126 → f' j = rw j := M.2.1 10 (by omega) (by omega)
set_option maxRecDepth 10000 in
theorem c_thrown (d : Nat) {m : Nat → Nat} {thr : Int32} {S : CS} {lt : Nat → Bool} {st rw : Nat → Int32} {h : gH} (M : MdlAt h m thr S lt st rw) {mc ms : Nat} {Post : Option Value → gH → Prop} {X : String → gH → Prop} (hp : Post (some (.int thr)) h) : gSafe (d + 1) mX6_thrown [.ref (m 0)] h mc ms Post X := by
  have M0 := M.own0
  refine ⟨Nat.le_of_ble_eq_true rfl, fun K hK => ?_⟩
  show K 0 [some (.ref (m 0))] [] _ _ _
  refine s_aload_n hK dX6_thrown_0 rfl ?_
  refine s_getfield hK dX6_thrown_1 kF_X6_41 (by first | assumption | exact H.1 | exact H.2.1) (by rfl) ?_
  refine s_ireturn hK dX6_thrown_4 rfl (by first | rfl | exact b01_nar _) ?_
  exact hp
set_option maxRecDepth 10000 in
theorem c_fail (d : Nat) {m : Nat → Nat} {thr x : Int32} {S : CS} {lt : Nat → Bool} {st rw : Nat → Int32} {h : gH} (M : MdlAt h m thr S lt st rw) {mc ms : Nat} {Post : Option Value → gH → Prop} {X : String → gH → Prop} (hp : ∀ h', MdlAt h' m x S lt st rw → gFr (mS m) h h' → Post (some (.int 0)) h') : gSafe (d + 1) mX6_fail [.ref (m 0), .int x] h mc ms Post X := by
  have M0 := M.own0
  refine ⟨Nat.le_of_ble_eq_true rfl, fun K hK => ?_⟩
  show K 0 [some (.ref (m 0)), some (.int x)] [] _ _ _
  refine s_aload_n hK dX6_fail_0 rfl ?_
  refine s_iload_n hK dX6_fail_1 rfl ?_
  refine s_putfield hK dX6_fail_2 kF_X6_41 (by assumption) (by rfl) (by rfl) (by rfl) ?_
  refine s_iconst hK (v := 0) dX6_fail_5 (by decide) ?_
  refine s_ireturn hK dX6_fail_6 rfl (by first | rfl | exact b01_nar _) ?_
  exact hp _ (RawM.own (thr' := x) (gc' := S.2.2.2.1) M) (gFr.mdl (k := 0) (gFr_U _ _ _) (by omega))
set_option maxRecDepth 10000 in
theorem c_isIn (d : Nat) {v a b : Int32} {h : gH} {mc ms : Nat} {Post : Option Value → gH → Prop} {X : String → gH → Prop} (hp : Post (some (.int (b01 (decide (¬ v < a) && decide (v ≤ b))))) h) : gSafe (d + 1) mX6_isIn [.int v, .int a, .int b] h mc ms Post X := by
  refine ⟨Nat.le_of_ble_eq_true rfl, fun K hK => ?_⟩
  show K 0 [some (.int v), some (.int a), some (.int b)] [] _ _ _
  refine s_iload_n hK dX6_isIn_0 rfl ?_
  refine s_iload_n hK dX6_isIn_1 rfl ?_
  refine s_icmplt hK dX6_isIn_2 14 (by decide) (fun c_2 => ?_) (fun c_2 => ?_)
  · refine s_iconst hK (v := 0) dX6_isIn_14 (by decide) ?_
    refine s_ireturn hK dX6_isIn_15 rfl (by first | rfl | exact b01_nar _) ?_
    have e : (decide (¬ v < a) && decide (v ≤ b)) = false := by simp [c_2]
    rw [e] at hp
    exact hp
  · refine s_iload_n hK dX6_isIn_5 rfl ?_
    refine s_iload_n hK dX6_isIn_6 rfl ?_
    refine s_icmpgt hK dX6_isIn_7 14 (by decide) (fun c_7 => ?_) (fun c_7 => ?_)
    · refine s_iconst hK (v := 0) dX6_isIn_14 (by decide) ?_
      refine s_ireturn hK dX6_isIn_15 rfl (by first | rfl | exact b01_nar _) ?_
      have e : (decide (¬ v < a) && decide (v ≤ b)) = false := by
        have q : ¬ v ≤ b := Int32.not_le.mpr c_7
        simp [q]
      rw [e] at hp
      exact hp
    · refine s_iconst hK (v := 1) dX6_isIn_10 (by decide) ?_
      refine s_goto hK dX6_isIn_11 15 (by decide) ?_
      refine s_ireturn hK dX6_isIn_15 rfl (by first | rfl | exact b01_nar _) ?_
      have e : (decide (¬ v < a) && decide (v ≤ b)) = true := by
        have q : v ≤ b := Int32.not_lt.mp c_7
        simp [q, c_2]
      rw [e] at hp
      exact hp
theorem le_lt {v : Int32} {k : Nat} (hk : k + 1 < 2 ^ 31) : v ≤ nI k ↔ v < nI (k + 1) := by
  rw [Int32.le_iff_toInt_le, Int32.lt_iff_toInt_lt, nI_toInt hk, nI_toInt (by omega)]
  omega
theorem okR_in {v : Int32} {k : Nat} (hk : k + 1 < 2 ^ 31) : (decide (¬ v < 0) && decide (v ≤ nI k)) = okR v (k + 1) := by
  unfold okR
  rw [decide_eq_decide.mpr (le_lt hk)]
set_option maxRecDepth 10000 in
theorem c_isCell (d : Nat) {x y : Int32} {h : gH} {mc ms : Nat} {Post : Option Value → gH → Prop} {X : String → gH → Prop} (hp : Post (some (.int (b01 (okC x y)))) h) : gSafe (d + 2) mX6_isCell [.int x, .int y] h mc ms Post X := by
  unfold okC at hp
  refine ⟨Nat.le_of_ble_eq_true rfl, fun K hK => ?_⟩
  show K 0 [some (.int x), some (.int y)] [] _ _ _
  have no : okR x 9 = false ∨ okR y 7 = false → K 24 [some (.int x), some (.int y)] [] h mc ms := by
    intro e
    refine s_iconst hK (v := 0) dX6_isCell_24 (by decide) ?_
    refine s_ireturn hK dX6_isCell_25 rfl (by first | rfl | exact b01_nar _) ?_
    have e2 : (okR x 9 && okR y 7) = false := by rcases e with q | q <;> simp [q]
    rw [e2] at hp
    exact hp
  refine s_iload_n hK dX6_isCell_0 rfl ?_
  refine s_iconst hK (v := 0) dX6_isCell_1 (by decide) ?_
  refine s_bipush hK (v := 8) dX6_isCell_2 (by decide) ?_
  refine s_S30 hK dX6_isCell_4 kS_X6_45 (by rfl) ?_
  refine c_isIn _ ?_
  rw [show (decide (¬ x < 0) && decide (x ≤ 8)) = okR x 9 from okR_in (k := 8) (by omega)]
  cases e1 : okR x 9 with
  | false =>
    refine s_ifeq hK dX6_isCell_7 24 (by decide) (fun c_7 => ?_) (fun c_7 => ?_)
    · exact no (Or.inl e1)
    · exact absurd rfl c_7
  | true =>
    refine s_ifeq hK dX6_isCell_7 24 (by decide) (fun c_7 => ?_) (fun c_7 => ?_)
    · exact absurd c_7 (by decide)
    · refine s_iload_n hK dX6_isCell_10 rfl ?_
      refine s_iconst hK (v := 0) dX6_isCell_11 (by decide) ?_
      refine s_bipush hK (v := 6) dX6_isCell_12 (by decide) ?_
      refine s_S30 hK dX6_isCell_14 kS_X6_45 (by rfl) ?_
      refine c_isIn _ ?_
      rw [show (decide (¬ y < 0) && decide (y ≤ 6)) = okR y 7 from okR_in (k := 6) (by omega)]
      cases e2 : okR y 7 with
      | false =>
        refine s_ifeq hK dX6_isCell_17 24 (by decide) (fun c_17 => ?_) (fun c_17 => ?_)
        · exact no (Or.inr e2)
        · exact absurd rfl c_17
      | true =>
        refine s_ifeq hK dX6_isCell_17 24 (by decide) (fun c_17 => ?_) (fun c_17 => ?_)
        · exact absurd c_17 (by decide)
        · refine s_iconst hK (v := 1) dX6_isCell_20 (by decide) ?_
          refine s_goto hK dX6_isCell_21 25 (by decide) ?_
          refine s_ireturn hK dX6_isCell_25 rfl (by first | rfl | exact b01_nar _) ?_
          rw [e1, e2] at hp
          exact hp
set_option maxRecDepth 10000 in
theorem c_isGhost (d : Nat) {m : Nat → Nat} {thr x : Int32} {S : CS} {lt : Nat → Bool} {st rw : Nat → Int32} {h : gH} (M : MdlAt h m thr S lt st rw) (ok : CSok S) {mc ms : Nat} {Post : Option Value → gH → Prop} {X : String → gH → Prop} (hp : Post (some (.int (b01 (okR x S.2.2.2.1)))) h) : gSafe (d + 2) mX6_isGhost [.ref (m 0), .int x] h mc ms Post X := by
  have M0 := M.own0
  have h6 := ok.1
  refine ⟨Nat.le_of_ble_eq_true rfl, fun K hK => ?_⟩
  show K 0 [some (.ref (m 0)), some (.int x)] [] _ _ _
  refine s_iload_n hK dX6_isGhost_0 rfl ?_
  refine s_iconst hK (v := 0) dX6_isGhost_1 (by decide) ?_
  refine s_aload_n hK dX6_isGhost_2 rfl ?_
  refine s_getfield hK dX6_isGhost_3 kF_X6_49 (by first | assumption | exact H.1 | exact H.2.1) (by rfl) ?_
  refine s_iconst hK (v := 1) dX6_isGhost_6 (by decide) ?_
  refine s_isub hK dX6_isGhost_7 ?_
  refine s_S30 hK dX6_isGhost_8 kS_X6_45 (by rfl) ?_
  refine c_isIn _ ?_
  refine s_ireturn hK dX6_isGhost_11 rfl (by first | rfl | exact b01_nar _) ?_
  have e : (decide (¬ x < 0) && decide (x ≤ nI S.2.2.2.1 - 1)) = okR x S.2.2.2.1 := by
    cases e0 : S.2.2.2.1 with
    | zero =>
      unfold okR
      have q1 : nI 0 - 1 = -1 := by decide
      rw [q1]
      by_cases q : x < 0
      · simp [q]
      · have q2 : ¬ x ≤ -1 := by
          rw [Int32.le_iff_toInt_le]
          rw [Int32.lt_iff_toInt_lt] at q
          have : (-1 : Int32).toInt = -1 := by decide
          have : (0 : Int32).toInt = 0 := by decide
          omega
        have q3 : ¬ x < nI 0 := q
        simp [q2, q3]
    | succ n =>
      rw [nI_pred]
      exact okR_in (by omega)
  rw [e]
  exact hp
set_option maxRecDepth 10000 in
theorem c_sp (d : Nat) {m : Nat → Nat} {thr : Int32} {S : CS} {lt : Nat → Bool} {st rw : Nat → Int32} {g k : Nat} (hg : g < 6) (hk : k < 6) {h : gH} (M : MdlAt h m thr S lt st rw) {mc ms : Nat} {Post : Option Value → gH → Prop} {X : String → gH → Prop} (hp : Post (some (.int (nI (S.2.2.1 g k)))) h) : gSafe (d + 1) mX6_sp [.ref (m 0), .int (nI g), .int (nI k)] h mc ms Post X := by
  have M0 := M.own0
  obtain ⟨f, e6, k6⟩ := M.a6
  refine ⟨Nat.le_of_ble_eq_true rfl, fun K hK => ?_⟩
  show K 0 [some (.ref (m 0)), some (.int (nI g)), some (.int (nI k))] [] _ _ _
  refine s_aload_n hK dX6_sp_0 rfl ?_
  refine s_getfield hK dX6_sp_1 kF_X6_26 (by first | assumption | exact H.1 | exact H.2.1) (by rfl) ?_
  refine s_bipush hK (v := 6) dX6_sp_4 (by decide) ?_
  refine s_iload_n hK dX6_sp_6 rfl ?_
  refine s_imul hK dX6_sp_7 ?_
  refine s_iload_n hK dX6_sp_8 rfl ?_
  refine s_iadd hK dX6_sp_9 ?_
  rw [show (6 : Int32) = nI 6 from rfl, pk_mul, nI_add]
  refine s_ialoadN hK dX6_sp_10 (by assumption) (by omega) (by omega) ?_
  refine s_ireturn hK dX6_sp_11 rfl (by first | rfl | exact b01_nar _) ?_
  rw [k6 _ (by omega), show (6 * g + k) / 6 = g by omega, show (6 * g + k) % 6 = k by omega]
  exact hp
theorem updC_same {C : Nat → Nat → Int32} {k i : Nat} {x : Int32} {k' j : Nat} (h : k' ≠ k) : updC C k i x k' j = C k' j := if_neg h
set_option maxRecDepth 10000 in
theorem c_putM (d : Nat) {m : Nat → Nat} {thr : Int32} {S : CS} {lt : Nat → Bool} {st rw : Nat → Int32} {g k v : Nat} (hg : g < 6) (hk : k < 6) {h : gH} (M : MdlAt h m thr S lt st rw) {mc ms : Nat} {Post : Option Value → gH → Prop} {X : String → gH → Prop} (hp : ∀ h', RawM h' m thr S.2.2.2.1 (updC (mC S lt st rw) 6 (6 * g + k) (nI v)) → gFr (mS m) h h' → Post none h') : gSafe (d + 1) mX6_put [.ref (m 0), .int (nI g), .int (nI k), .int (nI v)] h mc ms Post X := by
  have M0 := M.own0
  obtain ⟨f, e6, k6⟩ := M.a6
  refine ⟨Nat.le_of_ble_eq_true rfl, fun K hK => ?_⟩
  show K 0 [some (.ref (m 0)), some (.int (nI g)), some (.int (nI k)), some (.int (nI v))] [] _ _ _
  refine s_aload_n hK dX6_put_0 rfl ?_
  refine s_getfield hK dX6_put_1 kF_X6_26 (by first | assumption | exact H.1 | exact H.2.1) (by rfl) ?_
  refine s_bipush hK (v := 6) dX6_put_4 (by decide) ?_
  refine s_iload_n hK dX6_put_6 rfl ?_
  refine s_imul hK dX6_put_7 ?_
  refine s_iload_n hK dX6_put_8 rfl ?_
  refine s_iadd hK dX6_put_9 ?_
  rw [show (6 : Int32) = nI 6 from rfl, pk_mul, nI_add]
  refine s_iload_n hK dX6_put_10 rfl ?_
  refine s_iastoreN hK dX6_put_11 (by assumption) (by omega) (by omega) ?_
  refine s_return hK dX6_put_12 rfl ?_
  exact hp _ (RawM.set (k := 6) (i := 6 * g + k) (x := nI v) M (by omega) (by omega) k6) (gFr.mdl (k := 6) (gFr_U _ _ _) (by omega))
/-- a neighbour, or -1 -/
def bsI (c dn : Nat) : Int32 := if nbOk c dn = true then nI (nbOf c dn) else -1
theorem bs0 : ∀ c : Fin 63, okC (nI c.val - nI c.val / 9 * 9 + 0) (nI c.val / 9 + (-1)) = nbOk c.val 0 ∧ (nbOk c.val 0 = true → 9 * (nI c.val / 9 + (-1)) + (nI c.val - nI c.val / 9 * 9 + 0) = nI (nbOf c.val 0)) := by decide +kernel
theorem bs1 : ∀ c : Fin 63, okC (nI c.val - nI c.val / 9 * 9 + 1) (nI c.val / 9 + 0) = nbOk c.val 1 ∧ (nbOk c.val 1 = true → 9 * (nI c.val / 9 + 0) + (nI c.val - nI c.val / 9 * 9 + 1) = nI (nbOf c.val 1)) := by decide +kernel
theorem bs2 : ∀ c : Fin 63, okC (nI c.val - nI c.val / 9 * 9 + 0) (nI c.val / 9 + 1) = nbOk c.val 2 ∧ (nbOk c.val 2 = true → 9 * (nI c.val / 9 + 1) + (nI c.val - nI c.val / 9 * 9 + 0) = nI (nbOf c.val 2)) := by decide +kernel
theorem bs3 : ∀ c : Fin 63, okC (nI c.val - nI c.val / 9 * 9 + (-1)) (nI c.val / 9 + 0) = nbOk c.val 3 ∧ (nbOk c.val 3 = true → 9 * (nI c.val / 9 + 0) + (nI c.val - nI c.val / 9 * 9 + (-1)) = nI (nbOf c.val 3)) := by decide +kernel
set_option maxRecDepth 10000 in
theorem c_beside (d : Nat) {c dn : Nat} (hc : c < 63) (hd : dn < 4) {h : gH} {mc ms : Nat} {Post : Option Value → gH → Prop} {X : String → gH → Prop} (hp : Post (some (.int (bsI c dn))) h) : gSafe (d + 3) mX6_beside [.int (nI c), .int (nI dn)] h mc ms Post X := by
  refine ⟨Nat.le_of_ble_eq_true rfl, fun K hK => ?_⟩
  show K 0 [some (.int (nI c)), some (.int (nI dn)), none, none] [] _ _ _
  have last : ∀ x y : Int32, okC x y = nbOk c dn → (nbOk c dn = true → 9 * y + x = nI (nbOf c dn)) → K 49 [some (.int (nI c)), some (.int (nI dn)), some (.int x), some (.int y)] [] h mc ms := by
    intro x y q1 q2
    unfold bsI at hp
    refine s_iload_n hK dX6_beside_49 rfl ?_
    refine s_iload_n hK dX6_beside_50 rfl ?_
    refine s_S20 hK dX6_beside_51 kS_X6_52 (by rfl) ?_
    refine c_isCell _ ?_
    rw [q1]
    cases e : nbOk c dn with
    | false =>
      rw [if_neg (by simp [e])] at hp
      refine s_ifeq hK dX6_beside_54 66 (by decide) (fun c_54 => ?_) (fun c_54 => ?_)
      · refine s_iconst hK (v := (-1)) dX6_beside_66 (by decide) ?_
        refine s_ireturn hK dX6_beside_67 rfl (by first | rfl | exact b01_nar _) ?_
        exact hp
      · exact absurd rfl c_54
    | true =>
      rw [if_pos e] at hp
      refine s_ifeq hK dX6_beside_54 66 (by decide) (fun c_54 => ?_) (fun c_54 => ?_)
      · exact absurd c_54 (by decide)
      · refine s_bipush hK (v := 9) dX6_beside_57 (by decide) ?_
        refine s_iload_n hK dX6_beside_59 rfl ?_
        refine s_imul hK dX6_beside_60 ?_
        refine s_iload_n hK dX6_beside_61 rfl ?_
        refine s_iadd hK dX6_beside_62 ?_
        refine s_goto hK dX6_beside_63 67 (by decide) ?_
        have e9 := q2 e
        rw [← e9] at hp
        refine s_ireturn hK dX6_beside_67 rfl (by first | rfl | exact b01_nar _) ?_
        exact hp
  rcases (show dn = 0 ∨ dn = 1 ∨ dn = 2 ∨ dn = 3 by omega) with rfl | rfl | rfl | rfl
  · have key := bs0 ⟨c, hc⟩
    refine s_iload_n hK dX6_beside_0 rfl ?_
    refine s_bipush hK (v := 9) dX6_beside_1 (by decide) ?_
    refine s_irem hK dX6_beside_3 (by decide) ?_
    refine s_iload_n hK dX6_beside_4 rfl ?_
    refine s_iconst hK (v := 1) dX6_beside_5 (by decide) ?_
    refine s_icmpne hK dX6_beside_6 13 (by decide) (fun c_6 => ?_) (fun c_6 => ?_)
    · refine s_iload_n hK dX6_beside_13 rfl ?_
      refine s_iconst hK (v := 3) dX6_beside_14 (by decide) ?_
      refine s_icmpne hK dX6_beside_15 22 (by decide) (fun c_15 => ?_) (fun c_15 => ?_)
      · refine s_iconst hK (v := 0) dX6_beside_22 (by decide) ?_
        refine s_iadd hK dX6_beside_23 ?_
        refine s_istore_n hK dX6_beside_24 rfl ?_
        refine s_iload_n hK dX6_beside_25 rfl ?_
        refine s_bipush hK (v := 9) dX6_beside_26 (by decide) ?_
        refine s_idiv hK dX6_beside_28 (by decide) ?_
        refine s_iload_n hK dX6_beside_29 rfl ?_
        refine s_iconst hK (v := 2) dX6_beside_30 (by decide) ?_
        refine s_icmpne hK dX6_beside_31 38 (by decide) (fun c_31 => ?_) (fun c_31 => ?_)
        · refine s_iload_n hK dX6_beside_38 rfl ?_
          refine s_ifne hK dX6_beside_39 46 (by decide) (fun c_39 => ?_) (fun c_39 => ?_)
          · exact absurd rfl c_39
          · refine s_iconst hK (v := (-1)) dX6_beside_42 (by decide) ?_
            refine s_goto hK dX6_beside_43 47 (by decide) ?_
            refine s_iadd hK dX6_beside_47 ?_
            refine s_istore_n hK dX6_beside_48 rfl ?_
            exact last _ _ key.1 key.2
        · exact absurd c_31 (by decide)
      · exact absurd c_15 (by decide)
    · exact absurd c_6 (by decide)
  · have key := bs1 ⟨c, hc⟩
    refine s_iload_n hK dX6_beside_0 rfl ?_
    refine s_bipush hK (v := 9) dX6_beside_1 (by decide) ?_
    refine s_irem hK dX6_beside_3 (by decide) ?_
    refine s_iload_n hK dX6_beside_4 rfl ?_
    refine s_iconst hK (v := 1) dX6_beside_5 (by decide) ?_
    refine s_icmpne hK dX6_beside_6 13 (by decide) (fun c_6 => ?_) (fun c_6 => ?_)
    · exact absurd rfl c_6
    · refine s_iconst hK (v := 1) dX6_beside_9 (by decide) ?_
      refine s_goto hK dX6_beside_10 23 (by decide) ?_
      refine s_iadd hK dX6_beside_23 ?_
      refine s_istore_n hK dX6_beside_24 rfl ?_
      refine s_iload_n hK dX6_beside_25 rfl ?_
      refine s_bipush hK (v := 9) dX6_beside_26 (by decide) ?_
      refine s_idiv hK dX6_beside_28 (by decide) ?_
      refine s_iload_n hK dX6_beside_29 rfl ?_
      refine s_iconst hK (v := 2) dX6_beside_30 (by decide) ?_
      refine s_icmpne hK dX6_beside_31 38 (by decide) (fun c_31 => ?_) (fun c_31 => ?_)
      · refine s_iload_n hK dX6_beside_38 rfl ?_
        refine s_ifne hK dX6_beside_39 46 (by decide) (fun c_39 => ?_) (fun c_39 => ?_)
        · refine s_iconst hK (v := 0) dX6_beside_46 (by decide) ?_
          refine s_iadd hK dX6_beside_47 ?_
          refine s_istore_n hK dX6_beside_48 rfl ?_
          exact last _ _ key.1 key.2
        · exact absurd c_39 (by decide)
      · exact absurd c_31 (by decide)
  · have key := bs2 ⟨c, hc⟩
    refine s_iload_n hK dX6_beside_0 rfl ?_
    refine s_bipush hK (v := 9) dX6_beside_1 (by decide) ?_
    refine s_irem hK dX6_beside_3 (by decide) ?_
    refine s_iload_n hK dX6_beside_4 rfl ?_
    refine s_iconst hK (v := 1) dX6_beside_5 (by decide) ?_
    refine s_icmpne hK dX6_beside_6 13 (by decide) (fun c_6 => ?_) (fun c_6 => ?_)
    · refine s_iload_n hK dX6_beside_13 rfl ?_
      refine s_iconst hK (v := 3) dX6_beside_14 (by decide) ?_
      refine s_icmpne hK dX6_beside_15 22 (by decide) (fun c_15 => ?_) (fun c_15 => ?_)
      · refine s_iconst hK (v := 0) dX6_beside_22 (by decide) ?_
        refine s_iadd hK dX6_beside_23 ?_
        refine s_istore_n hK dX6_beside_24 rfl ?_
        refine s_iload_n hK dX6_beside_25 rfl ?_
        refine s_bipush hK (v := 9) dX6_beside_26 (by decide) ?_
        refine s_idiv hK dX6_beside_28 (by decide) ?_
        refine s_iload_n hK dX6_beside_29 rfl ?_
        refine s_iconst hK (v := 2) dX6_beside_30 (by decide) ?_
        refine s_icmpne hK dX6_beside_31 38 (by decide) (fun c_31 => ?_) (fun c_31 => ?_)
        · exact absurd rfl c_31
        · refine s_iconst hK (v := 1) dX6_beside_34 (by decide) ?_
          refine s_goto hK dX6_beside_35 47 (by decide) ?_
          refine s_iadd hK dX6_beside_47 ?_
          refine s_istore_n hK dX6_beside_48 rfl ?_
          exact last _ _ key.1 key.2
      · exact absurd c_15 (by decide)
    · exact absurd c_6 (by decide)
  · have key := bs3 ⟨c, hc⟩
    refine s_iload_n hK dX6_beside_0 rfl ?_
    refine s_bipush hK (v := 9) dX6_beside_1 (by decide) ?_
    refine s_irem hK dX6_beside_3 (by decide) ?_
    refine s_iload_n hK dX6_beside_4 rfl ?_
    refine s_iconst hK (v := 1) dX6_beside_5 (by decide) ?_
    refine s_icmpne hK dX6_beside_6 13 (by decide) (fun c_6 => ?_) (fun c_6 => ?_)
    · refine s_iload_n hK dX6_beside_13 rfl ?_
      refine s_iconst hK (v := 3) dX6_beside_14 (by decide) ?_
      refine s_icmpne hK dX6_beside_15 22 (by decide) (fun c_15 => ?_) (fun c_15 => ?_)
      · exact absurd rfl c_15
      · refine s_iconst hK (v := (-1)) dX6_beside_18 (by decide) ?_
        refine s_goto hK dX6_beside_19 23 (by decide) ?_
        refine s_iadd hK dX6_beside_23 ?_
        refine s_istore_n hK dX6_beside_24 rfl ?_
        refine s_iload_n hK dX6_beside_25 rfl ?_
        refine s_bipush hK (v := 9) dX6_beside_26 (by decide) ?_
        refine s_idiv hK dX6_beside_28 (by decide) ?_
        refine s_iload_n hK dX6_beside_29 rfl ?_
        refine s_iconst hK (v := 2) dX6_beside_30 (by decide) ?_
        refine s_icmpne hK dX6_beside_31 38 (by decide) (fun c_31 => ?_) (fun c_31 => ?_)
        · refine s_iload_n hK dX6_beside_38 rfl ?_
          refine s_ifne hK dX6_beside_39 46 (by decide) (fun c_39 => ?_) (fun c_39 => ?_)
          · refine s_iconst hK (v := 0) dX6_beside_46 (by decide) ?_
            refine s_iadd hK dX6_beside_47 ?_
            refine s_istore_n hK dX6_beside_48 rfl ?_
            exact last _ _ key.1 key.2
          · exact absurd c_39 (by decide)
        · exact absurd c_31 (by decide)
    · exact absurd c_6 (by decide)
