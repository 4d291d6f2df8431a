/-! the class itself: what its calls answer, as functions of its state -/
abbrev CS : Type := (Nat → Int64) × (Nat → Int32) × (Nat → Nat → Nat) × Nat × Nat
abbrev gR : Type := String ⊕ Value
def gOut (Post : Option Value → gH → Prop) (X : String → gH → Prop) (h : gH) : gR → Prop
  | .inl E => X E h
  | .inr v => Post (some v) h
abbrev eI : String := "java/lang/IndexOutOfBoundsException"
abbrev eA : String := "java/lang/IllegalArgumentException"
abbrev eS : String := "java/lang/IllegalStateException"
def NightS (h : gH) (n : Nat → Nat) (S : CS) : Prop := NightAt h n S.1 S.2.1 S.2.2.1 S.2.2.2.1 S.2.2.2.2
def ClsAt (h : gH) (a : Nat) (n n' : Nat → Nat) (S : CS) : Prop := h a = some (.inr (4, [.ref (n 0), .ref (n' 0)])) ∧ NightS h n S ∧ (∃ S2, NightS h n' S2) ∧ ∀ i j, i < 7 → j < 7 → n i ≠ n' j
def CSok (S : CS) : Prop := S.2.2.2.1 ≤ 6 ∧ GOK S.2.2.1
def cS (n n' : Nat → Nat) : List Nat := nS n ++ nS n'
theorem NightAt.keep {h h' : gH} {n : Nat → Nat} {L : Nat → Int64} {am : Nat → Int32} {G : Nat → Nat → Nat} {gc hr : Nat} (N : NightAt h n L am G gc hr) (k : ∀ i, i < 7 → h' (n i) = h (n i)) : NightAt h' n L am G gc hr := by
  obtain ⟨m0, m1, ⟨own, mp, pl, ps, m4⟩, ⟨m5, m6⟩, m36⟩ := N
  exact ⟨(k 0 (by omega)).trans m0, m1.keep (k 1 (by omega)) (k 2 (by omega)) (k 3 (by omega)), ⟨own, mp, pl, ps, (k 4 (by omega)).trans m4⟩, ⟨(k 5 (by omega)).trans m5, m6.keep (k 6 (by omega))⟩, m36⟩
theorem NightAt.sort {h : gH} {n : Nat → Nat} {L : Nat → Int64} {am : Nat → Int32} {G : Nat → Nat → Nat} {gc hr : Nat} (N : NightAt h n L am G gc hr) {a : Nat} {fs : List Value} (ha : h a = some (.inr (4, fs))) : ∀ i, i < 7 → a ≠ n i := by
  obtain ⟨h0, ⟨h1, h2, f3, h3, -⟩, ⟨own, mp, pl, ps, h4⟩, ⟨h5, f6, h6, -⟩, -⟩ := N
  have h4 : h (n 4) = _ := h4
  have a1 : ∀ {i j : Nat} {x z : List Value}, i ≠ j → (Sum.inr (i, x) : gO) ≠ Sum.inr (j, z) := fun hij e => by cases e; exact hij rfl
  have a2 : ∀ {x : Nat × List Value} {z : Nat × vp_A}, (Sum.inr x : gO) ≠ Sum.inl z := fun e => by cases e
  intro i hi
  match i, hi with
  | 0, _ => exact ap ha h0 (a1 (by decide))
  | 1, _ => exact ap ha h1 (a1 (by decide))
  | 2, _ => exact ap ha h2 (a1 (by decide))
  | 3, _ => exact ap ha h3 a2
  | 4, _ => exact ap ha h4 (a1 (by decide))
  | 5, _ => exact ap ha h5 (a1 (by decide))
  | 6, _ => exact ap ha h6 a2
theorem nS_mem {n : Nat → Nat} {q : Nat} (h : q ∈ nS n) : ∃ i, i < 7 ∧ q = n i := by
  simp only [nS, List.mem_cons, List.not_mem_nil, or_false] at h
  rcases h with rfl | rfl | rfl | rfl | rfl
  · exact ⟨0, by omega, rfl⟩
  · exact ⟨1, by omega, rfl⟩
  · exact ⟨3, by omega, rfl⟩
  · exact ⟨4, by omega, rfl⟩
  · exact ⟨6, by omega, rfl⟩
/-- the class behind a change of its first Night -/
theorem ClsAt.now {h h' : gH} {a : Nat} {n n' : Nat → Nat} {S S' : CS} (C : ClsAt h a n n' S) (N : NightS h' n S') (F : gFr (nS n) h h') : ClsAt h' a n n' S' := by
  obtain ⟨c1, c2, ⟨S2, c3⟩, c4⟩ := C
  refine ⟨(F _ (fun hm => ?_)).trans c1, N, ⟨S2, c3.keep (fun i hi => F _ (fun hm => ?_))⟩, c4⟩
  · obtain ⟨i, hi, e⟩ := nS_mem hm
    exact c2.sort c1 i hi e
  · obtain ⟨j, hj, e⟩ := nS_mem hm
    exact c4 j i hj hi e.symm
theorem ClsAt.ahead {h h' : gH} {a : Nat} {n n' : Nat → Nat} {S S2 : CS} (C : ClsAt h a n n' S) (N : NightS h' n' S2) (F : gFr (nS n') h h') : ClsAt h' a n n' S := by
  obtain ⟨c1, c2, ⟨S3, c3⟩, c4⟩ := C
  refine ⟨(F _ (fun hm => ?_)).trans c1, c2.keep (fun i hi => F _ (fun hm => ?_)), ⟨S2, N⟩, c4⟩
  · obtain ⟨i, hi, e⟩ := nS_mem hm
    exact c3.sort c1 i hi e
  · obtain ⟨j, hj, e⟩ := nS_mem hm
    exact c4 i j hi hj e
theorem gFr.now {h h' : gH} {n n' : Nat → Nat} (F : gFr (nS n) h h') : gFr (cS n n') h h' := F.mono (fun _ hq => List.mem_append_left _ hq)
theorem gFr.ahead {h h' : gH} {n n' : Nat → Nat} (F : gFr (nS n') h h') : gFr (cS n n') h h' := F.mono (fun _ hq => List.mem_append_right _ hq)
-- what an argument has to be
def okR (x : Int32) (k : Nat) : Bool := decide (¬ x < 0) && decide (x < nI k)
def okH (x : Int32) (k : Nat) : Bool := decide (¬ x < 1) && decide (x ≤ nI k)
theorem okR_of {x : Int32} {k : Nat} (hk : k < 2 ^ 31) (h : okR x k = true) : x.toNatClampNeg < k ∧ x = nI x.toNatClampNeg := by
  unfold okR at h
  rw [Bool.and_eq_true, decide_eq_true_eq, decide_eq_true_eq] at h
  obtain ⟨j, hj, rfl⟩ := nI_of h.1
  rw [nI_clamp hj]
  exact ⟨(nI_ltI hj hk).mp h.2, rfl⟩
theorem okH_of {x : Int32} {k : Nat} (hk : k < 2 ^ 31) (h : okH x k = true) : 1 ≤ x.toNatClampNeg ∧ x.toNatClampNeg ≤ k ∧ x = nI x.toNatClampNeg := by
  unfold okH at h
  rw [Bool.and_eq_true, decide_eq_true_eq, decide_eq_true_eq] at h
  have h0 : ¬ x < 0 := fun q => h.1 (Int32.lt_trans q (by decide))
  obtain ⟨j, hj, rfl⟩ := nI_of h0
  rw [nI_clamp hj]
  refine ⟨?_, (nI_leI hj hk).mp h.2, rfl⟩
  by_cases e : j = 0
  · subst e; exact absurd (show nI 0 < 1 by decide) h.1
  · omega
def okC (x y : Int32) : Bool := okR x 9 && okR y 7
def cellI (x y : Int32) : Nat := 9 * y.toNatClampNeg + x.toNatClampNeg
theorem okC_of {x y : Int32} (h : okC x y = true) : cellI x y < 63 ∧ 9 * y + x = nI (cellI x y) := by
  unfold okC at h
  rw [Bool.and_eq_true] at h
  obtain ⟨h1, h2⟩ := okR_of (by omega) h.1
  obtain ⟨h3, h4⟩ := okR_of (by omega) h.2
  refine ⟨by unfold cellI; omega, ?_⟩
  unfold cellI
  rw [h2, h4, nI_clamp (by omega), nI_clamp (by omega), show (9 : Int32) = nI 9 from rfl, pk_mul, nI_add]
set_option maxRecDepth 10000 in
theorem c_checkedCell (d : Nat) {x y : Int32} {h : gH} {mc ms : Nat} (hmc : 1 ≤ mc) (hms : 6 ≤ ms) {Post : Option Value → gH → Prop} {X : String → gH → Prop} (hx : okC x y = false → X eI h) (hp : okC x y = true → Post (some (.int (nI (cellI x y)))) h) : gSafe (d + 6) mX5_checkedCell [.int x, .int y] h mc ms Post X := by
  refine ⟨Nat.le_of_ble_eq_true rfl, fun K hK => ?_⟩
  show K 0 [some (.int x), some (.int y)] [] _ _ _
  have bad : okC x y = false → K 20 [some (.int x), some (.int y)] [] h mc ms := by
    intro e
    refine s_throw hK dX5_checkedCell_20 kT_X5_checkedCell_20 (by omega) (by omega) (by omega) (by rfl) ?_
    exact hx e
  unfold okC okR at *
  refine s_iload_n hK dX5_checkedCell_0 rfl ?_
  refine s_iflt hK dX5_checkedCell_1 20 (by decide) (fun c_1 => ?_) (fun c_1 => ?_)
  · exact bad (by simp [c_1])
  · refine s_iload_n hK dX5_checkedCell_4 rfl ?_
    refine s_bipush hK (v := 9) dX5_checkedCell_5 (by decide) ?_
    refine s_icmpge hK dX5_checkedCell_7 20 (by decide) (fun c_7 => ?_) (fun c_7 => ?_)
    · refine bad ?_
      have : ¬ x < nI 9 := Int32.not_lt.mpr c_7
      simp [this]
    · refine s_iload_n hK dX5_checkedCell_10 rfl ?_
      refine s_iflt hK dX5_checkedCell_11 20 (by decide) (fun c_11 => ?_) (fun c_11 => ?_)
      · exact bad (by simp [c_11])
      · refine s_iload_n hK dX5_checkedCell_14 rfl ?_
        refine s_bipush hK (v := 7) dX5_checkedCell_15 (by decide) ?_
        refine s_icmplt hK dX5_checkedCell_17 30 (by decide) (fun c_17 => ?_) (fun c_17 => ?_)
        · refine s_bipush hK (v := 9) dX5_checkedCell_30 (by decide) ?_
          refine s_iload_n hK dX5_checkedCell_32 rfl ?_
          refine s_imul hK dX5_checkedCell_33 ?_
          refine s_iload_n hK dX5_checkedCell_34 rfl ?_
          refine s_iadd hK dX5_checkedCell_35 ?_
          have e : okC x y = true := by
            unfold okC okR
            have h9 : x < nI 9 := Int32.not_le.mp c_7
            have h7 : y < nI 7 := c_17
            simp [c_1, c_11, h9, h7]
          rw [(okC_of e).2]
          refine s_ireturn hK dX5_checkedCell_36 rfl (by first | rfl | exact b01_nar _) ?_
          exact hp e
        · refine bad ?_
          have : ¬ y < nI 7 := c_17
          simp [this]
set_option maxRecDepth 10000 in
theorem c_checkDirection (d : Nat) {x : Int32} {h : gH} {mc ms : Nat} (hmc : 1 ≤ mc) (hms : 6 ≤ ms) {Post : Option Value → gH → Prop} {X : String → gH → Prop} (hx : okR x 4 = false → X eA h) (hp : okR x 4 = true → Post none h) : gSafe (d + 6) mX5_checkDirection [.int x] h mc ms Post X := by
  refine ⟨Nat.le_of_ble_eq_true rfl, fun K hK => ?_⟩
  show K 0 [some (.int x)] [] _ _ _
  have bad : okR x 4 = false → K 9 [some (.int x)] [] h mc ms := by
    intro e
    refine s_throw hK dX5_checkDirection_9 kT_X5_checkDirection_9 (by omega) (by omega) (by omega) (by rfl) ?_
    exact hx e
  unfold okR at *
  refine s_iload_n hK dX5_checkDirection_0 rfl ?_
  refine s_iflt hK dX5_checkDirection_1 9 (by decide) (fun c_1 => ?_) (fun c_1 => ?_)
  · exact bad (by simp [c_1])
  · refine s_iload_n hK dX5_checkDirection_4 rfl ?_
    refine s_iconst hK (v := 4) dX5_checkDirection_5 (by decide) ?_
    refine s_icmplt hK dX5_checkDirection_6 19 (by decide) (fun c_6 => ?_) (fun c_6 => ?_)
    · refine s_return hK dX5_checkDirection_19 rfl ?_
      exact hp (by have : x < nI 4 := c_6; simp [c_1, this])
    · refine bad ?_
      have : ¬ x < nI 4 := c_6
      simp [this]
set_option maxRecDepth 10000 in
theorem c_checkWhat (d : Nat) {x : Int32} {k : Nat} {h : gH} {mc ms : Nat} (hmc : 1 ≤ mc) (hms : 6 ≤ ms) {Post : Option Value → gH → Prop} {X : String → gH → Prop} (hx : okR x k = false → X eI h) (hp : okR x k = true → Post none h) : gSafe (d + 6) mX5_checkWhat [.int x, .int (nI k)] h mc ms Post X := by
  refine ⟨Nat.le_of_ble_eq_true rfl, fun K hK => ?_⟩
  show K 0 [some (.int x), some (.int (nI k))] [] _ _ _
  have bad : okR x k = false → K 9 [some (.int x), some (.int (nI k))] [] h mc ms := by
    intro e
    refine s_throw hK dX5_checkWhat_9 kT_X5_checkWhat_9 (by omega) (by omega) (by omega) (by rfl) ?_
    exact hx e
  unfold okR at *
  refine s_iload_n hK dX5_checkWhat_0 rfl ?_
  refine s_iflt hK dX5_checkWhat_1 9 (by decide) (fun c_1 => ?_) (fun c_1 => ?_)
  · exact bad (by simp [c_1])
  · refine s_iload_n hK dX5_checkWhat_4 rfl ?_
    refine s_iload_n hK dX5_checkWhat_5 rfl ?_
    refine s_icmplt hK dX5_checkWhat_6 19 (by decide) (fun c_6 => ?_) (fun c_6 => ?_)
    · refine s_return hK dX5_checkWhat_19 rfl ?_
      exact hp (by simp [c_1, c_6])
    · refine bad ?_
      simp [c_6]
set_option maxRecDepth 10000 in
theorem c_checkHours (d : Nat) {x : Int32} {k : Nat} {h : gH} {mc ms : Nat} (hmc : 1 ≤ mc) (hms : 6 ≤ ms) {Post : Option Value → gH → Prop} {X : String → gH → Prop} (hx : okH x k = false → X eA h) (hp : okH x k = true → Post none h) : gSafe (d + 6) mX5_checkHours [.int x, .int (nI k)] h mc ms Post X := by
  refine ⟨Nat.le_of_ble_eq_true rfl, fun K hK => ?_⟩
  show K 0 [some (.int x), some (.int (nI k))] [] _ _ _
  have bad : okH x k = false → K 10 [some (.int x), some (.int (nI k))] [] h mc ms := by
    intro e
    refine s_throw hK dX5_checkHours_10 kT_X5_checkHours_10 (by omega) (by omega) (by omega) (by rfl) ?_
    exact hx e
  unfold okH at *
  refine s_iload_n hK dX5_checkHours_0 rfl ?_
  refine s_iconst hK (v := 1) dX5_checkHours_1 (by decide) ?_
  refine s_icmplt hK dX5_checkHours_2 10 (by decide) (fun c_2 => ?_) (fun c_2 => ?_)
  · exact bad (by simp [c_2])
  · refine s_iload_n hK dX5_checkHours_5 rfl ?_
    refine s_iload_n hK dX5_checkHours_6 rfl ?_
    refine s_icmple hK dX5_checkHours_7 20 (by decide) (fun c_7 => ?_) (fun c_7 => ?_)
    · refine s_return hK dX5_checkHours_20 rfl ?_
      exact hp (by simp [c_2, c_7])
    · refine bad ?_
      simp [c_7]
set_option maxRecDepth 10000 in
theorem c_checkGhost (d : Nat) {a : Nat} {n n' : Nat → Nat} {S : CS} {x : Int32} {h : gH} (C : ClsAt h a n n' S) {mc ms : Nat} (hmc : 1 ≤ mc) (hms : 6 ≤ ms) {Post : Option Value → gH → Prop} {X : String → gH → Prop} (hx : okR x S.2.2.2.1 = false → X eI h) (hp : okR x S.2.2.2.1 = true → Post none h) : gSafe (d + 6) mX5_checkGhost [.ref a, .int x] h mc ms Post X := by
  have Ca := C.1
  have N0 := C.2.1.1
  refine ⟨Nat.le_of_ble_eq_true rfl, fun K hK => ?_⟩
  show K 0 [some (.ref a), some (.int x)] [] _ _ _
  have bad : okR x S.2.2.2.1 = false → K 15 [some (.ref a), some (.int x)] [] h mc ms := by
    intro e
    refine s_throw hK dX5_checkGhost_15 kT_X5_checkGhost_15 (by omega) (by omega) (by omega) (by rfl) ?_
    exact hx e
  unfold okR at *
  refine s_iload_n hK dX5_checkGhost_0 rfl ?_
  refine s_iflt hK dX5_checkGhost_1 15 (by decide) (fun c_1 => ?_) (fun c_1 => ?_)
  · exact bad (by simp [c_1])
  · refine s_iload_n hK dX5_checkGhost_4 rfl ?_
    refine s_aload_n hK dX5_checkGhost_5 rfl ?_
    refine s_getfield hK dX5_checkGhost_6 kF_X5_10 (by first | assumption | exact H.1 | exact H.2.1) (by rfl) ?_
    refine s_getfield hK dX5_checkGhost_9 kF_X5_105 (by first | assumption | exact H.1 | exact H.2.1) (by rfl) ?_
    refine s_icmplt hK dX5_checkGhost_12 25 (by decide) (fun c_12 => ?_) (fun c_12 => ?_)
    · refine s_return hK dX5_checkGhost_25 rfl ?_
      exact hp (by simp [c_1, c_12])
    · refine bad ?_
      simp [c_12]
set_option maxRecDepth 10000 in
theorem c_checkRoomFor (d : Nat) {a : Nat} {n n' : Nat → Nat} {S : CS} {u : Int32} {k c : Nat} (hc : c < 63) {h : gH} (C : ClsAt h a n n' S) {mc ms : Nat} (hmc : 1 ≤ mc) (hms : 6 ≤ ms) {Post : Option Value → gH → Prop} {X : String → gH → Prop} (hx : (u < nI k ∧ thg S.1 c = 0) = False → X eS h) (hp : u < nI k → thg S.1 c = 0 → Post none h) : gSafe (d + 6) mX5_checkRoomFor [.ref a, .int u, .int (nI k), .int (nI c)] h mc ms Post X := by
  have Ca := C.1
  have N0 := C.2.1.1
  have H1 := C.2.1.2.1.1
  refine ⟨Nat.le_of_ble_eq_true rfl, fun K hK => ?_⟩
  show K 0 [some (.ref a), some (.int u), some (.int (nI k)), some (.int (nI c))] [] _ _ _
  have bad : (u < nI k ∧ thg S.1 c = 0) = False → K 19 [some (.ref a), some (.int u), some (.int (nI k)), some (.int (nI c))] [] h mc ms := by
    intro e
    refine s_throw hK dX5_checkRoomFor_19 kT_X5_checkRoomFor_19 (by omega) (by omega) (by omega) (by rfl) ?_
    exact hx e
  have t5 : thg S.1 c < 5 := by
    unfold thg
    repeat' split
    all_goals omega
  refine s_iload_n hK dX5_checkRoomFor_0 rfl ?_
  refine s_iload_n hK dX5_checkRoomFor_1 rfl ?_
  refine s_icmpge hK dX5_checkRoomFor_2 19 (by decide) (fun c_2 => ?_) (fun c_2 => ?_)
  · refine bad (eq_false (fun q => ?_))
    exact Int32.not_lt.mpr c_2 q.1
  · refine s_aload_n hK dX5_checkRoomFor_5 rfl ?_
    refine s_getfield hK dX5_checkRoomFor_6 kF_X5_10 (by first | assumption | exact H.1 | exact H.2.1) (by rfl) ?_
    refine s_getfield hK dX5_checkRoomFor_9 kF_X5_40 (by first | assumption | exact H.1 | exact H.2.1) (by rfl) ?_
    refine s_iload_n hK dX5_checkRoomFor_12 rfl ?_
    refine s_V10 hK dX5_checkRoomFor_13 kV_X5_82 (by first | assumption | exact H.1 | exact H.2.1) (by rfl) ?_
    refine c_thingIn _ hc C.2.1.2.1 ?_
    refine s_ifeq hK dX5_checkRoomFor_16 29 (by decide) (fun c_16 => ?_) (fun c_16 => ?_)
    · refine s_return hK dX5_checkRoomFor_29 rfl ?_
      exact hp (Int32.not_le.mp c_2) ((nI_eq (b := 0) (by omega) (by omega)).mp c_16)
    · refine bad (eq_false (fun q => c_16 ?_))
      rw [q.2]
      rfl
