/-! what is done to the things, by cells -/
theorem reL_ne {L : Nat → Int64} {k : Nat} (h : k ≠ 7) : reL L k = L k := if_neg h
theorem mC_set {S S' : CS} {lt : Nat → Bool} {st rw : Nat → Int32} {c t : Nat} {v : Int32} {b : Bool} (h3 : ∀ j, j < 63 → thg S'.1 j = if j = c then t else thg S.1 j) (h1 : ∀ j, j < 63 → lb (S'.1 1) j = if j = c then b else lb (S.1 1) j) (h4 : ∀ j, j < 63 → S'.2.1 j = if j = c then v else S.2.1 j) (h5 : S'.1 5 = S.1 5) (h6 : S'.1 6 = S.1 6) (hr : S'.2.2 = S.2.2) : ∀ k j, 1 ≤ k → k < 11 → j < mLen k → updC (updC (updC (mC S lt st rw) 3 c (nI t)) 4 c v) 5 c (b01 b) k j = mC S' lt st rw k j := by
  intro k j k1 k2 hj
  by_cases e3 : k = 3
  · subst e3
    rw [updC_same (by decide), updC_same (by decide)]
    show (if 3 = 3 then (if j = c then nI t else nI (thg S.1 j)) else _) = nI (thg S'.1 j)
    rw [if_pos rfl, h3 j hj]
    by_cases e : j = c
    · rw [if_pos e, if_pos e]
    · rw [if_neg e, if_neg e]
  · by_cases e4 : k = 4
    · subst e4
      rw [updC_same (by decide)]
      show (if 4 = 4 then (if j = c then v else updC (mC S lt st rw) 3 c (nI t) 4 j) else _) = S'.2.1 j
      rw [if_pos rfl, h4 j hj, updC_same (by decide)]
      rfl
    · by_cases e5 : k = 5
      · subst e5
        show (if 5 = 5 then (if j = c then b01 b else updC (updC (mC S lt st rw) 3 c (nI t)) 4 c v 5 j) else _) = b01 (lb (S'.1 1) j)
        rw [if_pos rfl, h1 j hj, updC_same (by decide), updC_same (by decide)]
        by_cases e : j = c
        · rw [if_pos e, if_pos e]
        · rw [if_neg e, if_neg e]
          rfl
      · rw [updC_same e5, updC_same e4, updC_same e3]
        unfold mC
        split
        · rw [h5]
        · rw [h6]
        · exact absurd rfl e3
        · exact absurd rfl e4
        · exact absurd rfl e5
        · rw [hr]
        · rw [hr]
        · rfl
        · rfl
        · rfl
theorem thg_0 {L : Nat → Int64} {c : Nat} (h : thg L c = 0) : lb (L 0) c = false ∧ lb (L 2) c = false ∧ lb (L 3) c = false ∧ lb (L 4) c = false := by
  unfold thg at h
  cases e0 : lb (L 0) c <;> cases e2 : lb (L 2) c <;> cases e3 : lb (L 3) c <;> cases e4 : lb (L 4) c <;> simp [e0, e2, e3, e4] at h ⊢
theorem thg_of {L L' : Nat → Int64} {j : Nat} (h0 : lb (L' 0) j = lb (L 0) j) (h2 : lb (L' 2) j = lb (L 2) j) (h3 : lb (L' 3) j = lb (L 3) j) (h4 : lb (L' 4) j = lb (L 4) j) : thg L' j = thg L j := by
  unfold thg
  rw [h0, h2, h3, h4]
theorem or_only {x : Int64} {c j : Nat} (hc : c < 63) : lb (x ||| bOnly c) j = (lb x j || decide (j = c)) := by
  rw [lb_or, lb_only (by omega)]
theorem and_but {x : Int64} {c j : Nat} (hc : c < 63) (hj : j < 63) : lb (x &&& (bOnly c ^^^ (-1))) j = (lb x j && !decide (j = c)) := by
  rw [lb_and, lb_not (by omega), lb_only (by omega)]
theorem candle_th {L : Nat → Int64} {c : Nat} (hc : c < 63) : ∀ j, j < 63 → thg (reL (oCandle L c)) j = if j = c then 1 else thg L j := by
  intro j hj
  have e0 : reL (oCandle L c) 0 = L 0 ||| bOnly c := rfl
  by_cases e : j = c
  · rw [if_pos e]
    unfold thg
    rw [e0, or_only hc]
    simp [e]
  · rw [if_neg e]
    refine thg_of ?_ rfl rfl rfl
    rw [e0, or_only hc]
    simp [e]
theorem candle_bu {L : Nat → Int64} {c : Nat} (hc : c < 63) : ∀ j, j < 63 → lb (reL (oCandle L c) 1) j = if j = c then true else lb (L 1) j := by
  intro j hj
  have e0 : reL (oCandle L c) 1 = L 1 ||| bOnly c := rfl
  rw [e0, or_only hc]
  by_cases e : j = c <;> simp [e]
theorem mirror_th {L : Nat → Int64} {c : Nat} (hc : c < 63) (h0 : thg L c = 0) (b : Bool) : ∀ j, j < 63 → thg (reL (oMirror L c b)) j = if j = c then (if b then 2 else 3) else thg L j := by
  intro j hj
  obtain ⟨a0, a2, a3, a4⟩ := thg_0 h0
  cases b with
  | true =>
    have e2 : reL (oMirror L c true) 2 = L 2 ||| bOnly c := rfl
    by_cases e : j = c
    · rw [if_pos e]
      unfold thg
      rw [e2, or_only hc, show reL (oMirror L c true) 0 = L 0 from rfl, e, a0]
      simp
    · rw [if_neg e]
      refine thg_of rfl ?_ rfl rfl
      rw [e2, or_only hc]
      simp [e]
  | false =>
    have e2 : reL (oMirror L c false) 3 = L 3 ||| bOnly c := rfl
    by_cases e : j = c
    · rw [if_pos e]
      unfold thg
      rw [e2, or_only hc, show reL (oMirror L c false) 0 = L 0 from rfl, show reL (oMirror L c false) 2 = L 2 from rfl, e, a0, a2]
      simp
    · rw [if_neg e]
      refine thg_of rfl rfl ?_ rfl
      rw [e2, or_only hc]
      simp [e]
theorem mirror_1 (L : Nat → Int64) (c : Nat) (b : Bool) : reL (oMirror L c b) 1 = L 1 ∧ reL (oMirror L c b) 5 = L 5 ∧ reL (oMirror L c b) 6 = L 6 := by
  cases b <;> exact ⟨rfl, rfl, rfl⟩
theorem tally_th {L : Nat → Int64} {c : Nat} (hc : c < 63) (h0 : thg L c = 0) : ∀ j, j < 63 → thg (oTally L c) j = if j = c then 4 else thg L j := by
  intro j hj
  obtain ⟨a0, a2, a3, a4⟩ := thg_0 h0
  have e4 : oTally L c 4 = L 4 ||| bOnly c := rfl
  by_cases e : j = c
  · rw [if_pos e]
    unfold thg
    rw [e4, or_only hc, show oTally L c 0 = L 0 from rfl, show oTally L c 2 = L 2 from rfl, show oTally L c 3 = L 3 from rfl, e, a0, a2, a3]
    simp
  · rw [if_neg e]
    refine thg_of rfl rfl rfl ?_
    rw [e4, or_only hc]
    simp [e]
theorem clear_th {L : Nat → Int64} {c : Nat} (hc : c < 63) : ∀ j, j < 63 → thg (reL (oClear L c)) j = if j = c then 0 else thg L j := by
  intro j hj
  have e0 : reL (oClear L c) 0 = L 0 &&& (bOnly c ^^^ (-1)) := rfl
  have e2 : reL (oClear L c) 2 = L 2 &&& (bOnly c ^^^ (-1)) := rfl
  have e3 : reL (oClear L c) 3 = L 3 &&& (bOnly c ^^^ (-1)) := rfl
  have e4 : reL (oClear L c) 4 = L 4 &&& (bOnly c ^^^ (-1)) := rfl
  by_cases e : j = c
  · rw [if_pos e]
    unfold thg
    rw [e0, e2, e3, e4, and_but hc hj, and_but hc hj, and_but hc hj, and_but hc hj]
    simp [e]
  · rw [if_neg e]
    refine thg_of ?_ ?_ ?_ ?_
    · rw [e0, and_but hc hj]; simp [e]
    · rw [e2, and_but hc hj]; simp [e]
    · rw [e3, and_but hc hj]; simp [e]
    · rw [e4, and_but hc hj]; simp [e]
theorem clear_bu {L : Nat → Int64} {c : Nat} (hc : c < 63) : ∀ j, j < 63 → lb (reL (oClear L c) 1) j = if j = c then false else lb (L 1) j := by
  intro j hj
  have e0 : reL (oClear L c) 1 = L 1 &&& (bOnly c ^^^ (-1)) := rfl
  rw [e0, and_but hc hj]
  by_cases e : j = c <;> simp [e]
/-- what holds of a class's things between its calls -/
def InvT (L : Nat → Int64) (am : Nat → Int32) : Prop :=
  (∀ k, k < 5 → ∀ c, lb (L k) c = true → c < 63) ∧
  (∀ c, lb (L 0) c = true → lb (L 2) c = false ∧ lb (L 3) c = false ∧ lb (L 4) c = false) ∧ (∀ c, lb (L 2) c = true → lb (L 3) c = false ∧ lb (L 4) c = false) ∧ (∀ c, lb (L 3) c = true → lb (L 4) c = false) ∧
  (∀ c, lb (L 1) c = true → lb (L 0) c = true ∧ ∃ v, v < 100 ∧ am c = nI (v + 1)) ∧
  (∀ c, c < 63 → ∃ v, v < 100 ∧ am c = nI v ∧ (thg L c = 1 → v ≤ 60) ∧ (thg L c ≠ 1 → thg L c ≠ 4 → v = 0))
theorem in11 (L : Nat → Int64) (c : Nat) : inT L 1 1 c = lb (L 0) c := by
  unfold inT thg
  cases lb (L 0) c <;> cases lb (L 2) c <;> cases lb (L 3) c <;> cases lb (L 4) c <;> rfl
theorem in23 {L : Nat → Int64} {am : Nat → Int32} (I : InvT L am) (c : Nat) : inT L 2 3 c = (lb (L 2) c || lb (L 3) c) := by
  have q := I.2.1 c
  unfold inT thg
  cases e0 : lb (L 0) c with
  | true =>
    obtain ⟨q2, q3, q4⟩ := q e0
    rw [q2, q3]
    rfl
  | false => cases lb (L 2) c <;> cases lb (L 3) c <;> cases lb (L 4) c <;> rfl
theorem in44 {L : Nat → Int64} {am : Nat → Int32} (I : InvT L am) (c : Nat) : inT L 4 4 c = lb (L 4) c := by
  have q := I.2.1 c
  have r := I.2.2.1 c
  have s := I.2.2.2.1 c
  unfold inT thg
  cases e4 : lb (L 4) c with
  | false => cases lb (L 0) c <;> cases lb (L 2) c <;> cases lb (L 3) c <;> rfl
  | true =>
    cases e0 : lb (L 0) c with
    | true => exact absurd e4 (by rw [(q e0).2.2]; decide)
    | false =>
      cases e2 : lb (L 2) c with
      | true => exact absurd e4 (by rw [(r e2).2]; decide)
      | false =>
        cases e3 : lb (L 3) c with
        | true => exact absurd e4 (by rw [s e3]; decide)
        | false => rfl
