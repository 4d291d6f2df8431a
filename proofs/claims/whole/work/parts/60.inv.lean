/-! what holds between the calls -/
theorem inT_of {L L' : Nat → Int64} {a b j : Nat} (h : thg L' j = thg L j) : inT L' a b j = inT L a b j := by
  unfold inT
  rw [h]
theorem cnt_put {L L' : Nat → Int64} {c t a b : Nat} (hc : c < 63) (th : ∀ j, j < 63 → thg L' j = if j = c then t else thg L j) (h0 : thg L c = 0) (ha : 1 ≤ a) : cntG (inT L' a b) 63 = cntG (inT L a b) 63 + (if a ≤ t ∧ t ≤ b then 1 else 0) := by
  have e0 : inT L a b c = false := by
    unfold inT
    rw [h0]
    simp
    omega
  by_cases q : a ≤ t ∧ t ≤ b
  · rw [if_pos q, ← cnt_add e0 63 hc]
    refine cntG_cong (fun j hj => ?_)
    unfold inT
    rw [th j hj]
    by_cases z : j = c
    · rw [if_pos z, if_pos z]
      simp [q]
    · rw [if_neg z, if_neg z]
  · rw [if_neg q, Nat.add_zero]
    refine cntG_cong (fun j hj => ?_)
    by_cases z : j = c
    · rw [z, e0]
      unfold inT
      rw [th c hc, if_pos rfl]
      simp only [Bool.and_eq_false_iff, decide_eq_false_iff_not]
      omega
    · exact inT_of (by rw [th j hj, if_neg z])
theorem cnt_clr {L L' : Nat → Int64} {c a b : Nat} (th : ∀ j, j < 63 → thg L' j = if j = c then 0 else thg L j) (ha : 1 ≤ a) : cntG (inT L' a b) 63 ≤ cntG (inT L a b) 63 := by
  refine cnt_mono 63 (fun j hj h => ?_)
  by_cases z : j = c
  · unfold inT at h
    rw [th j hj, if_pos z] at h
    simp at h
    omega
  · rw [inT_of (L := L) (L' := L') (by rw [th j hj, if_neg z])] at h
    exact h
theorem or_hit {x : Int64} {c j : Nat} (hc : c < 63) (h : lb (x ||| bOnly c) j = true) : j = c ∨ lb x j = true := by
  rw [or_only hc, Bool.or_eq_true, decide_eq_true_eq] at h
  exact h.symm
theorem candle_T {L : Nat → Int64} {am : Nat → Int32} {c k : Nat} (hc : c < 63) (h0 : thg L c = 0) (k1 : 1 ≤ k) (k60 : k ≤ 60) (T : InvT L am) : InvT (reL (oCandle L c)) (upd am c (nI k)) := by
  obtain ⟨t1, t2, t3, t4, t5, t6⟩ := T
  obtain ⟨z0, z2, z3, z4⟩ := thg_0 h0
  have th := candle_th (L := L) hc
  have e0 : reL (oCandle L c) 0 = L 0 ||| bOnly c := rfl
  have e1 : reL (oCandle L c) 1 = L 1 ||| bOnly c := rfl
  refine ⟨fun i hi j hj => ?_, fun j hj => ?_, t3, t4, fun j hj => ?_, fun j hj => ?_⟩
  · rcases (show i = 0 ∨ i = 1 ∨ i = 2 ∨ i = 3 ∨ i = 4 by omega) with rfl | rfl | rfl | rfl | rfl
    · rcases or_hit hc hj with z | z
      · rw [z]; exact hc
      · exact t1 0 (by omega) j z
    · rcases or_hit hc hj with z | z
      · rw [z]; exact hc
      · exact t1 1 (by omega) j z
    · exact t1 2 (by omega) j hj
    · exact t1 3 (by omega) j hj
    · exact t1 4 (by omega) j hj
  · show lb (L 2) j = false ∧ lb (L 3) j = false ∧ lb (L 4) j = false
    rcases or_hit hc hj with z | z
    · rw [z]; exact ⟨z2, z3, z4⟩
    · exact t2 j z
  · show lb (L 0 ||| bOnly c) j = true ∧ ∃ v, v < 100 ∧ upd am c (nI k) j = nI (v + 1)
    rw [or_only hc]
    by_cases z : j = c
    · exact ⟨by simp [z], k - 1, by omega, by rw [z, pk_us, show k - 1 + 1 = k by omega]⟩
    · rcases or_hit hc hj with y | y
      · exact absurd y z
      · obtain ⟨a, b⟩ := t5 j y
        exact ⟨by simp [a], by rw [pk_un z]; exact b⟩
  · by_cases z : j = c
    · rw [th j hj, if_pos z]
      exact ⟨k, by omega, by rw [z, pk_us], fun _ => k60, fun q => absurd rfl q⟩
    · rw [th j hj, if_neg z, pk_un z]
      exact t6 j hj
theorem tally_T {L : Nat → Int64} {am : Nat → Int32} {c : Nat} (hc : c < 63) (h0 : thg L c = 0) (T : InvT L am) : InvT (oTally L c) am := by
  have T0 := T
  obtain ⟨t1, t2, t3, t4, t5, t6⟩ := T
  obtain ⟨z0, z2, z3, z4⟩ := thg_0 h0
  have th := tally_th hc h0
  have ne : ∀ {x : Int64} {j : Nat}, lb x c = false → lb x j = true → lb (L 4) j = false → lb (L 4 ||| bOnly c) j = false := by
    intro x j a b e
    have : j ≠ c := fun q => by rw [q, a] at b; cases b
    rw [or_only hc, e]
    simp [this]
  refine ⟨fun i hi j hj => ?_, fun j hj => ?_, fun j hj => ?_, fun j hj => ?_, t5, fun j hj => ?_⟩
  · by_cases z : i = 4
    · subst z
      rcases or_hit hc hj with z | z
      · rw [z]; exact hc
      · exact t1 4 (by omega) j z
    · have e : oTally L c i = L i := if_neg z
      rw [e] at hj
      exact t1 i hi j hj
  · obtain ⟨a, b, e⟩ := t2 j hj
    exact ⟨a, b, ne z0 hj e⟩
  · obtain ⟨a, e⟩ := t3 j hj
    exact ⟨a, ne z2 hj e⟩
  · exact ne z3 hj (t4 j hj)
  · by_cases z : j = c
    · obtain ⟨v, a, b, -, -⟩ := t6 j hj
      rw [th j hj, if_pos z]
      exact ⟨v, a, b, fun q => by omega, fun _ q => absurd rfl q⟩
    · rw [th j hj, if_neg z]
      exact t6 j hj
theorem mirror_T {L : Nat → Int64} {am : Nat → Int32} {c : Nat} {b : Bool} (hc : c < 63) (h0 : thg L c = 0) (T : InvT L am) : InvT (reL (oMirror L c b)) am := by
  have T0 := T
  obtain ⟨t1, t2, t3, t4, t5, t6⟩ := T
  obtain ⟨z0, z2, z3, z4⟩ := thg_0 h0
  have th := mirror_th hc h0 b
  have t6' : ∀ j, j < 63 → ∃ v, v < 100 ∧ am j = nI v ∧ (thg (reL (oMirror L c b)) j = 1 → v ≤ 60) ∧ (thg (reL (oMirror L c b)) j ≠ 1 → thg (reL (oMirror L c b)) j ≠ 4 → v = 0) := by
    intro j hj
    obtain ⟨v, a1, a2, a3, a4⟩ := t6 j hj
    by_cases z : j = c
    · rw [z] at a3 a4
      exact ⟨v, a1, a2, fun _ => by rw [a4 (by omega) (by omega)]; omega, fun _ _ => a4 (by omega) (by omega)⟩
    · rw [th j hj, if_neg z]
      exact ⟨v, a1, a2, a3, a4⟩
  have nec : ∀ {x : Int64} {j : Nat}, lb x c = false → lb x j = true → j ≠ c := by
    intro x j a e q
    rw [q, a] at e
    cases e
  cases b with
  | true =>
    refine ⟨fun i hi j hj => ?_, fun j hj => ?_, fun j hj => ?_, t4, t5, t6'⟩
    · by_cases z : i = 2
      · subst z
        rcases or_hit hc hj with z | z
        · rw [z]; exact hc
        · exact t1 2 (by omega) j z
      · have e : reL (oMirror L c true) i = L i := (reL_ne (by omega)).trans (if_neg z)
        rw [e] at hj
        exact t1 i hi j hj
    · obtain ⟨a, e, g⟩ := t2 j hj
      have n := nec z0 hj
      refine ⟨?_, e, g⟩
      show lb (L 2 ||| bOnly c) j = false
      rw [or_only hc, a]
      simp [n]
    · rcases or_hit hc hj with z | z
      · rw [z]; exact ⟨z3, z4⟩
      · exact t3 j z
  | false =>
    refine ⟨fun i hi j hj => ?_, fun j hj => ?_, fun j hj => ?_, fun j hj => ?_, t5, t6'⟩
    · by_cases z : i = 3
      · subst z
        rcases or_hit hc hj with z | z
        · rw [z]; exact hc
        · exact t1 3 (by omega) j z
      · have e : reL (oMirror L c false) i = L i := (reL_ne (by omega)).trans (if_neg z)
        rw [e] at hj
        exact t1 i hi j hj
    · obtain ⟨a, e, g⟩ := t2 j hj
      have n := nec z0 hj
      refine ⟨a, ?_, g⟩
      show lb (L 3 ||| bOnly c) j = false
      rw [or_only hc, e]
      simp [n]
    · obtain ⟨a, g⟩ := t3 j hj
      have n := nec z2 hj
      refine ⟨?_, g⟩
      show lb (L 3 ||| bOnly c) j = false
      rw [or_only hc, a]
      simp [n]
    · rcases or_hit hc hj with z | z
      · rw [z]; exact z4
      · exact t4 j z
theorem clear_T {L : Nat → Int64} {am : Nat → Int32} {c : Nat} (hc : c < 63) (T : InvT L am) : InvT (reL (oClear L c)) (upd am c 0) := by
  obtain ⟨t1, t2, t3, t4, t5, t6⟩ := T
  have th := clear_th (L := L) hc
  have sub : ∀ i, i < 5 → ∀ j, lb (reL (oClear L c) i) j = true → lb (L i) j = true ∧ (j < 63 → j ≠ c) := by
    intro i hi j hj
    have e : reL (oClear L c) i = L i &&& (bOnly c ^^^ (-1)) := by
      rcases (show i = 0 ∨ i = 1 ∨ i = 2 ∨ i = 3 ∨ i = 4 by omega) with rfl | rfl | rfl | rfl | rfl <;> rfl
    rw [e] at hj
    have h1 := hj
    rw [lb_and, Bool.and_eq_true] at h1
    refine ⟨h1.1, fun h63 z => ?_⟩
    rw [and_but hc h63, z] at hj
    simp at hj
  have nf : ∀ i, i < 5 → ∀ j, lb (L i) j = false → lb (reL (oClear L c) i) j = false := by
    intro i hi j hj
    cases e : lb (reL (oClear L c) i) j with
    | false => rfl
    | true => rw [(sub i hi j e).1] at hj; cases hj
  refine ⟨fun i hi j hj => t1 i hi j (sub i hi j hj).1, fun j hj => ?_, fun j hj => ?_, fun j hj => ?_, fun j hj => ?_, fun j hj => ?_⟩
  · obtain ⟨a, b, e⟩ := t2 j (sub 0 (by omega) j hj).1
    exact ⟨nf 2 (by omega) j a, nf 3 (by omega) j b, nf 4 (by omega) j e⟩
  · obtain ⟨a, b⟩ := t3 j (sub 2 (by omega) j hj).1
    exact ⟨nf 3 (by omega) j a, nf 4 (by omega) j b⟩
  · exact nf 4 (by omega) j (t4 j (sub 3 (by omega) j hj).1)
  · obtain ⟨a, b⟩ := sub 1 (by omega) j hj
    have h63 := t1 1 (by omega) j a
    have n := b h63
    obtain ⟨p, q⟩ := t5 j a
    refine ⟨?_, by rw [pk_un n]; exact q⟩
    show lb (L 0 &&& (bOnly c ^^^ (-1))) j = true
    rw [and_but hc h63, p]
    simp [n]
  · by_cases z : j = c
    · rw [th j hj, if_pos z, z, pk_us]
      exact ⟨0, by omega, rfl, fun _ => by omega, fun _ _ => rfl⟩
    · rw [th j hj, if_neg z, pk_un z]
      exact t6 j hj
theorem wall_T {L : Nat → Int64} {am : Nat → Int32} {c dn : Nat} (hc : c < 63) (hd : dn < 4) (ho : nbOk c dn = true) (T : InvT L am) : InvT (reL (oWall L c dn)) am := by
  obtain ⟨-, b2, -⟩ := wall_bits (L := L) hc hd ho
  have w : wRow dn = 5 ∨ wRow dn = 6 := by
    unfold wRow
    split
    · exact Or.inl rfl
    · exact Or.inr rfl
  have e1 : reL (oWall L c dn) 1 = L 1 := b2 1 (by omega) (by omega)
  obtain ⟨t1, t2, t3, t4, t5, t6⟩ := T
  have e : ∀ i, i < 5 → reL (oWall L c dn) i = L i := fun i hi => b2 i (by omega) (by omega)
  refine ⟨fun i hi j hj => ?_, ?_, ?_, ?_, ?_, fun j hj => ?_⟩
  · rw [e i hi] at hj
    exact t1 i hi j hj
  · rw [e 0 (by omega), e 2 (by omega), e 3 (by omega), e 4 (by omega)]; exact t2
  · rw [e 2 (by omega), e 3 (by omega), e 4 (by omega)]; exact t3
  · rw [e 3 (by omega), e 4 (by omega)]; exact t4
  · rw [e 1 (by omega), e 0 (by omega)]; exact t5
  · have et : thg (reL (oWall L c dn)) j = thg L j := thg_of (by rw [e 0 (by omega)]) (by rw [e 2 (by omega)]) (by rw [e 3 (by omega)]) (by rw [e 4 (by omega)])
    rw [et]
    exact t6 j hj
/-- behind i calls -/
def InvC (S : CS) (i : Nat) : Prop := InvS S ∧ (∀ g, S.2.2.2.1 ≤ g → S.2.2.1 g 4 = 0 ∧ S.2.2.1 g 5 = 0) ∧ cntG (inT S.1 1 1) 63 ≤ 10 ∧ cntG (inT S.1 2 3) 63 ≤ 10 ∧ cntG (inT S.1 4 4) 63 ≤ 6 ∧ sumT S.2.2.1 6 S.2.2.2.1 ≤ 240 * i
theorem InvC.up {S : CS} {i : Nat} (C : InvC S i) : InvC S (i + 1) := by
  obtain ⟨a, b, c, d, e, f⟩ := C
  exact ⟨a, b, c, d, e, by omega⟩
theorem InvC_0 : InvC S0 0 := by
  have z : ∀ a b, 1 ≤ a → cntG (inT S0.1 a b) 63 = 0 := by
    intro a b ha
    rw [cntG_cong (q := fun _ => false) (fun j hj => ?_), cnt_0]
    unfold inT
    have : thg S0.1 j = 0 := by
      unfold thg
      simp only [lb_0]
      rfl
    rw [this]
    simp
    omega
  have rl : ∀ n, relitN S0.1 n = 0 := by
    intro n
    induction n with
    | zero => rfl
    | succ n ih =>
      show (if lb 0 n then relitN S0.1 n ||| litFrom S0.1 n else relitN S0.1 n) = 0
      rw [lb_0, if_neg (by decide), ih]
  refine ⟨⟨⟨by show 0 ≤ 6; omega, fun g hg => ⟨by show 0 < 63; omega, by show 0 ≤ 3; omega, by show 0 < 63; omega, by show 0 ≤ 1; omega⟩⟩, ⟨fun c h => ?_, fun c h => ?_⟩, ⟨fun k hk c h => ?_, fun c h => ?_, fun c h => ?_, fun c h => ?_, fun c h => ?_, fun c hc => ⟨0, by omega, rfl, fun _ => by omega, fun _ _ => rfl⟩⟩, (rl 63).symm⟩, fun g hg => ⟨rfl, rfl⟩, by rw [z 1 1 (by omega)]; omega, by rw [z 2 3 (by omega)]; omega, by rw [z 4 4 (by omega)]; omega, Nat.zero_le _⟩
  all_goals
    have h : lb 0 c = true := h
    rw [lb_0] at h
    cases h
theorem pop_lt {L : Nat → Int64} {x : Int64} {a b n : Nat} (hx : SB x) (e : ∀ c, inT L a b c = lb x c) (hn : n < 1000) (h : iPop x < nI n) : cntG (inT L a b) 63 < n := by
  rw [pop_in hx e] at h
  have := cnt_le (inT L a b) 63
  exact (nI_ltI (by omega) (by omega)).mp h
section IK
variable {S : CS} {i : Nat}
theorem iWall {x y w : Int32} (C : InvC S i) : InvC (fWall S x y w).2 (i + 1) := by
  unfold fWall
  split
  · next e =>
    obtain ⟨hc, -⟩ := okC_of e
    split
    · next e2 =>
      obtain ⟨k, hk, rfl, ek⟩ := okR_ex (by omega) e2
      rw [ek]
      split
      · next e3 =>
        obtain ⟨⟨a, b⟩, c, d, e, f, g⟩ := C
        obtain ⟨-, b2, -⟩ := wall_bits (L := S.1) hc hk e3
        have w : wRow k = 5 ∨ wRow k = 6 := by
          unfold wRow
          split
          · exact Or.inl rfl
          · exact Or.inr rfl
        have th : ∀ j, thg (reL (oWall S.1 (cellI x y) k)) j = thg S.1 j := fun j => thg_of (by rw [b2 0 (by omega) (by omega)]) (by rw [b2 2 (by omega) (by omega)]) (by rw [b2 3 (by omega) (by omega)]) (by rw [b2 4 (by omega) (by omega)])
        have cn : ∀ a b, cntG (inT (reL (oWall S.1 (cellI x y) k)) a b) 63 = cntG (inT S.1 a b) 63 := fun a b => cntG_cong (fun j _ => inT_of (th j))
        refine ⟨⟨a, wall_InvW hc hk e3 b.1, wall_T hc hk e3 b.2.1, reL_7 _⟩, c, ?_, ?_, ?_, ?_⟩
        · show cntG (inT (reL (oWall S.1 (cellI x y) k)) 1 1) 63 ≤ 10
          rw [cn]; exact d
        · show cntG (inT (reL (oWall S.1 (cellI x y) k)) 2 3) 63 ≤ 10
          rw [cn]; exact e
        · show cntG (inT (reL (oWall S.1 (cellI x y) k)) 4 4) 63 ≤ 6
          rw [cn]; exact f
        · show sumT S.2.2.1 6 S.2.2.2.1 ≤ _
          omega
      · exact C.up
    · exact C.up
  · exact C.up
theorem iCandle {x y w : Int32} (C : InvC S i) : InvC (fCandle S x y w).2 (i + 1) := by
  unfold fCandle
  split
  · next e =>
    obtain ⟨hc, -⟩ := okC_of e
    split
    · next e2 =>
      obtain ⟨k, hk1, hk, rfl, ek⟩ := okH_ex (by omega) e2
      split
      · next e3 =>
        obtain ⟨⟨a, b⟩, c, d, e, f, g⟩ := C
        have lt := pop_lt (n := 10) (SB_of b.2.1 (k := 0) (by omega)) (in11 S.1) (by omega) e3.1
        have th := candle_th (L := S.1) hc
        refine ⟨⟨a, InvW_of b.1 rfl rfl, candle_T hc e3.2 hk1 hk b.2.1, reL_7 _⟩, c, ?_, ?_, ?_, ?_⟩
        · show cntG (inT (reL (oCandle S.1 (cellI x y))) 1 1) 63 ≤ 10
          rw [cnt_put hc th e3.2 (by omega)]
          simp
          omega
        · show cntG (inT (reL (oCandle S.1 (cellI x y))) 2 3) 63 ≤ 10
          rw [cnt_put hc th e3.2 (by omega)]
          simp
          omega
        · show cntG (inT (reL (oCandle S.1 (cellI x y))) 4 4) 63 ≤ 6
          rw [cnt_put hc th e3.2 (by omega)]
          simp
          omega
        · show sumT S.2.2.1 6 S.2.2.2.1 ≤ _
          omega
      · exact C.up
    · exact C.up
  · exact C.up
theorem iMirror {x y : Int32} {b : Bool} (C : InvC S i) : InvC (fMirror S x y b).2 (i + 1) := by
  unfold fMirror
  split
  · next e =>
    obtain ⟨hc, -⟩ := okC_of e
    split
    · next e3 =>
      obtain ⟨⟨a, v⟩, c, d, e, f, g⟩ := C
      have lt := pop_lt (n := 10) (or_SB2 (SB_of v.2.1 (k := 2) (by omega)) (SB_of v.2.1 (k := 3) (by omega))) (fun c => (in23 v.2.1 c).trans (lb_or _ _ _).symm) (by omega) e3.1
      have th := mirror_th hc e3.2 b
      refine ⟨⟨a, InvW_of v.1 (by cases b <;> rfl) (by cases b <;> rfl), mirror_T hc e3.2 v.2.1, reL_7 _⟩, c, ?_, ?_, ?_, ?_⟩
      · show cntG (inT (reL (oMirror S.1 (cellI x y) b)) 1 1) 63 ≤ 10
        rw [cnt_put hc th e3.2 (by omega)]
        cases b <;> simp <;> omega
      · show cntG (inT (reL (oMirror S.1 (cellI x y) b)) 2 3) 63 ≤ 10
        rw [cnt_put hc th e3.2 (by omega)]
        cases b <;> simp <;> omega
      · show cntG (inT (reL (oMirror S.1 (cellI x y) b)) 4 4) 63 ≤ 6
        rw [cnt_put hc th e3.2 (by omega)]
        cases b <;> simp <;> omega
      · show sumT S.2.2.1 6 S.2.2.2.1 ≤ _
        omega
    · exact C.up
  · exact C.up
theorem iTally {x y : Int32} (C : InvC S i) : InvC (fTally S x y).2 (i + 1) := by
  unfold fTally
  split
  · next e =>
    obtain ⟨hc, -⟩ := okC_of e
    split
    · next e3 =>
      obtain ⟨⟨a, v⟩, c, d, e, f, g⟩ := C
      have lt := pop_lt (n := 6) (SB_of v.2.1 (k := 4) (by omega)) (in44 v.2.1) (by omega) e3.1
      have th := tally_th hc e3.2
      have e7 : relit (oTally S.1 (cellI x y)) = relit S.1 := by
        have q : ∀ n, relitN (oTally S.1 (cellI x y)) n = relitN S.1 n := by
          have qb : ∀ own cells dn n, beamI (oTally S.1 (cellI x y)) own cells dn n = beamI S.1 own cells dn n := by
            intro own cells dn n
            induction n with
            | zero => rfl
            | succ n ih =>
              rw [beam_succ, beam_succ, ih]
              rfl
          have ql : ∀ own n, litF (oTally S.1 (cellI x y)) own n = litF S.1 own n := by
            intro own n
            induction n with
            | zero => rfl
            | succ n ih =>
              show (beamI (oTally S.1 (cellI x y)) own (litF (oTally S.1 (cellI x y)) own n) n 6).2.2 = (beamI S.1 own (litF S.1 own n) n 6).2.2
              rw [qb, ih]
          intro n
          induction n with
          | zero => rfl
          | succ n ih =>
            show (if lb (S.1 1) n then relitN (oTally S.1 (cellI x y)) n ||| litFrom (oTally S.1 (cellI x y)) n else relitN (oTally S.1 (cellI x y)) n) = if lb (S.1 1) n then relitN S.1 n ||| litFrom S.1 n else relitN S.1 n
            rw [ih, show litFrom (oTally S.1 (cellI x y)) n = litFrom S.1 n from ql _ 4]
        exact q 63
      refine ⟨⟨a, InvW_of v.1 rfl rfl, tally_T hc e3.2 v.2.1, ?_⟩, c, ?_, ?_, ?_, ?_⟩
      · show S.1 7 = relit (oTally S.1 (cellI x y))
        rw [e7]
        exact v.2.2
      · show cntG (inT (oTally S.1 (cellI x y)) 1 1) 63 ≤ 10
        rw [cnt_put hc th e3.2 (by omega)]
        simp
        omega
      · show cntG (inT (oTally S.1 (cellI x y)) 2 3) 63 ≤ 10
        rw [cnt_put hc th e3.2 (by omega)]
        simp
        omega
      · show cntG (inT (oTally S.1 (cellI x y)) 4 4) 63 ≤ 6
        rw [cnt_put hc th e3.2 (by omega)]
        simp
        omega
      · show sumT S.2.2.1 6 S.2.2.2.1 ≤ _
        omega
    · exact C.up
  · exact C.up
theorem iRemove {x y : Int32} (C : InvC S i) : InvC (fRemove S x y).2 (i + 1) := by
  unfold fRemove
  split
  · next e =>
    obtain ⟨hc, -⟩ := okC_of e
    split
    · exact C.up
    · obtain ⟨⟨a, v⟩, c, d, e, f, g⟩ := C
      have th := clear_th (L := S.1) hc
      have c1 := cnt_clr (a := 1) (b := 1) th (by omega)
      have c2 := cnt_clr (a := 2) (b := 3) th (by omega)
      have c3 := cnt_clr (a := 4) (b := 4) th (by omega)
      refine ⟨⟨a, InvW_of v.1 rfl rfl, clear_T hc v.2.1, reL_7 _⟩, c, Nat.le_trans c1 d, Nat.le_trans c2 e, Nat.le_trans c3 f, ?_⟩
      show sumT S.2.2.1 6 S.2.2.2.1 ≤ _
      omega
  · exact C.up
theorem iLight {x y : Int32} (C : InvC S i) : InvC (fLight S x y).2 (i + 1) := by
  unfold fLight
  split
  · next e =>
    obtain ⟨hc, -⟩ := okC_of e
    split
    · next e3 =>
      obtain ⟨⟨a, v⟩, c, d, e, f, g⟩ := C
      refine ⟨⟨a, InvW_of v.1 rfl rfl, switch_T hc v.2.1 e3, reL_7 _⟩, c, d, e, f, ?_⟩
      show sumT S.2.2.1 6 S.2.2.2.1 ≤ _
      omega
    · exact C.up
  · exact C.up
theorem iCome {x y p : Int32} (C : InvC S i) : InvC (fCome S x y p).2 (i + 1) := by
  unfold fCome
  split
  · next e =>
    obtain ⟨hc, -⟩ := okC_of e
    split
    · next e2 =>
      obtain ⟨k, hk1, hk, rfl, ek⟩ := okH_ex (by omega) e2
      rw [ek]
      split
      · next e3 =>
        obtain ⟨⟨a, v⟩, c, d, e, f, g⟩ := C
        refine ⟨⟨⟨e3, ?_⟩, v⟩, fun g' hg' => ?_, d, e, f, ?_⟩
        · show GOK (addG S.2.2.1 S.2.2.2.1 (cellI x y) k)
          unfold addG
          exact (((a.2.set ⟨fun _ => hc, by omega, by omega, by omega⟩).set ⟨by omega, by omega, fun _ => hc, by omega⟩).set ⟨by omega, fun _ => hk, by omega, by omega⟩).set ⟨by omega, by omega, by omega, by omega⟩
        · have hg' : S.2.2.2.1 + 1 ≤ g' := hg'
          show addG S.2.2.1 S.2.2.2.1 (cellI x y) k g' 4 = 0 ∧ addG S.2.2.1 S.2.2.2.1 (cellI x y) k g' 5 = 0
          rw [addG_ne (by omega), addG_ne (by omega)]
          exact c g' (by omega)
        · show sumT (addG S.2.2.1 S.2.2.2.1 (cellI x y) k) 6 (S.2.2.2.1 + 1) ≤ _
          rw [addG_sum (c _ (Nat.le_refl _))]
          omega
      · exact C.up
    · exact C.up
  · exact C.up
theorem iSend {g x y : Int32} (C : InvC S i) : InvC (fSend S g x y).2 (i + 1) := by
  unfold fSend
  split
  · next e =>
    split
    · next e2 =>
      obtain ⟨hc, -⟩ := okC_of e2
      obtain ⟨⟨a, v⟩, c, d, e, f, g⟩ := C
      refine ⟨⟨⟨a.1, a.2.set ⟨by omega, by omega, fun _ => hc, by omega⟩⟩, v⟩, fun g' hg' => ?_, d, e, f, ?_⟩
      · show setG _ _ _ _ g' 4 = 0 ∧ setG _ _ _ _ g' 5 = 0
        rw [setG_ne _ _ (by omega), setG_ne _ _ (by omega)]
        exact c g' hg'
      · show sumT (setG _ _ _ _) 6 S.2.2.2.1 ≤ _
        rw [sumT_set (by decide)]
        omega
    · exact C.up
  · exact C.up
theorem iRite {g : Int32} (C : InvC S i) : InvC (fRite S g).2 (i + 1) := by
  unfold fRite
  split
  · split
    · exact C.up
    · obtain ⟨⟨a, v⟩, c, d, e, f, g⟩ := C
      refine ⟨⟨⟨a.1, a.2.set ⟨by omega, by omega, by omega, by omega⟩⟩, v⟩, fun g' hg' => ?_, d, e, f, ?_⟩
      · show setG _ _ _ _ g' 4 = 0 ∧ setG _ _ _ _ g' 5 = 0
        rw [setG_ne _ _ (by omega), setG_ne _ _ (by omega)]
        exact c g' hg'
      · show sumT (setG _ _ _ _) 6 S.2.2.2.1 ≤ _
        rw [sumT_set (by decide)]
        omega
  · exact C.up
theorem step_hi {s : LG} {g g' k : Nat} (hk : k = 4 ∨ k = 5) : (stepF s g).2 g' k = s.2 g' k := by
  unfold stepF
  split
  · rfl
  · split
    · show setG (setG _ _ _ _) _ _ _ g' k = _
      rw [setG_ne _ _ (by omega), setG_ne _ _ (by omega)]
    · show setG _ _ _ _ g' k = _
      rw [setG_ne _ _ (by omega)]
theorem steps_hi {s : LG} {g g' k : Nat} (hk : k = 4 ∨ k = 5) : ∀ n, (stepsF s g n).2 g' k = s.2 g' k
  | 0 => rfl
  | n + 1 => (step_hi hk).trans (steps_hi hk n)
theorem walk_hi {s : LG} {g' k : Nat} (hk : k = 4 ∨ k = 5) : ∀ n, (walkF s n).2 g' k = s.2 g' k
  | 0 => rfl
  | n + 1 => (steps_hi hk _).trans (walk_hi hk n)
theorem hau_hi {L : Nat → Int64} {s : AG} {g g' k : Nat} (h : g' ≠ g) : (hauF L s g).2.1 g' k = s.2.1 g' k := by
  unfold hauF
  split
  · exact setG_ne _ _ (fun z => h z.1)
  · split
    · exact setG_ne _ _ (fun z => h z.1)
    · rfl
theorem haus_hi {L : Nat → Int64} {s : AG} {g' k : Nat} : ∀ n, n ≤ g' → (hausF L s n).2.1 g' k = s.2.1 g' k
  | 0, _ => rfl
  | n + 1, h => (hau_hi (by omega)).trans (haus_hi n (by omega))
theorem hr_hi (S : CS) {g' k : Nat} (hg : S.2.2.2.1 ≤ g') (hk : k = 4 ∨ k = 5) : (hrS S).2.2.1 g' k = S.2.2.1 g' k := (haus_hi (L := (hourL S.1 S.2.1 S.2.2.1 S.2.2.2.1).1) (s := ((bdN S.1 S.2.1 63).2, (hourL S.1 S.2.1 S.2.2.1 S.2.2.2.1).2, 0)) S.2.2.2.1 hg).trans (walk_hi (s := (reL (bdN S.1 S.2.1 63).1, S.2.2.1)) hk S.2.2.2.1)
theorem pas_hi (S : CS) {g' k : Nat} (hg : S.2.2.2.1 ≤ g') (hk : k = 4 ∨ k = 5) : ∀ n, (pasS S n).2.2.1 g' k = S.2.2.1 g' k
  | 0 => rfl
  | n + 1 => (hr_hi (pasS S n) (by rw [pas_gc]; exact hg) hk).trans (pas_hi S hg hk n)
theorem iPass {t : Int32} (C : InvC S i) : InvC (fPass S t).2 (i + 1) := by
  unfold fPass
  split
  · next e =>
    obtain ⟨k, hk1, hk, rfl, ek⟩ := okH_ex (by omega) e
    rw [ek]
    obtain ⟨V, c, d, e, f, g⟩ := C
    have th : ∀ j, thg (pasS S k).1 j = thg S.1 j := fun j => thg_of (by rw [pas_k S (by decide) (by decide)]) (by rw [pas_k S (by decide) (by decide)]) (by rw [pas_k S (by decide) (by decide)]) (by rw [pas_k S (by decide) (by decide)])
    have cn : ∀ a b, cntG (inT (pasS S k).1 a b) 63 = cntG (inT S.1 a b) 63 := fun a b => cntG_cong (fun j _ => inT_of (th j))
    refine ⟨pasS_V V k, fun g' hg' => ?_, ?_, ?_, ?_, ?_⟩
    · have hg' : (pasS S k).2.2.2.1 ≤ g' := hg'
      rw [pas_gc] at hg'
      show (pasS S k).2.2.1 g' 4 = 0 ∧ (pasS S k).2.2.1 g' 5 = 0
      rw [pas_hi S hg' (Or.inl rfl), pas_hi S hg' (Or.inr rfl)]
      exact c g' hg'
    · show cntG (inT (pasS S k).1 1 1) 63 ≤ 10
      rw [cn]; exact d
    · show cntG (inT (pasS S k).1 2 3) 63 ≤ 10
      rw [cn]; exact e
    · show cntG (inT (pasS S k).1 4 4) 63 ≤ 6
      rw [cn]; exact f
    · show sumT (pasS S k).2.2.1 6 (pasS S k).2.2.2.1 ≤ _
      rw [pas_gc, sum_pas]
      have := pasH_le V.1 k
      omega
  · exact C.up
end IK
