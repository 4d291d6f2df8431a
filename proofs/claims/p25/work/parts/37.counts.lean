/-! what the law's own house counts is what the class counts -/
theorem cntG_or {p q : Nat → Bool} (hd : ∀ i, p i = true → q i = false) : ∀ n, cntG (fun i => p i || q i) n = cntG p n + cntG q n
  | 0 => rfl
  | n + 1 => by
    have ih := cntG_or hd n
    have h := hd n
    simp only [cntG_succ] at *
    cases e1 : p n with
    | true => rw [e1] at h; rw [h rfl]; simp; omega
    | false => cases e2 : q n <;> simp <;> omega
theorem cnt_1 (L : Nat → Int64) {am : Nat → Int32} (T : InvT L am) : iPop (L 0) = nI (cntG (fun c => decide (thg L c = 1)) 63) := by
  rw [pop_in (L := L) (a := 1) (b := 1) (SB_of T (by omega)) (fun c => in11 L c)]
  refine congrArg nI (cntG_cong (fun c _ => ?_))
  unfold inT
  by_cases e : thg L c = 1
  · simp [e]
  · rw [decide_eq_false e]
    by_cases e1 : 1 ≤ thg L c
    · have : ¬ thg L c ≤ 1 := by omega
      simp [this]
    · simp [e1]
theorem cnt_4 {L : Nat → Int64} {am : Nat → Int32} (T : InvT L am) : iPop (L 4) = nI (cntG (fun c => decide (thg L c = 4)) 63) := by
  rw [pop63 (SB_of T (by omega))]
  refine congrArg nI (cntG_cong (fun c _ => ?_))
  cases e : lb (L 4) c with
  | true => rw [decide_eq_true ((thg4 T c).mpr e)]
  | false => rw [decide_eq_false (fun z => by rw [(thg4 T c).mp z] at e; cases e)]
theorem cnt_23 {L : Nat → Int64} {am : Nat → Int32} (T : InvT L am) : iPop (L 2 ||| L 3) = nI (cntG (fun c => decide (thg L c = 2)) 63 + cntG (fun c => decide (thg L c = 3)) 63) := by
  rw [pop_23 T, ← cntG_or (fun i h => by
    have h := of_decide_eq_true h
    exact decide_eq_false (by omega)) 63]
  refine congrArg nI (cntG_cong (fun c _ => ?_))
  unfold inT
  have h5 := thg_lt L c
  generalize thg L c = t at h5
  match t, h5 with
  | 0, _ => rfl
  | 1, _ => rfl
  | 2, _ => rfl
  | 3, _ => rfl
  | 4, _ => rfl
/-- walls by cells and directions -/
def w4 (L : Nat → Int64) (c : Nat) : Nat := (wl L c 0).toNat + (wl L c 1).toNat + (wl L c 2).toNat + (wl L c 3).toNat
theorem sm_cong {d e : Nat → Nat} : ∀ n, (∀ i, i < n → d i = e i) → sm n d = sm n e
  | 0, _ => rfl
  | n + 1, h => by
    show sm n d + d n = sm n e + e n
    rw [sm_cong n (fun i hi => h i (by omega)), h n (by omega)]
theorem sm_add (d e : Nat → Nat) : ∀ n, sm n (fun i => d i + e i) = sm n d + sm n e
  | 0 => rfl
  | n + 1 => by
    show sm n (fun i => d i + e i) + (d n + e n) = sm n d + d n + (sm n e + e n)
    rw [sm_add d e n]
    omega
theorem sm_shift (k : Nat) (f : Nat → Nat) : ∀ n, sm (n + k) (fun i => if k ≤ i then f (i - k) else 0) = sm n f
  | 0 => by
    have : ∀ j, j ≤ k → sm j (fun i => if k ≤ i then f (i - k) else 0) = 0 := by
      intro j
      induction j with
      | zero => intro _; rfl
      | succ j ih =>
        intro hj
        show sm j _ + (if k ≤ j then _ else 0) = 0
        rw [ih (by omega), if_neg (by omega)]
    rw [Nat.zero_add]
    exact this k (Nat.le_refl _)
  | n + 1 => by
    rw [show n + 1 + k = (n + k) + 1 by omega]
    show sm (n + k) _ + (if k ≤ n + k then f (n + k - k) else 0) = sm n f + f n
    rw [sm_shift k f n, if_pos (by omega), show n + k - k = n by omega]
theorem sm_ext (f : Nat → Nat) (n : Nat) : ∀ k, (∀ i, n ≤ i → i < n + k → f i = 0) → sm (n + k) f = sm n f
  | 0, _ => rfl
  | k + 1, h => by
    show sm (n + k) f + f (n + k) = sm n f
    rw [sm_ext f n k (fun i h1 h2 => h i h1 (by omega)), h (n + k) (by omega) (by omega)]
    rfl
theorem walls_2 {L : Nat → Int64} (I : InvW L) : sm 63 (w4 L) = 2 * (cntG (lb (L 5)) 63 + cntG (lb (L 6)) 63) := by
  have e : sm 63 (w4 L) = sm 63 (fun c => (wl L c 0).toNat) + sm 63 (fun c => (wl L c 1).toNat) + sm 63 (fun c => (wl L c 2).toNat) + sm 63 (fun c => (wl L c 3).toNat) := by
    unfold w4
    rw [sm_add (fun c => (wl L c 0).toNat + (wl L c 1).toNat + (wl L c 2).toNat) (fun c => (wl L c 3).toNat), sm_add (fun c => (wl L c 0).toNat + (wl L c 1).toNat) (fun c => (wl L c 2).toNat), sm_add (fun c => (wl L c 0).toNat) (fun c => (wl L c 1).toNat)]
  have s1 : sm 63 (fun c => (wl L c 1).toNat) = cntG (lb (L 5)) 63 := sm_cnt (lb (L 5)) 63
  have s2 : sm 63 (fun c => (wl L c 2).toNat) = cntG (lb (L 6)) 63 := sm_cnt (lb (L 6)) 63
  have s0 : sm 63 (fun c => (wl L c 0).toNat) = cntG (lb (L 6)) 63 := by
    rw [← sm_cnt]
    have h1 := sm_shift 9 (fun c => (lb (L 6) c).toNat) 54
    have h2 := sm_ext (fun c => (lb (L 6) c).toNat) 54 9 (fun i i1 i2 => by
      cases e6 : lb (L 6) i with
      | false => rfl
      | true => have := I.2 i e6; omega)
    rw [h2, ← h1]
    refine sm_cong 63 (fun c hc => ?_)
    show (lb (wCells L 0) c).toNat = _
    rw [wC0 hc]
    by_cases q : 9 ≤ c
    · rw [if_pos q, decide_eq_true q]; rfl
    · rw [if_neg q, decide_eq_false q]; rfl
  have s3 : sm 63 (fun c => (wl L c 3).toNat) = cntG (lb (L 5)) 63 := by
    rw [← sm_cnt]
    have h1 := sm_shift 1 (fun c => (lb (L 5) c).toNat) 62
    have h2 := sm_ext (fun c => (lb (L 5) c).toNat) 62 1 (fun i i1 i2 => by
      cases e6 : lb (L 5) i with
      | false => rfl
      | true => have := I.1 i e6; omega)
    rw [h2, ← h1]
    refine sm_cong 63 (fun c hc => ?_)
    show (lb (wCells L 3) c).toNat = _
    rw [wC3 I hc]
    by_cases q : 1 ≤ c
    · rw [if_pos q]
      cases e5 : lb (L 5) (c - 1) with
      | false => simp
      | true =>
        have := (I.1 _ e5).2
        have q3 : nbOk c 3 = true := decide_eq_true (by omega)
        rw [q3]
        rfl
    · rw [if_neg q]
      have q3 : nbOk c 3 = false := decide_eq_false (by omega)
      rw [q3]
      rfl
  omega
theorem walls_pop {L : Nat → Int64} (I : InvW L) : iPop (L 5) + iPop (L 6) = nI (sm 63 (w4 L)) / 2 := by
  have h := W_SB I
  have c5 := cnt_le (lb (L 5)) 63
  have c6 := cnt_le (lb (L 6)) 63
  rw [pop63 h.1, pop63 h.2, nI_add, walls_2 I]
  have : ∀ x : Fin 130, nI x.val = nI (2 * x.val) / 2 := by decide +kernel
  exact this ⟨cntG (lb (L 5)) 63 + cntG (lb (L 6)) 63, by omega⟩
/-- the marks -/
def mk9 (S : CS) (c : Nat) : Nat := if thg S.1 c = 4 then (S.2.1 c).toNatClampNeg else 0
theorem mk9_I {S : CS} (T : InvT S.1 S.2.1) {c : Nat} (hc : c < 63) : (if thg S.1 c = 4 then S.2.1 c else 0) = nI (mk9 S c) ∧ mk9 S c < 100 := by
  obtain ⟨v, v1, v2, -⟩ := T.2.2.2.2.2 c hc
  unfold mk9
  by_cases e : thg S.1 c = 4
  · rw [if_pos e, if_pos e, v2, nI_clamp (by omega)]
    exact ⟨rfl, v1⟩
  · rw [if_neg e, if_neg e]
    exact ⟨rfl, by omega⟩
theorem marks_sm {S : CS} (T : InvT S.1 S.2.1) : ∀ n, n ≤ 63 → sumMk S.1 S.2.1 n = nI (sm n (mk9 S))
  | 0, _ => rfl
  | n + 1, h => by
    have ih := marks_sm T n (by omega)
    obtain ⟨k1, -⟩ := mk9_I T (c := n) (by omega)
    show (if lb (S.1 4) n then sumMk S.1 S.2.1 n + S.2.1 n else sumMk S.1 S.2.1 n) = nI (sm n (mk9 S) + mk9 S n)
    rw [← nI_add, ← k1, ← ih]
    cases e : lb (S.1 4) n with
    | true => rw [if_pos rfl, if_pos ((thg4 T n).mpr e)]
    | false => rw [if_neg (by decide), if_neg (fun z => by rw [(thg4 T n).mp z] at e; cases e), Int32.add_zero]
theorem sm_xy {d : Nat → Nat} {x y : Nat} (hy : y < 7) : sm (7 * x + y + 1) (fun q => d (cl7 q)) = sm (7 * x + y) (fun q => d (cl7 q)) + d (9 * y + x) := by
  show sm (7 * x + y) _ + d (cl7 (7 * x + y)) = _
  rw [cl7_xy hy]
/-! the mean is a number -/
theorem mean_tb : ∀ b : Fin 6, ∀ a : Fin 600, vf_n64 (FP.ddiv (FP.i2d (nI a.val)) (FP.i2d (nI (b.val + 1)))) := by
  unfold vf_n64
  decide +kernel
theorem mean_tc : ∀ b : Fin 6, ∀ a : Fin 600, Op.cmpValue (FP.dcmp (FP.ddiv (FP.i2d (nI a.val)) (FP.i2d (nI (b.val + 1)))) (FP.ddiv (FP.i2d (nI a.val)) (FP.i2d (nI (b.val + 1))))) .l = 0 := by decide +kernel
theorem mean_t0 : Op.cmpValue (FP.dcmp FP.dconst0 FP.dconst0) .l = 0 := by decide +kernel
theorem sumMk_N {L : Nat → Int64} {am : Nat → Int32} (T : InvT L am) : ∀ n, n ≤ 63 → ∃ s, s ≤ 99 * cntG (lb (L 4)) n ∧ sumMk L am n = nI s
  | 0, _ => ⟨0, Nat.zero_le _, rfl⟩
  | n + 1, h => by
    obtain ⟨s, h1, h2⟩ := sumMk_N T n (by omega)
    rw [cntG_succ]
    show ∃ s, _ ∧ (if lb (L 4) n then sumMk L am n + am n else sumMk L am n) = nI s
    cases e : lb (L 4) n with
    | false => exact ⟨s, by simpa using h1, by simpa using h2⟩
    | true =>
      obtain ⟨v, v1, v2, -⟩ := T.2.2.2.2.2 n (by omega)
      refine ⟨s + v, ?_, ?_⟩
      · simp
        omega
      · rw [if_pos rfl, h2, v2, nI_add]
theorem mean_n {S : CS} {i : Nat} (C : InvC S i) : iPop (S.1 4) ≠ 0 → vf_n64 (FP.ddiv (FP.i2d (sumMk S.1 S.2.1 63)) (FP.i2d (iPop (S.1 4)))) ∧ Op.cmpValue (FP.dcmp (FP.ddiv (FP.i2d (sumMk S.1 S.2.1 63)) (FP.i2d (iPop (S.1 4)))) (FP.ddiv (FP.i2d (sumMk S.1 S.2.1 63)) (FP.i2d (iPop (S.1 4))))) .l = 0 := by
  obtain ⟨V, -, -, -, c6, -⟩ := C
  have T := V.2.2.1
  have ep := pop63 (SB_of T (k := 4) (by omega))
  have ec : cntG (inT S.1 4 4) 63 = cntG (lb (S.1 4)) 63 := cntG_cong (fun j _ => in44 T j)
  obtain ⟨s, h1, h2⟩ := sumMk_N T 63 (Nat.le_refl _)
  rw [ep, h2]
  intro hne
  have c0 : cntG (lb (S.1 4)) 63 ≠ 0 := fun z => hne (by rw [z]; rfl)
  have r := mean_tb ⟨cntG (lb (S.1 4)) 63 - 1, by omega⟩ ⟨s, by omega⟩
  have r : vf_n64 (FP.ddiv (FP.i2d (nI s)) (FP.i2d (nI (cntG (lb (S.1 4)) 63 - 1 + 1)))) := r
  have r2 := mean_tc ⟨cntG (lb (S.1 4)) 63 - 1, by omega⟩ ⟨s, by omega⟩
  have r2 : Op.cmpValue (FP.dcmp (FP.ddiv (FP.i2d (nI s)) (FP.i2d (nI (cntG (lb (S.1 4)) 63 - 1 + 1)))) (FP.ddiv (FP.i2d (nI s)) (FP.i2d (nI (cntG (lb (S.1 4)) 63 - 1 + 1))))) .l = 0 := r2
  rw [show cntG (lb (S.1 4)) 63 - 1 + 1 = cntG (lb (S.1 4)) 63 by omega] at r r2
  exact ⟨r, r2⟩
/-! arguments in range -/
theorem okR_n {j k : Nat} (h : j < k) (hk : k < 2 ^ 31) : okR (nI j) k = true := by
  unfold okR
  rw [decide_eq_true (nI_pos (by omega)), decide_eq_true (nI_lt h hk)]
  rfl
theorem okH_n {j k : Nat} (h1 : 1 ≤ j) (h : j ≤ k) (hk : k < 2 ^ 31) : okH (nI j) k = true := by
  unfold okH
  have : ¬ nI j < 1 := nI_nlt (a := j) (b := 1) h1 (by omega)
  rw [decide_eq_true this, decide_eq_true (nI_le h hk)]
  rfl
theorem okC_n {x y : Nat} (hx : x < 9) (hy : y < 7) : okC (nI x) (nI y) = true ∧ cellI (nI x) (nI y) = 9 * y + x := by
  unfold okC cellI
  rw [okR_n hx (by decide), okR_n hy (by decide), nI_clamp (by omega), nI_clamp (by omega)]
  exact ⟨rfl, rfl⟩
theorem fCell_n {S : CS} {x y w : Nat} (hx : x < 9) (hy : y < 7) (hw : w < 5) : fCell S (nI x) (nI y) (nI w) = (vI (tCell S.1 S.2.1 S.2.2.1 S.2.2.2.1 (9 * y + x) w), S) := by
  obtain ⟨h1, h2⟩ := okC_n hx hy
  unfold fCell
  rw [if_pos h1, if_pos (okR_n hw (by decide)), h2, nI_clamp (by omega)]
theorem fWalled_n {S : CS} {x y w : Nat} (hx : x < 9) (hy : y < 7) (hw : w < 4) : fWalled S (nI x) (nI y) (nI w) = (vI (b01 (!nbOk (9 * y + x) w || wl S.1 (9 * y + x) w)), S) := by
  obtain ⟨h1, h2⟩ := okC_n hx hy
  unfold fWalled
  rw [if_pos h1, if_pos (okR_n hw (by decide)), h2, nI_clamp (by omega)]
  rfl
theorem fGhost_n {S : CS} {k w : Nat} (hk : k < S.2.2.2.1) (h6 : S.2.2.2.1 ≤ 6) (hw : w < 8) : fGhost S (nI k) (nI w) = (vI (nI (trG S.2.2.1 k w)), S) := by
  unfold fGhost
  rw [if_pos (okR_n hk (by omega)), if_pos (okR_n hw (by decide)), nI_clamp (by omega), nI_clamp (by omega)]
theorem fCount_n {S : CS} {w : Nat} (hw : w < 10) : fCount S (nI w) = (vI (tAll S.1 S.2.1 S.2.2.1 S.2.2.2.1 S.2.2.2.2 w), S) := by
  unfold fCount
  rw [if_pos (okR_n hw (by decide)), nI_clamp (by omega)]
