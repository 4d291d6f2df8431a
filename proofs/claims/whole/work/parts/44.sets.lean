/-! ways: sets of cells by steps -/
def ex4 (p : Nat → Bool) : Bool := p 0 || (p 1 || (p 2 || p 3))
theorem ex4_iff {p : Nat → Bool} : ex4 p = true ↔ ∃ d, d < 4 ∧ p d = true := by
  unfold ex4
  constructor
  · intro h
    rw [Bool.or_eq_true, Bool.or_eq_true, Bool.or_eq_true] at h
    rcases h with h | h | h | h
    · exact ⟨0, by omega, h⟩
    · exact ⟨1, by omega, h⟩
    · exact ⟨2, by omega, h⟩
    · exact ⟨3, by omega, h⟩
  · rintro ⟨d, hd, h⟩
    match d, hd with
    | 0, _ => simp [h]
    | 1, _ => simp [h]
    | 2, _ => simp [h]
    | 3, _ => simp [h]
theorem ex4_cong {p q : Nat → Bool} (h : ∀ d, d < 4 → p d = q d) : ex4 p = ex4 q := by
  unfold ex4
  rw [h 0 (by omega), h 1 (by omega), h 2 (by omega), h 3 (by omega)]
theorem opp_lt {e : Nat} (he : e < 4) : opp e < 4 := by
  match e, he with
  | 0, _ => decide
  | 1, _ => decide
  | 2, _ => decide
  | 3, _ => decide
theorem nb_opp {c e : Nat} (hc : c < 63) (he : e < 4) (h : nbOk c e = true) : nbOk (nbOf c e) (opp e) = true ∧ nbOf (nbOf c e) (opp e) = c := by
  have : ∀ c : Fin 63, ∀ e : Fin 4, nbOk c.val e.val = true → nbOk (nbOf c.val e.val) (opp e.val) = true ∧ nbOf (nbOf c.val e.val) (opp e.val) = c.val := by decide +kernel
  exact this ⟨c, hc⟩ ⟨e, he⟩ h
theorem wall_sym {L : Nat → Int64} (I : InvW L) {c e : Nat} (hc : c < 63) (he : e < 4) (ho : nbOk c e = true) : lb (wCells L (opp e)) (nbOf c e) = lb (wCells L e) c := by
  rcases (show e = 0 ∨ e = 1 ∨ e = 2 ∨ e = 3 by omega) with rfl | rfl | rfl | rfl
  · have q : 9 ≤ c := of_decide_eq_true ho
    rw [wC0 hc]
    show lb (L 6) (c - 9) = _
    simp [q]
  · have q : c % 9 ≠ 8 := of_decide_eq_true ho
    have q2 : (c + 1) % 9 ≠ 0 := by omega
    show lb (wCells L 3) (c + 1) = lb (L 5) c
    rw [wC3 I (by omega)]
    show (decide ((c + 1) % 9 ≠ 0) && lb (L 5) (c + 1 - 1)) = _
    simp [q2]
  · have q : c < 54 := of_decide_eq_true ho
    show lb (wCells L 0) (c + 9) = lb (L 6) c
    rw [wC0 (by omega)]
    simp
  · rw [wC3 I hc, ho]
    rfl
def wA (L : Nat → Int64) (lt : Nat → Bool) (go : Nat) : Nat → Nat → Bool
  | 0, c => decide (c = go)
  | n + 1, c => wA L lt go n c || ex4 (fun e => nbOk c e && (!lb (wCells L e) c && (!lt (nbOf c e) && wA L lt go n (nbOf c e))))
def wB (L : Nat → Int64) (lt : Nat → Bool) (go : Nat) : Nat → Nat → Bool
  | 0, c => decide (c = go)
  | n + 1, c => wB L lt go n c || ex4 (fun e => nbOk c e && (!lt (nbOf c e) && (if lb (wCells L e) c then wA L lt go n (nbOf c e) else wB L lt go n (nbOf c e))))
def wF (L : Nat → Int64) (lt : Nat → Bool) (go : Nat) (mp : Bool) (n c : Nat) : Bool := if mp then wB L lt go n c else wA L lt go n c
section WS
variable {L : Nat → Int64} {lt : Nat → Bool} {go : Nat}
theorem wA_suc (n c : Nat) : wA L lt go (n + 1) c = (wA L lt go n c || ex4 (fun e => nbOk c e && (!lb (wCells L e) c && (!lt (nbOf c e) && wA L lt go n (nbOf c e))))) := rfl
theorem wB_suc (n c : Nat) : wB L lt go (n + 1) c = (wB L lt go n c || ex4 (fun e => nbOk c e && (!lt (nbOf c e) && (if lb (wCells L e) c then wA L lt go n (nbOf c e) else wB L lt go n (nbOf c e))))) := rfl
theorem wA_step {n c e : Nat} (he : e < 4) (h1 : nbOk c e = true) (h2 : lb (wCells L e) c = false) (h3 : lt (nbOf c e) = false) (h4 : wA L lt go n (nbOf c e) = true) : wA L lt go (n + 1) c = true := by
  rw [wA_suc, Bool.or_eq_true, ex4_iff]
  exact Or.inr ⟨e, he, by simp [h1, h2, h3, h4]⟩
theorem wA_back {n c : Nat} (h : wA L lt go (n + 1) c = true) : wA L lt go n c = true ∨ ∃ e, e < 4 ∧ nbOk c e = true ∧ lb (wCells L e) c = false ∧ lt (nbOf c e) = false ∧ wA L lt go n (nbOf c e) = true := by
  rw [wA_suc, Bool.or_eq_true, ex4_iff] at h
  rcases h with h | ⟨e, he, h⟩
  · exact Or.inl h
  · rw [Bool.and_eq_true, Bool.and_eq_true, Bool.and_eq_true, Bool.not_eq_true', Bool.not_eq_true'] at h
    exact Or.inr ⟨e, he, h.1, h.2.1, h.2.2.1, h.2.2.2⟩
theorem wB_step {n c e : Nat} (he : e < 4) (h1 : nbOk c e = true) (h2 : lb (wCells L e) c = false) (h3 : lt (nbOf c e) = false) (h4 : wB L lt go n (nbOf c e) = true) : wB L lt go (n + 1) c = true := by
  rw [wB_suc, Bool.or_eq_true, ex4_iff]
  exact Or.inr ⟨e, he, by simp [h1, h2, h3, h4]⟩
theorem wB_wall {n c e : Nat} (he : e < 4) (h1 : nbOk c e = true) (h2 : lb (wCells L e) c = true) (h3 : lt (nbOf c e) = false) (h4 : wA L lt go n (nbOf c e) = true) : wB L lt go (n + 1) c = true := by
  rw [wB_suc, Bool.or_eq_true, ex4_iff]
  exact Or.inr ⟨e, he, by simp [h1, h2, h3, h4]⟩
theorem wB_back {n c : Nat} (h : wB L lt go (n + 1) c = true) : wB L lt go n c = true ∨ ∃ e, e < 4 ∧ nbOk c e = true ∧ lt (nbOf c e) = false ∧ ((lb (wCells L e) c = false ∧ wB L lt go n (nbOf c e) = true) ∨ (lb (wCells L e) c = true ∧ wA L lt go n (nbOf c e) = true)) := by
  rw [wB_suc, Bool.or_eq_true, ex4_iff] at h
  rcases h with h | ⟨e, he, h⟩
  · exact Or.inl h
  · rw [Bool.and_eq_true, Bool.and_eq_true, Bool.not_eq_true'] at h
    refine Or.inr ⟨e, he, h.1, h.2.1, ?_⟩
    have h9 := h.2.2
    cases ew : lb (wCells L e) c with
    | false =>
      rw [ew] at h9
      exact Or.inl ⟨rfl, h9⟩
    | true =>
      rw [ew] at h9
      exact Or.inr ⟨rfl, h9⟩
theorem wA_up {n c : Nat} (h : wA L lt go n c = true) : wA L lt go (n + 1) c = true := by
  rw [wA_suc, h]; rfl
theorem wB_up {n c : Nat} (h : wB L lt go n c = true) : wB L lt go (n + 1) c = true := by
  rw [wB_suc, h]; rfl
theorem wA_le {n c : Nat} (h : wA L lt go n c = true) : ∀ k, wA L lt go (n + k) c = true
  | 0 => h
  | k + 1 => wA_up (wA_le h k)
theorem wB_le {n c : Nat} (h : wB L lt go n c = true) : ∀ k, wB L lt go (n + k) c = true
  | 0 => h
  | k + 1 => wB_up (wB_le h k)
theorem wA_B : ∀ n c, wA L lt go n c = true → wB L lt go n c = true
  | 0, _, h => h
  | n + 1, c, h => by
    rcases wA_back h with h | ⟨e, he, h1, h2, h3, h4⟩
    · exact wB_up (wA_B n c h)
    · exact wB_step he h1 h2 h3 (wA_B n _ h4)
theorem wA_F {mp : Bool} {n c : Nat} (h : wA L lt go n c = true) : wF L lt go mp n c = true := by
  cases mp with
  | false => exact h
  | true => exact wA_B n c h
theorem cnt_le (p : Nat → Bool) : ∀ n, cntG p n ≤ n
  | 0 => Nat.le_refl _
  | n + 1 => by
    have := cnt_le p n
    rw [cntG_succ]
    split <;> omega
theorem cnt_mono {p q : Nat → Bool} : ∀ n, (∀ i, i < n → p i = true → q i = true) → cntG p n ≤ cntG q n
  | 0, _ => Nat.le_refl _
  | n + 1, h => by
    have ih := cnt_mono n (fun i hi => h i (by omega))
    rw [cntG_succ, cntG_succ]
    cases e : p n with
    | false =>
      cases e2 : q n <;> simp <;> omega
    | true =>
      rw [h n (by omega) e]
      simp
      omega
theorem cnt_lt {p q : Nat → Bool} {x : Nat} : ∀ n, x < n → (∀ i, i < n → p i = true → q i = true) → p x = false → q x = true → cntG p n < cntG q n
  | 0, hx, _, _, _ => absurd hx (Nat.not_lt_zero _)
  | n + 1, hx, h, hp, hq => by
    rw [cntG_succ, cntG_succ]
    by_cases e : x = n
    · subst e
      have ih := cnt_mono x (fun i hi => h i (by omega))
      rw [hp, hq]
      simp
      omega
    · have ih := cnt_lt n (by omega) (fun i hi => h i (by omega)) hp hq
      cases e : p n with
      | false =>
        cases e2 : q n <;> simp <;> omega
      | true =>
        rw [h n (by omega) e]
        simp
        omega
theorem cnt_pos {q : Nat → Bool} {x n : Nat} (hx : x < n) (hq : q x = true) : 1 ≤ cntG q n := by
  have := cnt_lt (p := fun _ => false) (q := q) n hx (fun i _ h => by cases h) rfl hq
  omega
theorem wA_cnt : ∀ v c, c < 63 → wA L lt go v c = true → (∀ u, u < v → wA L lt go u c = false) → v + 1 ≤ cntG (wA L lt go v) 63
  | 0, c, hc, h, _ => cnt_pos hc h
  | v + 1, c, hc, h, hn => by
    rcases wA_back h with h1 | ⟨e, he, h1, h2, h3, h4⟩
    · rw [hn v (by omega)] at h1
      cases h1
    · have ih := wA_cnt v (nbOf c e) (nb_lt hc he h1) h4 (fun u hu => by
        cases e5 : wA L lt go u (nbOf c e) with
        | false => rfl
        | true =>
          have := wA_step he h1 h2 h3 e5
          rw [hn (u + 1) (by omega)] at this
          cases this)
      have := cnt_lt (p := wA L lt go v) (q := wA L lt go (v + 1)) 63 hc (fun i _ q => wA_up q) (hn v (by omega)) h
      omega
theorem wB_cnt : ∀ v c, c < 63 → wB L lt go v c = true → (∀ u, u < v → wB L lt go u c = false) → v + 1 ≤ cntG (wB L lt go v) 63
  | 0, c, hc, h, _ => cnt_pos hc h
  | v + 1, c, hc, h, hn => by
    have up := cnt_lt (p := wB L lt go v) (q := wB L lt go (v + 1)) 63 hc (fun i _ q => wB_up q) (hn v (by omega)) h
    rcases wB_back h with h1 | ⟨e, he, h1, h3, ⟨h2, h4⟩ | ⟨h2, h4⟩⟩
    · rw [hn v (by omega)] at h1
      cases h1
    · have ih := wB_cnt v (nbOf c e) (nb_lt hc he h1) h4 (fun u hu => by
        cases e5 : wB L lt go u (nbOf c e) with
        | false => rfl
        | true =>
          have := wB_step he h1 h2 h3 e5
          rw [hn (u + 1) (by omega)] at this
          cases this)
      omega
    · have ih := wA_cnt v (nbOf c e) (nb_lt hc he h1) h4 (fun u hu => by
        cases e5 : wA L lt go u (nbOf c e) with
        | false => rfl
        | true =>
          have := wB_wall he h1 h2 h3 e5
          rw [hn (u + 1) (by omega)] at this
          cases this)
      have := cnt_mono (p := wA L lt go v) (q := wB L lt go v) 63 (fun i _ q => wA_B v i q)
      omega
/-- the fewest steps: x is a number of steps, or -1 -/
def IsD (R : Nat → Bool) (x : Int32) : Prop := (∃ v, v < 200 ∧ x = nI v ∧ R v = true ∧ ∀ u, u < v → R u = false) ∨ (x = -1 ∧ ∀ w, R w = false)
theorem IsD.uniq {R : Nat → Bool} {x y : Int32} (h : IsD R x) (k : IsD R y) : x = y := by
  rcases h with ⟨v, -, rfl, h1, h2⟩ | ⟨rfl, h1⟩
  · rcases k with ⟨w, -, rfl, k1, k2⟩ | ⟨rfl, k1⟩
    · congr 1
      rcases Nat.lt_trichotomy v w with q | q | q
      · rw [k2 v q] at h1; cases h1
      · exact q
      · rw [h2 w q] at k1; cases k1
    · rw [k1 v] at h1; cases h1
  · rcases k with ⟨w, -, rfl, k1, k2⟩ | ⟨rfl, k1⟩
    · rw [h1 w] at k1; cases k1
    · rfl
theorem wF_least {mp : Bool} {v c : Nat} (hc : c < 63) (h : wF L lt go mp v c = true) (hn : ∀ u, u < v → wF L lt go mp u c = false) : v ≤ 62 := by
  cases mp with
  | false =>
    have := wA_cnt v c hc h hn
    have := cnt_le (wA L lt go v) 63
    omega
  | true =>
    have := wB_cnt v c hc h hn
    have := cnt_le (wB L lt go v) 63
    omega
theorem wF_up {mp : Bool} {n c : Nat} (h : wF L lt go mp n c = true) : wF L lt go mp (n + 1) c = true := by
  cases mp with
  | false => exact wA_up h
  | true => exact wB_up h
theorem wF_none {mp : Bool} {c : Nat} (hc : c < 63) (h : ∀ u, u ≤ 62 → wF L lt go mp u c = false) : ∀ w, wF L lt go mp w c = false := by
  have key : ∀ w, ∀ u, u ≤ w → wF L lt go mp u c = false := by
    intro w
    induction w with
    | zero =>
      intro u hu
      exact h u (by omega)
    | succ w ih =>
      intro u hu
      by_cases e : u ≤ w
      · exact ih u e
      · cases e2 : wF L lt go mp u c with
        | false => rfl
        | true =>
          have := wF_least hc e2 (fun u2 hu2 => ih u2 (by omega))
          rw [h u this] at e2
          cases e2
  exact fun w => key w w (Nat.le_refl _)
end WS
