/-! an hour, as the law looks at it -/
theorem fst4_in {p : Nat → Bool} {b : Nat} (h : fst4 p = some b) : b < 4 ∧ p b = true := by
  unfold fst4 at h
  split at h
  · cases h; exact ⟨by omega, by assumption⟩
  · split at h
    · cases h; exact ⟨by omega, by assumption⟩
    · split at h
      · cases h; exact ⟨by omega, by assumption⟩
      · split at h
        · cases h; exact ⟨by omega, by assumption⟩
        · cases h
theorem fst4_ne {p : Nat → Bool} {b : Nat} (hb : b < 4) (h : p b = true) : fst4 p ≠ none := by
  unfold fst4
  match b, hb, h with
  | 0, _, h => simp [h]
  | 1, _, h => simp [h]; split <;> simp
  | 2, _, h => simp [h]; split <;> (try simp) <;> split <;> simp
  | 3, _, h => simp [h]; split <;> (try simp) <;> split <;> (try simp) <;> split <;> simp
theorem nxt_wall {L : Nat → Int64} {fr go b : Nat} (I : InvW L) (hfr : fr < 63) (hgo : go < 63) (h : nxtF L fr go false = some b) : b < 4 ∧ nbOk fr b = true ∧ wl L fr b = false := by
  rcases stp_cases (mp := false) I hfr hgo with ⟨-, e⟩ | ⟨-, e⟩ | ⟨k, -, -, -, e⟩
  · rw [e] at h; cases h
  · rw [e] at h; cases h
  · rw [e] at h
    cases e0 : fst4 (nP L (lb (L 7)) go false fr k 0) with
    | some i =>
      rw [e0] at h
      have h : some i = some b := h
      cases h
      obtain ⟨h1, h2⟩ := fst4_in e0
      refine ⟨h1, ?_, nP_0 h2⟩
      unfold nP at h2
      rw [Bool.and_eq_true] at h2
      exact h2.1
    | none =>
      rw [e0] at h
      have h : fst4 (nP L (lb (L 7)) go false fr k 1) = some b := h
      obtain ⟨h1, h2⟩ := fst4_in h
      unfold nP at h2
      simp at h2
theorem nxt_ne {L : Nat → Int64} {fr go : Nat} {mp : Bool} (I : InvW L) (hfr : fr < 63) (hgo : go < 63) : (nxtF L fr go mp ≠ none) ↔ 0 < stpF L fr go mp := by
  rcases stp_cases (mp := mp) I hfr hgo with ⟨e1, e⟩ | ⟨e1, e⟩ | ⟨k, hk, e1, hn, e⟩
  · rw [e1, e]; exact ⟨fun z => absurd rfl z, fun z => absurd z (by decide)⟩
  · rw [e1, e]; exact ⟨fun z => absurd rfl z, fun z => absurd z (by decide)⟩
  · rw [e1, e]
    refine ⟨fun _ => nI_lt (a := 0) (by omega) (by omega), fun _ => ?_⟩
    have D := stpF_D (mp := mp) I hfr hgo
    rw [e1] at D
    have w1 : wF L (lb (L 7)) go mp (k + 1) fr = true := by
      rcases D with ⟨v, hv, e2, h, -⟩ | ⟨e2, -⟩
      · rw [(nI_eq (by omega) (by omega)).mp e2]
        exact h
      · exact absurd e2 (nI_m1 (by omega))
    have w0 := hn k (by omega)
    have some0 : ∀ e, e < 4 → nP L (lb (L 7)) go mp fr k 0 e = true → (match fst4 (nP L (lb (L 7)) go mp fr k 0) with | some i => some i | none => fst4 (nP L (lb (L 7)) go mp fr k 1)) ≠ none := fun e he h => by
      cases e0 : fst4 (nP L (lb (L 7)) go mp fr k 0) with
      | some i => exact fun z => nomatch z
      | none => exact absurd e0 (fst4_ne he h)
    have some1 : ∀ e, e < 4 → nP L (lb (L 7)) go mp fr k 1 e = true → (match fst4 (nP L (lb (L 7)) go mp fr k 0) with | some i => some i | none => fst4 (nP L (lb (L 7)) go mp fr k 1)) ≠ none := fun e he h => by
      cases e0 : fst4 (nP L (lb (L 7)) go mp fr k 0) with
      | some i => exact fun z => nomatch z
      | none => exact fst4_ne he h
    cases mp with
    | false =>
      have w1 : wA L (lb (L 7)) go (k + 1) fr = true := w1
      have w0 : wA L (lb (L 7)) go k fr = false := w0
      rcases wA_back w1 with z | ⟨e, he, h1, h2, h3, h4⟩
      · rw [w0] at z; cases z
      · refine some0 e he ?_
        unfold nP
        have : wF L (lb (L 7)) go (decide (0 = 0) && false) k (nbOf fr e) = true := h4
        rw [h1, h2, h3, this]
        rfl
    | true =>
      have w1 : wB L (lb (L 7)) go (k + 1) fr = true := w1
      have w0 : wB L (lb (L 7)) go k fr = false := w0
      rcases wB_back w1 with z | ⟨e, he, h1, h3, ⟨h2, h4⟩ | ⟨h2, h4⟩⟩
      · rw [w0] at z; cases z
      · refine some0 e he ?_
        unfold nP
        have : wF L (lb (L 7)) go (decide (0 = 0) && true) k (nbOf fr e) = true := h4
        rw [h1, h2, h3, this]
        rfl
      · refine some1 e he ?_
        unfold nP
        have : wF L (lb (L 7)) go (decide (1 = 0) && true) k (nbOf fr e) = true := h4
        rw [h1, h2, h3, this]
        rfl
theorem stp_0 {L : Nat → Int64} {fr go : Nat} {mp : Bool} : stpF L fr go mp = 0 ↔ fr = go := by
  unfold stpF
  by_cases e : fr = go
  · rw [if_pos e]; exact ⟨fun _ => e, fun _ => rfl⟩
  · rw [if_neg e]
    refine ⟨fun z => ?_, fun z => absurd z e⟩
    cases e2 : fndB (fhB L fr go mp) 62 with
    | none => rw [e2] at z; exact absurd z (by decide)
    | some k =>
      rw [e2] at z
      obtain ⟨h1, -⟩ := fndB_spec e2
      have := (nI_eq (b := 0) (by omega) (by omega)).mp z
      omega
/-! steps -/
def dis (a b : Nat) : Nat := (a % 9 - b % 9) + (b % 9 - a % 9) + ((a / 9 - b / 9) + (b / 9 - a / 9))
theorem dis_nb : ∀ c : Fin 63, ∀ d : Fin 4, nbOk c.val d.val = true → dis (nbOf c.val d.val) c.val ≤ 1 := by decide +kernel
theorem dis_tri (a b c : Nat) : dis a c ≤ dis a b + dis b c := by
  unfold dis
  omega
theorem dis_0 (a : Nat) : dis a a = 0 := by
  unfold dis
  omega
theorem stepF_gol {s : LG} {g g' : Nat} : (stepF s g).2 g' 2 = s.2 g' 2 := by
  unfold stepF
  split
  · rfl
  · split <;> simp [setG]
theorem stepF_may {s : LG} {g g' : Nat} : (stepF s g).2 g' 3 ≤ s.2 g' 3 := by
  unfold stepF
  split
  · exact Nat.le_refl _
  · split
    · simp only [setG]
      split
      · exact Nat.zero_le _
      · split
        · next z => exact absurd z.2 (by omega)
        · exact Nat.le_refl _
    · simp [setG]
theorem stepF_oth {s : LG} {g g' j : Nat} (h : g' ≠ g) : (stepF s g).2 g' j = s.2 g' j := by
  unfold stepF
  split
  · rfl
  · split <;> simp [setG, h]
theorem stepF_hom {s : LG} {g : Nat} (h : s.2 g 0 = s.2 g 2) : stepF s g = s := by
  have e : nxtF s.1 (s.2 g 0) (s.2 g 2) (mpG s.2 g) = none := by
    unfold nxtF
    rw [if_pos h]
  unfold stepF
  rw [e]
theorem stepF_dis {s : LG} {g : Nat} (h0 : s.2 g 0 < 63) : dis ((stepF s g).2 g 0) (s.2 g 0) ≤ 1 := by
  unfold stepF
  split
  · rw [dis_0]; omega
  · next dn e =>
    obtain ⟨h1, h2⟩ := nxtF_ok h0 e
    have := dis_nb ⟨_, h0⟩ ⟨dn, h1⟩ h2
    split
    · simp [setG]; exact this
    · simp [setG]; exact this
theorem stepF_bur {s : LG} {g c : Nat} (h : lb ((stepF s g).1 1) c = true) : lb (s.1 1) c = true := by
  unfold stepF at h
  split at h
  · exact h
  · split at h
    · have h : lb (s.1 1 &&& _) c = true := h
      rw [lb_and, Bool.and_eq_true] at h
      exact h.1
    · exact h
theorem steps_gol {s : LG} {g g' : Nat} : ∀ n, (stepsF s g n).2 g' 2 = s.2 g' 2
  | 0 => rfl
  | n + 1 => stepF_gol.trans (steps_gol n)
theorem steps_may {s : LG} {g g' : Nat} : ∀ n, (stepsF s g n).2 g' 3 ≤ s.2 g' 3
  | 0 => Nat.le_refl _
  | n + 1 => Nat.le_trans stepF_may (steps_may n)
theorem steps_oth {s : LG} {g g' j : Nat} (h : g' ≠ g) : ∀ n, (stepsF s g n).2 g' j = s.2 g' j
  | 0 => rfl
  | n + 1 => (stepF_oth h).trans (steps_oth h n)
theorem steps_hom {s : LG} {g : Nat} (h : s.2 g 0 = s.2 g 2) : ∀ n, stepsF s g n = s
  | 0 => rfl
  | n + 1 => by
    show stepF (stepsF s g n) g = s
    rw [steps_hom h n]
    exact stepF_hom h
theorem steps_dis {s : LG} {g : Nat} (G : GOK s.2) (hg : g < 6) : ∀ n, dis ((stepsF s g n).2 g 0) (s.2 g 0) ≤ n
  | 0 => by
    show dis (s.2 g 0) (s.2 g 0) ≤ 0
    rw [dis_0]
    exact Nat.le_refl _
  | n + 1 => by
    have h1 := steps_dis G hg n
    have h2 := stepF_dis (s := stepsF s g n) (g := g) (stepsF_ok G hg n g hg).1
    have h3 := dis_tri ((stepF (stepsF s g n) g).2 g 0) ((stepsF s g n).2 g 0) (s.2 g 0)
    show dis ((stepF (stepsF s g n) g).2 g 0) (s.2 g 0) ≤ n + 1
    omega
theorem steps_bur {s : LG} {g c : Nat} : ∀ n, lb ((stepsF s g n).1 1) c = true → lb (s.1 1) c = true
  | 0, h => h
  | n + 1, h => steps_bur n (stepF_bur h)
theorem walk_oth {s : LG} {k j : Nat} : ∀ n, n ≤ k → (walkF s n).2 k j = s.2 k j
  | 0, _ => rfl
  | n + 1, h => (steps_oth (by omega) _).trans (walk_oth n (by omega))
theorem walk_gol {s : LG} {k : Nat} : ∀ n, (walkF s n).2 k 2 = s.2 k 2
  | 0 => rfl
  | n + 1 => (steps_gol _).trans (walk_gol n)
theorem walk_pac {s : LG} {k : Nat} : ∀ n, (walkF s n).2 k 1 = s.2 k 1
  | 0 => rfl
  | n + 1 => (steps_pace _).trans (walk_pac n)
theorem walk_may {s : LG} {k : Nat} : ∀ n, (walkF s n).2 k 3 ≤ s.2 k 3
  | 0 => Nat.le_refl _
  | n + 1 => Nat.le_trans (steps_may _) (walk_may n)
theorem walk_bur {s : LG} {c : Nat} : ∀ n, lb ((walkF s n).1 1) c = true → lb (s.1 1) c = true
  | 0, h => h
  | n + 1, h => walk_bur n (steps_bur _ h)
theorem walk_dis {s : LG} {k : Nat} (G : GOK s.2) : ∀ n, n ≤ 6 → k < n → dis ((walkF s n).2 k 0) (s.2 k 0) ≤ s.2 k 1
  | 0, _, h => absurd h (Nat.not_lt_zero _)
  | n + 1, hn, h => by
    show dis ((stepsF (walkF s n) n ((walkF s n).2 n 1)).2 k 0) (s.2 k 0) ≤ s.2 k 1
    by_cases e : k = n
    · subst e
      have h1 := steps_dis (s := walkF s k) (g := k) (walkF_ok G k (by omega)) (by omega) ((walkF s k).2 k 1)
      rw [walk_oth (j := 0) k (Nat.le_refl _), walk_pac k] at h1
      rw [walk_pac k]
      exact h1
    · rw [steps_oth e]
      exact walk_dis G n (by omega) (by omega)
theorem walk_hom {s : LG} {k : Nat} (h : s.2 k 0 = s.2 k 2) : ∀ n, (walkF s n).2 k 0 = s.2 k 0
  | 0 => rfl
  | n + 1 => by
    show (stepsF (walkF s n) n ((walkF s n).2 n 1)).2 k 0 = s.2 k 0
    by_cases e : k = n
    · subst e
      rw [steps_hom (by rw [walk_hom h k, walk_gol k, h])]
      exact walk_hom h k
    · rw [steps_oth e]
      exact walk_hom h n
/-! hauntings -/
def hx (S : CS) (k : Nat) : Bool := !lb (S.1 7) (S.2.2.1 k 0) && lb (S.1 4) (S.2.2.1 k 0)
def itM (v : Int32) : Nat → Int32
  | 0 => v
  | n + 1 => mkNext (itM v n)
theorem haus_oth {L : Nat → Int64} {s : AG} {k j : Nat} (h4 : j ≠ 4) (h5 : j ≠ 5) : ∀ n, (hausF L s n).2.1 k j = s.2.1 k j
  | 0 => rfl
  | n + 1 => by
    have ih := haus_oth (L := L) (s := s) (k := k) h4 h5 n
    show (hauF L (hausF L s n) n).2.1 k j = _
    rw [← ih]
    unfold hauF
    split
    · exact setG_ne _ _ (fun z => h5 z.2)
    · split
      · exact setG_ne _ _ (fun z => h4 z.2)
      · rfl
theorem haus_45 {L : Nat → Int64} {s : AG} {k : Nat} : ∀ n, k < n → (hausF L s n).2.1 k 5 = s.2.1 k 5 + (lb (L 7) (s.2.1 k 0)).toNat ∧ (hausF L s n).2.1 k 4 = s.2.1 k 4 + (!lb (L 7) (s.2.1 k 0) && lb (L 4) (s.2.1 k 0)).toNat
  | 0, h => absurd h (Nat.not_lt_zero _)
  | n + 1, h => by
    show (hauF L (hausF L s n) n).2.1 k 5 = _ ∧ (hauF L (hausF L s n) n).2.1 k 4 = _
    by_cases e : k = n
    · subst e
      have p0 := haus_oth (L := L) (s := s) (k := k) (j := 0) (by decide) (by decide) k
      have p4 := haus_hi (L := L) (s := s) (g' := k) (k := 4) k (Nat.le_refl _)
      have p5 := haus_hi (L := L) (s := s) (g' := k) (k := 5) k (Nat.le_refl _)
      unfold hauF
      rw [p0]
      cases e7 : lb (L 7) (s.2.1 k 0) with
      | true => simp [setG, p4, p5]
      | false =>
        cases e4 : lb (L 4) (s.2.1 k 0) with
        | true => simp [setG, p4, p5]
        | false => simp [p4, p5]
    · rw [hau_hi e, hau_hi e]
      exact haus_45 n (by omega)
theorem haus_am {L : Nat → Int64} {s : AG} {c : Nat} : ∀ n, (hausF L s n).1 c = itM (s.1 c) (cntG (fun k => decide (s.2.1 k 0 = c) && (!lb (L 7) (s.2.1 k 0) && lb (L 4) (s.2.1 k 0))) n)
  | 0 => rfl
  | n + 1 => by
    have ih := haus_am (L := L) (s := s) (c := c) n
    have p0 := haus_oth (L := L) (s := s) (k := n) (j := 0) (by decide) (by decide) n
    show (hauF L (hausF L s n) n).1 c = _
    rw [cntG_succ]
    unfold hauF
    rw [p0]
    cases e7 : lb (L 7) (s.2.1 n 0) with
    | true => simp [ih]
    | false =>
      cases e4 : lb (L 4) (s.2.1 n 0) with
      | true =>
        by_cases ec : s.2.1 n 0 = c
        · subst ec
          simp [upd, ih, itM]
        · have : ¬ c = s.2.1 n 0 := fun z => ec z.symm
          simp [upd, ih, this, ec]
      | false => simp [ih]
theorem beam_in {L : Nat → Int64} {own cells : Int64} {dn i : Nat} (h : lb cells i = true) : ∀ n, lb (beamI L own cells dn n).2.2 i = true
  | 0 => h
  | n + 1 => by
    rw [beam_succ]
    show lb ((beamI L own cells dn n).2.2 ||| _) i = true
    rw [lb_or, beam_in h n]
    rfl
theorem litF_in {L : Nat → Int64} {own : Int64} {i : Nat} (h : lb own i = true) : ∀ n, lb (litF L own n) i = true
  | 0 => h
  | n + 1 => beam_in (litF_in h n) 6
theorem relit_in {L : Nat → Int64} {c : Nat} (hc : c < 63) (h : lb (L 1) c = true) : lb (relit L) c = true := (relitN_iff L c 63).mpr ⟨c, hc, h, litF_in (by rw [lb_only (by omega)]; simp) 4⟩
theorem relit_no {L : Nat → Int64} (h : ∀ c, c < 63 → lb (L 1) c = false) (j : Nat) : lb (relit L) j = false := by
  cases e : lb (relit L) j with
  | false => rfl
  | true =>
    obtain ⟨k, hk, h1, -⟩ := (relitN_iff L j 63).mp e
    rw [h k hk] at h1
    cases h1
/-! the whole hour -/
section HR
variable {S : CS}
theorem hr_G {k j : Nat} (h4 : j ≠ 4) (h5 : j ≠ 5) : (hrS S).2.2.1 k j = (walkF (reL (bdN S.1 S.2.1 63).1, S.2.2.1) S.2.2.2.1).2 k j := haus_oth (s := ((bdN S.1 S.2.1 63).2, (hourL S.1 S.2.1 S.2.2.1 S.2.2.2.1).2, 0)) h4 h5 _
theorem hr_dis (V : InvS S) {k : Nat} (hk : k < S.2.2.2.1) : dis ((hrS S).2.2.1 k 0) (S.2.2.1 k 0) ≤ S.2.2.1 k 1 := by
  rw [hr_G (by decide) (by decide)]
  exact walk_dis (s := (reL (bdN S.1 S.2.1 63).1, S.2.2.1)) V.1.2 _ V.1.1 hk
theorem hr_gol {k : Nat} : (hrS S).2.2.1 k 2 = S.2.2.1 k 2 := by
  rw [hr_G (by decide) (by decide)]
  exact walk_gol (s := (reL (bdN S.1 S.2.1 63).1, S.2.2.1)) _
theorem hr_pac {k : Nat} : (hrS S).2.2.1 k 1 = S.2.2.1 k 1 := by
  rw [hr_G (by decide) (by decide)]
  exact walk_pac (s := (reL (bdN S.1 S.2.1 63).1, S.2.2.1)) _
theorem hr_may {k : Nat} : (hrS S).2.2.1 k 3 ≤ S.2.2.1 k 3 := by
  rw [hr_G (by decide) (by decide)]
  exact walk_may (s := (reL (bdN S.1 S.2.1 63).1, S.2.2.1)) _
theorem hr_hom {k : Nat} (h : S.2.2.1 k 0 = S.2.2.1 k 2) : (hrS S).2.2.1 k 0 = S.2.2.1 k 0 := by
  rw [hr_G (by decide) (by decide)]
  exact walk_hom (s := (reL (bdN S.1 S.2.1 63).1, S.2.2.1)) h _
theorem hr_45 {k : Nat} (hk : k < S.2.2.2.1) : (hrS S).2.2.1 k 5 = S.2.2.1 k 5 + (lb ((hrS S).1 7) ((hrS S).2.2.1 k 0)).toNat ∧ (hrS S).2.2.1 k 4 = S.2.2.1 k 4 + (hx (hrS S) k).toNat := by
  have h := haus_45 (L := (hourL S.1 S.2.1 S.2.2.1 S.2.2.2.1).1) (s := ((bdN S.1 S.2.1 63).2, (hourL S.1 S.2.1 S.2.2.1 S.2.2.2.1).2, 0)) (k := k) S.2.2.2.1 hk
  have e0 : (hrS S).2.2.1 k 0 = (hourL S.1 S.2.1 S.2.2.1 S.2.2.2.1).2 k 0 := hr_G (by decide) (by decide)
  have w4 : (hourL S.1 S.2.1 S.2.2.1 S.2.2.2.1).2 k 4 = S.2.2.1 k 4 := walk_hi (s := (reL (bdN S.1 S.2.1 63).1, S.2.2.1)) (Or.inl rfl) _
  have w5 : (hourL S.1 S.2.1 S.2.2.1 S.2.2.2.1).2 k 5 = S.2.2.1 k 5 := walk_hi (s := (reL (bdN S.1 S.2.1 63).1, S.2.2.1)) (Or.inr rfl) _
  unfold hx
  rw [e0, ← w4, ← w5]
  exact h
theorem hr_am (c : Nat) : (hrS S).2.1 c = itM ((bdN S.1 S.2.1 63).2 c) (cntG (fun k => decide ((hrS S).2.2.1 k 0 = c) && hx (hrS S) k) S.2.2.2.1) := by
  have h := haus_am (L := (hourL S.1 S.2.1 S.2.2.1 S.2.2.2.1).1) (s := ((bdN S.1 S.2.1 63).2, (hourL S.1 S.2.1 S.2.2.1 S.2.2.2.1).2, 0)) (c := c) S.2.2.2.1
  have e0 : ∀ k, (hrS S).2.2.1 k 0 = (hourL S.1 S.2.1 S.2.2.1 S.2.2.2.1).2 k 0 := fun k => hr_G (by decide) (by decide)
  unfold hx
  rw [show (fun k => decide ((hrS S).2.2.1 k 0 = c) && (!lb ((hrS S).1 7) ((hrS S).2.2.1 k 0) && lb ((hrS S).1 4) ((hrS S).2.2.1 k 0))) = (fun k => decide ((hourL S.1 S.2.1 S.2.2.1 S.2.2.2.1).2 k 0 = c) && (!lb ((hrS S).1 7) ((hourL S.1 S.2.1 S.2.2.1 S.2.2.2.1).2 k 0) && lb ((hrS S).1 4) ((hourL S.1 S.2.1 S.2.2.1 S.2.2.2.1).2 k 0))) from funext (fun k => by rw [e0 k])]
  exact h
theorem hr_thg (c : Nat) : thg (hrS S).1 c = thg S.1 c := thg_of (by rw [hr_k S (by decide) (by decide)]) (by rw [hr_k S (by decide) (by decide)]) (by rw [hr_k S (by decide) (by decide)]) (by rw [hr_k S (by decide) (by decide)])
theorem hr_bd (c : Nat) : (bdN S.1 S.2.1 63).2 c = if c < 63 ∧ lb (S.1 1) c = true then S.2.1 c - 1 else S.2.1 c := (bdN_at S.1 S.2.1 63 (Nat.le_refl _)).2 c
theorem hr_bur {c : Nat} (hc : c < 63) (h : lb ((hrS S).1 1) c = true) : lb (S.1 1) c = true := by
  have h1 : lb ((bdN S.1 S.2.1 63).1 1) c = true := walk_bur (s := (reL (bdN S.1 S.2.1 63).1, S.2.2.1)) _ h
  rw [(bdN_at S.1 S.2.1 63 (Nat.le_refl _)).1 c hc, if_pos hc, Bool.and_eq_true] at h1
  exact h1.1
theorem hr_cnt (V : InvS S) {c : Nat} (h : ¬ thg S.1 c = 4) : ∀ n, cntG (fun k => decide ((hrS S).2.2.1 k 0 = c) && hx (hrS S) k) n = 0
  | 0 => rfl
  | n + 1 => by
    rw [cntG_succ, hr_cnt V h n, if_neg]
    intro z
    rw [Bool.and_eq_true, decide_eq_true_eq] at z
    have z2 := z.2
    unfold hx at z2
    rw [z.1, Bool.and_eq_true] at z2
    exact h ((thg4 V.2.2.1 c).mpr (by rw [← hr_k S (k := 4) (by decide) (by decide)]; exact z2.2))
theorem hr_wax (V : InvS S) {c : Nat} (hc : c < 63) (h : thg S.1 c = 1) : (hrS S).2.1 c = S.2.1 c - b01 (lb (S.1 1) c) := by
  rw [hr_am c, hr_cnt V (by omega)]
  show (bdN S.1 S.2.1 63).2 c = _
  rw [hr_bd]
  cases e : lb (S.1 1) c with
  | true => rw [if_pos ⟨hc, rfl⟩]; rfl
  | false =>
    rw [if_neg (fun z => by cases z.2)]
    show _ = _ - 0
    rw [Int32.sub_zero]
theorem hr_tal (V : InvS S) {c : Nat} (h : thg S.1 c = 4) : (hrS S).2.1 c = itM (S.2.1 c) (cntG (fun k => decide ((hrS S).2.2.1 k 0 = c) && hx (hrS S) k) S.2.2.2.1) := by
  rw [hr_am c, hr_bd, if_neg]
  intro z
  have := (V.2.2.1.2.2.2.2.1 c z.2).1
  unfold thg at h
  rw [if_pos this] at h
  omega
theorem hr_zer (V : InvS S) {c : Nat} (hc : c < 63) (h1 : ¬ thg S.1 c = 1) (h4 : ¬ thg S.1 c = 4) : (hrS S).2.1 c = 0 := by
  obtain ⟨v, -, e, -, h⟩ := (hrS_V V).2.2.1.2.2.2.2.2 c hc
  rw [hr_thg c] at h
  rw [e, h h1 h4]
  rfl
theorem hr_lit (V : InvS S) {c : Nat} (hc : c < 63) (h : lb ((hrS S).1 1) c = true) : lb ((hrS S).1 7) c = true := by
  rw [(hrS_V V).2.2.2]
  exact relit_in hc h
theorem hr_wx0 (V : InvS S) {c : Nat} (h : lb ((hrS S).1 1) c = true) : ¬ (hrS S).2.1 c = 0 := by
  obtain ⟨-, v, hv, e⟩ := (hrS_V V).2.2.1.2.2.2.2.1 c h
  rw [e]
  exact nI_ne0 (by omega) (by omega)
end HR
theorem itM_N {v : Nat} (hv : v < 100) : ∀ n, ∃ w, w < 100 ∧ itM (nI v) n = nI w
  | 0 => ⟨v, hv, rfl⟩
  | n + 1 => by
    obtain ⟨w, hw, e⟩ := itM_N hv n
    refine ⟨mk2 w, mk2_lt hw, ?_⟩
    show mkNext (itM (nI v) n) = _
    rw [e]
    exact mk_eq ⟨w, hw⟩
/-- how the law's own count of marks goes on -/
def mkS (b : Int32) : Int32 := if b - b / 13 * 13 = 0 then (b - b / 10 * 10) * 10 + b / 10 else b
theorem mk_K : ∀ v : Fin 100, mkNext (nI v.val) = mkS (if nI v.val = 99 then 0 else nI v.val + 1) := by decide +kernel
theorem abs_dis : ∀ a : Fin 9, ∀ b : Fin 9, (if 0 ≤ nI a.val - nI b.val then nI a.val - nI b.val else 0 - (nI a.val - nI b.val)) = nI ((a.val - b.val) + (b.val - a.val)) := by decide +kernel
