/-! a search from one place on: what is reached within n steps -/
section FS
variable {ok : Nat → Nat → Bool} {to : Nat → Nat → Nat} {s0 : Nat}
def fR (ok : Nat → Nat → Bool) (to : Nat → Nat → Nat) (s0 : Nat) : Nat → Nat → Prop
  | 0, s => s = s0
  | n + 1, s => fR ok to s0 n s ∨ ∃ t e, t < 126 ∧ e < 4 ∧ ok t e = true ∧ to t e = s ∧ fR ok to s0 n t
theorem fR_up {n s : Nat} (h : fR ok to s0 n s) : fR ok to s0 (n + 1) s := Or.inl h
theorem fR_edge {n t e : Nat} (ht : t < 126) (he : e < 4) (h1 : ok t e = true) (h : fR ok to s0 n t) : fR ok to s0 (n + 1) (to t e) := Or.inr ⟨t, e, ht, he, h1, rfl, h⟩
theorem fR_head (hs0 : s0 < 126) : ∀ n s, fR ok to s0 (n + 1) s ↔ fR ok to s0 n s ∨ ∃ e, e < 4 ∧ ok s0 e = true ∧ fR ok to (to s0 e) n s
  | 0, s => by
    constructor
    · rintro (h | ⟨t, e, ht, he, h1, h2, h3⟩)
      · exact Or.inl h
      · have h3 : t = s0 := h3
        subst h3
        exact Or.inr ⟨e, he, h1, h2.symm⟩
    · rintro (h | ⟨e, he, h1, h2⟩)
      · exact Or.inl h
      · have h2 : s = to s0 e := h2
        exact Or.inr ⟨s0, e, hs0, he, h1, h2.symm, rfl⟩
  | n + 1, s => by
    have ih := fR_head hs0 n
    constructor
    · rintro (h | ⟨t, e, ht, he, h1, h2, h3⟩)
      · exact Or.inl h
      · rcases (ih t).mp h3 with q | ⟨e', he', q1, q2⟩
        · exact Or.inl (Or.inr ⟨t, e, ht, he, h1, h2, q⟩)
        · exact Or.inr ⟨e', he', q1, Or.inr ⟨t, e, ht, he, h1, h2, q2⟩⟩
    · rintro (h | ⟨e', he', q1, q2⟩)
      · exact Or.inl h
      · rcases q2 with q2 | ⟨t, e, ht, he, h1, h2, q3⟩
        · exact Or.inl ((ih s).mpr (Or.inr ⟨e', he', q1, q2⟩))
        · exact Or.inr ⟨t, e, ht, he, h1, h2, (ih t).mpr (Or.inr ⟨e', he', q1, q3⟩)⟩
/-- k places of the row are done, n are filled; no place of the goal g is among them -/
def fI (ok : Nat → Nat → Bool) (to : Nat → Nat → Nat) (s0 : Nat) (gl : Nat → Bool) (ds : Nat → Bool) (vN rN : Nat → Nat) (k n : Nat) : Prop :=
  k ≤ n ∧ cntG ds 126 = n ∧ (∀ i, i < n → rN i < 126 ∧ ds (rN i) = true) ∧
  (∀ s, s < 126 → ds s = true → (∃ i, i < n ∧ rN i = s) ∧ vN s ≤ n ∧ fR ok to s0 (vN s) s ∧ ∀ u, u < vN s → ¬ fR ok to s0 u s) ∧
  (∀ i j, i ≤ j → j < n → vN (rN i) ≤ vN (rN j)) ∧
  (k < n → ∀ j, j < n → vN (rN j) ≤ vN (rN k) + 1) ∧
  ds s0 = true ∧
  (∀ i, i < k → ∀ e, e < 4 → ok (rN i) e = true → ds (to (rN i) e) = true) ∧
  (∀ s, s < 126 → ds s = true → gl s = false)
variable {gl ds : Nat → Bool} {vN rN : Nat → Nat} {k n : Nat}
theorem fI_at (h : fI ok to s0 gl ds vN rN k n) {s : Nat} (hs : s < 126) (hd : ds s = true) {w : Nat} (hw : fR ok to s0 w s) : vN s ≤ w := by
  obtain ⟨-, -, -, h4, -⟩ := h
  obtain ⟨-, -, -, q⟩ := h4 s hs hd
  by_cases e : vN s ≤ w
  · exact e
  · exact absurd hw (q w (by omega))
theorem fI_early (h : fI ok to s0 gl ds vN rN k n) (hk : k < n) {s : Nat} (hs : s < 126) (hd : ds s = true) (hv : vN s < vN (rN k)) : ∃ i, i < k ∧ rN i = s := by
  obtain ⟨-, -, -, h4, h5, -⟩ := h
  obtain ⟨⟨i, hi, e⟩, -⟩ := h4 s hs hd
  refine ⟨i, ?_, e⟩
  by_cases q : i < k
  · exact q
  · have := h5 k i (by omega) hi
    rw [e] at this
    omega
theorem fI_seen (hs0 : s0 < 126) (h : fI ok to s0 gl ds vN rN k n) (hk : k < n) : ∀ w s, s < 126 → w < vN (rN k) → fR ok to s0 w s → ∃ i, i < k ∧ rN i = s := by
  intro w
  induction w with
  | zero =>
    intro s hs hw hr
    have hr : s = s0 := hr
    have hd : ds s = true := by rw [hr]; exact h.2.2.2.2.2.2.1
    have := fI_at h hs hd (w := 0) hr
    exact fI_early h hk hs hd (by omega)
  | succ w ih =>
    intro s hs hw hr
    rcases id hr with hr2 | ⟨t, e, ht, he, ok1, es, hr2⟩
    · exact ih s hs (by omega) hr2
    · obtain ⟨i, hi, ei⟩ := ih t ht (by omega) hr2
      have hd : ds s = true := by
        have := h.2.2.2.2.2.2.2.1 i hi e he (by rw [ei]; exact ok1)
        rw [ei, es] at this
        exact this
      have := fI_at h hs hd hr
      exact fI_early h hk hs hd (by omega)
/-- what is not seen is no nearer than a step beyond the place at hand -/
theorem fI_far (hs0 : s0 < 126) (h : fI ok to s0 gl ds vN rN k n) (hk : k < n) {p : Nat} (hp126 : p < 126) (hp : ds p = false) : ∀ u, u < vN (rN k) + 1 → ¬ fR ok to s0 u p := by
  intro u
  have hs := fI_seen hs0 h hk
  obtain ⟨h1, h2, h3, h4, h5, h6, h7, h8, h9⟩ := h
  induction u with
  | zero =>
    intro _ e9
    have e9 : p = s0 := e9
    rw [e9, h7] at hp
    cases hp
  | succ u ih =>
    intro hu e9
    rcases e9 with z | ⟨t, e2, ht, he2, ok2, es2, hr2⟩
    · exact ih (by omega) z
    · obtain ⟨i, hi, ei⟩ := hs u t ht (by omega) hr2
      have := h8 i hi e2 he2 (by rw [ei]; exact ok2)
      rw [ei, es2, hp] at this
      cases this
theorem fI_push (hs0 : s0 < 126) (h : fI ok to s0 gl ds vN rN k n) (hk : k < n) {e p : Nat} (he : e < 4) (ok1 : ok (rN k) e = true) (ep : to (rN k) e = p) (hp126 : p < 126) (hp : ds p = false) (hg : gl p = false) : n < 126 ∧ fI ok to s0 gl (fun j => if j = p then true else ds j) (fun j => if j = p then vN (rN k) + 1 else vN j) (fun i => if i = n then p else rN i) k (n + 1) := by
  have hfar := fI_far hs0 h hk hp126 hp
  obtain ⟨h1, h2, h3, h4, h5, h6, h7, h8, h9⟩ := h
  obtain ⟨hr, hdr⟩ := h3 k hk
  obtain ⟨-, hv, hw, hwn⟩ := h4 _ hr hdr
  have ca := cnt_add hp 126 hp126
  have cl := cnt_le (fun j => if j = p then true else ds j) 126
  have ne : ∀ {s}, ds s = true → s ≠ p := fun {s} hd z => by rw [z, hp] at hd; cases hd
  have up : ∀ {s}, ds s = true → (if s = p then true else ds s) = true := fun {s} hd => by rw [if_neg (ne hd)]; exact hd
  have ro : ∀ {i}, i < n → (if i = n then p else rN i) = rN i := fun {i} hi => if_neg (by omega)
  have rn : (if n = n then p else rN n) = p := if_pos rfl
  have vo : ∀ {s}, ds s = true → (if s = p then vN (rN k) + 1 else vN s) = vN s := fun {s} hd => if_neg (ne hd)
  have vp : (if p = p then vN (rN k) + 1 else vN p) = vN (rN k) + 1 := if_pos rfl
  refine ⟨by omega, by omega, by rw [ca, h2], ?_, ?_, ?_, ?_, ?_, ?_, ?_⟩
  · intro i hi
    show (if i = n then p else rN i) < 126 ∧ (if (if i = n then p else rN i) = p then true else ds (if i = n then p else rN i)) = true
    by_cases q : i = n
    · rw [q, rn]
      exact ⟨hp126, if_pos rfl⟩
    · have hi2 : i < n := by omega
      rw [ro hi2]
      exact ⟨(h3 i hi2).1, up (h3 i hi2).2⟩
  · intro s hs126 hd
    show (∃ i, i < n + 1 ∧ (if i = n then p else rN i) = s) ∧ (if s = p then vN (rN k) + 1 else vN s) ≤ n + 1 ∧ fR ok to s0 (if s = p then vN (rN k) + 1 else vN s) s ∧ ∀ u, u < (if s = p then vN (rN k) + 1 else vN s) → ¬ fR ok to s0 u s
    by_cases q : s = p
    · rw [q, vp]
      refine ⟨⟨n, by omega, rn⟩, by omega, ?_, hfar⟩
      rw [← ep]
      exact fR_edge hr he ok1 hw
    · have hd2 : ds s = true := by
        have hd : (if s = p then true else ds s) = true := hd
        rw [if_neg q] at hd
        exact hd
      rw [if_neg q]
      obtain ⟨⟨i, hi, ei⟩, a, b, c⟩ := h4 s hs126 hd2
      exact ⟨⟨i, by omega, by rw [ro hi]; exact ei⟩, by omega, b, c⟩
  · intro i j hij hj
    show (if (if i = n then p else rN i) = p then vN (rN k) + 1 else vN (if i = n then p else rN i)) ≤ (if (if j = n then p else rN j) = p then vN (rN k) + 1 else vN (if j = n then p else rN j))
    by_cases q : j = n
    · rw [q, rn, vp]
      by_cases q2 : i = n
      · rw [q2, rn, vp]
        exact Nat.le_refl _
      · have hi2 : i < n := by omega
        rw [ro hi2, vo (h3 i hi2).2]
        exact h6 hk i hi2
    · have hj2 : j < n := by omega
      have hi2 : i < n := by omega
      rw [ro hi2, ro hj2, vo (h3 i hi2).2, vo (h3 j hj2).2]
      exact h5 i j hij hj2
  · intro _ j hj
    show (if (if j = n then p else rN j) = p then vN (rN k) + 1 else vN (if j = n then p else rN j)) ≤ (if (if k = n then p else rN k) = p then vN (rN k) + 1 else vN (if k = n then p else rN k)) + 1
    rw [ro hk, vo hdr]
    by_cases q : j = n
    · rw [q, rn, vp]
      exact Nat.le_refl _
    · have hj2 : j < n := by omega
      rw [ro hj2, vo (h3 j hj2).2]
      exact h6 hk j hj2
  · exact up h7
  · intro i hi e2 he2 ok2
    have hi2 : i < n := by omega
    show (if to (if i = n then p else rN i) e2 = p then true else ds (to (if i = n then p else rN i) e2)) = true
    have ok3 : ok (if i = n then p else rN i) e2 = true := ok2
    rw [ro hi2] at ok3
    rw [ro hi2]
    exact up (h8 i hi e2 he2 ok3)
  · intro s hs126 hd
    have hd : (if s = p then true else ds s) = true := hd
    by_cases q : s = p
    · rw [q]; exact hg
    · rw [if_neg q] at hd
      exact h9 s hs126 hd
theorem fI_next (h : fI ok to s0 gl ds vN rN k n) (hk : k < n) (hx : ∀ e, e < 4 → ok (rN k) e = true → ds (to (rN k) e) = true) : fI ok to s0 gl ds vN rN (k + 1) n := by
  obtain ⟨h1, h2, h3, h4, h5, h6, h7, h8, h9⟩ := h
  refine ⟨by omega, h2, h3, h4, h5, fun hk1 j hj => ?_, h7, fun i hi => ?_, h9⟩
  · have := h6 hk j hj
    have := h5 k (k + 1) (by omega) hk1
    omega
  · by_cases q : i = k
    · rw [q]; exact hx
    · exact h8 i (by omega)
theorem fI_all (hto : ∀ t e, t < 126 → e < 4 → ok t e = true → to t e < 126) (h : fI ok to s0 gl ds vN rN n n) : ∀ w s, fR ok to s0 w s → s < 126 → ds s = true := by
  obtain ⟨h1, h2, h3, h4, h5, h6, h7, h8, h9⟩ := h
  intro w
  induction w with
  | zero =>
    intro s hr _
    have hr : s = s0 := hr
    rw [hr]; exact h7
  | succ w ih =>
    intro s hr hs
    rcases hr with hr2 | ⟨t, e, ht, he, ok1, es, hr2⟩
    · exact ih s hr2 hs
    · obtain ⟨⟨i, hi, ei⟩, -⟩ := h4 t ht (ih t hr2 ht)
      have := h8 i hi e he (by rw [ei]; exact ok1)
      rw [ei, es] at this
      exact this
theorem fI_init (hs0 : s0 < 126) (hg : gl s0 = false) : fI ok to s0 gl (fun j => if j = s0 then true else false) (fun _ => 0) (fun _ => s0) 0 1 := by
  have cc : cntG (fun j => if j = s0 then true else false) 126 = 1 := by
    have e2 := cnt_add (p := fun _ => false) (x := s0) rfl 126 hs0
    rw [cnt_0] at e2
    exact e2
  have sd : ∀ {s}, (if s = s0 then true else false) = true → s = s0 := fun {s} hd => by
    by_cases q : s = s0
    · exact q
    · rw [if_neg q] at hd
      cases hd
  refine ⟨by omega, cc, fun i hi => ⟨hs0, if_pos rfl⟩, fun s hs hd => ⟨⟨0, by omega, (sd hd).symm⟩, Nat.zero_le _, sd hd, fun u hu => absurd hu (Nat.not_lt_zero _)⟩, fun _ _ _ _ => Nat.le_refl _, fun _ _ _ => Nat.zero_le _, if_pos rfl, fun i hi => by omega, fun s hs hd => by rw [sd hd]; exact hg⟩
end FS
/-! .. in the law's house: 63 * (a wall passed already) + 7 * x + y -/
def q7 (c : Nat) : Nat := 7 * (c % 9) + c / 9
theorem q7_lt {c : Nat} (h : c < 63) : q7 c < 63 := by unfold q7; omega
theorem q7_inj {c c' : Nat} (h : c < 63) (h' : c' < 63) (e : q7 c = q7 c') : c = c' := by unfold q7 at e; omega
theorem cl_q7 {c : Nat} (h : c < 63) : cl7 (q7 c) = c := (cl7_of h).2
theorem q7_cl {q : Nat} (h : q < 63) : q7 (cl7 q) = q := by unfold q7 cl7; omega
def sOk (L : Nat → Int64) (lt : Nat → Bool) (s e : Nat) : Bool := nbOk (cl7 (s % 63)) e && (!lt (nbOf (cl7 (s % 63)) e) && !(wl L (cl7 (s % 63)) e && decide (s / 63 = 1)))
def sTo (L : Nat → Int64) (s e : Nat) : Nat := (if wl L (cl7 (s % 63)) e then 63 else 63 * (s / 63)) + q7 (nbOf (cl7 (s % 63)) e)
theorem sTo_lt {L : Nat → Int64} {lt : Nat → Bool} {s e : Nat} (hs : s < 126) (he : e < 4) (ok : sOk L lt s e = true) : sTo L s e < 126 := by
  unfold sOk at ok
  rw [Bool.and_eq_true] at ok
  have h1 := nb_lt (cl7_lt (Nat.mod_lt s (by omega))) he ok.1
  have h2 := q7_lt h1
  unfold sTo
  split <;> omega
def fG (L : Nat → Int64) (lt : Nat → Bool) (go n s0 : Nat) : Prop := ∃ s, s < 126 ∧ s % 63 = q7 go ∧ fR (sOk L lt) (sTo L) s0 n s
theorem fG_suc {L : Nat → Int64} {lt : Nat → Bool} {go n s0 : Nat} (hs0 : s0 < 126) : fG L lt go (n + 1) s0 ↔ fG L lt go n s0 ∨ ∃ e, e < 4 ∧ sOk L lt s0 e = true ∧ fG L lt go n (sTo L s0 e) := by
  unfold fG
  constructor
  · rintro ⟨s, h1, h2, h3⟩
    rcases (fR_head hs0 n s).mp h3 with q | ⟨e, he, q1, q2⟩
    · exact Or.inl ⟨s, h1, h2, q⟩
    · exact Or.inr ⟨e, he, q1, s, h1, h2, q2⟩
  · rintro (⟨s, h1, h2, h3⟩ | ⟨e, he, q1, s, h1, h2, q2⟩)
    · exact ⟨s, h1, h2, Or.inl h3⟩
    · exact ⟨s, h1, h2, (fR_head hs0 n s).mpr (Or.inr ⟨e, he, q1, q2⟩)⟩
theorem fG_0 {L : Nat → Int64} {lt : Nat → Bool} {go c p : Nat} (hgo : go < 63) (hc : c < 63) (hp : p ≤ 1) : fG L lt go 0 (63 * p + q7 c) ↔ c = go := by
  have h7 := q7_lt hc
  constructor
  · rintro ⟨s, h1, h2, h3⟩
    have h3 : s = 63 * p + q7 c := h3
    exact q7_inj hc hgo (by omega)
  · rintro rfl
    exact ⟨63 * p + q7 c, by omega, by omega, rfl⟩
theorem st_mod {c p : Nat} (hc : c < 63) : cl7 ((63 * p + q7 c) % 63) = c ∧ (63 * p + q7 c) / 63 = p := by
  have h7 := q7_lt hc
  rw [show (63 * p + q7 c) % 63 = q7 c by omega, cl_q7 hc]
  exact ⟨rfl, by omega⟩
theorem fG_A {L : Nat → Int64} {lt : Nat → Bool} {go : Nat} (hgo : go < 63) : ∀ n c, c < 63 → (wA L lt go n c = true ↔ fG L lt go n (63 * 1 + q7 c))
  | 0, c, hc => by
    rw [fG_0 hgo hc (Nat.le_refl _)]
    exact ⟨fun h => of_decide_eq_true h, fun h => decide_eq_true h⟩
  | n + 1, c, hc => by
    have h7 := q7_lt hc
    obtain ⟨m1, m2⟩ := st_mod (p := 1) hc
    rw [fG_suc (by omega), ← fG_A hgo n c hc]
    constructor
    · intro h
      rcases wA_back h with h | ⟨e, he, h1, h2, h3, h4⟩
      · exact Or.inl h
      · have h2 : wl L c e = false := h2
        refine Or.inr ⟨e, he, ?_, ?_⟩
        · unfold sOk
          rw [m1, h1, h2, h3]
          rfl
        · unfold sTo
          rw [m1, m2, h2]
          exact (fG_A hgo n _ (nb_lt hc he h1)).mp h4
    · rintro (h | ⟨e, he, h1, h2⟩)
      · exact wA_up h
      · unfold sOk at h1
        rw [m1, m2] at h1
        simp only [Bool.and_eq_true, Bool.not_eq_true', decide_true, Bool.and_true] at h1
        unfold sTo at h2
        rw [m1, m2, h1.2.2] at h2
        exact wA_step he h1.1 h1.2.2 h1.2.1 ((fG_A hgo n _ (nb_lt hc he h1.1)).mpr h2)
theorem fG_B {L : Nat → Int64} {lt : Nat → Bool} {go : Nat} (hgo : go < 63) : ∀ n c, c < 63 → (wB L lt go n c = true ↔ fG L lt go n (63 * 0 + q7 c))
  | 0, c, hc => by
    rw [fG_0 hgo hc (by omega)]
    exact ⟨fun h => of_decide_eq_true h, fun h => decide_eq_true h⟩
  | n + 1, c, hc => by
    have h7 := q7_lt hc
    obtain ⟨m1, m2⟩ := st_mod (p := 0) hc
    rw [fG_suc (by omega), ← fG_B hgo n c hc]
    constructor
    · intro h
      rcases wB_back h with h | ⟨e, he, h1, h3, ⟨h2, h4⟩ | ⟨h2, h4⟩⟩
      · exact Or.inl h
      · have h2 : wl L c e = false := h2
        refine Or.inr ⟨e, he, ?_, ?_⟩
        · unfold sOk
          rw [m1, h1, h2, h3]
          rfl
        · unfold sTo
          rw [m1, m2, h2]
          exact (fG_B hgo n _ (nb_lt hc he h1)).mp h4
      · have h2 : wl L c e = true := h2
        refine Or.inr ⟨e, he, ?_, ?_⟩
        · unfold sOk
          rw [m1, m2, h1, h2, h3]
          rfl
        · unfold sTo
          rw [m1, m2, h2]
          exact (fG_A hgo n _ (nb_lt hc he h1)).mp h4
    · rintro (h | ⟨e, he, h1, h2⟩)
      · exact wB_up h
      · unfold sOk at h1
        rw [m1, m2] at h1
        simp only [Bool.and_eq_true, Bool.not_eq_true', Nat.zero_ne_one, decide_false, Bool.and_false, and_true] at h1
        unfold sTo at h2
        rw [m1, m2] at h2
        cases ew : wl L c e with
        | false =>
          rw [ew] at h2
          exact wB_step he h1.1 ew h1.2 ((fG_B hgo n _ (nb_lt hc he h1.1)).mpr h2)
        | true =>
          rw [ew] at h2
          exact wB_wall he h1.1 ew h1.2 ((fG_A hgo n _ (nb_lt hc he h1.1)).mpr h2)
def st0 (c : Nat) (mp : Bool) : Nat := (if mp then 0 else 63) + q7 c
theorem fG_F {L : Nat → Int64} {lt : Nat → Bool} {go : Nat} (hgo : go < 63) {c : Nat} (hc : c < 63) (mp : Bool) (n : Nat) : wF L lt go mp n c = true ↔ fG L lt go n (st0 c mp) := by
  cases mp with
  | false => exact fG_A hgo n c hc
  | true =>
    have := fG_B (L := L) (lt := lt) hgo n c hc
    rw [show 63 * 0 + q7 c = st0 c true by unfold st0; simp] at this
    exact this
