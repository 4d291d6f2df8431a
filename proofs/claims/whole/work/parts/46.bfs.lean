/-! the model's search: what holds at each place of its row -/
def wR (L : Nat → Int64) (lt : Nat → Bool) (go n s : Nat) : Bool := if s % 2 = 0 then wA L lt go n (s / 2) else wB L lt go n (s / 2)
def eOk (L : Nat → Int64) (s e : Nat) : Bool := nbOk (s / 2) e && !(lb (wCells L e) (s / 2) && decide (s % 2 = 1))
def eTo (L : Nat → Int64) (s e : Nat) : Nat := 2 * nbOf (s / 2) e + (if lb (wCells L e) (s / 2) then 1 else s % 2)
theorem cnt_add {p : Nat → Bool} {x : Nat} (hp : p x = false) : ∀ n, x < n → cntG (fun j => if j = x then true else p j) n = cntG p n + 1
  | 0, h => absurd h (Nat.not_lt_zero _)
  | n + 1, h => by
    rw [cntG_succ, cntG_succ]
    by_cases e : x = n
    · subst e
      rw [hp, cntG_cong (p := fun j => if j = x then true else p j) (q := p) (fun i hi => if_neg (by omega))]
      simp
    · have en : (if n = x then true else p n) = p n := if_neg (fun z => e z.symm)
      rw [cnt_add hp n (by omega), en]
      cases p n <;> simp
theorem cnt_0 : ∀ n, cntG (fun _ => false) n = 0
  | 0 => rfl
  | n + 1 => by
    rw [cntG_succ, cnt_0 n]
    rfl
section BF
variable {L : Nat → Int64} {lt : Nat → Bool} {go : Nat}
theorem eTo_lt {s e : Nat} (hs : s < 126) (he : e < 4) (ok : eOk L s e = true) : eTo L s e < 126 := by
  unfold eOk at ok
  rw [Bool.and_eq_true] at ok
  have := nb_lt (show s / 2 < 63 by omega) he ok.1
  unfold eTo
  split <;> omega
theorem wR_0 {s : Nat} (h : wR L lt go 0 s = true) : s = 2 * go ∨ s = 2 * go + 1 := by
  unfold wR at h
  split at h
  · have : s / 2 = go := of_decide_eq_true h
    omega
  · have : s / 2 = go := of_decide_eq_true h
    omega
theorem wR_up {n s : Nat} (h : wR L lt go n s = true) : wR L lt go (n + 1) s = true := by
  unfold wR at *
  split at h
  · next e => rw [if_pos e]; exact wA_up h
  · next e => rw [if_neg e]; exact wB_up h
theorem wR_edge (I : InvW L) {n s e : Nat} (hs : s < 126) (he : e < 4) (ok : eOk L s e = true) (hd : lt (s / 2) = false) (h : wR L lt go n s = true) : wR L lt go (n + 1) (eTo L s e) = true := by
  unfold eOk at ok
  rw [Bool.and_eq_true, Bool.not_eq_true'] at ok
  have hc : s / 2 < 63 := by omega
  obtain ⟨o1, o2⟩ := nb_opp hc he ok.1
  have ws := wall_sym I hc he ok.1
  unfold eTo
  cases ew : lb (wCells L e) (s / 2) with
  | false =>
    rw [ew] at ws
    rw [if_neg (by simp)]
    unfold wR at *
    rw [← o2] at hd
    by_cases e2 : s % 2 = 0
    · rw [if_pos e2, ← o2] at h
      rw [if_pos (by omega), show (2 * nbOf (s / 2) e + s % 2) / 2 = nbOf (s / 2) e by omega]
      exact wA_step (opp_lt he) o1 ws hd h
    · rw [if_neg e2, ← o2] at h
      rw [if_neg (by omega), show (2 * nbOf (s / 2) e + s % 2) / 2 = nbOf (s / 2) e by omega]
      exact wB_step (opp_lt he) o1 ws hd h
  | true =>
    rw [ew] at ws
    have ok2 := ok.2
    rw [ew, Bool.true_and, decide_eq_false_iff_not] at ok2
    rw [if_pos rfl]
    unfold wR at *
    rw [if_pos (by omega), ← o2] at h
    rw [← o2] at hd
    rw [if_neg (by omega), show (2 * nbOf (s / 2) e + 1) / 2 = nbOf (s / 2) e by omega]
    exact wB_wall (opp_lt he) o1 ws hd h
theorem wR_back (I : InvW L) {n s : Nat} (hs : s < 126) (h : wR L lt go (n + 1) s = true) : wR L lt go n s = true ∨ ∃ t e, t < 126 ∧ e < 4 ∧ eOk L t e = true ∧ lt (t / 2) = false ∧ eTo L t e = s ∧ wR L lt go n t = true := by
  have hp : s / 2 < 63 := by omega
  have mk : ∀ e q, e < 4 → q < 2 → nbOk (s / 2) e = true → lt (nbOf (s / 2) e) = false → ((lb (wCells L e) (s / 2) = false ∧ q = s % 2) ∨ (lb (wCells L e) (s / 2) = true ∧ q = 0 ∧ s % 2 = 1)) → wR L lt go n (2 * nbOf (s / 2) e + q) = true → ∃ t e, t < 126 ∧ e < 4 ∧ eOk L t e = true ∧ lt (t / 2) = false ∧ eTo L t e = s ∧ wR L lt go n t = true := by
    intro e q he hq ho hd hw hr
    have hn := nb_lt hp he ho
    obtain ⟨o1, o2⟩ := nb_opp hp he ho
    have ws := wall_sym I hp he ho
    have e2 : (2 * nbOf (s / 2) e + q) / 2 = nbOf (s / 2) e := by omega
    have e3 : (2 * nbOf (s / 2) e + q) % 2 = q := by omega
    refine ⟨2 * nbOf (s / 2) e + q, opp e, by omega, opp_lt he, ?_, by rw [e2]; exact hd, ?_, hr⟩
    · unfold eOk
      rw [e2, e3, o1, ws]
      rcases hw with ⟨w1, w2⟩ | ⟨w1, w2, w3⟩
      · rw [w1]; rfl
      · rw [w1, w2]; rfl
    · unfold eTo
      rw [e2, e3, o2, ws]
      rcases hw with ⟨w1, w2⟩ | ⟨w1, w2, w3⟩
      · rw [w1, if_neg (by simp)]; omega
      · rw [w1, if_pos rfl]; omega
  unfold wR at h
  split at h
  · next e0 =>
    rcases wA_back h with h | ⟨e, he, h1, h2, h3, h4⟩
    · refine Or.inl ?_
      unfold wR
      rw [if_pos e0]
      exact h
    · refine Or.inr (mk e 0 he (by omega) h1 h3 (Or.inl ⟨h2, by omega⟩) ?_)
      unfold wR
      rw [if_pos (by omega), show (2 * nbOf (s / 2) e + 0) / 2 = nbOf (s / 2) e by omega]
      exact h4
  · next e0 =>
    rcases wB_back h with h | ⟨e, he, h1, h3, ⟨h2, h4⟩ | ⟨h2, h4⟩⟩
    · refine Or.inl ?_
      unfold wR
      rw [if_neg e0]
      exact h
    · refine Or.inr (mk e 1 he (by omega) h1 h3 (Or.inl ⟨h2, by omega⟩) ?_)
      unfold wR
      rw [if_neg (by omega), show (2 * nbOf (s / 2) e + 1) / 2 = nbOf (s / 2) e by omega]
      exact h4
    · refine Or.inr (mk e 0 he (by omega) h1 h3 (Or.inr ⟨h2, rfl, by omega⟩) ?_)
      unfold wR
      rw [if_pos (by omega), show (2 * nbOf (s / 2) e + 0) / 2 = nbOf (s / 2) e by omega]
      exact h4
/-- k places of the row are done, n are filled -/
def bI (L : Nat → Int64) (lt : Nat → Bool) (go : Nat) (ds : Nat → Bool) (vN rN : Nat → Nat) (k n : Nat) : Prop :=
  k ≤ n ∧ cntG ds 126 = n ∧ (∀ i, i < n → rN i < 126 ∧ ds (rN i) = true) ∧
  (∀ s, s < 126 → ds s = true → (∃ i, i < n ∧ rN i = s) ∧ vN s ≤ n ∧ wR L lt go (vN s) s = true ∧ ∀ u, u < vN s → wR L lt go u s = false) ∧
  (∀ i j, i ≤ j → j < n → vN (rN i) ≤ vN (rN j)) ∧
  (k < n → ∀ j, j < n → vN (rN j) ≤ vN (rN k) + 1) ∧
  (ds (2 * go) = true ∧ ds (2 * go + 1) = true) ∧
  (∀ i, i < k → lt (rN i / 2) = false → ∀ e, e < 4 → eOk L (rN i) e = true → ds (eTo L (rN i) e) = true)
def FinW (L : Nat → Int64) (lt : Nat → Bool) (go : Nat) (ds : Nat → Bool) (vN : Nat → Nat) : Prop := ∀ s, s < 126 → (ds s = true → vN s < 200 ∧ wR L lt go (vN s) s = true ∧ ∀ u, u < vN s → wR L lt go u s = false) ∧ (ds s = false → ∀ w, wR L lt go w s = false)
variable {ds : Nat → Bool} {vN rN : Nat → Nat} {k n : Nat}
theorem bI_at (h : bI L lt go ds vN rN k n) {s : Nat} (hs : s < 126) (hd : ds s = true) {w : Nat} (hw : wR L lt go w s = true) : vN s ≤ w := by
  obtain ⟨-, -, -, h4, -⟩ := h
  obtain ⟨-, -, -, q⟩ := h4 s hs hd
  by_cases e : vN s ≤ w
  · exact e
  · rw [q w (by omega)] at hw
    cases hw
theorem bI_early (h : bI L lt go ds vN rN k n) (hk : k < n) {s : Nat} (hs : s < 126) (hd : ds s = true) (hv : vN s < vN (rN k)) : ∃ i, i < k ∧ rN i = s := by
  obtain ⟨-, -, -, h4, h5, -⟩ := h
  obtain ⟨⟨i, hi, e⟩, -⟩ := h4 s hs hd
  refine ⟨i, ?_, e⟩
  by_cases q : i < k
  · exact q
  · have := h5 k i (by omega) hi
    rw [e] at this
    omega
theorem bI_seen (I : InvW L) (h : bI L lt go ds vN rN k n) (hk : k < n) : ∀ w s, s < 126 → w < vN (rN k) → wR L lt go w s = true → ∃ i, i < k ∧ rN i = s := by
  intro w
  induction w with
  | zero =>
    intro s hs hw hr
    have hd : ds s = true := by
      rcases wR_0 hr with e | e
      · rw [e]; exact h.2.2.2.2.2.2.1.1
      · rw [e]; exact h.2.2.2.2.2.2.1.2
    have := bI_at h hs hd hr
    exact bI_early h hk hs hd (by omega)
  | succ w ih =>
    intro s hs hw hr
    rcases wR_back I hs hr with hr2 | ⟨t, e, ht, he, ok, hl, es, hr2⟩
    · exact ih s hs (by omega) hr2
    · obtain ⟨i, hi, ei⟩ := ih t ht (by omega) hr2
      have hd : ds s = true := by
        have := h.2.2.2.2.2.2.2 i hi (by rw [ei]; exact hl) e he (by rw [ei]; exact ok)
        rw [ei, es] at this
        exact this
      have := bI_at h hs hd hr
      exact bI_early h hk hs hd (by omega)
theorem bI_push (I : InvW L) (h : bI L lt go ds vN rN k n) (hk : k < n) {e p : Nat} (he : e < 4) (ok : eOk L (rN k) e = true) (hl : lt (rN k / 2) = false) (ep : eTo L (rN k) e = p) (hp : ds p = false) : n < 126 ∧ p < 126 ∧ bI L lt go (fun j => if j = p then true else ds j) (fun j => if j = p then vN (rN k) + 1 else vN j) (fun i => if i = n then p else rN i) k (n + 1) := by
  have hs := bI_seen I h hk
  obtain ⟨h1, h2, h3, h4, h5, h6, h7, h8⟩ := h
  obtain ⟨hr, hdr⟩ := h3 k hk
  obtain ⟨-, hv, hw, hwn⟩ := h4 _ hr hdr
  have hp126 : p < 126 := by rw [← ep]; exact eTo_lt hr he ok
  have ca := cnt_add hp 126 hp126
  have cl := cnt_le (fun j => if j = p then true else ds j) 126
  have ne : ∀ {s}, ds s = true → s ≠ p := fun {s} hd z => by rw [z, hp] at hd; cases hd
  have up : ∀ {s}, ds s = true → (if s = p then true else ds s) = true := fun {s} hd => by rw [if_neg (ne hd)]; exact hd
  have ro : ∀ {i}, i < n → (if i = n then p else rN i) = rN i := fun {i} hi => if_neg (by omega)
  have rn : (if n = n then p else rN n) = p := if_pos rfl
  have vo : ∀ {s}, ds s = true → (if s = p then vN (rN k) + 1 else vN s) = vN s := fun {s} hd => if_neg (ne hd)
  have vp : (if p = p then vN (rN k) + 1 else vN p) = vN (rN k) + 1 := if_pos rfl
  refine ⟨by omega, hp126, by omega, by rw [ca, h2], ?_, ?_, ?_, ?_, ?_, ?_⟩
  · intro i hi
    show (if i = n then p else rN i) < 126 ∧ (if (if i = n then p else rN i) = p then true else ds (if i = n then p else rN i)) = true
    by_cases q : i = n
    · rw [q, rn]
      exact ⟨hp126, if_pos rfl⟩
    · have hi2 : i < n := by omega
      rw [ro hi2]
      exact ⟨(h3 i hi2).1, up (h3 i hi2).2⟩
  · intro s hs126 hd
    show (∃ i, i < n + 1 ∧ (if i = n then p else rN i) = s) ∧ (if s = p then vN (rN k) + 1 else vN s) ≤ n + 1 ∧ wR L lt go (if s = p then vN (rN k) + 1 else vN s) s = true ∧ ∀ u, u < (if s = p then vN (rN k) + 1 else vN s) → wR L lt go u s = false
    by_cases q : s = p
    · rw [q, vp]
      refine ⟨⟨n, by omega, rn⟩, by omega, ?_, ?_⟩
      · rw [← ep]
        exact wR_edge I hr he ok hl hw
      · intro u
        induction u with
        | zero =>
          intro _
          cases e9 : wR L lt go 0 p with
          | false => rfl
          | true =>
            exfalso
            rcases wR_0 e9 with z | z
            · rw [z, h7.1] at hp; cases hp
            · rw [z, h7.2] at hp; cases hp
        | succ u ih =>
          intro hu
          cases e9 : wR L lt go (u + 1) p with
          | false => rfl
          | true =>
            exfalso
            rcases wR_back I hp126 e9 with z | ⟨t, e2, ht, he2, ok2, hl2, es2, hr2⟩
            · rw [ih (by omega)] at z; cases z
            · obtain ⟨i, hi, ei⟩ := hs u t ht (by omega) hr2
              have := h8 i hi (by rw [ei]; exact hl2) e2 he2 (by rw [ei]; exact ok2)
              rw [ei, es2, hp] at this
              cases this
    · have hd2 : ds s = true := by
        have hd : (if s = p then true else ds s) = true := hd
        rw [if_neg q] at hd
        exact hd
      rw [if_neg q]
      obtain ⟨⟨i, hi, ei⟩, a, b, c⟩ := h4 s hs126 hd2
      exact ⟨⟨i, by omega, by rw [ro hi]; exact ei⟩, by omega, b, c⟩
  · intro i j hij hj
    show (if (if i = n then p else rN i) = p then vN (rN k) + 1 else vN (if i = n then p else rN i)) ≤ (if (if j = n then p else rN j) = p then vN (rN k) + 1 else vN (if j = n then p else rN j))
    by_cases q : j = n
    · rw [q, rn, vp]
      by_cases q2 : i = n
      · rw [q2, rn, vp]
        exact Nat.le_refl _
      · have hi2 : i < n := by omega
        rw [ro hi2, vo (h3 i hi2).2]
        exact h6 hk i hi2
    · have hj2 : j < n := by omega
      have hi2 : i < n := by omega
      rw [ro hi2, ro hj2, vo (h3 i hi2).2, vo (h3 j hj2).2]
      exact h5 i j hij hj2
  · intro _ j hj
    show (if (if j = n then p else rN j) = p then vN (rN k) + 1 else vN (if j = n then p else rN j)) ≤ (if (if k = n then p else rN k) = p then vN (rN k) + 1 else vN (if k = n then p else rN k)) + 1
    rw [ro hk, vo hdr]
    by_cases q : j = n
    · rw [q, rn, vp]
      exact Nat.le_refl _
    · have hj2 : j < n := by omega
      rw [ro hj2, vo (h3 j hj2).2]
      exact h6 hk j hj2
  · exact ⟨up h7.1, up h7.2⟩
  · intro i hi hl2 e2 he2 ok2
    have hi2 : i < n := by omega
    show (if eTo L (if i = n then p else rN i) e2 = p then true else ds (eTo L (if i = n then p else rN i) e2)) = true
    have hl3 : lt ((if i = n then p else rN i) / 2) = false := hl2
    have ok3 : eOk L (if i = n then p else rN i) e2 = true := ok2
    rw [ro hi2] at hl3 ok3
    rw [ro hi2]
    exact up (h8 i hi hl3 e2 he2 ok3)
theorem bI_next (h : bI L lt go ds vN rN k n) (hk : k < n) (hx : lt (rN k / 2) = false → ∀ e, e < 4 → eOk L (rN k) e = true → ds (eTo L (rN k) e) = true) : bI L lt go ds vN rN (k + 1) n := by
  obtain ⟨h1, h2, h3, h4, h5, h6, h7, h8⟩ := h
  refine ⟨by omega, h2, h3, h4, h5, fun hk1 j hj => ?_, h7, fun i hi => ?_⟩
  · have := h6 hk j hj
    have := h5 k (k + 1) (by omega) hk1
    omega
  · by_cases q : i = k
    · rw [q]; exact hx
    · exact h8 i (by omega)
theorem bI_all (I : InvW L) (h : bI L lt go ds vN rN n n) : ∀ w s, s < 126 → wR L lt go w s = true → ds s = true := by
  obtain ⟨h1, h2, h3, h4, h5, h6, h7, h8⟩ := h
  intro w
  induction w with
  | zero =>
    intro s hs hr
    rcases wR_0 hr with e | e
    · rw [e]; exact h7.1
    · rw [e]; exact h7.2
  | succ w ih =>
    intro s hs hr
    rcases wR_back I hs hr with hr2 | ⟨t, e, ht, he, ok, hl, es, hr2⟩
    · exact ih s hs hr2
    · obtain ⟨⟨i, hi, ei⟩, -⟩ := h4 t ht (ih t ht hr2)
      have := h8 i hi (by rw [ei]; exact hl) e he (by rw [ei]; exact ok)
      rw [ei, es] at this
      exact this
theorem bI_fin (I : InvW L) (h : bI L lt go ds vN rN n n) : FinW L lt go ds vN := by
  intro s hs
  refine ⟨fun hd => ?_, fun hd w => ?_⟩
  · obtain ⟨-, a, b, c⟩ := h.2.2.2.1 s hs hd
    have cl := cnt_le ds 126
    have := h.2.1
    exact ⟨by omega, b, c⟩
  · cases e : wR L lt go w s with
    | false => rfl
    | true =>
      rw [bI_all I h w s hs e] at hd
      cases hd
def ds0 (go : Nat) : Nat → Bool := fun j => if j = 2 * go + 1 then true else if j = 2 * go then true else false
theorem bI_init (hgo : go < 63) : bI L lt go (ds0 go) (fun _ => 0) (fun i => if i = 1 then 2 * go + 1 else 2 * go) 0 2 := by
  have cc : cntG (ds0 go) 126 = 2 := by
    have e1 := cnt_add (p := fun j => if j = 2 * go then true else false) (x := 2 * go + 1) (by simp) 126 (by omega)
    have e2 := cnt_add (p := fun _ => false) (x := 2 * go) rfl 126 (by omega)
    rw [cnt_0] at e2
    rw [e2] at e1
    exact e1
  refine ⟨by omega, cc, fun i hi => ?_, fun s hs hd => ?_, fun _ _ _ _ => Nat.le_refl _, fun _ _ _ => Nat.zero_le _, ?_, fun i hi => by omega⟩
  · show (if i = 1 then 2 * go + 1 else 2 * go) < 126 ∧ ds0 go (if i = 1 then 2 * go + 1 else 2 * go) = true
    unfold ds0
    by_cases q : i = 1
    · rw [if_pos q, if_pos rfl]
      exact ⟨by omega, rfl⟩
    · rw [if_neg q, if_neg (by omega), if_pos rfl]
      exact ⟨by omega, rfl⟩
  · unfold ds0 at hd
    by_cases q : s = 2 * go + 1
    · refine ⟨⟨1, by omega, ?_⟩, Nat.zero_le _, ?_, fun u hu => absurd hu (Nat.not_lt_zero _)⟩
      · show (if 1 = 1 then 2 * go + 1 else 2 * go) = s
        rw [if_pos rfl, q]
      · show wR L lt go 0 s = true
        unfold wR
        rw [if_neg (by omega)]
        show decide (s / 2 = go) = true
        exact decide_eq_true (by omega)
    · rw [if_neg q] at hd
      by_cases q2 : s = 2 * go
      · refine ⟨⟨0, by omega, ?_⟩, Nat.zero_le _, ?_, fun u hu => absurd hu (Nat.not_lt_zero _)⟩
        · show (if 0 = 1 then 2 * go + 1 else 2 * go) = s
          rw [if_neg (by omega), q2]
        · show wR L lt go 0 s = true
          unfold wR
          rw [if_pos (by omega)]
          show decide (s / 2 = go) = true
          exact decide_eq_true (by omega)
      · rw [if_neg q2] at hd
        cases hd
  · unfold ds0
    simp
theorem lit_fin (I : InvW L) (hgo : go < 63) (hl : lt go = true) : FinW L lt go (ds0 go) (fun _ => 0) := by
  have b := bI_init (L := L) (lt := lt) hgo
  have b2 := bI_next b (by omega) (fun z => by
    have z : lt ((if 0 = 1 then 2 * go + 1 else 2 * go) / 2) = false := z
    rw [if_neg (by omega), show 2 * go / 2 = go by omega, hl] at z
    cases z)
  have b3 := bI_next b2 (by omega) (fun z => by
    have z : lt ((if 0 + 1 = 1 then 2 * go + 1 else 2 * go) / 2) = false := z
    rw [if_pos (by omega), show (2 * go + 1) / 2 = go by omega, hl] at z
    cases z)
  exact bI_fin I b3
def stF (ds : Nat → Bool) (vN : Nat → Nat) (s : Nat) : Int32 := if ds s then nI (vN s) else -1
theorem FinW.at (h : FinW L lt go ds vN) {s : Nat} (hs : s < 126) : IsD (fun n => wR L lt go n s) (stF ds vN s) := by
  obtain ⟨h1, h2⟩ := h s hs
  unfold stF
  cases e : ds s with
  | true =>
    obtain ⟨a, b, c⟩ := h1 e
    exact Or.inl ⟨vN s, a, rfl, b, c⟩
  | false => exact Or.inr ⟨rfl, h2 e⟩
theorem FinW.A (h : FinW L lt go ds vN) {c : Nat} (hc : c < 63) : IsD (fun n => wA L lt go n c) (stF ds vN (2 * c)) := by
  have r := h.at (s := 2 * c) (by omega)
  have e : (fun n => wR L lt go n (2 * c)) = fun n => wA L lt go n c := by
    funext n
    unfold wR
    rw [if_pos (by omega), show 2 * c / 2 = c by omega]
  rw [e] at r
  exact r
theorem FinW.B (h : FinW L lt go ds vN) {c : Nat} (hc : c < 63) : IsD (fun n => wB L lt go n c) (stF ds vN (2 * c + 1)) := by
  have r := h.at (s := 2 * c + 1) (by omega)
  have e : (fun n => wR L lt go n (2 * c + 1)) = fun n => wB L lt go n c := by
    funext n
    unfold wR
    rw [if_neg (by omega), show (2 * c + 1) / 2 = c by omega]
  rw [e] at r
  exact r
end BF
