/-! the law's own house: its world, over the class's state -/
abbrev oR (t n : Nat) (f : Nat → Nat) : gO := .inl (t, n, .inr (.inr (.inr (.inr (fun j => if j < n then some (f j) else none)))))
def wl (L : Nat → Int64) (c d : Nat) : Bool := lb (wCells L d) c
def I2 (h : gH) (q : Nat) (F : Nat → Int32) : Prop := h q = some (oR 2 9 (fun j => q + 1 + j)) ∧ ∀ x, x < 9 → ∃ f : Nat → Int32, h (q + 1 + x) = some (.inl (0, 7, .inl f)) ∧ ∀ y, y < 7 → f y = F (9 * y + x)
def Z2 (h : gH) (q : Nat) (F : Nat → Bool) : Prop := h q = some (oR 3 9 (fun j => q + 1 + j)) ∧ ∀ x, x < 9 → ∃ f : Nat → Int32, h (q + 1 + x) = some (.inl (1, 7, .inl f)) ∧ ∀ y, y < 7 → f y = b01 (F (9 * y + x))
def W3 (h : gH) (q : Nat) (F : Nat → Nat → Bool) : Prop := h q = some (oR 4 9 (fun j => q + 1 + j * 8)) ∧ ∀ x, x < 9 → h (q + 1 + x * 8) = some (oR 3 7 (fun j => q + 1 + x * 8 + 1 + j)) ∧ ∀ y, y < 7 → ∃ f : Nat → Int32, h (q + 1 + x * 8 + 1 + y) = some (.inl (1, 4, .inl f)) ∧ ∀ d, d < 4 → f d = b01 (F (9 * y + x) d)
def bk (i : Nat) : Nat := match i with
  | 1 => 73
  | 2 => 10
  | 3 => 10
  | 4 => 10
  | _ => 1
def inB (m : Nat → Nat) (i p : Nat) : Prop := m i ≤ p ∧ p < m i + bk i
def sep (m : Nat → Nat) (n : Nat) : Prop := ∀ i j, i < n → j < n → i ≠ j → m i + bk i ≤ m j ∨ m j + bk j ≤ m i
def gV (G : Nat → Nat → Nat) (k : Nat) : List Value := [.int (nI (G k 0 % 9)), .int (nI (G k 0 / 9)), .int (nI (G k 1)), .int (nI (G k 2 % 9)), .int (nI (G k 2 / 9)), .int (nI (G k 3)), .int (nI (G k 4)), .int (nI (G k 5))]
def smF (m : Nat → Nat) (S : CS) : List Value := [.ref (m 1), .ref (m 2), .ref (m 3), .ref (m 4), .ref (m 5), .int (nI S.2.2.2.2), .int (nI (sumT S.2.2.1 6 S.2.2.2.1)), .ref (m 6), .ref (m 7)]
def Cmp (h : gH) (m : Nat → Nat) (S : CS) (i : Nat) : Prop := match i with
  | 0 => h (m 0) = some (.inr (6, smF m S))
  | 1 => W3 h (m 1) (wl S.1)
  | 2 => I2 h (m 2) (fun c => nI (thg S.1 c))
  | 3 => I2 h (m 3) S.2.1
  | 4 => Z2 h (m 4) (lb (S.1 1))
  | 5 => ∃ f : Nat → Option Nat, h (m 5) = some (.inl (5, S.2.2.2.1, .inr (.inr (.inr (.inr f))))) ∧ ∀ k, k < S.2.2.2.1 → f k = some (m (8 + k))
  | 6 => ∃ f : Nat → Int32, h (m 6) = some (.inl (0, 126, .inl f))
  | 7 => ∃ f : Nat → Int32, h (m 7) = some (.inl (0, 126, .inl f))
  | k + 8 => h (m (k + 8)) = some (.inr (5, gV S.2.2.1 k))
def SimAt (h : gH) (m : Nat → Nat) (S : CS) : Prop := (∀ i, i < 8 + S.2.2.2.1 → Cmp h m S i) ∧ sep m (8 + S.2.2.2.1)
/-- the addresses of it -/
def sD (m : Nat → Nat) (n p : Nat) : Prop := ∃ i, i < n ∧ inB m i p
/-- what was there before and is no part of it stays -/
def sFr (m : Nat → Nat) (n : Nat) (h h' : gH) : Prop := ∀ p, ¬ sD m n p → h p ≠ none → h' p = h p
theorem sFr.rf (m : Nat → Nat) (n : Nat) (h : gH) : sFr m n h h := fun _ _ _ => rfl
theorem sFr.tr {m : Nat → Nat} {n : Nat} {h h1 h2 : gH} (a : sFr m n h h1) (b : sFr m n h1 h2) : sFr m n h h2 := fun p hp hn => (b p hp (by rw [a p hp hn]; exact hn)).trans (a p hp hn)
theorem sFr.nw {m : Nat → Nat} {n : Nat} {h h1 : gH} (a : gNw [] h h1) : sFr m n h h1 := fun p _ hn => a p (fun z => nomatch z) hn
theorem I2.keep {h h' : gH} {q : Nat} {F : Nat → Int32} (I : I2 h q F) (k : ∀ p, q ≤ p → p < q + 10 → h' p = h p) : I2 h' q F := by
  refine ⟨(k q (Nat.le_refl _) (by omega)).trans I.1, fun x hx => ?_⟩
  obtain ⟨f, e1, e2⟩ := I.2 x hx
  exact ⟨f, (k _ (by omega) (by omega)).trans e1, e2⟩
theorem I2.cong {h : gH} {q : Nat} {F F' : Nat → Int32} (I : I2 h q F) (e : ∀ c, c < 63 → F c = F' c) : I2 h q F' := ⟨I.1, fun x hx => by
  obtain ⟨f, e1, e2⟩ := I.2 x hx
  exact ⟨f, e1, fun y hy => (e2 y hy).trans (e _ (by omega))⟩⟩
theorem Z2.keep {h h' : gH} {q : Nat} {F : Nat → Bool} (I : Z2 h q F) (k : ∀ p, q ≤ p → p < q + 10 → h' p = h p) : Z2 h' q F := by
  refine ⟨(k q (Nat.le_refl _) (by omega)).trans I.1, fun x hx => ?_⟩
  obtain ⟨f, e1, e2⟩ := I.2 x hx
  exact ⟨f, (k _ (by omega) (by omega)).trans e1, e2⟩
theorem Z2.cong {h : gH} {q : Nat} {F F' : Nat → Bool} (I : Z2 h q F) (e : ∀ c, c < 63 → F c = F' c) : Z2 h q F' := ⟨I.1, fun x hx => by
  obtain ⟨f, e1, e2⟩ := I.2 x hx
  exact ⟨f, e1, fun y hy => (e2 y hy).trans (by rw [e _ (by omega)])⟩⟩
theorem W3.keep {h h' : gH} {q : Nat} {F : Nat → Nat → Bool} (I : W3 h q F) (k : ∀ p, q ≤ p → p < q + 73 → h' p = h p) : W3 h' q F := by
  refine ⟨(k q (Nat.le_refl _) (by omega)).trans I.1, fun x hx => ⟨(k _ (by omega) (by omega)).trans (I.2 x hx).1, fun y hy => ?_⟩⟩
  obtain ⟨f, e1, e2⟩ := (I.2 x hx).2 y hy
  exact ⟨f, (k _ (by omega) (by omega)).trans e1, e2⟩
theorem W3.cong {h : gH} {q : Nat} {F F' : Nat → Nat → Bool} (I : W3 h q F) (e : ∀ c d, c < 63 → d < 4 → F c d = F' c d) : W3 h q F' := ⟨I.1, fun x hx => ⟨(I.2 x hx).1, fun y hy => by
  obtain ⟨f, e1, e2⟩ := (I.2 x hx).2 y hy
  exact ⟨f, e1, fun d hd => (e2 d hd).trans (by rw [e _ d (by omega) hd])⟩⟩⟩
theorem I2.put {h : gH} {q x y : Nat} {F : Nat → Int32} (I : I2 h q F) (hx : x < 9) (hy : y < 7) (v : Int32) {f : Nat → Int32} (e : h (q + 1 + x) = some (.inl (0, 7, .inl f))) : I2 (gU h (q + 1 + x) (.inl (0, 7, .inl (upd f y v)))) q (fun c => if c = 9 * y + x then v else F c) := by
  refine ⟨(gU_ne (by omega)).trans I.1, fun x' hx' => ?_⟩
  obtain ⟨f', e1, e2⟩ := I.2 x' hx'
  by_cases ex : x' = x
  · subst ex
    rw [e] at e1
    cases e1
    refine ⟨_, gU_eq _ _ _, fun y' hy' => ?_⟩
    by_cases ey : y' = y
    · subst ey
      simp [upd]
    · simp only [upd, if_neg ey]
      rw [if_neg (by omega), e2 y' hy']
  · refine ⟨f', (gU_ne (by omega)).trans e1, fun y' hy' => ?_⟩
    simp only []
    rw [if_neg (by omega), e2 y' hy']
theorem nar_b01 (b : Bool) : vp_nar .boolean (b01 b) = b01 b := by cases b <;> rfl
theorem Z2.put {h : gH} {q x y : Nat} {F : Nat → Bool} (I : Z2 h q F) (hx : x < 9) (hy : y < 7) (b : Bool) {v : Int32} (hv : v = b01 b) {f : Nat → Int32} (e : h (q + 1 + x) = some (.inl (1, 7, .inl f))) : Z2 (gU h (q + 1 + x) (.inl (1, 7, .inl (upd f y (vp_nar .boolean v))))) q (fun c => if c = 9 * y + x then b else F c) := by
  subst hv
  rw [nar_b01]
  refine ⟨(gU_ne (by omega)).trans I.1, fun x' hx' => ?_⟩
  obtain ⟨f', e1, e2⟩ := I.2 x' hx'
  by_cases ex : x' = x
  · subst ex
    rw [e] at e1
    cases e1
    refine ⟨_, gU_eq _ _ _, fun y' hy' => ?_⟩
    by_cases ey : y' = y
    · subst ey
      simp [upd]
    · simp only [upd, if_neg ey]
      rw [if_neg (by omega), e2 y' hy']
  · refine ⟨f', (gU_ne (by omega)).trans e1, fun y' hy' => ?_⟩
    simp only []
    rw [if_neg (by omega), e2 y' hy']
theorem W3.put {h : gH} {q x y d : Nat} {F : Nat → Nat → Bool} (I : W3 h q F) (hx : x < 9) (hy : y < 7) (b : Bool) {v : Int32} (hv : v = b01 b) {f : Nat → Int32} (e : h (q + 1 + x * 8 + 1 + y) = some (.inl (1, 4, .inl f))) : W3 (gU h (q + 1 + x * 8 + 1 + y) (.inl (1, 4, .inl (upd f d (vp_nar .boolean v))))) q (fun c d' => if c = 9 * y + x ∧ d' = d then b else F c d') := by
  subst hv
  rw [nar_b01]
  refine ⟨(gU_ne (by omega)).trans I.1, fun x' hx' => ⟨(gU_ne (by omega)).trans (I.2 x' hx').1, fun y' hy' => ?_⟩⟩
  obtain ⟨f', e1, e2⟩ := (I.2 x' hx').2 y' hy'
  by_cases ex : x' = x ∧ y' = y
  · obtain ⟨rfl, rfl⟩ := ex
    rw [e] at e1
    cases e1
    refine ⟨_, gU_eq _ _ _, fun d' hd' => ?_⟩
    by_cases ed : d' = d
    · subst ed
      simp [upd]
    · simp only [upd, if_neg ed]
      rw [if_neg (fun z => ed z.2), e2 d' hd']
  · refine ⟨f', (gU_ne (by omega)).trans e1, fun d' hd' => ?_⟩
    simp only []
    rw [if_neg (by omega), e2 d' hd']
theorem Cmp.keep {h h' : gH} {m : Nat → Nat} {S : CS} {i : Nat} (M : Cmp h m S i) (k : ∀ p, inB m i p → h' p = h p) : Cmp h' m S i := by
  have k0 : h' (m i) = h (m i) := k _ ⟨Nat.le_refl _, by
    unfold bk
    split <;> omega⟩
  match i, M, k, k0 with
  | 0, M, _, k0 => exact k0.trans M
  | 1, M, k, _ => exact W3.keep M (fun p h1 h2 => k p ⟨h1, h2⟩)
  | 2, M, k, _ => exact I2.keep (F := fun c => nI (thg S.1 c)) M (fun p h1 h2 => k p ⟨h1, h2⟩)
  | 3, M, k, _ => exact I2.keep M (fun p h1 h2 => k p ⟨h1, h2⟩)
  | 4, M, k, _ => exact Z2.keep M (fun p h1 h2 => k p ⟨h1, h2⟩)
  | 5, ⟨f, e1, e2⟩, _, k0 => exact ⟨f, k0.trans e1, e2⟩
  | 6, ⟨f, e1⟩, _, k0 => exact ⟨f, k0.trans e1⟩
  | 7, ⟨f, e1⟩, _, k0 => exact ⟨f, k0.trans e1⟩
  | i + 8, M, _, k0 => exact k0.trans M
theorem sep.out {m : Nat → Nat} {n i j p : Nat} (s : sep m n) (hi : i < n) (hj : j < n) (hne : i ≠ j) (h : inB m i p) : ¬ inB m j p := by
  intro z
  obtain ⟨a1, a2⟩ := h
  obtain ⟨b1, b2⟩ := z
  rcases s i j hi hj hne with q | q <;> omega
theorem SimAt.put {h h' : gH} {m : Nat → Nat} {S S' : CS} (M : SimAt h m S) {i : Nat} (hg : S'.2.2.2.1 = S.2.2.2.1) (hi : i < 8 + S.2.2.2.1) (hF : ∀ p, ¬ inB m i p → h' p = h p) (h1 : Cmp h' m S' i) (hc : ∀ j, j ≠ i → j < 8 + S.2.2.2.1 → Cmp h m S j → Cmp h m S' j) : SimAt h' m S' := by
  refine ⟨fun j hj => ?_, by rw [hg]; exact M.2⟩
  rw [hg] at hj
  by_cases e : j = i
  · subst e
    exact h1
  · exact Cmp.keep (hc j e hj (M.1 j hj)) (fun p hp => hF p (fun z => M.2.out hi hj (Ne.symm e) z hp))
theorem SimAt.keep {h h' : gH} {m : Nat → Nat} {S : CS} (M : SimAt h m S) (k : ∀ p, sD m (8 + S.2.2.2.1) p → h' p = h p) : SimAt h' m S := ⟨fun i hi => (M.1 i hi).keep (fun p hp => k p ⟨i, hi, hp⟩), M.2⟩
/-- every address of it is known -/
theorem SimAt.there {h : gH} {m : Nat → Nat} {S : CS} (M : SimAt h m S) {p : Nat} (hp : sD m (8 + S.2.2.2.1) p) : h p ≠ none := by
  obtain ⟨i, hi, h1, h2⟩ := hp
  have C := M.1 i hi
  have one : (bk i = 1 → ∃ o, h (m i) = some o) → bk i = 1 → h p ≠ none := fun k e => by
    obtain ⟨o, ho⟩ := k e
    have : p = m i := by omega
    rw [this, ho]
    exact fun z => nomatch z
  have i2 : ∀ F, I2 h (m i) F → p < m i + 10 → h p ≠ none := fun F C2 h2 => by
    by_cases e : p = m i
    · rw [e, C2.1]; exact fun z => nomatch z
    · obtain ⟨f, e1, -⟩ := C2.2 (p - m i - 1) (by omega)
      rw [show m i + 1 + (p - m i - 1) = p by omega] at e1
      rw [e1]; exact fun z => nomatch z
  have z2 : ∀ F, Z2 h (m i) F → p < m i + 10 → h p ≠ none := fun F C2 h2 => by
    by_cases e : p = m i
    · rw [e, C2.1]; exact fun z => nomatch z
    · obtain ⟨f, e1, -⟩ := C2.2 (p - m i - 1) (by omega)
      rw [show m i + 1 + (p - m i - 1) = p by omega] at e1
      rw [e1]; exact fun z => nomatch z
  match i, C, h1, h2, one, i2, z2 with
  | 0, C, h1, h2, one, _, _ => exact one (fun _ => ⟨_, C⟩) rfl
  | 1, C, h1, h2, _, _, _ =>
    have C : W3 h (m 1) (wl S.1) := C
    have h2 : p < m 1 + 73 := h2
    by_cases e : p = m 1
    · rw [e, C.1]; exact fun z => nomatch z
    · obtain ⟨e1, e2⟩ := C.2 ((p - m 1 - 1) / 8) (by omega)
      by_cases e9 : (p - m 1 - 1) % 8 = 0
      · rw [show m 1 + 1 + (p - m 1 - 1) / 8 * 8 = p by omega] at e1
        rw [e1]; exact fun z => nomatch z
      · obtain ⟨f, e3, -⟩ := e2 ((p - m 1 - 1) % 8 - 1) (by omega)
        rw [show m 1 + 1 + (p - m 1 - 1) / 8 * 8 + 1 + ((p - m 1 - 1) % 8 - 1) = p by omega] at e3
        rw [e3]; exact fun z => nomatch z
  | 2, C, h1, h2, _, i2, _ => exact i2 (fun c => nI (thg S.1 c)) C h2
  | 3, C, h1, h2, _, i2, _ => exact i2 _ C h2
  | 4, C, h1, h2, _, _, z2 => exact z2 _ C h2
  | 5, C, h1, h2, one, _, _ => exact one (fun _ => by obtain ⟨f, e, -⟩ := C; exact ⟨_, e⟩) rfl
  | 6, C, h1, h2, one, _, _ => exact one (fun _ => by obtain ⟨f, e⟩ := C; exact ⟨_, e⟩) rfl
  | 7, C, h1, h2, one, _, _ => exact one (fun _ => by obtain ⟨f, e⟩ := C; exact ⟨_, e⟩) rfl
  | i + 8, C, h1, h2, one, _, _ => exact one (fun _ => ⟨_, C⟩) rfl
theorem SimAt.nw {h h' : gH} {m : Nat → Nat} {S : CS} (M : SimAt h m S) (F : gNw [] h h') : SimAt h' m S := M.keep (fun p hp => F p (fun z => nomatch z) (M.there hp))
theorem SimAt.c0 {h : gH} {m : Nat → Nat} {S : CS} (M : SimAt h m S) : h (m 0) = some (.inr (6, smF m S)) := M.1 0 (by omega)
theorem SimAt.c1 {h : gH} {m : Nat → Nat} {S : CS} (M : SimAt h m S) : W3 h (m 1) (wl S.1) := M.1 1 (by omega)
theorem SimAt.c2 {h : gH} {m : Nat → Nat} {S : CS} (M : SimAt h m S) : I2 h (m 2) (fun c => nI (thg S.1 c)) := M.1 2 (by omega)
theorem SimAt.c3 {h : gH} {m : Nat → Nat} {S : CS} (M : SimAt h m S) : I2 h (m 3) S.2.1 := M.1 3 (by omega)
theorem SimAt.c4 {h : gH} {m : Nat → Nat} {S : CS} (M : SimAt h m S) : Z2 h (m 4) (lb (S.1 1)) := M.1 4 (by omega)
theorem SimAt.c5 {h : gH} {m : Nat → Nat} {S : CS} (M : SimAt h m S) : ∃ f : Nat → Option Nat, h (m 5) = some (.inl (5, S.2.2.2.1, .inr (.inr (.inr (.inr f))))) ∧ ∀ k, k < S.2.2.2.1 → f k = some (m (8 + k)) := M.1 5 (by omega)
theorem SimAt.c6 {h : gH} {m : Nat → Nat} {S : CS} (M : SimAt h m S) : ∃ f : Nat → Int32, h (m 6) = some (.inl (0, 126, .inl f)) := M.1 6 (by omega)
theorem SimAt.c7 {h : gH} {m : Nat → Nat} {S : CS} (M : SimAt h m S) : ∃ f : Nat → Int32, h (m 7) = some (.inl (0, 126, .inl f)) := M.1 7 (by omega)
theorem SimAt.c8 {h : gH} {m : Nat → Nat} {S : CS} (M : SimAt h m S) {k : Nat} (hk : k < S.2.2.2.1) : h (m (8 + k)) = some (.inr (5, gV S.2.2.1 k)) := by
  have := M.1 (8 + k) (by omega)
  rw [Nat.add_comm 8 k] at this ⊢
  exact this
theorem sFr.blk {m : Nat → Nat} {n i : Nat} {h h' : gH} (hi : i < n) (k : ∀ p, ¬ inB m i p → h' p = h p) : sFr m n h h' := fun p hp _ => k p (fun z => hp ⟨i, hi, z⟩)
theorem ne_blk {m : Nat → Nat} {i q p : Nat} {o : gO} {h : gH} (hq : inB m i q) (hp : ¬ inB m i p) : gU h q o p = h p := gU_ne (fun e => hp (by rw [e]; exact hq))
/-! cells in the law's order: x first -/
def cl7 (q : Nat) : Nat := 9 * (q % 7) + q / 7
theorem cl7_xy {x y : Nat} (hy : y < 7) : cl7 (7 * x + y) = 9 * y + x := by
  unfold cl7
  rw [show (7 * x + y) % 7 = y by omega, show (7 * x + y) / 7 = x by omega]
set_option maxRecDepth 10000 in
theorem sm_perm (d : Nat → Nat) : sm 63 (fun q => d (cl7 q)) = sm 63 d := by
  simp only [sm, cl7]
  simp only [Nat.reduceMod, Nat.reduceDiv, Nat.reduceMul, Nat.reduceAdd]
  omega
theorem cnt_perm (p : Nat → Bool) : cntG (fun q => p (cl7 q)) 63 = cntG p 63 := by
  rw [← sm_cnt, ← sm_cnt]
  exact sm_perm (fun c => (p c).toNat)
theorem cnt_xy {p : Nat → Bool} {x y : Nat} (hy : y < 7) : cntG (fun q => p (cl7 q)) (7 * x + y + 1) = if p (9 * y + x) then cntG (fun q => p (cl7 q)) (7 * x + y) + 1 else cntG (fun q => p (cl7 q)) (7 * x + y) := by
  rw [cntG_succ, cl7_xy hy]
