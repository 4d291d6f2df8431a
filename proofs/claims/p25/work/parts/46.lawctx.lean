/-! the law: its world, its own rows of numbers -/
def lwPost (v : Option Value) (_ : gH) : Prop := v = some (.int 1)
def lwX (_ : String) (_ : gH) : Prop := False
def Kp (a : Nat) (n n' m : Nat → Nat) (kk : Nat) (h h' : gH) : Prop := ∀ p, h p ≠ none → oC a n n' p → ¬ sD m kk p → h' p = h p
section KP
variable {a kk : Nat} {n n' m : Nat → Nat} {h h' : gH}
theorem Kp.cls (F : gFr (cS n n') h h') : Kp a n n' m kk h h' := fun p _ o _ => F p o.out
theorem Kp.nw (F : gNw [] h h') : Kp a n n' m kk h h' := fun p hn _ _ => F p (fun z => nomatch z) hn
theorem Kp.sim (F : sFr m kk h h') : Kp a n n' m kk h h' := fun p hn _ s => F p s hn
end KP
/-- the class, the law's own house, the script -/
def LW (h : gH) (a b L : Nat) (xs : Nat → Int32) (n n' m : Nat → Nat) (S S2 : CS) : Prop := ClsAt h a n n' S ∧ SimAt h m S2 ∧ Dj a n n' m (8 + S2.2.2.2.1) ∧ h b = some (.inl (7, L, .inl xs)) ∧ oC a n n' b ∧ ¬ sD m (8 + S2.2.2.2.1) b
/-- an address that is the law's own -/
def ow (a b : Nat) (n n' m : Nat → Nat) (kk p : Nat) : Prop := oC a n n' p ∧ ¬ sD m kk p ∧ p ≠ b
section LW
variable {a b L : Nat} {xs : Nat → Int32} {n n' m : Nat → Nat} {S S2 : CS} {h h' : gH}
theorem LW.cls (W : LW h a b L xs n n' m S S2) {S' : CS} (C : ClsAt h' a n n' S') (F : gFr (cS n n') h h') : LW h' a b L xs n n' m S' S2 := by
  obtain ⟨-, M, D, e, o, s⟩ := W
  exact ⟨C, M.cls D F, D, (F b o.out).trans e, o, s⟩
theorem LW.nw (W : LW h a b L xs n n' m S S2) (F : gNw [] h h') : LW h' a b L xs n n' m S S2 := by
  obtain ⟨C, M, D, e, o, s⟩ := W
  exact ⟨C.nw F, M.nw F, D, (F b (fun z => nomatch z) (by rw [e]; exact fun z => nomatch z)).trans e, o, s⟩
theorem LW.own (W : LW h a b L xs n n' m S S2) {p : Nat} (hp : ow a b n n' m (8 + S2.2.2.2.1) p) (o : gO) : LW (gU h p o) a b L xs n n' m S S2 := by
  obtain ⟨C, M, D, e, ob, s⟩ := W
  exact ⟨C.off (fun x hx _ => gU_ne (fun z => hx (by rw [z]; exact hp.1))), M.keep (fun x hx => gU_ne (fun z => hp.2.1 (by rw [← z]; exact hx))), D, (gU_ne (Ne.symm hp.2.2)).trans e, ob, s⟩
theorem LW.fresh (W : LW h a b L xs n n' m S S2) {p : Nat} (hp : h p = none) : ow a b n n' m (8 + S2.2.2.2.1) p := by
  obtain ⟨C, M, D, e, ob, s⟩ := W
  exact ⟨C.th hp, fun z => M.there z hp, fun z => by rw [z, e] at hp; cases hp⟩
end LW
/-- rows of numbers behind their root, filled up to a place -/
def Rw (h : gH) (q N M : Nat) (T : Nat → Nat → Int32) (k w : Nat) : Prop := h q = some (oR 2 N (fun j => q + 1 + j)) ∧ ∀ k', k' < N → ∃ f : Nat → Int32, h (q + 1 + k') = some (.inl (0, M, .inl f)) ∧ ∀ w', w' < M → (k' < k ∨ k' = k ∧ w' < w) → f w' = T k' w'
def Ar (h : gH) (q N : Nat) (T : Nat → Int32) (k : Nat) : Prop := ∃ f : Nat → Int32, h q = some (.inl (0, N, .inl f)) ∧ ∀ j, j < N → j < k → f j = T j
def Hr (h : gH) (q : Nat) (S : CS) (k : Nat) : Prop := ∃ f : Nat → Int32, h q = some (.inl (0, 63, .inl f)) ∧ ∀ c, c < 63 → f c = nI (cntG (fun g => decide (S.2.2.1 g 0 = c) && hx S g) k)
section RW
variable {a b kk : Nat} {n n' m : Nat → Nat} {h h' : gH} {q N M k w : Nat} {T : Nat → Nat → Int32}
theorem Rw.kp (R : Rw h q N M T k w) (B : ∀ p, q ≤ p → p < q + (N + 1) → ow a b n n' m kk p) (F : Kp a n n' m kk h h') : Rw h' q N M T k w := by
  have kp : ∀ p o, h p = some o → q ≤ p → p < q + (N + 1) → h' p = some o := fun p o e p1 p2 => (F p (by rw [e]; exact fun z => nomatch z) (B p p1 p2).1 (B p p1 p2).2.1).trans e
  refine ⟨kp q _ R.1 (Nat.le_refl _) (by omega), fun k' hk' => ?_⟩
  obtain ⟨f, e1, e2⟩ := R.2 k' hk'
  exact ⟨f, kp _ _ e1 (by omega) (by omega), e2⟩
theorem Rw.ne (R : Rw h q N M T k w) {p : Nat} (hp : ¬ (q ≤ p ∧ p < q + (N + 1))) (o : gO) : Rw (gU h p o) q N M T k w := by
  refine ⟨(gU_ne (fun z => hp ⟨by omega, by omega⟩)).trans R.1, fun k' hk' => ?_⟩
  obtain ⟨f, e1, e2⟩ := R.2 k' hk'
  exact ⟨f, (gU_ne (fun z => hp ⟨by omega, by omega⟩)).trans e1, e2⟩
theorem Rw.th (R : Rw h q N M T k w) {p : Nat} (h1 : q ≤ p) (h2 : p < q + (N + 1)) : h p ≠ none := by
  by_cases e : p = q
  · rw [e, R.1]; exact fun z => nomatch z
  · obtain ⟨f, e1, -⟩ := R.2 (p - q - 1) (by omega)
    rw [show q + 1 + (p - q - 1) = p by omega] at e1
    rw [e1]; exact fun z => nomatch z
theorem Rw.out (R : Rw h q N M T k w) {p : Nat} (hp : h p = none) : ¬ (q ≤ p ∧ p < q + (N + 1)) := fun z => R.th z.1 z.2 hp
theorem Rw.put (R : Rw h q N M T k w) (hk : k < N) (hw : w < M) {f : Nat → Int32} (e : h (q + 1 + k) = some (.inl (0, M, .inl f))) : Rw (gU h (q + 1 + k) (.inl (0, M, .inl (upd f w (T k w))))) q N M T k (w + 1) := by
  refine ⟨(gU_ne (by omega)).trans R.1, fun k' hk' => ?_⟩
  obtain ⟨f', e1, e2⟩ := R.2 k' hk'
  by_cases ek : k' = k
  · subst ek
    rw [e] at e1
    cases e1
    refine ⟨_, gU_eq _ _ _, fun w' hw' hc => ?_⟩
    show (if w' = w then _ else f w') = _
    by_cases ew : w' = w
    · rw [if_pos ew, ew]
    · rw [if_neg ew]
      exact e2 w' hw' (by omega)
  · exact ⟨f', (gU_ne (by omega)).trans e1, fun w' hw' hc => e2 w' hw' (by omega)⟩
theorem Rw.row (R : Rw h q N M T k M) : Rw h q N M T (k + 1) 0 := by
  refine ⟨R.1, fun k' hk' => ?_⟩
  obtain ⟨f, e1, e2⟩ := R.2 k' hk'
  exact ⟨f, e1, fun w' hw' hc => e2 w' hw' (by omega)⟩
theorem Rw.row0 (R : Rw h q N M T k w) {k' : Nat} (hk : k' < N) (hkk : k' < k) : ∃ f : Nat → Int32, h (q + 1 + k') = some (.inl (0, M, .inl f)) ∧ ∀ w', w' < M → f w' = T k' w' := by
  obtain ⟨f, e1, e2⟩ := R.2 k' hk
  exact ⟨f, e1, fun w' hw' => e2 w' hw' (Or.inl hkk)⟩
theorem Rw0 (h : gH) (q N M : Nat) (T : Nat → Nat → Int32) : Rw (gG2 h q 2 0 N M) q N M T 0 0 := ⟨G2_q _ _ _ _ _ _, fun k' hk' => ⟨_, G2_r _ _ _ _ _ hk', fun w' _ hc => by omega⟩⟩
theorem Ar.kp {T : Nat → Int32} (A : Ar h q N T k) (o : ow a b n n' m kk q) (F : Kp a n n' m kk h h') : Ar h' q N T k := by
  obtain ⟨f, e1, e2⟩ := A
  exact ⟨f, (F q (by rw [e1]; exact fun z => nomatch z) o.1 o.2.1).trans e1, e2⟩
theorem Ar.ne {T : Nat → Int32} (A : Ar h q N T k) {p : Nat} (hp : p ≠ q) (o : gO) : Ar (gU h p o) q N T k := by
  obtain ⟨f, e1, e2⟩ := A
  exact ⟨f, (gU_ne (Ne.symm hp)).trans e1, e2⟩
theorem Ar.th {T : Nat → Int32} (A : Ar h q N T k) : h q ≠ none := by
  obtain ⟨f, e1, -⟩ := A
  rw [e1]; exact fun z => nomatch z
theorem Ar.put {T : Nat → Int32} (A : Ar h q N T k) : ∃ f : Nat → Int32, h q = some (.inl (0, N, .inl f)) ∧ Ar (gU h q (.inl (0, N, .inl (upd f k (T k))))) q N T (k + 1) := by
  obtain ⟨f, e1, e2⟩ := A
  refine ⟨f, e1, _, gU_eq _ _ _, fun j hj hj2 => ?_⟩
  show (if j = k then _ else f j) = _
  by_cases e : j = k
  · rw [if_pos e, e]
  · rw [if_neg e]
    exact e2 j hj (by omega)
theorem Ar.at_ {T : Nat → Int32} (A : Ar h q N T k) {j : Nat} (hj : j < N) (hk : j < k) : ∃ f : Nat → Int32, h q = some (.inl (0, N, .inl f)) ∧ f j = T j := by
  obtain ⟨f, e1, e2⟩ := A
  exact ⟨f, e1, e2 j hj hk⟩
theorem Hr.kp {S : CS} (A : Hr h q S k) (o : ow a b n n' m kk q) (F : Kp a n n' m kk h h') : Hr h' q S k := by
  obtain ⟨f, e1, e2⟩ := A
  exact ⟨f, (F q (by rw [e1]; exact fun z => nomatch z) o.1 o.2.1).trans e1, e2⟩
theorem Hr.put {S : CS} {f : Nat → Int32} (e1 : h q = some (.inl (0, 63, .inl f))) (e2 : ∀ c, c < 63 → f c = nI (cntG (fun g => decide (S.2.2.1 g 0 = c) && hx S g) k)) {v : Int32} (hv : v = f (S.2.2.1 k 0) + b01 (hx S k)) : Hr (gU h q (.inl (0, 63, .inl (upd f (S.2.2.1 k 0) v)))) q S (k + 1) := by
  refine ⟨_, gU_eq _ _ _, fun c hc => ?_⟩
  show (if c = S.2.2.1 k 0 then v else f c) = _
  rw [cntG_succ]
  by_cases e : c = S.2.2.1 k 0
  · rw [if_pos e, hv, ← e, e2 c hc]
    cases ehx : hx S k with
    | true =>
      rw [if_pos (by simp)]
      exact nI_1 _
    | false =>
      rw [if_neg (by simp)]
      exact Int32.add_zero _
  · rw [if_neg e, e2 c hc, if_neg (by rw [decide_eq_false (fun z => e z.symm)]; simp)]
end RW
/-! what the class answers -/
theorem fCell_c {S : CS} {c w : Nat} (hc : c < 63) (hw : w < 5) : fCell S (nI (c % 9)) (nI (c / 9)) (nI w) = (vI (tCell S.1 S.2.1 S.2.2.1 S.2.2.2.1 c w), S) := by
  have h := fCell_n (S := S) (x := c % 9) (y := c / 9) (w := w) (Nat.mod_lt _ (by omega)) (by omega) hw
  rw [show 9 * (c / 9) + c % 9 = c by omega] at h
  exact h
theorem fWalled_c {S : CS} {c w : Nat} (hc : c < 63) (hw : w < 4) : fWalled S (nI (c % 9)) (nI (c / 9)) (nI w) = (vI (b01 (!nbOk c w || wl S.1 c w)), S) := by
  have h := fWalled_n (S := S) (x := c % 9) (y := c / 9) (w := w) (Nat.mod_lt _ (by omega)) (by omega) hw
  rw [show 9 * (c / 9) + c % 9 = c by omega] at h
  exact h
theorem fWay_n {S : CS} {k c : Nat} (hk : k < S.2.2.2.1) (h6 : S.2.2.2.1 ≤ 6) (hc : c < 63) : fWay S (nI k) (nI (c % 9)) (nI (c / 9)) = (vI (stpF S.1 (S.2.2.1 k 0) c (mpG S.2.2.1 k)), S) := by
  obtain ⟨h1, h2⟩ := okC_c hc
  unfold fWay
  rw [if_pos (okR_n hk (by omega)), if_pos h1, h2, nI_clamp (by omega)]
theorem fNext_n {S : CS} {k : Nat} (hk : k < S.2.2.2.1) (h6 : S.2.2.2.1 ≤ 6) : fNext S (nI k) = (vI (oI (nxtF S.1 (S.2.2.1 k 0) (S.2.2.1 k 2) (mpG S.2.2.1 k))), S) := by
  unfold fNext
  rw [if_pos (okR_n hk (by omega)), nI_clamp (by omega)]
theorem fPass_n (S : CS) : fPass S (nI 1) = (vI (nI (pasH S 1)), hrS S) := by
  unfold fPass
  rw [if_pos (okH_n (by omega) (by omega) (by decide)), nI_clamp (by omega)]
  rfl
theorem fForesee_n (S : CS) {w : Nat} (hw : w < 4) : fForesee S (nI 1) (nI w) = (vI (match w with
        | 0 => nI (pasH S 1)
        | 1 => iPop ((hrS S).1 1)
        | 2 => iPop ((hrS S).1 7)
        | _ => nI (cntG (fun g => decide ((hrS S).2.2.1 g 0 = (hrS S).2.2.1 g 2)) S.2.2.2.1)), S) := by
  unfold fForesee
  rw [if_pos (okH_n (by omega) (by omega) (by decide)), if_pos (okR_n hw (by decide)), nI_clamp (by omega), nI_clamp (by omega)]
  match w, hw with
  | 0, _ => rfl
  | 1, _ => rfl
  | 2, _ => rfl
  | 3, _ => rfl
theorem dm9 {c : Nat} (hc : c < 63) : nI c - nI c / nI 9 * nI 9 = nI (c % 9) ∧ nI c / nI 9 = nI (c / 9) := by
  refine ⟨?_, nI_div (by omega) (by omega)⟩
  rw [nI_div (by omega) (by omega), nI_mul, nI_sub (Nat.div_mul_le_self _ _), show c - c / 9 * 9 = c % 9 by omega]
