/-! numbers chosen, and what both do with them -/
theorem nI_div {a b : Nat} (ha : a < 2 ^ 31) (hb : b < 2 ^ 31) : nI a / nI b = nI (a / b) := by
  have hq : a / b ≤ a := Nat.div_le_self a b
  apply Int32.toInt_inj.mp
  rw [Int32.toInt_div, nI_toInt ha, nI_toInt hb, nI_toInt (by omega), ← Int.ofNat_tdiv]
  generalize a / b = q at hq ⊢
  rw [Int.bmod_eq_of_le] <;> omega
theorem nI_mul (a b : Nat) : nI a * nI b = nI (a * b) := (Int32.ofNat_mul a b).symm
theorem nI_sub {a b : Nat} (h : b ≤ a) : nI a - nI b = nI (a - b) := by
  have e : nI a = nI (a - b) + nI b := by
    rw [nI_add, Nat.sub_add_cancel h]
  rw [e, Int32.add_sub_cancel]
def uN (v : Int32) : Nat := (v &&& 2147483647).toBitVec.toNat
theorem uN_lt (v : Int32) : uN v < 2 ^ 31 := by
  unfold uN
  rw [Int32.toBitVec_and, BitVec.toNat_and]
  have : (2147483647 : Int32).toBitVec.toNat = 2147483647 := by decide +kernel
  rw [this]
  have := @Nat.and_le_right v.toBitVec.toNat 2147483647
  omega
theorem uN_e (v : Int32) : v &&& 2147483647 = nI (uN v) := by
  apply Int32.toBitVec_inj.mp
  show _ = BitVec.ofNat 32 _
  unfold uN
  rw [BitVec.ofNat_toNat, BitVec.setWidth_eq]
def belN (v : Int32) (n : Nat) : Nat := uN v % n
theorem belN_lt (v : Int32) {n : Nat} (h : 0 < n) : belN v n < n := Nat.mod_lt _ h
theorem bel_eq (v : Int32) {n : Nat} (hn : n < 2 ^ 31) : (v &&& 2147483647) - (v &&& 2147483647) / nI n * nI n = nI (belN v n) := by
  have h := uN_lt v
  rw [uN_e, nI_div h hn, nI_mul, nI_sub (Nat.div_mul_le_self _ _)]
  congr 1
  have := Nat.div_add_mod (uN v) n
  unfold belN
  rw [Nat.mul_comm] at this
  omega
theorem c_belN (d : Nat) {v : Int32} {n : Nat} (h0 : 0 < n) (hn : n < 1000) {h : gH} {mc ms : Nat} {Post : Option Value → gH → Prop} {X : String → gH → Prop} (hp : Post (some (.int (nI (belN v n)))) h) : gSafe (d + 1) mL_below [.int v, .int (nI n)] h mc ms Post X := by
  refine c_below _ (nI_ne0 h0 (by omega)) ?_
  rw [bel_eq v (by omega)]
  exact hp
theorem inT_1 (L : Nat → Int64) (t : Nat) : cntG (inT L t t) 63 = cntG (fun c => decide (thg L c = t)) 63 := cntG_cong (fun c _ => by
  unfold inT
  by_cases e : thg L c = t
  · simp [e]
  · rw [decide_eq_false e]
    by_cases e1 : t ≤ thg L c
    · have : ¬ thg L c ≤ t := by omega
      simp [this]
    · simp [e1])
theorem inT_23 (L : Nat → Int64) : cntG (inT L 2 3) 63 = cntG (fun c => decide (thg L c = 2)) 63 + cntG (fun c => decide (thg L c = 3)) 63 := by
  rw [← cntG_or (fun i h => by
    have h := of_decide_eq_true h
    exact decide_eq_false (by omega)) 63]
  refine cntG_cong (fun c _ => ?_)
  unfold inT
  have h5 := thg_lt L c
  generalize thg L c = t at h5
  match t, h5 with
  | 0, _ => rfl
  | 1, _ => rfl
  | 2, _ => rfl
  | 3, _ => rfl
  | 4, _ => rfl
theorem okC_c {c : Nat} (hc : c < 63) : okC (nI (c % 9)) (nI (c / 9)) = true ∧ cellI (nI (c % 9)) (nI (c / 9)) = c := by
  obtain ⟨h1, h2⟩ := okC_n (x := c % 9) (y := c / 9) (Nat.mod_lt _ (by omega)) (by omega)
  exact ⟨h1, by rw [h2]; omega⟩
theorem fWall_n {S : CS} {c : Nat} (hc : c < 63) {dd : Nat} (hd : dd < 4) (ho : nbOk c dd = true) : fWall S (nI (c % 9)) (nI (c / 9)) (nI dd) = (vI (b01 (wl (reL (oWall S.1 c dd)) c dd)), (reL (oWall S.1 c dd), S.2)) := by
  obtain ⟨h1, h2⟩ := okC_c hc
  unfold fWall
  rw [if_pos h1, if_pos (okR_n hd (by decide)), h2, nI_clamp (by omega), if_pos ho]
  rfl
theorem fCandle_n {S : CS} {c : Nat} (hc : c < 63) {v : Nat} (hv1 : 1 ≤ v) (hv : v ≤ 60) (h0 : thg S.1 c = 0) (hl : iPop (S.1 0) < nI 10) : fCandle S (nI (c % 9)) (nI (c / 9)) (nI v) = (vI (iPop (reL (oCandle S.1 c) 0)), (reL (oCandle S.1 c), upd S.2.1 c (nI v), S.2.2)) := by
  obtain ⟨h1, h2⟩ := okC_c hc
  unfold fCandle
  rw [if_pos h1, if_pos (okH_n hv1 hv (by decide)), h2, if_pos ⟨hl, h0⟩]
theorem fMirror_n {S : CS} {c : Nat} (hc : c < 63) (b : Bool) (h0 : thg S.1 c = 0) (hl : iPop (S.1 2 ||| S.1 3) < nI 10) : fMirror S (nI (c % 9)) (nI (c / 9)) b = (vI (iPop (reL (oMirror S.1 c b) 2 ||| reL (oMirror S.1 c b) 3)), (reL (oMirror S.1 c b), S.2)) := by
  obtain ⟨h1, h2⟩ := okC_c hc
  unfold fMirror
  rw [if_pos h1, h2, if_pos ⟨hl, h0⟩]
theorem fTally_n {S : CS} {c : Nat} (hc : c < 63) (h0 : thg S.1 c = 0) (hl : iPop (S.1 4) < nI 6) : fTally S (nI (c % 9)) (nI (c / 9)) = (vI (iPop (oTally S.1 c 4)), (oTally S.1 c, S.2)) := by
  obtain ⟨h1, h2⟩ := okC_c hc
  unfold fTally
  rw [if_pos h1, h2, if_pos ⟨hl, h0⟩]
theorem fRemove_n {S : CS} {c : Nat} (hc : c < 63) (h0 : ¬ thg S.1 c = 0) : fRemove S (nI (c % 9)) (nI (c / 9)) = (vI (nI (thg S.1 c)), (reL (oClear S.1 c), upd S.2.1 c 0, S.2.2)) := by
  obtain ⟨h1, h2⟩ := okC_c hc
  unfold fRemove
  rw [if_pos h1, h2, if_neg h0]
theorem fLight_n {S : CS} {c : Nat} (hc : c < 63) (h0 : cwax S.1 S.2.1 c = true) : fLight S (nI (c % 9)) (nI (c / 9)) = (vI (b01 (lb (reL (oSwitch S.1 c) 1) c)), (reL (oSwitch S.1 c), S.2)) := by
  obtain ⟨h1, h2⟩ := okC_c hc
  unfold fLight
  rw [if_pos h1, h2, if_pos h0]
theorem fCome_n {S : CS} {c : Nat} (hc : c < 63) {p : Nat} (hp1 : 1 ≤ p) (hp : p ≤ 3) (hg : S.2.2.2.1 < 6) : fCome S (nI (c % 9)) (nI (c / 9)) (nI p) = (vI (nI S.2.2.2.1), (S.1, S.2.1, addG S.2.2.1 S.2.2.2.1 c p, S.2.2.2.1 + 1, S.2.2.2.2)) := by
  obtain ⟨h1, h2⟩ := okC_c hc
  unfold fCome
  rw [if_pos h1, if_pos (okH_n hp1 hp (by decide)), if_pos hg, h2, nI_clamp (by omega)]
theorem fSend_n {S : CS} {c : Nat} (hc : c < 63) {k : Nat} (hk : k < S.2.2.2.1) (h6 : S.2.2.2.1 ≤ 6) : fSend S (nI k) (nI (c % 9)) (nI (c / 9)) = (vI (stpF S.1 (S.2.2.1 k 0) c (mpG S.2.2.1 k)), (S.1, S.2.1, setG S.2.2.1 k 2 c, S.2.2.2)) := by
  obtain ⟨h1, h2⟩ := okC_c hc
  unfold fSend
  rw [if_pos (okR_n hk (by omega)), if_pos h1, h2, nI_clamp (by omega)]
  rw [setG_ne _ _ (fun z => by cases z.2)]
  unfold mpG
  rw [setG_ne _ _ (fun z => by cases z.2)]
theorem fRite_n {S : CS} {k : Nat} (hk : k < S.2.2.2.1) (h6 : S.2.2.2.1 ≤ 6) (hm : mpG S.2.2.1 k = false) : fRite S (nI k) = (vI (nI (sumT (setG S.2.2.1 k 3 1) 5 S.2.2.2.1)), (S.1, S.2.1, setG S.2.2.1 k 3 1, S.2.2.2)) := by
  unfold fRite
  rw [if_pos (okR_n hk (by omega)), nI_clamp (by omega), if_neg (by rw [hm]; decide)]
/-- what a call of both leaves -/
def ActP (Post : Option Value → gH → Prop) (h : gH) (a : Nat) (n n' m : Nat → Nat) (S : CS) (i : Nat) : Prop := ∀ h' m' S', m' 0 = m 0 → InvC S' (i + 1) → ClsAt h' a n n' S' → SimAt h' m' S' → Dj a n n' m' (8 + S'.2.2.2.1) → (∀ p, h p ≠ none → oC a n n' p → ¬ sD m (8 + S.2.2.2.1) p → h' p = h p ∧ ¬ sD m' (8 + S'.2.2.2.1) p) → Post (some (.int 1)) h'
theorem ActP.fin {Post : Option Value → gH → Prop} {h : gH} {a : Nat} {n n' m : Nat → Nat} {S : CS} {i : Nat} (P : ActP Post h a n n' m S i) (D : Dj a n n' m (8 + S.2.2.2.1)) {h' : gH} {S' : CS} (hg : S'.2.2.2.1 = S.2.2.2.1) (I' : InvC S' (i + 1)) (C' : ClsAt h' a n n' S') (M' : SimAt h' m S') (F : ∀ p, h p ≠ none → oC a n n' p → ¬ sD m (8 + S.2.2.2.1) p → h' p = h p) : Post (some (.int 1)) h' := P h' m S' rfl I' C' M' (by rw [hg]; exact D) (fun p h1 h2 h3 => ⟨F p h1 h2 h3, by rw [hg]; exact h3⟩)
theorem ActP.same {Post : Option Value → gH → Prop} {h : gH} {a : Nat} {n n' m : Nat → Nat} {S : CS} {i : Nat} (P : ActP Post h a n n' m S i) (I : InvC S i) (C : ClsAt h a n n' S) (M : SimAt h m S) (D : Dj a n n' m (8 + S.2.2.2.1)) : Post (some (.int 1)) h := P.fin D rfl I.up C M (fun _ _ _ _ => rfl)
theorem SimAt.congT {h : gH} {m : Nat → Nat} {S : CS} (M : SimAt h m S) {L' : Nat → Int64} (h1 : ∀ c, c < 63 → thg L' c = thg S.1 c) (h0 : L' 1 = S.1 1 ∧ L' 5 = S.1 5 ∧ L' 6 = S.1 6) : SimAt h m (L', S.2) := by
  refine ⟨fun j hj => ?_, M.2⟩
  have C := M.1 j hj
  match j, hj, C with
  | 0, _, C => exact C
  | 1, _, C => exact W3.cong C (fun c d hc hd => wl_of h0.2.1 h0.2.2 c hd)
  | 2, _, C => exact I2.cong (F := fun c => nI (thg S.1 c)) C (fun c hc => by show nI (thg S.1 c) = nI (thg L' c); rw [h1 c hc])
  | 3, _, C => exact C
  | 4, _, C => exact Z2.cong C (fun c _ => by show lb (S.1 1) c = lb (L' 1) c; rw [h0.1])
  | 5, _, C => exact C
  | 6, _, C => exact C
  | 7, _, C => exact C
  | j + 8, _, C => exact C
