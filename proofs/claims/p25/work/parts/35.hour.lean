/-! the law's own house: what an hour does to its world -/
theorem bdN_at (L : Nat → Int64) (am : Nat → Int32) : ∀ n, n ≤ 63 → (∀ j, j < 63 → lb ((bdN L am n).1 1) j = if j < n then (lb (L 1) j && decide (0 < am j - 1)) else lb (L 1) j) ∧ ∀ j, (bdN L am n).2 j = if j < n ∧ lb (L 1) j = true then am j - 1 else am j
  | 0, _ => ⟨fun j _ => (if_neg (Nat.not_lt_zero j)).symm, fun j => (if_neg (fun z => Nat.not_lt_zero j z.1)).symm⟩
  | n + 1, hn => by
    obtain ⟨h1, h2⟩ := bdN_at L am n (by omega)
    have hb := h1 n (by omega)
    rw [if_neg (Nat.lt_irrefl n)] at hb
    have ha := h2 n
    rw [if_neg (fun z => Nat.lt_irrefl n z.1)] at ha
    rw [bdN_suc]
    unfold bdS
    rw [hb, ha]
    cases eb : lb (L 1) n with
    | false =>
      rw [if_neg (by decide)]
      refine ⟨fun j hj => ?_, fun j => ?_⟩
      · rw [h1 j hj]
        by_cases q : j = n
        · subst q
          rw [if_neg (Nat.lt_irrefl j), if_pos (by omega), eb]
          rfl
        · by_cases q2 : j < n
          · rw [if_pos q2, if_pos (by omega)]
          · rw [if_neg q2, if_neg (by omega)]
      · rw [h2 j]
        by_cases q : j = n
        · subst q
          rw [if_neg (fun z => Nat.lt_irrefl j z.1), if_neg (fun z => by rw [eb] at z; cases z.2)]
        · by_cases q2 : j < n ∧ lb (L 1) j = true
          · rw [if_pos q2, if_pos ⟨by omega, q2.2⟩]
          · rw [if_neg q2, if_neg (fun z => q2 ⟨by omega, z.2⟩)]
    | true =>
      rw [if_pos rfl]
      refine ⟨fun j hj => ?_, fun j => ?_⟩
      · show lb ((if am n - 1 ≤ 0 then vp_updL (bdN L am n).1 1 ((bdN L am n).1 1 &&& (bOnly n ^^^ (-1))) else (bdN L am n).1) 1) j = _
        by_cases le : am n - 1 ≤ 0
        · rw [if_pos le]
          show lb ((bdN L am n).1 1 &&& (bOnly n ^^^ (-1))) j = _
          rw [and_but (by omega) hj, h1 j hj]
          by_cases q : j = n
          · subst q
            have : ¬ 0 < am j - 1 := Int32.not_lt.mpr le
            simp [this]
          · by_cases q2 : j < n
            · rw [if_pos q2, if_pos (by omega)]; simp [q]
            · rw [if_neg q2, if_neg (by omega)]; simp [q]
        · rw [if_neg le, h1 j hj]
          by_cases q : j = n
          · subst q
            have : 0 < am j - 1 := Int32.not_le.mp le
            rw [if_neg (Nat.lt_irrefl j), if_pos (by omega), eb]
            simp [this]
          · by_cases q2 : j < n
            · rw [if_pos q2, if_pos (by omega)]
            · rw [if_neg q2, if_neg (by omega)]
      · show upd (bdN L am n).2 n (am n - 1) j = _
        unfold upd
        by_cases q : j = n
        · subst q
          rw [if_pos rfl, if_pos ⟨by omega, eb⟩]
        · rw [if_neg q, h2 j]
          by_cases q2 : j < n ∧ lb (L 1) j = true
          · rw [if_pos q2, if_pos ⟨by omega, q2.2⟩]
          · rw [if_neg q2, if_neg (fun z => q2 ⟨by omega, z.2⟩)]
def amq (S : CS) (q c : Nat) : Int32 := if q7 c < q ∧ lb (S.1 1) c = true then S.2.1 c - 1 else S.2.1 c
def buq (S : CS) (q c : Nat) : Bool := if q7 c < q then (lb (S.1 1) c && decide (0 < S.2.1 c - 1)) else lb (S.1 1) c
theorem q7_xy {x y : Nat} (hx : x < 9) : q7 (9 * y + x) = 7 * x + y := by
  unfold q7
  rw [show (9 * y + x) % 9 = x by omega, show (9 * y + x) / 9 = y by omega]
theorem q7_ne {x y c : Nat} (hx : x < 9) (hy : y < 7) (hc : c < 63) (h : c ≠ 9 * y + x) : q7 c ≠ 7 * x + y := by
  unfold q7
  omega
theorem wl_of {L L' : Nat → Int64} (h5 : L' 5 = L 5) (h6 : L' 6 = L 6) (c : Nat) {d : Nat} (hd : d < 4) : wl L c d = wl L' c d := by
  unfold wl
  match d, hd with
  | 0, _ => show lb (L 6 <<< _) c = lb (L' 6 <<< _) c; rw [h6]
  | 1, _ => show lb (L 5) c = lb (L' 5) c; rw [h5]
  | 2, _ => show lb (L 6) c = lb (L' 6) c; rw [h6]
  | 3, _ => show lb (L 5 <<< _) c = lb (L' 5 <<< _) c; rw [h5]
theorem SimAt.congL {h : gH} {m : Nat → Nat} {S : CS} (M : SimAt h m S) {L' : Nat → Int64} (h1 : ∀ c, c < 63 → lb (L' 1) c = lb (S.1 1) c) (h0 : ∀ k, k ≠ 1 → k ≠ 7 → L' k = S.1 k) : SimAt h m (L', S.2) := by
  refine ⟨fun i hi => ?_, M.2⟩
  have C := M.1 i hi
  match i, C with
  | 0, C => exact C
  | 1, C => exact W3.cong (F := wl S.1) C (fun c d _ hd => by
      exact wl_of (L := S.1) (L' := L') (h0 5 (by decide) (by decide)) (h0 6 (by decide) (by decide)) c hd)
  | 2, C => exact I2.cong (F := fun c => nI (thg S.1 c)) C (fun c _ => by
      show nI (thg S.1 c) = nI (thg L' c)
      rw [thg_of (L := S.1) (L' := L') (by rw [h0 0 (by decide) (by decide)]) (by rw [h0 2 (by decide) (by decide)]) (by rw [h0 3 (by decide) (by decide)]) (by rw [h0 4 (by decide) (by decide)])])
  | 3, C => exact C
  | 4, C => exact Z2.cong (F := lb (S.1 1)) C (fun c hc => (h1 c hc).symm)
  | 5, C => exact C
  | 6, C => exact C
  | 7, C => exact C
  | i + 8, C => exact C
theorem SimAt.reL {h : gH} {m : Nat → Nat} {S : CS} (M : SimAt h m S) : SimAt h m (reL S.1, S.2) := M.congL (fun c _ => by rw [reL_ne (by decide)]) (fun k h1 h7 => reL_ne h7)
/-- a candle's light in a cell -/
theorem SimAt.burn {h : gH} {m : Nat → Nat} {S : CS} (M : SimAt h m S) {x y : Nat} (hx : x < 9) (hy : y < 7) (b : Bool) {v : Int32} (hv : v = b01 b) {f : Nat → Int32} (e : h (m 4 + 1 + x) = some (.inl (1, 7, .inl f))) {L' : Nat → Int64} (h1 : ∀ c, c < 63 → lb (L' 1) c = if c = 9 * y + x then b else lb (S.1 1) c) (h0 : ∀ k, k ≠ 1 → k ≠ 7 → L' k = S.1 k) : SimAt (gU h (m 4 + 1 + x) (.inl (1, 7, .inl (upd f y (vp_nar .boolean v))))) m (L', S.2) ∧ ∀ p, ¬ inB m 4 p → gU h (m 4 + 1 + x) (.inl (1, 7, .inl (upd f y (vp_nar .boolean v)))) p = h p := by
  have B : inB m 4 (m 4 + 1 + x) := ⟨by omega, by show _ < m 4 + 10; omega⟩
  have F : ∀ p, ¬ inB m 4 p → gU h (m 4 + 1 + x) (.inl (1, 7, .inl (upd f y (vp_nar .boolean v)))) p = h p := fun p hp => ne_blk B hp
  have Z := M.c4.put hx hy b hv e
  refine ⟨M.put (i := 4) rfl (by omega) F (Z.cong (fun c hc => (h1 c hc).symm)) (fun j hj hj2 C => ?_), F⟩
  match j, hj, C with
  | 0, _, C => exact C
  | 1, _, C => exact W3.cong (F := wl S.1) C (fun c d _ hd => by
      exact wl_of (L := S.1) (L' := L') (h0 5 (by decide) (by decide)) (h0 6 (by decide) (by decide)) c hd)
  | 2, _, C => exact I2.cong (F := fun c => nI (thg S.1 c)) C (fun c _ => by
      show nI (thg S.1 c) = nI (thg L' c)
      rw [thg_of (L := S.1) (L' := L') (by rw [h0 0 (by decide) (by decide)]) (by rw [h0 2 (by decide) (by decide)]) (by rw [h0 3 (by decide) (by decide)]) (by rw [h0 4 (by decide) (by decide)])])
  | 3, _, C => exact C
  | 5, _, C => exact C
  | 6, _, C => exact C
  | 7, _, C => exact C
  | j + 8, _, C => exact C
/-- an amount in a cell -/
theorem SimAt.val {h : gH} {m : Nat → Nat} {S : CS} (M : SimAt h m S) {x y : Nat} (hx : x < 9) (hy : y < 7) {v : Int32} {f : Nat → Int32} (e : h (m 3 + 1 + x) = some (.inl (0, 7, .inl f))) : SimAt (gU h (m 3 + 1 + x) (.inl (0, 7, .inl (upd f y v)))) m (S.1, upd S.2.1 (9 * y + x) v, S.2.2) ∧ ∀ p, ¬ inB m 3 p → gU h (m 3 + 1 + x) (.inl (0, 7, .inl (upd f y v))) p = h p := by
  have B : inB m 3 (m 3 + 1 + x) := ⟨by omega, by show _ < m 3 + 10; omega⟩
  have F : ∀ p, ¬ inB m 3 p → gU h (m 3 + 1 + x) (.inl (0, 7, .inl (upd f y v))) p = h p := fun p hp => ne_blk B hp
  refine ⟨M.put (i := 3) rfl (by omega) F (M.c3.put hx hy v e) (fun j hj hj2 C => ?_), F⟩
  match j, hj, C with
  | 0, _, C => exact C
  | 1, _, C => exact C
  | 2, _, C => exact C
  | 4, _, C => exact C
  | 5, _, C => exact C
  | 6, _, C => exact C
  | 7, _, C => exact C
  | j + 8, _, C => exact C
/-- a thing in a cell -/
theorem SimAt.thing {h : gH} {m : Nat → Nat} {S : CS} (M : SimAt h m S) {x y : Nat} (hx : x < 9) (hy : y < 7) {v : Int32} {f : Nat → Int32} (e : h (m 2 + 1 + x) = some (.inl (0, 7, .inl f))) {L' : Nat → Int64} (h1 : ∀ c, c < 63 → nI (thg L' c) = if c = 9 * y + x then v else nI (thg S.1 c)) (h0 : L' 1 = S.1 1 ∧ L' 5 = S.1 5 ∧ L' 6 = S.1 6) : SimAt (gU h (m 2 + 1 + x) (.inl (0, 7, .inl (upd f y v)))) m (L', S.2) ∧ ∀ p, ¬ inB m 2 p → gU h (m 2 + 1 + x) (.inl (0, 7, .inl (upd f y v))) p = h p := by
  have B : inB m 2 (m 2 + 1 + x) := ⟨by omega, by show _ < m 2 + 10; omega⟩
  have F : ∀ p, ¬ inB m 2 p → gU h (m 2 + 1 + x) (.inl (0, 7, .inl (upd f y v))) p = h p := fun p hp => ne_blk B hp
  have Z := M.c2.put hx hy v e
  refine ⟨M.put (i := 2) rfl (by omega) F (Z.cong (fun c hc => (h1 c hc).symm)) (fun j hj hj2 C => ?_), F⟩
  match j, hj, C with
  | 0, _, C => exact C
  | 1, _, C => exact W3.cong (F := wl S.1) C (fun c d _ hd => by
      exact wl_of (L := S.1) (L' := L') h0.2.1 h0.2.2 c hd)
  | 3, _, C => exact C
  | 4, _, C => exact Z2.cong (F := lb (S.1 1)) C (fun c _ => by show lb (S.1 1) c = lb (L' 1) c; rw [h0.1])
  | 5, _, C => exact C
  | 6, _, C => exact C
  | 7, _, C => exact C
  | j + 8, _, C => exact C
theorem gV_set {G : Nat → Nat → Nat} {k j a v : Nat} (h : j ≠ k) : gV (setG G k a v) j = gV G j := by
  unfold gV
  rw [setG_ne _ _ (fun z => h z.1), setG_ne _ _ (fun z => h z.1), setG_ne _ _ (fun z => h z.1), setG_ne _ _ (fun z => h z.1), setG_ne _ _ (fun z => h z.1), setG_ne _ _ (fun z => h z.1)]
/-- a ghost's traits, and the sum of the hauntings -/
theorem SimAt.gho {h : gH} {m : Nat → Nat} {S : CS} (M : SimAt h m S) {k : Nat} (hk : k < S.2.2.2.1) {G' : Nat → Nat → Nat} (hG : ∀ j, j ≠ k → gV G' j = gV S.2.2.1 j) : SimAt (gU (gU h (m (8 + k)) (.inr (5, gV G' k))) (m 0) (.inr (6, smF m (S.1, S.2.1, G', S.2.2.2)))) m (S.1, S.2.1, G', S.2.2.2) := by
  have B0 : inB m 0 (m 0) := ⟨Nat.le_refl _, by show _ < _ + 1; omega⟩
  have Bk : inB m (8 + k) (m (8 + k)) := ⟨Nat.le_refl _, by unfold bk; split <;> omega⟩
  have n0 : m (8 + k) ≠ m 0 := fun z => M.2.out (i := 8 + k) (j := 0) (by omega) (by omega) (by omega) Bk (by rw [z]; exact B0)
  refine ⟨fun i hi => ?_, M.2⟩
  by_cases e0 : i = 0
  · subst e0
    exact gU_eq _ _ _
  · by_cases ek : i = 8 + k
    · subst ek
      rw [Nat.add_comm 8 k]
      show gU _ (m 0) _ (m (k + 8)) = some (.inr (5, gV G' k))
      rw [Nat.add_comm k 8, gU_ne n0, gU_eq]
    · have keep : ∀ p, inB m i p → gU (gU h (m (8 + k)) (.inr (5, gV G' k))) (m 0) (.inr (6, smF m (S.1, S.2.1, G', S.2.2.2))) p = h p := fun p hp => by
        rw [gU_ne (fun z => M.2.out hi (j := 0) (by omega) e0 hp (by rw [z]; exact B0)), gU_ne (fun z => M.2.out hi (j := 8 + k) (by omega) ek hp (by rw [z]; exact Bk))]
      have C := (M.1 i hi).keep keep
      match i, e0, ek, C with
      | 0, e0, _, _ => exact absurd rfl e0
      | 1, _, _, C => exact C
      | 2, _, _, C => exact C
      | 3, _, _, C => exact C
      | 4, _, _, C => exact C
      | 5, _, _, C => exact C
      | 6, _, _, C => exact C
      | 7, _, _, C => exact C
      | i + 8, _, ek, C =>
        show _ = some (Sum.inr (5, gV G' i))
        rw [hG i (by omega)]
        exact C
theorem SimAt.gho1 {h : gH} {m : Nat → Nat} {S : CS} (M : SimAt h m S) {k : Nat} (hk : k < S.2.2.2.1) {G' : Nat → Nat → Nat} (hG : ∀ j, j ≠ k → gV G' j = gV S.2.2.1 j) (hs : sumT G' 6 S.2.2.2.1 = sumT S.2.2.1 6 S.2.2.2.1) : SimAt (gU h (m (8 + k)) (.inr (5, gV G' k))) m (S.1, S.2.1, G', S.2.2.2) := by
  have B0 : inB m 0 (m 0) := ⟨Nat.le_refl _, by show _ < _ + 1; omega⟩
  have Bk : inB m (8 + k) (m (8 + k)) := ⟨Nat.le_refl _, by unfold bk; split <;> omega⟩
  have n0 : m 0 ≠ m (8 + k) := fun z => M.2.out (i := 0) (j := 8 + k) (by omega) (by omega) (by omega) B0 (by rw [z]; exact Bk)
  have M2 := M.gho hk hG
  refine M2.keep (fun p _ => ?_)
  by_cases e : p = m 0
  · subst e
    rw [gU_eq, gU_ne n0, M.c0]
    unfold smF
    rw [hs]
  · rw [gU_ne e]
theorem sFr.U {m : Nat → Nat} {n i : Nat} {h : gH} {o : gO} (hi : i < n) : sFr m n h (gU h (m i) o) := fun p hp _ => gU_ne (fun z => hp (by rw [z]; exact sD_i hi))
theorem oI_neg {o : Option Nat} (ho : ∀ b, o = some b → b < 4) : (0 ≤ oI o) ↔ o ≠ none := by
  cases o with
  | none => exact ⟨fun h => absurd h (by decide), fun h => absurd rfl h⟩
  | some b => exact ⟨fun _ h => (by cases h), fun _ => nI_pos' (by have := ho b rfl; omega)⟩
theorem mk_J : ∀ v : Fin 100, mkNext (nI v.val) = (if (if nI v.val + 1 = 100 then (0 : Int32) else nI v.val + 1) - (if nI v.val + 1 = 100 then (0 : Int32) else nI v.val + 1) / 13 * 13 = 0 then (if nI v.val + 1 = 100 then (0 : Int32) else nI v.val + 1) / 10 + 10 * ((if nI v.val + 1 = 100 then (0 : Int32) else nI v.val + 1) - (if nI v.val + 1 = 100 then (0 : Int32) else nI v.val + 1) / 10 * 10) else (if nI v.val + 1 = 100 then (0 : Int32) else nI v.val + 1)) := by decide +kernel
