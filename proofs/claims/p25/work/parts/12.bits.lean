/-! bits of a long -/
theorem gset_nil : gset ([] : gL) 0 .null = [] := rfl
section GST2
variable {call : gC} {y : gM} {d : Nat} {Post : Option Value → gH → Prop} {X : String → gH → Prop} {ro : Nat → Option (Nat × (Nat → Int32))} {K : gK} {pc : Nat} {lv : gL} {r : List Value} {h : gH} {bc bs : Nat}
theorem s_tswI (hK : gClosed call y d Post X ro K) {len : Nat} {dflt lo hi off : Int} {offs : Array Int} {x : Int32} (dd : decode y.2.1 pc = .ok (.tableswitch dflt lo hi offs, len)) (t : Nat) (h1 : (decide (x.toInt < lo) || decide (hi < x.toInt)) = false) (h2 : offs[(x.toInt - lo).toNat]? = some off) (ht : (pc : Int) + off = (t : Int)) (k : K t lv r h bc bs) : K pc lv (.int x :: r) h bc bs := by
  simp only [Bool.or_eq_false_iff, decide_eq_false_iff_not] at h1
  exact s_tswitch hK dd (fun q => absurd q (fun q => q.elim h1.1 h1.2)) (fun _ _ => ⟨off, t, h2, ht, k⟩)
theorem s_tswO (hK : gClosed call y d Post X ro K) {len : Nat} {dflt lo hi : Int} {offs : Array Int} {x : Int32} (dd : decode y.2.1 pc = .ok (.tableswitch dflt lo hi offs, len)) (t : Nat) (h1 : (decide (x.toInt < lo) || decide (hi < x.toInt)) = true) (ht : (pc : Int) + dflt = (t : Int)) (k : K t lv r h bc bs) : K pc lv (.int x :: r) h bc bs := by
  simp only [Bool.or_eq_true, decide_eq_true_eq] at h1
  exact s_tswitch hK dd (fun _ => ⟨t, ht, k⟩) (fun q1 q2 => absurd h1 (fun q => q.elim q1 q2))
end GST2
def lb (x : Int64) (i : Nat) : Bool := x.toBitVec.getLsbD i
def b01 (b : Bool) : Int32 := if b then 1 else 0
theorem b01_nar (b : Bool) : narrow .boolean (.int (b01 b)) = .int (b01 b) := by cases b <;> rfl
theorem b01_0 (b : Bool) : b01 b = 0 ↔ b = false := by cases b <;> decide
theorem b01_t {b : Bool} (h : b = true) : b01 b = 1 := by rw [h]; rfl
theorem b01_f {b : Bool} (h : b = false) : b01 b = 0 := by rw [h]; rfl
theorem lb_big (x : Int64) {i : Nat} (h : 64 ≤ i) : lb x i = false := BitVec.getLsbD_of_ge _ _ h
theorem lb_ext {x y : Int64} (h : ∀ i, i < 64 → lb x i = lb y i) : x = y := Int64.toBitVec_inj.mp (BitVec.eq_of_getLsbD_eq h)
theorem lb_and (x y : Int64) (i : Nat) : lb (x &&& y) i = (lb x i && lb y i) := by simp [lb]
theorem lb_or (x y : Int64) (i : Nat) : lb (x ||| y) i = (lb x i || lb y i) := by simp [lb]
theorem lb_xor (x y : Int64) (i : Nat) : lb (x ^^^ y) i = (lb x i ^^ lb y i) := by simp [lb]
theorem lb_0 (i : Nat) : lb 0 i = false := by simp [lb]
theorem lb_m1 {i : Nat} (h : i < 64) : lb (-1) i = true := by
  have : ∀ i : Fin 64, lb (-1) i.val = true := by decide +kernel
  exact this ⟨i, h⟩
theorem lb_shl (x y : Int64) (n : Nat) (hy : (y.toBitVec.smod 64).toNat = n) {i : Nat} (hi : i < 64) : lb (x <<< y) i = (decide (n ≤ i) && lb x (i - n)) := by
  unfold lb
  rw [Int64.toBitVec_shiftLeft, BitVec.shiftLeft_eq', hy, BitVec.getLsbD_shiftLeft]
  by_cases h : i < n
  · simp [h, Nat.not_le.mpr h]
  · simp [h, hi, Nat.not_lt.mp h]
theorem lb_shr (x : Int64) (y : UInt64) (n : Nat) (hy : (y % 64).toNat = n) (i : Nat) : lb (x.toUInt64 >>> y).toInt64 i = lb x (n + i) := by
  unfold lb
  have e : (x.toUInt64 >>> y).toInt64.toBitVec = x.toBitVec >>> n := by
    show (x.toUInt64 >>> y).toBitVec = _
    rw [UInt64.toBitVec_shiftRight, BitVec.ushiftRight_eq']
    congr 1
  rw [e, BitVec.getLsbD_ushiftRight]
theorem lb_only_c : ∀ c : Fin 64, (((nI c.val).toInt64 &&& 63).toBitVec.smod 64).toNat = c.val := by decide +kernel
theorem lb_hold_c : ∀ c : Fin 64, (((nI c.val).toInt64.toUInt64 &&& Int64.toUInt64 63) % 64).toNat = c.val := by decide +kernel
def bOnly (c : Nat) : Int64 := (1 : Int64) <<< ((nI c).toInt64 &&& 63)
theorem lb_one (i : Nat) : lb 1 i = decide (i = 0) := by
  by_cases h : i < 64
  · have : ∀ i : Fin 64, lb 1 i.val = decide (i.val = 0) := by decide +kernel
    exact this ⟨i, h⟩
  · rw [lb_big _ (by omega)]
    simp; omega
theorem lb_only {c : Nat} (hc : c < 64) (i : Nat) : lb (bOnly c) i = decide (i = c) := by
  by_cases h : i < 64
  · unfold bOnly
    rw [lb_shl _ _ c (lb_only_c ⟨c, hc⟩) h, lb_one]
    by_cases h1 : c ≤ i
    · simp [h1]; omega
    · simp [h1]; omega
  · rw [lb_big _ (by omega)]
    simp; omega
theorem lb_hold {x : Int64} {c : Nat} (hc : c < 64) : (x.toUInt64 >>> ((nI c).toInt64.toUInt64 &&& Int64.toUInt64 63)).toInt64 &&& 1 = if lb x c then 1 else 0 := by
  apply lb_ext
  intro i hi
  rw [lb_and, lb_shr _ _ c (lb_hold_c ⟨c, hc⟩), lb_one]
  by_cases h : i = 0
  · subst h
    cases hx : lb x c <;> simp [hx, lb_0, lb_one]
  · cases hx : lb x c <;> simp [h, lb_0, lb_one]
theorem lg_cmp_0 {x : Int64} : lg_cmp x 0 = 0 ↔ x = 0 := by
  unfold lg_cmp
  constructor
  · intro h
    split at h
    · cases h
    · split at h
      · assumption
      · cases h
  · intro h
    subst h
    decide
theorem lb_ne0 {x : Int64} : x ≠ 0 ↔ ∃ i, i < 64 ∧ lb x i = true := by
  constructor
  · intro h
    refine Classical.byContradiction fun q => h (lb_ext fun i hi => ?_)
    rw [lb_0]
    cases hx : lb x i with
    | false => rfl
    | true => exact absurd ⟨i, hi, hx⟩ q
  · rintro ⟨i, -, h⟩ rfl
    rw [lb_0] at h
    cases h
/-- the neighbours of the cells in a direction -/
def bMv (x : Int64) (d : Nat) : Int64 := match d with
  | 0 => (x.toUInt64 >>> ((9 : Int32).toInt64.toUInt64 &&& Int64.toUInt64 63)).toInt64
  | 1 => (x &&& (-4620710844295151873)) <<< ((1 : Int32).toInt64 &&& 63)
  | 2 => (x <<< ((9 : Int32).toInt64 &&& 63)) &&& 9223372036854775807
  | _ => ((x &&& (-18049651735527938)).toUInt64 >>> ((1 : Int32).toInt64.toUInt64 &&& Int64.toUInt64 63)).toInt64
/-- is there a neighbour, and which -/
def nbOk (c d : Nat) : Bool := match d with
  | 0 => decide (9 ≤ c)
  | 1 => decide (c % 9 ≠ 8)
  | 2 => decide (c < 54)
  | _ => decide (c % 9 ≠ 0)
def nbOf (c d : Nat) : Nat := match d with
  | 0 => c - 9
  | 1 => c + 1
  | 2 => c + 9
  | _ => c - 1
def opp (d : Nat) : Nat := match d with
  | 0 => 2
  | 1 => 3
  | 2 => 0
  | _ => 1
theorem lb_kR : ∀ i : Fin 64, lb (-4620710844295151873) i.val = decide (i.val % 9 ≠ 8) := by decide +kernel
theorem lb_kL : ∀ i : Fin 64, lb (-18049651735527938) i.val = (decide (i.val % 9 ≠ 0) || decide (i.val = 63)) := by decide +kernel
theorem lb_kA : ∀ i : Fin 64, lb 9223372036854775807 i.val = decide (i.val < 63) := by decide +kernel
theorem lb_c9 : (((9 : Int32).toInt64 &&& 63).toBitVec.smod 64).toNat = 9 := by decide +kernel
theorem lb_c1 : (((1 : Int32).toInt64 &&& 63).toBitVec.smod 64).toNat = 1 := by decide +kernel
theorem lb_u9 : (((9 : Int32).toInt64.toUInt64 &&& Int64.toUInt64 63) % 64).toNat = 9 := by decide +kernel
theorem lb_u1 : (((1 : Int32).toInt64.toUInt64 &&& Int64.toUInt64 63) % 64).toNat = 1 := by decide +kernel
/-- a set of cells: the bits of the 63 cells, and no other -/
def SB (x : Int64) : Prop := lb x 63 = false
theorem bMv_lb {x : Int64} (hx : SB x) {d : Nat} (hd : d < 4) {i : Nat} (hi : i < 63) : lb (bMv x d) i = (nbOk i (opp d) && lb x (nbOf i (opp d))) := by
  match d, hd with
  | 0, _ =>
    show lb ((x.toUInt64 >>> ((9 : Int32).toInt64.toUInt64 &&& Int64.toUInt64 63)).toInt64) i = (decide (i < 54) && lb x (i + 9))
    rw [lb_shr _ _ 9 lb_u9, Nat.add_comm]
    by_cases h : i < 54
    · simp [h]
    · by_cases h2 : i = 54
      · subst h2; simp; exact hx
      · rw [lb_big _ (by omega)]; simp [h]
  | 1, _ =>
    show lb ((x &&& (-4620710844295151873)) <<< ((1 : Int32).toInt64 &&& 63)) i = (decide (i % 9 ≠ 0) && lb x (i - 1))
    rw [lb_shl _ _ 1 lb_c1 (by omega), lb_and, lb_kR ⟨i - 1, by omega⟩]
    by_cases h : i % 9 = 0
    · by_cases h0 : 1 ≤ i
      · have : (i - 1) % 9 = 8 := by omega
        simp [h, this]
      · simp [h, h0]
    · have : (i - 1) % 9 ≠ 8 := by omega
      have h1 : 1 ≤ i := by omega
      simp [h, this, h1]
  | 2, _ =>
    show lb ((x <<< ((9 : Int32).toInt64 &&& 63)) &&& 9223372036854775807) i = (decide (9 ≤ i) && lb x (i - 9))
    rw [lb_and, lb_shl _ _ 9 lb_c9 (by omega), lb_kA ⟨i, by omega⟩]
    simp [hi]
  | 3, _ =>
    show lb (((x &&& (-18049651735527938)).toUInt64 >>> ((1 : Int32).toInt64.toUInt64 &&& Int64.toUInt64 63)).toInt64) i = (decide (i % 9 ≠ 8) && lb x (i + 1))
    rw [lb_shr _ _ 1 lb_u1, Nat.add_comm, lb_and, lb_kL ⟨i + 1, by omega⟩]
    by_cases h : i + 1 = 63
    · have e : i = 62 := by omega
      subst e
      have : lb x 63 = false := hx
      simp [this]
    · by_cases h8 : i % 9 = 8
      · have : (i + 1) % 9 = 0 := by omega
        simp [h8, this, h]
      · have : (i + 1) % 9 ≠ 0 := by omega
        simp [h8, this]
theorem bMv_SB {x : Int64} (hx : SB x) {d : Nat} (hd : d < 4) : SB (bMv x d) := by
  unfold SB
  match d, hd with
  | 0, _ =>
    show lb ((x.toUInt64 >>> ((9 : Int32).toInt64.toUInt64 &&& Int64.toUInt64 63)).toInt64) 63 = false
    rw [lb_shr _ _ 9 lb_u9]
    exact lb_big _ (by omega)
  | 1, _ =>
    show lb ((x &&& (-4620710844295151873)) <<< ((1 : Int32).toInt64 &&& 63)) 63 = false
    rw [lb_shl _ _ 1 lb_c1 (by omega), lb_and, lb_kR ⟨62, by omega⟩]
    simp
  | 2, _ =>
    show lb ((x <<< ((9 : Int32).toInt64 &&& 63)) &&& 9223372036854775807) 63 = false
    rw [lb_and, lb_kA ⟨63, by omega⟩]
    simp
  | 3, _ =>
    show lb (((x &&& (-18049651735527938)).toUInt64 >>> ((1 : Int32).toInt64.toUInt64 &&& Int64.toUInt64 63)).toInt64) 63 = false
    rw [lb_shr _ _ 1 lb_u1]
    exact lb_big _ (by omega)
theorem bOnly_SB {c : Nat} (hc : c < 63) : SB (bOnly c) := by
  unfold SB
  rw [lb_only (by omega)]
  simp; omega
theorem nb_lt {c d : Nat} (hc : c < 63) (hd : d < 4) (h : nbOk c d = true) : nbOf c d < 63 := by
  match d, hd with
  | 0, _ => show c - 9 < 63; omega
  | 1, _ => have : c % 9 ≠ 8 := of_decide_eq_true h; show c + 1 < 63; omega
  | 2, _ => have : c < 54 := of_decide_eq_true h; show c + 9 < 63; omega
  | 3, _ => show c - 1 < 63; omega
theorem bMv_only {c d : Nat} (hc : c < 63) (hd : d < 4) : bMv (bOnly c) d = if nbOk c d then bOnly (nbOf c d) else 0 := by
  have : ∀ c : Fin 63, ∀ d : Fin 4, bMv (bOnly c.val) d.val = if nbOk c.val d.val then bOnly (nbOf c.val d.val) else 0 := by decide +kernel
  exact this ⟨c, hc⟩ ⟨d, hd⟩
theorem bOnly_ne0 {c : Nat} (hc : c < 64) : bOnly c ≠ 0 := lb_ne0.mpr ⟨c, hc, by rw [lb_only hc]; simp⟩
