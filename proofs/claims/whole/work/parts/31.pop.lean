/-! how many bits: by digits of base 2, 4, 16, 256 -/
def dL (B : Nat) : Nat → (Nat → Nat) → Nat
  | 0, _ => 0
  | n + 1, d => d 0 + B * dL B n (fun k => d (k + 1))
theorem dL_cong {B : Nat} : ∀ {n : Nat} {d e : Nat → Nat}, (∀ k, k < n → d k = e k) → dL B n d = dL B n e
  | 0, _, _, _ => rfl
  | n + 1, d, e, h => by
    show d 0 + B * dL B n (fun k => d (k + 1)) = e 0 + B * dL B n (fun k => e (k + 1))
    rw [h 0 (by omega), dL_cong (n := n) (d := fun k => d (k + 1)) (e := fun k => e (k + 1)) (fun k hk => h (k + 1) (by omega))]
theorem dL_add {B : Nat} : ∀ (n : Nat) (d e : Nat → Nat), dL B n (fun k => d k + e k) = dL B n d + dL B n e
  | 0, _, _ => rfl
  | n + 1, d, e => by
    show d 0 + e 0 + B * dL B n (fun k => d (k + 1) + e (k + 1)) = d 0 + B * dL B n (fun k => d (k + 1)) + (e 0 + B * dL B n (fun k => e (k + 1)))
    rw [dL_add n (fun k => d (k + 1)) (fun k => e (k + 1)), Nat.mul_add]
    omega
theorem dL_lt {B : Nat} (hB : 0 < B) : ∀ (n : Nat) (d : Nat → Nat), (∀ k, k < n → d k < B) → dL B n d < B ^ n
  | 0, _, _ => by simp [dL]
  | n + 1, d, h => by
    have h0 := h 0 (by omega)
    have ih := dL_lt hB n (fun k => d (k + 1)) (fun k hk => h (k + 1) (by omega))
    show d 0 + B * dL B n (fun k => d (k + 1)) < _
    have h2 : B * (dL B n (fun k => d (k + 1)) + 1) ≤ B * B ^ n := Nat.mul_le_mul_left B ih
    rw [Nat.mul_add, Nat.mul_one] at h2
    rw [Nat.pow_succ, Nat.mul_comm (B ^ n) B]
    omega
theorem dL_top {B : Nat} : ∀ (n : Nat) (d : Nat → Nat), d n = 0 → dL B (n + 1) d = dL B n d
  | 0, d, h => by
    show d 0 + B * 0 = 0
    rw [h, Nat.mul_zero]
  | n + 1, d, h => by
    show d 0 + B * dL B (n + 1) (fun k => d (k + 1)) = d 0 + B * dL B n (fun k => d (k + 1))
    rw [dL_top n (fun k => d (k + 1)) h]
theorem dL_div {B n : Nat} {d : Nat → Nat} (h0 : d 0 < B) (hn : d n = 0) : dL B n d / B = dL B n (fun k => d (k + 1)) := by
  rw [← dL_top n d hn]
  show (d 0 + B * dL B n (fun k => d (k + 1))) / B = _
  rw [Nat.add_mul_div_left _ _ (by omega), Nat.div_eq_of_lt h0, Nat.zero_add]
theorem dL_and (s : Nat) : ∀ (n : Nat) (d e : Nat → Nat), (∀ k, k < n → d k < 2 ^ s) → (∀ k, k < n → e k < 2 ^ s) → dL (2 ^ s) n d &&& dL (2 ^ s) n e = dL (2 ^ s) n (fun k => d k &&& e k)
  | 0, _, _, _, _ => Nat.and_self 0
  | n + 1, d, e, h1, h2 => by
    have ih := dL_and s n (fun k => d (k + 1)) (fun k => e (k + 1)) (fun k hk => h1 (k + 1) (by omega)) (fun k hk => h2 (k + 1) (by omega))
    show (d 0 + 2 ^ s * dL (2 ^ s) n (fun k => d (k + 1))) &&& (e 0 + 2 ^ s * dL (2 ^ s) n (fun k => e (k + 1))) = (d 0 &&& e 0) + 2 ^ s * dL (2 ^ s) n (fun k => d (k + 1) &&& e (k + 1))
    rw [← ih, Nat.add_comm (d 0), Nat.add_comm (e 0), Nat.add_comm (d 0 &&& e 0)]
    have hd := h1 0 (by omega)
    have he := h2 0 (by omega)
    have hde : d 0 &&& e 0 < 2 ^ s := Nat.lt_of_le_of_lt Nat.and_le_left hd
    refine Nat.eq_of_testBit_eq (fun j => ?_)
    rw [Nat.testBit_and, Nat.testBit_two_pow_mul_add _ hd, Nat.testBit_two_pow_mul_add _ he, Nat.testBit_two_pow_mul_add _ hde]
    by_cases q : j < s
    · simp [q, Nat.testBit_and]
    · simp [q, Nat.testBit_and]
theorem dL_two {B : Nat} : ∀ (n : Nat) (d : Nat → Nat), dL B (2 * n) d = dL (B * B) n (fun k => d (2 * k) + B * d (2 * k + 1))
  | 0, _ => rfl
  | n + 1, d => by
    show d 0 + B * (d 1 + B * dL B (2 * n) (fun k => d (k + 1 + 1))) = d 0 + B * d 1 + B * B * dL (B * B) n (fun k => d (2 * (k + 1)) + B * d (2 * (k + 1) + 1))
    rw [dL_two n (fun k => d (k + 1 + 1)), Nat.mul_add, Nat.mul_assoc, Nat.add_assoc]
    rfl
theorem dL_bits : ∀ (n x : Nat), x < 2 ^ n → x = dL 2 n (fun i => (x.testBit i).toNat)
  | 0, x, h => by
    have : x = 0 := by simpa using h
    rw [this]
    rfl
  | n + 1, x, h => by
    have h2 : x / 2 < 2 ^ n := by
      rw [Nat.pow_succ] at h
      omega
    have ih := dL_bits n (x / 2) h2
    show x = (x.testBit 0).toNat + 2 * dL 2 n (fun k => (x.testBit (k + 1)).toNat)
    have e : dL 2 n (fun k => (x.testBit (k + 1)).toNat) = dL 2 n (fun k => ((x / 2).testBit k).toNat) := dL_cong (fun k _ => by rw [Nat.testBit_add_one])
    rw [e, ← ih, Nat.testBit_zero]
    by_cases q : x % 2 = 1
    · simp [q]; omega
    · simp [q]; omega
def sm : Nat → (Nat → Nat) → Nat
  | 0, _ => 0
  | n + 1, d => sm n d + d n
theorem sm_two : ∀ (n : Nat) (d : Nat → Nat), sm n (fun k => d (2 * k) + d (2 * k + 1)) = sm (2 * n) d
  | 0, _ => rfl
  | n + 1, d => by
    show sm n _ + (d (2 * n) + d (2 * n + 1)) = sm (2 * n) d + d (2 * n) + d (2 * n + 1)
    rw [sm_two n d]
    omega
theorem sm_cnt (p : Nat → Bool) : ∀ n, sm n (fun i => (p i).toNat) = cntG p n
  | 0 => rfl
  | n + 1 => by
    show sm n _ + (p n).toNat = if p n then cntG p n + 1 else cntG p n
    rw [sm_cnt p n]
    cases p n <;> rfl
theorem sm_le {b : Nat} : ∀ (n : Nat) (d : Nat → Nat), (∀ k, d k ≤ b) → sm n d ≤ b * n
  | 0, _, _ => Nat.zero_le _
  | n + 1, d, h => by
    have := sm_le n d h
    have h2 := h n
    show sm n d + d n ≤ b * (n + 1)
    rw [Nat.mul_add]
    omega
def nN (x : Int64) : Nat := x.toBitVec.toNat
theorem nN_and (x y : Int64) : nN (x &&& y) = nN x &&& nN y := by
  unfold nN
  rw [Int64.toBitVec_and, BitVec.toNat_and]
theorem nN_add {x y : Int64} (h : nN x + nN y < 2 ^ 64) : nN (x + y) = nN x + nN y := by
  unfold nN at *
  rw [Int64.toBitVec_add, BitVec.toNat_add, Nat.mod_eq_of_lt h]
theorem nN_sub {x y : Int64} (h : nN y ≤ nN x) : nN (x - y) = nN x - nN y := by
  unfold nN at *
  rw [Int64.toBitVec_sub, BitVec.toNat_sub_of_le h]
theorem nN_shr (x : Int64) (y : UInt64) (n : Nat) (hy : (y % 64).toNat = n) : nN (x.toUInt64 >>> y).toInt64 = nN x / 2 ^ n := by
  unfold nN
  have e : (x.toUInt64 >>> y).toInt64.toBitVec = x.toBitVec >>> n := by
    show (x.toUInt64 >>> y).toBitVec = _
    rw [UInt64.toBitVec_shiftRight, BitVec.ushiftRight_eq']
    congr 1
  rw [e, BitVec.toNat_ushiftRight, Nat.shiftRight_eq_div_pow]
theorem m5_dig : nN 6148914691236517205 = dL 2 64 (fun i => if i % 2 = 0 then 1 else 0) := by decide +kernel
theorem m3_dig : nN 3689348814741910323 = dL 4 32 (fun i => if i % 2 = 0 then 3 else 0) := by decide +kernel
theorem mf_dig : nN 1085102592571150095 = dL 16 16 (fun i => if i % 2 = 0 then 15 else 0) := by decide +kernel
theorem sh1 : (((1 : Int32).toInt64.toUInt64 &&& Int64.toUInt64 63) % 64).toNat = 1 := by decide +kernel
theorem sh2 : (((2 : Int32).toInt64.toUInt64 &&& Int64.toUInt64 63) % 64).toNat = 2 := by decide +kernel
theorem sh4 : (((4 : Int32).toInt64.toUInt64 &&& Int64.toUInt64 63) % 64).toNat = 4 := by decide +kernel
theorem sh8 : (((8 : Int32).toInt64.toUInt64 &&& Int64.toUInt64 63) % 64).toNat = 8 := by decide +kernel
theorem sh16 : (((16 : Int32).toInt64.toUInt64 &&& Int64.toUInt64 63) % 64).toNat = 16 := by decide +kernel
theorem sh32 : (((32 : Int32).toInt64.toUInt64 &&& Int64.toUInt64 63) % 64).toNat = 32 := by decide +kernel
theorem low7 : ∀ i : Fin 32, Nat.testBit 127 i.val = decide (i.val < 7) := by decide +kernel
theorem pop_low {g : Int64} {d0 y : Nat} (h : nN g = 2 ^ 8 * y + d0) (hd : d0 < 2 ^ 7) : g.toInt32 &&& 127 = nI d0 := by
  refine Int32.toBitVec_inj.mp (BitVec.eq_of_getLsbD_eq (fun i hi => ?_))
  have e1 : (g.toInt32 &&& 127).toBitVec = g.toBitVec.signExtend 32 &&& 127#32 := rfl
  have e2 : (nI d0).toBitVec = BitVec.ofNat 32 d0 := rfl
  rw [e1, e2, BitVec.getLsbD_and, BitVec.getLsbD_signExtend, BitVec.getLsbD_ofNat, BitVec.getLsbD_ofNat, (low7 ⟨i, hi⟩ : Nat.testBit 127 i = decide (i < 7))]
  have e3 : g.toBitVec.getLsbD i = (2 ^ 8 * y + d0).testBit i := by
    rw [← h]
    rfl
  have h64 : i < 64 := by omega
  rw [if_pos h64, e3, Nat.testBit_two_pow_mul_add _ (by omega : d0 < 2 ^ 8)]
  by_cases q : i < 7
  · have q8 : i < 8 := by omega
    simp [hi, q, q8]
  · have z : d0.testBit i = false := Nat.testBit_lt_two_pow (Nat.lt_of_lt_of_le hd (Nat.pow_le_pow_right (by omega) (by omega)))
    simp [hi, q, z]
theorem dL_mask (s n : Nat) (d : Nat → Nat) (h : ∀ k, d k < 2 ^ s) : dL (2 ^ s) (2 * n) d &&& dL (2 ^ s) (2 * n) (fun i => if i % 2 = 0 then 2 ^ s - 1 else 0) = dL (2 ^ s * 2 ^ s) n (fun k => d (2 * k)) := by
  have hp : 0 < 2 ^ s := Nat.two_pow_pos s
  rw [dL_and s (2 * n) _ _ (fun k _ => h k) (fun k _ => by split <;> omega), dL_two]
  refine dL_cong (fun k _ => ?_)
  have q1 : 2 * k % 2 = 0 := by omega
  have q2 : ¬ (2 * k + 1) % 2 = 0 := by omega
  show (d (2 * k) &&& (if 2 * k % 2 = 0 then 2 ^ s - 1 else 0)) + 2 ^ s * (d (2 * k + 1) &&& (if (2 * k + 1) % 2 = 0 then 2 ^ s - 1 else 0)) = d (2 * k)
  rw [if_pos q1, if_neg q2, Nat.and_two_pow_sub_one_of_lt_two_pow (h _), Nat.and_zero, Nat.mul_zero, Nat.add_zero]
theorem pop_cnt (x : Int64) : iPop x = nI (cntG (lb x) 64) := by
  obtain ⟨b, eb⟩ : ∃ b : Nat → Nat, b = fun i => (lb x i).toNat := ⟨_, rfl⟩
  have b1 : ∀ i, b i ≤ 1 := fun i => by rw [eb]; exact Bool.toNat_le _
  have b0 : ∀ i, 64 ≤ i → b i = 0 := fun i hi => by
    rw [eb]
    show (lb x i).toNat = 0
    rw [lb_big x hi]
    rfl
  obtain ⟨c, ec⟩ : ∃ c : Nat → Nat, c = fun k => b (2 * k) + b (2 * k + 1) := ⟨_, rfl⟩
  have c1 : ∀ k, c k ≤ 2 := fun k => by rw [ec]; have := b1 (2 * k); have := b1 (2 * k + 1); show b (2 * k) + b (2 * k + 1) ≤ 2; omega
  have c0 : ∀ k, 32 ≤ k → c k = 0 := fun k hk => by rw [ec]; show b (2 * k) + b (2 * k + 1) = 0; rw [b0 _ (by omega), b0 _ (by omega)]
  obtain ⟨e, ee⟩ : ∃ e : Nat → Nat, e = fun k => c (2 * k) + c (2 * k + 1) := ⟨_, rfl⟩
  have e1 : ∀ k, e k ≤ 4 := fun k => by rw [ee]; have := c1 (2 * k); have := c1 (2 * k + 1); show c (2 * k) + c (2 * k + 1) ≤ 4; omega
  have e0 : ∀ k, 16 ≤ k → e k = 0 := fun k hk => by rw [ee]; show c (2 * k) + c (2 * k + 1) = 0; rw [c0 _ (by omega), c0 _ (by omega)]
  obtain ⟨f, ef⟩ : ∃ f : Nat → Nat, f = fun k => e (2 * k) + e (2 * k + 1) := ⟨_, rfl⟩
  have f1 : ∀ k, f k ≤ 8 := fun k => by rw [ef]; have := e1 (2 * k); have := e1 (2 * k + 1); show e (2 * k) + e (2 * k + 1) ≤ 8; omega
  have f0 : ∀ k, 8 ≤ k → f k = 0 := fun k hk => by rw [ef]; show e (2 * k) + e (2 * k + 1) = 0; rw [e0 _ (by omega), e0 _ (by omega)]
  have hx : nN x = dL 2 (2 * 32) b := by rw [eb]; exact dL_bits 64 (nN x) x.toBitVec.isLt
  unfold iPop
  dsimp only
  -- pairs
  have A : nN (x - ((x.toUInt64 >>> ((1 : Int32).toInt64.toUInt64 &&& Int64.toUInt64 63)).toInt64 &&& 6148914691236517205)) = dL 4 (2 * 16) c := by
    have s1 : nN (x.toUInt64 >>> ((1 : Int32).toInt64.toUInt64 &&& Int64.toUInt64 63)).toInt64 = dL 2 (2 * 32) (fun k => b (k + 1)) := by
      rw [nN_shr _ _ 1 sh1, hx]
      exact dL_div (Nat.lt_succ_of_le (b1 0)) (b0 64 (by omega))
    have s2 : nN ((x.toUInt64 >>> ((1 : Int32).toInt64.toUInt64 &&& Int64.toUInt64 63)).toInt64 &&& 6148914691236517205) = dL 4 32 (fun k => b (2 * k + 1)) := by
      rw [nN_and, s1, m5_dig]
      exact dL_mask 1 32 (fun k => b (k + 1)) (fun k => Nat.lt_succ_of_le (b1 _))
    have s3 : nN x = dL 4 32 c + dL 4 32 (fun k => b (2 * k + 1)) := by
      rw [hx, dL_two, ← dL_add]
      refine dL_cong (fun k _ => ?_)
      rw [ec]
      show b (2 * k) + 2 * b (2 * k + 1) = b (2 * k) + b (2 * k + 1) + b (2 * k + 1)
      omega
    rw [nN_sub (by rw [s2, s3]; omega), s2, s3]
    exact Nat.add_sub_cancel _ _
  generalize x - ((x.toUInt64 >>> ((1 : Int32).toInt64.toUInt64 &&& Int64.toUInt64 63)).toInt64 &&& 6148914691236517205) = a at A
  have B : nN ((a &&& 3689348814741910323) + ((a.toUInt64 >>> ((2 : Int32).toInt64.toUInt64 &&& Int64.toUInt64 63)).toInt64 &&& 3689348814741910323)) = dL 16 (2 * 8) e := by
    have s1 : nN (a.toUInt64 >>> ((2 : Int32).toInt64.toUInt64 &&& Int64.toUInt64 63)).toInt64 = dL 4 (2 * 16) (fun k => c (k + 1)) := by
      rw [nN_shr _ _ 2 sh2, A]
      exact dL_div (by have := c1 0; omega) (c0 32 (by omega))
    have s2 : nN (a &&& 3689348814741910323) = dL 16 16 (fun k => c (2 * k)) := by
      rw [nN_and, A, m3_dig]
      exact dL_mask 2 16 c (fun k => by have := c1 k; omega)
    have s3 : nN ((a.toUInt64 >>> ((2 : Int32).toInt64.toUInt64 &&& Int64.toUInt64 63)).toInt64 &&& 3689348814741910323) = dL 16 16 (fun k => c (2 * k + 1)) := by
      rw [nN_and, s1, m3_dig]
      exact dL_mask 2 16 (fun k => c (k + 1)) (fun k => by have := c1 (k + 1); omega)
    have s4 : nN (a &&& 3689348814741910323) + nN ((a.toUInt64 >>> ((2 : Int32).toInt64.toUInt64 &&& Int64.toUInt64 63)).toInt64 &&& 3689348814741910323) = dL 16 16 e := by
      rw [s2, s3, ← dL_add, ee]
    rw [nN_add (by rw [s4]; exact dL_lt (by omega) 16 e (fun k _ => by have := e1 k; omega)), s4]
  generalize (a &&& 3689348814741910323) + ((a.toUInt64 >>> ((2 : Int32).toInt64.toUInt64 &&& Int64.toUInt64 63)).toInt64 &&& 3689348814741910323) = a2 at B
  have C : nN ((a2 + (a2.toUInt64 >>> ((4 : Int32).toInt64.toUInt64 &&& Int64.toUInt64 63)).toInt64) &&& 1085102592571150095) = dL 256 8 f := by
    have s1 : nN (a2.toUInt64 >>> ((4 : Int32).toInt64.toUInt64 &&& Int64.toUInt64 63)).toInt64 = dL 16 (2 * 8) (fun k => e (k + 1)) := by
      rw [nN_shr _ _ 4 sh4, B]
      exact dL_div (by have := e1 0; omega) (e0 16 (by omega))
    have s2 : nN a2 + nN (a2.toUInt64 >>> ((4 : Int32).toInt64.toUInt64 &&& Int64.toUInt64 63)).toInt64 = dL 16 (2 * 8) (fun k => e k + e (k + 1)) := by
      rw [B, s1, dL_add]
    rw [nN_and, nN_add (by rw [s2]; exact dL_lt (by omega) 16 _ (fun k _ => by have := e1 k; have := e1 (k + 1); omega)), s2, mf_dig, ef]
    exact dL_mask 4 8 (fun k => e k + e (k + 1)) (fun k => by have := e1 k; have := e1 (k + 1); show e k + e (k + 1) < 16; omega)
  generalize (a2 + (a2.toUInt64 >>> ((4 : Int32).toInt64.toUInt64 &&& Int64.toUInt64 63)).toInt64) &&& 1085102592571150095 = a3 at C
  obtain ⟨g, eg⟩ : ∃ g : Nat → Nat, g = fun k => f k + f (k + 1) := ⟨_, rfl⟩
  have g1 : ∀ k, g k ≤ 16 := fun k => by rw [eg]; have := f1 k; have := f1 (k + 1); show f k + f (k + 1) ≤ 16; omega
  have g0 : ∀ k, 8 ≤ k → g k = 0 := fun k hk => by rw [eg]; show f k + f (k + 1) = 0; rw [f0 _ (by omega), f0 _ (by omega)]
  obtain ⟨p, ep⟩ : ∃ p : Nat → Nat, p = fun k => g k + g (k + 2) := ⟨_, rfl⟩
  have p1 : ∀ k, p k ≤ 32 := fun k => by rw [ep]; have := g1 k; have := g1 (k + 2); show g k + g (k + 2) ≤ 32; omega
  have p0 : ∀ k, 8 ≤ k → p k = 0 := fun k hk => by rw [ep]; show g k + g (k + 2) = 0; rw [g0 _ (by omega), g0 _ (by omega)]
  have D : nN (a3 + (a3.toUInt64 >>> ((8 : Int32).toInt64.toUInt64 &&& Int64.toUInt64 63)).toInt64) = dL 256 8 g := by
    have s1 : nN (a3.toUInt64 >>> ((8 : Int32).toInt64.toUInt64 &&& Int64.toUInt64 63)).toInt64 = dL 256 8 (fun k => f (k + 1)) := by
      rw [nN_shr _ _ 8 sh8, C]
      exact dL_div (by have := f1 0; omega) (f0 8 (by omega))
    have s2 : nN a3 + nN (a3.toUInt64 >>> ((8 : Int32).toInt64.toUInt64 &&& Int64.toUInt64 63)).toInt64 = dL 256 8 g := by
      rw [C, s1, ← dL_add, eg]
    rw [nN_add (by rw [s2]; exact dL_lt (by omega) 8 g (fun k _ => by have := g1 k; omega)), s2]
  generalize a3 + (a3.toUInt64 >>> ((8 : Int32).toInt64.toUInt64 &&& Int64.toUInt64 63)).toInt64 = a4 at D
  have E : nN (a4 + (a4.toUInt64 >>> ((16 : Int32).toInt64.toUInt64 &&& Int64.toUInt64 63)).toInt64) = dL 256 8 p := by
    have s1 : nN (a4.toUInt64 >>> ((16 : Int32).toInt64.toUInt64 &&& Int64.toUInt64 63)).toInt64 = dL 256 8 (fun k => g (k + 2)) := by
      rw [nN_shr _ _ 16 sh16, D, show 2 ^ 16 = 256 * 256 from rfl, ← Nat.div_div_eq_div_mul, dL_div (by have := g1 0; omega) (g0 8 (by omega))]
      exact dL_div (B := 256) (n := 8) (d := fun k => g (k + 1)) (by have := g1 1; show g 1 < 256; omega) (g0 9 (by omega))
    have s2 : nN a4 + nN (a4.toUInt64 >>> ((16 : Int32).toInt64.toUInt64 &&& Int64.toUInt64 63)).toInt64 = dL 256 8 p := by
      rw [D, s1, ← dL_add, ep]
    rw [nN_add (by rw [s2]; exact dL_lt (by omega) 8 p (fun k _ => by have := p1 k; omega)), s2]
  generalize a4 + (a4.toUInt64 >>> ((16 : Int32).toInt64.toUInt64 &&& Int64.toUInt64 63)).toInt64 = a5 at E
  have F : nN (a5 + (a5.toUInt64 >>> ((32 : Int32).toInt64.toUInt64 &&& Int64.toUInt64 63)).toInt64) = dL 256 8 (fun k => p k + p (k + 4)) := by
    have s1 : nN (a5.toUInt64 >>> ((32 : Int32).toInt64.toUInt64 &&& Int64.toUInt64 63)).toInt64 = dL 256 8 (fun k => p (k + 4)) := by
      rw [nN_shr _ _ 32 sh32, E, show 2 ^ 32 = 256 * 256 * 256 * 256 from rfl, ← Nat.div_div_eq_div_mul, ← Nat.div_div_eq_div_mul, ← Nat.div_div_eq_div_mul, dL_div (by have := p1 0; omega) (p0 8 (by omega))]
      rw [dL_div (B := 256) (n := 8) (d := fun k => p (k + 1)) (by have := p1 1; show p 1 < 256; omega) (p0 9 (by omega))]
      rw [dL_div (B := 256) (n := 8) (d := fun k => p (k + 1 + 1)) (by have := p1 2; show p 2 < 256; omega) (p0 10 (by omega))]
      exact dL_div (B := 256) (n := 8) (d := fun k => p (k + 1 + 1 + 1)) (by have := p1 3; show p 3 < 256; omega) (p0 11 (by omega))
    have s2 : nN a5 + nN (a5.toUInt64 >>> ((32 : Int32).toInt64.toUInt64 &&& Int64.toUInt64 63)).toInt64 = dL 256 8 (fun k => p k + p (k + 4)) := by
      rw [E, s1, ← dL_add]
    rw [nN_add (by rw [s2]; exact dL_lt (by omega) 8 _ (fun k _ => by have := p1 k; have := p1 (k + 4); omega)), s2]
  have cnt : p 0 + p (0 + 4) = cntG (lb x) 64 := by
    have q1 : p 0 + p (0 + 4) = sm 8 f := by
      rw [ep, eg]
      show f 0 + f 1 + (f 2 + f 3) + (f 4 + f 5 + (f 6 + f 7)) = 0 + f 0 + f 1 + f 2 + f 3 + f 4 + f 5 + f 6 + f 7
      omega
    rw [q1, ef, sm_two 8 e, ee, sm_two 16 c, ec, sm_two 32 b, eb]
    exact sm_cnt (lb x) 64
  show (a5 + (a5.toUInt64 >>> ((32 : Int32).toInt64.toUInt64 &&& Int64.toUInt64 63)).toInt64).toInt32 &&& 127 = _
  rw [← cnt]
  refine pop_low (y := dL 256 7 (fun k => p (k + 1) + p (k + 1 + 4))) ?_ (by have := p1 0; have := p1 4; show p 0 + p 4 < 128; omega)
  rw [F]
  exact Nat.add_comm _ _
theorem cntG_cong {p q : Nat → Bool} : ∀ {n : Nat}, (∀ i, i < n → p i = q i) → cntG p n = cntG q n
  | 0, _ => rfl
  | n + 1, h => by
    show (if p n then cntG p n + 1 else cntG p n) = (if q n then cntG q n + 1 else cntG q n)
    rw [h n (by omega), cntG_cong (n := n) (fun i hi => h i (by omega))]
theorem pop63 {x : Int64} (h : SB x) : iPop x = nI (cntG (lb x) 63) := by
  rw [pop_cnt]
  congr 1
  show (if lb x 63 then cntG (lb x) 63 + 1 else cntG (lb x) 63) = _
  rw [show lb x 63 = false from h]
  rfl
