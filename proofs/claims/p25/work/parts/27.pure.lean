/-! pure rows of 27.model.txt -/
theorem le_lt {v : Int32} {k : Nat} (hk : k + 1 < 2 ^ 31) : v ≤ nI k ↔ v < nI (k + 1) := by
  rw [Int32.le_iff_toInt_le, Int32.lt_iff_toInt_lt, nI_toInt hk, nI_toInt (by omega)]
  omega
theorem okR_in {v : Int32} {k : Nat} (hk : k + 1 < 2 ^ 31) : (decide (¬ v < 0) && decide (v ≤ nI k)) = okR v (k + 1) := by
  unfold okR
  rw [decide_eq_decide.mpr (le_lt hk)]
/-! pure rows of 28.light.txt -/
def InvW (L : Nat → Int64) : Prop := (∀ c, lb (L 5) c = true → c < 63 ∧ c % 9 ≠ 8) ∧ (∀ c, lb (L 6) c = true → c < 54)
def InvD (L : Nat → Int64) : Prop := ∀ c, lb (L 0) c = true → lb (L 2) c = false ∧ lb (L 3) c = false
theorem wC0 {L : Nat → Int64} {c : Nat} (hc : c < 63) : lb (wCells L 0) c = (decide (9 ≤ c) && lb (L 6) (c - 9)) := lb_shl _ _ 9 lb_c9 (by omega)
theorem wC3 {L : Nat → Int64} (I : InvW L) {c : Nat} (hc : c < 63) : lb (wCells L 3) c = (nbOk c 3 && lb (L 5) (c - 1)) := by
  have e : lb (wCells L 3) c = (decide (1 ≤ c) && lb (L 5) (c - 1)) := lb_shl _ _ 1 lb_c1 (by omega)
  rw [e]
  cases e5 : lb (L 5) (c - 1) with
  | false => simp
  | true =>
    have q := (I.1 _ e5).2
    show (decide (1 ≤ c) && true) = (decide (c % 9 ≠ 0) && true)
    rw [Bool.and_true, Bool.and_true]
    apply decide_eq_decide.mpr
    omega
theorem lb_add {lt : Nat → Bool} {X : Int64} {i : Nat} (hi : i < 63) : ∀ j, j < 63 → (if j = i then true else (lt j || lb X j)) = (lt j || lb (X ||| bOnly i) j) := by
  intro j hj
  rw [lb_or, lb_only (by omega)]
  by_cases e : j = i
  · simp [e]
  · simp [e]
def trT (dn t : Nat) : Nat := if t = 2 then dn ^^^ 1 else if t = 3 then 3 - dn else dn
theorem trT_lt {dn t : Nat} (h : dn < 4) : trT dn t < 4 := by
  unfold trT
  split
  · match dn, h with
    | 0, _ => decide
    | 1, _ => decide
    | 2, _ => decide
    | 3, _ => decide
  · split <;> omega
theorem and_only {c : Nat} (hc : c < 63) (x : Int64) : bOnly c &&& x = if lb x c = true then bOnly c else 0 := by
  refine lb_ext (fun i hi => ?_)
  rw [lb_and, lb_only (by omega)]
  by_cases e : i = c
  · subst e
    cases e2 : lb x i with
    | true => simp [lb_only (show i < 64 by omega)]
    | false => simp [lb_0]
  · cases e2 : lb x c with
    | true => simp [e, lb_only (show c < 64 by omega)]
    | false => simp [e, lb_0]
theorem only_ne {c : Nat} (hc : c < 63) : bOnly c ≠ 0 := lb_ne0.mpr ⟨c, by omega, by rw [lb_only (by omega)]; simp⟩
theorem lb_not {x : Int64} {i : Nat} (hi : i < 64) : lb (x ^^^ (-1)) i = !lb x i := by
  rw [lb_xor, lb_m1 hi]
  cases lb x i <;> rfl
theorem bMv_0 {d : Nat} (hd : d < 4) : bMv 0 d = 0 := by
  rcases (show d = 0 ∨ d = 1 ∨ d = 2 ∨ d = 3 by omega) with rfl | rfl | rfl | rfl <;> decide +kernel
theorem beam_next {L : Nat → Int64} {c dn : Nat} (hc : c < 63) (hd : dn < 4) : bMv (bOnly c &&& (wCells L dn ^^^ (-1))) dn = if lb (wCells L dn) c = true ∨ nbOk c dn = false then 0 else bOnly (nbOf c dn) := by
  rw [and_only hc, lb_not (by omega)]
  cases e : lb (wCells L dn) c with
  | true => simp [bMv_0 hd]
  | false =>
    cases e2 : nbOk c dn with
    | true => simp [bMv_only hc hd, e2]
    | false => simp [bMv_only hc hd, e2]
theorem trn_0 (L : Nat → Int64) (dn : Nat) : trn L 0 dn = dn := by
  unfold trn
  rw [Int64.zero_and, Int64.zero_and]
  simp
theorem trn_only {L : Nat → Int64} (D : InvD L) {c own dn : Nat} (hc : c < 63) (ho : own < 63) : trn L (bOnly c &&& (bOnly own ^^^ (-1))) dn = if c = own then dn else trT dn (thg L c) := by
  rw [and_only hc, lb_not (by omega), lb_only (by omega)]
  by_cases e : c = own
  · simp [e, trn_0]
  · simp only [e, decide_false, Bool.not_false, if_true, if_false]
    unfold trn
    rw [and_only hc, and_only hc]
    unfold trT thg
    have n1 := only_ne hc
    cases e0 : lb (L 0) c with
    | true =>
      obtain ⟨q2, q3⟩ := D c e0
      simp [q2, q3]
    | false =>
      cases e2 : lb (L 2) c with
      | true => simp [n1]
      | false =>
        cases e3 : lb (L 3) c with
        | true => simp [n1]
        | false => cases e4 : lb (L 4) c <;> simp
theorem beam_end {L : Nat → Int64} {own cells : Int64} {dn n : Nat} (hd : (beamI L own cells dn n).2.1 < 4) (h : (beamI L own cells dn n).1 = 0) : ∀ k, (beamI L own cells dn (n + k)).1 = 0 ∧ (beamI L own cells dn (n + k)).2.1 = (beamI L own cells dn n).2.1 ∧ (beamI L own cells dn (n + k)).2.2 = (beamI L own cells dn n).2.2
  | 0 => ⟨h, rfl, rfl⟩
  | k + 1 => by
    obtain ⟨h1, h2, h3⟩ := beam_end hd h k
    have e : ∀ n, beamI L own cells dn (n + 1) = (bMv ((beamI L own cells dn n).1 &&& (wCells L (beamI L own cells dn n).2.1 ^^^ (-1))) (beamI L own cells dn n).2.1, trn L (bMv ((beamI L own cells dn n).1 &&& (wCells L (beamI L own cells dn n).2.1 ^^^ (-1))) (beamI L own cells dn n).2.1 &&& (own ^^^ (-1))) (beamI L own cells dn n).2.1, (beamI L own cells dn n).2.2 ||| bMv ((beamI L own cells dn n).1 &&& (wCells L (beamI L own cells dn n).2.1 ^^^ (-1))) (beamI L own cells dn n).2.1) := fun _ => rfl
    rw [← Nat.add_assoc, e, h1, h2, h3, Int64.zero_and, bMv_0 hd, Int64.zero_and, trn_0, Int64.or_zero]
    exact ⟨rfl, rfl, rfl⟩
/-! pure rows of 29.shine.txt -/
theorem beam_succ (L : Nat → Int64) (own cells : Int64) (dn n : Nat) : beamI L own cells dn (n + 1) = (bMv ((beamI L own cells dn n).1 &&& (wCells L (beamI L own cells dn n).2.1 ^^^ (-1))) (beamI L own cells dn n).2.1, trn L (bMv ((beamI L own cells dn n).1 &&& (wCells L (beamI L own cells dn n).2.1 ^^^ (-1))) (beamI L own cells dn n).2.1 &&& (own ^^^ (-1))) (beamI L own cells dn n).2.1, (beamI L own cells dn n).2.2 ||| bMv ((beamI L own cells dn n).1 &&& (wCells L (beamI L own cells dn n).2.1 ^^^ (-1))) (beamI L own cells dn n).2.1) := rfl
theorem beam_stop {L : Nat → Int64} {own cells : Int64} {f n c dn : Nat} {X : Int64} (hc : c < 63) (hd : dn < 4) (e : beamI L own cells f n = (bOnly c, dn, X)) (hs : lb (wCells L dn) c = true ∨ nbOk c dn = false) (hn : n < 6) : (beamI L own cells f 6).2.2 = X := by
  have e1 : beamI L own cells f (n + 1) = (0, dn, X) := by
    rw [beam_succ, e]
    show (bMv (bOnly c &&& (wCells L dn ^^^ (-1))) dn, trn L (bMv (bOnly c &&& (wCells L dn ^^^ (-1))) dn &&& (own ^^^ (-1))) dn, X ||| bMv (bOnly c &&& (wCells L dn ^^^ (-1))) dn) = _
    rw [beam_next hc hd, if_pos hs, Int64.zero_and, trn_0, Int64.or_zero]
  have r := beam_end (L := L) (own := own) (cells := cells) (dn := f) (n := n + 1) (by rw [e1]; exact hd) (by rw [e1]) (5 - n)
  rw [show n + 1 + (5 - n) = 6 by omega, e1] at r
  exact r.2.2
theorem beam_go {L : Nat → Int64} (D : InvD L) {o : Nat} (ho : o < 63) {cells : Int64} {f n c dn : Nat} {X : Int64} (hc : c < 63) (hd : dn < 4) (e : beamI L (bOnly o) cells f n = (bOnly c, dn, X)) (h1 : lb (wCells L dn) c = false) (h2 : nbOk c dn = true) : beamI L (bOnly o) cells f (n + 1) = (bOnly (nbOf c dn), if nbOf c dn = o then dn else trT dn (thg L (nbOf c dn)), X ||| bOnly (nbOf c dn)) := by
  rw [beam_succ, e]
  show (bMv (bOnly c &&& (wCells L dn ^^^ (-1))) dn, trn L (bMv (bOnly c &&& (wCells L dn ^^^ (-1))) dn &&& (bOnly o ^^^ (-1))) dn, X ||| bMv (bOnly c &&& (wCells L dn ^^^ (-1))) dn) = _
  rw [beam_next hc hd, if_neg (by simp [h1, h2]), trn_only D (nb_lt hc hd h2) ho]
/-! pure rows of 30.things.txt -/
theorem isIn_nI {a b t : Nat} (ha : a < 2 ^ 31) (hb : b < 2 ^ 31) (ht : t < 2 ^ 31) : (decide (¬ nI t < nI a) && decide (nI t ≤ nI b)) = (decide (a ≤ t) && decide (t ≤ b)) := by
  have e1 : (¬ nI t < nI a) ↔ a ≤ t := by
    rw [nI_ltI ht ha]
    omega
  rw [decide_eq_decide.mpr e1, decide_eq_decide.mpr (nI_leI ht hb)]
def inT (L : Nat → Int64) (a b : Nat) (c : Nat) : Bool := decide (a ≤ thg L c) && decide (thg L c ≤ b)
/-- how many things are alike, by the model -/
def alikeN (L : Nat → Int64) (t : Nat) : Nat := if t = 2 ∨ t = 3 then cntG (inT L 2 3) 63 else cntG (inT L t t) 63
/-! pure rows of 31.pop.txt -/
def dL (B : Nat) : Nat → (Nat → Nat) → Nat
  | 0, _ => 0
  | n + 1, d => d 0 + B * dL B n (fun k => d (k + 1))
theorem dL_cong {B : Nat} : ∀ {n : Nat} {d e : Nat → Nat}, (∀ k, k < n → d k = e k) → dL B n d = dL B n e
  | 0, _, _, _ => rfl
  | n + 1, d, e, h => by
    show d 0 + B * dL B n (fun k => d (k + 1)) = e 0 + B * dL B n (fun k => e (k + 1))
    rw [h 0 (by omega), dL_cong (n := n) (d := fun k => d (k + 1)) (e := fun k => e (k + 1)) (fun k hk => h (k + 1) (by omega))]
theorem dL_add {B : Nat} : ∀ (n : Nat) (d e : Nat → Nat), dL B n (fun k => d k + e k) = dL B n d + dL B n e
  | 0, _, _ => rfl
  | n + 1, d, e => by
    show d 0 + e 0 + B * dL B n (fun k => d (k + 1) + e (k + 1)) = d 0 + B * dL B n (fun k => d (k + 1)) + (e 0 + B * dL B n (fun k => e (k + 1)))
    rw [dL_add n (fun k => d (k + 1)) (fun k => e (k + 1)), Nat.mul_add]
    omega
theorem dL_lt {B : Nat} (hB : 0 < B) : ∀ (n : Nat) (d : Nat → Nat), (∀ k, k < n → d k < B) → dL B n d < B ^ n
  | 0, _, _ => by simp [dL]
  | n + 1, d, h => by
    have h0 := h 0 (by omega)
    have ih := dL_lt hB n (fun k => d (k + 1)) (fun k hk => h (k + 1) (by omega))
    show d 0 + B * dL B n (fun k => d (k + 1)) < _
    have h2 : B * (dL B n (fun k => d (k + 1)) + 1) ≤ B * B ^ n := Nat.mul_le_mul_left B ih
    rw [Nat.mul_add, Nat.mul_one] at h2
    rw [Nat.pow_succ, Nat.mul_comm (B ^ n) B]
    omega
theorem dL_top {B : Nat} : ∀ (n : Nat) (d : Nat → Nat), d n = 0 → dL B (n + 1) d = dL B n d
  | 0, d, h => by
    show d 0 + B * 0 = 0
    rw [h, Nat.mul_zero]
  | n + 1, d, h => by
    show d 0 + B * dL B (n + 1) (fun k => d (k + 1)) = d 0 + B * dL B n (fun k => d (k + 1))
    rw [dL_top n (fun k => d (k + 1)) h]
theorem dL_div {B n : Nat} {d : Nat → Nat} (h0 : d 0 < B) (hn : d n = 0) : dL B n d / B = dL B n (fun k => d (k + 1)) := by
  rw [← dL_top n d hn]
  show (d 0 + B * dL B n (fun k => d (k + 1))) / B = _
  rw [Nat.add_mul_div_left _ _ (by omega), Nat.div_eq_of_lt h0, Nat.zero_add]
theorem dL_and (s : Nat) : ∀ (n : Nat) (d e : Nat → Nat), (∀ k, k < n → d k < 2 ^ s) → (∀ k, k < n → e k < 2 ^ s) → dL (2 ^ s) n d &&& dL (2 ^ s) n e = dL (2 ^ s) n (fun k => d k &&& e k)
  | 0, _, _, _, _ => Nat.and_self 0
  | n + 1, d, e, h1, h2 => by
    have ih := dL_and s n (fun k => d (k + 1)) (fun k => e (k + 1)) (fun k hk => h1 (k + 1) (by omega)) (fun k hk => h2 (k + 1) (by omega))
    show (d 0 + 2 ^ s * dL (2 ^ s) n (fun k => d (k + 1))) &&& (e 0 + 2 ^ s * dL (2 ^ s) n (fun k => e (k + 1))) = (d 0 &&& e 0) + 2 ^ s * dL (2 ^ s) n (fun k => d (k + 1) &&& e (k + 1))
    rw [← ih, Nat.add_comm (d 0), Nat.add_comm (e 0), Nat.add_comm (d 0 &&& e 0)]
    have hd := h1 0 (by omega)
    have he := h2 0 (by omega)
    have hde : d 0 &&& e 0 < 2 ^ s := Nat.lt_of_le_of_lt Nat.and_le_left hd
    refine Nat.eq_of_testBit_eq (fun j => ?_)
    rw [Nat.testBit_and, Nat.testBit_two_pow_mul_add _ hd, Nat.testBit_two_pow_mul_add _ he, Nat.testBit_two_pow_mul_add _ hde]
    by_cases q : j < s
    · simp [q, Nat.testBit_and]
    · simp [q, Nat.testBit_and]
theorem dL_two {B : Nat} : ∀ (n : Nat) (d : Nat → Nat), dL B (2 * n) d = dL (B * B) n (fun k => d (2 * k) + B * d (2 * k + 1))
  | 0, _ => rfl
  | n + 1, d => by
    show d 0 + B * (d 1 + B * dL B (2 * n) (fun k => d (k + 1 + 1))) = d 0 + B * d 1 + B * B * dL (B * B) n (fun k => d (2 * (k + 1)) + B * d (2 * (k + 1) + 1))
    rw [dL_two n (fun k => d (k + 1 + 1)), Nat.mul_add, Nat.mul_assoc, Nat.add_assoc]
    rfl
theorem dL_bits : ∀ (n x : Nat), x < 2 ^ n → x = dL 2 n (fun i => (x.testBit i).toNat)
  | 0, x, h => by
    have : x = 0 := by simpa using h
    rw [this]
    rfl
  | n + 1, x, h => by
    have h2 : x / 2 < 2 ^ n := by
      rw [Nat.pow_succ] at h
      omega
    have ih := dL_bits n (x / 2) h2
    show x = (x.testBit 0).toNat + 2 * dL 2 n (fun k => (x.testBit (k + 1)).toNat)
    have e : dL 2 n (fun k => (x.testBit (k + 1)).toNat) = dL 2 n (fun k => ((x / 2).testBit k).toNat) := dL_cong (fun k _ => by rw [Nat.testBit_add_one])
    rw [e, ← ih, Nat.testBit_zero]
    by_cases q : x % 2 = 1
    · simp [q]; omega
    · simp [q]; omega
def sm : Nat → (Nat → Nat) → Nat
  | 0, _ => 0
  | n + 1, d => sm n d + d n
theorem sm_two : ∀ (n : Nat) (d : Nat → Nat), sm n (fun k => d (2 * k) + d (2 * k + 1)) = sm (2 * n) d
  | 0, _ => rfl
  | n + 1, d => by
    show sm n _ + (d (2 * n) + d (2 * n + 1)) = sm (2 * n) d + d (2 * n) + d (2 * n + 1)
    rw [sm_two n d]
    omega
theorem sm_cnt (p : Nat → Bool) : ∀ n, sm n (fun i => (p i).toNat) = cntG p n
  | 0 => rfl
  | n + 1 => by
    show sm n _ + (p n).toNat = if p n then cntG p n + 1 else cntG p n
    rw [sm_cnt p n]
    cases p n <;> rfl
theorem sm_le {b : Nat} : ∀ (n : Nat) (d : Nat → Nat), (∀ k, d k ≤ b) → sm n d ≤ b * n
  | 0, _, _ => Nat.zero_le _
  | n + 1, d, h => by
    have := sm_le n d h
    have h2 := h n
    show sm n d + d n ≤ b * (n + 1)
    rw [Nat.mul_add]
    omega
def nN (x : Int64) : Nat := x.toBitVec.toNat
theorem nN_and (x y : Int64) : nN (x &&& y) = nN x &&& nN y := by
  unfold nN
  rw [Int64.toBitVec_and, BitVec.toNat_and]
theorem nN_add {x y : Int64} (h : nN x + nN y < 2 ^ 64) : nN (x + y) = nN x + nN y := by
  unfold nN at *
  rw [Int64.toBitVec_add, BitVec.toNat_add, Nat.mod_eq_of_lt h]
theorem nN_sub {x y : Int64} (h : nN y ≤ nN x) : nN (x - y) = nN x - nN y := by
  unfold nN at *
  rw [Int64.toBitVec_sub, BitVec.toNat_sub_of_le h]
theorem nN_shr (x : Int64) (y : UInt64) (n : Nat) (hy : (y % 64).toNat = n) : nN (x.toUInt64 >>> y).toInt64 = nN x / 2 ^ n := by
  unfold nN
  have e : (x.toUInt64 >>> y).toInt64.toBitVec = x.toBitVec >>> n := by
    show (x.toUInt64 >>> y).toBitVec = _
    rw [UInt64.toBitVec_shiftRight, BitVec.ushiftRight_eq']
    congr 1
  rw [e, BitVec.toNat_ushiftRight, Nat.shiftRight_eq_div_pow]
theorem m5_dig : nN 6148914691236517205 = dL 2 64 (fun i => if i % 2 = 0 then 1 else 0) := by decide +kernel
theorem m3_dig : nN 3689348814741910323 = dL 4 32 (fun i => if i % 2 = 0 then 3 else 0) := by decide +kernel
theorem mf_dig : nN 1085102592571150095 = dL 16 16 (fun i => if i % 2 = 0 then 15 else 0) := by decide +kernel
theorem sh1 : (((1 : Int32).toInt64.toUInt64 &&& Int64.toUInt64 63) % 64).toNat = 1 := by decide +kernel
theorem sh2 : (((2 : Int32).toInt64.toUInt64 &&& Int64.toUInt64 63) % 64).toNat = 2 := by decide +kernel
theorem sh4 : (((4 : Int32).toInt64.toUInt64 &&& Int64.toUInt64 63) % 64).toNat = 4 := by decide +kernel
theorem sh8 : (((8 : Int32).toInt64.toUInt64 &&& Int64.toUInt64 63) % 64).toNat = 8 := by decide +kernel
theorem sh16 : (((16 : Int32).toInt64.toUInt64 &&& Int64.toUInt64 63) % 64).toNat = 16 := by decide +kernel
theorem sh32 : (((32 : Int32).toInt64.toUInt64 &&& Int64.toUInt64 63) % 64).toNat = 32 := by decide +kernel
theorem low7 : ∀ i : Fin 32, Nat.testBit 127 i.val = decide (i.val < 7) := by decide +kernel
theorem pop_low {g : Int64} {d0 y : Nat} (h : nN g = 2 ^ 8 * y + d0) (hd : d0 < 2 ^ 7) : g.toInt32 &&& 127 = nI d0 := by
  refine Int32.toBitVec_inj.mp (BitVec.eq_of_getLsbD_eq (fun i hi => ?_))
  have e1 : (g.toInt32 &&& 127).toBitVec = g.toBitVec.signExtend 32 &&& 127#32 := rfl
  have e2 : (nI d0).toBitVec = BitVec.ofNat 32 d0 := rfl
  rw [e1, e2, BitVec.getLsbD_and, BitVec.getLsbD_signExtend, BitVec.getLsbD_ofNat, BitVec.getLsbD_ofNat, (low7 ⟨i, hi⟩ : Nat.testBit 127 i = decide (i < 7))]
  have e3 : g.toBitVec.getLsbD i = (2 ^ 8 * y + d0).testBit i := by
    rw [← h]
    rfl
  have h64 : i < 64 := by omega
  rw [if_pos h64, e3, Nat.testBit_two_pow_mul_add _ (by omega : d0 < 2 ^ 8)]
  by_cases q : i < 7
  · have q8 : i < 8 := by omega
    simp [hi, q, q8]
  · have z : d0.testBit i = false := Nat.testBit_lt_two_pow (Nat.lt_of_lt_of_le hd (Nat.pow_le_pow_right (by omega) (by omega)))
    simp [hi, q, z]
theorem dL_mask (s n : Nat) (d : Nat → Nat) (h : ∀ k, d k < 2 ^ s) : dL (2 ^ s) (2 * n) d &&& dL (2 ^ s) (2 * n) (fun i => if i % 2 = 0 then 2 ^ s - 1 else 0) = dL (2 ^ s * 2 ^ s) n (fun k => d (2 * k)) := by
  have hp : 0 < 2 ^ s := Nat.two_pow_pos s
  rw [dL_and s (2 * n) _ _ (fun k _ => h k) (fun k _ => by split <;> omega), dL_two]
  refine dL_cong (fun k _ => ?_)
  have q1 : 2 * k % 2 = 0 := by omega
  have q2 : ¬ (2 * k + 1) % 2 = 0 := by omega
  show (d (2 * k) &&& (if 2 * k % 2 = 0 then 2 ^ s - 1 else 0)) + 2 ^ s * (d (2 * k + 1) &&& (if (2 * k + 1) % 2 = 0 then 2 ^ s - 1 else 0)) = d (2 * k)
  rw [if_pos q1, if_neg q2, Nat.and_two_pow_sub_one_of_lt_two_pow (h _), Nat.and_zero, Nat.mul_zero, Nat.add_zero]
theorem pop_cnt (x : Int64) : iPop x = nI (cntG (lb x) 64) := by
  obtain ⟨b, eb⟩ : ∃ b : Nat → Nat, b = fun i => (lb x i).toNat := ⟨_, rfl⟩
  have b1 : ∀ i, b i ≤ 1 := fun i => by rw [eb]; exact Bool.toNat_le _
  have b0 : ∀ i, 64 ≤ i → b i = 0 := fun i hi => by
    rw [eb]
    show (lb x i).toNat = 0
    rw [lb_big x hi]
    rfl
  obtain ⟨c, ec⟩ : ∃ c : Nat → Nat, c = fun k => b (2 * k) + b (2 * k + 1) := ⟨_, rfl⟩
  have c1 : ∀ k, c k ≤ 2 := fun k => by rw [ec]; have := b1 (2 * k); have := b1 (2 * k + 1); show b (2 * k) + b (2 * k + 1) ≤ 2; omega
  have c0 : ∀ k, 32 ≤ k → c k = 0 := fun k hk => by rw [ec]; show b (2 * k) + b (2 * k + 1) = 0; rw [b0 _ (by omega), b0 _ (by omega)]
  obtain ⟨e, ee⟩ : ∃ e : Nat → Nat, e = fun k => c (2 * k) + c (2 * k + 1) := ⟨_, rfl⟩
  have e1 : ∀ k, e k ≤ 4 := fun k => by rw [ee]; have := c1 (2 * k); have := c1 (2 * k + 1); show c (2 * k) + c (2 * k + 1) ≤ 4; omega
  have e0 : ∀ k, 16 ≤ k → e k = 0 := fun k hk => by rw [ee]; show c (2 * k) + c (2 * k + 1) = 0; rw [c0 _ (by omega), c0 _ (by omega)]
  obtain ⟨f, ef⟩ : ∃ f : Nat → Nat, f = fun k => e (2 * k) + e (2 * k + 1) := ⟨_, rfl⟩
  have f1 : ∀ k, f k ≤ 8 := fun k => by rw [ef]; have := e1 (2 * k); have := e1 (2 * k + 1); show e (2 * k) + e (2 * k + 1) ≤ 8; omega
  have f0 : ∀ k, 8 ≤ k → f k = 0 := fun k hk => by rw [ef]; show e (2 * k) + e (2 * k + 1) = 0; rw [e0 _ (by omega), e0 _ (by omega)]
  have hx : nN x = dL 2 (2 * 32) b := by rw [eb]; exact dL_bits 64 (nN x) x.toBitVec.isLt
  unfold iPop
  dsimp only
  -- pairs
  have A : nN (x - ((x.toUInt64 >>> ((1 : Int32).toInt64.toUInt64 &&& Int64.toUInt64 63)).toInt64 &&& 6148914691236517205)) = dL 4 (2 * 16) c := by
    have s1 : nN (x.toUInt64 >>> ((1 : Int32).toInt64.toUInt64 &&& Int64.toUInt64 63)).toInt64 = dL 2 (2 * 32) (fun k => b (k + 1)) := by
      rw [nN_shr _ _ 1 sh1, hx]
      exact dL_div (Nat.lt_succ_of_le (b1 0)) (b0 64 (by omega))
    have s2 : nN ((x.toUInt64 >>> ((1 : Int32).toInt64.toUInt64 &&& Int64.toUInt64 63)).toInt64 &&& 6148914691236517205) = dL 4 32 (fun k => b (2 * k + 1)) := by
      rw [nN_and, s1, m5_dig]
      exact dL_mask 1 32 (fun k => b (k + 1)) (fun k => Nat.lt_succ_of_le (b1 _))
    have s3 : nN x = dL 4 32 c + dL 4 32 (fun k => b (2 * k + 1)) := by
      rw [hx, dL_two, ← dL_add]
      refine dL_cong (fun k _ => ?_)
      rw [ec]
      show b (2 * k) + 2 * b (2 * k + 1) = b (2 * k) + b (2 * k + 1) + b (2 * k + 1)
      omega
    rw [nN_sub (by rw [s2, s3]; omega), s2, s3]
    exact Nat.add_sub_cancel _ _
  generalize x - ((x.toUInt64 >>> ((1 : Int32).toInt64.toUInt64 &&& Int64.toUInt64 63)).toInt64 &&& 6148914691236517205) = a at A
  have B : nN ((a &&& 3689348814741910323) + ((a.toUInt64 >>> ((2 : Int32).toInt64.toUInt64 &&& Int64.toUInt64 63)).toInt64 &&& 3689348814741910323)) = dL 16 (2 * 8) e := by
    have s1 : nN (a.toUInt64 >>> ((2 : Int32).toInt64.toUInt64 &&& Int64.toUInt64 63)).toInt64 = dL 4 (2 * 16) (fun k => c (k + 1)) := by
      rw [nN_shr _ _ 2 sh2, A]
      exact dL_div (by have := c1 0; omega) (c0 32 (by omega))
    have s2 : nN (a &&& 3689348814741910323) = dL 16 16 (fun k => c (2 * k)) := by
      rw [nN_and, A, m3_dig]
      exact dL_mask 2 16 c (fun k => by have := c1 k; omega)
    have s3 : nN ((a.toUInt64 >>> ((2 : Int32).toInt64.toUInt64 &&& Int64.toUInt64 63)).toInt64 &&& 3689348814741910323) = dL 16 16 (fun k => c (2 * k + 1)) := by
      rw [nN_and, s1, m3_dig]
      exact dL_mask 2 16 (fun k => c (k + 1)) (fun k => by have := c1 (k + 1); omega)
    have s4 : nN (a &&& 3689348814741910323) + nN ((a.toUInt64 >>> ((2 : Int32).toInt64.toUInt64 &&& Int64.toUInt64 63)).toInt64 &&& 3689348814741910323) = dL 16 16 e := by
      rw [s2, s3, ← dL_add, ee]
    rw [nN_add (by rw [s4]; exact dL_lt (by omega) 16 e (fun k _ => by have := e1 k; omega)), s4]
  generalize (a &&& 3689348814741910323) + ((a.toUInt64 >>> ((2 : Int32).toInt64.toUInt64 &&& Int64.toUInt64 63)).toInt64 &&& 3689348814741910323) = a2 at B
  have C : nN ((a2 + (a2.toUInt64 >>> ((4 : Int32).toInt64.toUInt64 &&& Int64.toUInt64 63)).toInt64) &&& 1085102592571150095) = dL 256 8 f := by
    have s1 : nN (a2.toUInt64 >>> ((4 : Int32).toInt64.toUInt64 &&& Int64.toUInt64 63)).toInt64 = dL 16 (2 * 8) (fun k => e (k + 1)) := by
      rw [nN_shr _ _ 4 sh4, B]
      exact dL_div (by have := e1 0; omega) (e0 16 (by omega))
    have s2 : nN a2 + nN (a2.toUInt64 >>> ((4 : Int32).toInt64.toUInt64 &&& Int64.toUInt64 63)).toInt64 = dL 16 (2 * 8) (fun k => e k + e (k + 1)) := by
      rw [B, s1, dL_add]
    rw [nN_and, nN_add (by rw [s2]; exact dL_lt (by omega) 16 _ (fun k _ => by have := e1 k; have := e1 (k + 1); omega)), s2, mf_dig, ef]
    exact dL_mask 4 8 (fun k => e k + e (k + 1)) (fun k => by have := e1 k; have := e1 (k + 1); show e k + e (k + 1) < 16; omega)
  generalize (a2 + (a2.toUInt64 >>> ((4 : Int32).toInt64.toUInt64 &&& Int64.toUInt64 63)).toInt64) &&& 1085102592571150095 = a3 at C
  obtain ⟨g, eg⟩ : ∃ g : Nat → Nat, g = fun k => f k + f (k + 1) := ⟨_, rfl⟩
  have g1 : ∀ k, g k ≤ 16 := fun k => by rw [eg]; have := f1 k; have := f1 (k + 1); show f k + f (k + 1) ≤ 16; omega
  have g0 : ∀ k, 8 ≤ k → g k = 0 := fun k hk => by rw [eg]; show f k + f (k + 1) = 0; rw [f0 _ (by omega), f0 _ (by omega)]
  obtain ⟨p, ep⟩ : ∃ p : Nat → Nat, p = fun k => g k + g (k + 2) := ⟨_, rfl⟩
  have p1 : ∀ k, p k ≤ 32 := fun k => by rw [ep]; have := g1 k; have := g1 (k + 2); show g k + g (k + 2) ≤ 32; omega
  have p0 : ∀ k, 8 ≤ k → p k = 0 := fun k hk => by rw [ep]; show g k + g (k + 2) = 0; rw [g0 _ (by omega), g0 _ (by omega)]
  have D : nN (a3 + (a3.toUInt64 >>> ((8 : Int32).toInt64.toUInt64 &&& Int64.toUInt64 63)).toInt64) = dL 256 8 g := by
    have s1 : nN (a3.toUInt64 >>> ((8 : Int32).toInt64.toUInt64 &&& Int64.toUInt64 63)).toInt64 = dL 256 8 (fun k => f (k + 1)) := by
      rw [nN_shr _ _ 8 sh8, C]
      exact dL_div (by have := f1 0; omega) (f0 8 (by omega))
    have s2 : nN a3 + nN (a3.toUInt64 >>> ((8 : Int32).toInt64.toUInt64 &&& Int64.toUInt64 63)).toInt64 = dL 256 8 g := by
      rw [C, s1, ← dL_add, eg]
    rw [nN_add (by rw [s2]; exact dL_lt (by omega) 8 g (fun k _ => by have := g1 k; omega)), s2]
  generalize a3 + (a3.toUInt64 >>> ((8 : Int32).toInt64.toUInt64 &&& Int64.toUInt64 63)).toInt64 = a4 at D
  have E : nN (a4 + (a4.toUInt64 >>> ((16 : Int32).toInt64.toUInt64 &&& Int64.toUInt64 63)).toInt64) = dL 256 8 p := by
    have s1 : nN (a4.toUInt64 >>> ((16 : Int32).toInt64.toUInt64 &&& Int64.toUInt64 63)).toInt64 = dL 256 8 (fun k => g (k + 2)) := by
      rw [nN_shr _ _ 16 sh16, D, show 2 ^ 16 = 256 * 256 from rfl, ← Nat.div_div_eq_div_mul, dL_div (by have := g1 0; omega) (g0 8 (by omega))]
      exact dL_div (B := 256) (n := 8) (d := fun k => g (k + 1)) (by have := g1 1; show g 1 < 256; omega) (g0 9 (by omega))
    have s2 : nN a4 + nN (a4.toUInt64 >>> ((16 : Int32).toInt64.toUInt64 &&& Int64.toUInt64 63)).toInt64 = dL 256 8 p := by
      rw [D, s1, ← dL_add, ep]
    rw [nN_add (by rw [s2]; exact dL_lt (by omega) 8 p (fun k _ => by have := p1 k; omega)), s2]
  generalize a4 + (a4.toUInt64 >>> ((16 : Int32).toInt64.toUInt64 &&& Int64.toUInt64 63)).toInt64 = a5 at E
  have F : nN (a5 + (a5.toUInt64 >>> ((32 : Int32).toInt64.toUInt64 &&& Int64.toUInt64 63)).toInt64) = dL 256 8 (fun k => p k + p (k + 4)) := by
    have s1 : nN (a5.toUInt64 >>> ((32 : Int32).toInt64.toUInt64 &&& Int64.toUInt64 63)).toInt64 = dL 256 8 (fun k => p (k + 4)) := by
      rw [nN_shr _ _ 32 sh32, E, show 2 ^ 32 = 256 * 256 * 256 * 256 from rfl, ← Nat.div_div_eq_div_mul, ← Nat.div_div_eq_div_mul, ← Nat.div_div_eq_div_mul, dL_div (by have := p1 0; omega) (p0 8 (by omega))]
      rw [dL_div (B := 256) (n := 8) (d := fun k => p (k + 1)) (by have := p1 1; show p 1 < 256; omega) (p0 9 (by omega))]
      rw [dL_div (B := 256) (n := 8) (d := fun k => p (k + 1 + 1)) (by have := p1 2; show p 2 < 256; omega) (p0 10 (by omega))]
      exact dL_div (B := 256) (n := 8) (d := fun k => p (k + 1 + 1 + 1)) (by have := p1 3; show p 3 < 256; omega) (p0 11 (by omega))
    have s2 : nN a5 + nN (a5.toUInt64 >>> ((32 : Int32).toInt64.toUInt64 &&& Int64.toUInt64 63)).toInt64 = dL 256 8 (fun k => p k + p (k + 4)) := by
      rw [E, s1, ← dL_add]
    rw [nN_add (by rw [s2]; exact dL_lt (by omega) 8 _ (fun k _ => by have := p1 k; have := p1 (k + 4); omega)), s2]
  have cnt : p 0 + p (0 + 4) = cntG (lb x) 64 := by
    have q1 : p 0 + p (0 + 4) = sm 8 f := by
      rw [ep, eg]
      show f 0 + f 1 + (f 2 + f 3) + (f 4 + f 5 + (f 6 + f 7)) = 0 + f 0 + f 1 + f 2 + f 3 + f 4 + f 5 + f 6 + f 7
      omega
    rw [q1, ef, sm_two 8 e, ee, sm_two 16 c, ec, sm_two 32 b, eb]
    exact sm_cnt (lb x) 64
  show (a5 + (a5.toUInt64 >>> ((32 : Int32).toInt64.toUInt64 &&& Int64.toUInt64 63)).toInt64).toInt32 &&& 127 = _
  rw [← cnt]
  refine pop_low (y := dL 256 7 (fun k => p (k + 1) + p (k + 1 + 4))) ?_ (by have := p1 0; have := p1 4; show p 0 + p 4 < 128; omega)
  rw [F]
  exact Nat.add_comm _ _
theorem cntG_cong {p q : Nat → Bool} : ∀ {n : Nat}, (∀ i, i < n → p i = q i) → cntG p n = cntG q n
  | 0, _ => rfl
  | n + 1, h => by
    show (if p n then cntG p n + 1 else cntG p n) = (if q n then cntG q n + 1 else cntG q n)
    rw [h n (by omega), cntG_cong (n := n) (fun i hi => h i (by omega))]
theorem pop63 {x : Int64} (h : SB x) : iPop x = nI (cntG (lb x) 63) := by
  rw [pop_cnt]
  congr 1
  show (if lb x 63 then cntG (lb x) 63 + 1 else cntG (lb x) 63) = _
  rw [show lb x 63 = false from h]
  rfl
/-! pure rows of 32.ops.txt -/
theorem reL_ne {L : Nat → Int64} {k : Nat} (h : k ≠ 7) : reL L k = L k := if_neg h
theorem thg_0 {L : Nat → Int64} {c : Nat} (h : thg L c = 0) : lb (L 0) c = false ∧ lb (L 2) c = false ∧ lb (L 3) c = false ∧ lb (L 4) c = false := by
  unfold thg at h
  cases e0 : lb (L 0) c <;> cases e2 : lb (L 2) c <;> cases e3 : lb (L 3) c <;> cases e4 : lb (L 4) c <;> simp [e0, e2, e3, e4] at h ⊢
theorem thg_of {L L' : Nat → Int64} {j : Nat} (h0 : lb (L' 0) j = lb (L 0) j) (h2 : lb (L' 2) j = lb (L 2) j) (h3 : lb (L' 3) j = lb (L 3) j) (h4 : lb (L' 4) j = lb (L 4) j) : thg L' j = thg L j := by
  unfold thg
  rw [h0, h2, h3, h4]
theorem or_only {x : Int64} {c j : Nat} (hc : c < 63) : lb (x ||| bOnly c) j = (lb x j || decide (j = c)) := by
  rw [lb_or, lb_only (by omega)]
theorem and_but {x : Int64} {c j : Nat} (hc : c < 63) (hj : j < 63) : lb (x &&& (bOnly c ^^^ (-1))) j = (lb x j && !decide (j = c)) := by
  rw [lb_and, lb_not (by omega), lb_only (by omega)]
theorem candle_th {L : Nat → Int64} {c : Nat} (hc : c < 63) : ∀ j, j < 63 → thg (reL (oCandle L c)) j = if j = c then 1 else thg L j := by
  intro j hj
  have e0 : reL (oCandle L c) 0 = L 0 ||| bOnly c := rfl
  by_cases e : j = c
  · rw [if_pos e]
    unfold thg
    rw [e0, or_only hc]
    simp [e]
  · rw [if_neg e]
    refine thg_of ?_ rfl rfl rfl
    rw [e0, or_only hc]
    simp [e]
theorem candle_bu {L : Nat → Int64} {c : Nat} (hc : c < 63) : ∀ j, j < 63 → lb (reL (oCandle L c) 1) j = if j = c then true else lb (L 1) j := by
  intro j hj
  have e0 : reL (oCandle L c) 1 = L 1 ||| bOnly c := rfl
  rw [e0, or_only hc]
  by_cases e : j = c <;> simp [e]
theorem mirror_th {L : Nat → Int64} {c : Nat} (hc : c < 63) (h0 : thg L c = 0) (b : Bool) : ∀ j, j < 63 → thg (reL (oMirror L c b)) j = if j = c then (if b then 2 else 3) else thg L j := by
  intro j hj
  obtain ⟨a0, a2, a3, a4⟩ := thg_0 h0
  cases b with
  | true =>
    have e2 : reL (oMirror L c true) 2 = L 2 ||| bOnly c := rfl
    by_cases e : j = c
    · rw [if_pos e]
      unfold thg
      rw [e2, or_only hc, show reL (oMirror L c true) 0 = L 0 from rfl, e, a0]
      simp
    · rw [if_neg e]
      refine thg_of rfl ?_ rfl rfl
      rw [e2, or_only hc]
      simp [e]
  | false =>
    have e2 : reL (oMirror L c false) 3 = L 3 ||| bOnly c := rfl
    by_cases e : j = c
    · rw [if_pos e]
      unfold thg
      rw [e2, or_only hc, show reL (oMirror L c false) 0 = L 0 from rfl, show reL (oMirror L c false) 2 = L 2 from rfl, e, a0, a2]
      simp
    · rw [if_neg e]
      refine thg_of rfl rfl ?_ rfl
      rw [e2, or_only hc]
      simp [e]
theorem mirror_1 (L : Nat → Int64) (c : Nat) (b : Bool) : reL (oMirror L c b) 1 = L 1 ∧ reL (oMirror L c b) 5 = L 5 ∧ reL (oMirror L c b) 6 = L 6 := by
  cases b <;> exact ⟨rfl, rfl, rfl⟩
theorem tally_th {L : Nat → Int64} {c : Nat} (hc : c < 63) (h0 : thg L c = 0) : ∀ j, j < 63 → thg (oTally L c) j = if j = c then 4 else thg L j := by
  intro j hj
  obtain ⟨a0, a2, a3, a4⟩ := thg_0 h0
  have e4 : oTally L c 4 = L 4 ||| bOnly c := rfl
  by_cases e : j = c
  · rw [if_pos e]
    unfold thg
    rw [e4, or_only hc, show oTally L c 0 = L 0 from rfl, show oTally L c 2 = L 2 from rfl, show oTally L c 3 = L 3 from rfl, e, a0, a2, a3]
    simp
  · rw [if_neg e]
    refine thg_of rfl rfl rfl ?_
    rw [e4, or_only hc]
    simp [e]
theorem clear_th {L : Nat → Int64} {c : Nat} (hc : c < 63) : ∀ j, j < 63 → thg (reL (oClear L c)) j = if j = c then 0 else thg L j := by
  intro j hj
  have e0 : reL (oClear L c) 0 = L 0 &&& (bOnly c ^^^ (-1)) := rfl
  have e2 : reL (oClear L c) 2 = L 2 &&& (bOnly c ^^^ (-1)) := rfl
  have e3 : reL (oClear L c) 3 = L 3 &&& (bOnly c ^^^ (-1)) := rfl
  have e4 : reL (oClear L c) 4 = L 4 &&& (bOnly c ^^^ (-1)) := rfl
  by_cases e : j = c
  · rw [if_pos e]
    unfold thg
    rw [e0, e2, e3, e4, and_but hc hj, and_but hc hj, and_but hc hj, and_but hc hj]
    simp [e]
  · rw [if_neg e]
    refine thg_of ?_ ?_ ?_ ?_
    · rw [e0, and_but hc hj]; simp [e]
    · rw [e2, and_but hc hj]; simp [e]
    · rw [e3, and_but hc hj]; simp [e]
    · rw [e4, and_but hc hj]; simp [e]
theorem clear_bu {L : Nat → Int64} {c : Nat} (hc : c < 63) : ∀ j, j < 63 → lb (reL (oClear L c) 1) j = if j = c then false else lb (L 1) j := by
  intro j hj
  have e0 : reL (oClear L c) 1 = L 1 &&& (bOnly c ^^^ (-1)) := rfl
  rw [e0, and_but hc hj]
  by_cases e : j = c <;> simp [e]
/-- what holds of a class's things between its calls -/
def InvT (L : Nat → Int64) (am : Nat → Int32) : Prop :=
  (∀ k, k < 5 → ∀ c, lb (L k) c = true → c < 63) ∧
  (∀ c, lb (L 0) c = true → lb (L 2) c = false ∧ lb (L 3) c = false ∧ lb (L 4) c = false) ∧ (∀ c, lb (L 2) c = true → lb (L 3) c = false ∧ lb (L 4) c = false) ∧ (∀ c, lb (L 3) c = true → lb (L 4) c = false) ∧
  (∀ c, lb (L 1) c = true → lb (L 0) c = true ∧ ∃ v, v < 100 ∧ am c = nI (v + 1)) ∧
  (∀ c, c < 63 → ∃ v, v < 100 ∧ am c = nI v ∧ (thg L c = 1 → v ≤ 60) ∧ (thg L c ≠ 1 → thg L c ≠ 4 → v = 0))
theorem in11 (L : Nat → Int64) (c : Nat) : inT L 1 1 c = lb (L 0) c := by
  unfold inT thg
  cases lb (L 0) c <;> cases lb (L 2) c <;> cases lb (L 3) c <;> cases lb (L 4) c <;> rfl
theorem in23 {L : Nat → Int64} {am : Nat → Int32} (I : InvT L am) (c : Nat) : inT L 2 3 c = (lb (L 2) c || lb (L 3) c) := by
  have q := I.2.1 c
  unfold inT thg
  cases e0 : lb (L 0) c with
  | true =>
    obtain ⟨q2, q3, q4⟩ := q e0
    rw [q2, q3]
    rfl
  | false => cases lb (L 2) c <;> cases lb (L 3) c <;> cases lb (L 4) c <;> rfl
theorem in44 {L : Nat → Int64} {am : Nat → Int32} (I : InvT L am) (c : Nat) : inT L 4 4 c = lb (L 4) c := by
  have q := I.2.1 c
  have r := I.2.2.1 c
  have s := I.2.2.2.1 c
  unfold inT thg
  cases e4 : lb (L 4) c with
  | false => cases lb (L 0) c <;> cases lb (L 2) c <;> cases lb (L 3) c <;> rfl
  | true =>
    cases e0 : lb (L 0) c with
    | true => exact absurd e4 (by rw [(q e0).2.2]; decide)
    | false =>
      cases e2 : lb (L 2) c with
      | true => exact absurd e4 (by rw [(r e2).2]; decide)
      | false =>
        cases e3 : lb (L 3) c with
        | true => exact absurd e4 (by rw [s e3]; decide)
        | false => rfl
/-! pure rows of 33.mthings.txt -/
theorem SB_of {L : Nat → Int64} {am : Nat → Int32} (T : InvT L am) {k : Nat} (hk : k < 5) : SB (L k) := by
  unfold SB
  cases e : lb (L k) 63 with
  | false => rfl
  | true => exact absurd (T.1 k hk 63 e) (by omega)
theorem pop_in {L : Nat → Int64} {x : Int64} {a b : Nat} (h : SB x) (e : ∀ c, inT L a b c = lb x c) : iPop x = nI (cntG (inT L a b) 63) := by
  rw [pop63 h]
  exact congrArg nI (cntG_cong (fun i _ => (e i).symm))
theorem or_SB {x : Int64} {c : Nat} (h : SB x) (hc : c < 63) : SB (x ||| bOnly c) := by
  unfold SB at *
  rw [lb_or, h, lb_only (by omega)]
  simp
  omega
theorem lt_ne {n k : Nat} (hn : n ≤ k) (hk : k < 2 ^ 31) : nI n < nI k ↔ ¬ nI n = nI k := by
  rw [nI_ltI (by omega) hk, nI_eq (by omega) hk]
  omega
/-! pure rows of 34.mthings2.txt -/
theorem or_SB2 {x z : Int64} (h : SB x) (k : SB z) : SB (x ||| z) := by
  unfold SB at *
  rw [lb_or, h, k]
  rfl
theorem pop_23 {L : Nat → Int64} {am : Nat → Int32} (T : InvT L am) : iPop (L 2 ||| L 3) = nI (cntG (inT L 2 3) 63) := pop_in (or_SB2 (SB_of T (by omega)) (SB_of T (by omega))) (fun c => (in23 T c).trans (lb_or _ _ _).symm)
theorem bu_no {L : Nat → Int64} {am : Nat → Int32} (T : InvT L am) {c : Nat} (h : lb (L 0) c = false) : lb (L 1) c = false := by
  cases eb : lb (L 1) c with
  | false => rfl
  | true => exact absurd (T.2.2.2.2.1 _ eb).1 (by rw [h]; decide)
theorem va_no {L : Nat → Int64} {am : Nat → Int32} (T : InvT L am) {c : Nat} (hc : c < 63) (h : thg L c = 0) : am c = 0 := by
  obtain ⟨v, -, ev, -, ez⟩ := T.2.2.2.2.2 _ hc
  rw [ev, ez (by omega) (by omega)]
  rfl
theorem if_self {α : Type} {f : Nat → α} {v : α} {j c : Nat} (h : f c = v) : f j = if j = c then v else f j := by
  by_cases e : j = c
  · rw [if_pos e, e, h]
  · rw [if_neg e]
/-! pure rows of 35.told.txt -/
theorem add_b01 (n : Nat) (b : Bool) : nI n + b01 b = nI (if b then n + 1 else n) := by
  cases b with
  | false => exact Int32.add_zero _
  | true => exact nI_1 n
theorem cntG_succ (p : Nat → Bool) (n : Nat) : cntG p (n + 1) = if p n then cntG p n + 1 else cntG p n := rfl
theorem thg4 {L : Nat → Int64} {am : Nat → Int32} (T : InvT L am) (c : Nat) : thg L c = 4 ↔ lb (L 4) c = true := by
  rw [← in44 T c]
  unfold inT
  rw [Bool.and_eq_true, decide_eq_true_eq, decide_eq_true_eq]
  omega
theorem W_SB {L : Nat → Int64} (I : InvW L) : SB (L 5) ∧ SB (L 6) := by
  unfold SB
  refine ⟨?_, ?_⟩
  · cases e : lb (L 5) 63 with
    | false => rfl
    | true => exact absurd (I.1 _ e).1 (by omega)
  · cases e : lb (L 6) 63 with
    | false => rfl
    | true => exact absurd (I.2 _ e) (by omega)
/-! pure rows of 36.told2.txt -/
theorem sumT_set {G : Nat → Nat → Nat} {g k v : Nat} (hk : k ≠ 4) : ∀ n, sumT (setG G g k v) 6 n = sumT G 6 n
  | 0 => rfl
  | n + 1 => by
    show sumT (setG G g k v) 6 n + setG G g k v n 4 = sumT G 6 n + G n 4
    rw [sumT_set hk n]
    unfold setG
    rw [if_neg (fun z => hk z.2.symm)]
/-! pure rows of 37.told3.txt -/
/-! pure rows of 38.walled.txt -/
theorem okR_3 {w : Int32} : (decide (¬ w < 0) && decide (w ≤ 3)) = okR w 4 := okR_in (k := 3) (by omega)
/-! pure rows of 39.mlight.txt -/
theorem thg1 (L : Nat → Int64) (c : Nat) : thg L c = 1 ↔ lb (L 0) c = true := by
  rw [← in11 L c]
  unfold inT
  rw [Bool.and_eq_true, decide_eq_true_eq, decide_eq_true_eq]
  omega
theorem switch_bu {L : Nat → Int64} {c : Nat} (hc : c < 63) : ∀ j, j < 63 → lb (reL (oSwitch L c) 1) j = if j = c then !lb (L 1) c else lb (L 1) j := by
  intro j hj
  have e0 : reL (oSwitch L c) 1 = L 1 ^^^ bOnly c := rfl
  rw [e0, lb_xor, lb_only (by omega)]
  by_cases e : j = c
  · rw [if_pos e, e]
    simp
  · simp [e]
theorem switch_k {L : Nat → Int64} {c : Nat} : ∀ k, k ≠ 1 → k ≠ 7 → reL (oSwitch L c) k = L k := by
  intro k k1 k7
  rw [reL_ne k7]
  exact if_neg k1
theorem one_b01 (b : Bool) : (1 : Int32) - b01 b = b01 (!b) := by cases b <;> rfl
/-! pure rows of 40.shines.txt -/
theorem beam_SBs {L : Nat → Int64} {own cells : Int64} {dn : Nat} (ho : SB own) (hc : SB cells) (hd : dn < 4) : ∀ n, SB (beamI L own cells dn n).1 ∧ (beamI L own cells dn n).2.1 < 4 ∧ SB (beamI L own cells dn n).2.2
  | 0 => ⟨ho, hd, hc⟩
  | n + 1 => by
    obtain ⟨a, b, c⟩ := beam_SBs ho hc hd n
    have s := bMv_SB (and_SB (y := wCells L (beamI L own cells dn n).2.1 ^^^ (-1)) a) b
    rw [beam_succ]
    exact ⟨s, trn_lt b, or_SB2 c s⟩
theorem litF_SBs {L : Nat → Int64} {own : Int64} (ho : SB own) : ∀ n, n ≤ 4 → SB (litF L own n)
  | 0, _ => ho
  | n + 1, h => (beam_SBs ho (litF_SBs ho n (by omega)) (by omega : n < 4) 6).2.2
theorem litFrom_SBs {L : Nat → Int64} {c : Nat} (hc : c < 63) : SB (litFrom L c) := litF_SBs (bOnly_SB hc) 4 (Nat.le_refl _)
theorem relit_SBs {L : Nat → Int64} : ∀ n, n ≤ 63 → SB (relitN L n)
  | 0, _ => by
    show SB 0
    unfold SB
    exact lb_0 _
  | n + 1, h => by
    show SB (if lb (L 1) n then relitN L n ||| litFrom L n else relitN L n)
    have ih := relit_SBs (L := L) n (by omega)
    split
    · exact or_SB2 ih (litFrom_SBs (by omega))
    · exact ih
/-! pure rows of 41.ghost.txt -/
/-! pure rows of 42.ghost2.txt -/
/-! pure rows of 43.mean.txt -/
/-! pure rows of 44.sets.txt -/
def ex4 (p : Nat → Bool) : Bool := p 0 || (p 1 || (p 2 || p 3))
theorem ex4_iff {p : Nat → Bool} : ex4 p = true ↔ ∃ d, d < 4 ∧ p d = true := by
  unfold ex4
  constructor
  · intro h
    rw [Bool.or_eq_true, Bool.or_eq_true, Bool.or_eq_true] at h
    rcases h with h | h | h | h
    · exact ⟨0, by omega, h⟩
    · exact ⟨1, by omega, h⟩
    · exact ⟨2, by omega, h⟩
    · exact ⟨3, by omega, h⟩
  · rintro ⟨d, hd, h⟩
    match d, hd with
    | 0, _ => simp [h]
    | 1, _ => simp [h]
    | 2, _ => simp [h]
    | 3, _ => simp [h]
theorem ex4_cong {p q : Nat → Bool} (h : ∀ d, d < 4 → p d = q d) : ex4 p = ex4 q := by
  unfold ex4
  rw [h 0 (by omega), h 1 (by omega), h 2 (by omega), h 3 (by omega)]
theorem opp_lt {e : Nat} (he : e < 4) : opp e < 4 := by
  match e, he with
  | 0, _ => decide
  | 1, _ => decide
  | 2, _ => decide
  | 3, _ => decide
theorem nb_opp {c e : Nat} (hc : c < 63) (he : e < 4) (h : nbOk c e = true) : nbOk (nbOf c e) (opp e) = true ∧ nbOf (nbOf c e) (opp e) = c := by
  have : ∀ c : Fin 63, ∀ e : Fin 4, nbOk c.val e.val = true → nbOk (nbOf c.val e.val) (opp e.val) = true ∧ nbOf (nbOf c.val e.val) (opp e.val) = c.val := by decide +kernel
  exact this ⟨c, hc⟩ ⟨e, he⟩ h
theorem wall_sym {L : Nat → Int64} (I : InvW L) {c e : Nat} (hc : c < 63) (he : e < 4) (ho : nbOk c e = true) : lb (wCells L (opp e)) (nbOf c e) = lb (wCells L e) c := by
  rcases (show e = 0 ∨ e = 1 ∨ e = 2 ∨ e = 3 by omega) with rfl | rfl | rfl | rfl
  · have q : 9 ≤ c := of_decide_eq_true ho
    rw [wC0 hc]
    show lb (L 6) (c - 9) = _
    simp [q]
  · have q : c % 9 ≠ 8 := of_decide_eq_true ho
    have q2 : (c + 1) % 9 ≠ 0 := by omega
    show lb (wCells L 3) (c + 1) = lb (L 5) c
    rw [wC3 I (by omega)]
    show (decide ((c + 1) % 9 ≠ 0) && lb (L 5) (c + 1 - 1)) = _
    simp [q2]
  · have q : c < 54 := of_decide_eq_true ho
    show lb (wCells L 0) (c + 9) = lb (L 6) c
    rw [wC0 (by omega)]
    simp
  · rw [wC3 I hc, ho]
    rfl
def wA (L : Nat → Int64) (lt : Nat → Bool) (go : Nat) : Nat → Nat → Bool
  | 0, c => decide (c = go)
  | n + 1, c => wA L lt go n c || ex4 (fun e => nbOk c e && (!lb (wCells L e) c && (!lt (nbOf c e) && wA L lt go n (nbOf c e))))
def wB (L : Nat → Int64) (lt : Nat → Bool) (go : Nat) : Nat → Nat → Bool
  | 0, c => decide (c = go)
  | n + 1, c => wB L lt go n c || ex4 (fun e => nbOk c e && (!lt (nbOf c e) && (if lb (wCells L e) c then wA L lt go n (nbOf c e) else wB L lt go n (nbOf c e))))
def wF (L : Nat → Int64) (lt : Nat → Bool) (go : Nat) (mp : Bool) (n c : Nat) : Bool := if mp then wB L lt go n c else wA L lt go n c
section WS
variable {L : Nat → Int64} {lt : Nat → Bool} {go : Nat}
theorem wA_suc (n c : Nat) : wA L lt go (n + 1) c = (wA L lt go n c || ex4 (fun e => nbOk c e && (!lb (wCells L e) c && (!lt (nbOf c e) && wA L lt go n (nbOf c e))))) := rfl
theorem wB_suc (n c : Nat) : wB L lt go (n + 1) c = (wB L lt go n c || ex4 (fun e => nbOk c e && (!lt (nbOf c e) && (if lb (wCells L e) c then wA L lt go n (nbOf c e) else wB L lt go n (nbOf c e))))) := rfl
theorem wA_step {n c e : Nat} (he : e < 4) (h1 : nbOk c e = true) (h2 : lb (wCells L e) c = false) (h3 : lt (nbOf c e) = false) (h4 : wA L lt go n (nbOf c e) = true) : wA L lt go (n + 1) c = true := by
  rw [wA_suc, Bool.or_eq_true, ex4_iff]
  exact Or.inr ⟨e, he, by simp [h1, h2, h3, h4]⟩
theorem wA_back {n c : Nat} (h : wA L lt go (n + 1) c = true) : wA L lt go n c = true ∨ ∃ e, e < 4 ∧ nbOk c e = true ∧ lb (wCells L e) c = false ∧ lt (nbOf c e) = false ∧ wA L lt go n (nbOf c e) = true := by
  rw [wA_suc, Bool.or_eq_true, ex4_iff] at h
  rcases h with h | ⟨e, he, h⟩
  · exact Or.inl h
  · rw [Bool.and_eq_true, Bool.and_eq_true, Bool.and_eq_true, Bool.not_eq_true', Bool.not_eq_true'] at h
    exact Or.inr ⟨e, he, h.1, h.2.1, h.2.2.1, h.2.2.2⟩
theorem wB_step {n c e : Nat} (he : e < 4) (h1 : nbOk c e = true) (h2 : lb (wCells L e) c = false) (h3 : lt (nbOf c e) = false) (h4 : wB L lt go n (nbOf c e) = true) : wB L lt go (n + 1) c = true := by
  rw [wB_suc, Bool.or_eq_true, ex4_iff]
  exact Or.inr ⟨e, he, by simp [h1, h2, h3, h4]⟩
theorem wB_wall {n c e : Nat} (he : e < 4) (h1 : nbOk c e = true) (h2 : lb (wCells L e) c = true) (h3 : lt (nbOf c e) = false) (h4 : wA L lt go n (nbOf c e) = true) : wB L lt go (n + 1) c = true := by
  rw [wB_suc, Bool.or_eq_true, ex4_iff]
  exact Or.inr ⟨e, he, by simp [h1, h2, h3, h4]⟩
theorem wB_back {n c : Nat} (h : wB L lt go (n + 1) c = true) : wB L lt go n c = true ∨ ∃ e, e < 4 ∧ nbOk c e = true ∧ lt (nbOf c e) = false ∧ ((lb (wCells L e) c = false ∧ wB L lt go n (nbOf c e) = true) ∨ (lb (wCells L e) c = true ∧ wA L lt go n (nbOf c e) = true)) := by
  rw [wB_suc, Bool.or_eq_true, ex4_iff] at h
  rcases h with h | ⟨e, he, h⟩
  · exact Or.inl h
  · rw [Bool.and_eq_true, Bool.and_eq_true, Bool.not_eq_true'] at h
    refine Or.inr ⟨e, he, h.1, h.2.1, ?_⟩
    have h9 := h.2.2
    cases ew : lb (wCells L e) c with
    | false =>
      rw [ew] at h9
      exact Or.inl ⟨rfl, h9⟩
    | true =>
      rw [ew] at h9
      exact Or.inr ⟨rfl, h9⟩
theorem wA_up {n c : Nat} (h : wA L lt go n c = true) : wA L lt go (n + 1) c = true := by
  rw [wA_suc, h]; rfl
theorem wB_up {n c : Nat} (h : wB L lt go n c = true) : wB L lt go (n + 1) c = true := by
  rw [wB_suc, h]; rfl
theorem wA_le {n c : Nat} (h : wA L lt go n c = true) : ∀ k, wA L lt go (n + k) c = true
  | 0 => h
  | k + 1 => wA_up (wA_le h k)
theorem wB_le {n c : Nat} (h : wB L lt go n c = true) : ∀ k, wB L lt go (n + k) c = true
  | 0 => h
  | k + 1 => wB_up (wB_le h k)
theorem wA_B : ∀ n c, wA L lt go n c = true → wB L lt go n c = true
  | 0, _, h => h
  | n + 1, c, h => by
    rcases wA_back h with h | ⟨e, he, h1, h2, h3, h4⟩
    · exact wB_up (wA_B n c h)
    · exact wB_step he h1 h2 h3 (wA_B n _ h4)
theorem wA_F {mp : Bool} {n c : Nat} (h : wA L lt go n c = true) : wF L lt go mp n c = true := by
  cases mp with
  | false => exact h
  | true => exact wA_B n c h
theorem cnt_le (p : Nat → Bool) : ∀ n, cntG p n ≤ n
  | 0 => Nat.le_refl _
  | n + 1 => by
    have := cnt_le p n
    rw [cntG_succ]
    split <;> omega
theorem cnt_mono {p q : Nat → Bool} : ∀ n, (∀ i, i < n → p i = true → q i = true) → cntG p n ≤ cntG q n
  | 0, _ => Nat.le_refl _
  | n + 1, h => by
    have ih := cnt_mono n (fun i hi => h i (by omega))
    rw [cntG_succ, cntG_succ]
    cases e : p n with
    | false =>
      cases e2 : q n <;> simp <;> omega
    | true =>
      rw [h n (by omega) e]
      simp
      omega
theorem cnt_lt {p q : Nat → Bool} {x : Nat} : ∀ n, x < n → (∀ i, i < n → p i = true → q i = true) → p x = false → q x = true → cntG p n < cntG q n
  | 0, hx, _, _, _ => absurd hx (Nat.not_lt_zero _)
  | n + 1, hx, h, hp, hq => by
    rw [cntG_succ, cntG_succ]
    by_cases e : x = n
    · subst e
      have ih := cnt_mono x (fun i hi => h i (by omega))
      rw [hp, hq]
      simp
      omega
    · have ih := cnt_lt n (by omega) (fun i hi => h i (by omega)) hp hq
      cases e : p n with
      | false =>
        cases e2 : q n <;> simp <;> omega
      | true =>
        rw [h n (by omega) e]
        simp
        omega
theorem cnt_pos {q : Nat → Bool} {x n : Nat} (hx : x < n) (hq : q x = true) : 1 ≤ cntG q n := by
  have := cnt_lt (p := fun _ => false) (q := q) n hx (fun i _ h => by cases h) rfl hq
  omega
theorem wA_cnt : ∀ v c, c < 63 → wA L lt go v c = true → (∀ u, u < v → wA L lt go u c = false) → v + 1 ≤ cntG (wA L lt go v) 63
  | 0, c, hc, h, _ => cnt_pos hc h
  | v + 1, c, hc, h, hn => by
    rcases wA_back h with h1 | ⟨e, he, h1, h2, h3, h4⟩
    · rw [hn v (by omega)] at h1
      cases h1
    · have ih := wA_cnt v (nbOf c e) (nb_lt hc he h1) h4 (fun u hu => by
        cases e5 : wA L lt go u (nbOf c e) with
        | false => rfl
        | true =>
          have := wA_step he h1 h2 h3 e5
          rw [hn (u + 1) (by omega)] at this
          cases this)
      have := cnt_lt (p := wA L lt go v) (q := wA L lt go (v + 1)) 63 hc (fun i _ q => wA_up q) (hn v (by omega)) h
      omega
theorem wB_cnt : ∀ v c, c < 63 → wB L lt go v c = true → (∀ u, u < v → wB L lt go u c = false) → v + 1 ≤ cntG (wB L lt go v) 63
  | 0, c, hc, h, _ => cnt_pos hc h
  | v + 1, c, hc, h, hn => by
    have up := cnt_lt (p := wB L lt go v) (q := wB L lt go (v + 1)) 63 hc (fun i _ q => wB_up q) (hn v (by omega)) h
    rcases wB_back h with h1 | ⟨e, he, h1, h3, ⟨h2, h4⟩ | ⟨h2, h4⟩⟩
    · rw [hn v (by omega)] at h1
      cases h1
    · have ih := wB_cnt v (nbOf c e) (nb_lt hc he h1) h4 (fun u hu => by
        cases e5 : wB L lt go u (nbOf c e) with
        | false => rfl
        | true =>
          have := wB_step he h1 h2 h3 e5
          rw [hn (u + 1) (by omega)] at this
          cases this)
      omega
    · have ih := wA_cnt v (nbOf c e) (nb_lt hc he h1) h4 (fun u hu => by
        cases e5 : wA L lt go u (nbOf c e) with
        | false => rfl
        | true =>
          have := wB_wall he h1 h2 h3 e5
          rw [hn (u + 1) (by omega)] at this
          cases this)
      have := cnt_mono (p := wA L lt go v) (q := wB L lt go v) 63 (fun i _ q => wA_B v i q)
      omega
/-- the fewest steps: x is a number of steps, or -1 -/
def IsD (R : Nat → Bool) (x : Int32) : Prop := (∃ v, v < 200 ∧ x = nI v ∧ R v = true ∧ ∀ u, u < v → R u = false) ∨ (x = -1 ∧ ∀ w, R w = false)
theorem IsD.uniq {R : Nat → Bool} {x y : Int32} (h : IsD R x) (k : IsD R y) : x = y := by
  rcases h with ⟨v, -, rfl, h1, h2⟩ | ⟨rfl, h1⟩
  · rcases k with ⟨w, -, rfl, k1, k2⟩ | ⟨rfl, k1⟩
    · congr 1
      rcases Nat.lt_trichotomy v w with q | q | q
      · rw [k2 v q] at h1; cases h1
      · exact q
      · rw [h2 w q] at k1; cases k1
    · rw [k1 v] at h1; cases h1
  · rcases k with ⟨w, -, rfl, k1, k2⟩ | ⟨rfl, k1⟩
    · rw [h1 w] at k1; cases k1
    · rfl
theorem wF_least {mp : Bool} {v c : Nat} (hc : c < 63) (h : wF L lt go mp v c = true) (hn : ∀ u, u < v → wF L lt go mp u c = false) : v ≤ 62 := by
  cases mp with
  | false =>
    have := wA_cnt v c hc h hn
    have := cnt_le (wA L lt go v) 63
    omega
  | true =>
    have := wB_cnt v c hc h hn
    have := cnt_le (wB L lt go v) 63
    omega
theorem wF_up {mp : Bool} {n c : Nat} (h : wF L lt go mp n c = true) : wF L lt go mp (n + 1) c = true := by
  cases mp with
  | false => exact wA_up h
  | true => exact wB_up h
theorem wF_none {mp : Bool} {c : Nat} (hc : c < 63) (h : ∀ u, u ≤ 62 → wF L lt go mp u c = false) : ∀ w, wF L lt go mp w c = false := by
  have key : ∀ w, ∀ u, u ≤ w → wF L lt go mp u c = false := by
    intro w
    induction w with
    | zero =>
      intro u hu
      exact h u (by omega)
    | succ w ih =>
      intro u hu
      by_cases e : u ≤ w
      · exact ih u e
      · cases e2 : wF L lt go mp u c with
        | false => rfl
        | true =>
          have := wF_least hc e2 (fun u2 hu2 => ih u2 (by omega))
          rw [h u this] at e2
          cases e2
  exact fun w => key w w (Nat.le_refl _)
end WS
/-! pure rows of 45.flood.txt -/
theorem lb_ibit {x : Int64} {b : Bool} {L : Nat → Int64} (I : InvW L) (hx : SB x) {c e : Nat} (hc : c < 63) (he : e < 4) : lb (bMv (x &&& nbMask L b (opp e)) (opp e)) c = (nbOk c e && (lb x (nbOf c e) && (lb (wCells L e) c == b))) := by
  have ee : opp (opp e) = e := by
    match e, he with
    | 0, _ => rfl
    | 1, _ => rfl
    | 2, _ => rfl
    | 3, _ => rfl
  rw [bMv_lb (and_SB hx) (opp_lt he) hc, ee]
  cases ho : nbOk c e with
  | false => rfl
  | true =>
    have hn := nb_lt hc he ho
    rw [lb_and]
    congr 2
    have ws := wall_sym I hc he ho
    unfold nbMask
    cases b with
    | true =>
      rw [if_pos rfl, ws]
      simp
    | false =>
      rw [if_neg (by simp), lb_not (by omega), ws]
      simp
theorem ex4_or3 (p q r : Nat → Bool) : ex4 (fun e => p e || (q e || r e)) = (ex4 p || (ex4 q || ex4 r)) := by
  show ((p 0 || (q 0 || r 0)) || ((p 1 || (q 1 || r 1)) || ((p 2 || (q 2 || r 2)) || (p 3 || (q 3 || r 3))))) = ((p 0 || (p 1 || (p 2 || p 3))) || ((q 0 || (q 1 || (q 2 || q 3))) || (r 0 || (r 1 || (r 2 || r 3)))))
  cases p 0 <;> cases p 1 <;> cases p 2 <;> cases p 3 <;> cases q 0 <;> cases q 1 <;> cases q 2 <;> cases q 3 <;> simp
theorem nbs_lb {x : Int64} {b : Bool} {L : Nat → Int64} (I : InvW L) (hx : SB x) {c : Nat} (hc : c < 63) : lb (nbsI L x b 4) c = ex4 (fun e => nbOk c e && (lb x (nbOf c e) && (lb (wCells L e) c == b))) := by
  have q0 := lb_ibit (b := b) I hx hc (e := 0) (by omega)
  have q1 := lb_ibit (b := b) I hx hc (e := 1) (by omega)
  have q2 := lb_ibit (b := b) I hx hc (e := 2) (by omega)
  have q3 := lb_ibit (b := b) I hx hc (e := 3) (by omega)
  show lb (nbsI L x b 4) c = ((nbOk c 0 && (lb x (nbOf c 0) && (lb (wCells L 0) c == b))) || ((nbOk c 1 && (lb x (nbOf c 1) && (lb (wCells L 1) c == b))) || ((nbOk c 2 && (lb x (nbOf c 2) && (lb (wCells L 2) c == b))) || (nbOk c 3 && (lb x (nbOf c 3) && (lb (wCells L 3) c == b))))))
  rw [← q0, ← q1, ← q2, ← q3]
  show lb ((((0 ||| bMv (x &&& nbMask L b 0) 0) ||| bMv (x &&& nbMask L b 1) 1) ||| bMv (x &&& nbMask L b 2) 2) ||| bMv (x &&& nbMask L b 3) 3) c = (lb (bMv (x &&& nbMask L b 2) 2) c || (lb (bMv (x &&& nbMask L b 3) 3) c || (lb (bMv (x &&& nbMask L b 0) 0) c || lb (bMv (x &&& nbMask L b 1) 1) c)))
  rw [lb_or, lb_or, lb_or, lb_or, lb_0]
  generalize lb (bMv (x &&& nbMask L b 0) 0) c = a0
  generalize lb (bMv (x &&& nbMask L b 1) 1) c = a1
  generalize lb (bMv (x &&& nbMask L b 2) 2) c = a2
  generalize lb (bMv (x &&& nbMask L b 3) 3) c = a3
  cases a0 <;> cases a1 <;> cases a2 <;> cases a3 <;> rfl
theorem nbs_SB {x : Int64} {b : Bool} {L : Nat → Int64} (hx : SB x) : ∀ n, n ≤ 4 → SB (nbsI L x b n)
  | 0, _ => by
    show SB 0
    unfold SB
    exact lb_0 _
  | n + 1, h => by
    show SB (nbsI L x b n ||| bMv (x &&& nbMask L b n) n)
    exact or_SB2 (nbs_SB hx n (by omega)) (bMv_SB (and_SB hx) (by omega))
theorem frOf_lb {L : Nat → Int64} {fr c : Nat} (hfr : fr < 63) (hc : c < 63) : lb (frOf L fr) c = (!lb (L 7) c || decide (c = fr)) := by
  unfold frOf
  rw [lb_or, lb_not (by omega), lb_only (by omega)]
section FLD
variable {L : Nat → Int64} {mp : Bool} {fr go : Nat}
theorem flI_suc (n : Nat) : flI L mp (frOf L fr) (bOnly go &&& frOf L fr) (n + 1) = ((flI L mp (frOf L fr) (bOnly go &&& frOf L fr) n).1 ||| (nbsI L (flI L mp (frOf L fr) (bOnly go &&& frOf L fr) n).1 false 4 &&& frOf L fr), if mp then ((flI L mp (frOf L fr) (bOnly go &&& frOf L fr) n).2 ||| (nbsI L (flI L mp (frOf L fr) (bOnly go &&& frOf L fr) n).2 false 4 &&& frOf L fr)) ||| (nbsI L (flI L mp (frOf L fr) (bOnly go &&& frOf L fr) n).1 true 4 &&& frOf L fr) else (flI L mp (frOf L fr) (bOnly go &&& frOf L fr) n).2) := rfl
theorem flI_SB (hgo : go < 63) : ∀ n, SB (flI L mp (frOf L fr) (bOnly go &&& frOf L fr) n).1 ∧ SB (flI L mp (frOf L fr) (bOnly go &&& frOf L fr) n).2
  | 0 => by
    refine ⟨and_SB (bOnly_SB hgo), ?_⟩
    show SB 0
    unfold SB
    exact lb_0 _
  | n + 1 => by
    obtain ⟨h1, h2⟩ := flI_SB hgo n
    rw [flI_suc]
    refine ⟨or_SB2 h1 (and_SB (nbs_SB h1 4 (Nat.le_refl _))), ?_⟩
    show SB (if mp then _ else _)
    split
    · exact or_SB2 (or_SB2 h2 (and_SB (nbs_SB h2 4 (Nat.le_refl _)))) (and_SB (nbs_SB h1 4 (Nat.le_refl _)))
    · exact h2
theorem flI_no : ∀ n, (flI L false (frOf L fr) (bOnly go &&& frOf L fr) n).2 = 0
  | 0 => rfl
  | n + 1 => by
    rw [flI_suc]
    exact flI_no n
theorem flP (I : InvW L) (hfr : fr < 63) (hgo : go < 63) : ∀ n, (∀ j, j < n → wF L (lb (L 7)) go mp j fr = false) → ∀ c, c < 63 → lb (flI L mp (frOf L fr) (bOnly go &&& frOf L fr) n).1 c = (wA L (lb (L 7)) go n c && (!lb (L 7) c || decide (c = fr)))
  | 0, _, c, hc => by
    show lb (bOnly go &&& frOf L fr) c = _
    rw [lb_and, lb_only (by omega), frOf_lb hfr hc]
    rfl
  | n + 1, hn, c, hc => by
    have ih := flP I hfr hgo n (fun j hj => hn j (by omega))
    have hs := (flI_SB (L := L) (mp := mp) (fr := fr) hgo n).1
    have hA : wA L (lb (L 7)) go n fr = false := by
      cases e : wA L (lb (L 7)) go n fr with
      | false => rfl
      | true =>
        have := wA_F (mp := mp) e
        rw [hn n (by omega)] at this
        cases this
    rw [flI_suc]
    show lb ((flI L mp (frOf L fr) (bOnly go &&& frOf L fr) n).1 ||| (nbsI L (flI L mp (frOf L fr) (bOnly go &&& frOf L fr) n).1 false 4 &&& frOf L fr)) c = _
    rw [lb_or, lb_and, ih c hc, frOf_lb hfr hc, nbs_lb I hs hc, wA_suc, Bool.and_or_distrib_right]
    congr 1
    congr 1
    refine ex4_cong (fun e he => ?_)
    cases ho : nbOk c e with
    | false => rfl
    | true =>
      rw [ih _ (nb_lt hc he ho)]
      by_cases q : nbOf c e = fr
      · rw [q, hA]
        simp
      · simp only [q, decide_false, Bool.or_false, Bool.true_and]
        cases lb (wCells L e) c <;> cases lb (L 7) (nbOf c e) <;> cases wA L (lb (L 7)) go n (nbOf c e) <;> rfl
theorem flQ (I : InvW L) (hfr : fr < 63) (hgo : go < 63) : ∀ n, (∀ j, j < n → wF L (lb (L 7)) go mp j fr = false) → ∀ c, c < 63 → (lb (flI L mp (frOf L fr) (bOnly go &&& frOf L fr) n).1 c || lb (flI L mp (frOf L fr) (bOnly go &&& frOf L fr) n).2 c) = (wF L (lb (L 7)) go mp n c && (!lb (L 7) c || decide (c = fr))) := by
  cases mp with
  | false =>
    intro n hn c hc
    rw [flI_no, lb_0, Bool.or_false]
    exact flP I hfr hgo n hn c hc
  | true =>
    intro n
    induction n with
    | zero =>
      intro hn c hc
      rw [flP I hfr hgo 0 hn c hc]
      show (_ || lb 0 c) = _
      rw [lb_0, Bool.or_false]
      rfl
    | succ n ih =>
      intro hn c hc
      have iq := ih (fun j hj => hn j (by omega))
      have ip := flP (mp := true) I hfr hgo n (fun j hj => hn j (by omega))
      obtain ⟨hs, hs2⟩ := flI_SB (L := L) (mp := true) (fr := fr) hgo n
      have hB : wB L (lb (L 7)) go n fr = false := hn n (by omega)
      have hA : wA L (lb (L 7)) go n fr = false := by
        cases e : wA L (lb (L 7)) go n fr with
        | false => rfl
        | true =>
          have := wA_B _ _ e
          rw [hB] at this
          cases this
      have ic := iq c hc
      rw [flI_suc]
      show (lb ((flI L true (frOf L fr) (bOnly go &&& frOf L fr) n).1 ||| (nbsI L (flI L true (frOf L fr) (bOnly go &&& frOf L fr) n).1 false 4 &&& frOf L fr)) c || lb (((flI L true (frOf L fr) (bOnly go &&& frOf L fr) n).2 ||| (nbsI L (flI L true (frOf L fr) (bOnly go &&& frOf L fr) n).2 false 4 &&& frOf L fr)) ||| (nbsI L (flI L true (frOf L fr) (bOnly go &&& frOf L fr) n).1 true 4 &&& frOf L fr)) c) = (wB L (lb (L 7)) go (n + 1) c && (!lb (L 7) c || decide (c = fr)))
      rw [lb_or, lb_or, lb_or, lb_and, lb_and, lb_and, frOf_lb hfr hc, nbs_lb I hs hc, nbs_lb I hs2 hc, nbs_lb I hs hc, wB_suc]
      have key : (ex4 (fun e => nbOk c e && (lb (flI L true (frOf L fr) (bOnly go &&& frOf L fr) n).1 (nbOf c e) && (lb (wCells L e) c == false))) || (ex4 (fun e => nbOk c e && (lb (flI L true (frOf L fr) (bOnly go &&& frOf L fr) n).2 (nbOf c e) && (lb (wCells L e) c == false))) || ex4 (fun e => nbOk c e && (lb (flI L true (frOf L fr) (bOnly go &&& frOf L fr) n).1 (nbOf c e) && (lb (wCells L e) c == true))))) = ex4 (fun e => nbOk c e && (!lb (L 7) (nbOf c e) && (if lb (wCells L e) c then wA L (lb (L 7)) go n (nbOf c e) else wB L (lb (L 7)) go n (nbOf c e)))) := by
        have pt : ∀ e, e < 4 → (nbOk c e && (!lb (L 7) (nbOf c e) && (if lb (wCells L e) c then wA L (lb (L 7)) go n (nbOf c e) else wB L (lb (L 7)) go n (nbOf c e)))) = ((nbOk c e && (lb (flI L true (frOf L fr) (bOnly go &&& frOf L fr) n).1 (nbOf c e) && (lb (wCells L e) c == false))) || ((nbOk c e && (lb (flI L true (frOf L fr) (bOnly go &&& frOf L fr) n).2 (nbOf c e) && (lb (wCells L e) c == false))) || (nbOk c e && (lb (flI L true (frOf L fr) (bOnly go &&& frOf L fr) n).1 (nbOf c e) && (lb (wCells L e) c == true))))) := by
          intro e he
          cases ho : nbOk c e with
          | false => rfl
          | true =>
            have hn9 := nb_lt hc he ho
            have jp := ip _ hn9
            have jq : (lb (flI L true (frOf L fr) (bOnly go &&& frOf L fr) n).1 (nbOf c e) || lb (flI L true (frOf L fr) (bOnly go &&& frOf L fr) n).2 (nbOf c e)) = (wB L (lb (L 7)) go n (nbOf c e) && (!lb (L 7) (nbOf c e) || decide (nbOf c e = fr))) := iq _ hn9
            by_cases q : nbOf c e = fr
            · rw [q, hA] at jp
              rw [q, hB] at jq
              rw [q, hA, hB]
              rw [jp] at jq
              simp only [Bool.false_and, Bool.false_or] at jp jq
              rw [jp, jq]
              cases lb (wCells L e) c <;> simp
            · simp only [q, decide_false, Bool.or_false] at jp jq
              cases ew : lb (wCells L e) c with
              | false =>
                revert jq
                generalize lb (flI L true (frOf L fr) (bOnly go &&& frOf L fr) n).1 (nbOf c e) = a0
                generalize lb (flI L true (frOf L fr) (bOnly go &&& frOf L fr) n).2 (nbOf c e) = a1
                generalize lb (L 7) (nbOf c e) = a2
                generalize wB L (lb (L 7)) go n (nbOf c e) = a3
                intro jq
                cases a0 <;> cases a1 <;> cases a2 <;> cases a3 <;> first | rfl | cases jq | simp
              | true =>
                rw [jp]
                generalize lb (L 7) (nbOf c e) = a2
                generalize wA L (lb (L 7)) go n (nbOf c e) = a3
                cases a2 <;> cases a3 <;> simp
        rw [ex4_cong pt]
        exact (ex4_or3 _ _ _).symm
      rw [← key]
      have ic : (lb (flI L true (frOf L fr) (bOnly go &&& frOf L fr) n).1 c || lb (flI L true (frOf L fr) (bOnly go &&& frOf L fr) n).2 c) = (wB L (lb (L 7)) go n c && (!lb (L 7) c || decide (c = fr))) := ic
      rw [Bool.and_or_distrib_right, ← ic]
      generalize lb (flI L true (frOf L fr) (bOnly go &&& frOf L fr) n).1 c = z1
      generalize lb (flI L true (frOf L fr) (bOnly go &&& frOf L fr) n).2 c = z2
      generalize (!lb (L 7) c || decide (c = fr)) = z3
      generalize ex4 (fun e => nbOk c e && (lb (flI L true (frOf L fr) (bOnly go &&& frOf L fr) n).1 (nbOf c e) && (lb (wCells L e) c == false))) = y1
      generalize ex4 (fun e => nbOk c e && (lb (flI L true (frOf L fr) (bOnly go &&& frOf L fr) n).2 (nbOf c e) && (lb (wCells L e) c == false))) = y2
      generalize ex4 (fun e => nbOk c e && (lb (flI L true (frOf L fr) (bOnly go &&& frOf L fr) n).1 (nbOf c e) && (lb (wCells L e) c == true))) = y3
      cases z1 <;> cases z2 <;> cases z3 <;> cases y1 <;> cases y2 <;> cases y3 <;> rfl
/-- when the own cell is hit -/
theorem fhB_eq (I : InvW L) (hfr : fr < 63) (hgo : go < 63) {k : Nat} (hn : ∀ j, j < k + 1 → wF L (lb (L 7)) go mp j fr = false) : fhB L fr go mp k = wF L (lb (L 7)) go mp (k + 1) fr := by
  have h := flQ (mp := mp) I hfr hgo (k + 1) hn fr hfr
  simp only [decide_true, Bool.or_true, Bool.and_true] at h
  rw [← lb_or] at h
  unfold fhB
  have hc : (((flI L mp (frOf L fr) (bOnly go &&& frOf L fr) (k + 1)).1 ||| (flI L mp (frOf L fr) (bOnly go &&& frOf L fr) (k + 1)).2) &&& bOnly fr ≠ 0) ↔ lb ((flI L mp (frOf L fr) (bOnly go &&& frOf L fr) (k + 1)).1 ||| (flI L mp (frOf L fr) (bOnly go &&& frOf L fr) (k + 1)).2) fr = true := by
    rw [Int64.and_comm, and_only hfr]
    cases lb ((flI L mp (frOf L fr) (bOnly go &&& frOf L fr) (k + 1)).1 ||| (flI L mp (frOf L fr) (bOnly go &&& frOf L fr) (k + 1)).2) fr with
    | true => simp [only_ne hfr]
    | false => simp
  rw [← h]
  cases e9 : lb ((flI L mp (frOf L fr) (bOnly go &&& frOf L fr) (k + 1)).1 ||| (flI L mp (frOf L fr) (bOnly go &&& frOf L fr) (k + 1)).2) fr with
  | true => exact decide_eq_true (hc.mpr e9)
  | false =>
    refine decide_eq_false (fun z => ?_)
    rw [hc.mp z] at e9
    cases e9
theorem hit_at (I : InvW L) (hfr : fr < 63) (hgo : go < 63) (hne : fr ≠ go) : ∀ k, (∀ j, j < k → fhB L fr go mp j = false) → ∀ j, j < k + 1 → wF L (lb (L 7)) go mp j fr = false
  | 0, _, j, hj => by
    obtain rfl : j = 0 := by omega
    cases mp <;> exact decide_eq_false hne
  | k + 1, h, j, hj => by
    have ih := hit_at I hfr hgo hne k (fun j hj => h j (by omega))
    by_cases e : j < k + 1
    · exact ih j e
    · obtain rfl : j = k + 1 := by omega
      rw [← fhB_eq I hfr hgo ih]
      exact h k (by omega)
theorem fnd_none {p : Nat → Bool} : ∀ {n : Nat}, fndB p n = none → ∀ j, j < n → p j = false
  | 0, _, j, hj => absurd hj (Nat.not_lt_zero _)
  | n + 1, h, j, hj => by
    unfold fndB at h
    split at h
    · cases h
    · next h9 =>
      by_cases e : j < n
      · exact fnd_none h9 j e
      · obtain rfl : j = n := by omega
        split at h
        · cases h
        · next h8 => simpa using h8
theorem stpF_D (I : InvW L) (hfr : fr < 63) (hgo : go < 63) : IsD (fun n => wF L (lb (L 7)) go mp n fr) (stpF L fr go mp) := by
  unfold stpF
  by_cases e : fr = go
  · rw [if_pos e]
    refine Or.inl ⟨0, by omega, rfl, ?_, fun u hu => by omega⟩
    cases mp <;> exact decide_eq_true e
  · rw [if_neg e]
    cases e2 : fndB (fhB L fr go mp) 62 with
    | none =>
      have h := hit_at (mp := mp) I hfr hgo e 62 (fnd_none e2)
      exact Or.inr ⟨rfl, wF_none hfr (fun u hu => h u (by omega))⟩
    | some k =>
      obtain ⟨h1, h2, h3⟩ := fndB_spec e2
      have h := hit_at (mp := mp) I hfr hgo e k h3
      refine Or.inl ⟨k + 1, by omega, rfl, ?_, h⟩
      show wF L (lb (L 7)) go mp (k + 1) fr = true
      rw [← fhB_eq I hfr hgo h]
      exact h2
end FLD
/-! pure rows of 46.bfs.txt -/
def wR (L : Nat → Int64) (lt : Nat → Bool) (go n s : Nat) : Bool := if s % 2 = 0 then wA L lt go n (s / 2) else wB L lt go n (s / 2)
def eOk (L : Nat → Int64) (s e : Nat) : Bool := nbOk (s / 2) e && !(lb (wCells L e) (s / 2) && decide (s % 2 = 1))
def eTo (L : Nat → Int64) (s e : Nat) : Nat := 2 * nbOf (s / 2) e + (if lb (wCells L e) (s / 2) then 1 else s % 2)
theorem cnt_add {p : Nat → Bool} {x : Nat} (hp : p x = false) : ∀ n, x < n → cntG (fun j => if j = x then true else p j) n = cntG p n + 1
  | 0, h => absurd h (Nat.not_lt_zero _)
  | n + 1, h => by
    rw [cntG_succ, cntG_succ]
    by_cases e : x = n
    · subst e
      rw [hp, cntG_cong (p := fun j => if j = x then true else p j) (q := p) (fun i hi => if_neg (by omega))]
      simp
    · have en : (if n = x then true else p n) = p n := if_neg (fun z => e z.symm)
      rw [cnt_add hp n (by omega), en]
      cases p n <;> simp
theorem cnt_0 : ∀ n, cntG (fun _ => false) n = 0
  | 0 => rfl
  | n + 1 => by
    rw [cntG_succ, cnt_0 n]
    rfl
section BF
variable {L : Nat → Int64} {lt : Nat → Bool} {go : Nat}
theorem eTo_lt {s e : Nat} (hs : s < 126) (he : e < 4) (ok : eOk L s e = true) : eTo L s e < 126 := by
  unfold eOk at ok
  rw [Bool.and_eq_true] at ok
  have := nb_lt (show s / 2 < 63 by omega) he ok.1
  unfold eTo
  split <;> omega
theorem wR_0 {s : Nat} (h : wR L lt go 0 s = true) : s = 2 * go ∨ s = 2 * go + 1 := by
  unfold wR at h
  split at h
  · have : s / 2 = go := of_decide_eq_true h
    omega
  · have : s / 2 = go := of_decide_eq_true h
    omega
theorem wR_up {n s : Nat} (h : wR L lt go n s = true) : wR L lt go (n + 1) s = true := by
  unfold wR at *
  split at h
  · next e => rw [if_pos e]; exact wA_up h
  · next e => rw [if_neg e]; exact wB_up h
theorem wR_edge (I : InvW L) {n s e : Nat} (hs : s < 126) (he : e < 4) (ok : eOk L s e = true) (hd : lt (s / 2) = false) (h : wR L lt go n s = true) : wR L lt go (n + 1) (eTo L s e) = true := by
  unfold eOk at ok
  rw [Bool.and_eq_true, Bool.not_eq_true'] at ok
  have hc : s / 2 < 63 := by omega
  obtain ⟨o1, o2⟩ := nb_opp hc he ok.1
  have ws := wall_sym I hc he ok.1
  unfold eTo
  cases ew : lb (wCells L e) (s / 2) with
  | false =>
    rw [ew] at ws
    rw [if_neg (by simp)]
    unfold wR at *
    rw [← o2] at hd
    by_cases e2 : s % 2 = 0
    · rw [if_pos e2, ← o2] at h
      rw [if_pos (by omega), show (2 * nbOf (s / 2) e + s % 2) / 2 = nbOf (s / 2) e by omega]
      exact wA_step (opp_lt he) o1 ws hd h
    · rw [if_neg e2, ← o2] at h
      rw [if_neg (by omega), show (2 * nbOf (s / 2) e + s % 2) / 2 = nbOf (s / 2) e by omega]
      exact wB_step (opp_lt he) o1 ws hd h
  | true =>
    rw [ew] at ws
    have ok2 := ok.2
    rw [ew, Bool.true_and, decide_eq_false_iff_not] at ok2
    rw [if_pos rfl]
    unfold wR at *
    rw [if_pos (by omega), ← o2] at h
    rw [← o2] at hd
    rw [if_neg (by omega), show (2 * nbOf (s / 2) e + 1) / 2 = nbOf (s / 2) e by omega]
    exact wB_wall (opp_lt he) o1 ws hd h
theorem wR_back (I : InvW L) {n s : Nat} (hs : s < 126) (h : wR L lt go (n + 1) s = true) : wR L lt go n s = true ∨ ∃ t e, t < 126 ∧ e < 4 ∧ eOk L t e = true ∧ lt (t / 2) = false ∧ eTo L t e = s ∧ wR L lt go n t = true := by
  have hp : s / 2 < 63 := by omega
  have mk : ∀ e q, e < 4 → q < 2 → nbOk (s / 2) e = true → lt (nbOf (s / 2) e) = false → ((lb (wCells L e) (s / 2) = false ∧ q = s % 2) ∨ (lb (wCells L e) (s / 2) = true ∧ q = 0 ∧ s % 2 = 1)) → wR L lt go n (2 * nbOf (s / 2) e + q) = true → ∃ t e, t < 126 ∧ e < 4 ∧ eOk L t e = true ∧ lt (t / 2) = false ∧ eTo L t e = s ∧ wR L lt go n t = true := by
    intro e q he hq ho hd hw hr
    have hn := nb_lt hp he ho
    obtain ⟨o1, o2⟩ := nb_opp hp he ho
    have ws := wall_sym I hp he ho
    have e2 : (2 * nbOf (s / 2) e + q) / 2 = nbOf (s / 2) e := by omega
    have e3 : (2 * nbOf (s / 2) e + q) % 2 = q := by omega
    refine ⟨2 * nbOf (s / 2) e + q, opp e, by omega, opp_lt he, ?_, by rw [e2]; exact hd, ?_, hr⟩
    · unfold eOk
      rw [e2, e3, o1, ws]
      rcases hw with ⟨w1, w2⟩ | ⟨w1, w2, w3⟩
      · rw [w1]; rfl
      · rw [w1, w2]; rfl
    · unfold eTo
      rw [e2, e3, o2, ws]
      rcases hw with ⟨w1, w2⟩ | ⟨w1, w2, w3⟩
      · rw [w1, if_neg (by simp)]; omega
      · rw [w1, if_pos rfl]; omega
  unfold wR at h
  split at h
  · next e0 =>
    rcases wA_back h with h | ⟨e, he, h1, h2, h3, h4⟩
    · refine Or.inl ?_
      unfold wR
      rw [if_pos e0]
      exact h
    · refine Or.inr (mk e 0 he (by omega) h1 h3 (Or.inl ⟨h2, by omega⟩) ?_)
      unfold wR
      rw [if_pos (by omega), show (2 * nbOf (s / 2) e + 0) / 2 = nbOf (s / 2) e by omega]
      exact h4
  · next e0 =>
    rcases wB_back h with h | ⟨e, he, h1, h3, ⟨h2, h4⟩ | ⟨h2, h4⟩⟩
    · refine Or.inl ?_
      unfold wR
      rw [if_neg e0]
      exact h
    · refine Or.inr (mk e 1 he (by omega) h1 h3 (Or.inl ⟨h2, by omega⟩) ?_)
      unfold wR
      rw [if_neg (by omega), show (2 * nbOf (s / 2) e + 1) / 2 = nbOf (s / 2) e by omega]
      exact h4
    · refine Or.inr (mk e 0 he (by omega) h1 h3 (Or.inr ⟨h2, rfl, by omega⟩) ?_)
      unfold wR
      rw [if_pos (by omega), show (2 * nbOf (s / 2) e + 0) / 2 = nbOf (s / 2) e by omega]
      exact h4
/-- k places of the row are done, n are filled -/
def bI (L : Nat → Int64) (lt : Nat → Bool) (go : Nat) (ds : Nat → Bool) (vN rN : Nat → Nat) (k n : Nat) : Prop :=
  k ≤ n ∧ cntG ds 126 = n ∧ (∀ i, i < n → rN i < 126 ∧ ds (rN i) = true) ∧
  (∀ s, s < 126 → ds s = true → (∃ i, i < n ∧ rN i = s) ∧ vN s ≤ n ∧ wR L lt go (vN s) s = true ∧ ∀ u, u < vN s → wR L lt go u s = false) ∧
  (∀ i j, i ≤ j → j < n → vN (rN i) ≤ vN (rN j)) ∧
  (k < n → ∀ j, j < n → vN (rN j) ≤ vN (rN k) + 1) ∧
  (ds (2 * go) = true ∧ ds (2 * go + 1) = true) ∧
  (∀ i, i < k → lt (rN i / 2) = false → ∀ e, e < 4 → eOk L (rN i) e = true → ds (eTo L (rN i) e) = true)
def FinW (L : Nat → Int64) (lt : Nat → Bool) (go : Nat) (ds : Nat → Bool) (vN : Nat → Nat) : Prop := ∀ s, s < 126 → (ds s = true → vN s < 200 ∧ wR L lt go (vN s) s = true ∧ ∀ u, u < vN s → wR L lt go u s = false) ∧ (ds s = false → ∀ w, wR L lt go w s = false)
variable {ds : Nat → Bool} {vN rN : Nat → Nat} {k n : Nat}
theorem bI_at (h : bI L lt go ds vN rN k n) {s : Nat} (hs : s < 126) (hd : ds s = true) {w : Nat} (hw : wR L lt go w s = true) : vN s ≤ w := by
  obtain ⟨-, -, -, h4, -⟩ := h
  obtain ⟨-, -, -, q⟩ := h4 s hs hd
  by_cases e : vN s ≤ w
  · exact e
  · rw [q w (by omega)] at hw
    cases hw
theorem bI_early (h : bI L lt go ds vN rN k n) (hk : k < n) {s : Nat} (hs : s < 126) (hd : ds s = true) (hv : vN s < vN (rN k)) : ∃ i, i < k ∧ rN i = s := by
  obtain ⟨-, -, -, h4, h5, -⟩ := h
  obtain ⟨⟨i, hi, e⟩, -⟩ := h4 s hs hd
  refine ⟨i, ?_, e⟩
  by_cases q : i < k
  · exact q
  · have := h5 k i (by omega) hi
    rw [e] at this
    omega
theorem bI_seen (I : InvW L) (h : bI L lt go ds vN rN k n) (hk : k < n) : ∀ w s, s < 126 → w < vN (rN k) → wR L lt go w s = true → ∃ i, i < k ∧ rN i = s := by
  intro w
  induction w with
  | zero =>
    intro s hs hw hr
    have hd : ds s = true := by
      rcases wR_0 hr with e | e
      · rw [e]; exact h.2.2.2.2.2.2.1.1
      · rw [e]; exact h.2.2.2.2.2.2.1.2
    have := bI_at h hs hd hr
    exact bI_early h hk hs hd (by omega)
  | succ w ih =>
    intro s hs hw hr
    rcases wR_back I hs hr with hr2 | ⟨t, e, ht, he, ok, hl, es, hr2⟩
    · exact ih s hs (by omega) hr2
    · obtain ⟨i, hi, ei⟩ := ih t ht (by omega) hr2
      have hd : ds s = true := by
        have := h.2.2.2.2.2.2.2 i hi (by rw [ei]; exact hl) e he (by rw [ei]; exact ok)
        rw [ei, es] at this
        exact this
      have := bI_at h hs hd hr
      exact bI_early h hk hs hd (by omega)
theorem bI_push (I : InvW L) (h : bI L lt go ds vN rN k n) (hk : k < n) {e p : Nat} (he : e < 4) (ok : eOk L (rN k) e = true) (hl : lt (rN k / 2) = false) (ep : eTo L (rN k) e = p) (hp : ds p = false) : n < 126 ∧ p < 126 ∧ bI L lt go (fun j => if j = p then true else ds j) (fun j => if j = p then vN (rN k) + 1 else vN j) (fun i => if i = n then p else rN i) k (n + 1) := by
  have hs := bI_seen I h hk
  obtain ⟨h1, h2, h3, h4, h5, h6, h7, h8⟩ := h
  obtain ⟨hr, hdr⟩ := h3 k hk
  obtain ⟨-, hv, hw, hwn⟩ := h4 _ hr hdr
  have hp126 : p < 126 := by rw [← ep]; exact eTo_lt hr he ok
  have ca := cnt_add hp 126 hp126
  have cl := cnt_le (fun j => if j = p then true else ds j) 126
  have ne : ∀ {s}, ds s = true → s ≠ p := fun {s} hd z => by rw [z, hp] at hd; cases hd
  have up : ∀ {s}, ds s = true → (if s = p then true else ds s) = true := fun {s} hd => by rw [if_neg (ne hd)]; exact hd
  have ro : ∀ {i}, i < n → (if i = n then p else rN i) = rN i := fun {i} hi => if_neg (by omega)
  have rn : (if n = n then p else rN n) = p := if_pos rfl
  have vo : ∀ {s}, ds s = true → (if s = p then vN (rN k) + 1 else vN s) = vN s := fun {s} hd => if_neg (ne hd)
  have vp : (if p = p then vN (rN k) + 1 else vN p) = vN (rN k) + 1 := if_pos rfl
  refine ⟨by omega, hp126, by omega, by rw [ca, h2], ?_, ?_, ?_, ?_, ?_, ?_⟩
  · intro i hi
    show (if i = n then p else rN i) < 126 ∧ (if (if i = n then p else rN i) = p then true else ds (if i = n then p else rN i)) = true
    by_cases q : i = n
    · rw [q, rn]
      exact ⟨hp126, if_pos rfl⟩
    · have hi2 : i < n := by omega
      rw [ro hi2]
      exact ⟨(h3 i hi2).1, up (h3 i hi2).2⟩
  · intro s hs126 hd
    show (∃ i, i < n + 1 ∧ (if i = n then p else rN i) = s) ∧ (if s = p then vN (rN k) + 1 else vN s) ≤ n + 1 ∧ wR L lt go (if s = p then vN (rN k) + 1 else vN s) s = true ∧ ∀ u, u < (if s = p then vN (rN k) + 1 else vN s) → wR L lt go u s = false
    by_cases q : s = p
    · rw [q, vp]
      refine ⟨⟨n, by omega, rn⟩, by omega, ?_, ?_⟩
      · rw [← ep]
        exact wR_edge I hr he ok hl hw
      · intro u
        induction u with
        | zero =>
          intro _
          cases e9 : wR L lt go 0 p with
          | false => rfl
          | true =>
            exfalso
            rcases wR_0 e9 with z | z
            · rw [z, h7.1] at hp; cases hp
            · rw [z, h7.2] at hp; cases hp
        | succ u ih =>
          intro hu
          cases e9 : wR L lt go (u + 1) p with
          | false => rfl
          | true =>
            exfalso
            rcases wR_back I hp126 e9 with z | ⟨t, e2, ht, he2, ok2, hl2, es2, hr2⟩
            · rw [ih (by omega)] at z; cases z
            · obtain ⟨i, hi, ei⟩ := hs u t ht (by omega) hr2
              have := h8 i hi (by rw [ei]; exact hl2) e2 he2 (by rw [ei]; exact ok2)
              rw [ei, es2, hp] at this
              cases this
    · have hd2 : ds s = true := by
        have hd : (if s = p then true else ds s) = true := hd
        rw [if_neg q] at hd
        exact hd
      rw [if_neg q]
      obtain ⟨⟨i, hi, ei⟩, a, b, c⟩ := h4 s hs126 hd2
      exact ⟨⟨i, by omega, by rw [ro hi]; exact ei⟩, by omega, b, c⟩
  · intro i j hij hj
    show (if (if i = n then p else rN i) = p then vN (rN k) + 1 else vN (if i = n then p else rN i)) ≤ (if (if j = n then p else rN j) = p then vN (rN k) + 1 else vN (if j = n then p else rN j))
    by_cases q : j = n
    · rw [q, rn, vp]
      by_cases q2 : i = n
      · rw [q2, rn, vp]
        exact Nat.le_refl _
      · have hi2 : i < n := by omega
        rw [ro hi2, vo (h3 i hi2).2]
        exact h6 hk i hi2
    · have hj2 : j < n := by omega
      have hi2 : i < n := by omega
      rw [ro hi2, ro hj2, vo (h3 i hi2).2, vo (h3 j hj2).2]
      exact h5 i j hij hj2
  · intro _ j hj
    show (if (if j = n then p else rN j) = p then vN (rN k) + 1 else vN (if j = n then p else rN j)) ≤ (if (if k = n then p else rN k) = p then vN (rN k) + 1 else vN (if k = n then p else rN k)) + 1
    rw [ro hk, vo hdr]
    by_cases q : j = n
    · rw [q, rn, vp]
      exact Nat.le_refl _
    · have hj2 : j < n := by omega
      rw [ro hj2, vo (h3 j hj2).2]
      exact h6 hk j hj2
  · exact ⟨up h7.1, up h7.2⟩
  · intro i hi hl2 e2 he2 ok2
    have hi2 : i < n := by omega
    show (if eTo L (if i = n then p else rN i) e2 = p then true else ds (eTo L (if i = n then p else rN i) e2)) = true
    have hl3 : lt ((if i = n then p else rN i) / 2) = false := hl2
    have ok3 : eOk L (if i = n then p else rN i) e2 = true := ok2
    rw [ro hi2] at hl3 ok3
    rw [ro hi2]
    exact up (h8 i hi hl3 e2 he2 ok3)
theorem bI_next (h : bI L lt go ds vN rN k n) (hk : k < n) (hx : lt (rN k / 2) = false → ∀ e, e < 4 → eOk L (rN k) e = true → ds (eTo L (rN k) e) = true) : bI L lt go ds vN rN (k + 1) n := by
  obtain ⟨h1, h2, h3, h4, h5, h6, h7, h8⟩ := h
  refine ⟨by omega, h2, h3, h4, h5, fun hk1 j hj => ?_, h7, fun i hi => ?_⟩
  · have := h6 hk j hj
    have := h5 k (k + 1) (by omega) hk1
    omega
  · by_cases q : i = k
    · rw [q]; exact hx
    · exact h8 i (by omega)
theorem bI_all (I : InvW L) (h : bI L lt go ds vN rN n n) : ∀ w s, s < 126 → wR L lt go w s = true → ds s = true := by
  obtain ⟨h1, h2, h3, h4, h5, h6, h7, h8⟩ := h
  intro w
  induction w with
  | zero =>
    intro s hs hr
    rcases wR_0 hr with e | e
    · rw [e]; exact h7.1
    · rw [e]; exact h7.2
  | succ w ih =>
    intro s hs hr
    rcases wR_back I hs hr with hr2 | ⟨t, e, ht, he, ok, hl, es, hr2⟩
    · exact ih s hs hr2
    · obtain ⟨⟨i, hi, ei⟩, -⟩ := h4 t ht (ih t ht hr2)
      have := h8 i hi (by rw [ei]; exact hl) e he (by rw [ei]; exact ok)
      rw [ei, es] at this
      exact this
theorem bI_fin (I : InvW L) (h : bI L lt go ds vN rN n n) : FinW L lt go ds vN := by
  intro s hs
  refine ⟨fun hd => ?_, fun hd w => ?_⟩
  · obtain ⟨-, a, b, c⟩ := h.2.2.2.1 s hs hd
    have cl := cnt_le ds 126
    have := h.2.1
    exact ⟨by omega, b, c⟩
  · cases e : wR L lt go w s with
    | false => rfl
    | true =>
      rw [bI_all I h w s hs e] at hd
      cases hd
def ds0 (go : Nat) : Nat → Bool := fun j => if j = 2 * go + 1 then true else if j = 2 * go then true else false
theorem bI_init (hgo : go < 63) : bI L lt go (ds0 go) (fun _ => 0) (fun i => if i = 1 then 2 * go + 1 else 2 * go) 0 2 := by
  have cc : cntG (ds0 go) 126 = 2 := by
    have e1 := cnt_add (p := fun j => if j = 2 * go then true else false) (x := 2 * go + 1) (by simp) 126 (by omega)
    have e2 := cnt_add (p := fun _ => false) (x := 2 * go) rfl 126 (by omega)
    rw [cnt_0] at e2
    rw [e2] at e1
    exact e1
  refine ⟨by omega, cc, fun i hi => ?_, fun s hs hd => ?_, fun _ _ _ _ => Nat.le_refl _, fun _ _ _ => Nat.zero_le _, ?_, fun i hi => by omega⟩
  · show (if i = 1 then 2 * go + 1 else 2 * go) < 126 ∧ ds0 go (if i = 1 then 2 * go + 1 else 2 * go) = true
    unfold ds0
    by_cases q : i = 1
    · rw [if_pos q, if_pos rfl]
      exact ⟨by omega, rfl⟩
    · rw [if_neg q, if_neg (by omega), if_pos rfl]
      exact ⟨by omega, rfl⟩
  · unfold ds0 at hd
    by_cases q : s = 2 * go + 1
    · refine ⟨⟨1, by omega, ?_⟩, Nat.zero_le _, ?_, fun u hu => absurd hu (Nat.not_lt_zero _)⟩
      · show (if 1 = 1 then 2 * go + 1 else 2 * go) = s
        rw [if_pos rfl, q]
      · show wR L lt go 0 s = true
        unfold wR
        rw [if_neg (by omega)]
        show decide (s / 2 = go) = true
        exact decide_eq_true (by omega)
    · rw [if_neg q] at hd
      by_cases q2 : s = 2 * go
      · refine ⟨⟨0, by omega, ?_⟩, Nat.zero_le _, ?_, fun u hu => absurd hu (Nat.not_lt_zero _)⟩
        · show (if 0 = 1 then 2 * go + 1 else 2 * go) = s
          rw [if_neg (by omega), q2]
        · show wR L lt go 0 s = true
          unfold wR
          rw [if_pos (by omega)]
          show decide (s / 2 = go) = true
          exact decide_eq_true (by omega)
      · rw [if_neg q2] at hd
        cases hd
  · unfold ds0
    simp
theorem lit_fin (I : InvW L) (hgo : go < 63) (hl : lt go = true) : FinW L lt go (ds0 go) (fun _ => 0) := by
  have b := bI_init (L := L) (lt := lt) hgo
  have b2 := bI_next b (by omega) (fun z => by
    have z : lt ((if 0 = 1 then 2 * go + 1 else 2 * go) / 2) = false := z
    rw [if_neg (by omega), show 2 * go / 2 = go by omega, hl] at z
    cases z)
  have b3 := bI_next b2 (by omega) (fun z => by
    have z : lt ((if 0 + 1 = 1 then 2 * go + 1 else 2 * go) / 2) = false := z
    rw [if_pos (by omega), show (2 * go + 1) / 2 = go by omega, hl] at z
    cases z)
  exact bI_fin I b3
def stF (ds : Nat → Bool) (vN : Nat → Nat) (s : Nat) : Int32 := if ds s then nI (vN s) else -1
theorem FinW.at (h : FinW L lt go ds vN) {s : Nat} (hs : s < 126) : IsD (fun n => wR L lt go n s) (stF ds vN s) := by
  obtain ⟨h1, h2⟩ := h s hs
  unfold stF
  cases e : ds s with
  | true =>
    obtain ⟨a, b, c⟩ := h1 e
    exact Or.inl ⟨vN s, a, rfl, b, c⟩
  | false => exact Or.inr ⟨rfl, h2 e⟩
theorem FinW.A (h : FinW L lt go ds vN) {c : Nat} (hc : c < 63) : IsD (fun n => wA L lt go n c) (stF ds vN (2 * c)) := by
  have r := h.at (s := 2 * c) (by omega)
  have e : (fun n => wR L lt go n (2 * c)) = fun n => wA L lt go n c := by
    funext n
    unfold wR
    rw [if_pos (by omega), show 2 * c / 2 = c by omega]
  rw [e] at r
  exact r
theorem FinW.B (h : FinW L lt go ds vN) {c : Nat} (hc : c < 63) : IsD (fun n => wB L lt go n c) (stF ds vN (2 * c + 1)) := by
  have r := h.at (s := 2 * c + 1) (by omega)
  have e : (fun n => wR L lt go n (2 * c + 1)) = fun n => wB L lt go n c := by
    funext n
    unfold wR
    rw [if_neg (by omega), show (2 * c + 1) / 2 = c by omega]
  rw [e] at r
  exact r
end BF
/-! pure rows of 47.reckon.txt -/
theorem nI_m1 {n : Nat} (h : n < 2 ^ 31) : ¬ nI n = -1 := fun z => by
  have q := nI_pos (n := n) h
  rw [z] at q
  exact absurd (by decide) q
theorem st_push {ds : Nat → Bool} {vN : Nat → Nat} {p v : Nat} : ∀ j, (if j = p then nI v else stF ds vN j) = stF (fun j => if j = p then true else ds j) (fun j => if j = p then v else vN j) j := by
  intro j
  unfold stF
  by_cases e : j = p
  · simp [e]
  · simp [e]
theorem st_init {go : Nat} : ∀ j, (if j = 2 * go + 1 then 0 else if j = 2 * go then 0 else -1) = stF (ds0 go) (fun _ => 0) j := by
  intro j
  unfold stF ds0
  by_cases e : j = 2 * go + 1
  · rw [if_pos e, if_pos e]
    rfl
  · rw [if_neg e, if_neg e]
    by_cases e2 : j = 2 * go
    · rw [if_pos e2, if_pos e2]
      rfl
    · rw [if_neg e2, if_neg e2]
      rfl
/-! pure rows of 48.next.txt -/
theorem fst4_cong {p q : Nat → Bool} (h : ∀ d, d < 4 → p d = q d) : fst4 p = fst4 q := by
  unfold fst4
  rw [h 0 (by omega), h 1 (by omega), h 2 (by omega), h 3 (by omega)]
theorem isd_at {R : Nat → Bool} {x : Int32} {k : Nat} (h : IsD R x) (hn : ∀ j, j < k → R j = false) (hk : k < 200) : x = nI k ↔ R k = true := by
  rcases h with ⟨v, hv, rfl, h1, h2⟩ | ⟨rfl, h1⟩
  · rw [nI_eq (by omega) (by omega)]
    constructor
    · intro e
      rw [← e]
      exact h1
    · intro e
      rcases Nat.lt_trichotomy v k with q | q | q
      · rw [hn v q] at h1; cases h1
      · exact q
      · rw [h2 k q] at e; cases e
  · constructor
    · intro e
      exact absurd e.symm (nI_m1 (by omega))
    · intro e
      rw [h1 k] at e
      cases e
/-- may the next step go in a direction, with w walls -/
def nP (L : Nat → Int64) (lt : Nat → Bool) (go : Nat) (mp : Bool) (fr k w dn : Nat) : Bool := nbOk fr dn && (!lt (nbOf fr dn) && ((lb (wCells L dn) fr == decide (w = 1)) && ((decide (w = 0) || mp) && wF L lt go (decide (w = 0) && mp) k (nbOf fr dn))))
theorem mv_hit {c dn : Nat} {x s : Int64} (hc : c < 63) (hd : dn < 4) : decide (bMv (bOnly c &&& x) dn &&& s ≠ 0) = (nbOk c dn && (lb x c && lb s (nbOf c dn))) := by
  by_cases h : bMv (bOnly c &&& x) dn &&& s ≠ 0
  · obtain ⟨h1, h2, h3⟩ := bMv_hit hc hd h
    rw [decide_eq_true h, h1, h2, h3]
    rfl
  · rw [decide_eq_false h]
    cases ho : nbOk c dn with
    | false => rfl
    | true =>
      cases hx : lb x c with
      | false => rfl
      | true =>
        cases hs : lb s (nbOf c dn) with
        | false => rfl
        | true =>
          have hn := nb_lt hc hd ho
          refine absurd (lb_ne0.mpr ⟨nbOf c dn, by omega, ?_⟩) h
          rw [and_only hc, if_pos hx, bMv_only hc hd, if_pos ho, lb_and, lb_only (by omega), hs]
          simp
section NX
variable {L : Nat → Int64} {mp : Bool} {fr go : Nat}
theorem fdA_eq (I : InvW L) (hfr : fr < 63) (hgo : go < 63) {k : Nat} (hn : ∀ j, j < k + 1 → wF L (lb (L 7)) go mp j fr = false) {dn : Nat} (hd : dn < 4) : fdA L (bOnly fr) (flI L mp (frOf L fr) (bOnly go &&& frOf L fr) k).1 (flI L mp (frOf L fr) (bOnly go &&& frOf L fr) k).2 dn = nP L (lb (L 7)) go mp fr k 0 dn := by
  unfold fdA nP
  rw [mv_hit hfr hd, lb_not (by omega)]
  cases ho : nbOk fr dn with
  | false => rfl
  | true =>
    have hnb := nb_lt hfr hd ho
    have ne : nbOf fr dn ≠ fr := by
      unfold nbOk at ho
      unfold nbOf
      rcases (show dn = 0 ∨ dn = 1 ∨ dn = 2 ∨ dn = 3 by omega) with rfl | rfl | rfl | rfl
      · have := of_decide_eq_true ho
        show fr - 9 ≠ fr
        omega
      · show fr + 1 ≠ fr
        omega
      · show fr + 9 ≠ fr
        omega
      · have := of_decide_eq_true ho
        show fr - 1 ≠ fr
        omega
    rw [lb_or, flQ I hfr hgo k (fun j hj => hn j (by omega)) _ hnb]
    simp only [ne, decide_false, Bool.or_false]
    cases lb (wCells L dn) fr <;> cases lb (L 7) (nbOf fr dn) <;> cases mp <;> simp
theorem fdB_eq (I : InvW L) (hfr : fr < 63) (hgo : go < 63) {k : Nat} (hn : ∀ j, j < k + 1 → wF L (lb (L 7)) go mp j fr = false) {dn : Nat} (hd : dn < 4) : fdB L (bOnly fr) mp (flI L mp (frOf L fr) (bOnly go &&& frOf L fr) k).1 dn = nP L (lb (L 7)) go mp fr k 1 dn := by
  unfold fdB nP
  rw [mv_hit hfr hd]
  cases ho : nbOk fr dn with
  | false => simp
  | true =>
    have hnb := nb_lt hfr hd ho
    have ne : nbOf fr dn ≠ fr := by
      unfold nbOk at ho
      unfold nbOf
      rcases (show dn = 0 ∨ dn = 1 ∨ dn = 2 ∨ dn = 3 by omega) with rfl | rfl | rfl | rfl
      · have := of_decide_eq_true ho
        show fr - 9 ≠ fr
        omega
      · show fr + 1 ≠ fr
        omega
      · show fr + 9 ≠ fr
        omega
      · have := of_decide_eq_true ho
        show fr - 1 ≠ fr
        omega
    rw [flP I hfr hgo k (fun j hj => hn j (by omega)) _ hnb]
    simp only [ne, decide_false, Bool.or_false]
    have ef : wF L (lb (L 7)) go (decide (1 = 0) && mp) k (nbOf fr dn) = wA L (lb (L 7)) go k (nbOf fr dn) := rfl
    rw [ef]
    cases lb (wCells L dn) fr <;> cases lb (L 7) (nbOf fr dn) <;> cases mp <;> cases wA L (lb (L 7)) go k (nbOf fr dn) <;> rfl
theorem stp_cases (I : InvW L) (hfr : fr < 63) (hgo : go < 63) : (stpF L fr go mp = 0 ∧ nxtF L fr go mp = none) ∨ (stpF L fr go mp = -1 ∧ nxtF L fr go mp = none) ∨ ∃ k, k < 62 ∧ stpF L fr go mp = nI (k + 1) ∧ (∀ j, j < k + 1 → wF L (lb (L 7)) go mp j fr = false) ∧ nxtF L fr go mp = match fst4 (nP L (lb (L 7)) go mp fr k 0) with
    | some i => some i
    | none => fst4 (nP L (lb (L 7)) go mp fr k 1) := by
  unfold stpF nxtF
  by_cases e : fr = go
  · rw [if_pos e, if_pos e]
    exact Or.inl ⟨rfl, rfl⟩
  · rw [if_neg e, if_neg e]
    cases e2 : fndB (fhB L fr go mp) 62 with
    | none => exact Or.inr (Or.inl ⟨rfl, rfl⟩)
    | some k =>
      obtain ⟨h1, h2, h3⟩ := fndB_spec e2
      have h := hit_at (mp := mp) I hfr hgo e k h3
      refine Or.inr (Or.inr ⟨k, h1, rfl, h, ?_⟩)
      show fdir L (bOnly fr) mp _ _ = _
      unfold fdir
      rw [fst4_cong (fun d hd => fdA_eq I hfr hgo h hd), fst4_cong (fun d hd => fdB_eq I hfr hgo h hd)]
      rfl
/-- what the model asks of a neighbour -/
theorem nP_ask (I : InvW L) {lt : Nat → Bool} {k w dn : Nat} (hw : w < 2) (hd : dn < 4) (hfr : fr < 63) (hk : k < 62) (hn : ∀ j, j < k + 1 → wF L lt go mp j fr = false) (h1 : nbOk fr dn = true) (h2 : lt (nbOf fr dn) = false) (h3 : lb (wCells L dn) fr = decide (w = 1)) (h4 : (decide (w = 0) || mp) = true) {x : Int32} (hx : IsD (fun n => wF L lt go (decide (w = 0) && mp) n (nbOf fr dn)) x) : x = nI k ↔ nP L lt go mp fr k w dn = true := by
  have e : nP L lt go mp fr k w dn = wF L lt go (decide (w = 0) && mp) k (nbOf fr dn) := by
    unfold nP
    rw [h1, h2, h3, h4]
    simp
  rw [e]
  refine isd_at hx (fun j hj => ?_) (by omega)
  cases e9 : wF L lt go (decide (w = 0) && mp) j (nbOf fr dn) with
  | false => rfl
  | true =>
    exfalso
    have q := hn (j + 1) (by omega)
    rcases (show w = 0 ∨ w = 1 by omega) with rfl | rfl
    · cases mp with
      | false =>
        have := wA_step (lt := lt) (go := go) (n := j) hd h1 h3 h2 e9
        have q : wA L lt go (j + 1) fr = false := q
        rw [this] at q
        cases q
      | true =>
        have := wB_step (lt := lt) (go := go) (n := j) hd h1 h3 h2 e9
        have q : wB L lt go (j + 1) fr = false := q
        rw [this] at q
        cases q
    · cases mp with
      | false => cases h4
      | true =>
        have := wB_wall (lt := lt) (go := go) (n := j) hd h1 h3 h2 e9
        have q : wB L lt go (j + 1) fr = false := q
        rw [this] at q
        cases q
end NX
/-! pure rows of 49.mways.txt -/
/-! pure rows of 50.mwall.txt -/
theorem xor_only {x : Int64} {c j : Nat} (hc : c < 63) : lb (x ^^^ bOnly c) j = if j = c then !lb x c else lb x j := by
  rw [lb_xor, lb_only (by omega)]
  by_cases e : j = c
  · rw [if_pos e, e]
    cases lb x c <;> simp
  · rw [if_neg e]
    cases lb x j <;> simp [e]
def wAt (c dn : Nat) : Nat := if dn = 0 ∨ dn = 3 then nbOf c dn else c
def wRow (dn : Nat) : Nat := if dn = 1 ∨ dn = 3 then 5 else 6
theorem wall_bits {L : Nat → Int64} {c dn : Nat} (hc : c < 63) (hd : dn < 4) (ho : nbOk c dn = true) : (∀ j, lb (reL (oWall L c dn) (wRow dn)) j = if j = wAt c dn then !lb (L (wRow dn)) (wAt c dn) else lb (L (wRow dn)) j) ∧ (∀ k, k ≠ wRow dn → k ≠ 7 → reL (oWall L c dn) k = L k) ∧ wAt c dn < 63 := by
  have hn := nb_lt hc hd ho
  have hm := bMv_only hc hd
  rw [if_pos ho] at hm
  rcases (show dn = 0 ∨ dn = 1 ∨ dn = 2 ∨ dn = 3 by omega) with rfl | rfl | rfl | rfl
  · refine ⟨fun j => ?_, fun k h1 h2 => ?_, hn⟩
    · show lb (L 6 ^^^ bMv (bOnly c) 0) j = if j = nbOf c 0 then !lb (L 6) (nbOf c 0) else lb (L 6) j
      rw [hm]
      exact xor_only hn
    · rw [reL_ne h2]
      exact if_neg h1
  · refine ⟨fun j => ?_, fun k h1 h2 => ?_, hc⟩
    · show lb (L 5 ^^^ bOnly c) j = if j = c then !lb (L 5) c else lb (L 5) j
      exact xor_only hc
    · rw [reL_ne h2]
      exact if_neg h1
  · refine ⟨fun j => ?_, fun k h1 h2 => ?_, hc⟩
    · show lb (L 6 ^^^ bOnly c) j = if j = c then !lb (L 6) c else lb (L 6) j
      exact xor_only hc
    · rw [reL_ne h2]
      exact if_neg h1
  · refine ⟨fun j => ?_, fun k h1 h2 => ?_, hn⟩
    · show lb (L 5 ^^^ bMv (bOnly c) 3) j = if j = nbOf c 3 then !lb (L 5) (nbOf c 3) else lb (L 5) j
      rw [hm]
      exact xor_only hn
    · rw [reL_ne h2]
      exact if_neg h1
theorem InvW_of {L L' : Nat → Int64} (I : InvW L) (h5 : L' 5 = L 5) (h6 : L' 6 = L 6) : InvW L' := by
  unfold InvW
  rw [h5, h6]
  exact I
theorem wall_InvW {L : Nat → Int64} {c dn : Nat} (hc : c < 63) (hd : dn < 4) (ho : nbOk c dn = true) (I : InvW L) : InvW (reL (oWall L c dn)) := by
  obtain ⟨b1, b2, b3⟩ := wall_bits (L := L) hc hd ho
  rcases (show dn = 0 ∨ dn = 1 ∨ dn = 2 ∨ dn = 3 by omega) with rfl | rfl | rfl | rfl
  · refine ⟨fun j hj => ?_, fun j hj => ?_⟩
    · rw [b2 5 (by decide) (by decide)] at hj
      exact I.1 j hj
    · have b1 := b1 j
      have b1 : lb (reL (oWall L c 0) 6) j = if j = c - 9 then !lb (L 6) (c - 9) else lb (L 6) j := b1
      rw [b1] at hj
      split at hj
      · omega
      · exact I.2 j hj
  · refine ⟨fun j hj => ?_, fun j hj => ?_⟩
    · have b1 := b1 j
      have b1 : lb (reL (oWall L c 1) 5) j = if j = c then !lb (L 5) c else lb (L 5) j := b1
      rw [b1] at hj
      split at hj
      · next e =>
        have := of_decide_eq_true ho
        rw [e]
        exact ⟨hc, this⟩
      · exact I.1 j hj
    · rw [b2 6 (by decide) (by decide)] at hj
      exact I.2 j hj
  · refine ⟨fun j hj => ?_, fun j hj => ?_⟩
    · rw [b2 5 (by decide) (by decide)] at hj
      exact I.1 j hj
    · have b1 := b1 j
      have b1 : lb (reL (oWall L c 2) 6) j = if j = c then !lb (L 6) c else lb (L 6) j := b1
      rw [b1] at hj
      split at hj
      · next e =>
        have := of_decide_eq_true ho
        omega
      · exact I.2 j hj
  · refine ⟨fun j hj => ?_, fun j hj => ?_⟩
    · have b1 := b1 j
      have b1 : lb (reL (oWall L c 3) 5) j = if j = c - 1 then !lb (L 5) (c - 1) else lb (L 5) j := b1
      rw [b1] at hj
      split at hj
      · next e =>
        have := of_decide_eq_true ho
        omega
      · exact I.1 j hj
    · rw [b2 6 (by decide) (by decide)] at hj
      exact I.2 j hj
/-- the wall at a cell, by the row's bit -/
theorem wall_at {L : Nat → Int64} {c dn : Nat} (hc : c < 63) (hd : dn < 4) (ho : nbOk c dn = true) (I : InvW L) : lb (wCells L dn) c = lb (L (wRow dn)) (wAt c dn) := by
  rcases (show dn = 0 ∨ dn = 1 ∨ dn = 2 ∨ dn = 3 by omega) with rfl | rfl | rfl | rfl
  · have q : 9 ≤ c := of_decide_eq_true ho
    rw [wC0 hc]
    show _ = lb (L 6) (c - 9)
    simp [q]
  · rfl
  · rfl
  · rw [wC3 I hc, ho]
    rfl
/-! pure rows of 51.come.txt -/
def newG (c p j : Nat) : Nat := match j with
  | 0 => c
  | 1 => p
  | 2 => c
  | 3 => 1
  | _ => 0
theorem addG_at {G : Nat → Nat → Nat} {g c p j : Nat} (hz : G g 4 = 0 ∧ G g 5 = 0) (hj : j < 6) : addG G g c p g j = newG c p j := by
  unfold addG
  match j, hj with
  | 0, _ => simp [setG, newG]
  | 1, _ => simp [setG, newG]
  | 2, _ => simp [setG, newG]
  | 3, _ => simp [setG, newG]
  | 4, _ => simp [setG, newG, hz.1]
  | 5, _ => simp [setG, newG, hz.2]
theorem addG_ne {G : Nat → Nat → Nat} {g c p g' j : Nat} (h : g' ≠ g) : addG G g c p g' j = G g' j := by
  unfold addG
  simp [setG, h]
theorem addG_sum {G : Nat → Nat → Nat} {g c p : Nat} (hz : G g 4 = 0 ∧ G g 5 = 0) : sumT (addG G g c p) 6 (g + 1) = sumT G 6 g := by
  have e : ∀ n, sumT (addG G g c p) 6 n = sumT G 6 n := by
    intro n
    unfold addG
    rw [sumT_set (by decide), sumT_set (by decide), sumT_set (by decide), sumT_set (by decide)]
  rw [e]
  show sumT G 6 g + trG G g 6 = _
  have : trG G g 6 = 0 := hz.1
  rw [this, Nat.add_zero]
/-! pure rows of 52.minit.txt -/
def rfI (m : Nat → Nat) (i k : Nat) : Value := if k ≤ i then .ref (m k) else .null
def mFi (m : Nat → Nat) (i : Nat) : List Value := [.int 0, rfI m i 1, rfI m i 2, rfI m i 3, rfI m i 4, rfI m i 5, .int 0, rfI m i 6, rfI m i 7, rfI m i 8, rfI m i 9, rfI m i 10]
def mU (m : Nat → Nat) (i q : Nat) : Nat → Nat := fun k => if k = i then q else m k
/-! pure rows of 53.step.txt -/
theorem relit_7 (L : Nat → Int64) (v : Int64) : ∀ n, relitN (vp_updL L 7 v) n = relitN L n
  | 0 => rfl
  | n + 1 => by
    show (if lb (L 1) n then relitN (vp_updL L 7 v) n ||| litFrom (vp_updL L 7 v) n else relitN (vp_updL L 7 v) n) = if lb (L 1) n then relitN L n ||| litFrom L n else relitN L n
    rw [relit_7 L v n, litFrom_7]
theorem reL_7 (L : Nat → Int64) : reL L 7 = relit (reL L) := by
  show relit L = relitN (vp_updL L 7 (relit L)) 63
  rw [relit_7]
  rfl
theorem T_D {L : Nat → Int64} {am : Nat → Int32} (T : InvT L am) : InvD L := fun c h => ⟨(T.2.1 c h).1, (T.2.1 c h).2.1⟩
/-- the burning candles, when the neighbours in n directions are out -/
def blX (L : Nat → Int64) (c : Nat) : Nat → Int64
  | 0 => L 1
  | n + 1 => if nbOk c n then blX L c n &&& (bOnly (nbOf c n) ^^^ (-1)) else blX L c n
theorem blX_suc {L : Nat → Int64} {c n j : Nat} (hc : c < 63) (hn : n < 4) (hj : j < 63) : lb (blX L c (n + 1)) j = (lb (blX L c n) j && !(nbOk c n && decide (nbOf c n = j))) := by
  show lb (if nbOk c n then blX L c n &&& (bOnly (nbOf c n) ^^^ (-1)) else blX L c n) j = _
  cases ho : nbOk c n with
  | false => simp
  | true =>
    rw [if_pos rfl, and_but (nb_lt hc hn ho) hj]
    have e : decide (j = nbOf c n) = decide (nbOf c n = j) := decide_eq_decide.mpr eq_comm
    rw [e]
    rfl
theorem blX_4 {L : Nat → Int64} {c j : Nat} (hc : c < 63) (hj : j < 63) : lb (blX L c 4) j = (lb (L 1) j && !ex4 (fun k => nbOk c k && decide (nbOf c k = j))) := by
  rw [blX_suc hc (by omega) hj, blX_suc hc (by omega) hj, blX_suc hc (by omega) hj, blX_suc hc (by omega) hj]
  show _ = (lb (L 1) j && !((nbOk c 0 && decide (nbOf c 0 = j)) || ((nbOk c 1 && decide (nbOf c 1 = j)) || ((nbOk c 2 && decide (nbOf c 2 = j)) || (nbOk c 3 && decide (nbOf c 3 = j))))))
  show ((((lb (L 1) j && _) && _) && _) && _) = _
  generalize (nbOk c 0 && decide (nbOf c 0 = j)) = a0
  generalize (nbOk c 1 && decide (nbOf c 1 = j)) = a1
  generalize (nbOk c 2 && decide (nbOf c 2 = j)) = a2
  generalize (nbOk c 3 && decide (nbOf c 3 = j)) = a3
  cases lb (L 1) j <;> cases a0 <;> cases a1 <;> cases a2 <;> cases a3 <;> rfl
theorem blow_lb {L : Nat → Int64} (I : InvW L) {c j : Nat} (hc : c < 63) (hj : j < 63) : lb (reL (oBlow L c) 1) j = lb (blX L c 4) j := by
  rw [blX_4 hc hj]
  show lb (L 1 &&& ((nbsI L (bOnly c) false 4 ||| nbsI L (bOnly c) true 4) ^^^ (-1))) j = _
  rw [lb_and, lb_not (by omega), lb_or, nbs_lb I (bOnly_SB hc) hj, nbs_lb I (bOnly_SB hc) hj]
  congr 2
  have key : ∀ e, e < 4 → ((nbOk j e && (lb (bOnly c) (nbOf j e) && (lb (wCells L e) j == false))) || (nbOk j e && (lb (bOnly c) (nbOf j e) && (lb (wCells L e) j == true)))) = (nbOk j e && decide (nbOf j e = c)) := by
    intro e he
    rw [lb_only (by omega)]
    cases nbOk j e <;> cases lb (wCells L e) j <;> simp
  have e1 : (ex4 (fun e => nbOk j e && (lb (bOnly c) (nbOf j e) && (lb (wCells L e) j == false))) || ex4 (fun e => nbOk j e && (lb (bOnly c) (nbOf j e) && (lb (wCells L e) j == true)))) = ex4 (fun e => nbOk j e && decide (nbOf j e = c)) := by
    rw [← ex4_cong key]
    have r := ex4_or3 (fun e => nbOk j e && (lb (bOnly c) (nbOf j e) && (lb (wCells L e) j == false))) (fun e => nbOk j e && (lb (bOnly c) (nbOf j e) && (lb (wCells L e) j == true))) (fun _ => false)
    have z : ex4 (fun _ => false) = false := rfl
    rw [z, Bool.or_false] at r
    rw [← r]
    exact ex4_cong (fun d _ => by rw [Bool.or_false])
  rw [e1]
  have iff : ex4 (fun e => nbOk j e && decide (nbOf j e = c)) = true ↔ ex4 (fun k => nbOk c k && decide (nbOf c k = j)) = true := by
    rw [ex4_iff, ex4_iff]
    constructor
    · rintro ⟨e, he, h⟩
      rw [Bool.and_eq_true, decide_eq_true_eq] at h
      obtain ⟨o1, o2⟩ := nb_opp hj he h.1
      rw [h.2] at o1 o2
      exact ⟨opp e, opp_lt he, by rw [o1, o2]; simp⟩
    · rintro ⟨e, he, h⟩
      rw [Bool.and_eq_true, decide_eq_true_eq] at h
      obtain ⟨o1, o2⟩ := nb_opp hc he h.1
      rw [h.2] at o1 o2
      exact ⟨opp e, opp_lt he, by rw [o1, o2]; simp⟩
  cases e2 : ex4 (fun e => nbOk j e && decide (nbOf j e = c)) with
  | true => exact (iff.mp e2).symm
  | false =>
    cases e3 : ex4 (fun k => nbOk c k && decide (nbOf c k = j)) with
    | false => rfl
    | true => rw [iff.mpr e3] at e2; cases e2
theorem InvT_burn {L L' : Nat → Int64} {am : Nat → Int32} (T : InvT L am) (h0 : ∀ k, k ≠ 1 → k ≠ 7 → L' k = L k) (h1 : ∀ c, lb (L' 1) c = true → lb (L 1) c = true) : InvT L' am := by
  obtain ⟨t1, t2, t3, t4, t5, t6⟩ := T
  have e0 := h0 0 (by decide) (by decide)
  have e2 := h0 2 (by decide) (by decide)
  have e3 := h0 3 (by decide) (by decide)
  have e4 := h0 4 (by decide) (by decide)
  refine ⟨fun k hk c hc => ?_, ?_, ?_, ?_, fun c hc => ?_, fun c hc => ?_⟩
  · by_cases e : k = 1
    · rw [e] at hc
      exact t1 1 (by omega) c (h1 c hc)
    · rw [h0 k e (by omega)] at hc
      exact t1 k hk c hc
  · rw [e0, e2, e3, e4]; exact t2
  · rw [e2, e3, e4]; exact t3
  · rw [e3, e4]; exact t4
  · rw [e0]; exact t5 c (h1 c hc)
  · have et : thg L' c = thg L c := thg_of (by rw [e0]) (by rw [e2]) (by rw [e3]) (by rw [e4])
    rw [et]
    exact t6 c hc
theorem blow_k {L : Nat → Int64} {c : Nat} : ∀ k, k ≠ 1 → k ≠ 7 → reL (oBlow L c) k = L k := fun k h1 h7 => by
  rw [reL_ne h7]
  exact if_neg h1
theorem blow_T {L : Nat → Int64} {am : Nat → Int32} {c : Nat} (T : InvT L am) : InvT (reL (oBlow L c)) am := InvT_burn T blow_k (fun j hj => by
  have e : reL (oBlow L c) 1 = L 1 &&& ((nbsI L (bOnly c) false 4 ||| nbsI L (bOnly c) true 4) ^^^ (-1)) := rfl
  rw [e, lb_and, Bool.and_eq_true] at hj
  exact hj.1)
/-- what the steps of an hour need of the longs -/
def InvL (L : Nat → Int64) (am : Nat → Int32) : Prop := InvW L ∧ InvT L am ∧ L 7 = relit L
theorem blow_L {L : Nat → Int64} {am : Nat → Int32} {c : Nat} (V : InvL L am) : InvL (reL (oBlow L c)) am := ⟨InvW_of V.1 rfl rfl, blow_T V.2.1, reL_7 _⟩
theorem stepF_L {s : LG} {am : Nat → Int32} {g : Nat} (V : InvL s.1 am) : InvL (stepF s g).1 am := by
  unfold stepF
  split
  · exact V
  · split
    · exact blow_L V
    · exact V
/-! pure rows of 54.haunt.txt -/
def mk2 (v : Nat) : Nat := if (v + 1) % 100 % 13 = 0 then (v + 1) % 100 % 10 * 10 + (v + 1) % 100 / 10 else (v + 1) % 100
theorem mk2_lt {v : Nat} (h : v < 100) : mk2 v < 100 := by
  unfold mk2
  split <;> omega
theorem mk_eq : ∀ v : Fin 100, mkNext (nI v.val) = nI (mk2 v.val) := by decide +kernel
theorem sumT_inc {G : Nat → Nat → Nat} {g : Nat} : ∀ n, g < n → sumT (setG G g 4 (G g 4 + 1)) 6 n = sumT G 6 n + 1
  | 0, h => absurd h (Nat.not_lt_zero _)
  | n + 1, h => by
    show sumT (setG G g 4 (G g 4 + 1)) 6 n + setG G g 4 (G g 4 + 1) n 4 = sumT G 6 n + G n 4 + 1
    by_cases e : g = n
    · subst e
      have q : ∀ k, k ≤ g → sumT (setG G g 4 (G g 4 + 1)) 6 k = sumT G 6 k := by
        intro k
        induction k with
        | zero => intro _; rfl
        | succ k ih =>
          intro hk
          show sumT (setG G g 4 (G g 4 + 1)) 6 k + setG G g 4 (G g 4 + 1) k 4 = sumT G 6 k + G k 4
          rw [ih (by omega), setG_ne _ _ (by omega)]
      rw [q g (Nat.le_refl _), setG_same]
      omega
    · rw [sumT_inc n (by omega), setG_ne _ _ (by omega)]
      omega
theorem InvT_mark {L : Nat → Int64} {am : Nat → Int32} {c : Nat} (T : InvT L am) (h4 : lb (L 4) c = true) : InvT L (upd am c (mkNext (am c))) := by
  obtain ⟨t1, t2, t3, t4, t5, t6⟩ := T
  have hc := t1 4 (by omega) c h4
  refine ⟨t1, t2, t3, t4, fun j hj => ?_, fun j hj => ?_⟩
  · have q := t5 j hj
    have ne : j ≠ c := fun z => by
      have := (t2 j q.1).2.2
      rw [z, h4] at this
      cases this
    rw [pk_un ne]
    exact q
  · by_cases e : j = c
    · subst e
      obtain ⟨v, v1, v2, -⟩ := t6 j hj
      have ev : mkNext (am j) = nI (mk2 v) := by rw [v2]; exact mk_eq ⟨v, v1⟩
      have et : thg L j = 4 := by
        have e4 := h4
        have := (in44 (am := am) ⟨t1, t2, t3, t4, t5, t6⟩ j).trans e4
        unfold inT at this
        rw [Bool.and_eq_true, decide_eq_true_eq, decide_eq_true_eq] at this
        omega
      refine ⟨mk2 v, mk2_lt v1, by rw [pk_us, ev], fun z => by omega, fun _ z => absurd et z⟩
    · rw [pk_un e]
      exact t6 j hj
theorem hauF_T {L : Nat → Int64} {s : AG} {g : Nat} (T : InvT L s.1) : InvT L (hauF L s g).1 := by
  unfold hauF
  split
  · exact T
  · split
    · next h4 => exact InvT_mark T h4
    · exact T
theorem hausF_T {L : Nat → Int64} {s : AG} (T : InvT L s.1) : ∀ n, InvT L (hausF L s n).1
  | 0 => T
  | n + 1 => hauF_T (hausF_T T n)
/-! pure rows of 55.hour.txt -/
def bdS (p : (Nat → Int64) × (Nat → Int32)) (n : Nat) : (Nat → Int64) × (Nat → Int32) := if lb (p.1 1) n then (if p.2 n - 1 ≤ 0 then vp_updL p.1 1 (p.1 1 &&& (bOnly n ^^^ (-1))) else p.1, upd p.2 n (p.2 n - 1)) else p
theorem bdN_suc (L : Nat → Int64) (am : Nat → Int32) (n : Nat) : bdN L am (n + 1) = bdS (bdN L am n) n := rfl
/-- one candle's hour: it doesn't burn; it burns out; it goes on -/
theorem bdS_cases {p : (Nat → Int64) × (Nat → Int32)} {n : Nat} (T : InvT p.1 p.2) : (lb (p.1 1) n = false ∧ bdS p n = p) ∨ (lb (p.1 1) n = true ∧ p.2 n = nI 1 ∧ bdS p n = (vp_updL p.1 1 (p.1 1 &&& (bOnly n ^^^ (-1))), upd p.2 n (nI 0))) ∨ ∃ v, v < 100 ∧ lb (p.1 1) n = true ∧ p.2 n = nI (v + 2) ∧ bdS p n = (p.1, upd p.2 n (nI (v + 1))) := by
  unfold bdS
  cases e : lb (p.1 1) n with
  | false => exact Or.inl ⟨rfl, by simp⟩
  | true =>
    obtain ⟨-, v, hv, ev⟩ := T.2.2.2.2.1 n e
    rw [ev, nI_pred, if_pos rfl]
    by_cases z : v = 0
    · subst z
      refine Or.inr (Or.inl ⟨rfl, rfl, ?_⟩)
      rw [if_pos (by decide)]
    · refine Or.inr (Or.inr ⟨v - 1, by omega, rfl, by rw [show v - 1 + 2 = v + 1 by omega], ?_⟩)
      rw [if_neg (nI_nle (by omega) (by omega)), show v - 1 + 1 = v by omega]
theorem bdS_k {p : (Nat → Int64) × (Nat → Int32)} {n k : Nat} (hk : k ≠ 1) : (bdS p n).1 k = p.1 k := by
  unfold bdS
  split
  · show (if p.2 n - 1 ≤ 0 then vp_updL p.1 1 (p.1 1 &&& (bOnly n ^^^ (-1))) else p.1) k = p.1 k
    split
    · exact if_neg hk
    · rfl
  · rfl
theorem bdN_k {L : Nat → Int64} {am : Nat → Int32} {k : Nat} (hk : k ≠ 1) : ∀ n, (bdN L am n).1 k = L k
  | 0 => rfl
  | n + 1 => by
    rw [bdN_suc, bdS_k hk]
    exact bdN_k hk n
theorem bdS_T {p : (Nat → Int64) × (Nat → Int32)} {n : Nat} (hn : n < 63) (T : InvT p.1 p.2) : InvT (bdS p n).1 (bdS p n).2 := by
  have T0 := T
  obtain ⟨t1, t2, t3, t4, t5, t6⟩ := T
  rcases bdS_cases T0 (n := n) with ⟨-, e⟩ | ⟨e1, e2, e⟩ | ⟨v, hv, e1, e2, e⟩
  · rw [e]; exact T0
  · have t0 := (t5 n e1).1
    have et : thg p.1 n = 1 := (thg1 _ _).mpr t0
    have T1 : InvT (vp_updL p.1 1 (p.1 1 &&& (bOnly n ^^^ (-1)))) p.2 := InvT_burn T0 (fun k k1 _ => if_neg k1) (fun c hc => by
      have hc : lb (p.1 1 &&& (bOnly n ^^^ (-1))) c = true := hc
      rw [lb_and, Bool.and_eq_true] at hc
      exact hc.1)
    obtain ⟨s1, s2, s3, s4, s5, s6⟩ := T1
    rw [e]
    refine ⟨s1, s2, s3, s4, fun c hc => ?_, fun c hc => ?_⟩
    · have ne : c ≠ n := fun z => by
        have hc : lb (p.1 1 &&& (bOnly n ^^^ (-1))) c = true := hc
        rw [z, and_but hn hn] at hc
        simp at hc
      show _ ∧ ∃ v, v < 100 ∧ upd p.2 n (nI 0) c = nI (v + 1)
      rw [pk_un ne]
      exact s5 c hc
    · have et9 : ∀ c, thg (vp_updL p.1 1 (p.1 1 &&& (bOnly n ^^^ (-1)))) c = thg p.1 c := fun c => rfl
      show ∃ v, v < 100 ∧ upd p.2 n (nI 0) c = nI v ∧ (thg (vp_updL p.1 1 (p.1 1 &&& (bOnly n ^^^ (-1)))) c = 1 → v ≤ 60) ∧ (thg (vp_updL p.1 1 (p.1 1 &&& (bOnly n ^^^ (-1)))) c ≠ 1 → thg (vp_updL p.1 1 (p.1 1 &&& (bOnly n ^^^ (-1)))) c ≠ 4 → v = 0)
      rw [et9]
      by_cases z : c = n
      · rw [z, pk_us, et]
        exact ⟨0, by omega, rfl, fun _ => by omega, fun q => absurd rfl q⟩
      · rw [pk_un z]
        exact t6 c hc
  · have t0 := (t5 n e1).1
    have et : thg p.1 n = 1 := (thg1 _ _).mpr t0
    rw [e]
    refine ⟨t1, t2, t3, t4, fun c hc => ?_, fun c hc => ?_⟩
    · refine ⟨(t5 c hc).1, ?_⟩
      by_cases z : c = n
      · rw [z]
        exact ⟨v, hv, pk_us⟩
      · show ∃ w, w < 100 ∧ upd p.2 n (nI (v + 1)) c = nI (w + 1)
        rw [pk_un z]
        exact (t5 c hc).2
    · by_cases z : c = n
      · rw [z]
        obtain ⟨w, w1, w2, w3, w4⟩ := t6 n hn
        have := w3 et
        rw [e2, nI_eq (by omega) (by omega)] at w2
        exact ⟨v + 1, by omega, pk_us, fun _ => by omega, fun q => absurd et q⟩
      · show ∃ w, w < 100 ∧ upd p.2 n (nI (v + 1)) c = nI w ∧ _
        rw [pk_un z]
        exact t6 c hc
theorem bdN_T {L : Nat → Int64} {am : Nat → Int32} (T : InvT L am) : ∀ n, n ≤ 63 → InvT (bdN L am n).1 (bdN L am n).2
  | 0, _ => T
  | n + 1, h => by
    rw [bdN_suc]
    exact bdS_T (by omega) (bdN_T T n (by omega))
theorem reL_T {L : Nat → Int64} {am : Nat → Int32} (T : InvT L am) : InvT (reL L) am := InvT_burn T (fun k _ k7 => reL_ne k7) (fun _ h => h)
theorem bd_L {L : Nat → Int64} {am : Nat → Int32} (V : InvL L am) : InvL (reL (bdN L am 63).1) (bdN L am 63).2 := ⟨InvW_of V.1 (by rw [reL_ne (by decide), bdN_k (by decide)]) (by rw [reL_ne (by decide), bdN_k (by decide)]), reL_T (bdN_T V.2.1 63 (Nat.le_refl _)), reL_7 _⟩
theorem stepsF_L {s : LG} {am : Nat → Int32} {g : Nat} (V : InvL s.1 am) : ∀ n, InvL (stepsF s g n).1 am
  | 0 => V
  | n + 1 => stepF_L (stepsF_L V n)
theorem walkF_L {s : LG} {am : Nat → Int32} (V : InvL s.1 am) : ∀ n, InvL (walkF s n).1 am
  | 0 => V
  | n + 1 => stepsF_L (walkF_L V n) _
def InvS (S : CS) : Prop := CSok S ∧ InvL S.1 S.2.1
theorem hrS_V {S : CS} (V : InvS S) : InvS (hrS S) := by
  refine ⟨hrS_ok V.1, ?_⟩
  have W := walkF_L (s := (reL (bdN S.1 S.2.1 63).1, S.2.2.1)) (bd_L V.2) S.2.2.2.1
  exact ⟨W.1, hausF_T (s := ((bdN S.1 S.2.1 63).2, (hourL S.1 S.2.1 S.2.2.1 S.2.2.2.1).2, 0)) W.2.1 _, W.2.2⟩
theorem pasS_V {S : CS} (V : InvS S) : ∀ k, InvS (pasS S k)
  | 0 => V
  | k + 1 => hrS_V (pasS_V V k)
theorem steps_stop {s : LG} {g j : Nat} (h : stepF (stepsF s g j) g = stepsF s g j) : ∀ k, stepsF s g (j + k) = stepsF s g j
  | 0 => rfl
  | k + 1 => by
    show stepF (stepsF s g (j + k)) g = _
    rw [steps_stop h k, h]
/-! pure rows of 56.kept.txt -/
theorem sum_step {s : LG} {g : Nat} : ∀ n, sumT (stepF s g).2 6 n = sumT s.2 6 n := by
  intro n
  unfold stepF
  split
  · rfl
  · split
    · show sumT (setG (setG s.2 g 0 _) g 3 0) 6 n = _
      rw [sumT_set (by decide), sumT_set (by decide)]
    · show sumT (setG s.2 g 0 _) 6 n = _
      rw [sumT_set (by decide)]
theorem sum_steps {s : LG} {g : Nat} (n : Nat) : ∀ k, sumT (stepsF s g k).2 6 n = sumT s.2 6 n
  | 0 => rfl
  | k + 1 => (sum_step n).trans (sum_steps n k)
theorem sum_walk {s : LG} (n : Nat) : ∀ k, sumT (walkF s k).2 6 n = sumT s.2 6 n
  | 0 => rfl
  | k + 1 => (sum_steps n _).trans (sum_walk n k)
theorem sum_hau {L : Nat → Int64} {s : AG} {g n : Nat} (hg : g < n) : sumT (hauF L s g).2.1 6 n + s.2.2 = sumT s.2.1 6 n + (hauF L s g).2.2 := by
  unfold hauF
  split
  · show sumT (setG s.2.1 g 5 _) 6 n + s.2.2 = sumT s.2.1 6 n + s.2.2
    rw [sumT_set (by decide)]
  · split
    · show sumT (setG s.2.1 g 4 _) 6 n + s.2.2 = sumT s.2.1 6 n + (s.2.2 + 1)
      rw [sumT_inc n hg]
      omega
    · rfl
theorem sum_haus {L : Nat → Int64} {s : AG} {n : Nat} : ∀ k, k ≤ n → sumT (hausF L s k).2.1 6 n + s.2.2 = sumT s.2.1 6 n + (hausF L s k).2.2
  | 0, _ => rfl
  | k + 1, h => by
    have a := sum_haus (L := L) (s := s) (n := n) k (by omega)
    have b := sum_hau (L := L) (s := hausF L s k) (g := k) (n := n) (by omega)
    show sumT (hauF L (hausF L s k) k).2.1 6 n + s.2.2 = sumT s.2.1 6 n + (hauF L (hausF L s k) k).2.2
    omega
theorem sum_hr (S : CS) : sumT (hrS S).2.2.1 6 S.2.2.2.1 = sumT S.2.2.1 6 S.2.2.2.1 + hrH S := by
  have a := sum_haus (L := (hourL S.1 S.2.1 S.2.2.1 S.2.2.2.1).1) (s := ((bdN S.1 S.2.1 63).2, (hourL S.1 S.2.1 S.2.2.1 S.2.2.2.1).2, 0)) (n := S.2.2.2.1) S.2.2.2.1 (Nat.le_refl _)
  have b := sum_walk (s := (reL (bdN S.1 S.2.1 63).1, S.2.2.1)) S.2.2.2.1 S.2.2.2.1
  show sumT (hausF _ _ _).2.1 6 _ = _
  have a : sumT (hausF (hourL S.1 S.2.1 S.2.2.1 S.2.2.2.1).1 ((bdN S.1 S.2.1 63).2, (hourL S.1 S.2.1 S.2.2.1 S.2.2.2.1).2, 0) S.2.2.2.1).2.1 6 S.2.2.2.1 + 0 = sumT (hourL S.1 S.2.1 S.2.2.1 S.2.2.2.1).2 6 S.2.2.2.1 + hrH S := a
  have b : sumT (hourL S.1 S.2.1 S.2.2.1 S.2.2.2.1).2 6 S.2.2.2.1 = sumT S.2.2.1 6 S.2.2.2.1 := b
  omega
theorem pas_gc (S : CS) : ∀ k, (pasS S k).2.2.2.1 = S.2.2.2.1
  | 0 => rfl
  | k + 1 => pas_gc S k
theorem sum_pas (S : CS) : ∀ k, sumT (pasS S k).2.2.1 6 S.2.2.2.1 = sumT S.2.2.1 6 S.2.2.2.1 + pasH S k
  | 0 => rfl
  | k + 1 => by
    have a := sum_pas S k
    have b := sum_hr (pasS S k)
    rw [pas_gc] at b
    show sumT (hrS (pasS S k)).2.2.1 6 _ = _ + (pasH S k + hrH (pasS S k))
    omega
/-! pure rows of 57.foresee.txt -/
theorem step_k {s : LG} {g k : Nat} (h1 : k ≠ 1) (h7 : k ≠ 7) : (stepF s g).1 k = s.1 k := by
  unfold stepF
  split
  · rfl
  · split
    · exact blow_k k h1 h7
    · rfl
theorem steps_k {s : LG} {g k : Nat} (h1 : k ≠ 1) (h7 : k ≠ 7) : ∀ n, (stepsF s g n).1 k = s.1 k
  | 0 => rfl
  | n + 1 => (step_k h1 h7).trans (steps_k h1 h7 n)
theorem walk_k {s : LG} {k : Nat} (h1 : k ≠ 1) (h7 : k ≠ 7) : ∀ n, (walkF s n).1 k = s.1 k
  | 0 => rfl
  | n + 1 => (steps_k h1 h7 _).trans (walk_k h1 h7 n)
theorem hr_k (S : CS) {k : Nat} (h1 : k ≠ 1) (h7 : k ≠ 7) : (hrS S).1 k = S.1 k := by
  have a := walk_k (s := (reL (bdN S.1 S.2.1 63).1, S.2.2.1)) h1 h7 S.2.2.2.1
  show (walkF (reL (bdN S.1 S.2.1 63).1, S.2.2.1) S.2.2.2.1).1 k = S.1 k
  rw [a]
  show reL (bdN S.1 S.2.1 63).1 k = S.1 k
  rw [reL_ne h7, bdN_k h1]
theorem pas_k (S : CS) {k : Nat} (h1 : k ≠ 1) (h7 : k ≠ 7) : ∀ n, (pasS S n).1 k = S.1 k
  | 0 => rfl
  | n + 1 => (hr_k _ h1 h7).trans (pas_k S h1 h7 n)
/-- the same walls, things and number of ghosts -/
def sameH (S S' : CS) : Prop := (∀ k, k ≠ 1 → k ≠ 7 → S'.1 k = S.1 k) ∧ S'.2.2.2.1 = S.2.2.2.1
theorem sameH_pas (S : CS) (n : Nat) : sameH S (pasS S n) := ⟨fun _ h1 h7 => pas_k S h1 h7 n, pas_gc S n⟩
def fsA (S : CS) (k wh : Nat) : Int32 := match wh with
  | 0 => nI (pasH S k)
  | 1 => iPop ((pasS S k).1 1)
  | 2 => iPop ((pasS S k).1 7)
  | _ => nI (cntG (fun g => decide ((pasS S k).2.2.1 g 0 = (pasS S k).2.2.1 g 2)) (pasS S k).2.2.2.1)
/-! pure rows of 58.advise.txt -/
theorem okM_in {m : Int32} : (decide (¬ m < 0) && decide (m ≤ 99)) = okM m := rfl
theorem switch_T {L : Nat → Int64} {am : Nat → Int32} {c : Nat} (hc : c < 63) (T : InvT L am) (h : cwax L am c = true) : InvT (reL (oSwitch L c)) am := by
  unfold cwax at h
  rw [Bool.and_eq_true, decide_eq_true_eq] at h
  have T0 := T
  obtain ⟨t1, t2, t3, t4, t5, t6⟩ := T
  have b := switch_bu (L := L) hc
  have k := switch_k (L := L) (c := c)
  have e1 : reL (oSwitch L c) 1 = L 1 ^^^ bOnly c := rfl
  have b2 : ∀ j, lb (reL (oSwitch L c) 1) j = true → j = c ∨ lb (L 1) j = true := by
    intro j hj
    rw [e1, xor_only hc] at hj
    by_cases z : j = c
    · exact Or.inl z
    · rw [if_neg z] at hj
      exact Or.inr hj
  refine ⟨fun i hi j hj => ?_, t2, t3, t4, fun j hj => ?_, t6⟩
  · by_cases z : i = 1
    · subst z
      rcases b2 j hj with z | z
      · rw [z]; exact hc
      · exact t1 1 (by omega) j z
    · rw [k i z (by omega)] at hj
      exact t1 i hi j hj
  · show lb (L 0) j = true ∧ _
    rcases b2 j hj with z | z
    · rw [z]
      refine ⟨h.1, ?_⟩
      obtain ⟨v, v1, v2, -⟩ := t6 c hc
      have h2 := h.2
      rw [v2] at h2
      have : 0 < v := (nI_ltI (a := 0) (by omega) (by omega)).mp h2
      exact ⟨v - 1, by omega, by rw [v2, show v - 1 + 1 = v by omega]⟩
    · exact t5 j z
theorem switch_V {S : CS} {c : Nat} (hc : c < 63) (V : InvS S) (h : cwax S.1 S.2.1 c = true) : InvS (swS S (some c)) := ⟨V.1, InvW_of V.2.1 rfl rfl, switch_T hc V.2.2.1 h, reL_7 _⟩
/-! pure rows of 59.mdigest.txt -/
/-! pure rows of 60.inv.txt -/
theorem inT_of {L L' : Nat → Int64} {a b j : Nat} (h : thg L' j = thg L j) : inT L' a b j = inT L a b j := by
  unfold inT
  rw [h]
theorem cnt_put {L L' : Nat → Int64} {c t a b : Nat} (hc : c < 63) (th : ∀ j, j < 63 → thg L' j = if j = c then t else thg L j) (h0 : thg L c = 0) (ha : 1 ≤ a) : cntG (inT L' a b) 63 = cntG (inT L a b) 63 + (if a ≤ t ∧ t ≤ b then 1 else 0) := by
  have e0 : inT L a b c = false := by
    unfold inT
    rw [h0]
    simp
    omega
  by_cases q : a ≤ t ∧ t ≤ b
  · rw [if_pos q, ← cnt_add e0 63 hc]
    refine cntG_cong (fun j hj => ?_)
    unfold inT
    rw [th j hj]
    by_cases z : j = c
    · rw [if_pos z, if_pos z]
      simp [q]
    · rw [if_neg z, if_neg z]
  · rw [if_neg q, Nat.add_zero]
    refine cntG_cong (fun j hj => ?_)
    by_cases z : j = c
    · rw [z, e0]
      unfold inT
      rw [th c hc, if_pos rfl]
      simp only [Bool.and_eq_false_iff, decide_eq_false_iff_not]
      omega
    · exact inT_of (by rw [th j hj, if_neg z])
theorem cnt_clr {L L' : Nat → Int64} {c a b : Nat} (th : ∀ j, j < 63 → thg L' j = if j = c then 0 else thg L j) (ha : 1 ≤ a) : cntG (inT L' a b) 63 ≤ cntG (inT L a b) 63 := by
  refine cnt_mono 63 (fun j hj h => ?_)
  by_cases z : j = c
  · unfold inT at h
    rw [th j hj, if_pos z] at h
    simp at h
    omega
  · rw [inT_of (L := L) (L' := L') (by rw [th j hj, if_neg z])] at h
    exact h
theorem or_hit {x : Int64} {c j : Nat} (hc : c < 63) (h : lb (x ||| bOnly c) j = true) : j = c ∨ lb x j = true := by
  rw [or_only hc, Bool.or_eq_true, decide_eq_true_eq] at h
  exact h.symm
theorem candle_T {L : Nat → Int64} {am : Nat → Int32} {c k : Nat} (hc : c < 63) (h0 : thg L c = 0) (k1 : 1 ≤ k) (k60 : k ≤ 60) (T : InvT L am) : InvT (reL (oCandle L c)) (upd am c (nI k)) := by
  obtain ⟨t1, t2, t3, t4, t5, t6⟩ := T
  obtain ⟨z0, z2, z3, z4⟩ := thg_0 h0
  have th := candle_th (L := L) hc
  have e0 : reL (oCandle L c) 0 = L 0 ||| bOnly c := rfl
  have e1 : reL (oCandle L c) 1 = L 1 ||| bOnly c := rfl
  refine ⟨fun i hi j hj => ?_, fun j hj => ?_, t3, t4, fun j hj => ?_, fun j hj => ?_⟩
  · rcases (show i = 0 ∨ i = 1 ∨ i = 2 ∨ i = 3 ∨ i = 4 by omega) with rfl | rfl | rfl | rfl | rfl
    · rcases or_hit hc hj with z | z
      · rw [z]; exact hc
      · exact t1 0 (by omega) j z
    · rcases or_hit hc hj with z | z
      · rw [z]; exact hc
      · exact t1 1 (by omega) j z
    · exact t1 2 (by omega) j hj
    · exact t1 3 (by omega) j hj
    · exact t1 4 (by omega) j hj
  · show lb (L 2) j = false ∧ lb (L 3) j = false ∧ lb (L 4) j = false
    rcases or_hit hc hj with z | z
    · rw [z]; exact ⟨z2, z3, z4⟩
    · exact t2 j z
  · show lb (L 0 ||| bOnly c) j = true ∧ ∃ v, v < 100 ∧ upd am c (nI k) j = nI (v + 1)
    rw [or_only hc]
    by_cases z : j = c
    · exact ⟨by simp [z], k - 1, by omega, by rw [z, pk_us, show k - 1 + 1 = k by omega]⟩
    · rcases or_hit hc hj with y | y
      · exact absurd y z
      · obtain ⟨a, b⟩ := t5 j y
        exact ⟨by simp [a], by rw [pk_un z]; exact b⟩
  · by_cases z : j = c
    · rw [th j hj, if_pos z]
      exact ⟨k, by omega, by rw [z, pk_us], fun _ => k60, fun q => absurd rfl q⟩
    · rw [th j hj, if_neg z, pk_un z]
      exact t6 j hj
theorem tally_T {L : Nat → Int64} {am : Nat → Int32} {c : Nat} (hc : c < 63) (h0 : thg L c = 0) (T : InvT L am) : InvT (oTally L c) am := by
  have T0 := T
  obtain ⟨t1, t2, t3, t4, t5, t6⟩ := T
  obtain ⟨z0, z2, z3, z4⟩ := thg_0 h0
  have th := tally_th hc h0
  have ne : ∀ {x : Int64} {j : Nat}, lb x c = false → lb x j = true → lb (L 4) j = false → lb (L 4 ||| bOnly c) j = false := by
    intro x j a b e
    have : j ≠ c := fun q => by rw [q, a] at b; cases b
    rw [or_only hc, e]
    simp [this]
  refine ⟨fun i hi j hj => ?_, fun j hj => ?_, fun j hj => ?_, fun j hj => ?_, t5, fun j hj => ?_⟩
  · by_cases z : i = 4
    · subst z
      rcases or_hit hc hj with z | z
      · rw [z]; exact hc
      · exact t1 4 (by omega) j z
    · have e : oTally L c i = L i := if_neg z
      rw [e] at hj
      exact t1 i hi j hj
  · obtain ⟨a, b, e⟩ := t2 j hj
    exact ⟨a, b, ne z0 hj e⟩
  · obtain ⟨a, e⟩ := t3 j hj
    exact ⟨a, ne z2 hj e⟩
  · exact ne z3 hj (t4 j hj)
  · by_cases z : j = c
    · obtain ⟨v, a, b, -, -⟩ := t6 j hj
      rw [th j hj, if_pos z]
      exact ⟨v, a, b, fun q => by omega, fun _ q => absurd rfl q⟩
    · rw [th j hj, if_neg z]
      exact t6 j hj
theorem mirror_T {L : Nat → Int64} {am : Nat → Int32} {c : Nat} {b : Bool} (hc : c < 63) (h0 : thg L c = 0) (T : InvT L am) : InvT (reL (oMirror L c b)) am := by
  have T0 := T
  obtain ⟨t1, t2, t3, t4, t5, t6⟩ := T
  obtain ⟨z0, z2, z3, z4⟩ := thg_0 h0
  have th := mirror_th hc h0 b
  have t6' : ∀ j, j < 63 → ∃ v, v < 100 ∧ am j = nI v ∧ (thg (reL (oMirror L c b)) j = 1 → v ≤ 60) ∧ (thg (reL (oMirror L c b)) j ≠ 1 → thg (reL (oMirror L c b)) j ≠ 4 → v = 0) := by
    intro j hj
    obtain ⟨v, a1, a2, a3, a4⟩ := t6 j hj
    by_cases z : j = c
    · rw [z] at a3 a4
      exact ⟨v, a1, a2, fun _ => by rw [a4 (by omega) (by omega)]; omega, fun _ _ => a4 (by omega) (by omega)⟩
    · rw [th j hj, if_neg z]
      exact ⟨v, a1, a2, a3, a4⟩
  have nec : ∀ {x : Int64} {j : Nat}, lb x c = false → lb x j = true → j ≠ c := by
    intro x j a e q
    rw [q, a] at e
    cases e
  cases b with
  | true =>
    refine ⟨fun i hi j hj => ?_, fun j hj => ?_, fun j hj => ?_, t4, t5, t6'⟩
    · by_cases z : i = 2
      · subst z
        rcases or_hit hc hj with z | z
        · rw [z]; exact hc
        · exact t1 2 (by omega) j z
      · have e : reL (oMirror L c true) i = L i := (reL_ne (by omega)).trans (if_neg z)
        rw [e] at hj
        exact t1 i hi j hj
    · obtain ⟨a, e, g⟩ := t2 j hj
      have n := nec z0 hj
      refine ⟨?_, e, g⟩
      show lb (L 2 ||| bOnly c) j = false
      rw [or_only hc, a]
      simp [n]
    · rcases or_hit hc hj with z | z
      · rw [z]; exact ⟨z3, z4⟩
      · exact t3 j z
  | false =>
    refine ⟨fun i hi j hj => ?_, fun j hj => ?_, fun j hj => ?_, fun j hj => ?_, t5, t6'⟩
    · by_cases z : i = 3
      · subst z
        rcases or_hit hc hj with z | z
        · rw [z]; exact hc
        · exact t1 3 (by omega) j z
      · have e : reL (oMirror L c false) i = L i := (reL_ne (by omega)).trans (if_neg z)
        rw [e] at hj
        exact t1 i hi j hj
    · obtain ⟨a, e, g⟩ := t2 j hj
      have n := nec z0 hj
      refine ⟨a, ?_, g⟩
      show lb (L 3 ||| bOnly c) j = false
      rw [or_only hc, e]
      simp [n]
    · obtain ⟨a, g⟩ := t3 j hj
      have n := nec z2 hj
      refine ⟨?_, g⟩
      show lb (L 3 ||| bOnly c) j = false
      rw [or_only hc, a]
      simp [n]
    · rcases or_hit hc hj with z | z
      · rw [z]; exact z4
      · exact t4 j z
theorem clear_T {L : Nat → Int64} {am : Nat → Int32} {c : Nat} (hc : c < 63) (T : InvT L am) : InvT (reL (oClear L c)) (upd am c 0) := by
  obtain ⟨t1, t2, t3, t4, t5, t6⟩ := T
  have th := clear_th (L := L) hc
  have sub : ∀ i, i < 5 → ∀ j, lb (reL (oClear L c) i) j = true → lb (L i) j = true ∧ (j < 63 → j ≠ c) := by
    intro i hi j hj
    have e : reL (oClear L c) i = L i &&& (bOnly c ^^^ (-1)) := by
      rcases (show i = 0 ∨ i = 1 ∨ i = 2 ∨ i = 3 ∨ i = 4 by omega) with rfl | rfl | rfl | rfl | rfl <;> rfl
    rw [e] at hj
    have h1 := hj
    rw [lb_and, Bool.and_eq_true] at h1
    refine ⟨h1.1, fun h63 z => ?_⟩
    rw [and_but hc h63, z] at hj
    simp at hj
  have nf : ∀ i, i < 5 → ∀ j, lb (L i) j = false → lb (reL (oClear L c) i) j = false := by
    intro i hi j hj
    cases e : lb (reL (oClear L c) i) j with
    | false => rfl
    | true => rw [(sub i hi j e).1] at hj; cases hj
  refine ⟨fun i hi j hj => t1 i hi j (sub i hi j hj).1, fun j hj => ?_, fun j hj => ?_, fun j hj => ?_, fun j hj => ?_, fun j hj => ?_⟩
  · obtain ⟨a, b, e⟩ := t2 j (sub 0 (by omega) j hj).1
    exact ⟨nf 2 (by omega) j a, nf 3 (by omega) j b, nf 4 (by omega) j e⟩
  · obtain ⟨a, b⟩ := t3 j (sub 2 (by omega) j hj).1
    exact ⟨nf 3 (by omega) j a, nf 4 (by omega) j b⟩
  · exact nf 4 (by omega) j (t4 j (sub 3 (by omega) j hj).1)
  · obtain ⟨a, b⟩ := sub 1 (by omega) j hj
    have h63 := t1 1 (by omega) j a
    have n := b h63
    obtain ⟨p, q⟩ := t5 j a
    refine ⟨?_, by rw [pk_un n]; exact q⟩
    show lb (L 0 &&& (bOnly c ^^^ (-1))) j = true
    rw [and_but hc h63, p]
    simp [n]
  · by_cases z : j = c
    · rw [th j hj, if_pos z, z, pk_us]
      exact ⟨0, by omega, rfl, fun _ => by omega, fun _ _ => rfl⟩
    · rw [th j hj, if_neg z, pk_un z]
      exact t6 j hj
theorem wall_T {L : Nat → Int64} {am : Nat → Int32} {c dn : Nat} (hc : c < 63) (hd : dn < 4) (ho : nbOk c dn = true) (T : InvT L am) : InvT (reL (oWall L c dn)) am := by
  obtain ⟨-, b2, -⟩ := wall_bits (L := L) hc hd ho
  have w : wRow dn = 5 ∨ wRow dn = 6 := by
    unfold wRow
    split
    · exact Or.inl rfl
    · exact Or.inr rfl
  have e1 : reL (oWall L c dn) 1 = L 1 := b2 1 (by omega) (by omega)
  obtain ⟨t1, t2, t3, t4, t5, t6⟩ := T
  have e : ∀ i, i < 5 → reL (oWall L c dn) i = L i := fun i hi => b2 i (by omega) (by omega)
  refine ⟨fun i hi j hj => ?_, ?_, ?_, ?_, ?_, fun j hj => ?_⟩
  · rw [e i hi] at hj
    exact t1 i hi j hj
  · rw [e 0 (by omega), e 2 (by omega), e 3 (by omega), e 4 (by omega)]; exact t2
  · rw [e 2 (by omega), e 3 (by omega), e 4 (by omega)]; exact t3
  · rw [e 3 (by omega), e 4 (by omega)]; exact t4
  · rw [e 1 (by omega), e 0 (by omega)]; exact t5
  · have et : thg (reL (oWall L c dn)) j = thg L j := thg_of (by rw [e 0 (by omega)]) (by rw [e 2 (by omega)]) (by rw [e 3 (by omega)]) (by rw [e 4 (by omega)])
    rw [et]
    exact t6 j hj
/-- behind i calls -/
def InvC (S : CS) (i : Nat) : Prop := InvS S ∧ (∀ g, S.2.2.2.1 ≤ g → S.2.2.1 g 4 = 0 ∧ S.2.2.1 g 5 = 0) ∧ cntG (inT S.1 1 1) 63 ≤ 10 ∧ cntG (inT S.1 2 3) 63 ≤ 10 ∧ cntG (inT S.1 4 4) 63 ≤ 6 ∧ sumT S.2.2.1 6 S.2.2.2.1 ≤ 240 * i
theorem InvC.up {S : CS} {i : Nat} (C : InvC S i) : InvC S (i + 1) := by
  obtain ⟨a, b, c, d, e, f⟩ := C
  exact ⟨a, b, c, d, e, by omega⟩
theorem InvC_0 : InvC S0 0 := by
  have z : ∀ a b, 1 ≤ a → cntG (inT S0.1 a b) 63 = 0 := by
    intro a b ha
    rw [cntG_cong (q := fun _ => false) (fun j hj => ?_), cnt_0]
    unfold inT
    have : thg S0.1 j = 0 := by
      unfold thg
      simp only [lb_0]
      rfl
    rw [this]
    simp
    omega
  have rl : ∀ n, relitN S0.1 n = 0 := by
    intro n
    induction n with
    | zero => rfl
    | succ n ih =>
      show (if lb 0 n then relitN S0.1 n ||| litFrom S0.1 n else relitN S0.1 n) = 0
      rw [lb_0, if_neg (by decide), ih]
  refine ⟨⟨⟨by show 0 ≤ 6; omega, fun g hg => ⟨by show 0 < 63; omega, by show 0 ≤ 3; omega, by show 0 < 63; omega, by show 0 ≤ 1; omega⟩⟩, ⟨fun c h => ?_, fun c h => ?_⟩, ⟨fun k hk c h => ?_, fun c h => ?_, fun c h => ?_, fun c h => ?_, fun c h => ?_, fun c hc => ⟨0, by omega, rfl, fun _ => by omega, fun _ _ => rfl⟩⟩, (rl 63).symm⟩, fun g hg => ⟨rfl, rfl⟩, by rw [z 1 1 (by omega)]; omega, by rw [z 2 3 (by omega)]; omega, by rw [z 4 4 (by omega)]; omega, Nat.zero_le _⟩
  all_goals
    have h : lb 0 c = true := h
    rw [lb_0] at h
    cases h
theorem pop_lt {L : Nat → Int64} {x : Int64} {a b n : Nat} (hx : SB x) (e : ∀ c, inT L a b c = lb x c) (hn : n < 1000) (h : iPop x < nI n) : cntG (inT L a b) 63 < n := by
  rw [pop_in hx e] at h
  have := cnt_le (inT L a b) 63
  exact (nI_ltI (by omega) (by omega)).mp h
section IK
variable {S : CS} {i : Nat}
theorem iWall {x y w : Int32} (C : InvC S i) : InvC (fWall S x y w).2 (i + 1) := by
  unfold fWall
  split
  · next e =>
    obtain ⟨hc, -⟩ := okC_of e
    split
    · next e2 =>
      obtain ⟨k, hk, rfl, ek⟩ := okR_ex (by omega) e2
      rw [ek]
      split
      · next e3 =>
        obtain ⟨⟨a, b⟩, c, d, e, f, g⟩ := C
        obtain ⟨-, b2, -⟩ := wall_bits (L := S.1) hc hk e3
        have w : wRow k = 5 ∨ wRow k = 6 := by
          unfold wRow
          split
          · exact Or.inl rfl
          · exact Or.inr rfl
        have th : ∀ j, thg (reL (oWall S.1 (cellI x y) k)) j = thg S.1 j := fun j => thg_of (by rw [b2 0 (by omega) (by omega)]) (by rw [b2 2 (by omega) (by omega)]) (by rw [b2 3 (by omega) (by omega)]) (by rw [b2 4 (by omega) (by omega)])
        have cn : ∀ a b, cntG (inT (reL (oWall S.1 (cellI x y) k)) a b) 63 = cntG (inT S.1 a b) 63 := fun a b => cntG_cong (fun j _ => inT_of (th j))
        refine ⟨⟨a, wall_InvW hc hk e3 b.1, wall_T hc hk e3 b.2.1, reL_7 _⟩, c, ?_, ?_, ?_, ?_⟩
        · show cntG (inT (reL (oWall S.1 (cellI x y) k)) 1 1) 63 ≤ 10
          rw [cn]; exact d
        · show cntG (inT (reL (oWall S.1 (cellI x y) k)) 2 3) 63 ≤ 10
          rw [cn]; exact e
        · show cntG (inT (reL (oWall S.1 (cellI x y) k)) 4 4) 63 ≤ 6
          rw [cn]; exact f
        · show sumT S.2.2.1 6 S.2.2.2.1 ≤ _
          omega
      · exact C.up
    · exact C.up
  · exact C.up
theorem iCandle {x y w : Int32} (C : InvC S i) : InvC (fCandle S x y w).2 (i + 1) := by
  unfold fCandle
  split
  · next e =>
    obtain ⟨hc, -⟩ := okC_of e
    split
    · next e2 =>
      obtain ⟨k, hk1, hk, rfl, ek⟩ := okH_ex (by omega) e2
      split
      · next e3 =>
        obtain ⟨⟨a, b⟩, c, d, e, f, g⟩ := C
        have lt := pop_lt (n := 10) (SB_of b.2.1 (k := 0) (by omega)) (in11 S.1) (by omega) e3.1
        have th := candle_th (L := S.1) hc
        refine ⟨⟨a, InvW_of b.1 rfl rfl, candle_T hc e3.2 hk1 hk b.2.1, reL_7 _⟩, c, ?_, ?_, ?_, ?_⟩
        · show cntG (inT (reL (oCandle S.1 (cellI x y))) 1 1) 63 ≤ 10
          rw [cnt_put hc th e3.2 (by omega)]
          simp
          omega
        · show cntG (inT (reL (oCandle S.1 (cellI x y))) 2 3) 63 ≤ 10
          rw [cnt_put hc th e3.2 (by omega)]
          simp
          omega
        · show cntG (inT (reL (oCandle S.1 (cellI x y))) 4 4) 63 ≤ 6
          rw [cnt_put hc th e3.2 (by omega)]
          simp
          omega
        · show sumT S.2.2.1 6 S.2.2.2.1 ≤ _
          omega
      · exact C.up
    · exact C.up
  · exact C.up
theorem iMirror {x y : Int32} {b : Bool} (C : InvC S i) : InvC (fMirror S x y b).2 (i + 1) := by
  unfold fMirror
  split
  · next e =>
    obtain ⟨hc, -⟩ := okC_of e
    split
    · next e3 =>
      obtain ⟨⟨a, v⟩, c, d, e, f, g⟩ := C
      have lt := pop_lt (n := 10) (or_SB2 (SB_of v.2.1 (k := 2) (by omega)) (SB_of v.2.1 (k := 3) (by omega))) (fun c => (in23 v.2.1 c).trans (lb_or _ _ _).symm) (by omega) e3.1
      have th := mirror_th hc e3.2 b
      refine ⟨⟨a, InvW_of v.1 (by cases b <;> rfl) (by cases b <;> rfl), mirror_T hc e3.2 v.2.1, reL_7 _⟩, c, ?_, ?_, ?_, ?_⟩
      · show cntG (inT (reL (oMirror S.1 (cellI x y) b)) 1 1) 63 ≤ 10
        rw [cnt_put hc th e3.2 (by omega)]
        cases b <;> simp <;> omega
      · show cntG (inT (reL (oMirror S.1 (cellI x y) b)) 2 3) 63 ≤ 10
        rw [cnt_put hc th e3.2 (by omega)]
        cases b <;> simp <;> omega
      · show cntG (inT (reL (oMirror S.1 (cellI x y) b)) 4 4) 63 ≤ 6
        rw [cnt_put hc th e3.2 (by omega)]
        cases b <;> simp <;> omega
      · show sumT S.2.2.1 6 S.2.2.2.1 ≤ _
        omega
    · exact C.up
  · exact C.up
theorem iTally {x y : Int32} (C : InvC S i) : InvC (fTally S x y).2 (i + 1) := by
  unfold fTally
  split
  · next e =>
    obtain ⟨hc, -⟩ := okC_of e
    split
    · next e3 =>
      obtain ⟨⟨a, v⟩, c, d, e, f, g⟩ := C
      have lt := pop_lt (n := 6) (SB_of v.2.1 (k := 4) (by omega)) (in44 v.2.1) (by omega) e3.1
      have th := tally_th hc e3.2
      have e7 : relit (oTally S.1 (cellI x y)) = relit S.1 := by
        have q : ∀ n, relitN (oTally S.1 (cellI x y)) n = relitN S.1 n := by
          have qb : ∀ own cells dn n, beamI (oTally S.1 (cellI x y)) own cells dn n = beamI S.1 own cells dn n := by
            intro own cells dn n
            induction n with
            | zero => rfl
            | succ n ih =>
              rw [beam_succ, beam_succ, ih]
              rfl
          have ql : ∀ own n, litF (oTally S.1 (cellI x y)) own n = litF S.1 own n := by
            intro own n
            induction n with
            | zero => rfl
            | succ n ih =>
              show (beamI (oTally S.1 (cellI x y)) own (litF (oTally S.1 (cellI x y)) own n) n 6).2.2 = (beamI S.1 own (litF S.1 own n) n 6).2.2
              rw [qb, ih]
          intro n
          induction n with
          | zero => rfl
          | succ n ih =>
            show (if lb (S.1 1) n then relitN (oTally S.1 (cellI x y)) n ||| litFrom (oTally S.1 (cellI x y)) n else relitN (oTally S.1 (cellI x y)) n) = if lb (S.1 1) n then relitN S.1 n ||| litFrom S.1 n else relitN S.1 n
            rw [ih, show litFrom (oTally S.1 (cellI x y)) n = litFrom S.1 n from ql _ 4]
        exact q 63
      refine ⟨⟨a, InvW_of v.1 rfl rfl, tally_T hc e3.2 v.2.1, ?_⟩, c, ?_, ?_, ?_, ?_⟩
      · show S.1 7 = relit (oTally S.1 (cellI x y))
        rw [e7]
        exact v.2.2
      · show cntG (inT (oTally S.1 (cellI x y)) 1 1) 63 ≤ 10
        rw [cnt_put hc th e3.2 (by omega)]
        simp
        omega
      · show cntG (inT (oTally S.1 (cellI x y)) 2 3) 63 ≤ 10
        rw [cnt_put hc th e3.2 (by omega)]
        simp
        omega
      · show cntG (inT (oTally S.1 (cellI x y)) 4 4) 63 ≤ 6
        rw [cnt_put hc th e3.2 (by omega)]
        simp
        omega
      · show sumT S.2.2.1 6 S.2.2.2.1 ≤ _
        omega
    · exact C.up
  · exact C.up
theorem iRemove {x y : Int32} (C : InvC S i) : InvC (fRemove S x y).2 (i + 1) := by
  unfold fRemove
  split
  · next e =>
    obtain ⟨hc, -⟩ := okC_of e
    split
    · exact C.up
    · obtain ⟨⟨a, v⟩, c, d, e, f, g⟩ := C
      have th := clear_th (L := S.1) hc
      have c1 := cnt_clr (a := 1) (b := 1) th (by omega)
      have c2 := cnt_clr (a := 2) (b := 3) th (by omega)
      have c3 := cnt_clr (a := 4) (b := 4) th (by omega)
      refine ⟨⟨a, InvW_of v.1 rfl rfl, clear_T hc v.2.1, reL_7 _⟩, c, Nat.le_trans c1 d, Nat.le_trans c2 e, Nat.le_trans c3 f, ?_⟩
      show sumT S.2.2.1 6 S.2.2.2.1 ≤ _
      omega
  · exact C.up
theorem iLight {x y : Int32} (C : InvC S i) : InvC (fLight S x y).2 (i + 1) := by
  unfold fLight
  split
  · next e =>
    obtain ⟨hc, -⟩ := okC_of e
    split
    · next e3 =>
      obtain ⟨⟨a, v⟩, c, d, e, f, g⟩ := C
      refine ⟨⟨a, InvW_of v.1 rfl rfl, switch_T hc v.2.1 e3, reL_7 _⟩, c, d, e, f, ?_⟩
      show sumT S.2.2.1 6 S.2.2.2.1 ≤ _
      omega
    · exact C.up
  · exact C.up
theorem iCome {x y p : Int32} (C : InvC S i) : InvC (fCome S x y p).2 (i + 1) := by
  unfold fCome
  split
  · next e =>
    obtain ⟨hc, -⟩ := okC_of e
    split
    · next e2 =>
      obtain ⟨k, hk1, hk, rfl, ek⟩ := okH_ex (by omega) e2
      rw [ek]
      split
      · next e3 =>
        obtain ⟨⟨a, v⟩, c, d, e, f, g⟩ := C
        refine ⟨⟨⟨e3, ?_⟩, v⟩, fun g' hg' => ?_, d, e, f, ?_⟩
        · show GOK (addG S.2.2.1 S.2.2.2.1 (cellI x y) k)
          unfold addG
          exact (((a.2.set ⟨fun _ => hc, by omega, by omega, by omega⟩).set ⟨by omega, by omega, fun _ => hc, by omega⟩).set ⟨by omega, fun _ => hk, by omega, by omega⟩).set ⟨by omega, by omega, by omega, by omega⟩
        · have hg' : S.2.2.2.1 + 1 ≤ g' := hg'
          show addG S.2.2.1 S.2.2.2.1 (cellI x y) k g' 4 = 0 ∧ addG S.2.2.1 S.2.2.2.1 (cellI x y) k g' 5 = 0
          rw [addG_ne (by omega), addG_ne (by omega)]
          exact c g' (by omega)
        · show sumT (addG S.2.2.1 S.2.2.2.1 (cellI x y) k) 6 (S.2.2.2.1 + 1) ≤ _
          rw [addG_sum (c _ (Nat.le_refl _))]
          omega
      · exact C.up
    · exact C.up
  · exact C.up
theorem iSend {g x y : Int32} (C : InvC S i) : InvC (fSend S g x y).2 (i + 1) := by
  unfold fSend
  split
  · next e =>
    split
    · next e2 =>
      obtain ⟨hc, -⟩ := okC_of e2
      obtain ⟨⟨a, v⟩, c, d, e, f, g⟩ := C
      refine ⟨⟨⟨a.1, a.2.set ⟨by omega, by omega, fun _ => hc, by omega⟩⟩, v⟩, fun g' hg' => ?_, d, e, f, ?_⟩
      · show setG _ _ _ _ g' 4 = 0 ∧ setG _ _ _ _ g' 5 = 0
        rw [setG_ne _ _ (by omega), setG_ne _ _ (by omega)]
        exact c g' hg'
      · show sumT (setG _ _ _ _) 6 S.2.2.2.1 ≤ _
        rw [sumT_set (by decide)]
        omega
    · exact C.up
  · exact C.up
theorem iRite {g : Int32} (C : InvC S i) : InvC (fRite S g).2 (i + 1) := by
  unfold fRite
  split
  · split
    · exact C.up
    · obtain ⟨⟨a, v⟩, c, d, e, f, g⟩ := C
      refine ⟨⟨⟨a.1, a.2.set ⟨by omega, by omega, by omega, by omega⟩⟩, v⟩, fun g' hg' => ?_, d, e, f, ?_⟩
      · show setG _ _ _ _ g' 4 = 0 ∧ setG _ _ _ _ g' 5 = 0
        rw [setG_ne _ _ (by omega), setG_ne _ _ (by omega)]
        exact c g' hg'
      · show sumT (setG _ _ _ _) 6 S.2.2.2.1 ≤ _
        rw [sumT_set (by decide)]
        omega
  · exact C.up
theorem step_hi {s : LG} {g g' k : Nat} (hk : k = 4 ∨ k = 5) : (stepF s g).2 g' k = s.2 g' k := by
  unfold stepF
  split
  · rfl
  · split
    · show setG (setG _ _ _ _) _ _ _ g' k = _
      rw [setG_ne _ _ (by omega), setG_ne _ _ (by omega)]
    · show setG _ _ _ _ g' k = _
      rw [setG_ne _ _ (by omega)]
theorem steps_hi {s : LG} {g g' k : Nat} (hk : k = 4 ∨ k = 5) : ∀ n, (stepsF s g n).2 g' k = s.2 g' k
  | 0 => rfl
  | n + 1 => (step_hi hk).trans (steps_hi hk n)
theorem walk_hi {s : LG} {g' k : Nat} (hk : k = 4 ∨ k = 5) : ∀ n, (walkF s n).2 g' k = s.2 g' k
  | 0 => rfl
  | n + 1 => (steps_hi hk _).trans (walk_hi hk n)
theorem hau_hi {L : Nat → Int64} {s : AG} {g g' k : Nat} (h : g' ≠ g) : (hauF L s g).2.1 g' k = s.2.1 g' k := by
  unfold hauF
  split
  · exact setG_ne _ _ (fun z => h z.1)
  · split
    · exact setG_ne _ _ (fun z => h z.1)
    · rfl
theorem haus_hi {L : Nat → Int64} {s : AG} {g' k : Nat} : ∀ n, n ≤ g' → (hausF L s n).2.1 g' k = s.2.1 g' k
  | 0, _ => rfl
  | n + 1, h => (hau_hi (by omega)).trans (haus_hi n (by omega))
theorem hr_hi (S : CS) {g' k : Nat} (hg : S.2.2.2.1 ≤ g') (hk : k = 4 ∨ k = 5) : (hrS S).2.2.1 g' k = S.2.2.1 g' k := (haus_hi (L := (hourL S.1 S.2.1 S.2.2.1 S.2.2.2.1).1) (s := ((bdN S.1 S.2.1 63).2, (hourL S.1 S.2.1 S.2.2.1 S.2.2.2.1).2, 0)) S.2.2.2.1 hg).trans (walk_hi (s := (reL (bdN S.1 S.2.1 63).1, S.2.2.1)) hk S.2.2.2.1)
theorem pas_hi (S : CS) {g' k : Nat} (hg : S.2.2.2.1 ≤ g') (hk : k = 4 ∨ k = 5) : ∀ n, (pasS S n).2.2.1 g' k = S.2.2.1 g' k
  | 0 => rfl
  | n + 1 => (hr_hi (pasS S n) (by rw [pas_gc]; exact hg) hk).trans (pas_hi S hg hk n)
theorem iPass {t : Int32} (C : InvC S i) : InvC (fPass S t).2 (i + 1) := by
  unfold fPass
  split
  · next e =>
    obtain ⟨k, hk1, hk, rfl, ek⟩ := okH_ex (by omega) e
    rw [ek]
    obtain ⟨V, c, d, e, f, g⟩ := C
    have th : ∀ j, thg (pasS S k).1 j = thg S.1 j := fun j => thg_of (by rw [pas_k S (by decide) (by decide)]) (by rw [pas_k S (by decide) (by decide)]) (by rw [pas_k S (by decide) (by decide)]) (by rw [pas_k S (by decide) (by decide)])
    have cn : ∀ a b, cntG (inT (pasS S k).1 a b) 63 = cntG (inT S.1 a b) 63 := fun a b => cntG_cong (fun j _ => inT_of (th j))
    refine ⟨pasS_V V k, fun g' hg' => ?_, ?_, ?_, ?_, ?_⟩
    · have hg' : (pasS S k).2.2.2.1 ≤ g' := hg'
      rw [pas_gc] at hg'
      show (pasS S k).2.2.1 g' 4 = 0 ∧ (pasS S k).2.2.1 g' 5 = 0
      rw [pas_hi S hg' (Or.inl rfl), pas_hi S hg' (Or.inr rfl)]
      exact c g' hg'
    · show cntG (inT (pasS S k).1 1 1) 63 ≤ 10
      rw [cn]; exact d
    · show cntG (inT (pasS S k).1 2 3) 63 ≤ 10
      rw [cn]; exact e
    · show cntG (inT (pasS S k).1 4 4) 63 ≤ 6
      rw [cn]; exact f
    · show sumT (pasS S k).2.2.1 6 (pasS S k).2.2.2.1 ≤ _
      rw [pas_gc, sum_pas]
      have := pasH_le V.1 k
      omega
  · exact C.up
end IK
