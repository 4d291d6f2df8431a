/-! advise, mean, digest -/
def advF (S : CS) (k : Nat) : Nat → Nat × Option Nat
  | 0 => (pasH S k, none)
  | c + 1 => if cwax S.1 S.2.1 c = true ∧ pasH (swS S (some c)) k < (advF S k c).1 then (pasH (swS S (some c)) k, some c) else advF S k c
theorem advF_le {S : CS} (ok : CSok S) (k : Nat) : ∀ c, (advF S k c).1 ≤ 6 * k
  | 0 => pasH_le ok k
  | c + 1 => by
    unfold advF
    split
    · exact pasH_le (swS_ok ok (some c)) k
    · exact advF_le ok k c
def fAdvise (S : CS) (t : Int32) : gAns :=
  if okH t 8 = true then (vI (oI (advF S t.toNatClampNeg 63).2), S) else (.inl eA, S)
def meanV (S : CS) : UInt64 := if iPop (S.1 4) = 0 then FP.dconst0 else FP.ddiv (FP.i2d (sumMk S.1 S.2.1 63)) (FP.i2d (iPop (S.1 4)))
set_option maxRecDepth 10000 in
theorem c_mean (d : Nat) {a : Nat} {n n' : Nat → Nat} {S : CS} {h : gH} (C : ClsAt h a n n' S) (hn : iPop (S.1 4) ≠ 0 → vf_n64 (FP.ddiv (FP.i2d (sumMk S.1 S.2.1 63)) (FP.i2d (iPop (S.1 4))))) {mc ms : Nat} {Post : Option Value → gH → Prop} {X : String → gH → Prop} (hp : Post (some (.double (meanV S))) h) : gSafe (d + 7) mX5_mean [.ref a] h mc ms Post X := by
  have Ca := C.1
  have N0 := C.2.1.1
  have H1 := C.2.1.2.1.1
  unfold meanV at hp
  refine ⟨Nat.le_of_ble_eq_true rfl, fun K hK => ?_⟩
  show K 0 [some (.ref a), none] [] _ _ _
  refine s_aload_n hK dX5_mean_0 rfl ?_
  refine s_getfield hK dX5_mean_1 kF_X5_10 (by first | assumption | exact H.1 | exact H.2.1) (by rfl) ?_
  refine s_getfield hK dX5_mean_4 kF_X5_40 (by first | assumption | exact H.1 | exact H.2.1) (by rfl) ?_
  refine s_V00 hK dX5_mean_7 kV_X5_76 (by first | assumption | exact H.1 | exact H.2.1) (by rfl) ?_
  refine c_tallyCount _ C.2.1.2.1 ?_
  refine s_istore_n hK dX5_mean_10 rfl ?_
  refine s_iload_n hK dX5_mean_11 rfl ?_
  refine s_ifne hK dX5_mean_12 19 (by decide) (fun c_12 => ?_) (fun c_12 => ?_)
  · rw [if_neg c_12] at hp
    refine s_aload_n hK dX5_mean_19 rfl ?_
    refine s_getfield hK dX5_mean_20 kF_X5_10 (by first | assumption | exact H.1 | exact H.2.1) (by rfl) ?_
    refine s_getfield hK dX5_mean_23 kF_X5_40 (by first | assumption | exact H.1 | exact H.2.1) (by rfl) ?_
    refine s_V00 hK dX5_mean_26 kV_X5_189 (by first | assumption | exact H.1 | exact H.2.1) (by rfl) ?_
    refine c_sumOfMarks _ C.2.1.2.1 ?_
    refine s_i2d hK dX5_mean_29 ?_
    refine s_iload_n hK dX5_mean_30 rfl ?_
    refine s_i2d hK dX5_mean_31 ?_
    refine s_ddiv hK dX5_mean_32 (hn c_12) ?_
    refine s_dreturn hK dX5_mean_33 rfl ?_
    exact hp
  · rw [if_pos c_12] at hp
    refine s_dconst hK dX5_mean_15 ?_
    refine s_goto hK dX5_mean_16 33 (by decide) ?_
    refine s_dreturn hK dX5_mean_33 rfl ?_
    exact hp
def digA (S : CS) : Nat → Int64
  | 0 => 1009
  | k + 1 => digA S k * 31 + (tAll S.1 S.2.1 S.2.2.1 S.2.2.2.1 S.2.2.2.2 k).toInt64
def digC (S : CS) (c : Nat) (x : Int64) : Nat → Int64
  | 0 => x
  | k + 1 => digC S c x k * 31 + (tCell S.1 S.2.1 S.2.2.1 S.2.2.2.1 c k).toInt64
def digW (S : CS) (c : Nat) (x : Int64) : Int64 := (x * 31 + (b01 (lb (wCells S.1 1) c)).toInt64) * 31 + (b01 (lb (wCells S.1 2) c)).toInt64
def digB (S : CS) : Nat → Int64
  | 0 => digA S 10
  | c + 1 => digW S c (digC S c (digB S c) 5)
def digT (S : CS) (g : Nat) (x : Int64) : Nat → Int64
  | 0 => x
  | k + 1 => digT S g x k * 31 + (nI (trG S.2.2.1 g k)).toInt64
def digG (S : CS) : Nat → Int64
  | 0 => digB S 63
  | g + 1 => digT S g (digG S g) 8