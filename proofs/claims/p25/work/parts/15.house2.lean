/-! House: what it is asked, and what is done to it -/
def iPop (x : Int64) : Int32 :=
  let a := x - ((x.toUInt64 >>> ((1 : Int32).toInt64.toUInt64 &&& Int64.toUInt64 63)).toInt64 &&& 6148914691236517205)
  let b := (a &&& 3689348814741910323) + ((a.toUInt64 >>> ((2 : Int32).toInt64.toUInt64 &&& Int64.toUInt64 63)).toInt64 &&& 3689348814741910323)
  let c := (b + (b.toUInt64 >>> ((4 : Int32).toInt64.toUInt64 &&& Int64.toUInt64 63)).toInt64) &&& 1085102592571150095
  let e := c + (c.toUInt64 >>> ((8 : Int32).toInt64.toUInt64 &&& Int64.toUInt64 63)).toInt64
  let f := e + (e.toUInt64 >>> ((16 : Int32).toInt64.toUInt64 &&& Int64.toUInt64 63)).toInt64
  let g := f + (f.toUInt64 >>> ((32 : Int32).toInt64.toUInt64 &&& Int64.toUInt64 63)).toInt64
  g.toInt32 &&& 127
set_option maxRecDepth 10000 in
theorem c_bitCount (d : Nat) {x : Int64} {h : gH} {mc ms : Nat} {Post : Option Value → gH → Prop} {X : String → gH → Prop} (hp : Post (some (.int (iPop x))) h) : gSafe (d + 1) mJ13_bitCount_95d88 [.long x] h mc ms Post X := by
  refine ⟨Nat.le_of_ble_eq_true rfl, fun K hK => ?_⟩
  show K 0 [some (.long x), none] [] _ _ _
  refine s_lload_n hK dJ13_bitCount_95d88_0 rfl ?_
  refine s_lload_n hK dJ13_bitCount_95d88_1 rfl ?_
  refine s_iconst hK (v := 1) dJ13_bitCount_95d88_2 (by decide) ?_
  refine s_lushr hK dJ13_bitCount_95d88_3 ?_
  refine s_ldc2_w hK dJ13_bitCount_95d88_4 kC_J13_314 ?_
  refine s_land hK dJ13_bitCount_95d88_7 ?_
  refine s_lsub hK dJ13_bitCount_95d88_8 ?_
  refine s_lstore_n hK dJ13_bitCount_95d88_9 rfl ?_
  refine s_lload_n hK dJ13_bitCount_95d88_10 rfl ?_
  refine s_ldc2_w hK dJ13_bitCount_95d88_11 kC_J13_316 ?_
  refine s_land hK dJ13_bitCount_95d88_14 ?_
  refine s_lload_n hK dJ13_bitCount_95d88_15 rfl ?_
  refine s_iconst hK (v := 2) dJ13_bitCount_95d88_16 (by decide) ?_
  refine s_lushr hK dJ13_bitCount_95d88_17 ?_
  refine s_ldc2_w hK dJ13_bitCount_95d88_18 kC_J13_316 ?_
  refine s_land hK dJ13_bitCount_95d88_21 ?_
  refine s_ladd hK dJ13_bitCount_95d88_22 ?_
  refine s_lstore_n hK dJ13_bitCount_95d88_23 rfl ?_
  refine s_lload_n hK dJ13_bitCount_95d88_24 rfl ?_
  refine s_lload_n hK dJ13_bitCount_95d88_25 rfl ?_
  refine s_iconst hK (v := 4) dJ13_bitCount_95d88_26 (by decide) ?_
  refine s_lushr hK dJ13_bitCount_95d88_27 ?_
  refine s_ladd hK dJ13_bitCount_95d88_28 ?_
  refine s_ldc2_w hK dJ13_bitCount_95d88_29 kC_J13_318 ?_
  refine s_land hK dJ13_bitCount_95d88_32 ?_
  refine s_lstore_n hK dJ13_bitCount_95d88_33 rfl ?_
  refine s_lload_n hK dJ13_bitCount_95d88_34 rfl ?_
  refine s_lload_n hK dJ13_bitCount_95d88_35 rfl ?_
  refine s_bipush hK (v := 8) dJ13_bitCount_95d88_36 (by decide) ?_
  refine s_lushr hK dJ13_bitCount_95d88_38 ?_
  refine s_ladd hK dJ13_bitCount_95d88_39 ?_
  refine s_lstore_n hK dJ13_bitCount_95d88_40 rfl ?_
  refine s_lload_n hK dJ13_bitCount_95d88_41 rfl ?_
  refine s_lload_n hK dJ13_bitCount_95d88_42 rfl ?_
  refine s_bipush hK (v := 16) dJ13_bitCount_95d88_43 (by decide) ?_
  refine s_lushr hK dJ13_bitCount_95d88_45 ?_
  refine s_ladd hK dJ13_bitCount_95d88_46 ?_
  refine s_lstore_n hK dJ13_bitCount_95d88_47 rfl ?_
  refine s_lload_n hK dJ13_bitCount_95d88_48 rfl ?_
  refine s_lload_n hK dJ13_bitCount_95d88_49 rfl ?_
  refine s_bipush hK (v := 32) dJ13_bitCount_95d88_50 (by decide) ?_
  refine s_lushr hK dJ13_bitCount_95d88_52 ?_
  refine s_ladd hK dJ13_bitCount_95d88_53 ?_
  refine s_lstore_n hK dJ13_bitCount_95d88_54 rfl ?_
  refine s_lload_n hK dJ13_bitCount_95d88_55 rfl ?_
  refine s_l2i hK dJ13_bitCount_95d88_56 ?_
  refine s_bipush hK (v := 127) dJ13_bitCount_95d88_57 (by decide) ?_
  refine s_iand hK dJ13_bitCount_95d88_59 ?_
  refine s_ireturn hK dJ13_bitCount_95d88_60 rfl (by first | rfl | exact b01_nar _) ?_
  exact hp
set_option maxRecDepth 10000 in
theorem c_candleCount (d : Nat) {a r ar : Nat} {L : Nat → Int64} {am : Nat → Int32} {h : gH} (H : HouseAt h a r ar L am) {mc ms : Nat} {Post : Option Value → gH → Prop} {X : String → gH → Prop} (hp : Post (some (.int (iPop (L 0)))) h) : gSafe (d + 2) mX1_candleCount [.ref a] h mc ms Post X := by
  have H1 := H.1
  refine ⟨Nat.le_of_ble_eq_true rfl, fun K hK => ?_⟩
  show K 0 [some (.ref a)] [] _ _ _
  refine s_aload_n hK dX1_candleCount_0 rfl ?_
  refine s_getfield hK dX1_candleCount_1 kF_X1_20 (by first | assumption | exact H.1 | exact H.2.1) (by rfl) ?_
  refine s_S10 hK dX1_candleCount_4 kS_X1_49 (by rfl) ?_
  refine c_bitCount _ ?_
  refine s_ireturn hK dX1_candleCount_7 rfl (by first | rfl | exact b01_nar _) ?_
  exact hp
set_option maxRecDepth 10000 in
theorem c_burningCount (d : Nat) {a r ar : Nat} {L : Nat → Int64} {am : Nat → Int32} {h : gH} (H : HouseAt h a r ar L am) {mc ms : Nat} {Post : Option Value → gH → Prop} {X : String → gH → Prop} (hp : Post (some (.int (iPop (L 1)))) h) : gSafe (d + 2) mX1_burningCount [.ref a] h mc ms Post X := by
  have H1 := H.1
  refine ⟨Nat.le_of_ble_eq_true rfl, fun K hK => ?_⟩
  show K 0 [some (.ref a)] [] _ _ _
  refine s_aload_n hK dX1_burningCount_0 rfl ?_
  refine s_getfield hK dX1_burningCount_1 kF_X1_24 (by first | assumption | exact H.1 | exact H.2.1) (by rfl) ?_
  refine s_S10 hK dX1_burningCount_4 kS_X1_49 (by rfl) ?_
  refine c_bitCount _ ?_
  refine s_ireturn hK dX1_burningCount_7 rfl (by first | rfl | exact b01_nar _) ?_
  exact hp
set_option maxRecDepth 10000 in
theorem c_tallyCount (d : Nat) {a r ar : Nat} {L : Nat → Int64} {am : Nat → Int32} {h : gH} (H : HouseAt h a r ar L am) {mc ms : Nat} {Post : Option Value → gH → Prop} {X : String → gH → Prop} (hp : Post (some (.int (iPop (L 4)))) h) : gSafe (d + 2) mX1_tallyCount [.ref a] h mc ms Post X := by
  have H1 := H.1
  refine ⟨Nat.le_of_ble_eq_true rfl, fun K hK => ?_⟩
  show K 0 [some (.ref a)] [] _ _ _
  refine s_aload_n hK dX1_tallyCount_0 rfl ?_
  refine s_getfield hK dX1_tallyCount_1 kF_X1_33 (by first | assumption | exact H.1 | exact H.2.1) (by rfl) ?_
  refine s_S10 hK dX1_tallyCount_4 kS_X1_49 (by rfl) ?_
  refine c_bitCount _ ?_
  refine s_ireturn hK dX1_tallyCount_7 rfl (by first | rfl | exact b01_nar _) ?_
  exact hp
set_option maxRecDepth 10000 in
theorem c_litCount (d : Nat) {a r ar : Nat} {L : Nat → Int64} {am : Nat → Int32} {h : gH} (H : HouseAt h a r ar L am) {mc ms : Nat} {Post : Option Value → gH → Prop} {X : String → gH → Prop} (hp : Post (some (.int (iPop (L 7)))) h) : gSafe (d + 2) mX1_litCount [.ref a] h mc ms Post X := by
  have H1 := H.1
  refine ⟨Nat.le_of_ble_eq_true rfl, fun K hK => ?_⟩
  show K 0 [some (.ref a)] [] _ _ _
  refine s_aload_n hK dX1_litCount_0 rfl ?_
  refine s_getfield hK dX1_litCount_1 kF_X1_42 (by first | assumption | exact H.1 | exact H.2.1) (by rfl) ?_
  refine s_S10 hK dX1_litCount_4 kS_X1_49 (by rfl) ?_
  refine c_bitCount _ ?_
  refine s_ireturn hK dX1_litCount_7 rfl (by first | rfl | exact b01_nar _) ?_
  exact hp
set_option maxRecDepth 10000 in
theorem c_mirrorCount (d : Nat) {a r ar : Nat} {L : Nat → Int64} {am : Nat → Int32} {h : gH} (H : HouseAt h a r ar L am) {mc ms : Nat} {Post : Option Value → gH → Prop} {X : String → gH → Prop} (hp : Post (some (.int (iPop (L 2 ||| L 3)))) h) : gSafe (d + 2) mX1_mirrorCount [.ref a] h mc ms Post X := by
  have H1 := H.1
  refine ⟨Nat.le_of_ble_eq_true rfl, fun K hK => ?_⟩
  show K 0 [some (.ref a)] [] _ _ _
  refine s_aload_n hK dX1_mirrorCount_0 rfl ?_
  refine s_getfield hK dX1_mirrorCount_1 kF_X1_27 (by first | assumption | exact H.1 | exact H.2.1) (by rfl) ?_
  refine s_aload_n hK dX1_mirrorCount_4 rfl ?_
  refine s_getfield hK dX1_mirrorCount_5 kF_X1_30 (by first | assumption | exact H.1 | exact H.2.1) (by rfl) ?_
  refine s_lor hK dX1_mirrorCount_8 ?_
  refine s_S10 hK dX1_mirrorCount_9 kS_X1_49 (by rfl) ?_
  refine c_bitCount _ ?_
  refine s_ireturn hK dX1_mirrorCount_12 rfl (by first | rfl | exact b01_nar _) ?_
  exact hp
set_option maxRecDepth 10000 in
theorem c_wallCount (d : Nat) {a r ar : Nat} {L : Nat → Int64} {am : Nat → Int32} {h : gH} (H : HouseAt h a r ar L am) {mc ms : Nat} {Post : Option Value → gH → Prop} {X : String → gH → Prop} (hp : Post (some (.int (iPop (L 5) + iPop (L 6)))) h) : gSafe (d + 2) mX1_wallCount [.ref a] h mc ms Post X := by
  have H1 := H.1
  refine ⟨Nat.le_of_ble_eq_true rfl, fun K hK => ?_⟩
  show K 0 [some (.ref a)] [] _ _ _
  refine s_aload_n hK dX1_wallCount_0 rfl ?_
  refine s_getfield hK dX1_wallCount_1 kF_X1_36 (by first | assumption | exact H.1 | exact H.2.1) (by rfl) ?_
  refine s_S10 hK dX1_wallCount_4 kS_X1_49 (by rfl) ?_
  refine c_bitCount _ ?_
  refine s_aload_n hK dX1_wallCount_7 rfl ?_
  refine s_getfield hK dX1_wallCount_8 kF_X1_39 (by first | assumption | exact H.1 | exact H.2.1) (by rfl) ?_
  refine s_S10 hK dX1_wallCount_11 kS_X1_49 (by rfl) ?_
  refine c_bitCount _ ?_
  refine s_iadd hK dX1_wallCount_14 ?_
  refine s_ireturn hK dX1_wallCount_15 rfl (by first | rfl | exact b01_nar _) ?_
  exact hp
set_option maxRecDepth 10000 in
theorem c_isBurning (d : Nat) {a r ar c : Nat} {L : Nat → Int64} {am : Nat → Int32} (hc : c < 63) {h : gH} (H : HouseAt h a r ar L am) {mc ms : Nat} {Post : Option Value → gH → Prop} {X : String → gH → Prop} (hp : Post (some (.int (b01 (lb (L 1) c)))) h) : gSafe (d + 2) mX1_isBurning [.ref a, .int (nI c)] h mc ms Post X := by
  have H1 := H.1
  refine ⟨Nat.le_of_ble_eq_true rfl, fun K hK => ?_⟩
  show K 0 [some (.ref a), some (.int (nI c))] [] _ _ _
  refine s_aload_n hK dX1_isBurning_0 rfl ?_
  refine s_getfield hK dX1_isBurning_1 kF_X1_24 (by first | assumption | exact H.1 | exact H.2.1) (by rfl) ?_
  refine s_iload_n hK dX1_isBurning_4 rfl ?_
  refine s_S20 hK dX1_isBurning_5 kS_X1_63 (by rfl) ?_
  refine c_holds _ (by omega) ?_
  refine s_ireturn hK dX1_isBurning_8 rfl (b01_nar _) ?_
  exact hp
set_option maxRecDepth 10000 in
theorem c_isLit (d : Nat) {a r ar c : Nat} {L : Nat → Int64} {am : Nat → Int32} (hc : c < 63) {h : gH} (H : HouseAt h a r ar L am) {mc ms : Nat} {Post : Option Value → gH → Prop} {X : String → gH → Prop} (hp : Post (some (.int (b01 (lb (L 7) c)))) h) : gSafe (d + 2) mX1_isLit [.ref a, .int (nI c)] h mc ms Post X := by
  have H1 := H.1
  refine ⟨Nat.le_of_ble_eq_true rfl, fun K hK => ?_⟩
  show K 0 [some (.ref a), some (.int (nI c))] [] _ _ _
  refine s_aload_n hK dX1_isLit_0 rfl ?_
  refine s_getfield hK dX1_isLit_1 kF_X1_42 (by first | assumption | exact H.1 | exact H.2.1) (by rfl) ?_
  refine s_iload_n hK dX1_isLit_4 rfl ?_
  refine s_S20 hK dX1_isLit_5 kS_X1_63 (by rfl) ?_
  refine c_holds _ (by omega) ?_
  refine s_ireturn hK dX1_isLit_8 rfl (b01_nar _) ?_
  exact hp
set_option maxRecDepth 10000 in
theorem c_hasTally (d : Nat) {a r ar c : Nat} {L : Nat → Int64} {am : Nat → Int32} (hc : c < 63) {h : gH} (H : HouseAt h a r ar L am) {mc ms : Nat} {Post : Option Value → gH → Prop} {X : String → gH → Prop} (hp : Post (some (.int (b01 (lb (L 4) c)))) h) : gSafe (d + 2) mX1_hasTally [.ref a, .int (nI c)] h mc ms Post X := by
  have H1 := H.1
  refine ⟨Nat.le_of_ble_eq_true rfl, fun K hK => ?_⟩
  show K 0 [some (.ref a), some (.int (nI c))] [] _ _ _
  refine s_aload_n hK dX1_hasTally_0 rfl ?_
  refine s_getfield hK dX1_hasTally_1 kF_X1_33 (by first | assumption | exact H.1 | exact H.2.1) (by rfl) ?_
  refine s_iload_n hK dX1_hasTally_4 rfl ?_
  refine s_S20 hK dX1_hasTally_5 kS_X1_63 (by rfl) ?_
  refine c_holds _ (by omega) ?_
  refine s_ireturn hK dX1_hasTally_8 rfl (b01_nar _) ?_
  exact hp
def sumMk (L : Nat → Int64) (am : Nat → Int32) : Nat → Int32
  | 0 => 0
  | n + 1 => if lb (L 4) n then sumMk L am n + am n else sumMk L am n
set_option maxRecDepth 10000 in
theorem c_sumOfMarks (d : Nat) {a r ar : Nat} {L : Nat → Int64} {am : Nat → Int32} {h : gH} (H : HouseAt h a r ar L am) {mc ms : Nat} {Post : Option Value → gH → Prop} {X : String → gH → Prop} (hp : Post (some (.int (sumMk L am 63))) h) : gSafe (d + 3) mX1_sumOfMarks [.ref a] h mc ms Post X := by
  have H1 := H.1
  refine ⟨Nat.le_of_ble_eq_true rfl, fun K hK => ?_⟩
  show K 0 [some (.ref a), none, none] [] _ _ _
  refine s_iconst hK (v := 0) dX1_sumOfMarks_0 (by decide) ?_
  refine s_istore_n hK dX1_sumOfMarks_1 rfl ?_
  refine s_iconst hK (v := 0) dX1_sumOfMarks_2 (by decide) ?_
  refine s_istore_n hK dX1_sumOfMarks_3 rfl ?_
  have loop : ∀ m i, i + m = 63 → K 4 [some (.ref a), some (.int (sumMk L am i)), some (.int (nI i))] [] h mc ms := by
    intro m
    induction m with
    | zero =>
      intro i hi
      obtain rfl : i = 63 := by omega
      refine s_iload_n hK dX1_sumOfMarks_4 rfl ?_
      refine s_bipush hK (v := 63) dX1_sumOfMarks_5 (by decide) ?_
      refine s_icmpge hK dX1_sumOfMarks_7 35 (by decide) (fun c_7 => ?_) (fun c_7 => ?_)
      · refine s_iload_n hK dX1_sumOfMarks_35 rfl ?_
        refine s_ireturn hK dX1_sumOfMarks_36 rfl (by first | rfl | exact b01_nar _) ?_
        exact hp
      · exact absurd (Int32.le_refl (nI 63)) c_7
    | succ m ih =>
      intro i hi
      refine s_iload_n hK dX1_sumOfMarks_4 rfl ?_
      refine s_bipush hK (v := 63) dX1_sumOfMarks_5 (by decide) ?_
      refine s_icmpge hK dX1_sumOfMarks_7 35 (by decide) (fun c_7 => ?_) (fun c_7 => ?_)
      · exact absurd c_7 (nI_ge (b := 63) (by omega) (by omega))
      · refine s_aload_n hK dX1_sumOfMarks_10 rfl ?_
        refine s_iload_n hK dX1_sumOfMarks_11 rfl ?_
        refine s_V10 hK dX1_sumOfMarks_12 kV_X1_55 (by first | assumption | exact H.1 | exact H.2.1) (by rfl) ?_
        refine c_hasTally _ (by omega) H ?_
        cases e : lb (L 4) i with
        | false =>
          have hs : sumMk L am (i + 1) = sumMk L am i := by simp [sumMk, e]
          refine s_ifeq hK dX1_sumOfMarks_15 29 (by decide) (fun c_15 => ?_) (fun c_15 => ?_)
          · refine s_iinck hK (v := 1) dX1_sumOfMarks_29 rfl (by decide) rfl ?_
            refine s_goto hK dX1_sumOfMarks_32 4 (by decide) ?_
            rw [nI_1, ← hs]
            exact ih (i + 1) (by omega)
          · exact absurd rfl c_15
        | true =>
          have hs : sumMk L am (i + 1) = sumMk L am i + am i := by simp [sumMk, e]
          refine s_ifeq hK dX1_sumOfMarks_15 29 (by decide) (fun c_15 => ?_) (fun c_15 => ?_)
          · exact absurd c_15 (by decide)
          · refine s_iload_n hK dX1_sumOfMarks_18 rfl ?_
            refine s_aload_n hK dX1_sumOfMarks_19 rfl ?_
            refine s_getfield hK dX1_sumOfMarks_20 kF_X1_14 (by first | assumption | exact H.1 | exact H.2.1) (by rfl) ?_
            refine s_iload_n hK dX1_sumOfMarks_23 rfl ?_
            refine s_V10 hK dX1_sumOfMarks_24 kV_X1_59 (by first | assumption | exact H.1 | exact H.2.1) (by rfl) ?_
            refine c_get _ (by omega) (by omega) H.2 ?_
            refine s_iadd hK dX1_sumOfMarks_27 ?_
            refine s_istore_n hK dX1_sumOfMarks_28 rfl ?_
            refine s_iinck hK (v := 1) dX1_sumOfMarks_29 rfl (by decide) rfl ?_
            refine s_goto hK dX1_sumOfMarks_32 4 (by decide) ?_
            rw [nI_1, ← hs]
            exact ih (i + 1) (by omega)
  exact loop 63 0 (by omega)
def cwax (L : Nat → Int64) (am : Nat → Int32) (c : Nat) : Bool := lb (L 0) c && decide (0 < am c)
set_option maxRecDepth 10000 in
theorem c_hasCandleWithWax (d : Nat) {a r ar c : Nat} {L : Nat → Int64} {am : Nat → Int32} (hc : c < 63) {h : gH} (H : HouseAt h a r ar L am) {mc ms : Nat} {Post : Option Value → gH → Prop} {X : String → gH → Prop} (hp : Post (some (.int (b01 (cwax L am c)))) h) : gSafe (d + 2) mX1_hasCandleWithWax [.ref a, .int (nI c)] h mc ms Post X := by
  have H1 := H.1
  refine ⟨Nat.le_of_ble_eq_true rfl, fun K hK => ?_⟩
  show K 0 [some (.ref a), some (.int (nI c))] [] _ _ _
  refine s_aload_n hK dX1_hasCandleWithWax_0 rfl ?_
  refine s_getfield hK dX1_hasCandleWithWax_1 kF_X1_20 (by first | assumption | exact H.1 | exact H.2.1) (by rfl) ?_
  refine s_iload_n hK dX1_hasCandleWithWax_4 rfl ?_
  refine s_S20 hK dX1_hasCandleWithWax_5 kS_X1_63 (by rfl) ?_
  refine c_holds _ (by omega) ?_
  unfold cwax at hp
  cases e : lb (L 0) c with
  | false =>
    rw [e] at hp
    refine s_ifeq hK dX1_hasCandleWithWax_8 26 (by decide) (fun c_8 => ?_) (fun c_8 => ?_)
    · refine s_iconst hK (v := 0) dX1_hasCandleWithWax_26 (by decide) ?_
      refine s_ireturn hK dX1_hasCandleWithWax_27 rfl (by first | rfl | exact b01_nar _) ?_
      exact hp
    · exact absurd rfl c_8
  | true =>
    rw [e] at hp
    refine s_ifeq hK dX1_hasCandleWithWax_8 26 (by decide) (fun c_8 => ?_) (fun c_8 => ?_)
    · exact absurd c_8 (by decide)
    · refine s_aload_n hK dX1_hasCandleWithWax_11 rfl ?_
      refine s_getfield hK dX1_hasCandleWithWax_12 kF_X1_14 (by first | assumption | exact H.1 | exact H.2.1) (by rfl) ?_
      refine s_iload_n hK dX1_hasCandleWithWax_15 rfl ?_
      refine s_V10 hK dX1_hasCandleWithWax_16 kV_X1_59 (by first | assumption | exact H.1 | exact H.2.1) (by rfl) ?_
      refine c_get _ hc (by omega) H.2 ?_
      refine s_ifle hK dX1_hasCandleWithWax_19 26 (by decide) (fun c_19 => ?_) (fun c_19 => ?_)
      · refine s_iconst hK (v := 0) dX1_hasCandleWithWax_26 (by decide) ?_
        refine s_ireturn hK dX1_hasCandleWithWax_27 rfl (by first | rfl | exact b01_nar _) ?_
        rw [decide_eq_false (Int32.not_lt.mpr c_19)] at hp
        exact hp
      · refine s_iconst hK (v := 1) dX1_hasCandleWithWax_22 (by decide) ?_
        refine s_goto hK dX1_hasCandleWithWax_23 27 (by decide) ?_
        refine s_ireturn hK dX1_hasCandleWithWax_27 rfl (by first | rfl | exact b01_nar _) ?_
        rw [decide_eq_true (Int32.not_le.mp c_19)] at hp
        exact hp
set_option maxRecDepth 10000 in
theorem c_amountIn (d : Nat) {a r ar c : Nat} {L : Nat → Int64} {am : Nat → Int32} (hc : c < 63) {h : gH} (H : HouseAt h a r ar L am) {mc ms : Nat} {Post : Option Value → gH → Prop} {X : String → gH → Prop} (hp : Post (some (.int (am c))) h) : gSafe (d + 2) mX1_amountIn [.ref a, .int (nI c)] h mc ms Post X := by
  have H1 := H.1
  refine ⟨Nat.le_of_ble_eq_true rfl, fun K hK => ?_⟩
  show K 0 [some (.ref a), some (.int (nI c))] [] _ _ _
  refine s_aload_n hK dX1_amountIn_0 rfl ?_
  refine s_getfield hK dX1_amountIn_1 kF_X1_14 (by first | assumption | exact H.1 | exact H.2.1) (by rfl) ?_
  refine s_iload_n hK dX1_amountIn_4 rfl ?_
  refine s_V10 hK dX1_amountIn_5 kV_X1_59 (by first | assumption | exact H.1 | exact H.2.1) (by rfl) ?_
  refine c_get _ hc (by omega) H.2 ?_
  refine s_ireturn hK dX1_amountIn_8 rfl (by first | rfl | exact b01_nar _) ?_
  exact hp
def thg (L : Nat → Int64) (c : Nat) : Nat := if lb (L 0) c then 1 else if lb (L 2) c then 2 else if lb (L 3) c then 3 else if lb (L 4) c then 4 else 0
set_option maxRecDepth 10000 in
theorem c_thingIn (d : Nat) {a r ar c : Nat} {L : Nat → Int64} {am : Nat → Int32} (hc : c < 63) {h : gH} (H : HouseAt h a r ar L am) {mc ms : Nat} {Post : Option Value → gH → Prop} {X : String → gH → Prop} (hp : Post (some (.int (nI (thg L c)))) h) : gSafe (d + 3) mX1_thingIn [.ref a, .int (nI c)] h mc ms Post X := by
  have H1 := H.1
  refine ⟨Nat.le_of_ble_eq_true rfl, fun K hK => ?_⟩
  show K 0 [some (.ref a), some (.int (nI c))] [] _ _ _
  unfold thg at hp
  refine s_aload_n hK dX1_thingIn_0 rfl ?_
  refine s_getfield hK dX1_thingIn_1 kF_X1_20 (by first | assumption | exact H.1 | exact H.2.1) (by rfl) ?_
  refine s_iload_n hK dX1_thingIn_4 rfl ?_
  refine s_S20 hK dX1_thingIn_5 kS_X1_63 (by rfl) ?_
  refine c_holds _ (by omega) ?_
  cases e0 : lb (L 0) c with
  | true =>
    rw [e0] at hp
    refine s_ifeq hK dX1_thingIn_8 13 (by decide) (fun c_8 => ?_) (fun c_8 => ?_)
    · exact absurd c_8 (by decide)
    · refine s_iconst hK (v := 1) dX1_thingIn_11 (by decide) ?_
      refine s_ireturn hK dX1_thingIn_12 rfl (by first | rfl | exact b01_nar _) ?_
      exact hp
  | false =>
    rw [e0] at hp
    refine s_ifeq hK dX1_thingIn_8 13 (by decide) (fun c_8 => ?_) (fun c_8 => ?_)
    · refine s_aload_n hK dX1_thingIn_13 rfl ?_
      refine s_getfield hK dX1_thingIn_14 kF_X1_27 (by first | assumption | exact H.1 | exact H.2.1) (by rfl) ?_
      refine s_iload_n hK dX1_thingIn_17 rfl ?_
      refine s_S20 hK dX1_thingIn_18 kS_X1_63 (by rfl) ?_
      refine c_holds _ (by omega) ?_
      cases e2 : lb (L 2) c with
      | true =>
        rw [e2] at hp
        refine s_ifeq hK dX1_thingIn_21 26 (by decide) (fun c_21 => ?_) (fun c_21 => ?_)
        · exact absurd c_21 (by decide)
        · refine s_iconst hK (v := 2) dX1_thingIn_24 (by decide) ?_
          refine s_ireturn hK dX1_thingIn_25 rfl (by first | rfl | exact b01_nar _) ?_
          exact hp
      | false =>
        rw [e2] at hp
        refine s_ifeq hK dX1_thingIn_21 26 (by decide) (fun c_21 => ?_) (fun c_21 => ?_)
        · refine s_aload_n hK dX1_thingIn_26 rfl ?_
          refine s_getfield hK dX1_thingIn_27 kF_X1_30 (by first | assumption | exact H.1 | exact H.2.1) (by rfl) ?_
          refine s_iload_n hK dX1_thingIn_30 rfl ?_
          refine s_S20 hK dX1_thingIn_31 kS_X1_63 (by rfl) ?_
          refine c_holds _ (by omega) ?_
          cases e3 : lb (L 3) c with
          | true =>
            rw [e3] at hp
            refine s_ifeq hK dX1_thingIn_34 39 (by decide) (fun c_34 => ?_) (fun c_34 => ?_)
            · exact absurd c_34 (by decide)
            · refine s_iconst hK (v := 3) dX1_thingIn_37 (by decide) ?_
              refine s_ireturn hK dX1_thingIn_38 rfl (by first | rfl | exact b01_nar _) ?_
              exact hp
          | false =>
            rw [e3] at hp
            refine s_ifeq hK dX1_thingIn_34 39 (by decide) (fun c_34 => ?_) (fun c_34 => ?_)
            · refine s_aload_n hK dX1_thingIn_39 rfl ?_
              refine s_iload_n hK dX1_thingIn_40 rfl ?_
              refine s_V10 hK dX1_thingIn_41 kV_X1_55 (by first | assumption | exact H.1 | exact H.2.1) (by rfl) ?_
              refine c_hasTally _ hc H ?_
              cases e4 : lb (L 4) c with
              | true =>
                rw [e4] at hp
                refine s_ifeq hK dX1_thingIn_44 51 (by decide) (fun c_44 => ?_) (fun c_44 => ?_)
                · exact absurd c_44 (by decide)
                · refine s_iconst hK (v := 4) dX1_thingIn_47 (by decide) ?_
                  refine s_goto hK dX1_thingIn_48 52 (by decide) ?_
                  refine s_ireturn hK dX1_thingIn_52 rfl (by first | rfl | exact b01_nar _) ?_
                  exact hp
              | false =>
                rw [e4] at hp
                refine s_ifeq hK dX1_thingIn_44 51 (by decide) (fun c_44 => ?_) (fun c_44 => ?_)
                · refine s_iconst hK (v := 0) dX1_thingIn_51 (by decide) ?_
                  refine s_ireturn hK dX1_thingIn_52 rfl (by first | rfl | exact b01_nar _) ?_
                  exact hp
                · exact absurd rfl c_44
            · exact absurd rfl c_34
        · exact absurd rfl c_21
    · exact absurd rfl c_8
