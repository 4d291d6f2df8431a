/-! Grid and Row -/
set_option maxRecDepth 10000 in
theorem c_only (d : Nat) {c : Nat} {h : gH} {mc ms : Nat} {Post : Option Value → gH → Prop} {X : String → gH → Prop} (hp : Post (some (.long (bOnly c))) h) : gSafe (d + 1) mX0_only [.int (nI c)] h mc ms Post X := by
  refine ⟨Nat.le_of_ble_eq_true rfl, fun K hK => ?_⟩
  show K 0 [some (.int (nI c))] [] _ _ _
  refine s_lconst hK (v := 1) dX0_only_0 (by decide) ?_
  refine s_iload_n hK dX0_only_1 rfl ?_
  refine s_lshl hK dX0_only_2 ?_
  refine s_lreturn hK dX0_only_3 rfl ?_
  exact hp
set_option maxRecDepth 10000 in
theorem c_holds (d : Nat) {x : Int64} {c : Nat} (hc : c < 64) {h : gH} {mc ms : Nat} {Post : Option Value → gH → Prop} {X : String → gH → Prop} (hp : Post (some (.int (b01 (lb x c)))) h) : gSafe (d + 1) mX0_holds [.long x, .int (nI c)] h mc ms Post X := by
  refine ⟨Nat.le_of_ble_eq_true rfl, fun K hK => ?_⟩
  show K 0 [some (.long x), none, some (.int (nI c))] [] _ _ _
  refine s_lload_n hK dX0_holds_0 rfl ?_
  refine s_iload_n hK dX0_holds_1 rfl ?_
  refine s_lushr hK dX0_holds_2 ?_
  refine s_lconst hK (v := 1) dX0_holds_3 (by decide) ?_
  refine s_land hK dX0_holds_4 ?_
  refine s_lconst hK (v := 0) dX0_holds_5 (by decide) ?_
  refine s_lcmp hK dX0_holds_6 ?_
  rw [lb_hold hc]
  cases e : lb x c with
  | false =>
    rw [e] at hp
    refine s_ifeq hK dX0_holds_7 14 (by decide) (fun c_7 => ?_) (fun c_7 => ?_)
    · refine s_iconst hK (v := 0) dX0_holds_14 (by decide) ?_
      refine s_ireturn hK dX0_holds_15 rfl (by rfl) ?_
      exact hp
    · exact absurd rfl c_7
  | true =>
    rw [e] at hp
    refine s_ifeq hK dX0_holds_7 14 (by decide) (fun c_7 => ?_) (fun c_7 => ?_)
    · exact absurd c_7 (by decide)
    · refine s_iconst hK (v := 1) dX0_holds_10 (by decide) ?_
      refine s_goto hK dX0_holds_11 15 (by decide) ?_
      refine s_ireturn hK dX0_holds_15 rfl (by rfl) ?_
      exact hp
set_option maxRecDepth 10000 in
theorem c_moved (d : Nat) {x : Int64} {dn : Nat} (hd : dn < 4) {h : gH} {mc ms : Nat} {Post : Option Value → gH → Prop} {X : String → gH → Prop} (hp : Post (some (.long (bMv x dn))) h) : gSafe (d + 1) mX0_moved [.long x, .int (nI dn)] h mc ms Post X := by
  refine ⟨Nat.le_of_ble_eq_true rfl, fun K hK => ?_⟩
  show K 0 [some (.long x), none, some (.int (nI dn))] [] _ _ _
  refine s_iload_n hK dX0_moved_0 rfl ?_
  match dn, hd with
  | 0, _ =>
    refine s_tswI hK dX0_moved_1 28 (by decide) (by rfl) (by decide) ?_
    refine s_lload_n hK dX0_moved_28 rfl ?_
    refine s_bipush hK (v := 9) dX0_moved_29 (by decide) ?_
    refine s_lushr hK dX0_moved_31 ?_
    refine s_lreturn hK dX0_moved_32 rfl ?_
    exact hp
  | 1, _ =>
    refine s_tswI hK dX0_moved_1 33 (by decide) (by rfl) (by decide) ?_
    refine s_lload_n hK dX0_moved_33 rfl ?_
    refine s_ldc2_w hK dX0_moved_34 kC_X0_11 ?_
    refine s_land hK dX0_moved_37 ?_
    refine s_iconst hK (v := 1) dX0_moved_38 (by decide) ?_
    refine s_lshl hK dX0_moved_39 ?_
    refine s_lreturn hK dX0_moved_40 rfl ?_
    exact hp
  | 2, _ =>
    refine s_tswI hK dX0_moved_1 41 (by decide) (by rfl) (by decide) ?_
    refine s_lload_n hK dX0_moved_41 rfl ?_
    refine s_bipush hK (v := 9) dX0_moved_42 (by decide) ?_
    refine s_lshl hK dX0_moved_44 ?_
    refine s_ldc2_w hK dX0_moved_45 kC_X0_13 ?_
    refine s_land hK dX0_moved_48 ?_
    refine s_lreturn hK dX0_moved_49 rfl ?_
    exact hp
  | 3, _ =>
    refine s_tswO hK dX0_moved_1 50 (by decide) (by decide) ?_
    refine s_lload_n hK dX0_moved_50 rfl ?_
    refine s_ldc2_w hK dX0_moved_51 kC_X0_15 ?_
    refine s_land hK dX0_moved_54 ?_
    refine s_iconst hK (v := 1) dX0_moved_55 (by decide) ?_
    refine s_lushr hK dX0_moved_56 ?_
    refine s_lreturn hK dX0_moved_57 rfl ?_
    exact hp
set_option maxRecDepth 10000 in
theorem c_isRim (d : Nat) {c dn : Nat} (hc : c < 63) (hd : dn < 4) {h : gH} {mc ms : Nat} {Post : Option Value → gH → Prop} {X : String → gH → Prop} (hp : Post (some (.int (b01 (!nbOk c dn)))) h) : gSafe (d + 2) mX0_isRim [.int (nI c), .int (nI dn)] h mc ms Post X := by
  refine ⟨Nat.le_of_ble_eq_true rfl, fun K hK => ?_⟩
  show K 0 [some (.int (nI c)), some (.int (nI dn))] [] _ _ _
  refine s_iload_n hK dX0_isRim_0 rfl ?_
  refine s_S10 hK dX0_isRim_1 kS_X0_17 (by rfl) ?_
  refine c_only _ ?_
  refine s_iload_n hK dX0_isRim_4 rfl ?_
  refine s_S20 hK dX0_isRim_5 kS_X0_21 (by rfl) ?_
  refine c_moved _ hd ?_
  refine s_lconst hK (v := 0) dX0_isRim_8 (by decide) ?_
  refine s_lcmp hK dX0_isRim_9 ?_
  rw [bMv_only hc hd]
  cases e : nbOk c dn with
  | false =>
    rw [e] at hp
    refine s_ifne hK dX0_isRim_10 17 (by decide) (fun c_10 => ?_) (fun c_10 => ?_)
    · exact absurd rfl c_10
    · refine s_iconst hK (v := 1) dX0_isRim_13 (by decide) ?_
      refine s_goto hK dX0_isRim_14 18 (by decide) ?_
      refine s_ireturn hK dX0_isRim_18 rfl (by rfl) ?_
      exact hp
  | true =>
    rw [e] at hp
    refine s_ifne hK dX0_isRim_10 17 (by decide) (fun c_10 => ?_) (fun c_10 => ?_)
    · refine s_iconst hK (v := 0) dX0_isRim_17 (by decide) ?_
      refine s_ireturn hK dX0_isRim_18 rfl (by rfl) ?_
      exact hp
    · exact absurd (lg_cmp_0.mp c_10) (bOnly_ne0 (by have := nb_lt hc hd e; omega))
set_option maxRecDepth 10000 in
theorem c_neighbour (d : Nat) {c dn : Nat} (hd : dn < 4) (ho : nbOk c dn = true) {h : gH} {mc ms : Nat} {Post : Option Value → gH → Prop} {X : String → gH → Prop} (hp : Post (some (.int (nI (nbOf c dn)))) h) : gSafe (d + 1) mX0_neighbour [.int (nI c), .int (nI dn)] h mc ms Post X := by
  refine ⟨Nat.le_of_ble_eq_true rfl, fun K hK => ?_⟩
  show K 0 [some (.int (nI c)), some (.int (nI dn))] [] _ _ _
  refine s_iload_n hK dX0_neighbour_0 rfl ?_
  match dn, hd with
  | 0, _ =>
    refine s_tswI hK dX0_neighbour_1 28 (by decide) (by rfl) (by decide) ?_
    refine s_iload_n hK dX0_neighbour_28 rfl ?_
    refine s_bipush hK (v := 9) dX0_neighbour_29 (by decide) ?_
    refine s_isub hK dX0_neighbour_31 ?_
    refine s_ireturn hK dX0_neighbour_32 rfl (by rfl) ?_
    rw [show (9 : Int32) = nI 9 from rfl, pk_sub (of_decide_eq_true ho)]
    exact hp
  | 1, _ =>
    refine s_tswI hK dX0_neighbour_1 33 (by decide) (by rfl) (by decide) ?_
    refine s_iload_n hK dX0_neighbour_33 rfl ?_
    refine s_iconst hK (v := 1) dX0_neighbour_34 (by decide) ?_
    refine s_iadd hK dX0_neighbour_35 ?_
    refine s_ireturn hK dX0_neighbour_36 rfl (by rfl) ?_
    rw [nI_1]
    exact hp
  | 2, _ =>
    refine s_tswI hK dX0_neighbour_1 37 (by decide) (by rfl) (by decide) ?_
    refine s_iload_n hK dX0_neighbour_37 rfl ?_
    refine s_bipush hK (v := 9) dX0_neighbour_38 (by decide) ?_
    refine s_iadd hK dX0_neighbour_40 ?_
    refine s_ireturn hK dX0_neighbour_41 rfl (by rfl) ?_
    rw [show (9 : Int32) = nI 9 from rfl, nI_add]
    exact hp
  | 3, _ =>
    refine s_tswO hK dX0_neighbour_1 42 (by decide) (by decide) ?_
    refine s_iload_n hK dX0_neighbour_42 rfl ?_
    refine s_iconst hK (v := 1) dX0_neighbour_43 (by decide) ?_
    refine s_isub hK dX0_neighbour_44 ?_
    refine s_ireturn hK dX0_neighbour_45 rfl (by rfl) ?_
    have h1 : 1 ≤ c := by have : c % 9 ≠ 0 := of_decide_eq_true ho; omega
    rw [show (1 : Int32) = nI 1 from rfl, pk_sub h1]
    exact hp
/-- a Row at r, its numbers at ar -/
def RowAt (h : gH) (r ar n : Nat) (f : Nat → Int32) : Prop := h r = some (.inr (2, [.ref ar])) ∧ h ar = some (.inl (0, n, .inl f))
set_option maxRecDepth 10000 in
theorem c_get (d : Nat) {r ar n i : Nat} {f : Nat → Int32} (hi : i < n) (hn : n < 2 ^ 31) {h : gH} (hr : RowAt h r ar n f) {mc ms : Nat} {Post : Option Value → gH → Prop} {X : String → gH → Prop} (hp : Post (some (.int (f i))) h) : gSafe (d + 1) mX3_get [.ref r, .int (nI i)] h mc ms Post X := by
  obtain ⟨h1, h2⟩ := hr
  refine ⟨Nat.le_of_ble_eq_true rfl, fun K hK => ?_⟩
  show K 0 [some (.ref r), some (.int (nI i))] [] _ _ _
  refine s_iload_n hK dX3_get_0 rfl ?_
  refine s_iflt hK dX3_get_1 22 (by decide) (fun c_1 => ?_) (fun c_1 => ?_)
  · exact absurd c_1 (nI_pos (by omega))
  · refine s_iload_n hK dX3_get_4 rfl ?_
    refine s_aload_n hK dX3_get_5 rfl ?_
    refine s_getfield hK dX3_get_6 kF_X3_7 (by assumption) (by rfl) ?_
    refine s_alen hK dX3_get_9 (by assumption) (by rfl) (by rfl) ?_
    refine s_icmpge hK dX3_get_10 22 (by decide) (fun c_10 => ?_) (fun c_10 => ?_)
    · exact absurd c_10 (nI_ge hi hn)
    · refine s_aload_n hK dX3_get_13 rfl ?_
      refine s_getfield hK dX3_get_14 kF_X3_7 (by assumption) (by rfl) ?_
      refine s_iload_n hK dX3_get_17 rfl ?_
      refine s_ialoadN hK dX3_get_18 (by assumption) (by omega) (by omega) ?_
      refine s_goto hK dX3_get_19 23 (by decide) ?_
      refine s_ireturn hK dX3_get_23 rfl (by rfl) ?_
      exact hp
set_option maxRecDepth 10000 in
theorem c_put (d : Nat) {r ar n i : Nat} {f : Nat → Int32} {x : Int32} (hi : i < n) (hn : n < 2 ^ 31) {h : gH} (hr : RowAt h r ar n f) {mc ms : Nat} {Post : Option Value → gH → Prop} {X : String → gH → Prop} (hp : Post none (gU h ar (.inl (0, n, .inl (upd f i x))))) : gSafe (d + 1) mX3_put [.ref r, .int (nI i), .int x] h mc ms Post X := by
  obtain ⟨h1, h2⟩ := hr
  refine ⟨Nat.le_of_ble_eq_true rfl, fun K hK => ?_⟩
  show K 0 [some (.ref r), some (.int (nI i)), some (.int x)] [] _ _ _
  refine s_iload_n hK dX3_put_0 rfl ?_
  refine s_iflt hK dX3_put_1 20 (by decide) (fun c_1 => ?_) (fun c_1 => ?_)
  · exact absurd c_1 (nI_pos (by omega))
  · refine s_iload_n hK dX3_put_4 rfl ?_
    refine s_aload_n hK dX3_put_5 rfl ?_
    refine s_getfield hK dX3_put_6 kF_X3_7 (by assumption) (by rfl) ?_
    refine s_alen hK dX3_put_9 (by assumption) (by rfl) (by rfl) ?_
    refine s_icmpge hK dX3_put_10 20 (by decide) (fun c_10 => ?_) (fun c_10 => ?_)
    · exact absurd c_10 (nI_ge hi hn)
    · refine s_aload_n hK dX3_put_13 rfl ?_
      refine s_getfield hK dX3_put_14 kF_X3_7 (by assumption) (by rfl) ?_
      refine s_iload_n hK dX3_put_17 rfl ?_
      refine s_iload_n hK dX3_put_18 rfl ?_
      refine s_iastoreN hK dX3_put_19 (by assumption) (by omega) (by omega) ?_
      refine s_return hK dX3_put_20 rfl ?_
      exact hp
