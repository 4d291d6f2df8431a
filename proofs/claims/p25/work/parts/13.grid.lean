/-! Grid and Row -/
set_option maxRecDepth 10000 in
theorem c_only (d : Nat) {c : Nat} {h : gH} {mc ms : Nat} {Post : Option Value → gH → Prop} {X : String → gH → Prop} (hp : Post (some (.long (bOnly c))) h) : gSafe (d + 1) mX0_only [.int (nI c)] h mc ms Post X := by
  refine ⟨Nat.le_of_ble_eq_true rfl, fun K hK => ?_⟩
  show K 0 [some (.int (nI c))] [] _ _ _
  refine s_lconst hK (v := 1) dX0_only_0 (by decide) ?_
  refine s_iload_n hK dX0_only_1 rfl ?_
  refine s_lshl hK dX0_only_2 ?_
  refine s_lreturn hK dX0_only_3 rfl ?_
  exact hp
set_option maxRecDepth 10000 in
theorem c_holds (d : Nat) {x : Int64} {c : Nat} (hc : c < 64) {h : gH} {mc ms : Nat} {Post : Option Value → gH → Prop} {X : String → gH → Prop} (hp : Post (some (.int (b01 (lb x c)))) h) : gSafe (d + 1) mX0_holds [.long x, .int (nI c)] h mc ms Post X := by
  refine ⟨Nat.le_of_ble_eq_true rfl, fun K hK => ?_⟩
  show K 0 [some (.long x), none, some (.int (nI c))] [] _ _ _
  refine s_lload_n hK dX0_holds_0 rfl ?_
  refine s_iload_n hK dX0_holds_1 rfl ?_
  refine s_lushr hK dX0_holds_2 ?_
  refine s_lconst hK (v := 1) dX0_holds_3 (by decide) ?_
  refine s_land hK dX0_holds_4 ?_
  refine s_lconst hK (v := 0) dX0_holds_5 (by decide) ?_
  refine s_lcmp hK dX0_holds_6 ?_
  rw [lb_hold hc]
  cases e : lb x c with
  | false =>
    rw [e] at hp
    refine s_ifeq hK dX0_holds_7 14 (by decide) (fun c_7 => ?_) (fun c_7 => ?_)
    · refine s_iconst hK (v := 0) dX0_holds_14 (by decide) ?_
      refine s_ireturn hK dX0_holds_15 rfl (by first | rfl | exact b01_nar _) ?_
      exact hp
    · exact absurd rfl c_7
  | true =>
    rw [e] at hp
    refine s_ifeq hK dX0_holds_7 14 (by decide) (fun c_7 => ?_) (fun c_7 => ?_)
    · exact absurd c_7 (by decide)
    · refine s_iconst hK (v := 1) dX0_holds_10 (by decide) ?_
      refine s_goto hK dX0_holds_11 15 (by decide) ?_
      refine s_ireturn hK dX0_holds_15 rfl (by first | rfl | exact b01_nar _) ?_
      exact hp
set_option maxRecDepth 10000 in
theorem c_moved (d : Nat) {x : Int64} {dn : Nat} (hd : dn < 4) {h : gH} {mc ms : Nat} {Post : Option Value → gH → Prop} {X : String → gH → Prop} (hp : Post (some (.long (bMv x dn))) h) : gSafe (d + 1) mX0_moved [.long x, .int (nI dn)] h mc ms Post X := by
  refine ⟨Nat.le_of_ble_eq_true rfl, fun K hK => ?_⟩
  show K 0 [some (.long x), none, some (.int (nI dn))] [] _ _ _
  refine s_iload_n hK dX0_moved_0 rfl ?_
  match dn, hd with
  | 0, _ =>
    refine s_tswI hK dX0_moved_1 28 (by decide) (by rfl) (by decide) ?_
    refine s_lload_n hK dX0_moved_28 rfl ?_
    refine s_bipush hK (v := 9) dX0_moved_29 (by decide) ?_
    refine s_lushr hK dX0_moved_31 ?_
    refine s_lreturn hK dX0_moved_32 rfl ?_
    exact hp
  | 1, _ =>
    refine s_tswI hK dX0_moved_1 33 (by decide) (by rfl) (by decide) ?_
    refine s_lload_n hK dX0_moved_33 rfl ?_
    refine s_ldc2_w hK dX0_moved_34 kC_X0_11 ?_
    refine s_land hK dX0_moved_37 ?_
    refine s_iconst hK (v := 1) dX0_moved_38 (by decide) ?_
    refine s_lshl hK dX0_moved_39 ?_
    refine s_lreturn hK dX0_moved_40 rfl ?_
    exact hp
  | 2, _ =>
    refine s_tswI hK dX0_moved_1 41 (by decide) (by rfl) (by decide) ?_
    refine s_lload_n hK dX0_moved_41 rfl ?_
    refine s_bipush hK (v := 9) dX0_moved_42 (by decide) ?_
    refine s_lshl hK dX0_moved_44 ?_
    refine s_ldc2_w hK dX0_moved_45 kC_X0_13 ?_
    refine s_land hK dX0_moved_48 ?_
    refine s_lreturn hK dX0_moved_49 rfl ?_
    exact hp
  | 3, _ =>
    refine s_tswO hK dX0_moved_1 50 (by decide) (by decide) ?_
    refine s_lload_n hK dX0_moved_50 rfl ?_
    refine s_ldc2_w hK dX0_moved_51 kC_X0_15 ?_
    refine s_land hK dX0_moved_54 ?_
    refine s_iconst hK (v := 1) dX0_moved_55 (by decide) ?_
    refine s_lushr hK dX0_moved_56 ?_
    refine s_lreturn hK dX0_moved_57 rfl ?_
    exact hp
set_option maxRecDepth 10000 in
theorem c_isRim (d : Nat) {c dn : Nat} (hc : c < 63) (hd : dn < 4) {h : gH} {mc ms : Nat} {Post : Option Value → gH → Prop} {X : String → gH → Prop} (hp : Post (some (.int (b01 (!nbOk c dn)))) h) : gSafe (d + 2) mX0_isRim [.int (nI c), .int (nI dn)] h mc ms Post X := by
  refine ⟨Nat.le_of_ble_eq_true rfl, fun K hK => ?_⟩
  show K 0 [some (.int (nI c)), some (.int (nI dn))] [] _ _ _
  refine s_iload_n hK dX0_isRim_0 rfl ?_
  refine s_S10 hK dX0_isRim_1 kS_X0_17 (by rfl) ?_
  refine c_only _ ?_
  refine s_iload_n hK dX0_isRim_4 rfl ?_
  refine s_S20 hK dX0_isRim_5 kS_X0_21 (by rfl) ?_
  refine c_moved _ hd ?_
  refine s_lconst hK (v := 0) dX0_isRim_8 (by decide) ?_
  refine s_lcmp hK dX0_isRim_9 ?_
  rw [bMv_only hc hd]
  cases e : nbOk c dn with
  | false =>
    rw [e] at hp
    refine s_ifne hK dX0_isRim_10 17 (by decide) (fun c_10 => ?_) (fun c_10 => ?_)
    · exact absurd rfl c_10
    · refine s_iconst hK (v := 1) dX0_isRim_13 (by decide) ?_
      refine s_goto hK dX0_isRim_14 18 (by decide) ?_
      refine s_ireturn hK dX0_isRim_18 rfl (by first | rfl | exact b01_nar _) ?_
      exact hp
  | true =>
    rw [e] at hp
    refine s_ifne hK dX0_isRim_10 17 (by decide) (fun c_10 => ?_) (fun c_10 => ?_)
    · refine s_iconst hK (v := 0) dX0_isRim_17 (by decide) ?_
      refine s_ireturn hK dX0_isRim_18 rfl (by first | rfl | exact b01_nar _) ?_
      exact hp
    · exact absurd (lg_cmp_0.mp c_10) (bOnly_ne0 (by have := nb_lt hc hd e; omega))
set_option maxRecDepth 10000 in
theorem c_neighbour (d : Nat) {c dn : Nat} (hd : dn < 4) (ho : nbOk c dn = true) {h : gH} {mc ms : Nat} {Post : Option Value → gH → Prop} {X : String → gH → Prop} (hp : Post (some (.int (nI (nbOf c dn)))) h) : gSafe (d + 1) mX0_neighbour [.int (nI c), .int (nI dn)] h mc ms Post X := by
  refine ⟨Nat.le_of_ble_eq_true rfl, fun K hK => ?_⟩
  show K 0 [some (.int (nI c)), some (.int (nI dn))] [] _ _ _
  refine s_iload_n hK dX0_neighbour_0 rfl ?_
  match dn, hd with
  | 0, _ =>
    refine s_tswI hK dX0_neighbour_1 28 (by decide) (by rfl) (by decide) ?_
    refine s_iload_n hK dX0_neighbour_28 rfl ?_
    refine s_bipush hK (v := 9) dX0_neighbour_29 (by decide) ?_
    refine s_isub hK dX0_neighbour_31 ?_
    refine s_ireturn hK dX0_neighbour_32 rfl (by first | rfl | exact b01_nar _) ?_
    rw [show (9 : Int32) = nI 9 from rfl, pk_sub (of_decide_eq_true ho)]
    exact hp
  | 1, _ =>
    refine s_tswI hK dX0_neighbour_1 33 (by decide) (by rfl) (by decide) ?_
    refine s_iload_n hK dX0_neighbour_33 rfl ?_
    refine s_iconst hK (v := 1) dX0_neighbour_34 (by decide) ?_
    refine s_iadd hK dX0_neighbour_35 ?_
    refine s_ireturn hK dX0_neighbour_36 rfl (by first | rfl | exact b01_nar _) ?_
    rw [nI_1]
    exact hp
  | 2, _ =>
    refine s_tswI hK dX0_neighbour_1 37 (by decide) (by rfl) (by decide) ?_
    refine s_iload_n hK dX0_neighbour_37 rfl ?_
    refine s_bipush hK (v := 9) dX0_neighbour_38 (by decide) ?_
    refine s_iadd hK dX0_neighbour_40 ?_
    refine s_ireturn hK dX0_neighbour_41 rfl (by first | rfl | exact b01_nar _) ?_
    rw [show (9 : Int32) = nI 9 from rfl, nI_add]
    exact hp
  | 3, _ =>
    refine s_tswO hK dX0_neighbour_1 42 (by decide) (by decide) ?_
    refine s_iload_n hK dX0_neighbour_42 rfl ?_
    refine s_iconst hK (v := 1) dX0_neighbour_43 (by decide) ?_
    refine s_isub hK dX0_neighbour_44 ?_
    refine s_ireturn hK dX0_neighbour_45 rfl (by first | rfl | exact b01_nar _) ?_
    have h1 : 1 ≤ c := by have : c % 9 ≠ 0 := of_decide_eq_true ho; omega
    rw [show (1 : Int32) = nI 1 from rfl, pk_sub h1]
    exact hp
/-- numbers at ar: what they are below n -/
def IntsAt (h : gH) (ar n : Nat) (f : Nat → Int32) : Prop := ∃ f' : Nat → Int32, h ar = some (.inl (0, n, .inl f')) ∧ ∀ j, j < n → f' j = f j
def gFr (S : List Nat) (h h' : gH) : Prop := ∀ q, q ∉ S → h' q = h q
theorem gFr_U (h : gH) (a : Nat) (o : gO) : gFr [a] h (gU h a o) := fun q hq => gU_ne (fun e => hq (by rw [e]; exact List.mem_singleton.mpr rfl))
theorem gFr_rf (S : List Nat) (h : gH) : gFr S h h := fun _ _ => rfl
theorem gFr.tr {S : List Nat} {h h1 h2 : gH} (a : gFr S h h1) (b : gFr S h1 h2) : gFr S h h2 := fun q hq => (b q hq).trans (a q hq)
theorem gFr.mono {S T : List Nat} {h h' : gH} (a : gFr S h h') (hs : ∀ q, q ∈ S → q ∈ T) : gFr T h h' := fun q hq => a q (fun z => hq (hs q z))
theorem IntsAt.put {h : gH} {ar n i : Nat} {f f' : Nat → Int32} {x : Int32} (e : ∀ j, j < n → f' j = f j) : IntsAt (gU h ar (.inl (0, n, .inl (upd f' i x)))) ar n (upd f i x) := ⟨_, gU_eq _ _ _, fun j hj => by by_cases q : j = i <;> simp [upd, q, e j hj]⟩
theorem IntsAt.cong {h : gH} {ar n : Nat} {f g : Nat → Int32} (H : IntsAt h ar n f) (e : ∀ j, j < n → f j = g j) : IntsAt h ar n g := by
  obtain ⟨f', h1, h2⟩ := H
  exact ⟨f', h1, fun j hj => (h2 j hj).trans (e j hj)⟩
theorem IntsAt.keep {h h' : gH} {ar n : Nat} {f : Nat → Int32} (H : IntsAt h ar n f) (e : h' ar = h ar) : IntsAt h' ar n f := by
  obtain ⟨f', h1, h2⟩ := H
  exact ⟨f', e.trans h1, h2⟩
/-- a Row at r, its numbers at ar -/
def RowAt (h : gH) (r ar n : Nat) (f : Nat → Int32) : Prop := h r = some (.inr (2, [.ref ar])) ∧ IntsAt h ar n f
theorem RowAt.ne {h : gH} {r ar n : Nat} {f : Nat → Int32} (H : RowAt h r ar n f) : r ≠ ar := by
  obtain ⟨h1, f', h2, -⟩ := H
  intro e
  rw [e, h2] at h1
  cases h1
set_option maxRecDepth 10000 in
theorem c_get (d : Nat) {r ar n i : Nat} {f : Nat → Int32} (hi : i < n) (hn : n < 2 ^ 31) {h : gH} (hr : RowAt h r ar n f) {mc ms : Nat} {Post : Option Value → gH → Prop} {X : String → gH → Prop} (hp : Post (some (.int (f i))) h) : gSafe (d + 1) mX3_get [.ref r, .int (nI i)] h mc ms Post X := by
  obtain ⟨h1, f', h2, h3⟩ := hr
  refine ⟨Nat.le_of_ble_eq_true rfl, fun K hK => ?_⟩
  show K 0 [some (.ref r), some (.int (nI i))] [] _ _ _
  refine s_iload_n hK dX3_get_0 rfl ?_
  refine s_iflt hK dX3_get_1 22 (by decide) (fun c_1 => ?_) (fun c_1 => ?_)
  · exact absurd c_1 (nI_pos (by omega))
  · refine s_iload_n hK dX3_get_4 rfl ?_
    refine s_aload_n hK dX3_get_5 rfl ?_
    refine s_getfield hK dX3_get_6 kF_X3_7 (by first | assumption | exact H.1 | exact H.2.1) (by rfl) ?_
    refine s_alen hK dX3_get_9 (by assumption) (by rfl) (by rfl) ?_
    refine s_icmpge hK dX3_get_10 22 (by decide) (fun c_10 => ?_) (fun c_10 => ?_)
    · exact absurd c_10 (nI_ge hi hn)
    · refine s_aload_n hK dX3_get_13 rfl ?_
      refine s_getfield hK dX3_get_14 kF_X3_7 (by first | assumption | exact H.1 | exact H.2.1) (by rfl) ?_
      refine s_iload_n hK dX3_get_17 rfl ?_
      refine s_ialoadN hK dX3_get_18 (by assumption) (by omega) (by omega) ?_
      refine s_goto hK dX3_get_19 23 (by decide) ?_
      refine s_ireturn hK dX3_get_23 rfl (by first | rfl | exact b01_nar _) ?_
      rw [h3 i hi]
      exact hp
set_option maxRecDepth 10000 in
theorem c_put (d : Nat) {r ar n i : Nat} {f : Nat → Int32} {x : Int32} (hi : i < n) (hn : n < 2 ^ 31) {h : gH} (hr : RowAt h r ar n f) {mc ms : Nat} {Post : Option Value → gH → Prop} {X : String → gH → Prop} (hp : ∀ h', RowAt h' r ar n (upd f i x) → gFr [ar] h h' → Post none h') : gSafe (d + 1) mX3_put [.ref r, .int (nI i), .int x] h mc ms Post X := by
  have hne := hr.ne
  obtain ⟨h1, f', h2, h3⟩ := hr
  refine ⟨Nat.le_of_ble_eq_true rfl, fun K hK => ?_⟩
  show K 0 [some (.ref r), some (.int (nI i)), some (.int x)] [] _ _ _
  refine s_iload_n hK dX3_put_0 rfl ?_
  refine s_iflt hK dX3_put_1 20 (by decide) (fun c_1 => ?_) (fun c_1 => ?_)
  · exact absurd c_1 (nI_pos (by omega))
  · refine s_iload_n hK dX3_put_4 rfl ?_
    refine s_aload_n hK dX3_put_5 rfl ?_
    refine s_getfield hK dX3_put_6 kF_X3_7 (by first | assumption | exact H.1 | exact H.2.1) (by rfl) ?_
    refine s_alen hK dX3_put_9 (by assumption) (by rfl) (by rfl) ?_
    refine s_icmpge hK dX3_put_10 20 (by decide) (fun c_10 => ?_) (fun c_10 => ?_)
    · exact absurd c_10 (nI_ge hi hn)
    · refine s_aload_n hK dX3_put_13 rfl ?_
      refine s_getfield hK dX3_put_14 kF_X3_7 (by first | assumption | exact H.1 | exact H.2.1) (by rfl) ?_
      refine s_iload_n hK dX3_put_17 rfl ?_
      refine s_iload_n hK dX3_put_18 rfl ?_
      refine s_iastoreN hK dX3_put_19 (by assumption) (by omega) (by omega) ?_
      refine s_return hK dX3_put_20 rfl ?_
      exact hp _ ⟨(gU_ne hne).trans h1, IntsAt.put h3⟩ (gFr_U _ _ _)
set_option maxRecDepth 10000 in
theorem c_rowCopy (d : Nat) {r ar r2 ar2 n : Nat} {f g : Nat → Int32} (hn : n < 2 ^ 30) {h : gH} (hr : RowAt h r ar n f) (hr2 : RowAt h r2 ar2 n g) (hne : ar ≠ ar2) {mc ms : Nat} {Post : Option Value → gH → Prop} {X : String → gH → Prop} (hp : ∀ h', RowAt h' r ar n g → gFr [ar] h h' → Post none h') : gSafe (d + 2) mX3_copyFrom [.ref r, .ref r2] h mc ms Post X := by
  have hne1 := hr.ne
  have hne2 : r2 ≠ ar := by
    obtain ⟨-, f', h2, -⟩ := hr
    intro e
    have := hr2.1
    rw [e, h2] at this
    cases this
  refine ⟨Nat.le_of_ble_eq_true rfl, fun K hK => ?_⟩
  show K 0 [some (.ref r), some (.ref r2), none] [] _ _ _
  refine s_iconst hK (v := 0) dX3_copyFrom_0 (by decide) ?_
  refine s_istore_n hK dX3_copyFrom_1 rfl ?_
  have loop : ∀ m i, i + m = n → ∀ (h1 : gH), RowAt h1 r ar n (fun j => if j < i then g j else f j) → gFr [ar] h h1 → K 2 [some (.ref r), some (.ref r2), some (.int (nI i))] [] h1 mc ms := by
    intro m
    induction m with
    | zero =>
      intro i hi h1 H F
      obtain rfl : i = n := by omega
      obtain ⟨e1, f', e2, e3⟩ := H
      refine s_iload_n hK dX3_copyFrom_2 rfl ?_
      refine s_aload_n hK dX3_copyFrom_3 rfl ?_
      refine s_getfield hK dX3_copyFrom_4 kF_X3_7 (by first | assumption | exact H.1 | exact H.2.1) (by rfl) ?_
      refine s_alen hK dX3_copyFrom_7 (by assumption) (by rfl) (by rfl) ?_
      refine s_icmpge hK dX3_copyFrom_8 28 (by decide) (fun c_8 => ?_) (fun c_8 => ?_)
      · refine s_return hK dX3_copyFrom_28 rfl ?_
        exact hp h1 ⟨e1, f', e2, fun j hj => by rw [e3 j hj]; simp [hj]⟩ F
      · exact absurd (nI_le (Nat.le_refl _) (by omega)) c_8
    | succ m ih =>
      intro i hi h1 H F
      have H2 : RowAt h1 r2 ar2 n g := ⟨(F r2 (by simp [hne2])).trans hr2.1, hr2.2.keep (F ar2 (by simp [hne.symm]))⟩
      obtain ⟨e1, f', e2, e3⟩ := H
      have e1' := H2.1
      refine s_iload_n hK dX3_copyFrom_2 rfl ?_
      refine s_aload_n hK dX3_copyFrom_3 rfl ?_
      refine s_getfield hK dX3_copyFrom_4 kF_X3_7 (by first | assumption | exact H.1 | exact H.2.1) (by rfl) ?_
      refine s_alen hK dX3_copyFrom_7 (by assumption) (by rfl) (by rfl) ?_
      refine s_icmpge hK dX3_copyFrom_8 28 (by decide) (fun c_8 => ?_) (fun c_8 => ?_)
      · exact absurd c_8 (nI_ge (by omega) (by omega))
      · refine s_aload_n hK dX3_copyFrom_11 rfl ?_
        refine s_getfield hK dX3_copyFrom_12 kF_X3_7 (by first | assumption | exact H.1 | exact H.2.1) (by rfl) ?_
        refine s_iload_n hK dX3_copyFrom_15 rfl ?_
        refine s_aload_n hK dX3_copyFrom_16 rfl ?_
        refine s_iload_n hK dX3_copyFrom_17 rfl ?_
        refine s_V10 hK dX3_copyFrom_18 kV_X3_13 (by first | assumption | exact H.1 | exact H.2.1) (by rfl) ?_
        refine c_get _ (by omega) (by omega) H2 ?_
        refine s_iastoreN hK dX3_copyFrom_21 (by assumption) (by omega) (by omega) ?_
        refine s_iinck hK (v := 1) dX3_copyFrom_22 rfl (by decide) rfl ?_
        refine s_goto hK dX3_copyFrom_25 2 (by decide) ?_
        rw [nI_1]
        refine ih (i + 1) (by omega) _ ⟨(gU_ne hne1).trans e1, (IntsAt.put (i := i) (x := g i) e3).cong (fun j hj => ?_)⟩ (F.tr (gFr_U _ _ _))
        by_cases q : j = i
        · subst q; simp [upd]
        · by_cases q2 : j < i
          · have : j < i + 1 := by omega
            simp [upd, q, q2, this]
          · have : ¬ j < i + 1 := by omega
            simp [upd, q, q2, this]
  exact loop n 0 (by omega) h ⟨hr.1, hr.2.cong (fun j hj => by simp)⟩ (gFr_rf _ _)
