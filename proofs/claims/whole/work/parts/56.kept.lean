/-! pass of the model; what is kept and brought back -/
theorem sum_step {s : LG} {g : Nat} : ∀ n, sumT (stepF s g).2 6 n = sumT s.2 6 n := by
  intro n
  unfold stepF
  split
  · rfl
  · split
    · show sumT (setG (setG s.2 g 0 _) g 3 0) 6 n = _
      rw [sumT_set (by decide), sumT_set (by decide)]
    · show sumT (setG s.2 g 0 _) 6 n = _
      rw [sumT_set (by decide)]
theorem sum_steps {s : LG} {g : Nat} (n : Nat) : ∀ k, sumT (stepsF s g k).2 6 n = sumT s.2 6 n
  | 0 => rfl
  | k + 1 => (sum_step n).trans (sum_steps n k)
theorem sum_walk {s : LG} (n : Nat) : ∀ k, sumT (walkF s k).2 6 n = sumT s.2 6 n
  | 0 => rfl
  | k + 1 => (sum_steps n _).trans (sum_walk n k)
theorem sum_hau {L : Nat → Int64} {s : AG} {g n : Nat} (hg : g < n) : sumT (hauF L s g).2.1 6 n + s.2.2 = sumT s.2.1 6 n + (hauF L s g).2.2 := by
  unfold hauF
  split
  · show sumT (setG s.2.1 g 5 _) 6 n + s.2.2 = sumT s.2.1 6 n + s.2.2
    rw [sumT_set (by decide)]
  · split
    · show sumT (setG s.2.1 g 4 _) 6 n + s.2.2 = sumT s.2.1 6 n + (s.2.2 + 1)
      rw [sumT_inc n hg]
      omega
    · rfl
theorem sum_haus {L : Nat → Int64} {s : AG} {n : Nat} : ∀ k, k ≤ n → sumT (hausF L s k).2.1 6 n + s.2.2 = sumT s.2.1 6 n + (hausF L s k).2.2
  | 0, _ => rfl
  | k + 1, h => by
    have a := sum_haus (L := L) (s := s) (n := n) k (by omega)
    have b := sum_hau (L := L) (s := hausF L s k) (g := k) (n := n) (by omega)
    show sumT (hauF L (hausF L s k) k).2.1 6 n + s.2.2 = sumT s.2.1 6 n + (hauF L (hausF L s k) k).2.2
    omega
theorem sum_hr (S : CS) : sumT (hrS S).2.2.1 6 S.2.2.2.1 = sumT S.2.2.1 6 S.2.2.2.1 + hrH S := by
  have a := sum_haus (L := (hourL S.1 S.2.1 S.2.2.1 S.2.2.2.1).1) (s := ((bdN S.1 S.2.1 63).2, (hourL S.1 S.2.1 S.2.2.1 S.2.2.2.1).2, 0)) (n := S.2.2.2.1) S.2.2.2.1 (Nat.le_refl _)
  have b := sum_walk (s := (reL (bdN S.1 S.2.1 63).1, S.2.2.1)) S.2.2.2.1 S.2.2.2.1
  show sumT (hausF _ _ _).2.1 6 _ = _
  have a : sumT (hausF (hourL S.1 S.2.1 S.2.2.1 S.2.2.2.1).1 ((bdN S.1 S.2.1 63).2, (hourL S.1 S.2.1 S.2.2.1 S.2.2.2.1).2, 0) S.2.2.2.1).2.1 6 S.2.2.2.1 + 0 = sumT (hourL S.1 S.2.1 S.2.2.1 S.2.2.2.1).2 6 S.2.2.2.1 + hrH S := a
  have b : sumT (hourL S.1 S.2.1 S.2.2.1 S.2.2.2.1).2 6 S.2.2.2.1 = sumT S.2.2.1 6 S.2.2.2.1 := b
  omega
theorem pas_gc (S : CS) : ∀ k, (pasS S k).2.2.2.1 = S.2.2.2.1
  | 0 => rfl
  | k + 1 => pas_gc S k
theorem sum_pas (S : CS) : ∀ k, sumT (pasS S k).2.2.1 6 S.2.2.2.1 = sumT S.2.2.1 6 S.2.2.2.1 + pasH S k
  | 0 => rfl
  | k + 1 => by
    have a := sum_pas S k
    have b := sum_hr (pasS S k)
    rw [pas_gc] at b
    show sumT (hrS (pasS S k)).2.2.1 6 _ = _ + (pasH S k + hrH (pasS S k))
    omega
set_option maxRecDepth 10000 in
theorem c_passM (d : Nat) {m : Nat → Nat} {thr t : Int32} {S : CS} {lt : Nat → Bool} {st rw : Nat → Int32} {h : gH} (M : MdlAt h m thr S lt st rw) (V : InvS S) {mc ms : Nat} {Post : Option Value → gH → Prop} {X : String → gH → Prop} (hp : mDone cdC Post m h (fPass S t)) : gSafe (d + 12) mX6_pass [.ref (m 0), .int t] h mc ms Post X := by
  unfold fPass at hp
  have M0 := M.own0
  refine ⟨Nat.le_of_ble_eq_true rfl, fun K hK => ?_⟩
  show K 0 [some (.ref (m 0)), some (.int t), none] [] _ _ _
  refine s_aload_n hK dX6_pass_0 rfl ?_
  refine s_iconst hK (v := 0) dX6_pass_1 (by decide) ?_
  refine s_putfield hK dX6_pass_2 kF_X6_41 (by assumption) (by rfl) (by rfl) (by rfl) ?_
  have M1 : MdlAt (gU h (m 0) (.inr (5, (mF m thr S.2.2.2.1).set 0 (.int 0)))) m 0 S lt st rw := RawM.own (thr' := 0) (gc' := S.2.2.2.1) M
  have F1 : gFr (mS m) h (gU h (m 0) (.inr (5, (mF m thr S.2.2.2.1).set 0 (.int 0)))) := gFr.mdl (k := 0) (gFr_U _ _ _) (by omega)
  generalize gU h (m 0) (.inr (5, (mF m thr S.2.2.2.1).set 0 (.int 0))) = h1 at M1 F1
  clear M0
  have M0 := M1.own0
  refine s_iload_n hK dX6_pass_5 rfl ?_
  refine s_iconst hK (v := 1) dX6_pass_6 (by decide) ?_
  refine s_bipush hK (v := 40) dX6_pass_7 (by decide) ?_
  refine s_S30 hK dX6_pass_9 kS_X6_45 (by rfl) ?_
  refine c_isIn _ ?_
  rw [show (decide (¬ t < 1) && decide (t ≤ 40)) = okH t 40 from rfl]
  cases e : okH t 40 with
  | false =>
    rw [if_neg (by simp [e])] at hp
    refine s_ifne hK dX6_pass_12 21 (by decide) (fun c_12 => ?_) (fun c_12 => ?_)
    · exact absurd rfl c_12
    · refine s_aload_n hK dX6_pass_15 rfl ?_
      refine s_iconst hK (v := 1) dX6_pass_16 (by decide) ?_
      refine s_V10 hK dX6_pass_17 kV_X6_62 (by first | assumption | exact H.1 | exact H.2.1) (by rfl) ?_
      refine c_fail _ M1 (fun h2 M2 F2 => ?_)
      refine s_ireturn hK dX6_pass_20 rfl (by first | rfl | exact b01_nar _) ?_
      exact hp.exc M2 (F1.tr F2) rfl rfl
  | true =>
    rw [if_pos e] at hp
    obtain ⟨k, hk1, hk, rfl, ek⟩ := okH_ex (by omega) e
    rw [ek] at hp
    obtain ⟨f7, e7, k7⟩ := M1.a7
    have k71 := k7 1 (by omega)
    rw [if_neg (by omega)] at k71
    refine s_ifne hK dX6_pass_12 21 (by decide) (fun c_12 => ?_) (fun c_12 => ?_)
    · refine s_aload_n hK dX6_pass_21 rfl ?_
      refine s_getfield hK dX6_pass_22 kF_X6_29 (by first | assumption | exact H.1 | exact H.2.1) (by rfl) ?_
      refine s_iconst hK (v := 1) dX6_pass_25 (by decide) ?_
      refine s_ialoadN hK (j := 1) dX6_pass_26 e7 (by omega) (by omega) ?_
      rw [k71]
      refine s_istore_n hK dX6_pass_27 rfl ?_
      refine s_aload_n hK dX6_pass_28 rfl ?_
      refine s_iload_n hK dX6_pass_29 rfl ?_
      refine s_V10 hK dX6_pass_30 kV_X6_148 (by first | assumption | exact H.1 | exact H.2.1) (by rfl) ?_
      refine c_hoursOn _ hk1 hk V M1 (fun h2 st2 rw2 M2 F2 => ?_)
      have M0 := M2.own0
      obtain ⟨f7, e7, k7⟩ := M2.a7
      have k71 := k7 1 (by omega)
      rw [if_neg (by omega), pas_gc, sum_pas] at k71
      refine s_aload_n hK dX6_pass_33 rfl ?_
      refine s_getfield hK dX6_pass_34 kF_X6_29 (by first | assumption | exact H.1 | exact H.2.1) (by rfl) ?_
      refine s_iconst hK (v := 1) dX6_pass_37 (by decide) ?_
      refine s_ialoadN hK (j := 1) dX6_pass_38 e7 (by omega) (by omega) ?_
      rw [k71]
      refine s_iload_n hK dX6_pass_39 rfl ?_
      refine s_isub hK dX6_pass_40 ?_
      rw [pk_sub (by omega), show sumT S.2.2.1 6 S.2.2.2.1 + pasH S k - sumT S.2.2.1 6 S.2.2.2.1 = pasH S k by omega]
      refine s_ireturn hK dX6_pass_41 rfl (by first | rfl | exact b01_nar _) ?_
      exact hp.val M2 (F1.tr F2) rfl rfl
    · exact absurd c_12 (by decide)
/-- rows 4 to 7 as they were, in copies r 0 to r 3 -/
def KpN (h : gH) (m : Nat → Nat) (q : Nat) (r : Nat → Nat) (C : Nat → Nat → Int32) (i : Nat) : Prop := (∃ f : Nat → Option Nat, h q = some (.inl (3, 4, .inr (.inr (.inr (.inr f))))) ∧ ∀ k, k < i → f k = some (r k)) ∧ (∀ k, k < i → ∃ f' : Nat → Int32, h (r k) = some (.inl (0, mLen (k + 4), .inl f')) ∧ ∀ j, j < mLen (k + 4) → f' j = C (k + 4) j) ∧ (∀ k, k < 11 → m k ≠ q) ∧ ∀ i', i' < i → ∀ k, k < 11 → m k ≠ r i'
theorem KpN.nw {h h' : gH} {m : Nat → Nat} {q : Nat} {r : Nat → Nat} {C : Nat → Nat → Int32} {i : Nat} (P : KpN h m q r C i) (F : gNw (mS m) h h') : KpN h' m q r C i := by
  obtain ⟨⟨f, a, b⟩, c, e, g⟩ := P
  have out : ∀ x, (∀ k, k < 11 → m k ≠ x) → x ∉ mS m := by
    intro x hx hm
    simp only [mS, List.mem_cons, List.not_mem_nil, or_false] at hm
    rcases hm with z | z | z | z | z | z | z | z | z | z | z
    · exact hx 0 (by omega) z.symm
    · exact hx 1 (by omega) z.symm
    · exact hx 2 (by omega) z.symm
    · exact hx 3 (by omega) z.symm
    · exact hx 4 (by omega) z.symm
    · exact hx 5 (by omega) z.symm
    · exact hx 6 (by omega) z.symm
    · exact hx 7 (by omega) z.symm
    · exact hx 8 (by omega) z.symm
    · exact hx 9 (by omega) z.symm
    · exact hx 10 (by omega) z.symm
  refine ⟨⟨f, F.kp a (out q e), b⟩, fun k hk => ?_, e, g⟩
  obtain ⟨f', x, y⟩ := c k hk
  exact ⟨f', F.kp x (out _ (g k hk)), y⟩
theorem M_ne {h : gH} {m : Nat → Nat} {thr : Int32} {S : CS} {lt : Nat → Bool} {st rw : Nat → Int32} (M : MdlAt h m thr S lt st rw) {q : Nat} (hq : ∀ k, k < 11 → m k ≠ q) (o : gO) : MdlAt (gU h q o) m thr S lt st rw := RawM.keep M (fun k hk => gU_ne (hq k hk))
theorem M_out {h : gH} {m : Nat → Nat} {thr : Int32} {S : CS} {lt : Nat → Bool} {st rw : Nat → Int32} (M : MdlAt h m thr S lt st rw) {q : Nat} (hq : h q = none) : ∀ k, k < 11 → m k ≠ q := by
  intro k hk z
  by_cases e : k = 0
  · have r := M.1
    rw [← e, z, hq] at r
    cases r
  · obtain ⟨f, r, -⟩ := M.2.1 k (by omega) hk
    rw [z, hq] at r
    cases r
def rU (r : Nat → Nat) (i p : Nat) : Nat → Nat := fun k => if k = i then p else r k
theorem KpN.suc {h : gH} {m : Nat → Nat} {thr : Int32} {S : CS} {lt : Nat → Bool} {st rw : Nat → Int32} {q p i : Nat} {r : Nat → Nat} {C : Nat → Nat → Int32} (M : MdlAt h m thr S lt st rw) (P : KpN h m q r C i) (hp : h p = none) {f : Nat → Option Nat} (ef : h q = some (.inl (3, 4, .inr (.inr (.inr (.inr f)))))) {g : Nat → Int32} (eg : ∀ j, j < mLen (i + 4) → g j = C (i + 4) j) : KpN (gU (gU h p (.inl (0, mLen (i + 4), .inl g))) q (.inl (3, 4, .inr (.inr (.inr (.inr (va_up f i (some p)))))))) m q (rU r i p) C (i + 1) := by
  obtain ⟨⟨f1, a, b⟩, c, e, d⟩ := P
  have ff : f1 = f := by
    rw [a] at ef
    cases ef
    rfl
  subst ff
  have qp : p ≠ q := fun z => by rw [z, a] at hp; cases hp
  have ro : ∀ k, k < i → rU r i p k = r k := fun k hk => if_neg (by omega)
  have rn : rU r i p i = p := if_pos rfl
  refine ⟨⟨_, gU_eq _ _ _, fun k hk => ?_⟩, fun k hk => ?_, e, fun i' hi' => ?_⟩
  · by_cases z : k = i
    · rw [z, va_up_self, rn]
    · rw [va_up_ne _ _ z, ro k (by omega)]
      exact b k (by omega)
  · by_cases z : k = i
    · rw [z, rn]
      exact ⟨g, by rw [gU_ne qp, gU_eq], eg⟩
    · rw [ro k (by omega)]
      obtain ⟨f', x, y⟩ := c k (by omega)
      have n1 : r k ≠ q := fun w => by rw [w, a] at x; cases x
      have n2 : r k ≠ p := fun w => by rw [w, hp] at x; cases x
      exact ⟨f', by rw [gU_ne n1, gU_ne n2]; exact x, y⟩
  · by_cases z : i' = i
    · rw [z, rn]
      exact M_out M hp
    · rw [ro i' (by omega)]
      exact d i' (by omega)
set_option maxRecDepth 10000 in
theorem c_kept (d : Nat) {m : Nat → Nat} {thr : Int32} {S : CS} {lt : Nat → Bool} {st rw : Nat → Int32} {h : gH} (M : MdlAt h m thr S lt st rw) {mc ms : Nat} (hmc : 5 ≤ mc) (hms : 168 ≤ ms) {Post : Option Value → gH → Prop} {X : String → gH → Prop} (hp : ∀ h' q r, MdlAt h' m thr S lt st rw → KpN h' m q r (mC S lt st rw) 4 → gNw [] h h' → Post (some (.ref q)) h') : gSafe (d + 1) mX6_kept [.ref (m 0)] h mc ms Post X := by
  refine ⟨Nat.le_of_ble_eq_true rfl, fun K hK => ?_⟩
  show K 0 [some (.ref (m 0))] [] _ _ _
  refine s_iconst hK (v := 4) dX6_kept_0 (by decide) ?_
  refine s_anewarray hK (N := 4) dX6_kept_1 kArr (by decide) (by decide) (by omega) (by omega) (by omega) (fun q Q => ?_)
  have M1 : MdlAt (gU h q (.inl (3, 4, .inr (.inr (.inr (.inr (fun _ => none))))))) m thr S lt st rw := M_al M Q _
  have P : KpN (gU h q (.inl (3, 4, .inr (.inr (.inr (.inr (fun _ => none))))))) m q (fun _ => 0) (mC S lt st rw) 0 := ⟨⟨_, gU_eq _ _ _, fun k hk => absurd hk (Nat.not_lt_zero _)⟩, fun k hk => absurd hk (Nat.not_lt_zero _), M_out M Q, fun k hk => absurd hk (Nat.not_lt_zero _)⟩
  have F1 : gNw [] h (gU h q (.inl (3, 4, .inr (.inr (.inr (.inr (fun _ => none))))))) := gNw.new Q _
  generalize gU h q (.inl (3, 4, .inr (.inr (.inr (.inr (fun _ => none)))))) = h1 at M1 P F1
  clear M
  obtain ⟨⟨f, eq, -⟩, -, nq, -⟩ := id P
  have M0 := M1.own0
  obtain ⟨g, eg, kg⟩ := M1.a4
  refine s_dup hK dX6_kept_4 rfl ?_
  refine s_iconst hK (v := 0) dX6_kept_5 (by decide) ?_
  refine s_aload_n hK dX6_kept_6 rfl ?_
  refine s_getfield hK dX6_kept_7 kF_X6_20 (by first | assumption | exact H.1 | exact H.2.1) (by rfl) ?_
  refine s_clone hK dX6_kept_10 kClo eg (by omega) (by rfl) (by omega) (by omega) (fun p Pn => ?_)
  have pq : p ≠ q := fun z => by rw [z, eq] at Pn; cases Pn
  refine s_checkcast hK dX6_kept_13 kArr (gU_eq _ _ _) ?_
  refine s_aastore hK dX6_kept_16 ((gU_ne pq.symm).trans eq) (gU_eq _ _ _) (vp_in_nI (n := 0) (by omega) (by omega)) ?_
  rw [show (0 : Int32).toNatClampNeg = 0 by decide]
  have P2 := KpN.suc M1 P Pn eq (g := g) (i := 0) kg
  have P2 : KpN (gU (gU h1 p (.inl (0, 63, .inl g))) q (.inl (3, 4, .inr (.inr (.inr (.inr (va_up f 0 (some p)))))))) m q (rU (fun _ => 0) 0 p) (mC S lt st rw) 1 := P2
  have M2 : MdlAt (gU (gU h1 p (.inl (0, 63, .inl g))) q (.inl (3, 4, .inr (.inr (.inr (.inr (va_up f 0 (some p)))))))) m thr S lt st rw := M_ne (M_al M1 Pn _) nq _
  have hqn : h q = none := Q
  have F2 : gNw [] h (gU (gU h1 p (.inl (0, 63, .inl g))) q (.inl (3, 4, .inr (.inr (.inr (.inr (va_up f 0 (some p)))))))) := gNw.set2 (gNw.al F1 Pn _) hqn _
  generalize gU (gU h1 p (.inl (0, 63, .inl g))) q (.inl (3, 4, .inr (.inr (.inr (.inr (va_up f 0 (some p))))))) = h2 at P2 M2 F2
  generalize rU (fun _ => 0) 0 p = r1 at P2
  clear M1 P F1 M0 eg kg Pn pq eq
  have M1 := M2
  have P := P2
  have F1 := F2
  clear M2 P2 F2
  obtain ⟨⟨f, eq, -⟩, -, nq, -⟩ := id P
  have M0 := M1.own0
  obtain ⟨g, eg, kg⟩ := M1.a5
  refine s_dup hK dX6_kept_17 rfl ?_
  refine s_iconst hK (v := 1) dX6_kept_18 (by decide) ?_
  refine s_aload_n hK dX6_kept_19 rfl ?_
  refine s_getfield hK dX6_kept_20 kF_X6_23 (by first | assumption | exact H.1 | exact H.2.1) (by rfl) ?_
  refine s_clone hK dX6_kept_23 kClo eg (by omega) (by rfl) (by omega) (by omega) (fun p Pn => ?_)
  have pq : p ≠ q := fun z => by rw [z, eq] at Pn; cases Pn
  refine s_checkcast hK dX6_kept_26 kArr (gU_eq _ _ _) ?_
  refine s_aastore hK dX6_kept_29 ((gU_ne pq.symm).trans eq) (gU_eq _ _ _) (vp_in_nI (n := 1) (by omega) (by omega)) ?_
  rw [show (1 : Int32).toNatClampNeg = 1 by decide]
  have P2 := KpN.suc M1 P Pn eq (g := g) (i := 1) kg
  have P2 : KpN (gU (gU h2 p (.inl (0, 63, .inl g))) q (.inl (3, 4, .inr (.inr (.inr (.inr (va_up f 1 (some p)))))))) m q (rU r1 1 p) (mC S lt st rw) 2 := P2
  have M2 : MdlAt (gU (gU h2 p (.inl (0, 63, .inl g))) q (.inl (3, 4, .inr (.inr (.inr (.inr (va_up f 1 (some p)))))))) m thr S lt st rw := M_ne (M_al M1 Pn _) nq _
  have hqn : h q = none := Q
  have F2 : gNw [] h (gU (gU h2 p (.inl (0, 63, .inl g))) q (.inl (3, 4, .inr (.inr (.inr (.inr (va_up f 1 (some p)))))))) := gNw.set2 (gNw.al F1 Pn _) hqn _
  generalize gU (gU h2 p (.inl (0, 63, .inl g))) q (.inl (3, 4, .inr (.inr (.inr (.inr (va_up f 1 (some p))))))) = h3 at P2 M2 F2
  generalize rU r1 1 p = r2 at P2
  clear M1 P F1 M0 eg kg Pn pq eq
  have M1 := M2
  have P := P2
  have F1 := F2
  clear M2 P2 F2
  obtain ⟨⟨f, eq, -⟩, -, nq, -⟩ := id P
  have M0 := M1.own0
  obtain ⟨g, eg, kg⟩ := M1.a6
  refine s_dup hK dX6_kept_30 rfl ?_
  refine s_iconst hK (v := 2) dX6_kept_31 (by decide) ?_
  refine s_aload_n hK dX6_kept_32 rfl ?_
  refine s_getfield hK dX6_kept_33 kF_X6_26 (by first | assumption | exact H.1 | exact H.2.1) (by rfl) ?_
  refine s_clone hK dX6_kept_36 kClo eg (by omega) (by rfl) (by omega) (by omega) (fun p Pn => ?_)
  have pq : p ≠ q := fun z => by rw [z, eq] at Pn; cases Pn
  refine s_checkcast hK dX6_kept_39 kArr (gU_eq _ _ _) ?_
  refine s_aastore hK dX6_kept_42 ((gU_ne pq.symm).trans eq) (gU_eq _ _ _) (vp_in_nI (n := 2) (by omega) (by omega)) ?_
  rw [show (2 : Int32).toNatClampNeg = 2 by decide]
  have P2 := KpN.suc M1 P Pn eq (g := g) (i := 2) kg
  have P2 : KpN (gU (gU h3 p (.inl (0, 36, .inl g))) q (.inl (3, 4, .inr (.inr (.inr (.inr (va_up f 2 (some p)))))))) m q (rU r2 2 p) (mC S lt st rw) 3 := P2
  have M2 : MdlAt (gU (gU h3 p (.inl (0, 36, .inl g))) q (.inl (3, 4, .inr (.inr (.inr (.inr (va_up f 2 (some p)))))))) m thr S lt st rw := M_ne (M_al M1 Pn _) nq _
  have hqn : h q = none := Q
  have F2 : gNw [] h (gU (gU h3 p (.inl (0, 36, .inl g))) q (.inl (3, 4, .inr (.inr (.inr (.inr (va_up f 2 (some p)))))))) := gNw.set2 (gNw.al F1 Pn _) hqn _
  generalize gU (gU h3 p (.inl (0, 36, .inl g))) q (.inl (3, 4, .inr (.inr (.inr (.inr (va_up f 2 (some p))))))) = h4 at P2 M2 F2
  generalize rU r2 2 p = r3 at P2
  clear M1 P F1 M0 eg kg Pn pq eq
  have M1 := M2
  have P := P2
  have F1 := F2
  clear M2 P2 F2
  obtain ⟨⟨f, eq, -⟩, -, nq, -⟩ := id P
  have M0 := M1.own0
  obtain ⟨g, eg, kg⟩ := M1.a7
  refine s_dup hK dX6_kept_43 rfl ?_
  refine s_iconst hK (v := 3) dX6_kept_44 (by decide) ?_
  refine s_aload_n hK dX6_kept_45 rfl ?_
  refine s_getfield hK dX6_kept_46 kF_X6_29 (by first | assumption | exact H.1 | exact H.2.1) (by rfl) ?_
  refine s_clone hK dX6_kept_49 kClo eg (by omega) (by rfl) (by omega) (by omega) (fun p Pn => ?_)
  have pq : p ≠ q := fun z => by rw [z, eq] at Pn; cases Pn
  refine s_checkcast hK dX6_kept_52 kArr (gU_eq _ _ _) ?_
  refine s_aastore hK dX6_kept_55 ((gU_ne pq.symm).trans eq) (gU_eq _ _ _) (vp_in_nI (n := 3) (by omega) (by omega)) ?_
  rw [show (3 : Int32).toNatClampNeg = 3 by decide]
  have P2 := KpN.suc M1 P Pn eq (g := g) (i := 3) kg
  have P2 : KpN (gU (gU h4 p (.inl (0, 2, .inl g))) q (.inl (3, 4, .inr (.inr (.inr (.inr (va_up f 3 (some p)))))))) m q (rU r3 3 p) (mC S lt st rw) 4 := P2
  have M2 : MdlAt (gU (gU h4 p (.inl (0, 2, .inl g))) q (.inl (3, 4, .inr (.inr (.inr (.inr (va_up f 3 (some p)))))))) m thr S lt st rw := M_ne (M_al M1 Pn _) nq _
  have hqn : h q = none := Q
  have F2 : gNw [] h (gU (gU h4 p (.inl (0, 2, .inl g))) q (.inl (3, 4, .inr (.inr (.inr (.inr (va_up f 3 (some p)))))))) := gNw.set2 (gNw.al F1 Pn _) hqn _
  generalize gU (gU h4 p (.inl (0, 2, .inl g))) q (.inl (3, 4, .inr (.inr (.inr (.inr (va_up f 3 (some p))))))) = h5 at P2 M2 F2
  generalize rU r3 3 p = r4 at P2
  clear M1 P F1 M0 eg kg Pn pq eq
  have M1 := M2
  have P := P2
  have F1 := F2
  clear M2 P2 F2
  refine s_areturn hK dX6_kept_56 rfl ?_
  exact hp h5 q r4 M1 P F1
