/-! something done to both: ghosts -/
theorem bk_1 {i : Nat} (h : 5 ≤ i) : bk i = 1 := by
  unfold bk
  split <;> first | omega | rfl
def mC (m : Nat → Nat) (q g gc : Nat) : Nat → Nat := fun i => if i = 5 then q else if i = 8 + gc then g else m i
theorem mC_o {m : Nat → Nat} {q g gc i : Nat} (h5 : i ≠ 5) (h8 : i ≠ 8 + gc) : mC m q g gc i = m i := by
  unfold mC
  rw [if_neg h5, if_neg h8]
theorem mC_5 {m : Nat → Nat} {q g gc : Nat} : mC m q g gc 5 = q := if_pos rfl
theorem mC_8 {m : Nat → Nat} {q g gc : Nat} : mC m q g gc (8 + gc) = g := by
  unfold mC
  rw [if_neg (by omega), if_pos rfl]
theorem SimAt.apart {h : gH} {m : Nat → Nat} {S : CS} (M : SimAt h m S) {x : Nat} (hx : h x = none) {i : Nat} (hi : i < 8 + S.2.2.2.1) : m i + bk i ≤ x ∨ x + 1 ≤ m i := Classical.byContradiction (fun z => M.there ⟨i, hi, by omega, by omega⟩ hx)
/-- one ghost more -/
theorem SimAt.come {h h' : gH} {m : Nat → Nat} {S : CS} {q g p c : Nat} (M : SimAt h m S) (hz : S.2.2.1 S.2.2.2.1 4 = 0 ∧ S.2.2.1 S.2.2.2.1 5 = 0) (hq : h q = none) (hg : h g = none) (hne : q ≠ g) (F : ∀ x, x ≠ m 0 → h x ≠ none → h' x = h x) (e0 : h' (m 0) = some (.inr (6, (smF m S).set 4 (.ref q)))) {f : Nat → Option Nat} (eq : h' q = some (.inl (5, S.2.2.2.1 + 1, .inr (.inr (.inr (.inr f)))))) (ef : ∀ k, k < S.2.2.2.1 → f k = some (m (8 + k))) (eg0 : f S.2.2.2.1 = some g) (eg : h' g = some (.inr (5, [.int (nI (c % 9)), .int (nI (c / 9)), .int (nI p), .int (nI (c % 9)), .int (nI (c / 9)), .int (nI 1), .int (nI 0), .int (nI 0)]))) : SimAt h' (mC m q g S.2.2.2.1) (S.1, S.2.1, addG S.2.2.1 S.2.2.2.1 c p, S.2.2.2.1 + 1, S.2.2.2.2) := by
  have B0 : inB m 0 (m 0) := ⟨Nat.le_refl _, by show _ < _ + 1; omega⟩
  have kp : ∀ i, i < 8 + S.2.2.2.1 → i ≠ 0 → ∀ p, inB m i p → h' p = h p := fun i hi h0 p hp => F p (fun z => M.2.out hi (j := 0) (by omega) h0 hp (by rw [z]; exact B0)) (M.there ⟨i, hi, hp⟩)
  have o : ∀ i, i ≠ 5 → i ≠ 8 + S.2.2.2.1 → mC m q g S.2.2.2.1 i = m i := fun i h5 h8 => mC_o h5 h8
  have o5 : mC m q g S.2.2.2.1 5 = q := mC_5
  have o8 : mC m q g S.2.2.2.1 (8 + S.2.2.2.1) = g := mC_8
  generalize mC m q g S.2.2.2.1 = m' at o o5 o8 ⊢
  refine ⟨fun i hi => ?_, fun i j hi hj hne2 => ?_⟩
  · have hi : i < 8 + (S.2.2.2.1 + 1) := hi
    match i, hi with
    | 0, _ =>
      show h' (m' 0) = some (.inr (6, smF m' (S.1, S.2.1, addG S.2.2.1 S.2.2.2.1 c p, S.2.2.2.1 + 1, S.2.2.2.2)))
      rw [o 0 (by omega) (by omega), e0]
      unfold smF
      rw [o 1 (by omega) (by omega), o 2 (by omega) (by omega), o 3 (by omega) (by omega), o 4 (by omega) (by omega), o5, o 6 (by omega) (by omega), o 7 (by omega) (by omega), addG_sum hz]
      rfl
    | 1, _ =>
      show W3 h' (m' 1) (wl S.1)
      rw [o 1 (by omega) (by omega)]
      exact M.c1.keep (fun p h1 h2 => kp 1 (by omega) (by omega) p ⟨h1, h2⟩)
    | 2, _ =>
      show I2 h' (m' 2) (fun c => nI (thg S.1 c))
      rw [o 2 (by omega) (by omega)]
      exact M.c2.keep (fun p h1 h2 => kp 2 (by omega) (by omega) p ⟨h1, h2⟩)
    | 3, _ =>
      show I2 h' (m' 3) S.2.1
      rw [o 3 (by omega) (by omega)]
      exact M.c3.keep (fun p h1 h2 => kp 3 (by omega) (by omega) p ⟨h1, h2⟩)
    | 4, _ =>
      show Z2 h' (m' 4) (lb (S.1 1))
      rw [o 4 (by omega) (by omega)]
      exact M.c4.keep (fun p h1 h2 => kp 4 (by omega) (by omega) p ⟨h1, h2⟩)
    | 5, _ =>
      refine ⟨f, by rw [o5]; exact eq, fun k hk => ?_⟩
      have hk : k < S.2.2.2.1 + 1 := hk
      by_cases e : k = S.2.2.2.1
      · rw [e, o8]; exact eg0
      · rw [o (8 + k) (by omega) (by omega)]; exact ef k (by omega)
    | 6, _ =>
      obtain ⟨f6, e6⟩ := M.c6
      exact ⟨f6, by rw [o 6 (by omega) (by omega), kp 6 (by omega) (by omega) _ ⟨Nat.le_refl _, by show _ < _ + 1; omega⟩]; exact e6⟩
    | 7, _ =>
      obtain ⟨f6, e6⟩ := M.c7
      exact ⟨f6, by rw [o 7 (by omega) (by omega), kp 7 (by omega) (by omega) _ ⟨Nat.le_refl _, by show _ < _ + 1; omega⟩]; exact e6⟩
    | k + 8, hi =>
      show h' (m' (k + 8)) = some (.inr (5, gV (addG S.2.2.1 S.2.2.2.1 c p) k))
      rw [Nat.add_comm k 8]
      by_cases e : k = S.2.2.2.1
      · rw [e, o8, eg]
        unfold gV addG
        simp [setG, hz.1, hz.2]
      · have C := M.c8 (k := k) (by omega)
        rw [o (8 + k) (by omega) (by omega), kp (8 + k) (by omega) (by omega) _ ⟨Nat.le_refl _, by have := bk_pos (8 + k); omega⟩, C]
        unfold gV
        rw [addG_ne e, addG_ne e, addG_ne e, addG_ne e, addG_ne e, addG_ne e]
  · have hi : i < 8 + (S.2.2.2.1 + 1) := hi
    have hj : j < 8 + (S.2.2.2.1 + 1) := hj
    have b5 : bk 5 = 1 := rfl
    have b8 : bk (8 + S.2.2.2.1) = 1 := bk_1 (by omega)
    by_cases i5 : i = 5
    · subst i5
      rw [o5, b5]
      by_cases j8 : j = 8 + S.2.2.2.1
      · rw [j8, o8, b8]; omega
      · rw [o j (by omega) j8]
        have := M.apart hq (i := j) (by omega)
        omega
    · by_cases i8 : i = 8 + S.2.2.2.1
      · subst i8
        rw [o8, b8]
        by_cases j5 : j = 5
        · rw [j5, o5, b5]; omega
        · rw [o j j5 (by omega)]
          have := M.apart hg (i := j) (by omega)
          omega
      · rw [o i i5 i8]
        by_cases j5 : j = 5
        · rw [j5, o5, b5]
          have := M.apart hq (i := i) (by omega)
          omega
        · by_cases j8 : j = 8 + S.2.2.2.1
          · rw [j8, o8, b8]
            have := M.apart hg (i := i) (by omega)
            omega
          · rw [o j j5 j8]
            exact M.2 i j (by omega) (by omega) hne2
theorem sD_mC {m : Nat → Nat} {q g gc p : Nat} (z : sD (mC m q g gc) (8 + (gc + 1)) p) : p = q ∨ p = g ∨ sD m (8 + gc) p := by
  obtain ⟨i, hi, h1, h2⟩ := z
  by_cases i5 : i = 5
  · subst i5
    rw [mC_5] at h1 h2
    have h2 : p < q + 1 := h2
    exact Or.inl (by omega)
  · by_cases i8 : i = 8 + gc
    · subst i8
      rw [mC_8] at h1 h2
      rw [bk_1 (by omega)] at h2
      exact Or.inr (Or.inl (by omega))
    · rw [mC_o i5 i8] at h1 h2
      exact Or.inr (Or.inr ⟨i, by omega, h1, h2⟩)
theorem s_gput {call : gC} {y : gM} {d : Nat} {Post : Option Value → gH → Prop} {X : String → gH → Prop} {ro : Nat → Option (Nat × (Nat → Int32))} {K : gK} {pc : Nat} {lv : gL} {r : List Value} {h h0 : gH} {bc bs : Nat} (hK : gClosed call y d Post X ro K) {idx g k : Nat} {ty : FieldType} {fs : List Value} {v : Value} (dd : decode y.2.1 pc = .ok (.putfield idx, 3)) (hf : gFL y.1.cls idx 5 k ty false) (gg : h0 g = none) (F : gNw [] h0 h) (G : h g = some (.inr (5, fs))) (hl : Nat.ble (k + 1) fs.length = true) (hn : narrow ty v = v) (hft : fits ty v = true) (kk : ∀ h', gNw [] h0 h' → h' g = some (.inr (5, fs.set k v)) → (∀ p, p ≠ g → h' p = h p) → K (pc + 3) lv r h' bc bs) : K pc lv (v :: .ref g :: r) h bc bs := by
  refine s_putfield hK dd hf G hl hn hft ?_
  exact kk _ (gNw.set2 F gg _) (gU_eq _ _ _) (fun p hp => gU_ne hp)
set_option maxRecDepth 10000 in
theorem a_come (d : Nat) {a : Nat} {n n' m : Nat → Nat} {S : CS} {i c : Nat} {z : Int32} {Post : Option Value → gH → Prop} {X : String → gH → Prop} {K : gK} (hK : gClosed (gSafe (d + 7)) mL_act (d + 7 + 1) Post X (fun _ => none) K) (I : InvC S i) (hc : c < 63) {h : gH} (C : ClsAt h a n n' S) (M : SimAt h m S) (D : Dj a n n' m (8 + S.2.2.2.1)) (P : ActP Post h a n n' m S i) {bc bs : Nat} (hbc : 60 ≤ bc) (hbs : 400 ≤ bs) : K 535 [some (.ref a), some (.ref (m 0)), some (.int z), some (.int (nI (c % 9))), some (.int (nI (c / 9))), some (.int (nI S.2.2.2.1)), some (.int (nI (thg S.1 c))), none, none, none, none, none, none, none, none] [] h bc bs := by
  have V := I.1
  have ok := V.1
  have T := V.2.2.1
  have hx : c % 9 < 9 := Nat.mod_lt _ (by omega)
  have hy : c / 9 < 7 := by omega
  have ec : 9 * (c / 9) + c % 9 = c := by omega
  have t5 := thg_lt S.1 c
  have C0 := M.c0
  refine s_iload hK dL_act_535 rfl ?_
  refine s_bipush hK (v := 6) dL_act_537 (by decide) ?_
  refine s_icmpne hK dL_act_539 544 (by decide) (fun c_539 => ?_) (fun c_539 => ?_)
  · have g6 : S.2.2.2.1 < 6 := Nat.lt_of_le_of_ne ok.1 (fun e => c_539 (by rw [e]; rfl))
    refine s_iload hK dL_act_544 rfl ?_
    refine s_iconst hK (v := 1) dL_act_546 (by decide) ?_
    refine s_iadd hK dL_act_547 ?_
    rw [nI_1]
    refine s_anewarray hK (N := S.2.2.2.1 + 1) dL_act_548 kN_L_77 (nI_pos (by omega)) (nI_clamp (by omega)) (by omega) (by omega) (by omega) (fun q Q => ?_)
    have F1 := gNw.new Q (.inl (5, S.2.2.2.1 + 1, .inr (.inr (.inr (.inr (fun _ => none))))))
    have A1 := gU_eq h q (.inl (5, S.2.2.2.1 + 1, .inr (.inr (.inr (.inr (fun _ => none))))))
    generalize gU h q (.inl (5, S.2.2.2.1 + 1, .inr (.inr (.inr (.inr (fun _ => none)))))) = h1 at F1 A1 ⊢
    refine s_astore hK dL_act_551 rfl ?_
    refine s_iconst hK (v := 0) dL_act_553 (by decide) ?_
    refine s_istore hK dL_act_554 rfl ?_
    have loop : ∀ j k, k + j = S.2.2.2.1 → ∀ (h2 : gH) f, gNw [] h h2 → h2 q = some (.inl (5, S.2.2.2.1 + 1, .inr (.inr (.inr (.inr f))))) → (∀ k', k' < k → f k' = some (m (8 + k'))) → K 556 [some (.ref a), some (.ref (m 0)), some (.int z), some (.int (nI (c % 9))), some (.int (nI (c / 9))), some (.int (nI S.2.2.2.1)), some (.int (nI (thg S.1 c))), none, some (.ref q), some (.int (nI k)), none, none, none, none, none] [] h2 (bc - 1) (bs - (S.2.2.2.1 + 1)) := by
      intro j
      induction j with
      | zero =>
        intro k hk h2 f F2 A2 ef
        obtain rfl : k = S.2.2.2.1 := by omega
        refine s_iload hK dL_act_556 rfl ?_
        refine s_iload hK dL_act_558 rfl ?_
        refine s_icmpge hK dL_act_560 581 (by decide) (fun c_560 => ?_) (fun c_560 => ?_)
        · refine s_aload hK dL_act_581 rfl ?_
          refine s_iload hK dL_act_583 rfl ?_
          refine s_new hK (ci := 5) dL_act_585 rfl kN_L_77 kMk_X6 gB_X6 (by omega) (by omega) (fun g G => ?_)
          have hg : h g = none := F2.none G (by simp)
          have hne : q ≠ g := fun z => by rw [← z, A2] at G; cases G
          refine s_dup hK dL_act_588 rfl ?_
          refine s_I00 hK dL_act_589 kI_L_79 (by rfl) ?_
          refine c_ghostInit _ (gU_eq _ _ _) ?_
          have F3 := (F2.set2 hg (.inr (5, [.int 0, .int 0, .int 0, .int 0, .int 0, .int 0, .int 0, .int 0]))).set2 hg (.inr (5, [.int 0, .int 0, .int 0, .int 0, .int 0, .int 1, .int 0, .int 0]))
          have G3 := gU_eq (gU h2 g (.inr (5, [.int 0, .int 0, .int 0, .int 0, .int 0, .int 0, .int 0, .int 0]))) g (.inr (5, [.int 0, .int 0, .int 0, .int 0, .int 0, .int 1, .int 0, .int 0]))
          have A3 : gU (gU h2 g (.inr (5, [.int 0, .int 0, .int 0, .int 0, .int 0, .int 0, .int 0, .int 0]))) g (.inr (5, [.int 0, .int 0, .int 0, .int 0, .int 0, .int 1, .int 0, .int 0])) q = _ := (gU_ne hne).trans ((gU_ne hne).trans A2)
          generalize gU (gU h2 g (.inr (5, [.int 0, .int 0, .int 0, .int 0, .int 0, .int 0, .int 0, .int 0]))) g (.inr (5, [.int 0, .int 0, .int 0, .int 0, .int 0, .int 1, .int 0, .int 0])) = h3 at F3 G3 A3 ⊢
          refine s_aastore hK dL_act_592 A3 G3 (vp_in_nI (by omega) (by omega)) ?_
          rw [nI_clamp (by omega)]
          have F4 := F3.set2 Q (.inl (5, S.2.2.2.1 + 1, .inr (.inr (.inr (.inr (va_up f S.2.2.2.1 (some g)))))))
          have A4 := gU_eq h3 q (.inl (5, S.2.2.2.1 + 1, .inr (.inr (.inr (.inr (va_up f S.2.2.2.1 (some g)))))))
          have G4 : gU h3 q (.inl (5, S.2.2.2.1 + 1, .inr (.inr (.inr (.inr (va_up f S.2.2.2.1 (some g))))))) g = _ := (gU_ne (Ne.symm hne)).trans G3
          generalize gU h3 q (.inl (5, S.2.2.2.1 + 1, .inr (.inr (.inr (.inr (va_up f S.2.2.2.1 (some g))))))) = h4 at F4 A4 G4 ⊢
          have f1 : va_up f S.2.2.2.1 (some g) S.2.2.2.1 = some g := if_pos rfl
          have f2 : ∀ k', k' < S.2.2.2.1 → va_up f S.2.2.2.1 (some g) k' = some (m (8 + k')) := fun k' hk' => (if_neg (by omega)).trans (ef k' hk')
          generalize va_up f S.2.2.2.1 (some g) = f4 at A4 f1 f2
          refine s_aload hK dL_act_593 rfl ?_
          refine s_iload hK dL_act_595 rfl ?_
          refine s_aaload hK dL_act_597 A4 rfl (show S.2.2.2.1 < S.2.2.2.1 + 1 by omega) (by omega) f1 ?_
          refine s_iload_n hK dL_act_598 rfl ?_
          refine s_gput hK dL_act_599 kF_L_80 hg F4 G4 rfl rfl rfl (fun h5 F5 G5 N5 => ?_)
          have A5 := (N5 q hne).trans A4
          refine s_aload hK dL_act_602 rfl ?_
          refine s_iload hK dL_act_604 rfl ?_
          refine s_aaload hK dL_act_606 A5 rfl (show S.2.2.2.1 < S.2.2.2.1 + 1 by omega) (by omega) f1 ?_
          refine s_iload hK dL_act_607 rfl ?_
          refine s_gput hK dL_act_609 kF_L_84 hg F5 G5 rfl rfl rfl (fun h6 F6 G6 N6 => ?_)
          have A6 := (N6 q hne).trans A5
          refine s_aload hK dL_act_612 rfl ?_
          refine s_iload hK dL_act_614 rfl ?_
          refine s_aaload hK dL_act_616 A6 rfl (show S.2.2.2.1 < S.2.2.2.1 + 1 by omega) (by omega) f1 ?_
          refine s_iload_n hK dL_act_617 rfl ?_
          refine s_gput hK dL_act_618 kF_L_87 hg F6 G6 rfl rfl rfl (fun h7 F7 G7 N7 => ?_)
          have A7 := (N7 q hne).trans A6
          refine s_aload hK dL_act_621 rfl ?_
          refine s_iload hK dL_act_623 rfl ?_
          refine s_aaload hK dL_act_625 A7 rfl (show S.2.2.2.1 < S.2.2.2.1 + 1 by omega) (by omega) f1 ?_
          refine s_iload hK dL_act_626 rfl ?_
          refine s_gput hK dL_act_628 kF_L_90 hg F7 G7 rfl rfl rfl (fun h8 F8 G8 N8 => ?_)
          have A8 := (N8 q hne).trans A7
          refine s_aload hK dL_act_631 rfl ?_
          refine s_iload hK dL_act_633 rfl ?_
          refine s_aaload hK dL_act_635 A8 rfl (show S.2.2.2.1 < S.2.2.2.1 + 1 by omega) (by omega) f1 ?_
          refine s_iconst hK (v := 1) dL_act_636 (by decide) ?_
          refine s_iload_n hK dL_act_637 rfl ?_
          refine s_iconst hK (v := 4) dL_act_638 (by decide) ?_
          refine s_ishr hK dL_act_639 ?_
          refine s_iconst hK (v := nI 3) dL_act_640 (by decide) ?_
          refine s_S20 hK dL_act_641 kS_L_9 (by rfl) ?_
          refine c_belN _ (by omega) (by omega) ?_
          have hk := belN_lt (z >>> (4 &&& 31)) (n := 3) (by omega)
          generalize belN (z >>> (4 &&& 31)) 3 = p at hk ⊢
          refine s_iadd hK dL_act_644 ?_
          rw [add_1k]
          refine s_gput hK dL_act_645 kF_L_93 hg F8 G8 rfl rfl rfl (fun h9 F9 G9 N9 => ?_)
          have A9 := (N9 q hne).trans A8
          have C9 : h9 (m 0) = some (.inr (6, smF m S)) := (M.nw F9).c0
          have qm : q ≠ m 0 := fun e => by rw [e, C0] at Q; cases Q
          have gm : g ≠ m 0 := fun e => by rw [e, C0] at hg; cases hg
          refine s_aload_n hK dL_act_648 rfl ?_
          refine s_aload hK dL_act_649 rfl ?_
          refine s_putfield hK dL_act_651 kF_L_15 (by assumption) (by rfl) (by rfl) (by rfl) ?_
          show K 654 _ _ (gU h9 (m 0) (.inr (6, [.ref (m 1), .ref (m 2), .ref (m 3), .ref (m 4), .ref q, .int (nI S.2.2.2.2), .int (nI (sumT S.2.2.1 6 S.2.2.2.1)), .ref (m 6), .ref (m 7)]))) _ _
          have E0 := gU_eq h9 (m 0) (.inr (6, [.ref (m 1), .ref (m 2), .ref (m 3), .ref (m 4), .ref q, .int (nI S.2.2.2.2), .int (nI (sumT S.2.2.1 6 S.2.2.2.1)), .ref (m 6), .ref (m 7)]))
          have A10 := (gU_ne (h := h9) (o := (.inr (6, [.ref (m 1), .ref (m 2), .ref (m 3), .ref (m 4), .ref q, .int (nI S.2.2.2.2), .int (nI (sumT S.2.2.1 6 S.2.2.2.1)), .ref (m 6), .ref (m 7)]))) qm).trans A9
          have G10 := (gU_ne (h := h9) (o := (.inr (6, [.ref (m 1), .ref (m 2), .ref (m 3), .ref (m 4), .ref q, .int (nI S.2.2.2.2), .int (nI (sumT S.2.2.1 6 S.2.2.2.1)), .ref (m 6), .ref (m 7)]))) gm).trans G9
          have F10 : ∀ x, x ≠ m 0 → h x ≠ none → gU h9 (m 0) (.inr (6, [.ref (m 1), .ref (m 2), .ref (m 3), .ref (m 4), .ref q, .int (nI S.2.2.2.2), .int (nI (sumT S.2.2.1 6 S.2.2.2.1)), .ref (m 6), .ref (m 7)])) x = h x := fun x hx hn => (gU_ne hx).trans (F9 x (by simp) hn)
          generalize gU h9 (m 0) (.inr (6, [.ref (m 1), .ref (m 2), .ref (m 3), .ref (m 4), .ref q, .int (nI S.2.2.2.2), .int (nI (sumT S.2.2.1 6 S.2.2.2.1)), .ref (m 6), .ref (m 7)])) = h10 at E0 A10 G10 F10 ⊢
          have M10 := SimAt.come (p := p + 1) (c := c) M (I.2.1 _ (Nat.le_refl _)) Q hg hne F10 E0 A10 f2 f1 G10
          have om : oC a n n' (m 0) := D _ (sD_i (by omega))
          have C10 := C.off (h' := h10) (fun x hx hn => F10 x (fun e => hx (by rw [e]; exact om)) hn)
          have oq := C.th Q
          have og := C.th hg
          have D10 : Dj a n n' (mC m q g S.2.2.2.1) (8 + (S.2.2.2.1 + 1)) := fun x hx => by
            rcases sD_mC hx with e | e | e
            · rw [e]; exact oq
            · rw [e]; exact og
            · exact D x e
          have I' := iCome (x := nI (c % 9)) (y := nI (c / 9)) (p := nI (p + 1)) I
          rw [fCome_n hc (by omega) (by omega) g6] at I'
          have Ca := C10.1
          refine s_aload_n hK dL_act_654 rfl ?_
          refine s_iload_n hK dL_act_655 rfl ?_
          refine s_iload hK dL_act_656 rfl ?_
          refine s_aload hK dL_act_658 rfl ?_
          refine s_iload hK dL_act_660 rfl ?_
          refine s_aaload hK dL_act_662 A10 rfl (show S.2.2.2.1 < S.2.2.2.1 + 1 by omega) (by omega) f1 ?_
          refine s_getfield hK dL_act_663 kF_L_93 (by assumption) (by rfl) ?_
          refine s_V3 hK (mc := 4) (ms := 24) dL_act_666 kV_L_96 (by assumption) (by rfl) (by omega) (by omega) ?_
          refine c_come _ C10 ok (by omega) (by omega) (gDone_of (fCome_n hc (by omega) (by omega) g6) (fun h11 C11 F11 => ?_))
          have M11 := M10.cls D10 F11
          refine s_iload hK dL_act_669 rfl ?_
          refine s_icmpne hK dL_act_671 678 (by decide) (fun c_671 => ?_) (fun c_671 => ?_)
          · exact absurd rfl c_671
          · refine s_iconst hK (v := 1) dL_act_674 (by decide) ?_
            refine s_goto hK dL_act_675 679 (by decide) ?_
            refine s_ireturn hK dL_act_679 rfl (by first | rfl | exact b01_nar _) ?_
            refine P h11 (mC m q g S.2.2.2.1) _ (mC_o (by omega) (by omega)) I' C11 M11 D10 (fun x x1 x2 x3 => ⟨(F11 x x2.out).trans (F10 x (fun e => x3 (by rw [e]; exact sD_i (by omega))) x1), fun e => ?_⟩)
            rcases sD_mC e with e | e | e
            · exact x1 (by rw [e]; exact Q)
            · exact x1 (by rw [e]; exact hg)
            · exact x3 e
        · exact absurd (Int32.le_refl _) c_560
      | succ j ih =>
        intro k hk h2 f F2 A2 ef
        have hkg : k < S.2.2.2.1 := by omega
        have M2 := M.nw F2
        have C2 := M2.c0
        obtain ⟨fg, g1, g2⟩ := M2.c5
        have Gk := M2.c8 hkg
        refine s_iload hK dL_act_556 rfl ?_
        refine s_iload hK dL_act_558 rfl ?_
        refine s_icmpge hK dL_act_560 581 (by decide) (fun c_560 => ?_) (fun c_560 => ?_)
        · exact absurd c_560 (nI_ge (by omega) (by omega))
        · refine s_aload hK dL_act_563 rfl ?_
          refine s_iload hK dL_act_565 rfl ?_
          refine s_aload_n hK dL_act_567 rfl ?_
          refine s_getfield hK dL_act_568 kF_L_15 (by assumption) (by rfl) ?_
          refine s_iload hK dL_act_571 rfl ?_
          refine s_aaload hK dL_act_573 g1 rfl hkg (by show S.2.2.2.1 < _; omega) (g2 k hkg) ?_
          refine s_aastore hK dL_act_574 A2 Gk (vp_in_nI (show k < S.2.2.2.1 + 1 by omega) (by omega)) ?_
          rw [nI_clamp (by omega)]
          refine s_iinck hK (v := 1) dL_act_575 rfl (by decide) rfl ?_
          refine s_goto hK dL_act_578 556 (by decide) ?_
          rw [nI_1]
          refine ih (k + 1) (by omega) _ _ (F2.set2 Q _) (gU_eq _ _ _) (fun k' hk' => ?_)
          by_cases e : k' = k
          · rw [e]; exact if_pos rfl
          · exact (if_neg e).trans (ef k' (by omega))
    exact loop S.2.2.2.1 0 (by omega) h1 _ F1 A1 (fun k' hk' => absurd hk' (Nat.not_lt_zero _))
  · refine s_iconst hK (v := 1) dL_act_542 (by decide) ?_
    refine s_ireturn hK dL_act_543 rfl (by first | rfl | exact b01_nar _) ?_
    exact P.same I C M D
set_option maxRecDepth 10000 in
theorem a_rite (d : Nat) {a : Nat} {n n' m : Nat → Nat} {S : CS} {i c : Nat} {z : Int32} {Post : Option Value → gH → Prop} {X : String → gH → Prop} {K : gK} (hK : gClosed (gSafe (d + 7)) mL_act (d + 7 + 1) Post X (fun _ => none) K) (I : InvC S i) (hc : c < 63) {h : gH} (C : ClsAt h a n n' S) (M : SimAt h m S) (D : Dj a n n' m (8 + S.2.2.2.1)) (P : ActP Post h a n n' m S i) {bc bs : Nat} (hbc : 60 ≤ bc) (hbs : 400 ≤ bs) : K 680 [some (.ref a), some (.ref (m 0)), some (.int z), some (.int (nI (c % 9))), some (.int (nI (c / 9))), some (.int (nI S.2.2.2.1)), some (.int (nI (thg S.1 c))), none, none, none, none, none, none, none, none] [] h bc bs := by
  have V := I.1
  have ok := V.1
  have T := V.2.2.1
  have hx : c % 9 < 9 := Nat.mod_lt _ (by omega)
  have hy : c / 9 < 7 := by omega
  have ec : 9 * (c / 9) + c % 9 = c := by omega
  have t5 := thg_lt S.1 c
  have C0 := M.c0
  refine s_iload hK dL_act_680 rfl ?_
  refine s_ifne hK dL_act_682 687 (by decide) (fun c_682 => ?_) (fun c_682 => ?_)
  · have g0 : 0 < S.2.2.2.1 := Nat.pos_of_ne_zero (fun e => c_682 (by rw [e]; rfl))
    have g6 := ok.1
    obtain ⟨fg, g1, g2⟩ := M.c5
    refine s_aload_n hK dL_act_687 rfl ?_
    refine s_getfield hK dL_act_688 kF_L_15 (by assumption) (by rfl) ?_
    refine s_iload_n hK dL_act_691 rfl ?_
    refine s_iload hK dL_act_692 rfl ?_
    refine s_S20 hK dL_act_694 kS_L_9 (by rfl) ?_
    refine c_belN _ g0 (by omega) ?_
    have hk := belN_lt z g0
    obtain ⟨k, ek⟩ : ∃ k, k = belN z S.2.2.2.1 := ⟨_, rfl⟩
    rw [← ek] at hk ⊢
    have Gk := M.c8 hk
    refine s_aaload hK dL_act_697 g1 rfl hk (by show S.2.2.2.1 < _; omega) (g2 k hk) ?_
    refine s_astore hK dL_act_698 rfl ?_
    refine s_aload hK dL_act_700 rfl ?_
    refine s_getfield hK dL_act_702 kF_L_99 (by assumption) (by rfl) ?_
    obtain ⟨go0, go1, go2, go3⟩ := ok.2 k (by omega)
    refine s_ifeq hK dL_act_705 710 (by decide) (fun c_705 => ?_) (fun c_705 => ?_)
    · have e3 : S.2.2.1 k 3 = 0 := (nI_eq (b := 0) (by omega) (by omega)).mp c_705
      have hm : mpG S.2.2.1 k = false := decide_eq_false (by omega)
      have I' := iRite (g := nI k) I
      rw [fRite_n hk g6 hm] at I'
      refine s_aload hK dL_act_710 rfl ?_
      refine s_iconst hK (v := nI 1) dL_act_712 (by decide) ?_
      refine s_putfield hK dL_act_713 kF_L_99 Gk rfl rfl rfl ?_
      have e4 : gU h (m (8 + k)) (.inr (5, (gV S.2.2.1 k).set 5 (.int (nI 1)))) = gU h (m (8 + k)) (.inr (5, gV (setG S.2.2.1 k 3 1) k)) := by
        unfold gV
        simp [setG]
      rw [e4]
      have M1 := M.gho1 (G' := setG S.2.2.1 k 3 1) hk (fun j hj => gV_set hj) (sumT_set (by decide) _)
      have Fs : sFr m (8 + S.2.2.2.1) h (gU h (m (8 + k)) (.inr (5, gV (setG S.2.2.1 k 3 1) k))) := sFr.U (by omega)
      generalize gU h (m (8 + k)) (.inr (5, gV (setG S.2.2.1 k 3 1) k)) = h3 at M1 Fs ⊢
      have C3 := C.sim D Fs
      have Ca := C3.1
      have C0 := M1.c0
      obtain ⟨fg, g1, g2⟩ := M1.c5
      have GO' : GOK (setG S.2.2.1 k 3 1) := I'.1.1.2
      refine s_iconst hK (v := 0) dL_act_716 (by decide) ?_
      refine s_istore hK dL_act_717 rfl ?_
      refine s_aload_n hK dL_act_719 rfl ?_
      refine s_getfield hK dL_act_720 kF_L_15 (by assumption) (by rfl) ?_
      refine s_astore hK dL_act_723 rfl ?_
      refine s_aload hK dL_act_725 rfl ?_
      refine s_alen hK dL_act_727 g1 rfl rfl ?_
      refine s_istore hK dL_act_728 rfl ?_
      refine s_iconst hK (v := 0) dL_act_730 (by decide) ?_
      refine s_istore hK dL_act_731 rfl ?_
      have loop : ∀ j kk, kk + j = S.2.2.2.1 → ∀ l14, K 733 [some (.ref a), some (.ref (m 0)), some (.int z), some (.int (nI (c % 9))), some (.int (nI (c / 9))), some (.int (nI S.2.2.2.1)), some (.int (nI (thg S.1 c))), none, none, some (.ref (m (8 + k))), some (.int (nI (sumT (setG S.2.2.1 k 3 1) 5 kk))), some (.ref (m 5)), some (.int (nI S.2.2.2.1)), some (.int (nI kk)), l14] [] h3 bc bs := by
        intro j
        induction j with
        | zero =>
          intro kk hkk l14
          obtain rfl : kk = S.2.2.2.1 := by omega
          refine s_iload hK dL_act_733 rfl ?_
          refine s_iload hK dL_act_735 rfl ?_
          refine s_icmpge hK dL_act_737 771 (by decide) (fun c_737 => ?_) (fun c_737 => ?_)
          · refine s_aload_n hK dL_act_771 rfl ?_
            refine s_iload_n hK dL_act_772 rfl ?_
            refine s_iload hK dL_act_773 rfl ?_
            refine s_S20 hK dL_act_775 kS_L_9 (by rfl) ?_
            refine c_belN _ g0 (by omega) ?_
            rw [← ek]
            refine s_V1 hK (mc := 4) (ms := 24) dL_act_778 kV_L_103 (by assumption) (by rfl) (by omega) (by omega) ?_
            refine c_rite _ C3 ok (by omega) (by omega) (gDone_of (fRite_n hk g6 hm) (fun h4 C4 F4 => ?_))
            have M5 := M1.cls D F4
            refine s_iload hK dL_act_781 rfl ?_
            refine s_icmpne hK dL_act_783 790 (by decide) (fun c_783 => ?_) (fun c_783 => ?_)
            · exact absurd rfl c_783
            · refine s_iconst hK (v := 1) dL_act_786 (by decide) ?_
              refine s_goto hK dL_act_787 791 (by decide) ?_
              refine s_ireturn hK dL_act_791 rfl (by first | rfl | exact b01_nar _) ?_
              exact P.fin D (by rfl) I' C4 M5 (fun p p1 p2 p3 => (F4 p p2.out).trans (Fs p p3 p1))
          · exact absurd (Int32.le_refl _) c_737
        | succ j ih =>
          intro kk hkk l14
          have hkg : kk < S.2.2.2.1 := by omega
          obtain ⟨-, -, -, gk3⟩ := GO' kk (by omega)
          have Gk := M1.c8 (k := kk) hkg
          have ih := ih (kk + 1) (by omega)
          have es : sumT (setG S.2.2.1 k 3 1) 5 (kk + 1) = sumT (setG S.2.2.1 k 3 1) 5 kk + setG S.2.2.1 k 3 1 kk 3 := rfl
          rw [es] at ih
          have at762 : ∀ v, v = nI (setG S.2.2.1 k 3 1 kk 3) → K 762 [some (.ref a), some (.ref (m 0)), some (.int z), some (.int (nI (c % 9))), some (.int (nI (c / 9))), some (.int (nI S.2.2.2.1)), some (.int (nI (thg S.1 c))), none, none, some (.ref (m (8 + k))), some (.int (nI (sumT (setG S.2.2.1 k 3 1) 5 kk))), some (.ref (m 5)), some (.int (nI S.2.2.2.1)), some (.int (nI kk)), some (.ref (m (8 + kk)))] [.int v, .int (nI (sumT (setG S.2.2.1 k 3 1) 5 kk))] h3 bc bs := by
            intro v hv
            rw [hv]
            refine s_iadd hK dL_act_762 ?_
            rw [nI_add]
            refine s_istore hK dL_act_763 rfl ?_
            refine s_iinck hK (v := 1) dL_act_765 rfl (by decide) rfl ?_
            refine s_goto hK dL_act_768 733 (by decide) ?_
            rw [nI_1]
            exact ih _
          refine s_iload hK dL_act_733 rfl ?_
          refine s_iload hK dL_act_735 rfl ?_
          refine s_icmpge hK dL_act_737 771 (by decide) (fun c_737 => ?_) (fun c_737 => ?_)
          · exact absurd c_737 (nI_ge (by omega) (by omega))
          · refine s_aload hK dL_act_740 rfl ?_
            refine s_iload hK dL_act_742 rfl ?_
            refine s_aaload hK dL_act_744 g1 rfl hkg (by show S.2.2.2.1 < _; omega) (g2 kk hkg) ?_
            refine s_astore hK dL_act_745 rfl ?_
            refine s_iload hK dL_act_747 rfl ?_
            refine s_aload hK dL_act_749 rfl ?_
            refine s_getfield hK dL_act_751 kF_L_99 (by assumption) (by rfl) ?_
            refine s_ifeq hK dL_act_754 761 (by decide) (fun c_754 => ?_) (fun c_754 => ?_)
            · refine s_iconst hK (v := 0) dL_act_761 (by decide) ?_
              exact at762 _ c_754.symm
            · refine s_iconst hK (v := 1) dL_act_757 (by decide) ?_
              refine s_goto hK dL_act_758 762 (by decide) ?_
              refine at762 _ ?_
              have : setG S.2.2.1 k 3 1 kk 3 ≠ 0 := fun e => c_754 (by show nI (setG S.2.2.1 k 3 1 kk 3) = 0; rw [e]; rfl)
              rw [show setG S.2.2.1 k 3 1 kk 3 = 1 by omega]
              rfl
      exact loop S.2.2.2.1 0 (by omega) none
    · refine s_iconst hK (v := 1) dL_act_708 (by decide) ?_
      refine s_ireturn hK dL_act_709 rfl (by first | rfl | exact b01_nar _) ?_
      exact P.same I C M D
  · refine s_iconst hK (v := 1) dL_act_685 (by decide) ?_
    refine s_ireturn hK dL_act_686 rfl (by first | rfl | exact b01_nar _) ?_
    exact P.same I C M D
set_option maxRecDepth 10000 in
theorem a_send (d : Nat) {a : Nat} {n n' m : Nat → Nat} {S : CS} {i c : Nat} {z : Int32} {Post : Option Value → gH → Prop} {X : String → gH → Prop} {K : gK} (hK : gClosed (gSafe (d + 7)) mL_act (d + 7 + 1) Post X (fun _ => none) K) (I : InvC S i) (hc : c < 63) {h : gH} (C : ClsAt h a n n' S) (M : SimAt h m S) (D : Dj a n n' m (8 + S.2.2.2.1)) (P : ActP Post h a n n' m S i) {bc bs : Nat} (hbc : 60 ≤ bc) (hbs : 400 ≤ bs) : K 792 [some (.ref a), some (.ref (m 0)), some (.int z), some (.int (nI (c % 9))), some (.int (nI (c / 9))), some (.int (nI S.2.2.2.1)), some (.int (nI (thg S.1 c))), none, none, none, none, none, none, none, none] [] h bc bs := by
  have V := I.1
  have ok := V.1
  have T := V.2.2.1
  have hx : c % 9 < 9 := Nat.mod_lt _ (by omega)
  have hy : c / 9 < 7 := by omega
  have ec : 9 * (c / 9) + c % 9 = c := by omega
  have t5 := thg_lt S.1 c
  have C0 := M.c0
  refine s_iload hK dL_act_792 rfl ?_
  refine s_ifne hK dL_act_794 799 (by decide) (fun c_794 => ?_) (fun c_794 => ?_)
  · have g0 : 0 < S.2.2.2.1 := Nat.pos_of_ne_zero (fun e => c_794 (by rw [e]; rfl))
    have g6 := ok.1
    obtain ⟨fg, g1, g2⟩ := M.c5
    refine s_aload_n hK dL_act_799 rfl ?_
    refine s_getfield hK dL_act_800 kF_L_15 (by assumption) (by rfl) ?_
    refine s_iload_n hK dL_act_803 rfl ?_
    refine s_iconst hK (v := 1) dL_act_804 (by decide) ?_
    refine s_ishr hK dL_act_805 ?_
    refine s_iload hK dL_act_806 rfl ?_
    refine s_S20 hK dL_act_808 kS_L_9 (by rfl) ?_
    refine c_belN _ g0 (by omega) ?_
    have hk := belN_lt (z >>> (1 &&& 31)) g0
    obtain ⟨k, ek⟩ : ∃ k, k = belN (z >>> (1 &&& 31)) S.2.2.2.1 := ⟨_, rfl⟩
    rw [← ek] at hk ⊢
    have Gk := M.c8 hk
    refine s_aaload hK dL_act_811 g1 rfl hk (by show S.2.2.2.1 < _; omega) (g2 k hk) ?_
    refine s_astore hK dL_act_812 rfl ?_
    refine s_iconst hK (v := 0) dL_act_814 (by decide) ?_
    refine s_istore hK dL_act_815 rfl ?_
    obtain ⟨go0, go1, go2, go3⟩ := ok.2 k (by omega)
    have fin : ∀ e, e < 63 → ∀ l12 l13, K 895 [some (.ref a), some (.ref (m 0)), some (.int z), some (.int (nI (e % 9))), some (.int (nI (e / 9))), some (.int (nI S.2.2.2.1)), some (.int (nI (thg S.1 c))), none, none, none, none, some (.ref (m (8 + k))), l12, l13, none] [] h bc bs := by
      intro e he l12 l13
      have hex : e % 9 < 9 := Nat.mod_lt _ (by omega)
      obtain ⟨e1, ee1⟩ : ∃ e1, e1 = 9 * (S.2.2.1 k 2 / 9) + e % 9 := ⟨_, rfl⟩
      have I' := iSend (g := nI k) (x := nI (e % 9)) (y := nI (e / 9)) I
      rw [fSend_n he hk g6] at I'
      refine s_aload hK dL_act_895 rfl ?_
      refine s_iload_n hK dL_act_897 rfl ?_
      refine s_putfield hK dL_act_898 kF_L_87 Gk rfl rfl rfl ?_
      have e4 : gU h (m (8 + k)) (.inr (5, (gV S.2.2.1 k).set 3 (.int (nI (e % 9))))) = gU h (m (8 + k)) (.inr (5, gV (setG S.2.2.1 k 2 e1) k)) := by
        have q1 : e1 % 9 = e % 9 := by omega
        have q2 : e1 / 9 = S.2.2.1 k 2 / 9 := by omega
        unfold gV
        simp [setG, q1, q2]
      rw [e4]
      have M1 := M.gho1 (G' := setG S.2.2.1 k 2 e1) hk (fun j hj => gV_set hj) (sumT_set (by decide) _)
      have Fs1 : sFr m (8 + S.2.2.2.1) h (gU h (m (8 + k)) (.inr (5, gV (setG S.2.2.1 k 2 e1) k))) := sFr.U (by omega)
      generalize gU h (m (8 + k)) (.inr (5, gV (setG S.2.2.1 k 2 e1) k)) = h1 at M1 Fs1 ⊢
      have Gk1 : h1 (m (8 + k)) = some (.inr (5, gV (setG S.2.2.1 k 2 e1) k)) := M1.c8 hk
      refine s_aload hK dL_act_901 rfl ?_
      refine s_iload hK dL_act_903 rfl ?_
      refine s_putfield hK dL_act_905 kF_L_90 Gk1 rfl rfl rfl ?_
      have e5 : gU h1 (m (8 + k)) (.inr (5, (gV (setG S.2.2.1 k 2 e1) k).set 4 (.int (nI (e / 9))))) = gU h1 (m (8 + k)) (.inr (5, gV (setG S.2.2.1 k 2 e) k)) := by
        have q1 : e1 % 9 = e % 9 := by omega
        unfold gV
        simp [setG, q1]
      rw [e5]
      have M2 : SimAt (gU h1 (m (8 + k)) (.inr (5, gV (setG S.2.2.1 k 2 e) k))) m (S.1, S.2.1, setG S.2.2.1 k 2 e, S.2.2.2) := M1.gho1 (G' := setG S.2.2.1 k 2 e) hk (fun j hj => (gV_set hj).trans (gV_set hj).symm) ((sumT_set (by decide) _).trans (sumT_set (by decide) _).symm)
      have Fs2 : sFr m (8 + S.2.2.2.1) h (gU h1 (m (8 + k)) (.inr (5, gV (setG S.2.2.1 k 2 e) k))) := Fs1.tr (sFr.U (by omega))
      generalize gU h1 (m (8 + k)) (.inr (5, gV (setG S.2.2.1 k 2 e) k)) = h2 at M2 Fs2 ⊢
      have M0 := M2.c0
      refine s_aload_n hK dL_act_908 rfl ?_
      refine s_aload_n hK dL_act_909 rfl ?_
      refine s_V0 hK (mc := 10) (ms := 72) dL_act_910 kV_L_106 (by assumption) (by rfl) (by omega) (by omega) ?_
      refine c_litS _ M2 V.2.1 (T_D T) (by omega) (by omega) (fun q h3 Z3 Q3 F3 => ?_)
      have M3 := M2.nw F3
      have O3 := oB_out M2 Q3
      have M0 := M3.c0
      have Gk3 := M3.c8 hk
      have Gk3 : h3 (m (8 + k)) = some (.inr (5, [.int (nI (S.2.2.1 k 0 % 9)), .int (nI (S.2.2.1 k 0 / 9)), .int (nI (S.2.2.1 k 1)), .int (nI (e % 9)), .int (nI (e / 9)), .int (b01 (mpG S.2.2.1 k)), .int (nI (S.2.2.1 k 4)), .int (nI (S.2.2.1 k 5))])) := by
        rw [Gk3, ← mp_I go3]
        show some (Sum.inr (5, gV (setG S.2.2.1 k 2 e) k)) = _
        unfold gV
        simp [setG]
      refine s_aload hK dL_act_913 rfl ?_
      refine s_getfield hK dL_act_915 kF_L_80 (by assumption) (by rfl) ?_
      refine s_aload hK dL_act_918 rfl ?_
      refine s_getfield hK dL_act_920 kF_L_84 (by assumption) (by rfl) ?_
      refine s_aload hK dL_act_923 rfl ?_
      refine s_getfield hK dL_act_925 kF_L_99 (by assumption) (by rfl) ?_
      refine s_iload_n hK dL_act_928 rfl ?_
      refine s_iload hK dL_act_929 rfl ?_
      refine s_V60 hK dL_act_931 kV_L_110 (by assumption) (by rfl) ?_
      refine c_way7 _ go0 he M3 Z3 O3 (fun v h4 Dv M4 F4 => ?_)
      have Fs4 : sFr m (8 + S.2.2.2.1) h h4 := Fs2.tr ((sFr.nw F3).tr (sFr.n67 (by omega) F4))
      have C4 := C.sim D Fs4
      have Ca := C4.1
      refine s_istore hK dL_act_934 rfl ?_
      refine s_aload_n hK dL_act_936 rfl ?_
      refine s_iload_n hK dL_act_937 rfl ?_
      refine s_iconst hK (v := 1) dL_act_938 (by decide) ?_
      refine s_ishr hK dL_act_939 ?_
      refine s_iload hK dL_act_940 rfl ?_
      refine s_S20 hK dL_act_942 kS_L_9 (by rfl) ?_
      refine c_belN _ g0 (by omega) ?_
      rw [← ek]
      refine s_iload_n hK dL_act_945 rfl ?_
      refine s_iload hK dL_act_946 rfl ?_
      refine s_V3 hK (mc := 4) (ms := 24) dL_act_948 kV_L_114 (by assumption) (by rfl) (by omega) (by omega) ?_
      refine c_send _ C4 ok (by omega) (by omega) (gDone_of (fSend_n he hk g6) (fun h5 C5 F5 => ?_))
      have M5 := M4.cls D F5
      have ev : v = stpF S.1 (S.2.2.1 k 0) e (mpG S.2.2.1 k) := by
        refine Dv.uniq ?_
        have := stpF_D (mp := mpG S.2.2.1 k) V.2.1 go0 he
        rw [V.2.2.2] at this
        exact this
      rw [← ev]
      have done : K 965 [some (.ref a), some (.ref (m 0)), some (.int z), some (.int (nI (e % 9))), some (.int (nI (e / 9))), some (.int (nI S.2.2.2.1)), some (.int (nI (thg S.1 c))), none, none, none, none, some (.ref (m (8 + k))), some (.int (wI v)), l13, none] [.int v, .int v] h5 (bc - 10 - 4) (bs - 72 - 24) := by
        refine s_icmpne hK dL_act_965 972 (by decide) (fun c_965 => ?_) (fun c_965 => ?_)
        · exact absurd rfl c_965
        · refine s_iconst hK (v := 1) dL_act_968 (by decide) ?_
          refine s_goto hK dL_act_969 973 (by decide) ?_
          refine s_ireturn hK dL_act_973 rfl (by first | rfl | exact b01_nar _) ?_
          exact P.fin D (by rfl) I' C5 M5 (fun p p1 p2 p3 => (F5 p p2.out).trans (Fs4 p p3 p1))
      refine s_iload hK dL_act_951 rfl ?_
      refine s_sipush hK (v := 1000) dL_act_953 (by decide) ?_
      rcases Dv with ⟨u, hu, eu, -⟩ | ⟨eu, -⟩
      · have ew : wI v = nI u := by rw [eu]; exact wI_n (by omega)
        refine s_icmpne hK dL_act_956 963 (by decide) (fun c_956 => ?_) (fun c_956 => ?_)
        · refine s_iload hK dL_act_963 rfl ?_
          rw [ew, ← eu] at done ⊢
          exact done
        · rw [ew] at c_956
          have := (nI_eq (b := 1000) (by omega) (by omega)).mp c_956
          omega
      · have ew : wI v = 1000 := by rw [eu]; rfl
        refine s_icmpne hK dL_act_956 963 (by decide) (fun c_956 => ?_) (fun c_956 => ?_)
        · exact absurd ew c_956
        · refine s_iconst hK (v := (-1)) dL_act_959 (by decide) ?_
          refine s_goto hK dL_act_960 965 (by decide) ?_
          rw [eu] at done ⊢
          exact done
    have loop : ∀ j kk, kk + j = 63 → ∀ l13, K 817 [some (.ref a), some (.ref (m 0)), some (.int z), some (.int (nI (c % 9))), some (.int (nI (c / 9))), some (.int (nI S.2.2.2.1)), some (.int (nI (thg S.1 c))), none, none, none, none, some (.ref (m (8 + k))), some (.int (nI kk)), l13, none] [] h bc bs := by
      intro j
      induction j with
      | zero =>
        intro kk hkk l13
        obtain rfl : kk = 63 := by omega
        refine s_iload hK dL_act_817 rfl ?_
        refine s_bipush hK (v := 63) dL_act_819 (by decide) ?_
        refine s_icmpge hK dL_act_821 895 (by decide) (fun c_821 => ?_) (fun c_821 => ?_)
        · exact fin c hc _ _
        · exact absurd (Int32.le_refl (nI 63)) c_821
      | succ j ih =>
        intro kk hkk l13
        refine s_iload hK dL_act_817 rfl ?_
        refine s_bipush hK (v := 63) dL_act_819 (by decide) ?_
        refine s_icmpge hK dL_act_821 895 (by decide) (fun c_821 => ?_) (fun c_821 => ?_)
        · exact absurd c_821 (nI_ge (b := 63) (by omega) (by omega))
        · refine s_iload_n hK dL_act_824 rfl ?_
          refine s_bipush hK (v := 6) dL_act_825 (by decide) ?_
          refine s_ishr hK dL_act_827 ?_
          refine s_iconst hK (v := nI 3) dL_act_828 (by decide) ?_
          refine s_S20 hK dL_act_829 kS_L_9 (by rfl) ?_
          refine c_belN _ (by omega) (by omega) ?_
          generalize belN (z >>> (6 &&& 31)) 3 = b3
          refine s_ifle hK dL_act_832 895 (by decide) (fun c_832 => ?_) (fun c_832 => ?_)
          · exact fin c hc _ _
          · refine s_bipush hK (v := 9) dL_act_835 (by decide) ?_
            refine s_iload hK dL_act_837 rfl ?_
            refine s_imul hK dL_act_839 ?_
            refine s_iload_n hK dL_act_840 rfl ?_
            refine s_iadd hK dL_act_841 ?_
            rw [nI_9]
            refine s_iload hK dL_act_842 rfl ?_
            refine s_iadd hK dL_act_844 ?_
            rw [nI_add]
            refine s_bipush hK (v := nI 63) dL_act_845 (by decide) ?_
            refine s_irem hK dL_act_847 (by decide) ?_
            rw [nI_div (by omega) (by omega), nI_mul, nI_sub (Nat.div_mul_le_self _ _), show c + kk - (c + kk) / 63 * 63 = (c + kk) % 63 by omega]
            have he : (c + kk) % 63 < 63 := Nat.mod_lt _ (by omega)
            have Tc := M.c2
            have ih := ih (kk + 1) (by omega)
            obtain ⟨e, ee⟩ : ∃ e, e = (c + kk) % 63 := ⟨_, rfl⟩
            rw [← ee] at he ⊢
            have hex : e % 9 < 9 := Nat.mod_lt _ (by omega)
            have hey : e / 9 < 7 := by omega
            have em : nI e - nI e / nI 9 * nI 9 = nI (e % 9) := by
              rw [nI_div (by omega) (by omega), nI_mul, nI_sub (Nat.div_mul_le_self _ _), show e - e / 9 * 9 = e % 9 by omega]
            have ed : nI e / nI 9 = nI (e / 9) := nI_div (by omega) (by omega)
            obtain ⟨ft, t1, t2⟩ := Tc.2 _ hex
            have t3 : ft (e / 9) = nI (thg S.1 (9 * (e / 9) + e % 9)) := t2 _ hey
            have t6 := thg_lt S.1 (9 * (e / 9) + e % 9)
            refine s_istore hK dL_act_848 rfl ?_
            refine s_aload_n hK dL_act_850 rfl ?_
            refine s_getfield hK dL_act_851 kF_L_21 (by assumption) (by rfl) ?_
            refine s_iload hK dL_act_854 rfl ?_
            refine s_bipush hK (v := nI 9) dL_act_856 (by decide) ?_
            refine s_irem hK dL_act_858 (by decide) ?_
            rw [em]
            refine s_aaload hK dL_act_859 Tc.1 rfl hex (by omega) (if_pos hex) ?_
            refine s_iload hK dL_act_860 rfl ?_
            refine s_bipush hK (v := nI 9) dL_act_862 (by decide) ?_
            refine s_idiv hK dL_act_864 (by decide) ?_
            rw [ed]
            refine s_ialoadN hK dL_act_865 t1 hey (by omega) ?_
            rw [t3]
            refine s_iconst hK (v := 4) dL_act_866 (by decide) ?_
            refine s_icmpeq hK dL_act_867 873 (by decide) (fun c_867 => ?_) (fun c_867 => ?_)
            · refine s_iload hK dL_act_873 rfl ?_
              refine s_bipush hK (v := nI 9) dL_act_875 (by decide) ?_
              refine s_irem hK dL_act_877 (by decide) ?_
              rw [em]
              refine s_istore_n hK dL_act_878 rfl ?_
              refine s_iload hK dL_act_879 rfl ?_
              refine s_bipush hK (v := nI 9) dL_act_881 (by decide) ?_
              refine s_idiv hK dL_act_883 (by decide) ?_
              rw [ed]
              refine s_istore hK dL_act_884 rfl ?_
              refine s_goto hK dL_act_886 895 (by decide) ?_
              exact fin e he _ _
            · refine s_goto hK dL_act_870 889 (by decide) ?_
              refine s_iinck hK (v := 1) dL_act_889 rfl (by decide) rfl ?_
              refine s_goto hK dL_act_892 817 (by decide) ?_
              rw [nI_1]
              exact ih _
    exact loop 63 0 (by omega) none
  · refine s_iconst hK (v := 1) dL_act_797 (by decide) ?_
    refine s_ireturn hK dL_act_798 rfl (by first | rfl | exact b01_nar _) ?_
    exact P.same I C M D
