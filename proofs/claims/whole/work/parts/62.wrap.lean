/-! the law's own calls: what each answers, and which throw is caught -/
def OutAt (h : gH) (o : Nat) (f : Nat → Int64) : Prop := h o = some (.inl (2, 1, .inr (.inl f)))
def wRes (cd : String → Int32) (r : gR) (k : Int32) (f : Nat → Int64) : Prop := match r with
  | .inl E => k = cd E
  | .inr v => k = 0 ∧ ∃ w : Int32, v = .int w ∧ f 0 = w.toInt64
def wDone (cd : String → Int32) (Post : Option Value → gH → Prop) (a : Nat) (n n' : Nat → Nat) (o : Nat) (h : gH) (r : gAns) : Prop := ∀ h' k f, ClsAt h' a n n' r.2 → OutAt h' o f → gFr (o :: cS n n') h h' → wRes cd r.1 k f → Post (some (.int k)) h'
theorem NightAt.long {h : gH} {n : Nat → Nat} {L : Nat → Int64} {am : Nat → Int32} {G : Nat → Nat → Nat} {gc hr : Nat} (N : NightAt h n L am G gc hr) {o : Nat} {f : Nat → Int64} (O : OutAt h o f) : ∀ i, i < 7 → o ≠ n i := by
  obtain ⟨h0, ⟨h1, h2, f3, h3, -⟩, ⟨own, mp, pl, ps, h4⟩, ⟨h5, f6, h6, -⟩, -⟩ := N
  have h4 : h (n 4) = _ := h4
  have O : h o = _ := O
  intro i hi z
  match i, hi with
  | 0, _ => rw [z, h0] at O; cases O
  | 1, _ => rw [z, h1] at O; cases O
  | 2, _ => rw [z, h2] at O; cases O
  | 3, _ => rw [z, h3] at O; cases O
  | 4, _ => rw [z, h4] at O; cases O
  | 5, _ => rw [z, h5] at O; cases O
  | 6, _ => rw [z, h6] at O; cases O
theorem ClsAt.long {h : gH} {a : Nat} {n n' : Nat → Nat} {S : CS} (C : ClsAt h a n n' S) {o : Nat} {f : Nat → Int64} (O : OutAt h o f) : o ≠ a ∧ (∀ i, i < 7 → o ≠ n i) ∧ ∀ i, i < 7 → o ≠ n' i := by
  obtain ⟨c1, c2, ⟨S2, c3⟩, c4⟩ := C
  refine ⟨fun z => ?_, c2.long O, c3.long O⟩
  have O : h o = _ := O
  rw [z, c1] at O
  cases O
theorem ClsAt.keep {h h' : gH} {a : Nat} {n n' : Nat → Nat} {S : CS} (C : ClsAt h a n n' S) (ea : h' a = h a) (en : ∀ i, i < 7 → h' (n i) = h (n i)) (en' : ∀ i, i < 7 → h' (n' i) = h (n' i)) : ClsAt h' a n n' S := by
  obtain ⟨c1, c2, ⟨S2, c3⟩, c4⟩ := C
  exact ⟨ea.trans c1, c2.keep en, ⟨S2, c3.keep en'⟩, c4⟩
theorem ClsAt.setO {h : gH} {a : Nat} {n n' : Nat → Nat} {S : CS} (C : ClsAt h a n n' S) {o : Nat} {f : Nat → Int64} (O : OutAt h o f) (x : gO) : ClsAt (gU h o x) a n n' S := by
  obtain ⟨p, q, r⟩ := C.long O
  exact C.keep (gU_ne p.symm) (fun i hi => gU_ne (q i hi).symm) (fun i hi => gU_ne (r i hi).symm)
theorem cS_mem {n n' : Nat → Nat} {q : Nat} (h : q ∈ cS n n') : ∃ i, i < 7 ∧ (q = n i ∨ q = n' i) := by
  rcases List.mem_append.mp h with h | h
  · obtain ⟨i, hi, e⟩ := nS_mem h
    exact ⟨i, hi, Or.inl e⟩
  · obtain ⟨i, hi, e⟩ := nS_mem h
    exact ⟨i, hi, Or.inr e⟩
theorem OutAt.fr {h h' : gH} {a : Nat} {n n' : Nat → Nat} {S : CS} {o : Nat} {f : Nat → Int64} (O : OutAt h o f) (C : ClsAt h a n n' S) (F : gFr (cS n n') h h') : OutAt h' o f := by
  obtain ⟨-, q, r⟩ := C.long O
  refine (F o (fun hm => ?_)).trans O
  obtain ⟨i, hi, e | e⟩ := cS_mem hm
  · exact q i hi e
  · exact r i hi e
theorem gFr.out {h h' : gH} {n n' : Nat → Nat} {o : Nat} (F : gFr (cS n n') h h') : gFr (o :: cS n n') h h' := F.mono (fun _ hq => List.mem_cons_of_mem _ hq)
theorem gFr.outU {h h' : gH} {n n' : Nat → Nat} {o : Nat} (F : gFr (cS n n') h h') (x : gO) : gFr (o :: cS n n') h (gU h' o x) := F.out.tr ((gFr_U _ _ _).mono (fun q hq => by
  rw [List.mem_singleton.mp hq]
  exact List.mem_cons_self))
theorem b01_l (b : Bool) : (b01 b).toInt64 = if b then 1 else 0 := by cases b <;> decide
theorem rWall (S : CS) (x : Int32) (y : Int32) (z : Int32) : (∃ E, (fWall S x y z).1 = .inl E ∧ (E = eI ∨ E = eA ∨ E = eS)) ∨ ∃ b : Bool, (fWall S x y z).1 = vI (b01 b) := by
  unfold fWall
  repeat' split
  all_goals first | exact Or.inl ⟨eI, rfl, Or.inl rfl⟩ | exact Or.inl ⟨eA, rfl, Or.inr (Or.inl rfl)⟩ | exact Or.inl ⟨eS, rfl, Or.inr (Or.inr rfl)⟩ | exact Or.inr ⟨_, rfl⟩
theorem gh_wall_eI : gHd mL_wall 7 eI = some 22 := by decide +kernel
theorem gh_wall_eA : gHd mL_wall 7 eA = some 26 := by decide +kernel
theorem gh_wall_eS : gHd mL_wall 7 eS = some 30 := by decide +kernel
set_option maxRecDepth 10000 in
theorem w_wall (d : Nat) {a o : Nat} {n n' : Nat → Nat} {S : CS} {x : Int32} {y : Int32} {z : Int32} {fo : Nat → Int64} {h : gH} (C : ClsAt h a n n' S) (ok : CSok S) (O : OutAt h o fo) {mc ms : Nat} (hmc : 4 ≤ mc) (hms : 24 ≤ ms) {Post : Option Value → gH → Prop} {X : String → gH → Prop} (hp : wDone cdA Post a n n' o h (fWall S x y z)) : gSafe (d + 9) mL_wall [.ref a, .int x, .int y, .int z, .ref o] h mc ms Post X := by
  have Ca := C.1
  refine ⟨Nat.le_of_ble_eq_true rfl, fun K hK => ?_⟩
  show K 0 [some (.ref a), some (.int x), some (.int y), some (.int z), some (.ref o), none] [] _ _ _
  refine s_aload hK dL_wall_0 rfl ?_
  refine s_iconst hK (v := 0) dL_wall_2 (by decide) ?_
  refine s_aload_n hK dL_wall_3 rfl ?_
  refine s_iload_n hK dL_wall_4 rfl ?_
  refine s_iload_n hK dL_wall_5 rfl ?_
  refine s_iload_n hK dL_wall_6 rfl ?_
  refine s_V3 hK (mc := 4) (ms := 24) dL_wall_7 kV_L_7 (by first | assumption | exact H.1 | exact H.2.1) (by rfl) (by omega) (by omega) ?_
  refine c_wall _ C (by omega) (by omega) (fun h1 C1 F1 => ?_)
  have O1 := O.fr C F1
  rcases rWall S x y z with ⟨E, e, hE⟩ | ⟨w, e⟩
  · rw [e]
    have fin : ∀ k : Int32, k = cdA E → Post (some (.int k)) h1 := fun k ek => hp h1 k fo C1 O1 F1.out (by rw [e]; exact ek)
    rcases hE with rfl | rfl | rfl
    · show gThr mL_wall X K 7 _ eI h1 _ _
      unfold gThr
      rw [gh_wall_eI]
      intro q
      refine s_astore hK dL_wall_22 rfl ?_
      refine s_iconst hK (v := 1) dL_wall_24 (by decide) ?_
      refine s_ireturn hK dL_wall_25 rfl (by first | rfl | exact b01_nar _) ?_
      exact fin 1 (by decide +kernel)
    · show gThr mL_wall X K 7 _ eA h1 _ _
      unfold gThr
      rw [gh_wall_eA]
      intro q
      refine s_astore hK dL_wall_26 rfl ?_
      refine s_iconst hK (v := 2) dL_wall_28 (by decide) ?_
      refine s_ireturn hK dL_wall_29 rfl (by first | rfl | exact b01_nar _) ?_
      exact fin 2 (by decide +kernel)
    · show gThr mL_wall X K 7 _ eS h1 _ _
      unfold gThr
      rw [gh_wall_eS]
      intro q
      refine s_astore hK dL_wall_30 rfl ?_
      refine s_iconst hK (v := 3) dL_wall_32 (by decide) ?_
      refine s_ireturn hK dL_wall_33 rfl (by first | rfl | exact b01_nar _) ?_
      exact fin 3 (by decide +kernel)
  · rw [e]
    show K 10 _ (.int (b01 w) :: _) _ _ _
    cases w with
    | false =>
      refine s_ifeq hK dL_wall_10 17 (by decide) (fun c_10 => ?_) (fun c_10 => ?_)
      · refine s_lconst hK (v := 0) dL_wall_17 (by decide) ?_
        refine s_lastoreN hK (j := 0) dL_wall_18 O1 (by omega) (by omega) ?_
        refine s_goto hK dL_wall_19 34 (by decide) ?_
        refine s_iconst hK (v := 0) dL_wall_34 (by decide) ?_
        refine s_ireturn hK dL_wall_35 rfl (by first | rfl | exact b01_nar _) ?_
        exact hp _ 0 _ (C1.setO O1 _) (gU_eq _ _ _) (F1.outU _) (by rw [e]; exact ⟨rfl, b01 false, rfl, by rw [pk_uLs]; decide⟩)
      · exact absurd rfl c_10
    | true =>
      refine s_ifeq hK dL_wall_10 17 (by decide) (fun c_10 => ?_) (fun c_10 => ?_)
      · exact absurd c_10 (by decide)
      · refine s_lconst hK (v := 1) dL_wall_13 (by decide) ?_
        refine s_goto hK dL_wall_14 18 (by decide) ?_
        refine s_lastoreN hK (j := 0) dL_wall_18 O1 (by omega) (by omega) ?_
        refine s_goto hK dL_wall_19 34 (by decide) ?_
        refine s_iconst hK (v := 0) dL_wall_34 (by decide) ?_
        refine s_ireturn hK dL_wall_35 rfl (by first | rfl | exact b01_nar _) ?_
        exact hp _ 0 _ (C1.setO O1 _) (gU_eq _ _ _) (F1.outU _) (by rw [e]; exact ⟨rfl, b01 true, rfl, by rw [pk_uLs]; decide⟩)
theorem rCandle (S : CS) (x : Int32) (y : Int32) (z : Int32) : (∃ E, (fCandle S x y z).1 = .inl E ∧ (E = eI ∨ E = eA ∨ E = eS)) ∨ ∃ w : Int32, (fCandle S x y z).1 = vI w := by
  unfold fCandle
  repeat' split
  all_goals first | exact Or.inl ⟨eI, rfl, Or.inl rfl⟩ | exact Or.inl ⟨eA, rfl, Or.inr (Or.inl rfl)⟩ | exact Or.inl ⟨eS, rfl, Or.inr (Or.inr rfl)⟩ | exact Or.inr ⟨_, rfl⟩
theorem gh_candle_eI : gHd mL_candle 7 eI = some 15 := by decide +kernel
theorem gh_candle_eA : gHd mL_candle 7 eA = some 19 := by decide +kernel
theorem gh_candle_eS : gHd mL_candle 7 eS = some 23 := by decide +kernel
set_option maxRecDepth 10000 in
theorem w_candle (d : Nat) {a o : Nat} {n n' : Nat → Nat} {S : CS} {x : Int32} {y : Int32} {z : Int32} {fo : Nat → Int64} {h : gH} (C : ClsAt h a n n' S) (ok : CSok S) (O : OutAt h o fo) {mc ms : Nat} (hmc : 4 ≤ mc) (hms : 24 ≤ ms) {Post : Option Value → gH → Prop} {X : String → gH → Prop} (hp : wDone cdA Post a n n' o h (fCandle S x y z)) : gSafe (d + 9) mL_candle [.ref a, .int x, .int y, .int z, .ref o] h mc ms Post X := by
  have Ca := C.1
  refine ⟨Nat.le_of_ble_eq_true rfl, fun K hK => ?_⟩
  show K 0 [some (.ref a), some (.int x), some (.int y), some (.int z), some (.ref o), none] [] _ _ _
  refine s_aload hK dL_candle_0 rfl ?_
  refine s_iconst hK (v := 0) dL_candle_2 (by decide) ?_
  refine s_aload_n hK dL_candle_3 rfl ?_
  refine s_iload_n hK dL_candle_4 rfl ?_
  refine s_iload_n hK dL_candle_5 rfl ?_
  refine s_iload_n hK dL_candle_6 rfl ?_
  refine s_V3 hK (mc := 4) (ms := 24) dL_candle_7 kV_L_19 (by first | assumption | exact H.1 | exact H.2.1) (by rfl) (by omega) (by omega) ?_
  refine c_candle _ C (by omega) (by omega) (fun h1 C1 F1 => ?_)
  have O1 := O.fr C F1
  rcases rCandle S x y z with ⟨E, e, hE⟩ | ⟨w, e⟩
  · rw [e]
    have fin : ∀ k : Int32, k = cdA E → Post (some (.int k)) h1 := fun k ek => hp h1 k fo C1 O1 F1.out (by rw [e]; exact ek)
    rcases hE with rfl | rfl | rfl
    · show gThr mL_candle X K 7 _ eI h1 _ _
      unfold gThr
      rw [gh_candle_eI]
      intro q
      refine s_astore hK dL_candle_15 rfl ?_
      refine s_iconst hK (v := 1) dL_candle_17 (by decide) ?_
      refine s_ireturn hK dL_candle_18 rfl (by first | rfl | exact b01_nar _) ?_
      exact fin 1 (by decide +kernel)
    · show gThr mL_candle X K 7 _ eA h1 _ _
      unfold gThr
      rw [gh_candle_eA]
      intro q
      refine s_astore hK dL_candle_19 rfl ?_
      refine s_iconst hK (v := 2) dL_candle_21 (by decide) ?_
      refine s_ireturn hK dL_candle_22 rfl (by first | rfl | exact b01_nar _) ?_
      exact fin 2 (by decide +kernel)
    · show gThr mL_candle X K 7 _ eS h1 _ _
      unfold gThr
      rw [gh_candle_eS]
      intro q
      refine s_astore hK dL_candle_23 rfl ?_
      refine s_iconst hK (v := 3) dL_candle_25 (by decide) ?_
      refine s_ireturn hK dL_candle_26 rfl (by first | rfl | exact b01_nar _) ?_
      exact fin 3 (by decide +kernel)
  · rw [e]
    show K 10 _ (.int w :: _) _ _ _
    refine s_i2l hK dL_candle_10 ?_
    refine s_lastoreN hK (j := 0) dL_candle_11 O1 (by omega) (by omega) ?_
    refine s_goto hK dL_candle_12 27 (by decide) ?_
    refine s_iconst hK (v := 0) dL_candle_27 (by decide) ?_
    refine s_ireturn hK dL_candle_28 rfl (by first | rfl | exact b01_nar _) ?_
    exact hp _ 0 _ (C1.setO O1 _) (gU_eq _ _ _) (F1.outU _) (by rw [e]; exact ⟨rfl, w, rfl, pk_uLs⟩)
theorem rMirror (S : CS) (x : Int32) (y : Int32) (z : Bool) : (∃ E, (fMirror S x y z).1 = .inl E ∧ (E = eI ∨ E = eS)) ∨ ∃ w : Int32, (fMirror S x y z).1 = vI w := by
  unfold fMirror
  repeat' split
  all_goals first | exact Or.inl ⟨eI, rfl, Or.inl rfl⟩ | exact Or.inl ⟨eS, rfl, Or.inr rfl⟩ | exact Or.inr ⟨_, rfl⟩
theorem gh_mirror_eI : gHd mL_mirror 7 eI = some 15 := by decide +kernel
theorem gh_mirror_eS : gHd mL_mirror 7 eS = some 19 := by decide +kernel
set_option maxRecDepth 10000 in
theorem w_mirror (d : Nat) {a o : Nat} {n n' : Nat → Nat} {S : CS} {x : Int32} {y : Int32} {z : Bool} {fo : Nat → Int64} {h : gH} (C : ClsAt h a n n' S) (ok : CSok S) (O : OutAt h o fo) {mc ms : Nat} (hmc : 4 ≤ mc) (hms : 24 ≤ ms) {Post : Option Value → gH → Prop} {X : String → gH → Prop} (hp : wDone cdB Post a n n' o h (fMirror S x y z)) : gSafe (d + 9) mL_mirror [.ref a, .int x, .int y, .int (b01 z), .ref o] h mc ms Post X := by
  have Ca := C.1
  refine ⟨Nat.le_of_ble_eq_true rfl, fun K hK => ?_⟩
  show K 0 [some (.ref a), some (.int x), some (.int y), some (.int (b01 z)), some (.ref o), none] [] _ _ _
  refine s_aload hK dL_mirror_0 rfl ?_
  refine s_iconst hK (v := 0) dL_mirror_2 (by decide) ?_
  refine s_aload_n hK dL_mirror_3 rfl ?_
  refine s_iload_n hK dL_mirror_4 rfl ?_
  refine s_iload_n hK dL_mirror_5 rfl ?_
  refine s_iload_n hK dL_mirror_6 rfl ?_
  refine s_V3 hK (mc := 4) (ms := 24) dL_mirror_7 kV_L_23 (by first | assumption | exact H.1 | exact H.2.1) (by rfl) (by omega) (by omega) ?_
  refine c_mirror _ C (by omega) (by omega) (fun h1 C1 F1 => ?_)
  have O1 := O.fr C F1
  rcases rMirror S x y z with ⟨E, e, hE⟩ | ⟨w, e⟩
  · rw [e]
    have fin : ∀ k : Int32, k = cdB E → Post (some (.int k)) h1 := fun k ek => hp h1 k fo C1 O1 F1.out (by rw [e]; exact ek)
    rcases hE with rfl | rfl
    · show gThr mL_mirror X K 7 _ eI h1 _ _
      unfold gThr
      rw [gh_mirror_eI]
      intro q
      refine s_astore hK dL_mirror_15 rfl ?_
      refine s_iconst hK (v := 1) dL_mirror_17 (by decide) ?_
      refine s_ireturn hK dL_mirror_18 rfl (by first | rfl | exact b01_nar _) ?_
      exact fin 1 (by decide +kernel)
    · show gThr mL_mirror X K 7 _ eS h1 _ _
      unfold gThr
      rw [gh_mirror_eS]
      intro q
      refine s_astore hK dL_mirror_19 rfl ?_
      refine s_iconst hK (v := 2) dL_mirror_21 (by decide) ?_
      refine s_ireturn hK dL_mirror_22 rfl (by first | rfl | exact b01_nar _) ?_
      exact fin 2 (by decide +kernel)
  · rw [e]
    show K 10 _ (.int w :: _) _ _ _
    refine s_i2l hK dL_mirror_10 ?_
    refine s_lastoreN hK (j := 0) dL_mirror_11 O1 (by omega) (by omega) ?_
    refine s_goto hK dL_mirror_12 23 (by decide) ?_
    refine s_iconst hK (v := 0) dL_mirror_23 (by decide) ?_
    refine s_ireturn hK dL_mirror_24 rfl (by first | rfl | exact b01_nar _) ?_
    exact hp _ 0 _ (C1.setO O1 _) (gU_eq _ _ _) (F1.outU _) (by rw [e]; exact ⟨rfl, w, rfl, pk_uLs⟩)
theorem rTally (S : CS) (x : Int32) (y : Int32) : (∃ E, (fTally S x y).1 = .inl E ∧ (E = eI ∨ E = eS)) ∨ ∃ w : Int32, (fTally S x y).1 = vI w := by
  unfold fTally
  repeat' split
  all_goals first | exact Or.inl ⟨eI, rfl, Or.inl rfl⟩ | exact Or.inl ⟨eS, rfl, Or.inr rfl⟩ | exact Or.inr ⟨_, rfl⟩
theorem gh_tally_eI : gHd mL_tally 5 eI = some 13 := by decide +kernel
theorem gh_tally_eS : gHd mL_tally 5 eS = some 17 := by decide +kernel
set_option maxRecDepth 10000 in
theorem w_tally (d : Nat) {a o : Nat} {n n' : Nat → Nat} {S : CS} {x : Int32} {y : Int32} {fo : Nat → Int64} {h : gH} (C : ClsAt h a n n' S) (ok : CSok S) (O : OutAt h o fo) {mc ms : Nat} (hmc : 4 ≤ mc) (hms : 24 ≤ ms) {Post : Option Value → gH → Prop} {X : String → gH → Prop} (hp : wDone cdB Post a n n' o h (fTally S x y)) : gSafe (d + 9) mL_tally [.ref a, .int x, .int y, .ref o] h mc ms Post X := by
  have Ca := C.1
  refine ⟨Nat.le_of_ble_eq_true rfl, fun K hK => ?_⟩
  show K 0 [some (.ref a), some (.int x), some (.int y), some (.ref o), none] [] _ _ _
  refine s_aload_n hK dL_tally_0 rfl ?_
  refine s_iconst hK (v := 0) dL_tally_1 (by decide) ?_
  refine s_aload_n hK dL_tally_2 rfl ?_
  refine s_iload_n hK dL_tally_3 rfl ?_
  refine s_iload_n hK dL_tally_4 rfl ?_
  refine s_V2 hK (mc := 4) (ms := 24) dL_tally_5 kV_L_27 (by first | assumption | exact H.1 | exact H.2.1) (by rfl) (by omega) (by omega) ?_
  refine c_tally _ C (by omega) (by omega) (fun h1 C1 F1 => ?_)
  have O1 := O.fr C F1
  rcases rTally S x y with ⟨E, e, hE⟩ | ⟨w, e⟩
  · rw [e]
    have fin : ∀ k : Int32, k = cdB E → Post (some (.int k)) h1 := fun k ek => hp h1 k fo C1 O1 F1.out (by rw [e]; exact ek)
    rcases hE with rfl | rfl
    · show gThr mL_tally X K 5 _ eI h1 _ _
      unfold gThr
      rw [gh_tally_eI]
      intro q
      refine s_astore hK dL_tally_13 rfl ?_
      refine s_iconst hK (v := 1) dL_tally_15 (by decide) ?_
      refine s_ireturn hK dL_tally_16 rfl (by first | rfl | exact b01_nar _) ?_
      exact fin 1 (by decide +kernel)
    · show gThr mL_tally X K 5 _ eS h1 _ _
      unfold gThr
      rw [gh_tally_eS]
      intro q
      refine s_astore hK dL_tally_17 rfl ?_
      refine s_iconst hK (v := 2) dL_tally_19 (by decide) ?_
      refine s_ireturn hK dL_tally_20 rfl (by first | rfl | exact b01_nar _) ?_
      exact fin 2 (by decide +kernel)
  · rw [e]
    show K 8 _ (.int w :: _) _ _ _
    refine s_i2l hK dL_tally_8 ?_
    refine s_lastoreN hK (j := 0) dL_tally_9 O1 (by omega) (by omega) ?_
    refine s_goto hK dL_tally_10 21 (by decide) ?_
    refine s_iconst hK (v := 0) dL_tally_21 (by decide) ?_
    refine s_ireturn hK dL_tally_22 rfl (by first | rfl | exact b01_nar _) ?_
    exact hp _ 0 _ (C1.setO O1 _) (gU_eq _ _ _) (F1.outU _) (by rw [e]; exact ⟨rfl, w, rfl, pk_uLs⟩)
theorem rRemove (S : CS) (x : Int32) (y : Int32) : (∃ E, (fRemove S x y).1 = .inl E ∧ (E = eI ∨ E = eS)) ∨ ∃ w : Int32, (fRemove S x y).1 = vI w := by
  unfold fRemove
  repeat' split
  all_goals first | exact Or.inl ⟨eI, rfl, Or.inl rfl⟩ | exact Or.inl ⟨eS, rfl, Or.inr rfl⟩ | exact Or.inr ⟨_, rfl⟩
theorem gh_remove_eI : gHd mL_remove 5 eI = some 13 := by decide +kernel
theorem gh_remove_eS : gHd mL_remove 5 eS = some 17 := by decide +kernel
set_option maxRecDepth 10000 in
theorem w_remove (d : Nat) {a o : Nat} {n n' : Nat → Nat} {S : CS} {x : Int32} {y : Int32} {fo : Nat → Int64} {h : gH} (C : ClsAt h a n n' S) (ok : CSok S) (O : OutAt h o fo) {mc ms : Nat} (hmc : 4 ≤ mc) (hms : 24 ≤ ms) {Post : Option Value → gH → Prop} {X : String → gH → Prop} (hp : wDone cdB Post a n n' o h (fRemove S x y)) : gSafe (d + 9) mL_remove [.ref a, .int x, .int y, .ref o] h mc ms Post X := by
  have Ca := C.1
  refine ⟨Nat.le_of_ble_eq_true rfl, fun K hK => ?_⟩
  show K 0 [some (.ref a), some (.int x), some (.int y), some (.ref o), none] [] _ _ _
  refine s_aload_n hK dL_remove_0 rfl ?_
  refine s_iconst hK (v := 0) dL_remove_1 (by decide) ?_
  refine s_aload_n hK dL_remove_2 rfl ?_
  refine s_iload_n hK dL_remove_3 rfl ?_
  refine s_iload_n hK dL_remove_4 rfl ?_
  refine s_V2 hK (mc := 4) (ms := 24) dL_remove_5 kV_L_31 (by first | assumption | exact H.1 | exact H.2.1) (by rfl) (by omega) (by omega) ?_
  refine c_remove _ C (by omega) (by omega) (fun h1 C1 F1 => ?_)
  have O1 := O.fr C F1
  rcases rRemove S x y with ⟨E, e, hE⟩ | ⟨w, e⟩
  · rw [e]
    have fin : ∀ k : Int32, k = cdB E → Post (some (.int k)) h1 := fun k ek => hp h1 k fo C1 O1 F1.out (by rw [e]; exact ek)
    rcases hE with rfl | rfl
    · show gThr mL_remove X K 5 _ eI h1 _ _
      unfold gThr
      rw [gh_remove_eI]
      intro q
      refine s_astore hK dL_remove_13 rfl ?_
      refine s_iconst hK (v := 1) dL_remove_15 (by decide) ?_
      refine s_ireturn hK dL_remove_16 rfl (by first | rfl | exact b01_nar _) ?_
      exact fin 1 (by decide +kernel)
    · show gThr mL_remove X K 5 _ eS h1 _ _
      unfold gThr
      rw [gh_remove_eS]
      intro q
      refine s_astore hK dL_remove_17 rfl ?_
      refine s_iconst hK (v := 2) dL_remove_19 (by decide) ?_
      refine s_ireturn hK dL_remove_20 rfl (by first | rfl | exact b01_nar _) ?_
      exact fin 2 (by decide +kernel)
  · rw [e]
    show K 8 _ (.int w :: _) _ _ _
    refine s_i2l hK dL_remove_8 ?_
    refine s_lastoreN hK (j := 0) dL_remove_9 O1 (by omega) (by omega) ?_
    refine s_goto hK dL_remove_10 21 (by decide) ?_
    refine s_iconst hK (v := 0) dL_remove_21 (by decide) ?_
    refine s_ireturn hK dL_remove_22 rfl (by first | rfl | exact b01_nar _) ?_
    exact hp _ 0 _ (C1.setO O1 _) (gU_eq _ _ _) (F1.outU _) (by rw [e]; exact ⟨rfl, w, rfl, pk_uLs⟩)
theorem rLight (S : CS) (x : Int32) (y : Int32) : (∃ E, (fLight S x y).1 = .inl E ∧ (E = eI ∨ E = eS)) ∨ ∃ b : Bool, (fLight S x y).1 = vI (b01 b) := by
  unfold fLight
  repeat' split
  all_goals first | exact Or.inl ⟨eI, rfl, Or.inl rfl⟩ | exact Or.inl ⟨eS, rfl, Or.inr rfl⟩ | exact Or.inr ⟨_, rfl⟩
theorem gh_light_eI : gHd mL_light 5 eI = some 20 := by decide +kernel
theorem gh_light_eS : gHd mL_light 5 eS = some 24 := by decide +kernel
set_option maxRecDepth 10000 in
theorem w_light (d : Nat) {a o : Nat} {n n' : Nat → Nat} {S : CS} {x : Int32} {y : Int32} {fo : Nat → Int64} {h : gH} (C : ClsAt h a n n' S) (ok : CSok S) (O : OutAt h o fo) {mc ms : Nat} (hmc : 4 ≤ mc) (hms : 24 ≤ ms) {Post : Option Value → gH → Prop} {X : String → gH → Prop} (hp : wDone cdB Post a n n' o h (fLight S x y)) : gSafe (d + 9) mL_light [.ref a, .int x, .int y, .ref o] h mc ms Post X := by
  have Ca := C.1
  refine ⟨Nat.le_of_ble_eq_true rfl, fun K hK => ?_⟩
  show K 0 [some (.ref a), some (.int x), some (.int y), some (.ref o), none] [] _ _ _
  refine s_aload_n hK dL_light_0 rfl ?_
  refine s_iconst hK (v := 0) dL_light_1 (by decide) ?_
  refine s_aload_n hK dL_light_2 rfl ?_
  refine s_iload_n hK dL_light_3 rfl ?_
  refine s_iload_n hK dL_light_4 rfl ?_
  refine s_V2 hK (mc := 4) (ms := 24) dL_light_5 kV_L_34 (by first | assumption | exact H.1 | exact H.2.1) (by rfl) (by omega) (by omega) ?_
  refine c_light _ C (by omega) (by omega) (fun h1 C1 F1 => ?_)
  have O1 := O.fr C F1
  rcases rLight S x y with ⟨E, e, hE⟩ | ⟨w, e⟩
  · rw [e]
    have fin : ∀ k : Int32, k = cdB E → Post (some (.int k)) h1 := fun k ek => hp h1 k fo C1 O1 F1.out (by rw [e]; exact ek)
    rcases hE with rfl | rfl
    · show gThr mL_light X K 5 _ eI h1 _ _
      unfold gThr
      rw [gh_light_eI]
      intro q
      refine s_astore hK dL_light_20 rfl ?_
      refine s_iconst hK (v := 1) dL_light_22 (by decide) ?_
      refine s_ireturn hK dL_light_23 rfl (by first | rfl | exact b01_nar _) ?_
      exact fin 1 (by decide +kernel)
    · show gThr mL_light X K 5 _ eS h1 _ _
      unfold gThr
      rw [gh_light_eS]
      intro q
      refine s_astore hK dL_light_24 rfl ?_
      refine s_iconst hK (v := 2) dL_light_26 (by decide) ?_
      refine s_ireturn hK dL_light_27 rfl (by first | rfl | exact b01_nar _) ?_
      exact fin 2 (by decide +kernel)
  · rw [e]
    show K 8 _ (.int (b01 w) :: _) _ _ _
    cases w with
    | false =>
      refine s_ifeq hK dL_light_8 15 (by decide) (fun c_8 => ?_) (fun c_8 => ?_)
      · refine s_lconst hK (v := 0) dL_light_15 (by decide) ?_
        refine s_lastoreN hK (j := 0) dL_light_16 O1 (by omega) (by omega) ?_
        refine s_goto hK dL_light_17 28 (by decide) ?_
        refine s_iconst hK (v := 0) dL_light_28 (by decide) ?_
        refine s_ireturn hK dL_light_29 rfl (by first | rfl | exact b01_nar _) ?_
        exact hp _ 0 _ (C1.setO O1 _) (gU_eq _ _ _) (F1.outU _) (by rw [e]; exact ⟨rfl, b01 false, rfl, by rw [pk_uLs]; decide⟩)
      · exact absurd rfl c_8
    | true =>
      refine s_ifeq hK dL_light_8 15 (by decide) (fun c_8 => ?_) (fun c_8 => ?_)
      · exact absurd c_8 (by decide)
      · refine s_lconst hK (v := 1) dL_light_11 (by decide) ?_
        refine s_goto hK dL_light_12 16 (by decide) ?_
        refine s_lastoreN hK (j := 0) dL_light_16 O1 (by omega) (by omega) ?_
        refine s_goto hK dL_light_17 28 (by decide) ?_
        refine s_iconst hK (v := 0) dL_light_28 (by decide) ?_
        refine s_ireturn hK dL_light_29 rfl (by first | rfl | exact b01_nar _) ?_
        exact hp _ 0 _ (C1.setO O1 _) (gU_eq _ _ _) (F1.outU _) (by rw [e]; exact ⟨rfl, b01 true, rfl, by rw [pk_uLs]; decide⟩)
theorem rCome (S : CS) (x : Int32) (y : Int32) (z : Int32) : (∃ E, (fCome S x y z).1 = .inl E ∧ (E = eI ∨ E = eA ∨ E = eS)) ∨ ∃ w : Int32, (fCome S x y z).1 = vI w := by
  unfold fCome
  repeat' split
  all_goals first | exact Or.inl ⟨eI, rfl, Or.inl rfl⟩ | exact Or.inl ⟨eA, rfl, Or.inr (Or.inl rfl)⟩ | exact Or.inl ⟨eS, rfl, Or.inr (Or.inr rfl)⟩ | exact Or.inr ⟨_, rfl⟩
theorem gh_come_eI : gHd mL_come 7 eI = some 15 := by decide +kernel
theorem gh_come_eA : gHd mL_come 7 eA = some 19 := by decide +kernel
theorem gh_come_eS : gHd mL_come 7 eS = some 23 := by decide +kernel
set_option maxRecDepth 10000 in
theorem w_come (d : Nat) {a o : Nat} {n n' : Nat → Nat} {S : CS} {x : Int32} {y : Int32} {z : Int32} {fo : Nat → Int64} {h : gH} (C : ClsAt h a n n' S) (ok : CSok S) (O : OutAt h o fo) {mc ms : Nat} (hmc : 4 ≤ mc) (hms : 24 ≤ ms) {Post : Option Value → gH → Prop} {X : String → gH → Prop} (hp : wDone cdA Post a n n' o h (fCome S x y z)) : gSafe (d + 9) mL_come [.ref a, .int x, .int y, .int z, .ref o] h mc ms Post X := by
  have Ca := C.1
  refine ⟨Nat.le_of_ble_eq_true rfl, fun K hK => ?_⟩
  show K 0 [some (.ref a), some (.int x), some (.int y), some (.int z), some (.ref o), none] [] _ _ _
  refine s_aload hK dL_come_0 rfl ?_
  refine s_iconst hK (v := 0) dL_come_2 (by decide) ?_
  refine s_aload_n hK dL_come_3 rfl ?_
  refine s_iload_n hK dL_come_4 rfl ?_
  refine s_iload_n hK dL_come_5 rfl ?_
  refine s_iload_n hK dL_come_6 rfl ?_
  refine s_V3 hK (mc := 4) (ms := 24) dL_come_7 kV_L_38 (by first | assumption | exact H.1 | exact H.2.1) (by rfl) (by omega) (by omega) ?_
  refine c_come _ C ok (by omega) (by omega) (fun h1 C1 F1 => ?_)
  have O1 := O.fr C F1
  rcases rCome S x y z with ⟨E, e, hE⟩ | ⟨w, e⟩
  · rw [e]
    have fin : ∀ k : Int32, k = cdA E → Post (some (.int k)) h1 := fun k ek => hp h1 k fo C1 O1 F1.out (by rw [e]; exact ek)
    rcases hE with rfl | rfl | rfl
    · show gThr mL_come X K 7 _ eI h1 _ _
      unfold gThr
      rw [gh_come_eI]
      intro q
      refine s_astore hK dL_come_15 rfl ?_
      refine s_iconst hK (v := 1) dL_come_17 (by decide) ?_
      refine s_ireturn hK dL_come_18 rfl (by first | rfl | exact b01_nar _) ?_
      exact fin 1 (by decide +kernel)
    · show gThr mL_come X K 7 _ eA h1 _ _
      unfold gThr
      rw [gh_come_eA]
      intro q
      refine s_astore hK dL_come_19 rfl ?_
      refine s_iconst hK (v := 2) dL_come_21 (by decide) ?_
      refine s_ireturn hK dL_come_22 rfl (by first | rfl | exact b01_nar _) ?_
      exact fin 2 (by decide +kernel)
    · show gThr mL_come X K 7 _ eS h1 _ _
      unfold gThr
      rw [gh_come_eS]
      intro q
      refine s_astore hK dL_come_23 rfl ?_
      refine s_iconst hK (v := 3) dL_come_25 (by decide) ?_
      refine s_ireturn hK dL_come_26 rfl (by first | rfl | exact b01_nar _) ?_
      exact fin 3 (by decide +kernel)
  · rw [e]
    show K 10 _ (.int w :: _) _ _ _
    refine s_i2l hK dL_come_10 ?_
    refine s_lastoreN hK (j := 0) dL_come_11 O1 (by omega) (by omega) ?_
    refine s_goto hK dL_come_12 27 (by decide) ?_
    refine s_iconst hK (v := 0) dL_come_27 (by decide) ?_
    refine s_ireturn hK dL_come_28 rfl (by first | rfl | exact b01_nar _) ?_
    exact hp _ 0 _ (C1.setO O1 _) (gU_eq _ _ _) (F1.outU _) (by rw [e]; exact ⟨rfl, w, rfl, pk_uLs⟩)
theorem rSend (S : CS) (x : Int32) (y : Int32) (z : Int32) : (∃ E, (fSend S x y z).1 = .inl E ∧ (E = eI)) ∨ ∃ w : Int32, (fSend S x y z).1 = vI w := by
  unfold fSend
  repeat' split
  all_goals first | exact Or.inl ⟨eI, rfl, rfl⟩ | exact Or.inr ⟨_, rfl⟩
theorem gh_send_eI : gHd mL_send 7 eI = some 15 := by decide +kernel
set_option maxRecDepth 10000 in
theorem w_send (d : Nat) {a o : Nat} {n n' : Nat → Nat} {S : CS} {x : Int32} {y : Int32} {z : Int32} {fo : Nat → Int64} {h : gH} (C : ClsAt h a n n' S) (ok : CSok S) (O : OutAt h o fo) {mc ms : Nat} (hmc : 4 ≤ mc) (hms : 24 ≤ ms) {Post : Option Value → gH → Prop} {X : String → gH → Prop} (hp : wDone cdB Post a n n' o h (fSend S x y z)) : gSafe (d + 9) mL_send [.ref a, .int x, .int y, .int z, .ref o] h mc ms Post X := by
  have Ca := C.1
  refine ⟨Nat.le_of_ble_eq_true rfl, fun K hK => ?_⟩
  show K 0 [some (.ref a), some (.int x), some (.int y), some (.int z), some (.ref o), none] [] _ _ _
  refine s_aload hK dL_send_0 rfl ?_
  refine s_iconst hK (v := 0) dL_send_2 (by decide) ?_
  refine s_aload_n hK dL_send_3 rfl ?_
  refine s_iload_n hK dL_send_4 rfl ?_
  refine s_iload_n hK dL_send_5 rfl ?_
  refine s_iload_n hK dL_send_6 rfl ?_
  refine s_V3 hK (mc := 4) (ms := 24) dL_send_7 kV_L_41 (by first | assumption | exact H.1 | exact H.2.1) (by rfl) (by omega) (by omega) ?_
  refine c_send _ C ok (by omega) (by omega) (fun h1 C1 F1 => ?_)
  have O1 := O.fr C F1
  rcases rSend S x y z with ⟨E, e, hE⟩ | ⟨w, e⟩
  · rw [e]
    have fin : ∀ k : Int32, k = cdB E → Post (some (.int k)) h1 := fun k ek => hp h1 k fo C1 O1 F1.out (by rw [e]; exact ek)
    subst hE
    show gThr mL_send X K 7 _ eI h1 _ _
    unfold gThr
    rw [gh_send_eI]
    intro q
    refine s_astore hK dL_send_15 rfl ?_
    refine s_iconst hK (v := 1) dL_send_17 (by decide) ?_
    refine s_ireturn hK dL_send_18 rfl (by first | rfl | exact b01_nar _) ?_
    exact fin 1 (by decide +kernel)
  · rw [e]
    show K 10 _ (.int w :: _) _ _ _
    refine s_i2l hK dL_send_10 ?_
    refine s_lastoreN hK (j := 0) dL_send_11 O1 (by omega) (by omega) ?_
    refine s_goto hK dL_send_12 19 (by decide) ?_
    refine s_iconst hK (v := 0) dL_send_19 (by decide) ?_
    refine s_ireturn hK dL_send_20 rfl (by first | rfl | exact b01_nar _) ?_
    exact hp _ 0 _ (C1.setO O1 _) (gU_eq _ _ _) (F1.outU _) (by rw [e]; exact ⟨rfl, w, rfl, pk_uLs⟩)
theorem rRite (S : CS) (x : Int32) : (∃ E, (fRite S x).1 = .inl E ∧ (E = eI ∨ E = eS)) ∨ ∃ w : Int32, (fRite S x).1 = vI w := by
  unfold fRite
  repeat' split
  all_goals first | exact Or.inl ⟨eI, rfl, Or.inl rfl⟩ | exact Or.inl ⟨eS, rfl, Or.inr rfl⟩ | exact Or.inr ⟨_, rfl⟩
theorem gh_rite_eI : gHd mL_rite 4 eI = some 12 := by decide +kernel
theorem gh_rite_eS : gHd mL_rite 4 eS = some 15 := by decide +kernel
set_option maxRecDepth 10000 in
theorem w_rite (d : Nat) {a o : Nat} {n n' : Nat → Nat} {S : CS} {x : Int32} {fo : Nat → Int64} {h : gH} (C : ClsAt h a n n' S) (ok : CSok S) (O : OutAt h o fo) {mc ms : Nat} (hmc : 4 ≤ mc) (hms : 24 ≤ ms) {Post : Option Value → gH → Prop} {X : String → gH → Prop} (hp : wDone cdB Post a n n' o h (fRite S x)) : gSafe (d + 9) mL_rite [.ref a, .int x, .ref o] h mc ms Post X := by
  have Ca := C.1
  refine ⟨Nat.le_of_ble_eq_true rfl, fun K hK => ?_⟩
  show K 0 [some (.ref a), some (.int x), some (.ref o), none] [] _ _ _
  refine s_aload_n hK dL_rite_0 rfl ?_
  refine s_iconst hK (v := 0) dL_rite_1 (by decide) ?_
  refine s_aload_n hK dL_rite_2 rfl ?_
  refine s_iload_n hK dL_rite_3 rfl ?_
  refine s_V1 hK (mc := 4) (ms := 24) dL_rite_4 kV_L_44 (by first | assumption | exact H.1 | exact H.2.1) (by rfl) (by omega) (by omega) ?_
  refine c_rite _ C ok (by omega) (by omega) (fun h1 C1 F1 => ?_)
  have O1 := O.fr C F1
  rcases rRite S x with ⟨E, e, hE⟩ | ⟨w, e⟩
  · rw [e]
    have fin : ∀ k : Int32, k = cdB E → Post (some (.int k)) h1 := fun k ek => hp h1 k fo C1 O1 F1.out (by rw [e]; exact ek)
    rcases hE with rfl | rfl
    · show gThr mL_rite X K 4 _ eI h1 _ _
      unfold gThr
      rw [gh_rite_eI]
      intro q
      refine s_astore_n hK dL_rite_12 rfl ?_
      refine s_iconst hK (v := 1) dL_rite_13 (by decide) ?_
      refine s_ireturn hK dL_rite_14 rfl (by first | rfl | exact b01_nar _) ?_
      exact fin 1 (by decide +kernel)
    · show gThr mL_rite X K 4 _ eS h1 _ _
      unfold gThr
      rw [gh_rite_eS]
      intro q
      refine s_astore_n hK dL_rite_15 rfl ?_
      refine s_iconst hK (v := 2) dL_rite_16 (by decide) ?_
      refine s_ireturn hK dL_rite_17 rfl (by first | rfl | exact b01_nar _) ?_
      exact fin 2 (by decide +kernel)
  · rw [e]
    show K 7 _ (.int w :: _) _ _ _
    refine s_i2l hK dL_rite_7 ?_
    refine s_lastoreN hK (j := 0) dL_rite_8 O1 (by omega) (by omega) ?_
    refine s_goto hK dL_rite_9 18 (by decide) ?_
    refine s_iconst hK (v := 0) dL_rite_18 (by decide) ?_
    refine s_ireturn hK dL_rite_19 rfl (by first | rfl | exact b01_nar _) ?_
    exact hp _ 0 _ (C1.setO O1 _) (gU_eq _ _ _) (F1.outU _) (by rw [e]; exact ⟨rfl, w, rfl, pk_uLs⟩)
theorem rCell (S : CS) (x : Int32) (y : Int32) (z : Int32) : (∃ E, (fCell S x y z).1 = .inl E ∧ (E = eI)) ∨ ∃ w : Int32, (fCell S x y z).1 = vI w := by
  unfold fCell
  repeat' split
  all_goals first | exact Or.inl ⟨eI, rfl, rfl⟩ | exact Or.inr ⟨_, rfl⟩
theorem gh_cell_eI : gHd mL_cell 7 eI = some 15 := by decide +kernel
set_option maxRecDepth 10000 in
theorem w_cell (d : Nat) {a o : Nat} {n n' : Nat → Nat} {S : CS} {x : Int32} {y : Int32} {z : Int32} {fo : Nat → Int64} {h : gH} (C : ClsAt h a n n' S) (ok : CSok S) (O : OutAt h o fo) {mc ms : Nat} (hmc : 4 ≤ mc) (hms : 24 ≤ ms) {Post : Option Value → gH → Prop} {X : String → gH → Prop} (hp : wDone cdB Post a n n' o h (fCell S x y z)) : gSafe (d + 9) mL_cell [.ref a, .int x, .int y, .int z, .ref o] h mc ms Post X := by
  have Ca := C.1
  refine ⟨Nat.le_of_ble_eq_true rfl, fun K hK => ?_⟩
  show K 0 [some (.ref a), some (.int x), some (.int y), some (.int z), some (.ref o), none] [] _ _ _
  refine s_aload hK dL_cell_0 rfl ?_
  refine s_iconst hK (v := 0) dL_cell_2 (by decide) ?_
  refine s_aload_n hK dL_cell_3 rfl ?_
  refine s_iload_n hK dL_cell_4 rfl ?_
  refine s_iload_n hK dL_cell_5 rfl ?_
  refine s_iload_n hK dL_cell_6 rfl ?_
  refine s_V3 hK (mc := 4) (ms := 24) dL_cell_7 kV_L_48 (by first | assumption | exact H.1 | exact H.2.1) (by rfl) (by omega) (by omega) ?_
  refine c_cell _ C ok (by omega) (by omega) (fun h1 C1 F1 => ?_)
  have O1 := O.fr C F1
  rcases rCell S x y z with ⟨E, e, hE⟩ | ⟨w, e⟩
  · rw [e]
    have fin : ∀ k : Int32, k = cdB E → Post (some (.int k)) h1 := fun k ek => hp h1 k fo C1 O1 F1.out (by rw [e]; exact ek)
    subst hE
    show gThr mL_cell X K 7 _ eI h1 _ _
    unfold gThr
    rw [gh_cell_eI]
    intro q
    refine s_astore hK dL_cell_15 rfl ?_
    refine s_iconst hK (v := 1) dL_cell_17 (by decide) ?_
    refine s_ireturn hK dL_cell_18 rfl (by first | rfl | exact b01_nar _) ?_
    exact fin 1 (by decide +kernel)
  · rw [e]
    show K 10 _ (.int w :: _) _ _ _
    refine s_i2l hK dL_cell_10 ?_
    refine s_lastoreN hK (j := 0) dL_cell_11 O1 (by omega) (by omega) ?_
    refine s_goto hK dL_cell_12 19 (by decide) ?_
    refine s_iconst hK (v := 0) dL_cell_19 (by decide) ?_
    refine s_ireturn hK dL_cell_20 rfl (by first | rfl | exact b01_nar _) ?_
    exact hp _ 0 _ (C1.setO O1 _) (gU_eq _ _ _) (F1.outU _) (by rw [e]; exact ⟨rfl, w, rfl, pk_uLs⟩)
theorem rWalled (S : CS) (x : Int32) (y : Int32) (z : Int32) : (∃ E, (fWalled S x y z).1 = .inl E ∧ (E = eI ∨ E = eA)) ∨ ∃ b : Bool, (fWalled S x y z).1 = vI (b01 b) := by
  unfold fWalled
  repeat' split
  all_goals first | exact Or.inl ⟨eI, rfl, Or.inl rfl⟩ | exact Or.inl ⟨eA, rfl, Or.inr rfl⟩ | exact Or.inr ⟨_, rfl⟩
theorem gh_walled_eI : gHd mL_walled 7 eI = some 22 := by decide +kernel
theorem gh_walled_eA : gHd mL_walled 7 eA = some 26 := by decide +kernel
set_option maxRecDepth 10000 in
theorem w_walled (d : Nat) {a o : Nat} {n n' : Nat → Nat} {S : CS} {x : Int32} {y : Int32} {z : Int32} {fo : Nat → Int64} {h : gH} (C : ClsAt h a n n' S) (ok : CSok S) (O : OutAt h o fo) {mc ms : Nat} (hmc : 4 ≤ mc) (hms : 24 ≤ ms) {Post : Option Value → gH → Prop} {X : String → gH → Prop} (hp : wDone cdB Post a n n' o h (fWalled S x y z)) : gSafe (d + 9) mL_walled [.ref a, .int x, .int y, .int z, .ref o] h mc ms Post X := by
  have Ca := C.1
  refine ⟨Nat.le_of_ble_eq_true rfl, fun K hK => ?_⟩
  show K 0 [some (.ref a), some (.int x), some (.int y), some (.int z), some (.ref o), none] [] _ _ _
  refine s_aload hK dL_walled_0 rfl ?_
  refine s_iconst hK (v := 0) dL_walled_2 (by decide) ?_
  refine s_aload_n hK dL_walled_3 rfl ?_
  refine s_iload_n hK dL_walled_4 rfl ?_
  refine s_iload_n hK dL_walled_5 rfl ?_
  refine s_iload_n hK dL_walled_6 rfl ?_
  refine s_V3 hK (mc := 4) (ms := 24) dL_walled_7 kV_L_51 (by first | assumption | exact H.1 | exact H.2.1) (by rfl) (by omega) (by omega) ?_
  refine c_walled _ C (by omega) (by omega) (fun h1 C1 F1 => ?_)
  have O1 := O.fr C F1
  rcases rWalled S x y z with ⟨E, e, hE⟩ | ⟨w, e⟩
  · rw [e]
    have fin : ∀ k : Int32, k = cdB E → Post (some (.int k)) h1 := fun k ek => hp h1 k fo C1 O1 F1.out (by rw [e]; exact ek)
    rcases hE with rfl | rfl
    · show gThr mL_walled X K 7 _ eI h1 _ _
      unfold gThr
      rw [gh_walled_eI]
      intro q
      refine s_astore hK dL_walled_22 rfl ?_
      refine s_iconst hK (v := 1) dL_walled_24 (by decide) ?_
      refine s_ireturn hK dL_walled_25 rfl (by first | rfl | exact b01_nar _) ?_
      exact fin 1 (by decide +kernel)
    · show gThr mL_walled X K 7 _ eA h1 _ _
      unfold gThr
      rw [gh_walled_eA]
      intro q
      refine s_astore hK dL_walled_26 rfl ?_
      refine s_iconst hK (v := 2) dL_walled_28 (by decide) ?_
      refine s_ireturn hK dL_walled_29 rfl (by first | rfl | exact b01_nar _) ?_
      exact fin 2 (by decide +kernel)
  · rw [e]
    show K 10 _ (.int (b01 w) :: _) _ _ _
    cases w with
    | false =>
      refine s_ifeq hK dL_walled_10 17 (by decide) (fun c_10 => ?_) (fun c_10 => ?_)
      · refine s_lconst hK (v := 0) dL_walled_17 (by decide) ?_
        refine s_lastoreN hK (j := 0) dL_walled_18 O1 (by omega) (by omega) ?_
        refine s_goto hK dL_walled_19 30 (by decide) ?_
        refine s_iconst hK (v := 0) dL_walled_30 (by decide) ?_
        refine s_ireturn hK dL_walled_31 rfl (by first | rfl | exact b01_nar _) ?_
        exact hp _ 0 _ (C1.setO O1 _) (gU_eq _ _ _) (F1.outU _) (by rw [e]; exact ⟨rfl, b01 false, rfl, by rw [pk_uLs]; decide⟩)
      · exact absurd rfl c_10
    | true =>
      refine s_ifeq hK dL_walled_10 17 (by decide) (fun c_10 => ?_) (fun c_10 => ?_)
      · exact absurd c_10 (by decide)
      · refine s_lconst hK (v := 1) dL_walled_13 (by decide) ?_
        refine s_goto hK dL_walled_14 18 (by decide) ?_
        refine s_lastoreN hK (j := 0) dL_walled_18 O1 (by omega) (by omega) ?_
        refine s_goto hK dL_walled_19 30 (by decide) ?_
        refine s_iconst hK (v := 0) dL_walled_30 (by decide) ?_
        refine s_ireturn hK dL_walled_31 rfl (by first | rfl | exact b01_nar _) ?_
        exact hp _ 0 _ (C1.setO O1 _) (gU_eq _ _ _) (F1.outU _) (by rw [e]; exact ⟨rfl, b01 true, rfl, by rw [pk_uLs]; decide⟩)
theorem rGhost (S : CS) (x : Int32) (y : Int32) : (∃ E, (fGhost S x y).1 = .inl E ∧ (E = eI)) ∨ ∃ w : Int32, (fGhost S x y).1 = vI w := by
  unfold fGhost
  repeat' split
  all_goals first | exact Or.inl ⟨eI, rfl, rfl⟩ | exact Or.inr ⟨_, rfl⟩
theorem gh_ghost_eI : gHd mL_ghost 5 eI = some 13 := by decide +kernel
set_option maxRecDepth 10000 in
theorem w_ghost (d : Nat) {a o : Nat} {n n' : Nat → Nat} {S : CS} {x : Int32} {y : Int32} {fo : Nat → Int64} {h : gH} (C : ClsAt h a n n' S) (ok : CSok S) (O : OutAt h o fo) {mc ms : Nat} (hmc : 4 ≤ mc) (hms : 24 ≤ ms) {Post : Option Value → gH → Prop} {X : String → gH → Prop} (hp : wDone cdB Post a n n' o h (fGhost S x y)) : gSafe (d + 9) mL_ghost [.ref a, .int x, .int y, .ref o] h mc ms Post X := by
  have Ca := C.1
  refine ⟨Nat.le_of_ble_eq_true rfl, fun K hK => ?_⟩
  show K 0 [some (.ref a), some (.int x), some (.int y), some (.ref o), none] [] _ _ _
  refine s_aload_n hK dL_ghost_0 rfl ?_
  refine s_iconst hK (v := 0) dL_ghost_1 (by decide) ?_
  refine s_aload_n hK dL_ghost_2 rfl ?_
  refine s_iload_n hK dL_ghost_3 rfl ?_
  refine s_iload_n hK dL_ghost_4 rfl ?_
  refine s_V2 hK (mc := 4) (ms := 24) dL_ghost_5 kV_L_54 (by first | assumption | exact H.1 | exact H.2.1) (by rfl) (by omega) (by omega) ?_
  refine c_ghost _ C ok (by omega) (by omega) (fun h1 C1 F1 => ?_)
  have O1 := O.fr C F1
  rcases rGhost S x y with ⟨E, e, hE⟩ | ⟨w, e⟩
  · rw [e]
    have fin : ∀ k : Int32, k = cdB E → Post (some (.int k)) h1 := fun k ek => hp h1 k fo C1 O1 F1.out (by rw [e]; exact ek)
    subst hE
    show gThr mL_ghost X K 5 _ eI h1 _ _
    unfold gThr
    rw [gh_ghost_eI]
    intro q
    refine s_astore hK dL_ghost_13 rfl ?_
    refine s_iconst hK (v := 1) dL_ghost_15 (by decide) ?_
    refine s_ireturn hK dL_ghost_16 rfl (by first | rfl | exact b01_nar _) ?_
    exact fin 1 (by decide +kernel)
  · rw [e]
    show K 8 _ (.int w :: _) _ _ _
    refine s_i2l hK dL_ghost_8 ?_
    refine s_lastoreN hK (j := 0) dL_ghost_9 O1 (by omega) (by omega) ?_
    refine s_goto hK dL_ghost_10 17 (by decide) ?_
    refine s_iconst hK (v := 0) dL_ghost_17 (by decide) ?_
    refine s_ireturn hK dL_ghost_18 rfl (by first | rfl | exact b01_nar _) ?_
    exact hp _ 0 _ (C1.setO O1 _) (gU_eq _ _ _) (F1.outU _) (by rw [e]; exact ⟨rfl, w, rfl, pk_uLs⟩)
theorem rCount (S : CS) (x : Int32) : (∃ E, (fCount S x).1 = .inl E ∧ (E = eI)) ∨ ∃ w : Int32, (fCount S x).1 = vI w := by
  unfold fCount
  repeat' split
  all_goals first | exact Or.inl ⟨eI, rfl, rfl⟩ | exact Or.inr ⟨_, rfl⟩
theorem gh_count_eI : gHd mL_count 4 eI = some 12 := by decide +kernel
set_option maxRecDepth 10000 in
theorem w_count (d : Nat) {a o : Nat} {n n' : Nat → Nat} {S : CS} {x : Int32} {fo : Nat → Int64} {h : gH} (C : ClsAt h a n n' S) (ok : CSok S) (O : OutAt h o fo) {mc ms : Nat} (hmc : 4 ≤ mc) (hms : 24 ≤ ms) {Post : Option Value → gH → Prop} {X : String → gH → Prop} (hp : wDone cdB Post a n n' o h (fCount S x)) : gSafe (d + 9) mL_count [.ref a, .int x, .ref o] h mc ms Post X := by
  have Ca := C.1
  refine ⟨Nat.le_of_ble_eq_true rfl, fun K hK => ?_⟩
  show K 0 [some (.ref a), some (.int x), some (.ref o), none] [] _ _ _
  refine s_aload_n hK dL_count_0 rfl ?_
  refine s_iconst hK (v := 0) dL_count_1 (by decide) ?_
  refine s_aload_n hK dL_count_2 rfl ?_
  refine s_iload_n hK dL_count_3 rfl ?_
  refine s_V1 hK (mc := 4) (ms := 24) dL_count_4 kV_L_57 (by first | assumption | exact H.1 | exact H.2.1) (by rfl) (by omega) (by omega) ?_
  refine c_count _ C ok (by omega) (by omega) (fun h1 C1 F1 => ?_)
  have O1 := O.fr C F1
  rcases rCount S x with ⟨E, e, hE⟩ | ⟨w, e⟩
  · rw [e]
    have fin : ∀ k : Int32, k = cdB E → Post (some (.int k)) h1 := fun k ek => hp h1 k fo C1 O1 F1.out (by rw [e]; exact ek)
    subst hE
    show gThr mL_count X K 4 _ eI h1 _ _
    unfold gThr
    rw [gh_count_eI]
    intro q
    refine s_astore_n hK dL_count_12 rfl ?_
    refine s_iconst hK (v := 1) dL_count_13 (by decide) ?_
    refine s_ireturn hK dL_count_14 rfl (by first | rfl | exact b01_nar _) ?_
    exact fin 1 (by decide +kernel)
  · rw [e]
    show K 7 _ (.int w :: _) _ _ _
    refine s_i2l hK dL_count_7 ?_
    refine s_lastoreN hK (j := 0) dL_count_8 O1 (by omega) (by omega) ?_
    refine s_goto hK dL_count_9 15 (by decide) ?_
    refine s_iconst hK (v := 0) dL_count_15 (by decide) ?_
    refine s_ireturn hK dL_count_16 rfl (by first | rfl | exact b01_nar _) ?_
    exact hp _ 0 _ (C1.setO O1 _) (gU_eq _ _ _) (F1.outU _) (by rw [e]; exact ⟨rfl, w, rfl, pk_uLs⟩)
theorem rShines (S : CS) (x : Int32) (y : Int32) : (∃ E, (fShines S x y).1 = .inl E ∧ (E = eI)) ∨ ∃ w : Int32, (fShines S x y).1 = vI w := by
  unfold fShines
  repeat' split
  all_goals first | exact Or.inl ⟨eI, rfl, rfl⟩ | exact Or.inr ⟨_, rfl⟩
theorem gh_shines_eI : gHd mL_shines 5 eI = some 13 := by decide +kernel
set_option maxRecDepth 10000 in
theorem w_shines (d : Nat) {a o : Nat} {n n' : Nat → Nat} {S : CS} {x : Int32} {y : Int32} {fo : Nat → Int64} {h : gH} (C : ClsAt h a n n' S) (ok : CSok S) (O : OutAt h o fo) {mc ms : Nat} (hmc : 4 ≤ mc) (hms : 24 ≤ ms) {Post : Option Value → gH → Prop} {X : String → gH → Prop} (hp : wDone cdB Post a n n' o h (fShines S x y)) : gSafe (d + 9) mL_shines [.ref a, .int x, .int y, .ref o] h mc ms Post X := by
  have Ca := C.1
  refine ⟨Nat.le_of_ble_eq_true rfl, fun K hK => ?_⟩
  show K 0 [some (.ref a), some (.int x), some (.int y), some (.ref o), none] [] _ _ _
  refine s_aload_n hK dL_shines_0 rfl ?_
  refine s_iconst hK (v := 0) dL_shines_1 (by decide) ?_
  refine s_aload_n hK dL_shines_2 rfl ?_
  refine s_iload_n hK dL_shines_3 rfl ?_
  refine s_iload_n hK dL_shines_4 rfl ?_
  refine s_V2 hK (mc := 4) (ms := 24) dL_shines_5 kV_L_60 (by first | assumption | exact H.1 | exact H.2.1) (by rfl) (by omega) (by omega) ?_
  refine c_shines _ C (by omega) (by omega) (fun h1 C1 F1 => ?_)
  have O1 := O.fr C F1
  rcases rShines S x y with ⟨E, e, hE⟩ | ⟨w, e⟩
  · rw [e]
    have fin : ∀ k : Int32, k = cdB E → Post (some (.int k)) h1 := fun k ek => hp h1 k fo C1 O1 F1.out (by rw [e]; exact ek)
    subst hE
    show gThr mL_shines X K 5 _ eI h1 _ _
    unfold gThr
    rw [gh_shines_eI]
    intro q
    refine s_astore hK dL_shines_13 rfl ?_
    refine s_iconst hK (v := 1) dL_shines_15 (by decide) ?_
    refine s_ireturn hK dL_shines_16 rfl (by first | rfl | exact b01_nar _) ?_
    exact fin 1 (by decide +kernel)
  · rw [e]
    show K 8 _ (.int w :: _) _ _ _
    refine s_i2l hK dL_shines_8 ?_
    refine s_lastoreN hK (j := 0) dL_shines_9 O1 (by omega) (by omega) ?_
    refine s_goto hK dL_shines_10 17 (by decide) ?_
    refine s_iconst hK (v := 0) dL_shines_17 (by decide) ?_
    refine s_ireturn hK dL_shines_18 rfl (by first | rfl | exact b01_nar _) ?_
    exact hp _ 0 _ (C1.setO O1 _) (gU_eq _ _ _) (F1.outU _) (by rw [e]; exact ⟨rfl, w, rfl, pk_uLs⟩)
theorem rWay (S : CS) (x : Int32) (y : Int32) (z : Int32) : (∃ E, (fWay S x y z).1 = .inl E ∧ (E = eI)) ∨ ∃ w : Int32, (fWay S x y z).1 = vI w := by
  unfold fWay
  repeat' split
  all_goals first | exact Or.inl ⟨eI, rfl, rfl⟩ | exact Or.inr ⟨_, rfl⟩
theorem gh_way_eI : gHd mL_way 7 eI = some 15 := by decide +kernel
set_option maxRecDepth 10000 in
theorem w_way (d : Nat) {a o : Nat} {n n' : Nat → Nat} {S : CS} {x : Int32} {y : Int32} {z : Int32} {fo : Nat → Int64} {h : gH} (C : ClsAt h a n n' S) (ok : CSok S) (O : OutAt h o fo) {mc ms : Nat} (hmc : 4 ≤ mc) (hms : 24 ≤ ms) {Post : Option Value → gH → Prop} {X : String → gH → Prop} (hp : wDone cdB Post a n n' o h (fWay S x y z)) : gSafe (d + 9) mL_way [.ref a, .int x, .int y, .int z, .ref o] h mc ms Post X := by
  have Ca := C.1
  refine ⟨Nat.le_of_ble_eq_true rfl, fun K hK => ?_⟩
  show K 0 [some (.ref a), some (.int x), some (.int y), some (.int z), some (.ref o), none] [] _ _ _
  refine s_aload hK dL_way_0 rfl ?_
  refine s_iconst hK (v := 0) dL_way_2 (by decide) ?_
  refine s_aload_n hK dL_way_3 rfl ?_
  refine s_iload_n hK dL_way_4 rfl ?_
  refine s_iload_n hK dL_way_5 rfl ?_
  refine s_iload_n hK dL_way_6 rfl ?_
  refine s_V3 hK (mc := 4) (ms := 24) dL_way_7 kV_L_63 (by first | assumption | exact H.1 | exact H.2.1) (by rfl) (by omega) (by omega) ?_
  refine c_way _ C ok (by omega) (by omega) (fun h1 C1 F1 => ?_)
  have O1 := O.fr C F1
  rcases rWay S x y z with ⟨E, e, hE⟩ | ⟨w, e⟩
  · rw [e]
    have fin : ∀ k : Int32, k = cdB E → Post (some (.int k)) h1 := fun k ek => hp h1 k fo C1 O1 F1.out (by rw [e]; exact ek)
    subst hE
    show gThr mL_way X K 7 _ eI h1 _ _
    unfold gThr
    rw [gh_way_eI]
    intro q
    refine s_astore hK dL_way_15 rfl ?_
    refine s_iconst hK (v := 1) dL_way_17 (by decide) ?_
    refine s_ireturn hK dL_way_18 rfl (by first | rfl | exact b01_nar _) ?_
    exact fin 1 (by decide +kernel)
  · rw [e]
    show K 10 _ (.int w :: _) _ _ _
    refine s_i2l hK dL_way_10 ?_
    refine s_lastoreN hK (j := 0) dL_way_11 O1 (by omega) (by omega) ?_
    refine s_goto hK dL_way_12 19 (by decide) ?_
    refine s_iconst hK (v := 0) dL_way_19 (by decide) ?_
    refine s_ireturn hK dL_way_20 rfl (by first | rfl | exact b01_nar _) ?_
    exact hp _ 0 _ (C1.setO O1 _) (gU_eq _ _ _) (F1.outU _) (by rw [e]; exact ⟨rfl, w, rfl, pk_uLs⟩)
theorem rNext (S : CS) (x : Int32) : (∃ E, (fNext S x).1 = .inl E ∧ (E = eI)) ∨ ∃ w : Int32, (fNext S x).1 = vI w := by
  unfold fNext
  repeat' split
  all_goals first | exact Or.inl ⟨eI, rfl, rfl⟩ | exact Or.inr ⟨_, rfl⟩
theorem gh_next_eI : gHd mL_next 4 eI = some 12 := by decide +kernel
set_option maxRecDepth 10000 in
theorem w_next (d : Nat) {a o : Nat} {n n' : Nat → Nat} {S : CS} {x : Int32} {fo : Nat → Int64} {h : gH} (C : ClsAt h a n n' S) (ok : CSok S) (O : OutAt h o fo) {mc ms : Nat} (hmc : 4 ≤ mc) (hms : 24 ≤ ms) {Post : Option Value → gH → Prop} {X : String → gH → Prop} (hp : wDone cdB Post a n n' o h (fNext S x)) : gSafe (d + 9) mL_next [.ref a, .int x, .ref o] h mc ms Post X := by
  have Ca := C.1
  refine ⟨Nat.le_of_ble_eq_true rfl, fun K hK => ?_⟩
  show K 0 [some (.ref a), some (.int x), some (.ref o), none] [] _ _ _
  refine s_aload_n hK dL_next_0 rfl ?_
  refine s_iconst hK (v := 0) dL_next_1 (by decide) ?_
  refine s_aload_n hK dL_next_2 rfl ?_
  refine s_iload_n hK dL_next_3 rfl ?_
  refine s_V1 hK (mc := 4) (ms := 24) dL_next_4 kV_L_66 (by first | assumption | exact H.1 | exact H.2.1) (by rfl) (by omega) (by omega) ?_
  refine c_next _ C ok (by omega) (by omega) (fun h1 C1 F1 => ?_)
  have O1 := O.fr C F1
  rcases rNext S x with ⟨E, e, hE⟩ | ⟨w, e⟩
  · rw [e]
    have fin : ∀ k : Int32, k = cdB E → Post (some (.int k)) h1 := fun k ek => hp h1 k fo C1 O1 F1.out (by rw [e]; exact ek)
    subst hE
    show gThr mL_next X K 4 _ eI h1 _ _
    unfold gThr
    rw [gh_next_eI]
    intro q
    refine s_astore_n hK dL_next_12 rfl ?_
    refine s_iconst hK (v := 1) dL_next_13 (by decide) ?_
    refine s_ireturn hK dL_next_14 rfl (by first | rfl | exact b01_nar _) ?_
    exact fin 1 (by decide +kernel)
  · rw [e]
    show K 7 _ (.int w :: _) _ _ _
    refine s_i2l hK dL_next_7 ?_
    refine s_lastoreN hK (j := 0) dL_next_8 O1 (by omega) (by omega) ?_
    refine s_goto hK dL_next_9 15 (by decide) ?_
    refine s_iconst hK (v := 0) dL_next_15 (by decide) ?_
    refine s_ireturn hK dL_next_16 rfl (by first | rfl | exact b01_nar _) ?_
    exact hp _ 0 _ (C1.setO O1 _) (gU_eq _ _ _) (F1.outU _) (by rw [e]; exact ⟨rfl, w, rfl, pk_uLs⟩)
theorem rPass (S : CS) (x : Int32) : (∃ E, (fPass S x).1 = .inl E ∧ (E = eA)) ∨ ∃ w : Int32, (fPass S x).1 = vI w := by
  unfold fPass
  repeat' split
  all_goals first | exact Or.inl ⟨eA, rfl, rfl⟩ | exact Or.inr ⟨_, rfl⟩
theorem gh_pass_eA : gHd mL_pass 4 eA = some 12 := by decide +kernel
set_option maxRecDepth 10000 in
theorem w_pass (d : Nat) {a o : Nat} {n n' : Nat → Nat} {S : CS} {x : Int32} {fo : Nat → Int64} {h : gH} (C : ClsAt h a n n' S) (ok : CSok S) (O : OutAt h o fo) {mc ms : Nat} (hmc : 4 ≤ mc) (hms : 24 ≤ ms) {Post : Option Value → gH → Prop} {X : String → gH → Prop} (hp : wDone cdC Post a n n' o h (fPass S x)) : gSafe (d + 9) mL_pass [.ref a, .int x, .ref o] h mc ms Post X := by
  have Ca := C.1
  refine ⟨Nat.le_of_ble_eq_true rfl, fun K hK => ?_⟩
  show K 0 [some (.ref a), some (.int x), some (.ref o), none] [] _ _ _
  refine s_aload_n hK dL_pass_0 rfl ?_
  refine s_iconst hK (v := 0) dL_pass_1 (by decide) ?_
  refine s_aload_n hK dL_pass_2 rfl ?_
  refine s_iload_n hK dL_pass_3 rfl ?_
  refine s_V1 hK (mc := 4) (ms := 24) dL_pass_4 kV_L_69 (by first | assumption | exact H.1 | exact H.2.1) (by rfl) (by omega) (by omega) ?_
  refine c_pass _ C ok (by omega) (by omega) (fun h1 C1 F1 => ?_)
  have O1 := O.fr C F1
  rcases rPass S x with ⟨E, e, hE⟩ | ⟨w, e⟩
  · rw [e]
    have fin : ∀ k : Int32, k = cdC E → Post (some (.int k)) h1 := fun k ek => hp h1 k fo C1 O1 F1.out (by rw [e]; exact ek)
    subst hE
    show gThr mL_pass X K 4 _ eA h1 _ _
    unfold gThr
    rw [gh_pass_eA]
    intro q
    refine s_astore_n hK dL_pass_12 rfl ?_
    refine s_iconst hK (v := 1) dL_pass_13 (by decide) ?_
    refine s_ireturn hK dL_pass_14 rfl (by first | rfl | exact b01_nar _) ?_
    exact fin 1 (by decide +kernel)
  · rw [e]
    show K 7 _ (.int w :: _) _ _ _
    refine s_i2l hK dL_pass_7 ?_
    refine s_lastoreN hK (j := 0) dL_pass_8 O1 (by omega) (by omega) ?_
    refine s_goto hK dL_pass_9 15 (by decide) ?_
    refine s_iconst hK (v := 0) dL_pass_15 (by decide) ?_
    refine s_ireturn hK dL_pass_16 rfl (by first | rfl | exact b01_nar _) ?_
    exact hp _ 0 _ (C1.setO O1 _) (gU_eq _ _ _) (F1.outU _) (by rw [e]; exact ⟨rfl, w, rfl, pk_uLs⟩)
theorem rForesee (S : CS) (x : Int32) (y : Int32) : (∃ E, (fForesee S x y).1 = .inl E ∧ (E = eA ∨ E = eI)) ∨ ∃ w : Int32, (fForesee S x y).1 = vI w := by
  unfold fForesee
  repeat' split
  all_goals first | exact Or.inl ⟨eA, rfl, Or.inl rfl⟩ | exact Or.inl ⟨eI, rfl, Or.inr rfl⟩ | exact Or.inr ⟨_, rfl⟩
theorem gh_foresee_eA : gHd mL_foresee 5 eA = some 13 := by decide +kernel
theorem gh_foresee_eI : gHd mL_foresee 5 eI = some 17 := by decide +kernel
set_option maxRecDepth 10000 in
theorem w_foresee (d : Nat) {a o : Nat} {n n' : Nat → Nat} {S : CS} {x : Int32} {y : Int32} {fo : Nat → Int64} {h : gH} (C : ClsAt h a n n' S) (ok : CSok S) (O : OutAt h o fo) {mc ms : Nat} (hmc : 4 ≤ mc) (hms : 24 ≤ ms) {Post : Option Value → gH → Prop} {X : String → gH → Prop} (hp : wDone cdC Post a n n' o h (fForesee S x y)) : gSafe (d + 9) mL_foresee [.ref a, .int x, .int y, .ref o] h mc ms Post X := by
  have Ca := C.1
  refine ⟨Nat.le_of_ble_eq_true rfl, fun K hK => ?_⟩
  show K 0 [some (.ref a), some (.int x), some (.int y), some (.ref o), none] [] _ _ _
  refine s_aload_n hK dL_foresee_0 rfl ?_
  refine s_iconst hK (v := 0) dL_foresee_1 (by decide) ?_
  refine s_aload_n hK dL_foresee_2 rfl ?_
  refine s_iload_n hK dL_foresee_3 rfl ?_
  refine s_iload_n hK dL_foresee_4 rfl ?_
  refine s_V2 hK (mc := 4) (ms := 24) dL_foresee_5 kV_L_72 (by first | assumption | exact H.1 | exact H.2.1) (by rfl) (by omega) (by omega) ?_
  refine c_foresee _ C ok (by omega) (by omega) (fun h1 C1 F1 => ?_)
  have O1 := O.fr C F1
  rcases rForesee S x y with ⟨E, e, hE⟩ | ⟨w, e⟩
  · rw [e]
    have fin : ∀ k : Int32, k = cdC E → Post (some (.int k)) h1 := fun k ek => hp h1 k fo C1 O1 F1.out (by rw [e]; exact ek)
    rcases hE with rfl | rfl
    · show gThr mL_foresee X K 5 _ eA h1 _ _
      unfold gThr
      rw [gh_foresee_eA]
      intro q
      refine s_astore hK dL_foresee_13 rfl ?_
      refine s_iconst hK (v := 1) dL_foresee_15 (by decide) ?_
      refine s_ireturn hK dL_foresee_16 rfl (by first | rfl | exact b01_nar _) ?_
      exact fin 1 (by decide +kernel)
    · show gThr mL_foresee X K 5 _ eI h1 _ _
      unfold gThr
      rw [gh_foresee_eI]
      intro q
      refine s_astore hK dL_foresee_17 rfl ?_
      refine s_iconst hK (v := 2) dL_foresee_19 (by decide) ?_
      refine s_ireturn hK dL_foresee_20 rfl (by first | rfl | exact b01_nar _) ?_
      exact fin 2 (by decide +kernel)
  · rw [e]
    show K 8 _ (.int w :: _) _ _ _
    refine s_i2l hK dL_foresee_8 ?_
    refine s_lastoreN hK (j := 0) dL_foresee_9 O1 (by omega) (by omega) ?_
    refine s_goto hK dL_foresee_10 21 (by decide) ?_
    refine s_iconst hK (v := 0) dL_foresee_21 (by decide) ?_
    refine s_ireturn hK dL_foresee_22 rfl (by first | rfl | exact b01_nar _) ?_
    exact hp _ 0 _ (C1.setO O1 _) (gU_eq _ _ _) (F1.outU _) (by rw [e]; exact ⟨rfl, w, rfl, pk_uLs⟩)
theorem rReaches (S : CS) (x : Int32) (y : Int32) (z : Int32) : (∃ E, (fReaches S x y z).1 = .inl E ∧ (E = eI ∨ E = eA)) ∨ ∃ w : Int32, (fReaches S x y z).1 = vI w := by
  unfold fReaches
  repeat' split
  all_goals first | exact Or.inl ⟨eI, rfl, Or.inl rfl⟩ | exact Or.inl ⟨eA, rfl, Or.inr rfl⟩ | exact Or.inr ⟨_, rfl⟩
theorem gh_reaches_eI : gHd mL_reaches 7 eI = some 15 := by decide +kernel
theorem gh_reaches_eA : gHd mL_reaches 7 eA = some 19 := by decide +kernel
set_option maxRecDepth 10000 in
theorem w_reaches (d : Nat) {a o : Nat} {n n' : Nat → Nat} {S : CS} {x : Int32} {y : Int32} {z : Int32} {fo : Nat → Int64} {h : gH} (C : ClsAt h a n n' S) (ok : CSok S) (O : OutAt h o fo) {mc ms : Nat} (hmc : 4 ≤ mc) (hms : 24 ≤ ms) {Post : Option Value → gH → Prop} {X : String → gH → Prop} (hp : wDone cdB Post a n n' o h (fReaches S x y z)) : gSafe (d + 9) mL_reaches [.ref a, .int x, .int y, .int z, .ref o] h mc ms Post X := by
  have Ca := C.1
  refine ⟨Nat.le_of_ble_eq_true rfl, fun K hK => ?_⟩
  show K 0 [some (.ref a), some (.int x), some (.int y), some (.int z), some (.ref o), none] [] _ _ _
  refine s_aload hK dL_reaches_0 rfl ?_
  refine s_iconst hK (v := 0) dL_reaches_2 (by decide) ?_
  refine s_aload_n hK dL_reaches_3 rfl ?_
  refine s_iload_n hK dL_reaches_4 rfl ?_
  refine s_iload_n hK dL_reaches_5 rfl ?_
  refine s_iload_n hK dL_reaches_6 rfl ?_
  refine s_V3 hK (mc := 4) (ms := 24) dL_reaches_7 kV_L_75 (by first | assumption | exact H.1 | exact H.2.1) (by rfl) (by omega) (by omega) ?_
  refine c_reaches _ C ok (by omega) (by omega) (fun h1 C1 F1 => ?_)
  have O1 := O.fr C F1
  rcases rReaches S x y z with ⟨E, e, hE⟩ | ⟨w, e⟩
  · rw [e]
    have fin : ∀ k : Int32, k = cdB E → Post (some (.int k)) h1 := fun k ek => hp h1 k fo C1 O1 F1.out (by rw [e]; exact ek)
    rcases hE with rfl | rfl
    · show gThr mL_reaches X K 7 _ eI h1 _ _
      unfold gThr
      rw [gh_reaches_eI]
      intro q
      refine s_astore hK dL_reaches_15 rfl ?_
      refine s_iconst hK (v := 1) dL_reaches_17 (by decide) ?_
      refine s_ireturn hK dL_reaches_18 rfl (by first | rfl | exact b01_nar _) ?_
      exact fin 1 (by decide +kernel)
    · show gThr mL_reaches X K 7 _ eA h1 _ _
      unfold gThr
      rw [gh_reaches_eA]
      intro q
      refine s_astore hK dL_reaches_19 rfl ?_
      refine s_iconst hK (v := 2) dL_reaches_21 (by decide) ?_
      refine s_ireturn hK dL_reaches_22 rfl (by first | rfl | exact b01_nar _) ?_
      exact fin 2 (by decide +kernel)
  · rw [e]
    show K 10 _ (.int w :: _) _ _ _
    refine s_i2l hK dL_reaches_10 ?_
    refine s_lastoreN hK (j := 0) dL_reaches_11 O1 (by omega) (by omega) ?_
    refine s_goto hK dL_reaches_12 23 (by decide) ?_
    refine s_iconst hK (v := 0) dL_reaches_23 (by decide) ?_
    refine s_ireturn hK dL_reaches_24 rfl (by first | rfl | exact b01_nar _) ?_
    exact hp _ 0 _ (C1.setO O1 _) (gU_eq _ _ _) (F1.outU _) (by rw [e]; exact ⟨rfl, w, rfl, pk_uLs⟩)
theorem rAdvise (S : CS) (x : Int32) : (∃ E, (fAdvise S x).1 = .inl E ∧ (E = eA)) ∨ ∃ w : Int32, (fAdvise S x).1 = vI w := by
  unfold fAdvise
  repeat' split
  all_goals first | exact Or.inl ⟨eA, rfl, rfl⟩ | exact Or.inr ⟨_, rfl⟩
theorem gh_advise_eA : gHd mL_advise 4 eA = some 12 := by decide +kernel
set_option maxRecDepth 10000 in
theorem w_advise (d : Nat) {a o : Nat} {n n' : Nat → Nat} {S : CS} {x : Int32} {fo : Nat → Int64} {h : gH} (C : ClsAt h a n n' S) (ok : CSok S) (O : OutAt h o fo) {mc ms : Nat} (hmc : 4 ≤ mc) (hms : 24 ≤ ms) {Post : Option Value → gH → Prop} {X : String → gH → Prop} (hp : wDone cdC Post a n n' o h (fAdvise S x)) : gSafe (d + 9) mL_advise [.ref a, .int x, .ref o] h mc ms Post X := by
  have Ca := C.1
  refine ⟨Nat.le_of_ble_eq_true rfl, fun K hK => ?_⟩
  show K 0 [some (.ref a), some (.int x), some (.ref o), none] [] _ _ _
  refine s_aload_n hK dL_advise_0 rfl ?_
  refine s_iconst hK (v := 0) dL_advise_1 (by decide) ?_
  refine s_aload_n hK dL_advise_2 rfl ?_
  refine s_iload_n hK dL_advise_3 rfl ?_
  refine s_V1 hK (mc := 4) (ms := 24) dL_advise_4 kV_L_78 (by first | assumption | exact H.1 | exact H.2.1) (by rfl) (by omega) (by omega) ?_
  refine c_advise _ C ok (by omega) (by omega) (fun h1 C1 F1 => ?_)
  have O1 := O.fr C F1
  rcases rAdvise S x with ⟨E, e, hE⟩ | ⟨w, e⟩
  · rw [e]
    have fin : ∀ k : Int32, k = cdC E → Post (some (.int k)) h1 := fun k ek => hp h1 k fo C1 O1 F1.out (by rw [e]; exact ek)
    subst hE
    show gThr mL_advise X K 4 _ eA h1 _ _
    unfold gThr
    rw [gh_advise_eA]
    intro q
    refine s_astore_n hK dL_advise_12 rfl ?_
    refine s_iconst hK (v := 1) dL_advise_13 (by decide) ?_
    refine s_ireturn hK dL_advise_14 rfl (by first | rfl | exact b01_nar _) ?_
    exact fin 1 (by decide +kernel)
  · rw [e]
    show K 7 _ (.int w :: _) _ _ _
    refine s_i2l hK dL_advise_7 ?_
    refine s_lastoreN hK (j := 0) dL_advise_8 O1 (by omega) (by omega) ?_
    refine s_goto hK dL_advise_9 15 (by decide) ?_
    refine s_iconst hK (v := 0) dL_advise_15 (by decide) ?_
    refine s_ireturn hK dL_advise_16 rfl (by first | rfl | exact b01_nar _) ?_
    exact hp _ 0 _ (C1.setO O1 _) (gU_eq _ _ _) (F1.outU _) (by rw [e]; exact ⟨rfl, w, rfl, pk_uLs⟩)
