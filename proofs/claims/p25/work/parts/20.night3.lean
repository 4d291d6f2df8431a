/-! Night: hours, counts, copies -/
def stepsF (s : LG) (g : Nat) : Nat → LG
  | 0 => s
  | n + 1 => stepF (stepsF s g n) g
def walkF (s : LG) : Nat → LG
  | 0 => s
  | g + 1 => stepsF (walkF s g) g ((walkF s g).2 g 1)
theorem stepsF_ok {s : LG} {g : Nat} (h : GOK s.2) (hg : g < 6) : ∀ n, GOK (stepsF s g n).2
  | 0 => h
  | n + 1 => stepF_ok (stepsF_ok h hg n) hg
theorem walkF_ok {s : LG} (h : GOK s.2) : ∀ n, n ≤ 6 → GOK (walkF s n).2
  | 0, _ => h
  | n + 1, hn => stepsF_ok (walkF_ok h n (by omega)) (by omega) _
/-- the amounts, the ghosts, and how many have haunted -/
abbrev AG : Type := (Nat → Int32) × (Nat → Nat → Nat) × Nat
def hauF (L : Nat → Int64) (s : AG) (g : Nat) : AG :=
  if lb (L 7) (s.2.1 g 0) then (s.1, setG s.2.1 g 5 (s.2.1 g 5 + 1), s.2.2)
  else if lb (L 4) (s.2.1 g 0) then (upd s.1 (s.2.1 g 0) (mkNext (s.1 (s.2.1 g 0))), setG s.2.1 g 4 (s.2.1 g 4 + 1), s.2.2 + 1)
  else s
def hausF (L : Nat → Int64) (s : AG) : Nat → AG
  | 0 => s
  | g + 1 => hauF L (hausF L s g) g
theorem hauF_ok {L : Nat → Int64} {s : AG} {g : Nat} (h : GOK s.2.1) : GOK (hauF L s g).2.1 := by
  unfold hauF
  split
  · exact h.set ⟨by omega, by omega, by omega, by omega⟩
  · split
    · exact h.set ⟨by omega, by omega, by omega, by omega⟩
    · exact h
theorem hausF_ok {L : Nat → Int64} {s : AG} (h : GOK s.2.1) : ∀ n, GOK (hausF L s n).2.1
  | 0 => h
  | n + 1 => hauF_ok (hausF_ok h n)
/-- a whole hour: longs, amounts, ghosts, hauntings -/
def hourL (L : Nat → Int64) (am : Nat → Int32) (G : Nat → Nat → Nat) (gc : Nat) : LG := walkF (reL (bdN L am 63).1, G) gc
def hourA (L : Nat → Int64) (am : Nat → Int32) (G : Nat → Nat → Nat) (gc : Nat) : AG := hausF (hourL L am G gc).1 ((bdN L am 63).2, (hourL L am G gc).2, 0) gc
set_option maxRecDepth 10000 in
theorem c_passHour (d : Nat) {n : Nat → Nat} {L : Nat → Int64} {am : Nat → Int32} {G : Nat → Nat → Nat} {gc hr : Nat} (hgc : gc ≤ 6) (hG : GOK G) {h : gH} (N : NightAt h n L am G gc hr) {mc ms : Nat} {Post : Option Value → gH → Prop} {X : String → gH → Prop} (hp : ∀ h', NightAt h' n (hourL L am G gc).1 (hourA L am G gc).1 (hourA L am G gc).2.1 gc (hr + 1) → gFr (nS n) h h' → Post (some (.int (nI (hourA L am G gc).2.2))) h') : gSafe (d + 6) mX2_passHour [.ref (n 0)] h mc ms Post X := by
  have N0 := N.1
  have H1 := N.2.1.1
  refine ⟨Nat.le_of_ble_eq_true rfl, fun K hK => ?_⟩
  show K 0 [some (.ref (n 0)), none, none, none] [] _ _ _
  refine s_aload_n hK dX2_passHour_0 rfl ?_
  refine s_getfield hK dX2_passHour_1 kF_X2_12 (by first | assumption | exact H.1 | exact H.2.1) (by rfl) ?_
  refine s_V00 hK dX2_passHour_4 kV_X2_128 (by first | assumption | exact H.1 | exact H.2.1) (by rfl) ?_
  refine c_burnDown _ N.2.1 (fun h1 H1 F1 => ?_)
  have N1 := N.house H1 F1
  have F1 : gFr (nS n) h h1 := F1.mono (by simp [nS])
  refine s_iconst hK (v := 0) dX2_passHour_7 (by decide) ?_
  refine s_istore_n hK dX2_passHour_8 rfl ?_
  have loop2 : ∀ m i, i + m = gc → ∀ (v3 : Option Value) (h1 : gH), NightAt h1 n (hourL L am G gc).1 (hausF (hourL L am G gc).1 ((bdN L am 63).2, (hourL L am G gc).2, 0) i).1 (hausF (hourL L am G gc).1 ((bdN L am 63).2, (hourL L am G gc).2, 0) i).2.1 gc hr → gFr (nS n) h h1 → K 52 [some (.ref (n 0)), some (.int (nI (hausF (hourL L am G gc).1 ((bdN L am 63).2, (hourL L am G gc).2, 0) i).2.2)), some (.int (nI i)), v3] [] h1 mc ms := by
    intro m
    induction m with
    | zero =>
      intro i hi v3 h1 N1 F1
      obtain rfl : i = gc := by omega
      have N10 := N1.1
      refine s_iload_n hK dX2_passHour_52 rfl ?_
      refine s_aload_n hK dX2_passHour_53 rfl ?_
      refine s_getfield hK dX2_passHour_54 kF_X2_41 (by first | assumption | exact H.1 | exact H.2.1) (by rfl) ?_
      refine s_icmpge hK dX2_passHour_57 77 (by decide) (fun c_57 => ?_) (fun c_57 => ?_)
      · refine s_aload_n hK dX2_passHour_77 rfl ?_
        refine s_dup hK dX2_passHour_78 rfl ?_
        refine s_getfield hK dX2_passHour_79 kF_X2_45 (by first | assumption | exact H.1 | exact H.2.1) (by rfl) ?_
        refine s_iconst hK (v := 1) dX2_passHour_82 (by decide) ?_
        refine s_iadd hK dX2_passHour_83 ?_
        rw [nI_1]
        refine s_putfield hK dX2_passHour_84 kF_X2_45 (by assumption) (by rfl) (by rfl) (by rfl) ?_
        refine s_iload_n hK dX2_passHour_87 rfl ?_
        refine s_ireturn hK dX2_passHour_88 rfl (by first | rfl | exact b01_nar _) ?_
        exact hp _ (N1.own (gU_eq _ _ _) (gFr_U _ _ _)) (F1.tr ((gFr_U _ _ _).mono (by simp [nS])))
      · exact absurd (Int32.le_refl (nI i)) c_57
    | succ m ih =>
      intro i hi v3 h1 N1 F1
      have N10 := N1.1
      refine s_iload_n hK dX2_passHour_52 rfl ?_
      refine s_aload_n hK dX2_passHour_53 rfl ?_
      refine s_getfield hK dX2_passHour_54 kF_X2_41 (by first | assumption | exact H.1 | exact H.2.1) (by rfl) ?_
      refine s_icmpge hK dX2_passHour_57 77 (by decide) (fun c_57 => ?_) (fun c_57 => ?_)
      · exact absurd c_57 (nI_ge (by omega) (by omega))
      · refine s_aload_n hK dX2_passHour_60 rfl ?_
        refine s_iload_n hK dX2_passHour_61 rfl ?_
        refine s_V10 hK dX2_passHour_62 kV_X2_134 (by first | assumption | exact H.1 | exact H.2.1) (by rfl) ?_
        refine c_haunts _ (by omega) ((hausF_ok (walkF_ok (s := (reL (bdN L am 63).1, G)) hG gc hgc) i) i (by omega)).1 N1 (fun h2 am' G' b hb N2 F2 => ?_)
        rcases hb with ⟨e7, rfl, rfl, rfl⟩ | ⟨e7, e4, rfl, rfl, rfl⟩ | ⟨e7, e4, rfl, rfl, rfl⟩
        · refine s_ifeq hK dX2_passHour_65 71 (by decide) (fun c_65 => ?_) (fun c_65 => ?_)
          · refine s_iinck hK (v := 1) dX2_passHour_71 rfl (by decide) rfl ?_
            refine s_goto hK dX2_passHour_74 52 (by decide) ?_
            rw [nI_1]
            have es : hausF (hourL L am G gc).1 ((bdN L am 63).2, (hourL L am G gc).2, 0) (i + 1) = ((hausF (hourL L am G gc).1 ((bdN L am 63).2, (hourL L am G gc).2, 0) i).1, setG (hausF (hourL L am G gc).1 ((bdN L am 63).2, (hourL L am G gc).2, 0) i).2.1 i 5 ((hausF (hourL L am G gc).1 ((bdN L am 63).2, (hourL L am G gc).2, 0) i).2.1 i 5 + 1), (hausF (hourL L am G gc).1 ((bdN L am 63).2, (hourL L am G gc).2, 0) i).2.2) := by
              show hauF _ _ _ = _
              unfold hauF
              rw [if_pos e7]
            have := ih (i + 1) (by omega) v3 h2 (by rw [es]; exact N2) (F1.tr F2)
            rw [es] at this
            exact this
          · exact absurd rfl c_65
        · refine s_ifeq hK dX2_passHour_65 71 (by decide) (fun c_65 => ?_) (fun c_65 => ?_)
          · refine s_iinck hK (v := 1) dX2_passHour_71 rfl (by decide) rfl ?_
            refine s_goto hK dX2_passHour_74 52 (by decide) ?_
            rw [nI_1]
            have es : hausF (hourL L am G gc).1 ((bdN L am 63).2, (hourL L am G gc).2, 0) (i + 1) = hausF (hourL L am G gc).1 ((bdN L am 63).2, (hourL L am G gc).2, 0) i := by
              show hauF _ _ _ = _
              unfold hauF
              rw [if_neg (by rw [e7]; decide), if_neg (by rw [e4]; decide)]
            have := ih (i + 1) (by omega) v3 h2 (by rw [es]; exact N2) (F1.tr F2)
            rw [es] at this
            exact this
          · exact absurd rfl c_65
        · refine s_ifeq hK dX2_passHour_65 71 (by decide) (fun c_65 => ?_) (fun c_65 => ?_)
          · exact absurd c_65 (by decide)
          · refine s_iinck hK (v := 1) dX2_passHour_68 rfl (by decide) rfl ?_
            refine s_iinck hK (v := 1) dX2_passHour_71 rfl (by decide) rfl ?_
            refine s_goto hK dX2_passHour_74 52 (by decide) ?_
            rw [nI_1, nI_1]
            have es : hausF (hourL L am G gc).1 ((bdN L am 63).2, (hourL L am G gc).2, 0) (i + 1) = (upd (hausF (hourL L am G gc).1 ((bdN L am 63).2, (hourL L am G gc).2, 0) i).1 ((hausF (hourL L am G gc).1 ((bdN L am 63).2, (hourL L am G gc).2, 0) i).2.1 i 0) (mkNext ((hausF (hourL L am G gc).1 ((bdN L am 63).2, (hourL L am G gc).2, 0) i).1 ((hausF (hourL L am G gc).1 ((bdN L am 63).2, (hourL L am G gc).2, 0) i).2.1 i 0))), setG (hausF (hourL L am G gc).1 ((bdN L am 63).2, (hourL L am G gc).2, 0) i).2.1 i 4 ((hausF (hourL L am G gc).1 ((bdN L am 63).2, (hourL L am G gc).2, 0) i).2.1 i 4 + 1), (hausF (hourL L am G gc).1 ((bdN L am 63).2, (hourL L am G gc).2, 0) i).2.2 + 1) := by
              show hauF _ _ _ = _
              unfold hauF
              rw [if_neg (by rw [e7]; decide), if_pos e4]
            have := ih (i + 1) (by omega) v3 h2 (by rw [es]; exact N2) (F1.tr F2)
            rw [es] at this
            exact this
  have loop : ∀ m i, i + m = gc → ∀ (v2 v3 : Option Value) (h1 : gH), NightAt h1 n (walkF (reL (bdN L am 63).1, G) i).1 (bdN L am 63).2 (walkF (reL (bdN L am 63).1, G) i).2 gc hr → gFr (nS n) h h1 → K 9 [some (.ref (n 0)), some (.int (nI i)), v2, v3] [] h1 mc ms := by
    intro m
    induction m with
    | zero =>
      intro i hi v2 v3 h1 N1 F1
      obtain rfl : i = gc := by omega
      have N10 := N1.1
      refine s_iload_n hK dX2_passHour_9 rfl ?_
      refine s_aload_n hK dX2_passHour_10 rfl ?_
      refine s_getfield hK dX2_passHour_11 kF_X2_41 (by first | assumption | exact H.1 | exact H.2.1) (by rfl) ?_
      refine s_icmpge hK dX2_passHour_14 48 (by decide) (fun c_14 => ?_) (fun c_14 => ?_)
      · refine s_iconst hK (v := 0) dX2_passHour_48 (by decide) ?_
        refine s_istore_n hK dX2_passHour_49 rfl ?_
        refine s_iconst hK (v := 0) dX2_passHour_50 (by decide) ?_
        refine s_istore_n hK dX2_passHour_51 rfl ?_
        exact loop2 i 0 (by omega) _ h1 N1 F1
      · exact absurd (Int32.le_refl (nI i)) c_14
    | succ m ih =>
      intro i hi v2 v3 h1 N1 F1
      have N10 := N1.1
      have hGi := walkF_ok (s := (reL (bdN L am 63).1, G)) hG i (by omega)
      refine s_iload_n hK dX2_passHour_9 rfl ?_
      refine s_aload_n hK dX2_passHour_10 rfl ?_
      refine s_getfield hK dX2_passHour_11 kF_X2_41 (by first | assumption | exact H.1 | exact H.2.1) (by rfl) ?_
      refine s_icmpge hK dX2_passHour_14 48 (by decide) (fun c_14 => ?_) (fun c_14 => ?_)
      · exact absurd c_14 (nI_ge (by omega) (by omega))
      · refine s_aload_n hK dX2_passHour_17 rfl ?_
        refine s_iload_n hK dX2_passHour_18 rfl ?_
        refine s_iconst hK (v := 2) dX2_passHour_19 (by decide) ?_
        refine s_V20 hK dX2_passHour_20 kV_X2_56 (by first | assumption | exact H.1 | exact H.2.1) (by rfl) ?_
        refine c_trait (k := 2) _ (by omega) (by omega) N1 ?_
        refine s_istore_n hK dX2_passHour_23 rfl ?_
        refine s_iconst hK (v := 0) dX2_passHour_24 (by decide) ?_
        refine s_istore_n hK dX2_passHour_25 rfl ?_
        have hpace := (hGi i (by omega)).2.1
        have inner : ∀ m2 j, j + m2 = (walkF (reL (bdN L am 63).1, G) i).2 i 1 → ∀ (h2 : gH), NightAt h2 n (stepsF (walkF (reL (bdN L am 63).1, G) i) i j).1 (bdN L am 63).2 (stepsF (walkF (reL (bdN L am 63).1, G) i) i j).2 gc hr → gFr (nS n) h h2 → K 26 [some (.ref (n 0)), some (.int (nI i)), some (.int (nI ((walkF (reL (bdN L am 63).1, G) i).2 i 1))), some (.int (nI j))] [] h2 mc ms := by
          intro m2
          induction m2 with
          | zero =>
            intro j hj h2 N2 F2
            have ej : j = (walkF (reL (bdN L am 63).1, G) i).2 i 1 := by omega
            refine s_iload_n hK dX2_passHour_26 rfl ?_
            refine s_iload_n hK dX2_passHour_27 rfl ?_
            refine s_icmpge hK dX2_passHour_28 42 (by decide) (fun c_28 => ?_) (fun c_28 => ?_)
            · refine s_iinck hK (v := 1) dX2_passHour_42 rfl (by decide) rfl ?_
              refine s_goto hK dX2_passHour_45 9 (by decide) ?_
              rw [nI_1]
              refine ih (i + 1) (by omega) _ _ h2 ?_ F2
              show NightAt h2 n (stepsF _ i _).1 _ (stepsF _ i _).2 gc hr
              rw [← ej]
              exact N2
            · rw [ej] at c_28
              exact absurd (Int32.le_refl _) c_28
          | succ m2 ihn =>
            intro j hj h2 N2 F2
            have N20 := N2.1
            refine s_iload_n hK dX2_passHour_26 rfl ?_
            refine s_iload_n hK dX2_passHour_27 rfl ?_
            refine s_icmpge hK dX2_passHour_28 42 (by decide) (fun c_28 => ?_) (fun c_28 => ?_)
            · exact absurd c_28 (nI_ge (by omega) (by omega))
            · refine s_aload_n hK dX2_passHour_31 rfl ?_
              refine s_iload_n hK dX2_passHour_32 rfl ?_
              refine s_V10 hK dX2_passHour_33 kV_X2_131 (by first | assumption | exact H.1 | exact H.2.1) (by rfl) ?_
              refine c_takeStep _ (by omega) (stepsF_ok hGi (by omega) j) N2 (fun h3 N3 F3 => ?_)
              refine s_iinck hK (v := 1) dX2_passHour_36 rfl (by decide) rfl ?_
              refine s_goto hK dX2_passHour_39 26 (by decide) ?_
              rw [nI_1]
              exact ihn (j + 1) (by omega) h3 N3 (F2.tr F3)
        exact inner ((walkF (reL (bdN L am 63).1, G) i).2 i 1) 0 (by omega) h1 N1 F1
  exact loop gc 0 (by omega) _ _ h1 N1 F1
def cntG (p : Nat → Bool) : Nat → Nat
  | 0 => 0
  | g + 1 => if p g then cntG p g + 1 else cntG p g
set_option maxRecDepth 10000 in
theorem c_ghostsIn (d : Nat) {n : Nat → Nat} {L : Nat → Int64} {am : Nat → Int32} {G : Nat → Nat → Nat} {gc hr c : Nat} (hgc : gc ≤ 6) (hG : GOK G) (hc : c < 63) {h : gH} (N : NightAt h n L am G gc hr) {mc ms : Nat} {Post : Option Value → gH → Prop} {X : String → gH → Prop} (hp : Post (some (.int (nI (cntG (fun g => decide (G g 0 = c)) gc)))) h) : gSafe (d + 4) mX2_ghostsIn [.ref (n 0), .int (nI c)] h mc ms Post X := by
  have N0 := N.1
  refine ⟨Nat.le_of_ble_eq_true rfl, fun K hK => ?_⟩
  show K 0 [some (.ref (n 0)), some (.int (nI c)), none, none] [] _ _ _
  refine s_iconst hK (v := 0) dX2_ghostsIn_0 (by decide) ?_
  refine s_istore_n hK dX2_ghostsIn_1 rfl ?_
  refine s_iconst hK (v := 0) dX2_ghostsIn_2 (by decide) ?_
  refine s_istore_n hK dX2_ghostsIn_3 rfl ?_
  have loop : ∀ m i, i + m = gc → K 4 [some (.ref (n 0)), some (.int (nI c)), some (.int (nI (cntG (fun g => decide (G g 0 = c)) i))), some (.int (nI i))] [] h mc ms := by
    intro m
    induction m with
    | zero =>
      intro i hi
      obtain rfl : i = gc := by omega
      refine s_iload_n hK dX2_ghostsIn_4 rfl ?_
      refine s_aload_n hK dX2_ghostsIn_5 rfl ?_
      refine s_getfield hK dX2_ghostsIn_6 kF_X2_41 (by first | assumption | exact H.1 | exact H.2.1) (by rfl) ?_
      refine s_icmpge hK dX2_ghostsIn_9 30 (by decide) (fun c_9 => ?_) (fun c_9 => ?_)
      · refine s_iload_n hK dX2_ghostsIn_30 rfl ?_
        refine s_ireturn hK dX2_ghostsIn_31 rfl (by first | rfl | exact b01_nar _) ?_
        exact hp
      · exact absurd (Int32.le_refl (nI i)) c_9
    | succ m ih =>
      intro i hi
      refine s_iload_n hK dX2_ghostsIn_4 rfl ?_
      refine s_aload_n hK dX2_ghostsIn_5 rfl ?_
      refine s_getfield hK dX2_ghostsIn_6 kF_X2_41 (by first | assumption | exact H.1 | exact H.2.1) (by rfl) ?_
      refine s_icmpge hK dX2_ghostsIn_9 30 (by decide) (fun c_9 => ?_) (fun c_9 => ?_)
      · exact absurd c_9 (nI_ge (by omega) (by omega))
      · refine s_aload_n hK dX2_ghostsIn_12 rfl ?_
        refine s_iload_n hK dX2_ghostsIn_13 rfl ?_
        refine s_V10 hK dX2_ghostsIn_14 kV_X2_70 (by first | assumption | exact H.1 | exact H.2.1) (by rfl) ?_
        refine c_cellOf _ (by omega) N ?_
        have h63 := (hG i (by omega)).1
        refine s_iload_n hK dX2_ghostsIn_17 rfl ?_
        refine s_icmpne hK dX2_ghostsIn_18 24 (by decide) (fun c_18 => ?_) (fun c_18 => ?_)
        · refine s_iinck hK (v := 1) dX2_ghostsIn_24 rfl (by decide) rfl ?_
          refine s_goto hK dX2_ghostsIn_27 4 (by decide) ?_
          rw [nI_1]
          have e : cntG (fun g => decide (G g 0 = c)) (i + 1) = cntG (fun g => decide (G g 0 = c)) i := by
            have : ¬ G i 0 = c := fun q => c_18 (congrArg nI q)
            simp [cntG, this]
          rw [← e]
          exact ih (i + 1) (by omega)
        · refine s_iinck hK (v := 1) dX2_ghostsIn_21 rfl (by decide) rfl ?_
          refine s_iinck hK (v := 1) dX2_ghostsIn_24 rfl (by decide) rfl ?_
          refine s_goto hK dX2_ghostsIn_27 4 (by decide) ?_
          rw [nI_1, nI_1]
          have e : cntG (fun g => decide (G g 0 = c)) (i + 1) = cntG (fun g => decide (G g 0 = c)) i + 1 := by
            have : G i 0 = c := (nI_eq (by omega) (by omega)).mp c_18
            simp [cntG, this]
          rw [← e]
          exact ih (i + 1) (by omega)
  exact loop gc 0 (by omega)
set_option maxRecDepth 10000 in
theorem c_ghostsAtGoals (d : Nat) {n : Nat → Nat} {L : Nat → Int64} {am : Nat → Int32} {G : Nat → Nat → Nat} {gc hr : Nat} (hgc : gc ≤ 6) (hG : GOK G) {h : gH} (N : NightAt h n L am G gc hr) {mc ms : Nat} {Post : Option Value → gH → Prop} {X : String → gH → Prop} (hp : Post (some (.int (nI (cntG (fun g => decide (G g 0 = G g 2)) gc)))) h) : gSafe (d + 4) mX2_ghostsAtGoals [.ref (n 0)] h mc ms Post X := by
  have N0 := N.1
  refine ⟨Nat.le_of_ble_eq_true rfl, fun K hK => ?_⟩
  show K 0 [some (.ref (n 0)), none, none] [] _ _ _
  refine s_iconst hK (v := 0) dX2_ghostsAtGoals_0 (by decide) ?_
  refine s_istore_n hK dX2_ghostsAtGoals_1 rfl ?_
  refine s_iconst hK (v := 0) dX2_ghostsAtGoals_2 (by decide) ?_
  refine s_istore_n hK dX2_ghostsAtGoals_3 rfl ?_
  have loop : ∀ m i, i + m = gc → K 4 [some (.ref (n 0)), some (.int (nI (cntG (fun g => decide (G g 0 = G g 2)) i))), some (.int (nI i))] [] h mc ms := by
    intro m
    induction m with
    | zero =>
      intro i hi
      obtain rfl : i = gc := by omega
      refine s_iload_n hK dX2_ghostsAtGoals_4 rfl ?_
      refine s_aload_n hK dX2_ghostsAtGoals_5 rfl ?_
      refine s_getfield hK dX2_ghostsAtGoals_6 kF_X2_41 (by first | assumption | exact H.1 | exact H.2.1) (by rfl) ?_
      refine s_icmpge hK dX2_ghostsAtGoals_9 34 (by decide) (fun c_9 => ?_) (fun c_9 => ?_)
      · refine s_iload_n hK dX2_ghostsAtGoals_34 rfl ?_
        refine s_ireturn hK dX2_ghostsAtGoals_35 rfl (by first | rfl | exact b01_nar _) ?_
        exact hp
      · exact absurd (Int32.le_refl (nI i)) c_9
    | succ m ih =>
      intro i hi
      refine s_iload_n hK dX2_ghostsAtGoals_4 rfl ?_
      refine s_aload_n hK dX2_ghostsAtGoals_5 rfl ?_
      refine s_getfield hK dX2_ghostsAtGoals_6 kF_X2_41 (by first | assumption | exact H.1 | exact H.2.1) (by rfl) ?_
      refine s_icmpge hK dX2_ghostsAtGoals_9 34 (by decide) (fun c_9 => ?_) (fun c_9 => ?_)
      · exact absurd c_9 (nI_ge (by omega) (by omega))
      · refine s_aload_n hK dX2_ghostsAtGoals_12 rfl ?_
        refine s_iload_n hK dX2_ghostsAtGoals_13 rfl ?_
        refine s_V10 hK dX2_ghostsAtGoals_14 kV_X2_70 (by first | assumption | exact H.1 | exact H.2.1) (by rfl) ?_
        refine c_cellOf _ (by omega) N ?_
        have h63 := (hG i (by omega)).1
        have h632 := (hG i (by omega)).2.2.1
        refine s_aload_n hK dX2_ghostsAtGoals_17 rfl ?_
        refine s_iload_n hK dX2_ghostsAtGoals_18 rfl ?_
        refine s_V10 hK dX2_ghostsAtGoals_19 kV_X2_73 (by first | assumption | exact H.1 | exact H.2.1) (by rfl) ?_
        refine c_goalOf _ (by omega) N ?_
        refine s_icmpne hK dX2_ghostsAtGoals_22 28 (by decide) (fun c_22 => ?_) (fun c_22 => ?_)
        · refine s_iinck hK (v := 1) dX2_ghostsAtGoals_28 rfl (by decide) rfl ?_
          refine s_goto hK dX2_ghostsAtGoals_31 4 (by decide) ?_
          rw [nI_1]
          have e : cntG (fun g => decide (G g 0 = G g 2)) (i + 1) = cntG (fun g => decide (G g 0 = G g 2)) i := by
            have : ¬ G i 0 = G i 2 := fun q => c_22 (congrArg nI q)
            simp [cntG, this]
          rw [← e]
          exact ih (i + 1) (by omega)
        · refine s_iinck hK (v := 1) dX2_ghostsAtGoals_25 rfl (by decide) rfl ?_
          refine s_iinck hK (v := 1) dX2_ghostsAtGoals_28 rfl (by decide) rfl ?_
          refine s_goto hK dX2_ghostsAtGoals_31 4 (by decide) ?_
          rw [nI_1, nI_1]
          have e : cntG (fun g => decide (G g 0 = G g 2)) (i + 1) = cntG (fun g => decide (G g 0 = G g 2)) i + 1 := by
            have : G i 0 = G i 2 := (nI_eq (by omega) (by omega)).mp c_22
            simp [cntG, this]
          rw [← e]
          exact ih (i + 1) (by omega)
  exact loop gc 0 (by omega)
/-- what cell() and count() tell -/
def tCell (L : Nat → Int64) (am : Nat → Int32) (G : Nat → Nat → Nat) (gc c k : Nat) : Int32 := match k with
  | 0 => nI (thg L c)
  | 1 => am c
  | 2 => b01 (lb (L 1) c)
  | 3 => b01 (lb (L 7) c)
  | _ => nI (cntG (fun g => decide (G g 0 = c)) gc)
def tAll (L : Nat → Int64) (am : Nat → Int32) (G : Nat → Nat → Nat) (gc hr k : Nat) : Int32 := match k with
  | 0 => nI hr
  | 1 => nI gc
  | 2 => iPop (L 0)
  | 3 => iPop (L 1)
  | 4 => iPop (L 2 ||| L 3)
  | 5 => iPop (L 4)
  | 6 => iPop (L 5) + iPop (L 6)
  | 7 => iPop (L 7)
  | 8 => nI (sumT G 6 gc)
  | _ => sumMk L am 63
set_option maxRecDepth 10000 in
theorem c_aboutCell (d : Nat) {n : Nat → Nat} {L : Nat → Int64} {am : Nat → Int32} {G : Nat → Nat → Nat} {gc hr c k : Nat} (hgc : gc ≤ 6) (hG : GOK G) (hc : c < 63) (hk : k < 5) {h : gH} (N : NightAt h n L am G gc hr) {mc ms : Nat} {Post : Option Value → gH → Prop} {X : String → gH → Prop} (hp : Post (some (.int (tCell L am G gc c k))) h) : gSafe (d + 5) mX2_aboutCell [.ref (n 0), .int (nI c), .int (nI k)] h mc ms Post X := by
  have N0 := N.1
  have H1 := N.2.1.1
  refine ⟨Nat.le_of_ble_eq_true rfl, fun K hK => ?_⟩
  show K 0 [some (.ref (n 0)), some (.int (nI c)), some (.int (nI k))] [] _ _ _
  refine s_iload_n hK dX2_aboutCell_0 rfl ?_
  match k, hk with
  | 0, _ =>
    refine s_tswI hK dX2_aboutCell_1 32 (by decide) (by rfl) (by decide) ?_
    refine s_aload_n hK dX2_aboutCell_32 rfl ?_
    refine s_getfield hK dX2_aboutCell_33 kF_X2_12 (by first | assumption | exact H.1 | exact H.2.1) (by rfl) ?_
    refine s_iload_n hK dX2_aboutCell_36 rfl ?_
    refine s_V10 hK dX2_aboutCell_37 kV_X2_76 (by first | assumption | exact H.1 | exact H.2.1) (by rfl) ?_
    refine c_thingIn _ hc N.2.1 ?_
    refine s_ireturn hK dX2_aboutCell_40 rfl (by first | rfl | exact b01_nar _) ?_
    exact hp
  | 1, _ =>
    refine s_tswI hK dX2_aboutCell_1 41 (by decide) (by rfl) (by decide) ?_
    refine s_aload_n hK dX2_aboutCell_41 rfl ?_
    refine s_getfield hK dX2_aboutCell_42 kF_X2_12 (by first | assumption | exact H.1 | exact H.2.1) (by rfl) ?_
    refine s_iload_n hK dX2_aboutCell_45 rfl ?_
    refine s_V10 hK dX2_aboutCell_46 kV_X2_79 (by first | assumption | exact H.1 | exact H.2.1) (by rfl) ?_
    refine c_amountIn _ hc N.2.1 ?_
    refine s_ireturn hK dX2_aboutCell_49 rfl (by first | rfl | exact b01_nar _) ?_
    exact hp
  | 2, _ =>
    refine s_tswI hK dX2_aboutCell_1 50 (by decide) (by rfl) (by decide) ?_
    refine s_aload_n hK dX2_aboutCell_50 rfl ?_
    refine s_getfield hK dX2_aboutCell_51 kF_X2_12 (by first | assumption | exact H.1 | exact H.2.1) (by rfl) ?_
    refine s_iload_n hK dX2_aboutCell_54 rfl ?_
    refine s_V10 hK dX2_aboutCell_55 kV_X2_82 (by first | assumption | exact H.1 | exact H.2.1) (by rfl) ?_
    refine c_isBurning _ hc N.2.1 ?_
    unfold tCell at hp
    cases e : lb (L 1) c with
    | false =>
      simp only [e] at hp
      refine s_ifeq hK dX2_aboutCell_58 65 (by decide) (fun c_58 => ?_) (fun c_58 => ?_)
      · refine s_iconst hK (v := 0) dX2_aboutCell_65 (by decide) ?_
        refine s_ireturn hK dX2_aboutCell_66 rfl (by first | rfl | exact b01_nar _) ?_
        exact hp
      · exact absurd rfl c_58
    | true =>
      simp only [e] at hp
      refine s_ifeq hK dX2_aboutCell_58 65 (by decide) (fun c_58 => ?_) (fun c_58 => ?_)
      · exact absurd c_58 (by decide)
      · refine s_iconst hK (v := 1) dX2_aboutCell_61 (by decide) ?_
        refine s_goto hK dX2_aboutCell_62 66 (by decide) ?_
        refine s_ireturn hK dX2_aboutCell_66 rfl (by first | rfl | exact b01_nar _) ?_
        exact hp
  | 3, _ =>
    refine s_tswI hK dX2_aboutCell_1 67 (by decide) (by rfl) (by decide) ?_
    refine s_aload_n hK dX2_aboutCell_67 rfl ?_
    refine s_getfield hK dX2_aboutCell_68 kF_X2_12 (by first | assumption | exact H.1 | exact H.2.1) (by rfl) ?_
    refine s_iload_n hK dX2_aboutCell_71 rfl ?_
    refine s_V10 hK dX2_aboutCell_72 kV_X2_86 (by first | assumption | exact H.1 | exact H.2.1) (by rfl) ?_
    refine c_isLit _ hc N.2.1 ?_
    unfold tCell at hp
    cases e : lb (L 7) c with
    | false =>
      simp only [e] at hp
      refine s_ifeq hK dX2_aboutCell_75 82 (by decide) (fun c_75 => ?_) (fun c_75 => ?_)
      · refine s_iconst hK (v := 0) dX2_aboutCell_82 (by decide) ?_
        refine s_ireturn hK dX2_aboutCell_83 rfl (by first | rfl | exact b01_nar _) ?_
        exact hp
      · exact absurd rfl c_75
    | true =>
      simp only [e] at hp
      refine s_ifeq hK dX2_aboutCell_75 82 (by decide) (fun c_75 => ?_) (fun c_75 => ?_)
      · exact absurd c_75 (by decide)
      · refine s_iconst hK (v := 1) dX2_aboutCell_78 (by decide) ?_
        refine s_goto hK dX2_aboutCell_79 83 (by decide) ?_
        refine s_ireturn hK dX2_aboutCell_83 rfl (by first | rfl | exact b01_nar _) ?_
        exact hp
  | 4, _ =>
    refine s_tswO hK dX2_aboutCell_1 84 (by decide) (by decide) ?_
    refine s_aload_n hK dX2_aboutCell_84 rfl ?_
    refine s_iload_n hK dX2_aboutCell_85 rfl ?_
    refine s_V10 hK dX2_aboutCell_86 kV_X2_89 (by first | assumption | exact H.1 | exact H.2.1) (by rfl) ?_
    refine c_ghostsIn _ hgc hG hc N ?_
    refine s_ireturn hK dX2_aboutCell_89 rfl (by first | rfl | exact b01_nar _) ?_
    exact hp
set_option maxRecDepth 10000 in
theorem c_aboutAll (d : Nat) {n : Nat → Nat} {L : Nat → Int64} {am : Nat → Int32} {G : Nat → Nat → Nat} {gc hr k : Nat} (hgc : gc ≤ 6) (hk : k < 10) {h : gH} (N : NightAt h n L am G gc hr) {mc ms : Nat} {Post : Option Value → gH → Prop} {X : String → gH → Prop} (hp : Post (some (.int (tAll L am G gc hr k))) h) : gSafe (d + 4) mX2_aboutAll [.ref (n 0), .int (nI k)] h mc ms Post X := by
  have N0 := N.1
  have H1 := N.2.1.1
  refine ⟨Nat.le_of_ble_eq_true rfl, fun K hK => ?_⟩
  show K 0 [some (.ref (n 0)), some (.int (nI k))] [] _ _ _
  refine s_iload_n hK dX2_aboutAll_0 rfl ?_
  match k, hk with
  | 0, _ =>
    refine s_tswI hK dX2_aboutAll_1 52 (by decide) (by rfl) (by decide) ?_
    refine s_aload_n hK dX2_aboutAll_52 rfl ?_
    refine s_getfield hK dX2_aboutAll_53 kF_X2_45 (by first | assumption | exact H.1 | exact H.2.1) (by rfl) ?_
    refine s_ireturn hK dX2_aboutAll_56 rfl (by first | rfl | exact b01_nar _) ?_
    exact hp
  | 1, _ =>
    refine s_tswI hK dX2_aboutAll_1 57 (by decide) (by rfl) (by decide) ?_
    refine s_aload_n hK dX2_aboutAll_57 rfl ?_
    refine s_getfield hK dX2_aboutAll_58 kF_X2_41 (by first | assumption | exact H.1 | exact H.2.1) (by rfl) ?_
    refine s_ireturn hK dX2_aboutAll_61 rfl (by first | rfl | exact b01_nar _) ?_
    exact hp
  | 2, _ =>
    refine s_tswI hK dX2_aboutAll_1 62 (by decide) (by rfl) (by decide) ?_
    refine s_aload_n hK dX2_aboutAll_62 rfl ?_
    refine s_getfield hK dX2_aboutAll_63 kF_X2_12 (by first | assumption | exact H.1 | exact H.2.1) (by rfl) ?_
    refine s_V00 hK dX2_aboutAll_66 kV_X2_92 (by first | assumption | exact H.1 | exact H.2.1) (by rfl) ?_
    refine c_candleCount _ N.2.1 ?_
    refine s_ireturn hK dX2_aboutAll_69 rfl (by first | rfl | exact b01_nar _) ?_
    exact hp
  | 3, _ =>
    refine s_tswI hK dX2_aboutAll_1 70 (by decide) (by rfl) (by decide) ?_
    refine s_aload_n hK dX2_aboutAll_70 rfl ?_
    refine s_getfield hK dX2_aboutAll_71 kF_X2_12 (by first | assumption | exact H.1 | exact H.2.1) (by rfl) ?_
    refine s_V00 hK dX2_aboutAll_74 kV_X2_96 (by first | assumption | exact H.1 | exact H.2.1) (by rfl) ?_
    refine c_burningCount _ N.2.1 ?_
    refine s_ireturn hK dX2_aboutAll_77 rfl (by first | rfl | exact b01_nar _) ?_
    exact hp
  | 4, _ =>
    refine s_tswI hK dX2_aboutAll_1 78 (by decide) (by rfl) (by decide) ?_
    refine s_aload_n hK dX2_aboutAll_78 rfl ?_
    refine s_getfield hK dX2_aboutAll_79 kF_X2_12 (by first | assumption | exact H.1 | exact H.2.1) (by rfl) ?_
    refine s_V00 hK dX2_aboutAll_82 kV_X2_99 (by first | assumption | exact H.1 | exact H.2.1) (by rfl) ?_
    refine c_mirrorCount _ N.2.1 ?_
    refine s_ireturn hK dX2_aboutAll_85 rfl (by first | rfl | exact b01_nar _) ?_
    exact hp
  | 5, _ =>
    refine s_tswI hK dX2_aboutAll_1 86 (by decide) (by rfl) (by decide) ?_
    refine s_aload_n hK dX2_aboutAll_86 rfl ?_
    refine s_getfield hK dX2_aboutAll_87 kF_X2_12 (by first | assumption | exact H.1 | exact H.2.1) (by rfl) ?_
    refine s_V00 hK dX2_aboutAll_90 kV_X2_102 (by first | assumption | exact H.1 | exact H.2.1) (by rfl) ?_
    refine c_tallyCount _ N.2.1 ?_
    refine s_ireturn hK dX2_aboutAll_93 rfl (by first | rfl | exact b01_nar _) ?_
    exact hp
  | 6, _ =>
    refine s_tswI hK dX2_aboutAll_1 94 (by decide) (by rfl) (by decide) ?_
    refine s_aload_n hK dX2_aboutAll_94 rfl ?_
    refine s_getfield hK dX2_aboutAll_95 kF_X2_12 (by first | assumption | exact H.1 | exact H.2.1) (by rfl) ?_
    refine s_V00 hK dX2_aboutAll_98 kV_X2_105 (by first | assumption | exact H.1 | exact H.2.1) (by rfl) ?_
    refine c_wallCount _ N.2.1 ?_
    refine s_ireturn hK dX2_aboutAll_101 rfl (by first | rfl | exact b01_nar _) ?_
    exact hp
  | 7, _ =>
    refine s_tswI hK dX2_aboutAll_1 102 (by decide) (by rfl) (by decide) ?_
    refine s_aload_n hK dX2_aboutAll_102 rfl ?_
    refine s_getfield hK dX2_aboutAll_103 kF_X2_12 (by first | assumption | exact H.1 | exact H.2.1) (by rfl) ?_
    refine s_V00 hK dX2_aboutAll_106 kV_X2_108 (by first | assumption | exact H.1 | exact H.2.1) (by rfl) ?_
    refine c_litCount _ N.2.1 ?_
    refine s_ireturn hK dX2_aboutAll_109 rfl (by first | rfl | exact b01_nar _) ?_
    exact hp
  | 8, _ =>
    refine s_tswI hK dX2_aboutAll_1 110 (by decide) (by rfl) (by decide) ?_
    refine s_aload_n hK dX2_aboutAll_110 rfl ?_
    refine s_bipush hK (v := 6) dX2_aboutAll_111 (by decide) ?_
    refine s_V10 hK dX2_aboutAll_113 kV_X2_111 (by first | assumption | exact H.1 | exact H.2.1) (by rfl) ?_
    refine c_sumOfTrait (k := 6) _ hgc (by omega) N ?_
    refine s_ireturn hK dX2_aboutAll_116 rfl (by first | rfl | exact b01_nar _) ?_
    exact hp
  | 9, _ =>
    refine s_tswO hK dX2_aboutAll_1 117 (by decide) (by decide) ?_
    refine s_aload_n hK dX2_aboutAll_117 rfl ?_
    refine s_getfield hK dX2_aboutAll_118 kF_X2_12 (by first | assumption | exact H.1 | exact H.2.1) (by rfl) ?_
    refine s_V00 hK dX2_aboutAll_121 kV_X2_114 (by first | assumption | exact H.1 | exact H.2.1) (by rfl) ?_
    refine c_sumOfMarks _ N.2.1 ?_
    refine s_ireturn hK dX2_aboutAll_124 rfl (by first | rfl | exact b01_nar _) ?_
    exact hp
/-- what a ghost that comes has -/
def addG (G : Nat → Nat → Nat) (g c p : Nat) : Nat → Nat → Nat := setG (setG (setG (setG G g 0 c) g 2 c) g 1 p) g 3 1
set_option maxRecDepth 10000 in
theorem c_addGhost (d : Nat) {n : Nat → Nat} {L : Nat → Int64} {am : Nat → Int32} {G : Nat → Nat → Nat} {gc hr c p : Nat} (hgc : gc < 6) (hc : c < 63) {h : gH} (N : NightAt h n L am G gc hr) {mc ms : Nat} {Post : Option Value → gH → Prop} {X : String → gH → Prop} (hp : ∀ h', NightAt h' n L am (addG G gc c p) (gc + 1) hr → gFr (nS n) h h' → Post (some (.int (nI gc))) h') : gSafe (d + 4) mX2_addGhost [.ref (n 0), .int (nI c), .int (nI p)] h mc ms Post X := by
  have N0 := N.1
  refine ⟨Nat.le_of_ble_eq_true rfl, fun K hK => ?_⟩
  show K 0 [some (.ref (n 0)), some (.int (nI c)), some (.int (nI p)), none] [] _ _ _
  refine s_aload_n hK dX2_addGhost_0 rfl ?_
  refine s_getfield hK dX2_addGhost_1 kF_X2_41 (by first | assumption | exact H.1 | exact H.2.1) (by rfl) ?_
  refine s_istore_n hK dX2_addGhost_4 rfl ?_
  refine s_aload_n hK dX2_addGhost_5 rfl ?_
  refine s_iload_n hK dX2_addGhost_6 rfl ?_
  refine s_iload_n hK dX2_addGhost_7 rfl ?_
  refine s_V20 hK dX2_addGhost_8 kV_X2_64 (by first | assumption | exact H.1 | exact H.2.1) (by rfl) ?_
  refine c_setCell _ hgc hc N (fun h1 N1 F1 => ?_)
  have N10 := N1.1
  refine s_aload_n hK dX2_addGhost_11 rfl ?_
  refine s_iload_n hK dX2_addGhost_12 rfl ?_
  refine s_iload_n hK dX2_addGhost_13 rfl ?_
  refine s_V20 hK dX2_addGhost_14 kV_X2_67 (by first | assumption | exact H.1 | exact H.2.1) (by rfl) ?_
  refine c_setGoal _ hgc hc N1 (fun h2 N2 F2 => ?_)
  have N20 := N2.1
  refine s_aload_n hK dX2_addGhost_17 rfl ?_
  refine s_iload_n hK dX2_addGhost_18 rfl ?_
  refine s_iconst hK (v := 2) dX2_addGhost_19 (by decide) ?_
  refine s_iload_n hK dX2_addGhost_20 rfl ?_
  refine s_V30 hK dX2_addGhost_21 kV_X2_60 (by first | assumption | exact H.1 | exact H.2.1) (by rfl) ?_
  refine c_setTrait (k := 2) _ hgc (by omega) N2 (fun h3 N3 F3 => ?_)
  have N30 := N3.1
  refine s_aload_n hK dX2_addGhost_24 rfl ?_
  refine s_iload_n hK dX2_addGhost_25 rfl ?_
  refine s_iconst hK (v := 5) dX2_addGhost_26 (by decide) ?_
  refine s_iconst hK (v := 1) dX2_addGhost_27 (by decide) ?_
  refine s_V30 hK dX2_addGhost_28 kV_X2_60 (by first | assumption | exact H.1 | exact H.2.1) (by rfl) ?_
  refine c_setTrait (k := 5) (v := 1) _ hgc (by omega) N3 (fun h4 N4 F4 => ?_)
  have N40 := N4.1
  refine s_aload_n hK dX2_addGhost_31 rfl ?_
  refine s_dup hK dX2_addGhost_32 rfl ?_
  refine s_getfield hK dX2_addGhost_33 kF_X2_41 (by first | assumption | exact H.1 | exact H.2.1) (by rfl) ?_
  refine s_iconst hK (v := 1) dX2_addGhost_36 (by decide) ?_
  refine s_iadd hK dX2_addGhost_37 ?_
  rw [nI_1]
  refine s_putfield hK dX2_addGhost_38 kF_X2_41 (by assumption) (by rfl) (by rfl) (by rfl) ?_
  refine s_iload_n hK dX2_addGhost_41 rfl ?_
  refine s_ireturn hK dX2_addGhost_42 rfl (by first | rfl | exact b01_nar _) ?_
  exact hp _ (N4.own (gU_eq _ _ _) (gFr_U _ _ _)) ((((F1.tr F2).tr F3).tr F4).tr ((gFr_U _ _ _).mono (by simp [nS])))
set_option maxRecDepth 10000 in
theorem c_nightCopy (d : Nat) {n n' : Nat → Nat} {L L2 : Nat → Int64} {am am2 : Nat → Int32} {G G2 : Nat → Nat → Nat} {gc hr gc2 hr2 : Nat} {h : gH} (N : NightAt h n L am G gc hr) (M : NightAt h n' L2 am2 G2 gc2 hr2) (hne : ∀ x ∈ nS n, ∀ i, i < 7 → n' i ≠ x) {mc ms : Nat} {Post : Option Value → gH → Prop} {X : String → gH → Prop} (hp : ∀ h' L', (∀ k, k < 8 → L' k = L2 k) → NightAt h' n L' am2 G2 gc2 hr2 → gFr (nS n) h h' → Post none h') : gSafe (d + 4) mX2_copyFrom [.ref (n 0), .ref (n' 0)] h mc ms Post X := by
  have N0 := N.1
  have M0 := M.1
  have H1 := N.2.1.1
  have ne : ∀ i j, i < 7 → j = 0 ∨ j = 1 ∨ j = 3 ∨ j = 4 ∨ j = 6 → n' i ≠ n j := fun i j hi hj => hne _ (by rcases hj with rfl | rfl | rfl | rfl | rfl <;> simp [nS]) i hi
  have keepM : ∀ {h1 h2 : gH}, NightAt h1 n' L2 am2 G2 gc2 hr2 → gFr (nS n) h1 h2 → NightAt h2 n' L2 am2 G2 gc2 hr2 := by
    intro h1 h2 M F
    have k : ∀ i, i < 7 → h2 (n' i) = h1 (n' i) := fun i hi => F _ (fun hm => hne _ hm i hi rfl)
    obtain ⟨m0, m1, ⟨own, mp, pl, ps, m4⟩, ⟨m5, m6⟩, m36⟩ := M
    exact ⟨(k 0 (by omega)).trans m0, m1.keep (k 1 (by omega)) (k 2 (by omega)) (k 3 (by omega)), ⟨own, mp, pl, ps, (k 4 (by omega)).trans m4⟩, ⟨(k 5 (by omega)).trans m5, m6.keep (k 6 (by omega))⟩, m36⟩
  refine ⟨Nat.le_of_ble_eq_true rfl, fun K hK => ?_⟩
  show K 0 [some (.ref (n 0)), some (.ref (n' 0))] [] _ _ _
  refine s_aload_n hK dX2_copyFrom_0 rfl ?_
  refine s_getfield hK dX2_copyFrom_1 kF_X2_12 (by first | assumption | exact H.1 | exact H.2.1) (by rfl) ?_
  refine s_aload_n hK dX2_copyFrom_4 rfl ?_
  refine s_getfield hK dX2_copyFrom_5 kF_X2_12 (by first | assumption | exact H.1 | exact H.2.1) (by rfl) ?_
  refine s_V10 hK dX2_copyFrom_8 kV_X2_34 (by first | assumption | exact H.1 | exact H.2.1) (by rfl) ?_
  refine c_houseCopy _ N.2.1 M.2.1 (ne 1 1 (by omega) (by omega)).symm (ne 3 3 (by omega) (by omega)).symm (fun h1 L' hL' H1 F1 => ?_)
  have N1 := N.house H1 F1
  have F1 : gFr (nS n) h h1 := F1.mono (by simp [nS])
  have M1 := keepM M F1
  have N10 := N1.1
  have M10 := M1.1
  have N15 := N1.2.2.2.1.1
  refine s_aload_n hK dX2_copyFrom_11 rfl ?_
  refine s_getfield hK dX2_copyFrom_12 kF_X2_30 (by first | assumption | exact H.1 | exact H.2.1) (by rfl) ?_
  refine s_aload_n hK dX2_copyFrom_15 rfl ?_
  refine s_getfield hK dX2_copyFrom_16 kF_X2_30 (by first | assumption | exact H.1 | exact H.2.1) (by rfl) ?_
  refine s_V10 hK dX2_copyFrom_19 kV_X2_38 (by first | assumption | exact H.1 | exact H.2.1) (by rfl) ?_
  refine c_rowCopy _ (by omega) N1.2.2.2.1 M1.2.2.2.1 (ne 6 6 (by omega) (by omega)).symm (fun h2 R2 F2 => ?_)
  have N2 := N1.traits R2 F2
  have F2 : gFr (nS n) h h2 := F1.tr (F2.mono (by simp [nS]))
  have M2 := keepM M F2
  have N20 := N2.1
  have M20 := M2.1
  refine s_aload_n hK dX2_copyFrom_22 rfl ?_
  refine s_aload_n hK dX2_copyFrom_23 rfl ?_
  refine s_getfield hK dX2_copyFrom_24 kF_X2_41 (by first | assumption | exact H.1 | exact H.2.1) (by rfl) ?_
  refine s_putfield hK dX2_copyFrom_27 kF_X2_41 (by assumption) (by rfl) (by rfl) (by rfl) ?_
  obtain ⟨h3, e3⟩ : ∃ z, z = gU h2 (n 0) (.inr (1, [.ref (n 1), .ref (n 4), .ref (n 5), .int (nI gc2), .int (nI hr)])) := ⟨_, rfl⟩
  have N3 : NightAt h3 n L' am2 G2 gc2 hr := N2.own (by rw [e3]; exact gU_eq _ _ _) (by rw [e3]; exact gFr_U _ _ _)
  have F3 : gFr (nS n) h h3 := F2.tr (by rw [e3]; exact (gFr_U _ _ _).mono (by simp [nS]))
  show K 30 _ _ (gU h2 (n 0) (.inr (1, [.ref (n 1), .ref (n 4), .ref (n 5), .int (nI gc2), .int (nI hr)]))) _ _
  rw [← e3]
  have M3 := keepM M F3
  have N30 := N3.1
  have M30 := M3.1
  refine s_aload_n hK dX2_copyFrom_30 rfl ?_
  refine s_aload_n hK dX2_copyFrom_31 rfl ?_
  refine s_getfield hK dX2_copyFrom_32 kF_X2_45 (by first | assumption | exact H.1 | exact H.2.1) (by rfl) ?_
  refine s_putfield hK dX2_copyFrom_35 kF_X2_45 (by assumption) (by rfl) (by rfl) (by rfl) ?_
  refine s_return hK dX2_copyFrom_38 rfl ?_
  exact hp _ L' hL' (N3.own (gU_eq _ _ _) (gFr_U _ _ _)) (F3.tr ((gFr_U _ _ _).mono (by simp [nS])))
